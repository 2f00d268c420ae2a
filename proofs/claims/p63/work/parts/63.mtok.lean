/-! The model's next token. -/
theorem within_n (σ : f_M) (v : Int32) (lo hi : Int64) (a b : Int32) (ha : lo = a.toInt64) (hb : hi = b.toInt64) : g_46 v.toInt64 lo hi σ = some (!decide (v < a) && !decide (b < v)) := by
  subst ha; subst hb; exact M_within σ v a b
theorem M_ltr {σ : f_M} {len i : Nat} (h10 : σ 155 10 = nI len) (hlen : len ≤ 600) (hi : i ≤ 600) : g_49 (nI i) σ = some (decide (i < len) && ltr (σ 161) i) := by
  unfold g_49
  rw [h10]
  by_cases h : i < len
  · rw [if_neg (by rw [n_le (by omega) (by omega)]; omega), f_rd_n (by omega) (by omega), bnd, within_n σ _ 97 122 (nI 97) (nI 122) rfl rfl, bnd]
    have e : (!decide (σ 161 i < nI 97) && !decide (nI 122 < σ 161 i)) = ltr (σ 161) i := rfl
    rw [e, decide_eq_true h]
    cases ltr (σ 161) i <;> rfl
  · rw [if_pos (by rw [n_le (by omega) (by omega)]; omega), bnd, decide_eq_false h]
    rfl
theorem M_dgt {σ : f_M} {len i : Nat} (h10 : σ 155 10 = nI len) (hlen : len ≤ 600) (hi : i ≤ 600) : g_50 (nI i) σ = some (decide (i < len) && dgt (σ 161) i) := by
  unfold g_50
  rw [h10]
  by_cases h : i < len
  · rw [if_neg (by rw [n_le (by omega) (by omega)]; omega), f_rd_n (by omega) (by omega), bnd, within_n σ _ 48 57 (nI 48) (nI 57) rfl rfl, bnd]
    have e : (!decide (σ 161 i < nI 48) && !decide (nI 57 < σ 161 i)) = dgt (σ 161) i := rfl
    rw [e, decide_eq_true h]
    cases dgt (σ 161) i <;> rfl
  · rw [if_pos (by rw [n_le (by omega) (by omega)]; omega), bnd, decide_eq_false h]
    rfl
/-- the number that k digits from S on make -/
def numT (t : Nat → Int32) (S : Nat) : Nat → Int32
  | 0 => nI 0
  | k + 1 => nI 10 * numT t S k + t (S + k) - nI 48
theorem numT_succ (t : Nat → Int32) (S k : Nat) : numT t S (k + 1) = nI 10 * numT t S k + t (S + k) - nI 48 := rfl
