/-! Copies. -/
/-- the first k numbers of f, behind them g's -/
def cpN (f g : Nat → Int32) (k : Nat) : Nat → Int32 := fun i => if i < k then f i else g i
theorem cpN_in {f g : Nat → Int32} {k i : Nat} (h : i < k) : cpN f g k i = f i := if_pos h
theorem cp_int {σ : f_M} {a m b n k : Nat} (hm : k ≤ m) (hn : k ≤ n) (hk : k < 2147483648) : f_cp σ .int a m b n (nI 0) (nI 0) (nI k) = some (f_row σ b (cpN (σ a) (σ b) k)) := by
  unfold f_cp
  rw [if_pos ⟨⟨n_neg (by omega), n_neg (by omega), n_neg (by omega), by rw [n_clamp (by omega), n_clamp (by omega)]; omega, by rw [n_clamp (by omega), n_clamp (by omega)]; omega⟩, fun i _ => rfl⟩]
  have e : va_cpy (σ a) (σ b) (nI 0).toNatClampNeg (nI 0).toNatClampNeg (nI k).toNatClampNeg = cpN (σ a) (σ b) k := by
    funext i
    rw [n_clamp (by omega), n_clamp (by omega)]
    unfold va_cpy cpN
    simp only [Nat.zero_le, true_and, Nat.zero_add, Nat.sub_zero]
  rw [e]
/-- the loop that copies booleans -/
def cpB (f g : Nat → Int32) (k : Nat) : Nat → Int32 := fun i => if i < k then f i &&& 1 else g i
theorem cpB_zero (f g : Nat → Int32) : cpB f g 0 = g := by
  funext i; exact if_neg (by omega)
theorem cpB_succ (f g : Nat → Int32) (k : Nat) : upd (cpB f g k) k (f k &&& 1) = cpB f g (k + 1) := by
  funext i
  unfold upd cpB
  by_cases h : i = k
  · subst h; rw [if_pos rfl, if_pos (by omega)]
  · rw [if_neg h]
    by_cases h2 : i < k
    · rw [if_pos h2, if_pos (by omega)]
    · rw [if_neg h2, if_neg (by omega)]
theorem cp_bool {σ : f_M} {a b : Nat} (hab : a ≠ b) : f_lp (fun (s3 : Int32 × f_M) =>
   if (20 : Int32) ≤ s3.1 then (
    some (.inr s3.2)
   ) else (
    (f_rd s3.2 a 20 s3.1).bind fun v4 =>
    (f_wr s3.2 b 20 s3.1 (v4 &&& 1)).bind fun m5 =>
    some (.inl ((s3.1 + (1 : Int32)), m5))
   )
  ) f_F ((0 : Int32), σ) = some (f_row σ b (cpB (σ a) (σ b) 20)) := by
  refine lp_go (fun j => (nI j, f_row σ b (cpB (σ a) (σ b) j))) 20 ?_ (f_F_lt (by omega)) ?_ ?_
  · rw [cpB_zero, row_self]; rfl
  · intro j hj
    have hc : upd (cpB (σ a) (σ b) j) j (σ a j &&& nI 1) = cpB (σ a) (σ b) (j + 1) := cpB_succ (σ a) (σ b) j
    simp (disch := omega) only [lits, n_le, f_rd_n, f_wr_n, bnd, row_ne, up_of_row, hc, n_add]
    rw [if_neg (by omega)]
  · simp (disch := omega) only [lits, n_le]
    rw [if_pos (by omega)]
theorem cp_zero : (0 : Int32) = nI 0 ∧ (8 : Int32) = nI 8 ∧ (20 : Int32) = nI 20 ∧ (1000 : Int32) = nI 1000 ∧ (48 : Int32) = nI 48 ∧ (3 : Int32) = nI 3 := ⟨rfl, rfl, rfl, rfl, rfl, rfl⟩
/-- a ledger is copied -/
theorem C_ledger {σ : f_M} {d a : Nat} (h : d + 7 ≤ a ∨ a + 7 ≤ d) : ∃ σ', g_72 d a σ = some σ' ∧ (∀ i, i = 0 ∨ i = 1 ∨ i = 3 ∨ i = 5 ∨ (10 ≤ i ∧ i ≤ 14) → σ' d i = σ a i) ∧ (∀ i, i < 8 → σ' (d + 1) i = σ (a + 1) i) ∧ (∀ i, i < 20 → σ' (d + 2) i = σ (a + 2) i &&& 1) ∧ (∀ i, i < 20 → σ' (d + 3) i = σ (a + 3) i ∧ σ' (d + 4) i = σ (a + 4) i ∧ σ' (d + 5) i = σ (a + 5) i ∧ σ' (d + 6) i = σ (a + 6) i) ∧ ∀ r, r < d ∨ d + 7 ≤ r → σ' r = σ r := by
  unfold g_72
  rw [cp_zero.1, cp_zero.2.1, cp_int (by omega) (by omega) (by omega), bnd, ← cp_zero.1, cp_bool (by omega), bnd, cp_zero.1, cp_zero.2.2.1, cp_int (by omega) (by omega) (by omega), bnd, cp_int (by omega) (by omega) (by omega), bnd, cp_int (by omega) (by omega) (by omega), bnd, cp_int (by omega) (by omega) (by omega), bnd]
  refine ⟨_, rfl, ?_, ?_, ?_, ?_, ?_⟩
  · rintro i (rfl | rfl | rfl | rfl | ⟨h1, h2⟩)
    · simp (disch := omega) only [up_rows, up_ix, up_same, row_ne]
    · simp (disch := omega) only [up_rows, up_ix, up_same, row_ne]
    · simp (disch := omega) only [up_rows, up_ix, up_same, row_ne]
    · simp (disch := omega) only [up_rows, up_ix, up_same, row_ne]
    · obtain rfl | rfl | rfl | rfl | rfl : i = 10 ∨ i = 11 ∨ i = 12 ∨ i = 13 ∨ i = 14 := by omega
      all_goals simp (disch := omega) only [up_rows, up_ix, up_same, row_ne]
  · intro i hi
    simp (disch := omega) only [up_rows, row_ne, row_same, cpN_in]
  · intro i hi
    simp (disch := omega) only [up_rows, row_ne, row_same, cpB, if_pos]
  · intro i hi
    refine ⟨?_, ?_, ?_, ?_⟩
    all_goals simp (disch := omega) only [up_rows, row_ne, row_same, cpN_in]
  · intro r hr
    simp (disch := omega) only [up_rows, row_ne]
theorem and1 {x : Int32} (h : isN x 2) : x &&& 1 = x := by
  obtain ⟨m, hm, rfl⟩ := h
  obtain rfl | rfl : m = 0 ∨ m = 1 := by omega
  · decide
  · decide
/-- the copy tells of the same row -/
theorem rL_copy {σ σ' : f_M} {d a : Nat} {s : Nat → Int32} {hc pc cc q n : Nat} {g : Nat → Nat} (hhc : hc ≤ 8) (hpc : pc ≤ 20) (hcc : cc ≤ 20) (hn : n ≤ 20) (k8 : ∀ p, p < pc → isN (s (100 + 10 * p + 8)) 2)
    (e0 : ∀ i, i = 0 ∨ i = 1 ∨ i = 3 ∨ i = 5 ∨ (10 ≤ i ∧ i ≤ 14) → σ' d i = σ a i) (e1 : ∀ i, i < 8 → σ' (d + 1) i = σ (a + 1) i) (e2 : ∀ i, i < 20 → σ' (d + 2) i = σ (a + 2) i &&& 1) (e3 : ∀ i, i < 20 → σ' (d + 3) i = σ (a + 3) i ∧ σ' (d + 4) i = σ (a + 4) i ∧ σ' (d + 5) i = σ (a + 5) i ∧ σ' (d + 6) i = σ (a + 6) i)
    (l : rL σ a s hc pc cc g q n) : rL σ' d s hc pc cc g q n := by
  obtain ⟨l0, lb, ll, lc, lg⟩ := l
  refine ⟨?_, fun h hh => ?_, fun p hp => ?_, fun c hc => ?_, fun i hi => ?_⟩
  · rw [e0 0 (by omega), e0 1 (by omega), e0 3 (by omega), e0 5 (by omega), e0 10 (by omega), e0 11 (by omega), e0 12 (by omega), e0 13 (by omega), e0 14 (by omega)]
    exact l0
  · rw [e1 h (by omega)]; exact lb h hh
  · rw [e2 p (by omega), ll p hp, and1 (k8 p hp)]
  · obtain ⟨x, y, z, -⟩ := e3 c (by omega)
    rw [x, y, z]; exact lc c hc
  · rw [(e3 i (by omega)).2.2.2]; exact lg i hi
