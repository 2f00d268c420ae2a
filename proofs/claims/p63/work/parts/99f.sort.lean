/-! isConsistent: weather put in order. -/
theorem i32_tr {a b c : Int32} (h1 : a ≤ b) (h2 : b ≤ c) : a ≤ c := by
  rw [Int32.le_iff_toInt_le] at *; omega
theorem i32_lt_le {a b : Int32} (h : a < b) : a ≤ b := by
  rw [Int32.le_iff_toInt_le]; rw [Int32.lt_iff_toInt_lt] at h; omega
theorem i32_lt_of {a b c : Int32} (h1 : a < b) (h2 : b ≤ c) : a < c := by
  rw [Int32.lt_iff_toInt_lt] at *; rw [Int32.le_iff_toInt_le] at h2; omega
theorem i32_le_of {a b c : Int32} (h1 : a ≤ b) (h2 : b < c) : a < c := by
  rw [Int32.lt_iff_toInt_lt] at *; rw [Int32.le_iff_toInt_le] at h1; omega
theorem n_dec (m : Nat) : nI (m + 1) + (-1 : Int32) = nI m := by
  rw [show (-1 : Int32) = -nI 1 from rfl, ← Int32.sub_eq_add_neg, n_sub (by omega)]
  rfl
theorem n_pred (m : Nat) : nI (m + 1) - (1 : Int32) = nI m := by
  rw [show (1 : Int32) = nI 1 from rfl, n_sub (by omega)]
  rfl
def insB (R : Nat) (a : Int32) (s : Int32 × f_M) : Option ((Int32 × f_M) ⊕ (Int32 × f_M)) :=
   if s.1 ≤ 0 then (
    some (.inr (s.1, s.2))
   ) else (
    (f_rd s.2 R 24 (s.1 - (1 : Int32))).bind fun v2 =>
    if v2 ≤ a then (
     some (.inr (s.1, s.2))
    ) else (
     (f_rd s.2 R 24 (s.1 - (1 : Int32))).bind fun v3 =>
     (f_wr s.2 R 24 s.1 v3).bind fun m4 =>
     some (.inl ((s.1 + (-1 : Int32)), m4))
    )
   )
theorem L_ins {R : Nat} {a : Int32} {σ0 : f_M} {n : Nat} (hn : n < 24) : ∀ (m F : Nat) (σ : f_M), m ≤ n → m < F → (∀ i, i < m → σ R i = σ0 R i) → (∀ i, m < i → i ≤ n → σ R i = σ0 R (i - 1) ∧ a < σ0 R (i - 1)) → (∀ r, r ≠ R → σ r = σ0 r) →
    ∃ k σ', f_lp (insB R a) F (nI m, σ) = some (nI k, σ') ∧ k ≤ n ∧ (∀ i, i < k → σ' R i = σ0 R i) ∧ (∀ i, k < i → i ≤ n → σ' R i = σ0 R (i - 1) ∧ a < σ0 R (i - 1)) ∧ (∀ r, r ≠ R → σ' r = σ0 r) ∧ (k = 0 ∨ σ0 R (k - 1) ≤ a) := by
  intro m
  induction m with
  | zero =>
    intro F σ hm hF h1 h2 h3
    obtain ⟨G, rfl⟩ : ∃ G, F = G + 1 := ⟨F - 1, by omega⟩
    refine ⟨0, σ, ?_, by omega, h1, h2, h3, Or.inl rfl⟩
    rw [lp_succ]
    unfold insB
    dsimp only
    rw [if_pos (show nI 0 ≤ 0 from by decide), bnd, Sum.elim_inr]
  | succ m ih =>
    intro F σ hm hF h1 h2 h3
    obtain ⟨G, rfl⟩ : ∃ G, F = G + 1 := ⟨F - 1, by omega⟩
    have hp : ¬ nI (m + 1) ≤ 0 := by rw [show (0 : Int32) = nI 0 from rfl, n_le (by omega) (by omega)]; omega
    have hr : f_rd σ R 24 (nI (m + 1) - (1 : Int32)) = some (σ0 R m) := by rw [n_pred, f_rd_n (by omega) (by omega), h1 m (by omega)]
    by_cases ha : σ0 R m ≤ a
    · refine ⟨m + 1, σ, ?_, hm, h1, h2, h3, Or.inr ha⟩
      rw [lp_succ]
      unfold insB
      dsimp only
      rw [if_neg hp, hr, bnd, if_pos ha, bnd, Sum.elim_inr]
    · obtain ⟨k, σ', q1, q2⟩ := ih G (f_up σ R (m + 1) (σ0 R m)) (by omega) (by omega) (fun i hi => by rw [up_ix (by omega)]; exact h1 i (by omega)) (fun i hi hn => by
        by_cases e : i = m + 1
        · subst e
          rw [up_same]
          exact ⟨rfl, (i32_nle _ _).mp ha⟩
        · rw [up_ix e]
          exact h2 i (by omega) hn) (fun r hr => by rw [up_rows hr]; exact h3 r hr)
      refine ⟨k, σ', ?_, q2⟩
      rw [lp_succ]
      unfold insB
      dsimp only
      rw [if_neg hp, hr, bnd, if_neg ha, bnd, f_wr_n (by omega) (by omega), bnd, n_dec, bnd, Sum.elim_inl]
      exact q1
def insAt (x y : Nat → Int32) (a : Int32) (k n : Nat) : Prop := k ≤ n ∧ (∀ i, i < k → y i = x i) ∧ y k = a ∧ ∀ i, k < i → i ≤ n → y i = x (i - 1)
theorem ins_sum {x y : Nat → Int32} {a : Int32} {k n : Nat} (h : insAt x y a k n) (F : Int32 → Int32) : sumI (fun i => F (y i)) (n + 1) = sumI (fun i => F (x i)) n + F a := by
  obtain ⟨h1, h2, h3, h4⟩ := h
  have key : ∀ d, k + d ≤ n → sumI (fun i => F (y i)) (k + d + 1) = sumI (fun i => F (x i)) (k + d) + F a := by
    intro d
    induction d with
    | zero =>
      intro hd
      rw [Nat.add_zero, sumI_succ, h3, sumI_congr (g := fun i => F (x i)) (fun i hi => by rw [h2 i hi])]
      rfl
    | succ d ih =>
      intro hd
      rw [sumI_succ, show k + (d + 1) = k + d + 1 from rfl, ih (by omega), sumI_succ, h4 (k + d + 1) (by omega) (by omega), show k + d + 1 - 1 = k + d from rfl, Int32.add_assoc, Int32.add_assoc, Int32.add_comm (F a)]
  have := key (n - k) (by omega)
  rw [show k + (n - k) = n from by omega] at this
  exact this
def srt (x : Nat → Int32) (n : Nat) : Prop := ∀ i j, i < j → j < n → x i ≤ x j
theorem ins_srt {x y : Nat → Int32} {a : Int32} {k n : Nat} (h : insAt x y a k n) (hs : srt x n) (h5 : k = 0 ∨ x (k - 1) ≤ a) (h6 : ∀ i, k < i → i ≤ n → a < x (i - 1)) : srt y (n + 1) := by
  obtain ⟨h1, h2, h3, h4⟩ := h
  intro i j hij hj
  by_cases c1 : j < k
  · rw [h2 i (by omega), h2 j c1]; exact hs i j hij (by omega)
  · by_cases c2 : j = k
    · subst c2
      rw [h2 i hij, h3]
      rcases h5 with h5 | h5
      · omega
      · by_cases c3 : i = j - 1
        · rw [c3]; exact h5
        · exact i32_tr (hs i (j - 1) (by omega) (by omega)) h5
    · rw [h4 j (by omega) (by omega)]
      by_cases c3 : i < k
      · rw [h2 i c3]
        by_cases c4 : i = j - 1
        · omega
        · exact hs i (j - 1) (by omega) (by omega)
      · by_cases c4 : i = k
        · rw [c4, h3]; exact i32_lt_le (h6 j (by omega) (by omega))
        · rw [h4 i (by omega) (by omega)]
          exact hs (i - 1) (j - 1) (by omega) (by omega)
/-- how many of an ordered row lie below -/
theorem cnt_pre {p : Nat → Bool} {j n : Nat} (hj : j ≤ n) (h1 : ∀ i, i < j → p i = true) (h2 : ∀ i, j ≤ i → i < n → p i = false) : cntN p n = j := by
  have key : ∀ d, j + d ≤ n → cntN p (j + d) = j := by
    intro d
    induction d with
    | zero =>
      intro _
      rw [Nat.add_zero]
      have : ∀ m, m ≤ j → cntN p m = m := by
        intro m
        induction m with
        | zero => intro _; rfl
        | succ m ih => intro hm; rw [cntN_succ, ih (by omega), h1 m (by omega)]; rfl
      exact this j (Nat.le_refl _)
    | succ d ih =>
      intro hd
      rw [show j + (d + 1) = j + d + 1 from rfl, cntN_succ, ih (by omega), h2 _ (by omega) (by omega)]
      rfl
  have := key (n - j) (by omega)
  rw [show j + (n - j) = n from by omega] at this
  exact this
theorem sum_cnt (p : Nat → Bool) (n : Nat) : sumI (fun i => if p i = true then 1 else 0) n = nI (cntN p n) := by
  induction n with
  | zero => rfl
  | succ n ih =>
    rw [sumI_succ, ih, cntN_succ]
    cases p n
    · rw [if_neg (by decide), if_neg (by decide), Int32.add_zero]; rfl
    · rw [if_pos rfl, if_pos rfl]; exact n_add _ 1
/-- putting one in order -/
theorem P_ins {R : Nat} {a : Int32} {σ : f_M} {n : Nat} (hn : n < 24) : ∃ k σ1, f_lp (insB R a) f_F (nI n, σ) = some (nI k, σ1) ∧ f_wr σ1 R 24 (nI k) a = some (f_up σ1 R k a) ∧ insAt (σ R) (f_up σ1 R k a R) a k n ∧ (srt (σ R) n → srt (f_up σ1 R k a R) (n + 1)) ∧ ∀ r, r ≠ R → f_up σ1 R k a r = σ r := by
  obtain ⟨k, σ1, q1, q2, q3, q4, q5, q6⟩ := L_ins (R := R) (a := a) (σ0 := σ) hn n f_F σ (Nat.le_refl _) (f_F_lt (by omega)) (fun _ _ => rfl) (fun i h h' => absurd h (by omega)) (fun _ _ => rfl)
  have at9 : insAt (σ R) (f_up σ1 R k a R) a k n := ⟨q2, fun i hi => by rw [up_ix (by omega)]; exact q3 i hi, up_same _ _ _ _, fun i h h' => by rw [up_ix (by omega)]; exact (q4 i h h').1⟩
  exact ⟨k, σ1, q1, f_wr_n (by omega) (by omega), at9, fun hs => ins_srt at9 hs q6 (fun i h h' => (q4 i h h').2), fun r h => by rw [up_rows h]; exact q5 r h⟩
