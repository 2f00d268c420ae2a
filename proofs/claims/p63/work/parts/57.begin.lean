/-! The class begins with a setup. -/
theorem cp_byte {σ : f_M} {a m b n k : Nat} (hm : k ≤ m) (hn : k ≤ n) (hk : k < 2147483648) (hf : ∀ i, i < k → fits .byte (.int (σ a i)) = true) : f_cp σ .byte a m b n (nI 0) (nI 0) (nI k) = some (f_row σ b (cpN (σ a) (σ b) k)) := by
  unfold f_cp
  rw [if_pos ⟨⟨n_neg (by omega), n_neg (by omega), n_neg (by omega), by rw [n_clamp (by omega), n_clamp (by omega)]; omega, by rw [n_clamp (by omega), n_clamp (by omega)]; omega⟩, fun i hi => by rw [n_clamp (by omega)] at hi; rw [n_clamp (by omega), Nat.zero_add]; exact hf i hi⟩]
  have e : va_cpy (σ a) (σ b) (nI 0).toNatClampNeg (nI 0).toNatClampNeg (nI k).toNatClampNeg = cpN (σ a) (σ b) k := by
    funext i
    rw [n_clamp (by omega), n_clamp (by omega)]
    unfold va_cpy cpN
    simp only [Nat.zero_le, true_and, Nat.zero_add, Nat.sub_zero]
  rw [e]
theorem C_begin {σ : f_M} (hf : ∀ i, i < 48 → fits .byte (.int (σ 7 i)) = true) :
    ∃ σ', g_31 σ = some σ' ∧ (σ' 103 0 = σ 5 0 ∧ σ' 103 4 = σ 5 4 ∧ σ' 103 6 = σ 5 6) ∧ (∀ i, i < 8 → σ' 104 i = σ 6 i ∧ σ' 106 i = σ 8 i ∧ σ' 122 i = σ 8 i) ∧ (∀ i, i < 48 → σ' 105 i = σ 7 i) ∧ (∀ i, i < 3 → σ' 107 i = σ 9 i) ∧ (∀ i, i = 0 ∨ i = 3 ∨ i = 5 ∨ (10 ≤ i ∧ i ≤ 14) → σ' 121 i = nI 0) ∧ σ' 121 1 = σ 5 6 ∧ ∀ r, r ≠ 103 → r ≠ 104 → r ≠ 105 → r ≠ 106 → r ≠ 107 → r ≠ 121 → r ≠ 122 → σ' r = σ r := by
  unfold g_31 g_29 g_30
  rw [cp_zero.1, cp_zero.2.1, cp_zero.2.2.2.2.1, cp_zero.2.2.2.2.2, cp_int (by omega) (by omega) (by omega), bnd, cp_byte (by omega) (by omega) (by omega) (fun i hi => by simp (disch := omega) only [row_ne, up_rows]; exact hf i hi), bnd, cp_int (by omega) (by omega) (by omega), bnd, cp_int (by omega) (by omega) (by omega), bnd, bnd, cp_int (by omega) (by omega) (by omega), bnd, bnd]
  refine ⟨_, rfl, ⟨?_, ?_, ?_⟩, fun i hi => ⟨?_, ?_, ?_⟩, fun i hi => ?_, fun i hi => ?_, fun i hi => ?_, ?_, fun r h1 h2 h3 h4 h5 h6 h7 => ?_⟩
  · simp (disch := omega) only [up_rows, up_ix, up_same, row_ne]
  · simp (disch := omega) only [up_rows, up_ix, up_same, row_ne]
  · simp (disch := omega) only [up_rows, up_ix, up_same, row_ne]
  · simp (disch := omega) only [up_rows, row_ne, row_same, cpN_in]
  · simp (disch := omega) only [up_rows, row_ne, row_same, cpN_in]
  · simp (disch := omega) only [up_rows, row_ne, row_same, cpN_in]
  · simp (disch := omega) only [up_rows, row_ne, row_same, cpN_in]
  · simp (disch := omega) only [up_rows, row_ne, row_same, cpN_in]
  · obtain rfl | rfl | rfl | rfl | rfl | rfl | rfl | rfl : i = 0 ∨ i = 3 ∨ i = 5 ∨ i = 10 ∨ i = 11 ∨ i = 12 ∨ i = 13 ∨ i = 14 := by omega
    all_goals simp (disch := omega) only [up_rows, up_ix, up_same, row_ne]
  · simp (disch := omega) only [up_rows, up_ix, up_same, row_ne]
  · simp (disch := omega) only [up_rows, row_ne]
