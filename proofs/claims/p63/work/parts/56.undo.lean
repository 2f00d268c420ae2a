/-! Undoing; a new beginning. -/
theorem M_undo {σ : f_M} {k : Nat} (h4 : σ 155 4 = nI k) (hk0 : 0 < k) (hk : k ≤ 8) : ∃ σ', g_341 σ = some (nI (k - 1), σ') ∧ σ' 155 4 = nI (k - 1) ∧ σ' 155 6 = nI 0 ∧ (∀ i, i ≠ 4 → i ≠ 6 → σ' 155 i = σ 155 i) ∧ (∀ i, i < 2420 → σ' 156 i = σ 159 (2420 * (k - 1) + i)) ∧ ∀ r, r ≠ 155 → r ≠ 156 → σ' r = σ r := by
  have h176 : g_176 true true true σ = some (true, f_up σ 155 6 (nI 0)) := by
    unfold g_176
    simp only [if_true, bnd, up_same]
    rfl
  have e4 : f_up σ 155 6 (nI 0) 155 4 = nI k := by rw [up_ix (by omega)]; exact h4
  unfold g_341
  rw [h4, if_neg (by rw [cp_zero.1, n_le (by omega) (by omega)]; omega), bnd, h176, bnd, if_pos rfl]
  dsimp only
  have e5 : nI k - (1 : Int32) = nI (k - 1) := n_sub (a := k) (b := 1) (by omega)
  rw [e4, e5, M_back (k := k - 1) (by rw [up_same]) (by omega), bnd]
  refine ⟨_, congrArg some (Prod.ext ?_ rfl), ?_, ?_, fun i h5 h6 => ?_, fun i hi => ?_, fun r h1 h2 => ?_⟩
  · simp (disch := omega) only [up_same, row_ne]
  · simp (disch := omega) only [up_same, row_ne]
  · simp (disch := omega) only [up_ix, row_ne, up_same]
  · simp (disch := omega) only [up_ix, row_ne]
  · simp (disch := omega) only [up_rows, row_same, cpN_in]
  · simp (disch := omega) only [up_rows, row_ne]
theorem M_undo0 {σ : f_M} (h4 : σ 155 4 = nI 0) : g_341 σ = some (nI 0, f_up σ 155 6 (nI 1)) := by
  have h176 : g_176 false true true σ = some (false, f_up σ 155 6 (nI 1)) := by
    unfold g_176
    simp only [bnd, up_same]
    rfl
  unfold g_341
  rw [h4, if_pos (by decide), bnd, h176, bnd, if_neg (by decide : ¬ (false = true))]
  rfl
theorem C_empty {σ : f_M} {k : Nat} (h : σ 44 2 = nI k) (hk : k ≤ 8) : g_337 σ = some (decide (k = 0)) := by
  unfold g_337
  by_cases h0 : k = 0
  · subst h0
    rw [h, if_neg (fun h' => h' rfl), bnd]
    rfl
  · rw [h, if_pos (by rw [cp_zero.1, n_eq (by omega) (by omega)]; exact h0), bnd]
    simp [h0]
