/-! Saving, restoring, undoing. -/
theorem z_n : f_z (nI 0) = some false ∧ f_z (nI 1) = some true := ⟨rfl, rfl⟩
theorem M_save (σ : f_M) : ∃ σ', g_354 σ = some (σ 156 0, σ') ∧ σ' 155 5 = nI 1 ∧ σ' 155 6 = nI 0 ∧ (∀ i, i ≠ 5 → i ≠ 6 → σ' 155 i = σ 155 i) ∧ (∀ i, i < 2420 → σ' 158 i = σ 156 i) ∧ ∀ r, r ≠ 155 → r ≠ 158 → σ' r = σ r := by
  unfold g_354
  rw [M_put (by omega), bnd, cp_zero.1, rdS (by omega), bnd]
  refine ⟨_, congrArg some (Prod.ext ?_ rfl), ?_, ?_, fun i h5 h6 => ?_, fun i hi => ?_, fun r h1 h2 => ?_⟩
  · simp (disch := omega) only [up_rows, row_ne]
  · rw [up_same]; rfl
  · simp (disch := omega) only [up_ix, row_ne, up_same]
  · simp (disch := omega) only [up_ix, row_ne]
  · simp (disch := omega) only [up_rows, row_same, cpN_in]
  · simp (disch := omega) only [up_rows, row_ne]
theorem M_restore {σ : f_M} (h : σ 155 5 = nI 1) : ∃ σ', g_357 σ = some (σ 158 0, σ') ∧ σ' 155 4 = nI 0 ∧ σ' 155 6 = nI 0 ∧ (∀ i, i ≠ 4 → i ≠ 6 → σ' 155 i = σ 155 i) ∧ (∀ i, i < 2420 → σ' 156 i = σ 158 i) ∧ ∀ r, r ≠ 155 → r ≠ 156 → σ' r = σ r := by
  have h176 : g_176 true true true σ = some (true, f_up σ 155 6 (nI 0)) := by
    unfold g_176
    simp only [if_true, bnd, up_same]
    rfl
  unfold g_357
  rw [h, z_n.2, bnd, h176, bnd, if_pos rfl, M_get (by omega), bnd, cp_zero.1, rdS (by omega), bnd]
  refine ⟨_, congrArg some (Prod.ext ?_ rfl), ?_, ?_, fun i h5 h6 => ?_, fun i hi => ?_, fun r h1 h2 => ?_⟩
  · simp (disch := omega) only [up_rows, row_same, cpN_in]
  · rw [up_same]
  · simp (disch := omega) only [up_ix, row_ne, up_same]
  · simp (disch := omega) only [up_ix, row_ne]
  · simp (disch := omega) only [up_rows, row_same, cpN_in]
  · simp (disch := omega) only [up_rows, row_ne]
theorem M_restore0 {σ : f_M} (h : σ 155 5 = nI 0) : g_357 σ = some (nI 0, f_up σ 155 6 (nI 1)) := by
  have h176 : g_176 false true true σ = some (false, f_up σ 155 6 (nI 1)) := by
    unfold g_176
    simp only [bnd, up_same]
    rfl
  unfold g_357
  rw [h, z_n.1, bnd, h176, bnd, if_neg (by decide : ¬ (false = true))]
  rfl
theorem C_save {σ : f_M} {s : Nat → Int32} {D ck hc ac pc cc q n : Nat} {g : Nat → Nat} (K : kAll s D ck hc ac pc cc g q n) (B : rB σ 108 s ck pc cc) (l : rL σ 121 s hc pc cc g q n) :
    ∃ σ', g_353 σ = some (s 0, σ') ∧ σ' 0 15 = nI 1 ∧ rB σ' 135 s ck pc cc ∧ rL σ' 148 s hc pc cc g q n ∧ (∀ i, i ≠ 15 → σ' 0 i = σ 0 i) ∧ ∀ r, r ≠ 0 → (r ≤ 135 ∨ 155 ≤ r) → σ' r = σ r := by
  have hcc : cc ≤ 20 := K.1.2.2.2.2.2
  have hpc : pc ≤ 20 := K.1.2.2.2.1.2
  have hhc : hc ≤ 8 := K.1.2.1.2.2
  have hn : n ≤ cc := by rw [K.2.2.2.1.2.1]; exact cntN_le _ _
  obtain ⟨σ1, e1, x1, x2, x3, xf⟩ := C_book (σ := σ) (d := 135) (a := 108) (by omega)
  obtain ⟨σ2, e2, a0, a1, a2, a3, af⟩ := C_ledger (σ := σ1) (d := 148) (a := 121) (by omega)
  have l1 : rL σ1 121 s hc pc cc g q n := rL_frame (fun j hj => xf _ (by omega)) l
  have b1 := rB_copy K.1.1.2 hpc hcc x1 x2 x3 B
  have l2 := rL_copy hhc hpc hcc (by omega) (fun p hp => (K.2.1 p hp).2.2.2.2.2.2.2.1) a0 a1 a2 a3 l1
  have e0 : σ2 121 0 = s 0 := by rw [af 121 (by omega), xf 121 (by omega)]; exact l.1.1
  refine ⟨f_up σ2 0 15 1, ?_, ?_, ?_, ?_, ?_, ?_⟩
  · unfold g_353
    rw [e1, bnd, e2, bnd, up_rows (by omega), e0]
  · rw [up_same]; rfl
  · exact rB_congr hpc hcc (fun i hi => by rw [up_rows (by omega), af _ (by omega)]) (fun _ _ => rfl) b1
  · exact rL_frame (fun j hj => up_rows (by omega)) l2
  · intro i hi
    rw [up_ix hi, af 0 (by omega), xf 0 (by omega)]
  · intro r h1 h2
    rw [up_rows h1, af r (by omega), xf r (by omega)]
theorem C_restore {σ : f_M} {s : Nat → Int32} {D ck hc ac pc cc q n : Nat} {g : Nat → Nat} (h15 : σ 0 15 = nI 1) (K : kAll s D ck hc ac pc cc g q n) (B : rB σ 135 s ck pc cc) (l : rL σ 148 s hc pc cc g q n) :
    ∃ σ', g_355 σ = some (.inl (s 0), σ') ∧ σ' 44 2 = nI 0 ∧ rB σ' 108 s ck pc cc ∧ rL σ' 121 s hc pc cc g q n ∧ (∀ i, i ≠ 2 → σ' 44 i = σ 44 i) ∧ ∀ r, r ≠ 44 → (r ≤ 108 ∨ 128 ≤ r) → σ' r = σ r := by
  have hcc : cc ≤ 20 := K.1.2.2.2.2.2
  have hpc : pc ≤ 20 := K.1.2.2.2.1.2
  have hhc : hc ≤ 8 := K.1.2.1.2.2
  have hn : n ≤ cc := by rw [K.2.2.2.1.2.1]; exact cntN_le _ _
  obtain ⟨σ1, e1, x1, x2, x3, xf⟩ := C_book (σ := σ) (d := 108) (a := 135) (by omega)
  obtain ⟨σ2, e2, a0, a1, a2, a3, af⟩ := C_ledger (σ := σ1) (d := 121) (a := 148) (by omega)
  have l1 : rL σ1 148 s hc pc cc g q n := rL_frame (fun j hj => xf _ (by omega)) l
  have b1 := rB_copy K.1.1.2 hpc hcc x1 x2 x3 B
  have l2 := rL_copy hhc hpc hcc (by omega) (fun p hp => (K.2.1 p hp).2.2.2.2.2.2.2.1) a0 a1 a2 a3 l1
  refine ⟨f_up σ2 44 2 0, ?_, ?_, ?_, ?_, ?_, ?_⟩
  · unfold g_355 g_32
    rw [h15, z_n.2, bnd, if_pos rfl, e1, bnd, e2, bnd, bnd, up_rows (by omega), l2.1.1]
  · rw [up_same]; rfl
  · exact rB_congr hpc hcc (fun i hi => by rw [up_rows (by omega), af _ (by omega)]) (fun _ _ => rfl) b1
  · exact rL_frame (fun j hj => up_rows (by omega)) l2
  · intro i hi
    rw [up_ix hi, af 44 (by omega), xf 44 (by omega)]
  · intro r h1 h2
    rw [up_rows h1, af r (by omega), xf r (by omega)]
theorem C_restore0 {σ : f_M} (h15 : σ 0 15 = nI 0) : g_355 σ = some (.inr 3, σ) := by
  unfold g_355
  rw [h15, z_n.1, bnd, if_neg (by decide : ¬ (false = true))]
