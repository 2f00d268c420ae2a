/-! The class's past: the newest comes back. -/
theorem C_pop {σ : f_M} {D hc ac ck pc cc k o : Nat} {P : Nat → Nat → Int32} (hk0 : 0 < k) (H : cH σ D hc ac ck pc cc k o P) :
    ∃ σ' ck' pc' cc' q' n' g', g_338 σ = some (nI (k - 1), σ') ∧ ck' ≤ ck ∧ kAll (P (k - 1)) D ck' hc ac pc' cc' g' q' n' ∧ rB σ' 108 (P (k - 1)) ck' pc' cc' ∧ rL σ' 121 (P (k - 1)) hc pc' cc' g' q' n' ∧ rS σ' 103 (P (k - 1)) hc ac ∧ cH σ' D hc ac ck' pc' cc' (k - 1) o P ∧ ∀ r, r ≠ 44 → (r < 121 ∨ 128 ≤ r) → σ' r = σ r := by
  obtain ⟨CK, PC, CC, Q, N, G, ⟨h2, h1, hk, ho⟩, he, hm, hb⟩ := H
  obtain ⟨x1, x2, x3, x4⟩ := he (k - 1) (by omega)
  have hcc := x1.1.2.2.2.2.2
  have hpc := x1.1.2.2.2.1.2
  have hhc := x1.1.2.1.2.2
  have hn : N (k - 1) ≤ CC (k - 1) := by rw [x1.2.2.2.1.2.1]; exact cntN_le _ _
  obtain ⟨σ1, e1, a0, a1, a2, a3, af⟩ := C_ledger (σ := f_up σ 44 2 (nI (k - 1))) (d := 121) (a := 46 + 7 * ((o + (k - 1)) % 8)) (by omega)
  have f0 : ∀ r, r ≠ 44 → f_up σ 44 2 (nI (k - 1)) r = σ r := fun r hr => up_rows hr
  have frame : ∀ r, r ≠ 44 → (r < 121 ∨ 128 ≤ r) → σ1 r = σ r := fun r h4 hr => by rw [af r (by omega), f0 r h4]
  have x3' : rL (f_up σ 44 2 (nI (k - 1))) (46 + 7 * ((o + (k - 1)) % 8)) (P (k - 1)) hc (PC (k - 1)) (CC (k - 1)) (G (k - 1)) (Q (k - 1)) (N (k - 1)) := rL_frame (fun j hj => f0 _ (by omega)) x3
  have t2 : σ1 44 2 = nI (k - 1) := by rw [af 44 (by omega), up_same]
  have t1 : σ1 44 1 = nI o := by rw [af 44 (by omega), up_ix (by omega)]; exact h1
  refine ⟨σ1, CK (k - 1), PC (k - 1), CC (k - 1), Q (k - 1), N (k - 1), G (k - 1), ?_, (hb _ (by omega)).1, x1, ?_, ?_, ?_, ?_, frame⟩
  · unfold g_338
    rw [h2, show (1 : Int32) = nI 1 from rfl, n_sub (by omega), up_same, up_ix (by omega), h1, cp_zero.2.1, n_add, n_mod8 (by omega), f_ix_n (by omega) (by omega), bnd, e1, bnd, t2]
  · exact rB_congr hpc hcc (fun j hj => frame _ (by omega) (by omega)) (fun _ _ => rfl) x2
  · exact rL_copy hhc hpc hcc (by omega) (fun p hp => (x1.2.1 p hp).2.2.2.2.2.2.2.1) a0 a1 a2 a3 x3'
  · exact rS_frame (fun j hj => frame _ (by omega) (by omega)) x4
  · refine ⟨CK, PC, CC, Q, N, G, ⟨t2, t1, by omega, ho⟩, fun i hi => ?_, fun i j hij hj => hm i j hij (by omega), fun i hi => hm i (k - 1) (by omega) (by omega)⟩
    obtain ⟨y1, y2, y3, y4⟩ := he i (by omega)
    exact ⟨y1, rB_congr (y1.1.2.2.2.1.2) (y1.1.2.2.2.2.2) (fun j hj => frame _ (by omega) (by omega)) (fun _ _ => rfl) y2, rL_frame (fun j hj => frame _ (by omega) (by omega)) y3, rS_frame (fun j hj => frame _ (by omega) (by omega)) y4⟩
/-- a book is copied -/
theorem C_book {σ : f_M} {d a : Nat} (h : d + 13 ≤ a ∨ a + 13 ≤ d) : ∃ σ', g_352 d a σ = some σ' ∧ (∀ i, i < 1000 → σ' (d + 1) i = σ (a + 1) i ∧ σ' (d + 2) i = σ (a + 2) i) ∧ (∀ i, i < 20 → σ' (d + 3) i = σ (a + 3) i &&& 1) ∧ (∀ i, i < 20 → ∀ j, 4 ≤ j → j ≤ 12 → σ' (d + j) i = σ (a + j) i) ∧ ∀ r, r ≤ d ∨ d + 13 ≤ r → σ' r = σ r := by
  unfold g_352
  rw [cp_zero.1, cp_zero.2.2.2.1, cp_int (by omega) (by omega) (by omega), bnd, cp_int (by omega) (by omega) (by omega), bnd, ← cp_zero.1, cp_bool (by omega), bnd, cp_zero.1, cp_zero.2.2.1]
  iterate 9 rw [cp_int (by omega) (by omega) (by omega), bnd]
  refine ⟨_, rfl, ?_, ?_, ?_, ?_⟩
  · intro i hi
    refine ⟨?_, ?_⟩
    all_goals simp (disch := omega) only [row_ne, row_same, cpN_in]
  · intro i hi
    simp (disch := omega) only [row_ne, row_same, cpB, if_pos]
  · intro i hi j h1 h2
    obtain rfl | rfl | rfl | rfl | rfl | rfl | rfl | rfl | rfl : j = 4 ∨ j = 5 ∨ j = 6 ∨ j = 7 ∨ j = 8 ∨ j = 9 ∨ j = 10 ∨ j = 11 ∨ j = 12 := by omega
    all_goals simp (disch := omega) only [row_ne, row_same, cpN_in]
  · intro r hr
    simp (disch := omega) only [row_ne]
theorem rB_copy {σ σ' : f_M} {d a : Nat} {s : Nat → Int32} {ck pc cc : Nat} (hck : ck ≤ 1000) (hpc : pc ≤ 20) (hcc : cc ≤ 20)
    (e1 : ∀ i, i < 1000 → σ' (d + 1) i = σ (a + 1) i ∧ σ' (d + 2) i = σ (a + 2) i) (e3 : ∀ i, i < 20 → σ' (d + 3) i = σ (a + 3) i &&& 1) (e4 : ∀ i, i < 20 → ∀ j, 4 ≤ j → j ≤ 12 → σ' (d + j) i = σ (a + j) i) (h : rB σ a s ck pc cc) : rB σ' d s ck pc cc := by
  obtain ⟨h1, h2, h3⟩ := h
  refine ⟨fun t ht => ?_, fun p hp => ?_, fun c hc => ?_⟩
  · rw [(e1 t (by omega)).1, (e1 t (by omega)).2]; exact h1 t ht
  · have hx := h2 p hp
    have k3 : σ (a + 3) p &&& 1 = σ (a + 3) p := and1 (by
      rcases hx.1 with ⟨x, -⟩ | ⟨x, -⟩
      · exact ⟨1, by omega, x⟩
      · exact ⟨0, by omega, x⟩)
    unfold rP at hx ⊢
    rw [e3 p (by omega), k3, e4 p (by omega) 4 (by omega) (by omega), e4 p (by omega) 5 (by omega) (by omega), e4 p (by omega) 6 (by omega) (by omega), e4 p (by omega) 7 (by omega) (by omega), e4 p (by omega) 8 (by omega) (by omega), e4 p (by omega) 9 (by omega) (by omega), e4 p (by omega) 10 (by omega) (by omega)]
    exact hx
  · rw [e4 c (by omega) 11 (by omega) (by omega), e4 c (by omega) 12 (by omega) (by omega)]; exact h3 c hc
