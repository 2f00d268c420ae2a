/-! The law acts: purchases, and what it does in all. -/
theorem Z_ref0 {σ : f_M} {s : Nat → Int32} {D ck hc ac pc cc h f d v l : Nat} (hh : h < hc) (hf : ck ≤ f ∧ f ≤ 1000) (hd : 1 ≤ d ∧ d ≤ 24) (hv : 1 ≤ v ∧ v ≤ 500) (hl : l ≤ 50) (hno : pc = 20 ∨ s (20 + 9 * h + 7) < nI v * nI d / nI 40 + nI 1) (L : LC σ s D ck hc ac pc cc) : l_isRefused (nI 1) (nI h) (nI f) (nI d) (nI v) (nI l) σ = some (true, σ) := by
  unfold l_isRefused
  rw [if_pos (show ¬ nI 1 = 0 by decide), if_neg (show ¬ ¬ nI 1 = (1 : Int32) by decide), show (150 : Int32) = nI 150 from rfl, LC_kiteN hh hf hd hv ⟨by omega, by omega⟩ hno L, bnd]
  rfl
theorem Z_ref1 {σ : f_M} {s : Nat → Int32} {D ck hc ac pc cc h f d v l : Nat} (hh : h < hc) (hf : ck ≤ f ∧ f ≤ 1000) (hd : 1 ≤ d ∧ d ≤ 24) (hv : 1 ≤ v ∧ v ≤ 500) (hl : l ≤ 50) (hno : pc = 20 ∨ s (20 + 9 * h + 7) < nI v * nI d / (nI 20 + nI 2 * nI l) + nI 1) (L : LC σ s D ck hc ac pc cc) : l_isRefused (nI 2) (nI h) (nI f) (nI d) (nI v) (nI l) σ = some (true, σ) := by
  unfold l_isRefused
  rw [if_pos (show ¬ nI 2 = 0 by decide), if_pos (show ¬ nI 2 = (1 : Int32) by decide), LC_picnN hh hf hd hv hl hno L, bnd]
  rfl
theorem Z_buy {σ : f_M} {s : Nat → Int32} {D ck hc ac pc cc q n k o t : Nat} {g : Nat → Nat} {P : Nat → Nat → Int32} (x y : Int32) (hD : D ≤ 1000000000) (hck : ck + 3 ≤ 1000) (S : sAll σ (dT s) D ck hc ac pc cc g q n) (H : cH σ D hc ac ck pc cc k o P) (R : LR σ s hc ac pc cc g q n) (h4 : hc ≤ 4) (ht : t < 1000) :
    ∃ σ', a_buy (nI t) x y σ = some (true, σ') ∧ LI σ' D ck := by
  have K : kAll s D ck hc ac pc cc g q n := S.1
  have h1 := K.1.2.1.2.1
  have hpc := K.1.2.2.2.1.2
  have hcc := K.1.2.2.2.2.2
  have c0 := K.1.1.1
  have L : LC σ s D ck hc ac pc cc := ⟨g, q, n, k, o, P, S, H⟩
  have I : LI σ D ck := LI_mk L K.2.2.2.1 R h4
  obtain ⟨⟨⟨a1, a2, a3, a4⟩, a5, b1, b2, b3, b4, a6, a7⟩, r2, -⟩ := id R
  obtain ⟨kk, hk, ek⟩ := bits_n x (8 : Int32) (k := 1) (m := 1) (by decide) rfl
  obtain ⟨df, hdf, edf⟩ := bits_n x (9 : Int32) (k := 2) (m := 2) (by decide) rfl
  obtain ⟨dn, hdn, edn⟩ := bits_n x (11 : Int32) (k := 3) (m := 3) (by decide) rfl
  obtain ⟨dc, hdc, edc⟩ := bits_n x (14 : Int32) (k := 7) (m := 7) (by decide) rfl
  obtain ⟨l, hl, el⟩ := bits_n y (0 : Int32) (k := 5) (m := 5) (by decide) rfl
  obtain ⟨e5, he5, ee5⟩ := bits_n y (5 : Int32) (k := 5) (m := 5) (by decide) rfl
  have hh : t % hc < hc := Nat.mod_lt _ (by omega)
  have z1 : (1 : Int32) = nI 1 := rfl
  have z2 : (2 : Int32) = nI 2 := rfl
  have z20 : (20 : Int32) = nI 20 := rfl
  have z40 : (40 : Int32) = nI 40 := rfl
  unfold a_buy
  rw [ek, bnd, edf, bnd, edn, bnd, edc, bnd, el, bnd, a1, n_mod (by omega) (by omega), a3, a5, c0, z1, z2, z20, z40, n_add 1 kk, n_add ck df, n_add 1 dn, n_add 1 dc]
  generalize t % hc = h at hh
  have eb := (r2 h hh).1
  have hf : ck ≤ ck + df ∧ ck + df ≤ 1000 := ⟨by omega, by omega⟩
  have hd : 1 ≤ 1 + dn ∧ 1 + dn ≤ 24 := ⟨by omega, by omega⟩
  have hv : 1 ≤ 1 + dc ∧ 1 + dc ≤ 500 := ⟨by omega, by omega⟩
  obtain rfl | rfl : kk = 0 ∨ kk = 1 := by omega
  · rw [if_neg (show ¬ ¬ nI 0 = 0 by decide), bnd]
    by_cases hp20 : pc = 20
    · rw [if_pos (by rw [hp20]), Z_ref0 hh hf hd hv (by omega) (Or.inl hp20) L, bnd]
      exact ⟨σ, rfl, I⟩
    · rw [if_neg (by rw [n_eq (by omega) (by omega)]; exact hp20), f_rd_n (by omega) (by decide), bnd, eb]
      by_cases hcan : nI (1 + dc) * nI (1 + dn) / nI 40 + nI 1 ≤ s (20 + 9 * h + 7)
      · rw [if_pos hcan]
        obtain ⟨⟨t0, t1, t2, t3, t4, t5, t6, t7, t8, t9, t10⟩, te⟩ := kite_v s pc (nI h) (nI (ck + df)) (nI (1 + dn)) (nI (1 + dc)) (nI l) (nI (l + e5)) (nI (pc + 1))
        have th := hit_new (t := upd (s_kite s pc (nI h) (nI (ck + df)) (nI (1 + dn)) (nI (1 + dc)) (nI l) (nI (l + e5))) 4 (nI (pc + 1))) (ck := ck) (by rw [te 0 (by omega) (by omega), c0]) (by omega) t2 (by omega) (by omega)
        have RB := LR_buy (hi := nI (l + e5)) K R (by omega) hh rfl te t0 t1 t2 t3 t4 t5 (fun _ => t6.symm) t7 t8 t9 th
        obtain ⟨σ5, x5, L5, f5⟩ := LC_kite (σ := m_buy σ s pc h (nI 0) (nI h) (nI (ck + df)) (nI (1 + dn)) (nI (1 + dc)) (nI l) (nI (l + e5)) (nI (1 + dc) * nI (1 + dn) / nI 40 + nI 1)) (lo := l) (hi := l + e5) hD (by omega) hh hf hd hv ⟨by omega, by omega⟩ ((i32_nlt _ _).mpr hcan) (LC_ext L (fun r hr => by unfold m_buy; rw [up_rows (by omega), up_rows (by omega), up_rows (by omega), up_rows (by omega), up_rows (by omega), up_rows (by omega), up_rows (by omega), up_rows (by omega), up_rows (by omega), up_rows (by omega), up_rows (by omega), up_rows (by omega)]))
        have hG : kG (s_buy (s_kite s pc (nI h) (nI (ck + df)) (nI (1 + dn)) (nI (1 + dc)) (nI l) (nI (l + e5))) pc) cc g q n := by
          unfold s_buy
          exact kG_congr (fun c hc => by rw [s_pay_keep ⟨h, by omega, t1⟩ (by omega) (by omega) (fun h hh => by omega)]; exact te _ (by omega) (by omega)) (fun c hc => by rw [s_pay_keep ⟨h, by omega, t1⟩ (by omega) (by omega) (fun h hh => by omega)]; exact te _ (by omega) (by omega)) K.2.2.2.1
        refine ⟨σ5, ?_, LI_mk L5 hG (LR_class RB f5) h4⟩
        unfold m_buy at x5
        generalize nI (1 + dc) * nI (1 + dn) / nI 40 + nI 1 = co at *
        simp (disch := omega) only [f_wr_n, f_rd_n, bnd, up_rows, up_ix, up_same, ee5, n_add l e5, b1, b2, a3, eb, n_add pc 1]
        rw [if_neg (show ¬ ¬ nI 0 = 0 by decide), x5]
        unfold f_nt
        rw [bnd, Sum.elim_inl, bnd, bnd, if_neg (fun h => h rfl), bnd]
      · rw [if_neg hcan, Z_ref0 hh hf hd hv (by omega) (Or.inr ((i32_nle _ _).mp hcan)) L, bnd]
        exact ⟨σ, rfl, I⟩
  · rw [if_pos (show ¬ nI 1 = 0 by decide), if_neg (show ¬ nI 20 + nI 2 * nI l = 0 by rw [n_mul, n_add, show (0 : Int32) = nI 0 from rfl, n_eq (by omega) (by omega)]; omega), bnd]
    by_cases hp20 : pc = 20
    · rw [if_pos (by rw [hp20]), Z_ref1 hh hf hd hv (by omega) (Or.inl hp20) L, bnd]
      exact ⟨σ, rfl, I⟩
    · rw [if_neg (by rw [n_eq (by omega) (by omega)]; exact hp20), f_rd_n (by omega) (by decide), bnd, eb]
      by_cases hcan : nI (1 + dc) * nI (1 + dn) / (nI 20 + nI 2 * nI l) + nI 1 ≤ s (20 + 9 * h + 7)
      · rw [if_pos hcan]
        obtain ⟨⟨t0, t1, t2, t3, t4, t5, t7, t8, t9, t10⟩, te⟩ := picn_v s pc (nI h) (nI (ck + df)) (nI (1 + dn)) (nI (1 + dc)) (nI l) (nI (pc + 1))
        have th := hit_new (t := upd (s_picn s pc (nI h) (nI (ck + df)) (nI (1 + dn)) (nI (1 + dc)) (nI l)) 4 (nI (pc + 1))) (ck := ck) (by rw [te 0 (by omega) (by omega), c0]) (by omega) t2 (by omega) (by omega)
        have RB := LR_buy (hi := nI (l + e5)) K R (by omega) hh rfl te t0 t1 t2 t3 t4 t5 (fun h0 => absurd (t0.symm.trans h0) (by decide)) t7 t8 t9 th
        obtain ⟨σ5, x5, L5, f5⟩ := LC_picn (σ := m_buy σ s pc h (nI 1) (nI h) (nI (ck + df)) (nI (1 + dn)) (nI (1 + dc)) (nI l) (nI (l + e5)) (nI (1 + dc) * nI (1 + dn) / (nI 20 + nI 2 * nI l) + nI 1)) (a := l) hD (by omega) hh hf hd hv (by omega) ((i32_nlt _ _).mpr hcan) (LC_ext L (fun r hr => by unfold m_buy; rw [up_rows (by omega), up_rows (by omega), up_rows (by omega), up_rows (by omega), up_rows (by omega), up_rows (by omega), up_rows (by omega), up_rows (by omega), up_rows (by omega), up_rows (by omega), up_rows (by omega), up_rows (by omega)]))
        have hG : kG (s_buy (s_picn s pc (nI h) (nI (ck + df)) (nI (1 + dn)) (nI (1 + dc)) (nI l)) pc) cc g q n := by
          unfold s_buy
          exact kG_congr (fun c hc => by rw [s_pay_keep ⟨h, by omega, t1⟩ (by omega) (by omega) (fun h hh => by omega)]; exact te _ (by omega) (by omega)) (fun c hc => by rw [s_pay_keep ⟨h, by omega, t1⟩ (by omega) (by omega) (fun h hh => by omega)]; exact te _ (by omega) (by omega)) K.2.2.2.1
        refine ⟨σ5, ?_, LI_mk L5 hG (LR_class RB f5) h4⟩
        unfold m_buy at x5
        generalize nI (1 + dc) * nI (1 + dn) / (nI 20 + nI 2 * nI l) + nI 1 = co at *
        simp (disch := omega) only [f_wr_n, f_rd_n, bnd, up_rows, up_ix, up_same, ee5, n_add l e5, b1, b2, a3, eb, n_add pc 1]
        rw [if_pos (show ¬ nI 1 = 0 by decide), x5]
        unfold f_nt
        rw [bnd, Sum.elim_inl, bnd, bnd, if_neg (fun h => h rfl), bnd]
      · rw [if_neg hcan, Z_ref1 hh hf hd hv (by omega) (Or.inr ((i32_nle _ _).mp hcan)) L, bnd]
        exact ⟨σ, rfl, I⟩
/-- one act -/
theorem Z_acts {σ : f_M} {D ck : Nat} (x y : Int32) (hD : D ≤ 900000000) (hck : ck + 4 ≤ 1000) (I : LI σ D ck) : ∃ σ', l_acts x y σ = some (true, σ') ∧ ∃ ck', ck' ≤ ck + 4 ∧ LI σ' (D + 32) ck' := by
  have I0 := I
  obtain ⟨s, hc, ac, pc, cc, q, n, k, o, g, P, S, H, R, h4⟩ := I0
  have hc1 := S.1.1.2.1.2.1
  obtain ⟨t, ht, et⟩ := bits_n x (4 : Int32) (k := 4) (m := 4) (by decide) rfl
  obtain ⟨b, hb, eb⟩ := bits_n x (0 : Int32) (k := 4) (m := 4) (by decide) rfl
  have hrs : ∃ σ', a_hrs x y σ = some (true, σ') ∧ ∃ ck', ck' ≤ ck + 4 ∧ LI σ' (D + 32) ck' := by
    obtain ⟨σ', e, ck', h1, h2⟩ := Z_hrs x y (by omega) hck I
    exact ⟨σ', e, ck', h1, LI_mono (by omega) h2⟩
  have buy : ∃ σ', a_buy (nI t) x y σ = some (true, σ') ∧ ∃ ck', ck' ≤ ck + 4 ∧ LI σ' (D + 32) ck' := by
    obtain ⟨σ', e, h2⟩ := Z_buy (t := t) x y (by omega) (by omega) S H R h4 (by omega)
    exact ⟨σ', e, ck, by omega, LI_mono (by omega) h2⟩
  have clm : ∃ σ', a_clm x σ = some (true, σ') ∧ ∃ ck', ck' ≤ ck + 4 ∧ LI σ' (D + 32) ck' := by
    obtain ⟨σ', e, h2⟩ := Z_clm x S H R h4
    exact ⟨σ', e, ck, by omega, LI_mono (by omega) h2⟩
  have dep : ∃ σ', a_dep (nI t) x σ = some (true, σ') ∧ ∃ ck', ck' ≤ ck + 4 ∧ LI σ' (D + 32) ck' := by
    obtain ⟨σ', e, h2⟩ := Z_dep (t := t) x hD S H R h4 (by omega)
    exact ⟨σ', e, ck, by omega, h2⟩
  rw [l_acts_eq, et, bnd, if_neg (by rw [R.1.1.1, show (0 : Int32) = nI 0 from rfl, n_eq (by omega) (by omega)]; omega), eb, bnd]
  clear eb
  rcases (show b = 0 ∨ b = 1 ∨ b = 2 ∨ b = 3 ∨ b = 4 ∨ b = 5 ∨ b = 6 ∨ b = 7 ∨ b = 8 ∨ b = 9 ∨ b = 10 ∨ b = 11 ∨ b = 12 ∨ b = 13 ∨ b = 14 ∨ b = 15 by omega) with rfl | rfl | rfl | rfl | rfl | rfl | rfl | rfl | rfl | rfl | rfl | rfl | rfl | rfl | rfl | rfl
  iterate 7 (simp (decide := true) only [if_true, if_false]; exact hrs)
  iterate 4 (simp (decide := true) only [if_true, if_false]; exact buy)
  iterate 4 (simp (decide := true) only [if_true, if_false]; exact clm)
  simp (decide := true) only [if_true, if_false]; exact dep
