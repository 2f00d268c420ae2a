/-! An assessor, a reserve, a statement of a setup. -/
theorem P_ass {t : Nat → Int32} {len p hc ac : Nat} {σ τ : f_M} (x : cX t len σ) (ct : cT t len σ p) (y : mX t len τ) (mt : mT t len τ p) (hp : p ≤ len) (hK : ¬ tkK t len p = 0) (d : dS σ (τ 156) hc ac) : stR t len σ τ p (g_25 σ) (g_59 τ) := by
  have hS := tkS_le (t := t) hp
  have hE := tkE_le (t := t) hp
  have hlt := hE.2.2 hK
  have b := d.2.2.2.2.2.2
  by_cases h3 : ac = 3
  · have e := mE_now (τ := τ) (c := 4) (S := tkS t len p) mt.1 (by omega) (by omega)
    refine Or.inr ⟨4, tkS t len p, f_up (f_up σ 3 6 4) 3 7 (σ 3 3), _, _, ?_, ?_, M_61F e, ⟨?_, ?_, e⟩, ?_, ?_, mFr_now.n.p⟩
    · unfold g_25
      rw [d.2.1.1, h3, if_neg (fun h => h rfl), C_fail, bnd]
    · unfold g_59
      rw [show (3 : Int32) = nI 3 from rfl, rdS (by omega), bnd, d.2.1.2.1, h3, if_pos (by decide), bnd, M_ex0 y.2.2.2, bnd, show (4 : Int32) = nI 4 from rfl, M_51F e, bnd, M_57F e, bnd, if_pos e.ne, bnd]
    · rw [up_ix (by omega), up_same]; rfl
    · rw [up_same]; exact ct.1
    · exact fb_keep b (by rw [up_rows (by omega), up_rows (by omega)])
    · exact fun r h => by rw [up_rows (by omega), up_rows (by omega)]
  · have h3' : ac < 3 := by have := d.2.1.2.2; omega
    have hne : ¬ σ 5 4 = 3 := by rw [d.2.1.1, show (3 : Int32) = nI 3 from rfl, n_eq (by omega) (by omega)]; exact h3
    have hnl : ¬ nI 3 ≤ nI ac := by rw [n_le (by omega) (by omega)]; omega
    obtain ⟨τ1, n1, y1, m1, f1⟩ := M_next y mt.2.1 hE.2.1
    have g1 : LG t len σ τ1 (tkE t len p) := ⟨⟨x, ct.2.1⟩, hE.2.1, y1, m1⟩
    rcases P_num 0 9 g1 with ⟨p4, σ4, τ4, c4, m4, lo4, hi4, g4, lt4, fc4, fm4⟩ | ⟨c, S', σ4, τ4, c4, m4, fl, fc4, fm4⟩
    · have v4 : isN (σ4 3 5) 10 := by
        obtain ⟨m, -, h2, e⟩ := rng_n (v := σ4 3 5) (a := 0) (b := 9) (by omega) (by omega) lo4 hi4
        exact ⟨m, by omega, e⟩
      have k54 : σ4 5 4 = nI ac := by rw [fc4 5 (by omega)]; exact d.2.1.1
      have t156 : τ4 156 = τ 156 := by rw [fm4.1 156 (by omega), f1.1 156 (by omega)]
      have add := M_addA (τ := τ4) (ac := ac) (v := σ4 3 5) (by rw [t156]; exact d.2.1.2.1) h3'
      have g5 : LG t len (f_up (f_up σ4 9 ac (σ4 3 5)) 5 4 (nI (ac + 1))) (f_row τ4 156 (upd (upd (τ4 156) (95 + ac) (σ4 3 5)) 3 (nI (ac + 1)))) p4 :=
        LG_keep g4 (by rw [up_rows (by omega), up_rows (by omega)]) (by rw [up_rows (by omega), up_rows (by omega)]) (fun i _ _ => by rw [row_ne (by omega)]) (row_ne (by omega))
      have d5 : dS (f_up (f_up σ4 9 ac (σ4 3 5)) 5 4 (nI (ac + 1))) (upd (upd (τ 156) (95 + ac) (σ4 3 5)) 3 (nI (ac + 1))) hc (ac + 1) := by
        refine dS_addA d h3' v4 ?_ ?_ (fun r _ _ => ?_)
        · rw [show f_up (f_up σ4 9 ac (σ4 3 5)) 5 4 (nI (ac + 1)) 5 = upd (f_up σ4 9 ac (σ4 3 5) 5) 4 (nI (ac + 1)) from row_same _ _ _, up_rows (by omega), fc4 5 (by omega)]
        · rw [up_rows (by omega), show f_up σ4 9 ac (σ4 3 5) 9 = upd (σ4 9) ac (σ4 3 5) from row_same _ _ _, fc4 9 (by omega)]
        · rw [up_rows (by omega), up_rows (by omega), fc4 r (by omega)]
      have s5 : sFr σ (f_up (f_up σ4 9 ac (σ4 3 5)) 5 4 (nI (ac + 1))) := fun r h => by rw [up_rows (by omega), up_rows (by omega), fc4 r (by omega)]
      have q5 : pFr τ (f_row τ4 156 (upd (upd (τ4 156) (95 + ac) (σ4 3 5)) 3 (nI (ac + 1)))) := (f1.n.trans fm4.n).p.trans (pFr_row _ _)
      have cc : g_25 σ = (g_23 (f_up (f_up σ4 9 ac (σ4 3 5)) 5 4 (nI (ac + 1)))).bind fun t6 => some (t6.1, t6.2) := by
        unfold g_25
        rw [if_pos hne, c4, bnd, if_pos rfl]
        dsimp only
        rw [k54, f_wr_n h3' (by omega), bnd, up_rows (by omega), k54, show (1 : Int32) = nI 1 from rfl, n_add]
      have mm9 : g_59 τ = some (f_row τ4 156 (upd (upd (τ4 156) (95 + ac) (σ4 3 5)) 3 (nI (ac + 1)))) := by
        unfold g_59
        rw [show (3 : Int32) = nI 3 from rfl, rdS (by omega), bnd, d.2.1.2.1, if_neg hnl, bnd, M_exT, bnd, n1, bnd, m4, bnd, if_neg (fun h => h g4.2.2.1.2.2.2), add, bnd, bnd]
      rcases P_semi g5 with ⟨p6, σ6, τ6, c6, m6, g6, lt6, fc6, fm6⟩ | ⟨c, S', σ6, τ6, c6, m6, fl, fc6, fm6⟩
      · refine Or.inl ⟨p6, hc, ac + 1, σ6, _, τ6, by rw [cc, c6, bnd], mm9, m6, g6, by omega, ?_, s5.trans fc6.s, q5.trans fm6.n.p⟩
        rw [fm6.1 156 (by omega), row_same, t156]
        exact dS_keep d5 (fun r _ _ => fc6 r (by omega))
      · refine Or.inr ⟨c, S', σ6, _, τ6, by rw [cc, c6, bnd], mm9, m6, fl, ?_, s5.trans fc6.s, q5.trans fm6.n.p⟩
        exact fb_keep d5.2.2.2.2.2.2 (fc6 7 (by omega))
    · refine Or.inr ⟨c, S', σ4, τ4, τ4, ?_, ?_, M_61F fl.2.2, fl, fb_keep b (fc4 7 (by omega)), fc4.s, (f1.n.trans fm4.n).p⟩
      · unfold g_25
        rw [if_pos hne, c4, bnd]
        rfl
      · unfold g_59
        rw [show (3 : Int32) = nI 3 from rfl, rdS (by omega), bnd, d.2.1.2.1, if_neg hnl, bnd, M_exT, bnd, n1, bnd, m4, bnd, if_pos fl.2.2.ne, bnd]
theorem P_res {t : Nat → Int32} {len p hc ac : Nat} {σ τ : f_M} (x : cX t len σ) (ct : cT t len σ p) (y : mX t len τ) (mt : mT t len τ p) (hp : p ≤ len) (hK : ¬ tkK t len p = 0) (d : dS σ (τ 156) hc ac) : stR t len σ τ p (g_26 σ) (g_60 τ) := by
  have hS := tkS_le (t := t) hp
  have hE := tkE_le (t := t) hp
  have hlt := hE.2.2 hK
  have b := d.2.2.2.2.2.2
  obtain ⟨τ1, n1, y1, m1, f1⟩ := M_next y mt.2.1 hE.2.1
  have g1 : LG t len σ τ1 (tkE t len p) := ⟨⟨x, ct.2.1⟩, hE.2.1, y1, m1⟩
  rcases P_num 0 9999 g1 with ⟨p4, σ4, τ4, c4, m4, lo4, hi4, g4, lt4, fc4, fm4⟩ | ⟨c, S', σ4, τ4, c4, m4, fl, fc4, fm4⟩
  · have v4 : isN (σ4 3 5) 10000 := by
      obtain ⟨m, -, h2, e⟩ := rng_n (v := σ4 3 5) (a := 0) (b := 9999) (by omega) (by omega) lo4 hi4
      exact ⟨m, by omega, e⟩
    have t156 : τ4 156 = τ 156 := by rw [fm4.1 156 (by omega), f1.1 156 (by omega)]
    have g5 : LG t len (f_up σ4 5 6 (σ4 3 5)) (f_row τ4 156 (upd (τ4 156) 1 (σ4 3 5))) p4 :=
      LG_keep g4 (by rw [up_rows (by omega)]) (by rw [up_rows (by omega)]) (fun i _ _ => by rw [row_ne (by omega)]) (row_ne (by omega))
    have d5 : dS (f_up σ4 5 6 (σ4 3 5)) (upd (τ 156) 1 (σ4 3 5)) hc ac := by
      refine dS_res d v4 ?_ (fun r _ _ => ?_)
      · rw [show f_up σ4 5 6 (σ4 3 5) 5 = upd (σ4 5) 6 (σ4 3 5) from row_same _ _ _, fc4 5 (by omega)]
      · rw [up_rows (by omega), fc4 r (by omega)]
    have s5 : sFr σ (f_up σ4 5 6 (σ4 3 5)) := fun r h => by rw [up_rows (by omega), fc4 r (by omega)]
    have q5 : pFr τ (f_row τ4 156 (upd (τ4 156) 1 (σ4 3 5))) := (f1.n.trans fm4.n).p.trans (pFr_row _ _)
    have cc : g_26 σ = (g_23 (f_up σ4 5 6 (σ4 3 5))).bind fun t6 => some (t6.1, t6.2) := by
      unfold g_26
      rw [c4, bnd, if_pos rfl]
    have mm9 : g_60 τ = some (f_row τ4 156 (upd (τ4 156) 1 (σ4 3 5))) := by
      unfold g_60
      rw [n1, bnd, m4, bnd, if_neg (fun h => h g4.2.2.1.2.2.2), show (1 : Int32) = nI 1 from rfl, wrS (by omega), bnd, bnd]
    rcases P_semi g5 with ⟨p6, σ6, τ6, c6, m6, g6, lt6, fc6, fm6⟩ | ⟨c, S', σ6, τ6, c6, m6, fl, fc6, fm6⟩
    · refine Or.inl ⟨p6, hc, ac, σ6, _, τ6, by rw [cc, c6, bnd], mm9, m6, g6, by omega, ?_, s5.trans fc6.s, q5.trans fm6.n.p⟩
      rw [fm6.1 156 (by omega), row_same, t156]
      exact dS_keep d5 (fun r _ _ => fc6 r (by omega))
    · refine Or.inr ⟨c, S', σ6, _, τ6, by rw [cc, c6, bnd], mm9, m6, fl, ?_, s5.trans fc6.s, q5.trans fm6.n.p⟩
      exact fb_keep d5.2.2.2.2.2.2 (fc6 7 (by omega))
  · refine Or.inr ⟨c, S', σ4, τ4, τ4, ?_, ?_, M_61F fl.2.2, fl, fb_keep b (fc4 7 (by omega)), fc4.s, (f1.n.trans fm4.n).p⟩
    · unfold g_26
      rw [c4, bnd]
      rfl
    · unfold g_60
      rw [n1, bnd, m4, bnd, if_pos fl.2.2.ne, bnd]
/-- the same, the semicolon done -/
def stS (t : Nat → Int32) (len : Nat) (σ τ : f_M) (p : Nat) (C : Option (Bool × f_M)) (M : Option f_M) : Prop :=
  (∃ p' hc' ac' σ' τ', C = some (true, σ') ∧ M = some τ' ∧ LG t len σ' τ' p' ∧ p < p' ∧ dS σ' (τ' 156) hc' ac' ∧ sFr σ σ' ∧ pFr τ τ') ∨
  ∃ c S σ' τ', C = some (false, σ') ∧ M = some τ' ∧ FL σ' τ' c S ∧ fb σ' ∧ sFr σ σ' ∧ pFr τ τ'
theorem stR.s {t : Nat → Int32} {len p : Nat} {σ τ : f_M} {C C' : Option (Bool × f_M)} {M M' : Option f_M} (h : stR t len σ τ p C M) (hC : C' = C.bind fun t7 => some (t7.1, t7.2)) (hM : M' = (M.bind fun t10 => some t10).bind fun t2 => (g_61 t2).bind fun t12 => some t12) : stS t len σ τ p C' M' := by
  rcases h with ⟨p', hc', ac', σ', τa, τ', h1, h2, h3, h4⟩ | ⟨c, S, σ', τa, τ', h1, h2, h3, h4⟩
  · exact Or.inl ⟨p', hc', ac', σ', τ', by rw [hC, h1, bnd], by rw [hM, h2, bnd, bnd, h3, bnd], h4⟩
  · exact Or.inr ⟨c, S, σ', τ', by rw [hC, h1, bnd], by rw [hM, h2, bnd, bnd, h3, bnd], h4⟩
theorem P_stmt {t : Nat → Int32} {len p hc ac : Nat} {σ τ : f_M} (x : cX t len σ) (ct : cT t len σ p) (y : mX t len τ) (mt : mT t len τ p) (hp : p ≤ len) (hK : ¬ tkK t len p = 0) (d : dS σ (τ 156) hc ac) : stS t len σ τ p (g_27 σ) (g_62 τ) := by
  have w2 := C_14 (w := 2) x ct hp (by decide)
  have w3 := C_14 (w := 3) x ct hp (by decide)
  have w4 := C_14 (w := 4) x ct hp (by decide)
  have v2 := M_53 (w := 2) y mt hp (by decide)
  have v3 := M_53 (w := 3) y mt hp (by decide)
  have v4 := M_53 (w := 4) y mt hp (by decide)
  have b := d.2.2.2.2.2.2
  unfold g_27 g_62
  cases e2 : wd t len p 2
  · cases e3 : wd t len p 3
    · cases e4 : wd t len p 4
      · have e := mE_now (τ := τ) (c := 1) (S := tkS t len p) mt.1 (by omega) (by omega)
        refine Or.inr ⟨1, tkS t len p, f_up (f_up σ 3 6 1) 3 7 (σ 3 3), f_up (f_up τ 155 17 (nI 1)) 155 18 (τ 155 13), ?_, ?_, ⟨?_, ?_, e⟩, ?_, ?_, mFr_now.n.p⟩
        · rw [w2, e2, bnd, if_pos rfl, w3, e3, bnd, if_pos rfl, w4, e4, bnd, if_pos rfl, C_fail, bnd]
        · rw [v2, e2, bnd, if_pos rfl, v3, e3, bnd, if_pos rfl, v4, e4, bnd, if_pos rfl, M_ex0 y.2.2.2, bnd, bnd, show (1 : Int32) = nI 1 from rfl, M_61F e, bnd]
        · rw [up_ix (by omega), up_same]; rfl
        · rw [up_same]; exact ct.1
        · exact fb_keep b (by rw [up_rows (by omega), up_rows (by omega)])
        · exact fun r h => by rw [up_rows (by omega), up_rows (by omega)]
      · refine (P_res x ct y mt hp hK d).s ?_ ?_
        · rw [w2, e2, bnd, if_pos rfl, w3, e3, bnd, if_pos rfl, w4, e4, bnd, if_neg (by decide)]
        · rw [v2, e2, bnd, if_pos rfl, v3, e3, bnd, if_pos rfl, v4, e4, bnd, if_neg (by decide)]
    · refine (P_ass x ct y mt hp hK d).s ?_ ?_
      · rw [w2, e2, bnd, if_pos rfl, w3, e3, bnd, if_neg (by decide)]
      · rw [v2, e2, bnd, if_pos rfl, v3, e3, bnd, if_neg (by decide)]
  · refine (P_holder x ct y mt hp hK d).s ?_ ?_
    · rw [w2, e2, bnd, if_neg (by decide)]
    · rw [v2, e2, bnd, if_neg (by decide)]
