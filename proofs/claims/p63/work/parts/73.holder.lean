/-! A holder of a setup, read by both. -/
def sFr (σ σ' : f_M) : Prop := ∀ r, (r < 3 ∨ 9 < r) → σ' r = σ r
def pFr (τ τ' : f_M) : Prop := (∀ r, r ≠ 155 → r ≠ 156 → r ≠ 160 → τ' r = τ r) ∧ ∀ i, (i < 8 ∨ (8 < i ∧ i < 13) ∨ 18 < i) → τ' 155 i = τ 155 i
theorem sFr.trans {a b c : f_M} (h1 : sFr a b) (h2 : sFr b c) : sFr a c := fun r h => (h2 r h).trans (h1 r h)
theorem pFr.trans {a b c : f_M} (h1 : pFr a b) (h2 : pFr b c) : pFr a c := ⟨fun r h h' h9 => (h2.1 r h h' h9).trans (h1.1 r h h' h9), fun i h => (h2.2 i h).trans (h1.2 i h)⟩
theorem cFr.s {a b : f_M} (h : cFr a b) : sFr a b := fun r hr => h r (by omega)
theorem nFr.p {a b : f_M} (h : nFr a b) : pFr a b := ⟨fun r h1 _ h3 => h.1 r h1 h3, h.2⟩
theorem pFr_row (τ : f_M) (s : Nat → Int32) : pFr τ (f_row τ 156 s) := ⟨fun r _ h _ => row_ne h, fun i _ => by rw [row_ne (by omega)]⟩
theorem mE.pos {τ : f_M} {c S : Nat} (h : mE τ c S) : 0 < τ 155 17 := by
  rw [h.1, show (0 : Int32) = nI 0 from rfl, n_lt (by omega) (by have := h.2.2.2; omega)]; exact h.2.2.1
theorem cX_keep {t : Nat → Int32} {len : Nat} {σ σ' : f_M} (x : cX t len σ) (h3 : σ' 3 = σ 3) (h1 : σ' 1 = σ 1) : cX t len σ' := by
  unfold cX; rw [h3, h1]; exact x
theorem cT_keep {t : Nat → Int32} {len p : Nat} {σ σ' : f_M} (x : cT t len σ p) (h3 : σ' 3 = σ 3) : cT t len σ' p := by
  unfold cT; rw [h3]; exact x
theorem mX_keep {t : Nat → Int32} {len : Nat} {τ τ' : f_M} (x : mX t len τ) (h : ∀ i, 9 < i → i < 19 → τ' 155 i = τ 155 i) (h1 : τ' 161 = τ 161) : mX t len τ' := by
  unfold mX; rw [h 10 (by omega) (by omega), h 17 (by omega) (by omega), h1]; exact x
theorem mT_keep {t : Nat → Int32} {len p : Nat} {τ τ' : f_M} (x : mT t len τ p) (h : ∀ i, 9 < i → i < 19 → τ' 155 i = τ 155 i) : mT t len τ' p := by
  unfold mT; rw [h 13 (by omega) (by omega), h 14 (by omega) (by omega), h 15 (by omega) (by omega), h 16 (by omega) (by omega)]; exact x
theorem LG_keep {t : Nat → Int32} {len p : Nat} {σ σ' τ τ' : f_M} (g : LG t len σ τ p) (h3 : σ' 3 = σ 3) (h1 : σ' 1 = σ 1) (h : ∀ i, 9 < i → i < 19 → τ' 155 i = τ 155 i) (h161 : τ' 161 = τ 161) : LG t len σ' τ' p :=
  ⟨⟨cX_keep g.1.1 h3 h1, by rw [h3]; exact g.1.2⟩, g.2.1, mX_keep g.2.2.1 h h161, mT_keep g.2.2.2 h⟩
theorem rng_n {v : Int32} {a b : Nat} (ha : a < 2147483648) (hb : b < 2147483648) (h1 : ¬ v < nI a) (h2 : ¬ nI b < v) : ∃ m, a ≤ m ∧ m ≤ b ∧ v = nI m := by
  rcases n_cases v with h | ⟨m, hm, rfl⟩
  · exfalso
    refine h1 ?_
    by_cases h0 : a = 0
    · subst h0; exact h
    · exact Int32.lt_trans h (by rw [show (0 : Int32) = nI 0 from rfl, n_lt (by omega) ha]; omega)
  · rw [n_lt hm ha] at h1
    rw [n_lt hb hm] at h2
    exact ⟨m, by omega, by omega, rfl⟩
/-- what a statement of a setup comes to -/
def stR (t : Nat → Int32) (len : Nat) (σ τ : f_M) (p : Nat) (C : Option (Bool × f_M)) (M : Option f_M) : Prop :=
  (∃ p' hc' ac' σ' τa τ', C = some (true, σ') ∧ M = some τa ∧ g_61 τa = some τ' ∧ LG t len σ' τ' p' ∧ p < p' ∧ dS σ' (τ' 156) hc' ac' ∧ sFr σ σ' ∧ pFr τ τ') ∨
  ∃ c S σ' τa τ', C = some (false, σ') ∧ M = some τa ∧ g_61 τa = some τ' ∧ FL σ' τ' c S ∧ fb σ' ∧ sFr σ σ' ∧ pFr τ τ'
theorem fb_keep {σ σ' : f_M} (b : fb σ) (h : σ' 7 = σ 7) : fb σ' := by
  unfold fb; rw [h]; exact b
theorem P_holder {t : Nat → Int32} {len p hc ac : Nat} {σ τ : f_M} (x : cX t len σ) (ct : cT t len σ p) (y : mX t len τ) (mt : mT t len τ p) (hp : p ≤ len) (hK : ¬ tkK t len p = 0) (d : dS σ (τ 156) hc ac) : stR t len σ τ p (g_24 σ) (g_58 τ) := by
  have hS := tkS_le (t := t) hp
  have hE := tkE_le (t := t) hp
  have hlt := hE.2.2 hK
  have b := d.2.2.2.2.2.2
  by_cases h8 : hc = 8
  · have e := mE_now (τ := τ) (c := 4) (S := tkS t len p) mt.1 (by omega) (by omega)
    have e' := mE_8 (v := nI 0) e
    refine Or.inr ⟨4, tkS t len p, f_up (f_up σ 3 6 4) 3 7 (σ 3 3), f_up (f_up (f_up τ 155 17 (nI 4)) 155 18 (τ 155 13)) 155 8 (nI 0), _, ?_, ?_, M_61F e', ⟨?_, ?_, e'⟩, ?_, ?_, (mFr_now.n.trans nFr_8).p⟩
    · unfold g_24
      rw [d.1.1, h8, if_neg (fun h => h rfl), C_fail, bnd]
    · unfold g_58
      rw [show (2 : Int32) = nI 2 from rfl, rdS (by omega), bnd, d.1.2.1, h8, if_pos (by decide), bnd, M_ex0 y.2.2.2, bnd, show (4 : Int32) = nI 4 from rfl, M_51F e, bnd, M_55F e, bnd, if_pos e'.pos, bnd, M_exF e', bnd, M_51F e', bnd, M_57F e', bnd, if_pos e'.ne, bnd]
    · rw [up_ix (by omega), up_same]; rfl
    · rw [up_same]; exact ct.1
    · exact fb_keep b (by rw [up_rows (by omega), up_rows (by omega)])
    · exact fun r h => by rw [up_rows (by omega), up_rows (by omega)]
  · have h8' : hc < 8 := by have := d.1.2.2; omega
    have hne : ¬ σ 5 0 = 8 := by rw [d.1.1, show (8 : Int32) = nI 8 from rfl, n_eq (by omega) (by omega)]; exact h8
    have hnl : ¬ (8 : Int32) ≤ nI hc := by rw [show (8 : Int32) = nI 8 from rfl, n_le (by omega) (by omega)]; omega
    obtain ⟨τ1, n1, y1, m1, f1⟩ := M_next y mt.2.1 hE.2.1
    have g1 : LG t len σ τ1 (tkE t len p) := ⟨⟨x, ct.2.1⟩, hE.2.1, y1, m1⟩
    rcases P_name g1 with ⟨σ2, τ2, c2, m2, ⟨x2, ct2⟩, ⟨y2, mt2⟩, hK2, h62, e8, el, fc2, fm2⟩ | ⟨c, S, σ2, τ2, c2, m2, fl, fc2, fm2⟩
    · have hS2 := tkS_le (t := t) hE.2.1
      have hE2 := tkE_le (t := t) hE.2.1
      have hlt2 := hE2.2.2 (by omega)
      have hw2 := tk_word hK2
      have e156 : τ2 156 = τ 156 := (fm2.1 156 (by omega) (by omega)).trans (f1.1 156 (by omega))
      have h02 : σ2 5 0 = nI hc := by rw [fc2 5 (by omega)]; exact d.1.1
      have h22 : τ2 156 2 = nI hc := by rw [e156]; exact d.1.2.1
      have hN : rNm σ2 5 (τ2 156) hc := by
        have := dS_names (dS_keep (σ' := σ2) d (fun r h1 h2 => fc2 r (by omega)))
        rw [e156]; exact this
      have hcf := C_find (a := 5) x2 ct2 hE.2.1 hK2 h62 h02 (by omega)
      have hmf := M_find e8 h62 el h22 (by omega)
      rw [cm_mm h62 hN] at hcf
      have z17 : ¬ 0 < τ2 155 17 := by rw [y2.2.2.2]; decide
      have ctk := C_take x2 ct2 hE.2.1 hK2 h62 h02 h8'
      by_cases hf : fstN (mm (τ2 156) t (tkS t len (tkE t len p)) (tkE t len (tkE t len p) - tkS t len (tkE t len p))) hc < hc
      · rw [if_pos hf] at hcf hmf
        have ne1 := n_neg1 (a := fstN (mm (τ2 156) t (tkS t len (tkE t len p)) (tkE t len (tkE t len p) - tkS t len (tkE t len p))) hc) (by omega)
        have e := mE_now (τ := τ2) (c := 3) (S := tkS t len (tkE t len p)) mt2.1 (by omega) (by omega)
        refine Or.inr ⟨3, tkS t len (tkE t len p), f_up (f_up σ2 3 6 3) 3 7 (σ2 3 3), _, _, ?_, ?_, M_61F e, ⟨?_, ?_, e⟩, ?_, ?_, (f1.n.trans (fm2.trans mFr_now.n)).p⟩
        · unfold g_24
          rw [if_pos hne, c2, bnd, if_pos rfl, hcf, bnd, if_neg ne1, C_fail, bnd]
        · unfold g_58
          rw [show (2 : Int32) = nI 2 from rfl, rdS (by omega), bnd, d.1.2.1, if_neg hnl, bnd, M_exT, bnd, n1, bnd, m2, bnd, if_neg z17, hmf, bnd, if_pos ne1, bnd, M_ex0 y2.2.2.2, bnd, show (3 : Int32) = nI 3 from rfl, M_51F e, bnd, M_57F e, bnd, if_pos e.ne, bnd]
        · rw [up_ix (by omega), up_same]; rfl
        · rw [up_same]; exact ct2.1
        · exact fb_keep b (by rw [up_rows (by omega), up_rows (by omega), fc2 7 (by omega)])
        · exact fun r h => by rw [up_rows (by omega), up_rows (by omega), fc2 r (by omega)]
      · rw [if_neg hf] at hcf hmf
        obtain ⟨τ3, n3, y3, m3, f3⟩ := M_next y2 mt2.2.1 hE2.2.1
        generalize hn : tkE t len (tkE t len p) - tkS t len (tkE t len p) = n at *
        generalize hS9 : tkS t len (tkE t len p) = S at *
        generalize hσ3 : f_row (f_up σ2 6 hc (nI n)) 7 (wrO (6 * hc) (fun k => t (S + k)) (σ2 7) n) = σ3 at *
        have r3 : ∀ r, r ≠ 6 → r ≠ 7 → σ3 r = σ2 r := fun r h1 h2 => by rw [← hσ3, row_ne h2, up_rows h1]
        have r36 : σ3 6 = upd (σ 6) hc (nI n) := by rw [← hσ3, row_ne (by omega), ← fc2 6 (by omega)]; exact row_same _ _ _
        have r37 : σ3 7 = wrO (6 * hc) (fun k => t (S + k)) (σ 7) n := by rw [← hσ3, row_same, fc2 7 (by omega)]
        have lt9 : ∀ k, k < n → ltr t (S + k) = true := fun k hk => hw2 (S + k) (by omega) (by omega)
        have fb3 : fb σ3 := fb_take b r37 lt9
        have s3 : sFr σ σ3 := fun r h => by rw [r3 r (by omega) (by omega), fc2 r (by omega)]
        have g3 : LG t len σ3 τ3 (tkE t len (tkE t len p)) := ⟨⟨cX_keep x2 (r3 3 (by omega) (by omega)) (r3 1 (by omega) (by omega)), by rw [r3 3 (by omega) (by omega)]; exact ct2.2.1⟩, hE2.2.1, y3, m3⟩
        rcases P_num 0 9999 g3 with ⟨p4, σ4, τ4, c4, m4, lo4, hi4, g4, lt4, fc4, fm4⟩ | ⟨c, S', σ4, τ4, c4, m4, fl, fc4, fm4⟩
        · have v4 : isN (σ4 3 5) 10000 := by
            obtain ⟨m, -, h2, e⟩ := rng_n (v := σ4 3 5) (a := 0) (b := 9999) (by omega) (by omega) lo4 hi4
            exact ⟨m, by omega, e⟩
          have k50 : σ4 5 0 = nI hc := by rw [fc4 5 (by omega), r3 5 (by omega) (by omega)]; exact h02
          have t156 : τ4 156 = τ 156 := by rw [fm4.1 156 (by omega), f3.1 156 (by omega)]; exact e156
          have t8 : τ4 155 8 = nI n := by rw [fm4.2 8 (by omega), f3.2 8 (by omega)]; exact e8
          have t160 : ∀ k, k < n → τ4 160 k = t (S + k) := fun k hk => by rw [fm4.1 160 (by omega), f3.1 160 (by omega)]; exact el k hk
          have add := M_addH (b := σ4 3 5) t8 h62 t160 (by rw [t156]; exact d.1.2.1) h8'
          have g5 : LG t len (f_up (f_up σ4 8 hc (σ4 3 5)) 5 0 (nI (hc + 1))) (f_row τ4 156 (s_addH (τ4 156) t S n hc (σ4 3 5))) p4 :=
            LG_keep g4 (by rw [up_rows (by omega), up_rows (by omega)]) (by rw [up_rows (by omega), up_rows (by omega)]) (fun i _ _ => by rw [row_ne (by omega)]) (row_ne (by omega))
          have d5 : dS (f_up (f_up σ4 8 hc (σ4 3 5)) 5 0 (nI (hc + 1))) (s_addH (τ 156) t S n hc (σ4 3 5)) (hc + 1) ac := by
            refine dS_addH d h8' (by omega) h62 v4 lt9 ?_ ?_ ?_ ?_ ?_
            · rw [show f_up (f_up σ4 8 hc (σ4 3 5)) 5 0 (nI (hc + 1)) 5 = upd (f_up σ4 8 hc (σ4 3 5) 5) 0 (nI (hc + 1)) from row_same _ _ _, up_rows (by omega), fc4 5 (by omega), r3 5 (by omega) (by omega), fc2 5 (by omega)]
            · rw [up_rows (by omega), up_rows (by omega), fc4 6 (by omega), r36]
            · rw [up_rows (by omega), up_rows (by omega), fc4 7 (by omega), r37]
            · rw [up_rows (by omega), show f_up σ4 8 hc (σ4 3 5) 8 = upd (σ4 8) hc (σ4 3 5) from row_same _ _ _, fc4 8 (by omega), r3 8 (by omega) (by omega), fc2 8 (by omega)]
            · rw [up_rows (by omega), up_rows (by omega), fc4 9 (by omega), r3 9 (by omega) (by omega), fc2 9 (by omega)]
          have s5 : sFr σ (f_up (f_up σ4 8 hc (σ4 3 5)) 5 0 (nI (hc + 1))) := fun r h => by rw [up_rows (by omega), up_rows (by omega), fc4 r (by omega), s3 r h]
          have q5 : pFr τ (f_row τ4 156 (s_addH (τ4 156) t S n hc (σ4 3 5))) := (f1.n.trans (fm2.trans (f3.n.trans fm4.n))).p.trans (pFr_row _ _)
          have cc : g_24 σ = (g_23 (f_up (f_up σ4 8 hc (σ4 3 5)) 5 0 (nI (hc + 1)))).bind fun t6 => some (t6.1, t6.2) := by
            unfold g_24
            rw [if_pos hne, c2, bnd, if_pos rfl, hcf, bnd, if_pos rfl, ctk, bnd, c4, bnd, if_pos rfl]
            dsimp only
            rw [k50, f_wr_n h8' (by omega), bnd, up_rows (by omega), k50, show (1 : Int32) = nI 1 from rfl, n_add]
          have mm9 : g_58 τ = some (f_row τ4 156 (s_addH (τ4 156) t S n hc (σ4 3 5))) := by
            unfold g_58
            rw [show (2 : Int32) = nI 2 from rfl, rdS (by omega), bnd, d.1.2.1, if_neg hnl, bnd, M_exT, bnd, n1, bnd, m2, bnd, if_neg z17, hmf, bnd, if_neg (fun h => h rfl), bnd, M_exT, bnd, n3, bnd, m4, bnd, if_neg (fun h => h g4.2.2.1.2.2.2), add, bnd, bnd]
          rcases P_semi g5 with ⟨p6, σ6, τ6, c6, m6, g6, lt6, fc6, fm6⟩ | ⟨c, S', σ6, τ6, c6, m6, fl, fc6, fm6⟩
          · refine Or.inl ⟨p6, hc + 1, ac, σ6, _, τ6, by rw [cc, c6, bnd], mm9, m6, g6, by omega, ?_, s5.trans fc6.s, q5.trans fm6.n.p⟩
            rw [fm6.1 156 (by omega), row_same, t156]
            exact dS_keep d5 (fun r _ _ => fc6 r (by omega))
          · refine Or.inr ⟨c, S', σ6, _, τ6, by rw [cc, c6, bnd], mm9, m6, fl, ?_, s5.trans fc6.s, q5.trans fm6.n.p⟩
            exact fb_keep d5.2.2.2.2.2.2 (fc6 7 (by omega))
        · refine Or.inr ⟨c, S', σ4, τ4, τ4, ?_, ?_, M_61F fl.2.2, fl, fb_keep fb3 (fc4 7 (by omega)), s3.trans fc4.s, (f1.n.trans (fm2.trans (f3.n.trans fm4.n))).p⟩
          · unfold g_24
            rw [if_pos hne, c2, bnd, if_pos rfl, hcf, bnd, if_pos rfl, ctk, bnd, c4, bnd]
            rfl
          · unfold g_58
            rw [show (2 : Int32) = nI 2 from rfl, rdS (by omega), bnd, d.1.2.1, if_neg hnl, bnd, M_exT, bnd, n1, bnd, m2, bnd, if_neg z17, hmf, bnd, if_neg (fun h => h rfl), bnd, M_exT, bnd, n3, bnd, m4, bnd, if_pos fl.2.2.ne, bnd]
    · refine Or.inr ⟨c, S, σ2, τ2, τ2, ?_, ?_, M_61F fl.2.2, fl, fb_keep b (fc2 7 (by omega)), fc2.s, (f1.n.trans fm2).p⟩
      · unfold g_24
        rw [if_pos hne, c2, bnd]
        rfl
      · unfold g_58
        rw [show (2 : Int32) = nI 2 from rfl, rdS (by omega), bnd, d.1.2.1, if_neg hnl, bnd, M_exT, bnd, n1, bnd, m2, bnd, if_pos fl.2.2.pos, bnd, M_exF fl.2.2, bnd, M_51F fl.2.2, bnd, M_57F fl.2.2, bnd, if_pos fl.2.2.ne, bnd]
