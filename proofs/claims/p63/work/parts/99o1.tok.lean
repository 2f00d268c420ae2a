/-! The setup's text: tokens at places that are known. -/
theorem fst_all {p : Nat → Bool} {n : Nat} (h : ∀ i, i < n → p i = false) : fstN p n = n := by
  refine Nat.le_antisymm (fstN_le p n) (Nat.le_of_not_lt fun hl => ?_)
  have := fstN_lt hl
  rw [h _ hl] at this
  exact absurd this (by decide)
theorem ltr_of {t : Nat → Int32} {i c : Nat} (h : t i = nI c) (h1 : 97 ≤ c) (h2 : c ≤ 122) : ltr t i = true ∧ blk t i = false := by
  unfold ltr blk
  rw [h, decide_eq_false (by rw [n_lt (by omega) (by omega)]; omega), decide_eq_false (by rw [n_lt (by omega) (by omega)]; omega), decide_eq_false (by rw [n_eq (by omega) (by omega)]; omega), decide_eq_false (by rw [n_eq (by omega) (by omega)]; omega)]
  exact ⟨rfl, rfl⟩
theorem dgt_of {t : Nat → Int32} {i c : Nat} (h : t i = nI c) (h1 : 48 ≤ c) (h2 : c ≤ 57) : dgt t i = true ∧ ltr t i = false ∧ blk t i = false := by
  unfold dgt ltr blk
  rw [h, decide_eq_false (show ¬ nI c < nI 48 by rw [n_lt (by omega) (by omega)]; omega), decide_eq_false (show ¬ nI 57 < nI c by rw [n_lt (by omega) (by omega)]; omega), decide_eq_true (show nI c < nI 97 by rw [n_lt (by omega) (by omega)]; omega), decide_eq_false (show ¬ nI c = nI 32 by rw [n_eq (by omega) (by omega)]; omega), decide_eq_false (show ¬ nI c = nI 10 by rw [n_eq (by omega) (by omega)]; omega)]
  exact ⟨rfl, rfl, rfl⟩
theorem blk_of {t : Nat → Int32} {i : Nat} (h : t i = nI 32) : blk t i = true ∧ ltr t i = false ∧ dgt t i = false := by
  unfold blk ltr dgt
  rw [h]
  exact ⟨by decide, by decide, by decide⟩
theorem sem_of {t : Nat → Int32} {i : Nat} (h : t i = nI 59) : blk t i = false ∧ ltr t i = false ∧ dgt t i = false := by
  unfold blk ltr dgt
  rw [h]
  exact ⟨by decide, by decide, by decide⟩
/-- a word -/
theorem tk_w {t : Nat → Int32} {len p S E : Nat} (hp : p ≤ S) (hS : S < E) (hE : E ≤ len) (h8 : E - S ≤ 8) (hb : ∀ i, p ≤ i → i < S → blk t i = true) (hb' : blk t S = false) (hl : ∀ i, S ≤ i → i < E → ltr t i = true) (he : ltr t E = false) : tkS t len p = S ∧ tkE t len p = E ∧ tkK t len p = 1 := by
  have e1 : tkS t len p = S := by
    show nxt (fun i => !blk t i) len p = S
    exact nxt_eq hp (by omega) (fun i h1 h2 => by show (!blk t i) = false; rw [hb i h1 h2]; rfl) (fun _ => by show (!blk t S) = true; rw [hb']; rfl)
  have e2 : tkE t len p = E := by
    unfold tkE
    rw [e1, if_neg (by omega), if_pos (hl S (Nat.le_refl _) hS)]
    exact nxt_eq (by omega) hE (fun i h1 h2 => by show (!ltr t i) = false; rw [hl i h1 h2]; rfl) (fun h => by show (!ltr t E) = true; rw [he]; rfl)
  refine ⟨e1, e2, ?_⟩
  unfold tkK
  rw [e2, e1, if_neg (by omega), if_pos (hl S (Nat.le_refl _) hS), if_pos h8]
/-- a number -/
theorem tk_d {t : Nat → Int32} {len p S E : Nat} (hp : p ≤ S) (hS : S < E) (hE : E ≤ len) (h8 : E - S ≤ 4) (hb : ∀ i, p ≤ i → i < S → blk t i = true) (hl : ∀ i, S ≤ i → i < E → dgt t i = true ∧ ltr t i = false ∧ blk t i = false) (he : dgt t E = false) : tkS t len p = S ∧ tkE t len p = E ∧ tkK t len p = 2 := by
  obtain ⟨s1, s2, s3⟩ := hl S (Nat.le_refl _) hS
  have e1 : tkS t len p = S := by
    show nxt (fun i => !blk t i) len p = S
    exact nxt_eq hp (by omega) (fun i h1 h2 => by show (!blk t i) = false; rw [hb i h1 h2]; rfl) (fun _ => by show (!blk t S) = true; rw [s3]; rfl)
  have e2 : tkE t len p = E := by
    unfold tkE
    rw [e1, if_neg (by omega), s2, if_neg (by decide), if_pos s1]
    exact nxt_eq (by omega) hE (fun i h1 h2 => by show (!dgt t i) = false; rw [(hl i h1 h2).1]; rfl) (fun h => by show (!dgt t E) = true; rw [he]; rfl)
  refine ⟨e1, e2, ?_⟩
  unfold tkK
  rw [e2, e1, if_neg (by omega), s2, if_neg (by decide), if_pos s1, if_pos h8]
/-- a semicolon -/
theorem tk_m {t : Nat → Int32} {len p : Nat} (hp : p < len) (h : t p = nI 59) : tkS t len p = p ∧ tkE t len p = p + 1 ∧ tkK t len p = 3 := by
  obtain ⟨s1, s2, s3⟩ := sem_of h
  have e1 : tkS t len p = p := by
    show nxt (fun i => !blk t i) len p = p
    exact nxt_eq (Nat.le_refl _) (by omega) (fun i h1 h2 => absurd h1 (by omega)) (fun _ => by show (!blk t p) = true; rw [s1]; rfl)
  refine ⟨e1, ?_, ?_⟩
  · unfold tkE
    rw [e1, if_neg (by omega), s2, if_neg (by decide), s3, if_neg (by decide)]
  · unfold tkK
    rw [e1, if_neg (by omega), s2, if_neg (by decide), s3, if_neg (by decide), if_pos h]
/-- the end -/
theorem tk_end {t : Nat → Int32} {len : Nat} : tkK t len len = 0 := by
  have e1 : tkS t len len = len := by
    show nxt (fun i => !blk t i) len len = len
    exact nxt_eq (Nat.le_refl _) (Nat.le_refl _) (fun i h1 h2 => absurd h1 (by omega)) (fun h => absurd h (by omega))
  unfold tkK
  rw [e1, if_pos rfl]
theorem wd_yes {t : Nat → Int32} {len p w : Nat} (hK : tkK t len p = 1) (hn : tkE t len p - tkS t len p = w_sl.getD w 0) (h : ∀ k, k < w_sl.getD w 0 → t (tkS t len p + k) = (w_sb.getD w []).getD k 0 &&& 255) : wd t len p w = true := by
  unfold wd
  rw [decide_eq_true hK, decide_eq_true hn, decide_eq_true (fst_all fun k hk => by show (!decide (t (tkS t len p + k) = (w_sb.getD w []).getD k 0 &&& 255)) = false; rw [decide_eq_true (h k hk)]; rfl)]
  rfl
theorem wd_no {t : Nat → Int32} {len p w : Nat} (hn : ¬ tkE t len p - tkS t len p = w_sl.getD w 0) : wd t len p w = false := by
  unfold wd
  rw [decide_eq_false hn, Bool.false_and, Bool.and_false]
theorem num_ok {t : Nat → Int32} {len p v b : Nat} (hK : tkK t len p = 2) (hv : numV t len p = nI v) (h : v ≤ b) (hb : b < 2147483648) : numO t len p (nI 0) (nI b) = 0 := by
  unfold numO
  rw [if_pos hK, hv, if_neg (by rw [n_lt (by omega) (by omega)]; omega), if_neg (by rw [n_lt (by omega) (by omega)]; omega)]
theorem C_semi {t : Nat → Int32} {len p : Nat} {σ : f_M} (x : cX t len σ) (h4 : σ 3 4 = nI p) (hp : p ≤ len) (hK : tkK t len p = 3) : ∃ σ', g_23 σ = some (true, σ') ∧ cX t len σ' ∧ σ' 3 4 = nI (tkE t len p) ∧ cFr σ σ' := by
  obtain ⟨σ1, e1, x', ct, fr⟩ := C_next x h4 hp
  refine ⟨σ1, ?_, x', ct.2.1, fr⟩
  unfold g_23
  rw [e1, bnd, ct.2.2, hK, if_pos (show nI 3 = (3 : Int32) from rfl), bnd]
theorem C_name {t : Nat → Int32} {len p : Nat} {σ : f_M} (x : cX t len σ) (h4 : σ 3 4 = nI p) (hp : p ≤ len) (hK : tkK t len p = 1) (h6 : tkE t len p - tkS t len p ≤ 6) : ∃ σ', g_16 σ = some (true, σ') ∧ cX t len σ' ∧ cT t len σ' p ∧ cFr σ σ' := by
  obtain ⟨σ1, e1, x', ct, fr⟩ := C_next x h4 hp
  refine ⟨σ1, ?_, x', ct, fr⟩
  unfold g_16
  rw [e1, bnd, ct.2.2, hK, if_neg (show ¬ ¬ nI 1 = (1 : Int32) by decide), C_11 ct hp, bnd, if_pos (by rw [show (6 : Int32) = nI 6 from rfl, n_le (by omega) (by omega)]; exact h6), bnd]
/-- a reserve -/
theorem S_res {t : Nat → Int32} {len p E v hc ac : Nat} {σ : f_M} {s : Nat → Int32} (x : cX t len σ) (ct : cT t len σ p) (d : dS σ s hc ac) (hE : E + 1 ≤ len) (hp : p + 7 ≤ E) (w : tkS t len p = p ∧ tkE t len p = p + 7 ∧ tkK t len p = 1) (wl : ∀ k, k < 7 → t (p + k) = (w_sb.getD 4 []).getD k 0 &&& 255) (e2 : tkE t len (p + 7) = E ∧ tkK t len (p + 7) = 2) (hv : numV t len (p + 7) = nI v) (hv9 : v ≤ 9999) (e3 : tkE t len E = E + 1 ∧ tkK t len E = 3) :
    ∃ σ', g_27 σ = some (true, σ') ∧ cX t len σ' ∧ σ' 3 4 = nI (E + 1) ∧ dS σ' (upd s 1 (nI v)) hc ac ∧ sFr σ σ' := by
  obtain ⟨w1, w2, w3⟩ := w
  have hd : tkE t len p - tkS t len p = 7 := by omega
  have n2 : wd t len p 2 = false := wd_no (by rw [hd]; decide)
  have n3 : wd t len p 3 = false := wd_no (by rw [hd]; decide)
  have n4 : wd t len p 4 = true := wd_yes w3 (by rw [hd]; rfl) (fun k hk => by rw [w1]; exact wl k hk)
  obtain ⟨σ1, c1, x1, h41, h51, f1⟩ := (C_num (nI 0) (nI 9999) x (by rw [ct.2.1, w2] : σ 3 4 = nI (p + 7)) (by omega)).1 (num_ok e2.2 hv hv9 (by omega))
  rw [hv] at h51
  rw [e2.1] at h41
  obtain ⟨σ2, c2, x2, h42, f2⟩ := C_semi (σ := f_up σ1 5 6 (nI v)) (p := E) (cX_keep x1 (up_rows (by decide)) (up_rows (by decide))) (by rw [up_rows (by decide)]; exact h41) (by omega) e3.2
  rw [e3.1] at h42
  refine ⟨σ2, ?_, x2, h42, dS_res d ⟨v, by omega, rfl⟩ ?_ (fun r h1 h2 => by rw [f2 r (by omega), up_rows (by omega), f1 r (by omega)]), fun r hr => by rw [f2 r (by omega), up_rows (by omega), f1 r (by omega)]⟩
  · unfold g_27
    rw [C_14 x ct (by omega) (by decide), n2, bnd, if_pos rfl, C_14 x ct (by omega) (by decide), n3, bnd, if_pos rfl, C_14 x ct (by omega) (by decide), n4, bnd, if_neg (by decide)]
    unfold g_26
    rw [show g_22 (0 : Int32) (9999 : Int32) σ = some (true, σ1) from c1, bnd, if_pos rfl]
    dsimp only
    rw [h51, c2, bnd, bnd]
  · rw [f2 5 (by decide), show f_up σ1 5 6 (nI v) 5 = upd (σ1 5) 6 (nI v) from row_same _ _ _, f1 5 (by decide)]
/-- a holder, of a name of one letter -/
theorem S_hol {t : Nat → Int32} {len p E v hc ac : Nat} {σ : f_M} {s : Nat → Int32} (x : cX t len σ) (ct : cT t len σ p) (d : dS σ s hc ac) (h8 : hc < 8) (hE : E + 1 ≤ len) (hp : p + 8 ≤ E) (w : tkS t len p = p ∧ tkE t len p = p + 6 ∧ tkK t len p = 1) (wl : ∀ k, k < 6 → t (p + k) = (w_sb.getD 2 []).getD k 0 &&& 255) (nm : tkS t len (p + 6) = p + 7 ∧ tkE t len (p + 6) = p + 8 ∧ tkK t len (p + 6) = 1) (hno : ∀ h, h < hc → ¬ s (20 + 9 * h + 1) = t (p + 7)) (e2 : tkE t len (p + 8) = E ∧ tkK t len (p + 8) = 2) (hv : numV t len (p + 8) = nI v) (hv9 : v ≤ 9999) (e3 : tkE t len E = E + 1 ∧ tkK t len E = 3) :
    ∃ σ', g_27 σ = some (true, σ') ∧ cX t len σ' ∧ σ' 3 4 = nI (E + 1) ∧ dS σ' (s_addH s t (p + 7) 1 hc (nI v)) (hc + 1) ac ∧ sFr σ σ' := by
  obtain ⟨w1, w2, w3⟩ := w
  obtain ⟨m1, m2, m3⟩ := nm
  have hd : tkE t len p - tkS t len p = 6 := by omega
  have hdm : tkE t len (p + 6) - tkS t len (p + 6) = 1 := by omega
  have n2 : wd t len p 2 = true := wd_yes w3 (by rw [hd]; rfl) (fun k hk => by rw [w1]; exact wl k hk)
  have b := d.2.2.2.2.2.2
  obtain ⟨σ1, c1, x1, ct1, f1⟩ := C_name x (by rw [ct.2.1, w2] : σ 3 4 = nI (p + 6)) (by omega) m3 (by omega)
  have h0 : σ1 5 0 = nI hc := by rw [f1 5 (by decide)]; exact d.1.1
  have hN : rNm σ1 5 s hc := dS_names (dS_keep (σ' := σ1) d (fun r h1 h2 => f1 r (by omega)))
  have hcf := C_find (a := 5) x1 ct1 (by omega) m3 (by omega) h0 (by omega)
  rw [hdm, m1] at hcf
  rw [cm_mm (by omega) hN] at hcf
  have hnone : fstN (mm s t (p + 7) 1) hc = hc := fst_all fun h hh => by
    unfold mm
    have e : fstN (fun k => !decide (s (20 + 9 * h + 1 + k) = t (p + 7 + k))) 1 = 0 := by
      unfold fstN fstN
      rw [if_neg (by omega), if_pos]
      show (!decide (s (20 + 9 * h + 1 + 0) = t (p + 7 + 0))) = true
      rw [Nat.add_zero, Nat.add_zero, decide_eq_false (hno h hh)]; rfl
    rw [e, decide_eq_false (show ¬ 0 = 1 by decide), Bool.and_false]
  rw [hnone, if_neg (by omega)] at hcf
  have ctk := C_take x1 ct1 (by omega) m3 (by omega) h0 h8
  rw [hdm, m1] at ctk
  generalize hσ3 : f_row (f_up σ1 6 hc (nI 1)) 7 (wrO (6 * hc) (fun k => t (p + 7 + k)) (σ1 7) 1) = σ3 at *
  have r3 : ∀ r, r ≠ 6 → r ≠ 7 → σ3 r = σ1 r := fun r h1 h2 => by rw [← hσ3, row_ne h2, up_rows h1]
  have r36 : σ3 6 = upd (σ 6) hc (nI 1) := by rw [← hσ3, row_ne (by decide), ← f1 6 (by decide)]; exact row_same _ _ _
  have r37 : σ3 7 = wrO (6 * hc) (fun k => t (p + 7 + k)) (σ 7) 1 := by rw [← hσ3, row_same, f1 7 (by decide)]
  have lt9 : ∀ k, k < 1 → ltr t (p + 7 + k) = true := fun k hk => tk_word m3 (p + 7 + k) (by omega) (by omega)
  obtain ⟨σ4, c4, x4, h44, h54, f4⟩ := (C_num (σ := σ3) (nI 0) (nI 9999) (cX_keep x1 (r3 3 (by decide) (by decide)) (r3 1 (by decide) (by decide))) (by rw [r3 3 (by decide) (by decide), ct1.2.1, m2] : σ3 3 4 = nI (p + 8)) (by omega)).1 (num_ok e2.2 hv hv9 (by omega))
  rw [hv] at h54
  rw [e2.1] at h44
  have k50 : σ4 5 0 = nI hc := by rw [f4 5 (by decide), r3 5 (by decide) (by decide)]; exact h0
  obtain ⟨σ6, c6, x6, h46, f6⟩ := C_semi (σ := f_up (f_up σ4 8 hc (nI v)) 5 0 (nI (hc + 1))) (p := E) (cX_keep x4 (by rw [up_rows (by decide), up_rows (by decide)]) (by rw [up_rows (by decide), up_rows (by decide)])) (by rw [up_rows (by decide), up_rows (by decide)]; exact h44) (by omega) e3.2
  rw [e3.1] at h46
  refine ⟨σ6, ?_, x6, h46, dS_addH d h8 (Nat.le_refl _) (by omega) ⟨v, by omega, rfl⟩ lt9 ?_ ?_ ?_ ?_ ?_, fun r hr => by rw [f6 r (by omega), up_rows (by omega), up_rows (by omega), f4 r (by omega), r3 r (by omega) (by omega), f1 r (by omega)]⟩
  · unfold g_27
    rw [C_14 x ct (by omega) (by decide), n2, bnd, if_neg (by decide)]
    unfold g_24
    rw [if_pos (by rw [d.1.1, show (8 : Int32) = nI 8 from rfl, n_eq (by omega) (by omega)]; omega), c1, bnd, if_pos rfl, hcf, bnd, if_pos rfl, ctk, bnd, show g_22 (0 : Int32) (9999 : Int32) σ3 = some (true, σ4) from c4, bnd, if_pos rfl]
    dsimp only
    rw [k50, h54, f_wr_n h8 (by decide), bnd, up_rows (show 5 ≠ 8 by decide), k50, show (1 : Int32) = nI 1 from rfl, n_add, c6, bnd, bnd]
  · rw [f6 5 (by decide), show f_up (f_up σ4 8 hc (nI v)) 5 0 (nI (hc + 1)) 5 = upd (f_up σ4 8 hc (nI v) 5) 0 (nI (hc + 1)) from row_same _ _ _, up_rows (by decide), f4 5 (by decide), r3 5 (by decide) (by decide), f1 5 (by decide)]
  · rw [f6 6 (by decide), up_rows (by decide), up_rows (by decide), f4 6 (by decide), r36]
  · rw [f6 7 (by decide), up_rows (by decide), up_rows (by decide), f4 7 (by decide), r37]
  · rw [f6 8 (by decide), up_rows (by decide), show f_up σ4 8 hc (nI v) 8 = upd (σ4 8) hc (nI v) from row_same _ _ _, f4 8 (by decide), r3 8 (by decide) (by decide), f1 8 (by decide)]
  · rw [f6 9 (by decide), up_rows (by decide), up_rows (by decide), f4 9 (by decide), r3 9 (by decide) (by decide), f1 9 (by decide)]
/-- an assessor -/
theorem S_ass {t : Nat → Int32} {len p E v hc ac : Nat} {σ : f_M} {s : Nat → Int32} (x : cX t len σ) (ct : cT t len σ p) (d : dS σ s hc ac) (h3 : ac < 3) (hE : E + 1 ≤ len) (hp : p + 8 ≤ E) (w : tkS t len p = p ∧ tkE t len p = p + 8 ∧ tkK t len p = 1) (wl : ∀ k, k < 8 → t (p + k) = (w_sb.getD 3 []).getD k 0 &&& 255) (e2 : tkE t len (p + 8) = E ∧ tkK t len (p + 8) = 2) (hv : numV t len (p + 8) = nI v) (hv9 : v ≤ 9) (e3 : tkE t len E = E + 1 ∧ tkK t len E = 3) :
    ∃ σ', g_27 σ = some (true, σ') ∧ cX t len σ' ∧ σ' 3 4 = nI (E + 1) ∧ dS σ' (upd (upd s (95 + ac) (nI v)) 3 (nI (ac + 1))) hc (ac + 1) ∧ sFr σ σ' := by
  obtain ⟨w1, w2, w3⟩ := w
  have hd : tkE t len p - tkS t len p = 8 := by omega
  have n2 : wd t len p 2 = false := wd_no (by rw [hd]; decide)
  have n3 : wd t len p 3 = true := wd_yes w3 (by rw [hd]; rfl) (fun k hk => by rw [w1]; exact wl k hk)
  obtain ⟨σ1, c1, x1, h41, h51, f1⟩ := (C_num (nI 0) (nI 9) x (by rw [ct.2.1, w2] : σ 3 4 = nI (p + 8)) (by omega)).1 (num_ok e2.2 hv hv9 (by omega))
  rw [hv] at h51
  rw [e2.1] at h41
  have k54 : σ1 5 4 = nI ac := by rw [f1 5 (by decide)]; exact d.2.1.1
  obtain ⟨σ2, c2, x2, h42, f2⟩ := C_semi (σ := f_up (f_up σ1 9 ac (nI v)) 5 4 (nI (ac + 1))) (p := E) (cX_keep x1 (by rw [up_rows (by decide), up_rows (by decide)]) (by rw [up_rows (by decide), up_rows (by decide)])) (by rw [up_rows (by decide), up_rows (by decide)]; exact h41) (by omega) e3.2
  rw [e3.1] at h42
  refine ⟨σ2, ?_, x2, h42, dS_addA d h3 ⟨v, by omega, rfl⟩ ?_ ?_ (fun r h1 h2 => by rw [f2 r (by omega), up_rows (by omega), up_rows (by omega), f1 r (by omega)]), fun r hr => by rw [f2 r (by omega), up_rows (by omega), up_rows (by omega), f1 r (by omega)]⟩
  · unfold g_27
    rw [C_14 x ct (by omega) (by decide), n2, bnd, if_pos rfl, C_14 x ct (by omega) (by decide), n3, bnd, if_neg (by decide)]
    unfold g_25
    rw [if_pos (by rw [d.2.1.1, show (3 : Int32) = nI 3 from rfl, n_eq (by omega) (by omega)]; omega), show g_22 (0 : Int32) (9 : Int32) σ = some (true, σ1) from c1, bnd, if_pos rfl]
    dsimp only
    rw [k54, h51, f_wr_n h3 (by decide), bnd, up_rows (show 5 ≠ 9 by decide), k54, show (1 : Int32) = nI 1 from rfl, n_add, c2, bnd, bnd]
  · rw [f2 5 (by decide), show f_up (f_up σ1 9 ac (nI v)) 5 4 (nI (ac + 1)) 5 = upd (f_up σ1 9 ac (nI v) 5) 4 (nI (ac + 1)) from row_same _ _ _, up_rows (by decide), f1 5 (by decide)]
  · rw [f2 9 (by decide), up_rows (by decide), show f_up σ1 9 ac (nI v) 9 = upd (σ1 9) ac (nI v) from row_same _ _ _, f1 9 (by decide)]
