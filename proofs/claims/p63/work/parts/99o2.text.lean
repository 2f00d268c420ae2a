/-! The setup's text: the law's statements, read one after the other. -/
theorem gd_l {a b : List Int32} {i : Nat} (h : i < a.length) : (a ++ b).getD i 0 = a.getD i 0 := by
  rw [List.getD_eq_getElem?_getD, List.getD_eq_getElem?_getD, List.getElem?_append_left h]
theorem gd_r {a b : List Int32} {i : Nat} : (a ++ b).getD (a.length + i) 0 = b.getD i 0 := by
  rw [List.getD_eq_getElem?_getD, List.getD_eq_getElem?_getD, List.getElem?_append_right (by omega), Nat.add_sub_cancel_left]
/-- a piece of a text -/
def sg (t : Nat → Int32) (p : Nat) (l : List Int32) : Prop := ∀ i, i < l.length → t (p + i) = l.getD i 0
theorem sg_l {t : Nat → Int32} {p : Nat} {a b : List Int32} (h : sg t p (a ++ b)) : sg t p a := fun i hi => by
  rw [h i (by rw [List.length_append]; omega), gd_l hi]
theorem sg_r {t : Nat → Int32} {p : Nat} {a b : List Int32} (h : sg t p (a ++ b)) : sg t (p + a.length) b := fun i hi => by
  rw [Nat.add_assoc, h (a.length + i) (by rw [List.length_append]; omega), gd_r]
theorem sg_1 {t : Nat → Int32} {p : Nat} {v : Int32} (h : sg t p [v]) : t p = v := h 0 (Nat.lt_succ_self 0)
theorem dgt_at {v k : Nat} (hv : v < 1000) (hk : k < (sb_dgt v).length) : ∃ c, 48 ≤ c ∧ c ≤ 57 ∧ (sb_dgt v).getD k 0 = nI c := by
  rw [sb_dgl] at hk
  unfold sb_dgt
  by_cases h1 : v < 10
  · rw [if_pos h1] at hk ⊢
    obtain rfl : k = 0 := by omega
    exact ⟨48 + v, by omega, by omega, rfl⟩
  · rw [if_neg h1] at hk ⊢
    by_cases h2 : v < 100
    · rw [if_pos h2] at hk ⊢
      obtain rfl | rfl : k = 0 ∨ k = 1 := by omega
      · exact ⟨48 + v / 10, by omega, by omega, rfl⟩
      · exact ⟨48 + v % 10, by omega, by omega, rfl⟩
    · rw [if_neg h2] at hk ⊢
      obtain rfl | rfl | rfl : k = 0 ∨ k = 1 ∨ k = 2 := by omega
      · exact ⟨48 + v / 100, by omega, by omega, rfl⟩
      · exact ⟨48 + v / 10 % 10, by omega, by omega, rfl⟩
      · exact ⟨48 + v % 10, by omega, by omega, rfl⟩
theorem num_step {t : Nat → Int32} {S k a d : Nat} (h : numT t S k = nI a) (hd : t (S + k) = nI (48 + d)) : numT t S (k + 1) = nI (10 * a + d) := by
  rw [numT_succ, h, hd, n_mul, n_add, n_sub (by omega)]
  congr 1
  omega
theorem dgt_num {t : Nat → Int32} {S v : Nat} (hv : v < 1000) (h : sg t S (sb_dgt v)) : numT t S (sb_dgt v).length = nI v := by
  have z : numT t S 0 = nI 0 := rfl
  rw [sb_dgl]
  unfold sb_dgt at h
  by_cases h1 : v < 10
  · rw [if_pos h1] at h ⊢
    have e0 : t (S + 0) = nI (48 + v) := h 0 (Nat.le_of_ble_eq_true rfl)
    rw [num_step z e0]
    congr 1; omega
  · rw [if_neg h1] at h ⊢
    by_cases h2 : v < 100
    · rw [if_pos h2] at h ⊢
      have e0 : t (S + 0) = nI (48 + v / 10) := h 0 (Nat.le_of_ble_eq_true rfl)
      have e1 : t (S + 1) = nI (48 + v % 10) := h 1 (Nat.le_of_ble_eq_true rfl)
      rw [num_step (num_step z e0) e1]
      congr 1; omega
    · rw [if_neg h2] at h ⊢
      have e0 : t (S + 0) = nI (48 + v / 100) := h 0 (Nat.le_of_ble_eq_true rfl)
      have e1 : t (S + 1) = nI (48 + v / 10 % 10) := h 1 (Nat.le_of_ble_eq_true rfl)
      have e2 : t (S + 2) = nI (48 + v % 10) := h 2 (Nat.le_of_ble_eq_true rfl)
      rw [num_step (num_step (num_step z e0) e1) e2]
      congr 1; omega
theorem dgl_pos (v : Nat) : 1 ≤ (sb_dgt v).length := by rw [sb_dgl]; split <;> (try split) <;> omega
/-- a number and its semicolon -/
theorem tk_nm {t : Nat → Int32} {len p v : Nat} (hv : v < 1000) (hb : blk t p = true) (hd : sg t (p + 1) (sb_dgt v)) (hm : t (p + 1 + (sb_dgt v).length) = nI 59) (hl : p + 1 + (sb_dgt v).length < len) :
    (tkE t len p = p + 1 + (sb_dgt v).length ∧ tkK t len p = 2) ∧ numV t len p = nI v ∧ tkE t len (p + 1 + (sb_dgt v).length) = p + 1 + (sb_dgt v).length + 1 ∧ tkK t len (p + 1 + (sb_dgt v).length) = 3 := by
  have h1 := dgl_pos v
  have h3 := w_dl v
  obtain ⟨e1, e2, e3⟩ := tk_d (t := t) (len := len) (p := p) (S := p + 1) (E := p + 1 + (sb_dgt v).length) (by omega) (by omega) (by omega) (by omega) (fun i g1 g2 => by rw [show i = p by omega]; exact hb) (fun i g1 g2 => by
    obtain ⟨c, c1, c2, c3⟩ := dgt_at hv (k := i - (p + 1)) (by omega)
    have := hd (i - (p + 1)) (by omega)
    rw [show p + 1 + (i - (p + 1)) = i by omega, c3] at this
    exact dgt_of this c1 c2) (sem_of hm).2.2
  have e4 := tk_m (t := t) (len := len) hl hm
  refine ⟨⟨e2, e3⟩, ?_, e4.2⟩
  unfold numV
  rw [e1, e2, show p + 1 + (sb_dgt v).length - (p + 1) = (sb_dgt v).length by omega]
  exact dgt_num hv hd
/-- letters of a word that is known, and a blank -/
def isW (l : List Int32) (n : Nat) : Bool := (List.range n).all fun k => !decide (l.getD k 0 < nI 97) && !decide (nI 122 < l.getD k 0) && !decide (l.getD k 0 = nI 32) && !decide (l.getD k 0 = nI 10)
theorem tk_wd {t : Nat → Int32} {len p n : Nat} {l : List Int32} (hW : isW l n = true) (h0 : 0 < n) (h8 : n ≤ 8) (hl : l.length = n + 1) (hb : l.getD n 0 = nI 32) (h : sg t p l) (hlen : p + n < len) : tkS t len p = p ∧ tkE t len p = p + n ∧ tkK t len p = 1 := by
  have hk : ∀ k, k < n → ltr t (p + k) = true ∧ blk t (p + k) = false := fun k hk => by
    have := List.all_eq_true.mp hW k (List.mem_range.mpr hk)
    simp only [Bool.and_eq_true] at this
    unfold ltr blk
    rw [h k (by omega), Bool.and_eq_true]
    refine ⟨⟨this.1.1.1, this.1.1.2⟩, ?_⟩
    have h1 := this.1.2
    have h2 := this.2
    rw [Bool.not_eq_true'] at h1 h2
    rw [h1, h2]; rfl
  refine tk_w (Nat.le_refl _) (by omega) (by omega) (by omega) (fun i g1 g2 => absurd g1 (by omega)) (hk 0 h0).2 (fun i g1 g2 => ?_) ?_
  · have := (hk (i - p) (by omega)).1
    rw [show p + (i - p) = i by omega] at this
    exact this
  · have := h n (by omega)
    rw [hb] at this
    exact (blk_of this).2.1
theorem T_res {t : Nat → Int32} {len p v hc ac : Nat} {σ : f_M} {s : Nat → Int32} (hv : v < 1000) (x : cX t len σ) (ct : cT t len σ p) (d : dS σ s hc ac) (h : sg t p (w_rt v)) (hlen : p + (w_rt v).length ≤ len) :
    tkK t len p = 1 ∧ ∃ σ', g_27 σ = some (true, σ') ∧ cX t len σ' ∧ σ' 3 4 = nI (p + (w_rt v).length) ∧ dS σ' (upd s 1 (nI v)) hc ac ∧ sFr σ σ' := by
  have h1 := dgl_pos v
  have hl : (w_rt v).length = 8 + (sb_dgt v).length + 1 := by
    unfold w_rt; rw [List.length_append, List.length_append]; rfl
  unfold w_rt at h
  have hw : sg t p (a_sbC.getD 1 []) := sg_l (sg_l h)
  have hd : sg t (p + 7 + 1) (sb_dgt v) := sg_r (sg_l h)
  have hm : t (p + 7 + 1 + (sb_dgt v).length) = nI 59 := by
    have h9 := sg_1 (sg_r h)
    rw [List.length_append, show (a_sbC.getD 1 []).length = 8 from rfl] at h9
    rw [show p + 7 + 1 + (sb_dgt v).length = p + (8 + (sb_dgt v).length) by omega]
    exact h9
  have hb : blk t (p + 7) = true := (blk_of (hw 7 (by decide))).1
  have w := tk_wd (t := t) (len := len) (p := p) (n := 7) (l := a_sbC.getD 1 []) (by decide +kernel) (by decide) (by decide) rfl rfl hw (by omega)
  obtain ⟨e2, e3, e4⟩ := tk_nm (len := len) hv hb hd hm (by omega)
  refine ⟨w.2.2, ?_⟩
  have S := S_res x ct d (E := p + 7 + 1 + (sb_dgt v).length) (v := v) (by omega) (by omega) w (fun k hk => by rw [hw k (Nat.lt_of_lt_of_le hk (by decide))]; exact (show ∀ k, k < 7 → (a_sbC.getD 1 []).getD k 0 = (w_sb.getD 4 []).getD k 0 &&& 255 by decide +kernel) k hk) e2 e3 (by omega) e4
  rw [show p + 7 + 1 + (sb_dgt v).length + 1 = p + (w_rt v).length by omega] at S
  exact S
theorem T_hol {t : Nat → Int32} {len p v i hc ac : Nat} {σ : f_M} {s : Nat → Int32} (hv : v < 1000) (hi : i < 26) (x : cX t len σ) (ct : cT t len σ p) (d : dS σ s hc ac) (h8 : hc < 8) (hno : ∀ h, h < hc → ¬ s (20 + 9 * h + 1) = nI (97 + i)) (h : sg t p (w_hs i v)) (hlen : p + (w_hs i v).length ≤ len) :
    tkK t len p = 1 ∧ ∃ σ', g_27 σ = some (true, σ') ∧ cX t len σ' ∧ σ' 3 4 = nI (p + (w_hs i v).length) ∧ dS σ' (s_addH s t (p + 7) 1 hc (nI v)) (hc + 1) ac ∧ sFr σ σ' ∧ t (p + 7) = nI (97 + i) := by
  have h1 := dgl_pos v
  have hl : (w_hs i v).length = 9 + (sb_dgt v).length + 1 := by
    unfold w_hs; rw [List.length_append, List.length_append, List.length_append, List.length_append]; rfl
  unfold w_hs at h
  have hw : sg t p (a_sbC.getD 5 []) := sg_l (sg_l (sg_l (sg_l h)))
  have hn : t (p + 7) = nI (97 + i) := sg_1 (sg_r (sg_l (sg_l (sg_l h))))
  have hs : t (p + 8) = nI 32 := by
    have h9 := sg_1 (sg_r (sg_l (sg_l h)))
    rw [List.length_append] at h9
    exact h9
  have hd : sg t (p + 8 + 1) (sb_dgt v) := by
    have h9 := sg_r (sg_l h)
    rw [List.length_append, List.length_append] at h9
    exact h9
  have hm : t (p + 8 + 1 + (sb_dgt v).length) = nI 59 := by
    have h9 := sg_1 (sg_r h)
    rw [List.length_append, List.length_append, List.length_append] at h9
    have e : (a_sbC.getD 5 []).length + [nI (97 + i)].length + [nI 32].length + (sb_dgt v).length = 9 + (sb_dgt v).length := rfl
    rw [e] at h9
    rw [show p + 8 + 1 + (sb_dgt v).length = p + (9 + (sb_dgt v).length) by omega]
    exact h9
  have hb : blk t (p + 8) = true := (blk_of hs).1
  have w := tk_wd (t := t) (len := len) (p := p) (n := 6) (l := a_sbC.getD 5 []) (by decide +kernel) (by decide) (by decide) rfl rfl hw (by omega)
  have l9 := ltr_of hn (by omega) (by omega)
  have hb6 : blk t (p + 6) = true := (blk_of (hw 6 (by decide))).1
  have nm := tk_w (t := t) (len := len) (p := p + 6) (S := p + 7) (E := p + 8) (by omega) (by omega) (by omega) (by omega) (fun j g1 g2 => by rw [show j = p + 6 by omega]; exact hb6) l9.2 (fun j g1 g2 => by rw [show j = p + 7 by omega]; exact l9.1) (blk_of hs).2.1
  obtain ⟨e2, e3, e4⟩ := tk_nm (len := len) hv hb hd hm (by omega)
  refine ⟨w.2.2, ?_⟩
  obtain ⟨σ', S1, S2, S3, S4, S5⟩ := S_hol x ct d h8 (E := p + 8 + 1 + (sb_dgt v).length) (v := v) (by omega) (by omega) w (fun k hk => by rw [hw k (Nat.lt_of_lt_of_le hk (by decide))]; exact (show ∀ k, k < 6 → (a_sbC.getD 5 []).getD k 0 = (w_sb.getD 2 []).getD k 0 &&& 255 by decide +kernel) k hk) nm (fun h hh => by rw [hn]; exact hno h hh) e2 e3 (by omega) e4
  rw [show p + 8 + 1 + (sb_dgt v).length + 1 = p + (w_hs i v).length by omega] at S3
  exact ⟨σ', S1, S2, S3, S4, S5, hn⟩
theorem T_ass {t : Nat → Int32} {len p v hc ac : Nat} {σ : f_M} {s : Nat → Int32} (hv : v ≤ 9) (x : cX t len σ) (ct : cT t len σ p) (d : dS σ s hc ac) (h3 : ac < 3) (h : sg t p (w_as v)) (hlen : p + (w_as v).length ≤ len) :
    tkK t len p = 1 ∧ ∃ σ', g_27 σ = some (true, σ') ∧ cX t len σ' ∧ σ' 3 4 = nI (p + (w_as v).length) ∧ dS σ' (upd (upd s (95 + ac) (nI v)) 3 (nI (ac + 1))) hc (ac + 1) ∧ sFr σ σ' := by
  have h1 := dgl_pos v
  have hl : (w_as v).length = 9 + (sb_dgt v).length + 1 := by
    unfold w_as; rw [List.length_append, List.length_append]; rfl
  unfold w_as at h
  have hw : sg t p (a_sbC.getD 6 []) := sg_l (sg_l h)
  have hd : sg t (p + 8 + 1) (sb_dgt v) := sg_r (sg_l h)
  have hm : t (p + 8 + 1 + (sb_dgt v).length) = nI 59 := by
    have h9 := sg_1 (sg_r h)
    rw [List.length_append, show (a_sbC.getD 6 []).length = 9 from rfl] at h9
    rw [show p + 8 + 1 + (sb_dgt v).length = p + (9 + (sb_dgt v).length) by omega]
    exact h9
  have hb : blk t (p + 8) = true := (blk_of (hw 8 (by decide))).1
  have w := tk_wd (t := t) (len := len) (p := p) (n := 8) (l := a_sbC.getD 6 []) (by decide +kernel) (by decide) (by decide) rfl rfl hw (by omega)
  obtain ⟨e2, e3, e4⟩ := tk_nm (len := len) (by omega) hb hd hm (by omega)
  refine ⟨w.2.2, ?_⟩
  have S := S_ass x ct d h3 (E := p + 8 + 1 + (sb_dgt v).length) (v := v) (by omega) (by omega) w (fun k hk => by rw [hw k (Nat.lt_of_lt_of_le hk (by decide))]; exact (show ∀ k, k < 8 → (a_sbC.getD 6 []).getD k 0 = (w_sb.getD 3 []).getD k 0 &&& 255 by decide +kernel) k hk) e2 e3 hv e4
  rw [show p + 8 + 1 + (sb_dgt v).length + 1 = p + (w_as v).length by omega] at S
  exact S
/-- the reader's loop has come to p behind k statements -/
def AtL (t : Nat → Int32) (len : Nat) (σ1 : f_M) (k p : Nat) (s : Nat → Int32) (hc ac : Nat) : Prop := ∃ σ, f_lp lpC f_F (nI 0, σ1) = f_lp lpC (f_F - k) (nI k, σ) ∧ cX t len σ ∧ cT t len σ p ∧ dS σ s hc ac ∧ sFr σ1 σ
theorem AtL_step {t : Nat → Int32} {len k p p' hc ac hc' ac' : Nat} {σ1 : f_M} {s s' : Nat → Int32} (A : AtL t len σ1 k p s hc ac) (hk : k < 100) (hp' : p' ≤ len) (st : ∀ σ, cX t len σ → cT t len σ p → dS σ s hc ac → tkK t len p = 1 ∧ ∃ σ', g_27 σ = some (true, σ') ∧ cX t len σ' ∧ σ' 3 4 = nI p' ∧ dS σ' s' hc' ac' ∧ sFr σ σ') : AtL t len σ1 (k + 1) p' s' hc' ac' := by
  obtain ⟨σ, e, x, ct, d, f⟩ := A
  obtain ⟨hK, σ', e', x', h4, d', f'⟩ := st σ x ct d
  obtain ⟨σ'', e2, x2, ct2, f2⟩ := C_next x' h4 hp'
  refine ⟨σ'', ?_, x2, ct2, dS_keep d' (fun r h1 h2 => f2 r (by omega)), f.trans (f'.trans f2.s)⟩
  have hF : f_F - k = (f_F - (k + 1)) + 1 := by
    have : f_F = 100000 := rfl
    omega
  rw [e, hF, lp_succ]
  have hb : lpC (nI k, σ) = some (.inl (nI (k + 1), σ'')) := by
    unfold lpC
    dsimp only
    rw [if_neg (by rw [show (600 : Int32) = nI 600 from rfl, n_le (by omega) (by omega)]; omega), C_13 ct, bnd, hK, decide_eq_false (by decide), if_neg (by decide), e', bnd, if_pos rfl]
    dsimp only
    rw [e2, bnd, show (1 : Int32) = nI 1 from rfl, n_add]
  rw [hb, bnd, Sum.elim_inl]
