/-! Words of the language; the draft of a setup against the model's row. -/
def wd (t : Nat → Int32) (len p w : Nat) : Bool := decide (tkK t len p = 1) && (decide (tkE t len p - tkS t len p = w_sl.getD w 0) && decide (fstN (fun k => !decide (t (tkS t len p + k) = (w_sb.getD w []).getD k 0 &&& 255)) (w_sl.getD w 0) = w_sl.getD w 0))
theorem C_14 {t : Nat → Int32} {len p w : Nat} {σ : f_M} (x : cX t len σ) (ct : cT t len σ p) (hp : p ≤ len) (hw : w_sl.getD w 0 < 100) : g_14 w σ = some (wd t len p w) := by
  have hE := tkE_le (t := t) hp
  have h11 := C_11 ct hp
  have xl := x.2.2.1
  have hs : f_sl w = nI (w_sl.getD w 0) := rfl
  unfold g_14 wd
  by_cases hK : tkK t len p = 1
  · have c1 : σ 3 2 = 1 := by rw [ct.2.2, hK]; rfl
    rw [if_neg (fun h => h c1), h11, bnd, hs, decide_eq_true hK, Bool.true_and]
    by_cases hn : tkE t len p - tkS t len p = w_sl.getD w 0
    · rw [if_pos (by rw [hn]), decide_eq_true hn, Bool.true_and]
      have hch : ∀ k, k < w_sl.getD w 0 → f_ch w (nI k) = some ((w_sb.getD w []).getD k 0 &&& 255) := fun k hk => f_ch_n hk (by omega)
      generalize w_sl.getD w 0 = n at *
      have hle := fstN_le (fun k => !decide (t (tkS t len p + k) = (w_sb.getD w []).getD k 0 &&& 255)) n
      rw [lp_go (fun j => nI j) (fstN (fun k => !decide (t (tkS t len p + k) = (w_sb.getD w []).getD k 0 &&& 255)) n) (r := decide (fstN (fun k => !decide (t (tkS t len p + k) = (w_sb.getD w []).getD k 0 &&& 255)) n = n)) ?_ (f_F_lt (by omega)) ?_ ?_, bnd]
      · rfl
      · intro j hj
        have hm : (!decide (t (tkS t len p + j) = (w_sb.getD w []).getD j 0 &&& 255)) = false := fstN_min hj
        have hm' : t (tkS t len p + j) = (w_sb.getD w []).getD j 0 &&& 255 := by simpa using hm
        rw [if_neg (by rw [n_le (by omega) (by omega)]; omega), if_pos x.1, ct.1, n_add, f_rd_n (by omega) (by omega), bnd, hch j (by omega), bnd, x.2.2.2.1 _ (by omega), if_pos hm', show (1 : Int32) = nI 1 from rfl, n_add]
      · by_cases he : fstN (fun k => !decide (t (tkS t len p + k) = (w_sb.getD w []).getD k 0 &&& 255)) n = n
        · rw [he, if_pos (by rw [n_le (by omega) (by omega)]; omega), decide_eq_true rfl]
        · have hm := fstN_lt (p := fun k => !decide (t (tkS t len p + k) = (w_sb.getD w []).getD k 0 &&& 255)) (n := n) (by omega)
          rw [decide_eq_false he]
          generalize fstN (fun k => !decide (t (tkS t len p + k) = (w_sb.getD w []).getD k 0 &&& 255)) n = j at *
          have hm' : ¬ t (tkS t len p + j) = (w_sb.getD w []).getD j 0 &&& 255 := by simpa using hm
          rw [if_neg (by rw [n_le (by omega) (by omega)]; omega), if_pos x.1, ct.1, n_add, f_rd_n (by omega) (by omega), bnd, hch j (by omega), bnd, x.2.2.2.1 _ (by omega), if_neg hm']
    · rw [if_neg (by rw [n_eq (by omega) (by omega)]; exact hn), decide_eq_false hn, Bool.false_and]
  · have c1 : ¬ σ 3 2 = 1 := by
      rw [ct.2.2, show (1 : Int32) = nI 1 from rfl, n_eq (by have := tkK_le t len p; omega) (by omega)]; exact hK
    rw [if_pos c1, decide_eq_false hK, Bool.false_and]
theorem M_53 {t : Nat → Int32} {len p w : Nat} {τ : f_M} (x : mX t len τ) (mt : mT t len τ p) (hp : p ≤ len) (hw : w_sl.getD w 0 < 100) : g_53 w τ = some (wd t len p w) := by
  have hE := tkE_le (t := t) hp
  have xl := x.2.1
  have hs : f_sl w = nI (w_sl.getD w 0) := rfl
  unfold g_53 wd
  rw [x.2.2.2, if_neg (by decide)]
  by_cases hK : tkK t len p = 1
  · have c1 : τ 155 15 = 1 := by rw [mt.2.2.1, hK]; rfl
    rw [if_neg (fun h => h c1), mt.2.1, mt.1, n_sub hE.1, hs, decide_eq_true hK, Bool.true_and]
    by_cases hn : tkE t len p - tkS t len p = w_sl.getD w 0
    · rw [if_pos (by rw [hn]), decide_eq_true hn, Bool.true_and]
      have hch : ∀ k, k < w_sl.getD w 0 → f_ch w (nI k) = some ((w_sb.getD w []).getD k 0 &&& 255) := fun k hk => f_ch_n hk (by omega)
      generalize w_sl.getD w 0 = n at *
      have hle := fstN_le (fun k => !decide (t (tkS t len p + k) = (w_sb.getD w []).getD k 0 &&& 255)) n
      rw [lp_go (fun j => nI j) (fstN (fun k => !decide (t (tkS t len p + k) = (w_sb.getD w []).getD k 0 &&& 255)) n) (r := decide (fstN (fun k => !decide (t (tkS t len p + k) = (w_sb.getD w []).getD k 0 &&& 255)) n = n)) ?_ (f_F_lt (by omega)) ?_ ?_, bnd]
      · rfl
      · intro j hj
        have hm : (!decide (t (tkS t len p + j) = (w_sb.getD w []).getD j 0 &&& 255)) = false := fstN_min hj
        have hm' : t (tkS t len p + j) = (w_sb.getD w []).getD j 0 &&& 255 := by simpa using hm
        rw [if_neg (by rw [n_le (by omega) (by omega)]; omega), n_add, f_rd_n (by omega) (by omega), bnd, hch j (by omega), bnd, x.2.2.1 _ (by omega), if_pos hm', show (1 : Int32) = nI 1 from rfl, n_add]
      · by_cases he : fstN (fun k => !decide (t (tkS t len p + k) = (w_sb.getD w []).getD k 0 &&& 255)) n = n
        · rw [he, if_pos (by rw [n_le (by omega) (by omega)]; omega), decide_eq_true rfl]
        · have hm := fstN_lt (p := fun k => !decide (t (tkS t len p + k) = (w_sb.getD w []).getD k 0 &&& 255)) (n := n) (by omega)
          rw [decide_eq_false he]
          generalize fstN (fun k => !decide (t (tkS t len p + k) = (w_sb.getD w []).getD k 0 &&& 255)) n = j at *
          have hm' : ¬ t (tkS t len p + j) = (w_sb.getD w []).getD j 0 &&& 255 := by simpa using hm
          rw [if_neg (by rw [n_le (by omega) (by omega)]; omega), n_add, f_rd_n (by omega) (by omega), bnd, hch j (by omega), bnd, x.2.2.1 _ (by omega), if_neg hm']
    · rw [if_neg (by rw [n_eq (by omega) (by omega)]; exact hn), decide_eq_false hn, Bool.false_and]
  · have c1 : ¬ τ 155 15 = 1 := by
      rw [mt.2.2.1, show (1 : Int32) = nI 1 from rfl, n_eq (by have := tkK_le t len p; omega) (by omega)]; exact hK
    rw [if_pos c1, decide_eq_false hK, Bool.false_and]
theorem M_53F {τ : f_M} {c S : Nat} (e : mE τ c S) (w : Nat) : g_53 w τ = some false := by
  unfold g_53
  rw [if_pos]
  rw [e.1, show (0 : Int32) = nI 0 from rfl, n_lt (by omega) (by have := e.2.2.2; omega)]
  exact e.2.2.1
/-! the draft -/
def fb (σ : f_M) : Prop := ∀ i, i < 48 → fits .byte (.int (σ 7 i)) = true
def dH (σ : f_M) (s : Nat → Int32) (h : Nat) : Prop := (∃ n, 1 ≤ n ∧ n ≤ 6 ∧ σ 6 h = nI n ∧ s (20 + 9 * h) = nI n ∧ ∀ k, k < n → σ 7 (6 * h + k) = s (20 + 9 * h + 1 + k) ∧ ∃ m, 97 ≤ m ∧ m ≤ 122 ∧ s (20 + 9 * h + 1 + k) = nI m) ∧ σ 8 h = s (20 + 9 * h + 7) ∧ isN (s (20 + 9 * h + 7)) 10000
def dS (σ : f_M) (s : Nat → Int32) (hc ac : Nat) : Prop := (σ 5 0 = nI hc ∧ s 2 = nI hc ∧ hc ≤ 8) ∧ (σ 5 4 = nI ac ∧ s 3 = nI ac ∧ ac ≤ 3) ∧ (σ 5 6 = s 1 ∧ isN (s 1) 10000) ∧ (∀ x, x < ac → σ 9 x = s (95 + x) ∧ isN (s (95 + x)) 10) ∧ (∀ h, h < hc → dH σ s h) ∧ ((∀ k, (k = 0 ∨ (4 ≤ k ∧ k ≤ 8) ∨ k = 10) → s k = nI 0) ∧ ∀ h, h < 8 → s (20 + 9 * h + 8) = nI 0) ∧ fb σ
theorem dS_keep {σ σ' : f_M} {s : Nat → Int32} {hc ac : Nat} (d : dS σ s hc ac) (e : ∀ r, 5 ≤ r → r ≤ 9 → σ' r = σ r) : dS σ' s hc ac := by
  obtain ⟨d1, d2, d3, d4, d5, d6, d7⟩ := d
  refine ⟨?_, ?_, ?_, fun x hx => ?_, fun h hh => ?_, d6, fun i hi => ?_⟩
  · rw [e 5 (by omega) (by omega)]; exact d1
  · rw [e 5 (by omega) (by omega)]; exact d2
  · rw [e 5 (by omega) (by omega)]; exact d3
  · rw [e 9 (by omega) (by omega)]; exact d4 x hx
  · unfold dH
    rw [e 6 (by omega) (by omega), e 7 (by omega) (by omega), e 8 (by omega) (by omega)]; exact d5 h hh
  · rw [e 7 (by omega) (by omega)]; exact d7 i hi
theorem dS_names {σ : f_M} {s : Nat → Int32} {hc ac : Nat} (d : dS σ s hc ac) : rNm σ 5 s hc := by
  intro h hh
  obtain ⟨⟨n, n1, n2, n3, n4, n5⟩, -⟩ := d.2.2.2.2.1 h hh
  exact ⟨n, n1, n2, n3, n4, fun k hk => (n5 k hk).1⟩
theorem fits_n : ∀ m : Fin 128, fits .byte (.int (nI m.val)) = true := by decide +kernel
theorem fb_take {σ σ' : f_M} {t : Nat → Int32} {S n hc : Nat} (b : fb σ) (h7 : σ' 7 = wrO (6 * hc) (fun k => t (S + k)) (σ 7) n) (hl : ∀ k, k < n → ltr t (S + k) = true) : fb σ' := by
  intro i hi
  rw [h7]
  by_cases h : 6 * hc ≤ i ∧ i < 6 * hc + n
  · obtain ⟨k, rfl⟩ : ∃ k, i = 6 * hc + k := ⟨i - 6 * hc, by omega⟩
    rw [wrO_in (by omega)]
    obtain ⟨m, m1, m2, e⟩ := ltr_n (hl k (by omega))
    rw [e]
    exact fits_n ⟨m, by omega⟩
  · rw [wrO_out (by omega)]; exact b i hi
theorem dS_addH {σ σ' : f_M} {s t : Nat → Int32} {S n hc ac : Nat} {v : Int32} (d : dS σ s hc ac) (hhc : hc < 8) (n1 : 1 ≤ n) (n6 : n ≤ 6) (hv : isN v 10000) (hl : ∀ k, k < n → ltr t (S + k) = true)
    (h5 : σ' 5 = upd (σ 5) 0 (nI (hc + 1))) (h6 : σ' 6 = upd (σ 6) hc (nI n)) (h7 : σ' 7 = wrO (6 * hc) (fun k => t (S + k)) (σ 7) n) (h8 : σ' 8 = upd (σ 8) hc v) (h9 : σ' 9 = σ 9) : dS σ' (s_addH s t S n hc v) (hc + 1) ac := by
  have fb' := fb_take d.2.2.2.2.2.2 h7 hl
  obtain ⟨a1, a2, a3, a4, a5⟩ := s_addH_at (s := s) (t := t) (S := S) (n := n) (hc := hc) (b := v) hhc n6
  obtain ⟨d1, d2, d3, d4, d5, d6, d7⟩ := d
  refine ⟨⟨?_, a4, hhc⟩, ⟨?_, ?_, d2.2.2⟩, ⟨?_, ?_⟩, fun x hx => ?_, fun h hh => ?_, ⟨fun k hk => ?_, fun h hh => ?_⟩, fb'⟩
  · rw [h5, upd_same]
  · rw [h5, upd_ne (by omega)]; exact d2.1
  · rw [a5 3 (by omega) (by omega)]; exact d2.2.1
  · rw [h5, upd_ne (by omega), a5 1 (by omega) (by omega)]; exact d3.1
  · rw [a5 1 (by omega) (by omega)]; exact d3.2
  · have hac := d2.2.2
    rw [h9, a5 (95 + x) (by omega) (by omega)]; exact d4 x hx
  · by_cases e : h = hc
    · subst e
      refine ⟨⟨n, n1, n6, ?_, a1, fun k hk => ⟨?_, ?_⟩⟩, ?_, ?_⟩
      · rw [h6, upd_same]
      · rw [h7, wrO_in hk, a2 k hk]
      · rw [a2 k hk]; exact ltr_n (hl k hk)
      · rw [h8, upd_same, a3]
      · rw [a3]; exact hv
    · obtain ⟨⟨m, m1, m2, m3, m4, m5⟩, e1, e2⟩ := d5 h (by omega)
      refine ⟨⟨m, m1, m2, ?_, ?_, fun k hk => ?_⟩, ?_, ?_⟩
      · rw [h6, upd_ne e]; exact m3
      · rw [a5 _ (by omega) (by omega)]; exact m4
      · rw [h7, wrO_out (by omega), a5 _ (by omega) (by omega)]; exact m5 k hk
      · rw [h8, upd_ne e, a5 _ (by omega) (by omega)]; exact e1
      · rw [a5 _ (by omega) (by omega)]; exact e2
  · rw [a5 k (by omega) (by omega)]; exact d6.1 k hk
  · by_cases e : h = hc
    · subst e; rw [a5 _ (by omega) (by omega)]; exact d6.2 h hh
    · rw [a5 _ (by omega) (by omega)]; exact d6.2 h hh
theorem dS_addA {σ σ' : f_M} {s : Nat → Int32} {hc ac : Nat} {v : Int32} (d : dS σ s hc ac) (hac : ac < 3) (hv : isN v 10)
    (h5 : σ' 5 = upd (σ 5) 4 (nI (ac + 1))) (h9 : σ' 9 = upd (σ 9) ac v) (er : ∀ r, 6 ≤ r → r ≤ 8 → σ' r = σ r) : dS σ' (upd (upd s (95 + ac) v) 3 (nI (ac + 1))) hc (ac + 1) := by
  obtain ⟨d1, d2, d3, d4, d5, d6, d7⟩ := d
  have hh8 := d1.2.2
  have es : ∀ k, k ≠ 3 → k ≠ 95 + ac → upd (upd s (95 + ac) v) 3 (nI (ac + 1)) k = s k := fun k h1 h2 => by rw [upd_ne h1, upd_ne h2]
  refine ⟨⟨?_, ?_, hh8⟩, ⟨?_, upd_same, hac⟩, ⟨?_, ?_⟩, fun x hx => ?_, fun h hh => ?_, ⟨fun k hk => ?_, fun h hh => ?_⟩, fun i hi => ?_⟩
  · rw [h5, upd_ne (by omega)]; exact d1.1
  · rw [es 2 (by omega) (by omega)]; exact d1.2.1
  · rw [h5, upd_same]
  · rw [h5, upd_ne (by omega), es 1 (by omega) (by omega)]; exact d3.1
  · rw [es 1 (by omega) (by omega)]; exact d3.2
  · by_cases e : x = ac
    · subst e
      rw [h9, upd_same, upd_ne (by omega), upd_same]; exact ⟨rfl, hv⟩
    · rw [h9, upd_ne e, es _ (by omega) (by omega)]; exact d4 x (by omega)
  · obtain ⟨⟨m, m1, m2, m3, m4, m5⟩, e1, e2⟩ := d5 h hh
    refine ⟨⟨m, m1, m2, ?_, ?_, fun k hk => ?_⟩, ?_, ?_⟩
    · rw [er 6 (by omega) (by omega)]; exact m3
    · rw [es _ (by omega) (by omega)]; exact m4
    · rw [er 7 (by omega) (by omega), es _ (by omega) (by omega)]; exact m5 k hk
    · rw [er 8 (by omega) (by omega), es _ (by omega) (by omega)]; exact e1
    · rw [es _ (by omega) (by omega)]; exact e2
  · rw [es k (by omega) (by omega)]; exact d6.1 k hk
  · rw [es _ (by omega) (by omega)]; exact d6.2 h hh
  · rw [er 7 (by omega) (by omega)]; exact d7 i hi
theorem dS_res {σ σ' : f_M} {s : Nat → Int32} {hc ac : Nat} {v : Int32} (d : dS σ s hc ac) (hv : isN v 10000)
    (h5 : σ' 5 = upd (σ 5) 6 v) (er : ∀ r, 6 ≤ r → r ≤ 9 → σ' r = σ r) : dS σ' (upd s 1 v) hc ac := by
  obtain ⟨d1, d2, d3, d4, d5, d6, d7⟩ := d
  have hh8 := d1.2.2
  have ha3 := d2.2.2
  have es : ∀ k, k ≠ 1 → upd s 1 v k = s k := fun k h1 => upd_ne h1
  refine ⟨⟨?_, ?_, hh8⟩, ⟨?_, ?_, ha3⟩, ⟨?_, ?_⟩, fun x hx => ?_, fun h hh => ?_, ⟨fun k hk => ?_, fun h hh => ?_⟩, fun i hi => ?_⟩
  · rw [h5, upd_ne (by omega)]; exact d1.1
  · rw [es 2 (by omega)]; exact d1.2.1
  · rw [h5, upd_ne (by omega)]; exact d2.1
  · rw [es 3 (by omega)]; exact d2.2.1
  · rw [h5, upd_same, upd_same]
  · rw [upd_same]; exact hv
  · rw [er 9 (by omega) (by omega), es _ (by omega)]; exact d4 x hx
  · obtain ⟨⟨m, m1, m2, m3, m4, m5⟩, e1, e2⟩ := d5 h hh
    refine ⟨⟨m, m1, m2, ?_, ?_, fun k hk => ?_⟩, ?_, ?_⟩
    · rw [er 6 (by omega) (by omega)]; exact m3
    · rw [es _ (by omega)]; exact m4
    · rw [er 7 (by omega) (by omega), es _ (by omega)]; exact m5 k hk
    · rw [er 8 (by omega) (by omega), es _ (by omega)]; exact e1
    · rw [es _ (by omega)]; exact e2
  · rw [es k (by omega)]; exact d6.1 k hk
  · rw [es _ (by omega)]; exact d6.2 h hh
  · rw [er 7 (by omega) (by omega)]; exact d7 i hi
