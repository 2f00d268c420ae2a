/-! loadSetup, read by both. -/
theorem M_money {τ : f_M} {hc : Nat} (h2 : τ 156 2 = nI hc) (hhc : hc ≤ 8) : g_39 τ = some (τ 156 1 + sumI (fun h => τ 156 (20 + 9 * h + 7)) hc) := by
  unfold g_39
  rw [show (1 : Int32) = nI 1 from rfl, rdS (by omega), bnd]
  rw [lp_go (fun j => (τ 156 1 + sumI (fun h => τ 156 (20 + 9 * h + 7)) j, nI j)) hc (r := τ 156 1 + sumI (fun h => τ 156 (20 + 9 * h + 7)) hc) ?_ (f_F_lt (by omega)) ?_ ?_, bnd]
  · rw [show sumI (fun h => τ 156 (20 + 9 * h + 7)) 0 = 0 from rfl, Int32.add_zero]; rfl
  · intro j hj
    dsimp only
    rw [show (2 : Int32) = nI 2 from rfl, rdS (by omega), bnd, h2, if_neg (by rw [n_le (by omega) (by omega)]; omega), M_h, bnd, show (7 : Int32) = nI 7 from rfl, n_add, rdS (by omega), bnd, n_add, sumI_succ, Int32.add_assoc]
  · dsimp only
    rw [show (2 : Int32) = nI 2 from rfl, rdS (by omega), bnd, h2, if_pos (by rw [n_le (by omega) (by omega)]; omega)]
def clr (r : Nat → Int32) : Nat → Int32 := upd (cpN (fun _ => nI 0) r 2420) 1 (nI 1000)
theorem M_clear (τ : f_M) : g_35 τ = some (f_row τ 156 (clr (τ 156))) := by
  unfold g_35
  rw [lp_go (fun j => (nI j, f_row τ 156 (cpN (fun _ => nI 0) (τ 156) j))) 2420 (r := f_row τ 156 (cpN (fun _ => nI 0) (τ 156) 2420)) ?_ (f_F_lt (by omega)) ?_ ?_, bnd, show (1 : Int32) = nI 1 from rfl, wrS (by omega), bnd, row_same, row_row]
  · rfl
  · rw [cpN_zero, row_self]; rfl
  · intro j hj
    have hs := cpN_succ (fun _ => nI 0) (τ 156) j
    dsimp only
    rw [show (2420 : Int32) = nI 2420 from rfl, if_neg (by rw [n_le (by omega) (by omega)]; omega), wrS (by omega), bnd, row_same, row_row, show (1 : Int32) = nI 1 from rfl, n_add, ← hs]
    rfl
  · dsimp only
    rw [show (2420 : Int32) = nI 2420 from rfl, if_pos (by rw [n_le (by omega) (by omega)]; omega)]
theorem clr_at {r : Nat → Int32} {k : Nat} (h : k < 2420) (h1 : k ≠ 1) : clr r k = nI 0 := by
  unfold clr; rw [upd_ne h1, cpN_in h]
theorem dS_zero {σ : f_M} {r : Nat → Int32} (h0 : σ 5 0 = nI 0) (h4 : σ 5 4 = nI 0) (h6 : σ 5 6 = nI 1000) (b : fb σ) : dS σ (clr r) 0 0 := by
  refine ⟨⟨h0, clr_at (by omega) (by omega), by omega⟩, ⟨h4, clr_at (by omega) (by omega), by omega⟩, ⟨?_, ?_⟩, fun x hx => absurd hx (by omega), fun h hh => absurd hh (by omega), ⟨fun k hk => clr_at (by omega) (by omega), fun h hh => clr_at (by omega) (by omega)⟩, b⟩
  · rw [h6]; unfold clr; rw [upd_same]
  · unfold clr; rw [upd_same]; exact ⟨1000, by omega, rfl⟩
/-- a text that both hold -/
def tX (σ τ : f_M) (len : Nat) : Prop := σ 0 1 = nI len ∧ τ 155 10 = nI len ∧ len ≤ 600 ∧ ∀ i, i < len → τ 161 i = σ 1 i
theorem C_9 {σ : f_M} {len : Nat} (h : σ 0 1 = nI len) (hl : len ≤ 600) : ∃ σ', g_9 σ = some σ' ∧ cX (σ 1) len σ' ∧ σ' 3 4 = nI 0 ∧ σ' 0 1 = nI 0 ∧ (∀ i, i ≠ 1 → σ' 0 i = σ 0 i) ∧ ∀ r, r ≠ 0 → r ≠ 3 → σ' r = σ r := by
  unfold g_9 g_8
  rw [h, show (600 : Int32) = nI 600 from rfl, n_min (by omega) (by omega), Nat.min_eq_left hl, bnd]
  refine ⟨_, rfl, ⟨?_, ?_, hl, fun i hi => ?_, ?_, ?_⟩, ?_, ?_, fun i hi => ?_, fun r h1 h2 => ?_⟩
  · simp (disch := omega) only [up_rows, up_ix, up_same]
  · simp (disch := omega) only [up_rows, up_ix, up_same]
  · simp (disch := omega) only [up_rows, up_ix, up_same]
  · simp (disch := omega) only [up_rows, up_ix, up_same]; rfl
  · simp (disch := omega) only [up_rows, up_ix, up_same]
  · simp (disch := omega) only [up_rows, up_ix, up_same]; rfl
  · rw [up_same]; rfl
  · simp (disch := omega) only [up_rows, up_ix, up_same]
  · simp (disch := omega) only [up_rows, up_ix, up_same]
theorem M_begin {τ : f_M} {t : Nat → Int32} {len : Nat} (h10 : τ 155 10 = nI len) (hl : len ≤ 600) (ht : ∀ i, i < len → τ 161 i = t i) : ∃ τ', g_52 τ = some τ' ∧ mX t len τ' ∧ mT t len τ' 0 ∧ mFr τ τ' := by
  have x : mX t len (f_up (f_up τ 155 17 (0 : Int32)) 155 14 (0 : Int32)) := by
    refine ⟨?_, hl, fun i hi => ?_, ?_⟩
    · rw [up_ix (by omega), up_ix (by omega)]; exact h10
    · rw [up_rows (by omega), up_rows (by omega)]; exact ht i hi
    · rw [up_ix (by omega), up_same]
  obtain ⟨τ', e, x', m', f'⟩ := M_next x (p := 0) (by rw [up_same]; rfl) (by omega)
  unfold g_52
  rw [e, bnd]
  refine ⟨τ', rfl, x', m', fun r h => ?_, fun i h => ?_⟩
  · rw [f'.1 r h, up_rows h, up_rows h]
  · rw [f'.2 i h, up_ix (by omega), up_ix (by omega)]
theorem g_28_eq (σ : f_M) : g_28 σ = (g_12 (f_up (f_up (f_up σ 5 0 (0 : Int32)) 5 4 (0 : Int32)) 5 6 (1000 : Int32))).bind fun t1 =>
  (f_lp lpC f_F (nI 0, t1)).bind fun (y2 : (f_M) ⊕ (Bool × f_M)) => Sum.elim (fun x2 =>
   (
    if (x2 5 0) ≤ 0 then (
     (g_15 (5 : Int32) x2).bind fun t10 =>
     if t10.1 = false then (
      some (false, t10.2)
     ) else (
      some (true, t10.2)
     )
    ) else (
     if 0 < (x2 5 4) then (
      some (true, x2)
     ) else (
      (g_15 (5 : Int32) x2).bind fun t12 =>
      if t12.1 = false then (
       some (false, t12.2)
      ) else (
       some (true, t12.2)
      )
     )
    )
   ).bind fun (t9 : Bool × f_M) =>
   some (t9.1, t9.2)
  ) (fun r2 => some r2) y2 := by
  unfold g_28; rfl
theorem g_65_eq (σ : f_M) : g_65 σ = (g_48 157 (f_up σ 155 6 (0 : Int32))).bind fun t1 =>
  (g_35  t1).bind fun t2 =>
  (g_52  t2).bind fun t3 =>
  (f_lp lpM f_F t3).bind fun (x4 : f_M) =>
  (f_rd x4 156 2420 (2 : Int32)).bind fun v8 =>
  (
   if v8 ≤ 0 then (
    some false
   ) else (
    (f_rd x4 156 2420 (3 : Int32)).bind fun v10 =>
    if v10 ≤ 0 then (
     some false
    ) else (
     some true
    )
   )
  ).bind fun (t9 : Bool) =>
  (g_54 t9 (5 : Int32) x4).bind fun t13 =>
  (g_63  t13).bind fun t14 =>
  if (t14 155 17) ≤ 0 then (
   (g_39  t14).bind fun t15 =>
   (f_wr t14 156 2420 (9 : Int32) t15).bind fun m16 =>
   (f_rd (f_up (f_up m16 155 4 (0 : Int32)) 155 5 (0 : Int32)) 156 2420 (2 : Int32)).bind fun v17 =>
   some (v17, (f_up (f_up m16 155 4 (0 : Int32)) 155 5 (0 : Int32)))
  ) else (
   (g_64 157 t14).bind fun t18 =>
   some ((-1 : Int32), t18)
  ) := by
  unfold g_65; rfl
/-- the end of a text, with no fault -/
theorem M_63_ok {τ : f_M} (h : τ 155 17 = 0) : g_63 τ = some (f_up (f_up (f_up τ 155 11 (nI 0)) 155 12 (-1)) 155 10 (nI 0)) := by
  unfold g_63
  rw [h, up_ix (by omega), h, if_neg (fun h => h rfl), bnd]
  rfl
theorem M_63_bad {τ : f_M} {c S : Nat} (e : mE τ c S) : g_63 τ = some (f_up (f_up (f_up τ 155 11 (nI c)) 155 12 (nI S)) 155 10 (nI 0)) := by
  have h1 := e.ne
  unfold g_63
  rw [up_ix (by omega), if_pos h1, up_ix (by omega), bnd, e.1, e.2.1]
  rfl
/-- how the reading of a setup ends -/
theorem P_read {σ τ : f_M} {t : Nat → Int32} {len : Nat} {r : Nat → Int32} (x : cX t len σ) (h4 : σ 3 4 = nI 0) (b : fb σ) (h10 : τ 155 10 = nI len) (ht : ∀ i, i < len → τ 161 i = t i) (h156 : τ 156 = clr r) :
    ∃ τ1 τ2, g_52 τ = some τ1 ∧ f_lp lpM f_F τ1 = some τ2 ∧ pFr τ τ2 ∧
    ((∃ hc ac σ', g_28 σ = some (true, σ') ∧ τ2 155 17 = 0 ∧ 1 ≤ hc ∧ 1 ≤ ac ∧ dS σ' (τ2 156) hc ac ∧ σ' 3 0 = 1 ∧ σ' 3 6 = nI 0 ∧ σ' 3 7 = -1 ∧ sFr σ σ') ∨
    ((∃ c S σ', g_28 σ = some (false, σ') ∧ FL σ' τ2 c S ∧ fb σ' ∧ sFr σ σ') ∨ ∃ hc ac S σ', g_28 σ = some (false, σ') ∧ τ2 155 17 = 0 ∧ τ2 156 2 = nI hc ∧ τ2 156 3 = nI ac ∧ hc ≤ 8 ∧ ac ≤ 3 ∧ (hc = 0 ∨ ac = 0) ∧ τ2 155 13 = nI S ∧ σ' 3 6 = nI 5 ∧ σ' 3 7 = nI S ∧ fb σ' ∧ sFr σ σ')) := by
  have hl := x.2.2.1
  have x0 : cX t len (f_up (f_up (f_up σ 5 0 (0 : Int32)) 5 4 (0 : Int32)) 5 6 (1000 : Int32)) := cX_keep x (by rw [up_rows (by omega), up_rows (by omega), up_rows (by omega)]) (by rw [up_rows (by omega), up_rows (by omega), up_rows (by omega)])
  obtain ⟨σ1, c1, x1, ct1, f1⟩ := C_next x0 (p := 0) (by rw [up_rows (by omega), up_rows (by omega), up_rows (by omega)]; exact h4) (by omega)
  obtain ⟨τ1, m1, y1, mt1, q1⟩ := M_begin h10 hl ht
  have d1 : dS σ1 (τ1 156) 0 0 := by
    rw [q1.1 156 (by omega), h156]
    refine dS_zero ?_ ?_ ?_ ?_
    · rw [f1 5 (by omega), up_ix (by omega), up_ix (by omega), up_same]; rfl
    · rw [f1 5 (by omega), up_ix (by omega), up_same]; rfl
    · rw [f1 5 (by omega), up_same]; rfl
    · exact fb_keep b (by rw [f1 7 (by omega), up_rows (by omega), up_rows (by omega), up_rows (by omega)])
  have s1 : sFr σ σ1 := fun r h => by rw [f1 r (by omega), up_rows (by omega), up_rows (by omega), up_rows (by omega)]
  have L := P_loop 600 0 0 0 0 f_F f_F σ1 τ1 (by omega) ⟨⟨x1, ct1⟩, by omega, y1, mt1⟩ (by omega) (f_F_lt (by omega)) (f_F_lt (by omega)) d1
  rw [g_28_eq, c1, bnd]
  rcases L with ⟨p', hc, ac, σ', τ', h1, h2, h3, h9, h5, h6, h7⟩ | ⟨c, S, σ', τ', h1, h2, h3, h9, h6, h7⟩
  · refine ⟨τ1, τ', m1, h2, q1.n.p.trans h7, ?_⟩
    rw [h1, bnd, Sum.elim_inl, h5.1.1, h5.2.1.1]
    have hh8 := h5.1.2.2
    have ha3 := h5.2.1.2.2
    by_cases e1 : hc = 0
    · refine Or.inr (Or.inr ⟨hc, ac, tkS t len p', f_up (f_up σ' 3 6 5) 3 7 (σ' 3 3), ?_, h3.2.2.1.2.2.2, h5.1.2.1, h5.2.1.2.1, hh8, ha3, Or.inl e1, h3.2.2.2.1, ?_, ?_, ?_, ?_⟩)
      · rw [if_pos (by rw [e1]; decide), C_fail, bnd, if_pos rfl, bnd]
      · rw [up_ix (by omega), up_same]; rfl
      · rw [up_same]; exact h3.1.2.1
      · exact fb_keep h5.2.2.2.2.2.2 (by rw [up_rows (by omega), up_rows (by omega)])
      · exact fun r h => by rw [up_rows (by omega), up_rows (by omega), h6 r h, s1 r h]
    · have n1 : ¬ nI hc ≤ 0 := by rw [show (0 : Int32) = nI 0 from rfl, n_le (by omega) (by omega)]; omega
      by_cases e2 : ac = 0
      · refine Or.inr (Or.inr ⟨hc, ac, tkS t len p', f_up (f_up σ' 3 6 5) 3 7 (σ' 3 3), ?_, h3.2.2.1.2.2.2, h5.1.2.1, h5.2.1.2.1, hh8, ha3, Or.inr e2, h3.2.2.2.1, ?_, ?_, ?_, ?_⟩)
        · rw [if_neg n1, if_neg (by rw [e2]; decide), C_fail, bnd, if_pos rfl, bnd]
        · rw [up_ix (by omega), up_same]; rfl
        · rw [up_same]; exact h3.1.2.1
        · exact fb_keep h5.2.2.2.2.2.2 (by rw [up_rows (by omega), up_rows (by omega)])
        · exact fun r h => by rw [up_rows (by omega), up_rows (by omega), h6 r h, s1 r h]
      · have n2 : (0 : Int32) < nI ac := by rw [show (0 : Int32) = nI 0 from rfl, n_lt (by omega) (by omega)]; omega
        refine Or.inl ⟨hc, ac, σ', ?_, h3.2.2.1.2.2.2, by omega, by omega, h5, h3.1.1.1, h3.1.1.2.2.2.2.1, h3.1.1.2.2.2.2.2, s1.trans h6⟩
        rw [if_neg n1, if_pos n2, bnd]
  · refine ⟨τ1, τ', m1, h2, q1.n.p.trans h7, Or.inr (Or.inl ⟨c, S, σ', ?_, h3, h9, s1.trans h6⟩)⟩
    rw [h1, bnd]
    rfl
