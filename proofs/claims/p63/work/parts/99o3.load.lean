/-! The setup's text: loadSetup of it. -/
theorem ht_pre {xs : Nat → Int32} {L : Nat} : ∀ hc i, i ≤ hc → ∃ rest, w_ht xs L hc = w_ht xs L i ++ rest := by
  intro hc
  induction hc with
  | zero =>
    intro i hi
    obtain rfl : i = 0 := by omega
    exact ⟨[], (List.append_nil _).symm⟩
  | succ hc ih =>
    intro i hi
    by_cases h : i = hc + 1
    · subst h; exact ⟨[], (List.append_nil _).symm⟩
    · obtain ⟨rest, e⟩ := ih i (by omega)
      exact ⟨rest ++ w_hs hc (w_b xs L hc), by rw [show w_ht xs L (hc + 1) = w_ht xs L hc ++ w_hs hc (w_b xs L hc) from rfl, e, List.append_assoc]⟩
theorem at_pre {x : Int32} : ∀ ac i, i ≤ ac → ∃ rest, w_at x ac = w_at x i ++ rest := by
  intro ac
  induction ac with
  | zero =>
    intro i hi
    obtain rfl : i = 0 := by omega
    exact ⟨[], (List.append_nil _).symm⟩
  | succ ac ih =>
    intro i hi
    by_cases h : i = ac + 1
    · subst h; exact ⟨[], (List.append_nil _).symm⟩
    · obtain ⟨rest, e⟩ := ih i (by omega)
      exact ⟨rest ++ w_as (w_s x ac), by rw [show w_at x (ac + 1) = w_at x ac ++ w_as (w_s x ac) from rfl, e, List.append_assoc]⟩
theorem A_hol {t : Nat → Int32} {len r p0 hc : Nat} {σ1 : f_M} {s1 xs : Nat → Int32} {L : Nat} (h4 : hc ≤ 4) (A : AtL t len σ1 1 p0 s1 0 0) (e1 : s1 1 = nI r) (hs : sg t p0 (w_ht xs L hc)) (hl : p0 + (w_ht xs L hc).length ≤ len) : ∀ i, i ≤ hc → ∃ s, AtL t len σ1 (1 + i) (p0 + (w_ht xs L i).length) s i 0 ∧ s 1 = nI r ∧ ∀ h, h < i → s (20 + 9 * h + 7) = nI (w_b xs L h) ∧ s (20 + 9 * h + 1) = nI (97 + h) := by
  intro i
  induction i with
  | zero => intro _; exact ⟨s1, A, e1, fun h hh => absurd hh (by omega)⟩
  | succ i ih =>
    intro hi
    obtain ⟨s, A', e1', hb⟩ := ih (by omega)
    obtain ⟨rest, er⟩ := ht_pre (xs := xs) (L := L) hc (i + 1) hi
    have ew : w_ht xs L (i + 1) = w_ht xs L i ++ w_hs i (w_b xs L i) := rfl
    have hs1 : sg t p0 (w_ht xs L i ++ w_hs i (w_b xs L i)) := by rw [← ew]; rw [er] at hs; exact sg_l hs
    have hs2 := sg_r hs1
    have hlen : (w_ht xs L hc).length = (w_ht xs L i).length + (w_hs i (w_b xs L i)).length + rest.length := by rw [er, ew, List.length_append, List.length_append]
    have hv := (w_b_ok (xs := xs) (L := L) i).1
    have hn : t (p0 + (w_ht xs L i).length + 7) = nI (97 + i) := by
      have h9 := hs2
      unfold w_hs at h9
      exact sg_1 (sg_r (sg_l (sg_l (sg_l h9))))
    have A2 := AtL_step (p' := p0 + (w_ht xs L i).length + (w_hs i (w_b xs L i)).length) (s' := s_addH s t (p0 + (w_ht xs L i).length + 7) 1 i (nI (w_b xs L i))) (hc' := i + 1) (ac' := 0) A' (by omega) (by omega) (fun σ x ct d => by
      obtain ⟨a, σ', b1, b2, b3, b4, b5, -⟩ := T_hol (i := i) (by omega : w_b xs L i < 1000) (by omega) x ct d (by omega) (fun h hh => by rw [(hb h hh).2, n_eq (by omega) (by omega)]; omega) hs2 (by omega)
      exact ⟨a, σ', b1, b2, b3, b4, b5⟩)
    obtain ⟨q1, q2, q3, q4, q5⟩ := s_addH_at (s := s) (t := t) (S := p0 + (w_ht xs L i).length + 7) (n := 1) (hc := i) (b := nI (w_b xs L i)) (by omega) (by omega)
    refine ⟨s_addH s t (p0 + (w_ht xs L i).length + 7) 1 i (nI (w_b xs L i)), ?_, ?_, fun h hh => ?_⟩
    · rw [ew, List.length_append, ← Nat.add_assoc, ← Nat.add_assoc]
      exact A2
    · rw [q5 1 (by omega) (by omega)]; exact e1'
    · by_cases e : h = i
      · subst e
        refine ⟨q3, ?_⟩
        have := q2 0 (by omega)
        rw [Nat.add_zero, Nat.add_zero] at this
        rw [this]; exact hn
      · rw [q5 _ (by omega) (by omega), q5 _ (by omega) (by omega)]; exact hb h (by omega)
theorem A_ass {t : Nat → Int32} {len r p0 hc ac k : Nat} {σ1 : f_M} {s1 xs : Nat → Int32} {L : Nat} {x : Int32} (hk : k ≤ 10) (h4 : hc ≤ 4) (h3 : ac ≤ 3) (A : AtL t len σ1 k p0 s1 hc 0) (e1 : s1 1 = nI r) (eb : ∀ h, h < hc → s1 (20 + 9 * h + 7) = nI (w_b xs L h)) (hs : sg t p0 (w_at x ac)) (hl : p0 + (w_at x ac).length ≤ len) : ∀ i, i ≤ ac → ∃ s, AtL t len σ1 (k + i) (p0 + (w_at x i).length) s hc i ∧ s 1 = nI r ∧ (∀ h, h < hc → s (20 + 9 * h + 7) = nI (w_b xs L h)) ∧ ∀ j, j < i → s (95 + j) = nI (w_s x j) := by
  intro i
  induction i with
  | zero => intro _; exact ⟨s1, A, e1, eb, fun h hh => absurd hh (by omega)⟩
  | succ i ih =>
    intro hi
    obtain ⟨s, A', e1', hb, hj⟩ := ih (by omega)
    obtain ⟨rest, er⟩ := at_pre (x := x) ac (i + 1) hi
    have ew : w_at x (i + 1) = w_at x i ++ w_as (w_s x i) := rfl
    have hs1 : sg t p0 (w_at x i ++ w_as (w_s x i)) := by rw [← ew]; rw [er] at hs; exact sg_l hs
    have hs2 := sg_r hs1
    have hlen : (w_at x ac).length = (w_at x i).length + (w_as (w_s x i)).length + rest.length := by rw [er, ew, List.length_append, List.length_append]
    have hv := (w_s_ok (x := x) i).1
    have A2 := AtL_step (p' := p0 + (w_at x i).length + (w_as (w_s x i)).length) (s' := upd (upd s (95 + i) (nI (w_s x i))) 3 (nI (i + 1))) (hc' := hc) (ac' := i + 1) A' (by omega) (by omega) (fun σ y ct d => T_ass (by omega) y ct d (by omega) hs2 (by omega))
    refine ⟨upd (upd s (95 + i) (nI (w_s x i))) 3 (nI (i + 1)), ?_, ?_, fun h hh => ?_, fun j hj' => ?_⟩
    · rw [ew, List.length_append, ← Nat.add_assoc, ← Nat.add_assoc]
      exact A2
    · rw [upd_ne (by omega), upd_ne (by omega)]; exact e1'
    · rw [upd_ne (by omega), upd_ne (by omega)]; exact hb h hh
    · rw [upd_ne (by omega)]
      by_cases e : j = i
      · subst e; exact upd_same
      · rw [upd_ne (by omega)]; exact hj j (by omega)
/-- the whole text is read -/
theorem C_read {σ : f_M} {xs : Nat → Int32} {L : Nat} (x : cX (fun i => (w_tx xs L).getD i 0) (w_tx xs L).length σ) (h4 : σ 3 4 = nI 0) (b : fb σ) :
    ∃ σ' s, g_28 σ = some (true, σ') ∧ dS σ' s (w_hc (w_cell xs L 0)) (w_ac (w_cell xs L 0)) ∧ sFr σ σ' ∧ s 1 = nI (w_r (w_cell xs L 0)) ∧ (∀ h, h < w_hc (w_cell xs L 0) → s (20 + 9 * h + 7) = nI (w_b xs L h)) ∧ ∀ j, j < w_ac (w_cell xs L 0) → s (95 + j) = nI (w_s (w_cell xs L 0) j) := by
  have hl100 := w_tx_l xs L
  obtain ⟨hc1, hc4, -⟩ := w_hc_ok (w_cell xs L 0)
  obtain ⟨ac1, ac3, -⟩ := w_ac_ok (w_cell xs L 0)
  have hr := (w_r_ok (w_cell xs L 0)).1
  have hlen : (w_tx xs L).length = (w_rt (w_r (w_cell xs L 0))).length + (w_ht xs L (w_hc (w_cell xs L 0))).length + (w_at (w_cell xs L 0) (w_ac (w_cell xs L 0))).length := by
    unfold w_tx; rw [List.length_append, List.length_append]
  have hsg : sg (fun i => (w_tx xs L).getD i 0) 0 (w_rt (w_r (w_cell xs L 0)) ++ w_ht xs L (w_hc (w_cell xs L 0)) ++ w_at (w_cell xs L 0) (w_ac (w_cell xs L 0))) := fun i hi => by
    show (w_tx xs L).getD (0 + i) 0 = _
    rw [Nat.zero_add]; rfl
  have x0 : cX (fun i => (w_tx xs L).getD i 0) (w_tx xs L).length (f_up (f_up (f_up σ 5 0 (0 : Int32)) 5 4 (0 : Int32)) 5 6 (1000 : Int32)) := cX_keep x (by rw [up_rows (by omega), up_rows (by omega), up_rows (by omega)]) (by rw [up_rows (by omega), up_rows (by omega), up_rows (by omega)])
  obtain ⟨σ1, c1, x1, ct1, f1⟩ := C_next x0 (p := 0) (by rw [up_rows (by omega), up_rows (by omega), up_rows (by omega)]; exact h4) (by omega)
  have d1 : dS σ1 (clr (fun _ => 0)) 0 0 := by
    refine dS_zero ?_ ?_ ?_ ?_
    · rw [f1 5 (by omega), up_ix (by omega), up_ix (by omega), up_same]; rfl
    · rw [f1 5 (by omega), up_ix (by omega), up_same]; rfl
    · rw [f1 5 (by omega), up_same]; rfl
    · exact fb_keep b (by rw [f1 7 (by omega), up_rows (by omega), up_rows (by omega), up_rows (by omega)])
  generalize w_hc (w_cell xs L 0) = hc at *
  generalize w_ac (w_cell xs L 0) = ac at *
  generalize w_r (w_cell xs L 0) = r at *
  generalize w_cell xs L 0 = y at *
  generalize (fun i => (w_tx xs L).getD i 0) = t at *
  generalize (w_tx xs L).length = len at *
  have A0 : AtL t len σ1 0 0 (clr (fun _ => 0)) 0 0 := ⟨σ1, rfl, x1, ct1, d1, fun _ _ => rfl⟩
  have A1 := AtL_step (p' := 0 + (w_rt r).length) (s' := upd (clr (fun _ => 0)) 1 (nI r)) (hc' := 0) (ac' := 0) A0 (by omega) (by omega) (fun σ x ct d => T_res (by omega) x ct d (sg_l (sg_l hsg)) (by omega))
  obtain ⟨s2, A2, e2, b2⟩ := A_hol (xs := xs) (L := L) hc4 A1 upd_same (sg_r (sg_l hsg)) (by omega) hc (Nat.le_refl _)
  have hs3 : sg t (0 + (w_rt r).length + (w_ht xs L hc).length) (w_at y ac) := by
    have h9 := sg_r hsg
    rw [List.length_append, ← Nat.add_assoc] at h9
    exact h9
  obtain ⟨s3, A3, e3, b3, j3⟩ := A_ass (xs := xs) (L := L) (x := y) (by omega) hc4 ac3 A2 e2 (fun h hh => (b2 h hh).1) hs3 (by omega) ac (Nat.le_refl _)
  obtain ⟨σ', eL, x', ct', d', f'⟩ := A3
  have hend : 0 + (w_rt r).length + (w_ht xs L hc).length + (w_at y ac).length = len := by omega
  rw [hend] at ct'
  have hF : f_F - (0 + 1 + hc + ac) = (f_F - (0 + 1 + hc + ac + 1)) + 1 := by
    have : f_F = 100000 := rfl
    omega
  have hb : lpC (nI (0 + 1 + hc + ac), σ') = some (.inr (.inl σ')) := by
    unfold lpC
    dsimp only
    rw [if_neg (by rw [show (600 : Int32) = nI 600 from rfl, n_le (by omega) (by omega)]; omega), C_13 ct', bnd, tk_end, decide_eq_true rfl, if_pos rfl]
  rw [hF, lp_succ, hb, bnd, Sum.elim_inr] at eL
  refine ⟨σ', s3, ?_, d', fun q hq => ?_, e3, b3, j3⟩
  · rw [g_28_eq, c1, bnd, eL, bnd, Sum.elim_inl, d'.1.1, if_neg (by rw [show (0 : Int32) = nI 0 from rfl, n_le (by omega) (by omega)]; omega), d'.2.1.1, if_pos (by rw [show (0 : Int32) = nI 0 from rfl, n_lt (by omega) (by omega)]; omega), bnd]
  · rw [f' q hq, f1 q (by omega), up_rows (by omega), up_rows (by omega), up_rows (by omega)]
