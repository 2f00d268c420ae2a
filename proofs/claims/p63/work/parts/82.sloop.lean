/-! All statements of a script, read by both. -/
def lpC2 (s2 : Int32 × f_M) : Option ((Int32 × f_M) ⊕ (f_M ⊕ (Bool × f_M))) :=
   if (30 : Int32) < s2.1 then (
    some (.inr (.inl s2.2))
   ) else (
    (g_13  s2.2).bind fun t3 =>
    if t3 = true then (
     some (.inr (.inl s2.2))
    ) else (
     (g_70  s2.2).bind fun t4 =>
     if t4.1 = true then (
      (g_12  t4.2).bind fun t5 =>
      some (.inl ((s2.1 + (1 : Int32)), t5))
     ) else (
      some (.inr (.inr (false, t4.2)))
     )
    )
   )
def lpM2 (s2 : f_M) : Option (f_M ⊕ f_M) :=
   if ¬ (s2 155 17) = 0 then (
    some (.inr s2)
   ) else (
    if (s2 155 15) = 0 then (
     some (.inr s2)
    ) else (
     (g_117  s2).bind fun t3 =>
     some (.inl t3)
    )
   )
theorem lp2_end {t : Nat → Int32} {len p j : Nat} {σ τ : f_M} (g : SY t len σ τ p) (hK : tkK t len p = 0) : lpC2 (nI j, σ) = some (.inr (.inl σ)) ∧ lpM2 τ = some (.inr τ) := by
  have hz : τ 155 15 = 0 := by rw [g.2.2.2.2.2.1, hK]; rfl
  refine ⟨?_, ?_⟩
  · unfold lpC2
    dsimp only
    by_cases h6 : (30 : Int32) < nI j
    · rw [if_pos h6]
    · rw [if_neg h6, C_13 g.1.2, bnd, if_pos (decide_eq_true hK)]
  · unfold lpM2
    rw [if_neg (fun h => h g.2.2.1.2.2.2), if_pos hz]
theorem P_loop2 {t : Nat → Int32} {len hc : Nat} : ∀ (m p j F1 F2 : Nat) (σ τ : f_M), len - p ≤ m → SY t len σ τ p → m < F1 → m + 1 < F2 → nmS σ τ hc → stRows hc j σ τ →
    (∃ p' j' σ' τ', f_lp lpC2 F1 (nI j, σ) = some (.inl σ') ∧ f_lp lpM2 F2 τ = some τ' ∧ SY t len σ' τ' p' ∧ stRows hc j' σ' τ' ∧ zFr σ σ' τ τ') ∨
    ∃ c S σ' τ', f_lp lpC2 F1 (nI j, σ) = some (.inr (false, σ')) ∧ f_lp lpM2 F2 τ = some τ' ∧ FL σ' τ' c S ∧ zFr σ σ' τ τ' := by
  intro m
  induction m with
  | zero =>
    intro p j F1 F2 σ τ h1 g hF1 hF2 ns sr
    obtain ⟨G1, rfl⟩ : ∃ G, F1 = G + 1 := ⟨F1 - 1, by omega⟩
    obtain ⟨G2, rfl⟩ : ∃ G, F2 = G + 1 := ⟨F2 - 1, by omega⟩
    have hp := g.2.1
    have hS := tkS_le (t := t) hp
    have hK : tkK t len p = 0 := by
      refine Decidable.byContradiction fun h => ?_
      have := (tkE_le (t := t) hp).2.2 h
      omega
    obtain ⟨e1, e2⟩ := lp2_end (j := j) g hK
    refine Or.inl ⟨p, j, σ, τ, ?_, ?_, g, sr, ⟨fun _ _ => rfl, fun _ _ _ _ => rfl, fun _ _ => rfl⟩⟩
    · rw [lp_succ, e1, bnd]; rfl
    · rw [lp_succ, e2, bnd]; rfl
  | succ m ih =>
    intro p j F1 F2 σ τ h1 g hF1 hF2 ns sr
    obtain ⟨G1, rfl⟩ : ∃ G, F1 = G + 1 := ⟨F1 - 1, by omega⟩
    obtain ⟨G2, rfl⟩ : ∃ G, F2 = G + 1 := ⟨F2 - 1, by omega⟩
    have hp := g.2.1
    have hl := g.1.1.2.2.1
    have hS := tkS_le (t := t) hp
    have hj := sr.2.2.1
    by_cases hK : tkK t len p = 0
    · obtain ⟨e1, e2⟩ := lp2_end (j := j) g hK
      refine Or.inl ⟨p, j, σ, τ, ?_, ?_, g, sr, ⟨fun _ _ => rfl, fun _ _ _ _ => rfl, fun _ _ => rfl⟩⟩
      · rw [lp_succ, e1, bnd]; rfl
      · rw [lp_succ, e2, bnd]; rfl
    · have hlt := (tkE_le (t := t) hp).2.2 hK
      have hz : ¬ τ 155 15 = 0 := by
        rw [g.2.2.2.2.2.1, show (0 : Int32) = nI 0 from rfl, n_eq (by have := tkK_le t len p; omega) (by omega)]; exact hK
      have hM : lpM2 τ = (g_117 τ).bind fun t3 => some (.inl t3) := by
        unfold lpM2
        rw [if_neg (fun h => h g.2.2.1.2.2.2), if_neg hz]
      have hC : lpC2 (nI j, σ) = (g_70 σ).bind fun t4 =>
          if t4.1 = true then (
           (g_12  t4.2).bind fun t5 =>
           some (.inl ((nI j + (1 : Int32)), t5))
          ) else (
           some (.inr (.inr (false, t4.2)))
          ) := by
        unfold lpC2
        dsimp only
        rw [if_neg (by rw [show (30 : Int32) = nI 30 from rfl, n_lt (by omega) (by omega)]; omega), C_13 g.1.2, bnd, if_neg (by rw [decide_eq_false hK]; decide)]
      rcases P_stmt2 g.1.1 g.1.2 g.2.2.1 g.2.2.2 hp hK ns sr with ⟨p2, σ2, τ2, c2, m2, g2, lt2, sr2, z2⟩ | ⟨c, S, σ2, τ2, c2, m2, fl, z2⟩
      · obtain ⟨σ3, c3, x3, ct3, f3⟩ := C_next g2.1.1 g2.1.2 g2.2.1
        have z3 : zFr σ2 σ3 τ2 τ2 := zFr_tok f3 (mFr.rfl' _).n
        have hp2 := g2.2.1
        have r := ih p2 (j + 1) G1 G2 σ3 τ2 (by omega) ⟨⟨x3, ct3⟩, g2.2.1, g2.2.2⟩ (by omega) (by omega) (nmS_keep ns (z2.trans z3)) (stRows_tok sr2 f3 (mFr.rfl' _).n)
        have e1 : f_lp lpC2 (G1 + 1) (nI j, σ) = f_lp lpC2 G1 (nI (j + 1), σ3) := by
          rw [lp_succ, hC, c2, bnd, if_pos rfl, c3, bnd, bnd, show (1 : Int32) = nI 1 from rfl, n_add]; rfl
        have e2 : f_lp lpM2 (G2 + 1) τ = f_lp lpM2 G2 τ2 := by
          rw [lp_succ, hM, m2, bnd, bnd]; rfl
        rw [e1, e2]
        rcases r with ⟨p', j', σ', τ', h1, h2, h3, h4, h6⟩ | ⟨c, S, σ', τ', h1, h2, h3, h6⟩
        · exact Or.inl ⟨p', j', σ', τ', h1, h2, h3, h4, z2.trans (z3.trans h6)⟩
        · exact Or.inr ⟨c, S, σ', τ', h1, h2, h3, z2.trans (z3.trans h6)⟩
      · obtain ⟨G3, rfl⟩ : ∃ G, G2 = G + 1 := ⟨G2 - 1, by omega⟩
        refine Or.inr ⟨c, S, σ2, τ2, ?_, ?_, fl, z2⟩
        · rw [lp_succ, hC, c2, bnd]; rfl
        · rw [lp_succ, hM, m2, bnd, bnd]
          show f_lp lpM2 (G3 + 1) τ2 = some τ2
          have : lpM2 τ2 = some (.inr τ2) := by
            unfold lpM2
            rw [if_pos fl.2.2.ne]
          rw [lp_succ, this, bnd]; rfl
theorem g_71_eq (σ : f_M) : g_71 σ = (g_12 (f_up σ 10 1 (0 : Int32))).bind fun t1 =>
  (f_lp lpC2 f_F (nI 0, t1)).bind fun (y2 : (f_M) ⊕ (Bool × f_M)) => Sum.elim (fun x2 =>
   some (true, x2)
  ) (fun r2 => some r2) y2 := by
  unfold g_71; rfl
theorem nmS_of {σ τ : f_M} {D ck hc ac pc cc q n : Nat} {g : Nat → Nat} (S : sAll σ τ D ck hc ac pc cc g q n) : nmS σ τ hc := by
  obtain ⟨K, B, l, R⟩ := S
  have hh := K.1.2.1
  refine ⟨R.1.1.trans hh.1, hh.1, hh.2.2, fun h hh' => ?_⟩
  obtain ⟨m, m1, m2, m3, m4⟩ := K.2.2.2.2.2.2.2.2.1.2 h hh'
  obtain ⟨r1, r2⟩ := R.2.2.1 h hh'
  rw [show nat (τ 156 (20 + 9 * h + 0)) = m from by rw [m3]; exact nat_n (by omega)] at r2
  exact ⟨m, m1, m2, r1.trans m3, m3, r2⟩
/-- how the reading of a script ends -/
theorem P_readS {σ τ : f_M} {t : Nat → Int32} {len hc : Nat} (x : cX t len σ) (h4 : σ 3 4 = nI 0) (h10 : τ 155 10 = nI len) (ht : ∀ i, i < len → τ 161 i = t i) (h20 : τ 155 20 = nI 0) (ns : nmS σ τ hc) :
    ∃ τ1 τ2, g_52 τ = some τ1 ∧ f_lp lpM2 f_F τ1 = some τ2 ∧
    ((∃ j σ', g_71 σ = some (true, σ') ∧ τ2 155 17 = 0 ∧ stRows hc j σ' τ2 ∧ σ' 3 6 = nI 0 ∧ σ' 3 7 = -1 ∧ zFr σ σ' τ τ2) ∨
    ∃ c S σ', g_71 σ = some (false, σ') ∧ FL σ' τ2 c S ∧ zFr σ σ' τ τ2) := by
  have hl := x.2.2.1
  have x0 : cX t len (f_up σ 10 1 (0 : Int32)) := cX_keep x (up_rows (by omega)) (up_rows (by omega))
  obtain ⟨σ1, c1, x1, ct1, f1⟩ := C_next x0 (p := 0) (by rw [up_rows (by omega)]; exact h4) (by omega)
  obtain ⟨τ1, m1, y1, mt1, q1⟩ := M_begin h10 hl ht
  have z1 : zFr σ σ1 τ τ1 := ⟨fun r h => by rw [f1 r (by omega), up_rows (by omega)], fun r h _ _ => q1.1 r h, fun i h => q1.2 i (by omega)⟩
  have sr1 : stRows hc 0 σ1 τ1 := ⟨by rw [f1 10 (by omega), up_same]; rfl, by rw [q1.2 20 (by omega)]; exact h20, by omega, fun i hi => absurd hi (by omega)⟩
  have L := P_loop2 (hc := hc) 600 0 0 f_F f_F σ1 τ1 (by omega) ⟨⟨x1, ct1⟩, by omega, y1, mt1⟩ (f_F_lt (by omega)) (f_F_lt (by omega)) (nmS_keep ns z1) sr1
  rw [g_71_eq, c1, bnd]
  rcases L with ⟨p', j, σ', τ', h1, h2, h3, h5, h6⟩ | ⟨c, S, σ', τ', h1, h2, h3, h6⟩
  · refine ⟨τ1, τ', m1, h2, Or.inl ⟨j, σ', ?_, h3.2.2.1.2.2.2, h5, h3.1.1.2.2.2.2.1, h3.1.1.2.2.2.2.2, z1.trans h6⟩⟩
    rw [h1, bnd]; rfl
  · refine ⟨τ1, τ', m1, h2, Or.inr ⟨c, S, σ', ?_, h3, z1.trans h6⟩⟩
    rw [h1, bnd]; rfl
