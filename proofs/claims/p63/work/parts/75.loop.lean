/-! The statements of a setup, one after the other. -/
def SY (t : Nat → Int32) (len : Nat) (σ τ : f_M) (p : Nat) : Prop := (cX t len σ ∧ cT t len σ p) ∧ p ≤ len ∧ mX t len τ ∧ mT t len τ p
def lpC (s2 : Int32 × f_M) : Option ((Int32 × f_M) ⊕ (f_M ⊕ (Bool × f_M))) :=
   if (600 : Int32) ≤ s2.1 then (
    some (.inr (.inl s2.2))
   ) else (
    (g_13  s2.2).bind fun t3 =>
    if t3 = true then (
     some (.inr (.inl s2.2))
    ) else (
     (g_27  s2.2).bind fun t4 =>
     if t4.1 = true then (
      (g_12  t4.2).bind fun t5 =>
      some (.inl ((s2.1 + (1 : Int32)), t5))
     ) else (
      some (.inr (.inr (false, t4.2)))
     )
    )
   )
def lpM (s4 : f_M) : Option (f_M ⊕ f_M) :=
   if ¬ (s4 155 17) = 0 then (
    some (.inr s4)
   ) else (
    if (s4 155 15) = 0 then (
     some (.inr s4)
    ) else (
     (g_62  s4).bind fun t5 =>
     some (.inl t5)
    )
   )
theorem C_13 {t : Nat → Int32} {len p : Nat} {σ : f_M} (ct : cT t len σ p) : g_13 σ = some (decide (tkK t len p = 0)) := by
  unfold g_13
  rw [ct.2.2, show (0 : Int32) = nI 0 from rfl]
  by_cases h : tkK t len p = 0
  · rw [h, if_neg (fun h => h rfl), bnd, decide_eq_true rfl]
  · rw [if_pos (by rw [n_eq (by have := tkK_le t len p; omega) (by omega)]; exact h), bnd, decide_eq_false h]
theorem P_loop {t : Nat → Int32} {len : Nat} : ∀ (m p k hc ac F1 F2 : Nat) (σ τ : f_M), len - p ≤ m → SY t len σ τ p → k ≤ p → m < F1 → m + 1 < F2 → dS σ (τ 156) hc ac →
    (∃ p' hc' ac' σ' τ', f_lp lpC F1 (nI k, σ) = some (.inl σ') ∧ f_lp lpM F2 τ = some τ' ∧ SY t len σ' τ' p' ∧ tkK t len p' = 0 ∧ dS σ' (τ' 156) hc' ac' ∧ sFr σ σ' ∧ pFr τ τ') ∨
    ∃ c S σ' τ', f_lp lpC F1 (nI k, σ) = some (.inr (false, σ')) ∧ f_lp lpM F2 τ = some τ' ∧ FL σ' τ' c S ∧ fb σ' ∧ sFr σ σ' ∧ pFr τ τ' := by
  intro m
  induction m with
  | zero =>
    intro p k hc ac F1 F2 σ τ h1 g hk hF1 hF2 d
    obtain ⟨G1, rfl⟩ : ∃ G, F1 = G + 1 := ⟨F1 - 1, by omega⟩
    obtain ⟨G2, rfl⟩ : ∃ G, F2 = G + 1 := ⟨F2 - 1, by omega⟩
    have hp := g.2.1
    have hS := tkS_le (t := t) hp
    have hK : tkK t len p = 0 := by
      refine Decidable.byContradiction fun h => ?_
      have := (tkE_le (t := t) hp).2.2 h
      omega
    have hz : τ 155 15 = 0 := by rw [g.2.2.2.2.2.1, hK]; rfl
    refine Or.inl ⟨p, hc, ac, σ, τ, ?_, ?_, g, hK, d, fun _ _ => rfl, ⟨fun _ _ _ _ => rfl, fun _ _ => rfl⟩⟩
    · rw [lp_succ]
      have : lpC (nI k, σ) = some (.inr (.inl σ)) := by
        unfold lpC
        dsimp only
        by_cases h6 : (600 : Int32) ≤ nI k
        · rw [if_pos h6]
        · rw [if_neg h6, C_13 g.1.2, bnd, if_pos (decide_eq_true hK)]
      rw [this, bnd]; rfl
    · rw [lp_succ]
      have : lpM τ = some (.inr τ) := by
        unfold lpM
        rw [if_neg (fun h => h g.2.2.1.2.2.2), if_pos hz]
      rw [this, bnd]; rfl
  | succ m ih =>
    intro p k hc ac F1 F2 σ τ h1 g hk hF1 hF2 d
    obtain ⟨G1, rfl⟩ : ∃ G, F1 = G + 1 := ⟨F1 - 1, by omega⟩
    obtain ⟨G2, rfl⟩ : ∃ G, F2 = G + 1 := ⟨F2 - 1, by omega⟩
    have hp := g.2.1
    have hl := g.1.1.2.2.1
    have hS := tkS_le (t := t) hp
    by_cases hK : tkK t len p = 0
    · have hz : τ 155 15 = 0 := by rw [g.2.2.2.2.2.1, hK]; rfl
      refine Or.inl ⟨p, hc, ac, σ, τ, ?_, ?_, g, hK, d, fun _ _ => rfl, ⟨fun _ _ _ _ => rfl, fun _ _ => rfl⟩⟩
      · rw [lp_succ]
        have : lpC (nI k, σ) = some (.inr (.inl σ)) := by
          unfold lpC
          dsimp only
          by_cases h6 : (600 : Int32) ≤ nI k
          · rw [if_pos h6]
          · rw [if_neg h6, C_13 g.1.2, bnd, if_pos (decide_eq_true hK)]
        rw [this, bnd]; rfl
      · rw [lp_succ]
        have : lpM τ = some (.inr τ) := by
          unfold lpM
          rw [if_neg (fun h => h g.2.2.1.2.2.2), if_pos hz]
        rw [this, bnd]; rfl
    · have hlt := (tkE_le (t := t) hp).2.2 hK
      have hz : ¬ τ 155 15 = 0 := by
        rw [g.2.2.2.2.2.1, show (0 : Int32) = nI 0 from rfl, n_eq (by have := tkK_le t len p; omega) (by omega)]; exact hK
      have hM : lpM τ = (g_62 τ).bind fun t5 => some (.inl t5) := by
        unfold lpM
        rw [if_neg (fun h => h g.2.2.1.2.2.2), if_neg hz]
      have hC : lpC (nI k, σ) = (g_27 σ).bind fun t4 =>
          if t4.1 = true then (
           (g_12  t4.2).bind fun t5 =>
           some (.inl ((nI k + (1 : Int32)), t5))
          ) else (
           some (.inr (.inr (false, t4.2)))
          ) := by
        unfold lpC
        dsimp only
        rw [if_neg (by rw [show (600 : Int32) = nI 600 from rfl, n_le (by omega) (by omega)]; omega), C_13 g.1.2, bnd, if_neg (by rw [decide_eq_false hK]; decide)]
      rcases P_stmt g.1.1 g.1.2 g.2.2.1 g.2.2.2 hp hK d with ⟨p2, hc2, ac2, σ2, τ2, c2, m2, g2, lt2, d2, s2, q2⟩ | ⟨c, S, σ2, τ2, c2, m2, fl, b2, s2, q2⟩
      · obtain ⟨σ3, c3, x3, ct3, f3⟩ := C_next g2.1.1 g2.1.2 g2.2.1
        have d3 : dS σ3 (τ2 156) hc2 ac2 := dS_keep d2 (fun r _ _ => f3 r (by omega))
        have hp2 := g2.2.1
        have r := ih p2 (k + 1) hc2 ac2 G1 G2 σ3 τ2 (by omega) ⟨⟨x3, ct3⟩, g2.2.1, g2.2.2⟩ (by omega) (by omega) (by omega) d3
        have e1 : f_lp lpC (G1 + 1) (nI k, σ) = f_lp lpC G1 (nI (k + 1), σ3) := by
          rw [lp_succ, hC, c2, bnd, if_pos rfl, c3, bnd, bnd, show (1 : Int32) = nI 1 from rfl, n_add]; rfl
        have e2 : f_lp lpM (G2 + 1) τ = f_lp lpM G2 τ2 := by
          rw [lp_succ, hM, m2, bnd, bnd]; rfl
        rw [e1, e2]
        rcases r with ⟨p', hc', ac', σ', τ', h1, h2, h3, h4, h5, h6, h7⟩ | ⟨c, S, σ', τ', h1, h2, h3, h4, h6, h7⟩
        · exact Or.inl ⟨p', hc', ac', σ', τ', h1, h2, h3, h4, h5, s2.trans (f3.s.trans h6), q2.trans h7⟩
        · exact Or.inr ⟨c, S, σ', τ', h1, h2, h3, h4, s2.trans (f3.s.trans h6), q2.trans h7⟩
      · obtain ⟨G3, rfl⟩ : ∃ G, G2 = G + 1 := ⟨G2 - 1, by omega⟩
        refine Or.inr ⟨c, S, σ2, τ2, ?_, ?_, fl, b2, s2, q2⟩
        · rw [lp_succ, hC, c2, bnd]; rfl
        · rw [lp_succ, hM, m2, bnd, bnd]
          show f_lp lpM (G3 + 1) τ2 = some τ2
          have : lpM τ2 = some (.inr τ2) := by
            unfold lpM
            rw [if_pos fl.2.2.ne]
          rw [lp_succ, this, bnd]; rfl
