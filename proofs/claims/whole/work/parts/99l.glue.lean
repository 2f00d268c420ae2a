/-! Glue: a class call and then the model's, in one memory. -/
theorem two {A : Type} {D D' : Nat} {μ : f_M} {C M : f_M → Option (A × f_M)} (I : IV D μ μ) (h : ∀ σ τ, IV D σ τ → ∃ v σ' τ', C σ = some (v, σ') ∧ M τ = some (v, τ') ∧ IV D' σ' τ' ∧ cFm σ σ' τ τ') : ∃ v σ' τ2, C μ = some (v, σ') ∧ M σ' = some (v, τ2) ∧ IV D' τ2 τ2 := by
  obtain ⟨v, σ', τ', h1, h2, J, f⟩ := h μ μ I
  have J2 : IV D μ σ' := IV_ext I (fun _ _ => rfl) (fun r h h' => f.1 r (by omega) (by omega)) (fun i _ => by rw [f.1 155 (by omega) (by omega)])
  obtain ⟨v2, σ2, τ2, g1, g2, J', f'⟩ := h μ σ' J2
  rw [h1] at g1
  obtain ⟨rfl, rfl⟩ := Prod.mk.inj (Option.some.inj g1)
  exact ⟨v, σ', τ2, h1, g2, IV_ext J' (fun r h => f'.2 r (by omega)) (fun _ _ _ => rfl) (fun _ _ => rfl)⟩
theorem glueS {D D' : Nat} {μ : f_M} {C M : f_M → Option (Int32 × f_M)} (I : IV D μ μ) (h : ∀ σ τ, IV D σ τ → ∃ v σ' τ', C σ = some (v, σ') ∧ M τ = some (v, τ') ∧ IV D' σ' τ' ∧ cFm σ σ' τ τ') : ∃ μ', ((C μ).bind fun t => (M t.2).bind fun t' => if t.1 = t'.1 then (some t'.2) else (none)) = some μ' ∧ IV D' μ' μ' := by
  obtain ⟨v, σ', τ2, h1, h2, J⟩ := two I h
  exact ⟨τ2, by rw [h1, bnd, h2, bnd, if_pos rfl], J⟩
theorem glueSb {D D' : Nat} {μ : f_M} {C M : f_M → Option (Bool × f_M)} (I : IV D μ μ) (h : ∀ σ τ, IV D σ τ → ∃ v σ' τ', C σ = some (v, σ') ∧ M τ = some (v, τ') ∧ IV D' σ' τ' ∧ cFm σ σ' τ τ') : ∃ μ', ((C μ).bind fun t => (M t.2).bind fun t' => if (f_b t.1) = (f_b t'.1) then (some t'.2) else (none)) = some μ' ∧ IV D' μ' μ' := by
  obtain ⟨v, σ', τ2, h1, h2, J⟩ := two I h
  exact ⟨τ2, by rw [h1, bnd, h2, bnd, if_pos rfl], J⟩
theorem glueT {D : Nat} {μ : f_M} {W M : f_M → Option (Int32 × f_M)} (I : IV D μ μ) (h : ∀ σ τ, IV D σ τ → tB (D + 30000) W M σ τ) : ∃ μ', ((W μ).bind fun t => (M t.2).bind fun t' => (g_178 t'.2).bind fun t'' =>
  if t'' = t.1 then (
   if ¬ t.1 = 0 then (
    some t'.2
   ) else (
    (f_rd t'.2 167 1 (0 : Int32)).bind fun v47 =>
    if (lg_cmp (v47).toInt64 (t'.1).toInt64) = 0 then (
     some t'.2
    ) else (
     none
    )
   )
  ) else (
   none
  )) = some μ' ∧ IV (D + 30000) μ' μ' := by
  obtain ⟨k, v, σ', τ', h1, h2, h6, h7, J, f⟩ := h μ μ I
  have J2 : IV D μ σ' := IV_ext I (fun _ _ => rfl) (fun r h h' => f.1 r (by omega) (by omega)) (fun i _ => by rw [f.1 155 (by omega) (by omega)])
  obtain ⟨k2, v2, σ2, τ2, g1, g2, g6, g7, J', f'⟩ := h μ σ' J2
  rw [h1] at g1
  obtain ⟨rfl, rfl⟩ := Prod.mk.inj (Option.some.inj g1)
  refine ⟨τ2, ?_, IV_ext J' (fun r h => f'.2 r (by omega)) (fun _ _ _ => rfl) (fun _ _ => rfl)⟩
  rw [h1, bnd, g2, bnd]
  unfold g_178
  rw [bnd, if_pos g6]
  dsimp only
  by_cases hk : k = 0
  · rw [if_neg (show ¬ ¬ k = 0 from fun h => h hk), show f_rd τ2 167 1 (0 : Int32) = some (τ2 167 0) from f_rd_n (p := 0) (by omega) (by omega), bnd, f'.2 167 (by omega), g7 hk, if_pos (lgc v2)]
  · rw [if_pos (show ¬ k = 0 from hk)]
theorem glue43 {D : Nat} {μ : f_M} (I : IV D μ μ) : ∃ μ', ((g_280 μ).bind fun t294 =>
  (g_281 μ).bind fun t295 =>
  if (Op.cmpValue (FP.dcmp t294 t295.1) .l) = 0 then (
   some t295.2
  ) else (
   if (Op.cmpValue (FP.dcmp t294 t294) .l) = 0 then (
    none
   ) else (
    if ¬ (Op.cmpValue (FP.dcmp t295.1 t295.1) .l) = 0 then (
     some t295.2
    ) else (
     none
    )
   )
  )) = some μ' ∧ IV (D + 30000) μ' μ' := by
  obtain ⟨x, h1, h2⟩ := A_43 I
  refine ⟨f_up μ 155 6 0, ?_, IV_mu (IV_mono I (by omega)) (fun r _ h => up_rows h) (fun i h => up_ix h)⟩
  rw [h1, bnd, h2, bnd]
  dsimp only
  by_cases c : Op.cmpValue (FP.dcmp x x) .l = 0
  · rw [if_pos c]
  · rw [if_neg c, if_neg c, if_pos c]
theorem glue44 {D : Nat} {μ : f_M} (I : IV D μ μ) : ∃ μ', ((g_282 μ).bind fun t299 =>
  if FP.f2d t299 &&& 0x7fffffffffffffff ≤ 0x7ff0000000000000 then (
  (g_284 μ).bind fun t300 =>
  if FP.f2d t300.1 &&& 0x7fffffffffffffff ≤ 0x7ff0000000000000 then (
  if (Op.cmpValue (FP.dcmp (FP.f2d t299) (FP.f2d t300.1)) .l) = 0 then (
   some t300.2
  ) else (
   if (Op.cmpValue (FP.dcmp (FP.f2d t299) (FP.f2d t299)) .l) = 0 then (
    none
   ) else (
    if ¬ (Op.cmpValue (FP.dcmp (FP.f2d t300.1) (FP.f2d t300.1)) .l) = 0 then (
     some t300.2
    ) else (
     none
    )
   )
  )
  ) else none
  ) else none) = some μ' ∧ IV (D + 30000) μ' μ' := by
  obtain ⟨x, h1, h2, h3⟩ := A_44 I
  have hn : FP.f2d x &&& 0x7fffffffffffffff ≤ 0x7ff0000000000000 := by
    have e : FP.f2d x = FP.Core.f2d x := by
      unfold FP.f2d
      rw [h3]
      rfl
    rw [e]
    exact ok64 (FP.Core.f2d_out h3)
  refine ⟨f_up μ 155 6 0, ?_, IV_mu (IV_mono I (by omega)) (fun r _ h => up_rows h) (fun i h => up_ix h)⟩
  rw [h1, bnd, if_pos hn, h2, bnd]
  dsimp only
  rw [if_pos hn]
  by_cases c : Op.cmpValue (FP.dcmp (FP.f2d x) (FP.f2d x)) .l = 0
  · rw [if_pos c]
  · rw [if_neg c, if_neg c, if_pos c]
theorem ldx {xs : Nat → Int32} {L j c : Nat} (hL : L ≤ 3584) (h : 7 * j + 7 ≤ L) (hc : c < 7) : (if (nI (7 * j) + nI c) < 0 ∨ L ≤ ((nI (7 * j) + nI c)).toNatClampNeg then none else some (xs ((nI (7 * j) + nI c)).toNatClampNeg)) = some (xs (7 * j + c)) := by
  rw [n_add, n_clamp (by omega), if_neg]
  rintro (h1 | h1)
  · exact n_neg (by omega) h1
  · omega
theorem ld_0 {xs : Nat → Int32} {L j : Nat} (hL : L ≤ 3584) (h : 7 * j + 7 ≤ L) : (if nI (7 * j) < 0 ∨ L ≤ (nI (7 * j)).toNatClampNeg then none else some (xs (nI (7 * j)).toNatClampNeg)) = some (xs (7 * j)) := by
  rw [n_clamp (by omega), if_neg]
  rintro (h1 | h1)
  · exact n_neg (by omega) h1
  · omega
