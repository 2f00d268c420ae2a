/-! Each law call keeps the relation. -/
theorem ld_1 {xs : Nat → Int32} {L j : Nat} (hL : L ≤ 3584) (h : 7 * j + 7 ≤ L) : (if (nI (7 * j) + (1 : Int32)) < 0 ∨ L ≤ ((nI (7 * j) + (1 : Int32))).toNatClampNeg then none else some (xs ((nI (7 * j) + (1 : Int32))).toNatClampNeg)) = some (xs (7 * j + 1)) := ldx (c := 1) hL h (by omega)
theorem ld_2 {xs : Nat → Int32} {L j : Nat} (hL : L ≤ 3584) (h : 7 * j + 7 ≤ L) : (if (nI (7 * j) + (2 : Int32)) < 0 ∨ L ≤ ((nI (7 * j) + (2 : Int32))).toNatClampNeg then none else some (xs ((nI (7 * j) + (2 : Int32))).toNatClampNeg)) = some (xs (7 * j + 2)) := ldx (c := 2) hL h (by omega)
theorem ld_3 {xs : Nat → Int32} {L j : Nat} (hL : L ≤ 3584) (h : 7 * j + 7 ≤ L) : (if (nI (7 * j) + (3 : Int32)) < 0 ∨ L ≤ ((nI (7 * j) + (3 : Int32))).toNatClampNeg then none else some (xs ((nI (7 * j) + (3 : Int32))).toNatClampNeg)) = some (xs (7 * j + 3)) := ldx (c := 3) hL h (by omega)
theorem ld_4 {xs : Nat → Int32} {L j : Nat} (hL : L ≤ 3584) (h : 7 * j + 7 ≤ L) : (if (nI (7 * j) + (4 : Int32)) < 0 ∨ L ≤ ((nI (7 * j) + (4 : Int32))).toNatClampNeg then none else some (xs ((nI (7 * j) + (4 : Int32))).toNatClampNeg)) = some (xs (7 * j + 4)) := ldx (c := 4) hL h (by omega)
theorem ld_5 {xs : Nat → Int32} {L j : Nat} (hL : L ≤ 3584) (h : 7 * j + 7 ≤ L) : (if (nI (7 * j) + (5 : Int32)) < 0 ∨ L ≤ ((nI (7 * j) + (5 : Int32))).toNatClampNeg then none else some (xs ((nI (7 * j) + (5 : Int32))).toNatClampNeg)) = some (xs (7 * j + 5)) := ldx (c := 5) hL h (by omega)
theorem ld_6 {xs : Nat → Int32} {L j : Nat} (hL : L ≤ 3584) (h : 7 * j + 7 ≤ L) : (if (nI (7 * j) + (6 : Int32)) < 0 ∨ L ≤ ((nI (7 * j) + (6 : Int32))).toNatClampNeg then none else some (xs ((nI (7 * j) + (6 : Int32))).toNatClampNeg)) = some (xs (7 * j + 6)) := ldx (c := 6) hL h (by omega)
theorem st_0 {xs : Nat → Int32} {L j : Nat} {μ : f_M} (hL : L ≤ 3584) (h : 7 * j + 7 ≤ L) (I : IV (30000 * j) μ μ) : ∃ μ', lw_0 xs L (nI (7 * j)) μ = some μ' ∧ IV (30000 * j + 30000) μ' μ' := by
  unfold lw_0
  simp only [ld_1 hL h, ld_2 hL h, ld_3 hL h, ld_4 hL h, ld_5 hL h, bnd]
  exact glueS (D' := 30000 * j + 30000) (C := (g_42 (xs (7 * j + 1)) (xs (7 * j + 2)) (xs (7 * j + 3)) (xs (7 * j + 4)) (xs (7 * j + 5)))) (M := (g_44 (xs (7 * j + 1)) (xs (7 * j + 2)) (xs (7 * j + 3)) (xs (7 * j + 4)) (xs (7 * j + 5)))) I (fun σ τ I => by
    obtain ⟨v, σ', τ', h1, h2, h3, h4⟩ := IV_app _ _ _ _ _ I
    exact ⟨v, σ', τ', h1, h2, IV_mono h3 (by omega), h4⟩)
theorem st_1 {xs : Nat → Int32} {L j : Nat} {μ : f_M} (hL : L ≤ 3584) (h : 7 * j + 7 ≤ L) (I : IV (30000 * j) μ μ) : ∃ μ', lw_1 xs L (nI (7 * j)) μ = some μ' ∧ IV (30000 * j + 30000) μ' μ' := by
  unfold lw_1
  simp only [ld_1 hL h, bnd]
  exact glueSb (D' := 30000 * j + 30000) (C := (g_45 (xs (7 * j + 1)))) (M := (g_47 (xs (7 * j + 1)))) I (fun σ τ I => by
    obtain ⟨v, σ', τ', h1, h2, h3, h4⟩ := IV_trunc _ I
    exact ⟨v, σ', τ', h1, h2, IV_mono h3 (by omega), h4⟩)
theorem st_2 {xs : Nat → Int32} {L j : Nat} {μ : f_M} (hL : L ≤ 3584) (h : 7 * j + 7 ≤ L) (I : IV (30000 * j) μ μ) : ∃ μ', lw_2 xs L (nI (7 * j)) μ = some μ' ∧ IV (30000 * j + 30000) μ' μ' := by
  unfold lw_2
  exact glueS (D' := 30000 * j + 30000) (C := g_33) (M := g_65) I (fun σ τ I => by
    obtain ⟨v, σ', τ', h1, h2, h3, h4⟩ := IV_load I
    exact ⟨v, σ', τ', h1, h2, IV_mono h3 (by omega), h4⟩)
theorem st_3 {xs : Nat → Int32} {L j : Nat} {μ : f_M} (hL : L ≤ 3584) (h : 7 * j + 7 ≤ L) (I : IV (30000 * j) μ μ) : ∃ μ', lw_3 xs L (nI (7 * j)) μ = some μ' ∧ IV (30000 * j + 30000) μ' μ' := by
  unfold lw_3
  exact glueS (D' := 30000 * j + 30000) (C := g_113) (M := g_159) I (fun σ τ I => IV_run (by omega) I)
theorem st_4 {xs : Nat → Int32} {L j : Nat} {μ : f_M} (hL : L ≤ 3584) (h : 7 * j + 7 ≤ L) (I : IV (30000 * j) μ μ) : ∃ μ', lw_4 xs L (nI (7 * j)) μ = some μ' ∧ IV (30000 * j + 30000) μ' μ' := by
  unfold lw_4
  exact glueA I (A_4 I)
theorem st_5 {xs : Nat → Int32} {L j : Nat} {μ : f_M} (hL : L ≤ 3584) (h : 7 * j + 7 ≤ L) (I : IV (30000 * j) μ μ) : ∃ μ', lw_5 xs L (nI (7 * j)) μ = some μ' ∧ IV (30000 * j + 30000) μ' μ' := by
  unfold lw_5
  exact glueA I (A_5 I)
theorem st_6 {xs : Nat → Int32} {L j : Nat} {μ : f_M} (hL : L ≤ 3584) (h : 7 * j + 7 ≤ L) (I : IV (30000 * j) μ μ) : ∃ μ', lw_6 xs L (nI (7 * j)) μ = some μ' ∧ IV (30000 * j + 30000) μ' μ' := by
  unfold lw_6
  exact glueA I (A_6 I)
theorem st_7 {xs : Nat → Int32} {L j : Nat} {μ : f_M} (hL : L ≤ 3584) (h : 7 * j + 7 ≤ L) (I : IV (30000 * j) μ μ) : ∃ μ', lw_7 xs L (nI (7 * j)) μ = some μ' ∧ IV (30000 * j + 30000) μ' μ' := by
  unfold lw_7
  exact glueA I (A_7 I)
theorem st_8 {xs : Nat → Int32} {L j : Nat} {μ : f_M} (hL : L ≤ 3584) (h : 7 * j + 7 ≤ L) (I : IV (30000 * j) μ μ) : ∃ μ', lw_8 xs L (nI (7 * j)) μ = some μ' ∧ IV (30000 * j + 30000) μ' μ' := by
  unfold lw_8
  exact glueA I (A_8 I)
theorem st_9 {xs : Nat → Int32} {L j : Nat} {μ : f_M} (hL : L ≤ 3584) (h : 7 * j + 7 ≤ L) (I : IV (30000 * j) μ μ) : ∃ μ', lw_9 xs L (nI (7 * j)) μ = some μ' ∧ IV (30000 * j + 30000) μ' μ' := by
  unfold lw_9
  simp only [ld_1 hL h, ld_2 hL h, bnd]
  exact glueB (W := (g_174 (xs (7 * j + 1)) (xs (7 * j + 2)))) (M := (g_177 (xs (7 * j + 1)) (xs (7 * j + 2)))) I (fun σ τ I => Q_9 _ _ I)
theorem st_10 {xs : Nat → Int32} {L j : Nat} {μ : f_M} (hL : L ≤ 3584) (h : 7 * j + 7 ≤ L) (I : IV (30000 * j) μ μ) : ∃ μ', lw_10 xs L (nI (7 * j)) μ = some μ' ∧ IV (30000 * j + 30000) μ' μ' := by
  unfold lw_10
  simp only [ld_1 hL h, bnd]
  exact glueB (W := (g_180 (xs (7 * j + 1)))) (M := (g_181 (xs (7 * j + 1)))) I (fun σ τ I => Q_10 _ I)
theorem st_11 {xs : Nat → Int32} {L j : Nat} {μ : f_M} (hL : L ≤ 3584) (h : 7 * j + 7 ≤ L) (I : IV (30000 * j) μ μ) : ∃ μ', lw_11 xs L (nI (7 * j)) μ = some μ' ∧ IV (30000 * j + 30000) μ' μ' := by
  unfold lw_11
  simp only [ld_1 hL h, bnd]
  exact glueB (W := (g_183 (xs (7 * j + 1)))) (M := (g_185 (xs (7 * j + 1)))) I (fun σ τ I => Q_11 _ I)
theorem st_12 {xs : Nat → Int32} {L j : Nat} {μ : f_M} (hL : L ≤ 3584) (h : 7 * j + 7 ≤ L) (I : IV (30000 * j) μ μ) : ∃ μ', lw_12 xs L (nI (7 * j)) μ = some μ' ∧ IV (30000 * j + 30000) μ' μ' := by
  unfold lw_12
  simp only [ld_1 hL h, bnd]
  exact glueB (W := (g_188 (xs (7 * j + 1)))) (M := (g_190 (xs (7 * j + 1)))) I (fun σ τ I => Q_12 _ I)
theorem st_13 {xs : Nat → Int32} {L j : Nat} {μ : f_M} (hL : L ≤ 3584) (h : 7 * j + 7 ≤ L) (I : IV (30000 * j) μ μ) : ∃ μ', lw_13 xs L (nI (7 * j)) μ = some μ' ∧ IV (30000 * j + 30000) μ' μ' := by
  unfold lw_13
  simp only [ld_1 hL h, bnd]
  exact glueB (W := (g_192 (xs (7 * j + 1)))) (M := (g_193 (xs (7 * j + 1)))) I (fun σ τ I => Q_13 _ I)
theorem st_14 {xs : Nat → Int32} {L j : Nat} {μ : f_M} (hL : L ≤ 3584) (h : 7 * j + 7 ≤ L) (I : IV (30000 * j) μ μ) : ∃ μ', lw_14 xs L (nI (7 * j)) μ = some μ' ∧ IV (30000 * j + 30000) μ' μ' := by
  unfold lw_14
  exact glueA I (A_14 I)
theorem st_15 {xs : Nat → Int32} {L j : Nat} {μ : f_M} (hL : L ≤ 3584) (h : 7 * j + 7 ≤ L) (I : IV (30000 * j) μ μ) : ∃ μ', lw_15 xs L (nI (7 * j)) μ = some μ' ∧ IV (30000 * j + 30000) μ' μ' := by
  unfold lw_15
  simp only [ld_1 hL h, bnd]
  exact glueZ (W := (g_198 (xs (7 * j + 1)))) (M := (g_199 (xs (7 * j + 1)))) I (fun σ τ I => Q_15 _ I)
theorem st_16 {xs : Nat → Int32} {L j : Nat} {μ : f_M} (hL : L ≤ 3584) (h : 7 * j + 7 ≤ L) (I : IV (30000 * j) μ μ) : ∃ μ', lw_16 xs L (nI (7 * j)) μ = some μ' ∧ IV (30000 * j + 30000) μ' μ' := by
  unfold lw_16
  simp only [ld_1 hL h, bnd]
  exact glueB (W := (g_201 (xs (7 * j + 1)))) (M := (g_203 (xs (7 * j + 1)))) I (fun σ τ I => Q_16 _ I)
theorem st_17 {xs : Nat → Int32} {L j : Nat} {μ : f_M} (hL : L ≤ 3584) (h : 7 * j + 7 ≤ L) (I : IV (30000 * j) μ μ) : ∃ μ', lw_17 xs L (nI (7 * j)) μ = some μ' ∧ IV (30000 * j + 30000) μ' μ' := by
  unfold lw_17
  simp only [ld_1 hL h, bnd]
  exact glueB (W := (g_205 (xs (7 * j + 1)))) (M := (g_206 (xs (7 * j + 1)))) I (fun σ τ I => Q_17 _ I)
theorem st_18 {xs : Nat → Int32} {L j : Nat} {μ : f_M} (hL : L ≤ 3584) (h : 7 * j + 7 ≤ L) (I : IV (30000 * j) μ μ) : ∃ μ', lw_18 xs L (nI (7 * j)) μ = some μ' ∧ IV (30000 * j + 30000) μ' μ' := by
  unfold lw_18
  simp only [ld_1 hL h, bnd]
  exact glueB (W := (g_208 (xs (7 * j + 1)))) (M := (g_209 (xs (7 * j + 1)))) I (fun σ τ I => Q_18 _ I)
theorem st_19 {xs : Nat → Int32} {L j : Nat} {μ : f_M} (hL : L ≤ 3584) (h : 7 * j + 7 ≤ L) (I : IV (30000 * j) μ μ) : ∃ μ', lw_19 xs L (nI (7 * j)) μ = some μ' ∧ IV (30000 * j + 30000) μ' μ' := by
  unfold lw_19
  simp only [ld_1 hL h, bnd]
  exact glueB (W := (g_211 (xs (7 * j + 1)))) (M := (g_212 (xs (7 * j + 1)))) I (fun σ τ I => Q_19 _ I)
theorem st_20 {xs : Nat → Int32} {L j : Nat} {μ : f_M} (hL : L ≤ 3584) (h : 7 * j + 7 ≤ L) (I : IV (30000 * j) μ μ) : ∃ μ', lw_20 xs L (nI (7 * j)) μ = some μ' ∧ IV (30000 * j + 30000) μ' μ' := by
  unfold lw_20
  simp only [ld_1 hL h, bnd]
  exact glueB (W := (g_214 (xs (7 * j + 1)))) (M := (g_215 (xs (7 * j + 1)))) I (fun σ τ I => Q_20 _ I)
theorem st_21 {xs : Nat → Int32} {L j : Nat} {μ : f_M} (hL : L ≤ 3584) (h : 7 * j + 7 ≤ L) (I : IV (30000 * j) μ μ) : ∃ μ', lw_21 xs L (nI (7 * j)) μ = some μ' ∧ IV (30000 * j + 30000) μ' μ' := by
  unfold lw_21
  simp only [ld_1 hL h, bnd]
  exact glueZ (W := (g_217 (xs (7 * j + 1)))) (M := (g_218 (xs (7 * j + 1)))) I (fun σ τ I => Q_21 _ I)
theorem st_22 {xs : Nat → Int32} {L j : Nat} {μ : f_M} (hL : L ≤ 3584) (h : 7 * j + 7 ≤ L) (I : IV (30000 * j) μ μ) : ∃ μ', lw_22 xs L (nI (7 * j)) μ = some μ' ∧ IV (30000 * j + 30000) μ' μ' := by
  unfold lw_22
  simp only [ld_1 hL h, bnd]
  exact glueZ (W := (g_220 (xs (7 * j + 1)))) (M := (g_221 (xs (7 * j + 1)))) I (fun σ τ I => Q_22 _ I)
theorem st_23 {xs : Nat → Int32} {L j : Nat} {μ : f_M} (hL : L ≤ 3584) (h : 7 * j + 7 ≤ L) (I : IV (30000 * j) μ μ) : ∃ μ', lw_23 xs L (nI (7 * j)) μ = some μ' ∧ IV (30000 * j + 30000) μ' μ' := by
  unfold lw_23
  simp only [ld_1 hL h, bnd]
  exact glueB (W := (g_223 (xs (7 * j + 1)))) (M := (g_224 (xs (7 * j + 1)))) I (fun σ τ I => Q_23 _ I)
theorem st_24 {xs : Nat → Int32} {L j : Nat} {μ : f_M} (hL : L ≤ 3584) (h : 7 * j + 7 ≤ L) (I : IV (30000 * j) μ μ) : ∃ μ', lw_24 xs L (nI (7 * j)) μ = some μ' ∧ IV (30000 * j + 30000) μ' μ' := by
  unfold lw_24
  simp only [ld_1 hL h, bnd]
  exact glueB (W := (g_226 (xs (7 * j + 1)))) (M := (g_227 (xs (7 * j + 1)))) I (fun σ τ I => Q_24 _ I)
theorem st_25 {xs : Nat → Int32} {L j : Nat} {μ : f_M} (hL : L ≤ 3584) (h : 7 * j + 7 ≤ L) (I : IV (30000 * j) μ μ) : ∃ μ', lw_25 xs L (nI (7 * j)) μ = some μ' ∧ IV (30000 * j + 30000) μ' μ' := by
  unfold lw_25
  exact glueA I (A_25 I)
theorem st_26 {xs : Nat → Int32} {L j : Nat} {μ : f_M} (hL : L ≤ 3584) (h : 7 * j + 7 ≤ L) (I : IV (30000 * j) μ μ) : ∃ μ', lw_26 xs L (nI (7 * j)) μ = some μ' ∧ IV (30000 * j + 30000) μ' μ' := by
  unfold lw_26
  simp only [ld_1 hL h, bnd]
  exact glueB (W := (g_232 (xs (7 * j + 1)))) (M := (g_235 (xs (7 * j + 1)))) I (fun σ τ I => Q_26 _ I)
theorem st_27 {xs : Nat → Int32} {L j : Nat} {μ : f_M} (hL : L ≤ 3584) (h : 7 * j + 7 ≤ L) (I : IV (30000 * j) μ μ) : ∃ μ', lw_27 xs L (nI (7 * j)) μ = some μ' ∧ IV (30000 * j + 30000) μ' μ' := by
  unfold lw_27
  simp only [ld_1 hL h, bnd]
  exact glueB (W := (g_237 (xs (7 * j + 1)))) (M := (g_238 (xs (7 * j + 1)))) I (fun σ τ I => Q_27 _ I)
theorem st_28 {xs : Nat → Int32} {L j : Nat} {μ : f_M} (hL : L ≤ 3584) (h : 7 * j + 7 ≤ L) (I : IV (30000 * j) μ μ) : ∃ μ', lw_28 xs L (nI (7 * j)) μ = some μ' ∧ IV (30000 * j + 30000) μ' μ' := by
  unfold lw_28
  simp only [ld_1 hL h, bnd]
  exact glueZ (W := (g_240 (xs (7 * j + 1)))) (M := (g_242 (xs (7 * j + 1)))) I (fun σ τ I => Q_28 _ I)
theorem st_29 {xs : Nat → Int32} {L j : Nat} {μ : f_M} (hL : L ≤ 3584) (h : 7 * j + 7 ≤ L) (I : IV (30000 * j) μ μ) : ∃ μ', lw_29 xs L (nI (7 * j)) μ = some μ' ∧ IV (30000 * j + 30000) μ' μ' := by
  unfold lw_29
  simp only [ld_1 hL h, bnd]
  exact glueZ (W := (g_244 (xs (7 * j + 1)))) (M := (g_245 (xs (7 * j + 1)))) I (fun σ τ I => Q_29 _ I)
theorem st_30 {xs : Nat → Int32} {L j : Nat} {μ : f_M} (hL : L ≤ 3584) (h : 7 * j + 7 ≤ L) (I : IV (30000 * j) μ μ) : ∃ μ', lw_30 xs L (nI (7 * j)) μ = some μ' ∧ IV (30000 * j + 30000) μ' μ' := by
  unfold lw_30
  simp only [ld_1 hL h, bnd]
  exact glueZ (W := (g_247 (xs (7 * j + 1)))) (M := (g_248 (xs (7 * j + 1)))) I (fun σ τ I => Q_30 _ I)
theorem st_31 {xs : Nat → Int32} {L j : Nat} {μ : f_M} (hL : L ≤ 3584) (h : 7 * j + 7 ≤ L) (I : IV (30000 * j) μ μ) : ∃ μ', lw_31 xs L (nI (7 * j)) μ = some μ' ∧ IV (30000 * j + 30000) μ' μ' := by
  unfold lw_31
  simp only [ld_1 hL h, bnd]
  exact glueB (W := (g_250 (xs (7 * j + 1)))) (M := (g_251 (xs (7 * j + 1)))) I (fun σ τ I => Q_31 _ I)
theorem st_32 {xs : Nat → Int32} {L j : Nat} {μ : f_M} (hL : L ≤ 3584) (h : 7 * j + 7 ≤ L) (I : IV (30000 * j) μ μ) : ∃ μ', lw_32 xs L (nI (7 * j)) μ = some μ' ∧ IV (30000 * j + 30000) μ' μ' := by
  unfold lw_32
  exact glueA I (A_32 I)
theorem st_33 {xs : Nat → Int32} {L j : Nat} {μ : f_M} (hL : L ≤ 3584) (h : 7 * j + 7 ≤ L) (I : IV (30000 * j) μ μ) : ∃ μ', lw_33 xs L (nI (7 * j)) μ = some μ' ∧ IV (30000 * j + 30000) μ' μ' := by
  unfold lw_33
  simp only [ld_1 hL h, bnd]
  exact glueB (W := (g_256 (xs (7 * j + 1)))) (M := (g_258 (xs (7 * j + 1)))) I (fun σ τ I => Q_33 _ I)
theorem st_34 {xs : Nat → Int32} {L j : Nat} {μ : f_M} (hL : L ≤ 3584) (h : 7 * j + 7 ≤ L) (I : IV (30000 * j) μ μ) : ∃ μ', lw_34 xs L (nI (7 * j)) μ = some μ' ∧ IV (30000 * j + 30000) μ' μ' := by
  unfold lw_34
  simp only [ld_1 hL h, bnd]
  exact glueB (W := (g_260 (xs (7 * j + 1)))) (M := (g_261 (xs (7 * j + 1)))) I (fun σ τ I => Q_34 _ I)
theorem st_35 {xs : Nat → Int32} {L j : Nat} {μ : f_M} (hL : L ≤ 3584) (h : 7 * j + 7 ≤ L) (I : IV (30000 * j) μ μ) : ∃ μ', lw_35 xs L (nI (7 * j)) μ = some μ' ∧ IV (30000 * j + 30000) μ' μ' := by
  unfold lw_35
  exact glueA I (A_35 I)
theorem st_36 {xs : Nat → Int32} {L j : Nat} {μ : f_M} (hL : L ≤ 3584) (h : 7 * j + 7 ≤ L) (I : IV (30000 * j) μ μ) : ∃ μ', lw_36 xs L (nI (7 * j)) μ = some μ' ∧ IV (30000 * j + 30000) μ' μ' := by
  unfold lw_36
  exact glueA I (A_36 I)
theorem st_37 {xs : Nat → Int32} {L j : Nat} {μ : f_M} (hL : L ≤ 3584) (h : 7 * j + 7 ≤ L) (I : IV (30000 * j) μ μ) : ∃ μ', lw_37 xs L (nI (7 * j)) μ = some μ' ∧ IV (30000 * j + 30000) μ' μ' := by
  unfold lw_37
  exact glueA I (A_37 I)
theorem st_38 {xs : Nat → Int32} {L j : Nat} {μ : f_M} (hL : L ≤ 3584) (h : 7 * j + 7 ≤ L) (I : IV (30000 * j) μ μ) : ∃ μ', lw_38 xs L (nI (7 * j)) μ = some μ' ∧ IV (30000 * j + 30000) μ' μ' := by
  unfold lw_38
  exact glueA I (A_38 I)
theorem st_39 {xs : Nat → Int32} {L j : Nat} {μ : f_M} (hL : L ≤ 3584) (h : 7 * j + 7 ≤ L) (I : IV (30000 * j) μ μ) : ∃ μ', lw_39 xs L (nI (7 * j)) μ = some μ' ∧ IV (30000 * j + 30000) μ' μ' := by
  unfold lw_39
  exact glueA I (A_39 I)
theorem st_40 {xs : Nat → Int32} {L j : Nat} {μ : f_M} (hL : L ≤ 3584) (h : 7 * j + 7 ≤ L) (I : IV (30000 * j) μ μ) : ∃ μ', lw_40 xs L (nI (7 * j)) μ = some μ' ∧ IV (30000 * j + 30000) μ' μ' := by
  unfold lw_40
  exact glueA I (A_40 I)
theorem st_41 {xs : Nat → Int32} {L j : Nat} {μ : f_M} (hL : L ≤ 3584) (h : 7 * j + 7 ≤ L) (I : IV (30000 * j) μ μ) : ∃ μ', lw_41 xs L (nI (7 * j)) μ = some μ' ∧ IV (30000 * j + 30000) μ' μ' := by
  unfold lw_41
  exact glueA I (A_41 I)
theorem st_42 {xs : Nat → Int32} {L j : Nat} {μ : f_M} (hL : L ≤ 3584) (h : 7 * j + 7 ≤ L) (I : IV (30000 * j) μ μ) : ∃ μ', lw_42 xs L (nI (7 * j)) μ = some μ' ∧ IV (30000 * j + 30000) μ' μ' := by
  unfold lw_42
  exact glueA I (A_42 I)
theorem st_43 {xs : Nat → Int32} {L j : Nat} {μ : f_M} (hL : L ≤ 3584) (h : 7 * j + 7 ≤ L) (I : IV (30000 * j) μ μ) : ∃ μ', lw_43 xs L (nI (7 * j)) μ = some μ' ∧ IV (30000 * j + 30000) μ' μ' := by
  unfold lw_43
  exact glue43 I
theorem st_44 {xs : Nat → Int32} {L j : Nat} {μ : f_M} (hL : L ≤ 3584) (h : 7 * j + 7 ≤ L) (I : IV (30000 * j) μ μ) : ∃ μ', lw_44 xs L (nI (7 * j)) μ = some μ' ∧ IV (30000 * j + 30000) μ' μ' := by
  unfold lw_44
  exact glue44 I
theorem st_45 {xs : Nat → Int32} {L j : Nat} {μ : f_M} (hL : L ≤ 3584) (h : 7 * j + 7 ≤ L) (I : IV (30000 * j) μ μ) : ∃ μ', lw_45 xs L (nI (7 * j)) μ = some μ' ∧ IV (30000 * j + 30000) μ' μ' := by
  unfold lw_45
  simp only [ld_1 hL h, ld_2 hL h, bnd]
  exact glueB (W := (g_287 (xs (7 * j + 1)) (xs (7 * j + 2)))) (M := (g_288 (xs (7 * j + 1)) (xs (7 * j + 2)))) I (fun σ τ I => Q_45 _ _ I)
theorem st_46 {xs : Nat → Int32} {L j : Nat} {μ : f_M} (hL : L ≤ 3584) (h : 7 * j + 7 ≤ L) (I : IV (30000 * j) μ μ) : ∃ μ', lw_46 xs L (nI (7 * j)) μ = some μ' ∧ IV (30000 * j + 30000) μ' μ' := by
  unfold lw_46
  simp only [ld_1 hL h, ld_2 hL h, ld_3 hL h, bnd]
  exact glueB (W := (g_290 (xs (7 * j + 1)) (xs (7 * j + 2)) (xs (7 * j + 3)))) (M := (g_291 (xs (7 * j + 1)) (xs (7 * j + 2)) (xs (7 * j + 3)))) I (fun σ τ I => Q_46 _ _ _ I)
theorem st_47 {xs : Nat → Int32} {L j : Nat} {μ : f_M} (hL : L ≤ 3584) (h : 7 * j + 7 ≤ L) (I : IV (30000 * j) μ μ) : ∃ μ', lw_47 xs L (nI (7 * j)) μ = some μ' ∧ IV (30000 * j + 30000) μ' μ' := by
  unfold lw_47
  simp only [ld_1 hL h, bnd]
  exact glueB (W := (g_294 (xs (7 * j + 1)))) (M := (g_295 (xs (7 * j + 1)))) I (fun σ τ I => Q_47 _ I)
theorem st_48 {xs : Nat → Int32} {L j : Nat} {μ : f_M} (hL : L ≤ 3584) (h : 7 * j + 7 ≤ L) (I : IV (30000 * j) μ μ) : ∃ μ', lw_48 xs L (nI (7 * j)) μ = some μ' ∧ IV (30000 * j + 30000) μ' μ' := by
  unfold lw_48
  simp only [ld_1 hL h, bnd]
  exact glueT (W := (g_298 (xs (7 * j + 1)))) (M := (g_301 (xs (7 * j + 1)))) I (fun σ τ I => B_48 _ I)
theorem st_49 {xs : Nat → Int32} {L j : Nat} {μ : f_M} (hL : L ≤ 3584) (h : 7 * j + 7 ≤ L) (I : IV (30000 * j) μ μ) : ∃ μ', lw_49 xs L (nI (7 * j)) μ = some μ' ∧ IV (30000 * j + 30000) μ' μ' := by
  unfold lw_49
  exact glueSb (D' := 30000 * j + 30000) (C := g_313) (M := g_318) I (fun σ τ I => by
    obtain ⟨σ', τ', h1, h2, h3, h4⟩ := B_49 I
    exact ⟨true, σ', τ', h1, h2, IV_mono h3 (by omega), h4⟩)
theorem st_50 {xs : Nat → Int32} {L j : Nat} {μ : f_M} (hL : L ≤ 3584) (h : 7 * j + 7 ≤ L) (I : IV (30000 * j) μ μ) : ∃ μ', lw_50 xs L (nI (7 * j)) μ = some μ' ∧ IV (30000 * j + 30000) μ' μ' := by
  unfold lw_50
  simp only [ld_1 hL h, ld_2 hL h, bnd]
  exact glueT (W := (g_320 (xs (7 * j + 1)) (xs (7 * j + 2)))) (M := (g_321 (xs (7 * j + 1)) (xs (7 * j + 2)))) I (fun σ τ I => B_50 (by omega) _ _ I)
theorem st_51 {xs : Nat → Int32} {L j : Nat} {μ : f_M} (hL : L ≤ 3584) (h : 7 * j + 7 ≤ L) (I : IV (30000 * j) μ μ) : ∃ μ', lw_51 xs L (nI (7 * j)) μ = some μ' ∧ IV (30000 * j + 30000) μ' μ' := by
  unfold lw_51
  simp only [ld_1 hL h, ld_2 hL h, ld_3 hL h, ld_4 hL h, ld_5 hL h, ld_6 hL h, bnd]
  exact glueT (W := (g_325 (xs (7 * j + 1)) (xs (7 * j + 2)) (xs (7 * j + 3)) (xs (7 * j + 4)) (xs (7 * j + 5)) (xs (7 * j + 6)))) (M := (g_327 (xs (7 * j + 1)) (xs (7 * j + 2)) (xs (7 * j + 3)) (xs (7 * j + 4)) (xs (7 * j + 5)) (xs (7 * j + 6)))) I (fun σ τ I => B_51 (by omega) _ _ _ _ _ _ I)
theorem st_52 {xs : Nat → Int32} {L j : Nat} {μ : f_M} (hL : L ≤ 3584) (h : 7 * j + 7 ≤ L) (I : IV (30000 * j) μ μ) : ∃ μ', lw_52 xs L (nI (7 * j)) μ = some μ' ∧ IV (30000 * j + 30000) μ' μ' := by
  unfold lw_52
  simp only [ld_1 hL h, ld_2 hL h, ld_3 hL h, ld_4 hL h, ld_5 hL h, bnd]
  exact glueT (W := (g_329 (xs (7 * j + 1)) (xs (7 * j + 2)) (xs (7 * j + 3)) (xs (7 * j + 4)) (xs (7 * j + 5)))) (M := (g_330 (xs (7 * j + 1)) (xs (7 * j + 2)) (xs (7 * j + 3)) (xs (7 * j + 4)) (xs (7 * j + 5)))) I (fun σ τ I => B_52 (by omega) _ _ _ _ _ I)
theorem st_53 {xs : Nat → Int32} {L j : Nat} {μ : f_M} (hL : L ≤ 3584) (h : 7 * j + 7 ≤ L) (I : IV (30000 * j) μ μ) : ∃ μ', lw_53 xs L (nI (7 * j)) μ = some μ' ∧ IV (30000 * j + 30000) μ' μ' := by
  unfold lw_53
  simp only [ld_1 hL h, bnd]
  exact glueT (W := (g_332 (xs (7 * j + 1)))) (M := (g_333 (xs (7 * j + 1)))) I (fun σ τ I => B_53 (by omega) _ I)
theorem st_54 {xs : Nat → Int32} {L j : Nat} {μ : f_M} (hL : L ≤ 3584) (h : 7 * j + 7 ≤ L) (I : IV (30000 * j) μ μ) : ∃ μ', lw_54 xs L (nI (7 * j)) μ = some μ' ∧ IV (30000 * j + 30000) μ' μ' := by
  unfold lw_54
  simp only [ld_1 hL h, ld_2 hL h, bnd]
  exact glueT (W := (g_335 (xs (7 * j + 1)) (xs (7 * j + 2)))) (M := (g_336 (xs (7 * j + 1)) (xs (7 * j + 2)))) I (fun σ τ I => B_54 (by omega) _ _ I)
theorem st_55 {xs : Nat → Int32} {L j : Nat} {μ : f_M} (hL : L ≤ 3584) (h : 7 * j + 7 ≤ L) (I : IV (30000 * j) μ μ) : ∃ μ', lw_55 xs L (nI (7 * j)) μ = some μ' ∧ IV (30000 * j + 30000) μ' μ' := by
  unfold lw_55
  exact glueT (W := g_340) (M := g_341) I (fun σ τ I => B_55 I)
theorem st_56 {xs : Nat → Int32} {L j : Nat} {μ : f_M} (hL : L ≤ 3584) (h : 7 * j + 7 ≤ L) (I : IV (30000 * j) μ μ) : ∃ μ', lw_56 xs L (nI (7 * j)) μ = some μ' ∧ IV (30000 * j + 30000) μ' μ' := by
  unfold lw_56
  simp only [ld_1 hL h, bnd]
  exact glueT (W := (g_346 (xs (7 * j + 1)))) (M := (g_349 (xs (7 * j + 1)))) I (fun σ τ I => B_56 _ I)
theorem st_57 {xs : Nat → Int32} {L j : Nat} {μ : f_M} (hL : L ≤ 3584) (h : 7 * j + 7 ≤ L) (I : IV (30000 * j) μ μ) : ∃ μ', lw_57 xs L (nI (7 * j)) μ = some μ' ∧ IV (30000 * j + 30000) μ' μ' := by
  unfold lw_57
  simp only [ld_1 hL h, bnd]
  exact glueA I (A_57 _ I)
theorem st_58 {xs : Nat → Int32} {L j : Nat} {μ : f_M} (hL : L ≤ 3584) (h : 7 * j + 7 ≤ L) (I : IV (30000 * j) μ μ) : ∃ μ', lw_58 xs L (nI (7 * j)) μ = some μ' ∧ IV (30000 * j + 30000) μ' μ' := by
  unfold lw_58
  exact glueS (D' := 30000 * j + 30000) (C := g_353) (M := g_354) I (fun σ τ I => by
    obtain ⟨v, σ', τ', h1, h2, h3, h4⟩ := IV_save I
    exact ⟨v, σ', τ', h1, h2, IV_mono h3 (by omega), h4⟩)
theorem st_59 {xs : Nat → Int32} {L j : Nat} {μ : f_M} (hL : L ≤ 3584) (h : 7 * j + 7 ≤ L) (I : IV (30000 * j) μ μ) : ∃ μ', lw_59 xs L (nI (7 * j)) μ = some μ' ∧ IV (30000 * j + 30000) μ' μ' := by
  unfold lw_59
  exact glueT (W := g_356) (M := g_357) I (fun σ τ I => B_59 I)
theorem st_all {xs : Nat → Int32} {L j : Nat} {μ : f_M} (hL : L ≤ 3584) (h : 7 * j + 7 ≤ L) (I : IV (30000 * j) μ μ) : ∃ μ', lw_step xs L (nI (7 * j)) μ = some μ' ∧ IV (30000 * j + 30000) μ' μ' := by
  unfold lw_step
  rw [ld_0 hL h, bnd]
  by_cases c0 : xs (7 * j) &&& (63 : Int32) = (0 : Int32)
  · rw [if_pos c0]; exact st_0 hL h I
  rw [if_neg c0]
  by_cases c1 : xs (7 * j) &&& (63 : Int32) = (1 : Int32)
  · rw [if_pos c1]; exact st_1 hL h I
  rw [if_neg c1]
  by_cases c2 : xs (7 * j) &&& (63 : Int32) = (2 : Int32)
  · rw [if_pos c2]; exact st_2 hL h I
  rw [if_neg c2]
  by_cases c3 : xs (7 * j) &&& (63 : Int32) = (3 : Int32)
  · rw [if_pos c3]; exact st_3 hL h I
  rw [if_neg c3]
  by_cases c4 : xs (7 * j) &&& (63 : Int32) = (4 : Int32)
  · rw [if_pos c4]; exact st_4 hL h I
  rw [if_neg c4]
  by_cases c5 : xs (7 * j) &&& (63 : Int32) = (5 : Int32)
  · rw [if_pos c5]; exact st_5 hL h I
  rw [if_neg c5]
  by_cases c6 : xs (7 * j) &&& (63 : Int32) = (6 : Int32)
  · rw [if_pos c6]; exact st_6 hL h I
  rw [if_neg c6]
  by_cases c7 : xs (7 * j) &&& (63 : Int32) = (7 : Int32)
  · rw [if_pos c7]; exact st_7 hL h I
  rw [if_neg c7]
  by_cases c8 : xs (7 * j) &&& (63 : Int32) = (8 : Int32)
  · rw [if_pos c8]; exact st_8 hL h I
  rw [if_neg c8]
  by_cases c9 : xs (7 * j) &&& (63 : Int32) = (9 : Int32)
  · rw [if_pos c9]; exact st_9 hL h I
  rw [if_neg c9]
  by_cases c10 : xs (7 * j) &&& (63 : Int32) = (10 : Int32)
  · rw [if_pos c10]; exact st_10 hL h I
  rw [if_neg c10]
  by_cases c11 : xs (7 * j) &&& (63 : Int32) = (11 : Int32)
  · rw [if_pos c11]; exact st_11 hL h I
  rw [if_neg c11]
  by_cases c12 : xs (7 * j) &&& (63 : Int32) = (12 : Int32)
  · rw [if_pos c12]; exact st_12 hL h I
  rw [if_neg c12]
  by_cases c13 : xs (7 * j) &&& (63 : Int32) = (13 : Int32)
  · rw [if_pos c13]; exact st_13 hL h I
  rw [if_neg c13]
  by_cases c14 : xs (7 * j) &&& (63 : Int32) = (14 : Int32)
  · rw [if_pos c14]; exact st_14 hL h I
  rw [if_neg c14]
  by_cases c15 : xs (7 * j) &&& (63 : Int32) = (15 : Int32)
  · rw [if_pos c15]; exact st_15 hL h I
  rw [if_neg c15]
  by_cases c16 : xs (7 * j) &&& (63 : Int32) = (16 : Int32)
  · rw [if_pos c16]; exact st_16 hL h I
  rw [if_neg c16]
  by_cases c17 : xs (7 * j) &&& (63 : Int32) = (17 : Int32)
  · rw [if_pos c17]; exact st_17 hL h I
  rw [if_neg c17]
  by_cases c18 : xs (7 * j) &&& (63 : Int32) = (18 : Int32)
  · rw [if_pos c18]; exact st_18 hL h I
  rw [if_neg c18]
  by_cases c19 : xs (7 * j) &&& (63 : Int32) = (19 : Int32)
  · rw [if_pos c19]; exact st_19 hL h I
  rw [if_neg c19]
  by_cases c20 : xs (7 * j) &&& (63 : Int32) = (20 : Int32)
  · rw [if_pos c20]; exact st_20 hL h I
  rw [if_neg c20]
  by_cases c21 : xs (7 * j) &&& (63 : Int32) = (21 : Int32)
  · rw [if_pos c21]; exact st_21 hL h I
  rw [if_neg c21]
  by_cases c22 : xs (7 * j) &&& (63 : Int32) = (22 : Int32)
  · rw [if_pos c22]; exact st_22 hL h I
  rw [if_neg c22]
  by_cases c23 : xs (7 * j) &&& (63 : Int32) = (23 : Int32)
  · rw [if_pos c23]; exact st_23 hL h I
  rw [if_neg c23]
  by_cases c24 : xs (7 * j) &&& (63 : Int32) = (24 : Int32)
  · rw [if_pos c24]; exact st_24 hL h I
  rw [if_neg c24]
  by_cases c25 : xs (7 * j) &&& (63 : Int32) = (25 : Int32)
  · rw [if_pos c25]; exact st_25 hL h I
  rw [if_neg c25]
  by_cases c26 : xs (7 * j) &&& (63 : Int32) = (26 : Int32)
  · rw [if_pos c26]; exact st_26 hL h I
  rw [if_neg c26]
  by_cases c27 : xs (7 * j) &&& (63 : Int32) = (27 : Int32)
  · rw [if_pos c27]; exact st_27 hL h I
  rw [if_neg c27]
  by_cases c28 : xs (7 * j) &&& (63 : Int32) = (28 : Int32)
  · rw [if_pos c28]; exact st_28 hL h I
  rw [if_neg c28]
  by_cases c29 : xs (7 * j) &&& (63 : Int32) = (29 : Int32)
  · rw [if_pos c29]; exact st_29 hL h I
  rw [if_neg c29]
  by_cases c30 : xs (7 * j) &&& (63 : Int32) = (30 : Int32)
  · rw [if_pos c30]; exact st_30 hL h I
  rw [if_neg c30]
  by_cases c31 : xs (7 * j) &&& (63 : Int32) = (31 : Int32)
  · rw [if_pos c31]; exact st_31 hL h I
  rw [if_neg c31]
  by_cases c32 : xs (7 * j) &&& (63 : Int32) = (32 : Int32)
  · rw [if_pos c32]; exact st_32 hL h I
  rw [if_neg c32]
  by_cases c33 : xs (7 * j) &&& (63 : Int32) = (33 : Int32)
  · rw [if_pos c33]; exact st_33 hL h I
  rw [if_neg c33]
  by_cases c34 : xs (7 * j) &&& (63 : Int32) = (34 : Int32)
  · rw [if_pos c34]; exact st_34 hL h I
  rw [if_neg c34]
  by_cases c35 : xs (7 * j) &&& (63 : Int32) = (35 : Int32)
  · rw [if_pos c35]; exact st_35 hL h I
  rw [if_neg c35]
  by_cases c36 : xs (7 * j) &&& (63 : Int32) = (36 : Int32)
  · rw [if_pos c36]; exact st_36 hL h I
  rw [if_neg c36]
  by_cases c37 : xs (7 * j) &&& (63 : Int32) = (37 : Int32)
  · rw [if_pos c37]; exact st_37 hL h I
  rw [if_neg c37]
  by_cases c38 : xs (7 * j) &&& (63 : Int32) = (38 : Int32)
  · rw [if_pos c38]; exact st_38 hL h I
  rw [if_neg c38]
  by_cases c39 : xs (7 * j) &&& (63 : Int32) = (39 : Int32)
  · rw [if_pos c39]; exact st_39 hL h I
  rw [if_neg c39]
  by_cases c40 : xs (7 * j) &&& (63 : Int32) = (40 : Int32)
  · rw [if_pos c40]; exact st_40 hL h I
  rw [if_neg c40]
  by_cases c41 : xs (7 * j) &&& (63 : Int32) = (41 : Int32)
  · rw [if_pos c41]; exact st_41 hL h I
  rw [if_neg c41]
  by_cases c42 : xs (7 * j) &&& (63 : Int32) = (42 : Int32)
  · rw [if_pos c42]; exact st_42 hL h I
  rw [if_neg c42]
  by_cases c43 : xs (7 * j) &&& (63 : Int32) = (43 : Int32)
  · rw [if_pos c43]; exact st_43 hL h I
  rw [if_neg c43]
  by_cases c44 : xs (7 * j) &&& (63 : Int32) = (44 : Int32)
  · rw [if_pos c44]; exact st_44 hL h I
  rw [if_neg c44]
  by_cases c45 : xs (7 * j) &&& (63 : Int32) = (45 : Int32)
  · rw [if_pos c45]; exact st_45 hL h I
  rw [if_neg c45]
  by_cases c46 : xs (7 * j) &&& (63 : Int32) = (46 : Int32)
  · rw [if_pos c46]; exact st_46 hL h I
  rw [if_neg c46]
  by_cases c47 : xs (7 * j) &&& (63 : Int32) = (47 : Int32)
  · rw [if_pos c47]; exact st_47 hL h I
  rw [if_neg c47]
  by_cases c48 : xs (7 * j) &&& (63 : Int32) = (48 : Int32)
  · rw [if_pos c48]; exact st_48 hL h I
  rw [if_neg c48]
  by_cases c49 : xs (7 * j) &&& (63 : Int32) = (49 : Int32)
  · rw [if_pos c49]; exact st_49 hL h I
  rw [if_neg c49]
  by_cases c50 : xs (7 * j) &&& (63 : Int32) = (50 : Int32)
  · rw [if_pos c50]; exact st_50 hL h I
  rw [if_neg c50]
  by_cases c51 : xs (7 * j) &&& (63 : Int32) = (51 : Int32)
  · rw [if_pos c51]; exact st_51 hL h I
  rw [if_neg c51]
  by_cases c52 : xs (7 * j) &&& (63 : Int32) = (52 : Int32)
  · rw [if_pos c52]; exact st_52 hL h I
  rw [if_neg c52]
  by_cases c53 : xs (7 * j) &&& (63 : Int32) = (53 : Int32)
  · rw [if_pos c53]; exact st_53 hL h I
  rw [if_neg c53]
  by_cases c54 : xs (7 * j) &&& (63 : Int32) = (54 : Int32)
  · rw [if_pos c54]; exact st_54 hL h I
  rw [if_neg c54]
  by_cases c55 : xs (7 * j) &&& (63 : Int32) = (55 : Int32)
  · rw [if_pos c55]; exact st_55 hL h I
  rw [if_neg c55]
  by_cases c56 : xs (7 * j) &&& (63 : Int32) = (56 : Int32)
  · rw [if_pos c56]; exact st_56 hL h I
  rw [if_neg c56]
  by_cases c57 : xs (7 * j) &&& (63 : Int32) = (57 : Int32)
  · rw [if_pos c57]; exact st_57 hL h I
  rw [if_neg c57]
  by_cases c58 : xs (7 * j) &&& (63 : Int32) = (58 : Int32)
  · rw [if_pos c58]; exact st_58 hL h I
  rw [if_neg c58]
  by_cases c59 : xs (7 * j) &&& (63 : Int32) = (59 : Int32)
  · rw [if_pos c59]; exact st_59 hL h I
  rw [if_neg c59]
  exact ⟨μ, rfl, IV_mono I (by omega)⟩
