/-! Purchases keep the relation. -/
theorem C_322 {σ : f_M} {ck : Nat} (a b c : Int32) (e0 : σ 121 0 = nI ck) : g_322 a b c σ = some (if (rg a (nI ck) 1000 && rg b 1 24 && rg c 1 500) = true then .inl () else .inr 1) := by
  unfold g_322
  rw [e0, R_rng, bnd]
  cases h1 : rg a (nI ck) 1000
  · rfl
  · rw [if_pos rfl, Sum.elim_inl, R_rng, bnd]
    cases h2 : rg b 1 24
    · rfl
    · rw [if_pos rfl, Sum.elim_inl, R_rng, bnd]
      cases h3 : rg c 1 500
      · rfl
      · rfl
theorem M_326 {τ : f_M} {ck : Nat} (a b c : Int32) (e0 : τ 156 0 = nI ck) : g_326 a b c τ = some (rg a (nI ck) 1000 && rg b 1 24 && rg c 1 500) := by
  have w1 : g_46 a.toInt64 (nI ck).toInt64 (1000 : Int64) τ = some (rg a (nI ck) 1000) := within_n τ a _ 1000 (nI ck) 1000 rfl rfl
  have w2 : g_46 b.toInt64 (1 : Int64) (24 : Int64) τ = some (rg b 1 24) := within_n τ b 1 24 1 24 rfl rfl
  have w3 : g_46 c.toInt64 (1 : Int64) (500 : Int64) τ = some (rg c 1 500) := within_n τ c 1 500 1 500 rfl rfl
  unfold g_326
  rw [show f_rd τ 156 2420 (0 : Int32) = some (τ 156 0) from rdS (k := 0) (by omega), bnd, e0, w1, bnd, w2, w3]
  cases rg a (nI ck) 1000
  · rfl
  · cases rg b 1 24
    · rfl
    · cases rg c 1 500
      · rfl
      · rfl
theorem and_ok {a b c : Bool} (h : (a && b && c) = true) : a = true ∧ b = true ∧ c = true := by
  cases a <;> cases b <;> cases c <;> simp_all
theorem B_51 {D : Nat} {σ τ : f_M} (hD : D ≤ 900000000) (a b c d x y : Int32) (I : IV D σ τ) : tB (D + 30000) (g_325 a b c d x y) (g_327 a b c d x y) σ τ := by
  have I0 := I
  obtain ⟨ck, hc, ac, pc, cc, g, q, n, k, o, P, S, H, M, V, T, E, B, O⟩ := I0
  have hh := S.1.1.2.1
  have hck := S.1.1.1
  have hpc := S.1.1.2.2.2.1
  have hDD : D ≤ D + 30000 := by omega
  have e := S.2.2.2.1.1.trans hh.1
  have e0 : σ 121 0 = nI ck := S.2.2.1.1.1.trans hck.1
  have c322 := C_322 b c d e0
  have m326 := M_326 b c d hck.1
  have w1 : g_46 x.toInt64 (0 : Int64) (150 : Int64) τ = some (rg x 0 150) := within_n τ x 0 150 0 150 rfl rfl
  have w2 : g_46 y.toInt64 x.toInt64 (150 : Int64) τ = some (rg y x 150) := within_n τ y _ 150 x 150 rfl rfl
  have t3 : ((if (rg b (nI ck) 1000 && rg c 1 24 && rg d 1 500) = false then (some false : Option Bool) else (g_46 x.toInt64 (0 : Int64) (150 : Int64) τ).bind fun t4 => if t4 = false then some false else (g_46 y.toInt64 x.toInt64 (150 : Int64) τ).bind fun t5 => if t5 = false then some false else some true)) = some ((rg b (nI ck) 1000 && rg c 1 24 && rg d 1 500) && rg x 0 150 && rg y x 150) := by
    rw [w1, w2]
    cases (rg b (nI ck) 1000 && rg c 1 24 && rg d 1 500)
    · rfl
    · cases rg x 0 150
      · rfl
      · cases rg y x 150
        · rfl
        · rfl
  have mm : g_327 a b c d x y τ = ((if inN a hc = false then (some false : Option Bool) else (if ((rg b (nI ck) 1000 && rg c 1 24 && rg d 1 500) && rg x 0 150 && rg y x 150) = false then some false else (g_150 c d τ).bind fun t10 => (g_152 a t10 τ).bind fun t11 => if t11 = false then some false else some true)).bind fun (t9 : Bool) => (g_176 (inN a hc) ((rg b (nI ck) 1000 && rg c 1 24 && rg d 1 500) && rg x 0 150 && rg y x 150) t9 τ).bind fun t15 => if t15.1 = true then ((g_118 t15.2).bind fun t16 => (g_154 a b c d x y t16).bind fun t17 => (g_156 t17).bind fun t18 => some (t18.1, t18.2)) else some ((0 : Int32), t15.2)) := by
    unfold g_327
    rw [M_isH _ hh.1 (by omega), bnd, m326, bnd, t3, bnd]
  rcases n_ix a (m := hc) (by omega) with h | ⟨p, hp, rfl⟩
  · refine tB_no I hDD (k := 1) (v := 0) (by decide) ?_ ?_
    · unfold g_325 g_324
      rw [R_hol0 e h]
      rfl
    · rw [mm, inN_no h, if_pos rfl, bnd, M_chk, bnd]
      rfl
  · rw [inN_ok hp (by omega), if_neg (by decide)] at mm
    cases hF : ((rg b (nI ck) 1000 && rg c 1 24 && rg d 1 500) && rg x 0 150 && rg y x 150)
    · rw [hF, if_pos rfl, bnd] at mm
      refine tB_no I hDD (k := 2) (v := 0) (by decide) ?_ ?_
      · unfold g_325 g_324
        rw [R_hol e (by omega) hp, bnd, Sum.elim_inl, c322, bnd]
        cases h1 : (rg b (nI ck) 1000 && rg c 1 24 && rg d 1 500)
        · rfl
        · rw [h1] at hF
          rw [if_pos rfl, Sum.elim_inl, R_rng, bnd]
          cases h2 : rg x 0 150
          · rfl
          · rw [h2] at hF
            rw [if_pos rfl, Sum.elim_inl, R_rng, bnd]
            cases h3 : rg y x 150
            · rfl
            · rw [h3] at hF; exact Bool.noConfusion hF
      · rw [mm, M_chk, bnd]
        rfl
    · rw [hF, if_neg (by decide), M_pk, bnd, M_can2 hpc.1 hpc.2 (by omega), bnd] at mm
      obtain ⟨h1, h2, h3⟩ := and_ok hF
      obtain ⟨h4, h5, h6⟩ := and_ok h1
      obtain ⟨f, f1, f2, rfl⟩ := rg_n (a := ck) (b := 1000) (by omega) (by omega) h4
      obtain ⟨dd, d1, d2, rfl⟩ := rg_n (a := 1) (b := 24) (by omega) (by omega) h5
      obtain ⟨v, v1, v2, rfl⟩ := rg_n (a := 1) (b := 500) (by omega) (by omega) h6
      have cC := C_can2 (pr := nI v * nI dd / nI 40 + nI 1) S.2.2.1 hpc.1 hpc.2 hp hh.2.2
      have cx : ∀ r, (((g_323 (nI p) (nI v * nI dd / nI 40 + nI 1) σ).bind fun t6 => Sum.elim (fun _ =>
       (g_73  σ).bind fun t7 =>
       (g_99 (nI p) (nI f) (nI dd) (nI v) x y t7).bind fun t8 =>
       some (Sum.inl (β := Fin 4) t8.1, t8.2)
      ) (fun k6 => some (Sum.inr k6, σ)) t6).bind (f_xe (fun v1 m1 =>
   (f_wr m1 167 1 (0 : Int32) v1).bind fun m2 =>
   some ((0 : Int32), m2)
  ) (fun k1 m1 => (f_hc [(0, 1), (1, 2), (2, 3)] k1).bind fun v => some (v, m1)))) = r → g_325 (nI p) (nI f) (nI dd) (nI v) x y σ = r := fun r h => by
        unfold g_325 g_324
        rw [R_hol e (by omega) hp, bnd, Sum.elim_inl, c322, bnd, h1, if_pos rfl, Sum.elim_inl, R_rng, bnd, h2, if_pos rfl, Sum.elim_inl, R_rng, bnd, h3, if_pos rfl, Sum.elim_inl, C_pk, bnd]
        exact h
      cases hcan : (decide (pc < 20) && !decide (τ 156 (20 + 9 * p + 7) < nI v * nI dd / nI 40 + nI 1))
      · rw [hcan] at mm cC
        refine tB_no I hDD (k := 3) (v := 0) (by decide) (cx _ ?_) ?_
        · unfold g_323
          rw [cC, bnd]
          rfl
        · rw [mm, if_pos rfl, bnd, M_chk, bnd]
          rfl
      · rw [hcan] at mm cC
        simp only [Bool.and_eq_true, decide_eq_true_eq, Bool.not_eq_true', decide_eq_false_iff_not] at hcan
        obtain ⟨σ4, τ4, c4, m4, S4, e4, fin⟩ := IV_push S H M V T E B O
        have hl : ∃ lo hi : Nat, lo ≤ hi ∧ hi ≤ 150 ∧ x = nI lo ∧ y = nI hi := by
          obtain ⟨lo, l1, l2, rfl⟩ := rg_n (a := 0) (b := 150) (by omega) (by omega) h2
          obtain ⟨hi, l3, l4, rfl⟩ := rg_n (a := lo) (b := 150) (by omega) (by omega) h3
          exact ⟨lo, hi, l3, l4, rfl, rfl⟩
        obtain ⟨σ5, τ1, τ5, p1, p2, p3, S5, f5⟩ := P_kite (f := f) (a := x) (b := y) (by omega : D ≤ 1000000000) hcan.1 hp (by omega) ⟨d1, d2⟩ ⟨v1, v2⟩ hl (by rw [e4]; exact hcan.2) S4
        obtain ⟨J, fr, h9⟩ := fin (D + 30000) ck (pc + 1) cc q n g σ5 τ5 hDD (sAll_mono hDD S5) f5 (Nat.le_refl _) (by omega) (Nat.le_refl _)
        refine tB_ok (cx _ ?_) ?_ h9 J fr (v := nI pc)
        · unfold g_323
          rw [cC, bnd, if_pos rfl, bnd, Sum.elim_inl, c4, bnd, p1, bnd, bnd]
          exact W_fin σ5 _
        · rw [mm, if_neg (by decide), bnd, M_yes, bnd, if_pos rfl]
          dsimp only
          rw [m4, bnd, p2, bnd, p3, bnd]
theorem B_52 {D : Nat} {σ τ : f_M} (hD : D ≤ 900000000) (a b c d x : Int32) (I : IV D σ τ) : tB (D + 30000) (g_329 a b c d x) (g_330 a b c d x) σ τ := by
  have I0 := I
  obtain ⟨ck, hc, ac, pc, cc, g, q, n, k, o, P, S, H, M, V, T, E, B, O⟩ := I0
  have hh := S.1.1.2.1
  have hck := S.1.1.1
  have hpc := S.1.1.2.2.2.1
  have hDD : D ≤ D + 30000 := by omega
  have e := S.2.2.2.1.1.trans hh.1
  have e0 : σ 121 0 = nI ck := S.2.2.1.1.1.trans hck.1
  have c322 := C_322 b c d e0
  have m326 := M_326 b c d hck.1
  have w1 : g_46 x.toInt64 (0 : Int64) (50 : Int64) τ = some (rg x 0 50) := within_n τ x 0 50 0 50 rfl rfl
  have t3 : ((if (rg b (nI ck) 1000 && rg c 1 24 && rg d 1 500) = false then (some false : Option Bool) else (g_46 x.toInt64 (0 : Int64) (50 : Int64) τ).bind fun t4 => if t4 = false then some false else some true)) = some ((rg b (nI ck) 1000 && rg c 1 24 && rg d 1 500) && rg x 0 50 && true) := by
    rw [w1]
    cases (rg b (nI ck) 1000 && rg c 1 24 && rg d 1 500)
    · rfl
    · cases rg x 0 50
      · rfl
      · rfl
  have mm : g_330 a b c d x τ = ((if inN a hc = false then (some false : Option Bool) else (if ((rg b (nI ck) 1000 && rg c 1 24 && rg d 1 500) && rg x 0 50 && true) = false then some false else (g_151 c d x τ).bind fun t10 => (g_152 a t10 τ).bind fun t11 => if t11 = false then some false else some true)).bind fun (t9 : Bool) => (g_176 (inN a hc) ((rg b (nI ck) 1000 && rg c 1 24 && rg d 1 500) && rg x 0 50 && true) t9 τ).bind fun t15 => if t15.1 = true then ((g_118 t15.2).bind fun t16 => (g_155 a b c d x t16).bind fun t17 => (g_156 t17).bind fun t18 => some (t18.1, t18.2)) else some ((0 : Int32), t15.2)) := by
    unfold g_330
    rw [M_isH _ hh.1 (by omega), bnd, m326, bnd, t3, bnd]
  rcases n_ix a (m := hc) (by omega) with h | ⟨p, hp, rfl⟩
  · refine tB_no I hDD (k := 1) (v := 0) (by decide) ?_ ?_
    · unfold g_329 g_328
      rw [R_hol0 e h]
      rfl
    · rw [mm, inN_no h, if_pos rfl, bnd, M_chk, bnd]
      rfl
  · rw [inN_ok hp (by omega), if_neg (by decide)] at mm
    cases hF : ((rg b (nI ck) 1000 && rg c 1 24 && rg d 1 500) && rg x 0 50 && true)
    · rw [hF, if_pos rfl, bnd] at mm
      refine tB_no I hDD (k := 2) (v := 0) (by decide) ?_ ?_
      · unfold g_329 g_328
        rw [R_hol e (by omega) hp, bnd, Sum.elim_inl, c322, bnd]
        cases h1 : (rg b (nI ck) 1000 && rg c 1 24 && rg d 1 500)
        · rfl
        · rw [h1] at hF
          rw [if_pos rfl, Sum.elim_inl, R_rng, bnd]
          cases h2 : rg x 0 50
          · rfl
          · rw [h2] at hF; exact Bool.noConfusion hF
      · rw [mm, M_chk, bnd]
        rfl
    · obtain ⟨h1, h2, h3⟩ := and_ok hF
      obtain ⟨h4, h5, h6⟩ := and_ok h1
      obtain ⟨f, f1, f2, rfl⟩ := rg_n (a := ck) (b := 1000) (by omega) (by omega) h4
      obtain ⟨dd, d1, d2, rfl⟩ := rg_n (a := 1) (b := 24) (by omega) (by omega) h5
      obtain ⟨v, v1, v2, rfl⟩ := rg_n (a := 1) (b := 500) (by omega) (by omega) h6
      obtain ⟨y, -, y2, rfl⟩ := rg_n (a := 0) (b := 50) (by omega) (by omega) h2
      rw [hF, if_neg (by decide), M_pp τ _ _ (by omega), bnd, M_can2 hpc.1 hpc.2 (by omega), bnd] at mm
      have cC := C_can2 (pr := nI v * nI dd / (nI 20 + nI 2 * nI y) + nI 1) S.2.2.1 hpc.1 hpc.2 hp hh.2.2
      have cx : ∀ r, (((g_323 (nI p) (nI v * nI dd / (nI 20 + nI 2 * nI y) + nI 1) σ).bind fun t5 => Sum.elim (fun _ =>
      (g_73  σ).bind fun t6 =>
      (g_101 (nI p) (nI f) (nI dd) (nI v) (nI y) t6).bind fun t7 =>
      some (Sum.inl (β := Fin 4) t7.1, t7.2)
     ) (fun k5 => some (Sum.inr k5, σ)) t5).bind (f_xe (fun v1 m1 =>
   (f_wr m1 167 1 (0 : Int32) v1).bind fun m2 =>
   some ((0 : Int32), m2)
  ) (fun k1 m1 => (f_hc [(0, 1), (1, 2), (2, 3)] k1).bind fun v => some (v, m1)))) = r → g_329 (nI p) (nI f) (nI dd) (nI v) (nI y) σ = r := fun r h => by
        unfold g_329 g_328
        rw [R_hol e (by omega) hp, bnd, Sum.elim_inl, c322, bnd, h1, if_pos rfl, Sum.elim_inl, R_rng, bnd, h2, if_pos rfl, Sum.elim_inl, C_pp σ _ _ (by omega), bnd]
        exact h
      cases hcan : (decide (pc < 20) && !decide (τ 156 (20 + 9 * p + 7) < nI v * nI dd / (nI 20 + nI 2 * nI y) + nI 1))
      · rw [hcan] at mm cC
        refine tB_no I hDD (k := 3) (v := 0) (by decide) (cx _ ?_) ?_
        · unfold g_323
          rw [cC, bnd]
          rfl
        · rw [mm, if_pos rfl, bnd, M_chk, bnd]
          rfl
      · rw [hcan] at mm cC
        simp only [Bool.and_eq_true, decide_eq_true_eq, Bool.not_eq_true', decide_eq_false_iff_not] at hcan
        obtain ⟨σ4, τ4, c4, m4, S4, e4, fin⟩ := IV_push S H M V T E B O
        obtain ⟨σ5, τ1, τ5, p1, p2, p3, S5, f5⟩ := P_picn (f := f) (by omega : D ≤ 1000000000) hcan.1 hp (by omega) ⟨d1, d2⟩ ⟨v1, v2⟩ (by omega : y < 51) (by rw [e4]; exact hcan.2) S4
        obtain ⟨J, fr, h9⟩ := fin (D + 30000) ck (pc + 1) cc q n g σ5 τ5 hDD (sAll_mono hDD S5) f5 (Nat.le_refl _) (by omega) (Nat.le_refl _)
        refine tB_ok (cx _ ?_) ?_ h9 J fr (v := nI pc)
        · unfold g_323
          rw [cC, bnd, if_pos rfl, bnd, Sum.elim_inl, c4, bnd, p1, bnd, bnd]
          exact W_fin σ5 _
        · rw [mm, if_neg (by decide), bnd, M_yes, bnd, if_pos rfl]
          dsimp only
          rw [m4, bnd, p2, bnd, p3, bnd]
