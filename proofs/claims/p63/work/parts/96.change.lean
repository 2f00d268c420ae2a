/-! Changes: an hour, a purchase, a claim, a deposit. -/
def tB (D' : Nat) (W M : f_M → Option (Int32 × f_M)) (σ τ : f_M) : Prop := ∃ k v σ' τ', W σ = some (k, σ') ∧ M τ = some (v, τ') ∧ τ' 155 6 = k ∧ (k = 0 → σ' 167 0 = v) ∧ IV D' σ' τ' ∧ cFm σ σ' τ τ'
theorem tB_no {D D' : Nat} {W M : f_M → Option (Int32 × f_M)} {σ τ : f_M} {k v : Int32} (I : IV D σ τ) (hD : D ≤ D') (hk : ¬ k = 0) (h1 : W σ = some (k, σ)) (h2 : M τ = some (v, f_up τ 155 6 k)) : tB D' W M σ τ :=
  ⟨k, v, σ, _, h1, h2, up_same _ _ _ _, fun h => absurd h hk, IV_mono (IV_six I k) hD, fun _ _ _ => rfl, fun r h => up_rows (by omega)⟩
theorem tB_ok {D' : Nat} {W M : f_M → Option (Int32 × f_M)} {σ τ σ5 τ5 : f_M} {v : Int32} (h1 : W σ = some (0, f_up σ5 167 0 v)) (h2 : M τ = some (v, τ5)) (h6 : τ5 155 6 = 0) (I : IV D' σ5 τ5) (f : cFm σ σ5 τ τ5) : tB D' W M σ τ :=
  ⟨0, v, _, τ5, h1, h2, h6, fun _ => up_same _ _ _ _, IV_ext I (fun r h => up_rows (by omega)) (fun _ _ _ => rfl) (fun _ _ => rfl), fun r h h' => by rw [up_rows h']; exact f.1 r h h', f.2⟩
theorem IV_push {σ τ : f_M} {D ck hc ac pc cc q n k o : Nat} {g : Nat → Nat} {P : Nat → Nat → Int32} (S : sAll σ τ D ck hc ac pc cc g q n) (H : cH σ D hc ac ck pc cc k o P) (M : mH τ k P) (V : svR σ τ D hc ac) (T : ∃ len, tX σ τ len) (E : eR σ τ) (B : fb σ) (O : outR σ τ) :
    ∃ σ4 τ4, g_73 σ = some σ4 ∧ g_118 (f_up τ 155 6 0) = some τ4 ∧ sAll σ4 τ4 D ck hc ac pc cc g q n ∧ τ4 156 = τ 156 ∧ ∀ D' ck' pc' cc' q' n' (g' : Nat → Nat) σ5 τ5, D ≤ D' → sAll σ5 τ5 D' ck' hc ac pc' cc' g' q' n' → opF σ4 σ5 τ4 τ5 ck pc cc → ck ≤ ck' → pc ≤ pc' → cc ≤ cc' → IV D' σ5 τ5 ∧ cFm σ σ5 τ τ5 ∧ τ5 155 6 = 0 := by
  obtain ⟨len, T⟩ := T
  have S0 : sAll σ (f_up τ 155 6 0) D ck hc ac pc cc g q n := sAll_keep S (fun _ _ _ => rfl) (up_rows (by omega))
  have M0 : mH (f_up τ 155 6 0) k P := mH_keep M (up_ix (by omega)) (up_rows (by omega))
  obtain ⟨σ4, τ4, k', o', P', c4, m4, S4, H4, M4, f4, i4, r4⟩ := P_push S0 H M0
  refine ⟨σ4, τ4, c4, m4, S4, by rw [r4 156 (by omega) (by omega), up_rows (by omega)], fun D' ck' pc' cc' q' n' g' σ5 τ5 hD S5 f5 l1 l2 l3 => ?_⟩
  have w : ∀ r, (r < 44 ∨ 127 < r) → σ5 r = σ r := fun r h => by rw [f5.1 r (by omega), f4 r (by omega) (by omega)]
  have v : ∀ r, r ≠ 155 → r ≠ 156 → r ≠ 159 → τ5 r = τ r := fun r h h' h9 => by rw [f5.2.2.2.2 r h', r4 r h h9, up_rows h]
  have v5 : ∀ i, i ≠ 4 → i ≠ 6 → τ5 155 i = τ 155 i := fun i h h' => by rw [f5.2.2.2.2 155 (by omega), i4 i h, up_ix h']
  have v6 : τ5 155 6 = 0 := by rw [f5.2.2.2.2 155 (by omega), i4 6 (by omega), up_same]
  refine ⟨⟨ck', hc, ac, pc', cc', g', q', n', k', o', P', S5, cH_op H4 f5 l1 l2 l3 hD, mH_keep M4 (by rw [f5.2.2.2.2 155 (by omega)]) (f5.2.2.2.2 159 (by omega)), ?_, ⟨len, tX_keep T (by rw [w 0 (by omega)]) (w 1 (by omega)) (v5 10 (by omega) (by omega)) (v 161 (by omega) (by omega) (by omega))⟩, ?_, fb_keep B (w 7 (by omega)), outR_keep O (by rw [w 0 (by omega)]) (w 2 (by omega)) (v5 24 (by omega) (by omega)) (v 165 (by omega) (by omega) (by omega))⟩, ⟨fun r h h' => w r (by omega), fun r h => v r (by omega) (by omega) (by omega)⟩, v6⟩
  · refine svR_keep V hD (by rw [w 0 (by omega)]) (fun r h => ?_) (v5 5 (by omega) (by omega)) (v 158 (by omega) (by omega) (by omega))
    rcases h with h | h
    · rw [f5.1 r (by omega), f4 r (by omega) (by omega)]
    · exact w r (by omega)
  · unfold eR
    rw [w 3 (by omega), v5 11 (by omega) (by omega), v5 12 (by omega) (by omega)]
    exact E
theorem M_ok0 (τ : f_M) : f_up τ 155 6 (thr true true true) = f_up τ 155 6 0 := rfl
theorem B_50 {D : Nat} {σ τ : f_M} (hD : D ≤ 900000000) (a b : Int32) (I : IV D σ τ) : tB (D + 30000) (g_320 a b) (g_321 a b) σ τ := by
  have I0 := I
  obtain ⟨ck, hc, ac, pc, cc, g, q, n, k, o, P, S, H, M, V, T, E, B, O⟩ := I0
  have hck := S.1.1.1
  have e0 : σ 121 0 = nI ck := S.2.2.1.1.1.trans hck.1
  have hDD : D ≤ D + 30000 := by omega
  have w1 : g_46 a.toInt64 (0 : Int64) (150 : Int64) τ = some (rg a 0 150) := within_n τ a 0 150 0 150 rfl rfl
  have w2 : g_46 b.toInt64 (0 : Int64) (50 : Int64) τ = some (rg b 0 50) := within_n τ b 0 50 0 50 rfl rfl
  have h0 : f_rd τ 156 2420 (0 : Int32) = some (nI ck) := by rw [show f_rd τ 156 2420 (0 : Int32) = some (τ 156 0) from rdS (k := 0) (by omega), hck.1]
  have ht : (if (1000 : Int32) ≤ nI ck then (some false : Option Bool) else some true) = some (decide (ck < 1000)) := by
    by_cases h : ck < 1000
    · rw [if_neg (by rw [show (1000 : Int32) = nI 1000 from rfl, n_le (by omega) (by omega)]; omega), decide_eq_true h]
    · rw [if_pos (by rw [show (1000 : Int32) = nI 1000 from rfl, n_le (by omega) (by omega)]; omega), decide_eq_false h]
  have mm : ∀ t2, ((if rg a 0 150 = false then (some false : Option Bool) else (g_46 b.toInt64 (0 : Int64) (50 : Int64) τ).bind fun t3 => if t3 = false then some false else some true) = some t2) → g_321 a b τ = (g_176 t2 (decide (ck < 1000)) true τ).bind fun t9 => if t9.1 = true then ((g_118 t9.2).bind fun t10 => (g_140 a b t10).bind fun t11 => some (t11.1, t11.2)) else some ((0 : Int32), t9.2) := fun t2 h => by
    unfold g_321
    rw [w1, bnd, h, bnd, h0, bnd, ht, bnd]
  cases h1 : rg a 0 150
  · refine tB_no I hDD (k := 1) (v := 0) (by decide) ?_ ?_
    · unfold g_320 g_319
      rw [R_rng, bnd, h1]
      rfl
    · rw [mm false (by rw [h1, if_pos rfl]), M_chk, bnd, if_neg (show ¬ (false && decide (ck < 1000) && true, f_up τ 155 6 (thr false (decide (ck < 1000)) true)).1 = true from Bool.noConfusion)]
      rfl
  · cases h2 : rg b 0 50
    · refine tB_no I hDD (k := 1) (v := 0) (by decide) ?_ ?_
      · unfold g_320 g_319
        rw [R_rng, bnd, h1, if_pos rfl, Sum.elim_inl, R_rng, bnd, h2]
        rfl
      · rw [mm false (by rw [h1, if_neg (by decide), w2, bnd, h2, if_pos rfl]), M_chk, bnd, if_neg (show ¬ (false && decide (ck < 1000) && true, f_up τ 155 6 (thr false (decide (ck < 1000)) true)).1 = true from Bool.noConfusion)]
        rfl
    · have mt := mm true (by rw [h1, if_neg (by decide), w2, bnd, h2, if_neg (by decide)])
      have g74 : g_74 (1 : Int32) σ = some (decide (ck < 1000)) := by
        unfold g_74
        rw [e0, show (1 : Int32) = nI 1 from rfl, n_add, show (1000 : Int32) = nI 1000 from rfl]
        by_cases h : ck < 1000
        · rw [if_neg (by rw [n_lt (by omega) (by omega)]; omega), bnd, decide_eq_true h]
        · rw [if_pos (by rw [n_lt (by omega) (by omega)]; omega), bnd, decide_eq_false h]
      by_cases h3 : ck < 1000
      · rw [decide_eq_true h3] at mt g74
        obtain ⟨σ4, τ4, c4, m4, S4, e4, fin⟩ := IV_push S H M V T E B O
        obtain ⟨w, -, hw, rfl⟩ := rg_n (a := 0) (b := 150) (by omega) (by omega) h1
        obtain ⟨r, -, hr, rfl⟩ := rg_n (a := 0) (b := 50) (by omega) (by omega) h2
        obtain ⟨v, σ5, τ5, c5, m5, ⟨g', q', n', S5⟩, f5⟩ := P_hour (w := nI w) (r := nI r) (by omega) h3 ⟨w, by omega, rfl⟩ ⟨r, by omega, rfl⟩ S4
        obtain ⟨J, fr, h6⟩ := fin (D + 30000) (ck + 1) pc cc q' n' g' σ5 τ5 hDD (sAll_mono hDD S5) f5 (by omega) (Nat.le_refl _) (Nat.le_refl _)
        refine tB_ok ?_ ?_ h6 J fr (v := v)
        · unfold g_320 g_319
          rw [R_rng, bnd, h1, if_pos rfl, Sum.elim_inl, R_rng, bnd, h2, if_pos rfl, Sum.elim_inl, g74, bnd, if_pos rfl, c4, bnd, c5, bnd, bnd]
          exact W_fin σ5 v
        · rw [mt, M_yes, bnd, if_pos rfl]
          dsimp only
          rw [m4, bnd, m5, bnd]
      · rw [decide_eq_false h3] at mt g74
        refine tB_no I hDD (k := 2) (v := 0) (by decide) ?_ ?_
        · unfold g_320 g_319
          rw [R_rng, bnd, h1, if_pos rfl, Sum.elim_inl, R_rng, bnd, h2, if_pos rfl, Sum.elim_inl, g74, bnd]
          rfl
        · rw [mt, M_chk, bnd]
          rfl
theorem B_54 {D : Nat} {σ τ : f_M} (hD : D ≤ 900000000) (a b : Int32) (I : IV D σ τ) : tB (D + 30000) (g_335 a b) (g_336 a b) σ τ := by
  have I0 := I
  obtain ⟨ck, hc, ac, pc, cc, g, q, n, k, o, P, S, H, M, V, T, E, B, O⟩ := I0
  have hh := S.1.1.2.1
  have hDD : D ≤ D + 30000 := by omega
  have e := S.2.2.2.1.1.trans hh.1
  have w1 : g_46 b.toInt64 (1 : Int64) (999 : Int64) τ = some (rg b 1 999) := within_n τ b 1 999 1 999 rfl rfl
  have mm : g_336 a b τ = (g_176 (inN a hc) (rg b 1 999) true τ).bind fun t3 => if t3.1 = true then ((g_118 t3.2).bind fun t4 => (g_149 a b t4).bind fun t5 => some (t5.1, t5.2)) else some ((0 : Int32), t3.2) := by
    unfold g_336
    rw [M_isH _ hh.1 (by omega), bnd, w1, bnd]
  rcases n_ix a (m := hc) (by omega) with h | ⟨p, hp, rfl⟩
  · refine tB_no I hDD (k := 1) (v := 0) (by decide) ?_ ?_
    · unfold g_335 g_334
      rw [R_hol0 e h]
      rfl
    · rw [mm, inN_no h, M_chk, bnd]
      rfl
  · cases h2 : rg b 1 999
    · refine tB_no I hDD (k := 2) (v := 0) (by decide) ?_ ?_
      · unfold g_335 g_334
        rw [R_hol e (by omega) hp, bnd, Sum.elim_inl, R_rng, bnd, h2]
        rfl
      · rw [mm, inN_ok hp (by omega), h2, M_chk, bnd]
        rfl
    · obtain ⟨σ4, τ4, c4, m4, S4, e4, fin⟩ := IV_push S H M V T E B O
      obtain ⟨x, hx1, hx, rfl⟩ := rg_n (a := 1) (b := 999) (by omega) (by omega) h2
      obtain ⟨v, σ5, τ5, c5, m5, -, S5, f5⟩ := P_dep (v := x) (by omega) (by omega) hp S4
      obtain ⟨J, fr, h6⟩ := fin (D + 30000) ck pc cc q n g σ5 τ5 hDD (sAll_mono (by omega) S5) f5 (Nat.le_refl _) (Nat.le_refl _) (Nat.le_refl _)
      refine tB_ok ?_ ?_ h6 J fr (v := v)
      · unfold g_335 g_334
        rw [R_hol e (by omega) hp, bnd, Sum.elim_inl, R_rng, bnd, h2, if_pos rfl, Sum.elim_inl, c4, bnd, c5, bnd, bnd]
        exact W_fin σ5 v
      · rw [mm, inN_ok hp (by omega), h2, M_yes, bnd, if_pos rfl]
        dsimp only
        rw [m4, bnd, m5, bnd]
theorem B_53 {D : Nat} {σ τ : f_M} (hD : D ≤ 900000000) (a : Int32) (I : IV D σ τ) : tB (D + 30000) (g_332 a) (g_333 a) σ τ := by
  have I0 := I
  obtain ⟨ck, hc, ac, pc, cc, g, q, n, k, o, P, S, H, M, V, T, E, B, O⟩ := I0
  have hp20 := S.1.1.2.2.2.1
  have hDD : D ≤ D + 30000 := by omega
  have e := S.2.2.1.1.2.2.1.trans hp20.1
  rcases n_ix a (m := pc) (by omega) with h | ⟨p, hp, rfl⟩
  · refine tB_no I hDD (k := 1) (v := 0) (by decide) ?_ ?_
    · unfold g_332 g_331
      rw [R_pol0 e h]
      rfl
    · unfold g_333
      rw [M_isP _ hp20.1 hp20.2, bnd, inN_no h, if_pos rfl, bnd, M_chk, bnd]
      rfl
  · have c1 := C_code S.1 S.2.1 S.2.2.1 hp
    have m1 := M_code S.1 hp
    have hcd : s_code (τ 156) cc p ≤ 5 := by
      unfold s_code
      repeat' split
      all_goals omega
    by_cases h0 : s_code (τ 156) cc p = 0
    · obtain ⟨σ4, τ4, c4, m4, S4, e4, fin⟩ := IV_push S H M V T E B O
      have hcc := claims_lt S.1 hp h0
      obtain ⟨σ5, τ5, c5, m5, S5, f5⟩ := P_claim hp (by omega) (by rw [e4]; exact h0) S4
      obtain ⟨J, fr, h6⟩ := fin (D + 30000) ck pc (cc + 1) q n g σ5 τ5 hDD (sAll_mono hDD S5) f5 (Nat.le_refl _) (Nat.le_refl _) (by omega)
      refine tB_ok ?_ ?_ h6 J fr (v := nI cc)
      · unfold g_332 g_331
        rw [R_pol e (by omega) hp, bnd, Sum.elim_inl, c1, bnd, h0, if_pos (by decide), c4, bnd, c5, bnd, bnd]
        exact W_fin σ5 _
      · unfold g_333
        rw [M_isP _ hp20.1 hp20.2, bnd, inN_ok hp (by omega), if_neg (by decide), m1, bnd, h0, if_neg (by decide), bnd, M_yes, bnd, if_pos rfl]
        dsimp only
        rw [m4, bnd, m5, bnd]
    · have z : ¬ nI (s_code (τ 156) cc p) = 0 := by rw [show (0 : Int32) = nI 0 from rfl, n_eq (by omega) (by omega)]; exact h0
      refine tB_no I hDD (k := 2) (v := 0) (by decide) ?_ ?_
      · unfold g_332 g_331
        rw [R_pol e (by omega) hp, bnd, Sum.elim_inl, c1, bnd, if_neg z]
        rfl
      · unfold g_333
        rw [M_isP _ hp20.1 hp20.2, bnd, inN_ok hp (by omega), if_neg (by decide), m1, bnd, if_pos z, bnd, M_chk, bnd]
        rfl
