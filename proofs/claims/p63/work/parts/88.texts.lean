/-! loadSetup and runScript keep the relation. -/
theorem IV_load {D : Nat} {σ τ : f_M} (I : IV D σ τ) : ∃ v σ' τ', g_33 σ = some (v, σ') ∧ g_65 τ = some (v, τ') ∧ IV D σ' τ' ∧ cFm σ σ' τ τ' := by
  obtain ⟨ck, hc, ac, pc, cc, g, q, n, k, o, P, S, H, M, V, ⟨len, T⟩, E, B, O⟩ := I
  have ho : σ 44 1 = nI o ∧ o < 8 := by
    obtain ⟨_, _, _, _, _, _, ⟨_, h, _, h'⟩, _⟩ := H; exact ⟨h, h'⟩
  rcases P_load B T with ⟨hc', ac', σ', τ', c1, m1, S', ⟨w1, w2, w3, w4⟩, F⟩ | ⟨σ', τ', c1, m1, ⟨f1, f2⟩, ⟨u1, u2, u3, u4⟩, F⟩
  · obtain ⟨b, ⟨t1, t2⟩, ⟨e1, e2⟩, ⟨o1, o2, o3, o4⟩, ⟨p1, p2, p3, p4⟩, fc, fm⟩ := F
    refine ⟨_, σ', τ', c1, m1, ⟨0, hc', ac', 0, 0, fun _ => 0, 0, 0, 0, o, fun _ _ => 0, sAll_mono (Nat.zero_le _) S', ⟨fun _ => 0, fun _ => 0, fun _ => 0, fun _ => 0, fun _ => 0, fun _ _ => 0, ⟨w1, o4.trans ho.1, by omega, ho.2⟩, fun i hi => absurd hi (by omega), fun i j _ hi => absurd hi (by omega), fun i hi => absurd hi (by omega)⟩, ⟨w2, fun i hi => absurd hi (by omega)⟩, Or.inl ⟨w3, w4⟩, ⟨0, t1, t2, by omega, fun i hi => absurd hi (by omega)⟩, ⟨e1, e2⟩, b, outR_keep O o1 o3 p2 p4⟩, fun r h _ => fc r h, fun r h => fm r (by omega)⟩
  · obtain ⟨b, ⟨t1, t2⟩, ⟨e1, e2⟩, ⟨o1, o2, o3, o4⟩, ⟨p1, p2, p3, p4⟩, fc, fm⟩ := F
    have hh := S.1.1
    have S' : sAll σ' τ' D ck hc ac pc cc g q n := by
      obtain ⟨K, R1, R2, R3⟩ := sAll_keep (τ' := τ) S (σ' := σ') (fun r h1 h2 => f1 r (by omega) (by omega)) rfl
      exact ⟨kAll_low u1 K, rB_low hh.1.2 hh.2.2.2.1.2 hh.2.2.2.2.2 u1 R1, rL_low hh.2.1.2.2 hh.2.2.2.1.2 hh.2.2.2.2.2 u1 R2, rS_low hh.2.1.2.2 hh.2.2.1.2.2 (kAll_len S.1) u1 R3⟩
    exact ⟨_, σ', τ', c1, m1, ⟨ck, hc, ac, pc, cc, g, q, n, k, o, P, S', cH_keep H (fun r h1 h2 => f1 r (by omega) (by omega)), mH_keep M u3 (u2 159 (by omega) (by omega) (by omega) (by omega)), svR_keep V (Nat.le_refl _) (f2 15 (by omega)) (fun r h => f1 r (by omega) (by omega)) u4 (u2 158 (by omega) (by omega) (by omega) (by omega)), ⟨0, t1, t2, by omega, fun i hi => absurd hi (by omega)⟩, ⟨e1, e2⟩, b, outR_keep O o1 o3 p2 p4⟩, fun r h _ => fc r h, fun r h => fm r (by omega)⟩
set_option maxHeartbeats 3000000 in
theorem IV_run {D : Nat} {σ τ : f_M} (hD : D ≤ 900000000) (I : IV D σ τ) : ∃ v σ' τ', g_113 σ = some (v, σ') ∧ g_159 τ = some (v, τ') ∧ IV (D + 30000) σ' τ' ∧ cFm σ σ' τ τ' := by
  obtain ⟨ck, hc, ac, pc, cc, g, q, n, k, o, P, S, H, M, V, ⟨len, t1, t2, tl, tt⟩, E, B, O⟩ := I
  obtain ⟨σ0, c0, x0, p0, z1, z0, zr⟩ := C_9 t1 tl
  have a6 : ∀ i, i ≠ 6 → i ≠ 20 → f_up (f_up τ 155 6 (0 : Int32)) 155 20 (0 : Int32) 155 i = τ 155 i := fun i h h' => by rw [up_ix h', up_ix h]
  have ar : ∀ r, r ≠ 155 → f_up (f_up τ 155 6 (0 : Int32)) 155 20 (0 : Int32) r = τ r := fun r h => by rw [up_rows h, up_rows h]
  have a20 : f_up (f_up τ 155 6 (0 : Int32)) 155 20 (0 : Int32) 155 20 = nI 0 := by rw [up_same]; rfl
  have S0 : sAll σ0 (f_up (f_up τ 155 6 (0 : Int32)) 155 20 (0 : Int32)) D ck hc ac pc cc g q n := sAll_keep S (fun r h1 h2 => zr r (by omega) (by omega)) (ar 156 (by omega))
  rw [g_113_eq, g_159_eq]
  generalize f_up (f_up τ 155 6 (0 : Int32)) 155 20 (0 : Int32) = τ0 at *
  obtain ⟨τ1, τ2, m1, m2, cases2⟩ := P_readS (hc := hc) x0 p0 (by rw [a6 10 (by omega) (by omega)]; exact t2) (fun i hi => by rw [ar 161 (by omega)]; exact tt i hi) a20 (nmS_of S0)
  rw [c0, bnd, m1, bnd, m2, bnd]
  rcases cases2 with ⟨j, σ1, c3, y17, sr, e6, e7, zf⟩ | ⟨c, X, σ1, c3, fl, zf⟩
  · have e3 := M_63_ok y17
    rw [c3, bnd, if_pos rfl, e3, bnd]
    have g4 : ∀ r, r ≠ 155 → f_up (f_up (f_up τ2 155 11 (nI 0)) 155 12 (-1)) 155 10 (nI 0) r = τ2 r := fun r h => by rw [up_rows h, up_rows h, up_rows h]
    have g5 : ∀ i, (i < 10 ∨ 12 < i) → f_up (f_up (f_up τ2 155 11 (nI 0)) 155 12 (-1)) 155 10 (nI 0) 155 i = τ2 155 i := fun i h => by rw [up_ix (by omega), up_ix (by omega), up_ix (by omega)]
    have g10 : f_up (f_up (f_up τ2 155 11 (nI 0)) 155 12 (-1)) 155 10 (nI 0) 155 10 = nI 0 := up_same _ _ _ _
    have g11 : f_up (f_up (f_up τ2 155 11 (nI 0)) 155 12 (-1)) 155 10 (nI 0) 155 11 = nI 0 := by rw [up_ix (by omega), up_ix (by omega), up_same]
    have g12 : f_up (f_up (f_up τ2 155 11 (nI 0)) 155 12 (-1)) 155 10 (nI 0) 155 12 = -1 := by rw [up_ix (by omega), up_same]
    generalize f_up (f_up (f_up τ2 155 11 (nI 0)) 155 12 (-1)) 155 10 (nI 0) = τ3 at *
    rw [if_pos (by rw [g5 17 (by omega), y17]; decide)]
    -- frames so far
    have r3 : ∀ r, r ≠ 155 → r ≠ 160 → r ≠ 162 → τ3 r = τ r := fun r h h' h9 => by rw [g4 r h, zf.2.1 r h h' h9, ar r h]
    have i3 : ∀ i, (i < 8 ∨ 18 < i) → i ≠ 6 → i ≠ 20 → τ3 155 i = τ 155 i := fun i h h' h9 => by rw [g5 i (by omega), zf.2.2 i (by omega), a6 i h' h9]
    have s3 : ∀ r, (r = 1 ∨ r = 2 ∨ (3 < r ∧ r < 10) ∨ 41 < r) → σ1 r = σ r := fun r h => by rw [zf.1 r (by omega), zr r (by omega) (by omega)]
    have s0 : ∀ i, i ≠ 1 → σ1 0 i = σ 0 i := fun i h => by rw [zf.1 0 (by omega), z0 i h]
    have S3 : sAll σ1 τ3 D ck hc ac pc cc g q n := sAll_keep S (fun r h1 h2 => s3 r (by omega)) (r3 156 (by omega) (by omega) (by omega))
    have H3 : cH σ1 D hc ac ck pc cc k o P := cH_keep H (fun r h1 h2 => s3 r (by omega))
    have M3 : mH τ3 k P := mH_keep M (i3 4 (by omega) (by omega) (by omega)) (r3 159 (by omega) (by omega) (by omega))
    obtain ⟨σ4, τ4, k', o', P', c4, m4, S4, H4, M4, f4, i4, r4⟩ := P_push S3 H3 M3
    have sr4 : stRows hc j σ4 τ4 := by
      obtain ⟨b1, b2, b3, b4⟩ := sr
      refine ⟨by rw [f4 10 (by omega) (by omega)]; exact b1, by rw [i4 20 (by omega), g5 20 (by omega)]; exact b2, b3, fun i hi => ?_⟩
      rw [f4 (12 + i) (by omega) (by omega), r4 162 (by omega) (by omega), g4 162 (by omega)]
      exact b4 i hi
    have hj := sr.2.2.1
    obtain ⟨e, σ5, τ5, c5, m5, ⟨ck', pc', cc', g', q', n', S5, l1, l2, l3⟩, f5⟩ := P_xloop j 0 f_F f_F D ck pc cc q n g σ4 τ4 (by omega) S4 sr4 (by omega) (f_F_lt (by omega)) (f_F_lt (by omega))
    have hD5 : D + 1000 * j ≤ D + 30000 := by omega
    have w : ∀ r, (r < 44 ∨ 127 < r) → σ5 r = σ1 r := fun r h => by rw [f5.1 r (by omega), f4 r (by omega) (by omega)]
    have v : ∀ r, r ≠ 155 → r ≠ 156 → r ≠ 159 → τ5 r = τ3 r := fun r h h' h9 => by rw [f5.2.2.2.2 r h', r4 r h h9]
    have v5 : ∀ i, i ≠ 4 → τ5 155 i = τ3 155 i := fun i h => by rw [f5.2.2.2.2 155 (by omega), i4 i h]
    refine ⟨e, σ5, τ5, ?_, ?_, ⟨ck', hc, ac, pc', cc', g', q', n', k', o', P', sAll_mono hD5 S5, cH_op H4 f5 l1 l2 l3 (by omega), mH_keep M4 (by rw [f5.2.2.2.2 155 (by omega)]) (f5.2.2.2.2 159 (by omega)), ?_, ⟨0, ?_, ?_, by omega, fun i hi => absurd hi (by omega)⟩, ⟨?_, ?_⟩, ?_, ?_⟩, fun r h h' => ?_, fun r h => ?_⟩
    · rw [c4, bnd, show (0 : Int32) = nI 0 from rfl, c5, bnd]
    · rw [m4, bnd, show (0 : Int32) = nI 0 from rfl, m5, bnd]
    · refine svR_keep V (by omega) ?_ (fun r h => ?_) ?_ ?_
      · rw [w 0 (by omega)]; exact s0 15 (by omega)
      · rcases h with h | h
        · rw [f5.1 r (by omega), f4 r (by omega) (by omega)]; exact s3 r (by omega)
        · rw [w r (by omega)]; exact s3 r (by omega)
      · rw [v5 5 (by omega)]; exact i3 5 (by omega) (by omega) (by omega)
      · rw [v 158 (by omega) (by omega) (by omega)]; exact r3 158 (by omega) (by omega) (by omega)
    · rw [w 0 (by omega), zf.1 0 (by omega)]; exact z1
    · rw [v5 10 (by omega)]; exact g10
    · rw [w 3 (by omega), v5 11 (by omega), e6, g11]
    · rw [w 3 (by omega), v5 12 (by omega), e7, g12]
    · exact fb_keep B (by rw [w 7 (by omega)]; exact s3 7 (by omega))
    · refine outR_keep O ?_ ?_ ?_ ?_
      · rw [w 0 (by omega)]; exact s0 3 (by omega)
      · rw [w 2 (by omega)]; exact s3 2 (by omega)
      · rw [v5 24 (by omega)]; exact i3 24 (by omega) (by omega) (by omega)
      · rw [v 165 (by omega) (by omega) (by omega)]; exact r3 165 (by omega) (by omega) (by omega)
    · rw [w r (by omega)]; exact s3 r (by omega)
    · rw [v r (by omega) (by omega) (by omega)]; exact r3 r (by omega) (by omega) (by omega)
  · have e3 := M_63_bad fl.2.2
    rw [c3, bnd, if_neg (show ¬ (false, σ1).1 = true from Bool.false_ne_true), e3, bnd]
    have g4 : ∀ r, r ≠ 155 → f_up (f_up (f_up τ2 155 11 (nI c)) 155 12 (nI X)) 155 10 (nI 0) r = τ2 r := fun r h => by rw [up_rows h, up_rows h, up_rows h]
    have g5 : ∀ i, (i < 10 ∨ 12 < i) → f_up (f_up (f_up τ2 155 11 (nI c)) 155 12 (nI X)) 155 10 (nI 0) 155 i = τ2 155 i := fun i h => by rw [up_ix (by omega), up_ix (by omega), up_ix (by omega)]
    have g10 : f_up (f_up (f_up τ2 155 11 (nI c)) 155 12 (nI X)) 155 10 (nI 0) 155 10 = nI 0 := up_same _ _ _ _
    have g11 : f_up (f_up (f_up τ2 155 11 (nI c)) 155 12 (nI X)) 155 10 (nI 0) 155 11 = nI c := by rw [up_ix (by omega), up_ix (by omega), up_same]
    have g12 : f_up (f_up (f_up τ2 155 11 (nI c)) 155 12 (nI X)) 155 10 (nI 0) 155 12 = nI X := by rw [up_ix (by omega), up_same]
    generalize f_up (f_up (f_up τ2 155 11 (nI c)) 155 12 (nI X)) 155 10 (nI 0) = τ3 at *
    rw [if_neg (by rw [g5 17 (by omega)]; exact fl.2.2.nle)]
    have r3 : ∀ r, r ≠ 155 → r ≠ 160 → r ≠ 162 → τ3 r = τ r := fun r h h' h9 => by rw [g4 r h, zf.2.1 r h h' h9, ar r h]
    have i3 : ∀ i, (i < 8 ∨ 18 < i) → i ≠ 6 → i ≠ 20 → τ3 155 i = τ 155 i := fun i h h' h9 => by rw [g5 i (by omega), zf.2.2 i (by omega), a6 i h' h9]
    have s3 : ∀ r, (r = 1 ∨ r = 2 ∨ (3 < r ∧ r < 10) ∨ 41 < r) → σ1 r = σ r := fun r h => by rw [zf.1 r (by omega), zr r (by omega) (by omega)]
    have s0 : ∀ i, i ≠ 1 → σ1 0 i = σ 0 i := fun i h => by rw [zf.1 0 (by omega), z0 i h]
    have hD5 : D ≤ D + 30000 := by omega
    refine ⟨-1, σ1, τ3, rfl, rfl, IV_mono ⟨ck, hc, ac, pc, cc, g, q, n, k, o, P, sAll_keep S (fun r h1 h2 => s3 r (by omega)) (r3 156 (by omega) (by omega) (by omega)), cH_keep H (fun r h1 h2 => s3 r (by omega)), mH_keep M (i3 4 (by omega) (by omega) (by omega)) (r3 159 (by omega) (by omega) (by omega)), svR_keep V (Nat.le_refl _) (s0 15 (by omega)) (fun r h => s3 r (by omega)) (i3 5 (by omega) (by omega) (by omega)) (r3 158 (by omega) (by omega) (by omega)), ⟨0, ?_, g10, by omega, fun i hi => absurd hi (by omega)⟩, ⟨?_, ?_⟩, fb_keep B (s3 7 (by omega)), outR_keep O (s0 3 (by omega)) (s3 2 (by omega)) (i3 24 (by omega) (by omega) (by omega)) (r3 165 (by omega) (by omega) (by omega))⟩ hD5, fun r h h' => s3 r (by omega), fun r h => r3 r (by omega) (by omega) (by omega)⟩
    · rw [zf.1 0 (by omega)]; exact z1
    · rw [fl.1, g11]
    · rw [fl.2.1, g12]
