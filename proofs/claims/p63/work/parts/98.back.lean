/-! undo, saveState, restoreState keep the relation. -/
theorem sAll_low {σ τ' : f_M} {s : Nat → Int32} {D ck hc ac pc cc q n : Nat} {g : Nat → Nat} (K : kAll s D ck hc ac pc cc g q n) (B : rB σ 108 s ck pc cc) (l : rL σ 121 s hc pc cc g q n) (R : rS σ 103 s hc ac) (e : ∀ i, i < 2420 → τ' 156 i = s i) : sAll σ τ' D ck hc ac pc cc g q n := by
  have hh := K.1
  exact ⟨kAll_low e K, rB_low hh.1.2 hh.2.2.2.1.2 hh.2.2.2.2.2 e B, rL_low hh.2.1.2.2 hh.2.2.2.1.2 hh.2.2.2.2.2 e l, rS_low hh.2.1.2.2 hh.2.2.1.2.2 (kAll_len K) e R⟩
theorem B_55 {D : Nat} {σ τ : f_M} (I : IV D σ τ) : tB (D + 30000) g_340 g_341 σ τ := by
  have I0 := I
  obtain ⟨ck, hc, ac, pc, cc, g, q, n, k, o, P, S, H, M, V, ⟨len, T⟩, E, B, O⟩ := I0
  have hDD : D ≤ D + 30000 := by omega
  have hk : σ 44 2 = nI k ∧ k ≤ 8 := by
    obtain ⟨_, _, _, _, _, _, ⟨h, _, h', _⟩, _⟩ := H; exact ⟨h, h'⟩
  have ce := C_empty hk.1 hk.2
  by_cases h0 : k = 0
  · subst h0
    refine tB_no I hDD (k := 1) (v := 0) (by decide) ?_ (M_undo0 M.1)
    unfold g_340 g_339
    rw [ce, bnd]
    rfl
  · obtain ⟨σ', ck', pc', cc', q', n', g', c1, hle, K', B', l', R', H', f1⟩ := C_pop (by omega) H
    obtain ⟨τ', m1, m4, m6, mi, ms, mr⟩ := M_undo M.1 (by omega) hk.2
    have S' : sAll σ' τ' D ck' hc ac pc' cc' g' q' n' := sAll_low K' B' l' R' (fun i hi => by rw [ms i hi]; exact M.2 (k - 1) (by omega) i hi)
    have M' : mH τ' (k - 1) P := ⟨m4, fun i hi m hm => by rw [mr 159 (by omega) (by omega)]; exact M.2 i (by omega) m hm⟩
    have J : IV D σ' τ' := by
      refine ⟨ck', hc, ac, pc', cc', g', q', n', k - 1, o, P, S', H', M', svR_keep V (Nat.le_refl _) (by rw [f1 0 (by omega) (by omega)]) (fun r h => f1 r (by omega) (by omega)) (mi 5 (by omega) (by omega)) (mr 158 (by omega) (by omega)), ⟨len, tX_keep T (by rw [f1 0 (by omega) (by omega)]) (f1 1 (by omega) (by omega)) (mi 10 (by omega) (by omega)) (mr 161 (by omega) (by omega))⟩, ?_, fb_keep B (f1 7 (by omega) (by omega)), outR_keep O (by rw [f1 0 (by omega) (by omega)]) (f1 2 (by omega) (by omega)) (mi 24 (by omega) (by omega)) (mr 165 (by omega) (by omega))⟩
      unfold eR
      rw [f1 3 (by omega) (by omega), mi 11 (by omega) (by omega), mi 12 (by omega) (by omega)]
      exact E
    refine tB_ok ?_ m1 m6 (IV_mono J hDD) ⟨fun r h h' => f1 r (by omega) (by omega), fun r h => mr r (by omega) (by omega)⟩
    unfold g_340 g_339
    rw [ce, decide_eq_false h0, bnd, if_pos rfl, c1, bnd, bnd]
    exact W_fin σ' _
theorem IV_save {D : Nat} {σ τ : f_M} (I : IV D σ τ) : ∃ v σ' τ', g_353 σ = some (v, σ') ∧ g_354 τ = some (v, τ') ∧ IV D σ' τ' ∧ cFm σ σ' τ τ' := by
  obtain ⟨ck, hc, ac, pc, cc, g, q, n, k, o, P, S, H, M, V, ⟨len, T⟩, E, B, O⟩ := I
  obtain ⟨σ', c1, c15, B', l', f0, f1⟩ := C_save S.1 S.2.1 S.2.2.1
  obtain ⟨τ', m1, m5, m6, mi, ms, mr⟩ := M_save τ
  have hh := S.1.1
  have cond : sAll σ' τ' D ck hc ac pc cc g q n := sAll_keep S (fun r h h' => f1 r (by omega) (by omega)) (mr 156 (by omega) (by omega))
  have R' : rS σ' 103 (τ' 158) hc ac := by
    have := rS_low hh.2.1.2.2 hh.2.2.1.2.2 (kAll_len S.1) ms (rS_frame (σ' := σ') (fun j hj => f1 _ (by omega) (by omega)) S.2.2.2)
    exact this
  refine ⟨_, σ', τ', c1, m1, ⟨ck, hc, ac, pc, cc, g, q, n, k, o, P, cond, cH_keep H (fun r h h' => f1 r (by omega) (by omega)), mH_keep M (mi 4 (by omega) (by omega)) (mr 159 (by omega) (by omega)), Or.inr ⟨c15, m5, ck, pc, cc, g, q, n, kAll_low ms S.1, rB_low hh.1.2 hh.2.2.2.1.2 hh.2.2.2.2.2 ms B', rL_low hh.2.1.2.2 hh.2.2.2.1.2 hh.2.2.2.2.2 ms l', R'⟩, ⟨len, tX_keep T (f0 1 (by omega)) (f1 1 (by omega) (by omega)) (mi 10 (by omega) (by omega)) (mr 161 (by omega) (by omega))⟩, ?_, fb_keep B (f1 7 (by omega) (by omega)), outR_keep O (f0 3 (by omega)) (f1 2 (by omega) (by omega)) (mi 24 (by omega) (by omega)) (mr 165 (by omega) (by omega))⟩, fun r h h' => f1 r (by omega) (by omega), fun r h => mr r (by omega) (by omega)⟩
  unfold eR
  rw [f1 3 (by omega) (by omega), mi 11 (by omega) (by omega), mi 12 (by omega) (by omega)]
  exact E
theorem B_59 {D : Nat} {σ τ : f_M} (I : IV D σ τ) : tB (D + 30000) g_356 g_357 σ τ := by
  have I0 := I
  obtain ⟨ck, hc, ac, pc, cc, g, q, n, k, o, P, S, H, M, V, ⟨len, T⟩, E, B, O⟩ := I0
  have hDD : D ≤ D + 30000 := by omega
  have ho : σ 44 1 = nI o ∧ o < 8 := by
    obtain ⟨_, _, _, _, _, _, ⟨_, h, _, h'⟩, _⟩ := H; exact ⟨h, h'⟩
  have V0 := V
  rcases V with ⟨v1, v2⟩ | ⟨v1, v2, ck', pc', cc', g', q', n', K', B', l', R'⟩
  · refine tB_no I hDD (k := 1) (v := 0) (by decide) ?_ (M_restore0 v2)
    unfold g_356
    rw [C_restore0 v1, bnd]
    rfl
  · obtain ⟨σ', c1, c44, Bs, ls, f44, f1⟩ := C_restore v1 K' B' l'
    obtain ⟨τ', m1, m4, m6, mi, ms, mr⟩ := M_restore v2
    have S' : sAll σ' τ' D ck' hc ac pc' cc' g' q' n' := sAll_low K' Bs ls (rS_frame (fun j hj => f1 _ (by omega) (by omega)) R') ms
    have J : IV D σ' τ' := by
      refine ⟨ck', hc, ac, pc', cc', g', q', n', 0, o, fun _ _ => 0, S', ⟨fun _ => 0, fun _ => 0, fun _ => 0, fun _ => 0, fun _ => 0, fun _ _ => 0, ⟨c44, (f44 1 (by omega)).trans ho.1, by omega, ho.2⟩, fun i hi => absurd hi (by omega), fun i j _ hi => absurd hi (by omega), fun i hi => absurd hi (by omega)⟩, ⟨m4, fun i hi => absurd hi (by omega)⟩, svR_keep V0 (Nat.le_refl _) (by rw [f1 0 (by omega) (by omega)]) (fun r h => f1 r (by omega) (by omega)) (mi 5 (by omega) (by omega)) (mr 158 (by omega) (by omega)), ⟨len, tX_keep T (by rw [f1 0 (by omega) (by omega)]) (f1 1 (by omega) (by omega)) (mi 10 (by omega) (by omega)) (mr 161 (by omega) (by omega))⟩, ?_, fb_keep B (f1 7 (by omega) (by omega)), outR_keep O (by rw [f1 0 (by omega) (by omega)]) (f1 2 (by omega) (by omega)) (mi 24 (by omega) (by omega)) (mr 165 (by omega) (by omega))⟩
      unfold eR
      rw [f1 3 (by omega) (by omega), mi 11 (by omega) (by omega), mi 12 (by omega) (by omega)]
      exact E
    refine tB_ok ?_ m1 m6 (IV_mono J hDD) ⟨fun r h h' => f1 r (by omega) (by omega), fun r h => mr r (by omega) (by omega)⟩
    unfold g_356
    rw [c1, bnd]
    exact W_fin σ' _
