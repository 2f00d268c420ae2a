/-! The law compares: policies, the whole. -/
theorem Z_pol {σ : f_M} {s : Nat → Int32} {D ck hc ac pc cc q n : Nat} {g : Nat → Nat} (S : sAll σ (dT s) D ck hc ac pc cc g q n) (R : LR σ s hc ac pc cc g q n) : ∃ σ', f_lp (fun z => b_pol (nI (lkN (s_rec s) (hc - 1))) z σ) f_F (0 : Int32) = some (.inr (true, σ')) ∧ ∀ r, r ≠ 42 → r ≠ 43 → σ' r = σ r := by
  have K : kAll s D ck hc ac pc cc g q n := S.1
  have L : ∀ k o P, cH σ D hc ac ck pc cc k o P → LC σ s D ck hc ac pc cc := fun k o P H => ⟨g, q, n, k, o, P, S, H⟩
  have hpc := K.1.2.2.2.1.2
  obtain ⟨c0, c0'⟩ := K.1.1
  obtain ⟨⟨⟨a1, a2, a3, a4⟩, a5, -⟩, -, -, r4, -⟩ := id R
  have e3 : σ 121 3 = nI pc := S.2.2.1.1.2.2.1.trans K.1.2.2.2.1.1
  have e0 : σ 121 0 = nI ck := S.2.2.1.1.1.trans c0
  obtain ⟨σ', e9, f9⟩ := Z_cla S R
  refine ⟨σ', ?_, f9⟩
  refine lp_go (fun j => nI j) pc rfl (f_F_lt (by omega)) ?_ ?_
  · intro j hj
    have kp := K.2.1 j hj
    have rp : rP σ 108 s j := S.2.1.2.1 j hj
    have l8 : σ 123 j = s (100 + 10 * j + 8) := S.2.2.1.2.2.1 j hj
    obtain ⟨lp, lh⟩ := r4 j hj
    obtain ⟨b, hb, eb⟩ := kp.2.2.2.2.2.2.2.1
    have t79 := C_prem (by omega : j < 20) rp kp
    have t76 : g_76 121 (nI j) σ = some (s_act s j (σ 121 0)) := C_run (a := 121) (by omega : j < 20) rp l8 kp.2.2.2.2.2.2.2.1
    have tac := L_act (by omega : j < 20) a5 lp kp.2.2.2.2.2.2.2.1
    have tdm : g_88 (nI j) (nI ck) σ = some (s_damage s j) := C_damage c0 c0' (by omega) kp rp S.2.1.1
    have tld := L_dmg (by omega : j < 20) c0 c0' kp K.2.2.2.2.2.2.2.2.2 lp lh
    have tco : g_105 (nI j) σ = some (nI (s_code s cc j)) := C_code K S.2.1 S.2.2.1 hj
    have tlo := L_obs K hj a3 a5 (fun p hp => (r4 p hp).1)
    have e8 : σ 168 j = s (100 + 10 * j + 8) := lp.2.2.2.2.1
    have e6 : σ 166 j = s (100 + 10 * j + 7) := lp.2.2.2.1
    have tz : f_z (s (100 + 10 * j + 8)) = some (decide (b = 1)) ∧ f_b (decide (b = 1)) = s (100 + 10 * j + 8) := by
      rw [eb]
      obtain rfl | rfl : b = 0 ∨ b = 1 := by omega
      · exact ⟨rfl, rfl⟩
      · exact ⟨rfl, rfl⟩
    show b_pol _ (nI j) σ = _
    unfold b_pol p_213 p_216 p_219 p_222 p_225
    rw [a3, if_neg (by rw [n_le (by omega) (by omega)]; omega), p196_ok e3 hj (by omega)]
    rw [bnd, t79, bnd, bnd, f_rd_n (by omega) (by decide), bnd, e6, if_neg (fun h => h rfl), bnd, t76, bnd, bnd, tac, bnd, e0, c0, if_neg (fun h => h rfl), bnd, f_rd_n (by omega) (by decide), bnd, l8, tz.1, bnd, bnd, f_rd_n (by omega) (by decide), bnd, e8, tz.2, if_neg (fun h => h rfl), bnd, tdm, bnd, bnd, tld, bnd, if_neg (fun h => h rfl), bnd, tco, bnd, bnd, tlo, bnd, if_pos rfl, show (1 : Int32) = nI 1 from rfl, n_add]
  · show b_pol _ (nI pc) σ = _
    unfold b_pol
    rw [a3, if_pos (by rw [n_le (by omega) (by omega)]; omega), e9, bnd, Sum.elim_inr]
/-- what the law sees is what it holds -/
theorem Z_like {σ : f_M} {D ck : Nat} (I : LI σ D ck) : ∃ σ', l_isLike σ = some (true, σ') ∧ LI σ' D ck := by
  obtain ⟨s, hc, ac, pc, cc, q, n, k, o, g, P, S, H, R, h4⟩ := I
  have K : kAll s D ck hc ac pc cc g q n := S.1
  have hn := (qn_le K).2
  have hqn := (qn_le K).1
  obtain ⟨⟨⟨a1, a2, a3, a4⟩, a5, b1, b2, b3, b4, a6, a7⟩, r2, r3, r4, r5, r6, r7, r8, r9⟩ := id R
  obtain ⟨l0, l1, l3, l5, l10, l11, l12, l13, l14⟩ := S.2.2.1.1
  obtain ⟨σ', e9, f9⟩ := Z_pol S R
  have x0 : g_164 σ = some (s 0) := congrArg some l0
  have x1 : g_167 σ = some (s 1) := congrArg some l1
  have x3 : g_194 σ = some (nI pc) := congrArg some (l3.trans K.1.2.2.2.1.1)
  have x5 : g_228 σ = some (nI cc) := congrArg some (l5.trans K.1.2.2.2.2.1)
  have x12 : g_269 σ = some (s 6) := congrArg some l12
  have x13 : g_271 σ = some (s 7) := congrArg some l13
  have x14 : g_273 σ = some (s 8) := congrArg some l14
  have x8 : g_264 σ = some (if q < n then nI (g q) else -1) := by
    unfold g_264
    rw [l10, l11]
    by_cases h : q < n
    · rw [if_neg (by rw [n_le (by omega) (by omega)]; omega), f_rd_n (by omega) (by omega), bnd, bnd, if_pos h]
      exact congrArg some (S.2.2.1.2.2.2.2 q h)
    · rw [if_pos (by rw [n_le (by omega) (by omega)]; omega), bnd, if_neg h]
  have x9 : (if ¬ σ 155 31 = 0 then ((f_rd σ 180 20 (0 : Int32)).bind fun v10 => some v10) else some (-1 : Int32)) = some (if q < n then nI (g q) else -1) := by
    rw [a6, show (0 : Int32) = nI 0 from rfl]
    by_cases h : q < n
    · rw [if_pos (by rw [n_eq (by omega) (by omega)]; omega), f_rd_n (by omega) (by decide), bnd, r9 0 (by omega), if_pos h]
      rfl
    · rw [if_neg (fun h' => h' (by rw [show n - q = 0 by omega])), if_neg h]
  refine ⟨σ', ?_, s, hc, ac, pc, cc, q, n, k, o, g, P, sAll_keep (τ' := dT s) S (fun r h1 h2 => f9 r (by omega) (by omega)) rfl, cH_keep H (fun r h1 h2 => f9 r (by omega) (by omega)), LR_class R (fun r hr => f9 r (by omega) (by omega)), h4⟩
  rw [l_isLike_eq, x0, bnd, a5, if_neg (fun h => h rfl), x1, bnd, b1, if_neg (fun h => h rfl), x3, bnd, a3, if_neg (fun h => h rfl), x5, bnd, a4, if_neg (fun h => h rfl), x12, bnd, b2, if_neg (fun h => h rfl), x13, bnd, b3, if_neg (fun h => h rfl), x14, bnd, b4, if_neg (fun h => h rfl), x8, bnd, x9, bnd, if_pos rfl, Z_hol S R h4, bnd, Sum.elim_inl, e9, bnd, Sum.elim_inr]
