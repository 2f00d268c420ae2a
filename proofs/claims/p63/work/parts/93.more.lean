/-! Ratios, names, premiums of a day, prices, the output's bytes. -/
theorem ok64 {x : UInt64} (h : FP.Core.dIsNaN x = false) : x &&& 0x7fffffffffffffff ≤ 0x7ff0000000000000 := by
  have h1 : ¬ 9218868437227405312 < x.toNat % 2 ^ 63 := fun h' => by
    rw [(FP.Core.isNaN_bits x).mpr h'] at h
    exact Bool.noConfusion h
  rw [UInt64.le_iff_toNat_le, UInt64.toNat_and]
  have e1 : (0x7fffffffffffffff : UInt64).toNat = 2 ^ 63 - 1 := rfl
  have e2 : (0x7ff0000000000000 : UInt64).toNat = 9218868437227405312 := rfl
  rw [e1, e2, Nat.and_two_pow_sub_one_eq_mod]
  omega
theorem ok32 {x : UInt32} (h : FP.Core.fIsNaN x = false) : x &&& 0x7fffffff ≤ 0x7f800000 := by
  have h1 : ¬ 2139095040 < x.toNat % 2 ^ 31 := fun h' => by
    rw [(FP.Core.isNaN_bits32 x).mpr h'] at h
    exact Bool.noConfusion h
  rw [UInt32.le_iff_toNat_le, UInt32.toNat_and]
  have e1 : (0x7fffffff : UInt32).toNat = 2 ^ 31 - 1 := rfl
  have e2 : (0x7f800000 : UInt32).toNat = 2139095040 := rfl
  rw [e1, e2, Nat.and_two_pow_sub_one_eq_mod]
  omega
theorem div64 (a : Int32) {b : Int32} (h : ¬ b = 0) : FP.Core.dIsNaN (FP.ddiv (FP.i2d a) (FP.i2d b)) = false :=
  FP.Core.ddiv_out (FP.Core.i2d_fin a).notNaN (FP.Core.i2d_fin b) (fun hz => FP.Core.i2d_ne_zero h ((FP.Core.zero_bits2 _).mp hz))
theorem div32 (a : Int32) {b : Int32} (h : ¬ b = 0) : FP.Core.fIsNaN (FP.fdiv (FP.i2f a) (FP.i2f b)) = false :=
  FP.Core.fdiv_out (FP.Core.i2f_fin a).notNaN (FP.Core.i2f_fin b) (fun hz => FP.Core.i2f_ne_zero h ((FP.Core.zero_bits232 _).mp hz))
theorem A_43 {D : Nat} {σ τ : f_M} (I : IV D σ τ) : ∃ x, g_280 σ = some x ∧ g_281 τ = some (x, f_up τ 155 6 0) := by
  obtain ⟨ck, hc, ac, pc, cc, g, q, n, k, o, P, ⟨K, B, l, R⟩, -⟩ := I
  have e12 : σ 121 12 = τ 156 6 := l.1.2.2.2.2.2.2.1
  have e13 : σ 121 13 = τ 156 7 := l.1.2.2.2.2.2.2.2.1
  have h6 : f_rd (f_up τ 155 6 (0 : Int32)) 156 2420 (6 : Int32) = some (τ 156 6) := rd6 (k := 6) (by omega)
  have h7 : f_rd (f_up τ 155 6 (0 : Int32)) 156 2420 (7 : Int32) = some (τ 156 7) := rd6 (k := 7) (by omega)
  unfold g_280 g_281
  rw [e12, e13, h6, bnd]
  by_cases h0 : τ 156 6 = 0
  · exact ⟨FP.dconst0, by rw [if_neg (fun h => h h0)], by rw [if_neg (fun h => h h0), bnd]⟩
  · have hn := ok64 (div64 (τ 156 7) h0)
    exact ⟨FP.ddiv (FP.i2d (τ 156 7)) (FP.i2d (τ 156 6)), by rw [if_pos h0, if_pos hn], by rw [if_pos h0, h7, bnd, bnd, if_pos hn, bnd]⟩
/-- how many of the first claims the class finds decided -/
theorem M_cntIn {μ : f_M} {w D ck hc ac pc cc q n : Nat} {g : Nat → Nat} (K : kAll (μ 156) D ck hc ac pc cc g q n) : g_283 (nI w) μ = some (nI (cntN (fun c => decide (μ 156 (300 + 6 * c + 3) = nI w)) cc)) := by
  have hcc := K.1.2.2.2.2
  have h5 : f_rd μ 156 2420 (5 : Int32) = some (nI cc) := by rw [show (5 : Int32) = nI 5 from rfl, rdS (by omega), hcc.1]
  unfold g_283
  rw [lp_go (fun j => (nI (cntN (fun c => decide (μ 156 (300 + 6 * c + 3) = nI w)) j), nI j)) cc (r := nI (cntN (fun c => decide (μ 156 (300 + 6 * c + 3) = nI w)) cc)) ?_ (f_F_lt (by omega)) ?_ ?_, bnd]
  · rfl
  · intro j hj
    dsimp only
    rw [h5, bnd, if_neg (by rw [n_le (by omega) (by omega)]; omega), M_c, bnd, show (3 : Int32) = nI 3 from rfl, n_add, rdS (by omega), bnd, if_nft', bnd, M_one, bnd, f_b_n, n_add, cntN_succ, show (1 : Int32) = nI 1 from rfl, n_add]
  · dsimp only
    rw [h5, bnd, if_pos (by rw [n_le (by omega) (by omega)]; omega)]
theorem cntN_add (a b d : Nat → Bool) (n : Nat) (h : ∀ i, i < n → (if d i = true then 1 else 0) = (if a i = true then 1 else 0) + (if b i = true then 1 else 0)) : cntN d n = cntN a n + cntN b n := by
  induction n with
  | zero => rfl
  | succ n ih =>
    rw [cntN_succ, cntN_succ, cntN_succ, ih (fun i hi => h i (by omega)), h n (by omega)]
    omega
theorem isG_cnt (s : Nat → Int32) (cc : Nat) : cntN (isG s) cc = cntN (fun c => decide (s (300 + 6 * c + 3) = nI 2)) cc + cntN (fun c => decide (s (300 + 6 * c + 3) = nI 3)) cc := by
  refine cntN_add _ _ _ _ fun i _ => ?_
  unfold isG
  by_cases h2 : s (300 + 6 * i + 3) = nI 2
  · rw [h2]; decide
  · by_cases h3 : s (300 + 6 * i + 3) = nI 3
    · rw [h3]; decide
    · simp [h2, h3]
theorem A_44 {D : Nat} {σ τ : f_M} (I : IV D σ τ) : ∃ x, g_282 σ = some x ∧ g_284 τ = some (x, f_up τ 155 6 0) ∧ FP.Core.fIsNaN x = false := by
  obtain ⟨ck, hc, ac, pc, cc, g, q, n, k, o, P, ⟨K, B, l, R⟩, -⟩ := I
  have kc := K.1
  have hc20 := kc.2.2.2.2.2
  obtain ⟨hqn, hn⟩ := qn_le K
  have e10 : σ 121 10 = nI n := l.1.2.2.2.2.1
  have e5 : σ 121 5 = nI cc := l.1.2.2.2.1.trans kc.2.2.2.2.1
  have kd := K.2.2.2.2.1.1
  have h10 : f_rd (f_up τ 155 6 (0 : Int32)) 156 2420 (10 : Int32) = some (τ 156 10) := rd6 (k := 10) (by omega)
  have hl : f_lp (fun (s1 : Int32 × Int32) =>
   if (σ 121 5) ≤ s1.2 then (
    some (.inr s1.1)
   ) else (
    (f_rd σ 124 20 s1.2).bind fun v2 =>
    (
     if v2 = 0 then (
      some s1.1
     ) else (
      some (s1.1 + (1 : Int32))
     )
    ).bind fun (t3 : Int32) =>
    some (.inl (t3, (s1.2 + (1 : Int32))))
   )
  ) f_F ((0 : Int32), (0 : Int32)) = some (τ 156 10) := by
    rw [kd, e5]
    refine lp_go (fun j => (nI (cntN (fun c => !decide (τ 156 (300 + 6 * c + 3) = nI 0)) j), nI j)) cc rfl (f_F_lt (by omega)) ?_ ?_
    · intro j hj
      have est : σ 124 j = τ 156 (300 + 6 * j + 3) := (l.2.2.2.1 j hj).1
      dsimp only
      rw [if_neg (by rw [n_le (by omega) (by omega)]; omega), f_rd_n (by omega) (by omega), bnd, est, cntN_succ]
      by_cases h0 : τ 156 (300 + 6 * j + 3) = 0
      · rw [if_pos h0, bnd, decide_eq_true (show τ 156 (300 + 6 * j + 3) = nI 0 from h0), show (1 : Int32) = nI 1 from rfl, n_add]
        rfl
      · rw [if_neg h0, bnd, decide_eq_false (show ¬ τ 156 (300 + 6 * j + 3) = nI 0 from h0), show (1 : Int32) = nI 1 from rfl, n_add, n_add]
        rfl
    · dsimp only
      rw [if_pos (by rw [n_le (by omega) (by omega)]; omega)]
  have hs : nI (cntN (fun c => decide (τ 156 (300 + 6 * c + 3) = nI 2)) cc) + nI (cntN (fun c => decide (τ 156 (300 + 6 * c + 3) = nI 3)) cc) = nI n := by
    rw [n_add, ← isG_cnt, ← K.2.2.2.1.2.1]
  have m2 : g_283 (2 : Int32) (f_up τ 155 6 0) = some (nI (cntN (fun c => decide (τ 156 (300 + 6 * c + 3) = nI 2)) cc)) := by
    have := M_cntIn (μ := f_up τ 155 6 0) (w := 2) (by rw [up_rows (by omega)]; exact K)
    rw [up_rows (by omega)] at this; exact this
  have m3 : g_283 (3 : Int32) (f_up τ 155 6 0) = some (nI (cntN (fun c => decide (τ 156 (300 + 6 * c + 3) = nI 3)) cc)) := by
    have := M_cntIn (μ := f_up τ 155 6 0) (w := 3) (by rw [up_rows (by omega)]; exact K)
    rw [up_rows (by omega)] at this; exact this
  unfold g_282 g_284
  rw [hl, bnd, m2, bnd, m3, bnd, h10, bnd, e10, hs]
  by_cases h0 : τ 156 10 = 0
  · exact ⟨FP.fconst0, by rw [if_neg (fun h => h h0)], by rw [if_neg (fun h => h h0), bnd], by decide⟩
  · have hn := div32 (nI n) h0
    exact ⟨FP.fdiv (FP.i2f (nI n)) (FP.i2f (τ 156 10)), by rw [if_pos h0, if_pos (ok32 hn)], by rw [if_pos h0, bnd, if_pos (ok32 hn), bnd], hn⟩
/-! premiums of a day -/
theorem Q_11 {D : Nat} {σ τ : f_M} (a : Int32) (I : IV D σ τ) : qB (g_183 a) (g_185 a) σ τ := by
  obtain ⟨ck, hc, ac, pc, cc, g, q, n, k, o, P, ⟨K, B, l, R⟩, -⟩ := I
  have kc := K.1
  have hh8 := kc.2.1.2.2
  have hp20 := kc.2.2.2.1.2
  have e := R.1.1.trans kc.2.1.1
  have e3 : σ 121 3 = nI pc := l.1.2.2.1.trans kc.2.2.2.1.1
  have e0 : σ 121 0 = nI ck := l.1.1.trans kc.1.1
  rcases n_ix a (m := hc) (by omega) with h | ⟨p, hp, rfl⟩
  · refine Or.inr ⟨1, 0, by decide, ?_, ?_⟩
    · unfold g_183 g_182
      rw [R_hol0 e h]
      rfl
    · unfold g_185
      rw [M_isH _ kc.2.1.1 (by omega), bnd, inN_no h, M_noo, bnd, if_neg (show ¬ (false, f_up τ 155 6 1).1 = true from Bool.noConfusion)]
  · refine Or.inl ⟨sumI (fun i => if τ 156 (100 + 10 * i + 1) = nI p ∧ s_act (τ 156) i (nI ck) = true then τ 156 (100 + 10 * i + 7) else 0) pc, ?_, ?_⟩
    · unfold g_183 g_182
      rw [R_hol e (by omega) hp, bnd, Sum.elim_inl, e3, lp_go (fun j => (sumI (fun i => if τ 156 (100 + 10 * i + 1) = nI p ∧ s_act (τ 156) i (nI ck) = true then τ 156 (100 + 10 * i + 7) else 0) j, nI j)) pc (r := sumI (fun i => if τ 156 (100 + 10 * i + 1) = nI p ∧ s_act (τ 156) i (nI ck) = true then τ 156 (100 + 10 * i + 7) else 0) pc) ?_ (f_F_lt (by omega)) ?_ ?_, bnd, bnd, Sum.elim_inl]
      · exact W_fin _ _
      · rfl
      · intro j hj
        have eh : σ 112 j = τ 156 (100 + 10 * j + 1) := (B.2.1 j hj).2.1
        dsimp only
        rw [if_neg (by rw [n_le (by omega) (by omega)]; omega), f_rd_n (by omega) (by omega), bnd, eh, sumI_succ, show (1 : Int32) = nI 1 from rfl, n_add]
        by_cases h1 : τ 156 (100 + 10 * j + 1) = nI p
        · rw [if_neg (fun h => h h1), C_run (by omega) (B.2.1 j hj) (l.2.2.1 j hj) (K.2.1 j hj).2.2.2.2.2.2.2.1, bnd, e0]
          cases h2 : s_act (τ 156) j (nI ck)
          · rw [if_pos rfl, bnd, if_neg (by simp), Int32.add_zero]
          · rw [if_neg (by decide), C_prem (by omega) (B.2.1 j hj) (K.2.1 j hj), bnd, bnd, if_pos ⟨h1, rfl⟩]
        · rw [if_pos h1, bnd, if_neg (fun h => h1 h.1), Int32.add_zero]
      · dsimp only
        rw [if_pos (by rw [n_le (by omega) (by omega)]; omega)]
    · have h4 : f_rd (f_up τ 155 6 (0 : Int32)) 156 2420 (4 : Int32) = some (nI pc) := by rw [show f_rd (f_up τ 155 6 (0 : Int32)) 156 2420 (4 : Int32) = _ from rd6 (k := 4) (by omega), kc.2.2.2.1.1]
      have h0 : f_rd (f_up τ 155 6 (0 : Int32)) 156 2420 (0 : Int32) = some (nI ck) := by rw [show f_rd (f_up τ 155 6 (0 : Int32)) 156 2420 (0 : Int32) = _ from rd6 (k := 0) (by omega), kc.1.1]
      have h84 : ∀ j, j < pc → g_184 (nI j) (nI p) (f_up τ 155 6 0) = some (decide (τ 156 (100 + 10 * j + 1) = nI p)) := fun j hj => by
        unfold g_184
        rw [M_p, bnd, show (1 : Int32) = nI 1 from rfl, n_add, rd6 (by omega), bnd, if_nft', bnd]
      unfold g_185
      rw [M_isH _ kc.2.1.1 (by omega), bnd, inN_ok hp (by omega), M_yes, bnd, if_pos rfl]
      dsimp only
      rw [lp_go (fun j => (sumI (fun i => if τ 156 (100 + 10 * i + 1) = nI p ∧ s_act (τ 156) i (nI ck) = true then τ 156 (100 + 10 * i + 7) else 0) j, nI j)) pc (r := sumI (fun i => if τ 156 (100 + 10 * i + 1) = nI p ∧ s_act (τ 156) i (nI ck) = true then τ 156 (100 + 10 * i + 7) else 0) pc) ?_ (f_F_lt (by omega)) ?_ ?_, bnd]
      · rfl
      · intro j hj
        dsimp only
        rw [h4, bnd, if_neg (by rw [n_le (by omega) (by omega)]; omega), h84 j hj, bnd, sumI_succ, show (1 : Int32) = nI 1 from rfl, n_add]
        by_cases h1 : τ 156 (100 + 10 * j + 1) = nI p
        · rw [decide_eq_true h1, if_neg (by decide), h0, bnd, M_act (σ := f_up τ 155 6 0) (by omega), bnd, up_rows (by omega)]
          cases h2 : s_act (τ 156) j (nI ck)
          · rw [if_pos rfl, bnd, if_pos rfl, bnd, if_neg (by simp)]
          · rw [if_neg (by decide), bnd, if_neg (by decide), M_p, bnd, show (7 : Int32) = nI 7 from rfl, n_add, rd6 (by omega), bnd, bnd, if_pos ⟨h1, rfl⟩]
        · rw [decide_eq_false h1, if_pos rfl, bnd, if_pos rfl, bnd, if_neg (fun h => h1 h.1)]
      · dsimp only
        rw [h4, bnd, if_pos (by rw [n_le (by omega) (by omega)]; omega)]
