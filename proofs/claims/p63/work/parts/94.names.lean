/-! A name's byte, prices, the output's byte. -/
theorem Q_9 {D : Nat} {σ τ : f_M} (a b : Int32) (I : IV D σ τ) : qB (g_174 a b) (g_177 a b) σ τ := by
  obtain ⟨ck, hc, ac, pc, cc, g, q, n, k, o, P, ⟨K, B, l, R⟩, -⟩ := I
  have kc := K.1
  have hh8 := kc.2.1.2.2
  have e := R.1.1.trans kc.2.1.1
  rcases n_ix a (m := hc) (by omega) with h | ⟨p, hp, rfl⟩
  · refine Or.inr ⟨1, 0, by decide, ?_, ?_⟩
    · unfold g_174 g_173
      rw [R_hol0 e h]
      rfl
    · unfold g_177
      rw [M_isH _ kc.2.1.1 (by omega), bnd, inN_no h, M_noo, bnd, if_neg (show ¬ (false, f_up τ 155 6 1).1 = true from Bool.noConfusion)]
  · obtain ⟨m, m1, m2, m3, m4⟩ := K.2.2.2.2.2.2.2.2.1.2 p hp
    obtain ⟨r1, r2⟩ := R.2.2.1 p hp
    have el : σ 104 p = nI m := r1.trans m3
    rw [show nat (τ 156 (20 + 9 * p + 0)) = m from by rw [m3]; exact nat_n (by omega)] at r2
    have mm : ∀ v, (g_177 (nI p) b τ = some (v, f_up τ 155 6 0)) ↔ ((if inN b m = false then some (-1 : Int32) else ((g_36 (nI p) (f_up τ 155 6 0)).bind fun t7 => (f_rd (f_up τ 155 6 0) 156 2420 ((t7 + (1 : Int32)) + b)).bind fun v8 => some v8)).bind fun (t6 : Int32) => some (t6, f_up τ 155 6 0)) = some (v, f_up τ 155 6 0) := fun v => by
      unfold g_177
      rw [M_isH _ kc.2.1.1 (by omega), bnd, inN_ok hp (by omega), M_yes, bnd, if_pos rfl]
      dsimp only
      rw [show (g_36 (nI p) (f_up τ 155 6 0)).bind (fun t3 => (f_rd (f_up τ 155 6 0) 156 2420 t3).bind fun v4 => (g_46 b.toInt64 (0 : Int64) ((v4 - (1 : Int32))).toInt64 (f_up τ 155 6 0)).bind fun t5 => (if t5 = false then some (-1 : Int32) else ((g_36 (nI p) (f_up τ 155 6 0)).bind fun t7 => (f_rd (f_up τ 155 6 0) 156 2420 ((t7 + (1 : Int32)) + b)).bind fun v8 => some v8)).bind fun (t6 : Int32) => some (t6, f_up τ 155 6 0)) = (if inN b m = false then some (-1 : Int32) else ((g_36 (nI p) (f_up τ 155 6 0)).bind fun t7 => (f_rd (f_up τ 155 6 0) 156 2420 ((t7 + (1 : Int32)) + b)).bind fun v8 => some v8)).bind (fun (t6 : Int32) => some (t6, f_up τ 155 6 0)) from by
        rw [show g_36 (nI p) (f_up τ 155 6 0) = some (nI (20 + 9 * p)) from M_h _ p, bnd, rd6 (by omega), bnd, show τ 156 (20 + 9 * p) = nI m from m3, M_in _ b (by omega), bnd]]
    rcases n_ix b (m := m) (by omega) with hb | ⟨x, hx, rfl⟩
    · refine Or.inl ⟨-1, ?_, ?_⟩
      · unfold g_174 g_173
        rw [R_hol e (by omega) hp, bnd, Sum.elim_inl]
        by_cases h0 : b < 0
        · rw [if_pos h0, bnd, Sum.elim_inl]
          exact W_fin _ _
        · rw [if_neg h0, f_rd_n (by omega) (by omega), bnd, el, if_neg ((i32_nlt _ _).mpr (hb.resolve_left h0)), bnd, Sum.elim_inl]
          exact W_fin _ _
      · rw [mm, inN_no hb, if_pos rfl, bnd]
    · refine Or.inl ⟨τ 156 (20 + 9 * p + 1 + x), ?_, ?_⟩
      · unfold g_174 g_173
        rw [R_hol e (by omega) hp, bnd, Sum.elim_inl, if_neg (n_neg (by omega)), f_rd_n (by omega) (by omega), bnd, el, if_pos ((n_lt (by omega) (by omega)).mpr hx), C_17 (by omega), bnd, bnd, Sum.elim_inl, show σ (103 + 2) (6 * p + x) = _ from r2 x hx]
        exact W_fin _ _
      · rw [mm, inN_ok hx (by omega), if_neg (by decide), M_h, bnd, show (1 : Int32) = nI 1 from rfl, n_add, n_add, rd6 (by omega), bnd, bnd]
def rg (a lo hi : Int32) : Bool := !decide (a < lo) && !decide (hi < a)
theorem R_rng (σ : f_M) (a lo hi : Int32) : g_285 a lo hi σ = some (if rg a lo hi = true then .inl () else .inr 1) := by
  unfold g_285 rg
  by_cases h1 : a < lo
  · rw [if_pos h1, decide_eq_true h1]; rfl
  · by_cases h2 : hi < a
    · rw [if_neg h1, if_neg ((i32_nle _ _).mpr h2), decide_eq_true h2, Bool.not_true, Bool.and_false]; rfl
    · rw [if_neg h1, if_pos ((i32_nlt _ _).mp h2), decide_eq_false h1, decide_eq_false h2]; rfl
theorem rg_n {v : Int32} {a b : Nat} (ha : a < 2147483648) (hb : b < 2147483648) (h : rg v (nI a) (nI b) = true) : ∃ m, a ≤ m ∧ m ≤ b ∧ v = nI m := by
  unfold rg at h
  simp only [Bool.and_eq_true, Bool.not_eq_true', decide_eq_false_iff_not] at h
  exact rng_n ha hb h.1 h.2
theorem Q_45 {D : Nat} {σ τ : f_M} (a b : Int32) (I : IV D σ τ) : qB (g_287 a b) (g_288 a b) σ τ := by
  have w1 : g_46 a.toInt64 (1 : Int64) (24 : Int64) τ = some (rg a 1 24) := within_n τ a 1 24 1 24 rfl rfl
  have w2 : g_46 b.toInt64 (1 : Int64) (500 : Int64) τ = some (rg b 1 500) := within_n τ b 1 500 1 500 rfl rfl
  unfold qB
  unfold g_287 g_286 g_288
  rw [R_rng, bnd, w1, bnd]
  cases h1 : rg a 1 24
  · refine Or.inr ⟨1, 0, by decide, ?_, ?_⟩
    · rfl
    · rw [if_pos rfl, bnd, M_noo, bnd, if_pos rfl, bnd]
  · rw [if_pos rfl, Sum.elim_inl, R_rng, bnd, if_neg (show ¬ true = false from Bool.noConfusion), w2, bnd]
    cases h2 : rg b 1 500
    · refine Or.inr ⟨1, 0, by decide, ?_, ?_⟩
      · rfl
      · rw [if_pos rfl, bnd, M_noo, bnd, if_pos rfl, bnd]
    · refine Or.inl ⟨b * a / nI 40 + nI 1, ?_, ?_⟩
      · rw [if_pos rfl, Sum.elim_inl, C_pk, bnd, bnd, Sum.elim_inl]
        exact W_fin _ _
      · rw [if_neg (by decide), bnd, M_yes, bnd, if_neg (show ¬ (true, f_up τ 155 6 0).1 = false from Bool.noConfusion), M_pk, bnd, bnd]
theorem Q_46 {D : Nat} {σ τ : f_M} (a b c : Int32) (I : IV D σ τ) : qB (g_290 a b c) (g_291 a b c) σ τ := by
  have w1 : g_46 a.toInt64 (1 : Int64) (24 : Int64) τ = some (rg a 1 24) := within_n τ a 1 24 1 24 rfl rfl
  have w2 : g_46 b.toInt64 (1 : Int64) (500 : Int64) τ = some (rg b 1 500) := within_n τ b 1 500 1 500 rfl rfl
  have w3 : g_46 c.toInt64 (0 : Int64) (50 : Int64) τ = some (rg c 0 50) := within_n τ c 0 50 0 50 rfl rfl
  unfold qB
  unfold g_290 g_289 g_291
  rw [R_rng, bnd, w1, bnd]
  cases h1 : rg a 1 24
  · refine Or.inr ⟨1, 0, by decide, ?_, ?_⟩
    · rfl
    · rw [if_pos rfl, bnd, M_noo, bnd, if_pos rfl, bnd]
  · rw [if_pos rfl, Sum.elim_inl, R_rng, bnd, if_neg (show ¬ true = false from Bool.noConfusion), w2, bnd]
    cases h2 : rg b 1 500
    · refine Or.inr ⟨1, 0, by decide, ?_, ?_⟩
      · rfl
      · rw [if_pos rfl, bnd, M_noo, bnd, if_pos rfl, bnd]
    · rw [if_pos rfl, Sum.elim_inl, R_rng, bnd, if_neg (show ¬ true = false from Bool.noConfusion), w3, bnd]
      cases h3 : rg c 0 50
      · refine Or.inr ⟨1, 0, by decide, ?_, ?_⟩
        · rfl
        · rw [if_pos rfl, bnd, M_noo, bnd, if_pos rfl, bnd]
      · obtain ⟨x, -, x2, rfl⟩ := rg_n (a := 0) (b := 50) (by omega) (by omega) h3
        refine Or.inl ⟨b * a / (nI 20 + nI 2 * nI x) + nI 1, ?_, ?_⟩
        · rw [if_pos rfl, Sum.elim_inl, C_pp σ a b (by omega), bnd, bnd, Sum.elim_inl]
          exact W_fin _ _
        · rw [if_neg (by decide), bnd, M_yes, bnd, if_neg (show ¬ (true, f_up τ 155 6 0).1 = false from Bool.noConfusion), M_pp _ a b (by omega), bnd, bnd]
theorem A_57 {D : Nat} {σ τ : f_M} (a : Int32) (I : IV D σ τ) : qA (g_350 a σ) (g_351 a τ) τ := by
  obtain ⟨ck, hc, ac, pc, cc, g, q, n, k, o, P, S, H, M, V, T, E, B, ⟨ol, o1, o2, o3, o4⟩⟩ := I
  have e24 : f_up τ 155 6 (0 : Int32) 155 24 = nI ol := by rw [up_ix (by omega)]; exact o3
  unfold qA g_350 g_351
  rw [o2, e24, M_in _ a (by omega), bnd]
  rcases n_ix a (m := ol) (by omega) with h | ⟨p, hp, rfl⟩
  · refine ⟨-1, ?_, ?_⟩
    · by_cases h0 : a < 0
      · rw [if_pos h0, bnd]
      · rw [if_neg h0, if_pos (h.resolve_left h0), bnd]
    · rw [inN_no h, if_pos rfl, bnd]
  · refine ⟨σ 2 p, ?_, ?_⟩
    · rw [if_neg (n_neg (by omega)), if_neg (by rw [n_le (by omega) (by omega)]; omega), f_rd_n (by omega) (by omega), bnd, bnd]
    · rw [inN_ok hp (by omega), if_neg (by decide), f_rd_n (by omega) (by omega), bnd, bnd, up_rows (by omega), ← o4 p hp]
/-! bytes of a word -/
theorem byte_sh (a : Int32) : (((a.toUInt32 >>> ((24 : Int32).toUInt32 &&& Int32.toUInt32 31)).toInt32).toInt8 = (a >>> ((8 : Int32) * 3 &&& 31)).toInt8) ∧ (((a.toUInt32 >>> ((16 : Int32).toUInt32 &&& Int32.toUInt32 31)).toInt32).toInt8 = (a >>> ((8 : Int32) * 2 &&& 31)).toInt8) ∧ (((a.toUInt32 >>> ((8 : Int32).toUInt32 &&& Int32.toUInt32 31)).toInt32).toInt8 = (a >>> ((8 : Int32) * 1 &&& 31)).toInt8) ∧ (((a.toUInt32 >>> ((0 : Int32).toUInt32 &&& Int32.toUInt32 31)).toInt32).toInt8 = (a >>> ((8 : Int32) * 0 &&& 31)).toInt8) := by
  have key : ∀ (s : Nat), s ≤ 24 → ∀ (u : UInt32) (v : Int32), u.toBitVec = BitVec.ofNat 32 s → v.toBitVec = BitVec.ofNat 32 s → BitVec.ofNat 32 s % 32 = BitVec.ofNat 32 s → (BitVec.ofNat 32 s).smod 32 = BitVec.ofNat 32 s → ((a.toUInt32 >>> u).toInt32).toInt8 = (a >>> v).toInt8 := fun s hs u v hu hv h1 h2 => by
    apply Int8.toBitVec_inj.mp
    rw [Int32.toBitVec_toInt8, Int32.toBitVec_toInt8, Int32.toBitVec_shiftRight]
    show BitVec.signExtend 8 (a.toUInt32 >>> u).toBitVec = _
    rw [UInt32.toBitVec_shiftRight, hu, hv, h1, h2]
    show BitVec.signExtend 8 (a.toBitVec >>> (BitVec.ofNat 32 s)) = BitVec.signExtend 8 (a.toBitVec.sshiftRight (BitVec.ofNat 32 s).toNat)
    have hn : (BitVec.ofNat 32 s).toNat = s := by rw [BitVec.toNat_ofNat]; exact Nat.mod_eq_of_lt (by omega)
    rw [BitVec.ushiftRight_eq', hn]
    apply BitVec.eq_of_getLsbD_eq
    intro i hi
    rw [BitVec.getLsbD_signExtend, BitVec.getLsbD_signExtend, if_pos (by omega), if_pos (by omega), BitVec.getLsbD_ushiftRight, BitVec.getLsbD_sshiftRight, if_pos (by omega), decide_eq_false (p := 32 ≤ i) (by omega)]
    rfl
  exact ⟨key 24 (by omega) _ _ (by decide) (by decide) (by decide) (by decide), key 16 (by omega) _ _ (by decide) (by decide) (by decide) (by decide), key 8 (by omega) _ _ (by decide) (by decide) (by decide) (by decide), key 0 (by omega) _ _ (by decide) (by decide) (by decide) (by decide)⟩
