/-! Queries about a holder, an hour, a policy, a claim, an assessor. -/
theorem W_fin (σ : f_M) (v : Int32) : ((f_wr σ 167 1 (0 : Int32) v).bind fun m2 => some ((0 : Int32), m2)) = some (0, f_up σ 167 0 v) := by
  rw [show f_wr σ 167 1 (0 : Int32) v = some (f_up σ 167 0 v) from f_wr_n (p := 0) (by omega) (by omega), bnd]
theorem W_finZ (σ : f_M) (b : Bool) : ((if b = false then (some (0 : Int32)) else (some (1 : Int32))).bind fun (t2 : Int32) => (f_wr σ 167 1 (0 : Int32) t2).bind fun m4 => some ((0 : Int32), m4)) = some (0, f_up σ 167 0 (f_b b)) := by
  cases b
  · rw [if_pos rfl, bnd]; exact W_fin σ 0
  · rw [if_neg (by decide), bnd]; exact W_fin σ 1
theorem M_yes (τ : f_M) : g_176 true true true τ = some (true, f_up τ 155 6 0) := M_chk τ true true true
theorem M_noo (τ : f_M) : g_176 false true true τ = some (false, f_up τ 155 6 1) := M_chk τ false true true
theorem rd6 {τ : f_M} {v : Int32} {k : Nat} (h : k < 2420) : f_rd (f_up τ 155 6 v) 156 2420 (nI k) = some (τ 156 k) := by
  rw [rdS h, up_rows (by omega)]
theorem M_ofP {τ : f_M} {pc p w : Nat} (h4 : τ 156 4 = nI pc) (hpc : pc ≤ 20) (hp : p < pc) (hw : w < 10) : g_202 (nI p) (nI w) τ = some (τ 156 (100 + 10 * p + w), f_up τ 155 6 0) := by
  unfold g_202
  rw [M_isP _ h4 hpc, bnd, inN_ok hp (by omega), M_yes, bnd, if_neg (show ¬ (true, f_up τ 155 6 0).1 = false from Bool.noConfusion), M_p, bnd, n_add, rd6 (by omega), bnd, bnd]
theorem M_ofP0 {τ : f_M} {pc : Nat} {a w : Int32} (h4 : τ 156 4 = nI pc) (hpc : pc ≤ 20) (h : a < 0 ∨ nI pc ≤ a) : g_202 a w τ = some (0, f_up τ 155 6 1) := by
  unfold g_202
  rw [M_isP _ h4 hpc, bnd, inN_no h, M_noo, bnd, if_pos rfl, bnd]
theorem M_ofC {τ : f_M} {cc p w : Nat} (h5 : τ 156 5 = nI cc) (hcc : cc ≤ 20) (hp : p < cc) (hw : w < 6) : g_234 (nI p) (nI w) τ = some (τ 156 (300 + 6 * p + w), f_up τ 155 6 0) := by
  unfold g_234
  rw [M_isC _ h5 (by omega), bnd, inN_ok hp (by omega), M_yes, bnd, if_neg (show ¬ (true, f_up τ 155 6 0).1 = false from Bool.noConfusion), M_c, bnd, n_add, rd6 (by omega), bnd, bnd]
theorem M_ofC0 {τ : f_M} {cc : Nat} {a w : Int32} (h5 : τ 156 5 = nI cc) (hcc : cc ≤ 20) (h : a < 0 ∨ nI cc ≤ a) : g_234 a w τ = some (0, f_up τ 155 6 1) := by
  unfold g_234
  rw [M_isC _ h5 (by omega), bnd, inN_no h, M_noo, bnd, if_pos rfl, bnd]
theorem M_stC {τ : f_M} {cc p : Nat} {w : Int32} (h5 : τ 156 5 = nI cc) (hcc : cc ≤ 20) (hp : p < cc) : g_241 (nI p) w τ = some (decide (τ 156 (300 + 6 * p + 3) = w), f_up τ 155 6 0) := by
  unfold g_241
  rw [M_isC _ h5 (by omega), bnd, inN_ok hp (by omega), M_yes, bnd, if_neg (show ¬ (true, f_up τ 155 6 0).1 = false from Bool.noConfusion), M_c, bnd, show (3 : Int32) = nI 3 from rfl, n_add, rd6 (by omega), bnd, if_nft', bnd]
theorem M_stC0 {τ : f_M} {cc : Nat} {a w : Int32} (h5 : τ 156 5 = nI cc) (hcc : cc ≤ 20) (h : a < 0 ∨ nI cc ≤ a) : g_241 a w τ = some (false, f_up τ 155 6 1) := by
  unfold g_241
  rw [M_isC _ h5 (by omega), bnd, inN_no h, M_noo, bnd, if_pos rfl, bnd]
theorem Q_10 {D : Nat} {σ τ : f_M} (a : Int32) (I : IV D σ τ) : qB (g_180 a) (g_181 a) σ τ := by
  obtain ⟨ck, hc, ac, pc, cc, g, q, n, k, o, P, ⟨K, B, l, R⟩, -⟩ := I
  have kc := K.1
  have h1000 := kc.1.2
  have hh8 := kc.2.1.2.2
  have ha3 := kc.2.2.1.2.2
  have hp20 := kc.2.2.2.1.2
  have hc20 := kc.2.2.2.2.2
  have e := R.1.1.trans kc.2.1.1
  rcases n_ix a (m := hc) (by omega) with h | ⟨p, hp, rfl⟩
  · refine Or.inr ⟨1, 0, by decide, ?_, ?_⟩
    · unfold g_180 g_179
      rw [R_hol0 e h]
      rfl
    · unfold g_181
      rw [M_isH _ kc.2.1.1 (by omega), bnd, inN_no h, M_noo, bnd, if_pos rfl, bnd]
  · refine Or.inl ⟨τ 156 (20 + 9 * p + 7), ?_, ?_⟩
    · unfold g_180 g_179
      rw [R_hol e (by omega) hp, bnd, Sum.elim_inl]
      rw [f_rd_n (σ := σ) (a := 122) (n := 8) (by omega) (by omega), bnd, bnd, show σ 122 p = _ from l.2.1 p hp]
      rw [Sum.elim_inl]
      exact W_fin _ _
    · unfold g_181
      rw [M_isH _ kc.2.1.1 (by omega), bnd, inN_ok hp (by omega), M_yes, bnd, if_neg (show ¬ (true, f_up τ 155 6 0).1 = false from Bool.noConfusion)]
      rw [M_h, bnd, show (7 : Int32) = nI 7 from rfl, n_add, rd6 (by omega), bnd, bnd]
theorem Q_12 {D : Nat} {σ τ : f_M} (a : Int32) (I : IV D σ τ) : qB (g_188 a) (g_190 a) σ τ := by
  obtain ⟨ck, hc, ac, pc, cc, g, q, n, k, o, P, ⟨K, B, l, R⟩, -⟩ := I
  have kc := K.1
  have h1000 := kc.1.2
  have hh8 := kc.2.1.2.2
  have ha3 := kc.2.2.1.2.2
  have hp20 := kc.2.2.2.1.2
  have hc20 := kc.2.2.2.2.2
  have e := l.1.1.trans kc.1.1
  rcases n_ix a (m := ck) (by omega) with h | ⟨p, hp, rfl⟩
  · refine Or.inr ⟨1, 0, by decide, ?_, ?_⟩
    · unfold g_188 g_187
      rw [R_hour0 e h]
      rfl
    · unfold g_190
      rw [M_isT _ kc.1.1 (by omega), bnd, inN_no h, M_noo, bnd, if_pos rfl, bnd]
  · refine Or.inl ⟨τ 156 (420 + p), ?_, ?_⟩
    · unfold g_188 g_187
      rw [R_hour e (by omega) hp, bnd, Sum.elim_inl]
      rw [f_rd_n (σ := σ) (a := 109) (n := 1000) (by omega) (by omega), bnd, bnd, show σ 109 p = _ from (B.1 p hp).1]
      rw [Sum.elim_inl]
      exact W_fin _ _
    · unfold g_190
      rw [M_isT _ kc.1.1 (by omega), bnd, inN_ok hp (by omega), M_yes, bnd, if_neg (show ¬ (true, f_up τ 155 6 0).1 = false from Bool.noConfusion)]
      rw [show (420 : Int32) = nI 420 from rfl, n_add, rd6 (by omega), bnd, bnd]
theorem Q_13 {D : Nat} {σ τ : f_M} (a : Int32) (I : IV D σ τ) : qB (g_192 a) (g_193 a) σ τ := by
  obtain ⟨ck, hc, ac, pc, cc, g, q, n, k, o, P, ⟨K, B, l, R⟩, -⟩ := I
  have kc := K.1
  have h1000 := kc.1.2
  have hh8 := kc.2.1.2.2
  have ha3 := kc.2.2.1.2.2
  have hp20 := kc.2.2.2.1.2
  have hc20 := kc.2.2.2.2.2
  have e := l.1.1.trans kc.1.1
  rcases n_ix a (m := ck) (by omega) with h | ⟨p, hp, rfl⟩
  · refine Or.inr ⟨1, 0, by decide, ?_, ?_⟩
    · unfold g_192 g_191
      rw [R_hour0 e h]
      rfl
    · unfold g_193
      rw [M_isT _ kc.1.1 (by omega), bnd, inN_no h, M_noo, bnd, if_pos rfl, bnd]
  · refine Or.inl ⟨τ 156 (1420 + p), ?_, ?_⟩
    · unfold g_192 g_191
      rw [R_hour e (by omega) hp, bnd, Sum.elim_inl]
      rw [f_rd_n (σ := σ) (a := 110) (n := 1000) (by omega) (by omega), bnd, bnd, show σ 110 p = _ from (B.1 p hp).2]
      rw [Sum.elim_inl]
      exact W_fin _ _
    · unfold g_193
      rw [M_isT _ kc.1.1 (by omega), bnd, inN_ok hp (by omega), M_yes, bnd, if_neg (show ¬ (true, f_up τ 155 6 0).1 = false from Bool.noConfusion)]
      rw [show (1420 : Int32) = nI 1420 from rfl, n_add, rd6 (by omega), bnd, bnd]
theorem Q_16 {D : Nat} {σ τ : f_M} (a : Int32) (I : IV D σ τ) : qB (g_201 a) (g_203 a) σ τ := by
  obtain ⟨ck, hc, ac, pc, cc, g, q, n, k, o, P, ⟨K, B, l, R⟩, -⟩ := I
  have kc := K.1
  have h1000 := kc.1.2
  have hh8 := kc.2.1.2.2
  have ha3 := kc.2.2.1.2.2
  have hp20 := kc.2.2.2.1.2
  have hc20 := kc.2.2.2.2.2
  have e := l.1.2.2.1.trans kc.2.2.2.1.1
  rcases n_ix a (m := pc) (by omega) with h | ⟨p, hp, rfl⟩
  · refine Or.inr ⟨1, 0, by decide, ?_, ?_⟩
    · unfold g_201 g_200
      rw [R_pol0 e h]
      rfl
    · unfold g_203
      rw [M_ofP0 kc.2.2.2.1.1 hp20 h, bnd]
  · refine Or.inl ⟨τ 156 (100 + 10 * p + 1), ?_, ?_⟩
    · unfold g_201 g_200
      rw [R_pol e (by omega) hp, bnd, Sum.elim_inl]
      rw [f_rd_n (σ := σ) (a := 112) (n := 20) (by omega) (by omega), bnd, bnd, show σ 112 p = _ from (B.2.1 p hp).2.1]
      rw [Sum.elim_inl]
      exact W_fin _ _
    · unfold g_203
      rw [show g_202 (nI p) (1 : Int32) τ = _ from M_ofP (w := 1) kc.2.2.2.1.1 hp20 hp (by omega), bnd]
theorem Q_17 {D : Nat} {σ τ : f_M} (a : Int32) (I : IV D σ τ) : qB (g_205 a) (g_206 a) σ τ := by
  obtain ⟨ck, hc, ac, pc, cc, g, q, n, k, o, P, ⟨K, B, l, R⟩, -⟩ := I
  have kc := K.1
  have h1000 := kc.1.2
  have hh8 := kc.2.1.2.2
  have ha3 := kc.2.2.1.2.2
  have hp20 := kc.2.2.2.1.2
  have hc20 := kc.2.2.2.2.2
  have e := l.1.2.2.1.trans kc.2.2.2.1.1
  rcases n_ix a (m := pc) (by omega) with h | ⟨p, hp, rfl⟩
  · refine Or.inr ⟨1, 0, by decide, ?_, ?_⟩
    · unfold g_205 g_204
      rw [R_pol0 e h]
      rfl
    · unfold g_206
      rw [M_ofP0 kc.2.2.2.1.1 hp20 h, bnd]
  · refine Or.inl ⟨τ 156 (100 + 10 * p + 2), ?_, ?_⟩
    · unfold g_205 g_204
      rw [R_pol e (by omega) hp, bnd, Sum.elim_inl]
      rw [f_rd_n (σ := σ) (a := 113) (n := 20) (by omega) (by omega), bnd, bnd, show σ 113 p = _ from (B.2.1 p hp).2.2.1]
      rw [Sum.elim_inl]
      exact W_fin _ _
    · unfold g_206
      rw [show g_202 (nI p) (2 : Int32) τ = _ from M_ofP (w := 2) kc.2.2.2.1.1 hp20 hp (by omega), bnd]
theorem Q_18 {D : Nat} {σ τ : f_M} (a : Int32) (I : IV D σ τ) : qB (g_208 a) (g_209 a) σ τ := by
  obtain ⟨ck, hc, ac, pc, cc, g, q, n, k, o, P, ⟨K, B, l, R⟩, -⟩ := I
  have kc := K.1
  have h1000 := kc.1.2
  have hh8 := kc.2.1.2.2
  have ha3 := kc.2.2.1.2.2
  have hp20 := kc.2.2.2.1.2
  have hc20 := kc.2.2.2.2.2
  have e := l.1.2.2.1.trans kc.2.2.2.1.1
  rcases n_ix a (m := pc) (by omega) with h | ⟨p, hp, rfl⟩
  · refine Or.inr ⟨1, 0, by decide, ?_, ?_⟩
    · unfold g_208 g_207
      rw [R_pol0 e h]
      rfl
    · unfold g_209
      rw [M_ofP0 kc.2.2.2.1.1 hp20 h, bnd]
  · refine Or.inl ⟨τ 156 (100 + 10 * p + 3), ?_, ?_⟩
    · unfold g_208 g_207
      rw [R_pol e (by omega) hp, bnd, Sum.elim_inl]
      rw [f_rd_n (σ := σ) (a := 114) (n := 20) (by omega) (by omega), bnd, bnd, show σ 114 p = _ from (B.2.1 p hp).2.2.2.1]
      rw [Sum.elim_inl]
      exact W_fin _ _
    · unfold g_209
      rw [show g_202 (nI p) (3 : Int32) τ = _ from M_ofP (w := 3) kc.2.2.2.1.1 hp20 hp (by omega), bnd]
theorem Q_19 {D : Nat} {σ τ : f_M} (a : Int32) (I : IV D σ τ) : qB (g_211 a) (g_212 a) σ τ := by
  obtain ⟨ck, hc, ac, pc, cc, g, q, n, k, o, P, ⟨K, B, l, R⟩, -⟩ := I
  have kc := K.1
  have h1000 := kc.1.2
  have hh8 := kc.2.1.2.2
  have ha3 := kc.2.2.1.2.2
  have hp20 := kc.2.2.2.1.2
  have hc20 := kc.2.2.2.2.2
  have e := l.1.2.2.1.trans kc.2.2.2.1.1
  rcases n_ix a (m := pc) (by omega) with h | ⟨p, hp, rfl⟩
  · refine Or.inr ⟨1, 0, by decide, ?_, ?_⟩
    · unfold g_211 g_210
      rw [R_pol0 e h]
      rfl
    · unfold g_212
      rw [M_ofP0 kc.2.2.2.1.1 hp20 h, bnd]
  · refine Or.inl ⟨τ 156 (100 + 10 * p + 4), ?_, ?_⟩
    · unfold g_211 g_210
      rw [R_pol e (by omega) hp, bnd, Sum.elim_inl]
      rw [f_rd_n (σ := σ) (a := 115) (n := 20) (by omega) (by omega), bnd, bnd, show σ 115 p = _ from (B.2.1 p hp).2.2.2.2]
      rw [Sum.elim_inl]
      exact W_fin _ _
    · unfold g_212
      rw [show g_202 (nI p) (4 : Int32) τ = _ from M_ofP (w := 4) kc.2.2.2.1.1 hp20 hp (by omega), bnd]
theorem Q_20 {D : Nat} {σ τ : f_M} (a : Int32) (I : IV D σ τ) : qB (g_214 a) (g_215 a) σ τ := by
  obtain ⟨ck, hc, ac, pc, cc, g, q, n, k, o, P, ⟨K, B, l, R⟩, -⟩ := I
  have kc := K.1
  have h1000 := kc.1.2
  have hh8 := kc.2.1.2.2
  have ha3 := kc.2.2.1.2.2
  have hp20 := kc.2.2.2.1.2
  have hc20 := kc.2.2.2.2.2
  have e := l.1.2.2.1.trans kc.2.2.2.1.1
  rcases n_ix a (m := pc) (by omega) with h | ⟨p, hp, rfl⟩
  · refine Or.inr ⟨1, 0, by decide, ?_, ?_⟩
    · unfold g_214 g_213
      rw [R_pol0 e h]
      rfl
    · unfold g_215
      rw [M_ofP0 kc.2.2.2.1.1 hp20 h, bnd]
  · refine Or.inl ⟨τ 156 (100 + 10 * p + 7), ?_, ?_⟩
    · unfold g_214 g_213
      rw [R_pol e (by omega) hp, bnd, Sum.elim_inl]
      rw [C_prem (by omega) (B.2.1 p hp) (K.2.1 p hp), bnd, bnd]
      rw [Sum.elim_inl]
      exact W_fin _ _
    · unfold g_215
      rw [show g_202 (nI p) (7 : Int32) τ = _ from M_ofP (w := 7) kc.2.2.2.1.1 hp20 hp (by omega), bnd]
theorem Q_23 {D : Nat} {σ τ : f_M} (a : Int32) (I : IV D σ τ) : qB (g_223 a) (g_224 a) σ τ := by
  obtain ⟨ck, hc, ac, pc, cc, g, q, n, k, o, P, ⟨K, B, l, R⟩, -⟩ := I
  have kc := K.1
  have h1000 := kc.1.2
  have hh8 := kc.2.1.2.2
  have ha3 := kc.2.2.1.2.2
  have hp20 := kc.2.2.2.1.2
  have hc20 := kc.2.2.2.2.2
  have e := l.1.2.2.1.trans kc.2.2.2.1.1
  rcases n_ix a (m := pc) (by omega) with h | ⟨p, hp, rfl⟩
  · refine Or.inr ⟨1, 0, by decide, ?_, ?_⟩
    · unfold g_223 g_222
      rw [R_pol0 e h]
      rfl
    · unfold g_224
      rw [M_isP _ kc.2.2.2.1.1 (by omega), bnd, inN_no h, M_noo, bnd, if_pos rfl, bnd]
  · refine Or.inl ⟨s_damage (τ 156) p, ?_, ?_⟩
    · unfold g_223 g_222
      rw [R_pol e (by omega) hp, bnd, Sum.elim_inl]
      rw [l.1.1.trans kc.1.1, C_damage kc.1.1 h1000 (by omega) (K.2.1 p hp) (B.2.1 p hp) (fun t ht => B.1 t ht), bnd, bnd]
      rw [Sum.elim_inl]
      exact W_fin _ _
    · unfold g_224
      rw [M_isP _ kc.2.2.2.1.1 (by omega), bnd, inN_ok hp (by omega), M_yes, bnd, if_neg (show ¬ (true, f_up τ 155 6 0).1 = false from Bool.noConfusion)]
      rw [M_damage (σ := f_up τ 155 6 0) (by omega) (by rw [up_rows (by omega)]; exact K.okF.toD hp), bnd, bnd, up_rows (by omega)]
theorem Q_24 {D : Nat} {σ τ : f_M} (a : Int32) (I : IV D σ τ) : qB (g_226 a) (g_227 a) σ τ := by
  obtain ⟨ck, hc, ac, pc, cc, g, q, n, k, o, P, ⟨K, B, l, R⟩, -⟩ := I
  have kc := K.1
  have h1000 := kc.1.2
  have hh8 := kc.2.1.2.2
  have ha3 := kc.2.2.1.2.2
  have hp20 := kc.2.2.2.1.2
  have hc20 := kc.2.2.2.2.2
  have e := l.1.2.2.1.trans kc.2.2.2.1.1
  rcases n_ix a (m := pc) (by omega) with h | ⟨p, hp, rfl⟩
  · refine Or.inr ⟨1, 0, by decide, ?_, ?_⟩
    · unfold g_226 g_225
      rw [R_pol0 e h]
      rfl
    · unfold g_227
      rw [M_isP _ kc.2.2.2.1.1 (by omega), bnd, inN_no h, M_noo, bnd, if_pos rfl, bnd]
  · refine Or.inl ⟨nI (s_code (τ 156) cc p), ?_, ?_⟩
    · unfold g_226 g_225
      rw [R_pol e (by omega) hp, bnd, Sum.elim_inl]
      rw [C_code K B l hp, bnd, bnd]
      rw [Sum.elim_inl]
      exact W_fin _ _
    · unfold g_227
      rw [M_isP _ kc.2.2.2.1.1 (by omega), bnd, inN_ok hp (by omega), M_yes, bnd, if_neg (show ¬ (true, f_up τ 155 6 0).1 = false from Bool.noConfusion)]
      rw [M_code (σ := f_up τ 155 6 0) (by rw [up_rows (by omega)]; exact K) hp, bnd, bnd, up_rows (by omega)]
theorem Q_26 {D : Nat} {σ τ : f_M} (a : Int32) (I : IV D σ τ) : qB (g_232 a) (g_235 a) σ τ := by
  obtain ⟨ck, hc, ac, pc, cc, g, q, n, k, o, P, ⟨K, B, l, R⟩, -⟩ := I
  have kc := K.1
  have h1000 := kc.1.2
  have hh8 := kc.2.1.2.2
  have ha3 := kc.2.2.1.2.2
  have hp20 := kc.2.2.2.1.2
  have hc20 := kc.2.2.2.2.2
  have e := l.1.2.2.2.1.trans kc.2.2.2.2.1
  rcases n_ix a (m := cc) (by omega) with h | ⟨p, hp, rfl⟩
  · refine Or.inr ⟨1, 0, by decide, ?_, ?_⟩
    · unfold g_232 g_231
      rw [R_cl0 e h]
      rfl
    · unfold g_235
      rw [M_ofC0 kc.2.2.2.2.1 hc20 h, bnd]
  · refine Or.inl ⟨τ 156 (300 + 6 * p + 0), ?_, ?_⟩
    · unfold g_232 g_231
      rw [R_cl e (by omega) hp, bnd, Sum.elim_inl]
      rw [f_rd_n (σ := σ) (a := 119) (n := 20) (by omega) (by omega), bnd, bnd, show σ 119 p = _ from (B.2.2 p hp).1]
      rw [Sum.elim_inl]
      exact W_fin _ _
    · unfold g_235
      rw [show g_234 (nI p) (0 : Int32) τ = _ from M_ofC (w := 0) kc.2.2.2.2.1 hc20 hp (by omega), bnd]
theorem Q_27 {D : Nat} {σ τ : f_M} (a : Int32) (I : IV D σ τ) : qB (g_237 a) (g_238 a) σ τ := by
  obtain ⟨ck, hc, ac, pc, cc, g, q, n, k, o, P, ⟨K, B, l, R⟩, -⟩ := I
  have kc := K.1
  have h1000 := kc.1.2
  have hh8 := kc.2.1.2.2
  have ha3 := kc.2.2.1.2.2
  have hp20 := kc.2.2.2.1.2
  have hc20 := kc.2.2.2.2.2
  have e := l.1.2.2.2.1.trans kc.2.2.2.2.1
  rcases n_ix a (m := cc) (by omega) with h | ⟨p, hp, rfl⟩
  · refine Or.inr ⟨1, 0, by decide, ?_, ?_⟩
    · unfold g_237 g_236
      rw [R_cl0 e h]
      rfl
    · unfold g_238
      rw [M_ofC0 kc.2.2.2.2.1 hc20 h, bnd]
  · refine Or.inl ⟨τ 156 (300 + 6 * p + 1), ?_, ?_⟩
    · unfold g_237 g_236
      rw [R_cl e (by omega) hp, bnd, Sum.elim_inl]
      rw [f_rd_n (σ := σ) (a := 120) (n := 20) (by omega) (by omega), bnd, bnd, show σ 120 p = _ from (B.2.2 p hp).2]
      rw [Sum.elim_inl]
      exact W_fin _ _
    · unfold g_238
      rw [show g_234 (nI p) (1 : Int32) τ = _ from M_ofC (w := 1) kc.2.2.2.2.1 hc20 hp (by omega), bnd]
theorem Q_31 {D : Nat} {σ τ : f_M} (a : Int32) (I : IV D σ τ) : qB (g_250 a) (g_251 a) σ τ := by
  obtain ⟨ck, hc, ac, pc, cc, g, q, n, k, o, P, ⟨K, B, l, R⟩, -⟩ := I
  have kc := K.1
  have h1000 := kc.1.2
  have hh8 := kc.2.1.2.2
  have ha3 := kc.2.2.1.2.2
  have hp20 := kc.2.2.2.1.2
  have hc20 := kc.2.2.2.2.2
  have e := l.1.2.2.2.1.trans kc.2.2.2.2.1
  rcases n_ix a (m := cc) (by omega) with h | ⟨p, hp, rfl⟩
  · refine Or.inr ⟨1, 0, by decide, ?_, ?_⟩
    · unfold g_250 g_249
      rw [R_cl0 e h]
      rfl
    · unfold g_251
      rw [M_ofC0 kc.2.2.2.2.1 hc20 h, bnd]
  · refine Or.inl ⟨τ 156 (300 + 6 * p + 4), ?_, ?_⟩
    · unfold g_250 g_249
      rw [R_cl e (by omega) hp, bnd, Sum.elim_inl]
      rw [f_rd_n (σ := σ) (a := 126) (n := 20) (by omega) (by omega), bnd, bnd, show σ 126 p = _ from (l.2.2.2.1 p hp).2.2]
      rw [Sum.elim_inl]
      exact W_fin _ _
    · unfold g_251
      rw [show g_234 (nI p) (4 : Int32) τ = _ from M_ofC (w := 4) kc.2.2.2.2.1 hc20 hp (by omega), bnd]
theorem Q_33 {D : Nat} {σ τ : f_M} (a : Int32) (I : IV D σ τ) : qB (g_256 a) (g_258 a) σ τ := by
  obtain ⟨ck, hc, ac, pc, cc, g, q, n, k, o, P, ⟨K, B, l, R⟩, -⟩ := I
  have kc := K.1
  have h1000 := kc.1.2
  have hh8 := kc.2.1.2.2
  have ha3 := kc.2.2.1.2.2
  have hp20 := kc.2.2.2.1.2
  have hc20 := kc.2.2.2.2.2
  have e := R.1.2.trans kc.2.2.1.1
  rcases n_ix a (m := ac) (by omega) with h | ⟨p, hp, rfl⟩
  · refine Or.inr ⟨1, 0, by decide, ?_, ?_⟩
    · unfold g_256 g_255
      rw [R_as0 e h]
      rfl
    · unfold g_258
      rw [M_isA _ kc.2.2.1.1 (by omega), bnd, inN_no h, M_noo, bnd, if_pos rfl, bnd]
  · refine Or.inl ⟨τ 156 (95 + p), ?_, ?_⟩
    · unfold g_256 g_255
      rw [R_as e (by omega) hp, bnd, Sum.elim_inl]
      rw [f_rd_n (σ := σ) (a := 107) (n := 3) (by omega) (by omega), bnd, bnd, show σ 107 p = _ from R.2.1 p hp]
      rw [Sum.elim_inl]
      exact W_fin _ _
    · unfold g_258
      rw [M_isA _ kc.2.2.1.1 (by omega), bnd, inN_ok hp (by omega), M_yes, bnd, if_neg (show ¬ (true, f_up τ 155 6 0).1 = false from Bool.noConfusion)]
      rw [show (95 : Int32) = nI 95 from rfl, n_add, rd6 (by omega), bnd, bnd]
theorem Q_34 {D : Nat} {σ τ : f_M} (a : Int32) (I : IV D σ τ) : qB (g_260 a) (g_261 a) σ τ := by
  obtain ⟨ck, hc, ac, pc, cc, g, q, n, k, o, P, ⟨K, B, l, R⟩, -⟩ := I
  have kc := K.1
  have h1000 := kc.1.2
  have hh8 := kc.2.1.2.2
  have ha3 := kc.2.2.1.2.2
  have hp20 := kc.2.2.2.1.2
  have hc20 := kc.2.2.2.2.2
  have e := R.1.2.trans kc.2.2.1.1
  rcases n_ix a (m := ac) (by omega) with h | ⟨p, hp, rfl⟩
  · refine Or.inr ⟨1, 0, by decide, ?_, ?_⟩
    · unfold g_260 g_259
      rw [R_as0 e h]
      rfl
    · unfold g_261
      rw [M_isA _ kc.2.2.1.1 (by omega), bnd, inN_no h, M_noo, bnd, if_pos rfl, bnd]
  · refine Or.inl ⟨nI (s_busy (τ 156) p), ?_, ?_⟩
    · unfold g_260 g_259
      rw [R_as e (by omega) hp, bnd, Sum.elim_inl]
      rw [C_busy kc.2.2.2.2.1 hc20 (l.1.2.2.2.1) (fun c hc => (l.2.2.2.1 c hc).1) (fun c hc => (B.2.2 c hc).2), bnd, bnd]
      rw [Sum.elim_inl]
      exact W_fin _ _
    · unfold g_261
      rw [M_isA _ kc.2.2.1.1 (by omega), bnd, inN_ok hp (by omega), M_yes, bnd, if_neg (show ¬ (true, f_up τ 155 6 0).1 = false from Bool.noConfusion)]
      rw [M_busy (σ := f_up τ 155 6 0) (cc := cc) (by rw [up_rows (by omega)]; exact kc.2.2.2.2.1) hc20, bnd, bnd, up_rows (by omega)]
theorem Q_15 {D : Nat} {σ τ : f_M} (a : Int32) (I : IV D σ τ) : qZ (g_198 a) (g_199 a) σ τ := by
  obtain ⟨ck, hc, ac, pc, cc, g, q, n, k, o, P, ⟨K, B, l, R⟩, -⟩ := I
  have kc := K.1
  have h1000 := kc.1.2
  have hh8 := kc.2.1.2.2
  have ha3 := kc.2.2.1.2.2
  have hp20 := kc.2.2.2.1.2
  have hc20 := kc.2.2.2.2.2
  have e := l.1.2.2.1.trans kc.2.2.2.1.1
  rcases n_ix a (m := pc) (by omega) with h | ⟨p, hp, rfl⟩
  · refine Or.inr ⟨1, false, by decide, ?_, ?_⟩
    · unfold g_198 g_197
      rw [R_pol0 e h]
      rfl
    · unfold g_199
      rw [M_isP _ kc.2.2.2.1.1 (by omega), bnd, inN_no h, M_noo, bnd, if_pos rfl, bnd]
  · refine Or.inl ⟨decide (τ 156 (100 + 10 * p + 0) = nI 0), ?_, ?_⟩
    · unfold g_198 g_197
      rw [R_pol e (by omega) hp, bnd, Sum.elim_inl]
      have hk : σ 111 p = f_b (decide (τ 156 (100 + 10 * p + 0) = nI 0)) := by
        rcases (B.2.1 p hp).1 with ⟨x1, x2, -⟩ | ⟨x1, x2, -⟩
        · rw [x2, decide_eq_true rfl]; exact x1
        · rw [x2, decide_eq_false (by decide)]; exact x1
      rw [f_rd_n (σ := σ) (a := 111) (n := 20) (by omega) (by omega), bnd, hk, f_b_z, bnd, bnd]
      rw [Sum.elim_inl]
      exact W_finZ _ _
    · unfold g_199
      rw [M_isP _ kc.2.2.2.1.1 (by omega), bnd, inN_ok hp (by omega), M_yes, bnd, if_neg (show ¬ (true, f_up τ 155 6 0).1 = false from Bool.noConfusion)]
      rw [M_p, bnd, show (0 : Int32) = nI 0 from rfl, n_add, rd6 (by omega), bnd, if_nft', bnd]
theorem Q_21 {D : Nat} {σ τ : f_M} (a : Int32) (I : IV D σ τ) : qZ (g_217 a) (g_218 a) σ τ := by
  obtain ⟨ck, hc, ac, pc, cc, g, q, n, k, o, P, ⟨K, B, l, R⟩, -⟩ := I
  have kc := K.1
  have h1000 := kc.1.2
  have hh8 := kc.2.1.2.2
  have ha3 := kc.2.2.1.2.2
  have hp20 := kc.2.2.2.1.2
  have hc20 := kc.2.2.2.2.2
  have e := l.1.2.2.1.trans kc.2.2.2.1.1
  rcases n_ix a (m := pc) (by omega) with h | ⟨p, hp, rfl⟩
  · refine Or.inr ⟨1, false, by decide, ?_, ?_⟩
    · unfold g_217 g_216
      rw [R_pol0 e h]
      rfl
    · unfold g_218
      rw [M_isP _ kc.2.2.2.1.1 (by omega), bnd, inN_no h, M_noo, bnd, if_pos rfl, bnd]
  · refine Or.inl ⟨s_act (τ 156) p (nI ck), ?_, ?_⟩
    · unfold g_217 g_216
      rw [R_pol e (by omega) hp, bnd, Sum.elim_inl]
      rw [C_run (by omega) (B.2.1 p hp) (l.2.2.1 p hp) (K.2.1 p hp).2.2.2.2.2.2.2.1, bnd, bnd, l.1.1.trans kc.1.1]
      rw [Sum.elim_inl]
      exact W_finZ _ _
    · unfold g_218
      rw [M_isP _ kc.2.2.2.1.1 (by omega), bnd, inN_ok hp (by omega), M_yes, bnd, if_neg (show ¬ (true, f_up τ 155 6 0).1 = false from Bool.noConfusion)]
      rw [show f_rd (f_up τ 155 6 0) 156 2420 (0 : Int32) = some (τ 156 0) from rd6 (k := 0) (by omega), bnd, kc.1.1, M_act (σ := f_up τ 155 6 0) (by omega), bnd, up_rows (by omega)]
      cases s_act (τ 156) p (nI ck) <;> rfl
theorem Q_22 {D : Nat} {σ τ : f_M} (a : Int32) (I : IV D σ τ) : qZ (g_220 a) (g_221 a) σ τ := by
  obtain ⟨ck, hc, ac, pc, cc, g, q, n, k, o, P, ⟨K, B, l, R⟩, -⟩ := I
  have kc := K.1
  have h1000 := kc.1.2
  have hh8 := kc.2.1.2.2
  have ha3 := kc.2.2.1.2.2
  have hp20 := kc.2.2.2.1.2
  have hc20 := kc.2.2.2.2.2
  have e := l.1.2.2.1.trans kc.2.2.2.1.1
  rcases n_ix a (m := pc) (by omega) with h | ⟨p, hp, rfl⟩
  · refine Or.inr ⟨1, false, by decide, ?_, ?_⟩
    · unfold g_220 g_219
      rw [R_pol0 e h]
      rfl
    · unfold g_221
      rw [M_ofP0 kc.2.2.2.1.1 hp20 h, bnd]
      rfl
  · refine Or.inl ⟨decide (τ 156 (100 + 10 * p + 8) = nI 1), ?_, ?_⟩
    · unfold g_220 g_219
      rw [R_pol e (by omega) hp, bnd, Sum.elim_inl]
      have hk : σ 123 p = f_b (decide (τ 156 (100 + 10 * p + 8) = nI 1)) := by
        obtain ⟨b, hb, eb⟩ := (K.2.1 p hp).2.2.2.2.2.2.2.1
        rw [show σ 123 p = τ 156 (100 + 10 * p + 8) from l.2.2.1 p hp, eb]
        obtain rfl | rfl : b = 0 ∨ b = 1 := by omega
        · rfl
        · rfl
      rw [f_rd_n (σ := σ) (a := 123) (n := 20) (by omega) (by omega), bnd, hk, f_b_z, bnd, bnd]
      rw [Sum.elim_inl]
      exact W_finZ _ _
    · unfold g_221
      rw [show (8 : Int32) = nI 8 from rfl, M_ofP kc.2.2.2.1.1 hp20 hp (by omega), bnd, if_nft', bnd]
      rfl
theorem Q_28 {D : Nat} {σ τ : f_M} (a : Int32) (I : IV D σ τ) : qZ (g_240 a) (g_242 a) σ τ := by
  obtain ⟨ck, hc, ac, pc, cc, g, q, n, k, o, P, ⟨K, B, l, R⟩, -⟩ := I
  have kc := K.1
  have h1000 := kc.1.2
  have hh8 := kc.2.1.2.2
  have ha3 := kc.2.2.1.2.2
  have hp20 := kc.2.2.2.1.2
  have hc20 := kc.2.2.2.2.2
  have e := l.1.2.2.2.1.trans kc.2.2.2.2.1
  rcases n_ix a (m := cc) (by omega) with h | ⟨p, hp, rfl⟩
  · refine Or.inr ⟨1, false, by decide, ?_, ?_⟩
    · unfold g_240 g_239
      rw [R_cl0 e h]
      rfl
    · unfold g_242
      rw [M_stC0 kc.2.2.2.2.1 hc20 h, bnd]
  · refine Or.inl ⟨decide (τ 156 (300 + 6 * p + 3) = 0), ?_, ?_⟩
    · unfold g_240 g_239
      rw [R_cl e (by omega) hp, bnd, Sum.elim_inl]
      rw [f_rd_n (σ := σ) (a := 124) (n := 20) (by omega) (by omega), bnd, show σ 124 p = _ from (l.2.2.2.1 p hp).1, if_nft', bnd, bnd]
      rw [Sum.elim_inl]
      exact W_finZ _ _
    · unfold g_242
      rw [M_stC kc.2.2.2.2.1 hc20 hp, bnd]
theorem Q_29 {D : Nat} {σ τ : f_M} (a : Int32) (I : IV D σ τ) : qZ (g_244 a) (g_245 a) σ τ := by
  obtain ⟨ck, hc, ac, pc, cc, g, q, n, k, o, P, ⟨K, B, l, R⟩, -⟩ := I
  have kc := K.1
  have h1000 := kc.1.2
  have hh8 := kc.2.1.2.2
  have ha3 := kc.2.2.1.2.2
  have hp20 := kc.2.2.2.1.2
  have hc20 := kc.2.2.2.2.2
  have e := l.1.2.2.2.1.trans kc.2.2.2.2.1
  rcases n_ix a (m := cc) (by omega) with h | ⟨p, hp, rfl⟩
  · refine Or.inr ⟨1, false, by decide, ?_, ?_⟩
    · unfold g_244 g_243
      rw [R_cl0 e h]
      rfl
    · unfold g_245
      rw [M_stC0 kc.2.2.2.2.1 hc20 h, bnd]
  · refine Or.inl ⟨decide (τ 156 (300 + 6 * p + 3) = 1), ?_, ?_⟩
    · unfold g_244 g_243
      rw [R_cl e (by omega) hp, bnd, Sum.elim_inl]
      rw [f_rd_n (σ := σ) (a := 124) (n := 20) (by omega) (by omega), bnd, show σ 124 p = _ from (l.2.2.2.1 p hp).1, if_nft', bnd, bnd]
      rw [Sum.elim_inl]
      exact W_finZ _ _
    · unfold g_245
      rw [M_stC kc.2.2.2.2.1 hc20 hp, bnd]
theorem Q_30 {D : Nat} {σ τ : f_M} (a : Int32) (I : IV D σ τ) : qZ (g_247 a) (g_248 a) σ τ := by
  obtain ⟨ck, hc, ac, pc, cc, g, q, n, k, o, P, ⟨K, B, l, R⟩, -⟩ := I
  have kc := K.1
  have h1000 := kc.1.2
  have hh8 := kc.2.1.2.2
  have ha3 := kc.2.2.1.2.2
  have hp20 := kc.2.2.2.1.2
  have hc20 := kc.2.2.2.2.2
  have e := l.1.2.2.2.1.trans kc.2.2.2.2.1
  rcases n_ix a (m := cc) (by omega) with h | ⟨p, hp, rfl⟩
  · refine Or.inr ⟨1, false, by decide, ?_, ?_⟩
    · unfold g_247 g_246
      rw [R_cl0 e h]
      rfl
    · unfold g_248
      rw [M_stC0 kc.2.2.2.2.1 hc20 h, bnd]
  · refine Or.inl ⟨decide (τ 156 (300 + 6 * p + 3) = 3), ?_, ?_⟩
    · unfold g_247 g_246
      rw [R_cl e (by omega) hp, bnd, Sum.elim_inl]
      rw [f_rd_n (σ := σ) (a := 124) (n := 20) (by omega) (by omega), bnd, show σ 124 p = _ from (l.2.2.2.1 p hp).1, if_nft', bnd, bnd]
      rw [Sum.elim_inl]
      exact W_finZ _ _
    · unfold g_248
      rw [M_stC kc.2.2.2.2.1 hc20 hp, bnd]
