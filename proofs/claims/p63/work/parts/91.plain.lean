/-! Queries without an exception. -/
theorem M_num6 {τ : f_M} {w : Nat} (hw : w < 2420) : g_165 (nI w) τ = some (τ 156 w, f_up τ 155 6 0) := by
  unfold g_165
  rw [rd6 hw, bnd]
theorem A_4 {D : Nat} {σ τ : f_M} (I : IV D σ τ) : qA (g_160 σ) (g_161 τ) τ := by
  obtain ⟨ck, hc, ac, pc, cc, g, q, n, k, o, P, S, H, M, V, T, E, -⟩ := I
  refine ⟨σ 3 6, rfl, ?_⟩
  unfold g_161
  rw [up_ix (by omega), E.1]
theorem A_5 {D : Nat} {σ τ : f_M} (I : IV D σ τ) : qA (g_162 σ) (g_163 τ) τ := by
  obtain ⟨ck, hc, ac, pc, cc, g, q, n, k, o, P, S, H, M, V, T, E, -⟩ := I
  refine ⟨σ 3 7, rfl, ?_⟩
  unfold g_163
  rw [up_ix (by omega), E.2]
theorem A_6 {D : Nat} {σ τ : f_M} (I : IV D σ τ) : qA (g_164 σ) (g_166 τ) τ := by
  obtain ⟨ck, hc, ac, pc, cc, g, q, n, k, o, P, ⟨K, B, l, R⟩, -⟩ := I
  refine ⟨σ 121 0, rfl, ?_⟩
  unfold g_166
  rw [show g_165 (0 : Int32) τ = _ from M_num6 (w := 0) (by omega), bnd]
  exact congrArg some (congrArg (fun z => (z, f_up τ 155 6 0)) (l.1.1).symm)
theorem A_7 {D : Nat} {σ τ : f_M} (I : IV D σ τ) : qA (g_167 σ) (g_168 τ) τ := by
  obtain ⟨ck, hc, ac, pc, cc, g, q, n, k, o, P, ⟨K, B, l, R⟩, -⟩ := I
  refine ⟨σ 121 1, rfl, ?_⟩
  unfold g_168
  rw [show g_165 (1 : Int32) τ = _ from M_num6 (w := 1) (by omega), bnd]
  exact congrArg some (congrArg (fun z => (z, f_up τ 155 6 0)) (l.1.2.1).symm)
theorem A_8 {D : Nat} {σ τ : f_M} (I : IV D σ τ) : qA (g_169 σ) (g_170 τ) τ := by
  obtain ⟨ck, hc, ac, pc, cc, g, q, n, k, o, P, ⟨K, B, l, R⟩, -⟩ := I
  refine ⟨σ 103 0, rfl, ?_⟩
  unfold g_170
  rw [show g_165 (2 : Int32) τ = _ from M_num6 (w := 2) (by omega), bnd]
  exact congrArg some (congrArg (fun z => (z, f_up τ 155 6 0)) (R.1.1).symm)
theorem A_14 {D : Nat} {σ τ : f_M} (I : IV D σ τ) : qA (g_194 σ) (g_195 τ) τ := by
  obtain ⟨ck, hc, ac, pc, cc, g, q, n, k, o, P, ⟨K, B, l, R⟩, -⟩ := I
  refine ⟨σ 121 3, rfl, ?_⟩
  unfold g_195
  rw [show g_165 (4 : Int32) τ = _ from M_num6 (w := 4) (by omega), bnd]
  exact congrArg some (congrArg (fun z => (z, f_up τ 155 6 0)) (l.1.2.2.1).symm)
theorem A_25 {D : Nat} {σ τ : f_M} (I : IV D σ τ) : qA (g_228 σ) (g_229 τ) τ := by
  obtain ⟨ck, hc, ac, pc, cc, g, q, n, k, o, P, ⟨K, B, l, R⟩, -⟩ := I
  refine ⟨σ 121 5, rfl, ?_⟩
  unfold g_229
  rw [show g_165 (5 : Int32) τ = _ from M_num6 (w := 5) (by omega), bnd]
  exact congrArg some (congrArg (fun z => (z, f_up τ 155 6 0)) (l.1.2.2.2.1).symm)
theorem A_32 {D : Nat} {σ τ : f_M} (I : IV D σ τ) : qA (g_252 σ) (g_253 τ) τ := by
  obtain ⟨ck, hc, ac, pc, cc, g, q, n, k, o, P, ⟨K, B, l, R⟩, -⟩ := I
  refine ⟨σ 103 4, rfl, ?_⟩
  unfold g_253
  rw [show g_165 (3 : Int32) τ = _ from M_num6 (w := 3) (by omega), bnd]
  exact congrArg some (congrArg (fun z => (z, f_up τ 155 6 0)) (R.1.2).symm)
theorem A_38 {D : Nat} {σ τ : f_M} (I : IV D σ τ) : qA (g_269 σ) (g_270 τ) τ := by
  obtain ⟨ck, hc, ac, pc, cc, g, q, n, k, o, P, ⟨K, B, l, R⟩, -⟩ := I
  refine ⟨σ 121 12, rfl, ?_⟩
  unfold g_270
  rw [show g_165 (6 : Int32) τ = _ from M_num6 (w := 6) (by omega), bnd]
  exact congrArg some (congrArg (fun z => (z, f_up τ 155 6 0)) (l.1.2.2.2.2.2.2.1).symm)
theorem A_39 {D : Nat} {σ τ : f_M} (I : IV D σ τ) : qA (g_271 σ) (g_272 τ) τ := by
  obtain ⟨ck, hc, ac, pc, cc, g, q, n, k, o, P, ⟨K, B, l, R⟩, -⟩ := I
  refine ⟨σ 121 13, rfl, ?_⟩
  unfold g_272
  rw [show g_165 (7 : Int32) τ = _ from M_num6 (w := 7) (by omega), bnd]
  exact congrArg some (congrArg (fun z => (z, f_up τ 155 6 0)) (l.1.2.2.2.2.2.2.2.1).symm)
theorem A_40 {D : Nat} {σ τ : f_M} (I : IV D σ τ) : qA (g_273 σ) (g_274 τ) τ := by
  obtain ⟨ck, hc, ac, pc, cc, g, q, n, k, o, P, ⟨K, B, l, R⟩, -⟩ := I
  refine ⟨σ 121 14, rfl, ?_⟩
  unfold g_274
  rw [show g_165 (8 : Int32) τ = _ from M_num6 (w := 8) (by omega), bnd]
  exact congrArg some (congrArg (fun z => (z, f_up τ 155 6 0)) (l.1.2.2.2.2.2.2.2.2).symm)
theorem A_35 {D : Nat} {σ τ : f_M} (I : IV D σ τ) : qA (g_262 σ) (g_263 τ) τ := by
  obtain ⟨ck, hc, ac, pc, cc, g, q, n, k, o, P, ⟨K, B, l, R⟩, -⟩ := I
  have kc := K.1
  refine ⟨nI (s_best (τ 156) (ac - 1)), ?_, ?_⟩
  · unfold g_262
    rw [C_best kc.2.2.2.2.1 kc.2.2.2.2.2 (l.1.2.2.2.1) (fun c hc => (l.2.2.2.1 c hc).1) (fun c hc => (B.2.2 c hc).2) (R.1.2.trans kc.2.2.1.1) kc.2.2.1.2.1 kc.2.2.1.2.2, bnd]
  · unfold g_263
    rw [M_best (σ := f_up τ 155 6 0) (cc := cc) (ac := ac) (by rw [up_rows (by omega)]; exact kc.2.2.2.2.1) kc.2.2.2.2.2 (by rw [up_rows (by omega)]; exact kc.2.2.1.1) kc.2.2.1.2.1 kc.2.2.1.2.2, bnd, up_rows (by omega)]
theorem qn_le {s : Nat → Int32} {D ck hc ac pc cc q n : Nat} {g : Nat → Nat} (K : kAll s D ck hc ac pc cc g q n) : q ≤ n ∧ n ≤ 20 := by
  have h := K.2.2.2.1
  have h2 := cntN_le (isG s) cc
  have := K.1.2.2.2.2.2
  exact ⟨h.1, by rw [h.2.1]; omega⟩
theorem A_36 {D : Nat} {σ τ : f_M} (I : IV D σ τ) : qA (g_264 σ) (g_265 τ) τ := by
  obtain ⟨ck, hc, ac, pc, cc, g, q, n, k, o, P, ⟨K, B, l, R⟩, -⟩ := I
  have kc := K.1
  obtain ⟨hqn, hn⟩ := qn_le K
  have e10 : σ 121 10 = nI n := l.1.2.2.2.2.1
  have e11 : σ 121 11 = nI q := l.1.2.2.2.2.2.1
  refine ⟨if q < n then nI (g q) else -1, ?_, ?_⟩
  · unfold g_264
    rw [e10, e11]
    by_cases h : q < n
    · rw [if_neg (by rw [n_le (by omega) (by omega)]; omega), f_rd_n (by omega) (by omega), bnd, bnd, if_pos h]
      exact congrArg some (l.2.2.2.2 q h)
    · rw [if_pos (by rw [n_le (by omega) (by omega)]; omega), bnd, if_neg h]
  · unfold g_265
    rw [M_un (σ := f_up τ 155 6 0) (cc := cc) (by rw [up_rows (by omega)]; exact kc.2.2.2.2.1) kc.2.2.2.2.2, bnd, up_rows (by omega), un_next kc.2.2.2.2.2 K.2.2.1 K.2.2.2.1]
theorem A_42 {D : Nat} {σ τ : f_M} (I : IV D σ τ) : qA (g_278 σ) (g_279 τ) τ := by
  obtain ⟨ck, hc, ac, pc, cc, g, q, n, k, o, P, ⟨K, B, l, R⟩, -⟩ := I
  have kc := K.1
  have hp20 := kc.2.2.2.1.2
  have e3 : σ 121 3 = nI pc := l.1.2.2.1.trans kc.2.2.2.1.1
  refine ⟨nI (cntN (fun p => s_lap (τ 156) p) pc), ?_, ?_⟩
  · unfold g_278
    rw [e3, lp_go (fun j => (nI (cntN (fun p => s_lap (τ 156) p) j), nI j)) pc (r := nI (cntN (fun p => s_lap (τ 156) p) pc)) ?_ (f_F_lt (by omega)) ?_ ?_, bnd]
    · rfl
    · intro j hj
      dsimp only
      have e : σ 123 j = τ 156 (100 + 10 * j + 8) := l.2.2.1 j hj
      obtain ⟨b, hb, eb⟩ := (K.2.1 j hj).2.2.2.2.2.2.2.1
      rw [if_neg (by rw [n_le (by omega) (by omega)]; omega), f_rd_n (by omega) (by omega), bnd, e, eb, cntN_succ]
      unfold s_lap
      rw [eb]
      obtain rfl | rfl : b = 0 ∨ b = 1 := by omega
      · rw [if_pos (by decide), bnd, decide_eq_false (by decide), if_neg (by decide), show (1 : Int32) = nI 1 from rfl, n_add]; rfl
      · rw [if_neg (by decide), bnd, decide_eq_true (by decide), if_pos rfl, show (1 : Int32) = nI 1 from rfl, n_add, n_add]
    · dsimp only
      rw [if_pos (by rw [n_le (by omega) (by omega)]; omega)]
  · unfold g_279
    have h4 : ∀ v, f_rd (f_up τ 155 6 v) 156 2420 (4 : Int32) = some (nI pc) := fun v => by
      rw [show (4 : Int32) = nI 4 from rfl, rd6 (by omega), kc.2.2.2.1.1]
    rw [lp_go (fun j => (nI (cntN (fun p => s_lap (τ 156) p) j), nI j)) pc (r := nI (cntN (fun p => s_lap (τ 156) p) pc)) ?_ (f_F_lt (by omega)) ?_ ?_, bnd]
    · rfl
    · intro j hj
      dsimp only
      rw [h4, bnd, if_neg (by rw [n_le (by omega) (by omega)]; omega), M_lap (by omega), bnd, up_rows (by omega), M_one, bnd, cntN_succ, f_b_n, n_add, show (1 : Int32) = nI 1 from rfl, n_add]
    · dsimp only
      rw [h4, bnd, if_pos (by rw [n_le (by omega) (by omega)]; omega)]
/-! sums over claims in two orders -/
theorem sumN_upd {f : Nat → Nat} {n h d : Nat} (hh : h < n) : sumN (fun i => if i = h then f i + d else f i) n = sumN f n + d := by
  induction n with
  | zero => omega
  | succ n ih =>
    rw [sumN_succ, sumN_succ]
    by_cases e : h = n
    · subst e
      rw [sumN_congr (g := f) (fun i hi => by rw [if_neg (by omega)]), if_pos rfl]
      omega
    · rw [ih (by omega), if_neg (fun e' => e e'.symm)]
      omega
theorem sumN_zero {f : Nat → Nat} {n : Nat} (h : ∀ i, i < n → f i = 0) : sumN f n = 0 := by
  induction n with
  | zero => rfl
  | succ n ih => rw [sumN_succ, ih (fun i hi => h i (by omega)), h n (by omega)]
/-- the places that g reaches, summed in their own order -/
theorem sum_inj {F g : Nat → Nat} {cc : Nat} : ∀ n, (∀ i, i < n → g i < cc) → (∀ i j, i < n → j < n → g i = g j → i = j) → sumN (fun i => F (g i)) n = sumN (fun c => if anyN (fun i => decide (g i = c)) n = true then F c else 0) cc := by
  intro n
  induction n with
  | zero =>
    intro _ _
    rw [sumN_zero (n := cc) (fun c _ => if_neg (by unfold anyN; simp [cntN]))]
    rfl
  | succ n ih =>
    intro h1 h2
    rw [sumN_succ, ih (fun i hi => h1 i (by omega)) (fun i j hi hj => h2 i j (by omega) (by omega)), ← sumN_upd (h := g n) (d := F (g n)) (h1 n (by omega))]
    refine sumN_congr fun c hc => ?_
    by_cases e : c = g n
    · subst e
      have a1 : ¬ anyN (fun i => decide (g i = g n)) n = true := fun h => by
        obtain ⟨i, hi, hg⟩ := anyN_iff.mp h
        have := h2 i n (by omega) (by omega) (of_decide_eq_true hg)
        omega
      have a2 : anyN (fun i => decide (g i = g n)) (n + 1) = true := anyN_iff.mpr ⟨n, by omega, decide_eq_true rfl⟩
      rw [if_pos rfl, if_neg a1, if_pos a2]; omega
    · rw [if_neg e]
      have : (anyN (fun i => decide (g i = c)) (n + 1) = true) ↔ (anyN (fun i => decide (g i = c)) n = true) := by
        rw [anyN_iff, anyN_iff]
        constructor
        · rintro ⟨i, hi, hg⟩
          have hg' := of_decide_eq_true hg
          refine ⟨i, ?_, hg⟩
          have : i ≠ n := fun e' => e (by rw [← hg', e'])
          omega
        · rintro ⟨i, hi, hg⟩
          exact ⟨i, by omega, hg⟩
      by_cases h9 : anyN (fun i => decide (g i = c)) n = true
      · rw [if_pos h9, if_pos (this.mpr h9)]
      · rw [if_neg h9, if_neg (fun h => h9 (this.mp h))]
/-- the paid ones, summed over claims -/
theorem sum_paid {s : Nat → Int32} {cc q n : Nat} {g G : Nat → Nat} (k : kG s cc g q n) : sumN (fun i => G (g i)) q = sumN (fun c => if isQ s c = true then G c else 0) cc := by
  obtain ⟨h1, h2, h3, h4, h5, h6, h7, h8⟩ := k
  rw [sum_inj q (fun i hi => h4 i (by omega)) (fun i j hi hj => h5 i j (by omega) (by omega))]
  refine sumN_congr fun c hc => ?_
  have : (anyN (fun i => decide (g i = c)) q = true) ↔ isQ s c = true := by
    rw [anyN_iff]
    constructor
    · rintro ⟨i, hi, hg⟩
      have e := of_decide_eq_true hg
      unfold isQ
      rw [← e, h6 i (by omega), if_pos hi]; decide
    · intro hq
      have hG : isG s c = true := by unfold isG; unfold isQ at hq; rw [hq]; simp
      obtain ⟨i, hi, e⟩ := h7 c hc hG
      refine ⟨i, ?_, decide_eq_true e⟩
      refine Decidable.byContradiction fun hlt => ?_
      have h9 := h6 i hi
      rw [if_neg hlt, e] at h9
      unfold isQ at hq
      rw [h9] at hq
      exact absurd hq (by decide)
  by_cases h9 : isQ s c = true
  · rw [if_pos h9, if_pos (this.mpr h9)]
  · rw [if_neg h9, if_neg (fun h => h9 (this.mp h))]
theorem sum_all {s : Nat → Int32} {cc q n : Nat} {g G : Nat → Nat} (k : kG s cc g q n) : sumN (fun i => G (g i)) n = sumN (fun c => if isG s c = true then G c else 0) cc := by
  obtain ⟨h1, h2, h3, h4, h5, h6, h7, h8⟩ := k
  rw [sum_inj n h4 h5]
  refine sumN_congr fun c hc => ?_
  have : (anyN (fun i => decide (g i = c)) n = true) ↔ isG s c = true := by
    rw [anyN_iff]
    constructor
    · rintro ⟨i, hi, hg⟩
      have e := of_decide_eq_true hg
      unfold isG
      rw [← e, h6 i hi]
      by_cases h : i < q
      · rw [if_pos h]; decide
      · rw [if_neg h]; decide
    · intro hG
      obtain ⟨i, hi, e⟩ := h7 c hc hG
      exact ⟨i, hi, decide_eq_true e⟩
  by_cases h9 : isG s c = true
  · rw [if_pos h9, if_pos (this.mpr h9)]
  · rw [if_neg h9, if_neg (fun h => h9 (this.mp h))]
