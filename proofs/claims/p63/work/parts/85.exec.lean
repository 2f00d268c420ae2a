/-! A statement executed in both. -/
def hrC (a1 : Nat) (s3 : Int32 × f_M) : Option ((Int32 × f_M) ⊕ f_M) :=
    (f_rd s3.2 a1 7 (1 : Int32)).bind fun v4 =>
    if v4 ≤ s3.1 then (
     some (.inr s3.2)
    ) else (
     (f_rd s3.2 a1 7 (2 : Int32)).bind fun v5 =>
     (f_rd s3.2 a1 7 (3 : Int32)).bind fun v6 =>
     (g_94 v5 v6 s3.2).bind fun t7 =>
     some (.inl ((s3.1 + (1 : Int32)), t7.2))
    )
def hrM (b : Int32) (s3 : Int32 × f_M) : Option ((Int32 × f_M) ⊕ f_M) :=
    (f_rd s3.2 162 210 (b + (1 : Int32))).bind fun v4 =>
    if v4 ≤ s3.1 then (
     some (.inr s3.2)
    ) else (
     (f_rd s3.2 162 210 (b + (2 : Int32))).bind fun v5 =>
     (f_rd s3.2 162 210 (b + (3 : Int32))).bind fun v6 =>
     (g_140 v5 v6 s3.2).bind fun t7 =>
     some (.inl ((s3.1 + (1 : Int32)), t7.2))
    )
theorem P_hours {D hc ac pc cc k w r i : Nat} (hD : D ≤ 1000000000) (hw : w < 151) (hr : r < 51) (hi : i < 30) (hk : k ≤ 48) : ∀ (m j F1 F2 ck q n : Nat) (g : Nat → Nat) (σ τ : f_M), m + j = k → sAll σ τ D ck hc ac pc cc g q n → ck + m ≤ 1000 → m < F1 → m < F2 →
    (σ (12 + i) 1 = nI k ∧ σ (12 + i) 2 = nI w ∧ σ (12 + i) 3 = nI r) → (τ 162 (7 * i + 1) = nI k ∧ τ 162 (7 * i + 2) = nI w ∧ τ 162 (7 * i + 3) = nI r) →
    ∃ σ' τ', f_lp (hrC (12 + i)) F1 (nI j, σ) = some σ' ∧ f_lp (hrM (nI (7 * i))) F2 (nI j, τ) = some τ' ∧ (∃ g' q' n', sAll σ' τ' D (ck + m) hc ac pc cc g' q' n') ∧ opF σ σ' τ τ' ck pc cc := by
  intro m
  induction m with
  | zero =>
    intro j F1 F2 ck q n g σ τ e S hck hF1 hF2 hc hm
    obtain ⟨G1, rfl⟩ : ∃ G, F1 = G + 1 := ⟨F1 - 1, by omega⟩
    obtain ⟨G2, rfl⟩ : ∃ G, F2 = G + 1 := ⟨F2 - 1, by omega⟩
    have e1 : hrC (12 + i) (nI j, σ) = some (.inr σ) := by
      unfold hrC
      dsimp only
      rw [show (1 : Int32) = nI 1 from rfl, f_rd_n (by omega) (by omega), bnd, hc.1, if_pos (by rw [n_le (by omega) (by omega)]; omega)]
    have e2 : hrM (nI (7 * i)) (nI j, τ) = some (.inr τ) := by
      unfold hrM
      dsimp only
      rw [show (1 : Int32) = nI 1 from rfl, n_add, f_rd_n (by omega) (by omega), bnd, hm.1, if_pos (by rw [n_le (by omega) (by omega)]; omega)]
    refine ⟨σ, τ, by rw [lp_succ, e1, bnd]; rfl, by rw [lp_succ, e2, bnd]; rfl, ⟨g, q, n, S⟩, opF.refl _ _ _ _ _⟩
  | succ m ih =>
    intro j F1 F2 ck q n g σ τ e S hck hF1 hF2 hc hm
    obtain ⟨G1, rfl⟩ : ∃ G, F1 = G + 1 := ⟨F1 - 1, by omega⟩
    obtain ⟨G2, rfl⟩ : ∃ G, F2 = G + 1 := ⟨F2 - 1, by omega⟩
    obtain ⟨v, σ1, τ1, c1, m1, ⟨g1, q1, n1, S1⟩, f1⟩ := P_hour (w := nI w) (r := nI r) hD (by omega) ⟨w, hw, rfl⟩ ⟨r, hr, rfl⟩ S
    have e1 : hrC (12 + i) (nI j, σ) = some (.inl (nI (j + 1), σ1)) := by
      unfold hrC
      dsimp only
      rw [show (1 : Int32) = nI 1 from rfl, f_rd_n (by omega) (by omega), bnd, hc.1, if_neg (by rw [n_le (by omega) (by omega)]; omega), show (2 : Int32) = nI 2 from rfl, f_rd_n (by omega) (by omega), bnd, show (3 : Int32) = nI 3 from rfl, f_rd_n (by omega) (by omega), bnd, hc.2.1, hc.2.2, c1, bnd, n_add]
    have e2 : hrM (nI (7 * i)) (nI j, τ) = some (.inl (nI (j + 1), τ1)) := by
      unfold hrM
      dsimp only
      rw [show (1 : Int32) = nI 1 from rfl, n_add, f_rd_n (by omega) (by omega), bnd, hm.1, if_neg (by rw [n_le (by omega) (by omega)]; omega), show (2 : Int32) = nI 2 from rfl, n_add, f_rd_n (by omega) (by omega), bnd, show (3 : Int32) = nI 3 from rfl, n_add, f_rd_n (by omega) (by omega), bnd, hm.2.1, hm.2.2, m1, bnd, n_add]
    obtain ⟨σ', τ', h1, h2, ⟨g', q', n', h3⟩, h4⟩ := ih (j + 1) G1 G2 (ck + 1) q1 n1 g1 σ1 τ1 (by omega) S1 (by omega) (by omega) (by omega) (by rw [f1.1 (12 + i) (by omega)]; exact hc) (by rw [f1.2.2.2.2 162 (by omega)]; exact hm)
    refine ⟨σ', τ', ?_, ?_, ⟨g', q', n', ?_⟩, f1.trans h4 (by omega) (by omega) (by omega)⟩
    · rw [lp_succ, e1, bnd]; exact h1
    · rw [lp_succ, e2, bnd]; exact h2
    · rw [show ck + (m + 1) = ck + 1 + m from by omega]; exact h3
theorem g_95_eq (a1 : Nat) (σ : f_M) : g_95 a1 σ = (f_rd σ a1 7 (1 : Int32)).bind fun v1 =>
  (g_74 v1 σ).bind fun t2 =>
  if t2 = true then (
   (f_lp (hrC a1) f_F ((0 : Int32), σ)).bind fun (x3 : f_M) =>
   some (true, x3)
  ) else (
   some (false, σ)
  ) := by
  unfold g_95; rfl
theorem g_141_eq (a1 : Int32) (σ : f_M) : g_141 a1 σ = (f_rd σ 156 2420 (0 : Int32)).bind fun v1 =>
  (f_rd σ 162 210 (a1 + (1 : Int32))).bind fun v2 =>
  if (v1 + v2) ≤ (1000 : Int32) then (
   (f_lp (hrM a1) f_F ((0 : Int32), σ)).bind fun (x3 : f_M) =>
   some (true, x3)
  ) else (
   some (false, σ)
  ) := by
  unfold g_141; rfl
/-- is x a number below c? -/
def inN (x : Int32) (c : Nat) : Bool := !decide (x < 0) && decide (x < nI c)
theorem inN_iff {x : Int32} {c : Nat} (hc : c < 2147483648) : inN x c = true ↔ ∃ p, p < c ∧ x = nI p := by
  unfold inN
  rcases n_cases x with h | ⟨p, hp, rfl⟩
  · constructor
    · intro h'; simp [h] at h'
    · rintro ⟨p, hp, rfl⟩; exact absurd h (n_neg (by omega))
  · rw [decide_eq_false (n_neg hp), Bool.not_false, Bool.true_and, decide_eq_true_iff, n_lt hp hc]
    constructor
    · intro h; exact ⟨p, h, rfl⟩
    · rintro ⟨q, hq, e⟩
      have := n_inj hp (by omega) e
      omega
theorem M_in (σ : f_M) (x : Int32) {c : Nat} (hc : c < 2147483648) : g_46 x.toInt64 (0 : Int64) (nI c - 1).toInt64 σ = some (inN x c) := by
  rw [show (0 : Int64) = (0 : Int32).toInt64 from rfl, M_within]
  unfold inN
  rcases n_cases x with h | ⟨p, hp, rfl⟩
  · rw [decide_eq_true h]; rfl
  · rw [decide_eq_false (n_neg hp)]
    by_cases h0 : c = 0
    · subst h0
      rw [show nI 0 - 1 = (-1 : Int32) from rfl, decide_eq_true (p := (-1 : Int32) < nI p), decide_eq_false (p := nI p < nI 0)]
      · rfl
      · rw [n_lt hp (by omega)]; omega
      · rw [Int32.lt_iff_toInt_lt, nI_toInt hp]
        have : (-1 : Int32).toInt = -1 := by decide
        omega
    · rw [show (1 : Int32) = nI 1 from rfl, n_sub (by omega)]
      by_cases h9 : p < c
      · rw [decide_eq_true ((n_lt hp hc).mpr h9), decide_eq_false (by rw [n_lt (by omega) hp]; omega)]; rfl
      · rw [decide_eq_false (p := nI p < nI c) (by rw [n_lt hp hc]; exact h9), decide_eq_true (p := nI (c - 1) < nI p) ((n_lt (by omega) hp).mpr (by omega))]; rfl
theorem M_isP {τ : f_M} {pc : Nat} (x : Int32) (h4 : τ 156 4 = nI pc) (hpc : pc ≤ 20) : g_142 x τ = some (inN x pc) := by
  unfold g_142
  rw [show (4 : Int32) = nI 4 from rfl, rdS (by omega), bnd, h4, M_in τ x (by omega), bnd]
/-- what executing comes to -/
def exR (σ τ : f_M) (D hc ac ck pc cc : Nat) (C M : Option (Bool × f_M)) : Prop := ∃ b σ' τ', C = some (b, σ') ∧ M = some (b, τ') ∧ (∃ ck' pc' cc' g' q' n', sAll σ' τ' (D + 1000) ck' hc ac pc' cc' g' q' n' ∧ ck ≤ ck' ∧ pc ≤ pc' ∧ cc ≤ cc') ∧ opF σ σ' τ τ' ck pc cc
theorem sAll_mono {σ τ : f_M} {D D' ck hc ac pc cc q n : Nat} {g : Nat → Nat} (h : D ≤ D') (S : sAll σ τ D ck hc ac pc cc g q n) : sAll σ τ D' ck hc ac pc cc g q n := ⟨kAll_mono h S.1, S.2⟩
theorem exR_same {σ τ : f_M} {D hc ac ck pc cc q n : Nat} {g : Nat → Nat} {C M : Option (Bool × f_M)} {b : Bool} (S : sAll σ τ D ck hc ac pc cc g q n) (h1 : C = some (b, σ)) (h2 : M = some (b, τ)) : exR σ τ D hc ac ck pc cc C M :=
  ⟨b, σ, τ, h1, h2, ⟨ck, pc, cc, g, q, n, sAll_mono (by omega) S, by omega, by omega, by omega⟩, opF.refl _ _ _ _ _⟩
theorem X_hours {σ τ : f_M} {D ck hc ac pc cc q n i : Nat} {g : Nat → Nat} (hD : D ≤ 1000000000) (hi : i < 30) (S : sAll σ τ D ck hc ac pc cc g q n) (sn : stN hc 0 (σ (12 + i)) (fun m => τ 162 (7 * i + m))) : exR σ τ D hc ac ck pc cc (g_95 (12 + i) σ) (g_141 (nI (7 * i)) τ) := by
  obtain ⟨k, k1, k2, k3, k4⟩ := sn.1 1 (by decide)
  obtain ⟨w, w1, w2, w3, w4⟩ := sn.1 2 (by decide)
  obtain ⟨r, r1, r2, r3, r4⟩ := sn.1 3 (by decide)
  replace k1 : 1 ≤ k := k1
  replace k2 : k ≤ 48 := k2
  replace w2 : w ≤ 150 := w2
  replace r2 : r ≤ 50 := r2
  replace k4 : τ 162 (7 * i + 1) = nI k := k4
  replace w4 : τ 162 (7 * i + 2) = nI w := w4
  replace r4 : τ 162 (7 * i + 3) = nI r := r4
  have hck := S.1.1.1
  have e0 : σ 121 0 = nI ck := S.2.2.1.1.1.trans hck.1
  rw [g_95_eq, g_141_eq]
  unfold g_74
  rw [show (1 : Int32) = nI 1 from rfl, f_rd_n (by omega) (by omega), bnd, k3, e0, n_add, show (0 : Int32) = nI 0 from rfl, rdS (by omega), bnd, n_add, f_rd_n (by omega) (by omega), bnd, hck.1, k4, n_add, show (1000 : Int32) = nI 1000 from rfl]
  by_cases h : ck + k ≤ 1000
  · obtain ⟨σ', τ', h1, h2, ⟨g', q', n', h3⟩, h4⟩ := P_hours hD (by omega : w < 151) (by omega : r < 51) hi k2 k 0 f_F f_F ck q n g σ τ (by omega) S h (f_F_lt (by omega)) (f_F_lt (by omega)) ⟨k3, w3, r3⟩ ⟨k4, w4, r4⟩
    refine ⟨true, σ', τ', ?_, ?_, ⟨ck + k, pc, cc, g', q', n', sAll_mono (by omega) h3, by omega, by omega, by omega⟩, h4⟩
    · rw [if_neg (by rw [n_lt (by omega) (by omega)]; omega), bnd, bnd, if_pos rfl, h1, bnd]
    · rw [if_pos (by rw [n_le (by omega) (by omega)]; omega), h2, bnd]
  · refine exR_same S (b := false) ?_ ?_
    · rw [if_pos (by rw [n_lt (by omega) (by omega)]; omega), bnd, bnd, if_neg (by decide)]
    · rw [if_neg (by rw [n_le (by omega) (by omega)]; omega)]
theorem X_kite {σ τ : f_M} {D ck hc ac pc cc q n i : Nat} {g : Nat → Nat} (hD : D ≤ 1000000000) (hi : i < 30) (S : sAll σ τ D ck hc ac pc cc g q n) (sn : stN hc 1 (σ (12 + i)) (fun m => τ 162 (7 * i + m))) : exR σ τ D hc ac ck pc cc (g_100 (12 + i) σ) (g_157 (nI (7 * i)) τ) := by
  obtain ⟨z, z1, z2, z3, z4⟩ := sn.1 0 (by decide)
  obtain ⟨h, h1, h2, h3, h4⟩ := sn.1 1 (by decide)
  obtain ⟨f, f1, f2, f3, f4⟩ := sn.1 2 (by decide)
  obtain ⟨d, d1, d2, d3, d4⟩ := sn.1 3 (by decide)
  obtain ⟨v, v1, v2, v3, v4⟩ := sn.1 4 (by decide)
  obtain ⟨a, a1, a2, a3, a4⟩ := sn.1 5 (by decide)
  obtain ⟨b, b1, b2, b3, b4⟩ := sn.1 6 (by decide)
  have hc1 := S.1.1.2.1.2
  have z5 : z = 1 := Nat.le_antisymm z2 z1
  subst z5
  replace h2 : h ≤ hc - 1 := h2
  replace f2 : f ≤ 1000 := f2
  replace d1 : 1 ≤ d := d1
  replace d2 : d ≤ 24 := d2
  replace v1 : 1 ≤ v := v1
  replace v2 : v ≤ 500 := v2
  replace z4 : τ 162 (7 * i) = nI 1 := z4
  replace h4 : τ 162 (7 * i + 1) = nI h := h4
  replace f4 : τ 162 (7 * i + 2) = nI f := f4
  replace d4 : τ 162 (7 * i + 3) = nI d := d4
  replace v4 : τ 162 (7 * i + 4) = nI v := v4
  replace a4 : τ 162 (7 * i + 5) = nI a := a4
  replace b4 : τ 162 (7 * i + 6) = nI b := b4
  replace a2 : a ≤ 150 := a2
  replace b2 : b ≤ 150 := b2
  have kl : a ≤ b := by
    have h9 := sn.2 rfl
    rw [a3, b3, nat_n (by omega), nat_n (by omega)] at h9
    exact h9
  have hck := S.1.1.1
  have hpc := S.1.1.2.2.2.1
  have e0 : σ 121 0 = nI ck := S.2.2.1.1.1.trans hck.1
  have cC := C_can2 (pr := nI v * nI d / nI 40 + nI 1) S.2.2.1 hpc.1 hpc.2 (by omega : h < hc) hc1.2
  have cM := M_can2 (h := h) (pr := nI v * nI d / nI 40 + nI 1) hpc.1 hpc.2 (by omega)
  have nf0 : ¬ nI pc < nI 0 := n_neg (by omega)
  have ec : g_100 (12 + i) σ = if nI f < nI ck then some (false, σ) else if (decide (pc < 20) && !decide (τ 156 (20 + 9 * h + 7) < nI v * nI d / nI 40 + nI 1)) = true then (g_99 (nI h) (nI f) (nI d) (nI v) (nI a) (nI b) σ).bind (fun t13 => some (true, t13.2)) else some (false, σ) := by
    unfold g_100
    simp (disch := omega) only [lits, f_rd_n, bnd, f3, e0, h3, d3, v3, a3, b3, C_pk, cC]
  have em : g_157 (nI (7 * i)) τ = if nI f < nI ck then some (false, τ) else if (decide (pc < 20) && !decide (τ 156 (20 + 9 * h + 7) < nI v * nI d / nI 40 + nI 1)) = true then ((g_154 (nI h) (nI f) (nI d) (nI v) (nI a) (nI b) τ).bind fun t20 => some t20).bind (fun t15 => (g_156 t15).bind fun t22 => (if t22.1 < nI 0 then some false else some true).bind fun (t23 : Bool) => some (t23, t22.2)) else some (false, τ) := by
    unfold g_157
    simp (disch := omega) only [lits, n_add, f_rd_n, bnd, z4, h4, f4, d4, v4, a4, b4, M_pk, cM, hck.1, not_true_eq_false, if_false, Bool.true_eq_false]
  by_cases hf : f < ck
  · refine exR_same S (b := false) ?_ ?_
    · rw [ec, if_pos ((n_lt (by omega) (by omega)).mpr hf)]
    · rw [em, if_pos ((n_lt (by omega) (by omega)).mpr hf)]
  · have nf : ¬ nI f < nI ck := by rw [n_lt (by omega) (by omega)]; exact hf
    rw [if_neg nf] at ec em
    cases hcan : (decide (pc < 20) && !decide (τ 156 (20 + 9 * h + 7) < nI v * nI d / nI 40 + nI 1))
    · rw [hcan, if_neg (by decide)] at ec em
      exact exR_same S ec em
    · rw [hcan, if_pos rfl] at ec em
      simp only [Bool.and_eq_true, decide_eq_true_eq, Bool.not_eq_true', decide_eq_false_iff_not] at hcan
      obtain ⟨σ', τ1, τ', p1, p2, p3, p4, p5⟩ := P_kite (f := f) (a := nI a) (b := nI b) hD hcan.1 (by omega : h < hc) (by omega) ⟨d1, d2⟩ ⟨v1, v2⟩ ⟨a, b, kl, b2, rfl, rfl⟩ hcan.2 S
      refine ⟨true, σ', τ', ?_, ?_, ⟨ck, pc + 1, cc, g, q, n, sAll_mono (by omega) p4, by omega, by omega, by omega⟩, p5⟩
      · rw [ec, p1, bnd]
      · rw [em, p2, bnd, bnd, p3, bnd, if_neg nf0, bnd]
theorem X_picn {σ τ : f_M} {D ck hc ac pc cc q n i : Nat} {g : Nat → Nat} (hD : D ≤ 1000000000) (hi : i < 30) (S : sAll σ τ D ck hc ac pc cc g q n) (sn : stN hc 2 (σ (12 + i)) (fun m => τ 162 (7 * i + m))) : exR σ τ D hc ac ck pc cc (g_102 (12 + i) σ) (g_157 (nI (7 * i)) τ) := by
  obtain ⟨z, z1, z2, z3, z4⟩ := sn.1 0 (by decide)
  obtain ⟨h, h1, h2, h3, h4⟩ := sn.1 1 (by decide)
  obtain ⟨f, f1, f2, f3, f4⟩ := sn.1 2 (by decide)
  obtain ⟨d, d1, d2, d3, d4⟩ := sn.1 3 (by decide)
  obtain ⟨v, v1, v2, v3, v4⟩ := sn.1 4 (by decide)
  obtain ⟨a, a1, a2, a3, a4⟩ := sn.1 5 (by decide)
  have hc1 := S.1.1.2.1.2
  have z5 : z = 2 := Nat.le_antisymm z2 z1
  subst z5
  replace h2 : h ≤ hc - 1 := h2
  replace f2 : f ≤ 1000 := f2
  replace d1 : 1 ≤ d := d1
  replace d2 : d ≤ 24 := d2
  replace v1 : 1 ≤ v := v1
  replace v2 : v ≤ 500 := v2
  replace a2 : a ≤ 50 := a2
  replace z4 : τ 162 (7 * i) = nI 2 := z4
  replace h4 : τ 162 (7 * i + 1) = nI h := h4
  replace f4 : τ 162 (7 * i + 2) = nI f := f4
  replace d4 : τ 162 (7 * i + 3) = nI d := d4
  replace v4 : τ 162 (7 * i + 4) = nI v := v4
  replace a4 : τ 162 (7 * i + 5) = nI a := a4
  have hck := S.1.1.1
  have hpc := S.1.1.2.2.2.1
  have e0 : σ 121 0 = nI ck := S.2.2.1.1.1.trans hck.1
  have cC := C_can2 (pr := nI v * nI d / (nI 20 + nI 2 * nI a) + nI 1) S.2.2.1 hpc.1 hpc.2 (by omega : h < hc) hc1.2
  have cM := M_can2 (h := h) (pr := nI v * nI d / (nI 20 + nI 2 * nI a) + nI 1) hpc.1 hpc.2 (by omega)
  have nf0 : ¬ nI pc < nI 0 := n_neg (by omega)
  have n21 : ¬ nI 2 = nI 1 := by decide
  have ec : g_102 (12 + i) σ = if nI f < nI ck then some (false, σ) else if (decide (pc < 20) && !decide (τ 156 (20 + 9 * h + 7) < nI v * nI d / (nI 20 + nI 2 * nI a) + nI 1)) = true then (g_101 (nI h) (nI f) (nI d) (nI v) (nI a) σ).bind (fun t13 => some (true, t13.2)) else some (false, σ) := by
    unfold g_102
    simp (disch := omega) only [lits, f_rd_n, bnd, f3, e0, h3, d3, v3, a3, C_pp, cC]
  have em : g_157 (nI (7 * i)) τ = if nI f < nI ck then some (false, τ) else if (decide (pc < 20) && !decide (τ 156 (20 + 9 * h + 7) < nI v * nI d / (nI 20 + nI 2 * nI a) + nI 1)) = true then ((g_155 (nI h) (nI f) (nI d) (nI v) (nI a) τ).bind fun t20 => some t20).bind (fun t15 => (g_156 t15).bind fun t22 => (if t22.1 < nI 0 then some false else some true).bind fun (t23 : Bool) => some (t23, t22.2)) else some (false, τ) := by
    unfold g_157
    simp (disch := omega) only [lits, n_add, f_rd_n, bnd, z4, h4, f4, d4, v4, a4, M_pp, cM, hck.1, n21, not_false_eq_true, if_true]
  by_cases hf : f < ck
  · refine exR_same S (b := false) ?_ ?_
    · rw [ec, if_pos ((n_lt (by omega) (by omega)).mpr hf)]
    · rw [em, if_pos ((n_lt (by omega) (by omega)).mpr hf)]
  · have nf : ¬ nI f < nI ck := by rw [n_lt (by omega) (by omega)]; exact hf
    rw [if_neg nf] at ec em
    cases hcan : (decide (pc < 20) && !decide (τ 156 (20 + 9 * h + 7) < nI v * nI d / (nI 20 + nI 2 * nI a) + nI 1))
    · rw [hcan, if_neg (by decide)] at ec em
      exact exR_same S ec em
    · rw [hcan, if_pos rfl] at ec em
      simp only [Bool.and_eq_true, decide_eq_true_eq, Bool.not_eq_true', decide_eq_false_iff_not] at hcan
      obtain ⟨σ', τ1, τ', p1, p2, p3, p4, p5⟩ := P_picn (f := f) hD hcan.1 (by omega : h < hc) (by omega) ⟨d1, d2⟩ ⟨v1, v2⟩ (by omega : a < 51) hcan.2 S
      refine ⟨true, σ', τ', ?_, ?_, ⟨ck, pc + 1, cc, g, q, n, sAll_mono (by omega) p4, by omega, by omega, by omega⟩, p5⟩
      · rw [ec, p1, bnd]
      · rw [em, p2, bnd, bnd, p3, bnd, if_neg nf0, bnd]
