/-! Any statement executed in both, and all of them. -/
theorem X_claim {σ τ : f_M} {D ck hc ac pc cc q n i : Nat} {g : Nat → Nat} (hi : i < 30) (S : sAll σ τ D ck hc ac pc cc g q n) (sn : stN hc 3 (σ (12 + i)) (fun m => τ 162 (7 * i + m))) : exR σ τ D hc ac ck pc cc ((f_rd σ (12 + i) 7 (1 : Int32)).bind fun v9 => (g_110 v9 σ).bind fun t10 => some (t10.1, t10.2))
   ((g_142 (τ 162 (7 * i + 1)) τ).bind fun t9 =>
   (
    if t9 = false then (
     some (false, τ)
    ) else (
     (g_145 (τ 162 (7 * i + 1)) τ).bind fun t11 =>
     if ¬ t11 = 0 then (
      some (false, τ)
     ) else (
      (g_148 (τ 162 (7 * i + 1)) τ).bind fun t12 =>
      if t12.1 < 0 then (
       some (false, t12.2)
      ) else (
       some (true, t12.2)
      )
     )
    )
   ).bind fun (t10 : Bool × f_M) =>
   some (t10.1, t10.2)) := by
  obtain ⟨p, p1, p2, p3, p4⟩ := sn.1 1 (by decide)
  replace p2 : p ≤ 19 := p2
  replace p4 : τ 162 (7 * i + 1) = nI p := p4
  have hpc := S.1.1.2.2.2.1
  have e3 : σ 121 3 = nI pc := S.2.2.1.1.2.2.1.trans hpc.1
  rw [show (1 : Int32) = nI 1 from rfl, f_rd_n (by omega) (by omega), bnd, p3, p4, opt_eta, M_isP _ hpc.1 hpc.2, bnd, opt_eta]
  unfold g_110
  rw [e3]
  by_cases hp : p < pc
  · have c1 := C_code S.1 S.2.1 S.2.2.1 hp
    have m1 := M_code S.1 hp
    rw [if_neg (by rw [n_le (by omega) (by omega)]; omega), c1, bnd, (inN_iff (by omega)).mpr ⟨p, hp, rfl⟩, if_neg (by decide : ¬ true = false), m1, bnd]
    have hcd : s_code (τ 156) cc p ≤ 5 := by
      unfold s_code
      repeat' split
      all_goals omega
    by_cases h0 : s_code (τ 156) cc p = 0
    · have hcc := claims_lt S.1 hp h0
      obtain ⟨σ', τ', q1, q2, q3, q4⟩ := P_claim hp (by omega) h0 S
      refine ⟨true, σ', τ', ?_, ?_, ⟨ck, pc, cc + 1, g, q, n, sAll_mono (by omega) q3, by omega, by omega, by omega⟩, q4⟩
      · rw [h0, if_pos (by decide), q1, bnd]
      · rw [h0, if_neg (by decide), q2, bnd, if_neg (show ¬ nI cc < 0 from n_neg (by omega))]
    · have z : ¬ nI (s_code (τ 156) cc p) = 0 := by rw [show (0 : Int32) = nI 0 from rfl, n_eq (by omega) (by omega)]; exact h0
      exact exR_same S (b := false) (by rw [if_neg z]) (by rw [if_pos z])
  · have hb : inN (nI p) pc = false := by
      refine Bool.eq_false_iff.mpr fun h => ?_
      obtain ⟨p', hp', e⟩ := (inN_iff (by omega)).mp h
      have := n_inj (by omega) (by omega) e
      omega
    exact exR_same S (b := false) (by rw [if_pos (by rw [n_le (by omega) (by omega)]; omega)]) (by rw [hb, if_pos rfl])
theorem X_dep {σ τ : f_M} {D ck hc ac pc cc q n i : Nat} {g : Nat → Nat} (hD : D ≤ 1000000000) (hi : i < 30) (S : sAll σ τ D ck hc ac pc cc g q n) (sn : stN hc 4 (σ (12 + i)) (fun m => τ 162 (7 * i + m))) : exR σ τ D hc ac ck pc cc ((f_rd σ (12 + i) 7 (1 : Int32)).bind fun v12 =>
   (f_rd σ (12 + i) 7 (2 : Int32)).bind fun v13 =>
   (g_111 v12 v13 σ).bind fun t14 =>
   some (true, t14.2))
   ((f_rd τ 162 210 (nI (7 * i) + (2 : Int32))).bind fun v17 =>
   (g_149 (τ 162 (7 * i + 1)) v17 τ).bind fun t18 =>
   (
    if t18.1 ≤ 0 then (
     some false
    ) else (
     some true
    )
   ).bind fun (t19 : Bool) =>
   some (t19, t18.2)) := by
  obtain ⟨h, h1, h2, h3, h4⟩ := sn.1 1 (by decide)
  obtain ⟨v, v1, v2, v3, v4⟩ := sn.1 2 (by decide)
  have hc1 := S.1.1.2.1.2
  replace h2 : h ≤ hc - 1 := h2
  replace v1 : 1 ≤ v := v1
  replace v2 : v ≤ 999 := v2
  replace h4 : τ 162 (7 * i + 1) = nI h := h4
  replace v4 : τ 162 (7 * i + 2) = nI v := v4
  obtain ⟨w, σ', τ', q1, q2, ⟨m, m1, m2, rfl⟩, q4, q5⟩ := P_dep (v := v) hD (by omega) (by omega : h < hc) S
  refine ⟨true, σ', τ', ?_, ?_, ⟨ck, pc, cc, g, q, n, sAll_mono (by omega) q4, by omega, by omega, by omega⟩, q5⟩
  · rw [show (1 : Int32) = nI 1 from rfl, f_rd_n (by omega) (by omega), bnd, show (2 : Int32) = nI 2 from rfl, f_rd_n (by omega) (by omega), bnd, h3, v3, q1, bnd]
  · rw [show (2 : Int32) = nI 2 from rfl, n_add, f_rd_n (by omega) (by omega), bnd, h4, v4, q2, bnd, if_neg (by rw [show (0 : Int32) = nI 0 from rfl, n_le (by omega) (by omega)]; omega), bnd]
theorem P_exec {σ τ : f_M} {D ck hc ac pc cc q n i : Nat} {g : Nat → Nat} (hD : D ≤ 1000000000) (hi : i < 30) (S : sAll σ τ D ck hc ac pc cc g q n) (so : stOK hc (σ (12 + i)) (fun m => τ 162 (7 * i + m))) : exR σ τ D hc ac ck pc cc (g_112 (nI i) σ) (g_158 (nI i) τ) := by
  obtain ⟨kd, hkd, sn⟩ := so
  obtain ⟨z, z1, z2, z3, z4⟩ := sn.1 0 (by
    obtain rfl | rfl | rfl | rfl | rfl : kd = 0 ∨ kd = 1 ∨ kd = 2 ∨ kd = 3 ∨ kd = 4 := by omega
    all_goals decide)
  have z5 : z = kd := by
    have b1 : loT kd 0 = kd ∧ hiT hc kd 0 = kd := by
      obtain rfl | rfl | rfl | rfl | rfl : kd = 0 ∨ kd = 1 ∨ kd = 2 ∨ kd = 3 ∨ kd = 4 := by omega
      all_goals exact ⟨rfl, rfl⟩
    omega
  subst z5
  replace z4 : τ 162 (7 * i) = nI z := z4
  unfold g_112 g_158
  rw [f_ix_n hi (by omega), bnd, show f_rd σ (12 + i) 7 (0 : Int32) = some (σ (12 + i) 0) from f_rd_n (p := 0) (by omega) (by omega), bnd, z3, show (7 : Int32) = nI 7 from rfl, n_mul, show f_rd τ 162 210 (nI (7 * i) + (1 : Int32)) = some (τ 162 (7 * i + 1)) from by rw [show (1 : Int32) = nI 1 from rfl, n_add]; exact f_rd_n (by omega) (by omega), bnd, show f_rd τ 162 210 (nI (7 * i)) = some (τ 162 (7 * i)) from f_rd_n (by omega) (by omega), bnd, z4]
  obtain rfl | rfl | rfl | rfl | rfl : z = 0 ∨ z = 1 ∨ z = 2 ∨ z = 3 ∨ z = 4 := by omega
  · rw [if_pos (by decide), if_pos (by decide), opt_eta, opt_eta]
    exact X_hours hD hi S sn
  · rw [if_neg (by decide), if_pos (by decide), if_neg (by decide), if_pos (by decide), opt_eta, opt_eta]
    exact X_kite hD hi S sn
  · rw [if_neg (by decide), if_neg (by decide), if_pos (by decide), if_neg (by decide), if_neg (by decide), if_pos (by decide), opt_eta, opt_eta]
    exact X_picn hD hi S sn
  · rw [if_neg (by decide), if_neg (by decide), if_neg (by decide), if_pos (by decide), if_neg (by decide), if_neg (by decide), if_neg (by decide), if_pos (by decide)]
    exact X_claim hi S sn
  · rw [if_neg (by decide), if_neg (by decide), if_neg (by decide), if_neg (by decide), if_neg (by decide), if_neg (by decide), if_neg (by decide), if_neg (by decide), if_pos (by decide)]
    exact X_dep hD hi S sn
def xlC (s4 : Int32 × f_M) : Option ((Int32 × f_M) ⊕ (Int32 × f_M)) :=
    if (s4.2 10 1) ≤ s4.1 then (
     some (.inr ((s4.2 10 1), s4.2))
    ) else (
     (g_112 s4.1 s4.2).bind fun t5 =>
     if t5.1 = true then (
      some (.inl ((s4.1 + (1 : Int32)), t5.2))
     ) else (
      some (.inr (s4.1, t5.2))
     )
    )
def xlM (s8 : Int32 × f_M) : Option ((Int32 × f_M) ⊕ (Int32 × f_M)) :=
    if (s8.2 155 20) ≤ s8.1 then (
     some (.inr (s8.1, s8.2))
    ) else (
     (g_158 s8.1 s8.2).bind fun t9 =>
     if t9.1 = false then (
      some (.inr (s8.1, t9.2))
     ) else (
      some (.inl ((s8.1 + (1 : Int32)), t9.2))
     )
    )
theorem stRows_op {σ σ' τ τ' : f_M} {hc j ck pc cc : Nat} (h : stRows hc j σ τ) (f : opF σ σ' τ τ' ck pc cc) : stRows hc j σ' τ' := by
  obtain ⟨a1, a2, a3, a4⟩ := h
  refine ⟨by rw [f.1 10 (by omega)]; exact a1, by rw [f.2.2.2.2 155 (by omega)]; exact a2, a3, fun i hi => ?_⟩
  rw [f.1 (12 + i) (by omega), f.2.2.2.2 162 (by omega)]
  exact a4 i hi
theorem P_xloop {hc ac j : Nat} : ∀ (m i F1 F2 D ck pc cc q n : Nat) (g : Nat → Nat) (σ τ : f_M), m + i = j → sAll σ τ D ck hc ac pc cc g q n → stRows hc j σ τ → D + 1000 * m ≤ 1000000000 → m < F1 → m < F2 →
    ∃ e σ' τ', f_lp xlC F1 (nI i, σ) = some (e, σ') ∧ f_lp xlM F2 (nI i, τ) = some (e, τ') ∧ (∃ ck' pc' cc' g' q' n', sAll σ' τ' (D + 1000 * m) ck' hc ac pc' cc' g' q' n' ∧ ck ≤ ck' ∧ pc ≤ pc' ∧ cc ≤ cc') ∧ opF σ σ' τ τ' ck pc cc := by
  intro m
  induction m with
  | zero =>
    intro i F1 F2 D ck pc cc q n g σ τ e S sr hD hF1 hF2
    obtain ⟨G1, rfl⟩ : ∃ G, F1 = G + 1 := ⟨F1 - 1, by omega⟩
    obtain ⟨G2, rfl⟩ : ∃ G, F2 = G + 1 := ⟨F2 - 1, by omega⟩
    obtain rfl : i = j := by omega
    have hj := sr.2.2.1
    have e1 : xlC (nI i, σ) = some (.inr (nI i, σ)) := by
      unfold xlC
      dsimp only
      rw [if_pos (by rw [sr.1, n_le (by omega) (by omega)]; omega), sr.1]
    have e2 : xlM (nI i, τ) = some (.inr (nI i, τ)) := by
      unfold xlM
      dsimp only
      rw [if_pos (by rw [sr.2.1, n_le (by omega) (by omega)]; omega)]
    exact ⟨nI i, σ, τ, by rw [lp_succ, e1, bnd]; rfl, by rw [lp_succ, e2, bnd]; rfl, ⟨ck, pc, cc, g, q, n, S, by omega, by omega, by omega⟩, opF.refl _ _ _ _ _⟩
  | succ m ih =>
    intro i F1 F2 D ck pc cc q n g σ τ e S sr hD hF1 hF2
    obtain ⟨G1, rfl⟩ : ∃ G, F1 = G + 1 := ⟨F1 - 1, by omega⟩
    obtain ⟨G2, rfl⟩ : ∃ G, F2 = G + 1 := ⟨F2 - 1, by omega⟩
    have hj := sr.2.2.1
    obtain ⟨b, σ1, τ1, c1, m1, ⟨ck1, pc1, cc1, g1, q1, n1, S1, l1, l2, l3⟩, f1⟩ := P_exec (i := i) (by omega) (by omega) S (sr.2.2.2 i (by omega))
    have e1 : xlC (nI i, σ) = if b = true then some (.inl (nI (i + 1), σ1)) else some (.inr (nI i, σ1)) := by
      unfold xlC
      dsimp only
      rw [if_neg (by rw [sr.1, n_le (by omega) (by omega)]; omega), c1, bnd, show (1 : Int32) = nI 1 from rfl, n_add]
    have e2 : xlM (nI i, τ) = if b = false then some (.inr (nI i, τ1)) else some (.inl (nI (i + 1), τ1)) := by
      unfold xlM
      dsimp only
      rw [if_neg (by rw [sr.2.1, n_le (by omega) (by omega)]; omega), m1, bnd, show (1 : Int32) = nI 1 from rfl, n_add]
    cases b
    · have hle : D + 1000 ≤ D + 1000 * (m + 1) := Nat.add_le_add_left (Nat.le_mul_of_pos_right 1000 (Nat.succ_pos m)) D
      have S2 := sAll_mono hle S1
      refine ⟨nI i, σ1, τ1, ?_, ?_, ⟨ck1, pc1, cc1, g1, q1, n1, S2, l1, l2, l3⟩, f1⟩
      · rw [lp_succ, e1, if_neg (by decide), bnd]; rfl
      · rw [lp_succ, e2, if_pos rfl, bnd]; rfl
    · obtain ⟨e9, σ', τ', h1, h2, ⟨ck', pc', cc', g', q', n', h3, h4, h5, h6⟩, h7⟩ := ih (i + 1) G1 G2 (D + 1000) ck1 pc1 cc1 q1 n1 g1 σ1 τ1 (by omega) S1 (stRows_op sr f1) (by omega) (by omega) (by omega)
      refine ⟨e9, σ', τ', ?_, ?_, ⟨ck', pc', cc', g', q', n', ?_, by omega, by omega, by omega⟩, f1.trans h7 l1 l2 l3⟩
      · rw [lp_succ, e1, if_pos rfl, bnd]; exact h1
      · rw [lp_succ, e2, if_neg (by decide), bnd]; exact h2
      · rw [show D + 1000 * (m + 1) = D + 1000 + 1000 * m from by omega]; exact h3
