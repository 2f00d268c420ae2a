/-! hoursUntilLapse: the trial of the premiums to come. -/
/-- a row of the trial: only money and lapses differ -/
def vK (s v : Nat → Int32) (pc : Nat) : Prop := (∀ k, k ≠ 0 → k ≠ 1 → k ≠ 6 → (∀ h, h < 8 → k ≠ 20 + 9 * h + 7) → (∀ p, p < pc → k ≠ 100 + 10 * p + 8) → v k = s k) ∧ ∀ p, p < pc → isN (v (100 + 10 * p + 8)) 2
theorem vK_pol {s v : Nat → Int32} {pc p i : Nat} (h : vK s v pc) (hi : i < 10) (h8 : i ≠ 8) : v (100 + 10 * p + i) = s (100 + 10 * p + i) := h.1 _ (by omega) (by omega) (by omega) (fun h hh => by omega) (fun p hp => by omega)
theorem kP_vK {s v : Nat → Int32} {hc pc p : Nat} (h : vK s v pc) (hp : p < pc) (k : kP s hc p) : kP v hc p := by
  have e := fun i (hi : i < 10) (h8 : i ≠ 8) => vK_pol (p := p) h hi h8
  have e7 : s_prem v p = s_prem s p := by
    unfold s_prem
    rw [e 0 (by omega) (by omega), e 3 (by omega) (by omega), e 4 (by omega) (by omega), e 5 (by omega) (by omega)]
  unfold kP at k ⊢
  rw [e 0 (by omega) (by omega), e 1 (by omega) (by omega), e 2 (by omega) (by omega), e 3 (by omega) (by omega), e 4 (by omega) (by omega), e 5 (by omega) (by omega), e 6 (by omega) (by omega), e 7 (by omega) (by omega), e 9 (by omega) (by omega), e7]
  obtain ⟨k0, k1, k2, k3, k4, k5, k7, k8, k9⟩ := k
  exact ⟨k0, k1, k2, k3, k4, k5, k7, h.2 p hp, k9⟩
theorem vK_col1 {s v : Nat → Int32} {hc pc p : Nat} (hhc : hc ≤ 8) (h : vK s v pc) (hp : p < pc) (k : kP s hc p) : vK s (s_col1 v p) pc := by
  have kv := kP_vK h hp k
  refine ⟨fun i h0 h1 h6 hb h8 => ?_, fun r hr => ?_⟩
  · rw [s_col1_keep (kv.2.1.mono hhc) h1 h6 hb (h8 p hp)]
    exact h.1 i h0 h1 h6 hb h8
  · unfold s_col1
    split
    · split
      · obtain ⟨z, z1, z2⟩ := kv.2.1
        unfold s_pay
        rw [z2, nat_n (by omega)]
        simp (disch := omega) only [upd_ne]
        exact h.2 r hr
      · by_cases e : r = p
        · subst e
          rw [upd_same]; exact ⟨1, by omega, rfl⟩
        · rw [upd_ne (by omega)]; exact h.2 r hr
    · exact h.2 r hr
theorem vK_colN {s v : Nat → Int32} {hc pc : Nat} (hhc : hc ≤ 8) (h : vK s v pc) (kp : ∀ p, p < pc → kP s hc p) : ∀ j, j ≤ pc → vK s (s_colN v j) pc := by
  intro j
  induction j with
  | zero => intro _; exact h
  | succ j ih =>
    intro hj
    rw [s_colN_succ]
    exact vK_col1 hhc (ih (by omega)) (by omega) (kp j (by omega))
theorem vK_day {s v : Nat → Int32} {hc pc : Nat} (hpc : pc ≤ 20) (h4 : s 4 = nI pc) (hhc : hc ≤ 8) (h : vK s v pc) (kp : ∀ p, p < pc → kP s hc p) : vK s (s_day v) pc := by
  unfold s_day
  split
  · exact h
  · rw [h.1 4 (by omega) (by omega) (by omega) (fun h hh => by omega) (fun p hp => by omega), h4, nat_n (by omega)]
    exact vK_colN hhc h kp pc (by omega)
theorem vK_clock {s v : Nat → Int32} {pc : Nat} {x : Int32} (h : vK s v pc) : vK s (upd v 0 x) pc :=
  ⟨fun k h0 h1 h6 hb h8 => by rw [upd_ne h0]; exact h.1 k h0 h1 h6 hb h8, fun p hp => by rw [upd_ne (by omega)]; exact h.2 p hp⟩
/-- the model's trial of one holder against a row -/
def tR (s v : Nat → Int32) (h pc : Nat) (x : Int32) (ρ : Nat → Int32) : Prop := x = v (20 + 9 * h + 7) ∧ ∀ p, p < pc → s (100 + 10 * p + 1) = nI h → (ρ p = nI 0 ∧ v (100 + 10 * p + 8) = s (100 + 10 * p + 8)) ∨ (ρ p = nI 1 ∧ v (100 + 10 * p + 8) = nI 1)
theorem tR_clock {s v : Nat → Int32} {h pc : Nat} {x y : Int32} {ρ : Nat → Int32} (r : tR s v h pc x ρ) : tR s (upd v 0 y) h pc x ρ := by
  refine ⟨by rw [upd_ne (by omega)]; exact r.1, fun p hp e => ?_⟩
  rw [upd_ne (by omega)]
  exact r.2 p hp e
def b299 (a1 a2 : Int32) (s1 : Int32 × Int32 × f_M) : Option ((Int32 × Int32 × f_M) ⊕ (Int32 × f_M)) :=
   (f_rd s1.2.2 156 2420 (4 : Int32)).bind fun v2 =>
   if v2 ≤ s1.2.1 then (
    some (.inr (s1.1, s1.2.2))
   ) else (
    (g_184 s1.2.1 a1 s1.2.2).bind fun t3 =>
    (
     if t3 = false then (
      some (s1.1, s1.2.2)
     ) else (
      (f_rd s1.2.2 163 20 s1.2.1).bind fun v5 =>
      if ¬ v5 = 0 then (
       some (s1.1, s1.2.2)
      ) else (
       (g_122 s1.2.1 a2 s1.2.2).bind fun t6 =>
       if t6 = true then (
        (g_119 s1.2.1 s1.2.2).bind fun t7 =>
        (f_rd s1.2.2 156 2420 (t7 + (7 : Int32))).bind fun v8 =>
        if s1.1 < v8 then (
         (f_wr s1.2.2 163 20 s1.2.1 (1 : Int32)).bind fun m9 =>
         some (s1.1, m9)
        ) else (
         some ((s1.1 - v8), s1.2.2)
        )
       ) else (
        some (s1.1, s1.2.2)
       )
      )
     )
    ).bind fun (t4 : Int32 × f_M) =>
    some (.inl (t4.1, (s1.2.1 + (1 : Int32)), t4.2))
   )
theorem g_299_eq (a1 a2 a3 : Int32) (σ : f_M) : g_299 a1 a2 a3 σ = (f_lp (b299 a1 a2) f_F (a3, (0 : Int32), σ)).bind fun (x1 : Int32 × f_M) => some (x1.1, x1.2) := by
  unfold g_299; rfl
theorem M_184 {τ : f_M} {p h e : Nat} (hp : p < 20) (hh : h < 8) (he : e < 8) (ee : τ 156 (100 + 10 * p + 1) = nI e) : g_184 (nI p) (nI h) τ = some (decide (e = h)) := by
  unfold g_184
  rw [M_p, bnd, show (nI (100 + 10 * p) + (1 : Int32)) = nI (100 + 10 * p + 1) from n_add _ 1, rdS (by omega), bnd, ee]
  by_cases h1 : e = h
  · subst h1
    rw [if_neg (fun h => h rfl), decide_eq_true rfl]; rfl
  · rw [if_pos (fun h2 => h1 (n_inj (by omega) (by omega) h2)), decide_eq_false h1]; rfl
theorem b299_step {τ : f_M} {s v : Nat → Int32} {hc pc h t p : Nat} {x : Int32} (es : τ 156 = s) (h4 : s 4 = nI pc) (hpc : pc ≤ 20) (hhc : hc ≤ 8) (kp : kP s hc p) (hv : vK s v pc) (v0 : v 0 = nI t) (hh : h < 8) (hp : p < pc) (r : tR s v h pc x (τ 163)) :
    ∃ x' τ', b299 (nI h) (nI t) (x, nI p, τ) = some (.inl (x', nI (p + 1), τ')) ∧ tR s (s_col1 v p) h pc x' (τ' 163) ∧ ∀ q, q ≠ 163 → τ' q = τ q := by
  obtain ⟨e, he, ee⟩ := kp.2.1
  have kv := kP_vK hv hp kp
  have ev : v (100 + 10 * p + 1) = nI e := (vK_pol hv (by omega) (by omega)).trans ee
  have ev7 : v (100 + 10 * p + 7) = s (100 + 10 * p + 7) := vK_pol hv (by omega) (by omega)
  have m4 : f_rd τ 156 2420 (4 : Int32) = some (nI pc) := by rw [show f_rd τ 156 2420 (4 : Int32) = some (τ 156 4) from rdS (k := 4) (by omega), es, h4]
  have m184 := M_184 (τ := τ) (p := p) (h := h) (e := e) (by omega) hh (by omega) (by rw [es]; exact ee)
  have n1 : nI p + (1 : Int32) = nI (p + 1) := n_add p 1
  by_cases eh : e = h
  · subst eh
    have m5 : f_rd τ 163 20 (nI p) = some (τ 163 p) := f_rd_n (by omega) (by omega)
    rcases r.2 p hp ee with ⟨r1, r2⟩ | ⟨r1, r2⟩
    · have act : s_act v p (v 0) = s_act s p (nI t) := by
        unfold s_act s_lap s_exp
        rw [r2, v0, vK_pol hv (i := 2) (by omega) (by omega), vK_pol hv (i := 3) (by omega) (by omega)]
      have m6 : g_122 (nI p) (nI t) τ = some (s_act s p (nI t)) := by rw [M_act (by omega), es]
      cases ha : s_act s p (nI t)
      · refine ⟨x, τ, ?_, ?_, fun _ _ => rfl⟩
        · unfold b299
          dsimp only
          rw [m4, bnd, if_neg (by rw [n_le (by omega) (by omega)]; omega), m184, bnd, decide_eq_true rfl, if_neg (by decide), m5, bnd, if_neg (by rw [r1]; exact fun h => h rfl), m6, bnd, if_neg (by rw [ha]; exact Bool.noConfusion), bnd, n1]
        · unfold s_col1
          rw [act, ha, if_neg (by decide)]
          exact r
      · have m7 : f_rd τ 156 2420 (nI (100 + 10 * p) + (7 : Int32)) = some (s (100 + 10 * p + 7)) := by
          rw [show (nI (100 + 10 * p) + (7 : Int32)) = nI (100 + 10 * p + 7) from n_add _ 7, rdS (by omega), es]
        have can : s_can v p = !decide (x < s (100 + 10 * p + 7)) := by
          unfold s_can
          rw [ev, nat_n (by omega), ev7, r.1]
        by_cases hx : x < s (100 + 10 * p + 7)
        · refine ⟨x, f_up τ 163 p 1, ?_, ?_, fun q h => up_rows h⟩
          · unfold b299
            dsimp only
            rw [m4, bnd, if_neg (by rw [n_le (by omega) (by omega)]; omega), m184, bnd, decide_eq_true rfl, if_neg (by decide), m5, bnd, if_neg (by rw [r1]; exact fun h => h rfl), m6, bnd, if_pos ha, M_p, bnd, m7, bnd, if_pos hx, f_wr_n (by omega) (by omega), bnd, bnd, n1]
          · unfold s_col1
            rw [act, ha, if_pos rfl, can, decide_eq_true hx, if_neg (by decide)]
            refine ⟨by rw [upd_ne (by omega)]; exact r.1, fun p' hp' e' => ?_⟩
            by_cases h9 : p' = p
            · subst h9
              exact Or.inr ⟨up_same _ _ _ _, upd_same⟩
            · rw [up_ix h9, upd_ne (by omega)]
              exact r.2 p' hp' e'
        · refine ⟨x - s (100 + 10 * p + 7), τ, ?_, ?_, fun _ _ => rfl⟩
          · unfold b299
            dsimp only
            rw [m4, bnd, if_neg (by rw [n_le (by omega) (by omega)]; omega), m184, bnd, decide_eq_true rfl, if_neg (by decide), m5, bnd, if_neg (by rw [r1]; exact fun h => h rfl), m6, bnd, if_pos ha, M_p, bnd, m7, bnd, if_neg hx, bnd, n1]
          · unfold s_col1
            rw [act, ha, if_pos rfl, can, decide_eq_false hx, if_pos (by decide)]
            unfold s_pay
            rw [ev, nat_n (by omega), ev7]
            refine ⟨?_, fun p' hp' e' => ?_⟩
            · simp (disch := omega) only [upd_ne, upd_same]
              rw [r.1]
            · simp (disch := omega) only [upd_ne]
              exact r.2 p' hp' e'
    · refine ⟨x, τ, ?_, ?_, fun _ _ => rfl⟩
      · unfold b299
        dsimp only
        rw [m4, bnd, if_neg (by rw [n_le (by omega) (by omega)]; omega), m184, bnd, decide_eq_true rfl, if_neg (by decide), m5, bnd, if_pos (by rw [r1]; decide), bnd, n1]
      · unfold s_col1 s_act s_lap
        rw [r2, decide_eq_true rfl, if_neg (by
          rw [Bool.not_true, Bool.false_and]; exact Bool.noConfusion)]
        exact r
  · refine ⟨x, τ, ?_, ?_, fun _ _ => rfl⟩
    · unfold b299
      dsimp only
      rw [m4, bnd, if_neg (by rw [n_le (by omega) (by omega)]; omega), m184, bnd, decide_eq_false eh, if_pos rfl, bnd, n1]
    · unfold s_col1
      split
      · split
        · unfold s_pay
          rw [ev, nat_n (by omega)]
          refine ⟨?_, fun p' hp' e' => ?_⟩
          · simp (disch := omega) only [upd_ne]
            exact r.1
          · simp (disch := omega) only [upd_ne]
            exact r.2 p' hp' e'
        · refine ⟨by rw [upd_ne (by omega)]; exact r.1, fun p' hp' e' => ?_⟩
          have h9 : p' ≠ p := by
            rintro rfl
            exact eh (n_inj (by omega) (by omega) (ee.symm.trans e'))
          rw [upd_ne (by omega)]
          exact r.2 p' hp' e'
      · exact r
theorem M_299 {τ : f_M} {s v : Nat → Int32} {hc pc h t : Nat} {x : Int32} (es : τ 156 = s) (h4 : s 4 = nI pc) (hpc : pc ≤ 20) (hhc : hc ≤ 8) (kp : ∀ p, p < pc → kP s hc p) (hv : vK s v pc) (v0 : v 0 = nI t) (hh : h < 8) (r : tR s v h pc x (τ 163)) :
    ∃ x' τ', g_299 (nI h) (nI t) x τ = some (x', τ') ∧ tR s (s_colN v pc) h pc x' (τ' 163) ∧ ∀ q, q ≠ 163 → τ' q = τ q := by
  rw [g_299_eq]
  obtain ⟨⟨x', τ'⟩, e, q⟩ : ∃ r, f_lp (b299 (nI h) (nI t)) f_F (x, (0 : Int32), τ) = some r ∧ (tR s (s_colN v pc) h pc r.1 (r.2 163) ∧ ∀ q, q ≠ 163 → r.2 q = τ q) := by
    refine lp_inv (fun j (z : Int32 × Int32 × f_M) => ∃ (xj : Int32) (τj : f_M), z = (xj, nI j, τj) ∧ tR s (s_colN v j) h pc xj (τj 163) ∧ ∀ r, r ≠ 163 → τj r = τ r) _ pc (f_F_lt (by omega)) ⟨x, τ, rfl, r, fun _ _ => rfl⟩ ?_ ?_
    · rintro j z hj ⟨xj, τj, rfl, rj, fj⟩
      have vj := vK_colN hhc hv kp j (by omega)
      have v0j : s_colN v j 0 = nI t := by
        rw [s_colN_keep (by omega) (fun p hp => (kP_vK hv (by omega) (kp p (by omega))).2.1.mono hhc) (by omega) (by omega) (fun h hh => by omega) (fun p hp => by omega)]; exact v0
      obtain ⟨x', τ', e1, e2, e3⟩ := b299_step (τ := τj) (by rw [fj 156 (by omega)]; exact es) h4 hpc hhc (kp j hj) vj v0j hh hj rj
      exact Or.inl ⟨_, e1, x', τ', rfl, e2, fun r h => (e3 r h).trans (fj r h)⟩
    · rintro z ⟨xj, τj, rfl, rj, fj⟩
      refine ⟨(xj, τj), ?_, rj, fj⟩
      unfold b299
      dsimp only
      rw [show f_rd τj 156 2420 (4 : Int32) = some (τj 156 4) from rdS (k := 4) (by omega), fj 156 (by omega), es, h4, bnd, if_pos (by rw [n_le (by omega) (by omega)]; omega)]
  rw [e, bnd]
  exact ⟨x', τ', rfl, q⟩
