/-! A day of premiums and the weather keep what a row keeps. -/
theorem kAll.s7 {s : Nat → Int32} {D ck hc ac pc cc q n : Nat} {g : Nat → Nat} (k : kAll s D ck hc ac pc cc g q n) : nat (s 7) ≤ 500 * q ∧ q ≤ cc := by
  obtain ⟨kc, kp, kk, kg, kd, kr, ku, km, ks, kw⟩ := k
  have hq : q ≤ cc := by rw [kg.2.2.1]; exact cntN_le _ _
  have hcc := kc.2.2.2.2.2
  have hle : sumN (fun i => amt s (g i)) q ≤ q * 500 := sumN_le fun i hi => by
    have := ((kk _ (kg.2.2.2.1 i (by have := kg.1; omega))).2.2.2.2.1.nat (by omega)).2
    unfold amt; omega
  refine ⟨?_, hq⟩
  rw [kr.2, nat_n (by omega)]
  omega
/-- places that are none of 1, 6, 7, 8, 9, 10 and the holders' balances and receipts and the claims' states stay: all else of a row is kept -/
theorem K_pay {s : Nat → Int32} {D ck hc ac pc cc q n p : Nat} {g : Nat → Nat} (hD : D ≤ 1000000000) (k : kAll s D ck hc ac pc cc g q n) (hp : p < pc) (hcan : s_can s p = true) : kAll (s_pay s p) D ck hc ac pc cc g q n := by
  have h7 := k.s7
  obtain ⟨kc, kp, kk, kg, kd, kr, ku, km, ks, kw⟩ := k
  obtain ⟨⟨c0, c0'⟩, ⟨c2, c2', c2''⟩, ⟨c3, c3', c3''⟩, ⟨c4, c4'⟩, ⟨c5, c5'⟩⟩ := kc
  have e : ∀ k, k ≠ 1 → k ≠ 6 → (∀ h, h < 8 → k ≠ 20 + 9 * h + 7) → s_pay s p k = s k := fun k h1 h6 hb => by
    have hh := ((kp p hp).2.1.nat (by omega)).2
    have := hb _ (Nat.lt_of_lt_of_le hh c2'')
    unfold s_pay
    simp only [upd_ne h6, upd_ne h1, upd_ne this]
  refine ⟨⟨⟨?_, c0'⟩, ⟨?_, c2', c2''⟩, ⟨?_, c3', c3''⟩, ⟨?_, c4'⟩, ⟨?_, c5'⟩⟩, ?_, ?_, ?_, ?_, ?_, ?_, ?_, ?_, ?_⟩
  · rw [e 0 (by omega) (by omega) (fun h hh => by omega)]; exact c0
  · rw [e 2 (by omega) (by omega) (fun h hh => by omega)]; exact c2
  · rw [e 3 (by omega) (by omega) (fun h hh => by omega)]; exact c3
  · rw [e 4 (by omega) (by omega) (fun h hh => by omega)]; exact c4
  · rw [e 5 (by omega) (by omega) (fun h hh => by omega)]; exact c5
  · exact fun p' hp' => kP_congr (fun i hi => e _ (by omega) (by omega) (fun h hh => by omega)) (kp p' hp')
  · exact fun c hc => kK_congr c3'' (fun i hi => e _ (by omega) (by omega) (fun h hh => by omega)) (fun x hx => e _ (by omega) (by omega) (fun h hh => by omega)) (kk c hc)
  · exact kG_congr (fun c hc => e _ (by omega) (by omega) (fun h hh => by omega)) (fun c hc => e _ (by omega) (by omega) (fun h hh => by omega)) kg
  · exact kD_congr (e _ (by omega) (by omega) (fun h hh => by omega)) (fun c hc => e _ (by omega) (by omega) (fun h hh => by omega)) (fun c hc => e _ (by omega) (by omega) (fun h hh => by omega)) kd
  · exact kR_congr c4' (fun i hi => kg.2.2.2.1 i (by have := kg.1; omega)) (fun c hc => (kk c hc).1) (fun h hh => e _ (by omega) (by omega) (fun h hh => by omega)) (e _ (by omega) (by omega) (fun h hh => by omega)) (fun c hc => e _ (by omega) (by omega) (fun h hh => by omega)) (fun i hi => e _ (by omega) (by omega) (fun h hh => by omega)) (fun p hp => e _ (by omega) (by omega) (fun h hh => by omega)) kr
  · exact kU_congr c4' (fun c hc => (kk c hc).1) (fun c hc => e _ (by omega) (by omega) (fun h hh => by omega)) (fun p hp i hi => e _ (by omega) (by omega) (fun h hh => by omega)) ku
  · exact kM_pay c2'' (kp p hp) hcan hD (by omega) km
  · exact kS_congr c3'' c2'' (fun k h1 h2 h3 => e _ (by omega) (by omega) (fun h hh => by omega)) ks
  · exact kW_congr (fun k h => e _ (by omega) (by omega) (fun h hh => by omega)) kw
/-- a single place is written that only 'lapsed' looks at -/
theorem K_lapse {s : Nat → Int32} {D ck hc ac pc cc q n p : Nat} {g : Nat → Nat} (k : kAll s D ck hc ac pc cc g q n) (hp : p < pc) : kAll (upd s (100 + 10 * p + 8) (nI 1)) D ck hc ac pc cc g q n := by
  obtain ⟨kc, kp, kk, kg, kd, kr, ku, km, ks, kw⟩ := k
  obtain ⟨⟨c0, c0'⟩, ⟨c2, c2', c2''⟩, ⟨c3, c3', c3''⟩, ⟨c4, c4'⟩, ⟨c5, c5'⟩⟩ := kc
  have e : ∀ k, k ≠ 100 + 10 * p + 8 → upd s (100 + 10 * p + 8) (nI 1) k = s k := fun k h => upd_ne h
  refine ⟨⟨⟨?_, c0'⟩, ⟨?_, c2', c2''⟩, ⟨?_, c3', c3''⟩, ⟨?_, c4'⟩, ⟨?_, c5'⟩⟩, ?_, ?_, ?_, ?_, ?_, ?_, ?_, ?_, ?_⟩
  · rw [e 0 (by omega)]; exact c0
  · rw [e 2 (by omega)]; exact c2
  · rw [e 3 (by omega)]; exact c3
  · rw [e 4 (by omega)]; exact c4
  · rw [e 5 (by omega)]; exact c5
  · intro p' hp'
    by_cases h : p' = p
    · subst h
      obtain ⟨k0, k1, k2, k3, k4, kl, k7, k8, k9⟩ := kp p' hp'
      have e7 : s_prem (upd s (100 + 10 * p' + 8) (nI 1)) p' = s_prem s p' := by
        unfold s_prem
        rw [e _ (by omega), e _ (by omega), e _ (by omega), e _ (by omega)]
      unfold kP
      rw [e7, upd_same, e (100 + 10 * p' + 0) (by omega), e (100 + 10 * p' + 1) (by omega), e (100 + 10 * p' + 2) (by omega), e (100 + 10 * p' + 3) (by omega), e (100 + 10 * p' + 4) (by omega), e (100 + 10 * p' + 5) (by omega), e (100 + 10 * p' + 6) (by omega), e (100 + 10 * p' + 7) (by omega), e (100 + 10 * p' + 9) (by omega)]
      exact ⟨k0, k1, k2, k3, k4, kl, k7, ⟨1, by omega, rfl⟩, k9⟩
    · exact kP_congr (fun i hi => e _ (by omega)) (kp p' hp')
  · exact fun c hc => kK_congr c3'' (fun i hi => e _ (by omega)) (fun x hx => e _ (by omega)) (kk c hc)
  · exact kG_congr (fun c hc => e _ (by omega)) (fun c hc => e _ (by omega)) kg
  · exact kD_congr (e _ (by omega)) (fun c hc => e _ (by omega)) (fun c hc => e _ (by omega)) kd
  · exact kR_congr c4' (fun i hi => kg.2.2.2.1 i (by have := kg.1; omega)) (fun c hc => (kk c hc).1) (fun h hh => e _ (by omega)) (e _ (by omega)) (fun c hc => e _ (by omega)) (fun i hi => e _ (by omega)) (fun p hp => e _ (by omega)) kr
  · exact kU_congr c4' (fun c hc => (kk c hc).1) (fun c hc => e _ (by omega)) (fun p hp i hi => e _ (by omega)) ku
  · exact kM_congr (e _ (by omega)) (e _ (by omega)) (e _ (by omega)) (e _ (by omega)) (fun h hh => e _ (by omega)) km
  · exact kS_congr c3'' c2'' (fun k h1 h2 h3 => e _ (by omega)) ks
  · exact kW_congr (fun k h => e _ (by omega)) kw
theorem K_colN {s : Nat → Int32} {D ck hc ac pc cc q n : Nat} {g : Nat → Nat} (hD : D ≤ 1000000000) (k : kAll s D ck hc ac pc cc g q n) : ∀ j, j ≤ pc → kAll (s_colN s j) D ck hc ac pc cc g q n := by
  intro j
  induction j with
  | zero => intro _; exact k
  | succ j ih =>
    intro hj
    have kj := ih (by omega)
    rw [s_colN_succ]
    unfold s_col1
    split
    · split
      · rename_i hcan
        exact K_pay hD kj (by omega) hcan
      · exact K_lapse kj (by omega)
    · exact kj
theorem K_day {s : Nat → Int32} {D ck hc ac pc cc q n : Nat} {g : Nat → Nat} (hD : D ≤ 1000000000) (k : kAll s D ck hc ac pc cc g q n) : kAll (s_day s) D ck hc ac pc cc g q n := by
  have e4 : nat (s 4) = pc := by rw [k.1.2.2.2.1.1, nat_n (by have := k.1.2.2.2.1.2; omega)]
  unfold s_day
  split
  · exact k
  · rw [e4]; exact K_colN hD k pc (Nat.le_refl _)
theorem K_wx {s : Nat → Int32} {D ck hc ac pc cc q n : Nat} {g : Nat → Nat} {w r : Int32} (hw : isN w 151) (hr : isN r 51) (k : kAll s D ck hc ac pc cc g q n) (hck : ck < 1000) : kAll (s_wx s w r) D (ck + 1) hc ac pc cc g q n := by
  obtain ⟨kc, kp, kk, kg, kd, kr, ku, km, ks, kw⟩ := k
  obtain ⟨⟨c0, c0'⟩, ⟨c2, c2', c2''⟩, ⟨c3, c3', c3''⟩, ⟨c4, c4'⟩, ⟨c5, c5'⟩⟩ := kc
  have e : ∀ k, k ≠ 0 → k < 420 → s_wx s w r k = s k := fun k h h2 => s_wx_keep h (by omega) (by omega)
  refine ⟨⟨⟨?_, hck⟩, ⟨?_, c2', c2''⟩, ⟨?_, c3', c3''⟩, ⟨?_, c4'⟩, ⟨?_, c5'⟩⟩, ?_, ?_, ?_, ?_, ?_, ?_, ?_, ?_, ?_⟩
  · unfold s_wx; rw [upd_same, c0, n_add]
  · rw [e 2 (by omega) (by omega)]; exact c2
  · rw [e 3 (by omega) (by omega)]; exact c3
  · rw [e 4 (by omega) (by omega)]; exact c4
  · rw [e 5 (by omega) (by omega)]; exact c5
  · exact fun p' hp' => kP_congr (fun i hi => e _ (by omega) (by omega)) (kp p' hp')
  · exact fun c hc => kK_congr c3'' (fun i hi => e _ (by omega) (by omega)) (fun x hx => e _ (by omega) (by omega)) (kk c hc)
  · exact kG_congr (fun c hc => e _ (by omega) (by omega)) (fun c hc => e _ (by omega) (by omega)) kg
  · exact kD_congr (e _ (by omega) (by omega)) (fun c hc => e _ (by omega) (by omega)) (fun c hc => e _ (by omega) (by omega)) kd
  · exact kR_congr c4' (fun i hi => kg.2.2.2.1 i (by have := kg.1; omega)) (fun c hc => (kk c hc).1) (fun h hh => e _ (by omega) (by omega)) (e _ (by omega) (by omega)) (fun c hc => e _ (by omega) (by omega)) (fun i hi => by have := kg.2.2.2.1 i (by have := kg.1; omega); exact e _ (by omega) (by omega)) (fun p hp => e _ (by omega) (by omega)) kr
  · exact kU_congr c4' (fun c hc => (kk c hc).1) (fun c hc => e _ (by omega) (by omega)) (fun p hp i hi => e _ (by omega) (by omega)) ku
  · exact kM_congr (e _ (by omega) (by omega)) (e _ (by omega) (by omega)) (e _ (by omega) (by omega)) (e _ (by omega) (by omega)) (fun h hh => e _ (by omega) (by omega)) km
  · exact kS_congr c3'' c2'' (fun k h1 h2 h3 => e _ (by omega) (by omega)) ks
  · intro t ht
    unfold s_wx
    rw [c0, nat_n (by omega)]
    by_cases h : t = ck
    · subst h
      rw [upd_ne (by omega), upd_ne (by omega), upd_same, upd_ne (by omega), upd_same]
      exact ⟨hw, hr⟩
    · rw [upd_ne (by omega), upd_ne (by omega), upd_ne (by omega), upd_ne (by omega), upd_ne (by omega), upd_ne (by omega)]
      exact kw t (by omega)
