/-! Payments keep what a row keeps; the next payment is the first unpaid of the granted. -/
theorem s_un_min {s : Nat → Int32} (n : Nat) (hn : n < 2147483648) : (s_un s n = -1 ∧ ∀ c, c < n → ¬ s (300 + 6 * c + 3) = nI 2) ∨ ∃ b, b < n ∧ s_un s n = nI b ∧ s (300 + 6 * b + 3) = nI 2 ∧ ∀ c, c < n → s (300 + 6 * c + 3) = nI 2 → s (300 + 6 * b + 5) ≤ s (300 + 6 * c + 5) := by
  induction n with
  | zero => exact Or.inl ⟨rfl, fun c hc => by omega⟩
  | succ n ih =>
    rw [s_un_succ]
    by_cases h3 : s (300 + 6 * n + 3) = nI 2
    · rw [if_pos h3]
      rcases ih (by omega) with ⟨h1, h2⟩ | ⟨b, hb, e, hb3, hmin⟩
      · rw [if_pos h1]
        refine Or.inr ⟨n, by omega, rfl, h3, fun c hc hc3 => ?_⟩
        by_cases h : c = n
        · subst h; exact Int32.le_refl _
        · exact absurd hc3 (h2 c (by omega))
      · rw [if_neg (by rw [e]; exact n_neg1 (by omega)), e, nat_n (by omega)]
        by_cases h : s (300 + 6 * b + 5) ≤ s (300 + 6 * n + 5)
        · rw [if_pos h]
          refine Or.inr ⟨b, by omega, rfl, hb3, fun c hc hc3 => ?_⟩
          by_cases hcn : c = n
          · subst hcn; exact h
          · exact hmin c (by omega) hc3
        · rw [if_neg h]
          refine Or.inr ⟨n, by omega, rfl, h3, fun c hc hc3 => ?_⟩
          by_cases hcn : c = n
          · subst hcn; exact Int32.le_refl _
          · exact Int32.le_trans (Int32.le_of_lt ((i32_nle _ _).mp h)) (hmin c (by omega) hc3)
    · rw [if_neg h3]
      rcases ih (by omega) with ⟨h1, h2⟩ | ⟨b, hb, e, hb3, hmin⟩
      · refine Or.inl ⟨h1, fun c hc => ?_⟩
        by_cases h : c = n
        · subst h; exact h3
        · exact h2 c (by omega)
      · refine Or.inr ⟨b, by omega, e, hb3, fun c hc hc3 => ?_⟩
        by_cases hcn : c = n
        · subst hcn; exact absurd hc3 h3
        · exact hmin c (by omega) hc3
theorem isG_two {s : Nat → Int32} {c : Nat} (h : s (300 + 6 * c + 3) = nI 2) : isG s c = true := by unfold isG; rw [h]; decide
/-- the first unpaid claim -/
theorem un_next {s : Nat → Int32} {ac pc cc q n : Nat} {g : Nat → Nat} (hcc : cc ≤ 20) (kk : ∀ c, c < cc → kK s ac pc c) (kg : kG s cc g q n) : s_un s cc = if q < n then nI (g q) else -1 := by
  obtain ⟨h1, h2, h3, h4, h5, h6, h7, h8⟩ := kg
  have two : ∀ c, c < cc → s (300 + 6 * c + 3) = nI 2 → ∃ i, q ≤ i ∧ i < n ∧ g i = c := fun c hc e => by
    obtain ⟨i, hi, ei⟩ := h7 c hc (isG_two e)
    have := h6 i hi
    rw [ei, e] at this
    by_cases hq : i < q
    · rw [if_pos hq, n_eq (by omega) (by omega)] at this; omega
    · exact ⟨i, by omega, hi, ei⟩
  rcases s_un_min (s := s) cc (by omega) with ⟨e, hno⟩ | ⟨b, hb, e, hb3, hmin⟩
  · rw [e]
    by_cases hq : q < n
    · have := h6 q hq
      rw [if_neg (by omega)] at this
      exact absurd this (hno _ (h4 q hq))
    · rw [if_neg hq]
  · obtain ⟨i, hqi, hi, ei⟩ := two b hb hb3
    have hq : q < n := by omega
    rw [e, if_pos hq]
    by_cases hiq : i = q
    · rw [← ei, hiq]
    · exfalso
      have hlt := h8 q i (by omega) hi
      have hst := h6 q hq
      rw [if_neg (by omega)] at hst
      have hle := hmin (g q) (h4 q hq) hst
      obtain ⟨x, hx, ex⟩ := (kk _ (h4 q hq)).2.2.2.2.2.1
      obtain ⟨y, hy, ey⟩ := (kk b hb).2.2.2.2.2.1
      rw [ei, ex, ey, nat_n (by omega), nat_n (by omega)] at hlt
      rw [ex, ey, n_le (by omega) (by omega)] at hle
      omega
theorem K_pay1 {s : Nat → Int32} {D ck hc ac pc cc q n : Nat} {g : Nat → Nat} (hD : D ≤ 1000000000) (K : kAll s D ck hc ac pc cc g q n) (hq : q < n) : kAll (s_pay1 s (g q)) D ck hc ac pc cc g (q + 1) n := by
  have h7 := K.s7
  obtain ⟨kc, kp, kk, kg, kd, kr, ku, km, ks, kw⟩ := K
  obtain ⟨⟨c0, c0'⟩, ⟨c2, c2', c2''⟩, ⟨c3, c3', c3''⟩, ⟨c4, c4'⟩, ⟨c5, c5'⟩⟩ := kc
  have hqc := kg.2.2.2.1 q hq
  have hst : s (300 + 6 * g q + 3) = nI 2 := by rw [kg.2.2.2.2.2.1 q hq, if_neg (by omega)]
  have hpol := ((kk _ hqc).1.nat (by omega)).2
  have hhol := ((kp _ hpol).2.1.nat (by omega)).2
  obtain ⟨am, ham, eam⟩ := (kk _ hqc).2.2.2.2.1
  have gne : ∀ i, i < n → i ≠ q → g i ≠ g q := fun i hi hne h => hne (kg.2.2.2.2.1 i q hi hq h)
  have eh : hld s (g q) = nat (s (100 + 10 * nat (s (300 + 6 * g q + 0)) + 1)) := rfl
  have ea : amt s (g q) = am := by unfold amt; rw [eam, nat_n (by omega)]
  have e : ∀ j, j ≠ 1 → j ≠ 7 → (∀ h, h < 8 → j ≠ 20 + 9 * h + 7 ∧ j ≠ 20 + 9 * h + 8) → j ≠ 300 + 6 * g q + 3 → s_pay1 s (g q) j = s j := fun j g1 g7 gb g3 => s_pay1_keep ((kp _ hpol).2.1.mono c2'') g1 g7 gb g3
  have f3 : s_pay1 s (g q) (300 + 6 * g q + 3) = nI 3 := by unfold s_pay1; rw [upd_same]
  have f1 : s_pay1 s (g q) 1 = s 1 - nI am := by
    unfold s_pay1
    rw [eam, upd_ne (by omega), upd_ne (by omega), upd_ne (by omega), upd_ne (by omega), upd_same]
  have f7 : s_pay1 s (g q) 7 = s 7 + nI am := by
    unfold s_pay1
    rw [eam, upd_ne (by omega), upd_same]
  have fb : ∀ h, h < hc → s_pay1 s (g q) (20 + 9 * h + 7) = if h = hld s (g q) then s (20 + 9 * h + 7) + nI am else s (20 + 9 * h + 7) := fun h hh => by
    rw [eh]
    unfold s_pay1
    rw [eam]
    by_cases he : h = nat (s (100 + 10 * nat (s (300 + 6 * g q + 0)) + 1))
    · rw [if_pos he, upd_ne (by omega), upd_ne (by omega), upd_ne (by omega), ← he, upd_same]
    · rw [if_neg he, upd_ne (by omega), upd_ne (by omega), upd_ne (by omega), upd_ne (by omega), upd_ne (by omega)]
  have fr : ∀ h, h < hc → s_pay1 s (g q) (20 + 9 * h + 8) = if h = hld s (g q) then s (20 + 9 * h + 8) + nI am else s (20 + 9 * h + 8) := fun h hh => by
    rw [eh]
    unfold s_pay1
    rw [eam]
    by_cases he : h = nat (s (100 + 10 * nat (s (300 + 6 * g q + 0)) + 1))
    · rw [if_pos he, upd_ne (by omega), upd_ne (by omega), ← he, upd_same]
    · rw [if_neg he, upd_ne (by omega), upd_ne (by omega), upd_ne (by omega), upd_ne (by omega), upd_ne (by omega)]
  have ead : ∀ i, amt (s_pay1 s (g q)) (g i) = amt s (g i) := fun i => by
    unfold amt
    rw [e _ (by omega) (by omega) (fun h hh => by omega) (by omega)]
  have ehd : ∀ i, i < n → hld (s_pay1 s (g q)) (g i) = hld s (g i) := fun i hi => by
    have hp := ((kk _ (kg.2.2.2.1 i hi)).1.nat (by omega)).2
    unfold hld
    rw [e (300 + 6 * g i + 0) (by omega) (by omega) (fun h hh => by omega) (by omega), e _ (by omega) (by omega) (fun h hh => by omega) (by omega)]
  refine ⟨⟨⟨?_, c0'⟩, ⟨?_, c2', c2''⟩, ⟨?_, c3', c3''⟩, ⟨?_, c4'⟩, ⟨?_, c5'⟩⟩, ?_, ?_, ?_, ?_, ?_, ?_, ?_, ?_, ?_⟩
  · rw [e 0 (by omega) (by omega) (fun h hh => by omega) (by omega)]; exact c0
  · rw [e 2 (by omega) (by omega) (fun h hh => by omega) (by omega)]; exact c2
  · rw [e 3 (by omega) (by omega) (fun h hh => by omega) (by omega)]; exact c3
  · rw [e 4 (by omega) (by omega) (fun h hh => by omega) (by omega)]; exact c4
  · rw [e 5 (by omega) (by omega) (fun h hh => by omega) (by omega)]; exact c5
  · exact fun p' hp' => kP_congr (fun i hi => e _ (by omega) (by omega) (fun h hh => by omega) (by omega)) (kp p' hp')
  · intro c hc
    by_cases h : c = g q
    · subst h
      obtain ⟨h0, h1, h2, h3', h4, h5, h6, h7', h8⟩ := kk _ hqc
      have hx := (h1.nat (by omega)).2
      unfold kK
      rw [f3, e (300 + 6 * g q + 0) (by omega) (by omega) (fun h hh => by omega) (by omega), e (300 + 6 * g q + 1) (by omega) (by omega) (fun h hh => by omega) (by omega), e (300 + 6 * g q + 2) (by omega) (by omega) (fun h hh => by omega) (by omega), e (300 + 6 * g q + 4) (by omega) (by omega) (fun h hh => by omega) (by omega), e (300 + 6 * g q + 5) (by omega) (by omega) (fun h hh => by omega) (by omega)]
      refine ⟨h0, h1, h2, ⟨3, by omega, rfl⟩, h4, h5, ?_, ?_, fun _ => h8 (Or.inl hst)⟩
      · intro h9; rw [n_eq (by omega) (by omega)] at h9; omega
      · intro h9; rcases h9 with h9 | h9 <;> (rw [n_eq (by omega) (by omega)] at h9; omega)
    · exact kK_congr c3'' (fun i hi => e _ (by omega) (by omega) (fun h hh => by omega) (by omega)) (fun x hx => e _ (by omega) (by omega) (fun h hh => by omega) (by omega)) (kk c hc)
  · obtain ⟨h1, h2, h3, h4, h5, h6, h7', h8⟩ := kg
    have eG : ∀ c, c < cc → isG (s_pay1 s (g q)) c = isG s c := fun c hc => by
      by_cases h : c = g q
      · subst h
        rw [isG_two hst]
        unfold isG; rw [f3]; decide
      · unfold isG; rw [e _ (by omega) (by omega) (fun h hh => by omega) (by omega)]
    refine ⟨by omega, by rw [cntN_congr eG]; exact h2, ?_, h4, h5, fun i hi => ?_, fun c hc hg => h7' c hc (by rw [← eG c hc]; exact hg), fun i j hij hj => ?_⟩
    · have hinc : cntN (isQ (s_pay1 s (g q))) cc = cntN (isQ s) cc + 1 := cntN_inc hqc (by unfold isQ; rw [hst]; decide) (by unfold isQ; rw [f3]; decide) (fun i hi => by
        unfold isQ; rw [e _ (by omega) (by omega) (fun h hh => by omega) (by omega)])
      rw [hinc, ← h3]
    · by_cases hiq : i = q
      · subst hiq; rw [f3, if_pos (by omega)]
      · have := gne i hi hiq
        rw [e _ (by omega) (by omega) (fun h hh => by omega) (by omega), h6 i hi]
        by_cases hlt : i < q
        · rw [if_pos hlt, if_pos (by omega)]
        · rw [if_neg hlt, if_neg (by omega)]
    · rw [e _ (by omega) (by omega) (fun h hh => by omega) (by omega), e _ (by omega) (by omega) (fun h hh => by omega) (by omega)]
      exact h8 i j hij hj
  · have ez : ∀ c, c < cc → decide (s_pay1 s (g q) (300 + 6 * c + 3) = nI 0) = decide (s (300 + 6 * c + 3) = nI 0) := fun c hc => by
      by_cases h : c = g q
      · subst h; rw [f3, hst]; decide
      · rw [e _ (by omega) (by omega) (fun h hh => by omega) (by omega)]
    refine ⟨?_, fun c hc h => ?_⟩
    · rw [e 10 (by omega) (by omega) (fun h hh => by omega) (by omega), kd.1]
      congr 1
      exact cntN_congr fun c hc => by rw [ez c hc]
    · rw [e 10 (by omega) (by omega) (fun h hh => by omega) (by omega), e _ (by omega) (by omega) (fun h hh => by omega) (by omega)]
      refine kd.2 c hc (fun h9 => h ?_)
      have := ez c hc
      rw [h9] at this
      simpa using this
  · refine ⟨fun h hh => ?_, ?_⟩
    · rw [fr h hh, sumN_succ, sumN_congr (g := fun i => if hld s (g i) = h then amt s (g i) else 0) (fun i hi => by rw [ead i, ehd i (by omega)]), ead q, ehd q hq, ea, kr.1 h hh]
      by_cases hh9 : h = hld s (g q)
      · rw [if_pos hh9, if_pos hh9.symm, n_add]
      · rw [if_neg hh9, if_neg (fun h' => hh9 h'.symm)]; rfl
    · rw [f7, sumN_succ, sumN_congr (g := fun i => amt s (g i)) (fun i hi => ead i), ead q, ea, kr.2, n_add]
  · exact kU_congr c4' (fun c hc => (kk c hc).1) (fun c hc => e _ (by omega) (by omega) (fun h hh => by omega) (by omega)) (fun p hp i hi => e _ (by omega) (by omega) (fun h hh => by omega) (by omega)) ku
  · obtain ⟨h1, d, h2, h3, h4⟩ := km
    have hsum : sumN (fun i => amt s (g i)) q ≤ q * 500 := sumN_le fun i hi => by
      have := ((kk _ (kg.2.2.2.1 i (by omega))).2.2.2.2.1.nat (by omega)).2
      unfold amt; omega
    have e7' : nat (s_pay1 s (g q) 7) = nat (s 7) + am := by
      rw [f7, kr.2, n_add, nat_n (by omega), nat_n (by omega)]
    refine ⟨?_, d, h2, by rw [e 8 (by omega) (by omega) (fun h hh => by omega) (by omega)]; exact h3, fun h hh => ?_⟩
    · rw [sumI_congr fb, sumI_upd (f := fun h => s (20 + 9 * h + 7)) (h := hld s (g q)) hhol, f1, e 8 (by omega) (by omega) (fun h hh => by omega) (by omega), e 9 (by omega) (by omega) (fun h hh => by omega) (by omega), ← h1]
      rw [Int32.sub_eq_add_neg, Int32.add_assoc, Int32.add_comm (sumI _ _), ← Int32.add_assoc (-nI am), Int32.add_left_neg, Int32.zero_add]
    · obtain ⟨m, em, hm⟩ := h4 h hh
      rw [fb h hh, e7', em]
      split
      · exact ⟨_, n_add _ _, by omega⟩
      · exact ⟨m, rfl, by omega⟩
  · exact kS_congr c3'' c2'' (fun k h1 h2 h3 => e _ (by omega) (by omega) (fun h hh => by omega) (by omega)) ks
  · exact kW_congr (fun k h => e _ (by omega) (by omega) (fun h hh => by omega) (by omega)) kw
