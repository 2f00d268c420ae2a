/-! What a row keeps, when other places of it are written. -/
theorem kK_congr {s s' : Nat → Int32} {ac pc c : Nat} (hac : ac ≤ 3) (e : ∀ i, i < 6 → s' (300 + 6 * c + i) = s (300 + 6 * c + i)) (ex : ∀ x, x < 3 → s' (95 + x) = s (95 + x)) (h : kK s ac pc c) : kK s' ac pc c := by
  unfold kK at h ⊢
  obtain ⟨h0, h1, h2, h3, h4, h5, h6, h7, h8⟩ := h
  have hx := (h1.nat (by omega)).2
  rw [e 0 (by omega), e 1 (by omega), e 2 (by omega), e 3 (by omega), e 4 (by omega), e 5 (by omega), ex _ (by omega)]
  exact ⟨h0, h1, h2, h3, h4, h5, h6, h7, h8⟩
theorem kG_congr {s s' : Nat → Int32} {cc q n : Nat} {g : Nat → Nat} (e3 : ∀ c, c < cc → s' (300 + 6 * c + 3) = s (300 + 6 * c + 3)) (e5 : ∀ c, c < cc → s' (300 + 6 * c + 5) = s (300 + 6 * c + 5)) (h : kG s cc g q n) : kG s' cc g q n := by
  obtain ⟨h1, h2, h3, h4, h5, h6, h7, h8⟩ := h
  have eG : ∀ c, c < cc → isG s' c = isG s c := fun c hc => by unfold isG; rw [e3 c hc]
  have eQ : ∀ c, c < cc → isQ s' c = isQ s c := fun c hc => by unfold isQ; rw [e3 c hc]
  refine ⟨h1, by rw [cntN_congr eG]; exact h2, by rw [cntN_congr eQ]; exact h3, h4, h5, fun i hi => by rw [e3 _ (h4 i hi)]; exact h6 i hi, fun c hc hg => h7 c hc (by rw [← eG c hc]; exact hg), fun i j hij hj => ?_⟩
  rw [e5 _ (h4 i (by omega)), e5 _ (h4 j hj)]
  exact h8 i j hij hj
theorem kD_congr {s s' : Nat → Int32} {cc : Nat} (e10 : s' 10 = s 10) (e3 : ∀ c, c < cc → s' (300 + 6 * c + 3) = s (300 + 6 * c + 3)) (e5 : ∀ c, c < cc → s' (300 + 6 * c + 5) = s (300 + 6 * c + 5)) (h : kD s cc) : kD s' cc := by
  obtain ⟨h1, h2⟩ := h
  refine ⟨by rw [e10, h1]; congr 1; exact cntN_congr fun c hc => by rw [e3 c hc], fun c hc h => ?_⟩
  rw [e5 c hc, e10]
  exact h2 c hc (by rw [← e3 c hc]; exact h)
theorem kR_congr {s s' : Nat → Int32} {hc pc cc q : Nat} {g : Nat → Nat} (hpc : pc ≤ 20) (hg : ∀ i, i < q → g i < cc) (h0 : ∀ c, c < cc → isN (s (300 + 6 * c + 0)) pc) (e8 : ∀ h, h < hc → s' (20 + 9 * h + 8) = s (20 + 9 * h + 8)) (e7 : s' 7 = s 7) (e0 : ∀ c, c < cc → s' (300 + 6 * c + 0) = s (300 + 6 * c + 0)) (e4 : ∀ i, i < q → s' (300 + 6 * g i + 4) = s (300 + 6 * g i + 4)) (e1 : ∀ p, p < pc → s' (100 + 10 * p + 1) = s (100 + 10 * p + 1)) (h : kR s hc g q) : kR s' hc g q := by
  obtain ⟨h1, h2⟩ := h
  have ea : ∀ i, i < q → amt s' (g i) = amt s (g i) := fun i hi => by unfold amt; rw [e4 i hi]
  have eh : ∀ i, i < q → hld s' (g i) = hld s (g i) := fun i hi => by
    unfold hld
    rw [e0 _ (hg i hi), e1 _ ((h0 _ (hg i hi)).nat (by omega)).2]
  refine ⟨fun h hh => ?_, ?_⟩
  · rw [e8 h hh, h1 h hh]
    congr 1
    exact sumN_congr fun i hi => by rw [ea i hi, eh i hi]
  · rw [e7, h2]
    congr 1
    exact sumN_congr fun i hi => (ea i hi).symm
theorem kU_congr {s s' : Nat → Int32} {pc cc : Nat} (hpc : pc ≤ 20) (h0 : ∀ c, c < cc → isN (s (300 + 6 * c + 0)) pc) (e0 : ∀ c, c < cc → s' (300 + 6 * c + 0) = s (300 + 6 * c + 0)) (ep : ∀ p, p < pc → ∀ i, i < 3 ∨ i = 9 → s' (100 + 10 * p + i) = s (100 + 10 * p + i)) (h : kU s pc cc) : kU s' pc cc := by
  obtain ⟨h1, h2⟩ := h
  refine ⟨fun c d hc hd hcd => ?_, fun p hp => ?_⟩
  · have hp := ((h0 c hc).nat (by omega)).2
    have hr := ((h0 d hd).nat (by omega)).2
    unfold twin
    rw [e0 c hc, e0 d hd, ep _ hp 0 (by omega), ep _ hp 1 (by omega), ep _ hp 2 (by omega), ep _ hr 0 (by omega), ep _ hr 1 (by omega), ep _ hr 2 (by omega)]
    exact h1 c d hc hd hcd
  · rw [ep p hp 9 (by omega), h2 p hp]
    constructor
    · rintro ⟨c, hc, e⟩; exact ⟨c, hc, by rw [e0 c hc]; exact e⟩
    · rintro ⟨c, hc, e⟩; exact ⟨c, hc, by rw [← e0 c hc]; exact e⟩
theorem kM_congr {s s' : Nat → Int32} {hc D : Nat} (e1 : s' 1 = s 1) (e7 : s' 7 = s 7) (e8 : s' 8 = s 8) (e9 : s' 9 = s 9) (eb : ∀ h, h < hc → s' (20 + 9 * h + 7) = s (20 + 9 * h + 7)) (h : kM s hc D) : kM s' hc D := by
  obtain ⟨h1, d, h2, h3, h4⟩ := h
  refine ⟨by rw [e1, e8, e9, sumI_congr eb]; exact h1, d, h2, by rw [e8]; exact h3, fun h hh => ?_⟩
  rw [eb h hh, e7]
  exact h4 h hh
theorem kS_congr {s s' : Nat → Int32} {hc ac : Nat} (hac : ac ≤ 3) (hhc : hc ≤ 8) (e : ∀ k, 20 ≤ k → k < 100 → (k < 92 → (k - 20) % 9 < 7) → s' k = s k) (h : kS s hc ac) : kS s' hc ac := by
  obtain ⟨h1, h2⟩ := h
  refine ⟨fun x hx => ?_, fun h hh => ?_⟩
  · rw [e (95 + x) (by omega) (by omega) (by omega)]; exact h1 x hx
  · obtain ⟨n, n1, n2, n3, n4⟩ := h2 h hh
    refine ⟨n, n1, n2, by rw [e _ (by omega) (by omega) (by omega)]; exact n3, fun k hk => ?_⟩
    rw [e (20 + 9 * h + 1 + k) (by omega) (by omega) (by omega)]
    exact n4 k hk
theorem kW_congr {s s' : Nat → Int32} {ck : Nat} (e : ∀ k, 420 ≤ k → s' k = s k) (h : kW s ck) : kW s' ck := fun t ht => by
  rw [e _ (by omega), e _ (by omega)]; exact h t ht
theorem sumI_upd {f : Nat → Int32} {n h : Nat} {d : Int32} (hh : h < n) : sumI (fun i => if i = h then f i + d else f i) n = sumI f n + d := by
  induction n with
  | zero => omega
  | succ n ih =>
    rw [sumI_succ, sumI_succ]
    by_cases e : h = n
    · subst e
      rw [sumI_congr (g := f) (fun i hi => by rw [if_neg (by omega)]), if_pos rfl]
      exact (Int32.add_assoc _ _ _).symm
    · rw [ih (by omega), if_neg (fun e' => e e'.symm), Int32.add_assoc, Int32.add_assoc, Int32.add_comm d]
/-- a policy's premium is a number -/
theorem kP.prem {s : Nat → Int32} {hc p : Nat} (k : kP s hc p) : ∃ m, m ≤ 100000 ∧ s (100 + 10 * p + 7) = nI m := by
  obtain ⟨k0, -, -, ⟨d, d1, d2, e3⟩, ⟨v, v1, v2, e4⟩, kl, k7, -, -⟩ := k
  have hvd : v * d ≤ 500 * 24 := Nat.mul_le_mul v2 d2
  rw [k7]
  unfold s_prem
  rw [e3, e4]
  split
  · rw [n_mul, n_div (by omega) (by omega), n_add]
    have := Nat.div_le_self (v * d) 40
    exact ⟨_, by omega, rfl⟩
  · rename_i h
    obtain ⟨b, hb, eb⟩ := k0
    have hb1 : b = 1 := by
      by_cases h9 : b = 0
      · subst h9; exact absurd eb h
      · omega
    subst hb1
    obtain ⟨l, hl, el⟩ := kl eb
    rw [el, n_mul, n_mul, n_add, n_div (by omega) (by omega), n_add]
    have := Nat.div_le_self (v * d) (20 + 2 * l)
    exact ⟨_, by omega, rfl⟩
theorem kM_pay {s : Nat → Int32} {hc D p : Nat} (hhc : hc ≤ 8) (k : kP s hc p) (hcan : s_can s p = true) (hD : D ≤ 1000000000) (h7 : nat (s 7) ≤ 1000000) (h : kM s hc D) : kM (s_pay s p) hc D := by
  obtain ⟨m, hm, em⟩ := k.prem
  obtain ⟨-, ⟨h0, hh0, eh⟩, -⟩ := k
  obtain ⟨h1, d, h2, h3, h4⟩ := h
  obtain ⟨b, eb, hb⟩ := h4 h0 hh0
  unfold s_can at hcan
  rw [eh, nat_n (by omega), eb, em] at hcan
  have hle : m ≤ b := by
    simp only [Bool.not_eq_true', decide_eq_false_iff_not, n_lt (show b < 2147483648 by omega) (show m < 2147483648 by omega)] at hcan
    omega
  have e1 : s_pay s p 1 = s 1 + nI m := by unfold s_pay; rw [upd_ne (by omega), upd_same, em]
  have e7 : s_pay s p 7 = s 7 := by unfold s_pay; rw [eh, nat_n (by omega)]; simp (disch := omega) only [upd_ne]
  have e8 : s_pay s p 8 = s 8 := by unfold s_pay; rw [eh, nat_n (by omega)]; simp (disch := omega) only [upd_ne]
  have e9 : s_pay s p 9 = s 9 := by unfold s_pay; rw [eh, nat_n (by omega)]; simp (disch := omega) only [upd_ne]
  have eb9 : ∀ h, h < hc → s_pay s p (20 + 9 * h + 7) = if h = h0 then s (20 + 9 * h + 7) + (-nI m) else s (20 + 9 * h + 7) := fun h hh => by
    unfold s_pay
    rw [eh, nat_n (by omega), em]
    by_cases e : h = h0
    · subst e
      rw [upd_ne (by omega), upd_ne (by omega), upd_same, if_pos rfl, Int32.sub_eq_add_neg]
    · rw [upd_ne (by omega), upd_ne (by omega), upd_ne (by omega), if_neg e]
  refine ⟨?_, d, h2, by rw [e8]; exact h3, fun h hh => ?_⟩
  · rw [sumI_congr eb9, sumI_upd (f := fun h => s (20 + 9 * h + 7)) hh0, e1, e8, e9, ← h1]
    rw [Int32.add_assoc, Int32.add_comm (sumI _ _), ← Int32.add_assoc (nI m), Int32.add_right_neg, Int32.zero_add]
  · rw [eb9 h hh, e7]
    by_cases e : h = h0
    · subst e
      rw [if_pos rfl, eb, ← Int32.sub_eq_add_neg, n_sub hle]
      exact ⟨_, rfl, by omega⟩
    · rw [if_neg e]; exact h4 h hh
