/-! Decisions and payments keep what a row keeps. -/
theorem cntN_all_le {p : Nat → Bool} {n : Nat} : cntN p n ≤ n := cntN_le p n
/-- the damage is a number, no greater than the cover -/
theorem damage_n {s : Nat → Int32} {hc ck p : Nat} (h0 : s 0 = nI ck) (hck : ck ≤ 1000) (k : kP s hc p) (kw : kW s ck) : ∃ m, m ≤ 500 ∧ s_damage s p = nI m := by
  obtain ⟨⟨b, hb, eb⟩, -, ⟨f, hf, e2⟩, ⟨d, d1, d2, e3⟩, ⟨v, v1, v2, e4⟩, kl, -, -, -⟩ := k
  have hlen : s_len s p ≤ d ∧ (∀ i, i < s_len s p → f + i < ck) := by
    unfold s_len
    rw [h0, e2, e3, nat_n (by omega), nat_n (by omega), nat_n (by omega)]
    exact ⟨by omega, fun i hi => by omega⟩
  unfold s_damage
  rw [eb, e3, e4]
  by_cases hb0 : b = 0
  · subst hb0
    rw [if_pos rfl]
    have hc := cntN_le (fun i => s_bad s p (nat (s (100 + 10 * p + 2)) + i)) (s_len s p)
    have hc2 : s_cnt s p ≤ d := Nat.le_trans hc hlen.1
    have hvc : v * s_cnt s p ≤ v * d := Nat.mul_le_mul_left v hc2
    have hvd : v * d ≤ 500 * 24 := Nat.mul_le_mul v2 d2
    rw [n_mul, n_div (by omega) (by omega)]
    refine ⟨_, ?_, rfl⟩
    have := Nat.div_le_div_right (c := d) hvc
    rw [Nat.mul_div_cancel v (by omega)] at this
    omega
  · have hb1 : b = 1 := by omega
    subst hb1
    obtain ⟨l, hl, el⟩ := kl eb
    have hr : ∃ R, R ≤ 1200 ∧ s_rain s p = nI R := by
      unfold s_rain
      rw [e2, nat_n (by omega)]
      have key : ∀ n, n ≤ s_len s p → ∃ R, R ≤ 50 * n ∧ sumI (fun i => s (1420 + (f + i))) n = nI R := by
        intro n
        induction n with
        | zero => intro _; exact ⟨0, by omega, rfl⟩
        | succ n ih =>
          intro hn
          obtain ⟨R, hR, eR⟩ := ih (by omega)
          obtain ⟨x, hx, ex⟩ := (kw (f + n) (hlen.2 n (by omega))).2
          rw [sumI_succ, eR, ex, n_add]
          exact ⟨_, by omega, rfl⟩
      obtain ⟨R, hR, eR⟩ := key _ (Nat.le_refl _)
      exact ⟨R, by omega, eR⟩
    obtain ⟨R, hR, eR⟩ := hr
    rw [if_neg (by rw [n_eq (by omega) (by omega)]; omega), el, eR]
    have hx : ∃ x, x ≤ 1200 ∧ f_max (nI 0) (nI R - nI l) = nI x := by
      unfold f_max
      by_cases h : l ≤ R
      · rw [n_sub h]
        by_cases h9 : R - l = 0
        · rw [h9, if_neg (by rw [n_lt (by omega) (by omega)]; omega)]; exact ⟨0, by omega, rfl⟩
        · rw [if_pos (by rw [n_lt (by omega) (by omega)]; omega)]; exact ⟨_, by omega, rfl⟩
      · have hneg : nI R - nI l < nI 0 := by
          rw [Int32.lt_iff_toInt_lt, Int32.toInt_sub, nI_toInt (by omega), nI_toInt (by omega), nI_toInt (by omega), Int.bmod_eq_of_le (by omega) (by omega)]
          omega
        rw [if_neg (by rw [i32_nlt]; exact Int32.le_of_lt hneg)]
        exact ⟨0, by omega, rfl⟩
    obtain ⟨x, hx, ex⟩ := hx
    have hvx : v * x ≤ 500 * 1200 := Nat.mul_le_mul v2 hx
    have := Nat.div_le_self (v * x) 10
    rw [ex, n_mul, n_div (by omega) (by omega), n_min (by omega) (by omega)]
    exact ⟨_, by omega, rfl⟩
/-- so is what is granted -/
theorem granted_n {dm st : Nat} (hd : dm ≤ 500) (hs : st < 10) : nI dm - nI dm * nI 5 * nI st / nI 100 = nI (dm - dm * 5 * st / 100) ∧ dm - dm * 5 * st / 100 ≤ 500 := by
  have h1 : dm * 5 * st ≤ 500 * 5 * 9 := Nat.mul_le_mul (Nat.mul_le_mul_right 5 hd) (by omega)
  have h2 : dm * 5 * st ≤ dm * 5 * 9 := Nat.mul_le_mul_left _ (by omega)
  have h3 := Nat.div_le_div_right (c := 100) h2
  have h4 : dm * 5 * 9 / 100 ≤ dm := by omega
  rw [n_mul, n_mul, n_div (by omega) (by omega), n_sub (by omega)]
  exact ⟨rfl, by omega⟩
theorem cntN_inc {p q : Nat → Bool} {n c : Nat} (hc : c < n) (hp : p c = false) (hq : q c = true) (h : ∀ i, i ≠ c → q i = p i) : cntN q n = cntN p n + 1 := (cntN_dec hc hq hp (fun i hi => (h i hi).symm)).symm
theorem isG_of {s : Nat → Int32} {c : Nat} (h : s (300 + 6 * c + 3) = nI 0) : isG s c = false ∧ isQ s c = false := by
  unfold isG isQ
  rw [h]
  exact ⟨by decide, by decide⟩
theorem kG.granted {s : Nat → Int32} {cc q n : Nat} {g : Nat → Nat} (h : kG s cc g q n) {i : Nat} (hi : i < n) : isG s (g i) = true := by
  unfold isG
  rw [h.2.2.2.2.2.1 i hi]
  split
  · decide
  · decide
theorem kG_congr2 {s s' : Nat → Int32} {cc q n : Nat} {g : Nat → Nat} (eG : ∀ c, c < cc → isG s' c = isG s c) (eQ : ∀ c, c < cc → isQ s' c = isQ s c) (e3 : ∀ i, i < n → s' (300 + 6 * g i + 3) = s (300 + 6 * g i + 3)) (e5 : ∀ i, i < n → s' (300 + 6 * g i + 5) = s (300 + 6 * g i + 5)) (h : kG s cc g q n) : kG s' cc g q n := by
  obtain ⟨h1, h2, h3, h4, h5, h6, h7, h8⟩ := h
  refine ⟨h1, by rw [cntN_congr eG]; exact h2, by rw [cntN_congr eQ]; exact h3, h4, h5, fun i hi => by rw [e3 i hi]; exact h6 i hi, fun c hc hg => h7 c hc (by rw [← eG c hc]; exact hg), fun i j hij hj => ?_⟩
  rw [e5 i (by omega), e5 j hj]
  exact h8 i j hij hj
/-- work on an undecided claim that isn't the last hour -/
theorem K_work {s : Nat → Int32} {D ck hc ac pc cc q n k w : Nat} {g : Nat → Nat} (K : kAll s D ck hc ac pc cc g q n) (hk : k < cc) (h3 : s (300 + 6 * k + 3) = nI 0) (hw : w ≤ 1 + nat (s (95 + nat (s (300 + 6 * k + 1))))) (hw2 : w < 12) : kAll (upd s (300 + 6 * k + 2) (nI w)) D ck hc ac pc cc g q n := by
  obtain ⟨kc, kp, kk, kg, kd, kr, ku, km, ks, kw⟩ := K
  obtain ⟨⟨c0, c0'⟩, ⟨c2, c2', c2''⟩, ⟨c3, c3', c3''⟩, ⟨c4, c4'⟩, ⟨c5, c5'⟩⟩ := kc
  have e : ∀ j, j ≠ 300 + 6 * k + 2 → upd s (300 + 6 * k + 2) (nI w) j = s j := fun j h => upd_ne h
  refine ⟨⟨⟨?_, c0'⟩, ⟨?_, c2', c2''⟩, ⟨?_, c3', c3''⟩, ⟨?_, c4'⟩, ⟨?_, c5'⟩⟩, ?_, ?_, ?_, ?_, ?_, ?_, ?_, ?_, ?_⟩
  · rw [e 0 (by omega)]; exact c0
  · rw [e 2 (by omega)]; exact c2
  · rw [e 3 (by omega)]; exact c3
  · rw [e 4 (by omega)]; exact c4
  · rw [e 5 (by omega)]; exact c5
  · exact fun p' hp' => kP_congr (fun i hi => e _ (by omega)) (kp p' hp')
  · intro c hc
    by_cases h : c = k
    · subst h
      obtain ⟨h0, h1, h2, h3', h4, h5, h6, h7, h8⟩ := kk c hc
      have hx := (h1.nat (by omega)).2
      unfold kK
      rw [upd_same, e (300 + 6 * c + 0) (by omega), e (300 + 6 * c + 1) (by omega), e (300 + 6 * c + 3) (by omega), e (300 + 6 * c + 4) (by omega), e (300 + 6 * c + 5) (by omega), e (95 + nat (s (300 + 6 * c + 1))) (by omega), nat_n (by omega)]
      exact ⟨h0, h1, ⟨w, hw2, rfl⟩, h3', h4, h5, fun _ => hw, h7, h8⟩
    · exact kK_congr c3'' (fun i hi => e _ (by omega)) (fun x hx => e _ (by omega)) (kk c hc)
  · exact kG_congr (fun c hc => e _ (by omega)) (fun c hc => e _ (by omega)) kg
  · exact kD_congr (e _ (by omega)) (fun c hc => e _ (by omega)) (fun c hc => e _ (by omega)) kd
  · exact kR_congr c4' (fun i hi => kg.2.2.2.1 i (by have := kg.1; omega)) (fun c hc => (kk c hc).1) (fun h hh => e _ (by omega)) (e _ (by omega)) (fun c hc => e _ (by omega)) (fun i hi => e _ (by omega)) (fun p hp => e _ (by omega)) kr
  · exact kU_congr c4' (fun c hc => (kk c hc).1) (fun c hc => e _ (by omega)) (fun p hp i hi => e _ (by omega)) ku
  · exact kM_congr (e _ (by omega)) (e _ (by omega)) (e _ (by omega)) (e _ (by omega)) (fun h hh => e _ (by omega)) km
  · exact kS_congr c3'' c2'' (fun k h1 h2 h3 => e _ (by omega)) ks
  · exact kW_congr (fun k h => e _ (by omega)) kw
def gUp (g : Nat → Nat) (n k : Nat) : Nat → Nat := fun i => if i = n then k else g i
/-- a decision -/
theorem K_dec {s s2 : Nat → Int32} {D ck hc ac pc cc q n k am w : Nat} {g : Nat → Nat} (K : kAll s D ck hc ac pc cc g q n) (hk : k < cc) (h3 : s (300 + 6 * k + 3) = nI 0) (hw2 : w < 12) (ham : am ≤ 500)
    (e : ∀ j, j ≠ 10 → j ≠ 300 + 6 * k + 2 → j ≠ 300 + 6 * k + 3 → j ≠ 300 + 6 * k + 4 → j ≠ 300 + 6 * k + 5 → s2 j = s j) (e10 : s2 10 = s 10 + nI 1) (f2 : s2 (300 + 6 * k + 2) = nI w) (f5 : s2 (300 + 6 * k + 5) = s 10 + nI 1) (f4 : s2 (300 + 6 * k + 4) = nI am) (f3 : s2 (300 + 6 * k + 3) = if am = 0 then nI 1 else nI 2) :
    kAll s2 D ck hc ac pc cc (if am = 0 then g else gUp g n k) q (if am = 0 then n else n + 1) := by
  obtain ⟨kc, kp, kk, kg, kd, kr, ku, km, ks, kw⟩ := K
  obtain ⟨⟨c0, c0'⟩, ⟨c2, c2', c2''⟩, ⟨c3, c3', c3''⟩, ⟨c4, c4'⟩, ⟨c5, c5'⟩⟩ := kc
  have hun := isG_of h3
  have gk : ∀ i, i < n → g i ≠ k := fun i hi he => by
    have := kg.granted hi
    rw [he, hun.1] at this; cases this
  have hqn := kg.1
  -- how many are decided
  have hs3 : ¬ s2 (300 + 6 * k + 3) = nI 0 := by rw [f3]; split <;> (rw [n_eq (by omega) (by omega)]; omega)
  have hcnt : cntN (fun c => !decide (s2 (300 + 6 * c + 3) = nI 0)) cc = cntN (fun c => !decide (s (300 + 6 * c + 3) = nI 0)) cc + 1 := cntN_inc hk (by rw [h3]; rfl) (by simp [hs3]) (fun i hi => by
    rw [e _ (by omega) (by omega) (by omega) (by omega) (by omega)])
  have hcc1 : cntN (fun c => !decide (s (300 + 6 * c + 3) = nI 0)) cc + 1 ≤ cc := by rw [← hcnt]; exact cntN_le _ _
  have v10 : s 10 + nI 1 = nI (cntN (fun c => !decide (s (300 + 6 * c + 3) = nI 0)) cc + 1) := by rw [kd.1, n_add]
  have kG2 : kG s2 cc (if am = 0 then g else gUp g n k) q (if am = 0 then n else n + 1) := by
    have eQ : ∀ c, c < cc → isQ s2 c = isQ s c := fun c hc => by
      by_cases h : c = k
      · subst h
        rw [hun.2]
        unfold isQ
        rw [f3]
        split <;> decide
      · unfold isQ; rw [e _ (by omega) (by omega) (by omega) (by omega) (by omega)]
    by_cases h0 : am = 0
    · rw [if_pos h0, if_pos h0]
      refine kG_congr2 (fun c hc => ?_) eQ (fun i hi => ?_) (fun i hi => ?_) kg
      · by_cases h : c = k
        · subst h
          rw [hun.1]
          unfold isG
          rw [f3, if_pos h0]; decide
        · unfold isG; rw [e _ (by omega) (by omega) (by omega) (by omega) (by omega)]
      · have := gk i hi; exact e _ (by omega) (by omega) (by omega) (by omega) (by omega)
      · have := gk i hi; exact e _ (by omega) (by omega) (by omega) (by omega) (by omega)
    · rw [if_neg h0, if_neg h0]
      obtain ⟨h1, h2, h3', h4, h5, h6, h7, h8⟩ := kg
      have gu : ∀ i, i < n → gUp g n k i = g i := fun i hi => if_neg (by omega)
      have gn : gUp g n k n = k := if_pos rfl
      refine ⟨by omega, ?_, by rw [cntN_congr eQ]; exact h3', ?_, ?_, ?_, ?_, ?_⟩
      · rw [h2]
        refine (cntN_inc hk hun.1 (by unfold isG; rw [f3, if_neg h0]; decide) (fun i hi => ?_)).symm
        unfold isG; rw [e _ (by omega) (by omega) (by omega) (by omega) (by omega)]
      · intro i hi
        by_cases hin : i = n
        · subst hin; rw [gn]; exact hk
        · rw [gu i (by omega)]; exact h4 i (by omega)
      · intro i j hi hj hij
        by_cases hin : i = n
        · by_cases hjn : j = n
          · omega
          · rw [hin, gn, gu j (by omega)] at hij
            exact absurd hij.symm (gk j (by omega))
        · by_cases hjn : j = n
          · rw [hjn, gn, gu i (by omega)] at hij
            exact absurd hij (gk i (by omega))
          · rw [gu i (by omega), gu j (by omega)] at hij
            exact h5 i j (by omega) (by omega) hij
      · intro i hi
        by_cases hin : i = n
        · subst hin; rw [gn, f3, if_neg h0, if_neg (by omega)]
        · have := gk i (by omega)
          rw [gu i (by omega), e _ (by omega) (by omega) (by omega) (by omega) (by omega)]
          exact h6 i (by omega)
      · intro c hc hg
        by_cases h : c = k
        · exact ⟨n, by omega, by rw [gn, h]⟩
        · have hg' : isG s c = true := by
            unfold isG at hg ⊢
            rw [e _ (by omega) (by omega) (by omega) (by omega) (by omega)] at hg
            exact hg
          obtain ⟨i, hi, ei⟩ := h7 c hc hg'
          exact ⟨i, by omega, by rw [gu i hi, ei]⟩
      · intro i j hij hj
        have gi := gk i (by omega)
        rw [gu i (by omega)]
        by_cases hjn : j = n
        · subst hjn
          rw [gn, f5, v10, nat_n (by omega), e _ (by omega) (by omega) (by omega) (by omega) (by omega)]
          have h9 := kd.2 (g i) (h4 i (by omega)) (fun h0' => by
            have := kG.granted ⟨h1, h2, h3', h4, h5, h6, h7, h8⟩ (i := i) (by omega)
            rw [(isG_of h0').1] at this; cases this)
          rw [kd.1, nat_n (by omega)] at h9
          omega
        · have gj := gk j (by omega)
          rw [gu j (by omega), e _ (by omega) (by omega) (by omega) (by omega) (by omega), e _ (by omega) (by omega) (by omega) (by omega) (by omega)]
          exact h8 i j hij (by omega)
  refine ⟨⟨⟨?_, c0'⟩, ⟨?_, c2', c2''⟩, ⟨?_, c3', c3''⟩, ⟨?_, c4'⟩, ⟨?_, c5'⟩⟩, ?_, ?_, kG2, ?_, ?_, ?_, ?_, ?_, ?_⟩
  · rw [e 0 (by omega) (by omega) (by omega) (by omega) (by omega)]; exact c0
  · rw [e 2 (by omega) (by omega) (by omega) (by omega) (by omega)]; exact c2
  · rw [e 3 (by omega) (by omega) (by omega) (by omega) (by omega)]; exact c3
  · rw [e 4 (by omega) (by omega) (by omega) (by omega) (by omega)]; exact c4
  · rw [e 5 (by omega) (by omega) (by omega) (by omega) (by omega)]; exact c5
  · exact fun p' hp' => kP_congr (fun i hi => e _ (by omega) (by omega) (by omega) (by omega) (by omega)) (kp p' hp')
  · intro c hc
    by_cases h : c = k
    · subst h
      obtain ⟨h0, h1, h2, h3', h4, h5, h6, h7, h8⟩ := kk c hc
      have hx := (h1.nat (by omega)).2
      unfold kK
      rw [f2, f4, f5, v10, e (300 + 6 * c + 0) (by omega) (by omega) (by omega) (by omega) (by omega), e (300 + 6 * c + 1) (by omega) (by omega) (by omega) (by omega) (by omega), f3]
      refine ⟨h0, h1, ⟨w, hw2, rfl⟩, ?_, ⟨am, by omega, rfl⟩, ⟨_, by omega, rfl⟩, ?_, ?_, ?_⟩
      · split
        · exact ⟨1, by omega, rfl⟩
        · exact ⟨2, by omega, rfl⟩
      · intro h9
        split at h9 <;> (rw [n_eq (by omega) (by omega)] at h9; omega)
      · by_cases ha : am = 0
        · intro _; rw [ha]
        · rw [if_neg ha]
          intro h9
          rcases h9 with h9 | h9 <;> (rw [n_eq (by omega) (by omega)] at h9; omega)
      · by_cases ha : am = 0
        · rw [if_pos ha]
          intro h9
          rcases h9 with h9 | h9 <;> (rw [n_eq (by omega) (by omega)] at h9; omega)
        · intro _
          rw [n_eq (by omega) (by omega)]
          exact ha
    · exact kK_congr c3'' (fun i hi => e _ (by omega) (by omega) (by omega) (by omega) (by omega)) (fun x hx => e _ (by omega) (by omega) (by omega) (by omega) (by omega)) (kk c hc)
  · refine ⟨by rw [e10, v10, hcnt], fun c hc h => ?_⟩
    rw [e10, v10, nat_n (by omega)]
    by_cases hck : c = k
    · subst hck; rw [f5, v10, nat_n (by omega)]; omega
    · rw [e _ (by omega) (by omega) (by omega) (by omega) (by omega)] at h ⊢
      have := kd.2 c hc h
      rw [kd.1, nat_n (by omega)] at this
      omega
  · have kr2 := kR_congr (s' := s2) c4' (fun i hi => kg.2.2.2.1 i (by omega)) (fun c hc => (kk c hc).1) (fun h hh => e _ (by omega) (by omega) (by omega) (by omega) (by omega)) (e _ (by omega) (by omega) (by omega) (by omega) (by omega)) (fun c hc => e _ (by omega) (by omega) (by omega) (by omega) (by omega)) (fun i hi => by have := gk i (by omega); exact e _ (by omega) (by omega) (by omega) (by omega) (by omega)) (fun p hp => e _ (by omega) (by omega) (by omega) (by omega) (by omega)) kr
    split
    · exact kr2
    · have gu : ∀ i, i < q → gUp g n k i = g i := fun i hi => if_neg (by omega)
      refine ⟨fun h hh => (kr2.1 h hh).trans ?_, kr2.2.trans ?_⟩
      · congr 1; exact sumN_congr fun i hi => by rw [gu i hi]
      · congr 1; exact sumN_congr fun i hi => by rw [gu i hi]
  · exact kU_congr c4' (fun c hc => (kk c hc).1) (fun c hc => e _ (by omega) (by omega) (by omega) (by omega) (by omega)) (fun p hp i hi => e _ (by omega) (by omega) (by omega) (by omega) (by omega)) ku
  · exact kM_congr (e _ (by omega) (by omega) (by omega) (by omega) (by omega)) (e _ (by omega) (by omega) (by omega) (by omega) (by omega)) (e _ (by omega) (by omega) (by omega) (by omega) (by omega)) (e _ (by omega) (by omega) (by omega) (by omega) (by omega)) (fun h hh => e _ (by omega) (by omega) (by omega) (by omega) (by omega)) km
  · exact kS_congr c3'' c2'' (fun k h1 h2 h3 => e _ (by omega) (by omega) (by omega) (by omega) (by omega)) ks
  · exact kW_congr (fun k h => e _ (by omega) (by omega) (by omega) (by omega) (by omega)) kw
