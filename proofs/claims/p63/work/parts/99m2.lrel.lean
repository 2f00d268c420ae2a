/-! The law's own memory against a row. -/
def s_hit (s : Nat → Int32) (p : Nat) : Int32 := if s (100 + 10 * p + 0) = nI 0 then nI (s_cnt s p) else s_rain s p
/-- how many of the first c claims wait for x -/
def s_rk (s : Nat → Int32) (x c : Nat) : Nat := cntN (fun c => s_und s c (nI x)) c
def lP (σ : f_M) (s : Nat → Int32) (p : Nat) : Prop := (σ 159 p = s (100 + 10 * p + 0) ∧ σ 160 p = s (100 + 10 * p + 1) ∧ σ 161 p = s (100 + 10 * p + 2) ∧ σ 162 p = s (100 + 10 * p + 3) ∧ σ 163 p = s (100 + 10 * p + 4)) ∧ (σ 164 p = s (100 + 10 * p + 5) ∧ (s (100 + 10 * p + 0) = nI 0 → σ 165 p = s (100 + 10 * p + 6)) ∧ σ 166 p = s (100 + 10 * p + 7) ∧ σ 168 p = s (100 + 10 * p + 8) ∧ σ 169 p = s (100 + 10 * p + 9))
def lC (σ : f_M) (s : Nat → Int32) (c : Nat) : Prop := σ 170 c = s (300 + 6 * c + 0) ∧ σ 171 c = s (300 + 6 * c + 1) ∧ σ 172 c = s (300 + 6 * c + 3) ∧ σ 173 c = s (300 + 6 * c + 4)
def lD (σ : f_M) (s : Nat → Int32) (cc x : Nat) : Prop := σ 178 x = nI (s_rk s x cc) ∧ (∀ c, c < cc → s_und s c (nI x) = true → σ (175 + x) (s_rk s x c) = nI c ∧ s (300 + 6 * c + 2) = if s_rk s x c = 0 then σ 179 x else nI 0) ∧ (s_rk s x cc = 0 → σ 179 x = nI 0)
def lS (σ : f_M) (s : Nat → Int32) (hc ac pc cc m : Nat) : Prop := (σ 155 22 = nI hc ∧ σ 155 23 = nI ac ∧ σ 155 24 = nI pc ∧ σ 155 25 = nI cc) ∧ σ 155 26 = s 0 ∧ σ 155 27 = s 1 ∧ σ 155 28 = s 6 ∧ σ 155 29 = s 7 ∧ σ 155 30 = s 8 ∧ σ 155 31 = nI m ∧ σ 155 32 = s 10
def LR (σ : f_M) (s : Nat → Int32) (hc ac pc cc : Nat) (g : Nat → Nat) (q n : Nat) : Prop := lS σ s hc ac pc cc (n - q) ∧ (∀ h, h < hc → σ 156 h = s (20 + 9 * h + 7) ∧ σ 157 h = s (20 + 9 * h + 8)) ∧ (∀ x, x < ac → σ 158 x = s (95 + x)) ∧ (∀ p, p < pc → lP σ s p ∧ σ 167 p = s_hit s p) ∧ (∀ p, pc ≤ p → p < 20 → σ 167 p = nI 0 ∧ σ 168 p = nI 0 ∧ σ 169 p = nI 0) ∧ (∀ c, c < cc → lC σ s c) ∧ (∀ c, cc ≤ c → c < 20 → σ 172 c = nI 0 ∧ σ 173 c = nI 0) ∧ (∀ x, x < ac → lD σ s cc x) ∧ ∀ i, i < n - q → σ 180 i = nI (g (q + i))
theorem s_len_congr {s s' : Nat → Int32} {p : Nat} (h0 : s' 0 = s 0) (hP : ∀ i, i < 7 → s' (100 + 10 * p + i) = s (100 + 10 * p + i)) : s_len s' p = s_len s p := by
  unfold s_len; rw [h0, hP 2 (by omega), hP 3 (by omega)]
theorem s_hit_congr {s s' : Nat → Int32} {p : Nat} (h0 : s' 0 = s 0) (hP : ∀ i, i < 7 → s' (100 + 10 * p + i) = s (100 + 10 * p + i)) (hw : ∀ t, 420 ≤ t → s' t = s t) : s_hit s' p = s_hit s p := by
  have e0 := hP 0 (by omega)
  have e2 := hP 2 (by omega)
  have e5 := hP 5 (by omega)
  have e6 := hP 6 (by omega)
  have hl := s_len_congr h0 hP
  have hc : s_cnt s' p = s_cnt s p := by
    unfold s_cnt
    rw [hl, e2]
    refine cntN_congr fun i _ => ?_
    unfold s_bad
    rw [e5, e6, hw _ (by omega)]
  have hr : s_rain s' p = s_rain s p := by
    unfold s_rain
    rw [hl, e2]
    exact sumI_congr fun i _ => hw _ (by omega)
  unfold s_hit
  rw [e0, hc, hr]
theorem lP_congr {σ σ' : f_M} {s s' : Nat → Int32} {p : Nat} (f : ∀ r, 159 ≤ r → r ≤ 169 → r ≠ 167 → σ' r p = σ r p) (e : ∀ i, i < 10 → s' (100 + 10 * p + i) = s (100 + 10 * p + i)) (h : lP σ s p) : lP σ' s' p := by
  unfold lP at h ⊢
  rw [f 159 (by omega) (by omega) (by omega), f 160 (by omega) (by omega) (by omega), f 161 (by omega) (by omega) (by omega), f 162 (by omega) (by omega) (by omega), f 163 (by omega) (by omega) (by omega), f 164 (by omega) (by omega) (by omega), f 165 (by omega) (by omega) (by omega), f 166 (by omega) (by omega) (by omega), f 168 (by omega) (by omega) (by omega), f 169 (by omega) (by omega) (by omega), e 0 (by omega), e 1 (by omega), e 2 (by omega), e 3 (by omega), e 4 (by omega), e 5 (by omega), e 6 (by omega), e 7 (by omega), e 8 (by omega), e 9 (by omega)]
  exact h
theorem lC_congr {σ σ' : f_M} {s s' : Nat → Int32} {c : Nat} (f : ∀ r, 170 ≤ r → r ≤ 173 → σ' r c = σ r c) (e : ∀ i, i < 6 → s' (300 + 6 * c + i) = s (300 + 6 * c + i)) (h : lC σ s c) : lC σ' s' c := by
  unfold lC at h ⊢
  rw [f 170 (by omega) (by omega), f 171 (by omega) (by omega), f 172 (by omega) (by omega), f 173 (by omega) (by omega), e 0 (by omega), e 1 (by omega), e 3 (by omega), e 4 (by omega)]
  exact h
theorem s_und_congr {s s' : Nat → Int32} {c : Nat} {x : Int32} (e : ∀ i, i < 6 → s' (300 + 6 * c + i) = s (300 + 6 * c + i)) : s_und s' c x = s_und s c x := by
  unfold s_und; rw [e 3 (by omega), e 1 (by omega)]
theorem s_rk_congr {s s' : Nat → Int32} {x m : Nat} (e : ∀ c, c < m → ∀ i, i < 6 → s' (300 + 6 * c + i) = s (300 + 6 * c + i)) : s_rk s' x m = s_rk s x m := cntN_congr fun c hc => s_und_congr (e c hc)
theorem lD_congr {σ σ' : f_M} {s s' : Nat → Int32} {cc x : Nat} (f : σ' (175 + x) = σ (175 + x)) (f8 : σ' 178 x = σ 178 x) (f9 : σ' 179 x = σ 179 x) (e : ∀ c, c < cc → ∀ i, i < 6 → s' (300 + 6 * c + i) = s (300 + 6 * c + i)) (h : lD σ s cc x) : lD σ' s' cc x := by
  obtain ⟨h1, h2, h3⟩ := h
  unfold lD
  rw [f, f8, f9, s_rk_congr e]
  refine ⟨h1, fun c hc hu => ?_, h3⟩
  rw [s_und_congr (e c hc)] at hu
  rw [s_rk_congr (fun d hd => e d (by omega)), e c hc 2 (by omega)]
  exact h2 c hc hu
/-- only money has changed -/
theorem LR_money {σ σ' : f_M} {s s' : Nat → Int32} {hc ac pc cc q n : Nat} {g : Nat → Nat} (hac : ac ≤ 3) (hpc : pc ≤ 20) (hcc : cc ≤ 20) (R : LR σ s hc ac pc cc g q n) (f : ∀ r, 157 < r → σ' r = σ r) (f5 : ∀ i, (i < 27 ∨ 30 < i) → σ' 155 i = σ 155 i) (e : ∀ k, k ≠ 1 → k ≠ 6 → k ≠ 7 → k ≠ 8 → (k < 20 ∨ 92 ≤ k) → s' k = s k) (m : σ' 155 27 = s' 1 ∧ σ' 155 28 = s' 6 ∧ σ' 155 29 = s' 7 ∧ σ' 155 30 = s' 8) (b : ∀ h, h < hc → σ' 156 h = s' (20 + 9 * h + 7) ∧ σ' 157 h = s' (20 + 9 * h + 8)) : LR σ' s' hc ac pc cc g q n := by
  obtain ⟨⟨⟨a1, a2, a3, a4⟩, a5, -, -, -, -, a6, a7⟩, -, r3, r4, r5, r6, r7, r8, r9⟩ := R
  have ew : ∀ k, 92 ≤ k → s' k = s k := fun k h => e k (by omega) (by omega) (by omega) (by omega) (by omega)
  have e0 : s' 0 = s 0 := e 0 (by omega) (by omega) (by omega) (by omega) (by omega)
  have e10 : s' 10 = s 10 := e 10 (by omega) (by omega) (by omega) (by omega) (by omega)
  refine ⟨⟨⟨?_, ?_, ?_, ?_⟩, ?_, m.1, m.2.1, m.2.2.1, m.2.2.2, ?_, ?_⟩, b, fun x hx => ?_, fun p hp => ⟨?_, ?_⟩, fun p h h' => ?_, fun c hc => ?_, fun c h h' => ?_, fun x hx => ?_, fun i hi => ?_⟩
  · rw [f5 22 (by omega)]; exact a1
  · rw [f5 23 (by omega)]; exact a2
  · rw [f5 24 (by omega)]; exact a3
  · rw [f5 25 (by omega)]; exact a4
  · rw [f5 26 (by omega), e0]; exact a5
  · rw [f5 31 (by omega)]; exact a6
  · rw [f5 32 (by omega), e10]; exact a7
  · rw [f 158 (by omega), ew _ (by omega)]; exact r3 x hx
  · exact lP_congr (fun r h _ _ => by rw [f r (by omega)]) (fun i hi => ew _ (by omega)) (r4 p hp).1
  · rw [f 167 (by omega), s_hit_congr e0 (fun i hi => ew _ (by omega)) (fun t ht => ew _ (by omega))]; exact (r4 p hp).2
  · rw [f 167 (by omega), f 168 (by omega), f 169 (by omega)]; exact r5 p h h'
  · exact lC_congr (fun r h _ => by rw [f r (by omega)]) (fun i hi => ew _ (by omega)) (r6 c hc)
  · rw [f 172 (by omega), f 173 (by omega)]; exact r7 c h h'
  · exact lD_congr (f _ (by omega)) (by rw [f 178 (by omega)]) (by rw [f 179 (by omega)]) (fun c hc i hi => ew _ (by omega)) (r8 x hx)
  · rw [f 180 (by omega)]; exact r9 i hi
/-- the class's calls change nothing here -/
theorem LR_class {σ σ' : f_M} {s : Nat → Int32} {hc ac pc cc q n : Nat} {g : Nat → Nat} (R : LR σ s hc ac pc cc g q n) (f : ∀ r, 155 ≤ r → σ' r = σ r) : LR σ' s hc ac pc cc g q n := by
  obtain ⟨⟨⟨a1, a2, a3, a4⟩, a5, b1, b2, b3, b4, a6, a7⟩, r2, r3, r4, r5, r6, r7, r8, r9⟩ := R
  have f5 : σ' 155 = σ 155 := f 155 (by omega)
  refine ⟨⟨⟨?_, ?_, ?_, ?_⟩, ?_, ?_, ?_, ?_, ?_, ?_, ?_⟩, fun h hh => ?_, fun x hx => ?_, fun p hp => ⟨?_, ?_⟩, fun p h h' => ?_, fun c hc => ?_, fun c h h' => ?_, fun x hx => ?_, fun i hi => ?_⟩
  iterate 11 (rw [f5]; assumption)
  · rw [f 156 (by omega), f 157 (by omega)]; exact r2 h hh
  · rw [f 158 (by omega)]; exact r3 x hx
  · exact lP_congr (fun r h _ _ => by rw [f r (by omega)]) (fun i hi => rfl) (r4 p hp).1
  · rw [f 167 (by omega)]; exact (r4 p hp).2
  · rw [f 167 (by omega), f 168 (by omega), f 169 (by omega)]; exact r5 p h h'
  · exact lC_congr (fun r h _ => by rw [f r (by omega)]) (fun i hi => rfl) (r6 c hc)
  · rw [f 172 (by omega), f 173 (by omega)]; exact r7 c h h'
  · exact lD_congr (f _ (by omega)) (by rw [f 178 (by omega)]) (by rw [f 179 (by omega)]) (fun c hc i hi => rfl) (r8 x hx)
  · rw [f 180 (by omega)]; exact r9 i hi
/-! what the law asks itself -/
theorem L_act {σ : f_M} {s : Nat → Int32} {p : Nat} (hp : p < 20) (e : σ 155 26 = s 0) (l : lP σ s p) (h8 : isN (s (100 + 10 * p + 8)) 2) : l_isActive (nI p) σ = some (s_act s p (s 0)) := by
  obtain ⟨b, hb, eb⟩ := h8
  obtain ⟨⟨a0, a1, a2, a3, a4⟩, a5, a6, a7, a8, a9⟩ := l
  unfold l_isActive s_act s_lap s_exp
  rw [f_rd_n hp (by decide), bnd, a8, eb]
  obtain rfl | rfl : b = 0 ∨ b = 1 := by omega
  · rw [if_neg (by decide), f_rd_n hp (by decide), bnd, f_rd_n hp (by decide), bnd, a2, a3, e]
    by_cases h : s (100 + 10 * p + 2) + s (100 + 10 * p + 3) ≤ s 0
    · rw [if_pos h, bnd, decide_eq_true h, decide_eq_false (by decide)]; rfl
    · rw [if_neg h, bnd, decide_eq_false h, decide_eq_false (by decide)]; rfl
  · rw [if_pos (by decide), bnd, decide_eq_true rfl]; rfl
theorem rain_n {s : Nat → Int32} {hc ck p : Nat} (h0 : s 0 = nI ck) (hck : ck ≤ 1000) (k : kP s hc p) (kw : kW s ck) : ∃ R, R ≤ 1200 ∧ s_rain s p = nI R := by
  obtain ⟨-, -, ⟨f, hf, e2⟩, ⟨d, d1, d2, e3⟩, -⟩ := k
  have hlen : s_len s p ≤ d ∧ (∀ i, i < s_len s p → f + i < ck) := by
    unfold s_len
    rw [h0, e2, e3, nat_n (by omega), nat_n (by omega), nat_n (by omega)]
    exact ⟨by omega, fun i hi => by omega⟩
  unfold s_rain
  rw [e2, nat_n (by omega)]
  have key : ∀ n, n ≤ s_len s p → ∃ R, R ≤ 50 * n ∧ sumI (fun i => s (1420 + (f + i))) n = nI R := by
    intro n
    induction n with
    | zero => intro _; exact ⟨0, by omega, rfl⟩
    | succ n ih =>
      intro hn
      obtain ⟨R, hR, eR⟩ := ih (by omega)
      obtain ⟨x, hx, ex⟩ := (kw (f + n) (hlen.2 n (by omega))).2
      rw [sumI_succ, eR, ex, n_add]
      exact ⟨_, by omega, rfl⟩
  obtain ⟨R, hR, eR⟩ := key _ (Nat.le_refl _)
  exact ⟨R, by omega, eR⟩
theorem fmax_sub {R l : Nat} (hR : R < 2147483648) (hl : l < 2147483648) : f_max (nI 0) (nI R - nI l) = nI (R - l) := by
  unfold f_max
  by_cases h : l ≤ R
  · rw [n_sub h]
    by_cases h9 : R - l = 0
    · rw [h9, if_neg (by rw [n_lt (by omega) (by omega)]; omega)]
    · rw [if_pos (by rw [n_lt (by omega) (by omega)]; omega)]
  · have hneg : nI R - nI l < nI 0 := by
      rw [Int32.lt_iff_toInt_lt, Int32.toInt_sub, nI_toInt (by omega), nI_toInt (by omega), nI_toInt (by omega), Int.bmod_eq_of_le (by omega) (by omega)]
      omega
    rw [if_neg (by rw [i32_nlt]; exact Int32.le_of_lt hneg), show R - l = 0 by omega]
theorem L_dmg {σ : f_M} {s : Nat → Int32} {hc ck p : Nat} (hp : p < 20) (h0 : s 0 = nI ck) (hck : ck ≤ 1000) (k : kP s hc p) (kw : kW s ck) (l : lP σ s p) (hh : σ 167 p = s_hit s p) : l_damage (nI p) σ = some (s_damage s p) := by
  have hrn := rain_n h0 hck k kw
  obtain ⟨⟨b, hb, eb⟩, -, -, ⟨d, d1, d2, e3⟩, ⟨v, v1, v2, e4⟩, kl, -⟩ := k
  obtain ⟨⟨a0, a1, a2, a3, a4⟩, a5, a6, a7, a8, a9⟩ := l
  unfold l_damage s_damage
  unfold s_hit at hh
  rw [f_rd_n hp (by decide), bnd, a0, eb]
  rw [eb] at hh
  obtain rfl | rfl : b = 0 ∨ b = 1 := by omega
  · rw [if_pos rfl] at hh
    rw [if_neg (by decide), f_rd_n hp (by decide), bnd, f_rd_n hp (by decide), bnd, f_rd_n hp (by decide), bnd, hh, a3, a4, e3, if_neg (by rw [show (0 : Int32) = nI 0 from rfl, n_eq (by omega) (by omega)]; omega), if_pos rfl]
  · rw [if_neg (by decide)] at hh
    obtain ⟨R, hR, eR⟩ := hrn
    obtain ⟨lo, hlo, el⟩ := kl eb
    rw [if_neg (show ¬ nI 1 = nI 0 by decide), if_pos (show ¬ nI 1 = 0 by decide), f_rd_n hp (by decide), bnd, f_rd_n hp (by decide), bnd, hh, eR, a5, el, fmax_sub (by omega) (by omega)]
    have et : (if nI R ≤ nI lo then (some (0 : Int32)) else ((some (nI R)).bind fun v5 => (some (nI lo)).bind fun v6 => some (v5 - v6))) = some (nI (R - lo)) := by
      by_cases h : R ≤ lo
      · rw [if_pos ((n_le (by omega) (by omega)).mpr h), show R - lo = 0 by omega]; rfl
      · rw [if_neg (by rw [n_le (by omega) (by omega)]; exact h), bnd, bnd, n_sub (by omega)]
    rw [et, bnd, f_rd_n hp (by decide), bnd, bnd, a4, e4, show (10 : Int32) = nI 10 from rfl]
    unfold f_min
    by_cases h : nI v * nI (R - lo) / nI 10 ≤ nI v
    · rw [if_pos h, bnd]
      by_cases h' : nI v * nI (R - lo) / nI 10 < nI v
      · rw [if_pos h']
      · rw [if_neg h', Int32.le_antisymm h ((i32_nlt _ _).mp h')]
    · rw [if_neg h, bnd, bnd, if_neg (fun h' => h (Int32.le_of_lt h'))]
def b_obs (a1 : Int32) (σ : f_M) (s5 : Int32) : Option (Int32 ⊕ Int32) :=
  if (σ 155 24) ≤ s5 then (
        some (.inr (0 : Int32))
       ) else (
        (f_rd σ 169 20 s5).bind fun v6 =>
        if v6 = 0 then (
         some (.inl (s5 + (1 : Int32)))
        ) else (
         (f_rd σ 160 20 s5).bind fun v7 =>
         (f_rd σ 160 20 a1).bind fun v8 =>
         if ¬ v7 = v8 then (
          some (.inl (s5 + (1 : Int32)))
         ) else (
          (f_rd σ 159 20 s5).bind fun v9 =>
          (f_rd σ 159 20 a1).bind fun v10 =>
          if ¬ v9 = v10 then (
           some (.inl (s5 + (1 : Int32)))
          ) else (
           (f_rd σ 161 20 s5).bind fun v11 =>
           (f_rd σ 161 20 a1).bind fun v12 =>
           if ¬ v11 = v12 then (
            some (.inl (s5 + (1 : Int32)))
           ) else (
            some (.inr (5 : Int32))
           )
          )
         )
        )
       )
theorem l_obstacle_eq (a1 : Int32) (σ : f_M) : l_obstacle a1 σ = (f_rd σ 161 20 a1).bind fun v1 =>
  (f_rd σ 162 20 a1).bind fun v2 =>
  (f_rd σ 168 20 a1).bind fun v3 =>
  if v3 = 0 then (
   if (v1 + v2) ≤ (σ 155 26) then (
    if (σ 155 26) ≤ ((v1 + v2) + (72 : Int32)) then (
     (f_rd σ 169 20 a1).bind fun v4 =>
     if v4 = 0 then (
      (f_lp (b_obs a1 σ) f_F (0 : Int32)).bind fun (r5 : Int32) => some r5
     ) else (
      some (4 : Int32)
     )
    ) else (
     some (3 : Int32)
    )
   ) else (
    some (2 : Int32)
   )
  ) else (
   some (1 : Int32)
  ) := by
  unfold l_obstacle; rfl
theorem hasT_pol {s : Nat → Int32} {D ck hc ac pc cc q n p : Nat} {g : Nat → Nat} (K : kAll s D ck hc ac pc cc g q n) : hasT s cc p = true ↔ ∃ r, r < pc ∧ s (100 + 10 * r + 9) = nI 1 ∧ twin s p r := by
  have hpc : pc ≤ 20 := K.1.2.2.2.1.2
  have ku := K.2.2.2.2.2.2.1
  rw [hasT_iff]
  constructor
  · rintro ⟨c, hc, ht⟩
    have h := ((K.2.2.1 c hc).1).nat (by omega)
    exact ⟨_, h.2, (ku.2 _ h.2).mpr ⟨c, hc, h.1⟩, ht⟩
  · rintro ⟨r, hr, h9, ht⟩
    obtain ⟨c, hc, ec⟩ := (ku.2 r hr).mp h9
    exact ⟨c, hc, by rw [ec, nat_n (by omega)]; exact ht⟩
theorem L_obs {σ : f_M} {s : Nat → Int32} {D ck hc ac pc cc q n p : Nat} {g : Nat → Nat} (K : kAll s D ck hc ac pc cc g q n) (hp : p < pc) (e24 : σ 155 24 = nI pc) (e26 : σ 155 26 = s 0) (l : ∀ p, p < pc → lP σ s p) : l_obstacle (nI p) σ = some (nI (s_code s cc p)) := by
  have hpc : pc ≤ 20 := K.1.2.2.2.1.2
  have ku := K.2.2.2.2.2.2.1
  have hC : s (100 + 10 * p + 9) = nI 1 ↔ hasC s cc p = true := (ku.2 p hp).trans hasC_iff.symm
  have hT := hasT_pol (p := p) K
  have nine : ∀ r, r < pc → s (100 + 10 * r + 9) = nI 0 ∨ s (100 + 10 * r + 9) = nI 1 := fun r hr => by
    obtain ⟨b, hb, eb⟩ := (K.2.1 r hr).2.2.2.2.2.2.2.2.1
    obtain rfl | rfl : b = 0 ∨ b = 1 := by omega
    · exact Or.inl eb
    · exact Or.inr eb
  obtain ⟨b, hb, eb⟩ := (K.2.1 p hp).2.2.2.2.2.2.2.1
  obtain ⟨⟨a0, a1, a2, a3, a4⟩, a5, a6, a7, a8, a9⟩ := l p hp
  have hl : f_lp (b_obs (nI p) σ) f_F (0 : Int32) = some (nI (if hasT s cc p = true then 5 else 0)) := by
    have key : ∃ z, f_lp (b_obs (nI p) σ) f_F (0 : Int32) = some z ∧ z = nI (if hasT s cc p = true then 5 else 0) := by
      refine lp_inv (fun j (z : Int32) => z = nI j ∧ ∀ r, r < j → ¬ (s (100 + 10 * r + 9) = nI 1 ∧ twin s p r)) _ pc (f_F_lt (by omega)) ⟨rfl, fun r hr => by omega⟩ ?_ ?_
      · rintro j z hj ⟨rfl, hn⟩
        have next : ¬ (s (100 + 10 * j + 9) = nI 1 ∧ twin s p j) → ∀ r, r < j + 1 → ¬ (s (100 + 10 * r + 9) = nI 1 ∧ twin s p r) := fun h r hr => by
          by_cases e : r = j
          · subst e; exact h
          · exact hn r (by omega)
        obtain ⟨⟨c0, c1, c2, -, -⟩, -, -, -, -, c9⟩ := l j hj
        unfold b_obs
        rw [e24, if_neg (by rw [n_le (by omega) (by omega)]; omega), f_rd_n (by omega) (by decide), bnd, c9, show nI j + 1 = nI (j + 1) from n_add j 1]
        rcases nine j hj with h9 | h9
        · exact Or.inl ⟨_, by rw [h9, if_pos (show nI 0 = (0 : Int32) from rfl)], rfl, next (fun h => by rw [h9] at h; exact absurd h.1 (by decide))⟩
        · rw [h9, if_neg (by decide), f_rd_n (by omega) (by decide), bnd, f_rd_n (by omega) (by decide), bnd, c1, a1]
          by_cases t1 : s (100 + 10 * j + 1) = s (100 + 10 * p + 1)
          · rw [if_neg (fun h => h t1), f_rd_n (by omega) (by decide), bnd, f_rd_n (by omega) (by decide), bnd, c0, a0]
            by_cases t0 : s (100 + 10 * j + 0) = s (100 + 10 * p + 0)
            · rw [if_neg (fun h => h t0), f_rd_n (by omega) (by decide), bnd, f_rd_n (by omega) (by decide), bnd, c2, a2]
              by_cases t2 : s (100 + 10 * j + 2) = s (100 + 10 * p + 2)
              · exact Or.inr ⟨5, by rw [if_neg (fun h => h t2)], by rw [if_pos (hT.mpr ⟨j, hj, h9, t0.symm, t1.symm, t2.symm⟩)]; rfl⟩
              · exact Or.inl ⟨_, by rw [if_pos t2], rfl, next (fun h => t2 h.2.2.2.symm)⟩
            · exact Or.inl ⟨_, by rw [if_pos t0], rfl, next (fun h => t0 h.2.1.symm)⟩
          · exact Or.inl ⟨_, by rw [if_pos t1], rfl, next (fun h => t1 h.2.2.1.symm)⟩
      · rintro z ⟨rfl, hn⟩
        unfold b_obs
        rw [e24, if_pos (by rw [n_le (by omega) (by omega)]; omega)]
        refine ⟨0, rfl, ?_⟩
        rw [if_neg (fun h => by obtain ⟨r, hr, h9⟩ := hT.mp h; exact hn r hr h9)]
        rfl
    obtain ⟨z, e, q⟩ := key
    rw [e, q]
  rw [l_obstacle_eq]
  unfold s_code s_lap s_exp
  rw [f_rd_n (by omega) (by decide), bnd, f_rd_n (by omega) (by decide), bnd, f_rd_n (by omega) (by decide), bnd, a8, eb, a2, a3, e26, hl, bnd, f_rd_n (by omega) (by decide), bnd, a9, show (72 : Int32) = nI 72 from rfl]
  obtain rfl | rfl : b = 0 ∨ b = 1 := by omega
  · rw [if_pos (show nI 0 = (0 : Int32) from rfl), decide_eq_false (by decide : ¬ nI 0 = nI 1), if_neg (by decide : ¬ false = true)]
    by_cases h1 : s (100 + 10 * p + 2) + s (100 + 10 * p + 3) ≤ s 0
    · rw [if_pos h1, if_neg (fun h => (i32_nlt _ _).mpr h1 h)]
      by_cases h2 : s 0 ≤ s (100 + 10 * p + 2) + s (100 + 10 * p + 3) + nI 72
      · rw [if_pos h2, if_neg (fun h => (i32_nlt _ _).mpr h2 h)]
        rcases nine p hp with h9 | h9
        · rw [h9, if_pos (show nI 0 = (0 : Int32) from rfl), if_neg (show ¬ hasC s cc p = true from fun h => by have := hC.mpr h; rw [h9] at this; exact absurd this (by decide))]
        · rw [h9, if_neg (by decide), if_pos (hC.mp h9)]; rfl
      · rw [if_neg h2, if_pos ((i32_nle _ _).mp h2)]; rfl
    · rw [if_neg h1, if_pos ((i32_nle _ _).mp h1)]; rfl
  · rw [if_neg (by decide), decide_eq_true rfl, if_pos rfl]; rfl
