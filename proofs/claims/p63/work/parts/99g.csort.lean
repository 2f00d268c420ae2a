/-! isConsistent: the class's damages by order. -/
theorem g_306_eq (a1 : Int32) (σ : f_M) : g_306 a1 σ = (f_lp (insB 43 a1) f_F ((σ 42 1), σ)).bind fun (x1 : Int32 × f_M) => (f_wr x1.2 43 24 x1.1 a1).bind fun m7 => some (f_up m7 42 1 ((m7 42 1) + (1 : Int32))) := by
  unfold g_306; rfl
theorem C_ins {σ : f_M} {a : Int32} {n : Nat} (hn : n < 24) (e : σ 42 1 = nI n) (hs : srt (σ 43) n) : ∃ σ', g_306 a σ = some σ' ∧ σ' 42 1 = nI (n + 1) ∧ srt (σ' 43) (n + 1) ∧ (∀ F : Int32 → Int32, sumI (fun i => F (σ' 43 i)) (n + 1) = sumI (fun i => F (σ 43 i)) n + F a) ∧ ∀ r, r ≠ 42 → r ≠ 43 → σ' r = σ r := by
  obtain ⟨k, σ1, q1, q2, q3, q4, q5⟩ := P_ins (R := 43) (a := a) (σ := σ) hn
  refine ⟨f_up (f_up σ1 43 k a) 42 1 (nI (n + 1)), ?_, up_same _ _ _ _, ?_, fun F => ?_, fun r h h' => by rw [up_rows h]; exact q5 r h'⟩
  · rw [g_306_eq, e, q1, bnd, q2, bnd, q5 42 (by omega), e, show nI n + (1 : Int32) = nI (n + 1) from n_add n 1]
  · rw [up_rows (by omega)]; exact q4 hs
  · rw [up_rows (by omega)]; exact ins_sum q3 F
def b309 (a2 a3 t1 : Int32) (s3 : Int32 × f_M) : Option ((Int32 × f_M) ⊕ f_M) :=
   if (f_min a3 t1) ≤ s3.1 then (
    some (.inr s3.2)
   ) else (
    if (24 : Int32) ≤ (s3.2 42 1) then (
     some (.inr s3.2)
    ) else (
     (f_rd s3.2 111 20 a2).bind fun v4 =>
     (
      if v4 = 0 then (
       (f_rd s3.2 110 1000 s3.1).bind fun v6 =>
       some v6
      ) else (
       (f_rd s3.2 109 1000 s3.1).bind fun v7 =>
       some v7
      )
     ).bind fun (t5 : Int32) =>
     (g_306 t5 s3.2).bind fun t9 =>
     some (.inl ((s3.1 + (1 : Int32)), t9))
    )
   )
theorem g_309_eq (a2 a3 : Int32) (σ : f_M) : g_309 a2 a3 σ = (g_75 a2 (f_up σ 42 1 (0 : Int32))).bind fun t1 =>
  (f_rd (f_up σ 42 1 (0 : Int32)) 113 20 a2).bind fun v2 =>
  (f_lp (b309 a2 a3 t1) f_F (v2, (f_up σ 42 1 (0 : Int32)))).bind fun (x3 : f_M) =>
  (f_rd x3 111 20 a2).bind fun v12 =>
  if ¬ v12 = 0 then (
   (f_rd x3 116 20 a2).bind fun v13 =>
   (g_308 v13 x3).bind fun t14 =>
   (f_rd x3 117 20 a2).bind fun v15 =>
   (g_308 (v15 + (1 : Int32)) x3).bind fun t16 =>
   (g_86 a2 (t14 + ((x3 42 1) - t16)) x3).bind fun t17 =>
   some (t17, x3)
  ) else (
   (g_307  x3).bind fun t18 =>
   (g_87 a2 t18 x3).bind fun t19 =>
   some (t19, x3)
  ) := by
  unfold g_309; rfl
theorem L_sort {σ : f_M} {W : Nat → Int32} {p f m M : Nat} {a3 t1 : Int32} (hp : p < 20) (hM : f_min a3 t1 = nI M) (h1 : M ≤ 1000) (h2 : m = M - f) (h3 : m ≤ 24) (hf : f < 1001) (e0 : σ 42 1 = nI 0) (hW : (σ 111 p = 0 ∧ ∀ i, i < m → W i = σ 110 (f + i)) ∨ (¬ σ 111 p = 0 ∧ ∀ i, i < m → W i = σ 109 (f + i))) :
    ∃ σ', f_lp (b309 (nI p) a3 t1) f_F (nI f, σ) = some σ' ∧ σ' 42 1 = nI m ∧ srt (σ' 43) m ∧ (∀ F : Int32 → Int32, sumI (fun i => F (σ' 43 i)) m = sumI (fun i => F (W i)) m) ∧ ∀ r, r ≠ 42 → r ≠ 43 → σ' r = σ r := by
  refine lp_inv (fun j (z : Int32 × f_M) => ∃ (σj : f_M), z = (nI (f + j), σj) ∧ σj 42 1 = nI j ∧ srt (σj 43) j ∧ (∀ F : Int32 → Int32, sumI (fun i => F (σj 43 i)) j = sumI (fun i => F (W i)) j) ∧ ∀ r, r ≠ 42 → r ≠ 43 → σj r = σ r) _ m (f_F_lt (by omega)) ⟨σ, rfl, e0, fun i j h h' => absurd h' (by omega), fun _ => rfl, fun _ _ _ => rfl⟩ ?_ ?_
  · rintro j z hj ⟨σj, rfl, i1, i2, i3, i4⟩
    refine Or.inl ?_
    obtain ⟨σ', c1, c2, c3, c4, c5⟩ := C_ins (a := W j) (by omega) i1 i2
    refine ⟨(nI (f + (j + 1)), σ'), ?_, σ', rfl, c2, c3, fun F => ?_, fun r h h' => (c5 r h h').trans (i4 r h h')⟩
    · unfold b309
      dsimp only
      rw [hM, if_neg (by rw [n_le (by omega) (by omega)]; omega), if_neg (by rw [i1, show (24 : Int32) = nI 24 from rfl, n_le (by omega) (by omega)]; omega), f_rd_n (by omega) (by omega), bnd, i4 111 (by omega) (by omega)]
      rcases hW with ⟨w1, w2⟩ | ⟨w1, w2⟩
      · rw [if_pos w1, f_rd_n (by omega) (by omega), bnd, bnd, i4 110 (by omega) (by omega), ← w2 j hj, c1, bnd, show nI (f + j) + (1 : Int32) = nI (f + (j + 1)) from n_add _ 1]
      · rw [if_neg w1, f_rd_n (by omega) (by omega), bnd, bnd, i4 109 (by omega) (by omega), ← w2 j hj, c1, bnd, show nI (f + j) + (1 : Int32) = nI (f + (j + 1)) from n_add _ 1]
    · rw [c4 F, i3 F, sumI_succ]
  · rintro z ⟨σj, rfl, i1, i2, i3, i4⟩
    refine ⟨σj, ?_, i1, i2, i3, i4⟩
    unfold b309
    dsimp only
    rw [hM, if_pos (by rw [n_le (by omega) (by omega)]; omega)]
theorem C_307 {σ : f_M} {m : Nat} (e : σ 42 1 = nI m) (hm : m ≤ 24) : g_307 σ = some (sumI (fun i => σ 43 i) m) := by
  unfold g_307
  rw [lp_go (fun j => (sumI (fun i => σ 43 i) j, nI j)) m (r := sumI (fun i => σ 43 i) m) ?_ (f_F_lt (by omega)) ?_ ?_]
  · rfl
  · rfl
  · intro j hj
    dsimp only
    rw [e, if_neg (by rw [n_le (by omega) (by omega)]; omega), f_rd_n (by omega) (by omega), bnd, sumI_succ, show nI j + (1 : Int32) = nI (j + 1) from n_add j 1]
  · dsimp only
    rw [e, if_pos (by rw [n_le (by omega) (by omega)]; omega)]
theorem C_308 {σ : f_M} {m : Nat} (a : Int32) (e : σ 42 1 = nI m) (hm : m ≤ 24) (hs : srt (σ 43) m) : g_308 a σ = some (nI (cntN (fun i => decide (σ 43 i < a)) m)) := by
  have hle := fstN_le (fun i => decide (a ≤ σ 43 i)) m
  have ec : cntN (fun i => decide (σ 43 i < a)) m = fstN (fun i => decide (a ≤ σ 43 i)) m := by
    refine cnt_pre hle (fun i hi => ?_) (fun i hi hm => ?_)
    · have := fstN_min hi
      exact decide_eq_true ((i32_nle _ _).mp (of_decide_eq_false this))
    · have h1 := fstN_lt (p := fun i => decide (a ≤ σ 43 i)) (n := m) (by omega)
      have h2 : a ≤ σ 43 (fstN (fun i => decide (a ≤ σ 43 i)) m) := of_decide_eq_true h1
      refine decide_eq_false ((i32_nlt _ _).mpr ?_)
      by_cases c : i = fstN (fun i => decide (a ≤ σ 43 i)) m
      · rw [c]; exact h2
      · exact i32_tr h2 (hs _ i (by omega) hm)
  rw [ec]
  unfold g_308
  rw [lp_go (fun j => nI j) (fstN (fun i => decide (a ≤ σ 43 i)) m) (r := nI (fstN (fun i => decide (a ≤ σ 43 i)) m)) ?_ (f_F_lt (by omega)) ?_ ?_]
  · rfl
  · rfl
  · intro j hj
    have h1 : ¬ a ≤ σ 43 j := of_decide_eq_false (fstN_min (p := fun i => decide (a ≤ σ 43 i)) hj)
    rw [e, if_neg (by rw [n_le (by omega) (by omega)]; omega), f_rd_n (by omega) (by omega), bnd, if_neg h1, show nI j + (1 : Int32) = nI (j + 1) from n_add j 1]
  · by_cases h : fstN (fun i => decide (a ≤ σ 43 i)) m < m
    · have h1 : a ≤ σ 43 (fstN (fun i => decide (a ≤ σ 43 i)) m) := of_decide_eq_true (fstN_lt h)
      generalize fstN (fun i => decide (a ≤ σ 43 i)) m = k at *
      rw [e, if_neg (by rw [n_le (by omega) (by omega)]; omega), f_rd_n (by omega) (by omega), bnd, if_pos h1]
    · rw [e, if_pos (by rw [n_le (by omega) (by omega)]; omega)]
theorem C_86 {σ : f_M} {s : Nat → Int32} {hc p : Nat} (hp : p < 20) (k : kP s hc p) (r : rP σ 108 s p) (e0 : s (100 + 10 * p + 0) = nI 0) : g_86 (nI p) (nI (s_cnt s p)) σ = some (s_damage s p) := by
  obtain ⟨d, d1, d2, e3⟩ := k.2.2.2.1
  obtain ⟨rk, r1, r2, r3, r4⟩ := r
  have r3' : σ 114 p = s (100 + 10 * p + 3) := r3
  have r4' : σ 115 p = s (100 + 10 * p + 4) := r4
  have hd0 : ¬ nI d ≤ 0 := by rw [show (0 : Int32) = nI 0 from rfl, n_le (by omega) (by omega)]; omega
  have hd1 : ¬ nI d = 0 := by rw [show (0 : Int32) = nI 0 from rfl, n_eq (by omega) (by omega)]; omega
  unfold g_86 s_damage
  rw [if_pos e0, f_rd_n (by omega) (by omega), bnd, r3', e3, if_neg hd0, f_rd_n (by omega) (by omega), bnd, r4', if_neg hd1, bnd]
theorem C_87 {σ : f_M} {s : Nat → Int32} {p : Nat} (hp : p < 20) (r : rP σ 108 s p) (e0 : ¬ s (100 + 10 * p + 0) = nI 0) : g_87 (nI p) (s_rain s p) σ = some (s_damage s p) := by
  obtain ⟨rk, r1, r2, r3, r4⟩ := r
  have r4' : σ 115 p = s (100 + 10 * p + 4) := r4
  rcases rk with ⟨e9, e1, -, -⟩ | ⟨e9, e1, e5⟩
  · exact absurd e1 e0
  · have e5 : σ 118 p = s (100 + 10 * p + 5) := e5
    unfold g_87 s_damage
    rw [if_neg e0, f_rd_n (by omega) (by omega), bnd, f_rd_n (by omega) (by omega), bnd, bnd, r4', e5]
    rfl
theorem C_309 {σ : f_M} {s : Nat → Int32} {ck hc p : Nat} (h0 : s 0 = nI ck) (hck : ck ≤ 1000) (hp : p < 20) (k : kP s hc p) (r : rP σ 108 s p) (w : ∀ t, t < ck → σ 109 t = s (420 + t) ∧ σ 110 t = s (1420 + t)) : ∃ σ', g_309 (nI p) (nI ck) σ = some (s_damage s p, σ') ∧ ∀ r, r ≠ 42 → r ≠ 43 → σ' r = σ r := by
  obtain ⟨f, hf, e2⟩ := k.2.2.1
  obtain ⟨d, d1, d2, e3⟩ := k.2.2.2.1
  have hn : s_len s p = min ck (f + d) - f := by
    unfold s_len
    rw [h0, e2, e3, nat_n (by omega), nat_n (by omega), nat_n (by omega)]
  have hmin : f_min (nI ck) (s_exp s p) = nI (min ck (f + d)) := by
    unfold s_exp
    rw [e2, e3, n_add, n_min (by omega) (by omega)]
  have rk := r.1
  have r2 : σ 113 p = nI f := by rw [← e2]; exact r.2.2.1
  have hr0 : rP (f_up σ 42 1 0) 108 s p := rP_at (fun _ _ => rfl) (fun i _ h => by rw [up_rows (by omega)]) r
  have wi : ∀ i, i < s_len s p → σ 109 (f + i) = s (420 + (f + i)) ∧ σ 110 (f + i) = s (1420 + (f + i)) := fun i hi => w _ (by omega)
  have head : ∀ σ', f_lp (b309 (nI p) (nI ck) (s_exp s p)) f_F (nI f, f_up σ 42 1 0) = some σ' → g_309 (nI p) (nI ck) σ = (f_rd σ' 111 20 (nI p)).bind fun v12 => if ¬ v12 = 0 then ((f_rd σ' 116 20 (nI p)).bind fun v13 => (g_308 v13 σ').bind fun t14 => (f_rd σ' 117 20 (nI p)).bind fun v15 => (g_308 (v15 + (1 : Int32)) σ').bind fun t16 => (g_86 (nI p) (t14 + ((σ' 42 1) - t16)) σ').bind fun t17 => some (t17, σ')) else ((g_307 σ').bind fun t18 => (g_87 (nI p) t18 σ').bind fun t19 => some (t19, σ')) := fun σ' h => by
    rw [g_309_eq, C_exp hp hr0, bnd, f_rd_n (by omega) (by omega), bnd, up_rows (by omega), r2, h, bnd]
  rcases rk with ⟨e9, e0, e8, e9'⟩ | ⟨e9, e0, e5⟩
  · have e9 : σ 111 p = nI 1 := e9
    have e8 : σ 116 p = s (100 + 10 * p + 5) := e8
    have e9' : σ 117 p = s (100 + 10 * p + 6) := e9'
    obtain ⟨lo, hi, l1, l2, l3, l4⟩ := k.2.2.2.2.2.2.2.2.2 e0
    obtain ⟨σ', c1, c2, c3, c4, c5⟩ := L_sort (σ := f_up σ 42 1 0) (W := fun i => σ 109 (f + i)) (f := f) (m := s_len s p) hp hmin (by omega) hn (by omega) hf (up_same _ _ _ _) (Or.inr ⟨by rw [up_rows (by omega), e9]; decide, fun i hi => by rw [up_rows (by omega)]⟩)
    have fr : ∀ r, r ≠ 42 → r ≠ 43 → σ' r = σ r := fun r h h' => by rw [c5 r h h', up_rows h]
    refine ⟨σ', ?_, fr⟩
    have hm24 : s_len s p ≤ 24 := by omega
    have r' : rP σ' 108 s p := rP_at (fun _ _ => rfl) (fun i _ h => by rw [fr _ (by omega) (by omega)]) r
    have cB : cntN (fun i => decide (σ' 43 i < nI lo)) (s_len s p) + (s_len s p - cntN (fun i => decide (σ' 43 i < nI (hi + 1))) (s_len s p)) = s_cnt s p := by
      have k1 : s_len s p = cntN (fun i => decide (σ' 43 i < nI (hi + 1))) (s_len s p) + cntN (fun i => decide (nI hi < σ' 43 i)) (s_len s p) := by
        rw [← cntN_add (fun i => decide (σ' 43 i < nI (hi + 1))) (fun i => decide (nI hi < σ' 43 i)) (fun _ => true) (s_len s p) (fun i hi9 => by
          have t1 : (nI (hi + 1)).toInt = hi + 1 := by rw [nI_toInt (by omega)]; rfl
          have t2 : (nI hi).toInt = hi := nI_toInt (by omega)
          by_cases c : nI hi < σ' 43 i
          · have : ¬ σ' 43 i < nI (hi + 1) := by
              rw [Int32.lt_iff_toInt_lt, t1]; rw [Int32.lt_iff_toInt_lt, t2] at c; omega
            rw [decide_eq_true c, decide_eq_false this]; rfl
          · have : σ' 43 i < nI (hi + 1) := by
              rw [Int32.lt_iff_toInt_lt, t1]; rw [Int32.lt_iff_toInt_lt, t2] at c; omega
            rw [decide_eq_false c, decide_eq_true this]; rfl)]
        exact (cnt_pre (Nat.le_refl _) (fun _ _ => rfl) (fun i h h' => absurd h' (by omega))).symm
      have k2 : cntN (fun i => decide (σ' 43 i < nI lo) || decide (nI hi < σ' 43 i)) (s_len s p) = cntN (fun i => decide (σ' 43 i < nI lo)) (s_len s p) + cntN (fun i => decide (nI hi < σ' 43 i)) (s_len s p) := by
        refine cntN_add _ _ _ _ fun i hi9 => ?_
        by_cases c : nI hi < σ' 43 i
        · have : ¬ σ' 43 i < nI lo := by
            rw [i32_nlt]
            exact i32_tr ((n_le (by omega) (by omega)).mpr l1) (i32_lt_le c)
          rw [decide_eq_true c, decide_eq_false this]; rfl
        · rw [decide_eq_false c, Bool.or_false]; rfl
      have k3 : nI (cntN (fun i => decide (σ' 43 i < nI lo) || decide (nI hi < σ' 43 i)) (s_len s p)) = nI (s_cnt s p) := by
        rw [← sum_cnt, c4 (fun v => if (decide (v < nI lo) || decide (nI hi < v)) = true then 1 else 0), sum_cnt (fun i => decide (σ 109 (f + i) < nI lo) || decide (nI hi < σ 109 (f + i)))]
        refine congrArg nI ?_
        unfold s_cnt
        refine cntN_congr fun i hi => ?_
        unfold s_bad
        rw [e2, nat_n (by omega), l3, l4, (wi i hi).1]
      have k4 := n_inj (by have := cntN_le (fun i => decide (σ' 43 i < nI lo) || decide (nI hi < σ' 43 i)) (s_len s p); omega) (by unfold s_cnt; have := cntN_le (fun i => s_bad s p (nat (s (100 + 10 * p + 2)) + i)) (s_len s p); omega) k3
      omega
    have le2 := cntN_le (fun i => decide (σ' 43 i < nI (hi + 1))) (s_len s p)
    rw [head σ' c1, f_rd_n (by omega) (by omega), bnd, fr 111 (by omega) (by omega), e9, if_pos (show ¬ nI 1 = 0 from by decide), f_rd_n (by omega) (by omega), bnd, fr 116 (by omega) (by omega), e8, l3, C_308 _ c2 hm24 c3, bnd, f_rd_n (by omega) (by omega), bnd, fr 117 (by omega) (by omega), e9', l4, show nI hi + (1 : Int32) = nI (hi + 1) from n_add hi 1, C_308 _ c2 hm24 c3, bnd, c2, n_sub le2, n_add, cB, C_86 hp k r' e0, bnd]
  · have e9 : σ 111 p = nI 0 := e9
    have hne : ¬ s (100 + 10 * p + 0) = nI 0 := by rw [e0]; decide
    obtain ⟨σ', c1, c2, c3, c4, c5⟩ := L_sort (σ := f_up σ 42 1 0) (W := fun i => σ 110 (f + i)) (f := f) (m := s_len s p) hp hmin (by omega) hn (by omega) hf (up_same _ _ _ _) (Or.inl ⟨by rw [up_rows (by omega), e9]; rfl, fun i hi => by rw [up_rows (by omega)]⟩)
    have fr : ∀ r, r ≠ 42 → r ≠ 43 → σ' r = σ r := fun r h h' => by rw [c5 r h h', up_rows h]
    refine ⟨σ', ?_, fr⟩
    have r' : rP σ' 108 s p := rP_at (fun _ _ => rfl) (fun i _ h => by rw [fr _ (by omega) (by omega)]) r
    have hrain : sumI (fun i => σ' 43 i) (s_len s p) = s_rain s p := by
      rw [c4 (fun v => v)]
      unfold s_rain
      rw [e2, nat_n (by omega)]
      exact sumI_congr fun i hi => (wi i hi).2
    rw [head σ' c1, f_rd_n (by omega) (by omega), bnd, fr 111 (by omega) (by omega), e9, if_neg (show ¬ ¬ nI 0 = 0 from fun h => h rfl), C_307 c2 (by omega), bnd, hrain, C_87 hp r' hne, bnd]
def b310 (s1 : Int32 × f_M) : Option ((Int32 × f_M) ⊕ (Bool × f_M)) :=
   if (s1.2 121 3) ≤ s1.1 then (
    some (.inr (true, s1.2))
   ) else (
    (g_309 s1.1 (s1.2 121 0) s1.2).bind fun t2 =>
    (g_88 s1.1 (t2.2 121 0) t2.2).bind fun t3 =>
    if t2.1 = t3 then (
     some (.inl ((s1.1 + (1 : Int32)), t2.2))
    ) else (
     some (.inr (false, t2.2))
    )
   )
theorem g_310_eq (σ : f_M) : g_310 σ = (f_lp b310 f_F ((0 : Int32), σ)).bind fun (r1 : Bool × f_M) => some r1 := by
  unfold g_310; rfl
theorem C_310 {σ : f_M} {s : Nat → Int32} {ck hc pc : Nat} (h0 : s 0 = nI ck) (hck : ck ≤ 1000) (hpc : pc ≤ 20) (e3 : σ 121 3 = nI pc) (e0 : σ 121 0 = nI ck) (kp : ∀ p, p < pc → kP s hc p) (rp : ∀ p, p < pc → rP σ 108 s p) (w : ∀ t, t < ck → σ 109 t = s (420 + t) ∧ σ 110 t = s (1420 + t)) : ∃ σ', g_310 σ = some (true, σ') ∧ ∀ r, r ≠ 42 → r ≠ 43 → σ' r = σ r := by
  rw [g_310_eq]
  obtain ⟨⟨b, m⟩, e, hb, q⟩ : ∃ r, f_lp b310 f_F ((0 : Int32), σ) = some r ∧ (r.1 = true ∧ ∀ q, q ≠ 42 → q ≠ 43 → r.2 q = σ q) := by
   refine lp_inv (fun j (z : Int32 × f_M) => ∃ (σj : f_M), z = (nI j, σj) ∧ ∀ r, r ≠ 42 → r ≠ 43 → σj r = σ r) _ pc (f_F_lt (by omega)) ⟨σ, rfl, fun _ _ _ => rfl⟩ ?_ ?_
   · rintro j z hj ⟨σj, rfl, fj⟩
     have rj : rP σj 108 s j := rP_at (fun _ _ => rfl) (fun i _ h => by rw [fj _ (by omega) (by omega)]) (rp j hj)
     have wj : ∀ t, t < ck → σj 109 t = s (420 + t) ∧ σj 110 t = s (1420 + t) := fun t ht => by rw [fj 109 (by omega) (by omega), fj 110 (by omega) (by omega)]; exact w t ht
     obtain ⟨σ', c1, c2⟩ := C_309 h0 hck (by omega) (kp j hj) rj wj
     have r' : rP σ' 108 s j := rP_at (fun _ _ => rfl) (fun i _ h => by rw [c2 _ (by omega) (by omega)]) rj
     have w' : ∀ t, t < ck → σ' 109 t = s (420 + t) ∧ σ' 110 t = s (1420 + t) := fun t ht => by rw [c2 109 (by omega) (by omega), c2 110 (by omega) (by omega)]; exact wj t ht
     refine Or.inl ⟨(nI (j + 1), σ'), ?_, σ', rfl, fun r h h' => (c2 r h h').trans (fj r h h')⟩
     unfold b310
     dsimp only
     rw [if_neg (by rw [fj 121 (by omega) (by omega), e3, n_le (by omega) (by omega)]; omega), fj 121 (by omega) (by omega), e0, c1, bnd]
     dsimp only
     rw [c2 121 (by omega) (by omega), fj 121 (by omega) (by omega), e0, C_damage h0 hck (by omega) (kp j hj) r' w', bnd, if_pos rfl, show nI j + (1 : Int32) = nI (j + 1) from n_add j 1]
   · rintro z ⟨σj, rfl, fj⟩
     refine ⟨(true, σj), ?_, rfl, fj⟩
     unfold b310
     dsimp only
     rw [if_pos (by rw [fj 121 (by omega) (by omega), e3, n_le (by omega) (by omega)]; omega)]
  replace hb : b = true := hb
  subst hb
  rw [e, bnd]
  exact ⟨m, rfl, q⟩
