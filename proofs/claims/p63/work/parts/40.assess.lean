/-! The class's assessments and payments against the row. -/
theorem C_und {σ : f_M} {s : Nat → Int32} {c : Nat} {x : Int32} (hc : c < 20) (l3 : σ 124 c = s (300 + 6 * c + 3)) (b1 : σ 120 c = s (300 + 6 * c + 1)) : g_83 (nI c) x σ = some (s_und s c x) := by
  unfold g_83 s_und
  simp (disch := omega) only [f_rd_n, bnd, l3, b1, lits]
  by_cases h : s (300 + 6 * c + 3) = nI 0
  · rw [if_neg (fun h' => h' h)]
    by_cases h2 : s (300 + 6 * c + 1) = x <;> simp [h, h2]
  · rw [if_pos h]; simp [h]
theorem C_fst {σ : f_M} {s : Nat → Int32} {cc : Nat} {x : Int32} (h5 : σ 121 5 = nI cc) (s5 : s 5 = nI cc) (hcc : cc ≤ 20) (l3 : ∀ c, c < cc → σ 124 c = s (300 + 6 * c + 3)) (b1 : ∀ c, c < cc → σ 120 c = s (300 + 6 * c + 1)) : g_84 x σ = some (if s_fst s x < cc then nI (s_fst s x) else -1) := by
  unfold g_84 s_fst
  rw [s5, nat_n (by omega)]
  have hle := fstN_le (fun c => s_und s c x) cc
  rw [lp_go (fun j => nI j) (fstN (fun c => s_und s c x) cc) (r := if fstN (fun c => s_und s c x) cc < cc then nI (fstN (fun c => s_und s c x) cc) else -1) ?_ (f_F_lt (by omega)) ?_ ?_]
  · rfl
  · rfl
  · intro j hj
    have hu := fstN_min (p := fun c => s_und s c x) hj
    have hcu := C_und (σ := σ) (s := s) (c := j) (x := x) (by omega) (l3 j (by omega)) (b1 j (by omega))
    simp (disch := omega) only [bnd, lits, h5, n_le, hcu, n_add] at hu ⊢
    rw [if_neg (by omega), hu, if_pos rfl]
  · by_cases h : fstN (fun c => s_und s c x) cc < cc
    · have hu := fstN_lt h
      have hcu := C_und (σ := σ) (s := s) (c := fstN (fun c => s_und s c x) cc) (x := x) (by omega) (l3 _ h) (b1 _ h)
      simp (disch := omega) only [bnd, lits, h5, n_le, hcu, n_add] at hu ⊢
      rw [if_neg (by omega), hu, if_neg (by decide), if_pos h]
    · simp (disch := omega) only [bnd, lits, h5, n_le]
      rw [if_pos (by omega), if_neg h]
/-- the class's damage is the row's -/
theorem C_damage {σ : f_M} {s : Nat → Int32} {ck hc p : Nat} (h0 : s 0 = nI ck) (hck : ck ≤ 1000) (hp : p < 20) (k : kP s hc p) (r : rP σ 108 s p) (w : ∀ t, t < ck → σ 109 t = s (420 + t) ∧ σ 110 t = s (1420 + t)) : g_88 (nI p) (nI ck) σ = some (s_damage s p) := by
  have hexp := C_exp hp r
  obtain ⟨k0, -, ⟨f, hf, e2⟩, ⟨d, d1, d2, e3⟩, ⟨v, v1, v2, e4⟩, kl, -, -, -⟩ := k
  obtain ⟨rk, r1, r2, r3, r4⟩ := r
  have r2' : σ 113 p = nI f := by rw [← e2]; exact r2
  have r3' : σ 114 p = s (100 + 10 * p + 3) := r3
  have r4' : σ 115 p = s (100 + 10 * p + 4) := r4
  have hn : s_len s p = min ck (f + d) - f := by
    unfold s_len
    rw [h0, e2, e3, nat_n (by omega), nat_n (by omega), nat_n (by omega)]
  have hmin : f_min (nI ck) (s_exp s p) = nI (min ck (f + d)) := by
    unfold s_exp
    rw [e2, e3, n_add, n_min (by omega) (by omega)]
  unfold g_88
  rw [hexp, bnd, f_rd_n (by omega) (by omega), bnd, r2', hmin]
  rw [lp_go (fun j => (nI (cntN (fun i => decide (σ 109 (f + i) < σ 116 p) || decide (σ 117 p < σ 109 (f + i))) j), sumI (fun i => σ 110 (f + i)) j, nI (f + j))) (s_len s p) (r := (nI (cntN (fun i => decide (σ 109 (f + i) < σ 116 p) || decide (σ 117 p < σ 109 (f + i))) (s_len s p)), sumI (fun i => σ 110 (f + i)) (s_len s p))) ?_ (f_F_lt (by omega)) ?_ ?_]
  · rw [bnd, f_rd_n (by omega) (by omega), bnd]
    have hrain : sumI (fun i => σ 110 (f + i)) (s_len s p) = s_rain s p := by
      unfold s_rain
      rw [e2, nat_n (by omega)]
      exact sumI_congr fun i hi => (w (f + i) (by omega)).2
    unfold s_damage
    rcases rk with ⟨e9, e0, e8, e9'⟩ | ⟨e9, e0, e5⟩
    · have e9 : σ 111 p = nI 1 := e9
      have e8 : σ 116 p = s (100 + 10 * p + 5) := e8
      have e9' : σ 117 p = s (100 + 10 * p + 6) := e9'
      have hcnt : cntN (fun i => decide (σ 109 (f + i) < σ 116 p) || decide (σ 117 p < σ 109 (f + i))) (s_len s p) = s_cnt s p := by
        unfold s_cnt
        refine cntN_congr fun i hi => ?_
        unfold s_bad
        rw [e2, nat_n (by omega), e8, e9', (w (f + i) (by omega)).1]
      have hd0 : ¬ nI d ≤ nI 0 := by rw [n_le (by omega) (by omega)]; omega
      rw [e9, hcnt, if_pos e0]
      simp (disch := omega) only [lits, n_eq, g_86, f_rd_n, bnd, r3', r4', e3]
      rw [if_neg (by omega : ¬ (1 : Nat) = 0), if_neg hd0, if_neg (by omega : ¬ d = 0)]
      simp only [bnd]
    · have e9 : σ 111 p = nI 0 := e9
      have e5 : σ 118 p = s (100 + 10 * p + 5) := e5
      have hne : ¬ s (100 + 10 * p + 0) = nI 0 := by rw [e0, n_eq (by omega) (by omega)]; omega
      rw [e9, hrain, if_neg hne]
      simp (disch := omega) only [lits, if_true, g_87, f_rd_n, bnd, r4', e5]
  · show (_, _, nI f) = (_, _, nI (f + 0))
    rfl
  · intro j hj
    have hjk := w (f + j) (by omega)
    simp (disch := omega) only [lits, n_le, f_rd_n, bnd]
    rw [if_neg (by omega), cntN_succ, sumI_succ, show f + (j + 1) = f + j + 1 from rfl, ← n_add (f + j) 1]
    generalize cntN (fun i => decide (σ 109 (f + i) < σ 116 p) || decide (σ 117 p < σ 109 (f + i))) j = z
    by_cases h1 : σ 109 (f + j) < σ 116 p
    · simp [h1, n_add]
    · by_cases h2 : σ 109 (f + j) ≤ σ 117 p
      · have h3 : ¬ σ 117 p < σ 109 (f + j) := by rw [i32_nlt]; exact h2
        simp [h1, h2, h3]
      · have h3 : σ 117 p < σ 109 (f + j) := (i32_nle _ _).mp h2
        simp [h1, h2, h3, n_add]
  · simp (disch := omega) only [n_le]
    rw [if_pos (by omega)]
theorem s_assess_eq {s : Nat → Int32} {cc x : Nat} (s5 : s 5 = nI cc) (hcc : cc ≤ 20) : s_assess s x = if s_fst s (nI x) < cc then (if s (300 + 6 * s_fst s (nI x) + 2) + nI 1 = nI 2 + s (95 + x) then s_decide (upd s (300 + 6 * s_fst s (nI x) + 2) (s (300 + 6 * s_fst s (nI x) + 2) + nI 1)) (s_fst s (nI x)) else upd s (300 + 6 * s_fst s (nI x) + 2) (s (300 + 6 * s_fst s (nI x) + 2) + nI 1)) else s := by
  unfold s_assess
  rw [s5, nat_n (by omega)]
theorem s_fst_und {s : Nat → Int32} {cc : Nat} {x : Int32} (s5 : s 5 = nI cc) (hcc : cc ≤ 20) (h : s_fst s x < cc) : s (300 + 6 * s_fst s x + 3) = nI 0 ∧ s (300 + 6 * s_fst s x + 1) = x := by
  unfold s_fst at h ⊢
  rw [s5, nat_n (by omega)] at h ⊢
  have := fstN_lt h
  generalize fstN (fun c => s_und s c x) cc = k at this ⊢
  unfold s_und at this
  simpa using this
theorem dec_facts {s : Nat → Int32} {k p x dm st : Nat} {v : Int32} (hk : k < 20) (hp : p < 20) (h0 : s (300 + 6 * k + 0) = nI p) (h1 : s (300 + 6 * k + 1) = nI x) (hx : x < 3) (hdm : s_damage s p = nI dm) (hdm5 : dm ≤ 500) (hst : s (95 + x) = nI st) (hst9 : st < 10) :
    (∀ j, j ≠ 10 → j ≠ 300 + 6 * k + 2 → j ≠ 300 + 6 * k + 3 → j ≠ 300 + 6 * k + 4 → j ≠ 300 + 6 * k + 5 → s_decide (upd s (300 + 6 * k + 2) v) k j = s j) ∧ s_decide (upd s (300 + 6 * k + 2) v) k 10 = s 10 + nI 1 ∧ s_decide (upd s (300 + 6 * k + 2) v) k (300 + 6 * k + 2) = v ∧ s_decide (upd s (300 + 6 * k + 2) v) k (300 + 6 * k + 5) = s 10 + nI 1 ∧ s_decide (upd s (300 + 6 * k + 2) v) k (300 + 6 * k + 4) = nI (dm - dm * 5 * st / 100) ∧
      s_decide (upd s (300 + 6 * k + 2) v) k (300 + 6 * k + 3) = if dm - dm * 5 * st / 100 = 0 then nI 1 else nI 2 := by
  have hg := granted_n hdm5 hst9
  have ed : s_damage (upd s (300 + 6 * k + 2) v) p = nI dm := by
    rw [← hdm]
    exact s_damage_congr (upd_ne (by omega)) (fun i hi => upd_ne (by omega)) (fun t ht => upd_ne (by omega))
  unfold s_decide
  rw [upd_ne (show 300 + 6 * k + 0 ≠ 300 + 6 * k + 2 by omega), upd_ne (show 300 + 6 * k + 1 ≠ 300 + 6 * k + 2 by omega), h0, h1, nat_n (by omega), nat_n (by omega), ed, upd_ne (show 95 + x ≠ 300 + 6 * k + 2 by omega), hst, upd_ne (show 10 ≠ 300 + 6 * k + 2 by omega), hg.1]
  refine ⟨fun j g1 g2 g3 g4 g5 => ?_, ?_, ?_, ?_, ?_, ?_⟩
  · rw [upd_ne g3, upd_ne g4, upd_ne g5, upd_ne g1, upd_ne g2]
  · rw [upd_ne (by omega), upd_ne (by omega), upd_ne (by omega), upd_same]
  · rw [upd_ne (by omega), upd_ne (by omega), upd_ne (by omega), upd_ne (by omega), upd_same]
  · rw [upd_ne (by omega), upd_ne (by omega), upd_same]
  · rw [upd_ne (by omega), upd_same]
  · rw [upd_same]
    by_cases h : dm - dm * 5 * st / 100 = 0
    · rw [h, if_pos rfl, if_pos rfl]
    · rw [if_neg h, if_neg (by rw [n_eq (by omega) (by omega)]; exact h)]
/-- an assessor's hour, on the class's side and in the row -/
theorem C_assess {σ : f_M} {s : Nat → Int32} {D ck hc ac pc cc q n x : Nat} {g : Nat → Nat} (K : kAll s D ck hc ac pc cc g q n) (B : rB σ 108 s ck pc cc) (l : rL σ 121 s hc pc cc g q n) (hx : x < ac) (hst : σ 107 x = s (95 + x)) :
    ∃ (σ' : f_M) (b : Bool) (g' : Nat → Nat) (n' : Nat), (∀ z : Int32, ((g_84 (nI x) σ).bind fun t5 => (if t5 = (-1 : Int32) then some (z, σ) else (f_rd σ 107 3 (nI x)).bind fun v7 => (g_90 t5 v7 σ).bind fun t8 => if t8.1 = false then some (z, t8.2) else some ((z + (1 : Int32)), t8.2))) = some (z + f_b b, σ')) ∧
      kAll (s_assess s x) D ck hc ac pc cc g' q n' ∧ rL σ' 121 (s_assess s x) hc pc cc g' q n' ∧ s_assess s x 10 = s 10 + f_b b ∧ ∀ r, r ≠ 121 → r ≠ 124 → r ≠ 125 → r ≠ 126 → r ≠ 127 → σ' r = σ r := by
  obtain ⟨kc, kp, kk, kg, kd, kr, ku, km, ks, kw⟩ := id K
  obtain ⟨⟨c0, c0'⟩, ⟨c2, c2', c2''⟩, ⟨c3, c3', c3''⟩, ⟨c4, c4'⟩, ⟨c5, c5'⟩⟩ := id kc
  obtain ⟨bw, bp, bc⟩ := B
  obtain ⟨⟨l0, l1, l3, l5, l10, l11, l12, l13, l14⟩, lb, ll, lc, lg⟩ := id l
  have l124 : ∀ c, c < cc → σ 124 c = s (300 + 6 * c + 3) := fun c hc => (lc c hc).1
  have l125 : ∀ c, c < cc → σ 125 c = s (300 + 6 * c + 2) := fun c hc => (lc c hc).2.1
  have b119 : ∀ c, c < cc → σ 119 c = s (300 + 6 * c + 0) := fun c hc => (bc c hc).1
  have b120 : ∀ c, c < cc → σ 120 c = s (300 + 6 * c + 1) := fun c hc => (bc c hc).2
  have hf := C_fst (x := nI x) (l5.trans c5) c5 c5' l124 b120
  have he := s_assess_eq (s := s) (x := x) c5 c5'
  by_cases h : s_fst s (nI x) < cc
  · obtain ⟨hu3, hu1⟩ := s_fst_und c5 c5' h
    rw [if_pos h] at hf he
    generalize s_fst s (nI x) = k at h hu3 hu1 hf he
    obtain ⟨k0, k1, k2, k3, k4, k5, k6, k7, k8⟩ := kk k h
    obtain ⟨p, hp, ep⟩ := k0
    obtain ⟨w, hw, ew⟩ := k2
    obtain ⟨st, hst9, est⟩ := ks.1 x hx
    have hwst : w ≤ 1 + st := by
      have := k6 hu3
      rw [ew, hu1, nat_n (by omega), nat_n (by omega), est, nat_n (by omega)] at this
      exact this
    rw [ew, est, n_add, n_add] at he
    have e125 : σ 125 k = nI w := (l125 k h).trans ew
    have e119 : σ 119 k = nI p := (b119 k h).trans ep
    by_cases hlast : w + 1 = 2 + st
    · rw [if_pos (by rw [hlast])] at he
      obtain ⟨dm, hdm, edm⟩ := damage_n c0 c0' (kp p hp) kw
      obtain ⟨hg1, hg2⟩ := granted_n hdm hst9
      obtain ⟨f, f10, f2, f5, f4, f3⟩ := dec_facts (v := nI (w + 1)) (k := k) (by omega) (by omega) ep hu1 (by omega) edm hdm est hst9
      have hdam : g_88 (nI p) (nI ck) (f_up σ 125 k (nI (w + 1))) = some (nI dm) := by
        rw [← edm]
        exact C_damage c0 c0' (by omega) (kp p hp) (rP_congr (fun i hi => rfl) (fun i _ hi => up_rows (by omega)) (bp p hp)) (fun t ht => by rw [up_rows (by omega), up_rows (by omega)]; exact bw t ht)
      have KD := K_dec (w := w + 1) K h hu3 (by omega) hg2 f f10 f2 f5 f4 f3
      rw [← he] at KD f f10 f2 f5 f4 f3
      have hn20 : n ≤ 20 := by rw [kg.2.1]; exact Nat.le_trans (cntN_le _ _) c5'
      have e0 : (f_up σ 125 k (nI (w + 1))) 121 0 = nI ck := by rw [up_rows (by omega)]; exact l0.trans c0
      by_cases ham : dm - dm * 5 * st / 100 = 0
      · rw [if_pos ham] at KD f3
        rw [if_pos ham] at KD
        refine ⟨f_up (f_up (f_up σ 125 k (nI (w + 1))) 126 k (nI 0)) 124 k (nI 1), true, g, n, fun z => ?_, KD, ?_, f10, ?_⟩
        · rw [hf, bnd, if_neg (n_neg1 (by omega)), f_rd_n (by omega) (by omega), bnd, hst, est]
          unfold g_90 g_85 g_89
          simp (disch := omega) only [f_rd_n, f_wr_n, bnd, e125, lits, n_add, up_same, n_le]
          rw [if_pos (by omega), show f_up σ 125 k (nI (w + 1)) 119 k = nI p from by rw [up_rows (by omega)]; exact e119, e0, hdam, bnd, hg1, ham]
          simp (disch := omega) only [f_wr_n, bnd, not_true, if_false]
          rfl
        · refine ⟨⟨?_, ?_, ?_, ?_, ?_, ?_, ?_, ?_, ?_⟩, ?_, ?_, ?_, ?_⟩
          iterate 9 simp (disch := omega) only [up_rows, f, l0, l1, l3, l5, l10, l11, l12, l13, l14]
          · intro h' hh'
            simp (disch := omega) only [up_rows, f]
            exact lb h' hh'
          · intro p' hp'
            simp (disch := omega) only [up_rows, f]
            exact ll p' hp'
          · intro c hc
            show (f_up (f_up (f_up σ 125 k (nI (w + 1))) 126 k (nI 0)) 124 k (nI 1)) 124 c = _ ∧ (f_up (f_up (f_up σ 125 k (nI (w + 1))) 126 k (nI 0)) 124 k (nI 1)) 125 c = _ ∧ (f_up (f_up (f_up σ 125 k (nI (w + 1))) 126 k (nI 0)) 124 k (nI 1)) 126 c = _
            by_cases hck : c = k
            · subst hck
              rw [f3, f2, f4, ham]
              simp (disch := omega) only [up_rows, up_same, and_self]
            · simp (disch := omega) only [up_rows, up_ix, f]
              exact lc c hc
          · intro i hi
            simp (disch := omega) only [up_rows]
            exact lg i hi
        · intro r h1 h2 h3 h4 h5
          rw [up_rows h2, up_rows h4, up_rows h3]
      · rw [if_neg ham] at KD f3
        rw [if_neg ham] at KD
        have hn1 : n + 1 ≤ cc := by rw [KD.2.2.2.1.2.1]; exact cntN_le _ _
        refine ⟨f_up (f_up (f_up (f_up (f_up σ 125 k (nI (w + 1))) 126 k (nI (dm - dm * 5 * st / 100))) 124 k (nI 2)) 127 n (nI k)) 121 10 (nI (n + 1)), true, gUp g n k, n + 1, fun z => ?_, KD, ?_, f10, ?_⟩
        · rw [hf, bnd, if_neg (n_neg1 (by omega)), f_rd_n (by omega) (by omega), bnd, hst, est]
          unfold g_90 g_85 g_89
          simp (disch := omega) only [f_rd_n, f_wr_n, bnd, e125, lits, n_add, up_same, n_le]
          rw [if_pos (by omega), show f_up σ 125 k (nI (w + 1)) 119 k = nI p from by rw [up_rows (by omega)]; exact e119, e0, hdam, bnd, hg1]
          simp (disch := omega) only [f_wr_n, bnd, n_eq, ham, not_false_eq_true, if_true, up_rows, l10, n_add]
          rfl
        · refine ⟨⟨?_, ?_, ?_, ?_, ?_, ?_, ?_, ?_, ?_⟩, ?_, ?_, ?_, ?_⟩
          iterate 9 simp (disch := omega) only [up_rows, up_ix, up_same, f, l0, l1, l3, l5, l10, l11, l12, l13, l14]
          · intro h' hh'
            simp (disch := omega) only [up_rows, f]
            exact lb h' hh'
          · intro p' hp'
            simp (disch := omega) only [up_rows, f]
            exact ll p' hp'
          · intro c hc
            show (f_up (f_up (f_up (f_up (f_up σ 125 k (nI (w + 1))) 126 k (nI (dm - dm * 5 * st / 100))) 124 k (nI 2)) 127 n (nI k)) 121 10 (nI (n + 1))) 124 c = _ ∧ (f_up (f_up (f_up (f_up (f_up σ 125 k (nI (w + 1))) 126 k (nI (dm - dm * 5 * st / 100))) 124 k (nI 2)) 127 n (nI k)) 121 10 (nI (n + 1))) 125 c = _ ∧ (f_up (f_up (f_up (f_up (f_up σ 125 k (nI (w + 1))) 126 k (nI (dm - dm * 5 * st / 100))) 124 k (nI 2)) 127 n (nI k)) 121 10 (nI (n + 1))) 126 c = _
            by_cases hck : c = k
            · subst hck
              rw [f3, f2, f4]
              simp (disch := omega) only [up_rows, up_same, and_self]
            · simp (disch := omega) only [up_rows, up_ix, f]
              exact lc c hc
          · intro i hi
            show (f_up (f_up (f_up (f_up (f_up σ 125 k (nI (w + 1))) 126 k (nI (dm - dm * 5 * st / 100))) 124 k (nI 2)) 127 n (nI k)) 121 10 (nI (n + 1))) 127 i = _
            unfold gUp
            by_cases hin : i = n
            · subst hin
              simp (disch := omega) only [up_rows, up_same, if_true]
            · rw [if_neg hin]
              simp (disch := omega) only [up_rows, up_ix]
              exact lg i (by omega)
        · intro r h1 h2 h3 h4 h5
          rw [up_rows h1, up_rows h5, up_rows h2, up_rows h4, up_rows h3]
    · rw [if_neg (by rw [n_eq (by omega) (by omega)]; exact hlast)] at he
      have KW := K_work (w := w + 1) K h hu3 (by rw [hu1, nat_n (by omega), est, nat_n (by omega)]; omega) (by omega)
      rw [← he] at KW
      have f : ∀ j, j ≠ 300 + 6 * k + 2 → s_assess s x j = s j := fun j hj => by rw [he, upd_ne hj]
      have f2 : s_assess s x (300 + 6 * k + 2) = nI (w + 1) := by rw [he, upd_same]
      refine ⟨f_up σ 125 k (nI (w + 1)), false, g, n, fun z => ?_, KW, ?_, ?_, ?_⟩
      · rw [hf, bnd, if_neg (n_neg1 (by omega)), f_rd_n (by omega) (by omega), bnd, hst, est]
        unfold g_90 g_85
        simp (disch := omega) only [f_rd_n, f_wr_n, bnd, e125, lits, n_add, up_same, n_le]
        rw [if_neg (by omega)]
        simp only [bnd, if_true]
        rw [show z + f_b false = z from Int32.add_zero z]
      · refine ⟨⟨?_, ?_, ?_, ?_, ?_, ?_, ?_, ?_, ?_⟩, ?_, ?_, ?_, ?_⟩
        iterate 9 simp (disch := omega) only [up_rows, f, l0, l1, l3, l5, l10, l11, l12, l13, l14]
        · intro h' hh'
          simp (disch := omega) only [up_rows, f]
          exact lb h' hh'
        · intro p' hp'
          simp (disch := omega) only [up_rows, f]
          exact ll p' hp'
        · intro c hc
          show (f_up σ 125 k (nI (w + 1))) 124 c = _ ∧ (f_up σ 125 k (nI (w + 1))) 125 c = _ ∧ (f_up σ 125 k (nI (w + 1))) 126 c = _
          by_cases hck : c = k
          · subst hck
            have := lc c hc
            rw [f2, f _ (by omega), f _ (by omega), up_same, up_rows (by omega), up_rows (by omega)]
            exact ⟨this.1, rfl, this.2.2⟩
          · simp (disch := omega) only [up_rows, up_ix, f]
            exact lc c hc
        · intro i hi
          simp (disch := omega) only [up_rows]
          exact lg i hi
      · rw [f 10 (by omega)]
        exact (Int32.add_zero _).symm
      · intro r h1 h2 h3 h4 h5
        rw [up_rows h3]
  · rw [if_neg h] at hf he
    refine ⟨σ, false, g, n, fun z => ?_, by rw [he]; exact K, by rw [he]; exact l, by rw [he]; exact (Int32.add_zero _).symm, fun r _ _ _ _ _ => rfl⟩
    rw [hf, bnd, if_pos rfl, show z + f_b false = z from Int32.add_zero z]
