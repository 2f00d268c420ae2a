/-! isConsistent, whole. -/
theorem C_302 {σ : f_M} {hc : Nat} (e : σ 103 0 = nI hc) (h8 : hc ≤ 8) : g_302 σ = some (σ 103 6 + sumI (fun h => σ 106 h) hc) := by
  unfold g_302
  rw [lp_go (fun j => (σ 103 6 + sumI (fun h => σ 106 h) j, nI j)) hc (r := σ 103 6 + sumI (fun h => σ 106 h) hc) ?_ (f_F_lt (by omega)) ?_ ?_, bnd]
  · rw [show sumI (fun h => σ 106 h) 0 = 0 from rfl, Int32.add_zero]; rfl
  · intro j hj
    dsimp only
    rw [e, if_neg (by rw [n_le (by omega) (by omega)]; omega), f_rd_n (by omega) (by omega), bnd, sumI_succ, Int32.add_assoc, show nI j + (1 : Int32) = nI (j + 1) from n_add j 1]
  · dsimp only
    rw [e, if_pos (by rw [n_le (by omega) (by omega)]; omega)]
theorem C_303 {σ τ : f_M} {D ck hc ac pc cc q n : Nat} {g : Nat → Nat} (S : sAll σ τ D ck hc ac pc cc g q n) : g_303 σ = some true := by
  obtain ⟨K, B, l, R⟩ := S
  have kc := K.1
  have hh8 := kc.2.1.2.2
  have e := R.1.1.trans kc.2.1.1
  have km := K.2.2.2.2.2.2.2.1.1
  unfold g_303
  rw [lp_go (fun j => (σ 121 1 + sumI (fun h => σ 122 h) j, nI j)) hc (r := σ 121 1 + sumI (fun h => σ 122 h) hc) ?_ (f_F_lt (by omega)) ?_ ?_, bnd]
  · rw [C_302 e hh8, bnd]
    have h1 : σ 121 1 + sumI (fun h => σ 122 h) hc = τ 156 9 + τ 156 8 := by
      rw [← km, l.1.2.1]
      exact congrArg (fun z => τ 156 1 + z) (sumI_congr fun h hh => l.2.1 h hh)
    have h2 : σ 103 6 + sumI (fun h => σ 106 h) hc = τ 156 9 := R.2.2.2.symm
    have h3 : σ 121 14 = τ 156 8 := l.1.2.2.2.2.2.2.2.2
    rw [h1, h2, h3, if_neg (fun h => h rfl), bnd]
  · rw [show sumI (fun h => σ 122 h) 0 = 0 from rfl, Int32.add_zero]; rfl
  · intro j hj
    dsimp only
    rw [e, if_neg (by rw [n_le (by omega) (by omega)]; omega), f_rd_n (by omega) (by omega), bnd, sumI_succ, Int32.add_assoc, show nI j + (1 : Int32) = nI (j + 1) from n_add j 1]
  · dsimp only
    rw [e, if_pos (by rw [n_le (by omega) (by omega)]; omega)]
theorem cnt_step (p : Nat → Bool) (j : Nat) : nI (cntN p j) + f_b (p j) = nI (cntN p (j + 1)) := by
  rw [cntN_succ]
  cases p j
  · exact n_add _ 0
  · exact n_add _ 1
theorem C_304 {σ τ : f_M} {D ck hc ac pc cc q n : Nat} {g : Nat → Nat} (S : sAll σ τ D ck hc ac pc cc g q n) : g_304 σ = some true := by
  obtain ⟨K, B, l, R⟩ := S
  have kc := K.1
  have hc20 := kc.2.2.2.2.2
  have kg := K.2.2.2.1
  have e := l.1.2.2.2.1.trans kc.2.2.2.2.1
  have e10 : σ 121 10 = nI n := l.1.2.2.2.2.1
  have e11 : σ 121 11 = nI q := l.1.2.2.2.2.2.1
  unfold g_304
  rw [lp_go (fun j => (nI (cntN (isG (τ 156)) j), nI (cntN (isQ (τ 156)) j), nI j)) cc (r := true) ?_ (f_F_lt (by omega)) ?_ ?_, bnd]
  · rfl
  · intro j hj
    obtain ⟨st, hst, est⟩ := (K.2.2.1 j hj).2.2.2.1
    obtain ⟨am, ham, eam⟩ := (K.2.2.1 j hj).2.2.2.2.1
    obtain ⟨k1, k2⟩ := (K.2.2.1 j hj).2.2.2.2.2.2.2
    have e124 : σ 124 j = nI st := (l.2.2.2.1 j hj).1.trans est
    have e126 : σ 126 j = nI am := (l.2.2.2.1 j hj).2.2.trans eam
    rw [est, eam] at k1 k2
    have n1 : nI j + (1 : Int32) = nI (j + 1) := n_add j 1
    have gG : isG (τ 156) j = (decide (nI st = nI 2) || decide (nI st = nI 3)) := by unfold isG; rw [est]
    have gQ : isQ (τ 156) j = decide (nI st = nI 3) := by unfold isQ; rw [est]
    rw [← cnt_step, ← cnt_step, gG, gQ]
    dsimp only
    rw [if_neg (by rw [e, n_le (by omega) (by omega)]; omega), f_rd_n (by omega) (by omega), bnd, e124]
    obtain rfl | rfl | rfl | rfl : st = 0 ∨ st = 1 ∨ st = 2 ∨ st = 3 := by omega
    · have hz : nI am ≤ 0 := by rw [k1 (Or.inl rfl)]; decide
      rw [if_neg (show ¬ nI 0 = (2 : Int32) from by decide), if_pos (show ¬ nI 0 = (3 : Int32) from by decide), bnd, if_neg (by decide), if_pos (show nI 0 = 0 from rfl), f_rd_n (by omega) (by omega), bnd, e126, if_pos hz, bnd, if_pos rfl, if_pos rfl, bnd, bnd, n1]
      rfl
    · have hz : nI am ≤ 0 := by rw [k1 (Or.inr rfl)]; decide
      rw [if_neg (show ¬ nI 1 = (2 : Int32) from by decide), if_pos (show ¬ nI 1 = (3 : Int32) from by decide), bnd, if_neg (by decide), if_neg (show ¬ nI 1 = 0 from by decide), if_pos (show nI 1 = (1 : Int32) from rfl), f_rd_n (by omega) (by omega), bnd, e126, if_pos hz, bnd, if_pos rfl, if_pos rfl, bnd, bnd, n1]
      rfl
    · have hz : ¬ nI am ≤ 0 := by
        rw [show (0 : Int32) = nI 0 from rfl, n_le (by omega) (by omega)]
        intro h
        exact k2 (Or.inl rfl) (by rw [show am = 0 from by omega])
      rw [if_pos (show nI 2 = (2 : Int32) from rfl), bnd, if_pos rfl, f_rd_n (by omega) (by omega), bnd, e126, if_neg hz, bnd, if_pos rfl, if_neg (by decide), bnd, if_pos (show ¬ nI 2 = (3 : Int32) from by decide), bnd, n1]
      rfl
    · have hz : ¬ nI am ≤ 0 := by
        rw [show (0 : Int32) = nI 0 from rfl, n_le (by omega) (by omega)]
        intro h
        exact k2 (Or.inr rfl) (by rw [show am = 0 from by omega])
      rw [if_neg (show ¬ nI 3 = (2 : Int32) from by decide), if_neg (show ¬ ¬ nI 3 = (3 : Int32) from fun h => h rfl), bnd, if_pos rfl, f_rd_n (by omega) (by omega), bnd, e126, if_neg hz, bnd, if_pos rfl, if_neg (by decide), bnd, bnd, n1]
      rfl
  · dsimp only
    rw [if_pos (by rw [e, n_le (by omega) (by omega)]; omega), e10, e11, ← kg.2.1, ← kg.2.2.1, if_neg (fun h => h rfl), if_neg (fun h => h rfl)]
theorem C_305 {σ τ : f_M} {D ck hc ac pc cc q n : Nat} {g : Nat → Nat} (S : sAll σ τ D ck hc ac pc cc g q n) : g_305 σ = some true := by
  obtain ⟨K, B, l, R⟩ := S
  have kc := K.1
  have hp20 := kc.2.2.2.1.2
  have hc20 := kc.2.2.2.2.2
  have ku := K.2.2.2.2.2.2.1.1
  have e := l.1.2.2.2.1.trans kc.2.2.2.2.1
  have tw : ∀ i j, i < j → j < cc → (f_rd σ 119 20 (nI i)).bind (fun v3 => (f_rd σ 119 20 (nI j)).bind fun v4 => g_103 v3 v4 σ) = some false := fun i j hij hj => by
    obtain ⟨p, hp, ep⟩ := (K.2.2.1 i (by omega)).1
    obtain ⟨r, hr, er⟩ := (K.2.2.1 j hj).1
    have h1 : σ 119 i = nI p := (B.2.2 i (by omega)).1.trans ep
    have h2 : σ 119 j = nI r := (B.2.2 j hj).1.trans er
    have h3 := ku i j (by omega) hj (by omega)
    rw [ep, er, nat_n (by omega), nat_n (by omega)] at h3
    rw [f_rd_n (by omega) (by omega), bnd, f_rd_n (by omega) (by omega), bnd, h1, h2, C_twin (by omega) (by omega) (B.2.1 p hp) (B.2.1 r hr)]
    cases h4 : twin_b (τ 156) p r
    · rfl
    · exact absurd (twin_b_iff.mp h4) h3
  unfold g_305
  rw [lp_go (fun j => nI (1 + j)) (cc - 1) (r := true) ?_ (f_F_lt (by omega)) ?_ ?_, bnd]
  · rfl
  · intro j hj
    rw [if_neg (by rw [e, n_le (by omega) (by omega)]; omega), lp_go (fun i => nI i) (1 + j) (r := .inl ()) ?_ (f_F_lt (by omega)) ?_ ?_, bnd, Sum.elim_inl, show nI (1 + j) + (1 : Int32) = nI (1 + (j + 1)) from n_add _ 1]
    · rfl
    · intro i hi
      have h := tw i (1 + j) hi (by omega)
      rw [if_neg (by rw [n_le (by omega) (by omega)]; omega)]
      rw [f_rd_n (by omega) (by omega), bnd, f_rd_n (by omega) (by omega), bnd] at h ⊢
      rw [h, bnd, if_pos rfl, show nI i + (1 : Int32) = nI (i + 1) from n_add _ 1]
    · rw [if_pos (by rw [n_le (by omega) (by omega)]; omega)]
  · rw [if_pos (by rw [e, n_le (by omega) (by omega)]; omega)]
theorem sum_hit {x a : Nat} {n : Nat} (h : x < n) : sumN (fun h => if x = h then a else 0) n = a := by
  induction n with
  | zero => omega
  | succ n ih =>
    rw [sumN_succ]
    by_cases e : x = n
    · rw [if_pos e, sumN_zero (fun i hi => if_neg (by omega))]; omega
    · rw [if_neg e, ih (by omega), Nat.add_zero]
theorem sum_swap {F : Nat → Nat} {x : Nat → Nat} {hc : Nat} : ∀ q, (∀ i, i < q → x i < hc) → sumN (fun h => sumN (fun i => if x i = h then F i else 0) q) hc = sumN F q := by
  intro q
  induction q with
  | zero => intro _; exact sumN_zero fun _ _ => rfl
  | succ q ih =>
    intro h
    rw [sumN_succ, ← ih (fun i hi => h i (by omega))]
    have := sum_hit (a := F q) (h q (by omega))
    rw [show (fun h => sumN (fun i => if x i = h then F i else 0) (q + 1)) = fun h => sumN (fun i => if x i = h then F i else 0) q + (if x q = h then F q else 0) from funext fun h => sumN_succ _ _, sumN_add, this]
theorem C_311 {σ τ : f_M} {D ck hc ac pc cc q n : Nat} {g : Nat → Nat} (S : sAll σ τ D ck hc ac pc cc g q n) : g_311 σ = some true := by
  have S0 := S
  obtain ⟨K, B, l, R⟩ := S
  have kc := K.1
  have hh8 := kc.2.1.2.2
  have hp20 := kc.2.2.2.1.2
  have hc20 := kc.2.2.2.2.2
  have kg := K.2.2.2.1
  have kr := K.2.2.2.2.2.1
  have hqn := (qn_le K).1
  have e := R.1.1.trans kc.2.1.1
  have e13 : σ 121 13 = τ 156 7 := l.1.2.2.2.2.2.2.2.1
  unfold g_311
  rw [lp_go (fun j => (sumI (fun h => τ 156 (20 + 9 * h + 8)) j, nI j)) hc (r := sumI (fun h => τ 156 (20 + 9 * h + 8)) hc) ?_ (f_F_lt (by omega)) ?_ ?_, bnd]
  · have h1 : sumI (fun h => τ 156 (20 + 9 * h + 8)) hc = τ 156 7 := by
      rw [kr.2, sumI_congr (fun h hh => kr.1 h hh), sumI_n, sum_swap q (fun i hi => ?_)]
      have hg := kg.2.2.2.1 i (by omega)
      obtain ⟨p, hp, ep⟩ := (K.2.2.1 _ hg).1
      obtain ⟨h, hh, eh⟩ := (K.2.1 p hp).2.1
      unfold hld
      rw [ep, nat_n (by omega), eh, nat_n (by omega)]
      exact hh
    rw [h1, e13, if_neg (fun h => h rfl), bnd]
  · rfl
  · intro j hj
    dsimp only
    rw [if_neg (by rw [e, n_le (by omega) (by omega)]; omega), C_paid S0 hj, bnd, sumI_succ, show nI j + (1 : Int32) = nI (j + 1) from n_add j 1]
  · dsimp only
    rw [if_pos (by rw [e, n_le (by omega) (by omega)]; omega)]
theorem C_313 {σ τ : f_M} {D ck hc ac pc cc q n : Nat} {g : Nat → Nat} (S : sAll σ τ D ck hc ac pc cc g q n) : ∃ σ', g_313 σ = some (true, σ') ∧ ∀ r, r ≠ 42 → r ≠ 43 → σ' r = σ r := by
  have S0 := S
  obtain ⟨K, B, l, R⟩ := S
  have kc := K.1
  obtain ⟨σ', c1, c2⟩ := C_310 kc.1.1 kc.1.2 kc.2.2.2.1.2 (l.1.2.2.1.trans kc.2.2.2.1.1) (l.1.1.trans kc.1.1) K.2.1 B.2.1 B.1
  have S' : sAll σ' τ D ck hc ac pc cc g q n := sAll_keep S0 (fun r h h' => c2 r (by omega) (by omega)) rfl
  refine ⟨σ', ?_, c2⟩
  unfold g_313 g_312
  rw [C_303 S0, bnd, if_neg (by decide), C_304 S0, bnd, if_neg (by decide), C_305 S0, bnd, if_neg (by decide), c1, bnd]
  dsimp only
  rw [if_neg (by decide), C_311 S', bnd, if_neg (by decide), bnd, bnd]
theorem M_314 {τ : f_M} {D ck hc ac pc cc q n : Nat} {g : Nat → Nat} (K : kAll (τ 156) D ck hc ac pc cc g q n) : g_314 τ = some true := by
  have kc := K.1
  have hp20 := kc.2.2.2.1.2
  have hc20 := kc.2.2.2.2.2
  have ku := K.2.2.2.2.2.2.1.1
  have kd := K.2.2.2.2.1.1
  have h5 : f_rd τ 156 2420 (5 : Int32) = some (nI cc) := by rw [show (5 : Int32) = nI 5 from rfl, rdS (by omega), kc.2.2.2.2.1]
  have h10 : f_rd τ 156 2420 (10 : Int32) = some (τ 156 10) := rdS (k := 10) (by omega)
  have tw : ∀ i j, i < j → j < cc → ∃ p r, f_rd τ 156 2420 (nI (300 + 6 * j) + (0 : Int32)) = some (nI p) ∧ f_rd τ 156 2420 (nI (300 + 6 * i) + (0 : Int32)) = some (nI r) ∧ g_143 (nI p) (nI r) τ = some false := fun i j hij hj => by
    obtain ⟨r, hr, er⟩ := (K.2.2.1 i (by omega)).1
    obtain ⟨p, hp, ep⟩ := (K.2.2.1 j hj).1
    have h3 := ku j i hj (by omega) (by omega)
    rw [ep, er, nat_n (by omega), nat_n (by omega)] at h3
    refine ⟨p, r, ?_, ?_, ?_⟩
    · rw [show (nI (300 + 6 * j) + (0 : Int32)) = nI (300 + 6 * j + 0) from n_add _ 0, rdS (by omega), ep]
    · rw [show (nI (300 + 6 * i) + (0 : Int32)) = nI (300 + 6 * i + 0) from n_add _ 0, rdS (by omega), er]
    · rw [M_twin (by omega) (by omega)]
      cases h4 : twin_b (τ 156) p r
      · rfl
      · exact absurd (twin_b_iff.mp h4) h3
  have c1 : cntN (fun c => !decide (τ 156 (300 + 6 * c + 3) = nI 0)) cc = cntN (fun c => decide (τ 156 (300 + 6 * c + 3) = nI 1)) cc + cntN (isG (τ 156)) cc := by
    refine cntN_add _ _ _ _ fun i hi => ?_
    obtain ⟨st, hst, est⟩ := (K.2.2.1 i hi).2.2.2.1
    unfold isG
    rw [est]
    obtain rfl | rfl | rfl | rfl : st = 0 ∨ st = 1 ∨ st = 2 ∨ st = 3 := by omega
    all_goals decide
  have c2 : cc = cntN (fun c => !decide (τ 156 (300 + 6 * c + 3) = nI 0)) cc + cntN (fun c => decide (τ 156 (300 + 6 * c + 3) = nI 0)) cc := by
    rw [← cntN_add (fun c => !decide (τ 156 (300 + 6 * c + 3) = nI 0)) (fun c => decide (τ 156 (300 + 6 * c + 3) = nI 0)) (fun _ => true) cc (fun i _ => by cases decide (τ 156 (300 + 6 * i + 3) = nI 0) <;> rfl)]
    exact (cnt_pre (Nat.le_refl _) (fun _ _ => rfl) (fun i h h' => absurd h' (by omega))).symm
  rw [isG_cnt] at c1
  unfold g_314
  rw [lp_go (fun j => nI j) cc (r := .inl ()) ?_ (f_F_lt (by omega)) ?_ ?_, bnd, Sum.elim_inl]
  · rw [show g_283 (1 : Int32) τ = _ from M_cntIn (w := 1) K, bnd, show g_283 (2 : Int32) τ = _ from M_cntIn (w := 2) K, bnd, show g_283 (3 : Int32) τ = _ from M_cntIn (w := 3) K, bnd, h10, bnd, show g_283 (0 : Int32) τ = _ from M_cntIn (w := 0) K, h5, n_add, n_add, bnd, bnd, n_add, Nat.add_assoc, ← c1, ← c2, kd, if_neg (fun h => h rfl), if_neg (fun h => h rfl), bnd]
  · rfl
  · intro j hj
    rw [h5, bnd, if_neg (by rw [n_le (by omega) (by omega)]; omega), lp_go (fun i => nI i) j (r := .inl ()) ?_ (f_F_lt (by omega)) ?_ ?_, bnd, Sum.elim_inl, show nI j + (1 : Int32) = nI (j + 1) from n_add _ 1]
    · rfl
    · intro i hi
      obtain ⟨p, r, h1, h2, h3⟩ := tw i j hi hj
      rw [if_neg (by rw [n_le (by omega) (by omega)]; omega), M_c, bnd, h1, bnd, M_c, bnd, h2, bnd, h3, bnd, if_pos rfl, show nI i + (1 : Int32) = nI (i + 1) from n_add _ 1]
    · rw [if_pos (by rw [n_le (by omega) (by omega)]; omega)]
  · rw [h5, bnd, if_pos (by rw [n_le (by omega) (by omega)]; omega)]
theorem B_49 {D : Nat} {σ τ : f_M} (I : IV D σ τ) : ∃ σ' τ', g_313 σ = some (true, σ') ∧ g_318 τ = some (true, τ') ∧ IV D σ' τ' ∧ cFm σ σ' τ τ' := by
  have I0 := I
  obtain ⟨ck, hc, ac, pc, cc, g, q, n, k, o, P, S, -⟩ := I0
  have S0 := S
  obtain ⟨K, B, l, R⟩ := S
  have kc := K.1
  have kr := K.2.2.2.2.2.1
  obtain ⟨σ', c1, c2⟩ := C_313 S0
  have e156 : f_up τ 155 6 0 156 = τ 156 := up_rows (by omega)
  have K' : kAll (f_up τ 155 6 0 156) D ck hc ac pc cc g q n := by rw [e156]; exact K
  obtain ⟨τ', m1, m2⟩ := M_317 e156 K
  refine ⟨σ', τ', c1, ?_, IV_trial I (fun r h h' _ => c2 r h h') (fun r h _ h' => by rw [m2 r h', up_rows h]) (fun i h => by rw [m2 155 (by omega), up_ix h]), ⟨fun r h _ => c2 r (by omega) (by omega), fun r h => by rw [m2 r (by omega), up_rows (by omega)]⟩⟩
  have hm : g_39 (f_up τ 155 6 0) = some (τ 156 9 + τ 156 8) := by
    rw [M_money (hc := hc) (by rw [e156]; exact kc.2.1.1) kc.2.1.2.2, e156, K.2.2.2.2.2.2.2.1.1]
  have h9 : f_rd (f_up τ 155 6 (0 : Int32)) 156 2420 (9 : Int32) = some (τ 156 9) := rd6 (k := 9) (by omega)
  have h8 : f_rd (f_up τ 155 6 (0 : Int32)) 156 2420 (8 : Int32) = some (τ 156 8) := rd6 (k := 8) (by omega)
  have h7 : f_rd (f_up τ 155 6 (0 : Int32)) 156 2420 (7 : Int32) = some (τ 156 7) := rd6 (k := 7) (by omega)
  have hs : g_267 (3 : Int32) (f_up τ 155 6 0) = some (τ 156 7) := by
    rw [show g_267 (3 : Int32) (f_up τ 155 6 0) = _ from M_sumIn (w := 3) K', e156, kr.2, sum_paid K.2.2.2.1]
    refine congrArg some (congrArg nI (sumN_congr fun c hc => ?_))
    unfold isQ
    by_cases h : τ 156 (300 + 6 * c + 3) = nI 3
    · rw [if_pos h, decide_eq_true h, if_pos rfl]
    · rw [if_neg h, decide_eq_false h, if_neg (by decide)]
  unfold g_318
  rw [hm, bnd, h9, bnd, h8, bnd, if_neg (fun h => h rfl), bnd, if_neg (by decide), hs, bnd, h7, bnd, if_neg (fun h => h rfl), M_314 K', bnd, if_neg (by decide), m1, bnd]
  dsimp only
  rw [if_neg (by decide), bnd]
