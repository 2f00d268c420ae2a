/-! Open payments, the luckiest holder, decided claims, hours until a decision, premiums of a day. -/
theorem sumN_add (f h : Nat → Nat) (n : Nat) : sumN (fun i => f i + h i) n = sumN f n + sumN h n := by
  induction n with
  | zero => rfl
  | succ n ih => rw [sumN_succ, sumN_succ, sumN_succ, ih]; omega
theorem sumN_split (f : Nat → Nat) {q n : Nat} (h : q ≤ n) : sumN f n = sumN f q + sumN (fun i => f (q + i)) (n - q) := by
  induction n with
  | zero =>
    obtain rfl : q = 0 := by omega
    rfl
  | succ n ih =>
    by_cases e : q = n + 1
    · subst e
      rw [Nat.sub_self]; rfl
    · rw [sumN_succ, ih (by omega), show n + 1 - q = (n - q) + 1 from by omega, sumN_succ, show q + (n - q) = n from by omega]
      omega
theorem amt_at {s : Nat → Int32} {D ck hc ac pc cc q n c : Nat} {g : Nat → Nat} (K : kAll s D ck hc ac pc cc g q n) (hc' : c < cc) : s (300 + 6 * c + 4) = nI (amt s c) ∧ amt s c ≤ 500 := by
  have := (K.2.2.1 c hc').2.2.2.2.1.nat (by omega)
  exact ⟨this.1, by unfold amt; omega⟩
theorem hld_at {s : Nat → Int32} {D ck hc ac pc cc q n c : Nat} {g : Nat → Nat} (K : kAll s D ck hc ac pc cc g q n) (hc' : c < cc) : s (300 + 6 * c + 0) = nI (nat (s (300 + 6 * c + 0))) ∧ nat (s (300 + 6 * c + 0)) < pc ∧ s (100 + 10 * nat (s (300 + 6 * c + 0)) + 1) = nI (hld s c) ∧ hld s c < hc := by
  have hp20 := K.1.2.2.2.1.2
  have hh8 := K.1.2.1.2.2
  have h1 := (K.2.2.1 c hc').1.nat (by omega)
  have h2 := (K.2.1 _ h1.2).2.1.nat (by omega)
  exact ⟨h1.1, h1.2, h2.1, h2.2⟩
theorem st_two {s : Nat → Int32} {F : Nat → Nat} (c : Nat) : (if isG s c = true then F c else 0) = (if isQ s c = true then F c else 0) + (if s (300 + 6 * c + 3) = nI 2 then F c else 0) := by
  unfold isG isQ
  by_cases h2 : s (300 + 6 * c + 3) = nI 2
  · have h3 : ¬ s (300 + 6 * c + 3) = nI 3 := by rw [h2]; decide
    simp [h2]
    intro h; exact absurd h (by decide)
  · by_cases h3 : s (300 + 6 * c + 3) = nI 3
    · rw [h3]; simp
      intro h; exact absurd h (by decide)
    · simp [h2, h3]
theorem M_sumIn {μ : f_M} {w D ck hc ac pc cc q n : Nat} {g : Nat → Nat} (K : kAll (μ 156) D ck hc ac pc cc g q n) : g_267 (nI w) μ = some (nI (sumN (fun c => if μ 156 (300 + 6 * c + 3) = nI w then amt (μ 156) c else 0) cc)) := by
  have hcc := K.1.2.2.2.2
  unfold g_267
  have h5 : f_rd μ 156 2420 (5 : Int32) = some (nI cc) := by rw [show (5 : Int32) = nI 5 from rfl, rdS (by omega), hcc.1]
  rw [lp_go (fun j => (nI (sumN (fun c => if μ 156 (300 + 6 * c + 3) = nI w then amt (μ 156) c else 0) j), nI j)) cc (r := nI (sumN (fun c => if μ 156 (300 + 6 * c + 3) = nI w then amt (μ 156) c else 0) cc)) ?_ (f_F_lt (by omega)) ?_ ?_, bnd]
  · rfl
  · intro j hj
    dsimp only
    rw [h5, bnd, if_neg (by rw [n_le (by omega) (by omega)]; omega), M_c, bnd, show (3 : Int32) = nI 3 from rfl, n_add, rdS (by omega), bnd, sumN_succ]
    by_cases h : μ 156 (300 + 6 * j + 3) = nI w
    · rw [if_neg (fun h' => h' h), bnd, show (4 : Int32) = nI 4 from rfl, n_add, rdS (by omega), bnd, bnd, (amt_at K hj).1, if_pos h, n_add, show (1 : Int32) = nI 1 from rfl, n_add]
    · rw [if_pos h, bnd, if_neg h, show (1 : Int32) = nI 1 from rfl, n_add, show (0 : Int32) = nI 0 from rfl, n_add]
  · dsimp only
    rw [h5, bnd, if_pos (by rw [n_le (by omega) (by omega)]; omega)]
theorem A_37 {D : Nat} {σ τ : f_M} (I : IV D σ τ) : qA (g_266 σ) (g_268 τ) τ := by
  obtain ⟨ck, hc, ac, pc, cc, g, q, n, k, o, P, ⟨K, B, l, R⟩, -⟩ := I
  have kc := K.1
  have hc20 := kc.2.2.2.2.2
  obtain ⟨hqn, hn⟩ := qn_le K
  have kg := K.2.2.2.1
  have e10 : σ 121 10 = nI n := l.1.2.2.2.2.1
  have e11 : σ 121 11 = nI q := l.1.2.2.2.2.2.1
  have key : sumN (fun i => amt (τ 156) (g (q + i))) (n - q) = sumN (fun c => if τ 156 (300 + 6 * c + 3) = nI 2 then amt (τ 156) c else 0) cc := by
    have h1 := sumN_split (fun i => amt (τ 156) (g i)) hqn
    have h2 := sum_all (G := fun c => amt (τ 156) c) kg
    have h3 := sum_paid (G := fun c => amt (τ 156) c) kg
    have h4 := sumN_add (fun c => if isQ (τ 156) c = true then amt (τ 156) c else 0) (fun c => if τ 156 (300 + 6 * c + 3) = nI 2 then amt (τ 156) c else 0) cc
    have h5 : sumN (fun c => if isG (τ 156) c = true then amt (τ 156) c else 0) cc = sumN (fun c => (if isQ (τ 156) c = true then amt (τ 156) c else 0) + (if τ 156 (300 + 6 * c + 3) = nI 2 then amt (τ 156) c else 0)) cc := sumN_congr fun c _ => st_two (F := fun c => amt (τ 156) c) c
    omega
  refine ⟨nI (sumN (fun i => amt (τ 156) (g (q + i))) (n - q)), ?_, ?_⟩
  · unfold g_266
    rw [e10, e11, lp_go (fun j => (nI (sumN (fun i => amt (τ 156) (g (q + i))) j), nI (q + j))) (n - q) (r := nI (sumN (fun i => amt (τ 156) (g (q + i))) (n - q))) ?_ (f_F_lt (by omega)) ?_ ?_, bnd]
    · rfl
    · intro j hj
      have hg := kg.2.2.2.1 (q + j) (by omega)
      have e1 : σ 127 (q + j) = nI (g (q + j)) := l.2.2.2.2 (q + j) (by omega)
      have e2 : σ 126 (g (q + j)) = τ 156 (300 + 6 * g (q + j) + 4) := (l.2.2.2.1 _ hg).2.2
      dsimp only
      rw [if_neg (by rw [n_le (by omega) (by omega)]; omega), f_rd_n (by omega) (by omega), bnd, e1, f_rd_n (by omega) (by omega), bnd, e2, (amt_at K hg).1, n_add, show (1 : Int32) = nI 1 from rfl, n_add, sumN_succ]
      rfl
    · dsimp only
      rw [if_pos (by rw [n_le (by omega) (by omega)]; omega)]
  · unfold g_268
    rw [show g_267 (2 : Int32) (f_up τ 155 6 0) = _ from M_sumIn (w := 2) (by rw [up_rows (by omega)]; exact K), bnd, up_rows (by omega), key]
/-! the luckiest holder -/
theorem C_paid {σ τ : f_M} {D ck hc ac pc cc q n h : Nat} {g : Nat → Nat} (S : sAll σ τ D ck hc ac pc cc g q n) (hh : h < hc) : g_275 (nI h) σ = some (τ 156 (20 + 9 * h + 8)) := by
  obtain ⟨K, B, l, R⟩ := S
  obtain ⟨hqn, hn⟩ := qn_le K
  have kg := K.2.2.2.1
  have hp20 := K.1.2.2.2.1.2
  have hc20 := K.1.2.2.2.2.2
  have hh8 := K.1.2.1.2.2
  have e11 : σ 121 11 = nI q := l.1.2.2.2.2.2.1
  unfold g_275
  rw [K.2.2.2.2.2.1.1 h hh, e11, lp_go (fun j => (nI (sumN (fun i => if hld (τ 156) (g i) = h then amt (τ 156) (g i) else 0) j), nI j)) q (r := nI (sumN (fun i => if hld (τ 156) (g i) = h then amt (τ 156) (g i) else 0) q)) ?_ (f_F_lt (by omega)) ?_ ?_, bnd]
  · rfl
  · intro j hj
    have hg := kg.2.2.2.1 j (by omega)
    obtain ⟨d1, d2, d3, d4⟩ := hld_at K hg
    have e1 : σ 127 j = nI (g j) := l.2.2.2.2 j (by omega)
    have e2 : σ 126 (g j) = τ 156 (300 + 6 * g j + 4) := (l.2.2.2.1 _ hg).2.2
    have e3 : σ 119 (g j) = τ 156 (300 + 6 * g j + 0) := (B.2.2 _ hg).1
    have e4 : σ 112 (nat (τ 156 (300 + 6 * g j + 0))) = τ 156 (100 + 10 * nat (τ 156 (300 + 6 * g j + 0)) + 1) := (B.2.1 _ d2).2.1
    dsimp only
    rw [if_neg (by rw [n_le (by omega) (by omega)]; omega), f_rd_n (by omega) (by omega), bnd, e1]
    unfold g_91
    rw [f_rd_n (by omega) (by omega), bnd, e3, d1, f_rd_n (by omega) (by omega), bnd, bnd, e4, d3, sumN_succ]
    by_cases h9 : hld (τ 156) (g j) = h
    · rw [if_neg (fun h' => h' (by rw [h9])), f_rd_n (by omega) (by omega), bnd, bnd, e2, (amt_at K hg).1, if_pos h9, n_add, show (1 : Int32) = nI 1 from rfl, n_add]
    · rw [if_pos (by rw [n_eq (by omega) (by omega)]; exact h9), bnd, if_neg h9, show (1 : Int32) = nI 1 from rfl, n_add]
      rfl
  · dsimp only
    rw [if_pos (by rw [n_le (by omega) (by omega)]; omega)]
def lkN (r : Nat → Nat) : Nat → Nat
  | 0 => 0
  | j + 1 => if r (j + 1) ≤ r (lkN r j) then lkN r j else j + 1
theorem lkN_succ (r : Nat → Nat) (j : Nat) : lkN r (j + 1) = if r (j + 1) ≤ r (lkN r j) then lkN r j else j + 1 := rfl
theorem lkN_le (r : Nat → Nat) (j : Nat) : lkN r j ≤ j := by
  induction j with
  | zero => exact Nat.le_refl _
  | succ j ih => rw [lkN_succ]; split <;> omega
theorem rec_at {s : Nat → Int32} {D ck hc ac pc cc q n h : Nat} {g : Nat → Nat} (K : kAll s D ck hc ac pc cc g q n) (hh : h < hc) : s (20 + 9 * h + 8) = nI (nat (s (20 + 9 * h + 8))) ∧ nat (s (20 + 9 * h + 8)) ≤ 10000 := by
  obtain ⟨hqn, hn⟩ := qn_le K
  have e := K.2.2.2.2.2.1.1 h hh
  have hle : sumN (fun i => if hld s (g i) = h then amt s (g i) else 0) q ≤ q * 500 := sumN_le fun i hi => by
    have := (amt_at K (K.2.2.2.1.2.2.2.1 i (by omega))).2
    split <;> omega
  have : q * 500 ≤ 20 * 500 := Nat.mul_le_mul_right _ (by omega)
  rw [e, nat_n (by omega)]
  exact ⟨rfl, by omega⟩
def stL (r : Nat → Nat) : Nat → Int32 × Int32 × Int32
  | 0 => (0, 0, 0)
  | j + 1 => (nI (lkN r j), nI (r (lkN r j)), nI (j + 1))
theorem stL_zero (r : Nat → Nat) : stL r 0 = (0, 0, 0) := rfl
theorem stL_succ (r : Nat → Nat) (j : Nat) : stL r (j + 1) = (nI (lkN r j), nI (r (lkN r j)), nI (j + 1)) := rfl
theorem A_41 {D : Nat} {σ τ : f_M} (I : IV D σ τ) : qA (g_276 σ) (g_277 τ) τ := by
  obtain ⟨ck, hc, ac, pc, cc, g, q, n, k, o, P, S, -⟩ := I
  have S' := S
  obtain ⟨K, B, l, R⟩ := S
  have kc := K.1
  have hh := kc.2.1
  have e0 : σ 103 0 = nI hc := R.1.1.trans hh.1
  have ra : ∀ h, h < hc → τ 156 (20 + 9 * h + 8) = nI (nat (τ 156 (20 + 9 * h + 8))) ∧ nat (τ 156 (20 + 9 * h + 8)) ≤ 10000 := fun h hh => rec_at K hh
  have hr : ∃ r : Nat → Nat, ∀ h, h < hc → τ 156 (20 + 9 * h + 8) = nI (r h) ∧ r h ≤ 10000 := ⟨fun h => nat (τ 156 (20 + 9 * h + 8)), ra⟩
  obtain ⟨r, hr⟩ := hr
  refine ⟨nI (lkN r (hc - 1)), ?_, ?_⟩
  · unfold g_276
    obtain ⟨h', rfl⟩ : ∃ m, hc = m + 1 := ⟨hc - 1, by omega⟩
    rw [e0, Nat.add_sub_cancel, lp_go (stL r) (h' + 1) (r := nI (lkN r h')) ?_ (f_F_lt (by omega)) ?_ ?_, bnd]
    · rfl
    · intro j hj
      cases j with
      | zero =>
        rw [stL_zero, stL_succ]
        dsimp only
        rw [if_neg (by rw [show (0 : Int32) = nI 0 from rfl, n_le (by omega) (by omega)]; omega), show g_275 (0 : Int32) σ = _ from C_paid (h := 0) S' hj, bnd, (hr 0 hj).1]
        have h9 := (hr 0 hj).2
        by_cases h0 : r 0 = 0
        · rw [if_pos (by rw [h0]; decide), bnd]
          show some (Sum.inl ((0 : Int32), (0 : Int32), (0 : Int32) + 1)) = some (Sum.inl (nI 0, nI (r 0), nI 1))
          rw [h0]; rfl
        · rw [if_neg (by rw [show (0 : Int32) = nI 0 from rfl, n_le (by omega) (by omega)]; omega), bnd]
          rfl
      | succ j =>
        rw [stL_succ, stL_succ]
        dsimp only
        have hle := lkN_le r j
        have h9 := (hr (j + 1) hj).2
        have h8 := (hr (lkN r j) (by omega)).2
        rw [if_neg (by rw [n_le (by omega) (by omega)]; omega), C_paid S' hj, bnd, (hr (j + 1) hj).1, lkN_succ, show (1 : Int32) = nI 1 from rfl, n_add]
        by_cases h7 : r (j + 1) ≤ r (lkN r j)
        · rw [if_pos (by rw [n_le (by omega) (by omega)]; exact h7), bnd, if_pos h7]
        · rw [if_neg (by rw [n_le (by omega) (by omega)]; exact h7), bnd, if_neg h7]
    · rw [stL_succ]
      dsimp only
      rw [if_pos (by rw [n_le (by omega) (by omega)]; omega)]
  · unfold g_277
    have h2 : ∀ v, f_rd (f_up τ 155 6 v) 156 2420 (2 : Int32) = some (nI hc) := fun v => by
      rw [show (2 : Int32) = nI 2 from rfl, rd6 (by omega), hh.1]
    rw [lp_go (fun j => (nI (lkN r j), nI (j + 1))) (hc - 1) (r := nI (lkN r (hc - 1))) ?_ (f_F_lt (by omega)) ?_ ?_, bnd]
    · rfl
    · intro j hj
      have hle := lkN_le r j
      have h9 := (hr (j + 1) (by omega)).2
      have h8 := (hr (lkN r j) (by omega)).2
      dsimp only
      rw [h2, bnd, if_neg (by rw [n_le (by omega) (by omega)]; omega), M_h, bnd, show (8 : Int32) = nI 8 from rfl, n_add, rd6 (by omega), bnd, (hr (j + 1) (by omega)).1, M_h, bnd, n_add, rd6 (by omega), bnd, (hr (lkN r j) (by omega)).1, show (1 : Int32) = nI 1 from rfl, n_add, lkN_succ]
      by_cases h7 : r (j + 1) ≤ r (lkN r j)
      · rw [if_pos (by rw [n_le (by omega) (by omega)]; exact h7), bnd, if_pos h7]
      · rw [if_neg (by rw [n_le (by omega) (by omega)]; exact h7), bnd, if_neg h7]
    · dsimp only
      rw [h2, bnd, if_pos (by rw [n_le (by omega) (by omega)]; omega)]
/-! hours until a decision -/
theorem Q_47 {D : Nat} {σ τ : f_M} (a : Int32) (I : IV D σ τ) : qB (g_294 a) (g_295 a) σ τ := by
  obtain ⟨ck, hc, ac, pc, cc, g, q, n, k, o, P, ⟨K, B, l, R⟩, -⟩ := I
  have kc := K.1
  have ha3 := kc.2.2.1.2.2
  have hc20 := kc.2.2.2.2.2
  have e := l.1.2.2.2.1.trans kc.2.2.2.2.1
  rcases n_ix a (m := cc) (by omega) with h | ⟨p, hp, rfl⟩
  · refine Or.inr ⟨1, 0, by decide, ?_, ?_⟩
    · unfold g_294 g_293
      rw [R_cl0 e h]
      rfl
    · unfold g_295
      rw [M_isC _ kc.2.2.2.2.1 (by omega), bnd, inN_no h, M_noo, bnd, if_neg (show ¬ (false, f_up τ 155 6 1).1 = true from Bool.noConfusion)]
  · obtain ⟨x, hx, ex⟩ := (K.2.2.1 p hp).2.1
    have est : σ 124 p = τ 156 (300 + 6 * p + 3) := (l.2.2.2.1 p hp).1
    have eas : σ 120 p = nI x := ((B.2.2 p hp).2).trans ex
    have str : σ 107 x = τ 156 (95 + x) := R.2.1 x hx
    refine Or.inl ⟨if τ 156 (300 + 6 * p + 3) = 0 then sumI (fun c => if s_und (τ 156) c (nI x) = true then (nI 2 + τ 156 (95 + x)) - τ 156 (300 + 6 * c + 2) else 0) (p + 1) else 0, ?_, ?_⟩
    · unfold g_294 g_293
      rw [R_cl e (by omega) hp, bnd, Sum.elim_inl]
      unfold g_292 g_85
      rw [f_rd_n (by omega) (by omega), bnd, est]
      by_cases h0 : τ 156 (300 + 6 * p + 3) = 0
      · rw [if_pos h0, if_pos h0, f_rd_n (by omega) (by omega), bnd, eas, f_rd_n (by omega) (by omega), bnd, str, bnd, lp_go (fun j => (sumI (fun c => if s_und (τ 156) c (nI x) = true then (nI 2 + τ 156 (95 + x)) - τ 156 (300 + 6 * c + 2) else 0) j, nI j)) (p + 1) (r := sumI (fun c => if s_und (τ 156) c (nI x) = true then (nI 2 + τ 156 (95 + x)) - τ 156 (300 + 6 * c + 2) else 0) (p + 1)) ?_ (f_F_lt (by omega)) ?_ ?_, bnd, bnd, bnd, Sum.elim_inl]
        · exact W_fin _ _
        · rfl
        · intro j hj
          dsimp only
          rw [if_neg (by rw [n_lt (by omega) (by omega)]; omega), C_und (s := τ 156) (by omega) ((l.2.2.2.1 j (by omega)).1) ((B.2.2 j (by omega)).2), bnd, sumI_succ]
          cases s_und (τ 156) j (nI x)
          · rw [if_pos rfl, bnd, if_neg (by decide), Int32.add_zero, show (1 : Int32) = nI 1 from rfl, n_add]
          · rw [if_neg (by decide), f_rd_n (by omega) (by omega), bnd, bnd, if_pos rfl, show σ 125 j = _ from (l.2.2.2.1 j (by omega)).2.1, show (1 : Int32) = nI 1 from rfl, n_add]
            rfl
        · dsimp only
          rw [if_pos (by rw [n_lt (by omega) (by omega)]; omega)]
      · rw [if_neg h0, if_neg h0, bnd, bnd, Sum.elim_inl]
        exact W_fin _ _
    · unfold g_295
      rw [M_isC _ kc.2.2.2.2.1 (by omega), bnd, inN_ok hp (by omega), M_yes, bnd, if_pos rfl]
      dsimp only
      rw [M_c, bnd, show (3 : Int32) = nI 3 from rfl, n_add, rd6 (by omega), bnd]
      by_cases h0 : τ 156 (300 + 6 * p + 3) = 0
      · rw [if_pos h0, if_pos h0, bnd, show (1 : Int32) = nI 1 from rfl, n_add, rd6 (by omega), bnd, ex, lp_go (fun j => (sumI (fun c => if s_und (τ 156) c (nI x) = true then (nI 2 + τ 156 (95 + x)) - τ 156 (300 + 6 * c + 2) else 0) j, nI j)) (p + 1) (r := sumI (fun c => if s_und (τ 156) c (nI x) = true then (nI 2 + τ 156 (95 + x)) - τ 156 (300 + 6 * c + 2) else 0) (p + 1)) ?_ (f_F_lt (by omega)) ?_ ?_, bnd]
        · rfl
        · intro j hj
          dsimp only
          rw [if_neg (by rw [n_lt (by omega) (by omega)]; omega), M_und (by omega), bnd, up_rows (by omega), sumI_succ]
          cases s_und (τ 156) j (nI x)
          · rw [if_pos rfl, bnd, if_neg (by decide), n_add]
          · rw [if_neg (by decide), if_pos rfl]
            unfold g_129
            rw [show (95 : Int32) = nI 95 from rfl, n_add, rd6 (by omega), bnd, bnd, M_c, bnd, show (2 : Int32) = nI 2 from rfl, n_add, rd6 (by omega), bnd, bnd, n_add]
        · dsimp only
          rw [if_pos (by rw [n_lt (by omega) (by omega)]; omega)]
      · rw [if_neg h0, if_neg h0]
