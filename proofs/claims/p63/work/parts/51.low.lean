/-! Only the first 2420 numbers of a row count. -/
theorem kAll_low {s s' : Nat → Int32} {D ck hc ac pc cc q n : Nat} {g : Nat → Nat} (e : ∀ i, i < 2420 → s' i = s i) (K : kAll s D ck hc ac pc cc g q n) : kAll s' D ck hc ac pc cc g q n := by
  obtain ⟨kc, kp, kk, kg, kd, kr, ku, km, ks, kw⟩ := K
  obtain ⟨⟨c0, c0'⟩, ⟨c2, c2', c2''⟩, ⟨c3, c3', c3''⟩, ⟨c4, c4'⟩, ⟨c5, c5'⟩⟩ := kc
  refine ⟨⟨⟨?_, c0'⟩, ⟨?_, c2', c2''⟩, ⟨?_, c3', c3''⟩, ⟨?_, c4'⟩, ⟨?_, c5'⟩⟩, ?_, ?_, ?_, ?_, ?_, ?_, ?_, ?_, ?_⟩
  · rw [e 0 (by omega)]; exact c0
  · rw [e 2 (by omega)]; exact c2
  · rw [e 3 (by omega)]; exact c3
  · rw [e 4 (by omega)]; exact c4
  · rw [e 5 (by omega)]; exact c5
  · exact fun p' hp' => kP_congr (fun i hi => e _ (by omega)) (kp p' hp')
  · exact fun c hc => kK_congr c3'' (fun i hi => e _ (by omega)) (fun x hx => e _ (by omega)) (kk c hc)
  · exact kG_congr (fun c hc => e _ (by omega)) (fun c hc => e _ (by omega)) kg
  · exact kD_congr (e _ (by omega)) (fun c hc => e _ (by omega)) (fun c hc => e _ (by omega)) kd
  · exact kR_congr c4' (fun i hi => kg.2.2.2.1 i (by have := kg.1; omega)) (fun c hc => (kk c hc).1) (fun h hh => e _ (by omega)) (e _ (by omega)) (fun c hc => e _ (by omega)) (fun i hi => by have := kg.2.2.2.1 i (by have := kg.1; omega); exact e _ (by omega)) (fun p hp => e _ (by omega)) kr
  · exact kU_congr c4' (fun c hc => (kk c hc).1) (fun c hc => e _ (by omega)) (fun p hp i hi => e _ (by omega)) ku
  · exact kM_congr (e _ (by omega)) (e _ (by omega)) (e _ (by omega)) (e _ (by omega)) (fun h hh => e _ (by omega)) km
  · exact kS_congr c3'' c2'' (fun k h1 h2 h3 => e _ (by omega)) ks
  · intro t ht
    rw [e _ (by omega), e _ (by omega)]; exact kw t ht
theorem rB_low {σ : f_M} {b : Nat} {s s' : Nat → Int32} {ck pc cc : Nat} (hck : ck ≤ 1000) (hpc : pc ≤ 20) (hcc : cc ≤ 20) (e : ∀ i, i < 2420 → s' i = s i) (h : rB σ b s ck pc cc) : rB σ b s' ck pc cc := by
  obtain ⟨h1, h2, h3⟩ := h
  refine ⟨fun t ht => ?_, fun p hp => rP_congr (fun i hi => e _ (by omega)) (fun i _ hi => rfl) (h2 p hp), fun c hc => ?_⟩
  · rw [e _ (by omega), e _ (by omega)]; exact h1 t ht
  · rw [e _ (by omega), e _ (by omega)]; exact h3 c hc
theorem rL_low {σ : f_M} {a : Nat} {s s' : Nat → Int32} {hc pc cc q n : Nat} {g : Nat → Nat} (hhc : hc ≤ 8) (hpc : pc ≤ 20) (hcc : cc ≤ 20) (e : ∀ i, i < 2420 → s' i = s i) (h : rL σ a s hc pc cc g q n) : rL σ a s' hc pc cc g q n := by
  obtain ⟨l0, lb, ll, lc, lg⟩ := h
  refine ⟨?_, fun h hh => ?_, fun p hp => ?_, fun c hc => ?_, lg⟩
  · rw [e 0 (by omega), e 1 (by omega), e 4 (by omega), e 5 (by omega), e 6 (by omega), e 7 (by omega), e 8 (by omega)]; exact l0
  · rw [e _ (by omega)]; exact lb h hh
  · rw [e _ (by omega)]; exact ll p hp
  · rw [e _ (by omega), e _ (by omega), e _ (by omega)]; exact lc c hc
theorem rS_low {σ : f_M} {a : Nat} {s s' : Nat → Int32} {hc ac : Nat} (hhc : hc ≤ 8) (hac : ac ≤ 3) (hk : ∀ h, h < hc → nat (s (20 + 9 * h + 0)) ≤ 6) (e : ∀ i, i < 2420 → s' i = s i) (h : rS σ a s hc ac) : rS σ a s' hc ac := by
  obtain ⟨⟨h1, h2⟩, h3, h4, h5⟩ := h
  refine ⟨⟨by rw [e _ (by omega)]; exact h1, by rw [e _ (by omega)]; exact h2⟩, fun x hx => by rw [e _ (by omega)]; exact h3 x hx, fun h hh => ⟨?_, fun k hk' => ?_⟩, by rw [e _ (by omega)]; exact h5⟩
  · rw [e _ (by omega)]; exact (h4 h hh).1
  · rw [e _ (by omega)] at hk'
    have := hk h hh
    rw [e _ (by omega)]; exact (h4 h hh).2 k hk'
/-- the deposits' bound may grow -/
theorem kAll_mono {s : Nat → Int32} {D D' ck hc ac pc cc q n : Nat} {g : Nat → Nat} (h : D ≤ D') (K : kAll s D ck hc ac pc cc g q n) : kAll s D' ck hc ac pc cc g q n := by
  obtain ⟨kc, kp, kk, kg, kd, kr, ku, ⟨m1, d, m2, m3, m4⟩, ks, kw⟩ := K
  exact ⟨kc, kp, kk, kg, kd, kr, ku, ⟨m1, d, by omega, m3, m4⟩, ks, kw⟩
/-! The model's copies of its state. -/
theorem cpN_zero (f g : Nat → Int32) : cpN f g 0 = g := by
  funext i; exact if_neg (by omega)
theorem cpN_succ (f g : Nat → Int32) (k : Nat) : upd (cpN f g k) k (f k) = cpN f g (k + 1) := by
  funext i
  unfold upd cpN
  by_cases h : i = k
  · subst h; rw [if_pos rfl, if_pos (by omega)]
  · rw [if_neg h]
    by_cases h2 : i < k
    · rw [if_pos h2, if_pos (by omega)]
    · rw [if_neg h2, if_neg (by omega)]
theorem M_put {σ : f_M} {b : Nat} (hb : 156 ≠ b) : g_48 b σ = some (f_row σ b (cpN (σ 156) (σ b) 2420)) := by
  unfold g_48
  rw [lp_go (fun j => (nI j, f_row σ b (cpN (σ 156) (σ b) j))) 2420 (r := f_row σ b (cpN (σ 156) (σ b) 2420)) ?_ (f_F_lt (by omega)) ?_ ?_]
  · rfl
  · rw [cpN_zero, row_self]; rfl
  · intro j hj
    have hc := cpN_succ (σ 156) (σ b) j
    have e2 : (2420 : Int32) = nI 2420 := rfl
    simp (disch := omega) only [lits, e2, n_le, f_rd_n, f_wr_n, bnd, row_ne, up_of_row, hc, n_add]
    rw [if_neg (by omega)]
  · have e2 : (2420 : Int32) = nI 2420 := rfl
    simp (disch := omega) only [e2, n_le]
    rw [if_pos (by omega)]
theorem M_get {σ : f_M} {a : Nat} (ha : a ≠ 156) : g_64 a σ = some (f_row σ 156 (cpN (σ a) (σ 156) 2420)) := by
  unfold g_64
  rw [lp_go (fun j => (nI j, f_row σ 156 (cpN (σ a) (σ 156) j))) 2420 (r := f_row σ 156 (cpN (σ a) (σ 156) 2420)) ?_ (f_F_lt (by omega)) ?_ ?_]
  · rfl
  · rw [cpN_zero, row_self]; rfl
  · intro j hj
    have hc := cpN_succ (σ a) (σ 156) j
    have e2 : (2420 : Int32) = nI 2420 := rfl
    simp (disch := omega) only [lits, e2, n_le, f_rd_n, f_wr_n, bnd, row_ne, up_of_row, hc, n_add]
    rw [if_neg (by omega)]
  · have e2 : (2420 : Int32) = nI 2420 := rfl
    simp (disch := omega) only [e2, n_le]
    rw [if_pos (by omega)]
