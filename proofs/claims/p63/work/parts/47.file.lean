/-! A claim is filed. -/
def s_file (s : Nat → Int32) (p c : Nat) : Nat → Int32 := upd (upd (upd (upd (zN s (300 + 6 * c) 6) (300 + 6 * c + 0) (nI p)) (300 + 6 * c + 1) (nI (s_best s (nat (s 3) - 1)))) (100 + 10 * p + 9) (nI 1)) 5 (nI (c + 1))
theorem M_file {σ : f_M} {cc ac p : Nat} (h5 : σ 156 5 = nI cc) (hcc : cc < 20) (h3 : σ 156 3 = nI ac) (h1 : 1 ≤ ac) (h2 : ac ≤ 3) (hp : p < 20) : g_148 (nI p) σ = some (nI cc, f_row σ 156 (s_file (σ 156) p cc)) := by
  unfold g_148 s_file
  rw [h3, nat_n (by omega)]
  have hz5 : zN (σ 156) (300 + 6 * cc) 6 5 = nI cc := by rw [zN_out (by omega)]; exact h5
  rw [show (5 : Int32) = nI 5 from rfl, rdS (by omega), h5, bnd, M_best h5 (by omega) h3 h1 h2, bnd]
  rw [lp_go (fun j => (nI j, f_row σ 156 (zN (σ 156) (300 + 6 * cc) j))) 6 (r := f_row σ 156 (zN (σ 156) (300 + 6 * cc) 6)) ?_ (f_F_lt (by omega)) ?_ ?_]
  · simp (disch := omega) only [bnd, M_c, M_p, lits, n_add, wrS, rdS, row_same, row_row, upd_ne, hz5]
  · have e : zN (σ 156) (300 + 6 * cc) 0 = σ 156 := by
      funext i; exact zN_out (by omega)
    rw [e, row_self]; rfl
  · intro j hj
    have hz := zN_succ (σ 156) (300 + 6 * cc) j
    simp (disch := omega) only [lits, n_le, M_c, n_add, wrS, bnd, row_same, row_row, hz]
    rw [if_neg (by omega)]
  · simp (disch := omega) only [lits, n_le]
    rw [if_pos (by omega)]
theorem file_v (s : Nat → Int32) {p c : Nat} (hp : p < 20) (hc : c < 20) :
    (s_file s p c (300 + 6 * c + 0) = nI p ∧ s_file s p c (300 + 6 * c + 1) = nI (s_best s (nat (s 3) - 1)) ∧ s_file s p c (300 + 6 * c + 2) = nI 0 ∧ s_file s p c (300 + 6 * c + 3) = nI 0 ∧ s_file s p c (300 + 6 * c + 4) = nI 0 ∧ s_file s p c (300 + 6 * c + 5) = nI 0 ∧ s_file s p c (100 + 10 * p + 9) = nI 1 ∧ s_file s p c 5 = nI (c + 1)) ∧ ∀ i, i ≠ 5 → i ≠ 100 + 10 * p + 9 → (i < 300 + 6 * c ∨ 300 + 6 * c + 6 ≤ i) → s_file s p c i = s i := by
  refine ⟨?_, fun i h5 h9 hi => ?_⟩
  · simp (disch := omega) only [s_file, upd_same, upd_ne, zN_in, and_self]
  · unfold s_file
    rw [upd_ne h5, upd_ne h9, upd_ne (by omega), upd_ne (by omega), zN_out (by omega)]
theorem kP_nine {s s' : Nat → Int32} {hc p : Nat} (e : ∀ i, i < 9 → s' (100 + 10 * p + i) = s (100 + 10 * p + i)) (e9 : s' (100 + 10 * p + 9) = nI 1) (h : kP s hc p) : kP s' hc p := by
  have e7 : s_prem s' p = s_prem s p := by
    unfold s_prem
    rw [e 0 (by omega), e 3 (by omega), e 4 (by omega), e 5 (by omega)]
  unfold kP at h ⊢
  rw [e 0 (by omega), e 1 (by omega), e 2 (by omega), e 3 (by omega), e 4 (by omega), e 5 (by omega), e 6 (by omega), e 7 (by omega), e 8 (by omega), e9, e7]
  obtain ⟨a1, a2, a3, a4, a5, a6, a7, a8, -, a9⟩ := h
  exact ⟨a1, a2, a3, a4, a5, a6, a7, a8, ⟨1, by omega, rfl⟩, a9⟩
theorem kG_ext {s : Nat → Int32} {cc q n : Nat} {g : Nat → Nat} (h0 : s (300 + 6 * cc + 3) = nI 0) (h : kG s cc g q n) : kG s (cc + 1) g q n := by
  obtain ⟨a1, a2, a3, a4, a5, a6, a7, a8⟩ := h
  have := isG_of h0
  refine ⟨a1, ?_, ?_, fun i hi => Nat.lt_succ_of_lt (a4 i hi), a5, a6, fun c hc hg => ?_, a8⟩
  · rw [cntN_succ, this.1]; exact a2
  · rw [cntN_succ, this.2]; exact a3
  · by_cases e : c = cc
    · subst e; rw [this.1] at hg; exact absurd hg (by decide)
    · exact a7 c (by omega) hg
theorem kD_ext {s : Nat → Int32} {cc : Nat} (h0 : s (300 + 6 * cc + 3) = nI 0) (h : kD s cc) : kD s (cc + 1) := by
  obtain ⟨a1, a2⟩ := h
  refine ⟨?_, fun c hc hn => ?_⟩
  · rw [cntN_succ, h0, a1]; rfl
  · by_cases e : c = cc
    · subst e; exact absurd h0 hn
    · exact a2 c (by omega) hn
theorem twin_symm {s : Nat → Int32} {a b : Nat} (h : twin s a b) : twin s b a := ⟨h.1.symm, h.2.1.symm, h.2.2.symm⟩
theorem K_file {s : Nat → Int32} {D ck hc ac pc cc q n p : Nat} {g : Nat → Nat} (K : kAll s D ck hc ac pc cc g q n) (hp : p < pc) (hcc : cc < 20) (hno : ∀ c, c < cc → ¬ twin s p (nat (s (300 + 6 * c + 0)))) : kAll (s_file s p cc) D ck hc ac pc (cc + 1) g q n := by
  obtain ⟨kc, kp, kk, kg, kd, kr, ku, km, ks, kw⟩ := K
  obtain ⟨⟨c0, c0'⟩, ⟨c2, c2', c2''⟩, ⟨c3, c3', c3''⟩, ⟨c4, c4'⟩, ⟨c5, c5'⟩⟩ := kc
  obtain ⟨⟨t0, t1, t2, t3, t4, t5, t9, tw⟩, e⟩ := file_v s (p := p) (c := cc) (by omega) hcc
  rw [c3, nat_n (by omega)] at t1
  generalize s_file s p cc = s1 at *
  have hb := s_best_le s (ac - 1)
  have etw : ∀ a b, a < 20 → b < 20 → twin s1 a b → twin s a b := fun a b ha hb h => by
    unfold twin at h ⊢
    rw [e _ (by omega) (by omega) (by omega), e _ (by omega) (by omega) (by omega), e _ (by omega) (by omega) (by omega), e _ (by omega) (by omega) (by omega), e _ (by omega) (by omega) (by omega), e _ (by omega) (by omega) (by omega)] at h
    exact h
  have ec : ∀ c, c < cc → s1 (300 + 6 * c + 0) = s (300 + 6 * c + 0) := fun c hc => e _ (by omega) (by omega) (by omega)
  refine ⟨⟨⟨?_, c0'⟩, ⟨?_, c2', c2''⟩, ⟨?_, c3', c3''⟩, ⟨?_, by omega⟩, ⟨tw, by omega⟩⟩, ?_, ?_, ?_, ?_, ?_, ?_, ?_, ?_, ?_⟩
  · rw [e 0 (by omega) (by omega) (by omega)]; exact c0
  · rw [e 2 (by omega) (by omega) (by omega)]; exact c2
  · rw [e 3 (by omega) (by omega) (by omega)]; exact c3
  · rw [e 4 (by omega) (by omega) (by omega)]; exact c4
  · intro p' hp'
    by_cases h : p' = p
    · subst h; exact kP_nine (fun i hi => e _ (by omega) (by omega) (by omega)) t9 (kp _ hp')
    · exact kP_congr (fun i hi => e _ (by omega) (by omega) (by omega)) (kp p' hp')
  · intro c hc
    by_cases h : c = cc
    · subst h
      refine ⟨⟨p, hp, t0⟩, ⟨_, by omega, t1⟩, ⟨0, by omega, t2⟩, ⟨0, by omega, t3⟩, ⟨0, by omega, t4⟩, ⟨0, by omega, t5⟩, fun _ => ?_, fun _ => t4, fun h => ?_⟩
      · rw [t2, nat_n (by omega)]; omega
      · rw [t3, n_eq (by omega) (by omega), n_eq (by omega) (by omega)] at h; omega
    · exact kK_congr c3'' (fun i hi => e _ (by omega) (by omega) (by omega)) (fun x hx => e _ (by omega) (by omega) (by omega)) (kk c (by omega))
  · exact kG_ext t3 (kG_congr (fun c hc => e _ (by omega) (by omega) (by omega)) (fun c hc => e _ (by omega) (by omega) (by omega)) kg)
  · exact kD_ext t3 (kD_congr (e _ (by omega) (by omega) (by omega)) (fun c hc => e _ (by omega) (by omega) (by omega)) (fun c hc => e _ (by omega) (by omega) (by omega)) kd)
  · exact kR_congr c4' (fun i hi => kg.2.2.2.1 i (by have := kg.1; omega)) (fun c hc => (kk c hc).1) (fun h hh => e _ (by omega) (by omega) (by omega)) (e _ (by omega) (by omega) (by omega)) ec (fun i hi => by have := kg.2.2.2.1 i (by have := kg.1; omega); exact e _ (by omega) (by omega) (by omega)) (fun p hp => e _ (by omega) (by omega) (by omega)) kr
  · refine ⟨fun c d hc hd hne htw => ?_, fun r hr => ?_⟩
    · have hpol : ∀ c, c < cc + 1 → nat (s1 (300 + 6 * c + 0)) < 20 := fun c hc => by
        by_cases h : c = cc
        · subst h; rw [t0, nat_n (by omega)]; omega
        · rw [ec c (by omega)]; have := ((kk c (by omega)).1.nat (by omega)).2; omega
      have h2 := etw _ _ (hpol c hc) (hpol d hd) htw
      by_cases h : c = cc
      · subst h
        rw [t0, nat_n (by omega), ec d (by omega)] at h2
        exact hno d (by omega) h2
      · by_cases h' : d = cc
        · subst h'
          rw [t0, nat_n (by omega), ec c (by omega)] at h2
          exact hno c (by omega) (twin_symm h2)
        · rw [ec c (by omega), ec d (by omega)] at h2
          exact ku.1 c d (by omega) (by omega) hne h2
    · by_cases h : r = p
      · subst h
        exact ⟨fun _ => ⟨cc, by omega, t0⟩, fun _ => t9⟩
      · rw [e _ (by omega) (by omega) (by omega)]
        refine (ku.2 r hr).trans ⟨fun ⟨c, hc, hx⟩ => ⟨c, by omega, by rw [ec c hc]; exact hx⟩, fun ⟨c, hc, hx⟩ => ?_⟩
        by_cases h' : c = cc
        · subst h'; rw [t0, n_eq (by omega) (by omega)] at hx; omega
        · exact ⟨c, by omega, by rw [ec c (by omega)] at hx; exact hx⟩
  · exact kM_congr (e _ (by omega) (by omega) (by omega)) (e _ (by omega) (by omega) (by omega)) (e _ (by omega) (by omega) (by omega)) (e _ (by omega) (by omega) (by omega)) (fun h hh => e _ (by omega) (by omega) (by omega)) km
  · exact kS_congr c3'' c2'' (fun k h1 h2 h3 => e _ (by omega) (by omega) (by omega)) ks
  · exact kW_congr (fun k h => e _ (by omega) (by omega) (by omega)) kw
