/-! The class's day of premiums. -/
theorem kAll.okF {s : Nat → Int32} {D ck hc ac pc cc q n : Nat} {g : Nat → Nat} (k : kAll s D ck hc ac pc cc g q n) : okF s ck ac pc cc := by
  obtain ⟨⟨c0, c2, c3, c4, c5⟩, kp, kk, -⟩ := k
  exact ⟨c0, ⟨c3.1, c3.2.2⟩, c4, c5, fun p hp => ⟨(kp p hp).2.1.mono c2.2.2, (kp p hp).2.2.1, (kp p hp).2.2.2.1⟩, fun c hc => ⟨(kk c hc).1, (kk c hc).2.1.mono c3.2.2⟩⟩
theorem C_exp {σ : f_M} {s : Nat → Int32} {p : Nat} (hp : p < 20) (r : rP σ 108 s p) : g_75 (nI p) σ = some (s_exp s p) := by
  obtain ⟨-, -, r2, r3, -⟩ := r
  have r2' : σ 113 p = s (100 + 10 * p + 2) := r2
  have r3' : σ 114 p = s (100 + 10 * p + 3) := r3
  unfold g_75
  simp (disch := omega) only [f_rd_n, bnd, r2', r3']
  rfl
theorem C_prem {σ : f_M} {s : Nat → Int32} {hc p : Nat} (hp : p < 20) (r : rP σ 108 s p) (k : kP s hc p) : g_79 (nI p) σ = some (s (100 + 10 * p + 7)) := by
  obtain ⟨rk, -, -, r3, r4⟩ := r
  obtain ⟨k0, -, -, -, -, kl, k7, -, -⟩ := k
  have r3' : σ 114 p = s (100 + 10 * p + 3) := r3
  have r4' : σ 115 p = s (100 + 10 * p + 4) := r4
  rw [k7]
  unfold g_79 s_prem
  rcases rk with ⟨e3, e0, -, -⟩ | ⟨e3, e0, e5⟩
  · have e3' : σ 111 p = nI 1 := e3
    simp (disch := omega) only [f_rd_n, bnd, r3', r4', e3', g_77, lits]
    rw [if_neg (by decide), if_pos e0]
    simp only [bnd]
  · have e3' : σ 111 p = nI 0 := e3
    have e5' : σ 118 p = s (100 + 10 * p + 5) := e5
    obtain ⟨l, hl, el⟩ := kl e0
    simp (disch := omega) only [f_rd_n, bnd, r3', r4', e3', e5', g_78, lits, e0, el, n_mul, n_add, n_le, n_eq, if_true]
    rw [if_neg (by omega), if_neg (by omega), if_neg (by omega : ¬ (1 : Nat) = 0)]
    simp only [bnd]
theorem C_run {σ : f_M} {s : Nat → Int32} {a p : Nat} (hp : p < 20) (r : rP σ 108 s p) (hl : σ (a + 2) p = s (100 + 10 * p + 8)) (h8 : isN (s (100 + 10 * p + 8)) 2) : g_76 a (nI p) σ = some (s_act s p (σ a 0)) := by
  obtain ⟨l, hl2, el⟩ := h8
  unfold g_76 s_act s_lap
  rw [f_rd_n (by omega) (by omega), hl, el]
  simp (disch := omega) only [bnd, C_exp hp r, lits, if_some, if_ft, n_eq]
  by_cases h : l = 0
  · subst h; simp
  · have : l = 1 := by omega
    subst this; simp
/-- the class's premium of a day, or its lapse -/
theorem C_81 {σ : f_M} {s : Nat → Int32} {hc pc cc q n p : Nat} {g : Nat → Nat} (hp : p < pc) (hpc : pc ≤ 20) (hhc : hc ≤ 8) (r : rP σ 108 s p) (k : kP s hc p) (l : rL σ 121 s hc pc cc g q n) :
    ∃ σ', g_81 121 (nI p) σ = some σ' ∧ rL σ' 121 (if s_can s p then s_pay s p else upd s (100 + 10 * p + 8) (nI 1)) hc pc cc g q n ∧ ∀ b, b ≠ 121 → b ≠ 122 → b ≠ 123 → σ' b = σ b := by
  have hpr := C_prem (by omega) r k
  obtain ⟨-, r1, -⟩ := r
  obtain ⟨-, ⟨h, hh, eh⟩, -⟩ := k
  obtain ⟨⟨l0, l1, l3, l5, l10, l11, l12, l13, l14⟩, lb, ll, lc, lg⟩ := l
  have r1' : σ 112 p = nI h := by rw [← eh]; exact r1
  have lb' : σ 122 h = s (20 + 9 * h + 7) := lb h hh
  unfold g_81 s_can s_pay
  rw [eh, nat_n (by omega)]
  simp (disch := omega) only [f_rd_n, bnd, r1', hpr, lb']
  by_cases hc9 : s (20 + 9 * h + 7) < s (100 + 10 * p + 7)
  · simp (disch := omega) only [hc9, if_true, f_wr_n, bnd, decide_true, Bool.not_true, Bool.false_eq_true, if_false]
    refine ⟨_, rfl, ⟨⟨?_, ?_, ?_, ?_, ?_, ?_, ?_, ?_, ?_⟩, ?_, ?_, ?_, ?_⟩, ?_⟩
    iterate 9 simp (disch := omega) only [up_rows, up_ix, up_same, upd_ne, upd_same, l0, l1, l3, l5, l10, l11, l12, l13, l14]
    · intro h' hh'
      simp (disch := omega) only [up_rows, upd_ne]
      exact lb h' hh'
    · intro p' hp'
      show f_up σ 123 p (nI 1) 123 p' = _
      by_cases e : p' = p
      · subst e; simp only [up_same, upd_same]
      · simp (disch := omega) only [up_ix, upd_ne]
        exact ll p' hp'
    · intro c' hc'
      simp (disch := omega) only [up_rows, upd_ne]
      exact lc c' hc'
    · intro i hi
      simp (disch := omega) only [up_rows]
      exact lg i hi
    · intro b h1 h2 h3
      rw [up_rows h3]
  · simp (disch := omega) only [hc9, if_false, g_80, f_rd_n, f_wr_n, bnd, decide_false, Bool.not_false, if_true, lb']
    refine ⟨_, rfl, ⟨⟨?_, ?_, ?_, ?_, ?_, ?_, ?_, ?_, ?_⟩, ?_, ?_, ?_, ?_⟩, ?_⟩
    iterate 9 simp (disch := omega) only [up_rows, up_ix, up_same, upd_ne, upd_same, l0, l1, l3, l5, l10, l11, l12, l13, l14]
    · intro h' hh'
      simp (disch := omega) only [up_rows, upd_ne]
      show f_up σ 122 h _ 122 h' = _
      by_cases e : h' = h
      · subst e; simp only [up_same, upd_same]
      · simp (disch := omega) only [up_ix, upd_ne]
        exact lb h' hh'
    · intro p' hp'
      simp (disch := omega) only [up_rows, upd_ne]
      exact ll p' hp'
    · intro c' hc'
      simp (disch := omega) only [up_rows, upd_ne]
      exact lc c' hc'
    · intro i hi
      simp (disch := omega) only [up_rows]
      exact lg i hi
    · intro b h1 h2 h3
      simp only [up_rows h1, up_rows h2]
theorem kP_congr {s s' : Nat → Int32} {hc p : Nat} (e : ∀ i, i < 10 → s' (100 + 10 * p + i) = s (100 + 10 * p + i)) (h : kP s hc p) : kP s' hc p := by
  have e7 : s_prem s' p = s_prem s p := by
    unfold s_prem
    rw [e 0 (by omega), e 3 (by omega), e 4 (by omega), e 5 (by omega)]
  unfold kP at h ⊢
  rw [e 0 (by omega), e 1 (by omega), e 2 (by omega), e 3 (by omega), e 4 (by omega), e 5 (by omega), e 6 (by omega), e 7 (by omega), e 8 (by omega), e 9 (by omega), e7]
  exact h
theorem rP_congr {σ σ' : f_M} {b : Nat} {s s' : Nat → Int32} {p : Nat} (e : ∀ i, i < 7 → s' (100 + 10 * p + i) = s (100 + 10 * p + i)) (eσ : ∀ i, 3 ≤ i → i < 11 → σ' (b + i) = σ (b + i)) (h : rP σ b s p) : rP σ' b s' p := by
  unfold rP at h ⊢
  rw [e 0 (by omega), e 1 (by omega), e 2 (by omega), e 3 (by omega), e 4 (by omega), e 5 (by omega), e 6 (by omega), eσ 3 (by omega) (by omega), eσ 4 (by omega) (by omega), eσ 5 (by omega) (by omega), eσ 6 (by omega) (by omega), eσ 7 (by omega) (by omega), eσ 8 (by omega) (by omega), eσ 9 (by omega) (by omega), eσ 10 (by omega) (by omega)]
  exact h
theorem s_colN_pol {s : Nat → Int32} {hc pc j : Nat} (hpc : pc ≤ 20) (hhc : hc ≤ 8) (hj : j ≤ pc) (kp : ∀ p, p < pc → kP s hc p) {k : Nat} (h1 : k ≠ 1) (h6 : k ≠ 6) (hb : ∀ h, h < 8 → k ≠ 20 + 9 * h + 7) (h8 : ∀ p, p < j → k ≠ 100 + 10 * p + 8) : s_colN s j k = s k :=
  s_colN_keep (by omega) (fun p hp => (kp p (by omega)).2.1.mono hhc) h1 h6 hb h8
/-- the class's day of premiums -/
theorem C_day {σ : f_M} {s : Nat → Int32} {ck hc pc cc q n : Nat} {g : Nat → Nat} (h0 : s 0 = nI ck) (hck : ck ≤ 1000) (h4 : s 4 = nI pc) (hpc : pc ≤ 20) (hhc : hc ≤ 8) (kp : ∀ p, p < pc → kP s hc p) (r : ∀ p, p < pc → rP σ 108 s p) (l : rL σ 121 s hc pc cc g q n) :
    ∃ σ', g_82 121 σ = some σ' ∧ rL σ' 121 (s_day s) hc pc cc g q n ∧ ∀ b, b ≠ 121 → b ≠ 122 → b ≠ 123 → σ' b = σ b := by
  have e0 : σ 121 0 = nI ck := l.1.1.trans h0
  unfold g_82 s_day
  rw [e0, h0, h4, nat_n (by omega), nat_n (by omega)]
  simp (disch := omega) only [lits, n_eq, n_mod]
  by_cases c0 : ck = 0
  · rw [if_pos c0, if_pos (Or.inl c0)]
    exact ⟨σ, rfl, l, fun _ _ _ _ => rfl⟩
  · by_cases c1 : ck % 24 = 0
    · rw [if_neg c0, if_pos c1, if_neg (by omega)]
      refine lp_ex (fun j (z : Int32 × f_M) => ∃ σj, z = (nI j, σj) ∧ rL σj 121 (s_colN s j) hc pc cc g q n ∧ ∀ b, b ≠ 121 → b ≠ 122 → b ≠ 123 → σj b = σ b) (fun r => rL r 121 (s_colN s pc) hc pc cc g q n ∧ ∀ b, b ≠ 121 → b ≠ 122 → b ≠ 123 → r b = σ b) pc (f_F_lt (by omega)) ⟨σ, rfl, l, fun _ _ _ _ => rfl⟩ ?_ ?_ (fun r q => ⟨r, rfl, q⟩)
      · rintro j z hj ⟨σj, rfl, lj, fj⟩
        have k4 : σj 121 3 = nI pc := by
          rw [lj.1.2.2.1, s_colN_pol hpc hhc (by omega) kp (by omega) (by omega) (fun h hh => by omega) (fun p hp => by omega)]; exact h4
        have ej : ∀ i, i < 10 → s_colN s j (100 + 10 * j + i) = s (100 + 10 * j + i) := fun i hi => s_colN_pol hpc hhc (by omega) kp (by omega) (by omega) (fun h hh => by omega) (fun p hp => by omega)
        have kj := kP_congr ej (kp j hj)
        have rj : rP σj 108 (s_colN s j) j := rP_congr (fun i hi => ej i (by omega)) (fun i _ hi => fj _ (by omega) (by omega) (by omega)) (r j hj)
        have hrun := C_run (a := 121) (by omega) rj (lj.2.2.1 j hj) kj.2.2.2.2.2.2.2.1
        refine Or.inl ?_
        simp (disch := omega) only [k4, n_le]
        rw [if_neg (by omega), hrun, bnd, lj.1.1]
        by_cases ha : s_act (s_colN s j) j (s_colN s j 0) = true
        · obtain ⟨σ', e1, e2, e3⟩ := C_81 hj hpc hhc rj kj lj
          rw [ha]
          simp only [Bool.true_eq_false, if_false, e1, bnd, n_add]
          refine ⟨_, rfl, σ', rfl, ?_, fun b h1 h2 h3 => (e3 b h1 h2 h3).trans (fj b h1 h2 h3)⟩
          rw [s_colN_succ]
          unfold s_col1
          rw [if_pos ha]
          exact e2
        · rw [Bool.not_eq_true _ |>.mp ha]
          simp only [if_true, bnd, n_add]
          refine ⟨_, rfl, σj, rfl, ?_, fj⟩
          rw [s_colN_succ]
          unfold s_col1
          rw [if_neg ha]
          exact lj
      · rintro z ⟨σj, rfl, lj, fj⟩
        have k4 : σj 121 3 = nI pc := by
          rw [lj.1.2.2.1, s_colN_pol hpc hhc (by omega) kp (by omega) (by omega) (fun h hh => by omega) (fun p hp => by omega)]; exact h4
        simp (disch := omega) only [k4, n_le]
        exact ⟨σj, if_pos (by omega), lj, fj⟩
    · rw [if_neg c0, if_neg c1, if_pos (Or.inr c1)]
      exact ⟨σ, rfl, l, fun _ _ _ _ => rfl⟩
