/-! The two purchases. -/
theorem up_at {σ : f_M} {a i b j : Nat} {v : Int32} (h : b ≠ a ∨ j ≠ i) : f_up σ a i v b j = σ b j := by
  by_cases e : b = a
  · subst e; rcases h with h | h
    · exact absurd rfl h
    · exact up_ix h
  · rw [up_rows e]
theorem kite_v (s : Nat → Int32) (p : Nat) (h f d v a b w : Int32) :
    let t := upd (s_kite s p h f d v a b) 4 w
    (t (100 + 10 * p + 0) = nI 0 ∧ t (100 + 10 * p + 1) = h ∧ t (100 + 10 * p + 2) = f ∧ t (100 + 10 * p + 3) = d ∧ t (100 + 10 * p + 4) = v ∧ t (100 + 10 * p + 5) = a ∧ t (100 + 10 * p + 6) = b ∧ t (100 + 10 * p + 7) = v * d / nI 40 + nI 1 ∧ t (100 + 10 * p + 8) = nI 0 ∧ t (100 + 10 * p + 9) = nI 0 ∧ t 4 = w) ∧ ∀ i, i ≠ 4 → (i < 100 + 10 * p ∨ 100 + 10 * p + 10 ≤ i) → t i = s i := by
  intro t
  refine ⟨?_, fun i h4 hi => ?_⟩
  · simp (disch := omega) only [t, s_kite, s_five, upd_same, upd_ne, zN_in, and_self]
  · show upd _ _ _ _ = _
    unfold s_kite
    rw [upd_ne h4, upd_ne (by omega), upd_ne (by omega), upd_ne (by omega), five_out hi]
theorem picn_v (s : Nat → Int32) (p : Nat) (h f d v a w : Int32) :
    let t := upd (s_picn s p h f d v a) 4 w
    (t (100 + 10 * p + 0) = nI 1 ∧ t (100 + 10 * p + 1) = h ∧ t (100 + 10 * p + 2) = f ∧ t (100 + 10 * p + 3) = d ∧ t (100 + 10 * p + 4) = v ∧ t (100 + 10 * p + 5) = a ∧ t (100 + 10 * p + 7) = v * d / (nI 20 + nI 2 * a) + nI 1 ∧ t (100 + 10 * p + 8) = nI 0 ∧ t (100 + 10 * p + 9) = nI 0 ∧ t 4 = w) ∧ ∀ i, i ≠ 4 → (i < 100 + 10 * p ∨ 100 + 10 * p + 10 ≤ i) → t i = s i := by
  intro t
  refine ⟨?_, fun i h4 hi => ?_⟩
  · simp (disch := omega) only [t, s_picn, s_five, upd_same, upd_ne, zN_in, and_self]
  · show upd _ _ _ _ = _
    unfold s_picn
    rw [upd_ne h4, upd_ne (by omega), upd_ne (by omega), five_out hi]
theorem C_kite {σ : f_M} {s : Nat → Int32} {D ck hc ac pc cc q n h f d v : Nat} {a b : Int32} {g : Nat → Nat} (hD : D ≤ 1000000000) (K : kAll s D ck hc ac pc cc g q n) (B : rB σ 108 s ck pc cc) (l : rL σ 121 s hc pc cc g q n) (hpc : pc < 20)
    (hh : h < hc) (hf : f < 1001) (hd : 1 ≤ d ∧ d ≤ 24) (hv : 1 ≤ v ∧ v ≤ 500) (hl : ∃ lo hi : Nat, lo ≤ hi ∧ hi ≤ 150 ∧ a = nI lo ∧ b = nI hi) (hcan : s_can (upd (s_kite s pc (nI h) (nI f) (nI d) (nI v) a b) 4 (nI (pc + 1))) pc = true) :
    ∃ σ', g_99 (nI h) (nI f) (nI d) (nI v) a b σ = some (nI pc, σ') ∧ kAll (s_buy (s_kite s pc (nI h) (nI f) (nI d) (nI v) a b) pc) D ck hc ac (pc + 1) cc g q n ∧ rB σ' 108 (s_buy (s_kite s pc (nI h) (nI f) (nI d) (nI v) a b) pc) ck (pc + 1) cc ∧ rL σ' 121 (s_buy (s_kite s pc (nI h) (nI f) (nI d) (nI v) a b) pc) hc (pc + 1) cc g q n ∧ ∀ r i, r ≠ 121 → r ≠ 122 → r ≠ 123 → (i ≠ pc ∨ r < 111 ∨ 118 < r) → σ' r i = σ r i := by
  obtain ⟨⟨t0, t1, t2, t3, t4, t5, t6, t7, t8, t9, tw⟩, to⟩ := kite_v s pc (nI h) (nI f) (nI d) (nI v) a b (nI (pc + 1))
  unfold s_buy
  generalize upd (s_kite s pc (nI h) (nI f) (nI d) (nI v) a b) 4 (nI (pc + 1)) = s1 at *
  have hP : kP s1 hc pc := by
    refine ⟨⟨0, by omega, t0⟩, ⟨h, hh, t1⟩, ⟨f, hf, t2⟩, ⟨d, hd.1, hd.2, t3⟩, ⟨v, hv.1, hv.2, t4⟩, ?_, ?_, ⟨0, by omega, t8⟩, ⟨0, by omega, t9⟩, fun _ => by rw [t5, t6]; exact hl⟩
    · intro h1; rw [t0, n_eq (by omega) (by omega)] at h1; omega
    · unfold s_prem; rw [if_pos t0, t3, t4]; exact t7
  have e3 : σ 121 3 = nI pc := l.1.2.2.1.trans K.1.2.2.2.1.1
  let m1 := f_up (f_up σ 123 pc (nI 0)) 121 3 (nI (pc + 1))
  let m4 := f_up (f_up (f_up m1 111 pc (nI 1)) 116 pc a) 117 pc b
  let m8 := f_up (f_up (f_up (f_up m4 112 pc (nI h)) 113 pc (nI f)) 114 pc (nI d)) 115 pc (nI v)
  have rp : rP m8 108 s1 pc := by
    refine ⟨Or.inl ⟨?_, t0, ?_, ?_⟩, ?_, ?_, ?_, ?_⟩
    all_goals first
      | rw [t5]
      | rw [t6]
      | rw [t1]
      | rw [t2]
      | rw [t3]
      | rw [t4]
      | skip
    all_goals simp (disch := omega) only [m8, m4, m1, up_rows, up_same]
  obtain ⟨σ', hg, k', b', l', f'⟩ := C_new (m := m8) hD K B l hpc to tw hP t8 t9 hcan
    (fun r i hr hi => by simp (disch := omega) only [m8, m4, m1, up_at])
    (fun i hi => by simp (disch := omega) only [m8, m4, m1, up_rows, up_ix])
    (by simp (disch := omega) only [m8, m4, m1, up_rows, up_same])
    (by simp (disch := omega) only [m8, m4, m1, up_rows, up_same]) rp
  have hpr := C_prem (by omega) rp hP
  refine ⟨σ', ?_, k', b', l', f'⟩
  unfold g_99 g_97 g_98
  rw [t1] at hg
  simp (disch := omega) only [e3, lits, f_wr_n, bnd, up_rows, up_same, n_add, n_sub, Nat.add_sub_cancel]
  have hpr' : g_79 (nI pc) m8 = some (s1 (100 + 10 * pc + 7)) := hpr
  simp only [m8, m4, m1] at hpr' hg
  simp only [hpr', bnd, hg]
theorem C_picn {σ : f_M} {s : Nat → Int32} {D ck hc ac pc cc q n h f d v a : Nat} {g : Nat → Nat} (hD : D ≤ 1000000000) (K : kAll s D ck hc ac pc cc g q n) (B : rB σ 108 s ck pc cc) (l : rL σ 121 s hc pc cc g q n) (hpc : pc < 20)
    (hh : h < hc) (hf : f < 1001) (hd : 1 ≤ d ∧ d ≤ 24) (hv : 1 ≤ v ∧ v ≤ 500) (ha : a < 51) (hcan : s_can (upd (s_picn s pc (nI h) (nI f) (nI d) (nI v) (nI a)) 4 (nI (pc + 1))) pc = true) :
    ∃ σ', g_101 (nI h) (nI f) (nI d) (nI v) (nI a) σ = some (nI pc, σ') ∧ kAll (s_buy (s_picn s pc (nI h) (nI f) (nI d) (nI v) (nI a)) pc) D ck hc ac (pc + 1) cc g q n ∧ rB σ' 108 (s_buy (s_picn s pc (nI h) (nI f) (nI d) (nI v) (nI a)) pc) ck (pc + 1) cc ∧ rL σ' 121 (s_buy (s_picn s pc (nI h) (nI f) (nI d) (nI v) (nI a)) pc) hc (pc + 1) cc g q n ∧ ∀ r i, r ≠ 121 → r ≠ 122 → r ≠ 123 → (i ≠ pc ∨ r < 111 ∨ 118 < r) → σ' r i = σ r i := by
  obtain ⟨⟨t0, t1, t2, t3, t4, t5, t7, t8, t9, tw⟩, to⟩ := picn_v s pc (nI h) (nI f) (nI d) (nI v) (nI a) (nI (pc + 1))
  unfold s_buy
  generalize upd (s_picn s pc (nI h) (nI f) (nI d) (nI v) (nI a)) 4 (nI (pc + 1)) = s1 at *
  have hP : kP s1 hc pc := by
    refine ⟨⟨1, by omega, t0⟩, ⟨h, hh, t1⟩, ⟨f, hf, t2⟩, ⟨d, hd.1, hd.2, t3⟩, ⟨v, hv.1, hv.2, t4⟩, ?_, ?_, ⟨0, by omega, t8⟩, ⟨0, by omega, t9⟩, fun h0 => absurd (t0.symm.trans h0) (by decide)⟩
    · intro _; exact ⟨a, ha, t5⟩
    · unfold s_prem; rw [if_neg (by rw [t0, n_eq (by omega) (by omega)]; omega), t3, t4, t5]; exact t7
  have e3 : σ 121 3 = nI pc := l.1.2.2.1.trans K.1.2.2.2.1.1
  let m1 := f_up (f_up σ 123 pc (nI 0)) 121 3 (nI (pc + 1))
  let m4 := f_up (f_up m1 111 pc (nI 0)) 118 pc (nI a)
  let m8 := f_up (f_up (f_up (f_up m4 112 pc (nI h)) 113 pc (nI f)) 114 pc (nI d)) 115 pc (nI v)
  have rp : rP m8 108 s1 pc := by
    refine ⟨Or.inr ⟨?_, t0, ?_⟩, ?_, ?_, ?_, ?_⟩
    all_goals first
      | rw [t5]
      | rw [t1]
      | rw [t2]
      | rw [t3]
      | rw [t4]
      | skip
    all_goals simp (disch := omega) only [m8, m4, m1, up_rows, up_same]
  obtain ⟨σ', hg, k', b', l', f'⟩ := C_new (m := m8) hD K B l hpc to tw hP t8 t9 hcan
    (fun r i hr hi => by simp (disch := omega) only [m8, m4, m1, up_at])
    (fun i hi => by simp (disch := omega) only [m8, m4, m1, up_rows, up_ix])
    (by simp (disch := omega) only [m8, m4, m1, up_rows, up_same])
    (by simp (disch := omega) only [m8, m4, m1, up_rows, up_same]) rp
  have hpr := C_prem (by omega) rp hP
  refine ⟨σ', ?_, k', b', l', f'⟩
  unfold g_101 g_97 g_98
  rw [t1] at hg
  simp (disch := omega) only [e3, lits, f_wr_n, bnd, up_rows, up_same, n_add, n_sub, Nat.add_sub_cancel]
  have hpr' : g_79 (nI pc) m8 = some (s1 (100 + 10 * pc + 7)) := hpr
  simp only [m8, m4, m1] at hpr' hg
  simp only [hpr', bnd, hg]
