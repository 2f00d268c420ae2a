/-! A day of premiums in any ledger. -/
theorem C_81g {σ : f_M} {s : Nat → Int32} {a hc pc cc q n p : Nat} {g : Nat → Nat} (ha121 : 119 < a) (hp : p < pc) (hpc : pc ≤ 20) (hhc : hc ≤ 8) (r : rP σ 108 s p) (k : kP s hc p) (l : rL σ a s hc pc cc g q n) :
    ∃ σ', g_81 a (nI p) σ = some σ' ∧ rL σ' a (if s_can s p then s_pay s p else upd s (100 + 10 * p + 8) (nI 1)) hc pc cc g q n ∧ ∀ b, b ≠ a → b ≠ (a + 1) → b ≠ (a + 2) → σ' b = σ b := by
  have hpr := C_prem (by omega) r k
  obtain ⟨-, r1, -⟩ := r
  obtain ⟨-, ⟨h, hh, eh⟩, -⟩ := k
  obtain ⟨⟨l0, l1, l3, l5, l10, l11, l12, l13, l14⟩, lb, ll, lc, lg⟩ := l
  have r1' : σ 112 p = nI h := by rw [← eh]; exact r1
  have lb' : σ (a + 1) h = s (20 + 9 * h + 7) := lb h hh
  unfold g_81 s_can s_pay
  rw [eh, nat_n (by omega)]
  simp (disch := omega) only [f_rd_n, bnd, r1', hpr, lb']
  by_cases hc9 : s (20 + 9 * h + 7) < s (100 + 10 * p + 7)
  · simp (disch := omega) only [hc9, if_true, f_wr_n, bnd, decide_true, Bool.not_true, Bool.false_eq_true, if_false]
    refine ⟨_, rfl, ⟨⟨?_, ?_, ?_, ?_, ?_, ?_, ?_, ?_, ?_⟩, ?_, ?_, ?_, ?_⟩, ?_⟩
    iterate 9 simp (disch := omega) only [up_rows, up_ix, up_same, upd_ne, upd_same, l0, l1, l3, l5, l10, l11, l12, l13, l14]
    · intro h' hh'
      simp (disch := omega) only [up_rows, upd_ne]
      exact lb h' hh'
    · intro p' hp'
      show f_up σ (a + 2) p (nI 1) (a + 2) p' = _
      by_cases e : p' = p
      · subst e; simp only [up_same, upd_same]
      · simp (disch := omega) only [up_ix, upd_ne]
        exact ll p' hp'
    · intro c' hc'
      simp (disch := omega) only [up_rows, upd_ne]
      exact lc c' hc'
    · intro i hi
      simp (disch := omega) only [up_rows]
      exact lg i hi
    · intro b h1 h2 h3
      rw [up_rows h3]
  · simp (disch := omega) only [hc9, if_false, g_80, f_rd_n, f_wr_n, bnd, decide_false, Bool.not_false, if_true, lb']
    refine ⟨_, rfl, ⟨⟨?_, ?_, ?_, ?_, ?_, ?_, ?_, ?_, ?_⟩, ?_, ?_, ?_, ?_⟩, ?_⟩
    iterate 9 simp (disch := omega) only [up_rows, up_ix, up_same, upd_ne, upd_same, l0, l1, l3, l5, l10, l11, l12, l13, l14]
    · intro h' hh'
      simp (disch := omega) only [up_rows, upd_ne]
      show f_up σ (a + 1) h _ (a + 1) h' = _
      by_cases e : h' = h
      · subst e; simp only [up_same, upd_same]
      · simp (disch := omega) only [up_ix, upd_ne]
        exact lb h' hh'
    · intro p' hp'
      simp (disch := omega) only [up_rows, upd_ne]
      exact ll p' hp'
    · intro c' hc'
      simp (disch := omega) only [up_rows, upd_ne]
      exact lc c' hc'
    · intro i hi
      simp (disch := omega) only [up_rows]
      exact lg i hi
    · intro b h1 h2 h3
      simp only [up_rows h1, up_rows h2]
theorem C_dayg {σ : f_M} {s : Nat → Int32} {a ck hc pc cc q n : Nat} {g : Nat → Nat} (ha121 : 119 < a) (h0 : s 0 = nI ck) (hck : ck ≤ 2000) (h4 : s 4 = nI pc) (hpc : pc ≤ 20) (hhc : hc ≤ 8) (kp : ∀ p, p < pc → kP s hc p) (r : ∀ p, p < pc → rP σ 108 s p) (l : rL σ a s hc pc cc g q n) :
    ∃ σ', g_82 a σ = some σ' ∧ rL σ' a (s_day s) hc pc cc g q n ∧ ∀ b, b ≠ a → b ≠ (a + 1) → b ≠ (a + 2) → σ' b = σ b := by
  have e0 : σ a 0 = nI ck := l.1.1.trans h0
  unfold g_82 s_day
  rw [e0, h0, h4, nat_n (by omega), nat_n (by omega)]
  simp (disch := omega) only [lits, n_eq, n_mod]
  by_cases c0 : ck = 0
  · rw [if_pos c0, if_pos (Or.inl c0)]
    exact ⟨σ, rfl, l, fun _ _ _ _ => rfl⟩
  · by_cases c1 : ck % 24 = 0
    · rw [if_neg c0, if_pos c1, if_neg (by omega)]
      refine lp_ex (fun j (z : Int32 × f_M) => ∃ σj, z = (nI j, σj) ∧ rL σj a (s_colN s j) hc pc cc g q n ∧ ∀ b, b ≠ a → b ≠ (a + 1) → b ≠ (a + 2) → σj b = σ b) (fun r => rL r a (s_colN s pc) hc pc cc g q n ∧ ∀ b, b ≠ a → b ≠ (a + 1) → b ≠ (a + 2) → r b = σ b) pc (f_F_lt (by omega)) ⟨σ, rfl, l, fun _ _ _ _ => rfl⟩ ?_ ?_ (fun r q => ⟨r, rfl, q⟩)
      · rintro j z hj ⟨σj, rfl, lj, fj⟩
        have k4 : σj a 3 = nI pc := by
          rw [lj.1.2.2.1, s_colN_pol hpc hhc (by omega) kp (by omega) (by omega) (fun h hh => by omega) (fun p hp => by omega)]; exact h4
        have ej : ∀ i, i < 10 → s_colN s j (100 + 10 * j + i) = s (100 + 10 * j + i) := fun i hi => s_colN_pol hpc hhc (by omega) kp (by omega) (by omega) (fun h hh => by omega) (fun p hp => by omega)
        have kj := kP_congr ej (kp j hj)
        have rj : rP σj 108 (s_colN s j) j := rP_congr (fun i hi => ej i (by omega)) (fun i _ hi => fj _ (by omega) (by omega) (by omega)) (r j hj)
        have hrun := C_run (a := a) (by omega) rj (lj.2.2.1 j hj) kj.2.2.2.2.2.2.2.1
        refine Or.inl ?_
        simp (disch := omega) only [k4, n_le]
        rw [if_neg (by omega), hrun, bnd, lj.1.1]
        by_cases ha : s_act (s_colN s j) j (s_colN s j 0) = true
        · obtain ⟨σ', e1, e2, e3⟩ := C_81g ha121 hj hpc hhc rj kj lj
          rw [ha]
          simp only [Bool.true_eq_false, if_false, e1, bnd, n_add]
          refine ⟨_, rfl, σ', rfl, ?_, fun b h1 h2 h3 => (e3 b h1 h2 h3).trans (fj b h1 h2 h3)⟩
          rw [s_colN_succ]
          unfold s_col1
          rw [if_pos ha]
          exact e2
        · rw [Bool.not_eq_true _ |>.mp ha]
          simp only [if_true, bnd, n_add]
          refine ⟨_, rfl, σj, rfl, ?_, fj⟩
          rw [s_colN_succ]
          unfold s_col1
          rw [if_neg ha]
          exact lj
      · rintro z ⟨σj, rfl, lj, fj⟩
        have k4 : σj a 3 = nI pc := by
          rw [lj.1.2.2.1, s_colN_pol hpc hhc (by omega) kp (by omega) (by omega) (fun h hh => by omega) (fun p hp => by omega)]; exact h4
        simp (disch := omega) only [k4, n_le]
        exact ⟨σj, if_pos (by omega), lj, fj⟩
    · rw [if_neg c0, if_neg c1, if_pos (Or.inr c1)]
      exact ⟨σ, rfl, l, fun _ _ _ _ => rfl⟩
