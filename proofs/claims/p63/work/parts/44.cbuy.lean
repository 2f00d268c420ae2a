/-! Purchases in the class. -/
theorem s_pay_keep {s : Nat → Int32} {p k : Nat} (h1 : isN (s (100 + 10 * p + 1)) 8) (g1 : k ≠ 1) (g6 : k ≠ 6) (gb : ∀ h, h < 8 → k ≠ 20 + 9 * h + 7) : s_pay s p k = s k := by
  have hh := (h1.nat (by omega)).2
  have := gb _ hh
  unfold s_pay
  simp only [upd_ne g6, upd_ne g1, upd_ne this]
theorem C_80 {σ : f_M} {s : Nat → Int32} {hc pc cc q n p : Nat} {g : Nat → Nat} (hp : p < pc) (hpc : pc ≤ 20) (hhc : hc ≤ 8) (r : rP σ 108 s p) (k : kP s hc p) (l : rL σ 121 s hc pc cc g q n) (hcan : s_can s p = true) :
    ∃ σ', g_80 121 (s (100 + 10 * p + 1)) (s (100 + 10 * p + 7)) σ = some σ' ∧ rL σ' 121 (s_pay s p) hc pc cc g q n ∧ ∀ b, b ≠ 121 → b ≠ 122 → b ≠ 123 → σ' b = σ b := by
  obtain ⟨σ', h, l', f⟩ := C_81 hp hpc hhc r k l
  rw [if_pos hcan] at l'
  refine ⟨σ', ?_, l', f⟩
  have hpr := C_prem (by omega) r k
  obtain ⟨-, ⟨h0, hh, eh⟩, -⟩ := k
  have r1 : σ 112 p = s (100 + 10 * p + 1) := r.2.1
  have lb : σ 122 h0 = s (20 + 9 * h0 + 7) := l.2.1 h0 hh
  have hn : ¬ s (20 + 9 * h0 + 7) < s (100 + 10 * p + 7) := by
    unfold s_can at hcan
    rw [eh, nat_n (by omega)] at hcan
    simpa using hcan
  unfold g_81 at h
  rw [eh] at r1 ⊢
  simp (disch := omega) only [f_rd_n, bnd, r1, hpr, lb] at h
  rw [if_neg hn] at h
  cases hg : g_80 121 (nI h0) (s (100 + 10 * p + 7)) σ with
  | none => rw [hg] at h; exact absurd h (by simp)
  | some x => rw [hg] at h; simpa using h
theorem rP_at {σ σ' : f_M} {b : Nat} {s s' : Nat → Int32} {p : Nat} (e : ∀ i, i < 7 → s' (100 + 10 * p + i) = s (100 + 10 * p + i)) (eσ : ∀ i, 3 ≤ i → i < 11 → σ' (b + i) p = σ (b + i) p) (h : rP σ b s p) : rP σ' b s' p := by
  unfold rP at h ⊢
  rw [e 0 (by omega), e 1 (by omega), e 2 (by omega), e 3 (by omega), e 4 (by omega), e 5 (by omega), e 6 (by omega), eσ 3 (by omega) (by omega), eσ 4 (by omega) (by omega), eσ 5 (by omega) (by omega), eσ 6 (by omega) (by omega), eσ 7 (by omega) (by omega), eσ 8 (by omega) (by omega), eσ 9 (by omega) (by omega), eσ 10 (by omega) (by omega)]
  exact h
theorem C_new {σ m : f_M} {s s1 : Nat → Int32} {D ck hc ac pc cc q n : Nat} {g : Nat → Nat} (hD : D ≤ 1000000000) (K : kAll s D ck hc ac pc cc g q n) (B : rB σ 108 s ck pc cc) (l : rL σ 121 s hc pc cc g q n) (hpc : pc < 20)
    (e : ∀ i, i ≠ 4 → (i < 100 + 10 * pc ∨ 100 + 10 * pc + 10 ≤ i) → s1 i = s i) (e4 : s1 4 = nI (pc + 1)) (hP : kP s1 hc pc) (h8 : s1 (100 + 10 * pc + 8) = nI 0) (h9 : s1 (100 + 10 * pc + 9) = nI 0) (hcan : s_can s1 pc = true)
    (f : ∀ r i, r ≠ 121 → (i ≠ pc ∨ r < 111 ∨ 118 < r ∧ r ≠ 123) → m r i = σ r i) (f1 : ∀ i, i ≠ 3 → m 121 i = σ 121 i) (f3 : m 121 3 = nI (pc + 1)) (f8 : m 123 pc = nI 0) (rp : rP m 108 s1 pc) :
    ∃ σ', g_80 121 (s1 (100 + 10 * pc + 1)) (s1 (100 + 10 * pc + 7)) m = some σ' ∧ kAll (s_pay s1 pc) D ck hc ac (pc + 1) cc g q n ∧ rB σ' 108 (s_pay s1 pc) ck (pc + 1) cc ∧ rL σ' 121 (s_pay s1 pc) hc (pc + 1) cc g q n ∧ ∀ r i, r ≠ 121 → r ≠ 122 → r ≠ 123 → (i ≠ pc ∨ r < 111 ∨ 118 < r) → σ' r i = σ r i := by
  have hcc : cc ≤ 20 := K.1.2.2.2.2.2
  have hhc : hc ≤ 8 := K.1.2.1.2.2
  have hn : n ≤ cc := by rw [K.2.2.2.1.2.1]; exact cntN_le _ _
  have K1 := K_new K hpc e e4 hP h9
  have lm : rL m 121 s1 hc (pc + 1) cc g q n := by
    obtain ⟨⟨l0, l1, l3, l5, l10, l11, l12, l13, l14⟩, lb, ll, lc, lg⟩ := l
    refine ⟨⟨?_, ?_, ?_, ?_, ?_, ?_, ?_, ?_, ?_⟩, ?_, ?_, ?_, ?_⟩
    · rw [f1 0 (by omega), e 0 (by omega) (by omega)]; exact l0
    · rw [f1 1 (by omega), e 1 (by omega) (by omega)]; exact l1
    · rw [f3, e4]
    · rw [f1 5 (by omega), e 5 (by omega) (by omega)]; exact l5
    · rw [f1 10 (by omega)]; exact l10
    · rw [f1 11 (by omega)]; exact l11
    · rw [f1 12 (by omega), e 6 (by omega) (by omega)]; exact l12
    · rw [f1 13 (by omega), e 7 (by omega) (by omega)]; exact l13
    · rw [f1 14 (by omega), e 8 (by omega) (by omega)]; exact l14
    · intro h hh
      rw [f (121 + 1) h (by omega) (by omega), e _ (by omega) (by omega)]; exact lb h hh
    · intro p hp
      by_cases hq : p = pc
      · subst hq; rw [h8]; exact f8
      · rw [f (121 + 2) p (by omega) (by omega), e _ (by omega) (by omega)]; exact ll p (by omega)
    · intro c hc'
      rw [f (121 + 3) c (by omega) (by omega), f (121 + 4) c (by omega) (by omega), f (121 + 5) c (by omega) (by omega), e _ (by omega) (by omega), e _ (by omega) (by omega), e _ (by omega) (by omega)]
      exact lc c hc'
    · intro i hi
      rw [f (121 + 6) i (by omega) (by omega)]; exact lg i hi
  have Bm : rB m 108 s1 ck (pc + 1) cc := by
    obtain ⟨b1, b2, b3⟩ := B
    refine ⟨fun t ht => ?_, fun p hp => ?_, fun c hc' => ?_⟩
    · rw [f (108 + 1) t (by omega) (by omega), f (108 + 2) t (by omega) (by omega), e _ (by omega) (by omega), e _ (by omega) (by omega)]
      exact b1 t ht
    · by_cases hq : p = pc
      · subst hq; exact rp
      · exact rP_at (fun i hi => e _ (by omega) (by omega)) (fun i h1 h2 => f _ _ (by omega) (by omega)) (b2 p (by omega))
    · rw [f (108 + 11) c (by omega) (by omega), f (108 + 12) c (by omega) (by omega), e _ (by omega) (by omega), e _ (by omega) (by omega)]
      exact b3 c hc'
  obtain ⟨σ', h, l', fr⟩ := C_80 (by omega) (by omega) hhc rp hP lm hcan
  refine ⟨σ', h, K_pay hD K1 (by omega) hcan, ?_, l', fun r i h1 h2 h3 h4 => ?_⟩
  · exact rB_congr (by omega) hcc (fun i hi => fr _ (by omega) (by omega) (by omega)) (fun k hk => s_pay_keep (hP.2.1.mono hhc) (by unfold bookK at hk; omega) (by unfold bookK at hk; omega) (fun h hh => by unfold bookK at hk; omega)) Bm
  · rw [fr r h1 h2 h3, f r i h1 (by omega)]
