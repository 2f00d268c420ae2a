/-! The law acts: purchases. -/
theorem hit_new {t : Nat → Int32} {ck pc f : Nat} (t0 : t 0 = nI ck) (hck : ck ≤ 1000) (t2 : t (100 + 10 * pc + 2) = nI f) (hf : ck ≤ f) (hf2 : f ≤ 1000) : s_hit t pc = nI 0 := by
  have hl : s_len t pc = 0 := by
    unfold s_len
    rw [t0, t2, nat_n (by omega), nat_n (by omega)]
    omega
  unfold s_hit s_cnt s_rain
  rw [hl]
  have z1 : ∀ b : Nat → Bool, cntN b 0 = 0 := fun _ => rfl
  have z2 : ∀ b : Nat → Int32, sumI b 0 = nI 0 := fun _ => rfl
  rw [z1, z2]
  split <;> rfl
theorem LR_new {σ τ : f_M} {s t : Nat → Int32} {D ck hc ac pc cc q n : Nat} {g : Nat → Nat} (K : kAll s D ck hc ac pc cc g q n) (R : LR σ s hc ac pc cc g q n) (hpc : pc < 20)
    (e : ∀ i, i ≠ 4 → (i < 100 + 10 * pc ∨ 100 + 10 * pc + 10 ≤ i) → t i = s i) (t8 : t (100 + 10 * pc + 8) = nI 0) (t9 : t (100 + 10 * pc + 9) = nI 0) (th : s_hit t pc = nI 0)
    (f : ∀ r, 155 < r → (r < 159 ∨ 166 < r) → τ r = σ r) (fp : ∀ r, 159 ≤ r → r ≤ 166 → ∀ i, i ≠ pc → τ r i = σ r i) (f5 : ∀ i, i ≠ 24 → τ 155 i = σ 155 i) (f24 : τ 155 24 = nI (pc + 1))
    (w : τ 159 pc = t (100 + 10 * pc + 0) ∧ τ 160 pc = t (100 + 10 * pc + 1) ∧ τ 161 pc = t (100 + 10 * pc + 2) ∧ τ 162 pc = t (100 + 10 * pc + 3) ∧ τ 163 pc = t (100 + 10 * pc + 4)) (w5 : τ 164 pc = t (100 + 10 * pc + 5)) (w6 : t (100 + 10 * pc + 0) = nI 0 → τ 165 pc = t (100 + 10 * pc + 6)) (w7 : τ 166 pc = t (100 + 10 * pc + 7)) : LR τ t hc ac (pc + 1) cc g q n := by
  have hac := K.1.2.2.1.2.2
  have hcc := K.1.2.2.2.2.2
  have h8 := K.1.2.1.2.2
  obtain ⟨⟨⟨a1, a2, a3, a4⟩, a5, b1, b2, b3, b4, a6, a7⟩, r2, r3, r4, r5, r6, r7, r8, r9⟩ := R
  refine ⟨⟨⟨?_, ?_, f24, ?_⟩, ?_, ?_, ?_, ?_, ?_, ?_, ?_⟩, fun h hh => ?_, cX_k hac (f _ (by omega) (by omega)) (fun k h1 h2 => e k (by omega) (by omega)) r3, fun p hp => ?_, fun p h1 h2 => ?_, cC_k hcc (fun r h1 h2 => f r (by omega) (by omega)) (fun k h1 h2 => e k (by omega) (by omega)) r6, cG_k (fun r h1 h2 => f r (by omega) (by omega)) r7, cD_k hac hcc (fun r h1 h2 => f r (by omega) (by omega)) (fun k h1 h2 => e k (by omega) (by omega)) r8, fun i hi => ?_⟩
  iterate 3 (rw [f5 _ (by omega)]; assumption)
  iterate 7 (rw [f5 _ (by omega)]; first | assumption | (rw [e _ (by omega) (by omega)]; assumption))
  · rw [f _ (by omega) (by omega), f _ (by omega) (by omega), e _ (by omega) (by omega), e _ (by omega) (by omega)]; exact r2 h hh
  · by_cases hpp : p = pc
    · subst hpp
      obtain ⟨z7, z8, z9⟩ := r5 p (Nat.le_refl _) hpc
      refine ⟨⟨w, w5, w6, w7, ?_, ?_⟩, ?_⟩
      · rw [f _ (by omega) (by omega), z8, t8]
      · rw [f _ (by omega) (by omega), z9, t9]
      · rw [f _ (by omega) (by omega), z7, th]
    · refine ⟨lP_congr (fun r h1 h2 h3 => ?_) (fun i hi => e _ (by omega) (by omega)) (r4 p (by omega)).1, ?_⟩
      · by_cases h : r ≤ 166
        · exact fp r h1 h p hpp
        · rw [f r (by omega) (by omega)]
      · rw [f _ (by omega) (by omega), s_hit_congr (e _ (by omega) (by omega)) (fun i hi => e _ (by omega) (by omega)) (fun t ht => e _ (by omega) (by omega))]; exact (r4 p (by omega)).2
  · rw [f _ (by omega) (by omega), f _ (by omega) (by omega), f _ (by omega) (by omega)]; exact r5 p (by omega) h2
  · rw [f _ (by omega) (by omega)]; exact r9 i hi
/-- the law's memory behind a purchase -/
def m_buy (σ : f_M) (s : Nat → Int32) (pc h : Nat) (kd hl fi du cv lo hi co : Int32) : f_M := f_up (f_up (f_up (f_up (f_up (f_up (f_up (f_up (f_up (f_up (f_up (f_up σ 159 pc kd) 160 pc hl) 161 pc fi) 162 pc du) 163 pc cv) 164 pc lo) 165 pc hi) 166 pc co) 156 h (s (20 + 9 * h + 7) - co)) 155 27 (s 1 + co)) 155 28 (s 6 + co)) 155 24 (nI (pc + 1))
theorem LR_buy {σ : f_M} {s t : Nat → Int32} {D ck hc ac pc cc q n h : Nat} {g : Nat → Nat} {kd hl fi du cv lo hi co : Int32} (K : kAll s D ck hc ac pc cc g q n) (R : LR σ s hc ac pc cc g q n) (hpc : pc < 20) (hh : h < hc) (el : hl = nI h)
    (e : ∀ i, i ≠ 4 → (i < 100 + 10 * pc ∨ 100 + 10 * pc + 10 ≤ i) → t i = s i) (t0 : t (100 + 10 * pc + 0) = kd) (t1 : t (100 + 10 * pc + 1) = hl) (t2 : t (100 + 10 * pc + 2) = fi) (t3 : t (100 + 10 * pc + 3) = du) (t4 : t (100 + 10 * pc + 4) = cv) (t5 : t (100 + 10 * pc + 5) = lo) (t6 : t (100 + 10 * pc + 0) = nI 0 → hi = t (100 + 10 * pc + 6)) (t7 : t (100 + 10 * pc + 7) = co) (t8 : t (100 + 10 * pc + 8) = nI 0) (t9 : t (100 + 10 * pc + 9) = nI 0) (th : s_hit t pc = nI 0) : LR (m_buy σ s pc h kd hl fi du cv lo hi co) (s_pay t pc) hc ac (pc + 1) cc g q n := by
  have hac := K.1.2.2.1.2.2
  have hcc := K.1.2.2.2.2.2
  have h8 := K.1.2.1.2.2
  obtain ⟨⟨-, a5, b1, b2, b3, b4, -⟩, r2, -⟩ := id R
  have eh : t (100 + 10 * pc + 1) = nI h := t1.trans el
  have es : ∀ k, k < 100 → k ≠ 4 → t k = s k := fun k h1 h2 => e k h2 (by omega)
  obtain ⟨v1, v6, v7, v8, vb⟩ := s_pay_v eh (by omega)
  have RN : LR (f_up (f_up (f_up (f_up (f_up (f_up (f_up (f_up (f_up σ 159 pc kd) 160 pc hl) 161 pc fi) 162 pc du) 163 pc cv) 164 pc lo) 165 pc hi) 166 pc co) 155 24 (nI (pc + 1))) t hc ac (pc + 1) cc g q n := by
    refine LR_new K R hpc e t8 t9 th (fun r h1 h2 => ?_) (fun r h1 h2 i hi => ?_) (fun i hi => ?_) (up_same _ _ _ _) ⟨?_, ?_, ?_, ?_, ?_⟩ ?_ (fun h => ?_) ?_
    · rw [up_rows (by omega), up_rows (by omega), up_rows (by omega), up_rows (by omega), up_rows (by omega), up_rows (by omega), up_rows (by omega), up_rows (by omega), up_rows (by omega)]
    · rw [up_rows (show r ≠ 155 by omega), up_at (Or.inr hi), up_at (Or.inr hi), up_at (Or.inr hi), up_at (Or.inr hi), up_at (Or.inr hi), up_at (Or.inr hi), up_at (Or.inr hi), up_at (Or.inr hi)]
    · rw [up_ix hi, up_rows (by decide), up_rows (by decide), up_rows (by decide), up_rows (by decide), up_rows (by decide), up_rows (by decide), up_rows (by decide), up_rows (by decide)]
    · simp (disch := decide) only [up_rows, up_same]; exact t0.symm
    · simp (disch := decide) only [up_rows, up_same]; exact t1.symm
    · simp (disch := decide) only [up_rows, up_same]; exact t2.symm
    · simp (disch := decide) only [up_rows, up_same]; exact t3.symm
    · simp (disch := decide) only [up_rows, up_same]; exact t4.symm
    · simp (disch := decide) only [up_rows, up_same]; exact t5.symm
    · simp (disch := decide) only [up_rows, up_same]; exact t6 h
    · simp (disch := decide) only [up_rows, up_same]; exact t7.symm
  unfold m_buy
  refine LR_money hac (by omega) hcc RN (fun r hr => ?_) (fun i hi => ?_) (fun k h1 h6 h7 h8 hk => s_pay_keep ⟨h, by omega, eh⟩ h1 h6 (fun h' hh' => by omega)) ⟨?_, ?_, ?_, ?_⟩ (fun h' hh' => ⟨?_, ?_⟩)
  · rw [up_rows (show r ≠ 155 by omega), up_rows (show r ≠ 155 by omega), up_rows (show r ≠ 155 by omega), up_rows (show r ≠ 156 by omega), up_rows (show r ≠ 155 by omega)]
  · by_cases h24 : i = 24
    · subst h24; rw [up_same, up_same]
    · rw [up_ix h24, up_ix (by omega), up_ix (by omega), up_rows (show 155 ≠ 156 by decide), up_ix h24]
  · rw [up_ix (by decide), up_ix (by decide), up_same, v1, es _ (by omega) (by omega), t7]
  · rw [up_ix (by decide), up_same, v6, es _ (by omega) (by omega), t7]
  · simp (disch := decide) only [up_rows, up_ix]
    rw [b3, v7, es _ (by omega) (by omega)]
  · simp (disch := decide) only [up_rows, up_ix]
    rw [b4, v8, es _ (by omega) (by omega)]
  · rw [(vb h' (by omega)).1]
    simp (disch := decide) only [up_rows]
    by_cases e9 : h' = h
    · subst e9; rw [up_same, if_pos rfl, es _ (by omega) (by omega), t7]
    · rw [up_ix e9, if_neg e9, es _ (by omega) (by omega)]
      simp (disch := decide) only [up_rows]
      exact (r2 h' hh').1
  · rw [(vb h' (by omega)).2, es _ (by omega) (by omega)]
    simp (disch := decide) only [up_rows]
    exact (r2 h' hh').2
