/-! The law passes an hour: the weather. -/
theorem hit_wx {s : Nat → Int32} {ck p f d : Nat} {w r : Int32} (hp : p < 20) (h0 : s 0 = nI ck) (hck : ck < 1000) (e2 : s (100 + 10 * p + 2) = nI f) (hf : f < 1001) (e3 : s (100 + 10 * p + 3) = nI d) (hd : d ≤ 24) :
    (f ≤ ck ∧ ck < f + d → s_hit (s_wx s w r) p = if s (100 + 10 * p + 0) = nI 0 then (if (decide (w < s (100 + 10 * p + 5)) || decide (s (100 + 10 * p + 6) < w)) = true then s_hit s p + nI 1 else s_hit s p) else s_hit s p + r) ∧ (¬ (f ≤ ck ∧ ck < f + d) → s_hit (s_wx s w r) p = s_hit s p) := by
  have e0 : nat (s 0) = ck := by rw [h0, nat_n (by omega)]
  have k0 : ∀ k, k ≠ 0 → k ≠ 420 + ck → k ≠ 1420 + ck → s_wx s w r k = s k := fun k h1 h2 h3 => s_wx_keep h1 (by rw [e0]; exact h2) (by rw [e0]; exact h3)
  have v0 : s_wx s w r 0 = nI (ck + 1) := by unfold s_wx; rw [upd_same, h0, n_add]
  have vw : s_wx s w r (420 + ck) = w := by unfold s_wx; rw [e0, upd_ne (by omega), upd_ne (by omega), upd_same]
  have vr : s_wx s w r (1420 + ck) = r := by unfold s_wx; rw [e0, upd_ne (by omega), upd_same]
  generalize s_wx s w r = s' at *
  have len : s_len s p = min ck (f + d) - f := by
    unfold s_len; rw [h0, e2, e3, nat_n (by omega), nat_n (by omega), nat_n (by omega)]
  have len' : s_len s' p = min (ck + 1) (f + d) - f := by
    unfold s_len; rw [v0, k0 _ (by omega) (by omega) (by omega), k0 _ (by omega) (by omega) (by omega), e2, e3, nat_n (by omega), nat_n (by omega), nat_n (by omega)]
  have cnt : ∀ n, f + n ≤ ck → cntN (fun i => s_bad s' p (f + i)) n = cntN (fun i => s_bad s p (f + i)) n := fun n hn => cntN_congr fun i hi => by
    unfold s_bad
    rw [k0 _ (by omega) (by omega) (by omega), k0 _ (by omega) (by omega) (by omega), k0 _ (by omega) (by omega) (by omega)]
  have rn : ∀ n, f + n ≤ ck → sumI (fun i => s' (1420 + (f + i))) n = sumI (fun i => s (1420 + (f + i))) n := fun n hn => sumI_congr fun i hi => k0 _ (by omega) (by omega) (by omega)
  unfold s_hit s_cnt s_rain
  rw [k0 (100 + 10 * p + 0) (by omega) (by omega) (by omega), k0 (100 + 10 * p + 2) (by omega) (by omega) (by omega), e2, nat_n (by omega), len, len']
  refine ⟨fun hin => ?_, fun hout => ?_⟩
  · rw [show min (ck + 1) (f + d) - f = (ck - f) + 1 by omega, show min ck (f + d) - f = ck - f by omega, cntN_succ, sumI_succ, cnt _ (by omega), rn _ (by omega), show f + (ck - f) = ck by omega, vr]
    have eb : s_bad s' p ck = (decide (w < s (100 + 10 * p + 5)) || decide (s (100 + 10 * p + 6) < w)) := by
      unfold s_bad
      rw [vw, k0 _ (by omega) (by omega) (by omega), k0 _ (by omega) (by omega) (by omega)]
    rw [eb]
    by_cases hk : s (100 + 10 * p + 0) = nI 0
    · rw [if_pos hk, if_pos hk, if_pos hk]
      cases (decide (w < s (100 + 10 * p + 5)) || decide (s (100 + 10 * p + 6) < w))
      · rw [if_neg (by decide), if_neg (by decide), Nat.add_zero]
      · rw [if_pos rfl, if_pos rfl, n_add]
    · rw [if_neg hk, if_neg hk, if_neg hk]
  · by_cases hlt : ck < f
    · rw [show min (ck + 1) (f + d) - f = 0 by omega, show min ck (f + d) - f = 0 by omega]
      have z1 : ∀ b : Nat → Bool, cntN b 0 = 0 := fun _ => rfl
      have z2 : ∀ b : Nat → Int32, sumI b 0 = 0 := fun _ => rfl
      rw [z1, z1, z2, z2]
    · rw [show min (ck + 1) (f + d) - f = d by omega, show min ck (f + d) - f = d by omega, cnt _ (by omega), rn _ (by omega)]
theorem L_hit1 {σ σj : f_M} {s : Nat → Int32} {D ck hc ac pc cc q n j w r : Nat} {g : Nat → Nat} (K : kAll s D ck hc ac pc cc g q n) (hck : ck < 1000) (hj : j < pc) (R : LR σ s hc ac pc cc g q n) (f : ∀ x, x ≠ 167 → σj x = σ x) (h7 : σj 167 j = s_hit s j) :
    ∃ σ', b_hit (nI w) (nI r) (nI j) σj = some (.inl (nI (j + 1), σ')) ∧ (∀ x, x ≠ 167 → σ' x = σ x) ∧ σ' 167 j = s_hit (s_wx s (nI w) (nI r)) j ∧ ∀ p, p ≠ j → σ' 167 p = σj 167 p := by
  have hpc := K.1.2.2.2.1.2
  have c0 := K.1.1.1
  obtain ⟨⟨b, hb, eb⟩, -, ⟨fi, hf, e2⟩, ⟨d, d1, d2, e3⟩, -, kl, -, -, -, kh⟩ := K.2.1 j hj
  obtain ⟨⟨⟨a1, a2, a3, a4⟩, a5, -⟩, -, -, r4, -⟩ := id R
  obtain ⟨⟨l0, l1, l2, l3, l4⟩, l5, l6, l7, l8, l9⟩ := (r4 j hj).1
  obtain ⟨hin, hout⟩ := hit_wx (p := j) (w := nI w) (r := nI r) (by omega) c0 hck e2 hf e3 d2
  have s0 : σj 159 j = nI b := by rw [f _ (by omega), l0, eb]
  have s2 : σj 161 j = nI fi := by rw [f _ (by omega), l2, e2]
  have s3 : σj 162 j = nI d := by rw [f _ (by omega), l3, e3]
  have s5 : σj 164 j = s (100 + 10 * j + 5) := by rw [f _ (by omega), l5]
  have k3 : σj 155 24 = nI pc := by rw [f _ (by omega), a3]
  have k6 : σj 155 26 = nI ck := by rw [f _ (by omega), a5, c0]
  have o1 : (1 : Int32) = nI 1 := rfl
  unfold b_hit
  rw [k3, k6, if_neg (by rw [n_le (by omega) (by omega)]; omega), f_rd_n (by omega) (by decide), bnd, s2, o1, n_add j 1]
  have stay : ¬ (fi ≤ ck ∧ ck < fi + d) → ∃ σ', (some σj : Option f_M).bind (fun t22 => some (Sum.inl (β := f_M) (nI (j + 1), t22))) = some (.inl (nI (j + 1), σ')) ∧ (∀ x, x ≠ 167 → σ' x = σ x) ∧ σ' 167 j = s_hit (s_wx s (nI w) (nI r)) j ∧ ∀ p, p ≠ j → σ' 167 p = σj 167 p := fun h =>
    ⟨σj, rfl, f, by rw [h7, hout h], fun _ _ => rfl⟩
  have same : s_hit (s_wx s (nI w) (nI r)) j = s_hit s j → ∃ σ', (some σj : Option f_M).bind (fun t22 => some (Sum.inl (β := f_M) (nI (j + 1), t22))) = some (.inl (nI (j + 1), σ')) ∧ (∀ x, x ≠ 167 → σ' x = σ x) ∧ σ' 167 j = s_hit (s_wx s (nI w) (nI r)) j ∧ ∀ p, p ≠ j → σ' 167 p = σj 167 p := fun h =>
    ⟨σj, rfl, f, by rw [h7, h], fun _ _ => rfl⟩
  have more : ∀ v : Int32, s_hit (s_wx s (nI w) (nI r)) j = s_hit s j + v → ∃ σ', ((f_rd σj 167 20 (nI j)).bind fun v27 => (f_wr σj 167 20 (nI j) (v27 + v)).bind fun m28 => some m28).bind (fun t22 => some (Sum.inl (β := f_M) (nI (j + 1), t22))) = some (.inl (nI (j + 1), σ')) ∧ (∀ x, x ≠ 167 → σ' x = σ x) ∧ σ' 167 j = s_hit (s_wx s (nI w) (nI r)) j ∧ ∀ p, p ≠ j → σ' 167 p = σj 167 p := fun v hv => by
    refine ⟨f_up σj 167 j (s_hit s j + v), ?_, fun x hx => by rw [up_rows hx, f x hx], by rw [up_same, hv], fun p hp => up_ix hp⟩
    rw [f_rd_n (by omega) (by decide), bnd, h7, f_wr_n (by omega) (by decide), bnd, bnd]
  by_cases h1 : ck < fi
  · rw [if_pos ((n_lt (by omega) (by omega)).mpr h1)]
    exact stay (by omega)
  · rw [if_neg (by rw [n_lt (by omega) (by omega)]; exact h1), bnd, f_rd_n (by omega) (by decide), bnd, s3, n_add fi d]
    by_cases h2 : ck < fi + d
    · rw [if_pos ((n_lt (by omega) (by omega)).mpr h2), f_rd_n (by omega) (by decide), bnd, s0]
      have hin' := hin ⟨by omega, h2⟩
      rw [eb] at hin'
      obtain rfl | rfl : b = 0 ∨ b = 1 := by omega
      · obtain ⟨lo, hi, g1, g2, g3, g4⟩ := kh eb
        have s6 : σj 165 j = s (100 + 10 * j + 6) := by rw [f _ (by omega), l6 eb]
        rw [if_pos rfl] at hin'
        rw [if_pos (by decide), f_rd_n (by omega) (by decide), bnd, s5]
        by_cases h3 : nI w < s (100 + 10 * j + 5)
        · rw [decide_eq_true h3, Bool.true_or, if_pos rfl] at hin'
          rw [if_pos h3]
          exact more _ hin'
        · rw [if_neg h3, f_rd_n (by omega) (by decide), bnd, s6]
          rw [decide_eq_false h3, Bool.false_or] at hin'
          by_cases h5 : nI w ≤ s (100 + 10 * j + 6)
          · rw [if_pos h5]
            rw [decide_eq_false ((i32_nlt _ _).mpr h5), if_neg (by decide)] at hin'
            exact same hin'
          · rw [if_neg h5]
            rw [decide_eq_true ((i32_nle _ _).mp h5), if_pos rfl] at hin'
            exact more _ hin'
      · rw [if_neg (by decide)] at hin'
        rw [if_neg (by decide)]
        exact more _ hin'
    · rw [if_neg (by rw [n_lt (by omega) (by omega)]; exact h2)]
      exact stay (by omega)
theorem L_hit {σ : f_M} {s : Nat → Int32} {D ck hc ac pc cc q n w r : Nat} {g : Nat → Nat} (K : kAll s D ck hc ac pc cc g q n) (hck : ck < 1000) (R : LR σ s hc ac pc cc g q n) :
    ∃ σ', f_lp (fun z => b_hit (nI w) (nI r) z.1 z.2) f_F ((0 : Int32), σ) = some σ' ∧ LR (f_up σ' 155 26 (σ' 155 26 + 1)) (s_wx s (nI w) (nI r)) hc ac pc cc g q n ∧ σ' 155 32 = s 10 ∧ ∀ x, x < 155 → σ' x = σ x := by
  have hpc := K.1.2.2.2.1.2
  have hac := K.1.2.2.1.2.2
  have hcc := K.1.2.2.2.2.2
  have h8 := K.1.2.1.2.2
  have c0 := K.1.1.1
  obtain ⟨⟨⟨a1, a2, a3, a4⟩, a5, b1, b2, b3, b4, a6, a7⟩, r2, r3, r4, r5, r6, r7, r8, r9⟩ := id R
  have key : ∃ σ', f_lp (fun z => b_hit (nI w) (nI r) z.1 z.2) f_F ((0 : Int32), σ) = some σ' ∧ (∀ x, x ≠ 167 → σ' x = σ x) ∧ (∀ p, p < pc → σ' 167 p = s_hit (s_wx s (nI w) (nI r)) p) ∧ ∀ p, pc ≤ p → σ' 167 p = σ 167 p := by
    refine lp_inv (fun j (z : Int32 × f_M) => ∃ σj, z = (nI j, σj) ∧ (∀ x, x ≠ 167 → σj x = σ x) ∧ (∀ p, p < pc → σj 167 p = if p < j then s_hit (s_wx s (nI w) (nI r)) p else s_hit s p) ∧ ∀ p, pc ≤ p → σj 167 p = σ 167 p) _ pc (f_F_lt (by omega)) ⟨σ, rfl, fun _ _ => rfl, fun p hp => by rw [if_neg (by omega)]; exact (r4 p hp).2, fun _ _ => rfl⟩ ?_ ?_
    · rintro j z hj ⟨σj, rfl, fj, vj, oj⟩
      obtain ⟨σ', e1, e2, e3, e4⟩ := L_hit1 (w := w) (r := r) K hck hj R fj (by rw [vj j hj, if_neg (by omega)])
      refine Or.inl ⟨_, e1, σ', rfl, e2, fun p hp => ?_, fun p hp => ?_⟩
      · by_cases h : p = j
        · subst h; rw [e3, if_pos (by omega)]
        · rw [e4 p h, vj p hp]
          by_cases h' : p < j
          · rw [if_pos h', if_pos (by omega)]
          · rw [if_neg h', if_neg (by omega)]
      · rw [e4 p (by omega)]; exact oj p hp
    · rintro z ⟨σj, rfl, fj, vj, oj⟩
      refine ⟨σj, ?_, fj, fun p hp => by rw [vj p hp, if_pos hp], oj⟩
      show b_hit (nI w) (nI r) (nI pc) σj = _
      unfold b_hit
      rw [fj 155 (by omega), a3, if_pos (by rw [n_le (by omega) (by omega)]; omega)]
  obtain ⟨σ', e1, f, vp, op⟩ := key
  have e0 : nat (s 0) = ck := by rw [c0, nat_n (by omega)]
  have k0 : ∀ k, k ≠ 0 → (k < 420) → s_wx s (nI w) (nI r) k = s k := fun k h1 h2 => s_wx_keep h1 (by omega) (by omega)
  have v0 : s_wx s (nI w) (nI r) 0 = s 0 + 1 := by unfold s_wx; rw [upd_same]; rfl
  have f' : ∀ x, x ≠ 167 → x ≠ 155 → f_up σ' 155 26 (σ' 155 26 + 1) x = σ x := fun x h h' => by rw [up_rows h', f x h]
  have f5 : ∀ i, i ≠ 26 → f_up σ' 155 26 (σ' 155 26 + 1) 155 i = σ 155 i := fun i h => by rw [up_ix h, f 155 (by omega)]
  refine ⟨σ', e1, ⟨⟨⟨?_, ?_, ?_, ?_⟩, ?_, ?_, ?_, ?_, ?_, ?_, ?_⟩, fun h hh => ?_, fun x hx => ?_, fun p hp => ⟨?_, ?_⟩, fun p h1 h2 => ?_, fun c hc => ?_, fun c h1 h2 => ?_, fun x hx => ?_, fun i hi => ?_⟩, by rw [f 155 (by omega)]; exact a7, fun x hx => f x (by omega)⟩
  iterate 4 (rw [f5 _ (by omega)]; assumption)
  · rw [up_same, f 155 (by omega), a5, v0]
  iterate 6 (rw [f5 _ (by omega)]; first | assumption | (rw [k0 _ (by omega) (by omega)]; assumption))
  · rw [f' _ (by omega) (by omega), f' _ (by omega) (by omega), k0 _ (by omega) (by omega), k0 _ (by omega) (by omega)]; exact r2 h hh
  · rw [f' _ (by omega) (by omega), k0 _ (by omega) (by omega)]; exact r3 x hx
  · exact lP_congr (fun x h1 h2 h3 => by rw [f' _ h3 (by omega)]) (fun i hi => k0 _ (by omega) (by omega)) (r4 p hp).1
  · rw [up_rows (by omega)]; exact vp p hp
  · rw [up_rows (by omega), op p h1, f' _ (by omega) (by omega), f' _ (by omega) (by omega)]; exact r5 p h1 h2
  · exact lC_congr (fun x h1 h2 => by rw [f' _ (by omega) (by omega)]) (fun i hi => k0 _ (by omega) (by omega)) (r6 c hc)
  · rw [f' _ (by omega) (by omega), f' _ (by omega) (by omega)]; exact r7 c h1 h2
  · exact lD_congr (f' _ (by omega) (by omega)) (by rw [f' _ (by omega) (by omega)]) (by rw [f' _ (by omega) (by omega)]) (fun c hc i hi => k0 _ (by omega) (by omega)) (r8 x hx)
  · rw [f' _ (by omega) (by omega)]; exact r9 i hi
