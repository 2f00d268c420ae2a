/-! The law passes an hour: the payments, the whole. -/
theorem LR_pay1 {σ σ' : f_M} {s : Nat → Int32} {D ck hc ac pc cc q n p h : Nat} {g : Nat → Nat} (K : kAll s D ck hc ac pc cc g q n) (hq : q < n) (R : LR σ s hc ac pc cc g q n) (ep : s (300 + 6 * g q + 0) = nI p) (hp : p < pc) (eh : s (100 + 10 * p + 1) = nI h) (hh : h < hc)
    (f : ∀ r, 157 < r → r ≠ 172 → r ≠ 180 → σ' r = σ r) (f5 : ∀ i, i ≠ 27 → i ≠ 29 → i ≠ 31 → σ' 155 i = σ 155 i) (v27 : σ' 155 27 = s 1 - s (300 + 6 * g q + 4)) (v29 : σ' 155 29 = s 7 + s (300 + 6 * g q + 4)) (v31 : σ' 155 31 = nI (n - (q + 1)))
    (b6 : ∀ h', h' < hc → σ' 156 h' = if h' = h then s (20 + 9 * h + 7) + s (300 + 6 * g q + 4) else s (20 + 9 * h' + 7)) (b7 : ∀ h', h' < hc → σ' 157 h' = if h' = h then s (20 + 9 * h + 8) + s (300 + 6 * g q + 4) else s (20 + 9 * h' + 8))
    (c2 : σ' 172 (g q) = nI 3) (c2' : ∀ c, c ≠ g q → σ' 172 c = σ 172 c) (py : ∀ i, i < n - (q + 1) → σ' 180 i = σ 180 (i + 1)) : LR σ' (s_pay1 s (g q)) hc ac pc cc g (q + 1) n := by
  have hac := K.1.2.2.1.2.2
  have hpc := K.1.2.2.2.1.2
  have hcc := K.1.2.2.2.2.2
  have h8 := K.1.2.1.2.2
  have hgq := K.2.2.2.1.2.2.2.1 q hq
  have hst := K.2.2.2.1.2.2.2.2.2.1 q hq
  rw [if_neg (by omega)] at hst
  obtain ⟨⟨⟨a1, a2, a3, a4⟩, a5, -, b2, -, b4, a6, a7⟩, r2, r3, r4, r5, r6, r7, r8, r9⟩ := R
  have hi1 : isN (s (100 + 10 * nat (s (300 + 6 * g q + 0)) + 1)) 8 := by rw [ep, nat_n (by omega)]; exact ⟨h, by omega, eh⟩
  have e : ∀ k, k ≠ 1 → k ≠ 7 → (∀ h, h < 8 → k ≠ 20 + 9 * h + 7 ∧ k ≠ 20 + 9 * h + 8) → k ≠ 300 + 6 * g q + 3 → s_pay1 s (g q) k = s k := fun k g1 g7 gb g3 => s_pay1_keep hi1 g1 g7 gb g3
  have eo : ∀ k, 92 ≤ k → k ≠ 300 + 6 * g q + 3 → s_pay1 s (g q) k = s k := fun k h1 h2 => e k (by omega) (by omega) (fun h hh => by omega) h2
  have es : ∀ k, k < 20 → k ≠ 1 → k ≠ 7 → s_pay1 s (g q) k = s k := fun k h1 h2 h3 => e k h2 h3 (fun h hh => by omega) (by omega)
  have e1 : s_pay1 s (g q) 1 = s 1 - s (300 + 6 * g q + 4) := by
    unfold s_pay1
    rw [upd_ne (by omega), upd_ne (by omega), upd_ne (by omega), upd_ne (by omega), upd_same]
  have e7 : s_pay1 s (g q) 7 = s 7 + s (300 + 6 * g q + 4) := by
    unfold s_pay1
    rw [upd_ne (by omega), upd_same]
  have e3 : s_pay1 s (g q) (300 + 6 * g q + 3) = nI 3 := by unfold s_pay1; rw [upd_same]
  have eb : ∀ h', h' < hc → s_pay1 s (g q) (20 + 9 * h' + 7) = (if h' = h then s (20 + 9 * h + 7) + s (300 + 6 * g q + 4) else s (20 + 9 * h' + 7)) ∧ s_pay1 s (g q) (20 + 9 * h' + 8) = if h' = h then s (20 + 9 * h + 8) + s (300 + 6 * g q + 4) else s (20 + 9 * h' + 8) := fun h' hh' => by
    unfold s_pay1
    rw [ep, nat_n (by omega), eh, nat_n (by omega)]
    by_cases he : h' = h
    · subst he
      rw [if_pos rfl, if_pos rfl]
      refine ⟨?_, ?_⟩
      · rw [upd_ne (by omega), upd_ne (by omega), upd_ne (by omega), upd_same]
      · rw [upd_ne (by omega), upd_ne (by omega), upd_same]
    · rw [if_neg he, if_neg he]
      refine ⟨?_, ?_⟩
      · rw [upd_ne (by omega), upd_ne (by omega), upd_ne (by omega), upd_ne (by omega), upd_ne (by omega)]
      · rw [upd_ne (by omega), upd_ne (by omega), upd_ne (by omega), upd_ne (by omega), upd_ne (by omega)]
  have eu : ∀ c y, s_und (s_pay1 s (g q)) c y = s_und s c y := fun c y => by
    by_cases hc : c = g q
    · subst hc
      unfold s_und
      rw [e3, hst, decide_eq_false (show ¬ nI 3 = nI 0 by decide), decide_eq_false (show ¬ nI 2 = nI 0 by decide)]; rfl
    · unfold s_und; rw [eo _ (by omega) (by omega), eo _ (by omega) (by omega)]
  have er : ∀ y m, s_rk (s_pay1 s (g q)) y m = s_rk s y m := fun y m => cntN_congr fun c _ => eu c _
  refine ⟨⟨⟨?_, ?_, ?_, ?_⟩, ?_, ?_, ?_, ?_, ?_, v31, ?_⟩, fun h' hh' => ⟨?_, ?_⟩, cX_k hac (f _ (by omega) (by omega) (by omega)) (fun k h1 h2 => eo k (by omega) (by omega)) r3, cP_k hpc (fun r h1 h2 => f r (by omega) (by omega) (by omega)) (es 0 (by omega) (by omega) (by omega)) (fun k h1 h2 => eo k (by omega) (by omega)) (fun k h1 => eo k (by omega) (by omega)) r4, cF_k (fun r h1 h2 => f r (by omega) (by omega) (by omega)) r5, fun c hc => ?_, fun c h1 h2 => ?_, fun y hy => ?_, fun i hi => ?_⟩
  iterate 4 (rw [f5 _ (by omega) (by omega) (by omega)]; assumption)
  · rw [f5 _ (by omega) (by omega) (by omega), es _ (by omega) (by omega) (by omega)]; exact a5
  · rw [v27, e1]
  · rw [f5 _ (by omega) (by omega) (by omega), es _ (by omega) (by omega) (by omega)]; exact b2
  · rw [v29, e7]
  · rw [f5 _ (by omega) (by omega) (by omega), es _ (by omega) (by omega) (by omega)]; exact b4
  · rw [f5 _ (by omega) (by omega) (by omega), es _ (by omega) (by omega) (by omega)]; exact a7
  · rw [b6 h' hh', (eb h' hh').1]
  · rw [b7 h' hh', (eb h' hh').2]
  · obtain ⟨q0, q1, q2, q3⟩ := r6 c hc
    unfold lC
    rw [f _ (by omega) (by omega) (by omega), f _ (by omega) (by omega) (by omega), f 173 (by omega) (by omega) (by omega), eo (300 + 6 * c + 0) (by omega) (by omega), eo (300 + 6 * c + 1) (by omega) (by omega), eo (300 + 6 * c + 4) (by omega) (by omega)]
    by_cases hcg : c = g q
    · rw [hcg, c2, e3, ← hcg]
      exact ⟨q0, q1, rfl, q3⟩
    · rw [c2' c hcg, eo (300 + 6 * c + 3) (by omega) (by omega)]
      exact ⟨q0, q1, q2, q3⟩
  · rw [c2' c (by omega), f _ (by omega) (by omega) (by omega)]; exact r7 c h1 h2
  · obtain ⟨d1, d2, d3⟩ := r8 y hy
    unfold lD
    rw [er, f 178 (by omega) (by omega) (by omega), f 179 (by omega) (by omega) (by omega), f (175 + y) (by omega) (by omega) (by omega)]
    refine ⟨d1, fun c hc hu' => ?_, d3⟩
    rw [eu] at hu'
    rw [er, eo (300 + 6 * c + 2) (by omega) (by omega)]
    exact d2 c hc hu'
  · rw [py i hi, r9 (i + 1) (by omega), show q + (i + 1) = q + 1 + i by omega]
theorem L_due1 {σ : f_M} {s : Nat → Int32} {D ck hc ac pc cc q n : Nat} {g : Nat → Nat} (h4 : hc ≤ 4) (K : kAll s D ck hc ac pc cc g q n) (R : LR σ s hc ac pc cc g q n) :
    (n ≤ q ∧ b_due σ = some (.inr σ)) ∨ (q < n ∧ s 1 < s (300 + 6 * g q + 4) ∧ b_due σ = some (.inr σ)) ∨ (q < n ∧ ¬ s 1 < s (300 + 6 * g q + 4) ∧ ∃ σ', b_due σ = some (.inl σ') ∧ LR σ' (s_pay1 s (g q)) hc ac pc cc g (q + 1) n ∧ ∀ r, r < 155 → σ' r = σ r) := by
  have hpc := K.1.2.2.2.1.2
  have hcc := K.1.2.2.2.2.2
  have hn := (qn_le K).2
  obtain ⟨⟨⟨a1, a2, a3, a4⟩, a5, b1, b2, b3, b4, a6, a7⟩, r2, r3, r4, r5, r6, r7, r8, r9⟩ := id R
  have z0 : (0 : Int32) = nI 0 := rfl
  have z1 : (1 : Int32) = nI 1 := rfl
  have z3 : (3 : Int32) = nI 3 := rfl
  unfold b_due
  rw [a6, z0, z1, z3]
  by_cases hq : q < n
  · have hgq := K.2.2.2.1.2.2.2.1 q hq
    have e0 : σ 180 0 = nI (g q) := r9 0 (by omega)
    have e4 : σ 173 (g q) = s (300 + 6 * g q + 4) := (r6 _ hgq).2.2.2
    rw [if_neg (by rw [n_le (by omega) (by omega)]; omega), f_rd_n (by omega) (by decide), bnd, e0, f_rd_n (by omega) (by decide), bnd, e4, b1]
    by_cases hlt : s 1 < s (300 + 6 * g q + 4)
    · exact Or.inr (Or.inl ⟨hq, hlt, if_pos hlt⟩)
    · refine Or.inr (Or.inr ⟨hq, hlt, ?_⟩)
      obtain ⟨d1, d2, d3, d4⟩ := hld_at K hgq
      obtain ⟨p, ep⟩ : ∃ p, p = nat (s (300 + 6 * g q + 0)) := ⟨_, rfl⟩
      obtain ⟨h, eh⟩ : ∃ h, h = hld s (g q) := ⟨_, rfl⟩
      rw [← ep] at d1 d2 d3
      rw [← eh] at d3 d4
      obtain ⟨x77, t1, t2, t3⟩ := L_pop (σ := f_up σ 155 31 (nI (n - q - 1))) (N := n - q - 1) (by omega) (up_same _ _ _ _)
      have o : ∀ r, r ≠ 155 → r ≠ 180 → x77 r = σ r := fun r h1 h2 => by rw [t3 r h2, up_rows h1]
      have t2' : ∀ i, i < n - q - 1 → x77 180 i = σ 180 (i + 1) := fun i hi => by rw [t2 i hi, up_rows (by decide)]
      have o5 : ∀ i, i ≠ 31 → x77 155 i = σ 155 i := fun i hi => by rw [t3 _ (by decide), up_ix hi]
      have o31 : x77 155 31 = nI (n - q - 1) := by rw [t3 _ (by decide), up_same]
      have y173 : x77 173 (g q) = s (300 + 6 * g q + 4) := by rw [o _ (by decide) (by decide), e4]
      have y170 : x77 170 (g q) = nI p := by rw [o _ (by decide) (by decide), (r6 _ hgq).1]; exact d1
      have y160 : x77 160 p = nI h := by rw [o _ (by decide) (by decide), (r4 p d2).1.1.2.1]; exact d3
      have y156 : x77 156 h = s (20 + 9 * h + 7) := by rw [o _ (by decide) (by decide)]; exact (r2 h d4).1
      have y157 : x77 157 h = s (20 + 9 * h + 8) := by rw [o _ (by decide) (by decide)]; exact (r2 h d4).2
      have y27 : x77 155 27 = s 1 := by rw [o5 _ (by decide), b1]
      have y29 : x77 155 29 = s 7 := by rw [o5 _ (by decide), b3]
      rw [if_neg hlt, n_sub (by omega), show f_lp (fun z => b_pop z.1 z.2) f_F (nI 0, f_up σ 155 31 (nI (n - q - 1))) = some x77 from t1, bnd]
      refine ⟨f_up (f_up (f_up (f_up (f_up x77 172 (g q) (nI 3)) 155 27 (s 1 - s (300 + 6 * g q + 4))) 156 h (s (20 + 9 * h + 7) + s (300 + 6 * g q + 4))) 157 h (s (20 + 9 * h + 8) + s (300 + 6 * g q + 4))) 155 29 (s 7 + s (300 + 6 * g q + 4)), ?_, ?_, ?_⟩
      · simp (disch := omega) only [f_rd_n, f_wr_n, bnd, up_rows, up_ix, up_same, e0, y173, y170, y160, y156, y157, y27, y29]
      · refine LR_pay1 K hq R d1 d2 d3 d4 (fun r h1 h2 h3 => ?_) (fun i h1 h2 h3 => ?_) ?_ ?_ ?_ (fun h' hh' => ?_) (fun h' hh' => ?_) ?_ (fun c hc => ?_) (fun i hi => ?_)
        · rw [up_rows (by omega), up_rows (by omega), up_rows (by omega), up_rows (by omega), up_rows h2, o r (by omega) h3]
        · rw [up_ix h2, up_rows (by decide), up_rows (by decide), up_ix h1, up_rows (by decide), o5 i h3]
        · rw [up_ix (by decide), up_rows (by decide), up_rows (by decide), up_same]
        · rw [up_same]
        · rw [up_ix (by decide), up_rows (by decide), up_rows (by decide), up_ix (by decide), up_rows (by decide), o31]; congr 1
        · rw [up_rows (by decide), up_rows (by decide)]
          by_cases e : h' = h
          · subst e; rw [up_same, if_pos rfl]
          · rw [up_ix e, if_neg e, up_rows (by decide), up_rows (by decide), o _ (by decide) (by decide)]; exact (r2 h' hh').1
        · rw [up_rows (by decide)]
          by_cases e : h' = h
          · subst e; rw [up_same, if_pos rfl]
          · rw [up_ix e, if_neg e, up_rows (by decide), up_rows (by decide), up_rows (by decide), o _ (by decide) (by decide)]; exact (r2 h' hh').2
        · rw [up_rows (by decide), up_rows (by decide), up_rows (by decide), up_rows (by decide), up_same]
        · rw [up_rows (by decide), up_rows (by decide), up_rows (by decide), up_rows (by decide), up_ix hc, o _ (by decide) (by decide)]
        · rw [up_rows (by decide), up_rows (by decide), up_rows (by decide), up_rows (by decide), up_rows (by decide)]; exact t2' i (by omega)
      · intro r hr
        rw [up_rows (by omega), up_rows (by omega), up_rows (by omega), up_rows (by omega), up_rows (by omega), o r (by omega) (by omega)]
  · exact Or.inl ⟨by omega, if_pos (by rw [n_le (by omega) (by omega)]; omega)⟩
theorem L_due {σ : f_M} {s : Nat → Int32} {D ck hc ac pc cc q n : Nat} {g : Nat → Nat} (hD : D ≤ 1000000000) (h4 : hc ≤ 4) (K : kAll s D ck hc ac pc cc g q n) (R : LR σ s hc ac pc cc g q n) :
    ∃ (σ' : f_M), f_lp b_due f_F σ = some σ' ∧ ∃ q', kAll (s_pall cc 20 s) D ck hc ac pc cc g q' n ∧ LR σ' (s_pall cc 20 s) hc ac pc cc g q' n ∧ ∀ r, r < 155 → σ' r = σ r := by
  have hcc := K.1.2.2.2.2.2
  have hn := (qn_le K).2
  refine lp_inv (fun j (z : f_M) => ∃ (sj : Nat → Int32) (qj : Nat), kAll sj D ck hc ac pc cc g qj n ∧ LR z sj hc ac pc cc g qj n ∧ s_pall cc 20 s = s_pall cc (20 - j) sj ∧ n - qj ≤ 20 - j ∧ ∀ r, r < 155 → z r = σ r) _ 20 (f_F_lt (by omega)) ⟨s, q, K, R, rfl, by omega, fun _ _ => rfl⟩ ?_ ?_
  · rintro j z hj ⟨sj, qj, Kj, Rj, ej, hnq, fj⟩
    obtain ⟨m, hm⟩ : ∃ m, 20 - j = m + 1 := ⟨20 - j - 1, by omega⟩
    have hun := un_next hcc Kj.2.2.1 Kj.2.2.2.1
    rcases L_due1 h4 Kj Rj with ⟨h1, e⟩ | ⟨h1, h2, e⟩ | ⟨h1, h2, σ', e, R', f'⟩
    · refine Or.inr ⟨z, e, qj, ?_⟩
      rw [if_neg (by omega)] at hun
      have : s_pall cc 20 s = sj := by rw [ej, hm, s_pall_succ, if_pos hun]
      rw [this]
      exact ⟨Kj, Rj, fj⟩
    · refine Or.inr ⟨z, e, qj, ?_⟩
      rw [if_pos h1] at hun
      have hg := Kj.2.2.2.1.2.2.2.1 qj h1
      have : s_pall cc 20 s = sj := by rw [ej, hm, s_pall_succ, hun, if_neg (n_neg1 (by omega)), nat_n (by omega), if_pos h2]
      rw [this]
      exact ⟨Kj, Rj, fj⟩
    · rw [if_pos h1] at hun
      have hg := Kj.2.2.2.1.2.2.2.1 qj h1
      refine Or.inl ⟨σ', e, s_pay1 sj (g qj), qj + 1, K_pay1 hD Kj h1, R', ?_, by omega, fun r hr => (f' r hr).trans (fj r hr)⟩
      rw [ej, hm, s_pall_succ, hun, if_neg (n_neg1 (by omega)), nat_n (by omega), if_neg h2, show 20 - (j + 1) = m by omega]
  · rintro z ⟨sj, qj, Kj, Rj, ej, hnq, fj⟩
    rcases L_due1 h4 Kj Rj with ⟨h1, e⟩ | ⟨h1, h2, e⟩ | ⟨h1, h2, σ', e, R', f'⟩
    · refine ⟨z, e, qj, ?_⟩
      have : s_pall cc 20 s = sj := ej
      rw [this]
      exact ⟨Kj, Rj, fj⟩
    · omega
    · omega
theorem Z_hour {σ : f_M} {s : Nat → Int32} {D ck hc ac pc cc q n w r : Nat} {g : Nat → Nat} (hD : D ≤ 1000000000) (hck : ck < 1000) (hw : w ≤ 150) (hr : r ≤ 50) (h4 : hc ≤ 4) (K : kAll s D ck hc ac pc cc g q n) (R : LR σ s hc ac pc cc g q n) :
    ∃ (σ' : f_M) (g' : Nat → Nat) (q' n' : Nat), l_passes (nI w) (nI r) σ = some (s_hour s (nI w) (nI r) 10 - s 10, σ') ∧ kAll (s_hour s (nI w) (nI r)) D (ck + 1) hc ac pc cc g' q' n' ∧ LR σ' (s_hour s (nI w) (nI r)) hc ac pc cc g' q' n' ∧ ∀ x, x < 155 → σ' x = σ x := by
  have hpc := K.1.2.2.2.1.2
  have hcc := K.1.2.2.2.2.2
  obtain ⟨σ1, e1, R1, f1⟩ := L_day hD K h4 R
  have K1 := K_day hD K
  obtain ⟨σ2, e2, R2, t2, f2⟩ := L_hit (w := w) (r := r) K1 hck R1
  have K2 := K_wx (w := nI w) (r := nI r) ⟨w, by omega, rfl⟩ ⟨r, by omega, rfl⟩ K1 hck
  obtain ⟨σ3, g3, n3, e3, K3, R3, f3⟩ := L_ass K2 R2
  obtain ⟨σ4, e4, q4, K4, R4, f4⟩ := L_due hD h4 K3 R3
  have es : s_hour s (nI w) (nI r) = s_pall cc 20 (s_asN (s_wx (s_day s) (nI w) (nI r)) ac) := by
    unfold s_hour
    rw [K.1.2.2.2.2.1, K.1.2.2.1.1, nat_n (by omega), nat_n (by have := K.1.2.2.1.2.2; omega)]
  have d10 : s_day s 10 = s 10 := s_day_keep K.okF (by omega) (by omega) (fun h hh => by omega) (fun p hp => by omega)
  rw [es]
  refine ⟨σ4, g3, q4, n3, ?_, K4, R4, fun x hx => ?_⟩
  · rw [l_passes_eq, e1, bnd, e2, bnd, e3, bnd, e4, bnd, R4.1.2.2.2.2.2.2.2, up_ix (by decide), t2, d10]
  · rw [f4 x hx, f3 x hx, up_rows (by omega), f2 x hx, f1 x hx]
