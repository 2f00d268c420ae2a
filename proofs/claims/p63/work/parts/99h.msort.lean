/-! isConsistent: the model's damages by order. -/
def b315 (a1 a2 : Int32) (s3 : Int32 × Int32 × f_M) : Option ((Int32 × Int32 × f_M) ⊕ (Int32 × f_M)) :=
   (g_130 a1 s3.2.2).bind fun t4 =>
   if t4 ≤ s3.2.1 then (
    some (.inr (s3.1, s3.2.2))
   ) else (
    (f_rd s3.2.2 156 2420 (a2 + s3.2.1)).bind fun v5 =>
    (f_lp (insB 164 v5) f_F (s3.1, s3.2.2)).bind fun (x6 : Int32 × f_M) =>
    (f_wr x6.2 164 24 x6.1 v5).bind fun m12 =>
    some (.inl ((s3.1 + (1 : Int32)), (s3.2.1 + (1 : Int32)), m12))
   )
theorem g_315_eq (a1 a2 : Int32) (σ : f_M) : g_315 a1 a2 σ = (g_119 a1 σ).bind fun t1 =>
  (f_rd σ 156 2420 (t1 + (2 : Int32))).bind fun v2 =>
  (f_lp (b315 a1 a2) f_F ((0 : Int32), v2, σ)).bind fun (x3 : Int32 × f_M) =>
  some (x3.1, x3.2) := by
  unfold g_315; rfl
def b316 (a1 : Int32) (t3 : Bool) (σ : f_M) (s8 : Int32 × Int32) : Option ((Int32 × Int32) ⊕ Int32) :=
   if s8.2 < 0 then (
    some (.inr s8.1)
   ) else (
    (g_119 a1 σ).bind fun t9 =>
    (f_rd σ 156 2420 (t9 + (5 : Int32))).bind fun v10 =>
    (g_119 a1 σ).bind fun t11 =>
    (f_rd σ 156 2420 (t11 + (6 : Int32))).bind fun v12 =>
    (
     if t3 = false then (
      (f_rd σ 164 24 s8.2).bind fun v14 =>
      some v14
     ) else (
      (f_rd σ 164 24 s8.2).bind fun v15 =>
      (
       if v15 < v10 then (
        some true
       ) else (
        (f_rd σ 164 24 s8.2).bind fun v17 =>
        if v17 ≤ v12 then (
         some false
        ) else (
         some true
        )
       )
      ).bind fun (t16 : Bool) =>
      (g_131 t16 σ).bind fun t20 =>
      some t20
     )
    ).bind fun (t13 : Int32) =>
    some (.inl ((s8.1 + t13), (s8.2 + (-1 : Int32))))
   )
theorem g_316_eq (a1 : Int32) (σ : f_M) : g_316 a1 σ = (g_119 a1 σ).bind fun t1 =>
  (f_rd σ 156 2420 (t1 + (0 : Int32))).bind fun v2 =>
  (
   if ¬ v2 = 0 then (
    some false
   ) else (
    some true
   )
  ).bind fun (t3 : Bool) =>
  (
   if t3 = false then (
    some (1420 : Int32)
   ) else (
    some (420 : Int32)
   )
  ).bind fun (t5 : Int32) =>
  (g_315 a1 t5 σ).bind fun t7 =>
  (f_lp (b316 a1 t3 t7.2) f_F ((0 : Int32), (t7.1 - (1 : Int32)))).bind fun (x8 : Int32) =>
  some (x8, t7.2) := by
  unfold g_316; rfl
theorem M_130 {τ : f_M} {p : Nat} (hp : p < 20) : g_130 (nI p) τ = some (f_min (τ 156 0) (s_exp (τ 156) p)) := by
  unfold g_130
  rw [show f_rd τ 156 2420 (0 : Int32) = some (τ 156 0) from rdS (k := 0) (by omega), bnd, M_exp hp, bnd]
theorem L_msort {τ : f_M} {s : Nat → Int32} {p f m M base : Nat} (hp : p < 20) (es : τ 156 = s) (hM : f_min (s 0) (s_exp s p) = nI M) (h1 : M ≤ 1000) (h2 : m = M - f) (h3 : m ≤ 24) (hf : f < 1001) (hb : base + 1000 ≤ 2420) :
    ∃ τ', f_lp (b315 (nI p) (nI base)) f_F ((0 : Int32), nI f, τ) = some (nI m, τ') ∧ (∀ F : Int32 → Int32, sumI (fun i => F (τ' 164 i)) m = sumI (fun i => F (s (base + (f + i)))) m) ∧ ∀ r, r ≠ 164 → τ' r = τ r := by
  obtain ⟨⟨k, τ'⟩, e, q1, q2, q3⟩ : ∃ r, f_lp (b315 (nI p) (nI base)) f_F ((0 : Int32), nI f, τ) = some r ∧ (r.1 = nI m ∧ (∀ F : Int32 → Int32, sumI (fun i => F (r.2 164 i)) m = sumI (fun i => F (s (base + (f + i)))) m) ∧ ∀ q, q ≠ 164 → r.2 q = τ q) := by
    refine lp_inv (fun j (z : Int32 × Int32 × f_M) => ∃ (τj : f_M), z = (nI j, nI (f + j), τj) ∧ (∀ F : Int32 → Int32, sumI (fun i => F (τj 164 i)) j = sumI (fun i => F (s (base + (f + i)))) j) ∧ ∀ r, r ≠ 164 → τj r = τ r) _ m (f_F_lt (by omega)) ⟨τ, rfl, fun _ => rfl, fun _ _ => rfl⟩ ?_ ?_
    · rintro j z hj ⟨τj, rfl, i3, i4⟩
      have e156 : τj 156 = s := (i4 156 (by omega)).trans es
      obtain ⟨k, τ1, p1, p2, p3, p4, p5⟩ := P_ins (R := 164) (a := s (base + (f + j))) (σ := τj) (n := j) (by omega)
      refine Or.inl ⟨(nI (j + 1), nI (f + (j + 1)), f_up τ1 164 k (s (base + (f + j)))), ?_, _, rfl, fun F => ?_, fun r h => (p5 r h).trans (i4 r h)⟩
      · unfold b315
        dsimp only
        rw [M_130 hp, e156, bnd, hM, if_neg (by rw [n_le (by omega) (by omega)]; omega), n_add, rdS (by omega), bnd, e156, p1, bnd, p2, bnd, show nI (f + j) + (1 : Int32) = nI (f + (j + 1)) from n_add _ 1, show nI j + (1 : Int32) = nI (j + 1) from n_add j 1]
      · rw [ins_sum p3 F, i3 F, sumI_succ]
    · rintro z ⟨τj, rfl, i3, i4⟩
      have e156 : τj 156 = s := (i4 156 (by omega)).trans es
      refine ⟨(nI m, τj), ?_, rfl, i3, i4⟩
      unfold b315
      dsimp only
      rw [M_130 hp, e156, bnd, hM, if_pos (by rw [n_le (by omega) (by omega)]; omega)]
  replace q1 : k = nI m := q1
  subst q1
  exact ⟨τ', e, q2, q3⟩
theorem L_back {τ : f_M} {a1 : Int32} {t3 : Bool} {m : Nat} {G : Nat → Int32} (hm : m ≤ 24) (h : ∀ i acc, i < m → b316 a1 t3 τ (acc, nI i) = some (.inl (acc + G i, nI i + (-1 : Int32)))) : f_lp (b316 a1 t3 τ) f_F ((0 : Int32), nI m - (1 : Int32)) = some (sumI G m) := by
  obtain ⟨r, e, q⟩ : ∃ r, f_lp (b316 a1 t3 τ) f_F ((0 : Int32), nI m - (1 : Int32)) = some r ∧ r = sumI G m := by
    refine lp_inv (fun j (z : Int32 × Int32) => ∃ acc, z = (acc, nI (m - j) - (1 : Int32)) ∧ acc + sumI G (m - j) = sumI G m) _ m (f_F_lt (by omega)) ⟨0, rfl, Int32.zero_add _⟩ ?_ ?_
    · rintro j z hj ⟨acc, rfl, i1⟩
      obtain ⟨k, hk⟩ : ∃ k, m - j = k + 1 := ⟨m - j - 1, by omega⟩
      refine Or.inl ⟨(acc + G k, nI (m - (j + 1)) - (1 : Int32)), ?_, acc + G k, rfl, ?_⟩
      · rw [hk, n_pred, h k acc (by omega), show m - (j + 1) = k from by omega, Int32.sub_eq_add_neg]
      · rw [hk, sumI_succ] at i1
        rw [show m - (j + 1) = k from by omega, Int32.add_assoc, Int32.add_comm (G k), i1]
    · rintro z ⟨acc, rfl, i1⟩
      rw [Nat.sub_self] at i1
      refine ⟨acc, ?_, (Int32.add_zero acc).symm.trans i1⟩
      unfold b316
      rw [Nat.sub_self]
      dsimp only
      rw [if_pos (show nI 0 - (1 : Int32) < 0 from by decide)]
  rw [e, q]
theorem M_316 {τ : f_M} {s : Nat → Int32} {ck hc p : Nat} (es : τ 156 = s) (h0 : s 0 = nI ck) (hck : ck ≤ 1000) (hp : p < 20) (k : kP s hc p) : ∃ τ', g_316 (nI p) τ = some (if s (100 + 10 * p + 0) = nI 0 then nI (s_cnt s p) else s_rain s p, τ') ∧ ∀ r, r ≠ 164 → τ' r = τ r := by
  obtain ⟨f, hf, e2⟩ := k.2.2.1
  obtain ⟨d, d1, d2, e3⟩ := k.2.2.2.1
  have hn : s_len s p = min ck (f + d) - f := by
    unfold s_len
    rw [h0, e2, e3, nat_n (by omega), nat_n (by omega), nat_n (by omega)]
  have hmin : f_min (s 0) (s_exp s p) = nI (min ck (f + d)) := by
    unfold s_exp
    rw [h0, e2, e3, n_add, n_min (by omega) (by omega)]
  have m0 : f_rd τ 156 2420 (nI (100 + 10 * p) + (0 : Int32)) = some (s (100 + 10 * p + 0)) := by
    rw [show (nI (100 + 10 * p) + (0 : Int32)) = nI (100 + 10 * p + 0) from n_add _ 0, rdS (by omega), es]
  have m2 : f_rd τ 156 2420 (nI (100 + 10 * p) + (2 : Int32)) = some (nI f) := by
    rw [show (nI (100 + 10 * p) + (2 : Int32)) = nI (100 + 10 * p + 2) from n_add _ 2, rdS (by omega), es, e2]
  by_cases e0 : s (100 + 10 * p + 0) = nI 0
  · obtain ⟨τ', c1, c2, c3⟩ := L_msort (base := 420) hp es hmin (by omega) hn (by omega) hf (by omega)
    have e156 : τ' 156 = s := (c3 156 (by omega)).trans es
    refine ⟨τ', ?_, c3⟩
    have rd5 : f_rd τ' 156 2420 (nI (100 + 10 * p) + (5 : Int32)) = some (s (100 + 10 * p + 5)) := by
      rw [show (nI (100 + 10 * p) + (5 : Int32)) = nI (100 + 10 * p + 5) from n_add _ 5, rdS (by omega), e156]
    have rd6 : f_rd τ' 156 2420 (nI (100 + 10 * p) + (6 : Int32)) = some (s (100 + 10 * p + 6)) := by
      rw [show (nI (100 + 10 * p) + (6 : Int32)) = nI (100 + 10 * p + 6) from n_add _ 6, rdS (by omega), e156]
    have lb := L_back (τ := τ') (a1 := nI p) (t3 := true) (m := s_len s p) (G := fun i => if (decide (τ' 164 i < s (100 + 10 * p + 5)) || decide (s (100 + 10 * p + 6) < τ' 164 i)) = true then 1 else 0) (by omega) (fun i acc hi => by
      have rdi : f_rd τ' 164 24 (nI i) = some (τ' 164 i) := f_rd_n (by omega) (by omega)
      unfold b316
      dsimp only
      rw [if_neg (n_neg (by omega)), M_p, bnd, rd5, bnd, bnd, rd6, bnd, if_neg (by decide), rdi, bnd]
      by_cases h1 : τ' 164 i < s (100 + 10 * p + 5)
      · rw [if_pos h1, bnd, M_one, bnd, bnd, decide_eq_true h1]
        rfl
      · rw [if_neg h1, bnd]
        by_cases h2 : s (100 + 10 * p + 6) < τ' 164 i
        · rw [if_neg ((i32_nle _ _).mpr h2), bnd, M_one, bnd, bnd, decide_eq_true h2, Bool.or_true]
          rfl
        · rw [if_pos ((i32_nlt _ _).mp h2), bnd, M_one, bnd, bnd, decide_eq_false h2, decide_eq_false h1]
          rfl)
    rw [g_316_eq, M_p, bnd, m0, bnd, if_neg (show ¬ ¬ s (100 + 10 * p + 0) = 0 from fun h => h e0), bnd, if_neg (by decide), bnd, g_315_eq, M_p, bnd, m2, bnd, show (420 : Int32) = nI 420 from rfl, c1, bnd, bnd]
    dsimp only
    rw [lb, bnd, if_pos e0, c2 (fun v => if (decide (v < s (100 + 10 * p + 5)) || decide (s (100 + 10 * p + 6) < v)) = true then 1 else 0), sum_cnt (fun i => decide (s (420 + (f + i)) < s (100 + 10 * p + 5)) || decide (s (100 + 10 * p + 6) < s (420 + (f + i))))]
    unfold s_cnt
    rw [e2, nat_n (by omega)]
    rfl
  · obtain ⟨τ', c1, c2, c3⟩ := L_msort (base := 1420) hp es hmin (by omega) hn (by omega) hf (by omega)
    have e156 : τ' 156 = s := (c3 156 (by omega)).trans es
    refine ⟨τ', ?_, c3⟩
    have rd5 : f_rd τ' 156 2420 (nI (100 + 10 * p) + (5 : Int32)) = some (s (100 + 10 * p + 5)) := by
      rw [show (nI (100 + 10 * p) + (5 : Int32)) = nI (100 + 10 * p + 5) from n_add _ 5, rdS (by omega), e156]
    have rd6 : f_rd τ' 156 2420 (nI (100 + 10 * p) + (6 : Int32)) = some (s (100 + 10 * p + 6)) := by
      rw [show (nI (100 + 10 * p) + (6 : Int32)) = nI (100 + 10 * p + 6) from n_add _ 6, rdS (by omega), e156]
    have lb := L_back (τ := τ') (a1 := nI p) (t3 := false) (m := s_len s p) (G := fun i => τ' 164 i) (by omega) (fun i acc hi => by
      have rdi : f_rd τ' 164 24 (nI i) = some (τ' 164 i) := f_rd_n (by omega) (by omega)
      unfold b316
      dsimp only
      rw [if_neg (n_neg (by omega)), M_p, bnd, rd5, bnd, bnd, rd6, bnd, if_pos rfl, rdi, bnd, bnd])
    rw [g_316_eq, M_p, bnd, m0, bnd, if_pos (show ¬ s (100 + 10 * p + 0) = 0 from e0), bnd, if_pos rfl, bnd, g_315_eq, M_p, bnd, m2, bnd, show (1420 : Int32) = nI 1420 from rfl, c1, bnd, bnd]
    dsimp only
    rw [lb, bnd, if_neg e0, c2 (fun v => v)]
    unfold s_rain
    rw [e2, nat_n (by omega)]
def b317 (s1 : Int32 × f_M) : Option ((Int32 × f_M) ⊕ (Bool × f_M)) :=
   (f_rd s1.2 156 2420 (4 : Int32)).bind fun v2 =>
   if v2 ≤ s1.1 then (
    some (.inr (true, s1.2))
   ) else (
    (g_119 s1.1 s1.2).bind fun t3 =>
    (f_rd s1.2 156 2420 (t3 + (0 : Int32))).bind fun v4 =>
    (
     if ¬ v4 = 0 then (
      (g_133 s1.1 s1.2).bind fun t6 =>
      some t6
     ) else (
      (g_132 s1.1 s1.2).bind fun t7 =>
      some t7
     )
    ).bind fun (t5 : Int32) =>
    (g_316 s1.1 s1.2).bind fun t9 =>
    if t9.1 = t5 then (
     some (.inl ((s1.1 + (1 : Int32)), t9.2))
    ) else (
     some (.inr (false, t9.2))
    )
   )
theorem g_317_eq (σ : f_M) : g_317 σ = (f_lp b317 f_F ((0 : Int32), σ)).bind fun (r1 : Bool × f_M) => some r1 := by
  unfold g_317; rfl
theorem M_317 {τ : f_M} {s : Nat → Int32} {D ck hc ac pc cc q n : Nat} {g : Nat → Nat} (es : τ 156 = s) (K : kAll s D ck hc ac pc cc g q n) : ∃ τ', g_317 τ = some (true, τ') ∧ ∀ r, r ≠ 164 → τ' r = τ r := by
  have kc := K.1
  have kF := K.okF
  have hp20 := kc.2.2.2.1.2
  rw [g_317_eq]
  obtain ⟨⟨b, m⟩, e, hb, q⟩ : ∃ r, f_lp b317 f_F ((0 : Int32), τ) = some r ∧ (r.1 = true ∧ ∀ q, q ≠ 164 → r.2 q = τ q) := by
    refine lp_inv (fun j (z : Int32 × f_M) => ∃ (τj : f_M), z = (nI j, τj) ∧ ∀ r, r ≠ 164 → τj r = τ r) _ pc (f_F_lt (by omega)) ⟨τ, rfl, fun _ _ => rfl⟩ ?_ ?_
    · rintro j z hj ⟨τj, rfl, i4⟩
      have e156 : τj 156 = s := (i4 156 (by omega)).trans es
      obtain ⟨τ', c1, c2⟩ := M_316 e156 kc.1.1 kc.1.2 (by omega) (K.2.1 j hj)
      refine Or.inl ⟨(nI (j + 1), τ'), ?_, τ', rfl, fun r h => (c2 r h).trans (i4 r h)⟩
      have hd : okD (τj 156) j := by rw [e156]; exact kF.toD hj
      unfold b317
      dsimp only
      rw [show f_rd τj 156 2420 (4 : Int32) = some (τj 156 4) from rdS (k := 4) (by omega), e156, kc.2.2.2.1.1, bnd, if_neg (by rw [n_le (by omega) (by omega)]; omega), M_p, bnd, show f_rd τj 156 2420 (nI (100 + 10 * j) + (0 : Int32)) = some (s (100 + 10 * j + 0)) from by rw [show (nI (100 + 10 * j) + (0 : Int32)) = nI (100 + 10 * j + 0) from n_add _ 0, rdS (by omega), e156], bnd]
      by_cases e0 : s (100 + 10 * j + 0) = nI 0
      · rw [if_neg (show ¬ ¬ s (100 + 10 * j + 0) = 0 from fun h => h e0), M_cnt (by omega) hd, bnd, bnd, c1, bnd]
        dsimp only
        rw [if_pos e0, e156, if_pos rfl, show nI j + (1 : Int32) = nI (j + 1) from n_add j 1]
      · rw [if_pos (show ¬ s (100 + 10 * j + 0) = 0 from e0), M_rain (by omega) hd, bnd, bnd, c1, bnd]
        dsimp only
        rw [if_neg e0, e156, if_pos rfl, show nI j + (1 : Int32) = nI (j + 1) from n_add j 1]
    · rintro z ⟨τj, rfl, i4⟩
      have e156 : τj 156 = s := (i4 156 (by omega)).trans es
      refine ⟨(true, τj), ?_, rfl, i4⟩
      unfold b317
      dsimp only
      rw [show f_rd τj 156 2420 (4 : Int32) = some (τj 156 4) from rdS (k := 4) (by omega), e156, kc.2.2.2.1.1, bnd, if_pos (by rw [n_le (by omega) (by omega)]; omega)]
  replace hb : b = true := hb
  subst hb
  rw [e, bnd]
  exact ⟨m, rfl, q⟩
