/-! hoursUntilLapse, whole. -/
def b296 (a1 t3 : Int32) (s4 : Int32 × f_M) : Option ((Int32 × f_M) ⊕ (Int32 × f_M)) :=
    if t3 ≤ s4.1 then (
     some (.inr ((-1 : Int32), s4.2))
    ) else (
     (g_82 128 (f_up s4.2 128 0 s4.1)).bind fun t5 =>
     (f_rd t5 130 20 a1).bind fun v6 =>
     if v6 = 0 then (
      some (.inl ((s4.1 + (1 : Int32)), t5))
     ) else (
      some (.inr (((s4.1 + (1 : Int32)) - (t5 121 0)), t5))
     )
    )
theorem g_296_eq (a1 : Int32) (σ : f_M) : g_296 a1 σ = (f_rd σ 123 20 a1).bind fun v1 =>
  if v1 = 0 then (
   (g_72 128 121 σ).bind fun t2 =>
   (g_75 a1 t2).bind fun t3 =>
   (f_lp (b296 a1 t3) f_F ((t2 121 0), t2)).bind fun (r4 : Int32 × f_M) => some r4
  ) else (
   some ((0 : Int32), σ)
  ) := by
  unfold g_296; rfl
def b300 (a1 v2 : Int32) (s9 : Int32 × Int32 × f_M) : Option ((Int32 × Int32 × f_M) ⊕ (Int32 × f_M)) :=
   (g_121 a1 s9.2.2).bind fun t10 =>
   if t10 ≤ s9.2.1 then (
    some (.inr ((-1 : Int32), s9.2.2))
   ) else (
    if s9.2.1 = 0 then (
     some (.inl (s9.1, (s9.2.1 + (1 : Int32)), s9.2.2))
    ) else (
     if (s9.2.1 - s9.2.1 / (24 : Int32) * (24 : Int32)) = 0 then (
      (g_299 v2 s9.2.1 s9.1 s9.2.2).bind fun t11 =>
      (f_rd t11.2 163 20 a1).bind fun v12 =>
      if v12 = 0 then (
       some (.inl (t11.1, (s9.2.1 + (1 : Int32)), t11.2))
      ) else (
       (f_rd t11.2 156 2420 (0 : Int32)).bind fun v13 =>
       some (.inr (((s9.2.1 + (1 : Int32)) - v13), t11.2))
      )
     ) else (
      some (.inl (s9.1, (s9.2.1 + (1 : Int32)), s9.2.2))
     )
    )
   )
def z163 (s5 : Int32 × f_M) : Option ((Int32 × f_M) ⊕ f_M) :=
   if (20 : Int32) ≤ s5.1 then (
    some (.inr s5.2)
   ) else (
    (f_wr s5.2 163 20 s5.1 (0 : Int32)).bind fun m6 =>
    some (.inl ((s5.1 + (1 : Int32)), m6))
   )
theorem g_300_eq (a1 : Int32) (σ : f_M) : g_300 a1 σ = (g_119 a1 σ).bind fun t1 =>
  (f_rd σ 156 2420 (t1 + (1 : Int32))).bind fun v2 =>
  (g_36 v2 σ).bind fun t3 =>
  (f_rd σ 156 2420 (t3 + (7 : Int32))).bind fun v4 =>
  (f_lp z163 f_F ((0 : Int32), σ)).bind fun (x5 : f_M) =>
  (f_rd x5 156 2420 (0 : Int32)).bind fun v8 =>
  (f_lp (b300 a1 v2) f_F (v4, v8, x5)).bind fun (r9 : Int32 × f_M) => some r9 := by
  unfold g_300; rfl
theorem M_z163 (τ : f_M) : ∃ τ', f_lp z163 f_F ((0 : Int32), τ) = some τ' ∧ (∀ i, i < 20 → τ' 163 i = 0) ∧ ∀ r, r ≠ 163 → τ' r = τ r := by
  refine lp_inv (fun j (z : Int32 × f_M) => ∃ (τj : f_M), z = (nI j, τj) ∧ (∀ i, i < j → τj 163 i = 0) ∧ ∀ r, r ≠ 163 → τj r = τ r) _ 20 (f_F_lt (by omega)) ⟨τ, rfl, fun i h => absurd h (by omega), fun _ _ => rfl⟩ ?_ ?_
  · rintro j z hj ⟨τj, rfl, a, b⟩
    refine Or.inl ⟨(nI (j + 1), f_up τj 163 j 0), ?_, f_up τj 163 j 0, rfl, fun i hi => ?_, fun r h => (up_rows h).trans (b r h)⟩
    · unfold z163
      dsimp only
      rw [if_neg (by rw [show (20 : Int32) = nI 20 from rfl, n_le (by omega) (by omega)]; omega), f_wr_n (by omega) (by omega), bnd, show nI j + (1 : Int32) = nI (j + 1) from n_add j 1]
    · by_cases e : i = j
      · subst e; exact up_same _ _ _ _
      · rw [up_ix e]; exact a i (by omega)
  · rintro z ⟨τj, rfl, a, b⟩
    refine ⟨τj, ?_, a, b⟩
    unfold z163
    dsimp only
    rw [if_pos (show (20 : Int32) ≤ nI 20 from by decide)]
theorem rL_clock {σ : f_M} {a : Nat} {s : Nat → Int32} {hc pc cc q n : Nat} {g : Nat → Nat} {x : Int32} (l : rL σ a s hc pc cc g q n) : rL (f_up σ a 0 x) a (upd s 0 x) hc pc cc g q n := by
  obtain ⟨⟨l0, l1, l3, l5, l10, l11, l12, l13, l14⟩, lb, ll, lc, lg⟩ := l
  refine ⟨⟨?_, ?_, ?_, ?_, ?_, ?_, ?_, ?_, ?_⟩, fun h hh => ?_, fun p hp => ?_, fun c hc => ?_, fun i hi => ?_⟩
  · rw [up_same, upd_same]
  iterate 8 simp (disch := omega) only [up_ix, upd_ne, l1, l3, l5, l10, l11, l12, l13, l14]
  · rw [up_rows (by omega), upd_ne (by omega)]; exact lb h hh
  · rw [up_rows (by omega), upd_ne (by omega)]; exact ll p hp
  · rw [up_rows (by omega), up_rows (by omega), up_rows (by omega), upd_ne (by omega), upd_ne (by omega), upd_ne (by omega)]; exact lc c hc
  · rw [up_rows (by omega)]; exact lg i hi
theorem L_lapse {σ0 τ0 : f_M} {s : Nat → Int32} {ck hc pc cc q n a h e : Nat} {g : Nat → Nat} (h4 : s 4 = nI pc) (hpc : pc ≤ 20) (hhc : hc ≤ 8) (kp : ∀ p, p < pc → kP s hc p) (c0 : s 0 = nI ck) (ha : a < pc) (eh : s (100 + 10 * a + 1) = nI h) (hh : h < 8) (es : τ0 156 = s) (ex : s_exp s a = nI e) (he : e ≤ 1024) (l8 : s (100 + 10 * a + 8) = nI 0) (rp : ∀ p, p < pc → rP σ0 108 s p) (c1 : σ0 121 0 = nI ck) :
    ∀ (m t F1 F2 : Nat) (v : Nat → Int32) (σ τ : f_M) (x : Int32), e ≤ t + m → t ≤ 2000 → vK s v pc → v 0 = nI t → v (100 + 10 * a + 8) = nI 0 → rL (f_up σ 128 0 (nI t)) 128 v hc pc cc g q n → (∀ r, (r < 128 ∨ 134 < r) → σ r = σ0 r) → tR s v h pc x (τ 163) → (∀ r, r ≠ 163 → τ r = τ0 r) → m < F1 → m < F2 →
    ∃ k σ' τ', f_lp (b296 (nI a) (nI e)) F1 (nI t, σ) = some (k, σ') ∧ f_lp (b300 (nI a) (nI h)) F2 (x, nI t, τ) = some (k, τ') ∧ (∀ r, (r < 128 ∨ 134 < r) → σ' r = σ0 r) ∧ ∀ r, r ≠ 163 → τ' r = τ0 r := by
  intro m
  induction m with
  | zero =>
    intro t F1 F2 v σ τ x hm ht hv v0 v8 l fσ r fτ hF1 hF2
    obtain ⟨G1, rfl⟩ : ∃ G, F1 = G + 1 := ⟨F1 - 1, by omega⟩
    obtain ⟨G2, rfl⟩ : ∃ G, F2 = G + 1 := ⟨F2 - 1, by omega⟩
    have m1 : g_121 (nI a) τ = some (nI e) := by rw [M_exp (by omega), fτ 156 (by omega), es, ex]
    refine ⟨-1, σ, τ, ?_, ?_, fσ, fτ⟩
    · rw [lp_succ]
      unfold b296
      rw [if_pos (by rw [n_le (by omega) (by omega)]; omega), bnd, Sum.elim_inr]
    · rw [lp_succ]
      unfold b300
      dsimp only
      rw [m1, bnd, if_pos (by rw [n_le (by omega) (by omega)]; omega), bnd, Sum.elim_inr]
  | succ m ih =>
    intro t F1 F2 v σ τ x hm ht hv v0 v8 l fσ r fτ hF1 hF2
    obtain ⟨G1, rfl⟩ : ∃ G, F1 = G + 1 := ⟨F1 - 1, by omega⟩
    obtain ⟨G2, rfl⟩ : ∃ G, F2 = G + 1 := ⟨F2 - 1, by omega⟩
    have m1 : g_121 (nI a) τ = some (nI e) := by rw [M_exp (by omega), fτ 156 (by omega), es, ex]
    by_cases het : e ≤ t
    · refine ⟨-1, σ, τ, ?_, ?_, fσ, fτ⟩
      · rw [lp_succ]
        unfold b296
        rw [if_pos (by rw [n_le (by omega) (by omega)]; omega), bnd, Sum.elim_inr]
      · rw [lp_succ]
        unfold b300
        dsimp only
        rw [m1, bnd, if_pos (by rw [n_le (by omega) (by omega)]; omega), bnd, Sum.elim_inr]
    · have v4 : v 4 = nI pc := by rw [hv.1 4 (by omega) (by omega) (by omega) (fun h hh => by omega) (fun p hp => by omega), h4]
      have kv : ∀ p, p < pc → kP v hc p := fun p hp => kP_vK hv hp (kp p hp)
      have rv : ∀ p, p < pc → rP (f_up σ 128 0 (nI t)) 108 v p := fun p hp => rP_congr (fun i hi => vK_pol hv (by omega) (by omega)) (fun i h1 h2 => by rw [up_rows (by omega), fσ _ (by omega)]) (rp p hp)
      obtain ⟨σ', d1, d2, d3⟩ := C_dayg (a := 128) (by omega) v0 (by omega) v4 hpc hhc kv rv l
      have fσ' : ∀ r, (r < 128 ∨ 134 < r) → σ' r = σ0 r := fun r h => by rw [d3 r (by omega) (by omega) (by omega), up_rows (by omega), fσ r h]
      have vd := vK_day hpc h4 hhc hv kp
      have l' : rL (f_up σ' 128 0 (nI (t + 1))) 128 (upd (s_day v) 0 (nI (t + 1))) hc pc cc g q n := rL_clock d2
      have d130 : σ' 130 a = s_day v (100 + 10 * a + 8) := d2.2.2.1 a ha
      have cl : ∀ y, b296 (nI a) (nI e) (nI t, σ) = y ↔ (if s_day v (100 + 10 * a + 8) = 0 then some (.inl ((nI t + (1 : Int32)), σ')) else some (.inr (((nI t + (1 : Int32)) - (σ' 121 0)), σ'))) = y := fun y => by
        unfold b296
        dsimp only
        rw [if_neg (by rw [n_le (by omega) (by omega)]; omega), d1, bnd, f_rd_n (by omega) (by omega), bnd, d130]
      have n1 : nI t + (1 : Int32) = nI (t + 1) := n_add t 1
      have ml : ∀ y, (if nI t = 0 then (some (.inl (x, (nI t + (1 : Int32)), τ)) : Option ((Int32 × Int32 × f_M) ⊕ (Int32 × f_M))) else if nI t - nI t / (24 : Int32) * (24 : Int32) = 0 then ((g_299 (nI h) (nI t) x τ).bind fun t11 => (f_rd t11.2 163 20 (nI a)).bind fun v12 => if v12 = 0 then some (.inl (t11.1, (nI t + (1 : Int32)), t11.2)) else (f_rd t11.2 156 2420 (0 : Int32)).bind fun v13 => some (.inr (((nI t + (1 : Int32)) - v13), t11.2))) else some (.inl (x, (nI t + (1 : Int32)), τ))) = y → b300 (nI a) (nI h) (x, nI t, τ) = y := fun y hy => by
        unfold b300
        dsimp only
        rw [m1, bnd, if_neg (by rw [n_le (by omega) (by omega)]; omega)]
        exact hy
      have e24 : nI t - nI t / (24 : Int32) * (24 : Int32) = nI (t % 24) := n_mod (b := 24) (by omega) (by omega)
      -- an hour without premiums
      have still : s_day v = v → ((if nI t = 0 then (some (.inl (x, (nI t + (1 : Int32)), τ)) : Option ((Int32 × Int32 × f_M) ⊕ (Int32 × f_M))) else if nI t - nI t / (24 : Int32) * (24 : Int32) = 0 then ((g_299 (nI h) (nI t) x τ).bind fun t11 => (f_rd t11.2 163 20 (nI a)).bind fun v12 => if v12 = 0 then some (.inl (t11.1, (nI t + (1 : Int32)), t11.2)) else (f_rd t11.2 156 2420 (0 : Int32)).bind fun v13 => some (.inr (((nI t + (1 : Int32)) - v13), t11.2))) else some (.inl (x, (nI t + (1 : Int32)), τ))) = some (.inl (x, nI (t + 1), τ))) → ∃ k σ' τ', f_lp (b296 (nI a) (nI e)) (G1 + 1) (nI t, σ) = some (k, σ') ∧ f_lp (b300 (nI a) (nI h)) (G2 + 1) (x, nI t, τ) = some (k, τ') ∧ (∀ r, (r < 128 ∨ 134 < r) → σ' r = σ0 r) ∧ ∀ r, r ≠ 163 → τ' r = τ0 r := fun es1 hy => by
        rw [es1] at l' cl
        obtain ⟨k, σ2, τ2, q1, q2, q3, q4⟩ := ih (t + 1) G1 G2 (upd v 0 (nI (t + 1))) σ' τ x (by omega) (by omega) (vK_clock hv) upd_same (by rw [upd_ne (by omega)]; exact v8) l' fσ' (tR_clock r) fτ (by omega) (by omega)
        refine ⟨k, σ2, τ2, ?_, ?_, q3, q4⟩
        · rw [lp_succ, (cl (some (.inl (nI (t + 1), σ')))).mpr (by rw [v8, if_pos (show nI 0 = 0 from rfl), n1]), bnd, Sum.elim_inl]
          exact q1
        · rw [lp_succ, ml _ hy, bnd, Sum.elim_inl]
          exact q2
      by_cases h0 : t = 0
      · refine still ?_ ?_
        · unfold s_day
          rw [v0, nat_n (by omega), if_pos (Or.inl h0)]
        · rw [if_pos (by rw [h0]; rfl), n1]
      · by_cases h24 : t % 24 = 0
        · have ed : s_day v = s_colN v pc := by
            unfold s_day
            rw [v0, nat_n (by omega), if_neg (by omega), v4, nat_n (by omega)]
          obtain ⟨x', τ', y1, y2, y3⟩ := M_299 (τ := τ) (by rw [fτ 156 (by omega)]; exact es) h4 hpc hhc kp hv v0 hh r
          have fτ' : ∀ r, r ≠ 163 → τ' r = τ0 r := fun r h => (y3 r h).trans (fτ r h)
          have mm : ∀ y, (if τ' 163 a = 0 then (some (.inl (x', nI (t + 1), τ')) : Option ((Int32 × Int32 × f_M) ⊕ (Int32 × f_M))) else some (.inr (nI (t + 1) - nI ck, τ'))) = y → b300 (nI a) (nI h) (x, nI t, τ) = y := fun y hy => by
            refine ml y ?_
            rw [if_neg (show ¬ nI t = 0 from fun h => h0 (n_inj (b := 0) (by omega) (by omega) h)), if_pos (by rw [e24, h24]; rfl), y1, bnd]
            dsimp only
            rw [f_rd_n (by omega) (by omega), bnd, show f_rd τ' 156 2420 (0 : Int32) = some (τ' 156 0) from rdS (k := 0) (by omega), fτ' 156 (by omega), es, c0, bnd, n1]
            exact hy
          rw [ed] at l' cl vd
          rcases y2.2 a ha eh with ⟨w1, w2⟩ | ⟨w1, w2⟩
          · obtain ⟨k, σ2, τ2, q1, q2, q3, q4⟩ := ih (t + 1) G1 G2 (upd (s_colN v pc) 0 (nI (t + 1))) σ' τ' x' (by omega) (by omega) (vK_clock vd) upd_same (by rw [upd_ne (by omega), w2]; exact l8) l' fσ' (tR_clock y2) fτ' (by omega) (by omega)
            refine ⟨k, σ2, τ2, ?_, ?_, q3, q4⟩
            · rw [lp_succ, (cl (some (.inl (nI (t + 1), σ')))).mpr (by rw [w2, l8, if_pos (show nI 0 = 0 from rfl), n1]), bnd, Sum.elim_inl]
              exact q1
            · rw [lp_succ, mm _ (if_pos (by rw [w1]; rfl)), bnd, Sum.elim_inl]
              exact q2
          · refine ⟨nI (t + 1) - nI ck, σ', τ', ?_, ?_, fσ', fτ'⟩
            · rw [lp_succ, (cl (some (.inr (nI (t + 1) - nI ck, σ')))).mpr (by rw [w2, if_neg (by decide), n1, fσ' 121 (by omega), c1]), bnd, Sum.elim_inr]
            · rw [lp_succ, mm _ (if_neg (by rw [w1]; decide)), bnd, Sum.elim_inr]
        · refine still ?_ ?_
          · unfold s_day
            rw [v0, nat_n (by omega), if_pos (Or.inr h24)]
          · rw [if_neg (show ¬ nI t = 0 from fun h => h0 (n_inj (b := 0) (by omega) (by omega) h)), if_neg (by rw [e24]; exact fun h => h24 (n_inj (b := 0) (by omega) (by omega) h)), n1]
theorem IV_trial {D : Nat} {σ σ' τ τ' : f_M} (I : IV D σ τ) (f1 : ∀ r, r ≠ 42 → r ≠ 43 → (r < 128 ∨ 134 < r) → σ' r = σ r) (f3 : ∀ r, r ≠ 155 → r ≠ 163 → r ≠ 164 → τ' r = τ r) (f4 : ∀ i, i ≠ 6 → τ' 155 i = τ 155 i) : IV D σ' τ' := by
  obtain ⟨ck, hc, ac, pc, cc, g, q, n, k, o, P, S, H, M, V, ⟨len, T⟩, E, B, O⟩ := I
  refine ⟨ck, hc, ac, pc, cc, g, q, n, k, o, P, sAll_keep S (fun r h h' => f1 r (by omega) (by omega) (by omega)) (f3 156 (by omega) (by omega) (by omega)), cH_keep H (fun r h h' => f1 r (by omega) (by omega) (by omega)), mH_keep M (f4 4 (by omega)) (f3 159 (by omega) (by omega) (by omega)), svR_keep V (Nat.le_refl _) (by rw [f1 0 (by omega) (by omega) (by omega)]) (fun r h => f1 r (by omega) (by omega) (by omega)) (f4 5 (by omega)) (f3 158 (by omega) (by omega) (by omega)), ⟨len, tX_keep T (by rw [f1 0 (by omega) (by omega) (by omega)]) (f1 1 (by omega) (by omega) (by omega)) (f4 10 (by omega)) (f3 161 (by omega) (by omega) (by omega))⟩, ?_, fb_keep B (f1 7 (by omega) (by omega) (by omega)), outR_keep O (by rw [f1 0 (by omega) (by omega) (by omega)]) (f1 2 (by omega) (by omega) (by omega)) (f4 24 (by omega)) (f3 165 (by omega) (by omega) (by omega))⟩
  unfold eR
  rw [f1 3 (by omega) (by omega) (by omega), f4 11 (by omega), f4 12 (by omega)]
  exact E
theorem B_48 {D : Nat} {σ τ : f_M} (a : Int32) (I : IV D σ τ) : tB (D + 30000) (g_298 a) (g_301 a) σ τ := by
  have I0 := I
  obtain ⟨ck, hc, ac, pc, cc, g, q, n, k, o, P, ⟨K, B, l, R⟩, -⟩ := I0
  have kc := K.1
  have h1000 := kc.1.2
  have hh8 := kc.2.1.2.2
  have hp20 := kc.2.2.2.1.2
  have hc20 := kc.2.2.2.2.2
  have hDD : D ≤ D + 30000 := by omega
  have e3 : σ 121 3 = nI pc := l.1.2.2.1.trans kc.2.2.2.1.1
  rcases n_ix a (m := pc) (by omega) with h | ⟨p, hp, rfl⟩
  · refine tB_no I hDD (k := 1) (v := 0) (by decide) ?_ ?_
    · unfold g_298 g_297
      rw [R_pol0 e3 h]
      rfl
    · unfold g_301
      rw [M_isP _ kc.2.2.2.1.1 (by omega), bnd, inN_no h, M_noo, bnd]
      rfl
  · have kp := K.2.1 p hp
    obtain ⟨lp, hlp, elp⟩ := kp.2.2.2.2.2.2.2.1
    obtain ⟨h, hh, eh⟩ := kp.2.1
    obtain ⟨f, hf, ef⟩ := kp.2.2.1
    obtain ⟨d, hd1, hd2, ed⟩ := kp.2.2.2.1
    have ex : s_exp (τ 156) p = nI (f + d) := by
      unfold s_exp
      rw [ef, ed, n_add]
    have e123 : σ 123 p = nI lp := (l.2.2.1 p hp).trans elp
    have mL : g_120 (nI p) (f_up τ 155 6 0) = some (decide (lp = 1)) := by
      rw [M_lap (by omega), up_rows (by omega)]
      unfold s_lap
      rw [elp]
      by_cases h1 : lp = 1
      · rw [decide_eq_true h1, decide_eq_true (congrArg nI h1)]
      · rw [decide_eq_false h1, decide_eq_false (fun h => h1 (n_inj (by omega) (by omega) h))]
    obtain rfl | rfl : lp = 1 ∨ lp = 0 := by omega
    · refine tB_ok (σ5 := σ) (τ5 := f_up τ 155 6 0) (v := 0) ?_ ?_ (up_same _ _ _ _) (IV_mono (IV_six I 0) hDD) ⟨fun _ _ _ => rfl, fun r h => up_rows (by omega)⟩
      · unfold g_298 g_297
        rw [R_pol e3 (by omega) hp, bnd, Sum.elim_inl, g_296_eq, f_rd_n (by omega) (by omega), bnd, e123, if_neg (by decide), bnd, bnd]
        exact W_fin σ 0
      · unfold g_301
        rw [M_isP _ kc.2.2.2.1.1 (by omega), bnd, inN_ok hp (by omega), M_yes, bnd, if_pos rfl]
        dsimp only
        rw [mL, bnd, decide_eq_true rfl, if_neg (by decide), bnd]
    · obtain ⟨σ1, c1, c2, c3, c4, c5, c6⟩ := C_ledger (σ := σ) (d := 128) (a := 121) (by omega)
      have l1 : rL σ1 128 (τ 156) hc pc cc g q n := rL_copy (by omega) (by omega) (by omega) (by have := qn_le K; omega) (fun p hp => (K.2.1 p hp).2.2.2.2.2.2.2.1) c2 c3 c4 c5 l
      obtain ⟨τ1, z1, z2, z3⟩ := M_z163 (f_up τ 155 6 0)
      have t156 : τ1 156 = τ 156 := by rw [z3 156 (by omega), up_rows (by omega)]
      have r1 : rP σ1 108 (τ 156) p := rP_at (fun _ _ => rfl) (fun i _ h => by rw [c6 _ (by omega)]) (B.2.1 p hp)
      have e1 : σ1 121 0 = nI ck := by rw [c6 121 (by omega)]; exact l.1.1.trans kc.1.1
      have l2 : rL (f_up σ1 128 0 (nI ck)) 128 (τ 156) hc pc cc g q n := by
        have := rL_clock (x := nI ck) l1
        rw [show upd (τ 156) 0 (nI ck) = τ 156 from by
          funext i
          by_cases e : i = 0
          · rw [e, upd_same]; exact kc.1.1.symm
          · rw [upd_ne e]] at this
        exact this
      obtain ⟨k, σ2, τ2, q1, q2, q3, q4⟩ := L_lapse (σ0 := σ1) (τ0 := τ1) (e := f + d) (n := n) (q := q) (g := g) (cc := cc) kc.2.2.2.1.1 hp20 hh8 K.2.1 kc.1.1 hp eh (by omega) t156 ex (by omega) elp (fun p hp => rP_at (fun _ _ => rfl) (fun i _ h => by rw [c6 _ (by omega)]) (B.2.1 p hp)) e1 2000 ck f_F f_F (τ 156) σ1 τ1 (τ 156 (20 + 9 * h + 7)) (by omega) (by omega) ⟨fun _ _ _ _ _ _ => rfl, fun p hp => (K.2.1 p hp).2.2.2.2.2.2.2.1⟩ kc.1.1 elp l2 (fun _ _ => rfl) ⟨rfl, fun p' hp' _ => Or.inl ⟨z2 p' (by omega), rfl⟩⟩ (fun _ _ => rfl) (f_F_lt (by omega)) (f_F_lt (by omega))
      have fs : ∀ r, (r < 128 ∨ 134 < r) → σ2 r = σ r := fun r h => (q3 r h).trans (c6 r (by omega))
      have ft : ∀ r, r ≠ 155 → r ≠ 163 → τ2 r = τ r := fun r h h' => by rw [q4 r h', z3 r h', up_rows h]
      have ft5 : ∀ i, i ≠ 6 → τ2 155 i = τ 155 i := fun i h => by rw [q4 155 (by omega), z3 155 (by omega), up_ix h]
      refine tB_ok (σ5 := σ2) (τ5 := τ2) (v := k) ?_ ?_ (by rw [q4 155 (by omega), z3 155 (by omega), up_same]) (IV_mono (IV_trial I (fun r _ _ h => fs r h) (fun r h h' _ => ft r h h') ft5) hDD) ⟨fun r h h' => fs r (by omega), fun r h => ft r (by omega) (by omega)⟩
      · unfold g_298 g_297
        rw [R_pol e3 (by omega) hp, bnd, Sum.elim_inl, g_296_eq, f_rd_n (by omega) (by omega), bnd, e123, if_pos (by decide), c1, bnd, C_exp (by omega) r1, bnd, ex, e1, q1, bnd, bnd, bnd]
        exact W_fin σ2 k
      · unfold g_301
        rw [M_isP _ kc.2.2.2.1.1 (by omega), bnd, inN_ok hp (by omega), M_yes, bnd, if_pos rfl]
        dsimp only
        rw [mL, bnd, decide_eq_false (by decide), if_pos rfl, g_300_eq, M_p, bnd, show f_rd (f_up τ 155 6 0) 156 2420 (nI (100 + 10 * p) + (1 : Int32)) = some (nI h) from by rw [show (nI (100 + 10 * p) + (1 : Int32)) = nI (100 + 10 * p + 1) from n_add _ 1, rd6 (by omega), eh], bnd, M_h, bnd, show f_rd (f_up τ 155 6 0) 156 2420 (nI (20 + 9 * h) + (7 : Int32)) = some (τ 156 (20 + 9 * h + 7)) from by rw [show (nI (20 + 9 * h) + (7 : Int32)) = nI (20 + 9 * h + 7) from n_add _ 7, rd6 (by omega)], bnd, z1, bnd, show f_rd τ1 156 2420 (0 : Int32) = some (τ1 156 0) from rdS (k := 0) (by omega), t156, kc.1.1, bnd, q2, bnd, bnd, bnd]
