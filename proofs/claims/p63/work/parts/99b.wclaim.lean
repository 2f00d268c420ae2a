/-! writeClaim, whole. -/
theorem opt_assoc {A B C : Type} (x : Option A) (f : A → Option B) (g : B → Option C) : (x.bind f).bind g = x.bind fun a => (f a).bind g := by
  cases x <;> rfl
theorem g_343_eq (a1 : Int32) (σ : f_M) : g_343 a1 σ = (f_lp (nmC a1) f_F ((0 : Int32), σ)).bind fun (x1 : f_M) => some x1 := by
  unfold g_343; rfl
theorem g_349_eq (a1 : Int32) (σ : f_M) : g_349 a1 σ = (g_233 a1 σ).bind fun t1 =>
  (g_176 t1 true true σ).bind fun t2 =>
  if t2.1 = true then (
   (g_126 a1 (f_up t2.2 155 24 (0 : Int32))).bind fun t3 =>
   (f_rd (f_up t2.2 155 24 (0 : Int32)) 156 2420 (t3 + (0 : Int32))).bind fun v4 =>
   (g_119 v4 (f_up t2.2 155 24 (0 : Int32))).bind fun t5 =>
   (f_rd (f_up t2.2 155 24 (0 : Int32)) 156 2420 (t5 + (1 : Int32))).bind fun v6 =>
   (g_36 v6 (f_up t2.2 155 24 (0 : Int32))).bind fun t7 =>
   (f_lp (nmM t7) f_F ((0 : Int32), (f_up t2.2 155 24 (0 : Int32)))).bind fun (x8 : f_M) =>
   (g_347 (47 : Int32) x8).bind fun t13 =>
   (g_119 v4 t13).bind fun t14 =>
   (f_rd t13 156 2420 (t14 + (0 : Int32))).bind fun v15 =>
   (
    if ¬ v15 = 0 then (
     some (112 : Int32)
    ) else (
     some (107 : Int32)
    )
   ).bind fun (t16 : Int32) =>
   (g_347 t16 t13).bind fun t18 =>
   (g_126 a1 t18).bind fun t19 =>
   (f_rd t18 156 2420 (t19 + (3 : Int32))).bind fun v20 =>
   (f_ch 10 v20).bind fun v21 =>
   (g_347 v21 t18).bind fun t22 =>
   (
    if v20 = (2 : Int32) then (
     (g_126 a1 t22).bind fun t24 =>
     (f_rd t22 156 2420 (t24 + (4 : Int32))).bind fun v25 =>
     (g_348 v25 t22).bind fun t26 =>
     some t26
    ) else (
     if ¬ v20 = (3 : Int32) then (
      some t22
     ) else (
      (g_126 a1 t22).bind fun t27 =>
      (f_rd t22 156 2420 (t27 + (4 : Int32))).bind fun v28 =>
      (g_348 v28 t22).bind fun t29 =>
      some t29
     )
    )
   ).bind fun (t23 : f_M) =>
   some ((t23 155 24), t23)
  ) else (
   some ((0 : Int32), t2.2)
  ) := by
  unfold g_349; rfl
theorem B_56 {D : Nat} {σ τ : f_M} (a : Int32) (I : IV D σ τ) : tB (D + 30000) (g_346 a) (g_349 a) σ τ := by
  have I0 := I
  obtain ⟨ck, hc, ac, pc, cc, g, q, n, k, o, P, ⟨K, B, l, R⟩, -⟩ := I0
  have kc := K.1
  have hh8 := kc.2.1.2.2
  have hp20 := kc.2.2.2.1.2
  have hc20 := kc.2.2.2.2.2
  have hDD : D ≤ D + 30000 := by omega
  have e := l.1.2.2.2.1.trans kc.2.2.2.2.1
  rcases n_ix a (m := cc) (by omega) with h | ⟨c, hcc, rfl⟩
  · refine tB_no I hDD (k := 1) (v := 0) (by decide) ?_ ?_
    · unfold g_346 g_345
      rw [R_cl0 e h]
      rfl
    · rw [g_349_eq, M_isC _ kc.2.2.2.2.1 (by omega), bnd, inN_no h, M_noo, bnd]
      rfl
  · obtain ⟨p, hp, ep⟩ := (K.2.2.1 c hcc).1
    obtain ⟨hd, hhd, ehd⟩ := (K.2.1 p hp).2.1
    obtain ⟨st, hst, est⟩ := (K.2.2.1 c hcc).2.2.2.1
    obtain ⟨ea, hea⟩ := amt_at K hcc
    obtain ⟨m, m1, m2, m3, m4⟩ := K.2.2.2.2.2.2.2.2.1.2 hd hhd
    obtain ⟨r1, r2⟩ := R.2.2.1 hd hhd
    have el : σ 104 hd = nI m := r1.trans m3
    rw [show nat (τ 156 (20 + 9 * hd + 0)) = m from by rw [m3]; exact nat_n (by omega)] at r2
    have e119 : σ 119 c = nI p := (B.2.2 c hcc).1.trans ep
    have e112 : σ 112 p = nI hd := (B.2.1 p hp).2.1.trans ehd
    have e124 : σ 124 c = nI st := (l.2.2.2.1 c hcc).1.trans est
    have e126 : σ 126 c = nI (amt (τ 156) c) := (l.2.2.2.1 c hcc).2.2.trans ea
    have x0 : oX (f_up σ 0 3 0) (f_up (f_up τ 155 6 0) 155 24 0) 0 := ⟨up_same _ _ _ _, up_same _ _ _ _, fun i hi => absurd hi (by omega)⟩
    obtain ⟨σ1, τ1, c1, n1, x1, f1⟩ := P_nm (h := hd) (n := m) (by omega) m2 m 0 f_F f_F 0 _ _ (by omega) (f_F_lt (by omega)) (f_F_lt (by omega)) x0 (by omega) (by rw [up_rows (by omega)]; exact el) (by rw [up_rows (by omega), up_rows (by omega)]; exact m3) (fun k hk => by rw [up_rows (by omega), up_rows (by omega), up_rows (by omega)]; exact r2 k hk)
    obtain ⟨σ2, τ2, c2, n2, x2, f2⟩ := P_put 47 x1 (by omega)
    have F2 := f1.trans f2
    have hkc : ∃ ch : Int32, (if σ 111 p = 0 then some (112 : Int32) else some (107 : Int32)) = some ch ∧ (if ¬ τ 156 (100 + 10 * p + 0) = 0 then some (112 : Int32) else some (107 : Int32)) = some ch := by
      rcases (B.2.1 p hp).1 with ⟨y1, y2, -⟩ | ⟨y1, y2, -⟩
      · refine ⟨107, ?_, ?_⟩
        · rw [show σ 111 p = nI 1 from y1, if_neg (by decide)]
        · rw [y2, if_neg (fun h => h rfl)]
      · refine ⟨112, ?_, ?_⟩
        · rw [show σ 111 p = nI 0 from y1, if_pos (by decide)]
        · rw [y2, if_pos (by decide)]
    obtain ⟨ch, k1, k2⟩ := hkc
    obtain ⟨σ3, τ3, c3, n3, x3, f3⟩ := P_put ch x2 (by omega)
    have F3 := F2.trans f3
    have g111 : σ2 111 p = σ 111 p := by rw [F2.1 111 (by omega) (by omega), up_rows (by omega)]
    have g124 : σ3 124 c = nI st := by rw [F3.1 124 (by omega) (by omega), up_rows (by omega)]; exact e124
    have t2r : τ2 156 = τ 156 := by rw [F2.2.2.1 156 (by omega) (by omega), up_rows (by omega), up_rows (by omega)]
    have t3r : τ3 156 = τ 156 := by rw [F3.2.2.1 156 (by omega) (by omega), up_rows (by omega), up_rows (by omega)]
    have hch : f_ch 10 (nI st) = some ((w_sb.getD 10 []).getD st 0 &&& 255) := f_ch_n (by
      have : w_sl.getD 10 0 = 4 := rfl
      omega) (by omega)
    obtain ⟨σ4, τ4, c4, n4, x4, f4⟩ := P_put ((w_sb.getD 10 []).getD st 0 &&& 255) x3 (by omega)
    have F4 := F3.trans f4
    have g126 : σ4 126 c = nI (amt (τ 156) c) := by rw [F4.1 126 (by omega) (by omega), up_rows (by omega)]; exact e126
    have t4r : τ4 156 = τ 156 := by rw [F4.2.2.1 156 (by omega) (by omega), up_rows (by omega), up_rows (by omega)]
    -- the class up to the state
    have cc9 : ∀ r, ((
    if nI st = (0 : Int32) then (
     (g_342 (63 : Int32) σ3).bind fun t12 =>
     some t12
    ) else
    if nI st = (1 : Int32) then (
     (g_342 (45 : Int32) σ3).bind fun t14 =>
     some t14
    ) else
    if nI st = (2 : Int32) then (
     (g_342 (43 : Int32) σ3).bind fun t16 =>
     (f_rd t16 126 20 (nI c)).bind fun v17 =>
     (g_344 v17 t16).bind fun t18 =>
     some t18
    ) else
    (
     (g_342 (61 : Int32) σ3).bind fun t20 =>
     (f_rd t20 126 20 (nI c)).bind fun v21 =>
     (g_344 v21 t20).bind fun t22 =>
     some t22
    )
   ).bind fun (t11 : f_M) => (some (Sum.inl (β := Fin 4) (t11 0 3), t11)).bind (f_xe (fun v1 m1 =>
   (f_wr m1 167 1 (0 : Int32) v1).bind fun m2 =>
   some ((0 : Int32), m2)
  ) (fun k1 m1 => (f_hc [(0, 1)] k1).bind fun v => some (v, m1)))) = r → g_346 (nI c) σ = r := fun r h => by
      unfold g_346 g_345
      rw [R_cl e (by omega) hcc, bnd, Sum.elim_inl, f_rd_n (by omega) (by omega), bnd, e119, f_rd_n (by omega) (by omega), bnd, show f_up σ 0 3 (0 : Int32) 112 p = nI hd from by rw [up_rows (by omega)]; exact e112, g_343_eq, show (0 : Int32) = nI 0 from rfl]
      rw [show f_lp (nmC (nI hd)) f_F (nI 0, f_up σ 0 3 (nI 0)) = some σ1 from c1, bnd, bnd, c2, bnd, f_rd_n (by omega) (by omega), bnd, g111]
      rw [show (if σ 111 p = nI 0 then some (112 : Int32) else some (107 : Int32)) = some ch from k1, bnd, c3, bnd, f_rd_n (by omega) (by omega), bnd, g124]
      rw [← h]
      exact opt_assoc _ _ _
    have mm9 : ∀ r, ((
    if nI st = (2 : Int32) then (
     (g_126 (nI c) τ4).bind fun t24 =>
     (f_rd τ4 156 2420 (t24 + (4 : Int32))).bind fun v25 =>
     (g_348 v25 τ4).bind fun t26 =>
     some t26
    ) else (
     if ¬ nI st = (3 : Int32) then (
      some τ4
     ) else (
      (g_126 (nI c) τ4).bind fun t27 =>
      (f_rd τ4 156 2420 (t27 + (4 : Int32))).bind fun v28 =>
      (g_348 v28 τ4).bind fun t29 =>
      some t29
     )
    )
   ).bind fun (t23 : f_M) =>
   some ((t23 155 24), t23)) = r → g_349 (nI c) τ = r := fun r h => by
      rw [g_349_eq, M_isC _ kc.2.2.2.2.1 (by omega), bnd, inN_ok hcc (by omega), M_yes, bnd, if_pos rfl]
      dsimp only
      rw [M_c, bnd, show f_rd (f_up (f_up τ 155 6 0) 155 24 0) 156 2420 (nI (300 + 6 * c) + (0 : Int32)) = some (nI p) from by rw [show (nI (300 + 6 * c) + (0 : Int32)) = nI (300 + 6 * c + 0) from n_add _ 0, rdS (by omega), up_rows (by omega), up_rows (by omega), ep], bnd, M_p, bnd, show f_rd (f_up (f_up τ 155 6 0) 155 24 0) 156 2420 (nI (100 + 10 * p) + (1 : Int32)) = some (nI hd) from by rw [show (nI (100 + 10 * p) + (1 : Int32)) = nI (100 + 10 * p + 1) from n_add _ 1, rdS (by omega), up_rows (by omega), up_rows (by omega), ehd], bnd, M_h, bnd, show f_lp (nmM (nI (20 + 9 * hd))) f_F ((0 : Int32), f_up (f_up τ 155 6 0) 155 24 0) = some τ1 from n1, bnd, n2, bnd, M_p, bnd, show f_rd τ2 156 2420 (nI (100 + 10 * p) + (0 : Int32)) = some (τ 156 (100 + 10 * p + 0)) from by rw [show (nI (100 + 10 * p) + (0 : Int32)) = nI (100 + 10 * p + 0) from n_add _ 0, rdS (by omega), t2r], bnd, k2, bnd, n3, bnd, M_c, bnd, show f_rd τ3 156 2420 (nI (300 + 6 * c) + (3 : Int32)) = some (nI st) from by rw [show (nI (300 + 6 * c) + (3 : Int32)) = nI (300 + 6 * c + 3) from n_add _ 3, rdS (by omega), t3r, est], bnd, hch, bnd, n4, bnd]
      exact h
    have fin : ∀ σ5 τ5 ol, oX σ5 τ5 ol → ol ≤ 16 → oF (f_up σ 0 3 0) σ5 (f_up (f_up τ 155 6 0) 155 24 0) τ5 → IV D σ5 τ5 ∧ cFm σ σ5 τ τ5 ∧ τ5 155 6 = 0 ∧ σ5 0 3 = τ5 155 24 := fun σ5 τ5 ol x ho f => by
      refine ⟨IV_out I (fun r h h' => by rw [f.1 r h h', up_rows h]) (fun i h => by rw [f.2.1 i h, up_ix h]) (fun r h h' => by rw [f.2.2.1 r h h', up_rows h, up_rows h]) (fun i h h' => by rw [f.2.2.2 i h, up_ix h, up_ix h']) x ho, ⟨fun r h h' => by rw [f.1 r (by omega) (by omega), up_rows (by omega)], fun r h => by rw [f.2.2.1 r (by omega) (by omega), up_rows (by omega), up_rows (by omega)]⟩, ?_, x.1.trans x.2.1.symm⟩
      rw [f.2.2.2 6 (by omega), up_ix (by omega), up_same]
    have amtm : f_rd τ4 156 2420 (nI (300 + 6 * c) + (4 : Int32)) = some (nI (amt (τ 156) c)) := by
      rw [show (nI (300 + 6 * c) + (4 : Int32)) = nI (300 + 6 * c + 4) from n_add _ 4, rdS (by omega), t4r, ea]
    have amtc : f_rd σ4 126 20 (nI c) = some (nI (amt (τ 156) c)) := by
      rw [f_rd_n (by omega) (by omega), g126]
    obtain ⟨σ5, τ5, ol5, c5, n5, x5, ho5, f5⟩ := P_amt (m := amt (τ 156) c) x4 (by omega) hea
    obtain ⟨J4, fr4, z4, w4⟩ := fin σ4 τ4 _ x4 (by omega) F4
    obtain ⟨J5, fr5, z5, w5⟩ := fin σ5 τ5 _ x5 (by omega) (F4.trans f5)
    obtain rfl | rfl | rfl | rfl : st = 0 ∨ st = 1 ∨ st = 2 ∨ st = 3 := by omega
    · refine tB_ok (cc9 _ ?_) (mm9 _ ?_) z4 (IV_mono J4 hDD) fr4 (v := τ4 155 24)
      · rw [if_pos (by decide), show g_342 (63 : Int32) σ3 = some σ4 from c4, bnd, bnd, bnd, w4]
        exact W_fin σ4 _
      · rw [if_neg (by decide), if_pos (by decide), bnd]
    · refine tB_ok (cc9 _ ?_) (mm9 _ ?_) z4 (IV_mono J4 hDD) fr4 (v := τ4 155 24)
      · rw [if_neg (by decide), if_pos (by decide), show g_342 (45 : Int32) σ3 = some σ4 from c4, bnd, bnd, bnd, w4]
        exact W_fin σ4 _
      · rw [if_neg (by decide), if_pos (by decide), bnd]
    · refine tB_ok (cc9 _ ?_) (mm9 _ ?_) z5 (IV_mono J5 hDD) fr5 (v := τ5 155 24)
      · rw [if_neg (by decide), if_neg (by decide), if_pos (by decide), show g_342 (43 : Int32) σ3 = some σ4 from c4, bnd, amtc, bnd, c5, bnd, bnd, bnd, w5]
        exact W_fin σ5 _
      · rw [if_pos (by decide), M_c, bnd, amtm, bnd, n5, bnd, bnd]
    · refine tB_ok (cc9 _ ?_) (mm9 _ ?_) z5 (IV_mono J5 hDD) fr5 (v := τ5 155 24)
      · rw [if_neg (by decide), if_neg (by decide), if_neg (by decide), show g_342 (61 : Int32) σ3 = some σ4 from c4, bnd, amtc, bnd, c5, bnd, bnd, bnd, w5]
        exact W_fin σ5 _
      · rw [if_neg (by decide), if_neg (by decide), M_c, bnd, amtm, bnd, n5, bnd, bnd]
