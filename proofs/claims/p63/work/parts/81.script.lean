/-! A statement of a script, and all of them, read by both. -/
def kdN (t : Nat → Int32) (len p : Nat) : Nat := if wd t len p 5 = true then 0 else if wd t len p 6 = true then 1 else if wd t len p 7 = true then 2 else if wd t len p 8 = true then 3 else if wd t len p 9 = true then 4 else 5
def kdI (k : Nat) : Int32 := if k = 5 then -1 else nI k
theorem kdN_le (t : Nat → Int32) (len p : Nat) : kdN t len p ≤ 5 := by
  unfold kdN
  repeat' split
  all_goals omega
theorem C_kind {t : Nat → Int32} {len p : Nat} {σ : f_M} (x : cX t len σ) (ct : cT t len σ p) (hp : p ≤ len) : g_66 σ = some (kdI (kdN t len p)) := by
  unfold g_66 kdN
  rw [C_14 x ct hp (by decide), bnd]
  cases wd t len p 5
  · rw [if_pos rfl, C_14 x ct hp (by decide), bnd]
    cases wd t len p 6
    · rw [if_pos rfl, C_14 x ct hp (by decide), bnd]
      cases wd t len p 7
      · rw [if_pos rfl, C_14 x ct hp (by decide), bnd]
        cases wd t len p 8
        · rw [if_pos rfl, C_14 x ct hp (by decide), bnd]
          cases wd t len p 9 <;> rfl
        · rfl
      · rfl
    · rfl
  · rfl
theorem M_kind {t : Nat → Int32} {len p : Nat} {τ : f_M} (y : mX t len τ) (mt : mT t len τ p) (hp : p ≤ len) : g_114 τ = some (kdI (kdN t len p)) := by
  unfold g_114 kdN
  rw [M_53 y mt hp (by decide), bnd]
  cases wd t len p 5
  · rw [if_pos rfl, M_53 y mt hp (by decide), bnd]
    cases wd t len p 6
    · rw [if_pos rfl, M_53 y mt hp (by decide), bnd]
      cases wd t len p 7
      · rw [if_pos rfl, M_53 y mt hp (by decide), bnd]
        cases wd t len p 8
        · rw [if_pos rfl, M_53 y mt hp (by decide), bnd]
          cases wd t len p 9 <;> rfl
        · rfl
      · rfl
    · rfl
  · rfl
def swM (t1 b : Int32) (m9 : f_M) : Option f_M :=
    if t1 = (0 : Int32) then (
     (g_57 (1 : Int32) (48 : Int32) m9).bind fun t11 =>
     (f_wr t11.2 162 210 (b + (1 : Int32)) t11.1).bind fun m12 =>
     (g_57 (0 : Int32) (150 : Int32) m12).bind fun t13 =>
     (f_wr t13.2 162 210 (b + (2 : Int32)) t13.1).bind fun m14 =>
     (g_57 (0 : Int32) (50 : Int32) m14).bind fun t15 =>
     (f_wr t15.2 162 210 (b + (3 : Int32)) t15.1).bind fun m16 =>
     some m16
    ) else
    if t1 = (1 : Int32) then (
     (g_116 b m9).bind fun t18 =>
     some t18
    ) else
    if t1 = (2 : Int32) then (
     (g_116 b m9).bind fun t20 =>
     some t20
    ) else
    if t1 = (3 : Int32) then (
     (g_57 (0 : Int32) (19 : Int32) m9).bind fun t22 =>
     (f_wr t22.2 162 210 (b + (1 : Int32)) t22.1).bind fun m23 =>
     some m23
    ) else
    if t1 = (4 : Int32) then (
     (g_115  m9).bind fun t25 =>
     (f_wr t25.2 162 210 (b + (1 : Int32)) t25.1).bind fun m26 =>
     (g_57 (1 : Int32) (999 : Int32) m26).bind fun t27 =>
     (f_wr t27.2 162 210 (b + (2 : Int32)) t27.1).bind fun m28 =>
     some m28
    ) else
    (
     (g_116 b m9).bind fun t30 =>
     some t30
    )
theorem g_117_eq (σ : f_M) : g_117 σ = (g_114  σ).bind fun t1 =>
  (
   if t1 = (-1 : Int32) then (
    some false
   ) else (
    some true
   )
  ).bind fun (t2 : Bool) =>
  (g_54 t2 (1 : Int32) σ).bind fun t4 =>
  (
   if (30 : Int32) ≤ (t4 155 20) then (
    some false
   ) else (
    some true
   )
  ).bind fun (t5 : Bool) =>
  (g_54 t5 (4 : Int32) t4).bind fun t7 =>
  (g_51  t7).bind fun t8 =>
  if (t8 155 17) ≤ 0 then (
   (f_wr t8 162 210 ((7 : Int32) * (t8 155 20)) t1).bind fun m9 =>
   (swM t1 ((7 : Int32) * (t8 155 20)) m9).bind fun (t10 : f_M) =>
   (g_61  t10).bind fun t31 =>
   some (f_up t31 155 20 ((t31 155 20) + (1 : Int32)))
  ) else (
   some t8
  ) := by
  unfold g_117; rfl
theorem P_sw {t : Nat → Int32} {len p j hc kd : Nat} {σ0 τ0 σ τ : f_M} (h : stP t len p j σ0 τ0 (loT kd) (hiT hc kd) 1 σ τ) (ns : nmS σ0 τ0 hc) (hj : j < 30) (h0 : σ (12 + j) 0 = nI kd) (hkd : kd ≤ 4) :
    cR (g_69 (12 + j) σ) (swM (nI kd) (nI (7 * j)) τ) (stQ t len p j hc kd σ0 τ0) (fun σ' τ' => fr9 j σ0 σ' τ0 τ') := by
  unfold swM
  obtain rfl | rfl | rfl | rfl | rfl : kd = 0 ∨ kd = 1 ∨ kd = 2 ∨ kd = 3 ∨ kd = 4 := by omega
  · rw [if_pos (by decide)]
    exact P_k0 h hj h0
  · rw [if_neg (by decide), if_pos (by decide), opt_eta1]
    exact P_k1 h ns hj h0
  · rw [if_neg (by decide), if_neg (by decide), if_pos (by decide), opt_eta1]
    exact P_k2 h ns hj h0
  · rw [if_neg (by decide), if_neg (by decide), if_neg (by decide), if_pos (by decide)]
    exact P_k3 h ns hj h0
  · rw [if_neg (by decide), if_neg (by decide), if_neg (by decide), if_neg (by decide), if_pos (by decide)]
    exact P_k4 h ns hj h0
/-- what reading a script changes -/
def zFr (σ σ' τ τ' : f_M) : Prop := (∀ r, (r < 3 ∨ (3 < r ∧ r < 10) ∨ 41 < r) → σ' r = σ r) ∧ (∀ r, r ≠ 155 → r ≠ 160 → r ≠ 162 → τ' r = τ r) ∧ ∀ i, (i < 8 ∨ (8 < i ∧ i < 13) ∨ (18 < i ∧ i ≠ 20)) → τ' 155 i = τ 155 i
theorem zFr.trans {a b c x y z : f_M} (h1 : zFr a b x y) (h2 : zFr b c y z) : zFr a c x z :=
  ⟨fun r h => (h2.1 r h).trans (h1.1 r h), fun r h h' h9 => (h2.2.1 r h h' h9).trans (h1.2.1 r h h' h9), fun i h => (h2.2.2 i h).trans (h1.2.2 i h)⟩
theorem fr9.z {j : Nat} {a b x y : f_M} (h : fr9 j a b x y) (hj : j < 30) : zFr a b x y := ⟨fun r hr => h.1 r (by omega) (by omega), h.2.1, fun i hi => h.2.2.1 i (by omega)⟩
theorem zFr_tok {σ σ' τ τ' : f_M} (h1 : cFr σ σ') (h2 : nFr τ τ') : zFr σ σ' τ τ' := ⟨fun r h => h1 r (by omega), fun r h h' _ => h2.1 r h h', fun i hi => h2.2 i (by omega)⟩
theorem nmS_keep {σ σ' τ τ' : f_M} {hc : Nat} (n : nmS σ τ hc) (f : zFr σ σ' τ τ') : nmS σ' τ' hc := by
  obtain ⟨n1, n2, n3, n4⟩ := n
  refine ⟨by rw [f.1 103 (by omega)]; exact n1, by rw [f.2.1 156 (by omega) (by omega) (by omega)]; exact n2, n3, ?_⟩
  unfold rNm
  rw [f.1 (103 + 1) (by omega), f.1 (103 + 2) (by omega), f.2.1 156 (by omega) (by omega) (by omega)]
  exact n4
def stOK (hc : Nat) (a b : Nat → Int32) : Prop := ∃ kd, kd ≤ 4 ∧ stN hc kd a b
theorem stN_congr {hc kd : Nat} {a a' b b' : Nat → Int32} (h : stN hc kd a b) (hkd : kd ≤ 4) (ea : ∀ i, i < 7 → a' i = a i) (eb : ∀ i, i < 7 → b' i = b i) : stN hc kd a' b' := by
  have hM : stM kd ≤ 7 := by
    obtain rfl | rfl | rfl | rfl | rfl : kd = 0 ∨ kd = 1 ∨ kd = 2 ∨ kd = 3 ∨ kd = 4 := by omega
    all_goals decide
  obtain ⟨h1, h2⟩ := h
  refine ⟨fun i hi => ?_, fun h => ?_⟩
  · rw [ea i (by omega), eb i (by omega)]; exact h1 i hi
  · rw [ea 5 (by omega), ea 6 (by omega)]; exact h2 h
/-- the first j statements are there, in both -/
def stRows (hc j : Nat) (σ τ : f_M) : Prop := σ 10 1 = nI j ∧ τ 155 20 = nI j ∧ j ≤ 30 ∧ ∀ i, i < j → stOK hc (σ (12 + i)) (fun m => τ 162 (7 * i + m))
theorem stRows_tok {hc j : Nat} {σ σ' τ τ' : f_M} (h : stRows hc j σ τ) (h1 : cFr σ σ') (h2 : nFr τ τ') : stRows hc j σ' τ' := by
  obtain ⟨a1, a2, a3, a4⟩ := h
  refine ⟨by rw [h1 10 (by omega)]; exact a1, by rw [h2.2 20 (by omega)]; exact a2, a3, fun i hi => ?_⟩
  rw [h1 (12 + i) (by omega), h2.1 162 (by omega) (by omega)]
  exact a4 i hi
theorem P_stmt2 {t : Nat → Int32} {len p j hc : Nat} {σ τ : f_M} (x : cX t len σ) (ct : cT t len σ p) (y : mX t len τ) (mt : mT t len τ p) (hp : p ≤ len) (hK : ¬ tkK t len p = 0) (ns : nmS σ τ hc) (sr : stRows hc j σ τ) :
    (∃ p' σ' τ', g_70 σ = some (true, σ') ∧ g_117 τ = some τ' ∧ LG t len σ' τ' p' ∧ p < p' ∧ stRows hc (j + 1) σ' τ' ∧ zFr σ σ' τ τ') ∨
    ∃ c S σ' τ', g_70 σ = some (false, σ') ∧ g_117 τ = some τ' ∧ FL σ' τ' c S ∧ zFr σ σ' τ τ' := by
  have hS := tkS_le (t := t) hp
  have hE := tkE_le (t := t) hp
  have hlt := hE.2.2 hK
  have ck := C_kind x ct hp
  have mk := M_kind y mt hp
  have hk5 := kdN_le t len p
  obtain ⟨r1, r2, r3, r4⟩ := id sr
  rw [g_117_eq]
  unfold g_70
  generalize kdN t len p = kd at *
  by_cases h5 : kd = 5
  · subst h5
    have e := mE_now (τ := τ) (c := 1) (S := tkS t len p) mt.1 (by omega) (by omega)
    have k5 : kdI 5 = -1 := rfl
    refine Or.inr ⟨1, tkS t len p, f_up (f_up σ 3 6 1) 3 7 (σ 3 3), f_up (f_up τ 155 17 (nI 1)) 155 18 (τ 155 13), ?_, ?_, ⟨?_, ?_, e⟩, ⟨fun r h => ?_, fun r h _ _ => ?_, fun i h => ?_⟩⟩
    · rw [ck, bnd, k5, if_neg (fun h => h rfl), C_fail, bnd]
    · rw [mk, bnd, k5, if_pos rfl, bnd, M_ex0 y.2.2.2, bnd]
      have e' : mE (f_up (f_up τ 155 17 (1 : Int32)) 155 18 (τ 155 13)) 1 (tkS t len p) := e
      by_cases h30 : (30 : Int32) ≤ f_up (f_up τ 155 17 (1 : Int32)) 155 18 (τ 155 13) 155 20
      · rw [if_pos h30, bnd, M_exF e', bnd, M_51F e', bnd, if_neg e'.nle]; rfl
      · rw [if_neg h30, bnd, M_exF e', bnd, M_51F e', bnd, if_neg e'.nle]; rfl
    · rw [up_ix (by omega), up_same]; rfl
    · rw [up_same]; exact ct.1
    · rw [up_rows (by omega), up_rows (by omega)]
    · rw [up_rows h, up_rows h]
    · rw [up_ix (by omega), up_ix (by omega)]
  · have hkd : kd ≤ 4 := by omega
    have kI : kdI kd = nI kd := if_neg h5
    have kn : ¬ nI kd = (-1 : Int32) := n_neg1 (by omega)
    by_cases h30 : j = 30
    · subst h30
      have e := mE_now (τ := τ) (c := 4) (S := tkS t len p) mt.1 (by omega) (by omega)
      refine Or.inr ⟨4, tkS t len p, f_up (f_up σ 3 6 4) 3 7 (σ 3 3), f_up (f_up τ 155 17 (nI 4)) 155 18 (τ 155 13), ?_, ?_, ⟨?_, ?_, e⟩, ⟨fun r h => ?_, fun r h _ _ => ?_, fun i h => ?_⟩⟩
      · rw [ck, bnd, kI, if_pos kn, r1, if_neg (fun h => h rfl), C_fail, bnd]
      · rw [mk, bnd, kI, if_neg kn, bnd, M_exT, bnd, r2, if_pos (by decide), bnd, M_ex0 y.2.2.2, bnd]
        have e' : mE (f_up (f_up τ 155 17 (4 : Int32)) 155 18 (τ 155 13)) 4 (tkS t len p) := e
        rw [M_51F e', bnd, if_neg e'.nle]; rfl
      · rw [up_ix (by omega), up_same]; rfl
      · rw [up_same]; exact ct.1
      · rw [up_rows (by omega), up_rows (by omega)]
      · rw [up_rows h, up_rows h]
      · rw [up_ix (by omega), up_ix (by omega)]
    · have hj : j < 30 := by omega
      have n30 : ¬ nI j = (30 : Int32) := by rw [show (30 : Int32) = nI 30 from rfl, n_eq (by omega) (by omega)]; exact h30
      have l30 : ¬ (30 : Int32) ≤ nI j := by rw [show (30 : Int32) = nI 30 from rfl, n_le (by omega) (by omega)]; omega
      obtain ⟨τ1, n1, y1, m1, f1⟩ := M_next y mt.2.1 hE.2.1
      have k20 : τ1 155 20 = nI j := by rw [f1.2 20 (by omega)]; exact r2
      have z17 : τ1 155 17 ≤ 0 := by rw [y1.2.2.2]; decide
      have h1 : stP t len (tkE t len p) j (f_up σ (12 + j) 0 (nI kd)) (f_up τ1 162 (7 * j) (nI kd)) (loT kd) (hiT hc kd) 1 (f_up σ (12 + j) 0 (nI kd)) (f_up τ1 162 (7 * j) (nI kd)) := by
        refine ⟨tkE t len p, ⟨⟨cX_keep x (up_rows (by omega)) (up_rows (by omega)), by rw [up_rows (by omega)]; exact ct.2.1⟩, hE.2.1, mX_keep y1 (fun i _ _ => by rw [up_rows (by omega)]) (up_rows (by omega)), mT_keep m1 (fun i _ _ => by rw [up_rows (by omega)])⟩, Nat.le_refl _, fun i hi => ?_, fr9.refl _ _ _⟩
        obtain rfl : i = 0 := by omega
        have b1 : loT kd 0 = kd ∧ hiT hc kd 0 = kd := by
          obtain rfl | rfl | rfl | rfl | rfl : kd = 0 ∨ kd = 1 ∨ kd = 2 ∨ kd = 3 ∨ kd = 4 := by omega
          all_goals exact ⟨rfl, rfl⟩
        exact ⟨kd, by omega, by omega, up_same _ _ _ _, up_same _ _ _ _⟩
      have z0 : zFr σ (f_up σ (12 + j) 0 (nI kd)) τ (f_up τ1 162 (7 * j) (nI kd)) := ⟨fun r h => up_rows (by omega), fun r h h' h9 => by rw [up_rows h9, f1.1 r h], fun i h => by rw [up_rows (by omega), f1.2 i (by omega)]⟩
      have ns0 := nmS_keep ns z0
      have cc : ∀ o, ((g_69 (12 + j) (f_up σ (12 + j) 0 (nI kd))).bind fun t4 =>
          if t4.1 = true then (
           (g_23  (f_up t4.2 10 1 ((t4.2 10 1) + (1 : Int32)))).bind fun t5 =>
           some (t5.1, t5.2)
          ) else (
           some (false, t4.2)
          )) = o → ((g_66 σ).bind fun t1 =>
  if ¬ t1 = (-1 : Int32) then (
   if ¬ (σ 10 1) = (30 : Int32) then (
    (f_ix 30 (σ 10 1)).bind fun v2 =>
    (f_wr σ (12 + v2) 7 (0 : Int32) t1).bind fun m3 =>
    (g_69 (12 + v2) m3).bind fun t4 =>
    if t4.1 = true then (
     (g_23  (f_up t4.2 10 1 ((t4.2 10 1) + (1 : Int32)))).bind fun t5 =>
     some (t5.1, t5.2)
    ) else (
     some (false, t4.2)
    )
   ) else (
    (g_15 (4 : Int32) σ).bind fun t7 =>
    some (t7.1, t7.2)
   )
  ) else (
   (g_15 (1 : Int32) σ).bind fun t9 =>
   some (t9.1, t9.2)
  )) = o := fun o h => by
        rw [ck, bnd, kI, if_pos kn, r1, if_pos n30, f_ix_n hj (by omega), bnd, show (0 : Int32) = nI 0 from rfl, f_wr_n (by omega) (by omega), bnd]
        exact h
      have mm9 : ∀ o, ((swM (nI kd) (nI (7 * j)) (f_up τ1 162 (7 * j) (nI kd))).bind fun (t10 : f_M) =>
          (g_61  t10).bind fun t31 =>
          some (f_up t31 155 20 ((t31 155 20) + (1 : Int32)))) = o → ((g_114  τ).bind fun t1 =>
  (
   if t1 = (-1 : Int32) then (
    some false
   ) else (
    some true
   )
  ).bind fun (t2 : Bool) =>
  (g_54 t2 (1 : Int32) τ).bind fun t4 =>
  (
   if (30 : Int32) ≤ (t4 155 20) then (
    some false
   ) else (
    some true
   )
  ).bind fun (t5 : Bool) =>
  (g_54 t5 (4 : Int32) t4).bind fun t7 =>
  (g_51  t7).bind fun t8 =>
  if (t8 155 17) ≤ 0 then (
   (f_wr t8 162 210 ((7 : Int32) * (t8 155 20)) t1).bind fun m9 =>
   (swM t1 ((7 : Int32) * (t8 155 20)) m9).bind fun (t10 : f_M) =>
   (g_61  t10).bind fun t31 =>
   some (f_up t31 155 20 ((t31 155 20) + (1 : Int32)))
  ) else (
   some t8
  )) = o := fun o h => by
        rw [mk, bnd, kI, if_neg kn, bnd, M_exT, bnd, r2, if_neg l30, bnd, M_exT, bnd, n1, bnd, if_pos z17, k20, show (7 : Int32) = nI 7 from rfl, n_mul, f_wr_n (by omega) (by omega), bnd]
        exact h
      rcases P_sw h1 ns0 hj (up_same _ _ _ _) hkd with ⟨σ4, τ4, c4, m4, p4, g4, hp4, sn4, f4⟩ | ⟨c, S, σ4, τ4, c4, m4, fl, f4⟩
      · have q10 : σ4 10 1 = nI j := by rw [f4.1 10 (by omega) (by omega), up_rows (by omega)]; exact r1
        have q20 : τ4 155 20 = nI j := by rw [f4.2.2.1 20 (by omega), up_rows (by omega)]; exact k20
        have g5 : LG t len (f_up σ4 10 1 (nI (j + 1))) τ4 p4 := LG_keep g4 (up_rows (by omega)) (up_rows (by omega)) (fun _ _ _ => rfl) rfl
        have z5 : zFr σ (f_up σ4 10 1 (nI (j + 1))) τ τ4 := z0.trans ((f4.z hj).trans ⟨fun r h => up_rows (by omega), fun _ _ _ _ => rfl, fun _ _ => rfl⟩)
        rcases P_semi g5 with ⟨p6, σ6, τ6, c6, m6, g6, lt6, fc6, fm6⟩ | ⟨c, S, σ6, τ6, c6, m6, fl, fc6, fm6⟩
        · have k6 : τ6 155 20 = nI j := by rw [fm6.2 20 (by omega)]; exact q20
          refine Or.inl ⟨p6, σ6, f_up τ6 155 20 (nI (j + 1)), cc _ ?_, mm9 _ ?_, LG_keep g6 rfl rfl (fun i _ _ => up_ix (by omega)) (up_rows (by omega)), by omega, ⟨?_, up_same _ _ _ _, by omega, fun i hi => ?_⟩, z5.trans ((zFr_tok fc6 fm6.n).trans ⟨fun _ _ => rfl, fun r h _ _ => up_rows h, fun i h => up_ix (by omega)⟩)⟩
          · rw [c4, bnd, if_pos rfl]
            dsimp only
            rw [q10, show (1 : Int32) = nI 1 from rfl, n_add, c6, bnd]
          · rw [m4, bnd, m6, bnd, k6, show (1 : Int32) = nI 1 from rfl, n_add]
          · rw [fc6 10 (by omega), up_same]
          · rw [fc6 (12 + i) (by omega), up_rows (by omega), up_rows (by omega), fm6.1 162 (by omega)]
            by_cases e : i = j
            · subst e; exact ⟨kd, hkd, sn4⟩
            · obtain ⟨k', hk', sn'⟩ := r4 i (by omega)
              refine ⟨k', hk', stN_congr sn' hk' (fun m hm => ?_) (fun m hm => ?_)⟩
              · rw [f4.1 (12 + i) (by omega) (by omega), up_rows (by omega)]
              · rw [f4.2.2.2 _ (by omega), up_ix (by omega), f1.1 162 (by omega)]
        · have k6 : τ6 155 20 = nI j := by rw [fm6.2 20 (by omega)]; exact q20
          have e6 : mE (f_up τ6 155 20 (nI (j + 1))) c S := by
            obtain ⟨a1, a2, a3⟩ := fl.2.2
            exact ⟨by rw [up_ix (by omega)]; exact a1, by rw [up_ix (by omega)]; exact a2, a3⟩
          refine Or.inr ⟨c, S, σ6, f_up τ6 155 20 (nI (j + 1)), cc _ ?_, mm9 _ ?_, ⟨fl.1, fl.2.1, e6⟩, z5.trans ((zFr_tok fc6 fm6.n).trans ⟨fun _ _ => rfl, fun r h _ _ => up_rows h, fun i h => up_ix (by omega)⟩)⟩
          · rw [c4, bnd, if_pos rfl]
            dsimp only
            rw [q10, show (1 : Int32) = nI 1 from rfl, n_add, c6, bnd]
          · rw [m4, bnd, m6, bnd, k6, show (1 : Int32) = nI 1 from rfl, n_add]
      · have e4 : mE (f_up τ4 155 20 (τ4 155 20 + 1)) c S := by
          obtain ⟨a1, a2, a3⟩ := fl.2.2
          exact ⟨by rw [up_ix (by omega)]; exact a1, by rw [up_ix (by omega)]; exact a2, a3⟩
        refine Or.inr ⟨c, S, σ4, f_up τ4 155 20 (τ4 155 20 + 1), cc _ ?_, mm9 _ ?_, ⟨fl.1, fl.2.1, e4⟩, z0.trans ((f4.z hj).trans ⟨fun _ _ => rfl, fun r h _ _ => up_rows h, fun i h => up_ix (by omega)⟩)⟩
        · rw [c4, bnd]; rfl
        · rw [m4, bnd, M_61F fl.2.2, bnd]
