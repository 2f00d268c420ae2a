/-! The law passes an hour: premiums, weather. -/
def b_shf (x x9 : Int32) (m9 : f_M) : Option ((Int32 × f_M) ⊕ f_M) :=
  (f_rd m9 178 3 x).bind fun v53 =>
  if v53 ≤ x9 then (
   some (.inr m9)
  ) else (
   (f_ix 3 x).bind fun v54 =>
   (f_ix 3 x).bind fun v55 =>
   (f_rd m9 (175 + v55) 20 (x9 + (1 : Int32))).bind fun v56 =>
   (f_wr m9 (175 + v54) 20 x9 v56).bind fun m57 =>
   some (.inl ((x9 + (1 : Int32)), m57))
  )
def b_pop (x9 : Int32) (m9 : f_M) : Option ((Int32 × f_M) ⊕ f_M) :=
  if (m9 155 31) ≤ x9 then (
   some (.inr m9)
  ) else (
   (f_rd m9 180 20 (x9 + (1 : Int32))).bind fun v78 =>
   (f_wr m9 180 20 x9 v78).bind fun m79 =>
   some (.inl ((x9 + (1 : Int32)), m79))
  )
def b_day (x9 : Int32) (m9 : f_M) : Option ((Int32 × f_M) ⊕ f_M) :=
  if (m9 155 24) ≤ x9 then (
   some (.inr m9)
  ) else (
   (l_isActive x9 m9).bind fun t3 =>
   (
    if t3 = true then (
     (f_rd m9 160 20 x9).bind fun v5 =>
     (f_rd m9 156 4 v5).bind fun v6 =>
     (f_rd m9 166 20 x9).bind fun v7 =>
     if v7 ≤ v6 then (
      (f_rd m9 160 20 x9).bind fun v8 =>
      (f_rd m9 156 4 v8).bind fun v9 =>
      (f_rd m9 166 20 x9).bind fun v10 =>
      (f_wr m9 156 4 v8 (v9 - v10)).bind fun m11 =>
      (f_rd m11 166 20 x9).bind fun v12 =>
      (f_rd (f_up m11 155 27 ((m11 155 27) + v12)) 166 20 x9).bind fun v13 =>
      some (f_up (f_up m11 155 27 ((m11 155 27) + v12)) 155 28 (((f_up m11 155 27 ((m11 155 27) + v12)) 155 28) + v13))
     ) else (
      (f_wr m9 168 20 x9 (1 : Int32)).bind fun m14 =>
      some m14
     )
    ) else (
     some m9
    )
   ).bind fun (t4 : f_M) =>
   some (.inl ((x9 + (1 : Int32)), t4))
  )
def b_hit (a1 a2 x9 : Int32) (m9 : f_M) : Option ((Int32 × f_M) ⊕ f_M) :=
  if (m9 155 24) ≤ x9 then (
   some (.inr m9)
  ) else (
   (f_rd m9 161 20 x9).bind fun v21 =>
   (
    if (m9 155 26) < v21 then (
     some m9
    ) else (
     (f_rd m9 161 20 x9).bind fun v23 =>
     (f_rd m9 162 20 x9).bind fun v24 =>
     if (m9 155 26) < (v23 + v24) then (
      (f_rd m9 159 20 x9).bind fun v25 =>
      if ¬ v25 = (1 : Int32) then (
       (f_rd m9 164 20 x9).bind fun v26 =>
       if a1 < v26 then (
        (f_rd m9 167 20 x9).bind fun v27 =>
        (f_wr m9 167 20 x9 (v27 + (1 : Int32))).bind fun m28 =>
        some m28
       ) else (
        (f_rd m9 165 20 x9).bind fun v29 =>
        if a1 ≤ v29 then (
         some m9
        ) else (
         (f_rd m9 167 20 x9).bind fun v30 =>
         (f_wr m9 167 20 x9 (v30 + (1 : Int32))).bind fun m31 =>
         some m31
        )
       )
      ) else (
       (f_rd m9 167 20 x9).bind fun v34 =>
       (f_wr m9 167 20 x9 (v34 + a2)).bind fun m35 =>
       some m35
      )
     ) else (
      some m9
     )
    )
   ).bind fun (t22 : f_M) =>
   some (.inl ((x9 + (1 : Int32)), t22))
  )
def b_ass (x9 : Int32) (m9 : f_M) : Option ((Int32 × f_M) ⊕ f_M) :=
  if (m9 155 23) ≤ x9 then (
   some (.inr m9)
  ) else (
   (f_rd m9 178 3 x9).bind fun v41 =>
   (
    if ¬ v41 = 0 then (
     (f_rd m9 179 3 x9).bind fun v43 =>
     (f_wr m9 179 3 x9 (v43 + (1 : Int32))).bind fun m44 =>
     (f_rd m44 179 3 x9).bind fun v45 =>
     (f_rd m44 158 3 x9).bind fun v46 =>
     if ((2 : Int32) + v46) ≤ v45 then (
      (f_ix 3 x9).bind fun v47 =>
      (f_rd m44 (175 + v47) 20 (0 : Int32)).bind fun v48 =>
      (f_wr m44 179 3 x9 (0 : Int32)).bind fun m49 =>
      (f_rd m49 178 3 x9).bind fun v50 =>
      (f_wr m49 178 3 x9 (v50 - (1 : Int32))).bind fun m51 =>
      (f_lp (fun z => b_shf x9 z.1 z.2) f_F ((0 : Int32), m51)).bind fun (x52 : f_M) =>
      (f_rd x52 170 20 v48).bind fun v59 =>
      (l_damage v59 x52).bind fun t60 =>
      (f_rd x52 158 3 x9).bind fun v61 =>
      (f_wr x52 173 20 v48 (t60 - ((((5 : Int32) * v61) * t60) / (100 : Int32)))).bind fun m62 =>
      (f_rd m62 173 20 v48).bind fun v63 =>
      (
       if v63 ≤ 0 then (
        some (1 : Int32)
       ) else (
        some (2 : Int32)
       )
      ).bind fun (t64 : Int32) =>
      (f_wr m62 172 20 v48 t64).bind fun m66 =>
      (f_rd (f_up m66 155 32 ((m66 155 32) + (1 : Int32))) 172 20 v48).bind fun v67 =>
      if ¬ v67 = (2 : Int32) then (
       some (f_up m66 155 32 ((m66 155 32) + (1 : Int32)))
      ) else (
       (f_wr (f_up m66 155 32 ((m66 155 32) + (1 : Int32))) 180 20 ((f_up m66 155 32 ((m66 155 32) + (1 : Int32))) 155 31) v48).bind fun m68 =>
       some (f_up m68 155 31 ((m68 155 31) + (1 : Int32)))
      )
     ) else (
      some m44
     )
    ) else (
     some m9
    )
   ).bind fun (t42 : f_M) =>
   some (.inl ((x9 + (1 : Int32)), t42))
  )
def b_due (s73 : f_M) : Option (f_M ⊕ f_M) :=
  if (s73 155 31) ≤ 0 then (
   some (.inr s73)
  ) else (
   (f_rd s73 180 20 (0 : Int32)).bind fun v74 =>
   (f_rd s73 173 20 v74).bind fun v75 =>
   if (s73 155 27) < v75 then (
    some (.inr s73)
   ) else (
    (f_rd s73 180 20 (0 : Int32)).bind fun v76 =>
    (f_lp (fun z => b_pop z.1 z.2) f_F ((0 : Int32), (f_up s73 155 31 ((s73 155 31) - (1 : Int32))))).bind fun (x77 : f_M) =>
    (f_wr x77 172 20 v76 (3 : Int32)).bind fun m81 =>
    (f_rd m81 173 20 v76).bind fun v82 =>
    (f_rd (f_up m81 155 27 ((m81 155 27) - v82)) 170 20 v76).bind fun v83 =>
    (f_rd (f_up m81 155 27 ((m81 155 27) - v82)) 160 20 v83).bind fun v84 =>
    (f_rd (f_up m81 155 27 ((m81 155 27) - v82)) 156 4 v84).bind fun v85 =>
    (f_rd (f_up m81 155 27 ((m81 155 27) - v82)) 173 20 v76).bind fun v86 =>
    (f_wr (f_up m81 155 27 ((m81 155 27) - v82)) 156 4 v84 (v85 + v86)).bind fun m87 =>
    (f_rd m87 170 20 v76).bind fun v88 =>
    (f_rd m87 160 20 v88).bind fun v89 =>
    (f_rd m87 157 4 v89).bind fun v90 =>
    (f_rd m87 173 20 v76).bind fun v91 =>
    (f_wr m87 157 4 v89 (v90 + v91)).bind fun m92 =>
    (f_rd m92 173 20 v76).bind fun v93 =>
    some (.inl (f_up m92 155 29 ((m92 155 29) + v93)))
   )
  )
theorem l_passes_eq (a1 a2 : Int32) (σ : f_M) : l_passes a1 a2 σ = (
   if (σ 155 26) ≤ 0 then (
    some σ
   ) else (
    if ¬ ((σ 155 26) - (σ 155 26) / (24 : Int32) * (24 : Int32)) = 0 then (
     some σ
    ) else (
     (f_lp (fun z => b_day z.1 z.2) f_F ((0 : Int32), σ)).bind fun (x2 : f_M) =>
     some x2
    )
   )
  ).bind fun (t1 : f_M) =>
  (f_lp (fun z => b_hit a1 a2 z.1 z.2) f_F ((0 : Int32), t1)).bind fun (x20 : f_M) =>
  (f_lp (fun z => b_ass z.1 z.2) f_F ((0 : Int32), (f_up x20 155 26 ((x20 155 26) + (1 : Int32))))).bind fun (x40 : f_M) =>
  (f_lp b_due f_F x40).bind fun (x73 : f_M) =>
  some (((x73 155 32) - ((f_up x20 155 26 ((x20 155 26) + (1 : Int32))) 155 32)), x73) := by
  unfold l_passes; rfl
theorem cX_k {σ σ' : f_M} {s s' : Nat → Int32} {ac : Nat} (hac : ac ≤ 3) (f : σ' 158 = σ 158) (e : ∀ k, 95 ≤ k → k < 98 → s' k = s k) (h : ∀ x, x < ac → σ 158 x = s (95 + x)) : ∀ x, x < ac → σ' 158 x = s' (95 + x) := fun x hx => by rw [f, e _ (by omega) (by omega)]; exact h x hx
theorem cP_k {σ σ' : f_M} {s s' : Nat → Int32} {pc : Nat} (hpc : pc ≤ 20) (f : ∀ r, 159 ≤ r → r ≤ 169 → σ' r = σ r) (e0 : s' 0 = s 0) (e : ∀ k, 100 ≤ k → k < 300 → s' k = s k) (ew : ∀ k, 420 ≤ k → s' k = s k) (h : ∀ p, p < pc → lP σ s p ∧ σ 167 p = s_hit s p) : ∀ p, p < pc → lP σ' s' p ∧ σ' 167 p = s_hit s' p := fun p hp =>
  ⟨lP_congr (fun r h1 h2 _ => by rw [f r h1 h2]) (fun i hi => e _ (by omega) (by omega)) (h p hp).1, by rw [f 167 (by omega) (by omega), s_hit_congr e0 (fun i hi => e _ (by omega) (by omega)) ew]; exact (h p hp).2⟩
theorem cF_k {σ σ' : f_M} {pc : Nat} (f : ∀ r, 159 ≤ r → r ≤ 169 → σ' r = σ r) (h : ∀ p, pc ≤ p → p < 20 → σ 167 p = nI 0 ∧ σ 168 p = nI 0 ∧ σ 169 p = nI 0) : ∀ p, pc ≤ p → p < 20 → σ' 167 p = nI 0 ∧ σ' 168 p = nI 0 ∧ σ' 169 p = nI 0 := by
  rw [f 167 (by omega) (by omega), f 168 (by omega) (by omega), f 169 (by omega) (by omega)]; exact h
theorem cC_k {σ σ' : f_M} {s s' : Nat → Int32} {cc : Nat} (hcc : cc ≤ 20) (f : ∀ r, 170 ≤ r → r ≤ 173 → σ' r = σ r) (e : ∀ k, 300 ≤ k → k < 420 → s' k = s k) (h : ∀ c, c < cc → lC σ s c) : ∀ c, c < cc → lC σ' s' c := fun c hc => lC_congr (fun r h1 h2 => by rw [f r h1 h2]) (fun i hi => e _ (by omega) (by omega)) (h c hc)
theorem cG_k {σ σ' : f_M} {cc : Nat} (f : ∀ r, 170 ≤ r → r ≤ 173 → σ' r = σ r) (h : ∀ c, cc ≤ c → c < 20 → σ 172 c = nI 0 ∧ σ 173 c = nI 0) : ∀ c, cc ≤ c → c < 20 → σ' 172 c = nI 0 ∧ σ' 173 c = nI 0 := by
  rw [f 172 (by omega) (by omega), f 173 (by omega) (by omega)]; exact h
theorem cD_k {σ σ' : f_M} {s s' : Nat → Int32} {ac cc : Nat} (hac : ac ≤ 3) (hcc : cc ≤ 20) (f : ∀ r, 175 ≤ r → r ≤ 179 → σ' r = σ r) (e : ∀ k, 300 ≤ k → k < 420 → s' k = s k) (h : ∀ x, x < ac → lD σ s cc x) : ∀ x, x < ac → lD σ' s' cc x := fun x hx => lD_congr (f _ (by omega) (by omega)) (by rw [f 178 (by omega) (by omega)]) (by rw [f 179 (by omega) (by omega)]) (fun c hc i hi => e _ (by omega) (by omega)) (h x hx)
theorem s_pay_v {s : Nat → Int32} {p h : Nat} (eh : s (100 + 10 * p + 1) = nI h) (hh : h < 8) : s_pay s p 1 = s 1 + s (100 + 10 * p + 7) ∧ s_pay s p 6 = s 6 + s (100 + 10 * p + 7) ∧ s_pay s p 7 = s 7 ∧ s_pay s p 8 = s 8 ∧ ∀ h', h' < 8 → s_pay s p (20 + 9 * h' + 7) = (if h' = h then s (20 + 9 * h + 7) - s (100 + 10 * p + 7) else s (20 + 9 * h' + 7)) ∧ s_pay s p (20 + 9 * h' + 8) = s (20 + 9 * h' + 8) := by
  unfold s_pay
  rw [eh, nat_n (by omega)]
  refine ⟨?_, ?_, ?_, ?_, fun h' hh' => ⟨?_, ?_⟩⟩
  · rw [upd_ne (by omega), upd_same]
  · rw [upd_same]
  · rw [upd_ne (by omega), upd_ne (by omega), upd_ne (by omega)]
  · rw [upd_ne (by omega), upd_ne (by omega), upd_ne (by omega)]
  · rw [upd_ne (by omega), upd_ne (by omega)]
    by_cases e : h' = h
    · subst e; rw [if_pos rfl, upd_same]
    · rw [if_neg e, upd_ne (by omega)]
  · rw [upd_ne (by omega), upd_ne (by omega), upd_ne (by omega)]
theorem LR_pay {σ : f_M} {s : Nat → Int32} {D ck hc ac pc cc q n p h : Nat} {g : Nat → Nat} (K : kAll s D ck hc ac pc cc g q n) (R : LR σ s hc ac pc cc g q n) (eh : s (100 + 10 * p + 1) = nI h) (hh : h < hc) : LR (f_up (f_up (f_up σ 156 h (s (20 + 9 * h + 7) - s (100 + 10 * p + 7))) 155 27 (s 1 + s (100 + 10 * p + 7))) 155 28 (s 6 + s (100 + 10 * p + 7))) (s_pay s p) hc ac pc cc g q n := by
  have h8 := K.1.2.1.2.2
  obtain ⟨v1, v6, v7, v8, vb⟩ := s_pay_v eh (by omega)
  obtain ⟨⟨-, a5, b1, b2, b3, b4, a6, a7⟩, r2, -⟩ := id R
  refine LR_money K.1.2.2.1.2.2 K.1.2.2.2.1.2 K.1.2.2.2.2.2 R (fun r hr => by rw [up_rows (by omega), up_rows (by omega), up_rows (by omega)]) (fun i hi => by rw [up_ix (by omega), up_ix (by omega), up_rows (by omega)]) (fun k h1 h6 h7 h8 hk => s_pay_keep ⟨h, by omega, eh⟩ h1 h6 (fun h' hh' => by omega)) ⟨?_, ?_, ?_, ?_⟩ (fun h' hh' => ⟨?_, ?_⟩)
  · rw [up_ix (by omega), up_same, v1]
  · rw [up_same, v6]
  · rw [up_ix (by omega), up_ix (by omega), up_rows (by omega), b3, v7]
  · rw [up_ix (by omega), up_ix (by omega), up_rows (by omega), b4, v8]
  · rw [up_rows (by omega), up_rows (by omega), (vb h' (by omega)).1]
    by_cases e : h' = h
    · subst e; rw [up_same, if_pos rfl]
    · rw [up_ix e, if_neg e]; exact (r2 h' hh').1
  · rw [up_rows (by omega), up_rows (by omega), up_rows (by omega), (vb h' (by omega)).2]; exact (r2 h' hh').2
theorem LR_lapse {σ : f_M} {s : Nat → Int32} {D ck hc ac pc cc q n p : Nat} {g : Nat → Nat} (K : kAll s D ck hc ac pc cc g q n) (R : LR σ s hc ac pc cc g q n) (hp : p < pc) : LR (f_up σ 168 p (nI 1)) (upd s (100 + 10 * p + 8) (nI 1)) hc ac pc cc g q n := by
  have hac := K.1.2.2.1.2.2
  have hpc := K.1.2.2.2.1.2
  have hcc := K.1.2.2.2.2.2
  have h8 := K.1.2.1.2.2
  obtain ⟨⟨⟨a1, a2, a3, a4⟩, a5, b1, b2, b3, b4, a6, a7⟩, r2, r3, r4, r5, r6, r7, r8, r9⟩ := R
  have f : ∀ r, r ≠ 168 → f_up σ 168 p (nI 1) r = σ r := fun r hr => up_rows hr
  have e : ∀ k, k ≠ 100 + 10 * p + 8 → upd s (100 + 10 * p + 8) (nI 1) k = s k := fun k hk => upd_ne hk
  refine ⟨⟨⟨?_, ?_, ?_, ?_⟩, ?_, ?_, ?_, ?_, ?_, ?_, ?_⟩, fun h hh => ?_, cX_k hac (f _ (by omega)) (fun k h1 h2 => e k (by omega)) r3, fun p' hp' => ⟨?_, ?_⟩, fun p' h1 h2 => ?_, cC_k hcc (fun r h1 h2 => f r (by omega)) (fun k h1 h2 => e k (by omega)) r6, cG_k (fun r h1 h2 => f r (by omega)) r7, cD_k hac hcc (fun r h1 h2 => f r (by omega)) (fun k h1 h2 => e k (by omega)) r8, fun i hi => ?_⟩
  iterate 4 (rw [f _ (by omega)]; assumption)
  iterate 7 (rw [f _ (by omega)]; first | assumption | (rw [e _ (by omega)]; assumption))
  · rw [f _ (by omega), f _ (by omega), e _ (by omega), e _ (by omega)]; exact r2 h hh
  · by_cases hpp : p' = p
    · subst hpp
      obtain ⟨⟨c0, c1, c2, c3, c4⟩, c5, c6, c7, c8, c9⟩ := (r4 p' hp').1
      refine ⟨⟨?_, ?_, ?_, ?_, ?_⟩, ?_, ?_, ?_, ?_, ?_⟩
      iterate 6 (rw [f _ (by omega), e _ (by omega)]; assumption)
      · rw [f _ (by omega), e _ (by omega), e _ (by omega)]; exact c6
      · rw [f _ (by omega), e _ (by omega)]; exact c7
      · rw [up_same, upd_same]
      · rw [f _ (by omega), e _ (by omega)]; exact c9
    · exact lP_congr (fun r h1 h2 h3 => by by_cases h : r = 168; { subst h; exact up_ix hpp }; { rw [f r h] }) (fun i hi => e _ (by omega)) (r4 p' hp').1
  · rw [f _ (by omega), s_hit_congr (e _ (by omega)) (fun i hi => e _ (by omega)) (fun t ht => e _ (by omega))]; exact (r4 p' hp').2
  · rw [f _ (by omega), up_ix (show p' ≠ p by omega), f _ (by omega)]; exact r5 p' h1 h2
  · rw [f _ (by omega)]; exact r9 i hi
theorem L_day1 {σ : f_M} {s : Nat → Int32} {D ck hc ac pc cc q n j : Nat} {g : Nat → Nat} (K : kAll s D ck hc ac pc cc g q n) (h4 : hc ≤ 4) (hj : j < pc) (R : LR σ s hc ac pc cc g q n) : ∃ σ', b_day (nI j) σ = some (.inl (nI (j + 1), σ')) ∧ LR σ' (s_col1 s j) hc ac pc cc g q n ∧ ∀ r, r < 155 → σ' r = σ r := by
  have hpc := K.1.2.2.2.1.2
  have kp := K.2.1 j hj
  obtain ⟨⟨⟨a1, a2, a3, a4⟩, a5, b1, b2, b3, b4, a6, a7⟩, r2, r3, r4, r5, r6, r7, r8, r9⟩ := id R
  have hact := L_act (by omega) a5 (r4 j hj).1 kp.2.2.2.2.2.2.2.1
  have hn1 : ∀ z : Int32, nI j + 1 = nI (j + 1) := fun _ => n_add j 1
  unfold b_day s_col1
  rw [a3, if_neg (by rw [n_le (by omega) (by omega)]; omega), hact, bnd, hn1 0]
  by_cases ha : s_act s j (s 0) = true
  · rw [if_pos ha, if_pos ha]
    obtain ⟨h, hh, eh⟩ := kp.2.1
    obtain ⟨⟨c0, c1, c2, c3, c4⟩, c5, c6, c7, c8, c9⟩ := (r4 j hj).1
    have e1 : σ 160 j = nI h := c1.trans eh
    have eb : σ 156 h = s (20 + 9 * h + 7) := (r2 h hh).1
    have ec : s_can s j = !decide (s (20 + 9 * h + 7) < s (100 + 10 * j + 7)) := by unfold s_can; rw [eh, nat_n (by omega)]
    rw [ec]
    by_cases hcan : s (100 + 10 * j + 7) ≤ s (20 + 9 * h + 7)
    · rw [decide_eq_false ((i32_nlt _ _).mpr hcan), if_pos (show (!false) = true from rfl)]
      refine ⟨_, ?_, LR_pay K R eh hh, fun r hr => by rw [up_rows (by omega), up_rows (by omega), up_rows (by omega)]⟩
      simp (disch := omega) only [f_rd_n, f_wr_n, bnd, e1, eb, c7, if_pos hcan, up_rows, up_same, up_ix, b1, b2]
    · rw [decide_eq_true ((i32_nle _ _).mp hcan), if_neg (show ¬ (!true) = true by decide)]
      refine ⟨_, ?_, LR_lapse K R hj, fun r hr => by rw [up_rows (by omega)]⟩
      simp (disch := omega) only [f_rd_n, f_wr_n, bnd, e1, eb, c7, if_neg hcan]
      rfl
  · rw [if_neg ha, if_neg ha, bnd]
    exact ⟨σ, rfl, R, fun _ _ => rfl⟩
theorem L_day {σ : f_M} {s : Nat → Int32} {D ck hc ac pc cc q n : Nat} {g : Nat → Nat} (hD : D ≤ 1000000000) (K : kAll s D ck hc ac pc cc g q n) (h4 : hc ≤ 4) (R : LR σ s hc ac pc cc g q n) : ∃ σ', (
   if (σ 155 26) ≤ 0 then (
    some σ
   ) else (
    if ¬ ((σ 155 26) - (σ 155 26) / (24 : Int32) * (24 : Int32)) = 0 then (
     some σ
    ) else (
     (f_lp (fun z => b_day z.1 z.2) f_F ((0 : Int32), σ)).bind fun (x2 : f_M) =>
     some x2
    )
   )
  ) = some σ' ∧ LR σ' (s_day s) hc ac pc cc g q n ∧ ∀ r, r < 155 → σ' r = σ r := by
  have hpc := K.1.2.2.2.1.2
  have c4 := K.1.2.2.2.1.1
  obtain ⟨c0, hck⟩ := K.1.1
  obtain ⟨⟨-, a5, -⟩, -⟩ := id R
  rw [a5, c0, show (0 : Int32) = nI 0 from rfl, show (24 : Int32) = nI 24 from rfl, n_mod (by omega) (by omega)]
  unfold s_day
  rw [c0, c4, nat_n (by omega), nat_n (by omega)]
  by_cases z0 : ck = 0
  · rw [if_pos (by rw [n_le (by omega) (by omega)]; omega), if_pos (Or.inl z0)]
    exact ⟨σ, rfl, R, fun _ _ => rfl⟩
  · rw [if_neg (by rw [n_le (by omega) (by omega)]; omega)]
    by_cases z1 : ck % 24 = 0
    · rw [if_neg (by rw [n_eq (by omega) (by omega)]; exact fun h => h z1), if_neg (by omega)]
      refine lp_ex (fun j (z : Int32 × f_M) => ∃ σj, z = (nI j, σj) ∧ LR σj (s_colN s j) hc ac pc cc g q n ∧ ∀ r, r < 155 → σj r = σ r) (fun r => LR r (s_colN s pc) hc ac pc cc g q n ∧ ∀ b, b < 155 → r b = σ b) pc (f_F_lt (by omega)) ⟨σ, rfl, R, fun _ _ => rfl⟩ ?_ ?_ (fun r q => ⟨r, rfl, q⟩)
      · rintro j z hj ⟨σj, rfl, Rj, fj⟩
        obtain ⟨σ', e1, e2, e3⟩ := L_day1 (K_colN hD K j (by omega)) h4 hj Rj
        exact Or.inl ⟨_, e1, σ', rfl, e2, fun r hr => (e3 r hr).trans (fj r hr)⟩
      · rintro z ⟨σj, rfl, Rj, fj⟩
        refine ⟨σj, ?_, Rj, fj⟩
        show b_day (nI pc) σj = _
        unfold b_day
        rw [Rj.1.1.2.2.1, if_pos (by rw [n_le (by omega) (by omega)]; omega)]
    · rw [if_pos (by rw [n_eq (by omega) (by omega)]; exact z1), if_pos (Or.inr z1)]
      exact ⟨σ, rfl, R, fun _ _ => rfl⟩
