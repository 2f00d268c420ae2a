/-! The law compares: holders, desks, claims, policies. -/
def b_dsk (w9 x9 : Int32) (σ : f_M) : Option (Int32 ⊕ (Unit ⊕ (Bool × f_M))) :=
  (f_rd σ 178 3 w9).bind fun v27 =>
  if v27 ≤ x9 then (
   some (.inr (.inl ()))
  ) else (
   (f_ix 3 w9).bind fun v28 =>
   (f_rd σ (175 + v28) 20 x9).bind fun v29 =>
   (p_293 v29 σ).bind fun t30 =>
   (f_rd σ 158 3 w9).bind fun v31 =>
   (f_rd σ 179 3 w9).bind fun v32 =>
   if t30 = (((x9 + (1 : Int32)) * ((2 : Int32) + v31)) - v32) then (
    some (.inl (x9 + (1 : Int32)))
   ) else (
    some (.inr (.inr (false, σ)))
   )
  )
def b_asr (x9 : Int32) (σ : f_M) : Option (Int32 ⊕ (Unit ⊕ (Bool × f_M))) :=
  if (σ 155 23) ≤ x9 then (
   some (.inr (.inl ()))
  ) else (
   (p_259 x9 σ).bind fun t24 =>
   (f_rd σ 178 3 x9).bind fun v25 =>
   if t24 = v25 then (
    (f_lp (fun z => b_dsk x9 z σ) f_F (0 : Int32)).bind fun (y26 : (Unit) ⊕ (Bool × f_M)) => Sum.elim (fun x26 =>
     some (.inl (x9 + (1 : Int32)))
    ) (fun r26 => some (.inr (.inr r26))) y26
   ) else (
    some (.inr (.inr (false, σ)))
   )
  )
def b_cla (k9 y9 x9 : Int32) (σ : f_M) : Option ((Int32 × Int32) ⊕ (Unit ⊕ (Bool × f_M))) :=
  if (σ 155 25) ≤ x9 then (
   (f_lp (fun z => b_asr z σ) f_F (0 : Int32)).bind fun (y23 : (Unit) ⊕ (Bool × f_M)) => Sum.elim (fun x23 =>
    (g_266  σ).bind fun t37 =>
    if ¬ t37 = y9 then (
     some (.inr (.inr (false, σ)))
    ) else (
     (g_276  σ).bind fun t38 =>
     if ¬ t38 = k9 then (
      some (.inr (.inr (false, σ)))
     ) else (
      (g_313  σ).bind fun t39 =>
      if t39.1 = false then (
       some (.inr (.inr (false, t39.2)))
      ) else (
       some (.inr (.inr (true, t39.2)))
      )
     )
    )
   ) (fun r23 => some (.inr (.inr r23))) y23
  ) else (
   (p_231 x9 σ).bind fun t43 =>
   (f_rd σ 170 20 x9).bind fun v44 =>
   if ¬ t43 = v44 then (
    some (.inr (.inl ()))
   ) else (
    (p_236 x9 σ).bind fun t45 =>
    (f_rd σ 171 20 x9).bind fun v46 =>
    if ¬ t45 = v46 then (
     some (.inr (.inl ()))
    ) else (
     (p_239 x9 σ).bind fun t47 =>
     (f_rd σ 172 20 x9).bind fun v48 =>
     (
      if ¬ v48 = 0 then (
       some false
      ) else (
       some true
      )
     ).bind fun (t49 : Bool) =>
     if ¬ (f_b t47) = (f_b t49) then (
      some (.inr (.inl ()))
     ) else (
      (p_243 x9 σ).bind fun t51 =>
      (f_rd σ 172 20 x9).bind fun v52 =>
      (
       if ¬ v52 = (1 : Int32) then (
        some false
       ) else (
        some true
       )
      ).bind fun (t53 : Bool) =>
      if ¬ (f_b t51) = (f_b t53) then (
       some (.inr (.inl ()))
      ) else (
       (p_246 x9 σ).bind fun t55 =>
       (f_rd σ 172 20 x9).bind fun v56 =>
       (
        if ¬ v56 = (3 : Int32) then (
         some false
        ) else (
         some true
        )
       ).bind fun (t57 : Bool) =>
       if ¬ (f_b t55) = (f_b t57) then (
        some (.inr (.inl ()))
       ) else (
        (p_249 x9 σ).bind fun t59 =>
        (f_rd σ 173 20 x9).bind fun v60 =>
        if t59 = v60 then (
         (f_rd σ 172 20 x9).bind fun v61 =>
         (
          if ¬ v61 = (2 : Int32) then (
           some y9
          ) else (
           (f_rd σ 173 20 x9).bind fun v63 =>
           some (y9 + v63)
          )
         ).bind fun (t62 : Int32) =>
         some (.inl (t62, (x9 + (1 : Int32))))
        ) else (
         some (.inr (.inl ()))
        )
       )
      )
     )
    )
   )
  )
def b_pol (k9 x9 : Int32) (σ : f_M) : Option (Int32 ⊕ (Unit ⊕ (Bool × f_M))) :=
  if (σ 155 24) ≤ x9 then (
   (f_lp (fun z => b_cla k9 z.1 z.2 σ) f_F ((0 : Int32), (0 : Int32))).bind fun (y22 : (Unit) ⊕ (Bool × f_M)) => Sum.elim (fun x22 =>
    some (.inr (.inr (false, σ)))
   ) (fun r22 => some (.inr (.inr r22))) y22
  ) else (
   (p_213 x9 σ).bind fun t72 =>
   (f_rd σ 166 20 x9).bind fun v73 =>
   if ¬ t72 = v73 then (
    some (.inr (.inl ()))
   ) else (
    (p_216 x9 σ).bind fun t74 =>
    (l_isActive x9 σ).bind fun t75 =>
    if ¬ (f_b t74) = (f_b t75) then (
     some (.inr (.inl ()))
    ) else (
     (p_219 x9 σ).bind fun t76 =>
     (f_rd σ 168 20 x9).bind fun v77 =>
     if ¬ (f_b t76) = v77 then (
      some (.inr (.inl ()))
     ) else (
      (p_222 x9 σ).bind fun t78 =>
      (l_damage x9 σ).bind fun t79 =>
      if ¬ t78 = t79 then (
       some (.inr (.inl ()))
      ) else (
       (p_225 x9 σ).bind fun t80 =>
       (l_obstacle x9 σ).bind fun t81 =>
       if t80 = t81 then (
        some (.inl (x9 + (1 : Int32)))
       ) else (
        some (.inr (.inl ()))
       )
      )
     )
    )
   )
  )
def b_hol (y9 x9 : Int32) (σ : f_M) : Option ((Int32 × Int32) ⊕ (Int32 ⊕ (Bool × f_M))) :=
  if (σ 155 22) ≤ x9 then (
   some (.inr (.inl y9))
  ) else (
   (p_179 x9 σ).bind fun t13 =>
   (f_rd σ 156 4 x9).bind fun v14 =>
   if t13 = v14 then (
    (f_rd σ 157 4 x9).bind fun v15 =>
    (f_rd σ 157 4 y9).bind fun v16 =>
    (
     if v15 ≤ v16 then (
      some y9
     ) else (
      some x9
     )
    ).bind fun (t17 : Int32) =>
    some (.inl (t17, (x9 + (1 : Int32))))
   ) else (
    some (.inr (.inr (false, σ)))
   )
  )
theorem l_isLike_eq (σ : f_M) : l_isLike σ = (g_164  σ).bind fun t1 =>
  if ¬ t1 = (σ 155 26) then (
   some (false, σ)
  ) else (
   (g_167  σ).bind fun t2 =>
   if ¬ t2 = (σ 155 27) then (
    some (false, σ)
   ) else (
    (g_194  σ).bind fun t3 =>
    if ¬ t3 = (σ 155 24) then (
     some (false, σ)
    ) else (
     (g_228  σ).bind fun t4 =>
     if ¬ t4 = (σ 155 25) then (
      some (false, σ)
     ) else (
      (g_269  σ).bind fun t5 =>
      if ¬ t5 = (σ 155 28) then (
       some (false, σ)
      ) else (
       (g_271  σ).bind fun t6 =>
       if ¬ t6 = (σ 155 29) then (
        some (false, σ)
       ) else (
        (g_273  σ).bind fun t7 =>
        if ¬ t7 = (σ 155 30) then (
         some (false, σ)
        ) else (
         (g_264  σ).bind fun t8 =>
         (
          if ¬ (σ 155 31) = 0 then (
           (f_rd σ 180 20 (0 : Int32)).bind fun v10 =>
           some v10
          ) else (
           some (-1 : Int32)
          )
         ).bind fun (t9 : Int32) =>
         if t8 = t9 then (
          (f_lp (fun z => b_hol z.1 z.2 σ) f_F ((0 : Int32), (0 : Int32))).bind fun (y12 : (Int32) ⊕ (Bool × f_M)) => Sum.elim (fun x12 =>
           (f_lp (fun z => b_pol x12 z σ) f_F (0 : Int32)).bind fun (y21 : (Unit) ⊕ (Bool × f_M)) => Sum.elim (fun x21 =>
            some (false, σ)
           ) (fun r21 => some r21) y21
          ) (fun r12 => some r12) y12
         ) else (
          some (false, σ)
         )
        )
       )
      )
     )
    )
   )
  ) := by
  unfold l_isLike; rfl
theorem Q_paid {σ : f_M} {s : Nat → Int32} {D ck hc ac pc cc q n : Nat} {g : Nat → Nat} (S : sAll σ (dT s) D ck hc ac pc cc g q n) : g_266 σ = some (nI (sumN (fun c => if s (300 + 6 * c + 3) = nI 2 then amt s c else 0) cc)) := by
  obtain ⟨K, B, l, R⟩ := S
  have kc := K.1
  have hc20 := kc.2.2.2.2.2
  obtain ⟨hqn, hn⟩ := qn_le K
  have kg := K.2.2.2.1
  have e10 : σ 121 10 = nI n := l.1.2.2.2.2.1
  have e11 : σ 121 11 = nI q := l.1.2.2.2.2.2.1
  have key : sumN (fun i => amt s (g (q + i))) (n - q) = sumN (fun c => if s (300 + 6 * c + 3) = nI 2 then amt s c else 0) cc := by
    have h1 := sumN_split (fun i => amt s (g i)) hqn
    have h2 := sum_all (G := fun c => amt s c) kg
    have h3 := sum_paid (G := fun c => amt s c) kg
    have h4 := sumN_add (fun c => if isQ s c = true then amt s c else 0) (fun c => if s (300 + 6 * c + 3) = nI 2 then amt s c else 0) cc
    have h5 : sumN (fun c => if isG s c = true then amt s c else 0) cc = sumN (fun c => (if isQ s c = true then amt s c else 0) + (if s (300 + 6 * c + 3) = nI 2 then amt s c else 0)) cc := sumN_congr fun c _ => st_two (F := fun c => amt s c) c
    have h2' : sumN (fun i => amt s (g i)) n = sumN (fun c => if isG s c = true then amt s c else 0) cc := h2
    have h3' : sumN (fun i => amt s (g i)) q = sumN (fun c => if isQ s c = true then amt s c else 0) cc := h3
    omega
  rw [← key]
  unfold g_266
  rw [e10, e11, lp_go (fun j => (nI (sumN (fun i => amt s (g (q + i))) j), nI (q + j))) (n - q) (r := nI (sumN (fun i => amt s (g (q + i))) (n - q))) ?_ (f_F_lt (by omega)) ?_ ?_, bnd]
  · rfl
  · intro j hj
    have hg := kg.2.2.2.1 (q + j) (by omega)
    have e1 : σ 127 (q + j) = nI (g (q + j)) := l.2.2.2.2 (q + j) (by omega)
    have e2 : σ 126 (g (q + j)) = s (300 + 6 * g (q + j) + 4) := (l.2.2.2.1 _ hg).2.2
    have e3 : s (300 + 6 * g (q + j) + 4) = nI (amt s (g (q + j))) := (amt_at K hg).1
    dsimp only
    rw [if_neg (by rw [n_le (by omega) (by omega)]; omega), f_rd_n (by omega) (by omega), bnd, e1, f_rd_n (by omega) (by omega), bnd, e2, e3, n_add, show (1 : Int32) = nI 1 from rfl, n_add, sumN_succ]
    rfl
  · dsimp only
    rw [if_pos (by rw [n_le (by omega) (by omega)]; omega)]
def s_rec (s : Nat → Int32) (h : Nat) : Nat := nat (s (20 + 9 * h + 8))
theorem Q_lucky {σ : f_M} {s : Nat → Int32} {D ck hc ac pc cc q n : Nat} {g : Nat → Nat} (S : sAll σ (dT s) D ck hc ac pc cc g q n) : g_276 σ = some (nI (lkN (s_rec s) (hc - 1))) := by
  have S' := S
  obtain ⟨K, B, l, R⟩ := S
  have kc := K.1
  have hh := kc.2.1
  have e0 : σ 103 0 = nI hc := R.1.1.trans hh.1
  have hr : ∀ h, h < hc → s (20 + 9 * h + 8) = nI (s_rec s h) ∧ s_rec s h ≤ 10000 := fun h hh => rec_at K hh
  generalize s_rec s = r at hr
  have cp : ∀ h, h < hc → g_275 (nI h) σ = some (nI (r h)) := fun h hh => by
    have : g_275 (nI h) σ = some (s (20 + 9 * h + 8)) := C_paid S' hh
    rw [this, (hr h hh).1]
  unfold g_276
  obtain ⟨h', rfl⟩ : ∃ m, hc = m + 1 := ⟨hc - 1, by omega⟩
  rw [e0, Nat.add_sub_cancel, lp_go (stL r) (h' + 1) (r := nI (lkN r h')) ?_ (f_F_lt (by omega)) ?_ ?_, bnd]
  · rfl
  · intro j hj
    cases j with
    | zero =>
      rw [stL_zero, stL_succ]
      dsimp only
      rw [if_neg (by rw [show (0 : Int32) = nI 0 from rfl, n_le (by omega) (by omega)]; omega), show g_275 (0 : Int32) σ = _ from cp 0 hj, bnd]
      have h9 := (hr 0 hj).2
      by_cases h0 : r 0 = 0
      · rw [if_pos (by rw [h0]; decide), bnd]
        show some (Sum.inl ((0 : Int32), (0 : Int32), (0 : Int32) + 1)) = some (Sum.inl (nI 0, nI (r 0), nI 1))
        rw [h0]; rfl
      · rw [if_neg (by rw [show (0 : Int32) = nI 0 from rfl, n_le (by omega) (by omega)]; omega), bnd]
        rfl
    | succ j =>
      rw [stL_succ, stL_succ]
      dsimp only
      have hle := lkN_le r j
      have h9 := (hr (j + 1) hj).2
      have h8 := (hr (lkN r j) (by omega)).2
      rw [if_neg (by rw [n_le (by omega) (by omega)]; omega), cp (j + 1) hj, bnd, lkN_succ, show (1 : Int32) = nI 1 from rfl, n_add]
      by_cases h7 : r (j + 1) ≤ r (lkN r j)
      · rw [if_pos (by rw [n_le (by omega) (by omega)]; exact h7), bnd, if_pos h7]
      · rw [if_neg (by rw [n_le (by omega) (by omega)]; exact h7), bnd, if_neg h7]
  · rw [stL_succ]
    dsimp only
    rw [if_pos (by rw [n_le (by omega) (by omega)]; omega)]
theorem Z_hol {σ : f_M} {s : Nat → Int32} {D ck hc ac pc cc q n : Nat} {g : Nat → Nat} (S : sAll σ (dT s) D ck hc ac pc cc g q n) (R : LR σ s hc ac pc cc g q n) (h4 : hc ≤ 4) : f_lp (fun z => b_hol z.1 z.2 σ) f_F ((0 : Int32), (0 : Int32)) = some (.inl (nI (lkN (s_rec s) (hc - 1)))) := by
  have K : kAll s D ck hc ac pc cc g q n := S.1
  have e0 : σ 103 0 = nI hc := S.2.2.2.1.1.trans K.1.2.1.1
  have h1 := K.1.2.1.2.1
  have hr : ∀ h, h < hc → s (20 + 9 * h + 8) = nI (s_rec s h) ∧ s_rec s h ≤ 10000 := fun h hh => rec_at K hh
  obtain ⟨⟨⟨a1, -⟩, -⟩, r2, -⟩ := R
  generalize s_rec s = r at hr
  refine lp_go (fun j => (nI (lkN r (j - 1)), nI j)) hc rfl (f_F_lt (by omega)) ?_ ?_
  · intro j hj
    have hle := lkN_le r (j - 1)
    have eb : σ 122 j = s (20 + 9 * j + 7) := S.2.2.1.2.1 j hj
    have e1 : σ 157 j = nI (r j) := ((r2 j hj).2).trans (hr j hj).1
    have e2 : σ 157 (lkN r (j - 1)) = nI (r (lkN r (j - 1))) := ((r2 _ (by omega)).2).trans (hr _ (by omega)).1
    have b1 := (hr j hj).2
    have b2 := (hr (lkN r (j - 1)) (by omega)).2
    show b_hol (nI (lkN r (j - 1))) (nI j) σ = _
    unfold b_hol p_179
    rw [a1, if_neg (by rw [n_le (by omega) (by omega)]; omega), p172_ok e0 hj (by omega), bnd, f_rd_n (by omega) (by decide), bnd, bnd, eb, f_rd_n (by omega) (by decide), bnd, (r2 j hj).1, if_pos rfl, f_rd_n (by omega) (by decide), bnd, f_rd_n (by omega) (by decide), bnd, e1, e2, show (1 : Int32) = nI 1 from rfl, n_add]
    cases j with
    | zero =>
      have e3 : lkN r (0 - 1) = 0 := rfl
      rw [e3, if_pos (Int32.le_refl _), bnd]
    | succ j =>
      rw [Nat.add_sub_cancel, Nat.add_sub_cancel, lkN_succ]
      rw [Nat.add_sub_cancel] at b2 hle
      by_cases h7 : r (j + 1) ≤ r (lkN r j)
      · rw [if_pos (by rw [n_le (by omega) (by omega)]; exact h7), bnd, if_pos h7]
      · rw [if_neg (by rw [n_le (by omega) (by omega)]; exact h7), bnd, if_neg h7]
  · show b_hol (nI (lkN r (hc - 1))) (nI hc) σ = _
    unfold b_hol
    rw [a1, if_pos (by rw [n_le (by omega) (by omega)]; omega)]
theorem rk_at {s : Nat → Int32} {x cc : Nat} : ∀ k, k < s_rk s x cc → ∃ c, c < cc ∧ s_und s c (nI x) = true ∧ s_rk s x c = k := by
  induction cc with
  | zero => intro k hk; exact absurd hk (by unfold s_rk cntN; omega)
  | succ cc ih =>
    intro k hk
    have e : s_rk s x (cc + 1) = s_rk s x cc + if s_und s cc (nI x) = true then 1 else 0 := rfl
    rw [e] at hk
    by_cases h : k < s_rk s x cc
    · obtain ⟨c, h1, h2, h3⟩ := ih k h
      exact ⟨c, by omega, h2, h3⟩
    · by_cases hu : s_und s cc (nI x) = true
      · rw [if_pos hu] at hk
        exact ⟨cc, by omega, hu, by omega⟩
      · rw [if_neg hu] at hk
        omega
/-- the hours of the waiting claims, summed -/
theorem sum_desk {s : Nat → Int32} {x cc T w : Nat} (hT : T ≤ 11) (hw : w ≤ T) (hcc : cc ≤ 20) (wk : ∀ c, c < cc → s_und s c (nI x) = true → s (300 + 6 * c + 2) = if s_rk s x c = 0 then nI w else nI 0) : ∀ m, m ≤ cc → sumI (fun c => if s_und s c (nI x) = true then nI T - s (300 + 6 * c + 2) else 0) m = nI (if s_rk s x m = 0 then 0 else s_rk s x m * T - w) := by
  intro m
  induction m with
  | zero => intro _; rfl
  | succ m ih =>
    intro hm
    have e : s_rk s x (m + 1) = s_rk s x m + if s_und s m (nI x) = true then 1 else 0 := rfl
    rw [sumI_succ, ih (by omega), e]
    by_cases hu : s_und s m (nI x) = true
    · rw [if_pos hu, if_pos hu, wk m (by omega) hu]
      generalize s_rk s x m = k
      by_cases h0 : k = 0
      · subst h0
        rw [if_pos rfl, if_pos rfl, if_neg (by decide), n_sub hw, n_add]
        congr 1; omega
      · rw [if_neg h0, if_neg h0, if_neg (by omega), n_sub (Nat.zero_le _), n_add, Nat.succ_mul]
        have : 1 * T ≤ k * T := Nat.mul_le_mul_right T (by omega)
        congr 1; omega
    · rw [if_neg hu, if_neg hu, Nat.add_zero]
      exact Int32.add_zero _
theorem Q_293 {σ : f_M} {s : Nat → Int32} {D ck hc ac pc cc q n c x : Nat} {g : Nat → Nat} (S : sAll σ (dT s) D ck hc ac pc cc g q n) (hx : x < ac) (hc' : c < cc) (hu : s_und s c (nI x) = true) : p_293 (nI c) σ = some (sumI (fun c => if s_und s c (nI x) = true then (nI 2 + s (95 + x)) - s (300 + 6 * c + 2) else 0) (c + 1)) := by
  obtain ⟨K, B, l, R⟩ := S
  have kc := K.1
  have ha3 := kc.2.2.1.2.2
  have hc20 := kc.2.2.2.2.2
  have e : σ 121 5 = nI cc := l.1.2.2.2.1.trans kc.2.2.2.2.1
  obtain ⟨u3, u1⟩ := und_iff.mp hu
  have est : σ 124 c = nI 0 := ((l.2.2.2.1 c hc').1).trans u3
  have eas : σ 120 c = nI x := ((B.2.2 c hc').2).trans u1
  have str : σ 107 x = s (95 + x) := R.2.1 x hx
  unfold p_293
  rw [p230_ok e hc' (by omega), bnd]
  unfold g_292 g_85
  rw [f_rd_n (by omega) (by omega), bnd, est, if_pos (show nI 0 = (0 : Int32) from rfl), f_rd_n (by omega) (by omega), bnd, eas, f_rd_n (by omega) (by omega), bnd, str, bnd, lp_go (fun j => (sumI (fun c => if s_und s c (nI x) = true then (nI 2 + s (95 + x)) - s (300 + 6 * c + 2) else 0) j, nI j)) (c + 1) (r := sumI (fun c => if s_und s c (nI x) = true then (nI 2 + s (95 + x)) - s (300 + 6 * c + 2) else 0) (c + 1)) ?_ (f_F_lt (by omega)) ?_ ?_, bnd, bnd]
  · rfl
  · intro j hj
    dsimp only
    rw [if_neg (by rw [n_lt (by omega) (by omega)]; omega), C_und (s := s) (by omega) ((l.2.2.2.1 j (by omega)).1) ((B.2.2 j (by omega)).2), bnd, sumI_succ]
    cases s_und s j (nI x)
    · rw [if_pos rfl, bnd, if_neg (by decide), Int32.add_zero, show (1 : Int32) = nI 1 from rfl, n_add]
    · rw [if_neg (by decide), f_rd_n (by omega) (by omega), bnd, bnd, if_pos rfl, show σ 125 j = s (300 + 6 * j + 2) from (l.2.2.2.1 j (by omega)).2.1, show (1 : Int32) = nI 1 from rfl, n_add]
      rfl
  · dsimp only
    rw [if_pos (by rw [n_lt (by omega) (by omega)]; omega)]
theorem Z_dsk {σ : f_M} {s : Nat → Int32} {D ck hc ac pc cc q n x : Nat} {g : Nat → Nat} (S : sAll σ (dT s) D ck hc ac pc cc g q n) (R : LR σ s hc ac pc cc g q n) (hx : x < ac) : f_lp (fun z => b_dsk (nI x) z σ) f_F (0 : Int32) = some (.inl ()) := by
  have K : kAll s D ck hc ac pc cc g q n := S.1
  have hac := K.1.2.2.1.2.2
  have hcc := K.1.2.2.2.2.2
  obtain ⟨st, hst9, est⟩ := K.2.2.2.2.2.2.2.2.1.1 x hx
  obtain ⟨-, -, r3, -, -, -, -, r8, -⟩ := R
  obtain ⟨d1, d2, d3⟩ := r8 x hx
  have hN : s_rk s x cc ≤ cc := cntN_le _ _
  have hw : ∃ w, w ≤ 2 + st ∧ σ 179 x = nI w := by
    by_cases h0 : s_rk s x cc = 0
    · exact ⟨0, by omega, d3 h0⟩
    · obtain ⟨c, h1, h2, h3⟩ := rk_at (s := s) (x := x) (cc := cc) 0 (by omega)
      obtain ⟨k0, k1, ⟨w, hw, ew⟩, k3, k4, k5, k6, -⟩ := K.2.2.1 c h1
      obtain ⟨u3, u1⟩ := und_iff.mp h2
      have h6 := k6 u3
      rw [ew, u1, nat_n (by omega), nat_n (by omega), est, nat_n (by omega)] at h6
      have h7 := (d2 c h1 h2).2
      rw [if_pos h3] at h7
      exact ⟨w, by omega, h7.symm.trans ew⟩
  obtain ⟨w, hw1, ew⟩ := hw
  have sd := sum_desk (s := s) (x := x) (cc := cc) (T := 2 + st) (w := w) (by omega) hw1 hcc (fun c hc hu => by rw [(d2 c hc hu).2, ew])
  refine lp_go (fun j => nI j) (s_rk s x cc) rfl (f_F_lt (by omega)) ?_ ?_
  · intro k hk
    obtain ⟨c, h1, h2, h3⟩ := rk_at k hk
    have e1 : σ (175 + x) k = nI c := by rw [← h3]; exact (d2 c h1 h2).1
    have e3 : s_rk s x (c + 1) = k + 1 := by
      have : s_rk s x (c + 1) = s_rk s x c + if s_und s c (nI x) = true then 1 else 0 := rfl
      rw [this, if_pos h2, h3]
    have e2 := Q_293 S hx h1 h2
    rw [est, n_add, sd (c + 1) (by omega), e3, if_neg (by omega)] at e2
    have hm : 1 * (2 + st) ≤ (k + 1) * (2 + st) := Nat.mul_le_mul_right _ (by omega)
    show b_dsk (nI x) (nI k) σ = _
    unfold b_dsk
    rw [f_rd_n (by omega) (by decide), bnd, d1, if_neg (by rw [n_le (by omega) (by omega)]; omega), f_ix_n (by omega) (by decide), bnd, f_rd_n (by omega) (by decide), bnd, e1, e2, bnd, f_rd_n (by omega) (by decide), bnd, f_rd_n (by omega) (by decide), bnd, r3 x hx, est, ew, show (1 : Int32) = nI 1 from rfl, show (2 : Int32) = nI 2 from rfl, n_add, n_add, n_mul, n_sub (by omega), if_pos rfl]
  · show b_dsk (nI x) (nI (s_rk s x cc)) σ = _
    unfold b_dsk
    rw [f_rd_n (by omega) (by decide), bnd, d1, if_pos (by rw [n_le (by omega) (by omega)]; omega)]
theorem Z_asr {σ : f_M} {s : Nat → Int32} {D ck hc ac pc cc q n : Nat} {g : Nat → Nat} (S : sAll σ (dT s) D ck hc ac pc cc g q n) (R : LR σ s hc ac pc cc g q n) : f_lp (fun z => b_asr z σ) f_F (0 : Int32) = some (.inl ()) := by
  have K : kAll s D ck hc ac pc cc g q n := S.1
  have hac := K.1.2.2.1.2.2
  have hcc := K.1.2.2.2.2.2
  have c5 := K.1.2.2.2.2.1
  have a2 := R.1.1.2.1
  have r8 := R.2.2.2.2.2.2.2.1
  have e4 : σ 103 4 = nI ac := S.2.2.2.1.2.trans K.1.2.2.1.1
  refine lp_go (fun j => nI j) ac rfl (f_F_lt (by omega)) ?_ ?_
  · intro j hj
    have eb : s_busy s j = s_rk s j cc := by unfold s_busy; rw [c5, nat_n (by omega)]; rfl
    have e1 : g_106 (nI j) σ = some (nI (s_busy s j)) := C_busy c5 hcc S.2.2.1.1.2.2.2.1 (fun c hc => (S.2.2.1.2.2.2.1 c hc).1) (fun c hc => (S.2.1.2.2 c hc).2)
    show b_asr (nI j) σ = _
    unfold b_asr p_259
    rw [a2, if_neg (by rw [n_le (by omega) (by omega)]; omega), p254_ok e4 hj (by omega), bnd, e1, bnd, bnd, f_rd_n (by omega) (by decide), bnd, (r8 j hj).1, eb, if_pos rfl, Z_dsk S R hj, bnd, Sum.elim_inl, show (1 : Int32) = nI 1 from rfl, n_add]
  · show b_asr (nI ac) σ = _
    unfold b_asr
    rw [a2, if_pos (by rw [n_le (by omega) (by omega)]; omega)]
theorem if_dn (v k : Int32) : (if ¬ v = k then (some false : Option Bool) else some true) = some (decide (v = k)) := by
  by_cases h : v = k
  · rw [if_neg (fun h' => h' h), decide_eq_true h]
  · rw [if_pos h, decide_eq_false h]
theorem Z_cla {σ : f_M} {s : Nat → Int32} {D ck hc ac pc cc q n : Nat} {g : Nat → Nat} (S : sAll σ (dT s) D ck hc ac pc cc g q n) (R : LR σ s hc ac pc cc g q n) : ∃ σ', f_lp (fun z => b_cla (nI (lkN (s_rec s) (hc - 1))) z.1 z.2 σ) f_F ((0 : Int32), (0 : Int32)) = some (.inr (true, σ')) ∧ ∀ r, r ≠ 42 → r ≠ 43 → σ' r = σ r := by
  have K : kAll s D ck hc ac pc cc g q n := S.1
  have hcc := K.1.2.2.2.2.2
  have a4 := R.1.1.2.2.2
  have r6 := R.2.2.2.2.2.1
  have e5 : σ 121 5 = nI cc := S.2.2.1.1.2.2.2.1.trans K.1.2.2.2.2.1
  obtain ⟨σ', e9, f9⟩ := C_313 S
  refine ⟨σ', ?_, f9⟩
  refine lp_go (fun j => (nI (sumN (fun c => if s (300 + 6 * c + 3) = nI 2 then amt s c else 0) j), nI j)) cc rfl (f_F_lt (by omega)) ?_ ?_
  · intro j hj
    obtain ⟨q0, q1, q2, q3⟩ := r6 j hj
    have l3 : σ 124 j = s (300 + 6 * j + 3) := (S.2.2.1.2.2.2.1 j hj).1
    have l4 : σ 126 j = s (300 + 6 * j + 4) := (S.2.2.1.2.2.2.1 j hj).2.2
    have m0 : σ 119 j = s (300 + 6 * j + 0) := (S.2.1.2.2 j hj).1
    have m1 : σ 120 j = s (300 + 6 * j + 1) := (S.2.1.2.2 j hj).2
    have am : s (300 + 6 * j + 4) = nI (amt s j) := (amt_at K hj).1
    show b_cla _ (nI (sumN (fun c => if s (300 + 6 * c + 3) = nI 2 then amt s c else 0) j)) (nI j) σ = _
    unfold b_cla p_231 p_236 p_239 p_243 p_246 p_249
    rw [a4, if_neg (by rw [n_le (by omega) (by omega)]; omega), p230_ok e5 hj (by omega)]
    simp (disch := omega) only [bnd, f_rd_n, m0, m1, l3, l4, q0, q1, q2, q3, if_dn, not_true, if_false, if_true]
    rw [sumN_succ, show (1 : Int32) = nI 1 from rfl, n_add]
    by_cases h2 : s (300 + 6 * j + 3) = nI 2
    · rw [if_neg (show ¬ ¬ s (300 + 6 * j + 3) = 2 from fun h => h h2), bnd, if_pos h2, am, n_add]
    · rw [if_pos (show ¬ s (300 + 6 * j + 3) = 2 from h2), bnd, if_neg h2]
      rfl
  · show b_cla _ (nI (sumN (fun c => if s (300 + 6 * c + 3) = nI 2 then amt s c else 0) cc)) (nI cc) σ = _
    unfold b_cla
    rw [a4, if_pos (by rw [n_le (by omega) (by omega)]; omega), Z_asr S R, bnd, Sum.elim_inl, Q_paid S, bnd, if_neg (fun h => h rfl), Q_lucky S, bnd, if_neg (fun h => h rfl), e9, bnd]
    rfl
