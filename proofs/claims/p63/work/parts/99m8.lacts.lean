/-! The law acts: what holds between its acts; hours, deposits. -/
def b_hrs (a2 a3 x9 : Int32) (m9 : f_M) : Option ((Int32 × f_M) ⊕ (Bool × f_M)) :=
  (l_bits a2 (4 : Int32) (2 : Int32) m9).bind fun t5 =>
  if t5 < x9 then (
   some (.inr (true, m9))
  ) else (
   (l_bits a3 ((4 : Int32) * x9) (6 : Int32) m9).bind fun t6 =>
   (l_bits a3 ((3 : Int32) + ((4 : Int32) * x9)) (3 : Int32) m9).bind fun t7 =>
   (p_319 t6 t7 m9).bind fun t8 =>
   (l_passes t6 t7 t8.2).bind fun t9 =>
   if t8.1 = t9.1 then (
    some (.inl ((x9 + (1 : Int32)), t9.2))
   ) else (
    some (.inr (false, t9.2))
   )
  )
def a_hrs (a2 a3 : Int32) (σ : f_M) : Option (Bool × f_M) :=
  (f_lp (fun z => b_hrs a2 a3 z.1 z.2) f_F ((0 : Int32), σ)).bind fun (r4 : Bool × f_M) => some r4
def a_buy (t1 a2 a3 : Int32) (σ : f_M) : Option (Bool × f_M) :=
  (l_bits a2 (8 : Int32) (1 : Int32) σ).bind fun t67 =>
  (l_bits a2 (9 : Int32) (2 : Int32) σ).bind fun t68 =>
  (l_bits a2 (11 : Int32) (3 : Int32) σ).bind fun t69 =>
  (l_bits a2 (14 : Int32) (7 : Int32) σ).bind fun t70 =>
  (l_bits a3 (0 : Int32) (5 : Int32) σ).bind fun t71 =>
  (
   if ¬ t67 = 0 then (
    if ((20 : Int32) + ((2 : Int32) * t71)) = 0 then none else
    some (((((1 : Int32) + t70) * ((1 : Int32) + t69)) / ((20 : Int32) + ((2 : Int32) * t71))) + (1 : Int32))
   ) else (
    some (((((1 : Int32) + t70) * ((1 : Int32) + t69)) / (40 : Int32)) + (1 : Int32))
   )
  ).bind fun (t72 : Int32) =>
  if (σ 155 24) = (20 : Int32) then (
   (l_isRefused ((1 : Int32) + t67) (t1 - t1 / (σ 155 22) * (σ 155 22)) ((σ 155 26) + t68) ((1 : Int32) + t69) ((1 : Int32) + t70) t71 σ).bind fun t75 =>
   some (t75.1, t75.2)
  ) else (
   (f_rd σ 156 4 (t1 - t1 / (σ 155 22) * (σ 155 22))).bind fun v76 =>
   if t72 ≤ v76 then (
    (f_wr σ 159 20 (σ 155 24) t67).bind fun m77 =>
    (f_wr m77 160 20 (σ 155 24) (t1 - t1 / (σ 155 22) * (σ 155 22))).bind fun m78 =>
    (f_wr m78 161 20 (σ 155 24) ((σ 155 26) + t68)).bind fun m79 =>
    (f_wr m79 162 20 (σ 155 24) ((1 : Int32) + t69)).bind fun m80 =>
    (f_wr m80 163 20 (σ 155 24) ((1 : Int32) + t70)).bind fun m81 =>
    (f_wr m81 164 20 (σ 155 24) t71).bind fun m82 =>
    (l_bits a3 (5 : Int32) (5 : Int32) m82).bind fun t83 =>
    (f_wr m82 165 20 (σ 155 24) (t71 + t83)).bind fun m84 =>
    (f_wr m84 166 20 (σ 155 24) t72).bind fun m85 =>
    (f_rd m85 156 4 (t1 - t1 / (σ 155 22) * (σ 155 22))).bind fun v86 =>
    (f_wr m85 156 4 (t1 - t1 / (σ 155 22) * (σ 155 22)) (v86 - t72)).bind fun m87 =>
    (
     if ¬ t67 = 0 then (
      (f_nt (p_328 (t1 - t1 / (σ 155 22) * (σ 155 22)) ((σ 155 26) + t68) ((1 : Int32) + t69) ((1 : Int32) + t70) t71 (f_up (f_up (f_up m87 155 27 ((m87 155 27) + t72)) 155 28 (((f_up m87 155 27 ((m87 155 27) + t72)) 155 28) + t72)) 155 24 (((f_up (f_up m87 155 27 ((m87 155 27) + t72)) 155 28 (((f_up m87 155 27 ((m87 155 27) + t72)) 155 28) + t72)) 155 24) + (1 : Int32))))).bind fun t89 =>
      some (t89.1, t89.2)
     ) else (
      (f_rd (f_up (f_up (f_up m87 155 27 ((m87 155 27) + t72)) 155 28 (((f_up m87 155 27 ((m87 155 27) + t72)) 155 28) + t72)) 155 24 (((f_up (f_up m87 155 27 ((m87 155 27) + t72)) 155 28 (((f_up m87 155 27 ((m87 155 27) + t72)) 155 28) + t72)) 155 24) + (1 : Int32))) 165 20 (σ 155 24)).bind fun v90 =>
      (f_nt (p_324 (t1 - t1 / (σ 155 22) * (σ 155 22)) ((σ 155 26) + t68) ((1 : Int32) + t69) ((1 : Int32) + t70) t71 v90 (f_up (f_up (f_up m87 155 27 ((m87 155 27) + t72)) 155 28 (((f_up m87 155 27 ((m87 155 27) + t72)) 155 28) + t72)) 155 24 (((f_up (f_up m87 155 27 ((m87 155 27) + t72)) 155 28 (((f_up m87 155 27 ((m87 155 27) + t72)) 155 28) + t72)) 155 24) + (1 : Int32))))).bind fun t91 =>
      some (t91.1, t91.2)
     )
    ).bind fun (t88 : Int32 × f_M) =>
    (
     if ¬ t88.1 = (σ 155 24) then (
      some false
     ) else (
      some true
     )
    ).bind fun (t93 : Bool) =>
    some (t93, t88.2)
   ) else (
    (l_isRefused ((1 : Int32) + t67) (t1 - t1 / (σ 155 22) * (σ 155 22)) ((σ 155 26) + t68) ((1 : Int32) + t69) ((1 : Int32) + t70) t71 σ).bind fun t95 =>
    some (t95.1, t95.2)
   )
  )
def a_clm (a2 : Int32) (σ : f_M) : Option (Bool × f_M) :=
  if ¬ (σ 155 24) = 0 then (
   (l_bits a2 (8 : Int32) (5 : Int32) σ).bind fun t195 =>
   if (σ 155 24) = 0 then none else
   (p_225 (t195 - t195 / (σ 155 24) * (σ 155 24)) σ).bind fun t197 =>
   (l_obstacle (t195 - t195 / (σ 155 24) * (σ 155 24)) σ).bind fun t198 =>
   if t197 = t198 then (
    (l_obstacle (t195 - t195 / (σ 155 24) * (σ 155 24)) σ).bind fun t199 =>
    if t199 ≤ 0 then (
     (l_files (t195 - t195 / (σ 155 24) * (σ 155 24)) σ).bind fun t200 =>
     (f_nt (p_331 (t195 - t195 / (σ 155 24) * (σ 155 24)) t200.2)).bind fun t201 =>
     (
      if ¬ t201.1 = t200.1 then (
       some false
      ) else (
       some true
      )
     ).bind fun (t202 : Bool) =>
     some (t202, t201.2)
    ) else (
     (l_isRefused (0 : Int32) (t195 - t195 / (σ 155 24) * (σ 155 24)) (0 : Int32) (0 : Int32) (0 : Int32) (0 : Int32) σ).bind fun t204 =>
     some (t204.1, t204.2)
    )
   ) else (
    some (false, σ)
   )
  ) else (
   (g_194  σ).bind fun t207 =>
   (
    if ¬ t207 = 0 then (
     some false
    ) else (
     some true
    )
   ).bind fun (t208 : Bool) =>
   some (t208, σ)
  )
def a_dep (t1 a2 : Int32) (σ : f_M) : Option (Bool × f_M) :=
  (l_bits a2 (8 : Int32) (5 : Int32) σ).bind fun t263 =>
  (f_rd σ 156 4 (t1 - t1 / (σ 155 22) * (σ 155 22))).bind fun v264 =>
  (f_wr σ 156 4 (t1 - t1 / (σ 155 22) * (σ 155 22)) (v264 + ((1 : Int32) + t263))).bind fun m265 =>
  (p_334 (t1 - t1 / (σ 155 22) * (σ 155 22)) ((1 : Int32) + t263) (f_up m265 155 30 ((m265 155 30) + ((1 : Int32) + t263)))).bind fun t266 =>
  (f_rd t266.2 156 4 (t1 - t1 / (σ 155 22) * (σ 155 22))).bind fun v267 =>
  (
   if ¬ t266.1 = v267 then (
    some false
   ) else (
    some true
   )
  ).bind fun (t268 : Bool) =>
  some (t268, t266.2)
theorem l_acts_eq (a2 a3 : Int32) (σ : f_M) : l_acts a2 a3 σ = (l_bits a2 (4 : Int32) (4 : Int32) σ).bind fun t1 =>
  if (σ 155 22) = 0 then none else
  (l_bits a2 (0 : Int32) (4 : Int32) σ).bind fun t3 =>
  if t3 = (0 : Int32) then a_hrs a2 a3 σ else
  if t3 = (1 : Int32) then a_hrs a2 a3 σ else
  if t3 = (2 : Int32) then a_hrs a2 a3 σ else
  if t3 = (3 : Int32) then a_hrs a2 a3 σ else
  if t3 = (4 : Int32) then a_hrs a2 a3 σ else
  if t3 = (5 : Int32) then a_hrs a2 a3 σ else
  if t3 = (6 : Int32) then a_hrs a2 a3 σ else
  if t3 = (7 : Int32) then a_buy t1 a2 a3 σ else
  if t3 = (8 : Int32) then a_buy t1 a2 a3 σ else
  if t3 = (9 : Int32) then a_buy t1 a2 a3 σ else
  if t3 = (10 : Int32) then a_buy t1 a2 a3 σ else
  if t3 = (11 : Int32) then a_clm a2 σ else
  if t3 = (12 : Int32) then a_clm a2 σ else
  if t3 = (13 : Int32) then a_clm a2 σ else
  if t3 = (14 : Int32) then a_clm a2 σ else
  a_dep t1 a2 σ := by
  unfold l_acts; rfl
def b_bst (y9 x9 : Int32) (σ : f_M) : Option ((Int32 × Int32) ⊕ Int32) :=
  if (σ 155 23) ≤ x9 then (
   some (.inr y9)
  ) else (
   (f_rd σ 178 3 x9).bind fun v2 =>
   (f_rd σ 178 3 y9).bind fun v3 =>
   (
    if v3 ≤ v2 then (
     some y9
    ) else (
     some x9
    )
   ).bind fun (t4 : Int32) =>
   some (.inl (t4, (x9 + (1 : Int32))))
  )
theorem l_files_eq (a1 : Int32) (σ : f_M) : l_files a1 σ = (f_lp (fun z => b_bst z.1 z.2 σ) f_F ((0 : Int32), (1 : Int32))).bind fun (x1 : Int32) =>
  (f_wr σ 169 20 a1 (1 : Int32)).bind fun m7 =>
  (f_wr m7 170 20 (m7 155 25) a1).bind fun m8 =>
  (f_wr m8 171 20 (m8 155 25) x1).bind fun m9 =>
  (f_ix 3 x1).bind fun v10 =>
  (f_rd m9 178 3 x1).bind fun v11 =>
  (f_wr m9 (175 + v10) 20 v11 (m9 155 25)).bind fun m12 =>
  (f_rd m12 178 3 x1).bind fun v13 =>
  (f_wr m12 178 3 x1 (v13 + (1 : Int32))).bind fun m14 =>
  some ((((f_up m14 155 25 ((m14 155 25) + (1 : Int32))) 155 25) - (1 : Int32)), (f_up m14 155 25 ((m14 155 25) + (1 : Int32)))) := by
  unfold l_files; rfl
theorem kG_uniq {s : Nat → Int32} {cc q n q' n' : Nat} {g g' : Nat → Nat} (h : kG s cc g q n) (h' : kG s cc g' q' n') : q = q' ∧ n = n' ∧ ∀ i, i < n → g i = g' i := by
  have hG : ∀ i, i < n → isG s (g i) = true := fun i hi => h.granted hi
  have hG' : ∀ i, i < n' → isG s (g' i) = true := fun i hi => h'.granted hi
  obtain ⟨h1, h2, h3, h4, h5, h6, h7, h8⟩ := h
  obtain ⟨k1, k2, k3, k4, k5, k6, k7, k8⟩ := h'
  have hn : n = n' := h2.trans k2.symm
  subst hn
  refine ⟨h3.trans k3.symm, rfl, ?_⟩
  have key : ∀ m i, i < m → i < n → g i = g' i := by
    intro m
    induction m with
    | zero => intro i hi; omega
    | succ m ih =>
      intro i hi hn
      obtain ⟨j, hj, ej⟩ := k7 (g i) (h4 i hn) (hG i hn)
      obtain ⟨l, hl, el⟩ := h7 (g' i) (k4 i hn) (hG' i hn)
      by_cases h9 : j < i
      · have := ih j (by omega) hj
        rw [ej] at this
        have := h5 j i hj hn this
        omega
      · by_cases h10 : l < i
        · have := ih l (by omega) hl
          rw [el] at this
          have := k5 i l hn hl this
          omega
        · by_cases hji : j = i
          · rw [← ej, hji]
          · by_cases hli : l = i
            · rw [← el, hli]
            · have a1 := k8 i j (by omega) hj
              have a2 := h8 i l (by omega) hl
              rw [ej] at a1
              rw [el] at a2
              omega
  exact fun i hi => key (i + 1) i (by omega) hi
theorem LR_g {σ : f_M} {s : Nat → Int32} {hc ac pc cc q n q' n' : Nat} {g g' : Nat → Nat} (R : LR σ s hc ac pc cc g q n) (h : kG s cc g q n) (h' : kG s cc g' q' n') : LR σ s hc ac pc cc g' q' n' := by
  obtain ⟨rfl, rfl, hg⟩ := kG_uniq h h'
  obtain ⟨r1, r2, r3, r4, r5, r6, r7, r8, r9⟩ := R
  exact ⟨r1, r2, r3, r4, r5, r6, r7, r8, fun i hi => by rw [r9 i hi, hg _ (by omega)]⟩
/-- what holds between the acts -/
def LI (σ : f_M) (D ck : Nat) : Prop := ∃ (s : Nat → Int32) (hc ac pc cc q n k o : Nat) (g : Nat → Nat) (P : Nat → Nat → Int32), sAll σ (dT s) D ck hc ac pc cc g q n ∧ cH σ D hc ac ck pc cc k o P ∧ LR σ s hc ac pc cc g q n ∧ hc ≤ 4
theorem LI_mk {σ : f_M} {s : Nat → Int32} {D ck hc ac pc cc q n : Nat} {g : Nat → Nat} (L : LC σ s D ck hc ac pc cc) (h : kG s cc g q n) (R : LR σ s hc ac pc cc g q n) (h4 : hc ≤ 4) : LI σ D ck := by
  obtain ⟨g', q', n', k, o, P, S, H⟩ := L
  exact ⟨s, hc, ac, pc, cc, q', n', k, o, g', P, S, H, LR_g R h S.1.2.2.2.1, h4⟩
theorem LI_mono {σ : f_M} {D D' ck : Nat} (hD : D ≤ D') (I : LI σ D ck) : LI σ D' ck := by
  obtain ⟨s, hc, ac, pc, cc, q, n, k, o, g, P, S, H, R, h4⟩ := I
  exact ⟨s, hc, ac, pc, cc, q, n, k, o, g, P, sAll_mono hD S, cH_op H (opF.refl σ σ ck pc cc) (Nat.le_refl _) (Nat.le_refl _) (Nat.le_refl _) hD, R, h4⟩
theorem bits_n (x f : Int32) {k : Nat} (hk : k < 31) {m : Int32} (hm : (1 : Int32) <<< (m &&& 31) - 1 = nI (2 ^ k - 1)) : ∃ b : Nat, b < 2 ^ k ∧ ∀ σ, l_bits x f m σ = some (nI b) := by
  obtain ⟨b, h1, h2⟩ := w_part x f hk hm
  exact ⟨b, h1, fun σ => congrArg some h2⟩
theorem LI_hour {σ : f_M} {D ck w r : Nat} (hD : D ≤ 1000000000) (hck : ck < 1000) (hw : w ≤ 150) (hr : r ≤ 50) (I : LI σ D ck) : ∃ v σ5 σ6, p_319 (nI w) (nI r) σ = some (v, σ5) ∧ l_passes (nI w) (nI r) σ5 = some (v, σ6) ∧ LI σ6 D (ck + 1) := by
  obtain ⟨s, hc, ac, pc, cc, q, n, k, o, g, P, S, H, R, h4⟩ := I
  obtain ⟨σ5, e5, L5, f5⟩ := LC_hour hD hck hw hr ⟨g, q, n, k, o, P, S, H⟩
  obtain ⟨σ6, g', q', n', e6, K6, R6, f6⟩ := Z_hour (s := s) hD hck hw hr h4 S.1 (LR_class R f5)
  exact ⟨_, σ5, σ6, e5, e6, LI_mk (LC_ext L5 f6) K6.2.2.2.1 R6 h4⟩
theorem Z_hrs {σ : f_M} {D ck : Nat} (x y : Int32) (hD : D ≤ 1000000000) (hck : ck + 4 ≤ 1000) (I : LI σ D ck) : ∃ σ', a_hrs x y σ = some (true, σ') ∧ ∃ ck', ck' ≤ ck + 4 ∧ LI σ' D ck' := by
  obtain ⟨h, hh, eh⟩ := bits_n x (4 : Int32) (k := 2) (m := 2) (by decide) rfl
  unfold a_hrs
  have key : ∃ r, f_lp (fun z => b_hrs x y z.1 z.2) f_F ((0 : Int32), σ) = some r ∧ ∃ σ', r = (true, σ') ∧ ∃ ck', ck' ≤ ck + 4 ∧ LI σ' D ck' := by
    refine lp_inv (fun j (z : Int32 × f_M) => ∃ σj, z = (nI j, σj) ∧ LI σj D (ck + j)) _ (h + 1) (f_F_lt (by omega)) ⟨σ, rfl, I⟩ ?_ ?_
    · rintro j z hj ⟨σj, rfl, Ij⟩
      obtain ⟨w, hw, ew⟩ := bits_n y ((4 : Int32) * nI j) (k := 6) (m := 6) (by decide) rfl
      obtain ⟨r, hr, er⟩ := bits_n y ((3 : Int32) + (4 : Int32) * nI j) (k := 3) (m := 3) (by decide) rfl
      obtain ⟨v, σ5, σ6, e5, e6, I6⟩ := LI_hour (w := w) (r := r) hD (by omega) (by omega) (by omega) Ij
      refine Or.inl ⟨_, ?_, σ6, rfl, I6⟩
      show b_hrs x y (nI j) σj = _
      unfold b_hrs
      rw [eh, bnd, if_neg (by rw [n_lt (by omega) (by omega)]; omega), ew, bnd, er, bnd, e5, bnd, e6, bnd, if_pos rfl, show (1 : Int32) = nI 1 from rfl, n_add]
    · rintro z ⟨σj, rfl, Ij⟩
      refine ⟨_, ?_, σj, rfl, ck + (h + 1), by omega, Ij⟩
      show b_hrs x y (nI (h + 1)) σj = _
      unfold b_hrs
      rw [eh, bnd, if_pos (by rw [n_lt (by omega) (by omega)]; omega)]
  obtain ⟨r, e, σ', rfl, h9⟩ := key
  exact ⟨σ', by rw [e, bnd], h9⟩
