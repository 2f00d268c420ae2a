/-! The relation at the beginning. -/
def τ00 : f_M := fun a i => if a = 155 then (if i = 10 then nI 78 else 0) else if a = 161 then txt0 i else 0
def rest65 (τ : f_M) : Option (Int32 × f_M) :=
  (g_52  τ).bind fun t3 =>
  (f_lp lpM f_F t3).bind fun (x4 : f_M) =>
  (f_rd x4 156 2420 (2 : Int32)).bind fun v8 =>
  (
   if v8 ≤ 0 then (
    some false
   ) else (
    (f_rd x4 156 2420 (3 : Int32)).bind fun v10 =>
    if v10 ≤ 0 then (
     some false
    ) else (
     some true
    )
   )
  ).bind fun (t9 : Bool) =>
  (g_54 t9 (5 : Int32) x4).bind fun t13 =>
  (g_63  t13).bind fun t14 =>
  if (t14 155 17) ≤ 0 then (
   (g_39  t14).bind fun t15 =>
   (f_wr t14 156 2420 (9 : Int32) t15).bind fun m16 =>
   (f_rd (f_up (f_up m16 155 4 (0 : Int32)) 155 5 (0 : Int32)) 156 2420 (2 : Int32)).bind fun v17 =>
   some (v17, (f_up (f_up m16 155 4 (0 : Int32)) 155 5 (0 : Int32)))
  ) else (
   (g_64 157 t14).bind fun t18 =>
   some ((-1 : Int32), t18)
  )
def τ01 : f_M := f_row (f_up τ00 155 6 (0 : Int32)) 157 (cpN (f_up τ00 155 6 (0 : Int32) 156) (f_up τ00 155 6 (0 : Int32) 157) 2420)
def τ02 : f_M := f_row τ01 156 (clr (τ01 156))
theorem g_65_0 : g_65 τ00 = rest65 τ02 := by
  rw [g_65_eq, M_put (σ := f_up τ00 155 6 (0 : Int32)) (b := 157) (by omega), bnd, M_clear, bnd]
  rfl
def chk0 (v : Int32) (τ : f_M) : Bool := decide (v = 3) && decide (τ 155 11 = 0) && decide (τ 155 12 = -1)
def chk1 (o : Option (Int32 × f_M)) (p : Int32 → f_M → Bool) : Bool := match o with
  | some t => p t.1 t.2
  | none => false
theorem chk1_some {o : Option (Int32 × f_M)} {p : Int32 → f_M → Bool} (h : chk1 o p = true) : ∃ v τ, o = some (v, τ) ∧ p v τ = true := by
  cases o with
  | none => exact absurd h Bool.false_ne_true
  | some t => exact ⟨t.1, t.2, rfl, h⟩
theorem run_0 : chk1 (rest65 τ02) (fun v τ => chk0 v τ && (List.range 2420).all (fun i => decide (τ 156 i = s40 i))) = true := by decide +kernel
theorem load_0 : ∃ τ', g_65 τ00 = some (3, τ') ∧ τ' 155 11 = 0 ∧ τ' 155 12 = -1 ∧ ∀ i, i < 2420 → τ' 156 i = s40 i := by
  obtain ⟨v, τ', e, h⟩ := chk1_some run_0
  rw [Bool.and_eq_true] at h
  obtain ⟨h1, h2⟩ := h
  unfold chk0 at h1
  simp only [Bool.and_eq_true, decide_eq_true_eq] at h1
  obtain ⟨⟨h1, h3⟩, h4⟩ := h1
  refine ⟨τ', ?_, h3, h4, fun i hi => ?_⟩
  · rw [g_65_0, e, h1]
  · exact of_decide_eq_true (List.all_eq_true.mp h2 i (List.mem_range.mpr hi))
theorem IV_zero : ∃ σ1 σ2 σ4, g_34 f_s0 = some σ1 ∧ g_35 (f_s1 σ1) = some σ2 ∧ g_40 (f_row σ2 166 (fun _ => 0)) = some σ4 ∧ IV 0 (f_row σ4 167 (fun _ => 0)) (f_row σ4 167 (fun _ => 0)) := by
  obtain ⟨x1, l1, l2, l3, l4, l5⟩ := L_34
  obtain ⟨τ', m1, m2, m3, m4⟩ := load_0
  have b : fb x1 := fun i hi => by
    rw [l5 7 (by omega) (by omega)]
    rfl
  have tx : tX x1 τ00 78 := ⟨l2, rfl, by omega, fun i hi => by rw [l3 i hi]; rfl⟩
  rcases P_load b tx with ⟨hc, ac, σ1, τ2, c1, n1, S, ⟨w1, w2, w3, w4⟩, F⟩ | ⟨σ1, τ2, c1, n1, -⟩
  · obtain ⟨rfl⟩ : τ' = τ2 := by
      rw [m1] at n1
      exact (Prod.mk.inj (Option.some.inj n1)).2
    obtain ⟨b', ⟨t1, t2⟩, ⟨e1, e2⟩, ⟨o1, o2, o3, o4⟩, ⟨p1, p2, p3, p4⟩, fc, fm⟩ := F
    have g34 : g_34 f_s0 = some σ1 := by rw [g_34_eq, l1, bnd, c1, bnd]
    have g35 := M_clear (f_s1 σ1)
    have h6 : f_row (f_row (f_s1 σ1) 156 (clr (f_s1 σ1 156))) 166 (fun _ => 0) 156 = clr (fun _ => 0) := by
      rw [row_ne (by omega), row_same, f_s1_n _ (by omega)]
    obtain ⟨σ4, g40, k1, k2, k3⟩ := L_40 h6
    refine ⟨σ1, _, σ4, g34, g35, g40, ?_⟩
    have r : ∀ r, r < 155 → f_row σ4 167 (fun _ => 0) r = σ1 r := fun r h => by
      rw [row_ne (by omega), k3 r (by omega) (by omega) (by omega) (by omega), row_ne (by omega), row_ne (by omega)]
      exact if_pos h
    have r5 : ∀ i, i ≠ 8 → i ≠ 12 → f_row σ4 167 (fun _ => 0) 155 i = 0 := fun i h h' => by
      rw [row_ne (by omega), k2 i h, row_ne (by omega), row_ne (by omega), f_s1_0]
      exact if_neg h'
    have r12 : f_row σ4 167 (fun _ => 0) 155 12 = -1 := by
      rw [row_ne (by omega), k2 12 (by omega), row_ne (by omega), row_ne (by omega), f_s1_0]
      rfl
    have r6 : ∀ i, i < 2420 → f_row σ4 167 (fun _ => 0) 156 i = τ' 156 i := fun i hi => by
      rw [row_ne (by omega), k1, m4 i hi]
    generalize f_row σ4 167 (fun _ => 0) = μ at *
    obtain ⟨K, R1, R2, R3⟩ := sAll_keep (σ' := μ) (τ' := τ') S (fun q h h' => r q (by omega)) rfl
    have hh := K.1
    refine ⟨0, hc, ac, 0, 0, fun _ => 0, 0, 0, 0, 0, fun _ _ => 0, ⟨kAll_low r6 K, rB_low hh.1.2 hh.2.2.2.1.2 hh.2.2.2.2.2 r6 R1, rL_low hh.2.1.2.2 hh.2.2.2.1.2 hh.2.2.2.2.2 r6 R2, rS_low hh.2.1.2.2 hh.2.2.1.2.2 (kAll_len K) r6 R3⟩, ⟨fun _ => 0, fun _ => 0, fun _ => 0, fun _ => 0, fun _ => 0, fun _ _ => 0, ⟨by rw [r 44 (by omega)]; exact w1, ?_, by omega, by omega⟩, fun i hi => absurd hi (by omega), fun i j _ hi => absurd hi (by omega), fun i hi => absurd hi (by omega)⟩, ⟨r5 4 (by omega) (by omega), fun i hi => absurd hi (by omega)⟩, Or.inl ⟨by rw [r 0 (by omega)]; exact w3, r5 5 (by omega) (by omega)⟩, ⟨0, by rw [r 0 (by omega)]; exact t1, r5 10 (by omega) (by omega), by omega, fun i hi => absurd hi (by omega)⟩, ⟨?_, ?_⟩, fb_keep b' (r 7 (by omega)), ⟨0, by omega, ?_, r5 24 (by omega) (by omega), fun i hi => absurd hi (by omega)⟩⟩
    · rw [r 44 (by omega), o4, l5 44 (by omega) (by omega)]; rfl
    · rw [r 3 (by omega), e1, m2, r5 11 (by omega) (by omega)]
    · rw [r 3 (by omega), e2, m3, r12]
    · rw [r 0 (by omega), o1, l4 3 (by omega)]; rfl
  · rw [m1] at n1
    exact absurd (Prod.mk.inj (Option.some.inj n1)).1 (by decide)
