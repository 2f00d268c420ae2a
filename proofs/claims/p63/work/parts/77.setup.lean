/-! loadSetup: a new state, or the old one. -/
def s_open (s : Nat → Int32) (hc : Nat) : Nat → Int32 := upd s 9 (s 1 + sumI (fun h => s (20 + 9 * h + 7)) hc)
theorem K_open {σ : f_M} {s : Nat → Int32} {hc ac : Nat} (d : dS σ s hc ac) (h1 : 1 ≤ hc) (h2 : 1 ≤ ac) : kAll (s_open s hc) 0 0 hc ac 0 0 (fun _ => 0) 0 0 := by
  obtain ⟨d1, d2, d3, d4, d5, d6, d7⟩ := d
  have es : ∀ k, k ≠ 9 → s_open s hc k = s k := fun k h => upd_ne h
  have hh8 := d1.2.2
  have ha3 := d2.2.2
  refine ⟨⟨⟨?_, by omega⟩, ⟨?_, h1, hh8⟩, ⟨?_, h2, ha3⟩, ⟨?_, by omega⟩, ⟨?_, by omega⟩⟩, fun p hp => absurd hp (by omega), fun c hc => absurd hc (by omega), ⟨by omega, rfl, rfl, fun i hi => absurd hi (by omega), fun i j hi => absurd hi (by omega), fun i hi => absurd hi (by omega), fun c hc => absurd hc (by omega), fun i j _ hi => absurd hi (by omega)⟩, ⟨?_, fun c hc => absurd hc (by omega)⟩, ⟨fun h hh => ?_, ?_⟩, ⟨fun c _ hc => absurd hc (by omega), fun p hp => absurd hp (by omega)⟩, ⟨?_, 0, by omega, ?_, fun h hh => ?_⟩, ⟨fun x hx => ?_, fun h hh => ?_⟩, fun t ht => absurd ht (by omega)⟩
  · rw [es 0 (by omega)]; exact d6.1 0 (by omega)
  · rw [es 2 (by omega)]; exact d1.2.1
  · rw [es 3 (by omega)]; exact d2.2.1
  · rw [es 4 (by omega)]; exact d6.1 4 (by omega)
  · rw [es 5 (by omega)]; exact d6.1 5 (by omega)
  · rw [es 10 (by omega)]; exact d6.1 10 (by omega)
  · rw [es _ (by omega)]; exact d6.2 h (by omega)
  · rw [es 7 (by omega)]; exact d6.1 7 (by omega)
  · rw [es 1 (by omega), es 8 (by omega), d6.1 8 (by omega), show s_open s hc 9 = s 1 + sumI (fun h => s (20 + 9 * h + 7)) hc from upd_same, sumI_congr (g := fun h => s (20 + 9 * h + 7)) (fun h hh => es _ (by omega)), show nI 0 = (0 : Int32) from rfl, Int32.add_zero]
  · rw [es 8 (by omega)]; exact d6.1 8 (by omega)
  · obtain ⟨-, -, m, m1, m2⟩ := d5 h hh
    rw [es _ (by omega)]
    exact ⟨m, m2, by omega⟩
  · rw [es _ (by omega)]; exact (d4 x hx).2
  · obtain ⟨⟨n, n1, n2, -, n4, n5⟩, -⟩ := d5 h hh
    refine ⟨n, n1, n2, ?_, fun k hk => ?_⟩
    · rw [es _ (by omega)]; exact n4
    · rw [es _ (by omega)]; exact (n5 k hk).2
/-- what reading a setup changes at all -/
def ldF (σ σ' τ τ' : f_M) : Prop := fb σ' ∧ (σ' 0 1 = nI 0 ∧ τ' 155 10 = nI 0) ∧ (σ' 3 6 = τ' 155 11 ∧ σ' 3 7 = τ' 155 12) ∧ (σ' 0 3 = σ 0 3 ∧ σ' 1 = σ 1 ∧ σ' 2 = σ 2 ∧ σ' 44 1 = σ 44 1) ∧ (τ' 155 6 = nI 0 ∧ τ' 155 24 = τ 155 24 ∧ τ' 161 = τ 161 ∧ τ' 165 = τ 165) ∧ (∀ r, 155 ≤ r → σ' r = σ r) ∧ ∀ r, (r < 155 ∨ 165 < r) → τ' r = τ r
/-- all of the state in both -/
def sAll (σ τ : f_M) (D ck hc ac pc cc : Nat) (g : Nat → Nat) (q n : Nat) : Prop := kAll (τ 156) D ck hc ac pc cc g q n ∧ rB σ 108 (τ 156) ck pc cc ∧ rL σ 121 (τ 156) hc pc cc g q n ∧ rS σ 103 (τ 156) hc ac
set_option maxHeartbeats 3000000 in
theorem P_load {σ τ : f_M} {len : Nat} (b : fb σ) (tx : tX σ τ len) :
    (∃ hc ac σ' τ', g_33 σ = some (nI hc, σ') ∧ g_65 τ = some (nI hc, τ') ∧ sAll σ' τ' 0 0 hc ac 0 0 (fun _ => 0) 0 0 ∧ (σ' 44 2 = nI 0 ∧ τ' 155 4 = nI 0 ∧ σ' 0 15 = nI 0 ∧ τ' 155 5 = nI 0) ∧ ldF σ σ' τ τ') ∨
    ∃ σ' τ', g_33 σ = some (-1, σ') ∧ g_65 τ = some (-1, τ') ∧ ((∀ r, r ≠ 0 → (r < 3 ∨ 9 < r) → σ' r = σ r) ∧ ∀ i, i ≠ 1 → σ' 0 i = σ 0 i) ∧ ((∀ i, i < 2420 → τ' 156 i = τ 156 i) ∧ (∀ r, r ≠ 155 → r ≠ 156 → r ≠ 157 → r ≠ 160 → τ' r = τ r) ∧ τ' 155 4 = τ 155 4 ∧ τ' 155 5 = τ 155 5) ∧ ldF σ σ' τ τ' := by
  obtain ⟨t1, t2, tl, tt⟩ := tx
  obtain ⟨σ0, c0, x0, p0, z1, z0, zr⟩ := C_9 t1 tl
  have b0 : fb σ0 := fb_keep b (zr 7 (by omega) (by omega))
  -- the model's beginning
  have a1 := M_put (σ := f_up τ 155 6 (0 : Int32)) (b := 157) (by omega)
  have a2 := M_clear (f_row (f_up τ 155 6 (0 : Int32)) 157 (cpN (f_up τ 155 6 (0 : Int32) 156) (f_up τ 155 6 (0 : Int32) 157) 2420))
  generalize hτa : f_row (f_up τ 155 6 (0 : Int32)) 157 (cpN (f_up τ 155 6 (0 : Int32) 156) (f_up τ 155 6 (0 : Int32) 157) 2420) = τa at *
  have ra : ∀ r, r ≠ 155 → r ≠ 157 → τa r = τ r := fun r h1 h2 => by rw [← hτa, row_ne h2, up_rows h1]
  have ra5 : ∀ i, i ≠ 6 → τa 155 i = τ 155 i := fun i h => by rw [← hτa, row_ne (by omega), up_ix h]
  have ra6 : τa 155 6 = nI 0 := by rw [← hτa, row_ne (by omega), up_same]; rfl
  have ra7 : ∀ i, i < 2420 → τa 157 i = τ 156 i := fun i h => by rw [← hτa, row_same, cpN_in h, up_rows (by omega)]
  generalize hτb : f_row τa 156 (clr (τa 156)) = τb at *
  have rb : ∀ r, r ≠ 156 → τb r = τa r := fun r h => by rw [← hτb, row_ne h]
  have rb6 : τb 156 = clr (τa 156) := by rw [← hτb, row_same]
  obtain ⟨τ1, τ2, m1, m2, q2, cases3⟩ := P_read (τ := τb) x0 p0 b0 (len := len) (by rw [rb 155 (by omega), ra5 10 (by omega)]; exact t2) (fun i hi => by rw [rb 161 (by omega), ra 161 (by omega) (by omega)]; exact tt i hi) rb6
  have hm : ∀ (o : Option (Int32 × f_M)), ((f_rd τ2 156 2420 (2 : Int32)).bind fun v8 =>
  (
   if v8 ≤ 0 then (
    some false
   ) else (
    (f_rd τ2 156 2420 (3 : Int32)).bind fun v10 =>
    if v10 ≤ 0 then (
     some false
    ) else (
     some true
    )
   )
  ).bind fun (t9 : Bool) =>
  (g_54 t9 (5 : Int32) τ2).bind fun t13 =>
  (g_63  t13).bind fun t14 =>
  if (t14 155 17) ≤ 0 then (
   (g_39  t14).bind fun t15 =>
   (f_wr t14 156 2420 (9 : Int32) t15).bind fun m16 =>
   (f_rd (f_up (f_up m16 155 4 (0 : Int32)) 155 5 (0 : Int32)) 156 2420 (2 : Int32)).bind fun v17 =>
   some (v17, (f_up (f_up m16 155 4 (0 : Int32)) 155 5 (0 : Int32)))
  ) else (
   (g_64 157 t14).bind fun t18 =>
   some ((-1 : Int32), t18)
  )) = o → g_65 τ = o := fun o h => by
    rw [g_65_eq, a1, bnd, a2, bnd, m1, bnd, m2, bnd]; exact h
  -- frames of the model
  have k2 : ∀ r, r ≠ 155 → r ≠ 156 → r ≠ 157 → r ≠ 160 → τ2 r = τ r := fun r h1 h2 h3 h4 => by rw [q2.1 r h1 h2 h4, rb r h2, ra r h1 h3]
  have k5 : ∀ i, (i < 8 ∨ (8 < i ∧ i < 13) ∨ 18 < i) → i ≠ 6 → τ2 155 i = τ 155 i := fun i h h6 => by rw [q2.2 i h, rb 155 (by omega), ra5 i h6]
  have k6 : τ2 155 6 = nI 0 := by rw [q2.2 6 (by omega), rb 155 (by omega)]; exact ra6
  have k7 : τ2 157 = τa 157 := by rw [q2.1 157 (by omega) (by omega) (by omega), rb 157 (by omega)]
  -- a fault
  have bad : ∀ (τ3 : f_M) (c S : Nat) (σ' : f_M), mE τ3 c S → (∀ r, r ≠ 155 → τ3 r = τ2 r) → (∀ i, i < 17 ∨ 18 < i → τ3 155 i = τ2 155 i) → g_28 σ0 = some (false, σ') → σ' 3 6 = nI c → σ' 3 7 = nI S → fb σ' → sFr σ0 σ' →
      (∀ o, ((g_63  τ3).bind fun t14 =>
  if (t14 155 17) ≤ 0 then (
   (g_39  t14).bind fun t15 =>
   (f_wr t14 156 2420 (9 : Int32) t15).bind fun m16 =>
   (f_rd (f_up (f_up m16 155 4 (0 : Int32)) 155 5 (0 : Int32)) 156 2420 (2 : Int32)).bind fun v17 =>
   some (v17, (f_up (f_up m16 155 4 (0 : Int32)) 155 5 (0 : Int32)))
  ) else (
   (g_64 157 t14).bind fun t18 =>
   some ((-1 : Int32), t18)
  )) = o → g_65 τ = o) → ∃ σ' τ', g_33 σ = some (-1, σ') ∧ g_65 τ = some (-1, τ') ∧ ((∀ r, r ≠ 0 → (r < 3 ∨ 9 < r) → σ' r = σ r) ∧ ∀ i, i ≠ 1 → σ' 0 i = σ 0 i) ∧ ((∀ i, i < 2420 → τ' 156 i = τ 156 i) ∧ (∀ r, r ≠ 155 → r ≠ 156 → r ≠ 157 → r ≠ 160 → τ' r = τ r) ∧ τ' 155 4 = τ 155 4 ∧ τ' 155 5 = τ 155 5) ∧ ldF σ σ' τ τ' := by
    intro τ3 c S σ' e f3 f5 cf e6 e7 bf sf hend
    have e3 := M_63_bad e
    generalize hτ4 : f_up (f_up (f_up τ3 155 11 (nI c)) 155 12 (nI S)) 155 10 (nI 0) = τ4 at *
    have g4 : ∀ r, r ≠ 155 → τ4 r = τ2 r := fun r h => by rw [← hτ4, up_rows h, up_rows h, up_rows h, f3 r h]
    have g5 : ∀ i, (i < 10 ∨ 18 < i) → τ4 155 i = τ2 155 i := fun i h => by rw [← hτ4, up_ix (by omega), up_ix (by omega), up_ix (by omega), f5 i (by omega)]
    have n17 : ¬ τ4 155 17 ≤ 0 := by rw [← hτ4, up_ix (by omega), up_ix (by omega), up_ix (by omega)]; exact e.nle
    have e4 := M_get (σ := τ4) (a := 157) (by omega)
    refine ⟨σ', f_row τ4 156 (cpN (τ4 157) (τ4 156) 2420), ?_, ?_, ⟨fun r h1 h2 => ?_, fun i h => ?_⟩, ⟨fun i h => ?_, fun r h1 h2 h3 h4 => ?_, ?_, ?_⟩, bf, ⟨?_, ?_⟩, ⟨?_, ?_⟩, ⟨?_, ?_, ?_, ?_⟩, ⟨?_, ?_, ?_, ?_⟩, fun r h => ?_, fun r h => ?_⟩
    · unfold g_33
      rw [c0, bnd, cf, bnd]; rfl
    · refine hend _ ?_
      rw [e3, bnd, if_neg n17, e4, bnd]
    · rw [sf r h2, zr r h1 (by omega)]
    · rw [sf 0 (by omega), z0 i h]
    · rw [row_same, cpN_in h, g4 157 (by omega), k7]; exact ra7 i h
    · rw [row_ne h2, g4 r h1, k2 r h1 h2 h3 h4]
    · rw [row_ne (by omega), g5 4 (by omega), k5 4 (by omega) (by omega)]
    · rw [row_ne (by omega), g5 5 (by omega), k5 5 (by omega) (by omega)]
    · rw [sf 0 (by omega)]; exact z1
    · rw [row_ne (by omega), ← hτ4, up_same]
    · rw [row_ne (by omega), ← hτ4, up_ix (by omega), up_ix (by omega), up_same]; exact e6
    · rw [row_ne (by omega), ← hτ4, up_ix (by omega), up_same]; exact e7
    · rw [sf 0 (by omega), z0 3 (by omega)]
    · rw [sf 1 (by omega), zr 1 (by omega) (by omega)]
    · rw [sf 2 (by omega), zr 2 (by omega) (by omega)]
    · rw [sf 44 (by omega), zr 44 (by omega) (by omega)]
    · rw [row_ne (by omega), g5 6 (by omega)]; exact k6
    · rw [row_ne (by omega), g5 24 (by omega), k5 24 (by omega) (by omega)]
    · rw [row_ne (by omega), g4 161 (by omega), k2 161 (by omega) (by omega) (by omega) (by omega)]
    · rw [row_ne (by omega), g4 165 (by omega), k2 165 (by omega) (by omega) (by omega) (by omega)]
    · rw [sf r (by omega), zr r (by omega) (by omega)]
    · rw [row_ne (by omega), g4 r (by omega), k2 r (by omega) (by omega) (by omega) (by omega)]
  rcases cases3 with ⟨hc, ac, σ', c3, y17, h1, h2, d, c30, c36, c37, sf⟩ | ⟨c, S, σ', c3, fl, bf, sf⟩ | ⟨hc, ac, S, σ', c3, y17, e2, e3, hh8, ha3, h0, e13, e6, e7, bf, sf⟩
  · refine Or.inl ?_
    have hh8 := d.1.2.2
    have ha3 := d.2.1.2.2
    have n1 : ¬ nI hc ≤ 0 := by rw [show (0 : Int32) = nI 0 from rfl, n_le (by omega) (by omega)]; omega
    have n2 : ¬ nI ac ≤ 0 := by rw [show (0 : Int32) = nI 0 from rfl, n_le (by omega) (by omega)]; omega
    have e3 := M_63_ok y17
    generalize hτ4 : f_up (f_up (f_up τ2 155 11 (nI 0)) 155 12 (-1)) 155 10 (nI 0) = τ4 at *
    have g4 : ∀ r, r ≠ 155 → τ4 r = τ2 r := fun r h => by rw [← hτ4, up_rows h, up_rows h, up_rows h]
    have g5 : ∀ i, (i < 10 ∨ 12 < i) → τ4 155 i = τ2 155 i := fun i h => by rw [← hτ4, up_ix (by omega), up_ix (by omega), up_ix (by omega)]
    have n17 : τ4 155 17 ≤ 0 := by rw [g5 17 (by omega), y17]; decide
    have mo := M_money (τ := τ4) (by rw [g4 156 (by omega)]; exact d.1.2.1) hh8
    have K := K_open d h1 h2
    have hms : g_65 τ = some (nI hc, f_up (f_up (f_row τ4 156 (s_open (τ4 156) hc)) 155 4 (0 : Int32)) 155 5 (0 : Int32)) := by
      refine hm _ ?_
      rw [show (2 : Int32) = nI 2 from rfl, rdS (by omega), bnd, d.1.2.1, if_neg n1, show (3 : Int32) = nI 3 from rfl, rdS (by omega), bnd, d.2.1.2.1, if_neg n2, bnd, M_exT, bnd, e3, bnd, if_pos n17, mo, bnd, show (9 : Int32) = nI 9 from rfl, wrS (by omega), bnd, rdS (by omega), bnd, up_rows (by omega), up_rows (by omega), row_same, upd_ne (by omega), g4 156 (by omega), d.1.2.1]
      rw [← g4 156 (by omega)]
      rfl
    obtain ⟨σ5, c5, ⟨b0', b4, b6⟩, b8, b48, b3, bz, bres, bf⟩ := C_begin (σ := σ') d.2.2.2.2.2.2
    refine ⟨hc, ac, f_up (f_up σ5 44 2 (0 : Int32)) 0 15 (0 : Int32), _, ?_, hms, ⟨?_, ?_, ?_, ?_⟩, ⟨?_, ?_, ?_, ?_⟩, ?_⟩
    · unfold g_33
      rw [c0, bnd, c3, bnd, if_pos rfl, c5, bnd]
      unfold g_32
      rw [bnd, up_rows (by omega), up_rows (by omega), b0', d.1.1]
    · rw [up_rows (by omega), up_rows (by omega), row_same, g4 156 (by omega)]; exact K
    · exact ⟨fun t ht => absurd ht (by omega), fun p hp => absurd hp (by omega), fun c hc => absurd hc (by omega)⟩
    · rw [up_rows (by omega : (156 : Nat) ≠ 155), up_rows (by omega : (156 : Nat) ≠ 155), row_same, g4 156 (by omega)]
      have es : ∀ k, k ≠ 9 → s_open (τ2 156) hc k = τ2 156 k := fun k h => upd_ne h
      refine ⟨⟨?_, ?_, ?_, ?_, ?_, ?_, ?_, ?_, ?_⟩, fun h hh => ?_, fun p hp => absurd hp (by omega), fun c hc => absurd hc (by omega), fun i hi => absurd hi (by omega)⟩
      · rw [up_rows (by omega), up_rows (by omega), bz 0 (by omega), es 0 (by omega), d.2.2.2.2.2.1.1 0 (by omega)]
      · rw [up_rows (by omega), up_rows (by omega), bres, es 1 (by omega), d.2.2.1.1]
      · rw [up_rows (by omega), up_rows (by omega), bz 3 (by omega), es 4 (by omega), d.2.2.2.2.2.1.1 4 (by omega)]
      · rw [up_rows (by omega), up_rows (by omega), bz 5 (by omega), es 5 (by omega), d.2.2.2.2.2.1.1 5 (by omega)]
      · rw [up_rows (by omega), up_rows (by omega), bz 10 (by omega)]
      · rw [up_rows (by omega), up_rows (by omega), bz 11 (by omega)]
      · rw [up_rows (by omega), up_rows (by omega), bz 12 (by omega), es 6 (by omega), d.2.2.2.2.2.1.1 6 (by omega)]
      · rw [up_rows (by omega), up_rows (by omega), bz 13 (by omega), es 7 (by omega), d.2.2.2.2.2.1.1 7 (by omega)]
      · rw [up_rows (by omega), up_rows (by omega), bz 14 (by omega), es 8 (by omega), d.2.2.2.2.2.1.1 8 (by omega)]
      · rw [up_rows (by omega), up_rows (by omega), (b8 h (by omega)).2.2, es _ (by omega), (d.2.2.2.2.1 h hh).2.1]
    · rw [up_rows (by omega : (156 : Nat) ≠ 155), up_rows (by omega : (156 : Nat) ≠ 155), row_same, g4 156 (by omega)]
      have es : ∀ k, k ≠ 9 → s_open (τ2 156) hc k = τ2 156 k := fun k h => upd_ne h
      refine ⟨⟨?_, ?_⟩, fun x hx => ?_, fun h hh => ?_, ?_⟩
      · rw [up_rows (by omega), up_rows (by omega), b0', d.1.1, es 2 (by omega), d.1.2.1]
      · rw [up_rows (by omega), up_rows (by omega), b4, d.2.1.1, es 3 (by omega), d.2.1.2.1]
      · rw [up_rows (by omega), up_rows (by omega), b3 x (by omega), es _ (by omega), (d.2.2.2.1 x hx).1]
      · obtain ⟨⟨n, n1, n2, n3, n4, n5⟩, -⟩ := d.2.2.2.2.1 h hh
        rw [up_rows (by omega), up_rows (by omega), up_rows (by omega), up_rows (by omega), (b8 h (by omega)).1, n3]
        rw [show s_open (τ2 156) hc (20 + 9 * h + 0) = nI n from (es _ (by omega)).trans n4, nat_n (by omega)]
        refine ⟨rfl, fun k hk => ?_⟩
        rw [b48 _ (by omega), es _ (by omega), (n5 k hk).1]
      · rw [show s_open (τ2 156) hc 9 = τ2 156 1 + sumI (fun h => τ2 156 (20 + 9 * h + 7)) hc from upd_same, up_rows (by omega), up_rows (by omega), b6, d.2.2.1.1]
        refine congrArg (fun z => τ2 156 1 + z) (sumI_congr fun h hh => ?_)
        rw [up_rows (by omega), up_rows (by omega), (b8 h (by omega)).2.1, (d.2.2.2.2.1 h hh).2.1]
    · rw [up_rows (by omega), up_same]; rfl
    · rw [up_ix (by omega), up_same]; rfl
    · rw [up_same]; rfl
    · rw [up_same]; rfl
    · have w : ∀ r, r ≠ 0 → r ≠ 44 → (r < 103 ∨ 107 < r) → r ≠ 121 → r ≠ 122 → f_up (f_up σ5 44 2 (0 : Int32)) 0 15 (0 : Int32) r = σ' r := fun r h1 h2 h3 h4 h5 => by
        rw [up_rows h1, up_rows h2, bf r (by omega) (by omega) (by omega) (by omega) (by omega) (by omega) (by omega)]
      have w0 : ∀ i, i ≠ 15 → f_up (f_up σ5 44 2 (0 : Int32)) 0 15 (0 : Int32) 0 i = σ' 0 i := fun i h => by
        rw [up_ix h, up_rows (by omega), bf 0 (by omega) (by omega) (by omega) (by omega) (by omega) (by omega) (by omega)]
      refine ⟨fb_keep d.2.2.2.2.2.2 (w 7 (by omega) (by omega) (by omega) (by omega) (by omega)), ⟨?_, ?_⟩, ⟨?_, ?_⟩, ⟨?_, ?_, ?_, ?_⟩, ⟨?_, ?_, ?_, ?_⟩, fun r h => ?_, fun r h => ?_⟩
      · rw [w0 1 (by omega), sf 0 (by omega)]; exact z1
      · rw [up_ix (by omega), up_ix (by omega), row_ne (by omega), ← hτ4, up_same]
      · rw [w 3 (by omega) (by omega) (by omega) (by omega) (by omega), c36, up_ix (by omega), up_ix (by omega), row_ne (by omega), ← hτ4, up_ix (by omega), up_ix (by omega), up_same]
      · rw [w 3 (by omega) (by omega) (by omega) (by omega) (by omega), c37, up_ix (by omega), up_ix (by omega), row_ne (by omega), ← hτ4, up_ix (by omega), up_same]
      · rw [w0 3 (by omega), sf 0 (by omega), z0 3 (by omega)]
      · rw [w 1 (by omega) (by omega) (by omega) (by omega) (by omega), sf 1 (by omega), zr 1 (by omega) (by omega)]
      · rw [w 2 (by omega) (by omega) (by omega) (by omega) (by omega), sf 2 (by omega), zr 2 (by omega) (by omega)]
      · rw [up_rows (by omega), up_ix (by omega), bf 44 (by omega) (by omega) (by omega) (by omega) (by omega) (by omega) (by omega), sf 44 (by omega), zr 44 (by omega) (by omega)]
      · rw [up_ix (by omega), up_ix (by omega), row_ne (by omega), g5 6 (by omega)]; exact k6
      · rw [up_ix (by omega), up_ix (by omega), row_ne (by omega), g5 24 (by omega), k5 24 (by omega) (by omega)]
      · rw [up_rows (by omega), up_rows (by omega), row_ne (by omega), g4 161 (by omega), k2 161 (by omega) (by omega) (by omega) (by omega)]
      · rw [up_rows (by omega), up_rows (by omega), row_ne (by omega), g4 165 (by omega), k2 165 (by omega) (by omega) (by omega) (by omega)]
      · rw [w r (by omega) (by omega) (by omega) (by omega) (by omega), sf r (by omega), zr r (by omega) (by omega)]
      · rw [up_rows (by omega), up_rows (by omega), row_ne (by omega), g4 r (by omega), k2 r (by omega) (by omega) (by omega) (by omega)]
  · refine Or.inr ?_
    have e := fl.2.2
    refine bad τ2 c S σ' e (fun _ _ => rfl) (fun _ _ => rfl) c3 fl.1 fl.2.1 bf sf (fun o ho => hm o ?_)
    have hb : ∀ b : Bool, (g_54 b (5 : Int32) τ2) = some τ2 := fun b => M_exF e b _
    have hrd : ∃ b : Bool, ((f_rd τ2 156 2420 (2 : Int32)).bind fun v8 =>
      (
       if v8 ≤ 0 then (
        some false
       ) else (
        (f_rd τ2 156 2420 (3 : Int32)).bind fun v10 =>
        if v10 ≤ 0 then (
         some false
        ) else (
         some true
        )
       )
      )) = some b := by
      rw [show (2 : Int32) = nI 2 from rfl, rdS (by omega), bnd, show (3 : Int32) = nI 3 from rfl, rdS (by omega), bnd]
      by_cases h1 : τ2 156 2 ≤ 0
      · exact ⟨false, if_pos h1⟩
      · rw [if_neg h1]
        by_cases h2 : τ2 156 3 ≤ 0
        · exact ⟨false, if_pos h2⟩
        · exact ⟨true, if_neg h2⟩
    obtain ⟨b', hb'⟩ := hrd
    refine bind_bind hb' ?_
    rw [hb, bnd]
    exact ho
  · refine Or.inr ?_
    have e := mE_now (τ := τ2) (c := 5) (S := S) e13 (by omega) (by omega)
    refine bad (f_up (f_up τ2 155 17 (nI 5)) 155 18 (τ2 155 13)) 5 S σ' e (fun r h => by rw [up_rows h, up_rows h]) (fun i h => by rw [up_ix (by omega), up_ix (by omega)]) c3 e6 e7 bf sf (fun o ho => hm o ?_)
    rw [show (2 : Int32) = nI 2 from rfl, rdS (by omega), bnd, e2]
    by_cases z : hc = 0
    · rw [if_pos (by rw [z]; decide), bnd, M_ex0 y17, bnd]
      exact ho
    · have z2 : ac = 0 := by omega
      rw [if_neg (by rw [show (0 : Int32) = nI 0 from rfl, n_le (by omega) (by omega)]; omega), show (3 : Int32) = nI 3 from rfl, rdS (by omega), bnd, e3, if_pos (by rw [z2]; decide), bnd, M_ex0 y17, bnd]
      exact ho
