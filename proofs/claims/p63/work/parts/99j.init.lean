/-! The beginning: class and model as their constructors leave them. -/
def txt0 : Nat → Int32 := fun i => (w_sb.getD 0 []).getD i 0
theorem txt_ok : ∀ i, i < 78 → ((((w_sb.getD 0 []).getD i 0 &&& 255).toInt8.toInt32).toInt8.toInt32) = txt0 i := by decide +kernel
def l34 (s1 : Int32 × f_M) : Option ((Int32 × f_M) ⊕ f_M) :=
   if (f_sl 0) ≤ s1.1 then (
    some (.inr s1.2)
   ) else (
    if (600 : Int32) ≤ s1.1 then (
     some (.inr s1.2)
    ) else (
     (f_ch 0 s1.1).bind fun v2 =>
     (f_wr s1.2 1 600 s1.1 ((v2).toInt8.toInt32).toInt8.toInt32).bind fun m3 =>
     some (.inl ((s1.1 + (1 : Int32)), (f_up m3 0 1 (s1.1 + (1 : Int32)))))
    )
   )
theorem g_34_eq (σ : f_M) : g_34 σ = (f_lp l34 f_F ((0 : Int32), σ)).bind fun (x1 : f_M) =>
  (g_33  x1).bind fun t6 =>
  some t6.2 := by
  unfold g_34; rfl
theorem L_34 : ∃ x1, f_lp l34 f_F ((0 : Int32), f_s0) = some x1 ∧ x1 0 1 = nI 78 ∧ (∀ i, i < 78 → x1 1 i = txt0 i) ∧ (∀ i, i ≠ 1 → x1 0 i = 0) ∧ ∀ r, r ≠ 0 → r ≠ 1 → x1 r = f_s0 r := by
  refine lp_inv (fun j (z : Int32 × f_M) => ∃ (σj : f_M), z = (nI j, σj) ∧ σj 0 1 = nI j ∧ (∀ i, i < j → σj 1 i = txt0 i) ∧ (∀ i, i ≠ 1 → σj 0 i = 0) ∧ ∀ r, r ≠ 0 → r ≠ 1 → σj r = f_s0 r) _ 78 (f_F_lt (by omega)) ⟨f_s0, rfl, rfl, fun i h => absurd h (by omega), fun _ _ => rfl, fun _ _ _ => rfl⟩ ?_ ?_
  · rintro j z hj ⟨σj, rfl, h1, h2, h3, h4⟩
    have hch : f_ch 0 (nI j) = some ((w_sb.getD 0 []).getD j 0 &&& 255) := f_ch_n (by
      have : w_sl.getD 0 0 = 78 := rfl
      omega) (by omega)
    have n1 : nI j + (1 : Int32) = nI (j + 1) := n_add j 1
    refine Or.inl ⟨(nI (j + 1), f_up (f_up σj 1 j (txt0 j)) 0 1 (nI (j + 1))), ?_, _, rfl, up_same _ _ _ _, fun i hi => ?_, fun i h => ?_, fun r h h' => ?_⟩
    · unfold l34
      dsimp only
      rw [show f_sl 0 = nI 78 from rfl, if_neg (by rw [n_le (by omega) (by omega)]; omega), if_neg (by rw [show (600 : Int32) = nI 600 from rfl, n_le (by omega) (by omega)]; omega), hch, bnd, txt_ok j hj, f_wr_n (by omega) (by omega), bnd, n1]
    · rw [up_rows (by omega)]
      by_cases e : i = j
      · subst e; exact up_same _ _ _ _
      · rw [up_ix e]; exact h2 i (by omega)
    · rw [up_ix h, up_rows (by omega)]; exact h3 i h
    · rw [up_rows h, up_rows h']; exact h4 r h h'
  · rintro z ⟨σj, rfl, h1, h2, h3, h4⟩
    refine ⟨σj, ?_, h1, h2, h3, h4⟩
    unfold l34
    dsimp only
    rw [show f_sl 0 = nI 78 from rfl, if_pos (by decide)]
def cha1 : Nat → Int32 := fun k => (w_sb.getD 1 []).getD k 0 &&& 255
def bal0 : Nat → Int32 := fun j => if j = 0 then 200 else if j = 1 then 60 else 500
def sI : Nat → Nat → Int32
  | 0 => clr (fun _ => 0)
  | j + 1 => s_addH (sI j) cha1 (4 * j) 3 j (bal0 j)
def sJ1 : Nat → Int32 := upd (upd (sI 3) (95 + 0) 0) 3 (nI (0 + 1))
def sJ2 : Nat → Int32 := upd (upd sJ1 (95 + 1) 4) 3 (nI (1 + 1))
def sK : Nat → Int32 := upd sJ2 1 300
def s40 : Nat → Int32 := upd sK 9 (sK 1 + sumI (fun h => sK (20 + 9 * h + 7)) 3)
def i40 (a : Int32) (s5 : Int32 × f_M) : Option ((Int32 × f_M) ⊕ f_M) :=
     if (3 : Int32) ≤ s5.1 then (
      some (.inr s5.2)
     ) else (
      (f_ch 1 (((4 : Int32) * a) + s5.1)).bind fun v6 =>
      (f_wr s5.2 160 6 s5.1 v6).bind fun m7 =>
      some (.inl ((s5.1 + (1 : Int32)), m7))
     )
def o40 (s4 : Int32 × f_M) : Option ((Int32 × f_M) ⊕ f_M) :=
   if (3 : Int32) ≤ s4.1 then (
    some (.inr s4.2)
   ) else (
    (f_lp (i40 s4.1) f_F ((0 : Int32), (f_up s4.2 155 8 (3 : Int32)))).bind fun (x5 : f_M) =>
    (f_rd x5 166 3 s4.1).bind fun v9 =>
    (g_37 v9 x5).bind fun t10 =>
    some (.inl ((s4.1 + (1 : Int32)), t10))
   )
theorem g_40_eq (σ : f_M) : g_40 σ = (f_wr σ 166 3 (0 : Int32) (200 : Int32)).bind fun m1 =>
  (f_wr m1 166 3 (1 : Int32) (60 : Int32)).bind fun m2 =>
  (f_wr m2 166 3 (2 : Int32) (500 : Int32)).bind fun m3 =>
  (f_lp o40 f_F ((0 : Int32), m3)).bind fun (x4 : f_M) =>
  (g_38 (0 : Int32) x4).bind fun t12 =>
  (g_38 (4 : Int32) t12).bind fun t13 =>
  (f_wr t13 156 2420 (1 : Int32) (300 : Int32)).bind fun m14 =>
  (g_39  m14).bind fun t15 =>
  (f_wr m14 156 2420 (9 : Int32) t15).bind fun m16 =>
  some m16 := by
  unfold g_40; rfl
theorem L_i40 {j : Nat} (hj : j < 3) (τ : f_M) : ∃ τ', f_lp (i40 (nI j)) f_F ((0 : Int32), τ) = some τ' ∧ (∀ k, k < 3 → τ' 160 k = cha1 (4 * j + k)) ∧ ∀ r, r ≠ 160 → τ' r = τ r := by
  refine lp_inv (fun i (z : Int32 × f_M) => ∃ (τj : f_M), z = (nI i, τj) ∧ (∀ k, k < i → τj 160 k = cha1 (4 * j + k)) ∧ ∀ r, r ≠ 160 → τj r = τ r) _ 3 (f_F_lt (by omega)) ⟨τ, rfl, fun i h => absurd h (by omega), fun _ _ => rfl⟩ ?_ ?_
  · rintro i z hi ⟨τj, rfl, h1, h2⟩
    have hch : f_ch 1 (nI (4 * j + i)) = some (cha1 (4 * j + i)) := f_ch_n (by
      have : w_sl.getD 1 0 = 12 := rfl
      omega) (by omega)
    refine Or.inl ⟨(nI (i + 1), f_up τj 160 i (cha1 (4 * j + i))), ?_, _, rfl, fun k hk => ?_, fun r h => (up_rows h).trans (h2 r h)⟩
    · unfold i40
      dsimp only
      rw [if_neg (by rw [show (3 : Int32) = nI 3 from rfl, n_le (by omega) (by omega)]; omega), show (4 : Int32) = nI 4 from rfl, n_mul, n_add, hch, bnd, f_wr_n (by omega) (by omega), bnd, show nI i + (1 : Int32) = nI (i + 1) from n_add i 1]
    · by_cases e : k = i
      · subst e; exact up_same _ _ _ _
      · rw [up_ix e]; exact h1 k (by omega)
  · rintro z ⟨τj, rfl, h1, h2⟩
    refine ⟨τj, ?_, h1, h2⟩
    unfold i40
    dsimp only
    rw [if_pos (by decide)]
theorem sI_2 : ∀ j, j < 4 → sI j 2 = nI j := by decide +kernel
theorem L_40 {μ : f_M} (e6 : μ 156 = clr (fun _ => 0)) : ∃ τ', g_40 μ = some τ' ∧ τ' 156 = s40 ∧ (∀ i, i ≠ 8 → τ' 155 i = μ 155 i) ∧ ∀ r, r ≠ 155 → r ≠ 156 → r ≠ 160 → r ≠ 166 → τ' r = μ r := by
  rw [g_40_eq, show f_wr μ 166 3 (0 : Int32) (200 : Int32) = _ from f_wr_n (p := 0) (by omega) (by omega), bnd, show f_wr (f_up μ 166 0 200) 166 3 (1 : Int32) (60 : Int32) = _ from f_wr_n (p := 1) (by omega) (by omega), bnd, show f_wr (f_up (f_up μ 166 0 200) 166 1 60) 166 3 (2 : Int32) (500 : Int32) = _ from f_wr_n (p := 2) (by omega) (by omega), bnd]
  have b6 : ∀ j, j < 3 → f_up (f_up (f_up μ 166 0 200) 166 1 60) 166 2 500 166 j = bal0 j := fun j hj => by
    obtain rfl | rfl | rfl : j = 0 ∨ j = 1 ∨ j = 2 := by omega
    · rw [up_ix (by omega), up_ix (by omega), up_same]; rfl
    · rw [up_ix (by omega), up_same]; rfl
    · rw [up_same]; rfl
  have br : ∀ r, r ≠ 166 → f_up (f_up (f_up μ 166 0 200) 166 1 60) 166 2 500 r = μ r := fun r h => by rw [up_rows h, up_rows h, up_rows h]
  generalize f_up (f_up (f_up μ 166 0 200) 166 1 60) 166 2 500 = μ3 at *
  obtain ⟨x4, e, q1, q2, q3⟩ : ∃ x4, f_lp o40 f_F ((0 : Int32), μ3) = some x4 ∧ (x4 156 = sI 3 ∧ (∀ i, i ≠ 8 → x4 155 i = μ3 155 i) ∧ ∀ r, r ≠ 155 → r ≠ 156 → r ≠ 160 → x4 r = μ3 r) := by
    refine lp_inv (fun j (z : Int32 × f_M) => ∃ (τj : f_M), z = (nI j, τj) ∧ τj 156 = sI j ∧ (∀ i, i ≠ 8 → τj 155 i = μ3 155 i) ∧ ∀ r, r ≠ 155 → r ≠ 156 → r ≠ 160 → τj r = μ3 r) _ 3 (f_F_lt (by omega)) ⟨μ3, rfl, (br 156 (by omega)).trans e6, fun _ _ => rfl, fun _ _ _ _ => rfl⟩ ?_ ?_
    · rintro j z hj ⟨τj, rfl, h1, h2, h3⟩
      obtain ⟨τ1, c1, c2, c3⟩ := L_i40 hj (f_up τj 155 8 3)
      have e1 : τ1 156 = sI j := by rw [c3 156 (by omega), up_rows (by omega), h1]
      have mA := M_addH (t := cha1) (S := 4 * j) (n := 3) (hc := j) (b := bal0 j) (τ := τ1) (by rw [c3 155 (by omega), up_same]; rfl) (by omega) c2 (by rw [e1]; exact sI_2 j (by omega)) (by omega)
      refine Or.inl ⟨(nI (j + 1), f_row τ1 156 (s_addH (τ1 156) cha1 (4 * j) 3 j (bal0 j))), ?_, _, rfl, ?_, fun i h => ?_, fun r h h' h9 => ?_⟩
      · unfold o40
        dsimp only
        rw [if_neg (by rw [show (3 : Int32) = nI 3 from rfl, n_le (by omega) (by omega)]; omega), c1, bnd, f_rd_n (by omega) (by omega), bnd, c3 166 (by omega), up_rows (by omega), h3 166 (by omega) (by omega) (by omega), b6 j hj, mA, bnd, show nI j + (1 : Int32) = nI (j + 1) from n_add j 1]
      · rw [row_same, e1]; rfl
      · rw [row_ne (by omega), c3 155 (by omega), up_ix h]; exact h2 i h
      · rw [row_ne h', c3 r h9, up_rows h]; exact h3 r h h' h9
    · rintro z ⟨τj, rfl, h1, h2, h3⟩
      refine ⟨τj, ?_, h1, h2, h3⟩
      unfold o40
      dsimp only
      rw [if_pos (by decide)]
  have a1 := M_addA (ac := 0) (v := 0) (τ := x4) (by rw [q1]; decide +kernel) (by omega)
  rw [q1] at a1
  have a2 := M_addA (ac := 1) (v := 4) (τ := f_row x4 156 sJ1) (by rw [row_same]; decide +kernel) (by omega)
  rw [row_same, row_row] at a2
  have a3 : f_wr (f_row x4 156 sJ2) 156 2420 (1 : Int32) (300 : Int32) = some (f_row x4 156 sK) := by
    rw [show f_wr (f_row x4 156 sJ2) 156 2420 (1 : Int32) (300 : Int32) = _ from wrS (k := 1) (by omega), row_same, row_row]
    rfl
  have a4 := M_money (τ := f_row x4 156 sK) (hc := 3) (by rw [row_same]; decide +kernel) (by omega)
  rw [row_same] at a4
  have a5 : f_wr (f_row x4 156 sK) 156 2420 (9 : Int32) (sK 1 + sumI (fun h => sK (20 + 9 * h + 7)) 3) = some (f_row x4 156 s40) := by
    rw [show f_wr (f_row x4 156 sK) 156 2420 (9 : Int32) (sK 1 + sumI (fun h => sK (20 + 9 * h + 7)) 3) = _ from wrS (k := 9) (by omega), row_same, row_row]
    rfl
  rw [e, bnd, a1, bnd]
  rw [show g_38 4 (f_row x4 156 (upd (upd (sI 3) (95 + 0) 0) 3 (nI (0 + 1)))) = some (f_row x4 156 sJ2) from a2, bnd, a3, bnd, a4, bnd, a5, bnd]
  refine ⟨_, rfl, row_same _ _ _, fun i h => ?_, fun r h h' h9 h6 => ?_⟩
  · rw [row_ne (by omega), q2 i h, br 155 (by omega)]
  · rw [row_ne h', q3 r h h' h9, br r h6]
