/-! The model's past. -/
def shN (f : Nat → Int32) (k : Nat) : Nat → Int32 := fun i => if i < k then f (i + 2420) else f i
theorem shN_zero (f : Nat → Int32) : shN f 0 = f := by
  funext i; exact if_neg (by omega)
theorem shN_succ (f : Nat → Int32) (k : Nat) : upd (shN f k) k (f (k + 2420)) = shN f (k + 1) := by
  funext i
  unfold upd shN
  by_cases h : i = k
  · subst h; rw [if_pos rfl, if_pos (by omega)]
  · rw [if_neg h]
    by_cases h2 : i < k
    · rw [if_pos h2, if_pos (by omega)]
    · rw [if_neg h2, if_neg (by omega)]
def ptN (f g : Nat → Int32) (o k : Nat) : Nat → Int32 := fun i => if o ≤ i ∧ i < o + k then g (i - o) else f i
theorem ptN_zero (f g : Nat → Int32) (o : Nat) : ptN f g o 0 = f := by
  funext i; exact if_neg (by omega)
theorem ptN_succ (f g : Nat → Int32) (o k : Nat) : upd (ptN f g o k) (o + k) (g k) = ptN f g o (k + 1) := by
  funext i
  unfold upd ptN
  by_cases h : i = o + k
  · subst h; rw [if_pos rfl, if_pos (by omega), Nat.add_sub_cancel_left]
  · rw [if_neg h]
    by_cases h2 : o ≤ i ∧ i < o + k
    · rw [if_pos h2, if_pos (by omega)]
    · rw [if_neg h2, if_neg (by omega)]
theorem past_lits : (2420 : Int32) = nI 2420 ∧ (19360 : Int32) = nI 19360 ∧ (8 : Int32) = nI 8 := ⟨rfl, rfl, rfl⟩
theorem M_shift (σ : f_M) : f_lp (fun (s2 : Int32 × f_M) =>
     if (19360 : Int32) ≤ s2.1 then (
      some (.inr s2.2)
     ) else (
      (f_rd s2.2 159 19360 s2.1).bind fun v3 =>
      (f_wr s2.2 159 19360 (s2.1 - (2420 : Int32)) v3).bind fun m4 =>
      some (.inl ((s2.1 + (1 : Int32)), m4))
     )
    ) f_F ((2420 : Int32), σ) = some (f_row σ 159 (shN (σ 159) 16940)) := by
  refine lp_go (fun j => (nI (2420 + j), f_row σ 159 (shN (σ 159) j))) 16940 ?_ (f_F_lt (by omega)) ?_ ?_
  · rw [shN_zero, row_self]; rfl
  · intro j hj
    have hc := shN_succ (σ 159) j
    have hr : shN (σ 159) j (2420 + j) = σ 159 (j + 2420) := by
      unfold shN; rw [if_neg (by omega), Nat.add_comm]
    simp (disch := omega) only [lits, past_lits.1, past_lits.2.1, n_le, n_sub, f_rd_n, f_wr_n, bnd, row_same, up_of_row, n_add, hr, Nat.add_sub_cancel_left, hc]
    rw [if_neg (by omega)]
    rfl
  · simp (disch := omega) only [past_lits.2.1, n_le]
    rw [if_pos (by omega)]
theorem M_append {σ : f_M} {k : Nat} (h4 : σ 155 4 = nI k) (hk : k < 8) : f_lp (fun (s7 : Int32 × f_M) =>
   if (2420 : Int32) ≤ s7.1 then (
    some (.inr s7.2)
   ) else (
    (f_rd s7.2 156 2420 s7.1).bind fun v8 =>
    (f_wr s7.2 159 19360 (((2420 : Int32) * (s7.2 155 4)) + s7.1) v8).bind fun m9 =>
    some (.inl ((s7.1 + (1 : Int32)), m9))
   )
  ) f_F ((0 : Int32), σ) = some (f_row σ 159 (ptN (σ 159) (σ 156) (2420 * k) 2420)) := by
  refine lp_go (fun j => (nI j, f_row σ 159 (ptN (σ 159) (σ 156) (2420 * k) j))) 2420 ?_ (f_F_lt (by omega)) ?_ ?_
  · rw [ptN_zero, row_self]; rfl
  · intro j hj
    have hc := ptN_succ (σ 159) (σ 156) (2420 * k) j
    simp (disch := omega) only [lits, past_lits.1, n_le, f_rd_n, f_wr_n, bnd, row_ne, h4, n_mul, n_add, up_of_row, hc]
    rw [if_neg (by omega)]
  · simp (disch := omega) only [past_lits.1, n_le]
    rw [if_pos (by omega)]
theorem M_back {σ : f_M} {k : Nat} (h4 : σ 155 4 = nI k) (hk : k < 8) : f_lp (fun (s4 : Int32 × f_M) =>
    if (2420 : Int32) ≤ s4.1 then (
     some (.inr s4.2)
    ) else (
     (f_rd s4.2 159 19360 (((2420 : Int32) * (s4.2 155 4)) + s4.1)).bind fun v5 =>
     (f_wr s4.2 156 2420 s4.1 v5).bind fun m6 =>
     some (.inl ((s4.1 + (1 : Int32)), m6))
    )
   ) f_F ((0 : Int32), σ) = some (f_row σ 156 (cpN (fun m => σ 159 (2420 * k + m)) (σ 156) 2420)) := by
  refine lp_go (fun j => (nI j, f_row σ 156 (cpN (fun m => σ 159 (2420 * k + m)) (σ 156) j))) 2420 ?_ (f_F_lt (by omega)) ?_ ?_
  · rw [cpN_zero, row_self]; rfl
  · intro j hj
    have hc : upd (cpN (fun m => σ 159 (2420 * k + m)) (σ 156) j) j (σ 159 (2420 * k + j)) = cpN (fun m => σ 159 (2420 * k + m)) (σ 156) (j + 1) := cpN_succ (fun m => σ 159 (2420 * k + m)) (σ 156) j
    simp (disch := omega) only [lits, past_lits.1, n_le, f_rd_n, f_wr_n, bnd, row_ne, h4, n_mul, n_add, up_of_row, hc]
    rw [if_neg (by omega)]
  · simp (disch := omega) only [past_lits.1, n_le]
    rw [if_pos (by omega)]
/-- the state is pushed; behind the eighth the oldest goes -/
theorem M_push {σ : f_M} {k : Nat} (h4 : σ 155 4 = nI k) (hk : k ≤ 8) : ∃ σ', g_118 σ = some σ' ∧ σ' 155 4 = nI ((if k = 8 then 7 else k) + 1) ∧ (∀ i, i ≠ 4 → σ' 155 i = σ 155 i) ∧ (∀ i, i < 2420 → σ' 159 (2420 * (if k = 8 then 7 else k) + i) = σ 156 i) ∧ (∀ i, i < 2420 * (if k = 8 then 7 else k) → σ' 159 i = σ 159 (if k = 8 then i + 2420 else i)) ∧ ∀ r, r ≠ 155 → r ≠ 159 → σ' r = σ r := by
  unfold g_118
  rw [h4, past_lits.2.2]
  by_cases h8 : k = 8
  · subst h8
    rw [if_neg (fun h => h rfl), M_shift, bnd, bnd]
    have e4 : f_row σ 159 (shN (σ 159) 16940) 155 4 = nI 8 := by rw [row_ne (by omega)]; exact h4
    rw [e4, show nI 8 - (1 : Int32) = nI 7 from rfl]
    have ha := M_append (σ := f_up (f_row σ 159 (shN (σ 159) 16940)) 155 4 (nI 7)) (k := 7) (by rw [up_same]) (by omega)
    rw [ha, bnd]
    refine ⟨_, rfl, ?_, ?_, ?_, ?_, ?_⟩
    · simp (disch := omega) only [up_same, row_ne]; rfl
    · intro i hi
      simp (disch := omega) only [up_ix, row_ne]
    · intro i hi
      simp (disch := omega) only [up_rows, row_same, row_ne, if_true, ptN]
      rw [if_pos (by omega)]
      rw [Nat.add_sub_cancel_left]
    · intro i hi
      simp only [if_true] at hi
      simp (disch := omega) only [up_rows, row_same, row_ne, if_true, ptN]
      rw [if_neg (by omega)]
      unfold shN
      rw [if_pos (by omega)]
    · intro r h1 h2
      simp (disch := omega) only [up_rows, row_ne]
  · rw [if_pos (by rw [n_eq (by omega) (by omega)]; exact h8), bnd, M_append h4 (by omega), bnd]
    refine ⟨_, rfl, ?_, ?_, ?_, ?_, ?_⟩
    · rw [if_neg h8]
      simp (disch := omega) only [up_same, row_ne, h4, lits, n_add]
    · intro i hi
      simp (disch := omega) only [up_ix, row_ne]
    · intro i hi
      rw [if_neg h8]
      simp (disch := omega) only [up_rows, row_same, ptN]
      rw [if_pos (by omega)]
      rw [Nat.add_sub_cancel_left]
    · intro i hi
      rw [if_neg h8] at hi ⊢
      simp (disch := omega) only [up_rows, row_same, ptN]
      rw [if_neg (by omega)]
    · intro r h1 h2
      simp (disch := omega) only [up_rows, row_ne]
