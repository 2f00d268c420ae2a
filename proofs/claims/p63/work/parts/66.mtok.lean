/-! The model's next token, whole. -/
theorem up_off {σ : f_M} {a k r i : Nat} {v : Int32} (h : r ≠ a ∨ i ≠ k) : f_up σ a k v r i = σ r i := by
  rcases h with h | h
  · rw [up_rows h]
  · by_cases hr : r = a
    · subst hr; exact up_ix h
    · rw [up_rows hr]
theorem M_tok {τ : f_M} {len p : Nat} (h17 : τ 155 17 = 0) (h10 : τ 155 10 = nI len) (h14 : τ 155 14 = nI p) (hp : p ≤ len) (hlen : len ≤ 600) :
    ∃ τ', g_51 τ = some τ' ∧ τ' 155 13 = nI (tkS (τ 161) len p) ∧ τ' 155 14 = nI (tkE (τ 161) len p) ∧ τ' 155 15 = nI (tkK (τ 161) len p) ∧ (tkK (τ 161) len p = 2 → τ' 155 16 = numT (τ 161) (tkS (τ 161) len p) (tkE (τ 161) len p - tkS (τ 161) len p)) ∧ ∀ r i, (r ≠ 155 ∨ i < 13 ∨ 16 < i) → τ' r i = τ r i := by
  have hb := nxt_le (f := fun i => !blk (τ 161) i) hp
  have hS : tkS (τ 161) len p ≤ len := hb.2
  have hE : tkE (τ 161) len p = if tkS (τ 161) len p = len then len else if ltr (τ 161) (tkS (τ 161) len p) = true then nxt (fun i => !ltr (τ 161) i) len (tkS (τ 161) len p) else if dgt (τ 161) (tkS (τ 161) len p) = true then nxt (fun i => !dgt (τ 161) i) len (tkS (τ 161) len p) else tkS (τ 161) len p + 1 := rfl
  have hK : tkK (τ 161) len p = if tkS (τ 161) len p = len then 0 else if ltr (τ 161) (tkS (τ 161) len p) = true then (if tkE (τ 161) len p - tkS (τ 161) len p ≤ 8 then 1 else 4) else if dgt (τ 161) (tkS (τ 161) len p) = true then (if tkE (τ 161) len p - tkS (τ 161) len p ≤ 4 then 2 else 4) else if (τ 161) (tkS (τ 161) len p) = nI 59 then 3 else 4 := rfl
  unfold g_51
  rw [h17, if_pos (by decide), h14, M_skip h10 hp hlen, bnd]
  generalize tkE (τ 161) len p = E at *
  generalize tkK (τ 161) len p = K at *
  generalize tkS (τ 161) len p = S at *
  have x13 : f_up τ 155 13 (nI S) 155 13 = nI S := up_same _ _ _ _
  have x10 : f_up τ 155 13 (nI S) 155 10 = nI len := by rw [up_ix (by omega)]; exact h10
  have xr : f_up τ 155 13 (nI S) 161 = τ 161 := up_rows (by omega)
  have xf : ∀ r i, (r ≠ 155 ∨ i < 13 ∨ 16 < i) → f_up τ 155 13 (nI S) r i = τ r i := fun r i h => up_off (by omega)
  generalize f_up τ 155 13 (nI S) = x1 at *
  have y13 : f_up x1 155 14 (nI S) 155 13 = nI S := by rw [up_ix (by omega)]; exact x13
  have y10 : f_up x1 155 14 (nI S) 155 10 = nI len := by rw [up_ix (by omega)]; exact x10
  have yr : f_up x1 155 14 (nI S) 161 = τ 161 := by rw [up_rows (by omega)]; exact xr
  rw [x13, y13, y10]
  by_cases he : S = len
  · rw [if_neg (by rw [he]; exact fun h => h rfl), bnd]
    rw [if_pos he] at hE hK
    refine ⟨_, rfl, ?_, ?_, ?_, fun h => by omega, fun r i h => ?_⟩
    · rw [up_ix (by omega)]; exact y13
    · rw [up_ix (by omega), up_same, hE, he]
    · rw [up_same, hK]; rfl
    · rw [up_off (by omega), up_off (by omega)]; exact xf r i h
  · rw [if_neg he] at hE hK
    rw [if_pos (by rw [n_eq (by omega) (by omega)]; exact he), M_ltr (len := len) y10 hlen (by omega), bnd, yr, decide_eq_true (by omega : S < len), Bool.true_and]
    cases hl : ltr (τ 161) S
    · rw [hl] at hE hK
      simp only [Bool.false_eq_true, if_false] at hE hK
      rw [if_pos rfl, M_dgt (len := len) y10 hlen (by omega), bnd, yr, decide_eq_true (by omega : S < len), Bool.true_and]
      cases hd : dgt (τ 161) S
      · rw [hd] at hE hK
        simp only [Bool.false_eq_true, if_false] at hE hK
        rw [if_pos rfl, f_rd_n (by omega) (by omega), bnd, yr]
        by_cases h59 : τ 161 S = 59
        · rw [if_neg (fun h => h h59), bnd, bnd]
          rw [if_pos (show τ 161 S = nI 59 from h59)] at hK
          refine ⟨_, rfl, ?_, ?_, ?_, fun h => by omega, fun r i h => ?_⟩
          · rw [up_ix (by omega), up_ix (by omega)]; exact y13
          · rw [up_same, up_ix (by omega), up_same, hE]; exact n_add S 1
          · rw [up_ix (by omega), up_same, hK]; rfl
          · rw [up_off (by omega), up_off (by omega), up_off (by omega)]; exact xf r i h
        · rw [if_pos h59, bnd, bnd]
          rw [if_neg (show ¬ τ 161 S = nI 59 from h59)] at hK
          refine ⟨_, rfl, ?_, ?_, ?_, fun h => by omega, fun r i h => ?_⟩
          · rw [up_ix (by omega), up_ix (by omega)]; exact y13
          · rw [up_same, up_ix (by omega), up_same, hE]; exact n_add S 1
          · rw [up_ix (by omega), up_same, hK]; rfl
          · rw [up_off (by omega), up_off (by omega), up_off (by omega)]; exact xf r i h
      · rw [hd] at hE hK
        simp only [if_true] at hE hK
        have nd := nxt_le (f := fun i => !dgt (τ 161) i) hS
        have hm := M_digits (σ := x1) (len := len) (S := S) x10 x13 hS hlen
        rw [xr, ← hE] at hm
        rw [← hE] at nd
        rw [if_neg (by decide), show (0 : Int32) = nI 0 from rfl, hm, bnd]
        have z14 : ∀ v, f_up (f_up x1 155 14 (nI E)) 155 16 v 155 14 = nI E := fun v => by rw [up_ix (by omega), up_same]
        have z13 : ∀ v, f_up (f_up x1 155 14 (nI E)) 155 16 v 155 13 = nI S := fun v => by rw [up_ix (by omega), up_ix (by omega)]; exact x13
        rw [z14, z13, n_sub nd.1]
        by_cases h4 : E - S ≤ 4
        · rw [if_pos h4] at hK
          rw [if_pos (by rw [show (4 : Int32) = nI 4 from rfl, n_le (by omega) (by omega)]; omega), bnd, bnd]
          refine ⟨_, rfl, ?_, ?_, ?_, fun h => ?_, fun r i h => ?_⟩
          · rw [up_ix (by omega)]; exact z13 _
          · rw [up_ix (by omega)]; exact z14 _
          · rw [up_same, hK]; rfl
          · rw [up_ix (by omega), up_same, show min (E - S) 4 = E - S from by omega]
          · rw [up_off (by omega), up_off (by omega), up_off (by omega)]; exact xf r i h
        · rw [if_neg h4] at hK
          rw [if_neg (by rw [show (4 : Int32) = nI 4 from rfl, n_le (by omega) (by omega)]; omega), bnd, bnd]
          refine ⟨_, rfl, ?_, ?_, ?_, fun h => by omega, fun r i h => ?_⟩
          · rw [up_ix (by omega)]; exact z13 _
          · rw [up_ix (by omega)]; exact z14 _
          · rw [up_same, hK]; rfl
          · rw [up_off (by omega), up_off (by omega), up_off (by omega)]; exact xf r i h
    · rw [hl] at hE hK
      simp only [if_true] at hE hK
      have nl := nxt_le (f := fun i => !ltr (τ 161) i) hS
      have hm := M_word (σ := x1) (len := len) (S := S) x10 hS hlen
      rw [xr, ← hE] at hm
      rw [← hE] at nl
      rw [if_neg (by decide), hm, bnd]
      have z14 : f_up x1 155 14 (nI E) 155 14 = nI E := up_same _ _ _ _
      have z13 : f_up x1 155 14 (nI E) 155 13 = nI S := by rw [up_ix (by omega)]; exact x13
      rw [z14, z13, n_sub nl.1]
      by_cases h8 : E - S ≤ 8
      · rw [if_pos h8] at hK
        rw [if_pos (by rw [show (8 : Int32) = nI 8 from rfl, n_le (by omega) (by omega)]; omega), bnd, bnd]
        refine ⟨_, rfl, ?_, ?_, ?_, fun h => by omega, fun r i h => ?_⟩
        · rw [up_ix (by omega)]; exact z13
        · rw [up_ix (by omega)]; exact z14
        · rw [up_same, hK]; rfl
        · rw [up_off (by omega), up_off (by omega)]; exact xf r i h
      · rw [if_neg h8] at hK
        rw [if_neg (by rw [show (8 : Int32) = nI 8 from rfl, n_le (by omega) (by omega)]; omega), bnd, bnd]
        refine ⟨_, rfl, ?_, ?_, ?_, fun h => by omega, fun r i h => ?_⟩
        · rw [up_ix (by omega)]; exact z13
        · rw [up_ix (by omega)]; exact z14
        · rw [up_same, hK]; rfl
        · rw [up_off (by omega), up_off (by omega)]; exact xf r i h
