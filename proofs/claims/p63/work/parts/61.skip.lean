/-! The class skips blanks. -/
theorem C_skip {σ : f_M} {len p : Nat} (h0 : σ 3 0 = 1) (h1 : σ 3 1 = nI len) (hp : p ≤ len) (hlen : len ≤ 600) : f_lp (fun (s1 : f_M) =>
   if (s1 3 1) ≤ (s1 3 3) then (
    some (.inr s1)
   ) else (
    if s1 3 0 = 1 then (
    (f_rd s1 1 600 (s1 3 3)).bind fun v3 =>
    if v3 = (32 : Int32) then (
     some (.inl (f_up s1 3 3 ((s1 3 3) + (1 : Int32))))
    ) else (
     if s1 3 0 = 1 then (
     (f_rd s1 1 600 (s1 3 3)).bind fun v5 =>
     if ¬ v5 = (10 : Int32) then (
      some (.inr s1)
     ) else (
      some (.inl (f_up s1 3 3 ((s1 3 3) + (1 : Int32))))
     )
     ) else none
    )
    ) else none
   )
  ) f_F (f_up σ 3 3 (nI p)) = some (f_up σ 3 3 (nI (tkS (σ 1) len p))) := by
  have hb := nxt_le (f := fun i => !blk (σ 1) i) hp
  have g0 : ∀ j, f_up σ 3 3 (nI j) 3 0 = 1 := fun j => by rw [up_ix (by omega)]; exact h0
  have g1 : ∀ j, f_up σ 3 3 (nI j) 3 1 = nI len := fun j => by rw [up_ix (by omega)]; exact h1
  have gr : ∀ j, f_up σ 3 3 (nI j) 1 = σ 1 := fun j => up_rows (by omega)
  have uu : ∀ a b, f_up (f_up σ 3 3 a) 3 3 b = f_up σ 3 3 b := fun a b => by
    funext r i
    simp only [f_up_eq]
    by_cases hr : r = 3
    · subst hr; simp only [if_true]
      by_cases hi : i = 3
      · rw [if_pos hi, if_pos hi]
      · rw [if_neg hi, if_neg hi, if_neg hi]
    · rw [if_neg hr, if_neg hr, if_neg hr]
  refine lp_go (fun j => f_up σ 3 3 (nI (p + j))) (tkS (σ 1) len p - p) rfl (f_F_lt (by unfold tkS; omega)) ?_ ?_
  · intro j hj
    have hm := nxt_min (f := fun i => !blk (σ 1) i) (len := len) (p := p) (i := p + j) (by omega) (by unfold tkS at hj; omega)
    have hj' : p + j < len := by unfold tkS at hj; omega
    simp only [g0, g1, up_same, if_true]
    rw [if_neg (by rw [n_le (by omega) (by omega)]; omega), f_rd_n (by omega) (by omega), bnd, gr, uu, show (1 : Int32) = nI 1 from rfl, n_add]
    by_cases h5 : σ 1 (p + j) = 32
    · rw [if_pos h5]; rfl
    · rw [if_neg h5, bnd]
      by_cases h6 : σ 1 (p + j) = 10
      · rw [if_neg (fun h => h h6)]; rfl
      · have hx : (!blk (σ 1) (p + j)) = false := hm
        unfold blk at hx
        have e5 : ¬ σ 1 (p + j) = nI 32 := h5
        have e6 : ¬ σ 1 (p + j) = nI 10 := h6
        simp [e5, e6] at hx
  · have e : p + (tkS (σ 1) len p - p) = tkS (σ 1) len p := by unfold tkS; omega
    simp only [g0, g1, up_same, if_true]
    rw [e]
    by_cases he : tkS (σ 1) len p = len
    · rw [he, if_pos (by rw [n_le (by omega) (by omega)]; omega)]
    · have hle : tkS (σ 1) len p < len := by unfold tkS at he ⊢; omega
      have hm := nxt_at (f := fun i => !blk (σ 1) i) (len := len) (p := p) hle
      replace hm : (!blk (σ 1) (tkS (σ 1) len p)) = true := hm
      generalize tkS (σ 1) len p = k at *
      unfold blk at hm
      rw [if_neg (by rw [n_le (by omega) (by omega)]; omega), f_rd_n (by omega) (by omega), bnd, gr]
      by_cases h5 : σ 1 k = 32
      · have e5 : σ 1 k = nI 32 := h5
        simp [e5] at hm
      · rw [if_neg h5, bnd]
        by_cases h6 : σ 1 k = 10
        · have e6 : σ 1 k = nI 10 := h6
          simp [e6] at hm
        · rw [if_pos h6]
