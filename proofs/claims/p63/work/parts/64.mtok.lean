theorem nxt_step {f : Nat → Bool} {len S j : Nat} (h : S + j < nxt f len S) : f (S + j) = false := nxt_min (by omega) h
/-- the model skips blanks -/
theorem M_skip {σ : f_M} {len p : Nat} (h10 : σ 155 10 = nI len) (hp : p ≤ len) (hlen : len ≤ 600) : f_lp (fun (s1 : f_M) =>
    if (s1 155 10) ≤ (s1 155 13) then (
     some (.inr s1)
    ) else (
     (f_rd s1 161 600 (s1 155 13)).bind fun v2 =>
     if v2 = (32 : Int32) then (
      some (.inl (f_up s1 155 13 ((s1 155 13) + (1 : Int32))))
     ) else (
      (f_rd s1 161 600 (s1 155 13)).bind fun v3 =>
      if ¬ v3 = (10 : Int32) then (
       some (.inr s1)
      ) else (
       some (.inl (f_up s1 155 13 ((s1 155 13) + (1 : Int32))))
      )
     )
    )
   ) f_F (f_up σ 155 13 (nI p)) = some (f_up σ 155 13 (nI (tkS (σ 161) len p))) := by
  have hb := nxt_le (f := fun i => !blk (σ 161) i) hp
  have g1 : ∀ j, f_up σ 155 13 (nI j) 155 10 = nI len := fun j => by rw [up_ix (by omega)]; exact h10
  have gr : ∀ j, f_up σ 155 13 (nI j) 161 = σ 161 := fun j => up_rows (by omega)
  refine lp_go (fun j => f_up σ 155 13 (nI (p + j))) (tkS (σ 161) len p - p) rfl (f_F_lt (by unfold tkS; omega)) ?_ ?_
  · intro j hj
    have hm := nxt_min (f := fun i => !blk (σ 161) i) (len := len) (p := p) (i := p + j) (by omega) (by unfold tkS at hj; omega)
    have hj' : p + j < len := by unfold tkS at hj; omega
    simp only [g1, up_same]
    rw [if_neg (by rw [n_le (by omega) (by omega)]; omega), f_rd_n (by omega) (by omega), bnd, gr, up_up, show (1 : Int32) = nI 1 from rfl, n_add]
    by_cases h5 : σ 161 (p + j) = 32
    · rw [if_pos h5]; rfl
    · rw [if_neg h5, bnd]
      by_cases h6 : σ 161 (p + j) = 10
      · rw [if_neg (fun h => h h6)]; rfl
      · have hx : (!blk (σ 161) (p + j)) = false := hm
        unfold blk at hx
        have e5 : ¬ σ 161 (p + j) = nI 32 := h5
        have e6 : ¬ σ 161 (p + j) = nI 10 := h6
        simp [e5, e6] at hx
  · have e : p + (tkS (σ 161) len p - p) = tkS (σ 161) len p := by unfold tkS; omega
    simp only [g1, up_same]
    rw [e]
    by_cases he : tkS (σ 161) len p = len
    · rw [he, if_pos (by rw [n_le (by omega) (by omega)]; omega)]
    · have hle : tkS (σ 161) len p < len := by unfold tkS at he ⊢; omega
      have hm := nxt_at (f := fun i => !blk (σ 161) i) (len := len) (p := p) hle
      replace hm : (!blk (σ 161) (tkS (σ 161) len p)) = true := hm
      generalize tkS (σ 161) len p = k at *
      unfold blk at hm
      rw [if_neg (by rw [n_le (by omega) (by omega)]; omega), f_rd_n (by omega) (by omega), bnd, gr]
      by_cases h5 : σ 161 k = 32
      · have e5 : σ 161 k = nI 32 := h5
        simp [e5] at hm
      · rw [if_neg h5, bnd]
        by_cases h6 : σ 161 k = 10
        · have e6 : σ 161 k = nI 10 := h6
          simp [e6] at hm
        · rw [if_pos h6]
