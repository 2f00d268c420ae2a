/-! The class's scanner. -/
def inR (t : Nat → Int32) (lo hi : Int32) (i : Nat) : Bool := !decide (t i < lo) && !decide (hi < t i)
theorem C_scan {σ : f_M} {len st : Nat} {lo hi : Int32} (h0 : σ 3 0 = 1) (h1 : σ 3 1 = nI len) (h3 : σ 3 3 = nI st) (hst : st ≤ len) (hlen : len ≤ 600) : g_10 lo hi σ = some (nI (nxt (fun i => !inR (σ 1) lo hi i) len st)) := by
  have hb := nxt_le (f := fun i => !inR (σ 1) lo hi i) hst
  unfold g_10
  rw [lp_go (fun j => nI (st + j)) (nxt (fun i => !inR (σ 1) lo hi i) len st - st) (r := nI (nxt (fun i => !inR (σ 1) lo hi i) len st)) ?_ (f_F_lt (by omega)) ?_ ?_]
  · rfl
  · rw [h3]; rfl
  · intro j hj
    have hm := nxt_min (f := fun i => !inR (σ 1) lo hi i) (len := len) (p := st) (i := st + j) (by omega) (by omega)
    unfold inR at hm
    simp only [Bool.not_eq_false', Bool.and_eq_true, Bool.not_eq_true', decide_eq_false_iff_not] at hm
    rw [h1, if_neg (by rw [n_le (by omega) (by omega)]; omega), if_pos h0, f_rd_n (by omega) (by omega), bnd, if_neg hm.1, if_pos h0, bnd, if_neg hm.2, show (1 : Int32) = nI 1 from rfl, n_add]
    rfl
  · have e : st + (nxt (fun i => !inR (σ 1) lo hi i) len st - st) = nxt (fun i => !inR (σ 1) lo hi i) len st := by omega
    rw [e, h1]
    by_cases he : nxt (fun i => !inR (σ 1) lo hi i) len st = len
    · rw [he, if_pos (by rw [n_le (by omega) (by omega)]; omega)]
    · have hm := nxt_at (f := fun i => !inR (σ 1) lo hi i) (len := len) (p := st) (by omega)
      generalize nxt (fun i => !inR (σ 1) lo hi i) len st = k at *
      simp only [inR] at hm
      rw [if_neg (by rw [n_le (by omega) (by omega)]; omega), if_pos h0, f_rd_n (by omega) (by omega), bnd]
      by_cases h5 : σ 1 k < lo
      · rw [if_pos h5]
      · rw [if_neg h5, if_pos h0, bnd]
        by_cases h6 : hi < σ 1 k
        · rw [if_pos h6]
        · simp [h5, h6] at hm
