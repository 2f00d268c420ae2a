theorem up_comm {σ : f_M} {a i k : Nat} {v w : Int32} (h : i ≠ k) : f_up (f_up σ a i v) a k w = f_up (f_up σ a k w) a i v := by
  funext r j
  simp only [f_up_eq]
  by_cases hr : r = a
  · subst hr; simp only [if_true]
    by_cases h1 : j = k
    · rw [if_pos h1, if_neg (by omega), if_pos h1]
    · rw [if_neg h1, if_neg h1]
  · rw [if_neg hr, if_neg hr, if_neg hr, if_neg hr]
theorem M_word {σ : f_M} {len S : Nat} (h10 : σ 155 10 = nI len) (hS : S ≤ len) (hlen : len ≤ 600) : f_lp (fun (s22 : f_M) =>
       (g_49 (s22 155 14) s22).bind fun t23 =>
       if t23 = false then (
        some (.inr s22)
       ) else (
        some (.inl (f_up s22 155 14 ((s22 155 14) + (1 : Int32))))
       )
      ) f_F (f_up σ 155 14 (nI S)) = some (f_up σ 155 14 (nI (nxt (fun i => !ltr (σ 161) i) len S))) := by
  have hb := nxt_le (f := fun i => !ltr (σ 161) i) hS
  have g1 : ∀ j, f_up σ 155 14 (nI j) 155 10 = nI len := fun j => by rw [up_ix (by omega)]; exact h10
  have gr : ∀ j, f_up σ 155 14 (nI j) 161 = σ 161 := fun j => up_rows (by omega)
  refine lp_go (fun j => f_up σ 155 14 (nI (S + j))) (nxt (fun i => !ltr (σ 161) i) len S - S) rfl (f_F_lt (by omega)) ?_ ?_
  · intro j hj
    have hm : (!ltr (σ 161) (S + j)) = false := nxt_step (f := fun i => !ltr (σ 161) i) (len := len) (by omega)
    have hl : ltr (σ 161) (S + j) = true := by simpa using hm
    simp only [up_same]
    rw [M_ltr (g1 _) hlen (by omega), bnd, gr, hl, decide_eq_true (by omega : S + j < len), if_neg (by decide), up_up, show (1 : Int32) = nI 1 from rfl, n_add]
    rfl
  · have e : S + (nxt (fun i => !ltr (σ 161) i) len S - S) = nxt (fun i => !ltr (σ 161) i) len S := by omega
    simp only [up_same]
    rw [e, M_ltr (g1 _) hlen (by omega), bnd, gr]
    by_cases he : nxt (fun i => !ltr (σ 161) i) len S = len
    · rw [he, decide_eq_false (by omega), Bool.false_and, if_pos rfl]
    · have hm : (!ltr (σ 161) (nxt (fun i => !ltr (σ 161) i) len S)) = true := nxt_at (f := fun i => !ltr (σ 161) i) (len := len) (p := S) (by omega)
      generalize nxt (fun i => !ltr (σ 161) i) len S = k at *
      have hl : ltr (σ 161) k = false := by simpa using hm
      rw [hl, Bool.and_false, if_pos rfl]
theorem M_digits {σ : f_M} {len S : Nat} (h10 : σ 155 10 = nI len) (h13 : σ 155 13 = nI S) (hS : S ≤ len) (hlen : len ≤ 600) : f_lp (fun (s13 : f_M) =>
        (g_50 (s13 155 14) s13).bind fun t14 =>
        if t14 = false then (
         some (.inr s13)
        ) else (
         (
          if (4 : Int32) ≤ ((s13 155 14) - (s13 155 13)) then (
           some (s13 155 16)
          ) else (
           (f_rd s13 161 600 (s13 155 14)).bind fun v16 =>
           some ((((10 : Int32) * (s13 155 16)) + v16) - (48 : Int32))
          )
         ).bind fun (t15 : Int32) =>
         some (.inl (f_up (f_up s13 155 16 t15) 155 14 (((f_up s13 155 16 t15) 155 14) + (1 : Int32))))
        )
       ) f_F (f_up (f_up σ 155 14 (nI S)) 155 16 (nI 0)) = some (f_up (f_up σ 155 14 (nI (nxt (fun i => !dgt (σ 161) i) len S))) 155 16 (numT (σ 161) S (min (nxt (fun i => !dgt (σ 161) i) len S - S) 4))) := by
  have hb := nxt_le (f := fun i => !dgt (σ 161) i) hS
  have g1 : ∀ j v, f_up (f_up σ 155 14 (nI j)) 155 16 v 155 10 = nI len := fun j v => by rw [up_ix (by omega), up_ix (by omega)]; exact h10
  have g13 : ∀ j v, f_up (f_up σ 155 14 (nI j)) 155 16 v 155 13 = nI S := fun j v => by rw [up_ix (by omega), up_ix (by omega)]; exact h13
  have g14 : ∀ j v, f_up (f_up σ 155 14 (nI j)) 155 16 v 155 14 = nI j := fun j v => by rw [up_ix (by omega), up_same]
  have gr : ∀ j v, f_up (f_up σ 155 14 (nI j)) 155 16 v 161 = σ 161 := fun j v => by rw [up_rows (by omega), up_rows (by omega)]
  have e : S + (nxt (fun i => !dgt (σ 161) i) len S - S) = nxt (fun i => !dgt (σ 161) i) len S := by omega
  have key := lp_go (body := fun (s13 : f_M) =>
        (g_50 (s13 155 14) s13).bind fun t14 =>
        if t14 = false then (
         some (Sum.inr s13)
        ) else (
         (
          if (4 : Int32) ≤ ((s13 155 14) - (s13 155 13)) then (
           some (s13 155 16)
          ) else (
           (f_rd s13 161 600 (s13 155 14)).bind fun v16 =>
           some ((((10 : Int32) * (s13 155 16)) + v16) - (48 : Int32))
          )
         ).bind fun (t15 : Int32) =>
         some (Sum.inl (f_up (f_up s13 155 16 t15) 155 14 (((f_up s13 155 16 t15) 155 14) + (1 : Int32))))
        )) (fun j => f_up (f_up σ 155 14 (nI (S + j))) 155 16 (numT (σ 161) S (min j 4))) (nxt (fun i => !dgt (σ 161) i) len S - S) (F := f_F) (s0 := f_up (f_up σ 155 14 (nI S)) 155 16 (nI 0)) (r := f_up (f_up σ 155 14 (nI (nxt (fun i => !dgt (σ 161) i) len S))) 155 16 (numT (σ 161) S (min (nxt (fun i => !dgt (σ 161) i) len S - S) 4))) ?_ (f_F_lt (by omega)) ?_ ?_
  · exact key
  · rfl
  · intro j hj
    have hm : (!dgt (σ 161) (S + j)) = false := nxt_step (f := fun i => !dgt (σ 161) i) (len := len) (by omega)
    have hl : dgt (σ 161) (S + j) = true := by simpa using hm
    simp only [g14, g13, up_same]
    rw [M_dgt (g1 _ _) hlen (by omega), bnd, gr, hl, decide_eq_true (by omega : S + j < len), if_neg (by decide), n_sub (by omega), Nat.add_sub_cancel_left]
    by_cases h4 : 4 ≤ j
    · rw [if_pos (by rw [show (4 : Int32) = nI 4 from rfl, n_le (by omega) (by omega)]; omega), bnd, up_up, g14, show (1 : Int32) = nI 1 from rfl, n_add, up_comm (by omega), up_up, show min (j + 1) 4 = min j 4 from by omega]
      rfl
    · rw [if_neg (by rw [show (4 : Int32) = nI 4 from rfl, n_le (by omega) (by omega)]; omega), f_rd_n (by omega) (by omega), bnd, bnd, gr, up_up, g14, show (1 : Int32) = nI 1 from rfl, n_add, up_comm (by omega), up_up, show min (j + 1) 4 = j + 1 from by omega, show min j 4 = j from by omega, numT_succ]
      rfl
  · simp only [g14]
    rw [e, M_dgt (g1 _ _) hlen (by omega), bnd, gr]
    by_cases he : nxt (fun i => !dgt (σ 161) i) len S = len
    · rw [he, decide_eq_false (by omega), Bool.false_and, if_pos rfl]
    · have hm : (!dgt (σ 161) (nxt (fun i => !dgt (σ 161) i) len S)) = true := nxt_at (f := fun i => !dgt (σ 161) i) (len := len) (p := S) (by omega)
      generalize nxt (fun i => !dgt (σ 161) i) len S = k at *
      have hl : dgt (σ 161) k = false := by simpa using hm
      rw [hl, Bool.and_false, if_pos rfl]
