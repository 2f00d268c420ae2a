/-! The class's next token. -/
theorem up_up (σ : f_M) (a i : Nat) (v w : Int32) : f_up (f_up σ a i v) a i w = f_up σ a i w := by
  funext r k
  simp only [f_up_eq]
  by_cases hr : r = a
  · subst hr; simp only [if_true]
    by_cases hi : k = i
    · rw [if_pos hi, if_pos hi]
    · rw [if_neg hi, if_neg hi, if_neg hi]
  · rw [if_neg hr, if_neg hr, if_neg hr]
theorem C_tok {σ : f_M} {len p : Nat} (h0 : σ 3 0 = 1) (h1 : σ 3 1 = nI len) (h4 : σ 3 4 = nI p) (hp : p ≤ len) (hlen : len ≤ 600) : g_12 σ = some (f_up (f_up (f_up σ 3 3 (nI (tkS (σ 1) len p))) 3 4 (nI (tkE (σ 1) len p))) 3 2 (nI (tkK (σ 1) len p))) := by
  have hb := nxt_le (f := fun i => !blk (σ 1) i) hp
  have hS : tkS (σ 1) len p ≤ len := hb.2
  unfold g_12
  rw [h4, C_skip h0 h1 hp hlen, bnd, up_same]
  have hE : tkE (σ 1) len p = if tkS (σ 1) len p = len then len else if ltr (σ 1) (tkS (σ 1) len p) = true then nxt (fun i => !ltr (σ 1) i) len (tkS (σ 1) len p) else if dgt (σ 1) (tkS (σ 1) len p) = true then nxt (fun i => !dgt (σ 1) i) len (tkS (σ 1) len p) else tkS (σ 1) len p + 1 := rfl
  have hK : tkK (σ 1) len p = if tkS (σ 1) len p = len then 0 else if ltr (σ 1) (tkS (σ 1) len p) = true then (if tkE (σ 1) len p - tkS (σ 1) len p ≤ 8 then 1 else 4) else if dgt (σ 1) (tkS (σ 1) len p) = true then (if tkE (σ 1) len p - tkS (σ 1) len p ≤ 4 then 2 else 4) else if σ 1 (tkS (σ 1) len p) = nI 59 then 3 else 4 := rfl
  generalize tkE (σ 1) len p = E at *
  generalize tkK (σ 1) len p = K at *
  generalize tkS (σ 1) len p = S at *
  have x0 : ∀ v, f_up (f_up σ 3 3 (nI S)) 3 4 v 3 0 = 1 := fun v => by rw [up_ix (by omega), up_ix (by omega)]; exact h0
  have x1 : ∀ v, f_up (f_up σ 3 3 (nI S)) 3 4 v 3 1 = nI len := fun v => by rw [up_ix (by omega), up_ix (by omega)]; exact h1
  have x3 : ∀ v, f_up (f_up σ 3 3 (nI S)) 3 4 v 3 3 = nI S := fun v => by rw [up_ix (by omega), up_same]
  have xr : ∀ v, f_up (f_up σ 3 3 (nI S)) 3 4 v 1 = σ 1 := fun v => by rw [up_rows (by omega), up_rows (by omega)]
  by_cases he : S = len
  · rw [if_pos he] at hE hK
    rw [x3, x1, if_neg (by rw [n_lt (by omega) (by omega)]; omega), bnd, hE, hK, he]
    rfl
  · rw [if_neg he] at hE hK
    have other : ltr (σ 1) S = false → dgt (σ 1) S = false → ((if ¬ σ 1 S = (59 : Int32) then some (4 : Int32) else some (3 : Int32)).bind fun (t16 : Int32) => some (f_up (f_up (f_up σ 3 3 (nI S)) 3 4 (nI S + nI 1)) 3 2 t16)) = some (f_up (f_up (f_up σ 3 3 (nI S)) 3 4 (nI E)) 3 2 (nI K)) := fun hl hd => by
      rw [hl, hd] at hE hK
      simp only [Bool.false_eq_true, if_false] at hE hK
      rw [hE, hK, n_add]
      by_cases h59 : σ 1 S = 59
      · rw [if_neg (fun h => h h59), bnd, if_pos (show σ 1 S = nI 59 from h59)]; rfl
      · rw [if_pos h59, bnd, if_neg (show ¬ σ 1 S = nI 59 from h59)]; rfl
    have scan : ∀ lo hi, g_10 lo hi (f_up (f_up σ 3 3 (nI S)) 3 4 (nI S)) = some (nI (nxt (fun i => !inR (σ 1) lo hi i) len S)) := fun lo hi => by
      rw [C_scan (len := len) (st := S) (x0 _) (x1 _) (x3 _) hS hlen, xr]
    have g11 : ∀ e, S ≤ e → g_11 (f_up (f_up (f_up σ 3 3 (nI S)) 3 4 (nI S)) 3 4 (nI e)) = some (nI (e - S)) := fun e h => by
      unfold g_11
      rw [up_same, up_up, x3, n_sub h]
    have hl : ltr (σ 1) S = inR (σ 1) 97 122 S := rfl
    have hd : dgt (σ 1) S = inR (σ 1) 48 57 S := rfl
    have nl := nxt_le (f := fun i => !inR (σ 1) 97 122 i) hS
    have nd := nxt_le (f := fun i => !inR (σ 1) 48 57 i) hS
    have l8 : nxt (fun i => !ltr (σ 1) i) len S = nxt (fun i => !inR (σ 1) 97 122 i) len S := rfl
    have d8 : nxt (fun i => !dgt (σ 1) i) len S = nxt (fun i => !inR (σ 1) 48 57 i) len S := rfl
    rw [l8, d8] at hE
    have digits : inR (σ 1) 97 122 S = false → inR (σ 1) 48 57 S = true → ((if (4 : Int32) < nI (nxt (fun i => !inR (σ 1) 48 57 i) len S - S) then some (4 : Int32) else some (2 : Int32)).bind fun (t26 : Int32) => some (f_up (f_up (f_up (f_up σ 3 3 (nI S)) 3 4 (nI S)) 3 4 (nI (nxt (fun i => !inR (σ 1) 48 57 i) len S))) 3 2 t26)) = some (f_up (f_up (f_up σ 3 3 (nI S)) 3 4 (nI E)) 3 2 (nI K)) := fun hl' hd' => by
      rw [hl, hl', hd, hd'] at hE hK
      simp only [Bool.false_eq_true, if_false, if_true] at hE hK
      rw [← hE] at nd ⊢
      rw [hK, up_up]
      by_cases h5 : E - S ≤ 4
      · rw [if_pos h5, if_neg (by rw [show (4 : Int32) = nI 4 from rfl, n_lt (by omega) (by omega)]; omega), bnd]; rfl
      · rw [if_neg h5, if_pos (by rw [show (4 : Int32) = nI 4 from rfl, n_lt (by omega) (by omega)]; omega), bnd]; rfl
    have words : inR (σ 1) 97 122 S = true → ((if (8 : Int32) < nI (nxt (fun i => !inR (σ 1) 97 122 i) len S - S) then some (4 : Int32) else some (nI 1)).bind fun (t26 : Int32) => some (f_up (f_up (f_up (f_up σ 3 3 (nI S)) 3 4 (nI S)) 3 4 (nI (nxt (fun i => !inR (σ 1) 97 122 i) len S))) 3 2 t26)) = some (f_up (f_up (f_up σ 3 3 (nI S)) 3 4 (nI E)) 3 2 (nI K)) := fun hl' => by
      rw [hl, hl'] at hE hK
      simp only [if_true] at hE hK
      rw [← hE] at nl ⊢
      rw [hK, up_up]
      by_cases h5 : E - S ≤ 8
      · rw [if_pos h5, if_neg (by rw [show (8 : Int32) = nI 8 from rfl, n_lt (by omega) (by omega)]; omega), bnd]
      · rw [if_neg h5, if_pos (by rw [show (8 : Int32) = nI 8 from rfl, n_lt (by omega) (by omega)]; omega), bnd]; rfl
    rw [hl, hd] at other
    simp only [x0, x1, x3, if_true, scan, bnd, g11 _ nl.1, g11 _ nd.1]
    rw [if_pos (by rw [n_lt (by omega) (by omega)]; omega)]
    simp only [f_rd_n (show S < 600 by omega) (show 600 < 2147483648 by omega), xr, bnd, up_up, x0, x3, if_true, show (1 : Int32) = nI 1 from rfl]
    by_cases a1 : σ 1 S < 97
    · have w : inR (σ 1) 97 122 S = false := by unfold inR; simp [a1]
      rw [if_pos a1]
      by_cases a2 : σ 1 S < 48
      · rw [if_pos a2, other w (by unfold inR; simp [a2]), bnd]
      · rw [if_neg a2]
        by_cases a3 : (57 : Int32) < σ 1 S
        · rw [if_pos a3, other w (by unfold inR; simp [a3]), bnd]
        · rw [if_neg a3]
          have := digits w (by unfold inR; simp [a2, a3])
          rw [up_up] at this
          rw [this, bnd]
    · rw [if_neg a1]
      by_cases a4 : (122 : Int32) < σ 1 S
      · have w : inR (σ 1) 97 122 S = false := by unfold inR; simp [a4]
        rw [if_pos a4]
        by_cases a2 : σ 1 S < 48
        · rw [if_pos a2, other w (by unfold inR; simp [a2]), bnd]
        · rw [if_neg a2]
          by_cases a3 : (57 : Int32) < σ 1 S
          · rw [if_pos a3, other w (by unfold inR; simp [a3]), bnd]
          · rw [if_neg a3]
            have := digits w (by unfold inR; simp [a2, a3])
            rw [up_up] at this
            rw [this, bnd]
      · rw [if_neg a4]
        have := words (by unfold inR; simp [a1, a4])
        rw [up_up] at this
        rw [this, bnd]
