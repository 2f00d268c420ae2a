/-! A name taken; a holder and an assessor added. -/
theorem C_take {t : Nat → Int32} {len p hc : Nat} {σ : f_M} (x : cX t len σ) (ct : cT t len σ p) (hp : p ≤ len) (hK : tkK t len p = 1) (h6 : tkE t len p - tkS t len p ≤ 6) (h0 : σ 5 0 = nI hc) (hhc : hc < 8) :
    g_21 σ = some (f_row (f_up σ 6 hc (nI (tkE t len p - tkS t len p))) 7 (wrO (6 * hc) (fun k => t (tkS t len p + k)) (σ 7) (tkE t len p - tkS t len p))) := by
  have hE := tkE_le (t := t) hp
  have h11 := C_11 ct hp
  have hw := tk_word hK
  have hk1 := hK
  unfold g_21
  rw [h11, bnd, h0, f_wr_n hhc (by omega), bnd]
  have row7 : f_up σ 6 hc (nI (tkE t len p - tkS t len p)) 7 = σ 7 := up_rows (by omega)
  have g3 : ∀ r, cX t len (f_row (f_up σ 6 hc (nI (tkE t len p - tkS t len p))) 7 r) := fun r => by
    obtain ⟨x0, x1, xl, xt, x6, x7⟩ := x
    refine ⟨?_, ?_, xl, fun i hi => ?_, ?_, ?_⟩
    · rw [row_ne (by omega), up_rows (by omega)]; exact x0
    · rw [row_ne (by omega), up_rows (by omega)]; exact x1
    · rw [row_ne (by omega), up_rows (by omega)]; exact xt i hi
    · rw [row_ne (by omega), up_rows (by omega)]; exact x6
    · rw [row_ne (by omega), up_rows (by omega)]; exact x7
  have g4 : ∀ r, cT t len (f_row (f_up σ 6 hc (nI (tkE t len p - tkS t len p))) 7 r) p := fun r => by
    obtain ⟨c1, c2, c3⟩ := ct
    refine ⟨?_, ?_, ?_⟩
    · rw [row_ne (by omega), up_rows (by omega)]; exact c1
    · rw [row_ne (by omega), up_rows (by omega)]; exact c2
    · rw [row_ne (by omega), up_rows (by omega)]; exact c3
  have g18 := fun r k hk => C_18 (k := k) (g3 r) (g4 r) hp hK hk
  have g5 : ∀ r, f_row (f_up σ 6 hc (nI (tkE t len p - tkS t len p))) 7 r 5 0 = nI hc := fun r => by rw [row_ne (by omega), up_rows (by omega)]; exact h0
  have g6 : ∀ r, f_row (f_up σ 6 hc (nI (tkE t len p - tkS t len p))) 7 r 6 hc = nI (tkE t len p - tkS t len p) := fun r => by rw [row_ne (by omega), up_same]
  have xl := x.2.2.1
  rw [lp_go (fun j => (nI j, f_row (f_up σ 6 hc (nI (tkE t len p - tkS t len p))) 7 (wrO (6 * hc) (fun k => t (tkS t len p + k)) (σ 7) j))) (tkE t len p - tkS t len p) (r := f_row (f_up σ 6 hc (nI (tkE t len p - tkS t len p))) 7 (wrO (6 * hc) (fun k => t (tkS t len p + k)) (σ 7) (tkE t len p - tkS t len p))) ?_ (f_F_lt (by omega)) ?_ ?_, bnd]
  · rw [wrO_zero, ← row7, row_self]; rfl
  · intro j hj
    have hb := ltr_byte (hw (tkS t len p + j) (by omega) (by omega))
    have hs := wrO_succ (6 * hc) (fun k => t (tkS t len p + k)) (σ 7) j
    simp only [g5]
    rw [f_rd_n hhc (by omega), bnd, g6, if_neg (by rw [n_le (by omega) (by omega)]; omega), g18 _ j hj, bnd, hb, show (6 : Int32) = nI 6 from rfl, n_mul, n_add, Nat.mul_comm hc 6, f_wr_n (by omega) (by omega), bnd, show (1 : Int32) = nI 1 from rfl, n_add, up_of_row, ← hs]
  · simp only [g5]
    rw [f_rd_n hhc (by omega), bnd, g6, if_pos (by rw [n_le (by omega) (by omega)]; omega)]
/-- a holder added to a row -/
def s_addH (s t : Nat → Int32) (S n hc : Nat) (b : Int32) : Nat → Int32 := upd (upd (wrO (20 + 9 * hc + 1) (fun k => t (S + k)) (upd s (20 + 9 * hc) (nI n)) n) (20 + 9 * hc + 7) b) 2 (nI (hc + 1))
theorem M_addH {t : Nat → Int32} {S n hc : Nat} {b : Int32} {τ : f_M} (h8 : τ 155 8 = nI n) (hn : n ≤ 6) (hl : ∀ k, k < n → τ 160 k = t (S + k)) (h2 : τ 156 2 = nI hc) (hhc : hc < 8) : g_37 b τ = some (f_row τ 156 (s_addH (τ 156) t S n hc b)) := by
  unfold g_37
  rw [show (2 : Int32) = nI 2 from rfl, rdS (by omega), bnd, h2, M_h, bnd, h8, wrS (by omega), bnd]
  have e8 : ∀ r, f_row τ 156 r 155 8 = nI n := fun r => by rw [row_ne (by omega)]; exact h8
  have e160 : ∀ r, f_row τ 156 r 160 = τ 160 := fun r => row_ne (by omega)
  rw [lp_go (fun j => (nI j, f_row τ 156 (wrO (20 + 9 * hc + 1) (fun k => t (S + k)) (upd (τ 156) (20 + 9 * hc) (nI n)) j))) n (r := f_row τ 156 (wrO (20 + 9 * hc + 1) (fun k => t (S + k)) (upd (τ 156) (20 + 9 * hc) (nI n)) n)) ?_ (f_F_lt (by omega)) ?_ ?_, bnd]
  · rw [show (7 : Int32) = nI 7 from rfl, n_add, wrS (by omega), bnd, row_same, row_row, rdS (by omega), bnd, row_same, upd_ne (by omega), wrO_out (by omega), upd_ne (by omega), h2, show (1 : Int32) = nI 1 from rfl, n_add, wrS (by omega), bnd, row_same, row_row]
    rfl
  · rw [wrO_zero]; rfl
  · intro j hj
    have hs := wrO_succ (20 + 9 * hc + 1) (fun k => t (S + k)) (upd (τ 156) (20 + 9 * hc) (nI n)) j
    simp only [e8]
    rw [if_neg (by rw [n_le (by omega) (by omega)]; omega), f_rd_n (by omega) (by omega), bnd, e160, hl j hj, show (1 : Int32) = nI 1 from rfl, n_add, n_add, wrS (by omega), bnd, row_same, row_row, n_add, ← hs]
  · simp only [e8]
    rw [if_pos (by rw [n_le (by omega) (by omega)]; omega)]
theorem s_addH_at {s t : Nat → Int32} {S n hc : Nat} {b : Int32} (hhc : hc < 8) (hn : n ≤ 6) :
    s_addH s t S n hc b (20 + 9 * hc) = nI n ∧ (∀ k, k < n → s_addH s t S n hc b (20 + 9 * hc + 1 + k) = t (S + k)) ∧ s_addH s t S n hc b (20 + 9 * hc + 7) = b ∧ s_addH s t S n hc b 2 = nI (hc + 1) ∧ ∀ k, k ≠ 2 → (k < 20 + 9 * hc ∨ 20 + 9 * hc + 8 ≤ k) → s_addH s t S n hc b k = s k := by
  unfold s_addH
  refine ⟨?_, fun k hk => ?_, ?_, ?_, fun k h1 h2 => ?_⟩
  · rw [upd_ne (by omega), upd_ne (by omega), wrO_out (by omega), upd_same]
  · rw [upd_ne (by omega), upd_ne (by omega), wrO_in hk]
  · rw [upd_ne (by omega), upd_same]
  · rw [upd_same]
  · rw [upd_ne h1, upd_ne (by omega), wrO_out (by omega), upd_ne (by omega)]
theorem M_addA {ac : Nat} {v : Int32} {τ : f_M} (h3 : τ 156 3 = nI ac) (hac : ac < 3) : g_38 v τ = some (f_row τ 156 (upd (upd (τ 156) (95 + ac) v) 3 (nI (ac + 1)))) := by
  unfold g_38
  rw [show (3 : Int32) = nI 3 from rfl, rdS (by omega), bnd, h3, show (95 : Int32) = nI 95 from rfl, n_add, wrS (by omega), bnd, rdS (by omega), bnd, row_same, upd_ne (by omega), h3, show (1 : Int32) = nI 1 from rfl, n_add, wrS (by omega), bnd, row_same, row_row]
