/-! Who assesses. -/
def s_busy (s : Nat → Int32) (x : Nat) : Nat := cntN (fun c => s_und s c (nI x)) (nat (s 5))
def s_best (s : Nat → Int32) : Nat → Nat
  | 0 => 0
  | j + 1 => if s_busy s (s_best s j) ≤ s_busy s (j + 1) then s_best s j else j + 1
theorem s_best_succ (s : Nat → Int32) (j : Nat) : s_best s (j + 1) = if s_busy s (s_best s j) ≤ s_busy s (j + 1) then s_best s j else j + 1 := rfl
theorem s_best_le (s : Nat → Int32) (j : Nat) : s_best s j ≤ j := by
  induction j with
  | zero => exact Nat.le_refl _
  | succ j ih => rw [s_best_succ]; split <;> omega
theorem M_busy {σ : f_M} {cc x : Nat} (h5 : σ 156 5 = nI cc) (hcc : cc ≤ 20) : g_146 (nI x) σ = some (nI (s_busy (σ 156) x)) := by
  unfold g_146 s_busy
  rw [h5, nat_n (by omega)]
  rw [lp_go (fun j => (nI (cntN (fun c => s_und (σ 156) c (nI x)) j), nI j)) cc (r := nI (cntN (fun c => s_und (σ 156) c (nI x)) cc)) ?_ (f_F_lt (by omega)) ?_ ?_]
  · rfl
  · rfl
  · intro j hj
    have e : nI (cntN (fun c => s_und (σ 156) c (nI x)) j) + f_b (s_und (σ 156) j (nI x)) = nI (cntN (fun c => s_und (σ 156) c (nI x)) (j + 1)) := by
      rw [cntN_succ]
      cases s_und (σ 156) j (nI x)
      · exact n_add _ 0
      · exact n_add _ 1
    simp (disch := omega) only [lits, rdS, bnd, h5, n_le, M_und (by omega : j < 20), M_one, e, n_add]
    rw [if_neg (by omega)]
  · simp (disch := omega) only [lits, rdS, bnd, h5, n_le]
    rw [if_pos (by omega)]
theorem C_busy {σ : f_M} {s : Nat → Int32} {cc x : Nat} (h5 : s 5 = nI cc) (hcc : cc ≤ 20) (e5 : σ 121 5 = s 5) (lc : ∀ c, c < cc → σ 124 c = s (300 + 6 * c + 3)) (lb : ∀ c, c < cc → σ 120 c = s (300 + 6 * c + 1)) : g_106 (nI x) σ = some (nI (s_busy s x)) := by
  unfold g_106 s_busy
  rw [e5, h5, nat_n (by omega)]
  rw [lp_go (fun j => (nI (cntN (fun c => s_und s c (nI x)) j), nI j)) cc (r := nI (cntN (fun c => s_und s c (nI x)) cc)) ?_ (f_F_lt (by omega)) ?_ ?_]
  · rfl
  · rfl
  · intro j hj
    have e : (if s_und s j (nI x) = false then some (nI (cntN (fun c => s_und s c (nI x)) j)) else some (nI (cntN (fun c => s_und s c (nI x)) j) + nI 1)) = some (nI (cntN (fun c => s_und s c (nI x)) (j + 1))) := by
      rw [cntN_succ]
      cases s_und s j (nI x)
      · rfl
      · rw [n_add]; rfl
    simp (disch := omega) only [lits, bnd, n_le, C_und (by omega : j < 20) (lc j hj) (lb j hj)]
    rw [if_neg (by omega), e]
    simp only [bnd, n_add]
  · simp (disch := omega) only [lits, n_le]
    rw [if_pos (by omega)]
theorem s_busy_le (s : Nat → Int32) {cc : Nat} (x : Nat) (h5 : s 5 = nI cc) (hcc : cc ≤ 20) : s_busy s x ≤ 20 := by
  unfold s_busy
  rw [h5, nat_n (by omega)]
  exact Nat.le_trans (cntN_le _ _) hcc
theorem M_best {σ : f_M} {cc ac : Nat} (h5 : σ 156 5 = nI cc) (hcc : cc ≤ 20) (h3 : σ 156 3 = nI ac) (h1 : 1 ≤ ac) (h2 : ac ≤ 3) : g_147 σ = some (nI (s_best (σ 156) (ac - 1))) := by
  unfold g_147
  rw [lp_go (fun j => (nI (s_best (σ 156) j), nI (j + 1))) (ac - 1) (r := nI (s_best (σ 156) (ac - 1))) ?_ (f_F_lt (by omega)) ?_ ?_]
  · rfl
  · rfl
  · intro j hj
    have hb := s_busy_le (σ 156) (s_best (σ 156) j) h5 hcc
    have hb' := s_busy_le (σ 156) (j + 1) h5 hcc
    simp (disch := omega) only [lits, rdS, bnd, h3, n_le, M_busy h5 hcc, if_some, n_add]
    rw [if_neg (by omega), s_best_succ]
    split <;> rfl
  · simp (disch := omega) only [lits, rdS, bnd, h3, n_le]
    rw [if_pos (by omega)]
theorem C_best {σ : f_M} {s : Nat → Int32} {cc ac : Nat} (h5 : s 5 = nI cc) (hcc : cc ≤ 20) (e5 : σ 121 5 = s 5) (lc : ∀ c, c < cc → σ 124 c = s (300 + 6 * c + 3)) (lb : ∀ c, c < cc → σ 120 c = s (300 + 6 * c + 1)) (h3 : σ 103 4 = nI ac) (h1 : 1 ≤ ac) (h2 : ac ≤ 3) : g_107 σ = some (nI (s_best s (ac - 1))) := by
  unfold g_107
  rw [lp_go (fun j => (nI (s_best s j), nI (j + 1))) (ac - 1) (r := nI (s_best s (ac - 1))) ?_ (f_F_lt (by omega)) ?_ ?_]
  · rfl
  · rfl
  · intro j hj
    have hb := s_busy_le s (s_best s j) h5 hcc
    have hb' := s_busy_le s (j + 1) h5 hcc
    simp (disch := omega) only [lits, bnd, h3, n_le, C_busy h5 hcc e5 lc lb, if_some, n_add]
    rw [if_neg (by omega), s_best_succ]
    split <;> rfl
  · simp (disch := omega) only [lits, h3, n_le]
    rw [if_pos (by omega)]
