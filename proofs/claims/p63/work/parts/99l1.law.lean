/-! The law up to the end of its text: rows over a flat memory with a tail, the law's two functions. -/
section A31f
variable {MT : Nat → Option a_Md} {xs : Nat → Int32} {L N : Nat} {q y : a_Md} {pc pc' len a b : Nat} {ls ls' st r vs : List Value} {σ : f_M} {c n c' n' : Nat} {h t : a_H} {w : a_S} {w1 : a_R × a_H} {j o9 ci k : Nat} {v : Int32}
set_option maxHeartbeats 4000000 in
theorem v_get {b : Nat} (h : b < N) : (f_hp N σ ++ t)[b]? = some (f_cell (f_shape b) (σ b)) := by
  rw [List.getElem?_append_left (by rw [f_hp_len]; exact h)]
  exact f_hp_get h
set_option maxHeartbeats 4000000 in
theorem v_set {b : Nat} {x : a_C} (h : b < N) : (f_hp N σ ++ t).set b x = (f_hp N σ).set b x ++ t := List.set_append_left _ _ (by rw [f_hp_len]; exact h)
set_option maxHeartbeats 4000000 in
theorem v_gf {o9 ci k t9 : Nat} {fs : List Nat} (hs : f_shape o9 = .inr (ci, fs)) (hf : fs[k]? = some t9) (hN : o9 < N) : a_gf (f_hp N σ ++ t) o9 ci k = some (f_fld (σ o9) k t9) := by
  unfold a_gf
  rw [v_get hN, f_cellO hs]
  simp [hf]
set_option maxHeartbeats 4000000 in
theorem v_pf {o9 ci k : Nat} {v : Int32} {fs : List Nat} (hs : f_shape o9 = .inr (ci, fs)) (hf : fs[k]? = some 0) (hn : narrow (a_ty ci k) (.int v) = .int v ∧ fits (a_ty ci k) (.int v) = true) (hN : o9 < N) : a_pf (f_hp N σ ++ t) o9 ci k (.int v) = some (f_hp N (f_up σ o9 k v) ++ t) := by
  have h := f_pf_of (N := N) (σ := σ) (w := v) hs hf (fun r h => by rw [← h]; rfl) (Or.inl rfl) hn hN
  unfold a_pf at h ⊢
  rw [v_get hN]
  rw [f_hp_get hN] at h
  rw [f_cellO hs] at h ⊢
  dsimp only at h ⊢
  split at h
  · rename_i hc
    rw [if_pos hc, v_set hN, Option.some.inj h]
  · cases h
set_option maxHeartbeats 4000000 in
theorem s_getI {o9 ci k i9 : Nat} {fs : List Nat} (hat : a_at (m_is q) pc = some (.getfield i9, len, ci, k)) (hs : f_shape o9 = .inr (ci, fs)) (hf : fs[k]? = some 0) (hN : o9 < N) (hp : pc + 3 = pc') (K : g_ok MT xs L q pc' ls (.int (σ o9 k) :: st) (f_hp N σ ++ t) c n w) : g_ok MT xs L q pc ls (.ref o9 :: st) (f_hp N σ ++ t) c n w := by
  subst hp
  exact s_stp (by unfold a_1; rw [hat]; simp only [a_ins, v_gf hs hf hN, Option.map_some]; rfl) K
set_option maxHeartbeats 4000000 in
theorem s_getR {o9 ci k i9 t9 : Nat} {fs : List Nat} (hat : a_at (m_is q) pc = some (.getfield i9, len, ci, k)) (hs : f_shape o9 = .inr (ci, fs)) (hf : fs[k]? = some (t9 + 2)) (hN : o9 < N) (hp : pc + 3 = pc') (K : g_ok MT xs L q pc' ls (.ref t9 :: st) (f_hp N σ ++ t) c n w) : g_ok MT xs L q pc ls (.ref o9 :: st) (f_hp N σ ++ t) c n w := by
  subst hp
  exact s_stp (by unfold a_1; rw [hat]; simp only [a_ins, v_gf hs hf hN, Option.map_some]; rfl) K
set_option maxHeartbeats 4000000 in
theorem s_putI {o9 ci k i9 : Nat} {v : Int32} {fs : List Nat} (hat : a_at (m_is q) pc = some (.putfield i9, len, ci, k)) (hs : f_shape o9 = .inr (ci, fs)) (hf : fs[k]? = some 0) (hn : narrow (a_ty ci k) (.int v) = .int v ∧ fits (a_ty ci k) (.int v) = true) (hN : o9 < N) (hp : pc + 3 = pc') (K : g_ok MT xs L q pc' ls st (f_hp N (f_up σ o9 k v) ++ t) c n w) : g_ok MT xs L q pc ls (.int v :: .ref o9 :: st) (f_hp N σ ++ t) c n w := by
  subst hp
  exact s_stp (by unfold a_1; rw [hat]; simp only [a_ins, v_pf hs hf hn hN, Option.map_some]) K
set_option maxHeartbeats 4000000 in
theorem s_iald {o9 n9 j : Nat} (hat : a_at (m_is q) pc = some (.iaload, len, a, b)) (hs : f_shape o9 = .inl (.int, n9, 0)) (hb : o9 < a_big) (hN : o9 < N) (hj : j < n9 ∧ n9 < 1000) (hp : pc + 1 = pc') (K : g_ok MT xs L q pc' ls (.int (σ o9 j) :: st) (f_hp N σ ++ t) c n w) : g_ok MT xs L q pc ls (.int (nI j) :: .ref o9 :: st) (f_hp N σ ++ t) c n w := by
  subst hp
  refine s_stp ?_ K
  have h : ¬ (nI j < 0 ∨ n9 ≤ (nI j).toNatClampNeg) := by rw [n_clamp (by omega)]; exact fun z => z.elim (n_neg (by omega)) (by omega)
  unfold a_1
  rw [hat]
  simp only [a_ins, a_rd, if_neg (Nat.ne_of_lt hb), if_neg (a_nd hb), v_get hN, f_cellA hs, f_el, h, Option.map_some, not_false_eq_true, true_and, if_true, true_or, and_self]
  rw [n_clamp (by omega)]
set_option maxHeartbeats 4000000 in
theorem s_iast {o9 n9 j : Nat} {v : Int32} (hat : a_at (m_is q) pc = some (.iastore, len, a, b)) (hs : f_shape o9 = .inl (.int, n9, 0)) (hN : o9 < N) (hj : j < n9 ∧ n9 < 1000) (hp : pc + 1 = pc') (K : g_ok MT xs L q pc' ls st (f_hp N (f_up σ o9 j v) ++ t) c n w) : g_ok MT xs L q pc ls (.int v :: .int (nI j) :: .ref o9 :: st) (f_hp N σ ++ t) c n w := by
  subst hp
  refine s_stp ?_ K
  have h : ¬ (nI j < 0 ∨ n9 ≤ (nI j).toNatClampNeg) := by rw [n_clamp (by omega)]; exact fun z => z.elim (n_neg (by omega)) (by omega)
  unfold a_1
  rw [hat]
  simp only [a_ins, a_wr, v_get hN, f_cellA hs, f_el, h, not_false_eq_true, if_true, and_self]
  rw [n_clamp (by omega), v_set hN, f_updE hs]
  rfl
set_option maxHeartbeats 4000000 in
theorem r_iushr {x z v : Int32} (hat : a_at (m_is q) pc = some (.iushr, len, a, b)) (hv : (x.toUInt32 >>> (z.toUInt32 &&& Int32.toUInt32 31)).toInt32 = v) (hp : pc + 1 = pc') (K : f_ok MT xs L q pc' ls (.int v :: st) h c n w1) : f_ok MT xs L q pc ls (.int z :: .int x :: st) h c n w1 := by
  subst hp hv
  exact r_stp (by unfold a_1; rw [hat]; rfl) K
set_option maxHeartbeats 4000000 in
theorem r_iand {x z v : Int32} (hat : a_at (m_is q) pc = some (.iand, len, a, b)) (hv : x &&& z = v) (hp : pc + 1 = pc') (K : f_ok MT xs L q pc' ls (.int v :: st) h c n w1) : f_ok MT xs L q pc ls (.int z :: .int x :: st) h c n w1 := by
  subst hp hv
  exact r_stp (by unfold a_1; rw [hat]; rfl) K
/-! the script -/
set_option maxHeartbeats 4000000 in
theorem r_slen (hat : a_at (m_is q) pc = some (.arraylength, len, a, b)) (hp : pc + 1 = pc') (K : f_ok MT xs L q pc' ls (.int (nI L) :: st) h c n w1) : f_ok MT xs L q pc ls (.ref a_big :: st) h c n w1 := by
  subst hp
  exact r_stp (by unfold a_1; rw [hat]; simp only [a_ins, a_len, if_true, Option.map_some]; rfl) K
set_option maxHeartbeats 4000000 in
theorem r_sald {j : Nat} (hat : a_at (m_is q) pc = some (.iaload, len, a, b)) (hj : j < L ∧ L < 1000) (hp : pc + 1 = pc') (K : f_ok MT xs L q pc' ls (.int (xs j) :: st) h c n w1) : f_ok MT xs L q pc ls (.int (nI j) :: .ref a_big :: st) h c n w1 := by
  subst hp
  refine r_stp ?_ K
  have h9 : ¬ (nI j < 0 ∨ L ≤ (nI j).toNatClampNeg) := by rw [n_clamp (by omega)]; exact fun z => z.elim (n_neg (by omega)) (by omega)
  unfold a_1
  rw [hat]
  simp only [a_ins, a_rd, if_true, h9, not_false_eq_true, and_self, Option.map_some]
  rw [n_clamp (by omega)]
/-- a cell of the script, a part of a number -/
def w_cell (xs : Nat → Int32) (L k : Nat) : Int32 := if k < L then xs k else 113 * nI k + 67
def w_bits (x f m : Int32) : Int32 := (x.toUInt32 >>> (f.toUInt32 &&& Int32.toUInt32 31)).toInt32 &&& ((1 : Int32) <<< (m &&& 31) - 1)
set_option maxHeartbeats 4000000 in
theorem w_bitsR {x f m : Int32} : f_run a_MT xs L 37 [.int x, .int f, .int m] h (.inl (some (.int (w_bits x f m))), h) := by
  refine r_of (q := md_37) MT_37 (Nat.le_of_ble_eq_true rfl) rfl ?_
  refine r_iload_n rfl rfl rfl ?_
  refine r_iload_n rfl rfl rfl ?_
  refine r_iushr rfl rfl rfl ?_
  refine r_iconst (v := 1) rfl rfl rfl ?_
  refine r_iload_n rfl rfl rfl ?_
  refine r_bin (v := (1 : Int32) <<< (m &&& 31)) rfl (Or.inr (Or.inr (Or.inr (Or.inl ⟨rfl, rfl⟩)))) rfl ?_
  refine r_iconst (v := 1) rfl rfl rfl ?_
  refine r_bin (v := (1 : Int32) <<< (m &&& 31) - 1) rfl (Or.inr (Or.inl ⟨rfl, rfl⟩)) rfl ?_
  refine r_iand rfl rfl rfl ?_
  exact r_iret rfl rfl rfl rfl
set_option maxHeartbeats 4000000 in
theorem w_cellR {k : Nat} (hk : k < 1000) (hL : L < 1000) : f_run a_MT xs L 36 [.ref a_big, .int (nI k)] h (.inl (some (.int (w_cell xs L k))), h) := by
  unfold w_cell
  by_cases h1 : k < L
  · rw [if_pos h1]
    refine r_of (q := md_36) MT_36 (Nat.le_of_ble_eq_true rfl) rfl ?_
    refine r_iload_n rfl rfl rfl ?_
    refine r_aload_n rfl rfl rfl ?_
    refine r_slen rfl rfl ?_
    refine r_icmp (bb := false) rfl (decide_eq_false (fun z => by have := (n_le (a := L) (b := k) (by omega) (by omega)).mp z; omega)) ⟨by decide, rfl⟩ ?_
    refine r_aload_n rfl rfl rfl ?_
    refine r_iload_n rfl rfl rfl ?_
    refine r_sald rfl ⟨h1, hL⟩ rfl ?_
    refine r_goto (pc' := 19) rfl ⟨by decide, rfl⟩ ?_
    exact r_iret rfl rfl rfl rfl
  · rw [if_neg h1]
    refine r_of (q := md_36) MT_36 (Nat.le_of_ble_eq_true rfl) rfl ?_
    refine r_iload_n rfl rfl rfl ?_
    refine r_aload_n rfl rfl rfl ?_
    refine r_slen rfl rfl ?_
    refine r_icmp (pc' := 12) (bb := true) rfl (decide_eq_true ((n_le (a := L) (b := k) (by omega) (by omega)).mpr (by omega))) ⟨by decide, rfl⟩ ?_
    refine r_bipush (v := 113) rfl rfl rfl ?_
    refine r_iload_n rfl rfl rfl ?_
    refine r_bin (v := 113 * nI k) rfl (Or.inr (Or.inr (Or.inl ⟨rfl, rfl⟩))) rfl ?_
    refine r_bipush (v := 67) rfl rfl rfl ?_
    refine r_bin (v := 113 * nI k + 67) rfl (Or.inl ⟨rfl, rfl⟩) rfl ?_
    exact r_iret rfl rfl rfl rfl
end A31f
