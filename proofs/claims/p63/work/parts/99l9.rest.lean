/-! The law from behind toString: told, loadSetup, the comparisons, the 44 acts. -/
section A31n
variable {xs : Nat → Int32} {L N : Nat} {σ : f_M} {c n : Nat} {x : Int32} {ac : Nat}
set_option maxHeartbeats 4000000 in
theorem r_gI {MT : Nat → Option a_Md} {q : a_Md} {pc pc' len ci k i9 o9 : Nat} {ls st : List Value} {w : a_R × a_H} {fs : List Nat} (hat : a_at (m_is q) pc = some (.getfield i9, len, ci, k)) (hs : f_shape o9 = .inr (ci, fs)) (hf : fs[k]? = some 0) (hN : o9 < N) (hp : pc + 3 = pc') (K : f_ok MT xs L q pc' ls (.int (σ o9 k) :: st) (f_hp N σ) c n w) : f_ok MT xs L q pc ls (.ref o9 :: st) (f_hp N σ) c n w := by
  subst hp
  exact r_stp (by unfold a_1; rw [hat]; simp only [a_ins, f_gf_of hs hf hN, Option.map_some]; rfl) K
set_option maxHeartbeats 4000000 in
theorem w_isc {o ci : Nat} {fs : List Nat} (hs : f_shape o = .inr (ci, fs)) (hN : o < N) : a_isc (f_hp N σ) (some (.ref o)) ci = true := by
  unfold a_isc
  dsimp only
  rw [f_hp_get hN, f_cellO hs]
  simp
set_option maxHeartbeats 4000000 in
theorem w_cell_xs {tx : List Int32} (hL : L ≤ 998) (k : Nat) : w_cell (w_xs xs tx) L k = w_cell xs L k := by
  unfold w_cell
  split
  · exact w_xs_lo (by omega)
  · rfl
def w_l3 (x : Int32) (i : Nat) : List Value := [.ref a_big, .ref 0, .ref 155, .int x, .ref (a_big + 400), .int (nI i)]
set_option maxHeartbeats 4000000 in
theorem w_mod4 : ∀ k, k < 44 → a_c2 .ne (nI k - nI k / 4 * 4) 3 = decide (k % 4 ≠ 3) := by decide +kernel
set_option maxHeartbeats 4000000 in
theorem w_loop (hL : L ≤ 260) (hN : 181 ≤ N) {Inv : Nat → f_M → Prop} (step : ∀ k σ, k < 44 → Inv k σ → ∃ σ1, l_acts (w_cell xs L (5 + k)) (w_cell xs L (50 + k)) σ = some (true, σ1) ∧ (k % 4 = 3 → ∃ σ2, l_isLike σ1 = some (true, σ2) ∧ Inv (k + 1) σ2) ∧ (k % 4 ≠ 3 → Inv (k + 1) σ1)) : ∀ (d k : Nat) (σ : f_M) (c n : Nat), k + d = 44 → Inv k σ → d ≤ c → 6 * d ≤ n → ∃ hz, f_ok a_MT xs L md_137 256 (w_l3 x k) [] (f_hp N σ) c n (.inl (some (.int 1)), hz) := by
  intro d
  induction d with
  | zero =>
    intro k σ c n hk _ _ _
    obtain rfl : k = 44 := by omega
    refine ⟨f_hp N σ, ?_⟩
    refine r_iload rfl rfl rfl ?_
    refine r_bipush (v := nI 44) rfl rfl rfl ?_
    refine r_icmp (pc' := 314) (bb := true) rfl (rfl) ⟨by decide, rfl⟩ ?_
    refine r_iconst (v := 1) rfl rfl rfl ?_
    exact r_iret rfl rfl rfl rfl
  | succ d ih =>
    intro k σ c n hk hI hc hn
    obtain ⟨σ1, e1, i1, i2⟩ := step k σ (by omega) hI
    have hact := r_cal (w9 := e_wb (true, σ1)) (L_acts (xs := xs) (L := L) hN (w_cell xs L (5 + k)) (w_cell xs L (50 + k)) σ) (by rw [e1]; rfl)
    have hm := w_mod4 k (by omega)
    by_cases h3 : k % 4 = 3
    · obtain ⟨σ2, e2, hI2⟩ := i1 h3
      have hlike := r_cal (w9 := e_wb (true, σ2)) (L_isLike (xs := xs) (L := L) hN σ1) (by rw [e2]; rfl)
      obtain ⟨hz, K⟩ := ih (k + 1) σ2 (c - 1) (n - 6) (by omega) hI2 (by omega) (by omega)
      refine ⟨hz, ?_⟩
      refine r_iload rfl rfl rfl ?_
      refine r_bipush (v := nI 44) rfl rfl rfl ?_
      refine r_icmp (bb := false) rfl (decide_eq_false (fun z => by have := (n_le (a := 44) (b := k) (by omega) (by omega)).mp z; omega)) ⟨by decide, rfl⟩ ?_
      refine r_aload_n rfl rfl rfl ?_
      refine r_aload_n rfl rfl rfl ?_
      refine r_aload_n rfl rfl rfl ?_
      refine r_iconst (v := nI 5) rfl rfl rfl ?_
      refine r_iload rfl rfl rfl ?_
      refine r_bin (v := nI (5 + k)) rfl (Or.inl ⟨rfl, n_add 5 k⟩) rfl ?_
      refine r_kall (c' := c) (n' := n) (v9 := some (.int (w_cell xs L (5 + k)))) (r_ks (na := 2) rfl (by decide) MT_36 rfl ⟨Nat.le_of_ble_eq_true rfl, rfl, rfl⟩ ⟨Nat.zero_le _, Nat.zero_le _, Nat.le_of_ble_eq_true rfl⟩) MT_36 (w_cellR (by omega) (by omega)) ⟨rfl, rfl, rfl, rfl⟩ ?_
      refine r_aload_n rfl rfl rfl ?_
      refine r_bipush (v := nI 50) rfl rfl rfl ?_
      refine r_iload rfl rfl rfl ?_
      refine r_bin (v := nI (50 + k)) rfl (Or.inl ⟨rfl, n_add 50 k⟩) rfl ?_
      refine r_kall (c' := c) (n' := n) (v9 := some (.int (w_cell xs L (50 + k)))) (r_ks (na := 2) rfl (by decide) MT_36 rfl ⟨Nat.le_of_ble_eq_true rfl, rfl, rfl⟩ ⟨Nat.zero_le _, Nat.zero_le _, Nat.le_of_ble_eq_true rfl⟩) MT_36 (w_cellR (by omega) (by omega)) ⟨rfl, rfl, rfl, rfl⟩ ?_
      refine r_kall (c' := c - 1) (n' := n - 6) (v9 := some (.int 1)) (r_kv (na := 4) rfl (by decide) MT_136 ⟨rfl, by decide⟩ ⟨Nat.le_of_ble_eq_true rfl, rfl, rfl, (w_isc sh_155 (by omega))⟩ ⟨show 1 ≤ c by omega, show 6 ≤ n by omega, Nat.le_of_ble_eq_true rfl⟩) MT_136 hact ⟨rfl, rfl, rfl, rfl⟩ ?_
      refine r_if (pc' := 290) (bb := true) rfl (rfl) ⟨by decide, rfl⟩ ?_
      refine r_iload rfl rfl rfl ?_
      refine r_iconst (v := 4) rfl rfl rfl ?_
      refine r_bin (v := nI k - nI k / 4 * 4) rfl (Or.inr (Or.inr (Or.inr (Or.inr (Or.inr (Or.inr (⟨rfl, by decide, rfl⟩))))))) rfl ?_
      refine r_iconst (v := 3) rfl rfl rfl ?_
      refine r_icmp (bb := false) rfl (hm.trans (decide_eq_false (by omega))) ⟨by decide, rfl⟩ ?_
      refine r_aload_n rfl rfl rfl ?_
      refine r_aload_n rfl rfl rfl ?_
      refine r_kall (c' := c - 1) (n' := n - 6) (v9 := some (.int 1)) (r_kv (na := 2) rfl (by decide) MT_103 ⟨rfl, by decide⟩ ⟨Nat.le_of_ble_eq_true rfl, rfl, rfl, (w_isc sh_155 (by omega))⟩ ⟨Nat.zero_le _, Nat.zero_le _, Nat.le_of_ble_eq_true rfl⟩) MT_103 hlike ⟨rfl, rfl, rfl, rfl⟩ ?_
      refine r_if (pc' := 308) (bb := true) rfl (rfl) ⟨by decide, rfl⟩ ?_
      refine r_iinc (ls' := w_l3 x (k + 1)) (v := nI (k + 1)) rfl rfl (n_add k 1) rfl rfl ?_
      refine r_goto (pc' := 256) rfl ⟨by decide, rfl⟩ ?_
      exact K
    · obtain ⟨hz, K⟩ := ih (k + 1) σ1 (c - 1) (n - 6) (by omega) (i2 h3) (by omega) (by omega)
      refine ⟨hz, ?_⟩
      refine r_iload rfl rfl rfl ?_
      refine r_bipush (v := nI 44) rfl rfl rfl ?_
      refine r_icmp (bb := false) rfl (decide_eq_false (fun z => by have := (n_le (a := 44) (b := k) (by omega) (by omega)).mp z; omega)) ⟨by decide, rfl⟩ ?_
      refine r_aload_n rfl rfl rfl ?_
      refine r_aload_n rfl rfl rfl ?_
      refine r_aload_n rfl rfl rfl ?_
      refine r_iconst (v := nI 5) rfl rfl rfl ?_
      refine r_iload rfl rfl rfl ?_
      refine r_bin (v := nI (5 + k)) rfl (Or.inl ⟨rfl, n_add 5 k⟩) rfl ?_
      refine r_kall (c' := c) (n' := n) (v9 := some (.int (w_cell xs L (5 + k)))) (r_ks (na := 2) rfl (by decide) MT_36 rfl ⟨Nat.le_of_ble_eq_true rfl, rfl, rfl⟩ ⟨Nat.zero_le _, Nat.zero_le _, Nat.le_of_ble_eq_true rfl⟩) MT_36 (w_cellR (by omega) (by omega)) ⟨rfl, rfl, rfl, rfl⟩ ?_
      refine r_aload_n rfl rfl rfl ?_
      refine r_bipush (v := nI 50) rfl rfl rfl ?_
      refine r_iload rfl rfl rfl ?_
      refine r_bin (v := nI (50 + k)) rfl (Or.inl ⟨rfl, n_add 50 k⟩) rfl ?_
      refine r_kall (c' := c) (n' := n) (v9 := some (.int (w_cell xs L (50 + k)))) (r_ks (na := 2) rfl (by decide) MT_36 rfl ⟨Nat.le_of_ble_eq_true rfl, rfl, rfl⟩ ⟨Nat.zero_le _, Nat.zero_le _, Nat.le_of_ble_eq_true rfl⟩) MT_36 (w_cellR (by omega) (by omega)) ⟨rfl, rfl, rfl, rfl⟩ ?_
      refine r_kall (c' := c - 1) (n' := n - 6) (v9 := some (.int 1)) (r_kv (na := 4) rfl (by decide) MT_136 ⟨rfl, by decide⟩ ⟨Nat.le_of_ble_eq_true rfl, rfl, rfl, (w_isc sh_155 (by omega))⟩ ⟨show 1 ≤ c by omega, show 6 ≤ n by omega, Nat.le_of_ble_eq_true rfl⟩) MT_136 hact ⟨rfl, rfl, rfl, rfl⟩ ?_
      refine r_if (pc' := 290) (bb := true) rfl (rfl) ⟨by decide, rfl⟩ ?_
      refine r_iload rfl rfl rfl ?_
      refine r_iconst (v := 4) rfl rfl rfl ?_
      refine r_bin (v := nI k - nI k / 4 * 4) rfl (Or.inr (Or.inr (Or.inr (Or.inr (Or.inr (Or.inr (⟨rfl, by decide, rfl⟩))))))) rfl ?_
      refine r_iconst (v := 3) rfl rfl rfl ?_
      refine r_icmp (pc' := 308) (bb := true) rfl (hm.trans (decide_eq_true h3)) ⟨by decide, rfl⟩ ?_
      refine r_iinc (ls' := w_l3 x (k + 1)) (v := nI (k + 1)) rfl rfl (n_add k 1) rfl rfl ?_
      refine r_goto (pc' := 256) rfl ⟨by decide, rfl⟩ ?_
      exact K
set_option maxHeartbeats 4000000 in
theorem w_rest (hL : L ≤ 260) (hN : 181 ≤ N) {Inv : Nat → f_M → Prop} {N0 : Nat} {σ0 σ1 σ2 σ3 : f_M} {v : Int32} (step : ∀ k σ, k < 44 → Inv k σ → ∃ σ1, l_acts (w_cell xs L (5 + k)) (w_cell xs L (50 + k)) σ = some (true, σ1) ∧ (k % 4 = 3 → ∃ σ2, l_isLike σ1 = some (true, σ2) ∧ Inv (k + 1) σ2) ∧ (k % 4 ≠ 3 → Inv (k + 1) σ1))
    (told : f_run a_MT xs L 41 [.ref 0, .ref (a_big + 8)] (f_hp N0 σ0) (.inl none, f_hp N σ1)) (load : g_33 σ1 = some (v, σ2)) (hv : v = σ2 155 22) (like : l_isLike σ2 = some (true, σ3)) (hI : Inv 0 σ3) (hc : 100 ≤ c) (hn : 1000 ≤ n) : ∃ hz, f_ok a_MT xs L md_137 229 (w_l2 x ac) [.ref (a_big + 8), .ref 0] (f_hp N0 σ0) c n (.inl (some (.int 1)), hz) := by
  have hload := r_cal (w9 := e_wi (v, σ2)) (G_33 (xs := xs) (L := L) (N := N) (by omega) σ1) (by rw [load]; rfl)
  have hlike := r_cal (w9 := e_wb (true, σ3)) (L_isLike (xs := xs) (L := L) hN σ2) (by rw [like]; rfl)
  obtain ⟨hz, K⟩ := w_loop (xs := xs) (x := x) hL hN step 44 0 σ3 (c - 5) (n - 25) (by omega) hI (by omega) (by omega)
  refine ⟨hz, ?_⟩
  refine r_kall (c' := c - 5) (n' := n - 25) (v9 := none) (r_ks (na := 2) rfl (by decide) MT_41 rfl ⟨Nat.le_of_ble_eq_true rfl, rfl, rfl⟩ ⟨show 5 ≤ c by omega, show 25 ≤ n by omega, Nat.le_of_ble_eq_true rfl⟩) MT_41 told ⟨rfl, rfl, rfl, rfl⟩ ?_
  refine r_aload_n rfl rfl rfl ?_
  refine r_kall (c' := c - 5) (n' := n - 25) (v9 := some (.int v)) (r_kv (na := 1) rfl (by decide) MT_33 ⟨rfl, by decide⟩ ⟨Nat.le_of_ble_eq_true rfl, rfl, rfl, (w_isc sh_0 (by omega))⟩ ⟨Nat.zero_le _, Nat.zero_le _, Nat.le_of_ble_eq_true rfl⟩) MT_33 hload ⟨rfl, rfl, rfl, rfl⟩ ?_
  refine r_aload_n rfl rfl rfl ?_
  refine r_gI rfl sh_155 rfl (show 155 < N by omega) rfl ?_
  refine r_icmp (bb := false) rfl (by rw [hv]; exact decide_eq_false (fun z => z rfl)) ⟨by decide, rfl⟩ ?_
  refine r_aload_n rfl rfl rfl ?_
  refine r_aload_n rfl rfl rfl ?_
  refine r_kall (c' := c - 5) (n' := n - 25) (v9 := some (.int 1)) (r_kv (na := 2) rfl (by decide) MT_103 ⟨rfl, by decide⟩ ⟨Nat.le_of_ble_eq_true rfl, rfl, rfl, (w_isc sh_155 (by omega))⟩ ⟨Nat.zero_le _, Nat.zero_le _, Nat.le_of_ble_eq_true rfl⟩) MT_103 hlike ⟨rfl, rfl, rfl, rfl⟩ ?_
  refine r_if (pc' := 253) (bb := true) rfl (rfl) ⟨by decide, rfl⟩ ?_
  refine r_iconst (v := nI 0) rfl rfl rfl ?_
  refine r_istore (ls' := w_l3 x 0) rfl (Nat.le_of_ble_eq_true rfl) rfl rfl ?_
  exact K
end A31n
