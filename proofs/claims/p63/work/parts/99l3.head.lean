/-! The law up to the call of toString. -/
section A31h
variable {xs : Nat → Int32} {L : Nat} {σ : f_M} {c n : Nat} {t : a_H} {x : Int32}
set_option maxHeartbeats 4000000 in
theorem g_nil {MT : Nat → Option a_Md} {q : a_Md} {pc : Nat} {ls st : List Value} {h : a_H} {w : a_S} (K : g_ok MT xs L q pc ls st (h ++ []) c n w) : g_ok MT xs L q pc ls st h c n w := by
  rw [List.append_nil] at K; exact K
/-- the balance of holder i, the strictness of assessor i -/
def w_b (xs : Nat → Int32) (L i : Nat) : Nat := (w_bits (w_cell xs L (1 + i)) 0 8).toNatClampNeg
def w_s (x : Int32) (i : Nat) : Nat := (w_bits x (12 + 3 * nI i) 3).toNatClampNeg
set_option maxHeartbeats 4000000 in
theorem w_clamp {v : Int32} {k : Nat} (hk : k < 31) (h : ∃ b : Nat, b < 2 ^ k ∧ v = nI b) : v.toNatClampNeg < 2 ^ k ∧ v = nI v.toNatClampNeg := by
  obtain ⟨b, h1, rfl⟩ := h
  have h2 : (2 : Nat) ^ k ≤ 2 ^ 30 := Nat.pow_le_pow_right (by decide) (by omega)
  rw [n_clamp (by omega)]
  exact ⟨h1, rfl⟩
set_option maxHeartbeats 4000000 in
theorem w_b_ok (i : Nat) : w_b xs L i < 256 ∧ w_bits (w_cell xs L (1 + i)) 0 8 = nI (w_b xs L i) := w_clamp (k := 8) (by decide) (w_part _ _ (by decide) rfl)
set_option maxHeartbeats 4000000 in
theorem w_s_ok (i : Nat) : w_s x i < 8 ∧ w_bits x (12 + 3 * nI i) 3 = nI (w_s x i) := w_clamp (k := 3) (by decide) (w_part _ _ (by decide) rfl)
/-- holders, assessors, the reserve -/
def w_hc (x : Int32) : Nat := 1 + (w_bits x 0 2).toNatClampNeg
def w_ac (x : Int32) : Nat := 1 + (w_bits x 2 4).toNatClampNeg % 3
def w_r (x : Int32) : Nat := 4 * (w_bits x 6 6).toNatClampNeg
set_option maxHeartbeats 4000000 in
theorem w_hc_ok (x : Int32) : 1 ≤ w_hc x ∧ w_hc x ≤ 4 ∧ 1 + w_bits x 0 2 = nI (w_hc x) := by
  obtain ⟨h1, h2⟩ := w_clamp (k := 2) (by decide) (w_part x 0 (k := 2) (m := 2) (by decide) rfl)
  unfold w_hc
  refine ⟨by omega, by omega, ?_⟩
  rw [h2, n_clamp (by omega)]
  exact n_add 1 _
set_option maxHeartbeats 4000000 in
theorem w_irem : ∀ b, b < 16 → nI b - nI b / 3 * 3 = nI (b % 3) := by decide +kernel
set_option maxHeartbeats 4000000 in
theorem w_ac_ok (x : Int32) : 1 ≤ w_ac x ∧ w_ac x ≤ 3 ∧ 1 + (w_bits x 2 4 - w_bits x 2 4 / 3 * 3) = nI (w_ac x) := by
  obtain ⟨h1, h2⟩ := w_clamp (k := 4) (by decide) (w_part x 2 (k := 4) (m := 4) (by decide) rfl)
  unfold w_ac
  refine ⟨by omega, by omega, ?_⟩
  rw [h2, n_clamp (by omega), w_irem _ h1]
  exact n_add 1 _
set_option maxHeartbeats 4000000 in
theorem w_r_ok (x : Int32) : w_r x ≤ 252 ∧ 4 * w_bits x 6 6 = nI (w_r x) := by
  obtain ⟨h1, h2⟩ := w_clamp (k := 6) (by decide) (w_part x 6 (k := 6) (m := 6) (by decide) rfl)
  unfold w_r
  refine ⟨by omega, ?_⟩
  rw [h2, n_clamp (by omega)]
  exact n_mul 4 _
/-- the reserve's statement; the texts; the law's own memory -/
def w_rt (r : Nat) : List Int32 := a_sbC.getD 1 [] ++ sb_dgt r ++ [nI 59]
def w_ht (xs : Nat → Int32) (L : Nat) : Nat → List Int32
  | 0 => []
  | i + 1 => w_ht xs L i ++ w_hs i (w_b xs L i)
def w_at (x : Int32) : Nat → List Int32
  | 0 => []
  | i + 1 => w_at x i ++ w_as (w_s x i)
def w_mb (xs : Nat → Int32) (L : Nat) (σ : f_M) : Nat → f_M
  | 0 => σ
  | i + 1 => f_up (w_mb xs L σ i) 156 i (nI (w_b xs L i))
def w_ms (x : Int32) (σ : f_M) : Nat → f_M
  | 0 => σ
  | i + 1 => f_up (w_ms x σ i) 158 i (nI (w_s x i))
set_option maxHeartbeats 4000000 in
theorem w_mb_o (i : Nat) {r : Nat} (hr : r ≠ 156) : w_mb xs L σ i r = σ r := by
  induction i with
  | zero => rfl
  | succ i ih => unfold w_mb f_up; rw [row_ne hr]; exact ih
set_option maxHeartbeats 4000000 in
theorem w_ms_o (i : Nat) {r : Nat} (hr : r ≠ 158) : w_ms x σ i r = σ r := by
  induction i with
  | zero => rfl
  | succ i ih => unfold w_ms f_up; rw [row_ne hr]; exact ih
set_option maxHeartbeats 4000000 in
theorem w_ht_l (i : Nat) : (w_ht xs L i).length ≤ 13 * i := by
  induction i with
  | zero => exact Nat.le_refl _
  | succ i ih => unfold w_ht; rw [List.length_append]; have := w_hsl i (w_b xs L i); omega
set_option maxHeartbeats 4000000 in
theorem w_as1 {s : Nat} (h : s < 8) : (w_as s).length = 11 := by
  unfold w_as
  simp only [List.length_append]
  rw [sb_dgl, if_pos (by omega)]
  rfl
set_option maxHeartbeats 4000000 in
theorem w_at_l (i : Nat) : (w_at x i).length = 11 * i := by
  induction i with
  | zero => rfl
  | succ i ih => unfold w_at; rw [List.length_append, w_as1 (w_s_ok i).1]; omega
set_option maxHeartbeats 4000000 in
theorem w_rt_l (r : Nat) : (w_rt r).length ≤ 12 := by
  have := w_dl r
  unfold w_rt
  simp only [List.length_append]
  show 8 + _ + 1 ≤ 12
  omega
set_option maxHeartbeats 4000000 in
theorem w_holds {hc : Nat} {tx : List Int32} (hc4 : hc ≤ 4) (hσ : σ 155 22 = nI hc) (hS : sbS 181 t tx) (hl : tx.length ≤ 12) (hc5 : 20 ≤ c) (hn5 : 4000 ≤ n) (hL : L < 1000) : ∀ i, i ≤ hc → ∃ t', sbS 181 t' (tx ++ w_ht xs L i) ∧ g_ok a_MT xs L md_137 88 (w_ls x 0) [] (f_hp 181 σ ++ t) c n (88, w_ls x i, [], f_hp 181 (w_mb xs L σ i) ++ t', c - 5 * i, n - 1000 * i) := by
  intro i
  induction i with
  | zero => intro _; exact ⟨t, by unfold w_ht; rw [List.append_nil]; exact hS, g_end⟩
  | succ i ih =>
    intro hi
    obtain ⟨t1, S1, G1⟩ := ih (by omega)
    have := w_ht_l (xs := xs) (L := L) i
    obtain ⟨t2, S2, G2⟩ := w_hold (xs := xs) (L := L) (x := x) (σ := w_mb xs L σ i) (c := c - 5 * i) (n := n - 1000 * i) (i := i) (hc := hc) (by omega) hc4 (by rw [w_mb_o i (by decide)]; exact hσ) (w_b_ok i).2 (w_b_ok i).1 S1 (by rw [List.length_append]; omega) (by omega) (by omega) hL
    refine ⟨t2, by unfold w_ht; rw [← List.append_assoc]; exact S2, ?_⟩
    rw [show c - 5 * (i + 1) = c - 5 * i - 5 by omega, show n - 1000 * (i + 1) = n - 1000 * i - 1000 by omega]
    exact g_tr G1 G2
set_option maxHeartbeats 4000000 in
theorem w_asses {ac : Nat} {tx : List Int32} (hc4 : ac ≤ 3) (hσ : σ 155 23 = nI ac) (hS : sbS 181 t tx) (hl : tx.length ≤ 64) (hc5 : 9 ≤ c) (hn5 : 1800 ≤ n) : ∀ i, i ≤ ac → ∃ t', sbS 181 t' (tx ++ w_at x i) ∧ g_ok a_MT xs L md_137 165 (w_ls x 0) [] (f_hp 181 σ ++ t) c n (165, w_ls x i, [], f_hp 181 (w_ms x σ i) ++ t', c - 3 * i, n - 600 * i) := by
  intro i
  induction i with
  | zero => intro _; exact ⟨t, by unfold w_at; rw [List.append_nil]; exact hS, g_end⟩
  | succ i ih =>
    intro hi
    obtain ⟨t1, S1, G1⟩ := ih (by omega)
    have := w_at_l (x := x) i
    obtain ⟨t2, S2, G2⟩ := w_asse (xs := xs) (L := L) (x := x) (σ := w_ms x σ i) (c := c - 3 * i) (n := n - 600 * i) (i := i) (hc := ac) (by omega) hc4 (by rw [w_ms_o i (by decide)]; exact hσ) (w_s_ok i).2 (w_s_ok i).1 S1 (by rw [List.length_append]; omega) (by omega) (by omega)
    refine ⟨t2, by unfold w_at; rw [← List.append_assoc]; exact S2, ?_⟩
    rw [show c - 3 * (i + 1) = c - 3 * i - 3 by omega, show n - 600 * (i + 1) = n - 600 * i - 600 by omega]
    exact g_tr G1 G2
/-! from the holders' loop to the call of toString -/
set_option maxHeartbeats 4000000 in
theorem w_tail {hc ac : Nat} {tx : List Int32} (hh : hc ≤ 4) (ha : ac ≤ 3) (h1 : σ 155 22 = nI hc) (h2 : σ 155 23 = nI ac) (hS : sbS 181 t tx) (hl : tx.length ≤ 12) (hc5 : 100 ≤ c) (hn5 : 10000 ≤ n) (hL : L < 1000) : ∃ t' c' n', sbS 181 t' (tx ++ w_ht xs L hc ++ w_at x ac) ∧ c - 29 ≤ c' ∧ n - 5800 ≤ n' ∧ c' ≤ c ∧ n' ≤ n ∧ g_ok a_MT xs L md_137 88 (w_ls x 0) [] (f_hp 181 σ ++ t) c n (226, w_ls x ac, [.ref 181, .ref 0], f_hp 181 (w_ms x (w_mb xs L σ hc) ac) ++ t', c', n') := by
  obtain ⟨t1, S1, G1⟩ := w_holds (x := x) (xs := xs) (L := L) (c := c) (n := n) hh h1 hS hl (by omega) (by omega) hL hc (Nat.le_refl _)
  have l1 := w_ht_l (xs := xs) (L := L) hc
  have h2' : w_mb xs L σ hc 155 23 = nI ac := by rw [w_mb_o hc (by decide)]; exact h2
  have h1' : w_mb xs L σ hc 155 22 = nI hc := by rw [w_mb_o hc (by decide)]; exact h1
  obtain ⟨t2, S2, G2⟩ := w_asses (xs := xs) (L := L) (x := x) (c := c - 5 * hc) (n := n - 1000 * hc) ha h2' S1 (by rw [List.length_append]; omega) (by omega) (by omega) ac (Nat.le_refl _)
  have h3 : w_ms x (w_mb xs L σ hc) ac 155 23 = nI ac := by rw [w_ms_o ac (by decide)]; exact h2'
  refine ⟨t2, c - 5 * hc - 3 * ac, n - 1000 * hc - 600 * ac, S2, by omega, by omega, by omega, by omega, ?_⟩
  refine g_tr G1 (g_tr (z := (165, w_ls x 0, [], f_hp 181 (w_mb xs L σ hc) ++ t1, c - 5 * hc, n - 1000 * hc)) ?_ (g_tr G2 ?_))
  · show g_ok a_MT xs L md_137 88 (w_ls x hc) [] (f_hp 181 (w_mb xs L σ hc) ++ t1) (c - 5 * hc) (n - 1000 * hc) _
    refine s_iload rfl rfl rfl ?_
    refine s_aload_n rfl rfl rfl ?_
    refine s_getI rfl sh_155 rfl (show 155 < 181 by decide) rfl ?_
    refine s_icmp (pc' := 162) (bb := true) rfl (by rw [h1']; exact decide_eq_true ((n_le (a := hc) (b := hc) (by omega) (by omega)).mpr (Nat.le_refl _))) ⟨by decide, rfl⟩ ?_
    refine s_iconst (v := nI 0) rfl rfl rfl ?_
    refine s_istore (ls' := w_ls x 0) rfl (Nat.le_of_ble_eq_true rfl) rfl rfl ?_
    exact g_end
  · show g_ok a_MT xs L md_137 165 (w_ls x ac) [] (f_hp 181 (w_ms x (w_mb xs L σ hc) ac) ++ t2) (c - 5 * hc - 3 * ac) (n - 1000 * hc - 600 * ac) _
    refine s_iload rfl rfl rfl ?_
    refine s_aload_n rfl rfl rfl ?_
    refine s_getI rfl sh_155 rfl (show 155 < 181 by decide) rfl ?_
    refine s_icmp (pc' := 223) (bb := true) rfl (by rw [h3]; exact decide_eq_true ((n_le (a := ac) (b := ac) (by omega) (by omega)).mpr (Nat.le_refl _))) ⟨by decide, rfl⟩ ?_
    refine s_aload_n rfl rfl rfl ?_
    refine s_aload rfl rfl rfl ?_
    exact g_end
/-- the law's memory behind its first stretch -/
def w_m0 (x : Int32) (σc : f_M) : f_M := f_up (f_up (f_up (f_sL σc) 155 22 (nI (w_hc x))) 155 23 (nI (w_ac x))) 155 27 (nI (w_r x))
set_option maxHeartbeats 4000000 in
theorem w_head {σc : f_M} (h0 : g_34 f_s0 = some σc) (hL : L < 1000) : ∃ t', sbS 181 t' (w_rt (w_r (w_cell xs L 0))) ∧ g_ok a_MT xs L md_137 0 (a_loc 6 [.ref a_big]) [] [] 600000 7300000 (88, w_ls (w_cell xs L 0) 0, [], f_hp 181 (w_m0 (w_cell xs L 0) σc) ++ t', 599814, 7292015) := by
  have hB : (f_hp 181 (w_m0 (w_cell xs L 0) σc)).length = 181 := f_hp_len _ _
  have hbb : 181 + 10 < a_big := by decide
  have hr : w_m0 (w_cell xs L 0) σc 155 27 = nI (w_r (w_cell xs L 0)) := by unfold w_m0 f_up; rw [row_same]; rfl
  have h252 := (w_r_ok (w_cell xs L 0)).1
  have hd := w_dl (w_r (w_cell xs L 0))
  obtain ⟨t1, r1, S1⟩ := sb_new (xs := xs) (L := L) hB hbb
  obtain ⟨t2, r2, S2⟩ := sb_I (xs := xs) (L := L) (v := w_r (w_cell xs L 0)) hB hbb (by omega) (by show 8 + _ ≤ 102; omega) S1
  obtain ⟨t3, r3, S3⟩ := sb_C (xs := xs) (L := L) (c := 59) hB hbb (by decide) (by rw [List.length_append]; show 8 + _ + 1 ≤ 102; omega) S2
  obtain ⟨j1, m1, f1, g1, -⟩ := id S1
  obtain ⟨j2, m2, f2, g2, -⟩ := id S2
  refine ⟨t3, S3, ?_⟩
  show g_ok a_MT xs L md_137 0 [.ref a_big, a_dead, a_dead, a_dead, a_dead, a_dead] [] ([] ++ []) 600000 7300000 _
  refine s_new (c' := 599999) (n' := 7299984) (B := 0) (h0 := []) (t := []) rfl (m := 0) (fs := [.null, .int 0, .null, .int 0, .null, .null, .null, .null, .null, .null, .null, .null, .null, .null, .null, .int 0]) rfl (by decide) rfl (by decide) ⟨Nat.le_of_ble_eq_true rfl, Nat.le_of_ble_eq_true rfl⟩ rfl ⟨rfl, rfl, rfl⟩ ?_
  refine s_dup rfl rfl rfl ?_
  refine s_kall (c' := 599845) (n' := 7293152) (v9 := none) (r_spec rfl (by decide) MT_34 rfl ⟨Nat.le_of_ble_eq_true rfl, Nat.le_of_ble_eq_true rfl, Nat.le_of_ble_eq_true rfl⟩) MT_34 (K_34 h0) ⟨rfl, rfl, rfl, rfl⟩ ?_
  refine s_astore_n (ls' := [.ref a_big, .ref 0, a_dead, a_dead, a_dead, a_dead]) rfl (Nat.le_of_ble_eq_true rfl) rfl rfl ?_
  refine g_nil ?_
  refine s_new (c' := 599844) (n' := 7293119) (B := 155) (f_hp_len 155 σc) (m := 155) (fs := [.null, .null, .null, .null, .null, .null, .null, .null, .null, .null, .null, .null, .null, .null, .null, .null, .null, .null, .null, .null, .null, .null, .int 0, .int 0, .int 0, .int 0, .int 0, .int 0, .int 0, .int 0, .int 0, .int 0, .int 0]) rfl (by decide) rfl (by decide) ⟨Nat.le_of_ble_eq_true rfl, Nat.le_of_ble_eq_true rfl⟩ rfl ⟨rfl, rfl, rfl⟩ ?_
  refine s_dup rfl rfl rfl ?_
  refine s_kall (c' := 599819) (n' := 7292719) (v9 := none) (r_spec rfl (by decide) MT_35 rfl ⟨Nat.le_of_ble_eq_true rfl, Nat.le_of_ble_eq_true rfl, Nat.le_of_ble_eq_true rfl⟩) MT_35 K_35 ⟨rfl, rfl, rfl, rfl⟩ ?_
  refine s_astore_n (ls' := [.ref a_big, .ref 0, .ref 155, a_dead, a_dead, a_dead]) rfl (Nat.le_of_ble_eq_true rfl) rfl rfl ?_
  refine g_nil ?_
  refine s_aload_n rfl rfl rfl ?_
  refine s_iconst (v := nI 0) rfl rfl rfl ?_
  refine s_kall (c' := 599819) (n' := 7292719) (v9 := some (.int (w_cell xs L 0))) (r_ks (na := 2) rfl (by decide) MT_36 rfl ⟨Nat.le_of_ble_eq_true rfl, rfl, rfl⟩ ⟨Nat.zero_le _, Nat.zero_le _, Nat.le_of_ble_eq_true rfl⟩) MT_36 (w_cellR (k := 0) (by decide) hL) ⟨rfl, rfl, rfl, rfl⟩ ?_
  refine s_istore_n (ls' := [.ref a_big, .ref 0, .ref 155, .int (w_cell xs L 0), a_dead, a_dead]) rfl (Nat.le_of_ble_eq_true rfl) rfl rfl ?_
  refine s_aload_n rfl rfl rfl ?_
  refine s_iconst (v := 1) rfl rfl rfl ?_
  refine s_iload_n rfl rfl rfl ?_
  refine s_iconst (v := 0) rfl rfl rfl ?_
  refine s_iconst (v := 2) rfl rfl rfl ?_
  refine s_kall (c' := 599819) (n' := 7292719) (v9 := some (.int (w_bits (w_cell xs L 0) 0 2))) (r_ks (na := 3) rfl (by decide) MT_37 rfl ⟨Nat.le_of_ble_eq_true rfl, rfl, rfl⟩ ⟨Nat.zero_le _, Nat.zero_le _, Nat.le_of_ble_eq_true rfl⟩) MT_37 w_bitsR ⟨rfl, rfl, rfl, rfl⟩ ?_
  refine s_bin (v := nI (w_hc (w_cell xs L 0))) rfl (Or.inl ⟨rfl, (w_hc_ok _).2.2⟩) rfl ?_
  refine s_putI rfl sh_155 rfl ⟨rfl, rfl⟩ (by decide) rfl ?_
  refine s_aload_n rfl rfl rfl ?_
  refine s_iconst (v := 1) rfl rfl rfl ?_
  refine s_iload_n rfl rfl rfl ?_
  refine s_iconst (v := 2) rfl rfl rfl ?_
  refine s_iconst (v := 4) rfl rfl rfl ?_
  refine s_kall (c' := 599819) (n' := 7292719) (v9 := some (.int (w_bits (w_cell xs L 0) 2 4))) (r_ks (na := 3) rfl (by decide) MT_37 rfl ⟨Nat.le_of_ble_eq_true rfl, rfl, rfl⟩ ⟨Nat.zero_le _, Nat.zero_le _, Nat.le_of_ble_eq_true rfl⟩) MT_37 w_bitsR ⟨rfl, rfl, rfl, rfl⟩ ?_
  refine s_iconst (v := 3) rfl rfl rfl ?_
  refine s_bin (v := w_bits (w_cell xs L 0) 2 4 - w_bits (w_cell xs L 0) 2 4 / 3 * 3) rfl (Or.inr (Or.inr (Or.inr (Or.inr (Or.inr (Or.inr (⟨rfl, by decide, rfl⟩))))))) rfl ?_
  refine s_bin (v := nI (w_ac (w_cell xs L 0))) rfl (Or.inl ⟨rfl, (w_ac_ok _).2.2⟩) rfl ?_
  refine s_putI rfl sh_155 rfl ⟨rfl, rfl⟩ (by decide) rfl ?_
  refine s_aload_n rfl rfl rfl ?_
  refine s_iconst (v := 4) rfl rfl rfl ?_
  refine s_iload_n rfl rfl rfl ?_
  refine s_bipush (v := 6) rfl rfl rfl ?_
  refine s_bipush (v := 6) rfl rfl rfl ?_
  refine s_kall (c' := 599819) (n' := 7292719) (v9 := some (.int (w_bits (w_cell xs L 0) 6 6))) (r_ks (na := 3) rfl (by decide) MT_37 rfl ⟨Nat.le_of_ble_eq_true rfl, rfl, rfl⟩ ⟨Nat.zero_le _, Nat.zero_le _, Nat.le_of_ble_eq_true rfl⟩) MT_37 w_bitsR ⟨rfl, rfl, rfl, rfl⟩ ?_
  refine s_bin (v := nI (w_r (w_cell xs L 0))) rfl (Or.inr (Or.inr (Or.inl ⟨rfl, (w_r_ok _).2⟩))) rfl ?_
  refine s_putI rfl sh_155 rfl ⟨rfl, rfl⟩ (by decide) rfl ?_
  refine s_new (c' := 599818) (n' := 7292715) (B := 181) (f_hp_len 181 _) (t := []) (m := 181) (fs := [.null, .int 0, .int 0, .int 0]) rfl (by decide) rfl (by decide) ⟨Nat.le_of_ble_eq_true rfl, Nat.le_of_ble_eq_true rfl⟩ rfl ⟨rfl, rfl, rfl⟩ ?_
  refine s_dup rfl rfl rfl ?_
  refine s_ldc rfl rfl ?_
  refine s_kall (c' := 599816) (n' := 7292415) (v9 := none) (r_ki (na := 2) rfl (by decide) MT_137 ⟨rfl, by decide⟩ ⟨Nat.le_of_ble_eq_true rfl, rfl, rfl, rfl⟩ ⟨Nat.le_of_ble_eq_true rfl, Nat.le_of_ble_eq_true rfl, Nat.le_of_ble_eq_true rfl⟩) MT_137 r1 ⟨rfl, rfl, rfl, rfl⟩ ?_
  refine s_aload_n rfl rfl rfl ?_
  refine s_getI rfl sh_155 rfl (show 155 < 181 by decide) rfl ?_
  rw [hr]
  refine s_kall (c' := 599815) (n' := 7292215) (v9 := some (.ref 181)) (r_kv (na := 2) rfl (by decide) MT_152 ⟨rfl, by decide⟩ ⟨Nat.le_of_ble_eq_true rfl, rfl, rfl, (sb_isc (B := 181) (f_hp_len _ _) g1)⟩ ⟨Nat.le_of_ble_eq_true rfl, Nat.le_of_ble_eq_true rfl, Nat.le_of_ble_eq_true rfl⟩) MT_152 r2 ⟨rfl, rfl, rfl, rfl⟩ ?_
  refine s_bipush (v := nI 59) rfl rfl rfl ?_
  refine s_kall (c' := 599814) (n' := 7292015) (v9 := some (.ref 181)) (r_kv (na := 2) rfl (by decide) MT_148 ⟨rfl, by decide⟩ ⟨Nat.le_of_ble_eq_true rfl, rfl, rfl, (sb_isc (B := 181) (f_hp_len _ _) g2)⟩ ⟨Nat.le_of_ble_eq_true rfl, Nat.le_of_ble_eq_true rfl, Nat.le_of_ble_eq_true rfl⟩) MT_148 r3 ⟨rfl, rfl, rfl, rfl⟩ ?_
  refine s_astore (ls' := [.ref a_big, .ref 0, .ref 155, .int (w_cell xs L 0), .ref 181, a_dead]) rfl (Nat.le_of_ble_eq_true rfl) rfl rfl ?_
  refine s_iconst (v := nI 0) rfl rfl rfl ?_
  refine s_istore (ls' := w_ls (w_cell xs L 0) 0) rfl (Nat.le_of_ble_eq_true rfl) rfl rfl ?_
  exact g_end
end A31h
