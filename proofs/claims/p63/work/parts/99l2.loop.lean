/-! The law's text: the loops. -/
section A31g
variable {xs : Nat → Int32} {L : Nat} {σ : f_M} {c n : Nat} {t : a_H} {x : Int32}
set_option maxHeartbeats 4000000 in
theorem s_ldcw {MT : Nat → Option a_Md} {q : a_Md} {pc pc' len a b k : Nat} {ls st : List Value} {h : a_H} {w : a_S} (hat : a_at (m_is q) pc = some (.ldc_w k, len, a, b)) (hp : pc + 3 = pc') (K : g_ok MT xs L q pc' ls (.ref (a_big + 1 + a) :: st) h c n w) : g_ok MT xs L q pc ls st h c n w := by
  subst hp
  exact s_stp (by unfold a_1; rw [hat]; rfl) K
def w_ls (x : Int32) (i : Nat) : List Value := [.ref a_big, .ref 0, .ref 155, .int x, .ref 181, .int (nI i)]
theorem w_and (x : Int32) (k : Nat) (hk : k < 31) : ∃ b : Nat, b < 2 ^ k ∧ x &&& nI (2 ^ k - 1) = nI b := by
  refine ⟨x.toBitVec.toNat % 2 ^ k, Nat.mod_lt _ (Nat.two_pow_pos k), ?_⟩
  have h2 : (2 : Nat) ^ k ≤ 2 ^ 30 := Nat.pow_le_pow_right (by decide) (by omega)
  have h3 := Nat.mod_lt x.toBitVec.toNat (Nat.two_pow_pos k)
  apply Int32.toBitVec_inj.mp
  apply BitVec.eq_of_toNat_eq
  have e1 : (nI (2 ^ k - 1)).toBitVec.toNat = 2 ^ k - 1 := by
    show (BitVec.ofNat 32 (2 ^ k - 1)).toNat = _
    rw [BitVec.toNat_ofNat, Nat.mod_eq_of_lt (by omega)]
  have e2 : (nI (x.toBitVec.toNat % 2 ^ k)).toBitVec.toNat = x.toBitVec.toNat % 2 ^ k := by
    show (BitVec.ofNat 32 _).toNat = _
    rw [BitVec.toNat_ofNat, Nat.mod_eq_of_lt (by omega)]
  rw [e2, Int32.toBitVec_and, BitVec.toNat_and, e1, Nat.and_two_pow_sub_one_eq_mod]
set_option maxHeartbeats 4000000 in
theorem w_part (x f : Int32) {k : Nat} (hk : k < 31) {m : Int32} (hm : (1 : Int32) <<< (m &&& 31) - 1 = nI (2 ^ k - 1)) : ∃ b : Nat, b < 2 ^ k ∧ w_bits x f m = nI b := by
  unfold w_bits
  rw [hm]
  exact w_and _ k hk
set_option maxHeartbeats 4000000 in
theorem w_i2c : ∀ i, i < 4 → ((nI (97 + i)).toUInt32 % 65536).toInt32 = nI (97 + i) := by decide +kernel
/-- a holder's, an assessor's statement -/
def w_hs (i b : Nat) : List Int32 := a_sbC.getD 5 [] ++ [nI (97 + i)] ++ [nI 32] ++ sb_dgt b ++ [nI 59]
def w_as (s : Nat) : List Int32 := a_sbC.getD 6 [] ++ sb_dgt s ++ [nI 59]
set_option maxHeartbeats 4000000 in
theorem w_dl (v : Nat) : (sb_dgt v).length ≤ 3 := by rw [sb_dgl]; split <;> (try split) <;> omega
set_option maxHeartbeats 4000000 in
theorem w_hsl (i b : Nat) : (w_hs i b).length ≤ 13 := by
  have := w_dl b
  unfold w_hs
  simp only [List.length_append]
  show 7 + 1 + 1 + _ + 1 ≤ 13
  omega
set_option maxHeartbeats 4000000 in
theorem w_asl (s : Nat) : (w_as s).length ≤ 13 := by
  have := w_dl s
  unfold w_as
  simp only [List.length_append]
  show 9 + _ + 1 ≤ 13
  omega
set_option maxHeartbeats 4000000 in
theorem w_hold {i hc b : Nat} {tx : List Int32} (hi : i < hc) (hc4 : hc ≤ 4) (hσ : σ 155 22 = nI hc) (hb : w_bits (w_cell xs L (1 + i)) 0 8 = nI b) (hb2 : b < 256) (hS : sbS 181 t tx) (hl : tx.length + 13 ≤ 102) (hc5 : 5 ≤ c) (hn5 : 1000 ≤ n) (hL : L < 1000) :
    ∃ t', sbS 181 t' (tx ++ w_hs i b) ∧ g_ok a_MT xs L md_137 88 (w_ls x i) [] (f_hp 181 σ ++ t) c n (88, w_ls x (i + 1), [], f_hp 181 (f_up σ 156 i (nI b)) ++ t', c - 5, n - 1000) := by
  have hw := w_hsl i b
  unfold w_hs at hw ⊢
  simp only [List.length_append] at hw
  have hB : (f_hp 181 (f_up σ 156 i (nI b))).length = 181 := f_hp_len _ _
  have hbb : 181 + 10 < a_big := by decide
  have hu : f_up σ 156 i (nI b) 156 i = nI b := by unfold f_up; rw [row_same]; exact if_pos rfl
  have l5 : (a_sbC.getD 5 []).length = 7 := rfl
  have l1 : ∀ z : Int32, [z].length = 1 := fun _ => rfl
  rw [l5] at hw
  simp only [l1] at hw
  obtain ⟨t1, r1, S1⟩ := sb_S (xs := xs) (L := L) (i := 5) (w := 7) hB hbb (by decide) ⟨rfl, rfl⟩ (by decide) (by omega) hS
  obtain ⟨t2, r2, S2⟩ := sb_C (xs := xs) (L := L) (c := 97 + i) hB hbb (by omega) (by rw [List.length_append, l5]; omega) S1
  obtain ⟨t3, r3, S3⟩ := sb_C (xs := xs) (L := L) (c := 32) hB hbb (by decide) (by rw [List.length_append, List.length_append, l5, l1]; omega) S2
  obtain ⟨t4, r4, S4⟩ := sb_I (xs := xs) (L := L) (v := b) hB hbb (by omega) (by simp only [List.length_append, l5, l1]; omega) S3
  obtain ⟨t5, r5, S5⟩ := sb_C (xs := xs) (L := L) (c := 59) hB hbb (by decide) (by simp only [List.length_append, l5, l1]; omega) S4
  obtain ⟨j0, m0, f0, g0, -⟩ := id hS
  obtain ⟨j1, m1, f1, g1, -⟩ := id S1
  obtain ⟨j2, m2, f2, g2, -⟩ := id S2
  obtain ⟨j3, m3, f3, g3, -⟩ := id S3
  obtain ⟨j4, m4, f4, g4, -⟩ := id S4
  refine ⟨t5, by simp only [List.append_assoc] at S5 ⊢; exact S5, ?_⟩
  refine s_iload rfl rfl rfl ?_
  refine s_aload_n rfl rfl rfl ?_
  refine s_getI rfl sh_155 rfl (show 155 < 181 by decide) rfl ?_
  refine s_icmp (bb := false) rfl (by rw [hσ]; exact decide_eq_false (fun z => by have := (n_le (a := hc) (b := i) (by omega) (by omega)).mp z; omega)) ⟨by decide, rfl⟩ ?_
  refine s_aload_n rfl rfl rfl ?_
  refine s_getR (t9 := 156) rfl sh_155 rfl (show 155 < 181 by decide) rfl ?_
  refine s_iload rfl rfl rfl ?_
  refine s_aload_n rfl rfl rfl ?_
  refine s_iconst (v := 1) rfl rfl rfl ?_
  refine s_iload rfl rfl rfl ?_
  refine s_bin (v := nI (1 + i)) rfl (Or.inl ⟨rfl, n_add 1 i⟩) rfl ?_
  refine s_kall (c' := c) (n' := n) (v9 := some (.int (w_cell xs L (1 + i)))) (r_ks (na := 2) rfl (by decide) MT_36 rfl ⟨Nat.le_of_ble_eq_true rfl, rfl, rfl⟩ ⟨Nat.zero_le _, Nat.zero_le _, Nat.le_of_ble_eq_true rfl⟩) MT_36 (w_cellR (by omega) hL) ⟨rfl, rfl, rfl, rfl⟩ ?_
  refine s_iconst (v := 0) rfl rfl rfl ?_
  refine s_bipush (v := 8) rfl rfl rfl ?_
  refine s_kall (c' := c) (n' := n) (v9 := some (.int (w_bits (w_cell xs L (1 + i)) 0 8))) (r_ks (na := 3) rfl (by decide) MT_37 rfl ⟨Nat.le_of_ble_eq_true rfl, rfl, rfl⟩ ⟨Nat.zero_le _, Nat.zero_le _, Nat.le_of_ble_eq_true rfl⟩) MT_37 w_bitsR ⟨rfl, rfl, rfl, rfl⟩ ?_
  rw [hb]
  refine s_iast rfl sh_156 (by decide) ⟨by omega, by decide⟩ rfl ?_
  refine s_aload rfl rfl rfl ?_
  refine s_ldcw rfl rfl ?_
  refine s_kall (c' := c - 1) (n' := n - 200) (v9 := some (.ref 181)) (r_kv (na := 2) rfl (by decide) MT_140 ⟨rfl, by decide⟩ ⟨Nat.le_of_ble_eq_true rfl, rfl, rfl, (sb_isc (B := 181) (f_hp_len _ _) g0)⟩ ⟨show 1 ≤ c - 0 by omega, show 200 ≤ n - 0 by omega, Nat.le_of_ble_eq_true rfl⟩) MT_140 r1 ⟨rfl, by show c - 0 - 1 = c - 1; omega, by show n - 0 - 200 = n - 200; omega, rfl⟩ ?_
  refine s_bipush (v := 97) rfl rfl rfl ?_
  refine s_iload rfl rfl rfl ?_
  refine s_bin (v := nI (97 + i)) rfl (Or.inl ⟨rfl, n_add 97 i⟩) rfl ?_
  refine s_una (v := nI (97 + i)) rfl (Or.inr (Or.inr (⟨rfl, w_i2c i (by omega)⟩))) rfl ?_
  refine s_kall (c' := c - 2) (n' := n - 400) (v9 := some (.ref 181)) (r_kv (na := 2) rfl (by decide) MT_148 ⟨rfl, by decide⟩ ⟨Nat.le_of_ble_eq_true rfl, rfl, rfl, (sb_isc (B := 181) (f_hp_len _ _) g1)⟩ ⟨show 1 ≤ c - 1 by omega, show 200 ≤ n - 200 by omega, Nat.le_of_ble_eq_true rfl⟩) MT_148 r2 ⟨rfl, by show c - 1 - 1 = c - 2; omega, by show n - 200 - 200 = n - 400; omega, rfl⟩ ?_
  refine s_bipush (v := nI 32) rfl rfl rfl ?_
  refine s_kall (c' := c - 3) (n' := n - 600) (v9 := some (.ref 181)) (r_kv (na := 2) rfl (by decide) MT_148 ⟨rfl, by decide⟩ ⟨Nat.le_of_ble_eq_true rfl, rfl, rfl, (sb_isc (B := 181) (f_hp_len _ _) g2)⟩ ⟨show 1 ≤ c - 2 by omega, show 200 ≤ n - 400 by omega, Nat.le_of_ble_eq_true rfl⟩) MT_148 r3 ⟨rfl, by show c - 2 - 1 = c - 3; omega, by show n - 400 - 200 = n - 600; omega, rfl⟩ ?_
  refine s_aload_n rfl rfl rfl ?_
  refine s_getR (t9 := 156) rfl sh_155 rfl (show 155 < 181 by decide) rfl ?_
  refine s_iload rfl rfl rfl ?_
  refine s_iald rfl sh_156 (by decide) (by decide) ⟨by omega, by decide⟩ rfl ?_
  rw [hu]
  refine s_kall (c' := c - 4) (n' := n - 800) (v9 := some (.ref 181)) (r_kv (na := 2) rfl (by decide) MT_152 ⟨rfl, by decide⟩ ⟨Nat.le_of_ble_eq_true rfl, rfl, rfl, (sb_isc (B := 181) (f_hp_len _ _) g3)⟩ ⟨show 1 ≤ c - 3 by omega, show 200 ≤ n - 600 by omega, Nat.le_of_ble_eq_true rfl⟩) MT_152 r4 ⟨rfl, by show c - 3 - 1 = c - 4; omega, by show n - 600 - 200 = n - 800; omega, rfl⟩ ?_
  refine s_bipush (v := nI 59) rfl rfl rfl ?_
  refine s_kall (c' := c - 5) (n' := n - 1000) (v9 := some (.ref 181)) (r_kv (na := 2) rfl (by decide) MT_148 ⟨rfl, by decide⟩ ⟨Nat.le_of_ble_eq_true rfl, rfl, rfl, (sb_isc (B := 181) (f_hp_len _ _) g4)⟩ ⟨show 1 ≤ c - 4 by omega, show 200 ≤ n - 800 by omega, Nat.le_of_ble_eq_true rfl⟩) MT_148 r5 ⟨rfl, by show c - 4 - 1 = c - 5; omega, by show n - 800 - 200 = n - 1000; omega, rfl⟩ ?_
  refine s_pop rfl rfl rfl ?_
  refine s_iinc (ls' := w_ls x (i + 1)) (v := nI (i + 1)) rfl rfl (n_add i 1) rfl rfl ?_
  refine s_goto (pc' := 88) rfl ⟨by decide, rfl⟩ ?_
  exact g_end
set_option maxHeartbeats 4000000 in
theorem w_asse {i hc b : Nat} {tx : List Int32} (hi : i < hc) (hc4 : hc ≤ 3) (hσ : σ 155 23 = nI hc) (hb : w_bits x (12 + 3 * nI i) 3 = nI b) (hb2 : b < 8) (hS : sbS 181 t tx) (hl : tx.length + 13 ≤ 102) (hc5 : 3 ≤ c) (hn5 : 600 ≤ n) :
    ∃ t', sbS 181 t' (tx ++ w_as b) ∧ g_ok a_MT xs L md_137 165 (w_ls x i) [] (f_hp 181 σ ++ t) c n (165, w_ls x (i + 1), [], f_hp 181 (f_up σ 158 i (nI b)) ++ t', c - 3, n - 600) := by
  have hw := w_asl b
  unfold w_as at hw ⊢
  simp only [List.length_append] at hw
  have hB : (f_hp 181 (f_up σ 158 i (nI b))).length = 181 := f_hp_len _ _
  have hbb : 181 + 10 < a_big := by decide
  have hu : f_up σ 158 i (nI b) 158 i = nI b := by unfold f_up; rw [row_same]; exact if_pos rfl
  have l5 : (a_sbC.getD 6 []).length = 9 := rfl
  have l1 : ∀ z : Int32, [z].length = 1 := fun _ => rfl
  rw [l5] at hw
  simp only [l1] at hw
  obtain ⟨t1, r1, S1⟩ := sb_S (xs := xs) (L := L) (i := 6) (w := 9) hB hbb (by decide) ⟨rfl, rfl⟩ (by decide) (by omega) hS
  obtain ⟨t4, r4, S4⟩ := sb_I (xs := xs) (L := L) (v := b) hB hbb (by omega) (by simp only [List.length_append, l5]; omega) S1
  obtain ⟨t5, r5, S5⟩ := sb_C (xs := xs) (L := L) (c := 59) hB hbb (by decide) (by simp only [List.length_append, l5]; omega) S4
  obtain ⟨j0, m0, f0, g0, -⟩ := id hS
  obtain ⟨j1, m1, f1, g1, -⟩ := id S1
  obtain ⟨j4, m4, f4, g4, -⟩ := id S4
  refine ⟨t5, by simp only [List.append_assoc] at S5 ⊢; exact S5, ?_⟩
  refine s_iload rfl rfl rfl ?_
  refine s_aload_n rfl rfl rfl ?_
  refine s_getI rfl sh_155 rfl (show 155 < 181 by decide) rfl ?_
  refine s_icmp (bb := false) rfl (by rw [hσ]; exact decide_eq_false (fun z => by have := (n_le (a := hc) (b := i) (by omega) (by omega)).mp z; omega)) ⟨by decide, rfl⟩ ?_
  refine s_aload_n rfl rfl rfl ?_
  refine s_getR (t9 := 158) rfl sh_155 rfl (show 155 < 181 by decide) rfl ?_
  refine s_iload rfl rfl rfl ?_
  refine s_iload_n rfl rfl rfl ?_
  refine s_bipush (v := 12) rfl rfl rfl ?_
  refine s_iconst (v := 3) rfl rfl rfl ?_
  refine s_iload rfl rfl rfl ?_
  refine s_bin (v := 3 * nI i) rfl (Or.inr (Or.inr (Or.inl ⟨rfl, rfl⟩))) rfl ?_
  refine s_bin (v := 12 + 3 * nI i) rfl (Or.inl ⟨rfl, rfl⟩) rfl ?_
  refine s_iconst (v := 3) rfl rfl rfl ?_
  refine s_kall (c' := c) (n' := n) (v9 := some (.int (w_bits x (12 + 3 * nI i) 3))) (r_ks (na := 3) rfl (by decide) MT_37 rfl ⟨Nat.le_of_ble_eq_true rfl, rfl, rfl⟩ ⟨Nat.zero_le _, Nat.zero_le _, Nat.le_of_ble_eq_true rfl⟩) MT_37 w_bitsR ⟨rfl, rfl, rfl, rfl⟩ ?_
  rw [hb]
  refine s_iast rfl sh_158 (by decide) ⟨by omega, by decide⟩ rfl ?_
  refine s_aload rfl rfl rfl ?_
  refine s_ldcw rfl rfl ?_
  refine s_kall (c' := c - 1) (n' := n - 200) (v9 := some (.ref 181)) (r_kv (na := 2) rfl (by decide) MT_140 ⟨rfl, by decide⟩ ⟨Nat.le_of_ble_eq_true rfl, rfl, rfl, (sb_isc (B := 181) (f_hp_len _ _) g0)⟩ ⟨show 1 ≤ c - 0 by omega, show 200 ≤ n - 0 by omega, Nat.le_of_ble_eq_true rfl⟩) MT_140 r1 ⟨rfl, by show c - 0 - 1 = c - 1; omega, by show n - 0 - 200 = n - 200; omega, rfl⟩ ?_
  refine s_aload_n rfl rfl rfl ?_
  refine s_getR (t9 := 158) rfl sh_155 rfl (show 155 < 181 by decide) rfl ?_
  refine s_iload rfl rfl rfl ?_
  refine s_iald rfl sh_158 (by decide) (by decide) ⟨by omega, by decide⟩ rfl ?_
  rw [hu]
  refine s_kall (c' := c - 2) (n' := n - 400) (v9 := some (.ref 181)) (r_kv (na := 2) rfl (by decide) MT_152 ⟨rfl, by decide⟩ ⟨Nat.le_of_ble_eq_true rfl, rfl, rfl, (sb_isc (B := 181) (f_hp_len _ _) g1)⟩ ⟨show 1 ≤ c - 1 by omega, show 200 ≤ n - 200 by omega, Nat.le_of_ble_eq_true rfl⟩) MT_152 r4 ⟨rfl, by show c - 1 - 1 = c - 2; omega, by show n - 200 - 200 = n - 400; omega, rfl⟩ ?_
  refine s_bipush (v := nI 59) rfl rfl rfl ?_
  refine s_kall (c' := c - 3) (n' := n - 600) (v9 := some (.ref 181)) (r_kv (na := 2) rfl (by decide) MT_148 ⟨rfl, by decide⟩ ⟨Nat.le_of_ble_eq_true rfl, rfl, rfl, (sb_isc (B := 181) (f_hp_len _ _) g4)⟩ ⟨show 1 ≤ c - 2 by omega, show 200 ≤ n - 400 by omega, Nat.le_of_ble_eq_true rfl⟩) MT_148 r5 ⟨rfl, by show c - 2 - 1 = c - 3; omega, by show n - 400 - 200 = n - 600; omega, rfl⟩ ?_
  refine s_pop rfl rfl rfl ?_
  refine s_iinc (ls' := w_ls x (i + 1)) (v := nI (i + 1)) rfl rfl (n_add i 1) rfl rfl ?_
  refine s_goto (pc' := 165) rfl ⟨by decide, rfl⟩ ?_
  exact g_end
end A31g
