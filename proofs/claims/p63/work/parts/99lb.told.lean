/-! told: the outer loop. -/
section A31p
variable {xs : Nat → Int32} {L : Nat} {tx : List Int32}
set_option maxHeartbeats 4000000 in
theorem r_nil {MT : Nat → Option a_Md} {q : a_Md} {pc : Nat} {ls st : List Value} {h : a_H} {c n : Nat} {w : a_R × a_H} (K : f_ok MT xs L q pc ls st (h ++ []) c n w) : f_ok MT xs L q pc ls st h c n w := by
  rw [List.append_nil] at K; exact K
set_option maxHeartbeats 4000000 in
theorem w_sh5 : ∀ N, 181 ≤ N → N < 186 → f_shape N = .inl (.int, 5, 0) := fun N h1 h2 => by
  rcases (show N = 181 ∨ N = 182 ∨ N = 183 ∨ N = 184 ∨ N = 185 by omega) with rfl | rfl | rfl | rfl | rfl <;> rfl
/-- what told does, without the machine -/
def w_tfun (tx : List Int32) : Nat → Nat → Nat → f_M → Option (Nat × f_M)
  | 0, _, _, _ => none
  | d + 1, k, N, σ => if tx.length ≤ k then (g_45 (nI tx.length) σ).map (fun t => (N, t.2)) else (g_42 (w_rw tx k 20 0) (w_rw tx k 20 1) (w_rw tx k 20 2) (w_rw tx k 20 3) (w_rw tx k 20 4) (f_row σ N (w_rw tx k 20))).bind fun t => w_tfun tx d (k + 20) (N + 1) t.2
set_option maxHeartbeats 4000000 in
theorem w_outer (htx : tx.length ≤ 100) : ∀ (d k N : Nat) (σ : f_M) (u3 u4 : Value) (N' : Nat) (σ' : f_M), k % 20 = 0 → N = 181 + k / 20 → k ≤ 100 → w_tfun tx d k N σ = some (N', σ') → f_ok a_MT (w_xs xs tx) L md_41 2 [.ref 0, .ref (a_big + 8), .int (nI k), u3, u4] [] (f_hp N σ) (5 - k / 20) (25 - 5 * (k / 20)) (.inl none, f_hp N' σ') := by
  have hbg : a_big = 1000000 := rfl
  intro d
  induction d with
  | zero => intro k N σ u3 u4 N' σ' _ _ _ h; cases h
  | succ d ih =>
    intro k N σ u3 u4 N' σ' h20 hN hk h
    unfold w_tfun at h
    by_cases hlt : tx.length ≤ k
    · rw [if_pos hlt, Option.map_eq_some_iff] at h
      obtain ⟨t, h1, h2⟩ := h
      cases h2
      have G := r_cal (w9 := e_wb t) (G_45 (xs := w_xs xs tx) (L := L) (N := N) (by omega) (nI tx.length) σ) (by rw [h1]; rfl)
      refine r_iload_n rfl rfl rfl ?_
      refine r_aload_n rfl rfl rfl ?_
      refine r_jdk (i9 := 79) (w9 := 4) (r := [.int (nI tx.length), .int (nI k)]) rfl (Or.inl rfl) (w_len8 (Nat.le_of_ble_eq_true rfl) (by omega)) rfl ?_
      refine r_icmp (pc' := 96) (bb := true) rfl (decide_eq_true ((n_le (a := tx.length) (b := k) (by omega) (by omega)).mpr hlt)) ⟨by decide, rfl⟩ ?_
      refine r_aload_n rfl rfl rfl ?_
      refine r_aload_n rfl rfl rfl ?_
      refine r_jdk (i9 := 79) (w9 := 4) (r := [.int (nI tx.length), .ref 0]) rfl (Or.inl rfl) (w_len8 (Nat.le_of_ble_eq_true rfl) (by omega)) rfl ?_
      refine r_kall (v9 := some (.int (f_b t.1))) (r_kv (na := 2) rfl (by decide) MT_40 ⟨rfl, by decide⟩ ⟨Nat.le_of_ble_eq_true rfl, rfl, rfl, (w_isc sh_0 (by omega))⟩ ⟨Nat.zero_le _, Nat.zero_le _, Nat.le_of_ble_eq_true rfl⟩) MT_40 G ⟨rfl, rfl, rfl, rfl⟩ ?_
      refine r_pop rfl rfl rfl ?_
      exact r_vret rfl rfl rfl
    · rw [if_neg hlt, Option.bind_eq_some_iff] at h
      obtain ⟨t, h1, h2⟩ := h
      have hs := w_sh5 N (by omega) (by omega)
      have G := r_cal (w9 := e_wi t) (G_42 (xs := w_xs xs tx) (L := L) (N := N + 1) (by omega) (w_rw tx k 20 0) (w_rw tx k 20 1) (w_rw tx k 20 2) (w_rw tx k 20 3) (w_rw tx k 20 4) (f_row σ N (w_rw tx k 20))) (by rw [h1]; rfl)
      have K := ih (k + 20) (N + 1) t.2 (.ref N) (.int (nI 20)) N' σ' (by omega) (by omega) (by omega) h2
      have hrow : ∀ j, f_row σ N (w_rw tx k 20) N j = w_rw tx k 20 j := fun j => by rw [row_same]
      have e1 : 5 - (k + 20) / 20 = 5 - k / 20 - 1 := by omega
      have e2 : 25 - 5 * ((k + 20) / 20) = 25 - 5 * (k / 20) - 5 := by omega
      rw [e1, e2] at K
      refine r_iload_n rfl rfl rfl ?_
      refine r_aload_n rfl rfl rfl ?_
      refine r_jdk (i9 := 79) (w9 := 4) (r := [.int (nI tx.length), .int (nI k)]) rfl (Or.inl rfl) (w_len8 (Nat.le_of_ble_eq_true rfl) (by omega)) rfl ?_
      refine r_icmp (bb := false) rfl (decide_eq_false (fun z => by have := (n_le (a := tx.length) (b := k) (by omega) (by omega)).mp z; omega)) ⟨by decide, rfl⟩ ?_
      refine r_iconst (v := nI 5) rfl rfl rfl ?_
      refine r_nil ?_
      refine r_newarr (c' := 5 - k / 20 - 1) (n' := 25 - 5 * (k / 20) - 5) (z := 5) (m := N) (B := N) (ty := .int) (els := .inl (fun _ => 0)) (f_hp_len N σ) rfl rfl rfl ⟨rfl, by decide, by decide⟩ rfl (by omega) ⟨by omega, by omega⟩ ⟨rfl, rfl, rfl⟩ ?_
      have eh : f_hp N σ ++ ([] ++ [(.inl (.int, 5, .inl (fun _ => 0)) : a_C)]) = f_hp (N + 1) (f_row σ N (w_rw tx k 0)) := by
        rw [← f_hp_succ, hs]; rfl
      rw [eh]
      refine r_astore_n (ls' := [.ref 0, .ref (a_big + 8), .int (nI k), .ref N, u4]) rfl (Nat.le_of_ble_eq_true rfl) rfl rfl ?_
      refine r_iconst (v := nI 0) rfl rfl rfl ?_
      refine r_istore (ls' := w_tl k N 0) rfl (Nat.le_of_ble_eq_true rfl) rfl rfl ?_
      refine w_inner hs (by omega) (by omega) (by omega) 20 0 rfl ?_
      refine r_iload rfl rfl rfl ?_
      refine r_bipush (v := nI 20) rfl rfl rfl ?_
      refine r_icmp (pc' := 70) (bb := true) rfl (rfl) ⟨by decide, rfl⟩ ?_
      refine r_aload_n rfl rfl rfl ?_
      refine r_aload_n rfl rfl rfl ?_
      refine r_iconst (v := nI 0) rfl rfl rfl ?_
      refine r_ialdF rfl hs (by omega) (by omega) ⟨by decide, by decide⟩ rfl ?_
      rw [hrow]
      refine r_aload_n rfl rfl rfl ?_
      refine r_iconst (v := nI 1) rfl rfl rfl ?_
      refine r_ialdF rfl hs (by omega) (by omega) ⟨by decide, by decide⟩ rfl ?_
      rw [hrow]
      refine r_aload_n rfl rfl rfl ?_
      refine r_iconst (v := nI 2) rfl rfl rfl ?_
      refine r_ialdF rfl hs (by omega) (by omega) ⟨by decide, by decide⟩ rfl ?_
      rw [hrow]
      refine r_aload_n rfl rfl rfl ?_
      refine r_iconst (v := nI 3) rfl rfl rfl ?_
      refine r_ialdF rfl hs (by omega) (by omega) ⟨by decide, by decide⟩ rfl ?_
      rw [hrow]
      refine r_aload_n rfl rfl rfl ?_
      refine r_iconst (v := nI 4) rfl rfl rfl ?_
      refine r_ialdF rfl hs (by omega) (by omega) ⟨by decide, by decide⟩ rfl ?_
      rw [hrow]
      refine r_kall (v9 := some (.int t.1)) (r_kv (na := 6) rfl (by decide) MT_39 ⟨rfl, by decide⟩ ⟨Nat.le_of_ble_eq_true rfl, rfl, rfl, (w_isc sh_0 (by omega))⟩ ⟨Nat.zero_le _, Nat.zero_le _, Nat.le_of_ble_eq_true rfl⟩) MT_39 G ⟨rfl, rfl, rfl, rfl⟩ ?_
      refine r_pop rfl rfl rfl ?_
      refine r_iinc (ls' := [.ref 0, .ref (a_big + 8), .int (nI (k + 20)), .ref N, .int (nI 20)]) (v := nI (k + 20)) rfl rfl (n_add k 20) rfl rfl ?_
      refine r_goto (pc' := 2) rfl ⟨by decide, rfl⟩ ?_
      exact K
set_option maxHeartbeats 4000000 in
theorem w_toldR (htx : tx.length ≤ 100) {d N' : Nat} {σ σ' : f_M} (h : w_tfun tx d 0 181 σ = some (N', σ')) : f_run a_MT (w_xs xs tx) L 41 [.ref 0, .ref (a_big + 8)] (f_hp 181 σ) (.inl none, f_hp N' σ') := by
  refine r_of (q := md_41) (ls := [.ref 0, .ref (a_big + 8), a_dead, a_dead, a_dead]) MT_41 (Nat.le_of_ble_eq_true rfl) rfl ?_
  refine r_iconst (v := nI 0) rfl rfl rfl ?_
  refine r_istore_n (ls' := [.ref 0, .ref (a_big + 8), .int (nI 0), a_dead, a_dead]) rfl (Nat.le_of_ble_eq_true rfl) rfl rfl ?_
  exact w_outer htx d 0 181 σ a_dead a_dead N' σ' rfl rfl (by omega) h
end A31p
