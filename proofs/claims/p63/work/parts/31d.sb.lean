/-! StringBuilder: append(int), the constructor. -/
section A31d
variable {xs : Nat → Int32} {L B : Nat} {h0 t : a_H}
/-- the letters of a number -/
def sb_dgt (v : Nat) : List Int32 := if v < 10 then [nI (48 + v)] else if v < 100 then [nI (48 + v / 10), nI (48 + v % 10)] else [nI (48 + v / 100), nI (48 + v / 10 % 10), nI (48 + v % 10)]
set_option maxHeartbeats 4000000 in
theorem sb_f1 : ∀ v, v < 1000 → a_c2 .le (-nI v) (-10) = decide (10 ≤ v) ∧ a_c2 .le (-nI v) (-100) = decide (100 ≤ v) ∧ a_c2 .le (-nI v) (-1000) = false ∧ a_c2 .gt (-nI v) (-100) = decide (v < 100) ∧ a_c2 .ge (-nI v) (-9) = decide (v < 10) ∧ a_c0 .lt (nI v) = false ∧ a_c0 .ge (nI v) = true := by decide +kernel
set_option maxHeartbeats 4000000 in
theorem sb_f2 : ∀ v, v < 1000 → -nI v / 100 = -nI (v / 100) ∧ -nI (v / 100) * 100 - -nI v = nI (v % 100) ∧ - -nI v = nI v := by decide +kernel
set_option maxHeartbeats 4000000 in
theorem sb_f3 : ∀ v, v < 100 → vp_nar .byte (a_dig 0 v) = nI (48 + v % 10) ∧ vp_nar .byte (a_dig 1 v) = nI (48 + v / 10) ∧ fits .byte (.int (nI (48 + v % 10))) = true ∧ fits .byte (.int (nI (48 + v / 10))) = true := by decide +kernel
set_option maxHeartbeats 4000000 in
theorem sb_f4 : ∀ e, e < 1000 → nI (e + 1) + Int32.ofInt (-1) = nI e := by decide +kernel
set_option maxHeartbeats 4000000 in
theorem sb_dgl {v : Nat} : (sb_dgt v).length = if v < 10 then 1 else if v < 100 then 2 else 3 := by
  unfold sb_dgt
  split
  · rfl
  · split <;> rfl
set_option maxHeartbeats 4000000 in
theorem sb_size {v : Nat} {h : a_H} (hv : v < 1000) : f_run a_MT xs L 154 [.int (nI v)] h (.inl (some (.int (nI (sb_dgt v).length))), h) := by
  rw [sb_dgl]
  by_cases h1 : v < 10
  · rw [if_pos h1]
    refine r_of (q := md_217) MT_154 (Nat.le_of_ble_eq_true rfl) rfl ?_
    refine r_iconst (v := 1) rfl rfl rfl ?_
    refine r_istore_n (ls' := [.int (nI v), .int (1), a_dead, a_dead]) rfl (Nat.le_of_ble_eq_true rfl) rfl rfl ?_
    refine r_iload_n rfl rfl rfl ?_
    refine r_if (bb := false) rfl ((sb_f1 v hv).2.2.2.2.2.1) ⟨by decide, rfl⟩ ?_
    refine r_iconst (v := 0) rfl rfl rfl ?_
    refine r_istore_n (ls' := [.int (nI v), .int (0), a_dead, a_dead]) rfl (Nat.le_of_ble_eq_true rfl) rfl rfl ?_
    refine r_iload_n rfl rfl rfl ?_
    refine r_una (v := -nI v) rfl (Or.inl ⟨rfl, rfl⟩) rfl ?_
    refine r_istore_n (ls' := [.int (-nI v), .int (0), a_dead, a_dead]) rfl (Nat.le_of_ble_eq_true rfl) rfl rfl ?_
    refine r_bipush (v := -10) rfl rfl rfl ?_
    refine r_istore_n (ls' := [.int (-nI v), .int (0), .int (-10), a_dead]) rfl (Nat.le_of_ble_eq_true rfl) rfl rfl ?_
    refine r_iconst (v := 1) rfl rfl rfl ?_
    refine r_istore_n (ls' := [.int (-nI v), .int (0), .int (-10), .int (1)]) rfl (Nat.le_of_ble_eq_true rfl) rfl rfl ?_
    refine r_iload_n rfl rfl rfl ?_
    refine r_bipush (v := 10) rfl rfl rfl ?_
    refine r_icmp (bb := false) rfl (rfl) ⟨by decide, rfl⟩ ?_
    refine r_iload_n rfl rfl rfl ?_
    refine r_iload_n rfl rfl rfl ?_
    refine r_icmp (bb := false) rfl ((sb_f1 v hv).1.trans (decide_eq_false (by omega))) ⟨by decide, rfl⟩ ?_
    refine r_iload_n rfl rfl rfl ?_
    refine r_iload_n rfl rfl rfl ?_
    refine r_bin (v := 1) rfl (Or.inl ⟨rfl, rfl⟩) rfl ?_
    exact r_iret rfl rfl rfl rfl
  · rw [if_neg h1]
    by_cases h2 : v < 100
    · rw [if_pos h2]
      refine r_of (q := md_217) MT_154 (Nat.le_of_ble_eq_true rfl) rfl ?_
      refine r_iconst (v := 1) rfl rfl rfl ?_
      refine r_istore_n (ls' := [.int (nI v), .int (1), a_dead, a_dead]) rfl (Nat.le_of_ble_eq_true rfl) rfl rfl ?_
      refine r_iload_n rfl rfl rfl ?_
      refine r_if (bb := false) rfl ((sb_f1 v hv).2.2.2.2.2.1) ⟨by decide, rfl⟩ ?_
      refine r_iconst (v := 0) rfl rfl rfl ?_
      refine r_istore_n (ls' := [.int (nI v), .int (0), a_dead, a_dead]) rfl (Nat.le_of_ble_eq_true rfl) rfl rfl ?_
      refine r_iload_n rfl rfl rfl ?_
      refine r_una (v := -nI v) rfl (Or.inl ⟨rfl, rfl⟩) rfl ?_
      refine r_istore_n (ls' := [.int (-nI v), .int (0), a_dead, a_dead]) rfl (Nat.le_of_ble_eq_true rfl) rfl rfl ?_
      refine r_bipush (v := -10) rfl rfl rfl ?_
      refine r_istore_n (ls' := [.int (-nI v), .int (0), .int (-10), a_dead]) rfl (Nat.le_of_ble_eq_true rfl) rfl rfl ?_
      refine r_iconst (v := 1) rfl rfl rfl ?_
      refine r_istore_n (ls' := [.int (-nI v), .int (0), .int (-10), .int (1)]) rfl (Nat.le_of_ble_eq_true rfl) rfl rfl ?_
      refine r_iload_n rfl rfl rfl ?_
      refine r_bipush (v := 10) rfl rfl rfl ?_
      refine r_icmp (bb := false) rfl (rfl) ⟨by decide, rfl⟩ ?_
      refine r_iload_n rfl rfl rfl ?_
      refine r_iload_n rfl rfl rfl ?_
      refine r_icmp (pc' := 31) (bb := true) rfl ((sb_f1 v hv).1.trans (decide_eq_true (by omega))) ⟨by decide, rfl⟩ ?_
      refine r_bipush (v := 10) rfl rfl rfl ?_
      refine r_iload_n rfl rfl rfl ?_
      refine r_bin (v := -100) rfl (Or.inr (Or.inr (Or.inl ⟨rfl, rfl⟩))) rfl ?_
      refine r_istore_n (ls' := [.int (-nI v), .int (0), .int (-100), .int (1)]) rfl (Nat.le_of_ble_eq_true rfl) rfl rfl ?_
      refine r_iinc (ls' := [.int (-nI v), .int (0), .int (-100), .int (2)]) (v := 2) rfl rfl (rfl) rfl rfl ?_
      refine r_goto (pc' := 16) rfl ⟨by decide, rfl⟩ ?_
      refine r_iload_n rfl rfl rfl ?_
      refine r_bipush (v := 10) rfl rfl rfl ?_
      refine r_icmp (bb := false) rfl (rfl) ⟨by decide, rfl⟩ ?_
      refine r_iload_n rfl rfl rfl ?_
      refine r_iload_n rfl rfl rfl ?_
      refine r_icmp (bb := false) rfl ((sb_f1 v hv).2.1.trans (decide_eq_false (by omega))) ⟨by decide, rfl⟩ ?_
      refine r_iload_n rfl rfl rfl ?_
      refine r_iload_n rfl rfl rfl ?_
      refine r_bin (v := 2) rfl (Or.inl ⟨rfl, rfl⟩) rfl ?_
      exact r_iret rfl rfl rfl rfl
    · rw [if_neg h2]
      refine r_of (q := md_217) MT_154 (Nat.le_of_ble_eq_true rfl) rfl ?_
      refine r_iconst (v := 1) rfl rfl rfl ?_
      refine r_istore_n (ls' := [.int (nI v), .int (1), a_dead, a_dead]) rfl (Nat.le_of_ble_eq_true rfl) rfl rfl ?_
      refine r_iload_n rfl rfl rfl ?_
      refine r_if (bb := false) rfl ((sb_f1 v hv).2.2.2.2.2.1) ⟨by decide, rfl⟩ ?_
      refine r_iconst (v := 0) rfl rfl rfl ?_
      refine r_istore_n (ls' := [.int (nI v), .int (0), a_dead, a_dead]) rfl (Nat.le_of_ble_eq_true rfl) rfl rfl ?_
      refine r_iload_n rfl rfl rfl ?_
      refine r_una (v := -nI v) rfl (Or.inl ⟨rfl, rfl⟩) rfl ?_
      refine r_istore_n (ls' := [.int (-nI v), .int (0), a_dead, a_dead]) rfl (Nat.le_of_ble_eq_true rfl) rfl rfl ?_
      refine r_bipush (v := -10) rfl rfl rfl ?_
      refine r_istore_n (ls' := [.int (-nI v), .int (0), .int (-10), a_dead]) rfl (Nat.le_of_ble_eq_true rfl) rfl rfl ?_
      refine r_iconst (v := 1) rfl rfl rfl ?_
      refine r_istore_n (ls' := [.int (-nI v), .int (0), .int (-10), .int (1)]) rfl (Nat.le_of_ble_eq_true rfl) rfl rfl ?_
      refine r_iload_n rfl rfl rfl ?_
      refine r_bipush (v := 10) rfl rfl rfl ?_
      refine r_icmp (bb := false) rfl (rfl) ⟨by decide, rfl⟩ ?_
      refine r_iload_n rfl rfl rfl ?_
      refine r_iload_n rfl rfl rfl ?_
      refine r_icmp (pc' := 31) (bb := true) rfl ((sb_f1 v hv).1.trans (decide_eq_true (by omega))) ⟨by decide, rfl⟩ ?_
      refine r_bipush (v := 10) rfl rfl rfl ?_
      refine r_iload_n rfl rfl rfl ?_
      refine r_bin (v := -100) rfl (Or.inr (Or.inr (Or.inl ⟨rfl, rfl⟩))) rfl ?_
      refine r_istore_n (ls' := [.int (-nI v), .int (0), .int (-100), .int (1)]) rfl (Nat.le_of_ble_eq_true rfl) rfl rfl ?_
      refine r_iinc (ls' := [.int (-nI v), .int (0), .int (-100), .int (2)]) (v := 2) rfl rfl (rfl) rfl rfl ?_
      refine r_goto (pc' := 16) rfl ⟨by decide, rfl⟩ ?_
      refine r_iload_n rfl rfl rfl ?_
      refine r_bipush (v := 10) rfl rfl rfl ?_
      refine r_icmp (bb := false) rfl (rfl) ⟨by decide, rfl⟩ ?_
      refine r_iload_n rfl rfl rfl ?_
      refine r_iload_n rfl rfl rfl ?_
      refine r_icmp (pc' := 31) (bb := true) rfl ((sb_f1 v hv).2.1.trans (decide_eq_true (by omega))) ⟨by decide, rfl⟩ ?_
      refine r_bipush (v := 10) rfl rfl rfl ?_
      refine r_iload_n rfl rfl rfl ?_
      refine r_bin (v := -1000) rfl (Or.inr (Or.inr (Or.inl ⟨rfl, rfl⟩))) rfl ?_
      refine r_istore_n (ls' := [.int (-nI v), .int (0), .int (-1000), .int (2)]) rfl (Nat.le_of_ble_eq_true rfl) rfl rfl ?_
      refine r_iinc (ls' := [.int (-nI v), .int (0), .int (-1000), .int (3)]) (v := 3) rfl rfl (rfl) rfl rfl ?_
      refine r_goto (pc' := 16) rfl ⟨by decide, rfl⟩ ?_
      refine r_iload_n rfl rfl rfl ?_
      refine r_bipush (v := 10) rfl rfl rfl ?_
      refine r_icmp (bb := false) rfl (rfl) ⟨by decide, rfl⟩ ?_
      refine r_iload_n rfl rfl rfl ?_
      refine r_iload_n rfl rfl rfl ?_
      refine r_icmp (bb := false) rfl ((sb_f1 v hv).2.2.1) ⟨by decide, rfl⟩ ?_
      refine r_iload_n rfl rfl rfl ?_
      refine r_iload_n rfl rfl rfl ?_
      refine r_bin (v := 3) rfl (Or.inl ⟨rfl, rfl⟩) rfl ?_
      exact r_iret rfl rfl rfl rfl
set_option maxHeartbeats 4000000 in
theorem sb_gc1 {j m n v : Nat} {f : Nat → Int32} (hB : h0.length = B) (hv : v < 10) (hn : n + 1 ≤ m ∧ m < 900) (hgj : t[j]? = some (sb_ar m f)) : ∃ r, f_run a_MT xs L 155 [.int (nI v), .int (nI (n + 1)), .ref (B + j)] (h0 ++ t) (.inl (some (.int r)), h0 ++ t.set j (sb_ar m (upd f n (vp_nar .byte (a_dig 0 v))))) := by
  have hjl : j < t.length := (List.getElem?_eq_some_iff.mp hgj).1
  have hv' := hv
  replace hv : v < 1000 := by omega
  refine ⟨nI n, ?_⟩
  refine r_of (q := md_218) MT_155 (Nat.le_of_ble_eq_true rfl) rfl ?_
  refine r_iload_n rfl rfl rfl ?_
  refine r_istore (ls' := [.int (nI v), .int (nI (n + 1)), .ref (B + j), a_dead, a_dead, .int (nI (n + 1)), a_dead]) rfl (Nat.le_of_ble_eq_true rfl) rfl rfl ?_
  refine r_iload_n rfl rfl rfl ?_
  refine r_if (pc' := 11) (bb := true) rfl ((sb_f1 v hv).2.2.2.2.2.2) ⟨by decide, rfl⟩ ?_
  refine r_iconst (v := 0) rfl rfl rfl ?_
  refine r_istore (ls' := [.int (nI v), .int (nI (n + 1)), .ref (B + j), a_dead, a_dead, .int (nI (n + 1)), .int (0)]) rfl (Nat.le_of_ble_eq_true rfl) rfl rfl ?_
  refine r_iload rfl rfl rfl ?_
  refine r_if (bb := false) rfl (rfl) ⟨by decide, rfl⟩ ?_
  refine r_iload_n rfl rfl rfl ?_
  refine r_una (v := -nI v) rfl (Or.inl ⟨rfl, rfl⟩) rfl ?_
  refine r_istore_n (ls' := [.int (-nI v), .int (nI (n + 1)), .ref (B + j), a_dead, a_dead, .int (nI (n + 1)), .int (0)]) rfl (Nat.le_of_ble_eq_true rfl) rfl rfl ?_
  refine r_iload_n rfl rfl rfl ?_
  refine r_bipush (v := -100) rfl rfl rfl ?_
  refine r_icmp (pc' := 72) (bb := true) rfl ((sb_f1 v hv).2.2.2.1.trans (decide_eq_true (by omega))) ⟨by decide, rfl⟩ ?_
  refine r_aload_n rfl rfl rfl ?_
  refine r_iinc (ls' := [.int (-nI v), .int (nI (n + 1)), .ref (B + j), a_dead, a_dead, .int (nI (n)), .int (0)]) (v := nI (n)) rfl rfl (sb_f4 _ (by omega)) rfl rfl ?_
  refine r_iload rfl rfl rfl ?_
  refine r_gets (v := .ref (a_big + 500 + 0)) rfl rfl rfl ?_
  refine r_iload_n rfl rfl rfl ?_
  refine r_una (v := nI (v)) rfl (Or.inl ⟨rfl, (sb_f2 _ (by omega)).2.2⟩) rfl ?_
  refine r_dig (g := 0) rfl (by decide) (by rw [n_clamp (a := v) (by omega)]; exact fun z => z.elim (n_neg (by omega)) (by omega)) rfl ?_
  rw [n_clamp (a := v) (by omega)]
  refine r_bast (m := m) hB rfl hgj rfl (by rw [n_clamp (a := n) (by omega)]; exact fun z => z.elim (n_neg (by omega)) (by omega)) rfl ?_
  rw [n_clamp (a := n) (by omega)]
  refine r_iload_n rfl rfl rfl ?_
  refine r_bipush (v := -9) rfl rfl rfl ?_
  refine r_icmp (pc' := 104) (bb := true) rfl ((sb_f1 v hv).2.2.2.2.1.trans (decide_eq_true hv')) ⟨by decide, rfl⟩ ?_
  refine r_iload rfl rfl rfl ?_
  refine r_if (pc' := 118) (bb := true) rfl (rfl) ⟨by decide, rfl⟩ ?_
  refine r_iload rfl rfl rfl ?_
  exact r_iret rfl rfl rfl rfl
set_option maxHeartbeats 4000000 in
theorem sb_gc2 {j m n v : Nat} {f : Nat → Int32} (hB : h0.length = B) (hv : 10 ≤ v ∧ v < 100) (hn : n + 2 ≤ m ∧ m < 900) (hgj : t[j]? = some (sb_ar m f)) : ∃ r, f_run a_MT xs L 155 [.int (nI v), .int (nI (n + 2)), .ref (B + j)] (h0 ++ t) (.inl (some (.int r)), h0 ++ t.set j (sb_ar m (upd (upd f (n + 1) (vp_nar .byte (a_dig 0 v))) n (vp_nar .byte (a_dig 1 v))))) := by
  have hjl : j < t.length := (List.getElem?_eq_some_iff.mp hgj).1
  have hv' := hv
  replace hv : v < 1000 := by omega
  refine ⟨nI n, ?_⟩
  refine r_of (q := md_218) MT_155 (Nat.le_of_ble_eq_true rfl) rfl ?_
  refine r_iload_n rfl rfl rfl ?_
  refine r_istore (ls' := [.int (nI v), .int (nI (n + 2)), .ref (B + j), a_dead, a_dead, .int (nI (n + 2)), a_dead]) rfl (Nat.le_of_ble_eq_true rfl) rfl rfl ?_
  refine r_iload_n rfl rfl rfl ?_
  refine r_if (pc' := 11) (bb := true) rfl ((sb_f1 v hv).2.2.2.2.2.2) ⟨by decide, rfl⟩ ?_
  refine r_iconst (v := 0) rfl rfl rfl ?_
  refine r_istore (ls' := [.int (nI v), .int (nI (n + 2)), .ref (B + j), a_dead, a_dead, .int (nI (n + 2)), .int (0)]) rfl (Nat.le_of_ble_eq_true rfl) rfl rfl ?_
  refine r_iload rfl rfl rfl ?_
  refine r_if (bb := false) rfl (rfl) ⟨by decide, rfl⟩ ?_
  refine r_iload_n rfl rfl rfl ?_
  refine r_una (v := -nI v) rfl (Or.inl ⟨rfl, rfl⟩) rfl ?_
  refine r_istore_n (ls' := [.int (-nI v), .int (nI (n + 2)), .ref (B + j), a_dead, a_dead, .int (nI (n + 2)), .int (0)]) rfl (Nat.le_of_ble_eq_true rfl) rfl rfl ?_
  refine r_iload_n rfl rfl rfl ?_
  refine r_bipush (v := -100) rfl rfl rfl ?_
  refine r_icmp (pc' := 72) (bb := true) rfl ((sb_f1 v hv).2.2.2.1.trans (decide_eq_true (by omega))) ⟨by decide, rfl⟩ ?_
  refine r_aload_n rfl rfl rfl ?_
  refine r_iinc (ls' := [.int (-nI v), .int (nI (n + 2)), .ref (B + j), a_dead, a_dead, .int (nI (n + 1)), .int (0)]) (v := nI (n + 1)) rfl rfl (sb_f4 _ (by omega)) rfl rfl ?_
  refine r_iload rfl rfl rfl ?_
  refine r_gets (v := .ref (a_big + 500 + 0)) rfl rfl rfl ?_
  refine r_iload_n rfl rfl rfl ?_
  refine r_una (v := nI (v)) rfl (Or.inl ⟨rfl, (sb_f2 _ (by omega)).2.2⟩) rfl ?_
  refine r_dig (g := 0) rfl (by decide) (by rw [n_clamp (a := v) (by omega)]; exact fun z => z.elim (n_neg (by omega)) (by omega)) rfl ?_
  rw [n_clamp (a := v) (by omega)]
  refine r_bast (m := m) hB rfl hgj rfl (by rw [n_clamp (a := n + 1) (by omega)]; exact fun z => z.elim (n_neg (by omega)) (by omega)) rfl ?_
  rw [n_clamp (a := n + 1) (by omega)]
  refine r_iload_n rfl rfl rfl ?_
  refine r_bipush (v := -9) rfl rfl rfl ?_
  refine r_icmp (bb := false) rfl ((sb_f1 v hv).2.2.2.2.1.trans (decide_eq_false (by omega))) ⟨by decide, rfl⟩ ?_
  refine r_aload_n rfl rfl rfl ?_
  refine r_iinc (ls' := [.int (-nI v), .int (nI (n + 2)), .ref (B + j), a_dead, a_dead, .int (nI (n)), .int (0)]) (v := nI (n)) rfl rfl (sb_f4 _ (by omega)) rfl rfl ?_
  refine r_iload rfl rfl rfl ?_
  refine r_gets (v := .ref (a_big + 500 + 1)) rfl rfl rfl ?_
  refine r_iload_n rfl rfl rfl ?_
  refine r_una (v := nI (v)) rfl (Or.inl ⟨rfl, (sb_f2 _ (by omega)).2.2⟩) rfl ?_
  refine r_dig (g := 1) rfl (by decide) (by rw [n_clamp (a := v) (by omega)]; exact fun z => z.elim (n_neg (by omega)) (by omega)) rfl ?_
  rw [n_clamp (a := v) (by omega)]
  refine r_bast (m := m) hB rfl (List.getElem?_set_self hjl) rfl (by rw [n_clamp (a := n) (by omega)]; exact fun z => z.elim (n_neg (by omega)) (by omega)) rfl ?_
  rw [n_clamp (a := n) (by omega)]
  refine r_iload rfl rfl rfl ?_
  refine r_if (pc' := 118) (bb := true) rfl (rfl) ⟨by decide, rfl⟩ ?_
  refine r_iload rfl rfl rfl ?_
  refine r_iret rfl rfl rfl ?_
  rw [List.set_set]
set_option maxHeartbeats 4000000 in
theorem sb_gc3 {j m n v : Nat} {f : Nat → Int32} (hB : h0.length = B) (hv : 100 ≤ v ∧ v < 1000) (hn : n + 3 ≤ m ∧ m < 900) (hgj : t[j]? = some (sb_ar m f)) : ∃ r, f_run a_MT xs L 155 [.int (nI v), .int (nI (n + 3)), .ref (B + j)] (h0 ++ t) (.inl (some (.int r)), h0 ++ t.set j (sb_ar m (upd (upd (upd f (n + 2) (vp_nar .byte (a_dig 0 (v % 100)))) (n + 1) (vp_nar .byte (a_dig 1 (v % 100)))) n (vp_nar .byte (a_dig 0 (v / 100)))))) := by
  have hjl : j < t.length := (List.getElem?_eq_some_iff.mp hgj).1
  have hv' := hv
  replace hv : v < 1000 := by omega
  refine ⟨nI n, ?_⟩
  refine r_of (q := md_218) MT_155 (Nat.le_of_ble_eq_true rfl) rfl ?_
  refine r_iload_n rfl rfl rfl ?_
  refine r_istore (ls' := [.int (nI v), .int (nI (n + 3)), .ref (B + j), a_dead, a_dead, .int (nI (n + 3)), a_dead]) rfl (Nat.le_of_ble_eq_true rfl) rfl rfl ?_
  refine r_iload_n rfl rfl rfl ?_
  refine r_if (pc' := 11) (bb := true) rfl ((sb_f1 v hv).2.2.2.2.2.2) ⟨by decide, rfl⟩ ?_
  refine r_iconst (v := 0) rfl rfl rfl ?_
  refine r_istore (ls' := [.int (nI v), .int (nI (n + 3)), .ref (B + j), a_dead, a_dead, .int (nI (n + 3)), .int (0)]) rfl (Nat.le_of_ble_eq_true rfl) rfl rfl ?_
  refine r_iload rfl rfl rfl ?_
  refine r_if (bb := false) rfl (rfl) ⟨by decide, rfl⟩ ?_
  refine r_iload_n rfl rfl rfl ?_
  refine r_una (v := -nI v) rfl (Or.inl ⟨rfl, rfl⟩) rfl ?_
  refine r_istore_n (ls' := [.int (-nI v), .int (nI (n + 3)), .ref (B + j), a_dead, a_dead, .int (nI (n + 3)), .int (0)]) rfl (Nat.le_of_ble_eq_true rfl) rfl rfl ?_
  refine r_iload_n rfl rfl rfl ?_
  refine r_bipush (v := -100) rfl rfl rfl ?_
  refine r_icmp (bb := false) rfl ((sb_f1 v hv).2.2.2.1.trans (decide_eq_false (by omega))) ⟨by decide, rfl⟩ ?_
  refine r_iload_n rfl rfl rfl ?_
  refine r_bipush (v := 100) rfl rfl rfl ?_
  refine r_bin (v := -nI (v / 100)) rfl (Or.inr (Or.inr (Or.inr (Or.inr (Or.inr (Or.inl ⟨rfl, by decide, (sb_f2 v hv).1⟩)))))) rfl ?_
  refine r_istore_n (ls' := [.int (-nI v), .int (nI (n + 3)), .ref (B + j), .int (-nI (v / 100)), a_dead, .int (nI (n + 3)), .int (0)]) rfl (Nat.le_of_ble_eq_true rfl) rfl rfl ?_
  refine r_iload_n rfl rfl rfl ?_
  refine r_bipush (v := 100) rfl rfl rfl ?_
  refine r_bin (v := -nI (v / 100) * 100) rfl (Or.inr (Or.inr (Or.inl ⟨rfl, rfl⟩))) rfl ?_
  refine r_iload_n rfl rfl rfl ?_
  refine r_bin (v := nI (v % 100)) rfl (Or.inr (Or.inl ⟨rfl, (sb_f2 v hv).2.1⟩)) rfl ?_
  refine r_istore (ls' := [.int (-nI v), .int (nI (n + 3)), .ref (B + j), .int (-nI (v / 100)), .int (nI (v % 100)), .int (nI (n + 3)), .int (0)]) rfl (Nat.le_of_ble_eq_true rfl) rfl rfl ?_
  refine r_iload_n rfl rfl rfl ?_
  refine r_istore_n (ls' := [.int (-nI (v / 100)), .int (nI (n + 3)), .ref (B + j), .int (-nI (v / 100)), .int (nI (v % 100)), .int (nI (n + 3)), .int (0)]) rfl (Nat.le_of_ble_eq_true rfl) rfl rfl ?_
  refine r_aload_n rfl rfl rfl ?_
  refine r_iinc (ls' := [.int (-nI (v / 100)), .int (nI (n + 3)), .ref (B + j), .int (-nI (v / 100)), .int (nI (v % 100)), .int (nI (n + 2)), .int (0)]) (v := nI (n + 2)) rfl rfl (sb_f4 _ (by omega)) rfl rfl ?_
  refine r_iload rfl rfl rfl ?_
  refine r_gets (v := .ref (a_big + 500 + 0)) rfl rfl rfl ?_
  refine r_iload rfl rfl rfl ?_
  refine r_dig (g := 0) rfl (by decide) (by rw [n_clamp (a := v % 100) (by omega)]; exact fun z => z.elim (n_neg (by omega)) (by omega)) rfl ?_
  rw [n_clamp (a := v % 100) (by omega)]
  refine r_bast (m := m) hB rfl hgj rfl (by rw [n_clamp (a := n + 2) (by omega)]; exact fun z => z.elim (n_neg (by omega)) (by omega)) rfl ?_
  rw [n_clamp (a := n + 2) (by omega)]
  refine r_aload_n rfl rfl rfl ?_
  refine r_iinc (ls' := [.int (-nI (v / 100)), .int (nI (n + 3)), .ref (B + j), .int (-nI (v / 100)), .int (nI (v % 100)), .int (nI (n + 1)), .int (0)]) (v := nI (n + 1)) rfl rfl (sb_f4 _ (by omega)) rfl rfl ?_
  refine r_iload rfl rfl rfl ?_
  refine r_gets (v := .ref (a_big + 500 + 1)) rfl rfl rfl ?_
  refine r_iload rfl rfl rfl ?_
  refine r_dig (g := 1) rfl (by decide) (by rw [n_clamp (a := v % 100) (by omega)]; exact fun z => z.elim (n_neg (by omega)) (by omega)) rfl ?_
  rw [n_clamp (a := v % 100) (by omega)]
  refine r_bast (m := m) hB rfl (List.getElem?_set_self hjl) rfl (by rw [n_clamp (a := n + 1) (by omega)]; exact fun z => z.elim (n_neg (by omega)) (by omega)) rfl ?_
  rw [n_clamp (a := n + 1) (by omega)]
  refine r_goto (pc' := 22) rfl ⟨by decide, rfl⟩ ?_
  refine r_iload_n rfl rfl rfl ?_
  refine r_bipush (v := -100) rfl rfl rfl ?_
  refine r_icmp (pc' := 72) (bb := true) rfl ((sb_f1 (v / 100) (by omega)).2.2.2.1.trans (decide_eq_true (by omega))) ⟨by decide, rfl⟩ ?_
  refine r_aload_n rfl rfl rfl ?_
  refine r_iinc (ls' := [.int (-nI (v / 100)), .int (nI (n + 3)), .ref (B + j), .int (-nI (v / 100)), .int (nI (v % 100)), .int (nI (n)), .int (0)]) (v := nI (n)) rfl rfl (sb_f4 _ (by omega)) rfl rfl ?_
  refine r_iload rfl rfl rfl ?_
  refine r_gets (v := .ref (a_big + 500 + 0)) rfl rfl rfl ?_
  refine r_iload_n rfl rfl rfl ?_
  refine r_una (v := nI (v / 100)) rfl (Or.inl ⟨rfl, (sb_f2 _ (by omega)).2.2⟩) rfl ?_
  refine r_dig (g := 0) rfl (by decide) (by rw [n_clamp (a := v / 100) (by omega)]; exact fun z => z.elim (n_neg (by omega)) (by omega)) rfl ?_
  rw [n_clamp (a := v / 100) (by omega)]
  refine r_bast (m := m) hB rfl (List.getElem?_set_self (by rw [List.length_set]; exact hjl)) rfl (by rw [n_clamp (a := n) (by omega)]; exact fun z => z.elim (n_neg (by omega)) (by omega)) rfl ?_
  rw [n_clamp (a := n) (by omega)]
  refine r_iload_n rfl rfl rfl ?_
  refine r_bipush (v := -9) rfl rfl rfl ?_
  refine r_icmp (pc' := 104) (bb := true) rfl ((sb_f1 (v / 100) (by omega)).2.2.2.2.1.trans (decide_eq_true (by omega))) ⟨by decide, rfl⟩ ?_
  refine r_iload rfl rfl rfl ?_
  refine r_if (pc' := 118) (bb := true) rfl (rfl) ⟨by decide, rfl⟩ ?_
  refine r_iload rfl rfl rfl ?_
  refine r_iret rfl rfl rfl ?_
  rw [List.set_set, List.set_set]
set_option maxHeartbeats 4000000 in
theorem sb_gc {j m n v : Nat} {f : Nat → Int32} (hB : h0.length = B) (hv : v < 1000) (hn : n + (sb_dgt v).length ≤ m ∧ m < 900) (hgj : t[j]? = some (sb_ar m f)) (hfit : ∀ i, fits .byte (.int (f i)) = true) : ∃ r f', f_run a_MT xs L 155 [.int (nI v), .int (nI (n + (sb_dgt v).length)), .ref (B + j)] (h0 ++ t) (.inl (some (.int r)), h0 ++ t.set j (sb_ar m f')) ∧ (∀ i, i < n → f' i = f i) ∧ (∀ i, i < (sb_dgt v).length → f' (n + i) = (sb_dgt v).getD i 0) ∧ (∀ i, fits .byte (.int (f' i)) = true) := by
  have hu : ∀ (g : Nat → Int32) (k : Nat) (x : Int32), (∀ i, fits .byte (.int (g i)) = true) → fits .byte (.int x) = true → ∀ i, fits .byte (.int (upd g k x i)) = true := fun g k x h1 h2 i => by
    unfold upd
    split
    · exact h2
    · exact h1 i
  unfold sb_dgt at hn ⊢
  by_cases h1 : v < 10
  · rw [if_pos h1] at hn ⊢
    obtain ⟨r, hr⟩ := sb_gc1 (xs := xs) (L := L) (n := n) hB h1 hn hgj
    obtain ⟨e1, -, e3, -⟩ := sb_f3 v (by omega)
    rw [e1] at hr
    refine ⟨r, _, hr, fun i hi => if_neg (by omega), fun i hi => ?_, hu _ _ _ hfit e3⟩
    obtain rfl : i = 0 := by have hi : i < 1 := hi; omega
    rw [show v % 10 = v by omega]
    exact if_pos rfl
  · rw [if_neg h1] at hn ⊢
    by_cases h2 : v < 100
    · rw [if_pos h2] at hn ⊢
      obtain ⟨r, hr⟩ := sb_gc2 (xs := xs) (L := L) (n := n) hB ⟨by omega, h2⟩ hn hgj
      obtain ⟨e1, e2, e3, e4⟩ := sb_f3 v h2
      rw [e1, e2] at hr
      refine ⟨r, _, hr, fun i hi => (if_neg (by omega)).trans (if_neg (by omega)), fun i hi => ?_, hu _ _ _ (hu _ _ _ hfit e3) e4⟩
      have hi : i < 2 := hi
      rcases (show i = 0 ∨ i = 1 by omega) with rfl | rfl
      · exact if_pos rfl
      · exact (if_neg (by omega)).trans (if_pos rfl)
    · rw [if_neg h2] at hn ⊢
      obtain ⟨r, hr⟩ := sb_gc3 (xs := xs) (L := L) (n := n) hB ⟨by omega, hv⟩ hn hgj
      obtain ⟨e1, e2, e3, e4⟩ := sb_f3 (v % 100) (by omega)
      obtain ⟨d1, -, d3, -⟩ := sb_f3 (v / 100) (by omega)
      rw [e1, e2, d1] at hr
      refine ⟨r, _, hr, fun i hi => (if_neg (by omega)).trans ((if_neg (by omega)).trans (if_neg (by omega))), fun i hi => ?_, hu _ _ _ (hu _ _ _ (hu _ _ _ hfit e3) e4) d3⟩
      have hi : i < 3 := hi
      rcases (show i = 0 ∨ i = 1 ∨ i = 2 by omega) with rfl | rfl | rfl
      · refine (if_pos rfl).trans ?_
        rw [show v / 100 % 10 = v / 100 by omega]; rfl
      · refine (if_neg (by omega)).trans ((if_pos rfl).trans ?_)
        rw [show v % 100 / 10 = v / 10 % 10 by omega]; rfl
      · refine (if_neg (by omega)).trans ((if_neg (by omega)).trans ((if_pos rfl).trans ?_))
        rw [show v % 100 % 10 = v % 10 by omega]; rfl
set_option maxHeartbeats 4000000 in
theorem sb_appI {v : Nat} {tx : List Int32} (hB : h0.length = B) (hb : B + 10 < a_big) (hv : v < 1000) (hl : tx.length + (sb_dgt v).length ≤ 102) (hS : sbS B t tx) : ∃ t', f_run a_MT xs L 153 [.ref B, .int (nI v)] (h0 ++ t) (.inl (some (.ref B)), h0 ++ t') ∧ sbS B t' (tx ++ sb_dgt v) := by
  obtain ⟨j, m, f, hg, hgj, hj, hs, hn, hf, hfit⟩ := hS
  have hd : (sb_dgt v).length ≤ 3 := by rw [sb_dgl]; split <;> (try split) <;> omega
  obtain ⟨t1, j1, m1, f1, hr, hg1, hgj1, hj1, hs1, hq1, hf1, hfit1⟩ := sb_ens (xs := xs) (L := L) (q := tx.length + (sb_dgt v).length) hB hb hj hs ⟨by omega, hl⟩ hg hgj hfit
  have hm1 : m1 < 900 := by unfold sb_sz at hs1; omega
  have hjl1 : j1 < t1.length := (List.getElem?_eq_some_iff.mp hgj1).1
  obtain ⟨r, f2, hc, c1, c2, c3⟩ := sb_gc (xs := xs) (L := L) (n := tx.length) hB hv ⟨hq1, hm1⟩ hgj1 hfit1
  have hg2 : (t1.set j1 (sb_ar m1 f2))[0]? = some (sb_ob B j1 tx.length) := by rw [List.getElem?_set_ne (by omega)]; exact hg1
  refine ⟨(t1.set j1 (sb_ar m1 f2)).set 0 (sb_ob B j1 (tx.length + (sb_dgt v).length)), ?_, ?_⟩
  · refine r_of (q := md_216) MT_153 (Nat.le_of_ble_eq_true rfl) rfl ?_
    refine r_aload_n rfl rfl rfl ?_
    refine r_get (v := .int (nI tx.length)) hB rfl hg rfl rfl rfl ?_
    refine r_istore_n rfl (Nat.le_of_ble_eq_true rfl) rfl rfl ?_
    refine r_iload_n rfl rfl rfl ?_
    refine r_iload_n rfl rfl rfl ?_
    refine r_kall (v9 := some (.int (nI (sb_dgt v).length))) (r_ks (na := 1) rfl (by decide) MT_154 rfl ⟨Nat.le_of_ble_eq_true rfl, rfl, rfl⟩ ⟨Nat.le_of_ble_eq_true rfl, Nat.le_of_ble_eq_true rfl, Nat.le_of_ble_eq_true rfl⟩) MT_154 (sb_size hv) ⟨rfl, rfl, rfl, rfl⟩ ?_
    refine r_bin (v := nI (tx.length + (sb_dgt v).length)) rfl (Or.inl ⟨rfl, n_add _ _⟩) rfl ?_
    refine r_istore_n rfl (Nat.le_of_ble_eq_true rfl) rfl rfl ?_
    refine r_aload_n rfl rfl rfl ?_
    refine r_iload_n rfl rfl rfl ?_
    refine r_kall (v9 := none) (r_kv (na := 2) rfl (by decide) MT_142 ⟨rfl, by decide⟩ ⟨Nat.le_of_ble_eq_true rfl, rfl, rfl, (sb_isc hB hg)⟩ ⟨Nat.le_of_ble_eq_true rfl, Nat.le_of_ble_eq_true rfl, Nat.le_of_ble_eq_true rfl⟩) MT_142 hr ⟨rfl, rfl, rfl, rfl⟩ ?_
    refine r_aload_n rfl rfl rfl ?_
    refine r_kall (v9 := some (.int 1)) (r_kv (na := 1) rfl (by decide) MT_150 ⟨rfl, by decide⟩ ⟨Nat.le_of_ble_eq_true rfl, rfl, rfl, (sb_isc hB hg1)⟩ ⟨Nat.le_of_ble_eq_true rfl, Nat.le_of_ble_eq_true rfl, Nat.le_of_ble_eq_true rfl⟩) MT_150 (sb_lat hB hg1) ⟨rfl, rfl, rfl, rfl⟩ ?_
    refine r_if (bb := false) rfl (rfl) ⟨by decide, rfl⟩ ?_
    refine r_iload_n rfl rfl rfl ?_
    refine r_iload_n rfl rfl rfl ?_
    refine r_aload_n rfl rfl rfl ?_
    refine r_get (v := .ref (B + j1)) hB rfl hg1 rfl rfl rfl ?_
    refine r_kall (v9 := some (.int r)) (r_ks (na := 3) rfl (by decide) MT_155 rfl ⟨Nat.le_of_ble_eq_true rfl, rfl, rfl⟩ ⟨Nat.le_of_ble_eq_true rfl, Nat.le_of_ble_eq_true rfl, Nat.le_of_ble_eq_true rfl⟩) MT_155 hc ⟨rfl, rfl, rfl, rfl⟩ ?_
    refine r_pop rfl rfl rfl ?_
    refine r_goto (pc' := 48) rfl ⟨by decide, rfl⟩ ?_
    refine r_aload_n rfl rfl rfl ?_
    refine r_iload_n rfl rfl rfl ?_
    refine r_put hB rfl hg2 rfl ⟨Nat.le_of_ble_eq_true rfl, rfl, rfl⟩ rfl ?_
    refine r_aload_n rfl rfl rfl ?_
    exact r_aret rfl rfl rfl
  · refine ⟨j1, m1, f2, ?_, ?_, hj1, ?_, ?_, fun k hk => ?_, c3⟩
    · rw [List.getElem?_set_self (by rw [List.length_set]; omega), List.length_append]
    · rw [List.getElem?_set_ne (by omega), List.getElem?_set_self hjl1]
    · rw [List.length_set, List.length_set]; exact hs1
    · rw [List.length_append]; exact hq1
    · rw [List.length_append] at hk
      by_cases h : k < tx.length
      · rw [c1 k h, hf1 k (by omega), hf k h, List.getD_eq_getElem?_getD, List.getD_eq_getElem?_getD, List.getElem?_append_left h]
      · obtain ⟨d, rfl⟩ : ∃ d, k = tx.length + d := ⟨k - tx.length, by omega⟩
        rw [c2 d (by omega), List.getD_eq_getElem?_getD, List.getD_eq_getElem?_getD (l := tx ++ _), List.getElem?_append_right (by omega), Nat.add_sub_cancel_left]
set_option maxHeartbeats 4000000 in
theorem sb_I {v : Nat} {tx : List Int32} (hB : h0.length = B) (hb : B + 10 < a_big) (hv : v < 1000) (hl : tx.length + (sb_dgt v).length ≤ 102) (hS : sbS B t tx) : ∃ t', f_run a_MT xs L 152 [.ref B, .int (nI v)] (h0 ++ t) (.inl (some (.ref B)), h0 ++ t') ∧ sbS B t' (tx ++ sb_dgt v) := by
  obtain ⟨t', hr, hS'⟩ := sb_appI (xs := xs) (L := L) hB hb hv hl hS
  obtain ⟨j, m, f, hg, -⟩ := hS
  refine ⟨t', ?_, hS'⟩
  refine r_of (q := md_215) MT_152 (Nat.le_of_ble_eq_true rfl) rfl ?_
  refine r_aload_n rfl rfl rfl ?_
  refine r_iload_n rfl rfl rfl ?_
  refine r_kall (v9 := some (.ref B)) (r_kp (na := 2) rfl (by decide) MT_153 ⟨rfl, by decide⟩ ⟨Nat.le_of_ble_eq_true rfl, rfl, rfl, (sb_isc hB hg)⟩ ⟨Nat.le_of_ble_eq_true rfl, Nat.le_of_ble_eq_true rfl, Nat.le_of_ble_eq_true rfl⟩) MT_153 hr ⟨rfl, rfl, rfl, rfl⟩ ?_
  refine r_pop rfl rfl rfl ?_
  refine r_aload_n rfl rfl rfl ?_
  exact r_aret rfl rfl rfl
set_option maxHeartbeats 4000000 in
theorem sb_init (hB : h0.length = B) (hb : B + 10 < a_big) : ∃ t', f_run a_MT xs L 138 [.ref B, .ref (a_big + 1 + 1)] (h0 ++ [.inr (10, [.null, .int 0, .int 0, .int 0])]) (.inl none, h0 ++ t') ∧ sbS B t' (a_sbC.getD 1 []) := by
  have hS : sbS B [sb_ob B 1 0, sb_ar 24 (fun _ => 0)] [] := ⟨1, 24, fun _ => 0, rfl, rfl, by decide, Or.inl ⟨rfl, rfl⟩, Nat.zero_le _, fun i hi => absurd hi (Nat.not_lt_zero _), fun _ => rfl⟩
  obtain ⟨t', hr, hS'⟩ := sb_BR (xs := xs) (L := L) (i := 1) (w := 8) hB hb (by decide) ⟨rfl, rfl⟩ (by decide) (by decide) hS
  refine ⟨t', ?_, hS'⟩
  refine r_of (q := md_201) MT_138 (Nat.le_of_ble_eq_true rfl) rfl ?_
  refine r_aload_n rfl rfl rfl ?_
  refine r_obj rfl (Nat.le_of_ble_eq_true rfl) rfl ?_
  refine r_aload_n rfl rfl rfl ?_
  refine r_jdk (i9 := 32) (w9 := 4) (r := [.int (nI 8)]) rfl (Or.inl rfl) (sb_len (i := 1) (by decide) (by decide)) rfl ?_
  refine r_istore_n rfl (Nat.le_of_ble_eq_true rfl) rfl rfl ?_
  refine r_iload_n rfl rfl rfl ?_
  refine r_ldci (v := nI 2147483631) rfl (by decide) (by decide +kernel) rfl ?_
  refine r_icmp (bb := false) rfl (by decide) ⟨by decide, rfl⟩ ?_
  refine r_iload_n rfl rfl rfl ?_
  refine r_bipush (v := 16) rfl rfl rfl ?_
  refine r_bin (v := nI 24) rfl (Or.inl ⟨rfl, rfl⟩) rfl ?_
  refine r_goto (pc' := 24) rfl ⟨by decide, rfl⟩ ?_
  refine r_istore_n rfl (Nat.le_of_ble_eq_true rfl) rfl rfl ?_
  refine r_aload_n rfl rfl rfl ?_
  refine r_jdk (i9 := 40) (w9 := 6) (r := [.int 0]) rfl (Or.inl rfl) (sb_cod (i := 1) (by decide) (by decide)) rfl ?_
  refine r_istore rfl (Nat.le_of_ble_eq_true rfl) rfl rfl ?_
  refine r_aload_n rfl rfl rfl ?_
  refine r_iload rfl rfl rfl ?_
  refine r_put hB rfl (show ([.inr (10, [.null, .int 0, .int 0, .int 0])] : a_H)[0]? = _ from rfl) rfl ⟨Nat.le_of_ble_eq_true rfl, rfl, rfl⟩ rfl ?_
  refine r_aload_n rfl rfl rfl ?_
  refine r_iload rfl rfl rfl ?_
  refine r_if (bb := false) rfl (rfl) ⟨by decide, rfl⟩ ?_
  refine r_iload_n rfl rfl rfl ?_
  refine r_newarr (z := 24) (m := B + 1) (ty := .byte) (els := .inl (fun _ => 0)) hB rfl rfl rfl ⟨n_clamp (by omega), n_neg (by omega), by omega⟩ rfl (by omega) ⟨Nat.le_of_ble_eq_true rfl, Nat.le_of_ble_eq_true rfl⟩ ⟨rfl, rfl, rfl⟩ ?_
  refine r_goto (pc' := 53) rfl ⟨by decide, rfl⟩ ?_
  refine r_put hB rfl (show ([.inr (10, [.null, .int 0, .int 0, .int 0]), .inl (.byte, 24, .inl fun _ => 0)] : a_H)[0]? = _ from rfl) rfl ⟨Nat.le_of_ble_eq_true rfl, rfl, rfl⟩ rfl ?_
  show f_ok _ _ _ _ _ _ _ (h0 ++ [sb_ob B 1 0, sb_ar 24 (fun _ => 0)]) _ _ _
  refine r_aload_n rfl rfl rfl ?_
  refine r_aload_n rfl rfl rfl ?_
  refine r_kall (v9 := some (.ref B)) (r_kv (na := 2) rfl (by decide) MT_139 ⟨rfl, by decide⟩ ⟨Nat.le_of_ble_eq_true rfl, rfl, rfl, (sb_isc (fs := [.ref (B + 1), .int 0, .int 0, .int (nI 0)]) hB rfl)⟩ ⟨Nat.le_of_ble_eq_true rfl, Nat.le_of_ble_eq_true rfl, Nat.le_of_ble_eq_true rfl⟩) MT_139 hr ⟨rfl, rfl, rfl, rfl⟩ ?_
  refine r_pop rfl rfl rfl ?_
  exact r_vret rfl rfl rfl
set_option maxHeartbeats 4000000 in
theorem sb_new (hB : h0.length = B) (hb : B + 10 < a_big) : ∃ t', f_run a_MT xs L 137 [.ref B, .ref (a_big + 1 + 1)] (h0 ++ [.inr (10, [.null, .int 0, .int 0, .int 0])]) (.inl none, h0 ++ t') ∧ sbS B t' (a_sbC.getD 1 []) := by
  obtain ⟨t', hr, hS'⟩ := sb_init (xs := xs) (L := L) hB hb
  refine ⟨t', ?_, hS'⟩
  refine r_of (q := md_200) MT_137 (Nat.le_of_ble_eq_true rfl) rfl ?_
  refine r_aload_n rfl rfl rfl ?_
  refine r_aload_n rfl rfl rfl ?_
  refine r_kall (v9 := none) (r_ki (na := 2) rfl (by decide) MT_138 ⟨rfl, by decide⟩ ⟨Nat.le_of_ble_eq_true rfl, rfl, rfl, rfl⟩ ⟨Nat.le_of_ble_eq_true rfl, Nat.le_of_ble_eq_true rfl, Nat.le_of_ble_eq_true rfl⟩) MT_138 hr ⟨rfl, rfl, rfl, rfl⟩ ?_
  exact r_vret rfl rfl rfl
end A31d
