/-! told: twenty letters at a time into five numbers. -/
section A31o
variable {xs : Nat → Int32} {L N : Nat} {σ : f_M} {c n : Nat} {tx : List Int32}
set_option maxHeartbeats 4000000 in
theorem r_ialdF {MT : Nat → Option a_Md} {q : a_Md} {pc pc' len a b o9 n9 j : Nat} {ls st : List Value} {w : a_R × a_H} (hat : a_at (m_is q) pc = some (.iaload, len, a, b)) (hs : f_shape o9 = .inl (.int, n9, 0)) (hb : o9 < a_big) (hN : o9 < N) (hj : j < n9 ∧ n9 < 1000) (hp : pc + 1 = pc') (K : f_ok MT xs L q pc' ls (.int (σ o9 j) :: st) (f_hp N σ) c n w) : f_ok MT xs L q pc ls (.int (nI j) :: .ref o9 :: st) (f_hp N σ) c n w := by
  subst hp
  refine r_stp ?_ K
  have h : ¬ (nI j < 0 ∨ n9 ≤ (nI j).toNatClampNeg) := by rw [n_clamp (by omega)]; exact fun z => z.elim (n_neg (by omega)) (by omega)
  unfold a_1
  rw [hat]
  simp only [a_ins, a_rd, if_neg (Nat.ne_of_lt hb), if_neg (a_nd hb), f_hp_get hN, f_cellA hs, f_el, h, Option.map_some, not_false_eq_true, true_and, if_true, true_or, and_self]
  rw [n_clamp (by omega)]
set_option maxHeartbeats 4000000 in
theorem r_iastF {MT : Nat → Option a_Md} {q : a_Md} {pc pc' len a b o9 n9 j : Nat} {v : Int32} {ls st : List Value} {w : a_R × a_H} (hat : a_at (m_is q) pc = some (.iastore, len, a, b)) (hs : f_shape o9 = .inl (.int, n9, 0)) (hN : o9 < N) (hj : j < n9 ∧ n9 < 1000) (hp : pc + 1 = pc') (K : f_ok MT xs L q pc' ls st (f_hp N (f_up σ o9 j v)) c n w) : f_ok MT xs L q pc ls (.int v :: .int (nI j) :: .ref o9 :: st) (f_hp N σ) c n w := by
  subst hp
  refine r_stp ?_ K
  have h : ¬ (nI j < 0 ∨ n9 ≤ (nI j).toNatClampNeg) := by rw [n_clamp (by omega)]; exact fun z => z.elim (n_neg (by omega)) (by omega)
  unfold a_1
  rw [hat]
  simp only [a_ins, a_wr, f_hp_get hN, f_cellA hs, f_el, h, not_false_eq_true, if_true, and_self]
  rw [n_clamp (by omega), f_updE hs]
  rfl
set_option maxHeartbeats 4000000 in
theorem r_ior {MT : Nat → Option a_Md} {q : a_Md} {pc pc' len a b : Nat} {x z v : Int32} {ls st : List Value} {h : a_H} {w : a_R × a_H} (hat : a_at (m_is q) pc = some (.ior, len, a, b)) (hv : x ||| z = v) (hp : pc + 1 = pc') (K : f_ok MT xs L q pc' ls (.int v :: st) h c n w) : f_ok MT xs L q pc ls (.int z :: .int x :: st) h c n w := by
  subst hp hv
  exact r_stp (by unfold a_1; rw [hat]; rfl) K
/-- the letters as told reads them: blanks behind the end -/
def w_ch (tx : List Int32) (k : Nat) : Int32 := if k < tx.length then tx.getD k 0 &&& 255 else 32
/-- the five numbers after i letters from k on -/
def w_rw (tx : List Int32) (k : Nat) : Nat → (Nat → Int32)
  | 0 => fun _ => 0
  | i + 1 => upd (w_rw tx k i) (i / 4) (w_rw tx k i (i / 4) <<< ((8 : Int32) &&& 31) ||| w_ch tx (k + i))
set_option maxHeartbeats 4000000 in
theorem w_len8 {r : List Value} {h : a_H} (hr : a_sum r ≤ 8) (htx : tx.length ≤ 200) : a_bi (w_xs xs tx) 4 (.ref (a_big + 8) :: r) h = some (.int (nI tx.length) :: r, h) := by
  have hc : a_sum r ≤ 8 ∧ a_big + 1 ≤ a_big + 8 ∧ a_big + 8 < a_big + 1 + a_tn (w_xs xs tx) := ⟨hr, by omega, by rw [w_xs_tn]; omega⟩
  show (if a_sum r ≤ 8 ∧ a_big + 1 ≤ a_big + 8 ∧ a_big + 8 < a_big + 1 + a_tn (w_xs xs tx) then some (Value.int (nI ((a_sl (w_xs xs tx)).getD (a_big + 8 - (a_big + 1)) 0)) :: r, h) else none) = _
  have e1 : (a_sl (w_xs xs tx)).getD 7 0 = tx.length := w_xs_tl htx
  rw [if_pos hc, show a_big + 8 - (a_big + 1) = 7 by omega, e1]
set_option maxHeartbeats 4000000 in
theorem w_chr8 {r : List Value} {h : a_H} {k : Nat} (hr : a_sum r ≤ 8) (htx : tx.length ≤ 200) (hk : k < tx.length) : a_bi (w_xs xs tx) 5 (.int (nI k) :: .ref (a_big + 8) :: r) h = some (.int (tx.getD k 0 &&& 255) :: r, h) := by
  have e1 : (a_sl (w_xs xs tx)).getD 7 0 = tx.length := w_xs_tl htx
  have e2 : (a_sb (w_xs xs tx)).getD 7 [] = a_tb (w_xs xs tx) := rfl
  have e7 : a_big + 8 - (a_big + 1) = 7 := by omega
  have ek : (nI k).toNatClampNeg = k := n_clamp (by omega)
  have hc : a_sum r ≤ 8 ∧ a_big + 1 ≤ a_big + 8 ∧ a_big + 8 < a_big + 1 + a_tn (w_xs xs tx) ∧ ¬ (nI k < 0 ∨ (a_sl (w_xs xs tx)).getD (a_big + 8 - (a_big + 1)) 0 ≤ (nI k).toNatClampNeg) := ⟨hr, by omega, by rw [w_xs_tn]; omega, by rw [e7, e1, ek]; exact fun z => z.elim (n_neg (by omega)) (by omega)⟩
  show (if a_sum r ≤ 8 ∧ a_big + 1 ≤ a_big + 8 ∧ a_big + 8 < a_big + 1 + a_tn (w_xs xs tx) ∧ ¬ (nI k < 0 ∨ (a_sl (w_xs xs tx)).getD (a_big + 8 - (a_big + 1)) 0 ≤ (nI k).toNatClampNeg) then some (Value.int (((a_sb (w_xs xs tx)).getD (a_big + 8 - (a_big + 1)) []).getD (nI k).toNatClampNeg 0 &&& 255) :: r, h) else none) = _
  rw [if_pos hc, e7, e2, ek, w_xs_tb htx hk]
/-- told's locals -/
def w_tl (k N i : Nat) : List Value := [.ref 0, .ref (a_big + 8), .int (nI k), .ref N, .int (nI i)]
set_option maxHeartbeats 4000000 in
theorem w_inner {k : Nat} {w : a_R × a_H} (hs : f_shape N = .inl (.int, 5, 0)) (hN : N < 900000) (htx : tx.length ≤ 200) (hk : k ≤ 300) : ∀ (d i : Nat), i + d = 20 → f_ok a_MT (w_xs xs tx) L md_41 17 (w_tl k N 20) [] (f_hp (N + 1) (f_row σ N (w_rw tx k 20))) c n w → f_ok a_MT (w_xs xs tx) L md_41 17 (w_tl k N i) [] (f_hp (N + 1) (f_row σ N (w_rw tx k i))) c n w := by
  intro d
  have hbg : a_big = 1000000 := rfl
  induction d with
  | zero =>
    intro i hi K
    obtain rfl : i = 20 := by omega
    exact K
  | succ d ih =>
    intro i hi K
    have hrow : f_row σ N (w_rw tx k i) N (i / 4) = w_rw tx k i (i / 4) := by rw [row_same]
    have hup : f_up (f_row σ N (w_rw tx k i)) N (i / 4) (w_rw tx k i (i / 4) <<< ((8 : Int32) &&& 31) ||| w_ch tx (k + i)) = f_row σ N (w_rw tx k (i + 1)) := by unfold f_up; rw [row_row, row_same]; rfl
    by_cases h9 : k + i < tx.length
    · have hch : w_ch tx (k + i) = tx.getD (k + i) 0 &&& 255 := if_pos h9
      rw [hch] at hup
      refine r_iload rfl rfl rfl ?_
      refine r_bipush (v := nI 20) rfl rfl rfl ?_
      refine r_icmp (bb := false) rfl (decide_eq_false (fun z => by have := (n_le (a := 20) (b := i) (by omega) (by omega)).mp z; omega)) ⟨by decide, rfl⟩ ?_
      refine r_aload_n rfl rfl rfl ?_
      refine r_iload rfl rfl rfl ?_
      refine r_iconst (v := nI 4) rfl rfl rfl ?_
      refine r_bin (v := nI (i / 4)) rfl (Or.inr (Or.inr (Or.inr (Or.inr (Or.inr (Or.inl ⟨rfl, by decide, (n_div (b := 4) (by omega) (by omega))⟩)))))) rfl ?_
      refine r_aload_n rfl rfl rfl ?_
      refine r_iload rfl rfl rfl ?_
      refine r_iconst (v := nI 4) rfl rfl rfl ?_
      refine r_bin (v := nI (i / 4)) rfl (Or.inr (Or.inr (Or.inr (Or.inr (Or.inr (Or.inl ⟨rfl, by decide, (n_div (b := 4) (by omega) (by omega))⟩)))))) rfl ?_
      refine r_ialdF rfl hs (by omega) (by omega) ⟨by omega, by decide⟩ rfl ?_
      rw [hrow]
      refine r_bipush (v := 8) rfl rfl rfl ?_
      refine r_bin (v := w_rw tx k i (i / 4) <<< ((8 : Int32) &&& 31)) rfl (Or.inr (Or.inr (Or.inr (Or.inl ⟨rfl, rfl⟩)))) rfl ?_
      refine r_iload_n rfl rfl rfl ?_
      refine r_iload rfl rfl rfl ?_
      refine r_bin (v := nI (k + i)) rfl (Or.inl ⟨rfl, n_add k i⟩) rfl ?_
      refine r_aload_n rfl rfl rfl ?_
      refine r_jdk (i9 := 79) (w9 := 4) (r := [.int (nI tx.length), .int (nI (k + i)), .int (w_rw tx k i (i / 4) <<< ((8 : Int32) &&& 31)), .int (nI (i / 4)), .ref N]) rfl (Or.inl rfl) (w_len8 (Nat.le_of_ble_eq_true rfl) htx) rfl ?_
      refine r_icmp (bb := false) rfl (decide_eq_false (fun z => by have := (n_le (a := tx.length) (b := k + i) (by omega) (by omega)).mp z; omega)) ⟨by decide, rfl⟩ ?_
      refine r_aload_n rfl rfl rfl ?_
      refine r_iload_n rfl rfl rfl ?_
      refine r_iload rfl rfl rfl ?_
      refine r_bin (v := nI (k + i)) rfl (Or.inl ⟨rfl, n_add k i⟩) rfl ?_
      refine r_jdk (i9 := 85) (w9 := 5) (r := [.int (tx.getD (k + i) 0 &&& 255), .int (w_rw tx k i (i / 4) <<< ((8 : Int32) &&& 31)), .int (nI (i / 4)), .ref N]) rfl (Or.inl rfl) (w_chr8 (Nat.le_of_ble_eq_true rfl) htx h9) rfl ?_
      refine r_goto (pc' := 62) rfl ⟨by decide, rfl⟩ ?_
      refine r_ior rfl rfl rfl ?_
      refine r_iastF rfl hs (by omega) ⟨by omega, by decide⟩ rfl ?_
      rw [hup]
      refine r_iinc (ls' := w_tl k N (i + 1)) (v := nI (i + 1)) rfl rfl (n_add i 1) rfl rfl ?_
      refine r_goto (pc' := 17) rfl ⟨by decide, rfl⟩ ?_
      exact ih (i + 1) (by omega) K
    · have hch : w_ch tx (k + i) = 32 := if_neg h9
      rw [hch] at hup
      refine r_iload rfl rfl rfl ?_
      refine r_bipush (v := nI 20) rfl rfl rfl ?_
      refine r_icmp (bb := false) rfl (decide_eq_false (fun z => by have := (n_le (a := 20) (b := i) (by omega) (by omega)).mp z; omega)) ⟨by decide, rfl⟩ ?_
      refine r_aload_n rfl rfl rfl ?_
      refine r_iload rfl rfl rfl ?_
      refine r_iconst (v := nI 4) rfl rfl rfl ?_
      refine r_bin (v := nI (i / 4)) rfl (Or.inr (Or.inr (Or.inr (Or.inr (Or.inr (Or.inl ⟨rfl, by decide, (n_div (b := 4) (by omega) (by omega))⟩)))))) rfl ?_
      refine r_aload_n rfl rfl rfl ?_
      refine r_iload rfl rfl rfl ?_
      refine r_iconst (v := nI 4) rfl rfl rfl ?_
      refine r_bin (v := nI (i / 4)) rfl (Or.inr (Or.inr (Or.inr (Or.inr (Or.inr (Or.inl ⟨rfl, by decide, (n_div (b := 4) (by omega) (by omega))⟩)))))) rfl ?_
      refine r_ialdF rfl hs (by omega) (by omega) ⟨by omega, by decide⟩ rfl ?_
      rw [hrow]
      refine r_bipush (v := 8) rfl rfl rfl ?_
      refine r_bin (v := w_rw tx k i (i / 4) <<< ((8 : Int32) &&& 31)) rfl (Or.inr (Or.inr (Or.inr (Or.inl ⟨rfl, rfl⟩)))) rfl ?_
      refine r_iload_n rfl rfl rfl ?_
      refine r_iload rfl rfl rfl ?_
      refine r_bin (v := nI (k + i)) rfl (Or.inl ⟨rfl, n_add k i⟩) rfl ?_
      refine r_aload_n rfl rfl rfl ?_
      refine r_jdk (i9 := 79) (w9 := 4) (r := [.int (nI tx.length), .int (nI (k + i)), .int (w_rw tx k i (i / 4) <<< ((8 : Int32) &&& 31)), .int (nI (i / 4)), .ref N]) rfl (Or.inl rfl) (w_len8 (Nat.le_of_ble_eq_true rfl) htx) rfl ?_
      refine r_icmp (pc' := 60) (bb := true) rfl (decide_eq_true ((n_le (a := tx.length) (b := k + i) (by omega) (by omega)).mpr (by omega))) ⟨by decide, rfl⟩ ?_
      refine r_bipush (v := 32) rfl rfl rfl ?_
      refine r_ior rfl rfl rfl ?_
      refine r_iastF rfl hs (by omega) ⟨by omega, by decide⟩ rfl ?_
      rw [hup]
      refine r_iinc (ls' := w_tl k N (i + 1)) (v := nI (i + 1)) rfl rfl (n_add i 1) rfl rfl ?_
      refine r_goto (pc' := 17) rfl ⟨by decide, rfl⟩ ?_
      exact ih (i + 1) (by omega) K
end A31o
