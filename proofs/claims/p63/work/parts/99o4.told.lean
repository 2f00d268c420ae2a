/-! told: the text goes in, twenty letters at a time. -/
/-- letters below 128 -/
def okL (l : List Int32) : Prop := ∀ v ∈ l, ¬ v < 0 ∧ v < 128
theorem okL_app {a b : List Int32} (ha : okL a) (hb : okL b) : okL (a ++ b) := fun v hv => by
  rcases List.mem_append.mp hv with h | h
  · exact ha v h
  · exact hb v h
theorem okL_n {m : Nat} (hm : m < 128) : okL [nI m] := fun v hv => by
  rcases List.mem_singleton.mp hv with rfl
  exact ⟨n_neg (by omega), by rw [show (128 : Int32) = nI 128 from rfl, n_lt (by omega) (by omega)]; exact hm⟩
theorem okL_dgt {v : Nat} (hv : v < 1000) : okL (sb_dgt v) := by
  unfold sb_dgt
  split
  · exact okL_n (by omega)
  · split
    · exact okL_app (a := [_]) (b := [_]) (okL_n (by omega)) (okL_n (by omega))
    · exact okL_app (a := [_]) (b := [_, _]) (okL_n (by omega)) (okL_app (a := [_]) (b := [_]) (okL_n (by omega)) (okL_n (by omega)))
theorem okL_c1 : okL (a_sbC.getD 1 []) := by unfold okL; decide +kernel
theorem okL_c5 : okL (a_sbC.getD 5 []) := by unfold okL; decide +kernel
theorem okL_c6 : okL (a_sbC.getD 6 []) := by unfold okL; decide +kernel
theorem okL_ht {xs : Nat → Int32} {L : Nat} : ∀ i, i ≤ 26 → okL (w_ht xs L i) := by
  intro i
  induction i with
  | zero => intro _ v hv; cases hv
  | succ i ih =>
    intro hi
    have h1 := (w_b_ok (xs := xs) (L := L) i).1
    unfold w_ht w_hs
    exact okL_app (ih (by omega)) (okL_app (okL_app (okL_app (okL_app okL_c5 (okL_n (by omega))) (okL_n (by omega))) (okL_dgt (by omega))) (okL_n (by omega)))
theorem okL_at {x : Int32} : ∀ i, okL (w_at x i) := by
  intro i
  induction i with
  | zero => intro v hv; cases hv
  | succ i ih =>
    have h1 := (w_s_ok (x := x) i).1
    unfold w_at w_as
    exact okL_app ih (okL_app (okL_app okL_c6 (okL_dgt (by omega))) (okL_n (by omega)))
theorem okL_tx (xs : Nat → Int32) (L : Nat) : okL (w_tx xs L) := by
  have h1 := (w_r_ok (w_cell xs L 0)).1
  have h2 := (w_hc_ok (w_cell xs L 0)).2.1
  unfold w_tx w_rt
  exact okL_app (okL_app (okL_app (okL_app okL_c1 (okL_dgt (by omega))) (okL_n (by omega))) (okL_ht _ (by omega))) (okL_at _)
theorem okL_at_n {l : List Int32} (h : okL l) {i : Nat} (hi : i < l.length) : ∃ m, m < 128 ∧ l.getD i 0 = nI m := by
  have h1 : l.getD i 0 ∈ l := by
    rw [List.getD_eq_getElem?_getD, List.getElem?_eq_getElem hi]
    exact List.getElem_mem hi
  obtain ⟨h2, h3⟩ := h _ h1
  rcases n_cases (l.getD i 0) with h4 | ⟨m, hm, e⟩
  · exact absurd h4 h2
  · rw [e, show (128 : Int32) = nI 128 from rfl, n_lt hm (by omega)] at h3
    exact ⟨m, h3, e⟩
/-! four letters of a word -/
set_option maxRecDepth 16000 in
theorem n_or8 {a m : Nat} (hm : m < 256) (h : a * 256 + m < 2147483648) : nI a <<< ((8 : Int32) &&& 31) ||| nI m = nI (a * 256 + m) := by
  have e : nI a <<< ((8 : Int32) &&& 31) = nI (a * 2 ^ 8) := pk_shlN _ 8 (by decide +kernel) (show a * 256 < 4294967296 by omega)
  rw [e, show a * 256 + m = 2 ^ 8 * a + m by omega, Nat.mul_comm a (2 ^ 8), Nat.two_pow_add_eq_or_of_lt (by omega)]
  apply Int32.toBitVec_inj.1
  show BitVec.ofNat 32 (2 ^ 8 * a) ||| BitVec.ofNat 32 m = BitVec.ofNat 32 (2 ^ 8 * a ||| m)
  apply BitVec.eq_of_getLsbD_eq
  intro i hi
  simp [hi]
theorem byte_mod (x : Nat) : (nI x).toInt8 = (nI (x % 256)).toInt8 := by
  apply Int8.toBitVec_inj.mp
  rw [Int32.toBitVec_toInt8, Int32.toBitVec_toInt8]
  apply BitVec.eq_of_getLsbD_eq
  intro i hi
  rw [BitVec.getLsbD_signExtend, BitVec.getLsbD_signExtend, if_pos (by omega), if_pos (by omega)]
  show (decide (i < 8) && (BitVec.ofNat 32 x).getLsbD i) = (decide (i < 8) && (BitVec.ofNat 32 (x % 256)).getLsbD i)
  rw [BitVec.getLsbD_ofNat, BitVec.getLsbD_ofNat, show (256 : Nat) = 2 ^ 8 from rfl, Nat.testBit_mod_two_pow]
  simp [hi]
theorem byte_two {m : Nat} (hm : m < 128) (x : Nat) (h : x % 256 = m) : (nI x).toInt8.toInt32.toInt8.toInt32 = nI m := by
  rw [byte_mod, h, byte_n ⟨m, hm⟩, byte_n ⟨m, hm⟩]
set_option maxRecDepth 16000 in
theorem bC_four {a b c d : Nat} (ha : a < 128) (hb : b < 128) (hc : c < 128) (hd : d < 128) :
    bC (nI (((a * 256 + b) * 256 + c) * 256 + d)) 0 = nI a ∧ bC (nI (((a * 256 + b) * 256 + c) * 256 + d)) 1 = nI b ∧ bC (nI (((a * 256 + b) * 256 + c) * 256 + d)) 2 = nI c ∧ bC (nI (((a * 256 + b) * 256 + c) * 256 + d)) 3 = nI d := by
  have k : ∀ (s : Int32) (n : Nat), ((s.toUInt32 &&& Int32.toUInt32 31).toBitVec % 32).toNat = n → ((nI (((a * 256 + b) * 256 + c) * 256 + d)).toUInt32 >>> (s.toUInt32 &&& Int32.toUInt32 31)).toInt32 = nI ((((a * 256 + b) * 256 + c) * 256 + d) / 2 ^ n) := fun s n hs => pk_ushrN (by omega) s n hs
  refine ⟨?_, ?_, ?_, ?_⟩
  · show ((((nI (((a * 256 + b) * 256 + c) * 256 + d)).toUInt32 >>> ((24 : Int32).toUInt32 &&& Int32.toUInt32 31)).toInt32).toInt8.toInt32).toInt8.toInt32 = _
    rw [k 24 24 (by decide +kernel)]
    exact byte_two ha _ (by omega)
  · show ((((nI (((a * 256 + b) * 256 + c) * 256 + d)).toUInt32 >>> ((16 : Int32).toUInt32 &&& Int32.toUInt32 31)).toInt32).toInt8.toInt32).toInt8.toInt32 = _
    rw [k 16 16 (by decide +kernel)]
    exact byte_two hb _ (by omega)
  · show ((((nI (((a * 256 + b) * 256 + c) * 256 + d)).toUInt32 >>> ((8 : Int32).toUInt32 &&& Int32.toUInt32 31)).toInt32).toInt8.toInt32).toInt8.toInt32 = _
    rw [k 8 8 (by decide +kernel)]
    exact byte_two hc _ (by omega)
  · show ((((nI (((a * 256 + b) * 256 + c) * 256 + d)).toUInt32 >>> ((0 : Int32).toUInt32 &&& Int32.toUInt32 31)).toInt32).toInt8.toInt32).toInt8.toInt32 = _
    rw [k 0 0 (by decide +kernel)]
    exact byte_two hd _ (by omega)
/-- a word's text, its four letters -/
theorem rw_four {tx : List Int32} {k q : Nat} (hq : q < 5) : w_rw tx k 20 q = ((((0 : Int32) <<< ((8 : Int32) &&& 31) ||| w_ch tx (k + (4 * q + 0))) <<< ((8 : Int32) &&& 31) ||| w_ch tx (k + (4 * q + 1))) <<< ((8 : Int32) &&& 31) ||| w_ch tx (k + (4 * q + 2))) <<< ((8 : Int32) &&& 31) ||| w_ch tx (k + (4 * q + 3)) := by
  obtain rfl | rfl | rfl | rfl | rfl : q = 0 ∨ q = 1 ∨ q = 2 ∨ q = 3 ∨ q = 4 := by omega
  all_goals rfl
theorem ch_n {tx : List Int32} (h : okL tx) (i : Nat) : ∃ m, m < 128 ∧ w_ch tx i = nI m ∧ (i < tx.length → tx.getD i 0 = nI m) := by
  unfold w_ch
  by_cases hi : i < tx.length
  · obtain ⟨m, hm, e⟩ := okL_at_n h hi
    rw [if_pos hi, e]
    exact ⟨m, hm, (show ∀ m, m < 128 → nI m &&& 255 = nI m by decide +kernel) m hm, fun _ => rfl⟩
  · rw [if_neg hi]
    exact ⟨32, by omega, rfl, fun h => absurd h hi⟩
set_option maxRecDepth 16000 in
theorem bC_rw {tx : List Int32} (h : okL tx) {k q j : Nat} (hq : q < 5) (hj : j < 4) (hi : k + (4 * q + j) < tx.length) : bC (w_rw tx k 20 q) j = tx.getD (k + (4 * q + j)) 0 := by
  obtain ⟨a, ha, ea, fa⟩ := ch_n h (k + (4 * q + 0))
  obtain ⟨b, hb, eb, fb⟩ := ch_n h (k + (4 * q + 1))
  obtain ⟨c, hc, ec, fc⟩ := ch_n h (k + (4 * q + 2))
  obtain ⟨d, hd, ed, fd⟩ := ch_n h (k + (4 * q + 3))
  have e0 : (0 : Int32) <<< ((8 : Int32) &&& 31) ||| nI a = nI a := by
    have h9 := n_or8 (a := 0) (m := a) (by omega) (by omega)
    rw [Nat.zero_mul, Nat.zero_add] at h9
    exact h9
  rw [rw_four hq, ea, eb, ec, ed, e0, n_or8 (a := a) (m := b) (by omega) (by omega), n_or8 (a := a * 256 + b) (m := c) (by omega) (by omega), n_or8 (a := (a * 256 + b) * 256 + c) (m := d) (by omega) (by omega)]
  obtain ⟨b0, b1, b2, b3⟩ := bC_four ha hb hc hd
  obtain rfl | rfl | rfl | rfl : j = 0 ∨ j = 1 ∨ j = 2 ∨ j = 3 := by omega
  · rw [b0, fa hi]
  · rw [b1, fb hi]
  · rw [b2, fc hi]
  · rw [b3, fd hi]
/-- a word written into the input -/
theorem C_word1 {σ : f_M} {len : Nat} (a : Int32) (h : σ 0 1 = nI len) (hl : len + 4 ≤ 600) : ∃ σ', g_41 a σ = some σ' ∧ σ' 0 1 = nI (len + 4) ∧ (∀ i, i < len → σ' 1 i = σ 1 i) ∧ (∀ j, j < 4 → σ' 1 (len + j) = bC a j) ∧ (∀ r, r ≠ 0 → r ≠ 1 → σ' r = σ r) ∧ ∀ i, i ≠ 1 → σ' 0 i = σ 0 i := by
  refine ⟨_, C_word a h hl, up_same _ _ _ _, fun i hi => ?_, fun j hj => ?_, fun r h0 h1 => ?_, fun i hi => ?_⟩
  · rw [up_rows (by decide), row_same, wrO_out (by omega)]
  · rw [up_rows (by decide), row_same, wrO_in hj]
  · rw [up_rows h0, row_ne h1]
  · rw [up_ix hi, row_ne (by decide)]
theorem C_app {σ : f_M} {tx : List Int32} (ok : okL tx) {k : Nat} (h : σ 0 1 = nI k) (hk : k + 20 ≤ 600) (ht : ∀ i, i < k → i < tx.length → σ 1 i = tx.getD i 0) :
    ∃ σ', g_42 (w_rw tx k 20 0) (w_rw tx k 20 1) (w_rw tx k 20 2) (w_rw tx k 20 3) (w_rw tx k 20 4) σ = some (nI (k + 20), σ') ∧ σ' 0 1 = nI (k + 20) ∧ (∀ i, i < k + 20 → i < tx.length → σ' 1 i = tx.getD i 0) ∧ (∀ r, r ≠ 0 → r ≠ 1 → σ' r = σ r) ∧ ∀ i, i ≠ 1 → σ' 0 i = σ 0 i := by
  obtain ⟨σ1, c1, l1, t1, w1, f1, z1⟩ := C_word1 (w_rw tx k 20 0) h (by omega)
  obtain ⟨σ2, c2, l2, t2, w2, f2, z2⟩ := C_word1 (w_rw tx k 20 1) l1 (by omega)
  obtain ⟨σ3, c3, l3, t3, w3, f3, z3⟩ := C_word1 (w_rw tx k 20 2) l2 (by omega)
  obtain ⟨σ4, c4, l4, t4, w4, f4, z4⟩ := C_word1 (w_rw tx k 20 3) l3 (by omega)
  obtain ⟨σ5, c5, l5, t5, w5, f5, z5⟩ := C_word1 (w_rw tx k 20 4) l4 (by omega)
  refine ⟨σ5, ?_, l5, fun i hi hl => ?_, fun r h0 h1 => by rw [f5 r h0 h1, f4 r h0 h1, f3 r h0 h1, f2 r h0 h1, f1 r h0 h1], fun i hi => by rw [z5 i hi, z4 i hi, z3 i hi, z2 i hi, z1 i hi]⟩
  · unfold g_42
    rw [h, show (20 : Int32) = nI 20 from rfl, n_add, show (600 : Int32) = nI 600 from rfl, if_pos (by rw [n_le (by omega) (by omega)]; exact hk), c1, bnd, c2, bnd, c3, bnd, c4, bnd, c5, bnd, l5]
  · by_cases g0 : i < k
    · rw [t5 i (by omega), t4 i (by omega), t3 i (by omega), t2 i (by omega), t1 i g0]; exact ht i g0 hl
    · by_cases g1 : i < k + 4
      · rw [t5 i (by omega), t4 i (by omega), t3 i (by omega), t2 i (by omega)]
        have e := w1 (i - k) (by omega)
        rw [bC_rw ok (by omega) (by omega) (by omega), show k + (i - k) = i by omega, show k + (4 * 0 + (i - k)) = i by omega] at e
        exact e
      · by_cases g2 : i < k + 8
        · rw [t5 i (by omega), t4 i (by omega), t3 i (by omega)]
          have e := w2 (i - (k + 4)) (by omega)
          rw [bC_rw ok (by omega) (by omega) (by omega), show k + 4 + (i - (k + 4)) = i by omega, show k + (4 * 1 + (i - (k + 4))) = i by omega] at e
          exact e
        · by_cases g3 : i < k + 12
          · rw [t5 i (by omega), t4 i (by omega)]
            have e := w3 (i - (k + 4 + 4)) (by omega)
            rw [bC_rw ok (by omega) (by omega) (by omega), show k + 4 + 4 + (i - (k + 4 + 4)) = i by omega, show k + (4 * 2 + (i - (k + 4 + 4))) = i by omega] at e
            exact e
          · by_cases g4 : i < k + 16
            · rw [t5 i (by omega)]
              have e := w4 (i - (k + 4 + 4 + 4)) (by omega)
              rw [bC_rw ok (by omega) (by omega) (by omega), show k + 4 + 4 + 4 + (i - (k + 4 + 4 + 4)) = i by omega, show k + (4 * 3 + (i - (k + 4 + 4 + 4))) = i by omega] at e
              exact e
            · have e := w5 (i - (k + 4 + 4 + 4 + 4)) (by omega)
              rw [bC_rw ok (by omega) (by omega) (by omega), show k + 4 + 4 + 4 + 4 + (i - (k + 4 + 4 + 4 + 4)) = i by omega, show k + (4 * 4 + (i - (k + 4 + 4 + 4 + 4))) = i by omega] at e
              exact e
/-- the whole of told -/
theorem T_told {tx : List Int32} (ok : okL tx) (htx : tx.length ≤ 100) : ∀ (d k N : Nat) (σ : f_M), 181 ≤ N → σ 0 1 = nI k → k ≤ 120 → k < tx.length + 20 → tx.length + 20 ≤ k + 20 * d → (∀ i, i < k → i < tx.length → σ 1 i = tx.getD i 0) → ∃ N' σ', w_tfun tx d k N σ = some (N', σ') ∧ σ' 0 1 = nI tx.length ∧ (∀ i, i < tx.length → σ' 1 i = tx.getD i 0) ∧ (∀ r, r ≠ 0 → r ≠ 1 → r < 181 → σ' r = σ r) ∧ ∀ i, i ≠ 1 → σ' 0 i = σ 0 i := by
  intro d
  induction d with
  | zero =>
    intro k N σ hN h0 hk hk2 hd ht
    omega
  | succ d ih =>
    intro k N σ hN h0 hk hk2 hd ht
    unfold w_tfun
    by_cases hlt : tx.length ≤ k
    · rw [if_pos hlt, C_trunc h0, if_neg (fun h => h.elim (n_neg (by omega)) (fun h' => by rw [n_lt (by omega) (by omega)] at h'; omega))]
      exact ⟨N, f_up σ 0 1 (nI tx.length), rfl, up_same _ _ _ _, fun i hi => by
        show f_up σ 0 1 (nI tx.length) 1 i = _
        rw [up_rows (by decide)]; exact ht i (by omega) hi, fun r h1 h2 _ => up_rows (σ := σ) h1, fun i hi => up_ix (σ := σ) (a := 0) hi⟩
    · rw [if_neg hlt]
      obtain ⟨σ5, c5, l5, t5, f5, z5⟩ := C_app (σ := f_row σ N (w_rw tx k 20)) ok (k := k) (by rw [row_ne (by omega)]; exact h0) (by omega) (fun i hi hl => by rw [row_ne (by omega)]; exact ht i hi hl)
      obtain ⟨N', σ', e, q1, q2, q3, q4⟩ := ih (k + 20) (N + 1) σ5 (by omega) l5 (by omega) (by omega) (by omega) t5
      refine ⟨N', σ', ?_, q1, q2, fun r h1 h2 h3 => by rw [q3 r h1 h2 h3, f5 r h1 h2, row_ne (by omega)], fun i hi => by rw [q4 i hi, z5 i hi, row_ne (by omega)]⟩
      rw [c5, bnd]
      exact e
