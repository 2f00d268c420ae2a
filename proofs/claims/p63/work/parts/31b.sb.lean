/-! The JDK's methods of the texts, run on the abstract machine: StringBuilder. -/
set_option maxHeartbeats 4000000 in
theorem MT_137 : a_MT 137 = some md_200 := rfl
set_option maxHeartbeats 4000000 in
theorem MT_138 : a_MT 138 = some md_201 := rfl
set_option maxHeartbeats 4000000 in
theorem MT_139 : a_MT 139 = some md_202 := rfl
set_option maxHeartbeats 4000000 in
theorem MT_140 : a_MT 140 = some md_203 := rfl
set_option maxHeartbeats 4000000 in
theorem MT_141 : a_MT 141 = some md_204 := rfl
set_option maxHeartbeats 4000000 in
theorem MT_142 : a_MT 142 = some md_205 := rfl
set_option maxHeartbeats 4000000 in
theorem MT_143 : a_MT 143 = some md_206 := rfl
set_option maxHeartbeats 4000000 in
theorem MT_144 : a_MT 144 = some md_207 := rfl
set_option maxHeartbeats 4000000 in
theorem MT_145 : a_MT 145 = some md_208 := rfl
set_option maxHeartbeats 4000000 in
theorem MT_146 : a_MT 146 = some md_209 := rfl
set_option maxHeartbeats 4000000 in
theorem MT_147 : a_MT 147 = some md_210 := rfl
set_option maxHeartbeats 4000000 in
theorem MT_148 : a_MT 148 = some md_211 := rfl
set_option maxHeartbeats 4000000 in
theorem MT_149 : a_MT 149 = some md_212 := rfl
set_option maxHeartbeats 4000000 in
theorem MT_150 : a_MT 150 = some md_213 := rfl
set_option maxHeartbeats 4000000 in
theorem MT_151 : a_MT 151 = some md_214 := rfl
set_option maxHeartbeats 4000000 in
theorem MT_152 : a_MT 152 = some md_215 := rfl
set_option maxHeartbeats 4000000 in
theorem MT_153 : a_MT 153 = some md_216 := rfl
set_option maxHeartbeats 4000000 in
theorem MT_154 : a_MT 154 = some md_217 := rfl
set_option maxHeartbeats 4000000 in
theorem MT_155 : a_MT 155 = some md_218 := rfl
section A31b
variable {xs : Nat → Int32} {L B : Nat} {h0 t : a_H}
/-- a StringBuilder: its array stands at place j behind it, n letters are in it -/
abbrev sb_ob (B j n : Nat) : a_C := .inr (10, [.ref (B + j), .int 0, .int 0, .int (nI n)])
abbrev sb_ar (m : Nat) (f : Nat → Int32) : a_C := .inl (.byte, m, .inl f)
set_option maxHeartbeats 4000000 in
theorem sb_isc {fs : List Value} (hB : h0.length = B) (hg : t[0]? = some (.inr (10, fs))) : a_isc (h0 ++ t) (some (.ref B)) 10 = true := by
  unfold a_isc
  dsimp only
  rw [r_at (o9 := B) hB hg rfl]
  rfl
set_option maxHeartbeats 4000000 in
theorem r_ki {MT : Nat → Option a_Md} {q y : a_Md} {pc len b i9 j9 na : Nat} {ls st r as : List Value} {h : a_H} {c n : Nat} (hat : a_at (m_is q) pc = some (.invokespecial i9, len, j9, b)) (hj : ¬ 1000 ≤ j9) (hy : MT j9 = some y) (hna : m_na y = na ∧ 1 ≤ na) (hst : na ≤ st.length ∧ (st.take na).reverse = as ∧ st.drop na = r ∧ a_isr (st[na - 1]?) = true) (hb : m_kc y ≤ c ∧ m_kn y ≤ n ∧ a_sum r ≤ 8) (hb2 : b ≠ 2 := by decide) :
    a_1 MT xs L q pc ls st h c n = some (.inr (.inl (j9, as, (pc, ls, r, h, c, n)))) := by
  obtain ⟨h1, h2, h3, h4⟩ := hst
  unfold a_1
  rw [hat]
  dsimp only
  rw [if_neg hj, hy]
  dsimp only
  rw [hna.1, h2, h3, if_pos ⟨h1, hb.1, hb.2.1, hb.2.2, hna.2, h4, fun e => absurd e hb2⟩]
set_option maxHeartbeats 4000000 in
theorem sb_sub {q m : Nat} (hq : q < 1000000) (hm : m < 1000000) : a_c0 .le (nI q - nI m) = decide (q ≤ m) := by
  have e : (nI q - nI m).toInt = (q : Int) - m := pk_sub_toInt (by omega) (by omega)
  show decide (nI q - nI m ≤ 0) = _
  rw [decide_eq_decide, Int32.le_iff_toInt_le, e, Int32.toInt_zero]
  omega
set_option maxHeartbeats 4000000 in
theorem sb_max (m : Nat) (hm : m ≤ 102) : a_c2 .ne (nI (2 * m + 2)) (nI 2147483647) = true := by
  show decide (¬ nI (2 * m + 2) = nI 2147483647) = true
  exact decide_eq_true (fun z => by have := n_inj (a := 2 * m + 2) (b := 2147483647) (by omega) (by omega) z; omega)
set_option maxHeartbeats 4000000 in
theorem sb_shl (n : Nat) : nI n <<< ((0 : Int32) &&& 31) = nI n := by
  show nI n <<< (0 : Int32) = nI n
  exact Int32.shiftLeft_zero
set_option maxHeartbeats 4000000 in
theorem sb_shr {n : Nat} (h : n < 2 ^ 31) : nI n >>> ((0 : Int32) &&& 31) = nI n := sc_shr0 h
set_option maxHeartbeats 4000000 in
theorem sb_newLength {m b : Nat} {h : a_H} (hm : m ≤ 102) (hb : b ≤ m + 2) : f_run a_MT xs L 144 [.int (nI m), .int (nI b), .int (nI (m + 2))] h (.inl (some (.int (nI (2 * m + 2)))), h) := by
  refine r_of (q := md_207) MT_144 (Nat.le_of_ble_eq_true rfl) rfl ?_
  refine r_iload_n rfl rfl rfl ?_
  refine r_iload_n rfl rfl rfl ?_
  refine r_iload_n rfl rfl rfl ?_
  refine r_jdk (h' := h) (i9 := 194) (w9 := 2) (r := [.int (nI (m + 2)), .int (nI m)]) rfl (Or.inr (Or.inl rfl)) ?_ rfl ?_
  · show (if a_sum [.int (nI m)] ≤ 8 then some (Value.int (if nI b < nI (m + 2) then nI (m + 2) else nI b) :: [.int (nI m)], h) else none) = _
    rw [if_pos (Nat.le_of_ble_eq_true rfl)]
    by_cases hb2 : b < m + 2
    · rw [if_pos ((n_lt (by omega) (by omega)).mpr hb2)]
    · rw [if_neg (fun z => hb2 ((n_lt (by omega) (by omega)).mp z)), show b = m + 2 by omega]
  refine r_bin (v := nI (2 * m + 2)) rfl (Or.inl ⟨rfl, by rw [n_add]; congr 1; omega⟩) rfl ?_
  refine r_istore_n rfl (Nat.le_of_ble_eq_true rfl) rfl rfl ?_
  refine r_iconst (v := 0) rfl rfl rfl ?_
  refine r_iload_n rfl rfl rfl ?_
  refine r_icmp (bb := false) rfl (decide_eq_false (fun z => by have := (n_le (a := 2 * m + 2) (b := 0) (by omega) (by omega)).mp z; omega)) ⟨by decide, rfl⟩ ?_
  refine r_iload_n rfl rfl rfl ?_
  refine r_ldci (v := nI 2147483639) rfl (by decide) (by decide +kernel) rfl ?_
  refine r_icmp (bb := false) rfl (decide_eq_false (fun z => by have := (n_lt (a := 2147483639) (b := 2 * m + 2) (by omega) (by omega)).mp z; omega)) ⟨by decide, rfl⟩ ?_
  refine r_iload_n rfl rfl rfl ?_
  exact r_iret rfl rfl rfl rfl
set_option maxHeartbeats 4000000 in
theorem sb_newCap {j n m q : Nat} {f : Nat → Int32} (hB : h0.length = B) (hb : B + 10 < a_big) (hj : j < 10) (hm : m ≤ 102) (hq : m ≤ q ∧ q ≤ 2 * m + 2) (hg : t[0]? = some (sb_ob B j n)) (hgj : t[j]? = some (sb_ar m f)) : f_run a_MT xs L 143 [.ref B, .int (nI q)] (h0 ++ t) (.inl (some (.int (nI (2 * m + 2)))), h0 ++ t) := by
  refine r_of (q := md_206) MT_143 (Nat.le_of_ble_eq_true rfl) rfl ?_
  refine r_aload_n rfl rfl rfl ?_
  refine r_get (v := .ref (B + j)) hB rfl hg rfl rfl rfl ?_
  refine r_alen (m := m) hB rfl hgj rfl (by omega) rfl ?_
  refine r_istore_n rfl (Nat.le_of_ble_eq_true rfl) rfl rfl ?_
  refine r_iload_n rfl rfl rfl ?_
  refine r_aload_n rfl rfl rfl ?_
  refine r_get (v := .int 0) hB rfl hg rfl rfl rfl ?_
  refine r_bin (v := nI q) rfl (Or.inr (Or.inr (Or.inr (Or.inl ⟨rfl, sb_shl q⟩)))) rfl ?_
  refine r_istore_n rfl (Nat.le_of_ble_eq_true rfl) rfl rfl ?_
  refine r_iload_n rfl rfl rfl ?_
  refine r_iload_n rfl rfl rfl ?_
  refine r_bin (v := nI (q - m)) rfl (Or.inr (Or.inl ⟨rfl, n_sub hq.1⟩)) rfl ?_
  refine r_istore rfl (Nat.le_of_ble_eq_true rfl) rfl rfl ?_
  refine r_iload_n rfl rfl rfl ?_
  refine r_iload rfl rfl rfl ?_
  refine r_iload_n rfl rfl rfl ?_
  refine r_iconst (v := 2) rfl rfl rfl ?_
  refine r_aload_n rfl rfl rfl ?_
  refine r_get (v := .int 0) hB rfl hg rfl rfl rfl ?_
  refine r_bin (v := 2) rfl (Or.inr (Or.inr (Or.inr (Or.inl ⟨rfl, rfl⟩)))) rfl ?_
  refine r_bin (v := nI (m + 2)) rfl (Or.inl ⟨rfl, n_add m 2⟩) rfl ?_
  refine r_kall (v9 := some (.int (nI (2 * m + 2)))) (r_ks (na := 3) rfl (by decide) MT_144 rfl ⟨Nat.le_of_ble_eq_true rfl, rfl, rfl⟩ ⟨Nat.le_of_ble_eq_true rfl, Nat.le_of_ble_eq_true rfl, Nat.le_of_ble_eq_true rfl⟩) MT_144 (sb_newLength hm (by omega)) ⟨rfl, rfl, rfl, rfl⟩ ?_
  refine r_istore rfl (Nat.le_of_ble_eq_true rfl) rfl rfl ?_
  refine r_iload rfl rfl rfl ?_
  refine r_ldci (v := nI 2147483647) rfl (by decide) (by decide +kernel) rfl ?_
  refine r_icmp (pc' := 51) (bb := true) rfl (sb_max m hm) ⟨by decide, rfl⟩ ?_
  refine r_iload rfl rfl rfl ?_
  refine r_aload_n rfl rfl rfl ?_
  refine r_get (v := .int 0) hB rfl hg rfl rfl rfl ?_
  refine r_bin (v := nI (2 * m + 2)) rfl (Or.inr (Or.inr (Or.inr (Or.inr (Or.inl ⟨rfl, sb_shr (by omega)⟩))))) rfl ?_
  exact r_iret rfl rfl rfl rfl
set_option maxHeartbeats 4000000 in
theorem sb_cpy {j j1 m k w : Nat} {f g : Nat → Int32} (hB : h0.length = B) (hg : t[j]? = some (sb_ar m f)) (hg1 : t[j1]? = some (sb_ar k g)) (hw : w ≤ m ∧ w ≤ k ∧ w < 1000) (hf : ∀ i, fits .byte (.int (f i)) = true) :
    a_bi xs 3 [.int (nI w), .int 0, .ref (B + j1), .int 0, .ref (B + j)] (h0 ++ t) = some ([], h0 ++ t.set j1 (sb_ar k (va_cpy f g 0 0 w))) := by
  show (if a_sum [] ≤ 8 then (a_cpy9 (h0 ++ t) (B + j) 0 (B + j1) 0 (nI w)).map fun h1 => (([] : List Value), h1) else none) = _
  rw [if_pos (Nat.le_of_ble_eq_true rfl)]
  unfold a_cpy9
  rw [r_at hB hg rfl, r_at hB hg1 rfl]
  dsimp only
  have ew : (nI w).toNatClampNeg = w := n_clamp (by omega)
  have e0 : (0 : Int32).toNatClampNeg = 0 := rfl
  rw [ew, e0, if_pos ⟨⟨rfl, Or.inr rfl⟩, ⟨by decide, by decide, n_neg (by omega), by omega, by omega⟩, fun i _ => hf _⟩, r_set hB rfl]
  rfl
set_option maxHeartbeats 4000000 in
theorem sb_copyOf {j m k : Nat} {f : Nat → Int32} (hB : h0.length = B) (hb : B + 10 < a_big) (hj : j < t.length ∧ t.length < 10) (hk : m < k ∧ k ≤ 200) (hg : t[j]? = some (sb_ar m f)) (hf : ∀ i, fits .byte (.int (f i)) = true) : f_run a_MT xs L 145 [.ref (B + j), .int (nI k)] (h0 ++ t) (.inl (some (.ref (B + t.length))), h0 ++ (t ++ [sb_ar k (va_cpy f (fun _ => 0) 0 0 m)])) := by
  have hgn : ∀ x : a_C, (t ++ [x])[j]? = some (sb_ar m f) := fun x => by rw [List.getElem?_append_left hj.1]; exact hg
  have hgl : ∀ x : a_C, (t ++ [x])[t.length]? = some x := fun x => by rw [List.getElem?_append_right (Nat.le_refl _), Nat.sub_self]; rfl
  refine r_of (q := md_208) MT_145 (Nat.le_of_ble_eq_true rfl) rfl ?_
  refine r_iload_n rfl rfl rfl ?_
  refine r_aload_n rfl rfl rfl ?_
  refine r_alen (m := m) hB rfl hg rfl (by omega) rfl ?_
  refine r_icmp (pc' := 14) (bb := true) rfl (decide_eq_true (fun z => by have := n_inj (a := k) (b := m) (by omega) (by omega) z; omega)) ⟨by decide, rfl⟩ ?_
  refine r_iload_n rfl rfl rfl ?_
  refine r_newarr (z := k) (m := B + t.length) (ty := .byte) (els := .inl (fun _ => 0)) hB rfl rfl rfl ⟨n_clamp (by omega), n_neg (by omega), by omega⟩ rfl (by omega) ⟨Nat.le_of_ble_eq_true rfl, hk.2⟩ ⟨rfl, rfl, rfl⟩ ?_
  refine r_astore_n rfl (Nat.le_of_ble_eq_true rfl) rfl rfl ?_
  refine r_aload_n rfl rfl rfl ?_
  refine r_iconst (v := 0) rfl rfl rfl ?_
  refine r_aload_n rfl rfl rfl ?_
  refine r_iconst (v := 0) rfl rfl rfl ?_
  refine r_aload_n rfl rfl rfl ?_
  refine r_alen (m := m) hB rfl (hgn _) rfl (by omega) rfl ?_
  refine r_iload_n rfl rfl rfl ?_
  refine r_jdk (h' := h0 ++ (t ++ [sb_ar k (fun _ => 0)])) (i9 := 304) (w9 := 1) (r := [.int (nI m), .int 0, .ref (B + t.length), .int 0, .ref (B + j)]) rfl (Or.inr (Or.inl rfl)) ?_ rfl ?_
  · show (if a_sum [.int 0, .ref (B + t.length), .int 0, .ref (B + j)] ≤ 8 then some (Value.int (if nI k < nI m then nI k else nI m) :: [.int 0, .ref (B + t.length), .int 0, .ref (B + j)], h0 ++ (t ++ [sb_ar k (fun _ => 0)])) else none) = _
    rw [if_pos (Nat.le_of_ble_eq_true rfl), if_neg (fun z => by have := (n_lt (by omega) (by omega)).mp z; omega)]
  refine r_jdk (i9 := 150) (w9 := 3) (r := []) rfl (Or.inr (Or.inl rfl)) (sb_cpy (m := m) hB (hgn _) (hgl _) ⟨Nat.le_refl _, by omega, by omega⟩ hf) rfl ?_
  refine r_aload_n rfl rfl rfl ?_
  refine r_aret rfl rfl ?_
  rw [List.set_append_right _ _ (Nat.le_refl _), Nat.sub_self]
  rfl
set_option maxHeartbeats 4000000 in
theorem sb_ens0 {j n m q : Nat} {f : Nat → Int32} (hB : h0.length = B) (hb : B + 10 < a_big) (hj : j < 10) (hm : m ≤ 102) (hq : q ≤ m) (hg : t[0]? = some (sb_ob B j n)) (hgj : t[j]? = some (sb_ar m f)) : f_run a_MT xs L 142 [.ref B, .int (nI q)] (h0 ++ t) (.inl none, h0 ++ t) := by
  refine r_of (q := md_205) MT_142 (Nat.le_of_ble_eq_true rfl) rfl ?_
  refine r_aload_n rfl rfl rfl ?_
  refine r_get (v := .ref (B + j)) hB rfl hg rfl rfl rfl ?_
  refine r_alen (m := m) hB rfl hgj rfl (by omega) rfl ?_
  refine r_aload_n rfl rfl rfl ?_
  refine r_get (v := .int 0) hB rfl hg rfl rfl rfl ?_
  refine r_bin (v := nI m) rfl (Or.inr (Or.inr (Or.inr (Or.inr (Or.inl ⟨rfl, sb_shr (by omega)⟩))))) rfl ?_
  refine r_istore_n rfl (Nat.le_of_ble_eq_true rfl) rfl rfl ?_
  refine r_iload_n rfl rfl rfl ?_
  refine r_iload_n rfl rfl rfl ?_
  refine r_bin (v := nI q - nI m) rfl (Or.inr (Or.inl ⟨rfl, rfl⟩)) rfl ?_
  refine r_if (pc' := 38) (bb := true) rfl ((sb_sub (by omega) (by omega)).trans (decide_eq_true hq)) ⟨by decide, rfl⟩ ?_
  exact r_vret rfl rfl rfl
set_option maxHeartbeats 4000000 in
theorem sb_ens1 {j n m q : Nat} {f : Nat → Int32} (hB : h0.length = B) (hb : B + 10 < a_big) (hj : 0 < j ∧ j < t.length ∧ t.length < 10) (hm : m ≤ 50) (hq : m < q ∧ q ≤ 2 * m + 2) (hg : t[0]? = some (sb_ob B j n)) (hgj : t[j]? = some (sb_ar m f)) (hf : ∀ i, fits .byte (.int (f i)) = true) : f_run a_MT xs L 142 [.ref B, .int (nI q)] (h0 ++ t) (.inl none, h0 ++ (t ++ [sb_ar (2 * m + 2) (va_cpy f (fun _ => 0) 0 0 m)]).set 0 (sb_ob B t.length n)) := by
  have hgn : ∀ x : a_C, (t ++ [x])[0]? = some (sb_ob B j n) := fun x => by rw [List.getElem?_append_left (by omega)]; exact hg
  refine r_of (q := md_205) MT_142 (Nat.le_of_ble_eq_true rfl) rfl ?_
  refine r_aload_n rfl rfl rfl ?_
  refine r_get (v := .ref (B + j)) hB rfl hg rfl rfl rfl ?_
  refine r_alen (m := m) hB rfl hgj rfl (by omega) rfl ?_
  refine r_aload_n rfl rfl rfl ?_
  refine r_get (v := .int 0) hB rfl hg rfl rfl rfl ?_
  refine r_bin (v := nI m) rfl (Or.inr (Or.inr (Or.inr (Or.inr (Or.inl ⟨rfl, sb_shr (by omega)⟩))))) rfl ?_
  refine r_istore_n rfl (Nat.le_of_ble_eq_true rfl) rfl rfl ?_
  refine r_iload_n rfl rfl rfl ?_
  refine r_iload_n rfl rfl rfl ?_
  refine r_bin (v := nI q - nI m) rfl (Or.inr (Or.inl ⟨rfl, rfl⟩)) rfl ?_
  refine r_if (bb := false) rfl ((sb_sub (by omega) (by omega)).trans (decide_eq_false (by omega))) ⟨by decide, rfl⟩ ?_
  refine r_aload_n rfl rfl rfl ?_
  refine r_aload_n rfl rfl rfl ?_
  refine r_get (v := .ref (B + j)) hB rfl hg rfl rfl rfl ?_
  refine r_aload_n rfl rfl rfl ?_
  refine r_iload_n rfl rfl rfl ?_
  refine r_kall (v9 := some (.int (nI (2 * m + 2)))) (r_kv (na := 2) rfl (by decide) MT_143 ⟨rfl, by decide⟩ ⟨Nat.le_of_ble_eq_true rfl, rfl, rfl, (sb_isc hB hg)⟩ ⟨Nat.le_of_ble_eq_true rfl, Nat.le_of_ble_eq_true rfl, Nat.le_of_ble_eq_true rfl⟩) MT_143 (sb_newCap hB hb (by omega) (by omega) ⟨by omega, hq.2⟩ hg hgj) ⟨rfl, rfl, rfl, rfl⟩ ?_
  refine r_aload_n rfl rfl rfl ?_
  refine r_get (v := .int 0) hB rfl hg rfl rfl rfl ?_
  refine r_bin (v := nI (2 * m + 2)) rfl (Or.inr (Or.inr (Or.inr (Or.inl ⟨rfl, sb_shl _⟩)))) rfl ?_
  refine r_kall (v9 := some (.ref (B + t.length))) (r_ks (na := 2) rfl (by decide) MT_145 rfl ⟨Nat.le_of_ble_eq_true rfl, rfl, rfl⟩ ⟨Nat.le_of_ble_eq_true rfl, Nat.le_of_ble_eq_true rfl, Nat.le_of_ble_eq_true rfl⟩) MT_145 (sb_copyOf hB hb ⟨hj.2.1, hj.2.2⟩ ⟨by omega, by omega⟩ hgj hf) ⟨rfl, rfl, rfl, rfl⟩ ?_
  refine r_put hB rfl (hgn _) rfl ⟨Nat.le_of_ble_eq_true rfl, rfl, rfl⟩ rfl ?_
  exact r_vret rfl rfl rfl
end A31b
