/-! Raw runs: what the JDK's texts need. -/
section A26e
variable {MT : Nat → Option a_Md} {xs : Nat → Int32} {L : Nat} {q y : a_Md} {pc pc' len a b : Nat} {ls ls' st r vs : List Value} {c n c' n' : Nat} {h h' h0 t t' : a_H} {w : a_R × a_H} {B m j o9 ci k : Nat} {fs : List Value} {v u : Value} {x z : Int32}
theorem r_aload {k : Nat} {x : Nat} (hat : a_at (m_is q) pc = some (.aload k, len, a, b)) (hl : ls[k]? = some (.ref x)) (hp : pc + 2 = pc') (K : f_ok MT xs L q pc' ls (.ref x :: st) h c n w) : f_ok MT xs L q pc ls st h c n w := by
  subst hp
  exact r_stp (by unfold a_1; rw [hat]; simp only [a_ins, a_ldA, hl, Option.map_some]) K
theorem r_iload {k : Nat} {x : Int32} (hat : a_at (m_is q) pc = some (.iload k, len, a, b)) (hl : ls[k]? = some (.int x)) (hp : pc + 2 = pc') (K : f_ok MT xs L q pc' ls (.int x :: st) h c n w) : f_ok MT xs L q pc ls st h c n w := by
  subst hp
  exact r_stp (by unfold a_1; rw [hat]; simp only [a_ins, a_ldI, hl, Option.map_some]) K
theorem r_astore {k : Nat} {x : Nat} (hat : a_at (m_is q) pc = some (.astore k, len, a, b)) (hk : k < ls.length) (hs : a_sto ls k (.ref x) = ls') (hp : pc + 2 = pc') (K : f_ok MT xs L q pc' ls' st h c n w) : f_ok MT xs L q pc ls (.ref x :: st) h c n w := by
  subst hs hp
  exact r_stp (by unfold a_1; rw [hat]; simp only [a_ins, hk, if_true, Option.map_some]) K
theorem r_ldci {k : Nat} {v : Int32} (hat : a_at (m_is q) pc = some (.ldc k, len, a, b)) (ha9 : a_big ≤ a) (hv : Int32.ofNat (a - a_big) = v) (hp : pc + 2 = pc') (K : f_ok MT xs L q pc' ls (.int v :: st) h c n w) : f_ok MT xs L q pc ls st h c n w := by
  subst hp hv
  exact r_stp (by unfold a_1; rw [hat]; simp only [a_ins, if_pos ha9, Option.map_some]) K
theorem r_bin {i : Instr} {v : Int32} (hat : a_at (m_is q) pc = some (i, len, a, b)) (hi : (i = .iadd ∧ x + z = v) ∨ (i = .isub ∧ x - z = v) ∨ (i = .imul ∧ x * z = v) ∨ (i = .ishl ∧ x <<< (z &&& 31) = v) ∨ (i = .ishr ∧ x >>> (z &&& 31) = v) ∨ (i = .idiv ∧ z ≠ 0 ∧ x / z = v) ∨ (i = .irem ∧ z ≠ 0 ∧ x - x / z * z = v)) (hp : pc + 1 = pc') (K : f_ok MT xs L q pc' ls (.int v :: st) h c n w) : f_ok MT xs L q pc ls (.int z :: .int x :: st) h c n w := by
  subst hp
  rcases hi with ⟨rfl, rfl⟩ | ⟨rfl, rfl⟩ | ⟨rfl, rfl⟩ | ⟨rfl, rfl⟩ | ⟨rfl, rfl⟩ | ⟨rfl, hz, rfl⟩ | ⟨rfl, hz, rfl⟩
  · exact r_stp (by unfold a_1; rw [hat]; rfl) K
  · exact r_stp (by unfold a_1; rw [hat]; rfl) K
  · exact r_stp (by unfold a_1; rw [hat]; rfl) K
  · exact r_stp (by unfold a_1; rw [hat]; rfl) K
  · exact r_stp (by unfold a_1; rw [hat]; rfl) K
  · exact r_stp (by unfold a_1; rw [hat]; simp only [a_ins, if_neg hz, Option.map_some]) K
  · exact r_stp (by unfold a_1; rw [hat]; simp only [a_ins, if_neg hz, Option.map_some]) K
theorem r_una {i : Instr} {v : Int32} (hat : a_at (m_is q) pc = some (i, len, a, b)) (hi : (i = .ineg ∧ -x = v) ∨ (i = .i2b ∧ x.toInt8.toInt32 = v) ∨ (i = .i2c ∧ (x.toUInt32 % 65536).toInt32 = v)) (hp : pc + 1 = pc') (K : f_ok MT xs L q pc' ls (.int v :: st) h c n w) : f_ok MT xs L q pc ls (.int x :: st) h c n w := by
  subst hp
  rcases hi with ⟨rfl, rfl⟩ | ⟨rfl, rfl⟩ | ⟨rfl, rfl⟩
  · exact r_stp (by unfold a_1; rw [hat]; rfl) K
  · exact r_stp (by unfold a_1; rw [hat]; rfl) K
  · exact r_stp (by unfold a_1; rw [hat]; rfl) K
theorem r_dup_x1 (hat : a_at (m_is q) pc = some (.dup_x1, len, a, b)) (hv : v.category = 1 ∧ u.category = 1) (hp : pc + 1 = pc') (K : f_ok MT xs L q pc' ls (v :: u :: v :: st) h c n w) : f_ok MT xs L q pc ls (v :: u :: st) h c n w := by
  subst hp
  exact r_stp (by unfold a_1; rw [hat]; simp only [a_ins, if_pos hv, Option.map_some]) K
theorem r_pop (hat : a_at (m_is q) pc = some (.pop, len, a, b)) (hv : v.category = 1) (hp : pc + 1 = pc') (K : f_ok MT xs L q pc' ls st h c n w) : f_ok MT xs L q pc ls (v :: st) h c n w := by
  subst hp
  exact r_stp (by unfold a_1; rw [hat]; simp only [a_ins, if_pos hv, Option.map_some]) K
theorem r_nonnull {off : Int} {x : Nat} (hat : a_at (m_is q) pc = some (.ifnonnull off, len, a, b)) (hp : 0 ≤ (pc : Int) + off ∧ ((pc : Int) + off).toNat = pc') (K : f_ok MT xs L q pc' ls st h c n w) : f_ok MT xs L q pc ls (.ref x :: st) h c n w := by
  obtain ⟨h0, rfl⟩ := hp
  exact r_stp (by unfold a_1; rw [hat]; simp only [a_ins, if_pos h0, Option.map_some]) K
theorem r_if {cnd : ClassFile.Cond} {off : Int} {bb : Bool} (hat : a_at (m_is q) pc = some (.ifCond cnd off, len, a, b)) (hc : a_c0 cnd x = bb) (hp : 0 ≤ (pc : Int) + off ∧ (if bb then ((pc : Int) + off).toNat else pc + 3) = pc') (K : f_ok MT xs L q pc' ls st h c n w) : f_ok MT xs L q pc ls (.int x :: st) h c n w := by
  obtain ⟨h0, rfl⟩ := hp
  exact r_stp (by unfold a_1; rw [hat]; simp only [a_ins, h0, hc, if_true, Option.map_some]) K
theorem r_gets {i9 : Nat} (hat : a_at (m_is q) pc = some (.getstatic i9, len, a, b)) (hv : (if a = 0 then .int 1 else .ref (a_big + 499 + a)) = v) (hp : pc + 3 = pc') (K : f_ok MT xs L q pc' ls (v :: st) h c n w) : f_ok MT xs L q pc ls st h c n w := by
  subst hp hv
  exact r_stp (by unfold a_1; rw [hat]; rfl) K
theorem r_alen {ty : FieldType} {e9} (hB : h0.length = B) (hat : a_at (m_is q) pc = some (.arraylength, len, a, b)) (hg : t[j]? = some (.inl (ty, m, e9))) (ho : o9 = B + j) (hb : o9 < a_big) (hp : pc + 1 = pc') (K : f_ok MT xs L q pc' ls (.int (nI m) :: st) (h0 ++ t) c n w) : f_ok MT xs L q pc ls (.ref o9 :: st) (h0 ++ t) c n w := by
  subst hp
  refine r_stp ?_ K
  unfold a_1
  rw [hat]
  simp only [a_ins, a_len, if_neg (Nat.ne_of_lt hb), r_at hB hg ho, Option.map_some]
  rfl
theorem r_bast {f : Nat → Int32} (hB : h0.length = B) (hat : a_at (m_is q) pc = some (.bastore, len, a, b)) (hg : t[j]? = some (.inl (.byte, m, .inl f))) (ho : o9 = B + j) (hi : ¬ (z < 0 ∨ m ≤ z.toNatClampNeg)) (hp : pc + 1 = pc') (K : f_ok MT xs L q pc' ls st (h0 ++ t.set j (.inl (.byte, m, .inl (upd f z.toNatClampNeg (vp_nar .byte x))))) c n w) : f_ok MT xs L q pc ls (.int x :: .int z :: .ref o9 :: st) (h0 ++ t) c n w := by
  subst hp
  refine r_stp ?_ K
  unfold a_1
  rw [hat]
  simp only [a_ins, a_wr, r_at hB hg ho]
  rw [if_pos hi, if_neg (by decide), if_pos (by decide), r_set hB ho]
  rfl
/-- the tables of digits -/
theorem r_dig {g : Nat} (hat : a_at (m_is q) pc = some (.baload, len, a, b)) (hg : g < 2) (hi : ¬ (z < 0 ∨ 100 ≤ z.toNatClampNeg)) (hp : pc + 1 = pc') (K : f_ok MT xs L q pc' ls (.int (a_dig g z.toNatClampNeg) :: st) h c n w) : f_ok MT xs L q pc ls (.int z :: .ref (a_big + 500 + g) :: st) h c n w := by
  subst hp
  refine r_stp ?_ K
  unfold a_1
  rw [hat]
  simp only [a_ins, a_rd, if_neg (show ¬ a_big + 500 + g = a_big by omega)]
  rw [if_pos (by omega), if_pos ⟨trivial, hi⟩, show a_big + 500 + g - a_big - 500 = g by omega]
  rfl
/-- members of the JDK that the machine has of its own -/
theorem r_jdk {i9 w9 : Nat} {i : Instr} (hat : a_at (m_is q) pc = some (i, len, 1000 + w9, b)) (hi : i = .invokevirtual i9 ∨ i = .invokestatic i9 ∨ i = .invokespecial i9) (hb : a_bi xs w9 st h = some (r, h')) (hp : pc + 3 = pc') (K : f_ok MT xs L q pc' ls r h' c n w) : f_ok MT xs L q pc ls st h c n w := by
  subst hp
  refine r_stp ?_ K
  unfold a_1
  rw [hat]
  have e9 : 1000 + w9 - 1000 = w9 := by omega
  rcases hi with rfl | rfl | rfl <;> simp only [if_pos (show 1000 ≤ 1000 + w9 by omega), e9, hb, Option.map_some]
/-- calls -/
theorem r_kv {i9 j9 na : Nat} {as : List Value} (hat : a_at (m_is q) pc = some (.invokevirtual i9, len, j9, b)) (hj : ¬ 1000 ≤ j9) (hy : MT j9 = some y) (hna : m_na y = na ∧ 1 ≤ na) (hst : na ≤ st.length ∧ (st.take na).reverse = as ∧ st.drop na = r ∧ a_isc h (st[na - 1]?) b = true) (hb : m_kc y ≤ c ∧ m_kn y ≤ n ∧ a_sum r ≤ 8) :
    a_1 MT xs L q pc ls st h c n = some (.inr (.inl (j9, as, (pc, ls, r, h, c, n)))) := by
  obtain ⟨h1, h2, h3, h4⟩ := hst
  unfold a_1
  rw [hat]
  dsimp only
  rw [if_neg hj, hy]
  dsimp only
  rw [hna.1, h2, h3, if_pos ⟨h1, hb.1, hb.2.1, hb.2.2, hna.2, h4⟩]
theorem r_ks {i9 j9 na : Nat} {as : List Value} (hat : a_at (m_is q) pc = some (.invokestatic i9, len, j9, b)) (hj : ¬ 1000 ≤ j9) (hy : MT j9 = some y) (hna : m_na y = na) (hst : na ≤ st.length ∧ (st.take na).reverse = as ∧ st.drop na = r) (hb : m_kc y ≤ c ∧ m_kn y ≤ n ∧ a_sum r ≤ 8) :
    a_1 MT xs L q pc ls st h c n = some (.inr (.inl (j9, as, (pc, ls, r, h, c, n)))) := by
  obtain ⟨h1, h2, h3⟩ := hst
  unfold a_1
  rw [hat]
  dsimp only
  rw [if_neg hj, hy]
  dsimp only
  rw [hna, h2, h3, if_pos ⟨h1, hb.1, hb.2.1, hb.2.2⟩]
theorem r_kp {i9 j9 na : Nat} {as : List Value} (hat : a_at (m_is q) pc = some (.invokespecial i9, len, j9, b)) (hj : ¬ 1000 ≤ j9) (hy : MT j9 = some y) (hna : m_na y = na ∧ 1 ≤ na) (hst : na ≤ st.length ∧ (st.take na).reverse = as ∧ st.drop na = r ∧ a_isc h (st[na - 1]?) 10 = true) (hb : m_kc y ≤ c ∧ m_kn y ≤ n ∧ a_sum r ≤ 8) :
    a_1 MT xs L q pc ls st h c n = some (.inr (.inl (j9, as, (pc, ls, r, h, c, n)))) := by
  obtain ⟨h1, h2, h3, h4⟩ := hst
  have h5 : a_isr (st[na - 1]?) = true := by
    unfold a_isc at h4
    split at h4
    · rename_i e; rw [e]; rfl
    · cases h4
  unfold a_1
  rw [hat]
  dsimp only
  rw [if_neg hj, hy]
  dsimp only
  rw [hna.1, h2, h3, if_pos ⟨h1, hb.1, hb.2.1, hb.2.2, hna.2, h5, fun _ => h4⟩]
theorem r_iret (hat : a_at (m_is q) pc = some (.ireturn, len, a, b)) {ty : FieldType} (hr : m_rt q = some ty) (hn : narrow ty (.int x) = .int x) (e : h = h') : f_ok MT xs L q pc ls [.int x] h c n (.inl (some (.int x)), h') := by
  subst e
  refine ⟨0, 0, 1, ?_⟩
  unfold a_ex a_1
  rw [hat]
  dsimp only
  rw [hr]
  dsimp only
  rw [if_pos hn]
theorem r_aret {x : Nat} (hat : a_at (m_is q) pc = some (.areturn, len, a, b)) (hr : a_rty (m_rt q) = true) (e : h = h') : f_ok MT xs L q pc ls [.ref x] h c n (.inl (some (.ref x)), h') := by
  subst e
  refine ⟨0, 0, 1, ?_⟩
  unfold a_ex a_1
  rw [hat]
  dsimp only
  rw [if_pos hr]
end A26e
