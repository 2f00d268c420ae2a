/-! Calls of constructors; returns; throws; exceptions that come back. -/
section A13
variable {p : Program} {l : Launch} {e : Env} {R : Room} {s : State} {H0 : Heap} {m : MethodId} {args : Array Value} {below : List Frame} {meth : Method} {c : Code} {Q : State → Prop}
variable {D : va_G} {A : Nat → Prop} {nL : Nat} {ad0 : Nat → Nat} {n0 : Nat} {cc : ByteArray} {xs : Nat → Int32} {L : Nat} {pc : Nat} {ls st r : List Value} {h h0 : a_H} {cb nb : Nat} {MT : Nat → Option a_Md} {q y : a_Md} {i : Instr} {len a b n : Nat} {res : a_R} {vs : List Value} {own : String} {ini : Bool}
theorem a_ci (X : a_cx p s H0 m args meth c cc (m_y q).cls nL A xs L ad0 (m_ini q)) (hRf : m_fr q ≤ R.frames) (hRl : m_lo q ≤ R.locals) (hd : decode cc pc = .ok (.invokespecial n, 3))
    (hw : a_okq q y ∧ m_hh y = [] ∧ m_thr y = false ∧ (m_y y).name = "<init>" ∧ m_rt y = none ∧ a_lnk (m_y q).cls n b (m_y y) ∧ Cond.instanceMethod (m_y y) ∈ lw_good ∧ a_np y = some (m_na y - 1)) (hnx : m_thr y = false → ∃ v, res = .inl v)
    (hz : m_na y ≤ st.length ∧ m_kc y ≤ cb ∧ m_kn y ≤ nb ∧ a_sum (st.drop (m_na y)) ≤ 8 ∧ 1 ≤ m_na y ∧ a_isr (st[m_na y - 1]?) = true ∧ (b = 2 → a_isc h (st[m_na y - 1]?) 10 = true))
    (hC : a_Con l y xs L (st.take (m_na y)).reverse h res h0)
    (kk : ∀ v, res = .inl v → a_G p l e R s H0 m args below meth c Q D A nL ad0 n0 (pc + 3) ls (v.toList ++ st.drop (m_na y)) h0 (cb - m_kc y) (nb - m_kn y)) : a_G p l e R s H0 m args below meth c Q D A nL ad0 n0 pc ls st h cb nb := by
  intro ad ca H locs cells slots ls' h1 h2 h3 h4 h5 h6 h7 h8 h9 h10
  obtain ⟨hz1, hz2, hz3, hz4, hz5, hz6, -⟩ := hz
  obtain ⟨hw1, hw2, hw3, hw4, hw5, hw6, hw7, hw8⟩ := hw
  obtain ⟨v, rfl⟩ := hnx hw3
  obtain ⟨k9, hk9⟩ : ∃ k9, m_na y = k9 + 1 := ⟨m_na y - 1, by omega⟩
  rw [hk9, Nat.add_sub_cancel] at hz6
  obtain ⟨o, ho⟩ : ∃ o, st[k9]? = some (.ref o) := by
    unfold a_isr at hz6
    split at hz6
    · rename_i o ho
      exact ⟨o, ho⟩
    · cases hz6
  have h5t : a_oks h.length (st.take (m_na y)).reverse := fun w hw9 => h5 w (List.mem_of_mem_take (List.mem_reverse.mp hw9))
  have h5d : a_oks h.length (st.drop (m_na y)) := fun w hw9 => h5 w (List.mem_of_mem_drop hw9)
  have evs : (st.take (m_na y)).reverse.map (a_v ad) = .ref (ad o) :: ((st.take k9).map (a_v ad)).reverse := by
    rw [hk9, a_take ho, List.reverse_append, List.map_append]
    show [Value.ref (ad o)] ++ _ = _
    rw [List.map_reverse]
    rfl
  have est : st.map (a_v ad) = ((st.take k9).map (a_v ad)).reverse.reverse ++ .ref (ad o) :: (st.drop (m_na y)).map (a_v ad) := by
    rw [List.reverse_reverse]
    conv => lhs; rw [← List.take_append_drop (m_na y) st]
    rw [hk9, a_take ho, List.map_append, List.map_append, List.append_assoc]
    rfl
  have hpre := a_pre (vs := (st.take (m_na y)).reverse) X h1 h7 h8
  rw [evs] at hpre
  have hlen : ((st.take k9).map (a_v ad)).reverse.length = m_na y - 1 := by
    rw [List.length_reverse, List.length_map, List.length_take]
    omega
  have hsum : 2 * (F0 m pc ls' (st.map (a_v ad))).monitorRoom + (((st.drop (m_na y)).map (a_v ad)).map fun v => v.category).sum ≤ 8 := lv_room (by rw [a_sum_map]; exact hz4)
  have hr : vx_Run p l e R s m args below meth c H locs cells slots (m_kc y) (m_kn y) (F0 m pc ls' (st.map (a_v ad))) ((st.drop (m_na y)).map (a_v ad)) (a_Qr D ad h.length (va_A (a_ws ad ca h) H.size) (.inl v) h0 (Value.ref (ad o) :: ((st.take k9).map (a_v ad)).reverse).toArray) (a_Xr D ad h.length (va_A (a_ws ad ca h) H.size) (.inl v) h0) (va_A (a_ws ad ca h) H.size) := by
    rcases hw6 with ⟨hb0, hlk⟩ | ⟨hb1, hlk⟩
    · have hcb := a_cb X hRf hRl hw1 hw2 hw8 hlk
      rw [hw5] at hcb
      exact a_toX (va_runI ⟨X.1, X.2.1, X.2.2.1, X.2.2.2.1, X.2.2.2.2.1⟩ (a_noX (hC D ad ca H.size h5t h6)) ⟨hcb, hw4, X.2.2.2.2.1 _ hw7⟩ ⟨a_Pc_blind, hpre⟩ (g := F0 m pc ls' (st.map (a_v ad))) rfl hlen h3.1 est hsum hd ⟨by omega, by omega⟩)
    · have hcb := a_cn9 X hRf hRl hw1 hw2 hw8 hlk
      rw [hw5] at hcb
      exact a_toX (va_runIN (host := RX8) ⟨X.1, X.2.1, X.2.2.1, X.2.2.2.1, X.2.2.2.2.1⟩ (a_noX (hC D ad ca H.size h5t h6)) ⟨hcb, hw4, X.2.2.2.2.1 _ hw7⟩ ⟨a_Pc_blind, hpre⟩ (g := F0 m pc ls' (st.map (a_v ad))) rfl hlen h3.1 est hsum hd ⟨by omega, by omega⟩)
  exact a_aft X hr h1 h2 h3 h4 h5d h7 h8 h9 h10 hz2 hz3 kk (fun k hk => by cases hk)
/-- what a method's end owes -/
def a_E (below : List Frame) (D : va_G) (ad0 : Nat → Nat) (n0 : Nat) (A : Nat → Prop) (res : a_R) (h0 : a_H) (args : Array Value) (s : State) (R : Room) : State → Prop := vx_MQ below (a_Qr D ad0 n0 A res h0) (a_Xr D ad0 n0 A res h0) args s R.cells R.slots A
theorem a_end {ad : Nat → Nat} {ca : Nat → ClassId} {H : Heap} {locs : List Loc} {t : State} {v : Option Value} (hv : ∀ w, v = some w → a_okv h.length w) (h1 : a_agr n0 ad0 ad) (h2 : n0 ≤ h.length) (h6 : a_okh h) (h7 : a_Wd D ad ca h A s H) (h8 : va_S A s.heap H locs) (ht : t.heap = H) (hW : s.WarmedH t.vm) : a_Qr D ad0 n0 A (.inl v) h args s (.returned (v.map (a_v ad))) t :=
  ⟨⟨v, ad, ca, rfl, rfl, hv, h1, h2, h6, by rw [ht]; exact a_Wd.moved hW.alike h7⟩, h8.F ht⟩
theorem a_ret_i {v : Int32} {ty : FieldType} (X : a_cx p s s.heap m args meth c cc own nL A xs L ad0 ini) (hr : meth.sig.returnType = some ty) (hlocks : meth.locks = false) (hn : narrow ty (.int v) = .int v) (hd : decode cc pc = .ok (.ireturn, 1)) : a_G p l e R s s.heap m args below meth c (a_E below D ad0 n0 A (.inl (some (.int v))) h args s R) D A nL ad0 n0 pc ls [.int v] h cb nb := by
  intro ad ca H locs cells slots ls' h1 h2 h3 h4 h5 h6 h7 h8 h9 h10
  refine W.widen (k := R.cells) (n := R.slots) (by omega) (by omega) (vx_ret ?_)
  exact W.zret X.1 X.2.1 hr hn (fun t ht hW => a_end (fun w e i q => by cases e; cases q) h1 h2 h6 h7 h8 ht hW) h8.2.2 hd
theorem a_ret_d {v : UInt64} (X : a_cx p s s.heap m args meth c cc own nL A xs L ad0 ini) (hr : meth.sig.returnType = some .double) (hlocks : meth.locks = false) (hd : decode cc pc = .ok (.dreturn, 1)) : a_G p l e R s s.heap m args below meth c (a_E below D ad0 n0 A (.inl (some (.double v))) h args s R) D A nL ad0 n0 pc ls [.double v] h cb nb := by
  intro ad ca H locs cells slots ls' h1 h2 h3 h4 h5 h6 h7 h8 h9 h10
  refine W.widen (k := R.cells) (n := R.slots) (by omega) (by omega) (vx_ret ?_)
  exact W.dret X.1 X.2.1 hr (fun t ht hW => a_end (fun w e i q => by cases e; cases q) h1 h2 h6 h7 h8 ht hW) h8.2.2 hd
theorem a_ret_f {v : UInt32} (X : a_cx p s s.heap m args meth c cc own nL A xs L ad0 ini) (hr : meth.sig.returnType = some .float) (hlocks : meth.locks = false) (hd : decode cc pc = .ok (.freturn, 1)) : a_G p l e R s s.heap m args below meth c (a_E below D ad0 n0 A (.inl (some (.float v))) h args s R) D A nL ad0 n0 pc ls [.float v] h cb nb := by
  intro ad ca H locs cells slots ls' h1 h2 h3 h4 h5 h6 h7 h8 h9 h10
  refine W.widen (k := R.cells) (n := R.slots) (by omega) (by omega) (vx_ret ?_)
  exact W.fret X.1 X.2.1 hr (fun t ht hW => a_end (fun w e i q => by cases e; cases q) h1 h2 h6 h7 h8 ht hW) h8.2.2 hd
theorem a_ret_a {o : Nat} {ty : FieldType} (X : a_cx p s s.heap m args meth c cc own nL A xs L ad0 ini) (hr : meth.sig.returnType = some ty) (hty : a_rty (some ty) = true) (hlocks : meth.locks = false) (hd : decode cc pc = .ok (.areturn, 1)) : a_G p l e R s s.heap m args below meth c (a_E below D ad0 n0 A (.inl (some (.ref o))) h args s R) D A nL ad0 n0 pc ls [.ref o] h cb nb := by
  intro ad ca H locs cells slots ls' h1 h2 h3 h4 h5 h6 h7 h8 h9 h10
  refine W.widen (k := R.cells) (n := R.slots) (by omega) (by omega) (vx_ret ?_)
  refine W.aret (v := .ref (ad o)) X.1 X.2.1 hr ?_ (Or.inr ⟨_, rfl⟩) (fun t ht hW => a_end (v := some (.ref o)) (fun w e => by cases e; exact h5 _ List.mem_cons_self) h1 h2 h6 h7 h8 ht hW) h8.2.2 hd
  cases ty <;> first | exact Or.inl ⟨_, rfl⟩ | exact Or.inr ⟨_, rfl⟩ | cases hty
theorem a_ret_v (X : a_cx p s s.heap m args meth c cc own nL A xs L ad0 ini) (hr : meth.sig.returnType = none) (hlocks : meth.locks = false) (hd : decode cc pc = .ok (.return_, 1)) : a_G p l e R s s.heap m args below meth c (a_E below D ad0 n0 A (.inl none) h args s R) D A nL ad0 n0 pc ls [] h cb nb := by
  intro ad ca H locs cells slots ls' h1 h2 h3 h4 h5 h6 h7 h8 h9 h10
  refine W.widen (k := R.cells) (n := R.slots) (by omega) (by omega) (vx_ret ?_)
  exact W.vret X.1 X.2.1 hr (fun t ht hW => a_end (fun w e => by cases e) h1 h2 h6 h7 h8 ht hW) h8.2.2 hd
theorem a_Wd.kept {ad : Nat → Nat} {ca : Nat → ClassId} {H H1 : Heap} (w : a_Wd D ad ca h A s H) (hq : ∀ q : Nat, q < H.size → H1[q]? = H[q]?) : a_Wd D ad ca h A s H1 :=
  ⟨w.1.kept (fun k q hk => hq _ (vx_lt w.1 hk)), w.2.1, w.2.2.1, w.2.2.2⟩
theorem a_fitx (k : Nat) : Bundle.fit (a_xn k) = true := by
  unfold a_xn
  split <;> decide +kernel
theorem a_fitn : ∀ n ∈ ["java/lang/RuntimeException", "java/lang/Exception"], Bundle.fit n = true := by decide +kernel
theorem a_isn_tab {w : Cond} (h : a_isn w = true) : w.onTables = true := by
  cases w <;> first | rfl | cases h
/-- a throw of its own -/
theorem a_thw (X : a_cx p s s.heap m args meth c cc (m_y q).cls nL A xs L ad0 ini) (hl : l.stackTraces = false) (htab : c.exceptionTable.toList = []) (hlocks : meth.locks = false) (hRf : m_fr q ≤ R.frames) (hRl : m_lo q ≤ R.locals) (hcc : m_cc q = cc) (hd : decode cc pc = .ok (.new n, 3))
    (hw : (m_y q).cls = RX8 ∧ Cond.classLink RX8 n (a_xn a) ∈ lw_good ∧ Cond.initialized (a_xn a) ∈ lw_good ∧ (∃ is ic tx, (is, tx) ∈ a_thr ∧ decode (m_cc q) (pc + 3) = .ok (.dup, 1) ∧ decode (m_cc q) (pc + 4) = .ok (.ldc_w is, 3) ∧ decode (m_cc q) (pc + 7) = .ok (.invokespecial ic, 3) ∧ decode (m_cc q) (pc + 10) = .ok (.athrow, 1) ∧
        (∀ w ∈ a_thws ic a, w ∈ lw_good ∨ w ∈ a_nest)) ∧ 6 ≤ m_fr q ∧ 90 ≤ m_lo q)
    (hc : 1 ≤ cb) (hn : 6 ≤ nb) (hst : a_sum st ≤ 8) (ha : a < 4) : a_G p l e R s s.heap m args below meth c (a_E below D ad0 n0 A (.inr a) h args s R) D A nL ad0 n0 pc ls st h cb nb := by
  intro ad ca H locs cells slots ls' h1 h2 h3 h4 h5 h6 h7 h8 h9 h10
  obtain ⟨w1, w2, w3, ⟨is, ic, tx, w4, w5, w6, w7, w8, w9⟩, w10, w11⟩ := hw
  rw [hcc] at w5 w6 w7 w8
  obtain ⟨sa, hsa⟩ := X.2.2.2.2.2.2.1.2.2.2.1 _ w4
  have hown : s.vm.findClass RX8 = some m.cls := by rw [← w1]; exact X.2.2.2.1
  have gd : ∀ w9 ∈ lw_good, vx_ot w9 = true := fun w9 h9 => by
    unfold vx_ot
    rw [(List.mem_filter.mp h9).2, Bool.or_true]
  have gw : ∀ w ∈ a_thws ic a, w.before args s = true := fun w hw => by
    rcases w9 w hw with q9 | q9
    · exact X.2.2.2.2.1 _ q9
    · exact va_Nw.use (a_isn_tab (List.mem_filter.mp q9).2) (X.2.2.2.2.2.2.1.2.2.2.2.2.2.2.2 _ q9)
  have gg : ∀ w ∈ Cond.classLink RX8 n (a_xn a) :: Cond.initialized (a_xn a) :: a_thws ic a, vx_ot w = true := fun w hw => by
    rcases List.mem_cons.mp hw with rfl | hw
    · exact gd _ w2
    · rcases List.mem_cons.mp hw with rfl | hw
      · exact gd _ w3
      · rcases w9 w hw with q9 | q9
        · exact gd _ q9
        · unfold vx_ot
          rw [a_isn_tab (List.mem_filter.mp q9).2, Bool.true_or]
  have gx : ∀ t : State, s.vm.Alike t.vm → H.size ≤ t.heap.size → (∀ z : Nat, z < H.size → t.heap[z]? = H[z]?) → a_Xr D ad0 n0 A (.inr a) h (a_xn a) s t := fun t hvm hsz hq => by
    refine ⟨⟨a, rfl, ha, rfl⟩, ⟨ad, ca, h1, h2, h6, a_Wd.moved hvm (h7.kept hq)⟩, ?_, fun z hz hA => ?_⟩
    · exact Nat.le_trans h8.1 hsz
    · rw [hq z (Nat.lt_of_lt_of_le hz h8.1)]
      exact h8.2.1 z hz hA
  unfold a_thws at gw gg
  exact vx_throwSW (own := RX8) (cls := a_xn a) (text := tx) (names := ["java/lang/RuntimeException", "java/lang/Exception"]) (sa := sa) (A := A) X.1 X.2.1 hl hown (a_fitx a) a_fitn (X.2.2.2.2.1 _ w2) (X.2.2.2.2.1 _ w3) hsa gw gg
    X.2.2.2.2.2.2.1.2.2.2.2.1.1 X.2.2.2.2.2.2.1.2.2.2.2.1.2 h8 (h3.1.trans X.2.2.1.symm) hd w5 w6 w7 w8 (fun x hx => by rw [htab] at hx; cases hx) (by show 2 + 3 < R.frames; omega) (by rw [a_sum_map]; show a_sum st + (13 * (2 + 1) + 43) ≤ R.locals; omega) (by omega) (by omega) hlocks gx h8.2.2 (by omega) (by omega)
/-- out of the method -/
theorem a_out {k : Nat} (X : a_cx p s s.heap m args meth c cc own nL A xs L ad0 ini) (htab : c.exceptionTable.toList = []) (hlocks : meth.locks = false) (hk : k < 4) : a_GX p l e R s s.heap m args below meth c (a_E below D ad0 n0 A (.inr k) h args s R) D A nL ad0 n0 pc ls r h cb nb k := by
  intro ad ca H locs cells slots ls' ce q9 h1 h2 h3 h4 h6 h7 h8 h9 h10 hce hcv hcl
  exact vx_out (fun x hx => by rw [htab] at hx; cases hx) hlocks hce hcv hcl (fun t ht hvm => ⟨⟨k, rfl, hk, rfl⟩, ⟨ad, ca, h1, h2, h6, by rw [ht]; exact a_Wd.moved hvm h7⟩, h8.F ht⟩) h8.2.2 (by omega) (by omega)
end A13
