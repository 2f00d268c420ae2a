def a_thws (ic kx : Nat) : List Cond := vx_atS RX8 ic (a_xn kx) ["java/lang/RuntimeException", "java/lang/Exception"]
/-! What a method's table must tell rightly; what a method's contract says. -/
def a_cwd (y : a_Md) : Cond := if m_hh y = [] then .code (m_y y) (m_cc y) (m_nL y) (m_rt y) else .codeWith (m_y y) (m_cc y) (m_nL y) (m_rt y) (m_hh y)
def a_wsm (y : a_Md) : List Cond := a_cwd y :: lw_good
def a_np (y : a_Md) : Option Nat := (parseMethodDescriptor (m_y y).desc).map fun d => d.parameters.length
def a_room (q y : a_Md) : Prop := m_fr y + 1 ≤ m_fr q ∧ 8 + (m_nL y + 11) + m_lo y ≤ m_lo q
/-- the callee is as the words have it -/
def a_okq (q y : a_Md) : Prop := a_room q y ∧ Cond.initialized (m_y y).cls ∈ lw_good ∧ a_cwd y ∈ lw_good ∧ ((m_y y).cls ≠ "java/lang/invoke/MethodHandle" ∧ (m_y y).cls ≠ "java/lang/invoke/VarHandle")
/-- the link to a method of AbstractStringBuilder, called on a StringBuilder: what the link names, what is chosen -/
def a_up (own : String) (n : Nat) (y : MethodName) : Prop := ∃ x b0 m0 r0, x.cls = RJ5 ∧ Cond.methodLink own n x ∈ lw_good ∧ Cond.sameMethod RJ5 RJ5 x.name x.desc ∈ lw_good ∧ Cond.code x b0 m0 r0 ∈ lw_good ∧ Cond.instanceMethod x ∈ lw_good ∧ (Cond.selects RJ4 x y ∈ lw_good ∨ (x = y ∧ y ∈ a_prvs)) ∧ (parseMethodDescriptor x.desc).map (fun d => d.parameters.length) = (parseMethodDescriptor y.desc).map (fun d => d.parameters.length)
/-- a call of the superclass's method -/
def a_sup (own : String) (n : Nat) (y : MethodName) : Prop := Cond.methodLink own n y ∈ lw_good ∧ Cond.sameMethod y.cls y.cls y.name y.desc ∈ lw_good ∧ Cond.superclass own y.cls ∈ lw_good ∧ Cond.instanceMethod y ∈ lw_good
/-- the link, plain or between nest mates -/
def a_lnk (own : String) (n b : Nat) (y : MethodName) : Prop := (b = 0 ∧ Cond.methodLink own n y ∈ lw_good) ∨ (b = 1 ∧ Cond.methodLinkNest own n y RX8 ∈ a_nest)
def a_okw (MT : Nat → Option a_Md) (q : a_Md) (pc : Nat) (i : Instr) (len a b : Nat) : Prop := match i with
  | .getfield n => len = 3 ∧ a < 11 ∧ b < a_nf a ∧ Cond.fieldLink (m_y q).cls n (a_T a b).1 (a_T a b).2.1 (a_T a b).2.2.1 ∈ lw_good
  | .putfield n => len = 3 ∧ (a < 11 ∧ b < a_nf a ∧ Cond.fieldLink (m_y q).cls n (a_T a b).1 (a_T a b).2.1 (a_T a b).2.2.1 ∈ lw_good) ∧ ((a_T a b).2.2.2 = false ∨ ((a_T a b).2.2.2 = true ∧ m_ini q = true ∧ (a_T a b).1 = (m_y q).cls))
  | .new n => len = 3 ∧ ((a < 100 ∧ Cond.classLink (m_y q).cls n (a_cn a) ∈ lw_good ∧ Cond.instantiable (a_cn a) (a_nf a) ∈ lw_good ∧ Cond.initialized (a_cn a) ∈ lw_good) ∨
      (100 ≤ a ∧ (m_y q).cls = RX8 ∧ Cond.classLink RX8 n (a_xn (a - 100)) ∈ lw_good ∧ Cond.initialized (a_xn (a - 100)) ∈ lw_good ∧ (∃ is ic tx, (is, tx) ∈ a_thr ∧ decode (m_cc q) (pc + 3) = .ok (.dup, 1) ∧ decode (m_cc q) (pc + 4) = .ok (.ldc_w is, 3) ∧ decode (m_cc q) (pc + 7) = .ok (.invokespecial ic, 3) ∧ decode (m_cc q) (pc + 10) = .ok (.athrow, 1) ∧
        (∀ w ∈ a_thws ic (a - 100), w ∈ lw_good ∨ w ∈ a_nest)) ∧ 6 ≤ m_fr q ∧ 90 ≤ m_lo q))
  | .newarray t => len = 2 ∧ Cond.arrayClass (newarray.typeOf t) ∈ lw_good
  | .multianewarray n d => len = 4 ∧ d = 2 ∧ Cond.classLink (m_y q).cls n "[[I" ∈ lw_good ∧ Cond.arrayClass .int ∈ lw_good
  | .anewarray n => len = 3 ∧ Cond.classLink (m_y q).cls n RX3 ∈ lw_good ∧ a = 3
  | .ldc n => len = 2 ∧ ((a_big ≤ a ∧ Cond.constant (m_y q).cls n (Int32.ofNat (a - a_big)) ∈ lw_good) ∨ (¬ a_big ≤ a ∧ ∃ tx, ((m_y q).cls, n, tx, a) ∈ a_strs))
  | .getstatic n => len = 3 ∧ a_stw (m_y q).cls n a
  | .ifnonnull _ => len = 3
  | .ldc_w n => len = 3 ∧ ∃ tx, ((m_y q).cls, n, tx, a) ∈ a_strs
  | .ldc2_w n => len = 3 ∧ Cond.constantLong (m_y q).cls n (Int64.ofNat a) ∈ lw_good
  | .invokevirtual n => len = 3 ∧ ((1000 ≤ a ∧ ((a = 1004 ∧ Cond.methodLink (m_y q).cls n yJ0_length_8abf5 ∈ lw_good) ∨ (a = 1005 ∧ Cond.methodLink (m_y q).cls n yJ0_charAt_5068e ∈ lw_good) ∨ (a = 1006 ∧ Cond.methodLink (m_y q).cls n yJ0_coder_7d493 ∈ lw_good)) ∧ 6 ≤ m_fr q ∧ 140 ≤ m_lo q) ∨ (a = 1007 ∧ Cond.methodLink (m_y q).cls n yJ0_getBytes_840e7 ∈ lw_good ∧ 6 ≤ m_fr q ∧ 140 ≤ m_lo q) ∨
      (a < 1000 ∧ ∀ y, MT a = some y → a_okq q y ∧ m_hh y = [] ∧ Cond.methodLink (m_y q).cls n (m_y y) ∈ lw_good ∧ Cond.instanceMethod (m_y y) ∈ lw_good ∧ Cond.selects (m_y y).cls (m_y y) (m_y y) ∈ lw_good ∧ a_np y = some (m_na y - 1) ∧ b < 11 ∧ a_cn b = (m_y y).cls) ∨
      (a < 1000 ∧ ∀ y, MT a = some y → a_okq q y ∧ m_hh y = [] ∧ m_thr y = false ∧ a_up (m_y q).cls n (m_y y) ∧ Cond.instanceMethod (m_y y) ∈ lw_good ∧ a_np y = some (m_na y - 1) ∧ b = 10))
  | .invokestatic n => len = 3 ∧ ((1000 ≤ a ∧ ((a = 1001 ∧ Cond.methodLink (m_y q).cls n Lib.Math.min.name ∈ lw_good) ∨ (a = 1002 ∧ Cond.methodLink (m_y q).cls n Lib.Math.max.name ∈ lw_good) ∨ (a = 1003 ∧ Cond.methodLink (m_y q).cls n arraycopyName ∈ lw_good)) ∧ 1 ≤ m_fr q ∧ 30 ≤ m_lo q) ∨
      (a < 1000 ∧ ∀ y, MT a = some y → a_okq q y ∧ (m_hh y = [] ∨ b = 0 ∧ m_thr y = false) ∧ a_lnk (m_y q).cls n b (m_y y) ∧ (b = 1 → m_thr y = false) ∧ Cond.static (m_y y) ∈ lw_good ∧ a_np y = some (m_na y)))
  | .invokespecial n => len = 3 ∧ ((a = 1000 ∧ Cond.methodLink (m_y q).cls n Lib.objectInit ∈ lw_good ∧ 1 ≤ m_fr q ∧ 30 ≤ m_lo q) ∨
      (a < 1000 ∧ ∀ y, MT a = some y → a_okq q y ∧ m_hh y = [] ∧ m_thr y = false ∧ (m_y y).name = "<init>" ∧ m_rt y = none ∧ a_lnk (m_y q).cls n b (m_y y) ∧ Cond.instanceMethod (m_y y) ∈ lw_good ∧ a_np y = some (m_na y - 1)) ∨
      (a < 1000 ∧ b = 2 ∧ ∀ y, MT a = some y → a_okq q y ∧ m_hh y = [] ∧ m_thr y = false ∧ (m_y y).name ≠ "<init>" ∧ a_sup (m_y q).cls n (m_y y) ∧ a_np y = some (m_na y - 1)))
  | .tableswitch .. => True
  | .sipush _ | .if_icmp .. | .ifCond .. | .goto _ | .iinc .. => len = 3
  | .bipush _ | .iload _ | .lload _ | .dload _ | .aload _ | .istore _ | .astore _ | .dstore _ => len = 2
  | _ => len = 1
/-- a row of a method's table -/
def a_oke (MT : Nat → Option a_Md) (q : a_Md) (z : Nat × Instr × Nat × Nat × Nat) : Prop := decode (m_cc q) z.1 = .ok (z.2.1, z.2.2.1) ∧ a_okw MT q z.1 z.2.1 z.2.2.1 z.2.2.2.1 z.2.2.2.2
/-- a row of a method's exception table -/
def a_okh9 (q : a_Md) : Prop := m_hh q = [] ∨ (m_thr q = false ∧ (m_rt q = some .int ∨ m_rt q = some .boolean) ∧ (m_hh q).length = (m_xk q).length ∧ (m_hh q).length ≤ 1 ∧
  ∀ z ∈ (m_hh q).zip (m_xk q), z.1.2.2.2 ≠ 0 ∧ z.2 < 4 ∧ Cond.classLink (m_y q).cls z.1.2.2.2 (a_xn z.2) ∈ lw_good ∧ Cond.castable (a_xn z.2) (a_xn z.2) ∈ a_nest ∧ (∀ e ∈ m_is q, (∃ n, e.2.1 = .invokevirtual n) → z.1.1 ≤ e.1 ∧ e.1 < z.1.2.1))
def a_okm (MT : Nat → Option a_Md) (q : a_Md) : Prop := plainName (m_y q).cls = true ∧ (∀ z ∈ m_is q, a_oke MT q z) ∧ a_okh9 q ∧ (m_ini q = true → (m_y q).name = "<init>") ∧ (m_hh q ≠ [] → ∀ e ∈ m_is q, (∃ n, e.2.1 = .invokestatic n ∨ e.2.1 = .invokespecial n) → False)
theorem a_at_mem {is : List (Nat × Instr × Nat × Nat × Nat)} {pc : Nat} {r : Instr × Nat × Nat × Nat} (h : a_at is pc = some r) : (pc, r) ∈ is := by
  unfold a_at at h
  rw [Option.map_eq_some_iff] at h
  obtain ⟨z, h1, h2⟩ := h
  have h3 := List.find?_some h1
  have h4 := List.mem_of_find?_eq_some h1
  obtain ⟨a, b⟩ := z
  have : a = pc := by simpa using h3
  subst this
  dsimp only at h2
  subst h2
  exact h4
/-- the world behind a method -/
def a_Bt (D : va_G) (ad : Nat → Nat) (n0 : Nat) (A : Nat → Prop) (h0 : a_H) (t : State) : Prop := ∃ (ad' : Nat → Nat) (ca' : Nat → ClassId), a_agr n0 ad ad' ∧ n0 ≤ h0.length ∧ a_okh h0 ∧ a_Wd D ad' ca' h0 A t t.heap
def a_Qr (D : va_G) (ad : Nat → Nat) (n0 : Nat) (A : Nat → Prop) (res : a_R) (h0 : a_H) : Array Value → State → Outcome → State → Prop := fun _ st oc t => (∃ (v : Option Value) (ad' : Nat → Nat) (ca' : Nat → ClassId), res = .inl v ∧ oc = .returned (v.map (a_v ad')) ∧ (∀ w, v = some w → a_okv h0.length w) ∧ a_agr n0 ad ad' ∧ n0 ≤ h0.length ∧ a_okh h0 ∧ a_Wd D ad' ca' h0 A t t.heap) ∧ va_F A st t
def a_Xr (D : va_G) (ad : Nat → Nat) (n0 : Nat) (A : Nat → Prop) (res : a_R) (h0 : a_H) : String → State → State → Prop := fun E st t => (∃ k, res = .inr k ∧ k < 4 ∧ E = a_xn k) ∧ a_Bt D ad n0 A h0 t ∧ va_F A st t
def a_Pc (D : va_G) (ad : Nat → Nat) (ca : Nat → ClassId) (h : a_H) (sz : Nat) (xs : Nat → Int32) (L : Nat) (vs : List Value) : Array Value → State → Prop :=
  va_Pc (vs.map (a_v ad)) (fun U => U.heap.size = sz ∧ a_Wd D ad ca h (fun _ => True) U U.heap ∧ a_Amb xs L ad (va_A (a_ws ad ca h) sz) U U.heap)
def a_Con (l : Launch) (y : a_Md) (xs : Nat → Int32) (L : Nat) (vs : List Value) (h : a_H) (res : a_R) (h0 : a_H) : Prop :=
  ∀ (D : va_G) (ad : Nat → Nat) (ca : Nat → ClassId) (sz : Nat), a_oks h.length vs → a_okh h → vx_Met l (m_y y) (a_wsm y) { frames := m_fr y, cells := m_kc y, slots := m_kn y, locals := m_lo y } (a_Pc D ad ca h sz xs L vs)
    (a_Qr D ad h.length (va_A (a_ws ad ca h) sz) res h0) (a_Xr D ad h.length (va_A (a_ws ad ca h) sz) res h0) (m_kc y) (m_kn y) (va_A (a_ws ad ca h) sz)
theorem a_Pc_blind {D : va_G} {ad : Nat → Nat} {ca : Nat → ClassId} {h : a_H} {sz : Nat} {xs : Nat → Int32} {L : Nat} {vs : List Value} : FrameBlind (a_Pc D ad ca h sz xs L vs) := by
  intro a U g mk q
  obtain ⟨q0, q1, q2, q3⟩ := q
  refine ⟨q0, q1, a_Wd.moved (u := U) (U := U.calling g mk a) (Vm.Alike.refl U.vm) q2, ?_⟩
  exact a_Amb.to (s := U) (U := U.calling g mk a) (H := U.heap) (locs := []) q3 va_S.rf (State.WarmedH.refl U) (fun _ h => h) (fun _ _ => rfl)
/-- a method that doesn't throw -/
theorem a_noX {l : Launch} {y : MethodName} {ws : List Cond} {rm : Room} {Pc : Array Value → State → Prop} {D : va_G} {ad : Nat → Nat} {n0 : Nat} {A : Nat → Prop} {v : Option Value} {h0 : a_H} {mc ms : Nat} {free : Addr → Prop} (h : vx_Met l y ws rm Pc (a_Qr D ad n0 A (.inl v) h0) (a_Xr D ad n0 A (.inl v) h0) mc ms free) : Met l y ws rm Pc (a_Qr D ad n0 A (.inl v) h0) mc ms free := by
  intro p e ha hc hk s m args below hf hap hP hK
  obtain ⟨n, o, h1, h2, h3, h4⟩ := h p e ha hc hk s m args below hf hap hP hK
  refine ⟨n, o, h1, h2, h3, ?_⟩
  rcases h4 with h4 | ⟨q, -, E, ce, L9, hx, -⟩
  · exact h4
  · obtain ⟨⟨k, hk9, -⟩, -⟩ := hx
    cases hk9
theorem a_toX {p : Program} {l : Launch} {e : Env} {R : Room} {s : State} {m : MethodId} {args : Array Value} {below : List Frame} {meth : Method} {c : Code} {H : Heap} {locs : List Loc} {cells slots mc ms : Nat} {g : JFrame} {rest : List Value} {Qa : State → Outcome → State → Prop} {XC : String → State → State → Prop} {free : Addr → Prop}
    (h : va_Run p l e R s m args below meth c H locs cells slots mc ms g rest Qa free) : vx_Run p l e R s m args below meth c H locs cells slots mc ms g rest Qa XC free := by
  intro T hT X
  obtain ⟨v, st0, t, T', L9, h1, h2, h3, h4, h5, h6, h7⟩ := h T hT X
  exact Or.inl ⟨v, st0, t, T', L9, h1, h2, h3, h4, h5, h6, h7⟩
/-- a call, whatever comes back -/
theorem a_call {p : Program} {l : Launch} {e : Env} {R : Room} {s : State} {m : MethodId} {args : Array Value} {below : List Frame} {meth : Method} {c : Code} {H H0 : Heap} {locs : List Loc} {cells slots mc ms : Nat} {Q : State → Prop} {pc : Nat} {ls' : Array Slot} {st0 rest : List Value} {D : va_G} {ad : Nat → Nat} {n0 : Nat} {A0 A1 : Nat → Prop} {res : a_R} {h0 : a_H} {a : Array Value}
    (hr : vx_Run p l e R s m args below meth c H locs cells slots mc ms (F0 m pc ls' st0) rest (a_Qr D ad n0 A1 res h0 a) (a_Xr D ad n0 A1 res h0) A1) (hS : va_S A0 H0 H locs) (hA : ∀ q, A1 q → A0 q)
    (kx : ∀ (k : Nat) (ce : Cell) (q9 : Addr) (t : State) (H1 : Heap) (locs1 : List Loc), res = .inr k → k < 4 → t.heap = H1 → s.vm.Alike t.vm → a_Bt D ad n0 A1 h0 t → va_S A0 H0 H1 locs1 → H1[q9]? = some ce → ce.vm = .none → s.vm.findClass (a_xn k) = some ce.cls → vx_W p l e R s m args below meth c H1 locs1 (cells + mc) (slots + ms) Q (F0 m pc ls' rest) q9)
    (kk : ∀ (v : Option Value) (ad' : Nat → Nat) (ca' : Nat → ClassId) (t : State) (H1 : Heap) (locs1 : List Loc), res = .inl v → (∀ w, v = some w → a_okv h0.length w) → t.heap = H1 → s.vm.Alike t.vm → (a_agr n0 ad ad' ∧ n0 ≤ h0.length ∧ a_okh h0 ∧ a_Wd D ad' ca' h0 A1 t t.heap) → va_S A0 H0 H1 locs1 → W p l e R s m args below meth c H1 locs1 (cells + mc) (slots + ms) Q (F0 m (pc + 3) ls' ((v.map (a_v ad')).toList ++ rest))) : W p l e R s m args below meth c H locs cells slots Q (F0 m pc ls' st0) := by
  intro T hT X
  rcases hr T hT X with ⟨v, st₀, t, T', L9, g0, X', hL, e1, e2, ⟨⟨v9, ad9, ca9, hv1, hv2, hv3, hb⟩, hF⟩, st⟩ | ⟨q, st₀, t, T', L9, E, ce, g0, X', hL, e1, e2, ⟨⟨k, hk1, hk2, rfl⟩, hb, hF⟩, hce, hcv, hcl, st⟩
  · cases hv2
    obtain ⟨k1, k2, k3⟩ := vx_keep g0 e1 hS (fun q _ h => hA q h) hA hL hF
    obtain ⟨t2, a1, b1⟩ := kk v9 ad9 ca9 t T'.heap (locs ++ L9) hv1 hv3 e1.symm (by rw [← e2]; exact X'.warmed.alike) hb k3 T' rfl X'
    exact ⟨t2, st t2 a1, b1⟩
  · obtain ⟨k1, k2, k3⟩ := vx_keep g0 e1 hS (fun q _ h => hA q h) hA hL hF
    obtain ⟨t2, a1, b1⟩ := kx k ce q t T'.heap (locs ++ L9) hk1 hk2 e1.symm (by rw [← e2]; exact X'.warmed.alike) hb k3 (by rw [e1]; exact hce) hcv hcl T' rfl X'
    exact ⟨t2, st.trans a1, b1⟩
