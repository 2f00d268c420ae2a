/-! Calls, returns, throws; a run of the abstract machine is a run of the machine. -/
theorem a_pay {args : Array Value} {s : State} (hts : ∀ w ∈ lw_good, w.before args s = true) {y : a_Md} (hy : a_cwd y ∈ lw_good) : ∀ w ∈ a_wsm y, ∀ (a' : Array Value) (U : State), s.WarmedH U.vm → w.before a' U = true := by
  intro w hw a' U hW
  have : w ∈ lw_good := by
    rcases List.mem_cons.mp hw with rfl | hw
    · exact hy
    · exact hw
  exact word_at hW (a_lg this) (hts w this)
theorem a_take {st : List Value} {k : Nat} {v : Value} (h : st[k]? = some v) : st.take (k + 1) = st.take k ++ [v] := by
  rw [List.take_succ, h]; rfl
section A12
variable {p : Program} {l : Launch} {e : Env} {R : Room} {s : State} {H0 : Heap} {m : MethodId} {args : Array Value} {below : List Frame} {meth : Method} {c : Code} {Q : State → Prop}
variable {D : va_G} {A : Nat → Prop} {nL : Nat} {ad0 : Nat → Nat} {n0 : Nat} {cc : ByteArray} {xs : Nat → Int32} {L : Nat} {pc : Nat} {ls st r : List Value} {h h0 : a_H} {cb nb : Nat} {MT : Nat → Option a_Md} {q y : a_Md} {i : Instr} {len a b n : Nat} {res : a_R} {vs : List Value}
/-- an exception of class k is thrown over the frame at pc -/
def a_GX (p : Program) (l : Launch) (e : Env) (R : Room) (s : State) (H0 : Heap) (m : MethodId) (args : Array Value) (below : List Frame) (meth : Method) (c : Code) (Q : State → Prop) (D : va_G) (A : Nat → Prop) (nL : Nat) (ad0 : Nat → Nat) (n0 : Nat) (pc : Nat) (ls r : List Value) (h : a_H) (cb nb : Nat) (k : Nat) : Prop :=
  ∀ (ad : Nat → Nat) (ca : Nat → ClassId) (H : Heap) (locs : List Loc) (cells slots : Nat) (ls' : Array Slot) (ce : Cell) (q9 : Nat), a_agr n0 ad0 ad → n0 ≤ h.length → a_L ad nL ls ls' → a_oks h.length ls → a_okh h → a_Wd D ad ca h A s H → va_S A H0 H locs → cells + cb ≤ R.cells → slots + nb ≤ R.slots → H[q9]? = some ce → ce.vm = .none → s.vm.findClass (a_xn k) = some ce.cls → vx_W p l e R s m args below meth c H locs cells slots Q (F0 m pc ls' (r.map (a_v ad))) q9
/-- behind a call -/
theorem a_aft {st9 : List Value} {av : Array Value} {ad : Nat → Nat} {ca : Nat → ClassId} {H : Heap} {locs : List Loc} {cells slots : Nat} {ls' : Array Slot} (X : a_cx p s H0 m args meth c cc (m_y q).cls nL A xs L ad0 (m_ini q))
    (hr : vx_Run p l e R s m args below meth c H locs cells slots (m_kc y) (m_kn y) (F0 m pc ls' st9) (r.map (a_v ad)) (a_Qr D ad h.length (va_A (a_ws ad ca h) H.size) res h0 av) (a_Xr D ad h.length (va_A (a_ws ad ca h) H.size) res h0) (va_A (a_ws ad ca h) H.size))
    (h1 : a_agr n0 ad0 ad) (h2 : n0 ≤ h.length) (h3 : a_L ad nL ls ls') (h4 : a_oks h.length ls) (h5 : a_oks h.length r) (h7 : a_Wd D ad ca h A s H) (h8 : va_S A H0 H locs) (h9 : cells + cb ≤ R.cells) (h10 : slots + nb ≤ R.slots) (hk1 : m_kc y ≤ cb) (hk2 : m_kn y ≤ nb)
    (kk : ∀ v, res = .inl v → a_G p l e R s H0 m args below meth c Q D A nL ad0 n0 (pc + 3) ls (v.toList ++ r) h0 (cb - m_kc y) (nb - m_kn y))
    (kx : ∀ k, res = .inr k → a_GX p l e R s H0 m args below meth c Q D A nL ad0 n0 pc ls r h0 (cb - m_kc y) (nb - m_kn y) k) :
    W p l e R s m args below meth c H locs cells slots Q (F0 m pc ls' st9) := by
  have hA : ∀ x, va_A (a_ws ad ca h) H.size x → A x := fun x hx => by
    rcases hx with ⟨k, e9, hk⟩ | hx
    · exact h7.2.1.2 k (x, e9) hk
    · exact X.2.2.2.2.2.1 x (Nat.le_trans h8.1 hx)
  refine a_call hr h8 hA (fun k ce q9 t H1 locs1 e1 e2 ht hvm hB hS1 hce hcv hcl => ?_) (fun v ad9 ca9 t H1 locs1 e1 e2 ht hvm hB hS1 => ?_)
  · obtain ⟨ad', ca', g1, g2, g3, g4⟩ := hB
    have hw : a_Wd D ad' ca' h0 A s H1 := by
      rw [ht] at g4
      exact ⟨g4.1, g4.2.1.weaken (fun _ q _ z => hA _ z), g4.2.2.1.moved hvm.symm, fun i x hi => ⟨arrOfT_moved hvm.symm (g4.2.2.2 i x hi).1, (g4.2.2.2 i x hi).2.moved hvm.symm⟩⟩
    have := kx k e1 ad' ca' H1 locs1 (cells + m_kc y) (slots + m_kn y) ls' ce q9 (a_agr_trans h2 h1 g1) (Nat.le_trans h2 g2) (h3.agr g1 h4) (a_oks_mono g2 h4) g3 hw hS1 (by omega) (by omega) hce hcv hcl
    rw [a_vs_agr g1 h5] at this
    exact this
  · obtain ⟨g1, g2, g3, g4⟩ := hB
    have hw : a_Wd D ad9 ca9 h0 A s H1 := by
      rw [ht] at g4
      exact ⟨g4.1, g4.2.1.weaken (fun _ q _ z => hA _ z), g4.2.2.1.moved hvm.symm, fun i x hi => ⟨arrOfT_moved hvm.symm (g4.2.2.2 i x hi).1, (g4.2.2.2 i x hi).2.moved hvm.symm⟩⟩
    have hok : a_oks h0.length (v.toList ++ r) := fun w hw9 => by
      rcases List.mem_append.mp hw9 with hw9 | hw9
      · cases v with
        | none => cases hw9
        | some u =>
          rcases List.mem_singleton.mp hw9 with rfl
          exact e2 w rfl
      · exact a_okv_mono g2 (h5 w hw9)
    have := kk v e1 ad9 ca9 H1 locs1 (cells + m_kc y) (slots + m_kn y) ls' (a_agr_trans h2 h1 g1) (Nat.le_trans h2 g2) (h3.agr g1 h4) (a_oks_mono g2 h4) hok g3 hw hS1 (by omega) (by omega)
    have ev : (v.toList ++ r).map (a_v ad9) = (v.map (a_v ad9)).toList ++ r.map (a_v ad) := by
      rw [List.map_append, a_vs_agr g1 h5]
      cases v <;> rfl
    rw [ev] at this
    exact this
/-- what a call is given -/
theorem a_pre {ad : Nat → Nat} {ca : Nat → ClassId} {H : Heap} {locs : List Loc} (X : a_cx p s H0 m args meth c cc (m_y q).cls nL A xs L ad0 (m_ini q)) (h1 : a_agr n0 ad0 ad) (h7 : a_Wd D ad ca h A s H) (h8 : va_S A H0 H locs) :
    ∀ U : State, U.heap = H → s.WarmedH U.vm → a_Pc D ad ca h H.size xs L vs (vs.map (a_v ad)).toArray U := by
  intro U hU hW
  refine ⟨rfl, by rw [hU], ?_, ?_⟩
  · rw [hU]
    exact ⟨h7.1, h7.2.1.weaken (fun _ _ _ _ => trivial), h7.2.2.1.moved hW.alike, fun i x hi => ⟨arrOfT_moved hW.alike (h7.2.2.2 i x hi).1, (h7.2.2.2 i x hi).2.moved hW.alike⟩⟩
  · rw [hU]
    refine a_Amb.to X.2.2.2.2.2.2.1 h8 hW (fun x hx => ?_) (fun i hi => h1 i (Or.inr hi))
    rcases hx with ⟨k, e9, hk⟩ | hx
    · exact h7.2.1.2 k (x, e9) hk
    · exact X.2.2.2.2.2.1 x (Nat.le_trans h8.1 hx)
theorem a_cb (X : a_cx p s H0 m args meth c cc (m_y q).cls nL A xs L ad0 (m_ini q)) (hRf : m_fr q ≤ R.frames) (hRl : m_lo q ≤ R.locals) (hc : a_okq q y) (hh : m_hh y = []) {np : Nat} (hnp : a_np y = some np) (hlk : Cond.methodLink (m_y q).cls n (m_y y) ∈ lw_good) :
    CallB R s args (m_y q).cls n (m_y y) (m_cc y) (m_nL y) (m_rt y) (a_wsm y) { frames := m_fr y, cells := m_kc y, slots := m_kn y, locals := m_lo y } (m_kc y) (m_kn y) np := by
  obtain ⟨⟨hr1, hr2⟩, hini, hcw, hmh⟩ := hc
  have ecw : a_cwd y = .code (m_y y) (m_cc y) (m_nL y) (m_rt y) := if_pos hh
  refine ⟨rfl, rfl, by show m_fr y + 1 ≤ R.frames; omega, by show 8 + (m_nL y + 11) + m_lo y ≤ R.locals; omega, a_pay X.2.2.2.2.1 hcw, by rw [← ecw]; exact List.mem_cons_self, ?_, X.2.2.2.2.1 _ hini, hmh, fun sig hsig => ?_, X.2.2.2.2.1 _ hlk⟩
  · have := X.2.2.2.2.1 _ hcw
    rw [ecw] at this
    exact this
  · unfold a_np at hnp
    rw [hsig] at hnp
    exact (Option.some.inj hnp).symm
theorem a_cn9 (X : a_cx p s H0 m args meth c cc (m_y q).cls nL A xs L ad0 (m_ini q)) (hRf : m_fr q ≤ R.frames) (hRl : m_lo q ≤ R.locals) (hc : a_okq q y) (hh : m_hh y = []) {np : Nat} (hnp : a_np y = some np) (hlk : Cond.methodLinkNest (m_y q).cls n (m_y y) RX8 ∈ a_nest) :
    va_CN R s args (m_y q).cls n (m_y y) RX8 (m_cc y) (m_nL y) (m_rt y) (a_wsm y) { frames := m_fr y, cells := m_kc y, slots := m_kn y, locals := m_lo y } (m_kc y) (m_kn y) np := by
  obtain ⟨⟨hr1, hr2⟩, hini, hcw, hmh⟩ := hc
  have ecw : a_cwd y = .code (m_y y) (m_cc y) (m_nL y) (m_rt y) := if_pos hh
  refine ⟨⟨rfl, rfl, by show m_fr y + 1 ≤ R.frames; omega, by show 8 + (m_nL y + 11) + m_lo y ≤ R.locals; omega, a_pay X.2.2.2.2.1 hcw, by rw [← ecw]; exact List.mem_cons_self⟩, ?_, X.2.2.2.2.1 _ hini, hmh, fun sig hsig => ?_, va_Nw.use rfl (X.2.2.2.2.2.2.1.2.2.2.2.2.2.2.2 _ hlk)⟩
  · have := X.2.2.2.2.1 _ hcw
    rw [ecw] at this
    exact this
  · unfold a_np at hnp
    rw [hsig] at hnp
    exact (Option.some.inj hnp).symm
/-- a virtual call -/
theorem a_cv (X : a_cx p s H0 m args meth c cc (m_y q).cls nL A xs L ad0 (m_ini q)) (hRf : m_fr q ≤ R.frames) (hRl : m_lo q ≤ R.locals) (hd : decode cc pc = .ok (.invokevirtual n, 3))
    (hw : a_okq q y ∧ m_hh y = [] ∧ Cond.methodLink (m_y q).cls n (m_y y) ∈ lw_good ∧ Cond.instanceMethod (m_y y) ∈ lw_good ∧ Cond.selects (m_y y).cls (m_y y) (m_y y) ∈ lw_good ∧ a_np y = some (m_na y - 1) ∧ b < 11 ∧ a_cn b = (m_y y).cls)
    (hz : m_na y ≤ st.length ∧ m_kc y ≤ cb ∧ m_kn y ≤ nb ∧ a_sum (st.drop (m_na y)) ≤ 8 ∧ 1 ≤ m_na y ∧ a_isc h (st[m_na y - 1]?) b = true)
    (hC : a_Con l y xs L (st.take (m_na y)).reverse h res h0)
    (kk : ∀ v, res = .inl v → a_G p l e R s H0 m args below meth c Q D A nL ad0 n0 (pc + 3) ls (v.toList ++ st.drop (m_na y)) h0 (cb - m_kc y) (nb - m_kn y))
    (kx : ∀ k, res = .inr k → a_GX p l e R s H0 m args below meth c Q D A nL ad0 n0 pc ls (st.drop (m_na y)) h0 (cb - m_kc y) (nb - m_kn y) k) : a_G p l e R s H0 m args below meth c Q D A nL ad0 n0 pc ls st h cb nb := by
  intro ad ca H locs cells slots ls' h1 h2 h3 h4 h5 h6 h7 h8 h9 h10
  obtain ⟨hz1, hz2, hz3, hz4, hz5, hz6⟩ := hz
  obtain ⟨hw1, hw2, hw3, hw4, hw5, hw6, hw7, hw8⟩ := hw
  obtain ⟨k9, hk9⟩ : ∃ k9, m_na y = k9 + 1 := ⟨m_na y - 1, by omega⟩
  rw [hk9, Nat.add_sub_cancel] at hz6
  obtain ⟨o, fs, ho, he⟩ : ∃ o fs, st[k9]? = some (.ref o) ∧ h[o]? = some (.inr (b, fs)) := by
    unfold a_isc at hz6
    split at hz6
    · rename_i o ho
      split at hz6
      · rename_i cj fs he
        have : cj = b := by simpa using hz6
        subst this
        exact ⟨o, fs, ho, he⟩
      · cases hz6
    · cases hz6
  have h5t : a_oks h.length (st.take (m_na y)).reverse := fun w hw9 => h5 w (List.mem_of_mem_take (List.mem_reverse.mp hw9))
  have h5d : a_oks h.length (st.drop (m_na y)) := fun w hw9 => h5 w (List.mem_of_mem_drop hw9)
  have evs : (st.take (m_na y)).reverse.map (a_v ad) = .ref (ad o) :: ((st.take k9).map (a_v ad)).reverse := by
    rw [hk9, a_take ho, List.reverse_append, List.map_append]
    show [Value.ref (ad o)] ++ _ = _
    rw [List.map_reverse]
    rfl
  have est : st.map (a_v ad) = ((st.take k9).map (a_v ad)).reverse.reverse ++ .ref (ad o) :: (st.drop (m_na y)).map (a_v ad) := by
    rw [List.reverse_reverse]
    conv => lhs; rw [← List.take_append_drop (m_na y) st]
    rw [hk9, a_take ho, List.map_append, List.map_append, List.append_assoc]
    rfl
  have hrec : ∃ cell : Cell, H[ad o]? = some cell ∧ cell.vm.isStatics = false ∧ s.vm.findClass (m_y y).cls = some cell.cls := by
    rw [← hw8]
    exact va_recv h7.2.2.1 h7.1 (q := (a_cn b, a_T b, a_nf b)) (a_cl hw7) (a_ws_get he)
  have hpre := a_pre (vs := (st.take (m_na y)).reverse) X h1 h7 h8
  rw [evs] at hpre
  have hlen : ((st.take k9).map (a_v ad)).reverse.length = m_na y - 1 := by
    rw [List.length_reverse, List.length_map, List.length_take]
    omega
  have hr := vx_runV (As := ((st.take k9).map (a_v ad)).reverse) (rest := (st.drop (m_na y)).map (a_v ad)) (C := (m_y y).cls) ⟨X.1, X.2.1, X.2.2.1, X.2.2.2.1, X.2.2.2.2.1⟩ (hC D ad ca H.size h5t h6) ⟨a_cb X hRf hRl hw1 hw2 hw6 hw3, X.2.2.2.2.1 _ hw4, X.2.2.2.2.1 _ hw5⟩ ⟨a_Pc_blind, hrec, hpre⟩ (g := F0 m pc ls' (st.map (a_v ad))) rfl hlen h3.1 est (lv_room (by rw [a_sum_map]; exact hz4)) hd ⟨by omega, by omega⟩
    (p := p) (e := e) (below := below) (meth := meth) (locs := locs) (cells := cells) (slots := slots)
  exact a_aft X hr h1 h2 h3 h4 h5d h7 h8 h9 h10 hz2 hz3 kk kx
theorem a_iSB : Cond.instantiable RJ4 4 ∈ lw_good := a_good (ws := [Cond.instantiable RJ4 4]) [1211] (by decide +kernel) (by decide +kernel) _ List.mem_cons_self
/-- a virtual call of what AbstractStringBuilder names -/
theorem a_cu (X : a_cx p s H0 m args meth c cc (m_y q).cls nL A xs L ad0 (m_ini q)) (hRf : m_fr q ≤ R.frames) (hRl : m_lo q ≤ R.locals) (hd : decode cc pc = .ok (.invokevirtual n, 3))
    (hw : a_okq q y ∧ m_hh y = [] ∧ m_thr y = false ∧ a_up (m_y q).cls n (m_y y) ∧ Cond.instanceMethod (m_y y) ∈ lw_good ∧ a_np y = some (m_na y - 1) ∧ b = 10) (hnx : m_thr y = false → ∃ v, res = .inl v)
    (hz : m_na y ≤ st.length ∧ m_kc y ≤ cb ∧ m_kn y ≤ nb ∧ a_sum (st.drop (m_na y)) ≤ 8 ∧ 1 ≤ m_na y ∧ a_isc h (st[m_na y - 1]?) b = true)
    (hC : a_Con l y xs L (st.take (m_na y)).reverse h res h0)
    (kk : ∀ v, res = .inl v → a_G p l e R s H0 m args below meth c Q D A nL ad0 n0 (pc + 3) ls (v.toList ++ st.drop (m_na y)) h0 (cb - m_kc y) (nb - m_kn y))
    (kx : ∀ k, res = .inr k → a_GX p l e R s H0 m args below meth c Q D A nL ad0 n0 pc ls (st.drop (m_na y)) h0 (cb - m_kc y) (nb - m_kn y) k) : a_G p l e R s H0 m args below meth c Q D A nL ad0 n0 pc ls st h cb nb := by
  intro ad ca H locs cells slots ls' h1 h2 h3 h4 h5 h6 h7 h8 h9 h10
  obtain ⟨hz1, hz2, hz3, hz4, hz5, hz6⟩ := hz
  obtain ⟨hw1, hw2, hnt, ⟨x, b0, m0, r0, hu1, hu2, hu3, hu4, hu4i, hu5, hu6⟩, hw4, hw6, hw7⟩ := hw
  subst hw7
  obtain ⟨v9, rfl⟩ := hnx hnt
  obtain ⟨k9, hk9⟩ : ∃ k9, m_na y = k9 + 1 := ⟨m_na y - 1, by omega⟩
  rw [hk9, Nat.add_sub_cancel] at hz6
  obtain ⟨o, fs, ho, he⟩ : ∃ o fs, st[k9]? = some (.ref o) ∧ h[o]? = some (.inr (10, fs)) := by
    unfold a_isc at hz6
    split at hz6
    · rename_i o ho
      split at hz6
      · rename_i cj fs he
        have : cj = 10 := by simpa using hz6
        subst this
        exact ⟨o, fs, ho, he⟩
      · cases hz6
    · cases hz6
  have h5t : a_oks h.length (st.take (m_na y)).reverse := fun w hw9 => h5 w (List.mem_of_mem_take (List.mem_reverse.mp hw9))
  have h5d : a_oks h.length (st.drop (m_na y)) := fun w hw9 => h5 w (List.mem_of_mem_drop hw9)
  have evs : (st.take (m_na y)).reverse.map (a_v ad) = .ref (ad o) :: ((st.take k9).map (a_v ad)).reverse := by
    rw [hk9, a_take ho, List.reverse_append, List.map_append]
    show [Value.ref (ad o)] ++ _ = _
    rw [List.map_reverse]
    rfl
  have est : st.map (a_v ad) = ((st.take k9).map (a_v ad)).reverse.reverse ++ .ref (ad o) :: (st.drop (m_na y)).map (a_v ad) := by
    rw [List.reverse_reverse]
    conv => lhs; rw [← List.take_append_drop (m_na y) st]
    rw [hk9, a_take ho, List.map_append, List.map_append, List.append_assoc]
    rfl
  have hrec : ∃ cell : Cell, H[ad o]? = some cell ∧ cell.vm.isStatics = false ∧ s.vm.findClass RJ4 = some cell.cls := by
    exact va_recv h7.2.2.1 h7.1 (q := (a_cn 10, a_T 10, a_nf 10)) (a_cl (by decide)) (a_ws_get he)
  have hpre := a_pre (vs := (st.take (m_na y)).reverse) X h1 h7 h8
  rw [evs] at hpre
  have hlen : ((st.take k9).map (a_v ad)).reverse.length = m_na y - 1 := by
    rw [List.length_reverse, List.length_map, List.length_take]
    omega
  have hx : (⟨RJ5, x.name, x.desc⟩ : MethodName) = x := by rw [← hu1]
  have ecw : a_cwd y = .code (m_y y) (m_cc y) (m_nL y) (m_rt y) := if_pos hw2
  obtain ⟨⟨hr1, hr2⟩, hini, hcw, hmh⟩ := hw1
  have hsel : (Cond.selects RJ4 x (m_y y)).before args s = true := by
    rcases hu5 with hu5 | ⟨rfl, hp⟩
    · exact X.2.2.2.2.1 _ hu5
    · exact va_Nw.use rfl (X.2.2.2.2.2.2.1.1.2.2.2.1 _ hp)
  have hts : ∀ w ∈ Cond.selects RJ4 x (m_y y) :: lw_good, w.before args s = true := fun w hw => by
    rcases List.mem_cons.mp hw with rfl | hw
    · exact hsel
    · exact X.2.2.2.2.1 _ hw
  have hg : ∀ w ∈ lw_good, w ∈ Cond.selects RJ4 x (m_y y) :: lw_good ∧ ((w.onTables && w.keeps) = true ∨ ∃ ty, w = Cond.arrayClass ty) := fun w hw => ⟨List.mem_cons_of_mem _ hw, a_lg hw⟩
  have hG : GoodIn (Cond.selects RJ4 x (m_y y) :: lw_good) (va_wsO (m_y q).cls n RJ4 RJ5 x (m_y y) (a_wsm y)) := fun w hw => by
    unfold va_wsO at hw
    rcases List.mem_append.mp hw with hw | hw
    · simp only [List.mem_cons, List.not_mem_nil, or_false] at hw
      rcases hw with rfl | rfl | rfl | rfl | rfl | rfl
      · exact hg _ hu2
      · rw [hu1]; exact hg _ hu3
      · rw [hx]; exact hg _ hu4i
      · exact ⟨List.mem_cons_self, Or.inl rfl⟩
      · exact hg _ hw4
      · exact hg _ hini
    · rcases List.mem_cons.mp hw with rfl | hw
      · exact hg _ hcw
      · exact hg _ hw
  have hnp : (parseMethodDescriptor x.desc).map (fun d => d.parameters.length) = some (m_na y - 1) := by rw [hu6]; exact hw6
  have hCU := va_cwO (R := R) (bytes := m_cc y) (maxL := m_nL y) (ret := m_rt y) (mc := m_kc y) (ms := m_kn y) (rm := { frames := m_fr y, cells := m_kc y, slots := m_kn y, locals := m_lo y }) (b0 := b0) (m0 := m0) (r0 := r0) (m_na y - 1) hts hG (by unfold a_wsm; rw [ecw]) rfl rfl (by rw [hx]; exact List.mem_cons_of_mem _ hu4) ⟨by decide, by decide, hnp⟩ ⟨by show m_fr y + 1 ≤ R.frames; omega, by show 8 + (m_nL y + 11) + m_lo y ≤ R.locals; omega⟩
  have hr := a_toX (XC := a_Xr D ad h.length (va_A (a_ws ad ca h) H.size) (.inl v9) h0) (va_runU (As := ((st.take k9).map (a_v ad)).reverse) (rest := (st.drop (m_na y)).map (a_v ad)) (p := p) (e := e) (below := below) (meth := meth) (locs := locs) (cells := cells) (slots := slots) ⟨X.1, X.2.1, X.2.2.1, X.2.2.2.1, hts⟩ (a_noX (hC D ad ca H.size h5t h6)) hCU ⟨a_Pc_blind, hrec, hpre⟩ (g := F0 m pc ls' (st.map (a_v ad))) rfl hlen h3.1 est (lv_room (by rw [a_sum_map]; exact hz4)) hd ⟨by omega, by omega⟩)
  exact a_aft X hr h1 h2 h3 h4 h5d h7 h8 h9 h10 hz2 hz3 kk kx
/-- a call of the superclass's method -/
theorem a_csu (X : a_cx p s H0 m args meth c cc (m_y q).cls nL A xs L ad0 (m_ini q)) (hRf : m_fr q ≤ R.frames) (hRl : m_lo q ≤ R.locals) (hd : decode cc pc = .ok (.invokespecial n, 3))
    (hw : a_okq q y ∧ m_hh y = [] ∧ m_thr y = false ∧ (m_y y).name ≠ "<init>" ∧ a_sup (m_y q).cls n (m_y y) ∧ a_np y = some (m_na y - 1)) (hnx : m_thr y = false → ∃ v, res = .inl v)
    (hz : m_na y ≤ st.length ∧ m_kc y ≤ cb ∧ m_kn y ≤ nb ∧ a_sum (st.drop (m_na y)) ≤ 8 ∧ 1 ≤ m_na y ∧ a_isc h (st[m_na y - 1]?) 10 = true)
    (hC : a_Con l y xs L (st.take (m_na y)).reverse h res h0)
    (kk : ∀ v, res = .inl v → a_G p l e R s H0 m args below meth c Q D A nL ad0 n0 (pc + 3) ls (v.toList ++ st.drop (m_na y)) h0 (cb - m_kc y) (nb - m_kn y))
    (kx : ∀ k, res = .inr k → a_GX p l e R s H0 m args below meth c Q D A nL ad0 n0 pc ls (st.drop (m_na y)) h0 (cb - m_kc y) (nb - m_kn y) k) : a_G p l e R s H0 m args below meth c Q D A nL ad0 n0 pc ls st h cb nb := by
  intro ad ca H locs cells slots ls' h1 h2 h3 h4 h5 h6 h7 h8 h9 h10
  obtain ⟨hz1, hz2, hz3, hz4, hz5, hz6⟩ := hz
  obtain ⟨hw1, hw2, hnt, hnn, ⟨hu1, hu2, hu3, hu4⟩, hw6⟩ := hw
  obtain ⟨v9, rfl⟩ := hnx hnt
  obtain ⟨k9, hk9⟩ : ∃ k9, m_na y = k9 + 1 := ⟨m_na y - 1, by omega⟩
  rw [hk9, Nat.add_sub_cancel] at hz6
  obtain ⟨o, fs, ho, he⟩ : ∃ o fs, st[k9]? = some (.ref o) ∧ h[o]? = some (.inr (10, fs)) := by
    unfold a_isc at hz6
    split at hz6
    · rename_i o ho
      split at hz6
      · rename_i cj fs he
        have : cj = 10 := by simpa using hz6
        subst this
        exact ⟨o, fs, ho, he⟩
      · cases hz6
    · cases hz6
  have h5t : a_oks h.length (st.take (m_na y)).reverse := fun w hw9 => h5 w (List.mem_of_mem_take (List.mem_reverse.mp hw9))
  have h5d : a_oks h.length (st.drop (m_na y)) := fun w hw9 => h5 w (List.mem_of_mem_drop hw9)
  have evs : (st.take (m_na y)).reverse.map (a_v ad) = .ref (ad o) :: ((st.take k9).map (a_v ad)).reverse := by
    rw [hk9, a_take ho, List.reverse_append, List.map_append]
    show [Value.ref (ad o)] ++ _ = _
    rw [List.map_reverse]
    rfl
  have est : st.map (a_v ad) = ((st.take k9).map (a_v ad)).reverse.reverse ++ .ref (ad o) :: (st.drop (m_na y)).map (a_v ad) := by
    rw [List.reverse_reverse]
    conv => lhs; rw [← List.take_append_drop (m_na y) st]
    rw [hk9, a_take ho, List.map_append, List.map_append, List.append_assoc]
    rfl
  have hrec : ∃ cell : Cell, H[ad o]? = some cell ∧ cell.vm.isStatics = false ∧ s.vm.findClass RJ4 = some cell.cls := by
    exact va_recv h7.2.2.1 h7.1 (q := (a_cn 10, a_T 10, a_nf 10)) (a_cl (by decide)) (a_ws_get he)
  have hpre := a_pre (vs := (st.take (m_na y)).reverse) X h1 h7 h8
  rw [evs] at hpre
  have hlen : ((st.take k9).map (a_v ad)).reverse.length = m_na y - 1 := by
    rw [List.length_reverse, List.length_map, List.length_take]
    omega
  have ecw : a_cwd y = .code (m_y y) (m_cc y) (m_nL y) (m_rt y) := if_pos hw2
  obtain ⟨⟨hr1, hr2⟩, hini, hcw, hmh⟩ := hw1
  obtain ⟨cC, kC, hc1, hc2, hc3, -⟩ := Cond.instantiable_spec (X.2.2.2.2.1 _ a_iSB)
  have hg : ∀ w ∈ lw_good, w ∈ lw_good ∧ ((w.onTables && w.keeps) = true ∨ ∃ ty, w = Cond.arrayClass ty) := fun w hw => ⟨hw, a_lg hw⟩
  have hG : GoodIn lw_good (va_wsSU (m_y q).cls n (m_y y) (a_wsm y)) := fun w hw => by
    unfold va_wsSU at hw
    rcases List.mem_append.mp hw with hw | hw
    · simp only [List.mem_cons, List.not_mem_nil, or_false] at hw
      rcases hw with rfl | rfl | rfl | rfl | rfl
      · exact hg _ hu1
      · exact hg _ hu2
      · exact hg _ hu3
      · exact hg _ hu4
      · exact hg _ hini
    · rcases List.mem_cons.mp hw with rfl | hw
      · exact hg _ hcw
      · exact hg _ hw
  have hCU := va_cwSU (R := R) (bytes := m_cc y) (maxL := m_nL y) (ret := m_rt y) (mc := m_kc y) (ms := m_kn y) (rm := { frames := m_fr y, cells := m_kc y, slots := m_kn y, locals := m_lo y }) (m_na y - 1) X.2.2.2.2.1 hG (by unfold a_wsm; rw [ecw]) rfl rfl ⟨hnn, hw6⟩ ⟨by show m_fr y + 1 ≤ R.frames; omega, by show 8 + (m_nL y + 11) + m_lo y ≤ R.locals; omega⟩
  have hr := a_toX (XC := a_Xr D ad h.length (va_A (a_ws ad ca h) H.size) (.inl v9) h0) (va_runSU (cC := cC) (C := RJ4) (As := ((st.take k9).map (a_v ad)).reverse) (rest := (st.drop (m_na y)).map (a_v ad)) (p := p) (e := e) (below := below) (meth := meth) (locs := locs) (cells := cells) (slots := slots) ⟨hc1, kC, hc2, hc3⟩ ⟨X.1, X.2.1, X.2.2.1, X.2.2.2.1, X.2.2.2.2.1⟩ (a_noX (hC D ad ca H.size h5t h6)) hCU ⟨a_Pc_blind, hrec, hpre⟩ (g := F0 m pc ls' (st.map (a_v ad))) rfl hlen h3.1 est (lv_room (by rw [a_sum_map]; exact hz4)) hd ⟨by omega, by omega⟩)
  exact a_aft X hr h1 h2 h3 h4 h5d h7 h8 h9 h10 hz2 hz3 kk kx
/-- a static call -/
theorem a_cs (X : a_cx p s H0 m args meth c cc (m_y q).cls nL A xs L ad0 (m_ini q)) (hRf : m_fr q ≤ R.frames) (hRl : m_lo q ≤ R.locals) (hd : decode cc pc = .ok (.invokestatic n, 3))
    (hw : a_okq q y ∧ (m_hh y = [] ∨ b = 0 ∧ m_thr y = false) ∧ a_lnk (m_y q).cls n b (m_y y) ∧ (b = 1 → m_thr y = false) ∧ Cond.static (m_y y) ∈ lw_good ∧ a_np y = some (m_na y)) (hnx : m_thr y = false → ∃ v, res = .inl v)
    (hz : m_na y ≤ st.length ∧ m_kc y ≤ cb ∧ m_kn y ≤ nb ∧ a_sum (st.drop (m_na y)) ≤ 8)
    (hC : a_Con l y xs L (st.take (m_na y)).reverse h res h0)
    (kk : ∀ v, res = .inl v → a_G p l e R s H0 m args below meth c Q D A nL ad0 n0 (pc + 3) ls (v.toList ++ st.drop (m_na y)) h0 (cb - m_kc y) (nb - m_kn y))
    (kx : ∀ k, res = .inr k → a_GX p l e R s H0 m args below meth c Q D A nL ad0 n0 pc ls (st.drop (m_na y)) h0 (cb - m_kc y) (nb - m_kn y) k) : a_G p l e R s H0 m args below meth c Q D A nL ad0 n0 pc ls st h cb nb := by
  intro ad ca H locs cells slots ls' h1 h2 h3 h4 h5 h6 h7 h8 h9 h10
  obtain ⟨hz1, hz2, hz3, hz4⟩ := hz
  obtain ⟨hw1, hw2, hw3, hw4, hw5, hw6⟩ := hw
  have h5t : a_oks h.length (st.take (m_na y)).reverse := fun w hw9 => h5 w (List.mem_of_mem_take (List.mem_reverse.mp hw9))
  have h5d : a_oks h.length (st.drop (m_na y)) := fun w hw9 => h5 w (List.mem_of_mem_drop hw9)
  have est : st.map (a_v ad) = ((st.take (m_na y)).reverse.map (a_v ad)).reverse ++ (st.drop (m_na y)).map (a_v ad) := by
    rw [List.map_reverse, List.reverse_reverse, ← List.map_append, List.take_append_drop]
  have hpre := a_pre (vs := (st.take (m_na y)).reverse) X h1 h7 h8
  have hlen : ((st.take (m_na y)).reverse.map (a_v ad)).length = m_na y := by
    rw [List.length_map, List.length_reverse, List.length_take]
    omega
  have hr : vx_Run p l e R s m args below meth c H locs cells slots (m_kc y) (m_kn y) (F0 m pc ls' (st.map (a_v ad))) ((st.drop (m_na y)).map (a_v ad)) (a_Qr D ad h.length (va_A (a_ws ad ca h) H.size) res h0 ((st.take (m_na y)).reverse.map (a_v ad)).toArray) (a_Xr D ad h.length (va_A (a_ws ad ca h) H.size) res h0) (va_A (a_ws ad ca h) H.size) := by
    rcases hw3 with ⟨hb0, hlk⟩ | ⟨hb1, hlk⟩
    · by_cases hh : m_hh y = []
      · exact vx_runS (As := (st.take (m_na y)).reverse.map (a_v ad)) (rest := (st.drop (m_na y)).map (a_v ad)) ⟨X.1, X.2.1, X.2.2.1, X.2.2.2.1, X.2.2.2.2.1⟩ (hC D ad ca H.size h5t h6) ⟨a_cb X hRf hRl hw1 hh hw6 hlk, X.2.2.2.2.1 _ hw5⟩ ⟨a_Pc_blind, hpre⟩ (g := F0 m pc ls' (st.map (a_v ad))) rfl hlen h3.1 est (lv_room (by rw [a_sum_map]; exact hz4)) hd ⟨by omega, by omega⟩
      · have hth : m_thr y = false := by
          rcases hw2 with q9 | q9
          · exact absurd q9 hh
          · exact q9.2
        obtain ⟨v, rfl⟩ := hnx hth
        have ecw : a_cwd y = .codeWith (m_y y) (m_cc y) (m_nL y) (m_rt y) (m_hh y) := if_neg hh
        obtain ⟨⟨hr1, hr2⟩, hini, hcw, hmh⟩ := hw1
        refine a_toX (vx_runSW (hh := m_hh y) (bytes := m_cc y) (maxL := m_nL y) (ret := m_rt y) (n := m_na y) (As := (st.take (m_na y)).reverse.map (a_v ad)) (rest := (st.drop (m_na y)).map (a_v ad)) ⟨X.1, X.2.1, X.2.2.1, X.2.2.2.1, X.2.2.2.2.1⟩ (a_noX (hC D ad ca H.size h5t h6)) ⟨⟨rfl, rfl, by show m_fr y + 1 ≤ R.frames; omega, by show 8 + (m_nL y + 11) + m_lo y ≤ R.locals; omega, a_pay X.2.2.2.2.1 hcw, by rw [← ecw]; exact List.mem_cons_self⟩, ?_, X.2.2.2.2.1 _ hini, hmh, fun sig hsig => ?_, X.2.2.2.2.1 _ hlk, X.2.2.2.2.1 _ hw5⟩ ⟨a_Pc_blind, hpre⟩ (g := F0 m pc ls' (st.map (a_v ad))) rfl hlen h3.1 est (lv_room (by rw [a_sum_map]; exact hz4)) hd ⟨by omega, by omega⟩)
        · have := X.2.2.2.2.1 _ hcw
          rw [ecw] at this
          exact this
        · unfold a_np at hw6
          rw [hsig] at hw6
          exact (Option.some.inj hw6).symm
    · obtain ⟨v, rfl⟩ := hnx (hw4 hb1)
      have hh : m_hh y = [] := by
        rcases hw2 with q9 | q9
        · exact q9
        · omega
      exact a_toX (va_runSN (host := RX8) (As := (st.take (m_na y)).reverse.map (a_v ad)) (rest := (st.drop (m_na y)).map (a_v ad)) ⟨X.1, X.2.1, X.2.2.1, X.2.2.2.1, X.2.2.2.2.1⟩ (a_noX (hC D ad ca H.size h5t h6)) ⟨a_cn9 X hRf hRl hw1 hh hw6 hlk, X.2.2.2.2.1 _ hw5, trivial⟩ ⟨a_Pc_blind, hpre⟩ (g := F0 m pc ls' (st.map (a_v ad))) rfl hlen h3.1 est (lv_room (by rw [a_sum_map]; exact hz4)) hd ⟨by omega, by omega⟩)
  exact a_aft X hr h1 h2 h3 h4 h5d h7 h8 h9 h10 hz2 hz3 kk kx
end A12
