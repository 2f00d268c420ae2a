/-! THE CLAIM OUT OF ONE WALK OF THE LAW'S BODY. Your part is whole_start (and what it stands on); all else here is the same for every law, but numbers. -/
def R_law : String := "WeatherInsuranceLaw"
def lw_P (b : Addr) (xs : List Int32) (args : Array Value) (s : State) : Prop := args = #[.ref b] ∧ s.IntsAt b xs ∧ xs.length ≤ 3584 ∧ (Jvm.Cond.and given_1 narrow_1).before args s = true
/-- what a walk over the start with the record d0 says of its end, said of the start itself -/
theorem lw_closed {s t : State} {o : Outcome} {d0 : Drawn} {L : List Loc} {k n : Nat} (hd0 : s.drawn.sameBut d0 lw_cs) (hv : ∃ v, o = .returned v) (hW : (s.setDrawn d0).WarmedH t.vm) (hs : (s.setDrawn d0).sameButNew ({ t with vm := s.vm } : State) L k n) : State.butDraws s t lw_cs (fun t1 => Framed s o t1 L k n) := by
  have h2 : t.drawn = d0 := congrArg State.drawn hs.1
  refine ⟨⟨hv, hW, State.sameButNew.setDrawn hs s.drawn⟩, ?_, by decide⟩
  rw [h2]
  exact hd0
def lw_Q (_ : Array Value) (s : State) (o : Outcome) (t : State) : Prop := o = .returned (some (.int 1)) ∧ State.butDraws s t lw_cs (fun t1 => Framed s o t1 [] 601024 7293034)
def lw_Z (below : List Frame) (a : Array Value) (s : State) : State → Prop := fun t => ∃ o, t.status = .running ∧ Ended t below o ∧ lw_Q a s o t
/-- the law's own end, with 1 on the stack, nothing written that was there before, its room as the claim has it; d0: the record of draws at this point (at the entry s.drawn: begin with 'refine W.base ?_' and 'have hd0 := Drawn.sameBut.refl s.drawn lw_cs') -/
theorem lw_ret {p : Program} {l : Launch} {e : Env} {s : State} {m : MethodId} {below : List Frame} {meth : Method} {c : Code} {b : Nat} {d0 : Drawn} (hd0 : s.drawn.sameBut d0 lw_cs) (hx : p.tables.exec = Jvm.exec) (hb : c.code = code) (hr : meth.sig.returnType = ret) (hlocks : meth.locks = false) {pc : Nat} {H : Heap} {ls : Array Slot} (hdg : decode code pc = .ok (.ireturn, 1)) : W p l e room_1 (s.setDrawn d0) m #[Value.ref b] below meth c H [] 601024 7293034 (lw_Z below #[Value.ref b] s) (F0 m pc ls [.int 1]) := by
  intro T hT X
  obtain ⟨fs, hret, hrun, hended, hW, hframe⟩ := X.leave (v := some (.int 1)) (hlocks := hlocks) (fun h => by rw [hr] at h; cases h)
  have hmeth' : T.vm.method? m = some meth := X.method'
  refine ⟨T.setFrames fs, ?_, .returned (some (.int 1)), hrun, hended, rfl, lw_closed hd0 ⟨_, rfl⟩ hW hframe⟩
  jvm_step X.here [X.here.top, hx, hb, hdg, hmeth', hr, ret, narrow_b1]
  (try refine ⟨rfl, ?_⟩); (try refine ⟨rfl, ?_⟩)
  first | (intro acts; rw [hret _ acts rfl rfl rfl]) | rw [hret _ _ rfl rfl rfl]
  exact Steps.refl _
/-- what holds at the law's entry: the machine, the code, the tables' words (any of lw_tbl by 'hts w (by decide +kernel)'), the script of L ints xs at the cell b, what the Statement gives of the start (any of its parts by flat_of_before) -/
def lw_At (p : Program) (s : State) (m : MethodId) (meth : Method) (c : Code) (b L : Nat) (xs : Nat → Int32) : Prop :=
  p.tables.exec = Jvm.exec ∧ c.code = code ∧ meth.sig.returnType = ret ∧ c.maxLocals = 9 ∧ s.vm.findClass R_law = some m.cls ∧ (∀ w ∈ lw_tbl, w.before #[Value.ref b] s = true) ∧ va_X b L xs s s.heap ∧ b < s.heap.size ∧ meth.locks = false ∧ (Jvm.Cond.and given_1 narrow_1).before #[Value.ref b] s = true
/-! The law's walk out of a run of it on the abstract machine. -/
section A20
variable {xs : Nat → Int32} {L : Nat} {MT : Nat → Option a_Md} {q : a_Md}
theorem a_1i {pc : Nat} {ls st : List Value} {h h0 : a_H} {cb nb : Nat} {v : Int32} (hq : m_thr q = false) (hz : a_1 MT xs L q pc ls st h cb nb = some (.inr (.inr (.inl (some (.int v)), h0)))) : st = [.int v] ∧ ∃ r, a_at (m_is q) pc = some (.ireturn, r) := by
  have noins : ∀ {o : Option a_S}, (o.map Sum.inl : Option a_O) = some (.inr (.inr (.inl (some (.int v)), h0))) → False := fun h => by
    obtain ⟨x, -, h2⟩ := a_map_l h
    cases h2
  unfold a_1 at hz
  split at hz
  · cases hz
  rename_i i len a b hat
  split at hz
  · split at hz
    · split at hz
      · split at hz
        · cases hz; exact ⟨rfl, _, hat⟩
        · cases hz
      · cases hz
    · cases hz
  · split at hz
    · split at hz <;> cases hz
    · cases hz
  · split at hz
    · split at hz <;> cases hz
    · cases hz
  · split at hz
    · split at hz <;> cases hz
    · cases hz
  · split at hz
    · split at hz
      · rename_i hc
        rw [hq] at hc
        cases hc.1
      · cases hz
    · exact (noins hz).elim
  · split at hz
    · rw [Option.map_eq_some_iff] at hz
      obtain ⟨x, -, ez⟩ := hz
      cases ez
    · cases hz
  · split at hz
    · rw [Option.map_eq_some_iff] at hz
      obtain ⟨x, -, ez⟩ := hz
      cases ez
    · split at hz
      · split at hz <;> cases hz
      · cases hz
  · split at hz
    · rw [Option.map_eq_some_iff] at hz
      obtain ⟨x, -, ez⟩ := hz
      cases ez
    · split at hz
      · split at hz <;> cases hz
      · cases hz
  · split at hz
    · rw [Option.map_eq_some_iff] at hz
      obtain ⟨x, -, ez⟩ := hz
      cases ez
    · split at hz
      · split at hz <;> cases hz
      · cases hz
  · exact (noins hz).elim
/-- what the law's row of the methods' table must say -/
def a_lawq (q : a_Md) : Prop := (m_y q).cls = R_law ∧ m_cc q = code ∧ m_nL q = 9 ∧ m_hh q = [] ∧ m_thr q = false ∧ m_ini q = false ∧ m_kc q = 601024 ∧ m_kn q = 7293034 ∧ m_fr q ≤ 13 ∧ m_lo q ≤ 494
theorem a_start {p : Program} {e : Env} {s : State} {m : MethodId} {below : List Frame} {meth : Method} {c : Code} (l : Launch) (hflags : l.flags = flags0) {b : Nat} (C0 : lw_At p s m meth c b L xs) (hMT : ∀ i y, MT i = some y → a_okm MT y) (hok : a_okm MT q) (hq : a_lawq q) {F f d : Nat} {h0 : a_H}
    (hrun : a_ex (a_run MT xs L F d) MT xs L q f 0 (a_loc 9 [.ref a_big]) [] [] 601024 7293034 = some (.inl (some (.int 1)), h0)) : W p l e room_1 s m #[Value.ref b] below meth c s.heap [] 0 0 (lw_Z below #[Value.ref b] s) (entryFrame m ([Value.ref b] : List Value).toArray 9) := by
  obtain ⟨hx, hb, hr, hml, hown, hts, hX, hbl, hlocks, hgv⟩ := C0
  obtain ⟨q1, q2, q3, q4, q5, q6, q7, q8, q9, q10⟩ := hq
  have hl : l.stackTraces = false := by
    unfold Launch.stackTraces
    rw [hflags]
    decide +kernel
  obtain ⟨ad, had, hAmb⟩ := a_entry hts hgv hX hbl
  obtain ⟨D, hK⟩ := a_D hts
  have X : a_cx p s m (#[Value.ref b]) meth c code (m_y q).cls 9 (fun q : Nat => s.heap.size ≤ q) xs L ad (m_ini q) :=
    ⟨hx, hb, hml, by rw [q1]; exact hown, fun w hw => hts w (List.mem_filter.mp hw).1, fun q hq => hq, hAmb, fun hi => by rw [q6] at hi; cases hi⟩
  have main := a_sound (R := room_1) (n0 := 0) (Q := lw_Z below #[Value.ref b] s) (D := D) (below := below) (e := e) (l := l) (nL := 9) (h0 := h0) (res := .inl (some (.int 1))) (K := a_run MT xs L F d) X q2 hok (by show m_fr q ≤ 13; exact q9) (by show m_lo q ≤ 494; exact q10) (fun i y vs h r1 h1 hy hz => a_cons hl hMT d i y vs h r1 h1 hy hz)
    (fun pc ls st h9 cb nb hz9 => by
      obtain ⟨e1, r, e2⟩ := a_1i q5 hz9
      subst e1
      obtain ⟨len, a9, b9⟩ := r
      obtain ⟨hd, hw⟩ := a_row hok.2.1 q2 e2
      obtain rfl : len = 1 := hw
      intro ad ca H locs cells slots ls' h1 h2 h3 h4 h5 h6 h7 h8 g9 g10
      refine W.widen (k := 601024) (n := 7293034) (by have : cells + cb ≤ 601024 := g9; omega) (by have : slots + nb ≤ 7293034 := g10; omega) ?_
      refine va_forget (fun q hq => h8.2.2 q hq) ?_
      refine W.base ?_
      exact lw_ret (Drawn.sameBut.refl s.drawn lw_cs) hx hb hr hlocks hd)
    (fun pc k ls r h9 cb nb hz9 hpc => by
      exfalso
      unfold a_hx at hz9
      rw [q4] at hz9
      simp only [List.zip_nil_left, List.find?_nil] at hz9
      rw [if_neg (by rw [q5]; intro h; cases h.1)] at hz9
      cases hz9) f 0 (a_loc 9 [.ref a_big]) [] [] 601024 7293034 hrun
  rw [lg_entry_eq]
  have hl0 : a_L ad 9 (a_loc 9 [.ref a_big]) ((lg_sl ([Value.ref b]) ++ List.replicate (9 - (lg_sl ([Value.ref b])).length) Slot.unset).toArray) := by
    have := a_loc_L ad (vs := [.ref a_big]) (nL := 9) (by decide)
    have e9 : [Value.ref a_big].map (a_v ad) = [Value.ref b] := by show [Value.ref (ad a_big)] = _; rw [had]
    rw [e9] at this
    exact this
  exact main ad (fun _ => 0) s.heap [] 0 0 _ (a_agr_refl _ _) (Nat.le_refl _) hl0 (a_loc_ok (fun v hv i hi => by
      rcases List.mem_singleton.mp hv with rfl
      cases hi
      exact Or.inr (Nat.le_refl _))) (fun v hv => by cases hv) (fun i c9 hi => by cases hi) ⟨(fun k q h => by simp [a_ws] at h), ⟨(fun i j p q h => by simp [a_ws] at h), (fun k q h => by simp [a_ws] at h)⟩, hK, (fun i x9 hi => by cases hi)⟩ va_S.rf (Nat.le_of_ble_eq_true rfl) (Nat.le_of_ble_eq_true rfl)
end A20
