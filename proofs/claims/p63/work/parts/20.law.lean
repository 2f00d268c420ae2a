/-! THE CLAIM OUT OF ONE WALK OF THE LAW'S BODY. Your part is whole_start (and what it stands on); all else here is the same for every law, but numbers. -/
def R_law : String := "WeatherInsuranceLaw"
def lw_P (b : Addr) (xs : List Int32) (args : Array Value) (s : State) : Prop := args = #[.ref b] ∧ s.IntsAt b xs ∧ xs.length ≤ 260 ∧ (Jvm.Cond.and given_1 narrow_1).before args s = true
def lw_Q (_ : Array Value) (s : State) (o : Outcome) (t : State) : Prop := o = .returned (some (.int 1)) ∧ Framed s o t [] room_1.cells room_1.slots
def lw_Z (below : List Frame) (a : Array Value) (s : State) : State → Prop := fun t => ∃ o, t.status = .running ∧ Ended t below o ∧ lw_Q a s o t
/-- the law's own end, with 1 on the stack, nothing written that was there before, its room as the claim has it -/
theorem lw_ret {p : Program} {l : Launch} {e : Env} {s : State} {m : MethodId} {below : List Frame} {meth : Method} {c : Code} {b : Nat} (hx : p.tables.exec = Jvm.exec) (hb : c.code = code) (hr : meth.sig.returnType = ret) (hlocks : meth.locks = false) {pc : Nat} {H : Heap} {ls : Array Slot} (hdg : decode code pc = .ok (.ireturn, 1)) : W p l e room_1 s m #[Value.ref b] below meth c H [] room_1.cells room_1.slots (lw_Z below #[Value.ref b] s) (F0 m pc ls [.int 1]) := by
  intro T hT X
  obtain ⟨fs, hret, hrun, hended, hW, hframe⟩ := X.leave (v := some (.int 1)) (hlocks := hlocks) (fun h => by rw [hr] at h; cases h)
  have hmeth' : T.vm.method? m = some meth := X.method'
  refine ⟨T.setFrames fs, ?_, .returned (some (.int 1)), hrun, hended, rfl, ⟨_, rfl⟩, hW, hframe⟩
  jvm_step X.here [X.here.top, hx, hb, hdg, hmeth', hr, ret, narrow_b1]
  (try refine ⟨rfl, ?_⟩); (try refine ⟨rfl, ?_⟩)
  first | (intro acts; rw [hret _ acts rfl rfl rfl]) | rw [hret _ _ rfl rfl rfl]
  exact Steps.refl _
/-- what holds at the law's entry: the machine, the code, the tables' words (any of lw_tbl by 'hts w (by decide +kernel)'), the script of L ints xs at the cell b, what the Statement gives of the start (any of its parts by flat_of_before) -/
def lw_At (p : Program) (s : State) (m : MethodId) (meth : Method) (c : Code) (b L : Nat) (xs : Nat → Int32) : Prop :=
  p.tables.exec = Jvm.exec ∧ c.code = code ∧ meth.sig.returnType = ret ∧ c.maxLocals = 6 ∧ s.vm.findClass R_law = some m.cls ∧ (∀ w ∈ lw_tbl, w.before #[Value.ref b] s = true) ∧ va_X b L xs s s.heap ∧ b < s.heap.size ∧ meth.locks = false ∧ (Jvm.Cond.and given_1 narrow_1).before #[Value.ref b] s = true
/-! The law's walk out of a run of it on the abstract machine. -/
section A20
variable {xs : Nat → Int32} {L : Nat} {MT : Nat → Option a_Md} {q : a_Md}
theorem a_1i {pc : Nat} {ls st : List Value} {h h0 : a_H} {cb nb : Nat} {v : Int32} (hq : m_thr q = false) (hz : a_1 MT xs L q pc ls st h cb nb = some (.inr (.inr (.inl (some (.int v)), h0)))) : st = [.int v] ∧ ∃ r, a_at (m_is q) pc = some (.ireturn, r) := by
  have noins : ∀ {o : Option a_S}, (o.map Sum.inl : Option a_O) = some (.inr (.inr (.inl (some (.int v)), h0))) → False := fun h => by
    obtain ⟨x, -, h2⟩ := a_map_l h
    cases h2
  unfold a_1 at hz
  split at hz
  · cases hz
  rename_i i len a b hat
  split at hz
  · split at hz
    · split at hz
      · split at hz
        · cases hz; exact ⟨rfl, _, hat⟩
        · cases hz
      · cases hz
    · cases hz
  · split at hz
    · split at hz <;> cases hz
    · cases hz
  · split at hz
    · split at hz <;> cases hz
    · cases hz
  · split at hz
    · split at hz <;> cases hz
    · cases hz
  · split at hz
    · split at hz <;> cases hz
    · cases hz
  · split at hz
    · split at hz
      · rename_i hc
        rw [hq] at hc
        cases hc.1
      · cases hz
    · exact (noins hz).elim
  · split at hz
    · rw [Option.map_eq_some_iff] at hz
      obtain ⟨x, -, ez⟩ := hz
      cases ez
    · cases hz
  · split at hz
    · rw [Option.map_eq_some_iff] at hz
      obtain ⟨x, -, ez⟩ := hz
      cases ez
    · split at hz
      · split at hz <;> cases hz
      · cases hz
  · split at hz
    · rw [Option.map_eq_some_iff] at hz
      obtain ⟨x, -, ez⟩ := hz
      cases ez
    · split at hz
      · split at hz <;> cases hz
      · cases hz
  · split at hz
    · rw [Option.map_eq_some_iff] at hz
      obtain ⟨x, -, ez⟩ := hz
      cases ez
    · split at hz
      · split at hz <;> cases hz
      · cases hz
  · exact (noins hz).elim
/-- some steps, calls included: where they lead -/
def a_go (K : Nat → List Value → a_H → Option (a_R × a_H)) (MT : Nat → Option a_Md) (xs : Nat → Int32) (L : Nat) (q : a_Md) : Nat → a_S → Option a_S
  | 0, z => some z
  | f + 1, z => match a_1 MT xs L q z.1 z.2.1 z.2.2.1 z.2.2.2.1 z.2.2.2.2.1 z.2.2.2.2.2 with
    | some (.inl z1) => a_go K MT xs L q f z1
    | some (.inr (.inl z1)) => match MT z1.1, K z1.1 z1.2.1 z1.2.2.2.2.2.1 with
      | some y, some (.inl v, h') => a_go K MT xs L q f (z1.2.2.1 + 3, z1.2.2.2.1, v.toList ++ z1.2.2.2.2.1, h', z1.2.2.2.2.2.2.1 - m_kc y, z1.2.2.2.2.2.2.2 - m_kn y)
      | _, _ => none
    | _ => none
section A20b
variable {p : Program} {l : Launch} {e : Env} {R : Room} {s : State} {H0 : Heap} {m : MethodId} {args : Array Value} {below : List Frame} {meth : Method} {c : Code} {Q : State → Prop}
variable {D : va_G} {A : Nat → Prop} {nL : Nat} {ad0 : Nat → Nat} {n0 : Nat} {cc : ByteArray} {xs : Nat → Int32} {L : Nat} {MT : Nat → Option a_Md} {q : a_Md}
theorem a_goG {K : Nat → List Value → a_H → Option (a_R × a_H)} (X : a_cx p s H0 m args meth c cc (m_y q).cls nL A xs L ad0 (m_ini q)) (hcc : m_cc q = cc) (hok : a_okm MT q) (hRf : m_fr q ≤ R.frames) (hRl : m_lo q ≤ R.locals)
    (hK : ∀ i y vs h r1 h1, MT i = some y → K i vs h = some (r1, h1) → a_Con l y xs L vs h r1 h1 ∧ (m_thr y = false → ∃ v, r1 = .inl v)) :
    ∀ (f : Nat) (z z' : a_S), a_go K MT xs L q f z = some z' → a_GS p l e R s H0 m args below meth c Q D A nL ad0 n0 z' → a_GS p l e R s H0 m args below meth c Q D A nL ad0 n0 z := by
  intro f
  induction f with
  | zero => intro z z' hz k; cases hz; exact k
  | succ f ih =>
    intro z z' hz k
    obtain ⟨pc, ls, st, h, cb, nb⟩ := z
    unfold a_go at hz
    dsimp only at hz
    show a_G p l e R s H0 m args below meth c Q D A nL ad0 n0 pc ls st h cb nb
    split at hz
    · rename_i z1 h1
      exact a_s1 X hcc hok.2.1 hRf hRl h1 (ih _ _ hz k)
    · rename_i z1 h1
      split at hz
      · rename_i y v h' hy hk
        exact a_k1 X hcc hok hRf hRl h1 hy (hK _ _ _ _ _ _ hy hk) (fun v9 e9 => by cases e9; exact ih _ _ hz k) (fun k e9 => by cases e9)
      · cases hz
    · cases hz
end A20b
/-- what the law's row of the methods' table must say -/
def a_lawq (q : a_Md) : Prop := (m_y q).cls = R_law ∧ m_cc q = code ∧ m_nL q = 6 ∧ m_hh q = [] ∧ m_thr q = false ∧ m_ini q = false ∧ m_fr q ≤ 15 ∧ m_lo q ≤ 578
theorem lw_lt (l : Launch) (hflags : l.flags = flags0) : l.stackTraces = false := by
  unfold Launch.stackTraces
  rw [hflags]
  decide +kernel
/-- the law's end, out of a run from somewhere in its body -/
theorem a_fin {p : Program} {e : Env} {s : State} {H0 : Heap} {m : MethodId} {below : List Frame} {meth : Method} {c : Code} {A : Nat → Prop} {ad0 : Nat → Nat} {D : va_G} {n0 : Nat} (l : Launch) (hflags : l.flags = flags0) {b : Nat} (hr : meth.sig.returnType = ret) (hlocks : meth.locks = false)
    (X : a_cx p s H0 m #[Value.ref b] meth c code (m_y q).cls 6 A xs L ad0 (m_ini q)) (hA : ∀ x, A x → s.heap.size ≤ x) (hS0 : s.heap.size ≤ H0.size ∧ ∀ x : Nat, x < s.heap.size → H0[x]? = s.heap[x]?)
    (hMT : ∀ i y, MT i = some y → a_okm MT y) (hok : a_okm MT q) (hq : a_lawq q) {F f d pc : Nat} {ls st : List Value} {h h0 : a_H} {cb nb : Nat}
    (hrun : a_ex (a_run MT xs L F d) MT xs L q f pc ls st h cb nb = some (.inl (some (.int 1)), h0)) : a_G p l e room_1 s H0 m #[Value.ref b] below meth c (lw_Z below #[Value.ref b] s) D A 6 ad0 n0 pc ls st h cb nb := by
  obtain ⟨q1, q2, q3, q4, q5, q6, q9, q10⟩ := hq
  have hl := lw_lt l hflags
  refine a_sound (R := room_1) (n0 := n0) (Q := lw_Z below #[Value.ref b] s) (D := D) (below := below) (e := e) (l := l) (nL := 6) (h0 := h0) (res := .inl (some (.int 1))) (K := a_run MT xs L F d) X q2 hok (by show m_fr q ≤ 15; exact q9) (by show m_lo q ≤ 578; exact q10) (fun i y vs h r1 h1 hy hz => a_cons hl hMT d i y vs h r1 h1 hy hz)
    (fun pc ls st h9 cb nb hz9 => ?_)
    (fun pc k ls r h9 cb nb hz9 hpc => by
      exfalso
      unfold a_hx at hz9
      rw [q4] at hz9
      simp only [List.zip_nil_left, List.find?_nil] at hz9
      rw [if_neg (by rw [q5]; intro h; cases h.1)] at hz9
      cases hz9) f pc ls st h cb nb hrun
  obtain ⟨e1, r, e2⟩ := a_1i q5 hz9
  subst e1
  obtain ⟨len, a9, b9⟩ := r
  obtain ⟨hd, hw⟩ := a_row hok.2.1 q2 e2
  obtain rfl : len = 1 := hw
  intro ad ca H locs cells slots ls' h1 h2 h3 h4 h5 h6 h7 h8 g9 g10
  refine W.widen (k := room_1.cells) (n := room_1.slots) (by have : cells + cb ≤ room_1.cells := g9; omega) (by have : slots + nb ≤ room_1.slots := g10; omega) ?_
  refine va_forget (fun q hq => hA _ (h8.2.2 q hq)) ?_
  exact lw_ret X.1 X.2.1 hr hlocks hd
/-- the law's entry -/
theorem a_start {p : Program} {e : Env} {s : State} {m : MethodId} {below : List Frame} {meth : Method} {c : Code} (l : Launch) {b : Nat} {Q : State → Prop} (C0 : lw_At p s m meth c b L xs) (ht7 : a_tn xs = 7) (hqc : (m_y q).cls = R_law) (hqi : m_ini q = false)
    (k : ∀ (D : va_G) (ad : Nat → Nat), a_cx p s s.heap m #[Value.ref b] meth c code (m_y q).cls 6 (fun x => s.heap.size ≤ x) xs L ad (m_ini q) → a_G p l e room_1 s s.heap m #[Value.ref b] below meth c Q D (fun x => s.heap.size ≤ x) 6 ad 0 0 (a_loc 6 [.ref a_big]) [] [] 600000 7300000) :
    W p l e room_1 s m #[Value.ref b] below meth c s.heap [] 0 0 Q (entryFrame m ([Value.ref b] : List Value).toArray 6) := by
  obtain ⟨hx, hb, hr, hml, hown, hts, hX, hbl, hlocks, hgv⟩ := C0
  obtain ⟨ad, had, hAmb⟩ := a_entry hts hgv hX hbl ht7
  obtain ⟨D, hK⟩ := a_D hts
  have X : a_cx p s s.heap m (#[Value.ref b]) meth c code (m_y q).cls 6 (fun q : Nat => s.heap.size ≤ q) xs L ad (m_ini q) :=
    ⟨hx, hb, hml, by rw [hqc]; exact hown, fun w hw => hts w (List.mem_filter.mp hw).1, fun q hq => hq, hAmb, fun hi => by rw [hqi] at hi; cases hi⟩
  rw [lg_entry_eq]
  have hl0 : a_L ad 6 (a_loc 6 [.ref a_big]) ((lg_sl ([Value.ref b]) ++ List.replicate (6 - (lg_sl ([Value.ref b])).length) Slot.unset).toArray) := by
    have := a_loc_L ad (vs := [.ref a_big]) (nL := 6) (by decide)
    have e9 : [Value.ref a_big].map (a_v ad) = [Value.ref b] := by show [Value.ref (ad a_big)] = _; rw [had]
    rw [e9] at this
    exact this
  exact k D ad X ad (fun _ => 0) s.heap [] 0 0 _ (a_agr_refl _ _) (Nat.le_refl _) hl0 (a_loc_ok (fun v hv i hi => by
      rcases List.mem_singleton.mp hv with rfl
      cases hi
      exact Or.inr (Nat.le_refl _))) (fun v hv => by cases hv) (fun i c9 hi => by cases hi) ⟨(fun k q h => by simp [a_ws] at h), ⟨(fun i j p q h => by simp [a_ws] at h), (fun k q h => by simp [a_ws] at h)⟩, hK, (fun i x9 hi => by cases hi)⟩ va_S.rf (Nat.le_of_ble_eq_true rfl) (Nat.le_of_ble_eq_true rfl)
end A20
