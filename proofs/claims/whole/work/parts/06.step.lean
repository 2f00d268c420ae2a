/-! The machine's frame at a place of the abstract machine; an instruction's soundness. -/
def a_cx (p : Program) (s : State) (m : MethodId) (args : Array Value) (meth : Method) (c : Code) (cc : ByteArray) (own : String) (nL : Nat) (A : Nat → Prop) (xs : Nat → Int32) (L : Nat) (ad0 : Nat → Nat) (ini : Bool) : Prop :=
  p.tables.exec = Jvm.exec ∧ c.code = cc ∧ c.maxLocals = nL ∧ s.vm.findClass own = some m.cls ∧ (∀ w ∈ lw_good, w.before args s = true) ∧ (∀ q, s.heap.size ≤ q → A q) ∧ a_Amb xs L ad0 A s s.heap ∧ (ini = true → meth.name = "<init>")
def a_G (p : Program) (l : Launch) (e : Env) (R : Room) (s : State) (m : MethodId) (args : Array Value) (below : List Frame) (meth : Method) (c : Code) (Q : State → Prop) (D : va_G) (A : Nat → Prop) (nL : Nat) (ad0 : Nat → Nat) (n0 : Nat) (pc : Nat) (ls st : List Value) (h : a_H) (cb nb : Nat) : Prop :=
  ∀ (ad : Nat → Nat) (ca : Nat → ClassId) (H : Heap) (locs : List Loc) (cells slots : Nat) (ls' : Array Slot), a_agr n0 ad0 ad → n0 ≤ h.length → a_L ad nL ls ls' → a_oks h.length ls → a_oks h.length st → a_okh h → a_Wd D ad ca h A s H → va_S A s.heap H locs → cells + cb ≤ R.cells → slots + nb ≤ R.slots → W p l e R s m args below meth c H locs cells slots Q (F0 m pc ls' (st.map (a_v ad)))
def a_GS (p : Program) (l : Launch) (e : Env) (R : Room) (s : State) (m : MethodId) (args : Array Value) (below : List Frame) (meth : Method) (c : Code) (Q : State → Prop) (D : va_G) (A : Nat → Prop) (nL : Nat) (ad0 : Nat → Nat) (n0 : Nat) (z : a_S) : Prop :=
  a_G p l e R s m args below meth c Q D A nL ad0 n0 z.1 z.2.1 z.2.2.1 z.2.2.2.1 z.2.2.2.2.1 z.2.2.2.2.2
theorem a_good {ws : List Cond} (ps : List Nat) (hp : ws = ps.filterMap (fun i => lw_tbl[i]?)) (h : ws.all goodWord = true) : ∀ w ∈ ws, w ∈ lw_good := by
  intro w hw
  have h1 := List.all_eq_true.mp h w hw
  rw [hp] at hw
  obtain ⟨i, -, hi⟩ := List.mem_filterMap.mp hw
  exact List.mem_filter.mpr ⟨List.mem_of_getElem? hi, h1⟩
section AST
variable {p : Program} {l : Launch} {e : Env} {R : Room} {s : State} {m : MethodId} {args : Array Value} {below : List Frame} {meth : Method} {c : Code} {Q : State → Prop}
variable {D : va_G} {A : Nat → Prop} {nL : Nat} {ad0 : Nat → Nat} {n0 : Nat} {cc : ByteArray} {own : String} {xs : Nat → Int32} {L : Nat} {ini : Bool} {pc : Nat} {ls st : List Value} {h : a_H} {cb nb : Nat} {z : a_S}
theorem a_iadd (X : a_cx p s m args meth c cc own nL A xs L ad0 ini) (hd : decode cc pc = .ok (.iadd, 1)) {a b : Nat} (hz : a_ins xs L .iadd a b pc ls st h cb nb = some z) (k : a_GS p l e R s m args below meth c Q D A nL ad0 n0 z) : a_G p l e R s m args below meth c Q D A nL ad0 n0 pc ls st h cb nb := by
  simp only [a_ins] at hz
  split at hz
  · cases hz
    intro ad ca H locs cells slots ls' h1 h2 h3 h4 h5 h6 h7 h8 h9 h10
    simp only [a_oks_cons] at h5
    refine lv_iadd X.1 X.2.1 hd ?_
    exact k ad ca H locs cells slots ls' h1 h2 h3 h4 (a_oks_cons.mpr ⟨a_okv_int _ _, h5.2.2⟩) h6 h7 h8 h9 h10
  · cases hz
end AST
