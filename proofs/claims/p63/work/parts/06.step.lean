/-! The machine's frame at a place of the abstract machine; an instruction's soundness. -/
def a_cx (p : Program) (s : State) (H0 : Heap) (m : MethodId) (args : Array Value) (meth : Method) (c : Code) (cc : ByteArray) (own : String) (nL : Nat) (A : Nat → Prop) (xs : Nat → Int32) (L : Nat) (ad0 : Nat → Nat) (ini : Bool) : Prop :=
  p.tables.exec = Jvm.exec ∧ c.code = cc ∧ c.maxLocals = nL ∧ s.vm.findClass own = some m.cls ∧ (∀ w ∈ lw_good, w.before args s = true) ∧ (∀ q, H0.size ≤ q → A q) ∧ a_Amb xs L ad0 A s H0 ∧ (ini = true → meth.name = "<init>")
def a_G (p : Program) (l : Launch) (e : Env) (R : Room) (s : State) (H0 : Heap) (m : MethodId) (args : Array Value) (below : List Frame) (meth : Method) (c : Code) (Q : State → Prop) (D : va_G) (A : Nat → Prop) (nL : Nat) (ad0 : Nat → Nat) (n0 : Nat) (pc : Nat) (ls st : List Value) (h : a_H) (cb nb : Nat) : Prop :=
  ∀ (ad : Nat → Nat) (ca : Nat → ClassId) (H : Heap) (locs : List Loc) (cells slots : Nat) (ls' : Array Slot), a_agr n0 ad0 ad → n0 ≤ h.length → a_L ad nL ls ls' → a_oks h.length ls → a_oks h.length st → a_okh h → a_Wd D ad ca h A s H → va_S A H0 H locs → cells + cb ≤ R.cells → slots + nb ≤ R.slots → W p l e R s m args below meth c H locs cells slots Q (F0 m pc ls' (st.map (a_v ad)))
def a_GS (p : Program) (l : Launch) (e : Env) (R : Room) (s : State) (H0 : Heap) (m : MethodId) (args : Array Value) (below : List Frame) (meth : Method) (c : Code) (Q : State → Prop) (D : va_G) (A : Nat → Prop) (nL : Nat) (ad0 : Nat → Nat) (n0 : Nat) (z : a_S) : Prop :=
  a_G p l e R s H0 m args below meth c Q D A nL ad0 n0 z.1 z.2.1 z.2.2.1 z.2.2.2.1 z.2.2.2.2.1 z.2.2.2.2.2
theorem a_good {ws : List Cond} (ps : List Nat) (hp : ws = ps.filterMap (fun i => lw_tbl[i]?)) (h : ws.all goodWord = true) : ∀ w ∈ ws, w ∈ lw_good := by
  intro w hw
  have h1 := List.all_eq_true.mp h w hw
  rw [hp] at hw
  obtain ⟨i, -, hi⟩ := List.mem_filterMap.mp hw
  exact List.mem_filter.mpr ⟨List.mem_of_getElem? hi, h1⟩
theorem a_cw0 : ∀ w ∈ u_ws RX0 TX0 2, w ∈ lw_good := a_good [164, 166] (by decide +kernel) (by decide +kernel)
theorem a_cw1 : ∀ w ∈ u_ws RX1 TX1 12, w ∈ lw_good := a_good [323, 325, 327, 329, 331, 333, 335, 337, 339, 341, 343, 345] (by decide +kernel) (by decide +kernel)
theorem a_cw2 : ∀ w ∈ u_ws RX2 TX2 3, w ∈ lw_good := a_good [269, 271, 273] (by decide +kernel) (by decide +kernel)
theorem a_cw3 : ∀ w ∈ u_ws RX3 TX3 15, w ∈ lw_good := a_good [234, 236, 238, 240, 242, 244, 246, 248, 250, 252, 254, 256, 258, 260, 262] (by decide +kernel) (by decide +kernel)
theorem a_cw4 : ∀ w ∈ u_ws RX4 TX4 4, w ∈ lw_good := a_good [360, 362, 364, 366] (by decide +kernel) (by decide +kernel)
theorem a_cw5 : ∀ w ∈ u_ws RX5 TX5 2, w ∈ lw_good := a_good [151, 153] (by decide +kernel) (by decide +kernel)
theorem a_cw6 : ∀ w ∈ u_ws RX6 TX6 7, w ∈ lw_good := a_good [126, 128, 130, 132, 134, 136, 138] (by decide +kernel) (by decide +kernel)
theorem a_cw7 : ∀ w ∈ u_ws RX7 TX7 8, w ∈ lw_good := a_good [88, 90, 92, 94, 96, 98, 100, 102] (by decide +kernel) (by decide +kernel)
theorem a_cw8 : ∀ w ∈ u_ws RX8 TX8 16, w ∈ lw_good := a_good [556, 558, 560, 562, 564, 566, 568, 570, 572, 574, 576, 578, 580, 582, 584, 586] (by decide +kernel) (by decide +kernel)
theorem a_cw9 : ∀ w ∈ u_ws RL TL 33, w ∈ lw_good := a_good [630, 632, 634, 636, 638, 640, 642, 644, 646, 648, 650, 652, 654, 656, 658, 660, 662, 664, 666, 668, 670, 672, 674, 676, 678, 680, 682, 684, 686, 688, 690, 692, 694] (by decide +kernel) (by decide +kernel)
theorem a_cw10 : ∀ w ∈ u_ws RJ4 TJ4 4, w ∈ lw_good := a_good [1333, 1335, 1337, 1339] (by decide +kernel) (by decide +kernel)
theorem a_cw {ci : Nat} (h : ci < 11) : ∀ w ∈ u_ws (a_cn ci) (a_T ci) (a_nf ci), w ∈ lw_good := by
  match ci, h with
  | 0, _ => exact a_cw0
  | 1, _ => exact a_cw1
  | 2, _ => exact a_cw2
  | 3, _ => exact a_cw3
  | 4, _ => exact a_cw4
  | 5, _ => exact a_cw5
  | 6, _ => exact a_cw6
  | 7, _ => exact a_cw7
  | 8, _ => exact a_cw8
  | 9, _ => exact a_cw9
  | 10, _ => exact a_cw10
section AST
variable {p : Program} {l : Launch} {e : Env} {R : Room} {s : State} {H0 : Heap} {m : MethodId} {args : Array Value} {below : List Frame} {meth : Method} {c : Code} {Q : State → Prop}
variable {D : va_G} {A : Nat → Prop} {nL : Nat} {ad0 : Nat → Nat} {n0 : Nat} {cc : ByteArray} {own : String} {xs : Nat → Int32} {L : Nat} {ini : Bool} {pc : Nat} {ls st : List Value} {h : a_H} {cb nb : Nat} {z : a_S}
theorem a_ldcSW {q : Nat} {tx : String} {index : Nat} {locs : List Loc} {cells slots : Nat} {H : Heap} {ls : Array Slot} {rest : List Value} (hexec : p.tables.exec = Jvm.exec) (hb : c.code = cc) (hown : s.vm.findClass own = some m.cls) (hZ : vk_R own index tx q s) (hdg : decode cc pc = .ok (.ldc_w index, 3))
    (k : W p l e R s m args below meth c H locs cells slots Q (F0 m (pc + 3) ls (.ref q :: rest))) : W p l e R s m args below meth c H locs cells slots Q (F0 m pc ls rest) := by
  intro T hT X
  obtain ⟨t, a1, b1⟩ := k T hT X
  exact ⟨t, X.ldcStringW hexec hown (text := tx) (a := q) hZ.1 hZ.2 (g := F0 m pc ls rest) rfl (by rw [hb]; exact hdg) t a1, b1⟩
theorem a_iconst (X : a_cx p s H0 m args meth c cc own nL A xs L ad0 ini) {n : Int} (hd : decode cc pc = .ok (.iconst n, 1)) {a b : Nat}  (hz : a_ins xs L (.iconst n) a b pc ls st h cb nb = some z) (k : a_GS p l e R s H0 m args below meth c Q D A nL ad0 n0 z) : a_G p l e R s H0 m args below meth c Q D A nL ad0 n0 pc ls st h cb nb := by
  simp only [a_ins] at hz
  cases hz
  intro ad ca H locs cells slots ls' h1 h2 h3 h4 h5 h6 h7 h8 h9 h10
  refine lv_iconst X.1 X.2.1 hd rfl ?_
  exact k ad ca H locs cells slots ls' h1 h2 h3 h4 (a_oks_cons.mpr ⟨a_okv_int _ _, h5⟩) h6 h7 h8 h9 h10
theorem a_bipush (X : a_cx p s H0 m args meth c cc own nL A xs L ad0 ini) {n : Int} (hd : decode cc pc = .ok (.bipush n, 2)) {a b : Nat}  (hz : a_ins xs L (.bipush n) a b pc ls st h cb nb = some z) (k : a_GS p l e R s H0 m args below meth c Q D A nL ad0 n0 z) : a_G p l e R s H0 m args below meth c Q D A nL ad0 n0 pc ls st h cb nb := by
  simp only [a_ins] at hz
  cases hz
  intro ad ca H locs cells slots ls' h1 h2 h3 h4 h5 h6 h7 h8 h9 h10
  refine lv_bipush X.1 X.2.1 hd rfl ?_
  exact k ad ca H locs cells slots ls' h1 h2 h3 h4 (a_oks_cons.mpr ⟨a_okv_int _ _, h5⟩) h6 h7 h8 h9 h10
theorem a_sipush (X : a_cx p s H0 m args meth c cc own nL A xs L ad0 ini) {n : Int} (hd : decode cc pc = .ok (.sipush n, 3)) {a b : Nat}  (hz : a_ins xs L (.sipush n) a b pc ls st h cb nb = some z) (k : a_GS p l e R s H0 m args below meth c Q D A nL ad0 n0 z) : a_G p l e R s H0 m args below meth c Q D A nL ad0 n0 pc ls st h cb nb := by
  simp only [a_ins] at hz
  cases hz
  intro ad ca H locs cells slots ls' h1 h2 h3 h4 h5 h6 h7 h8 h9 h10
  refine lv_sipush X.1 X.2.1 hd rfl ?_
  exact k ad ca H locs cells slots ls' h1 h2 h3 h4 (a_oks_cons.mpr ⟨a_okv_int _ _, h5⟩) h6 h7 h8 h9 h10
theorem a_lconst (X : a_cx p s H0 m args meth c cc own nL A xs L ad0 ini) {n : Fin 2} (hd : decode cc pc = .ok (.lconst n, 1)) {a b : Nat}  (hz : a_ins xs L (.lconst n) a b pc ls st h cb nb = some z) (k : a_GS p l e R s H0 m args below meth c Q D A nL ad0 n0 z) : a_G p l e R s H0 m args below meth c Q D A nL ad0 n0 pc ls st h cb nb := by
  simp only [a_ins] at hz
  cases hz
  intro ad ca H locs cells slots ls' h1 h2 h3 h4 h5 h6 h7 h8 h9 h10
  refine lv_lconst X.1 X.2.1 hd rfl ?_
  exact k ad ca H locs cells slots ls' h1 h2 h3 h4 (a_oks_cons.mpr ⟨a_okv_long _ _, h5⟩) h6 h7 h8 h9 h10
theorem a_fconst (X : a_cx p s H0 m args meth c cc own nL A xs L ad0 ini) {n : Fin 3} (hd : decode cc pc = .ok (.fconst n, 1)) {a b : Nat}  (hz : a_ins xs L (.fconst n) a b pc ls st h cb nb = some z) (k : a_GS p l e R s H0 m args below meth c Q D A nL ad0 n0 z) : a_G p l e R s H0 m args below meth c Q D A nL ad0 n0 pc ls st h cb nb := by
  simp only [a_ins] at hz
  split at hz
  · rename_i hn
    subst hn
    cases hz
    intro ad ca H locs cells slots ls' h1 h2 h3 h4 h5 h6 h7 h8 h9 h10
    refine lv_fconst0 X.1 X.2.1 hd ?_
    exact k ad ca H locs cells slots ls' h1 h2 h3 h4 (a_oks_cons.mpr ⟨a_okv_fl _ _, h5⟩) h6 h7 h8 h9 h10
  · cases hz
theorem a_dconst (X : a_cx p s H0 m args meth c cc own nL A xs L ad0 ini) {n : Fin 2} (hd : decode cc pc = .ok (.dconst n, 1)) {a b : Nat}  (hz : a_ins xs L (.dconst n) a b pc ls st h cb nb = some z) (k : a_GS p l e R s H0 m args below meth c Q D A nL ad0 n0 z) : a_G p l e R s H0 m args below meth c Q D A nL ad0 n0 pc ls st h cb nb := by
  simp only [a_ins] at hz
  split at hz
  · rename_i hn
    subst hn
    cases hz
    intro ad ca H locs cells slots ls' h1 h2 h3 h4 h5 h6 h7 h8 h9 h10
    refine lv_dconst0 X.1 X.2.1 hd ?_
    exact k ad ca H locs cells slots ls' h1 h2 h3 h4 (a_oks_cons.mpr ⟨a_okv_db _ _, h5⟩) h6 h7 h8 h9 h10
  · cases hz
theorem a_ldc (X : a_cx p s H0 m args meth c cc own nL A xs L ad0 ini) {n : Nat} (hd : decode cc pc = .ok (.ldc n, 2)) {a b : Nat} (hs : (a_big ≤ a ∧ Cond.constant own n (Int32.ofNat (a - a_big)) ∈ lw_good) ∨ (¬ a_big ≤ a ∧ ∃ tx, (own, n, tx, a) ∈ a_strs)) (hz : a_ins xs L (.ldc n) a b pc ls st h cb nb = some z) (k : a_GS p l e R s H0 m args below meth c Q D A nL ad0 n0 z) : a_G p l e R s H0 m args below meth c Q D A nL ad0 n0 pc ls st h cb nb := by
  simp only [a_ins] at hz
  cases hz
  rcases hs with ⟨hs0, hs⟩ | ⟨hs0, hs⟩
  · intro ad ca H locs cells slots ls' h1 h2 h3 h4 h5 h6 h7 h8 h9 h10
    rw [if_pos hs0] at k
    refine lv_ldc X.1 X.2.1 X.2.2.2.1 (X.2.2.2.2.1 _ hs) hd ?_
    exact k ad ca H locs cells slots ls' h1 h2 h3 h4 (a_oks_cons.mpr ⟨a_okv_int _ _, h5⟩) h6 h7 h8 h9 h10
  rw [if_neg hs0] at k
  intro ad ca H locs cells slots ls' h1 h2 h3 h4 h5 h6 h7 h8 h9 h10
  have e : ad (a_big + 1 + a) = ad0 (a_big + 1 + a) := h1 _ (Or.inr (by omega))
  obtain ⟨tx, ht⟩ := hs
  have hZ := X.2.2.2.2.2.2.1.2.2.1 _ ht
  refine va_ldcS (q := ad (a_big + 1 + a)) X.1 X.2.1 X.2.2.2.1 (by rw [e]; exact hZ) hd ?_
  exact k ad ca H locs cells slots ls' h1 h2 h3 h4 (a_oks_cons.mpr ⟨fun i q => by cases q; exact Or.inr (by omega), h5⟩) h6 h7 h8 h9 h10
theorem a_ldc_w (X : a_cx p s H0 m args meth c cc own nL A xs L ad0 ini) {n : Nat} (hd : decode cc pc = .ok (.ldc_w n, 3)) {a b : Nat} (hs : ∃ tx, (own, n, tx, a) ∈ a_strs) (hz : a_ins xs L (.ldc_w n) a b pc ls st h cb nb = some z) (k : a_GS p l e R s H0 m args below meth c Q D A nL ad0 n0 z) : a_G p l e R s H0 m args below meth c Q D A nL ad0 n0 pc ls st h cb nb := by
  simp only [a_ins] at hz
  cases hz
  intro ad ca H locs cells slots ls' h1 h2 h3 h4 h5 h6 h7 h8 h9 h10
  have e : ad (a_big + 1 + a) = ad0 (a_big + 1 + a) := h1 _ (Or.inr (by omega))
  obtain ⟨tx, ht⟩ := hs
  have hZ := X.2.2.2.2.2.2.1.2.2.1 _ ht
  refine a_ldcSW (q := ad (a_big + 1 + a)) X.1 X.2.1 X.2.2.2.1 (by rw [e]; exact hZ) hd ?_
  exact k ad ca H locs cells slots ls' h1 h2 h3 h4 (a_oks_cons.mpr ⟨fun i q => by cases q; exact Or.inr (by omega), h5⟩) h6 h7 h8 h9 h10
theorem a_ldc2_w (X : a_cx p s H0 m args meth c cc own nL A xs L ad0 ini) {n : Nat} (hd : decode cc pc = .ok (.ldc2_w n, 3)) {a b : Nat} (hs : Cond.constantLong own n (Int64.ofNat a) ∈ lw_good) (hz : a_ins xs L (.ldc2_w n) a b pc ls st h cb nb = some z) (k : a_GS p l e R s H0 m args below meth c Q D A nL ad0 n0 z) : a_G p l e R s H0 m args below meth c Q D A nL ad0 n0 pc ls st h cb nb := by
  simp only [a_ins] at hz
  cases hz
  intro ad ca H locs cells slots ls' h1 h2 h3 h4 h5 h6 h7 h8 h9 h10
  refine lv_ldc2 X.1 X.2.1 X.2.2.2.1 (X.2.2.2.2.1 _ hs) hd ?_
  exact k ad ca H locs cells slots ls' h1 h2 h3 h4 (a_oks_cons.mpr ⟨a_okv_long _ _, h5⟩) h6 h7 h8 h9 h10
theorem a_iload (X : a_cx p s H0 m args meth c cc own nL A xs L ad0 ini) {n : Nat} (hd : decode cc pc = .ok (.iload n, 2)) {a b : Nat}  (hz : a_ins xs L (.iload n) a b pc ls st h cb nb = some z) (k : a_GS p l e R s H0 m args below meth c Q D A nL ad0 n0 z) : a_G p l e R s H0 m args below meth c Q D A nL ad0 n0 pc ls st h cb nb := by
  simp only [a_ins, a_ldI] at hz
  split at hz
  · rename_i x he
    simp only [Option.map_some, Option.some.injEq] at hz
    subst hz
    intro ad ca H locs cells slots ls' h1 h2 h3 h4 h5 h6 h7 h8 h9 h10
    have hl := h3.2.2.2 _ _ he (fun _ q => by cases q)
    refine lv_iload X.1 X.2.1 hd hl ?_
    exact k ad ca H locs cells slots ls' h1 h2 h3 h4 (a_oks_cons.mpr ⟨a_okv_int _ _, h5⟩) h6 h7 h8 h9 h10
  · simp at hz
theorem a_iload_n (X : a_cx p s H0 m args meth c cc own nL A xs L ad0 ini) {n : Fin 4} (hd : decode cc pc = .ok (.iload_n n, 1)) {a b : Nat}  (hz : a_ins xs L (.iload_n n) a b pc ls st h cb nb = some z) (k : a_GS p l e R s H0 m args below meth c Q D A nL ad0 n0 z) : a_G p l e R s H0 m args below meth c Q D A nL ad0 n0 pc ls st h cb nb := by
  simp only [a_ins, a_ldI] at hz
  split at hz
  · rename_i x he
    simp only [Option.map_some, Option.some.injEq] at hz
    subst hz
    intro ad ca H locs cells slots ls' h1 h2 h3 h4 h5 h6 h7 h8 h9 h10
    have hl := h3.2.2.2 _ _ he (fun _ q => by cases q)
    refine lv_iload_n X.1 X.2.1 hd rfl hl ?_
    exact k ad ca H locs cells slots ls' h1 h2 h3 h4 (a_oks_cons.mpr ⟨a_okv_int _ _, h5⟩) h6 h7 h8 h9 h10
  · simp at hz
theorem a_lload (X : a_cx p s H0 m args meth c cc own nL A xs L ad0 ini) {n : Nat} (hd : decode cc pc = .ok (.lload n, 2)) {a b : Nat}  (hz : a_ins xs L (.lload n) a b pc ls st h cb nb = some z) (k : a_GS p l e R s H0 m args below meth c Q D A nL ad0 n0 z) : a_G p l e R s H0 m args below meth c Q D A nL ad0 n0 pc ls st h cb nb := by
  simp only [a_ins, a_ldL] at hz
  split at hz
  · rename_i x he
    simp only [Option.map_some, Option.some.injEq] at hz
    subst hz
    intro ad ca H locs cells slots ls' h1 h2 h3 h4 h5 h6 h7 h8 h9 h10
    have hl := h3.2.2.2 _ _ he (fun _ q => by cases q)
    refine lv_lload X.1 X.2.1 hd hl ?_
    exact k ad ca H locs cells slots ls' h1 h2 h3 h4 (a_oks_cons.mpr ⟨a_okv_long _ _, h5⟩) h6 h7 h8 h9 h10
  · simp at hz
theorem a_lload_n (X : a_cx p s H0 m args meth c cc own nL A xs L ad0 ini) {n : Fin 4} (hd : decode cc pc = .ok (.lload_n n, 1)) {a b : Nat}  (hz : a_ins xs L (.lload_n n) a b pc ls st h cb nb = some z) (k : a_GS p l e R s H0 m args below meth c Q D A nL ad0 n0 z) : a_G p l e R s H0 m args below meth c Q D A nL ad0 n0 pc ls st h cb nb := by
  simp only [a_ins, a_ldL] at hz
  split at hz
  · rename_i x he
    simp only [Option.map_some, Option.some.injEq] at hz
    subst hz
    intro ad ca H locs cells slots ls' h1 h2 h3 h4 h5 h6 h7 h8 h9 h10
    have hl := h3.2.2.2 _ _ he (fun _ q => by cases q)
    refine lv_lload_n X.1 X.2.1 hd rfl hl ?_
    exact k ad ca H locs cells slots ls' h1 h2 h3 h4 (a_oks_cons.mpr ⟨a_okv_long _ _, h5⟩) h6 h7 h8 h9 h10
  · simp at hz
theorem a_dload (X : a_cx p s H0 m args meth c cc own nL A xs L ad0 ini) {n : Nat} (hd : decode cc pc = .ok (.dload n, 2)) {a b : Nat}  (hz : a_ins xs L (.dload n) a b pc ls st h cb nb = some z) (k : a_GS p l e R s H0 m args below meth c Q D A nL ad0 n0 z) : a_G p l e R s H0 m args below meth c Q D A nL ad0 n0 pc ls st h cb nb := by
  simp only [a_ins, a_ldD] at hz
  split at hz
  · rename_i x he
    simp only [Option.map_some, Option.some.injEq] at hz
    subst hz
    intro ad ca H locs cells slots ls' h1 h2 h3 h4 h5 h6 h7 h8 h9 h10
    have hl := h3.2.2.2 _ _ he (fun _ q => by cases q)
    refine lv_dload X.1 X.2.1 hd hl ?_
    exact k ad ca H locs cells slots ls' h1 h2 h3 h4 (a_oks_cons.mpr ⟨a_okv_db _ _, h5⟩) h6 h7 h8 h9 h10
  · simp at hz
theorem a_dload_n (X : a_cx p s H0 m args meth c cc own nL A xs L ad0 ini) {n : Fin 4} (hd : decode cc pc = .ok (.dload_n n, 1)) {a b : Nat}  (hz : a_ins xs L (.dload_n n) a b pc ls st h cb nb = some z) (k : a_GS p l e R s H0 m args below meth c Q D A nL ad0 n0 z) : a_G p l e R s H0 m args below meth c Q D A nL ad0 n0 pc ls st h cb nb := by
  simp only [a_ins, a_ldD] at hz
  split at hz
  · rename_i x he
    simp only [Option.map_some, Option.some.injEq] at hz
    subst hz
    intro ad ca H locs cells slots ls' h1 h2 h3 h4 h5 h6 h7 h8 h9 h10
    have hl := h3.2.2.2 _ _ he (fun _ q => by cases q)
    refine lv_dload_n X.1 X.2.1 hd rfl hl ?_
    exact k ad ca H locs cells slots ls' h1 h2 h3 h4 (a_oks_cons.mpr ⟨a_okv_db _ _, h5⟩) h6 h7 h8 h9 h10
  · simp at hz
theorem a_aload (X : a_cx p s H0 m args meth c cc own nL A xs L ad0 ini) {n : Nat} (hd : decode cc pc = .ok (.aload n, 2)) {a b : Nat}  (hz : a_ins xs L (.aload n) a b pc ls st h cb nb = some z) (k : a_GS p l e R s H0 m args below meth c Q D A nL ad0 n0 z) : a_G p l e R s H0 m args below meth c Q D A nL ad0 n0 pc ls st h cb nb := by
  simp only [a_ins, a_ldA] at hz
  split at hz
  · rename_i x he
    simp only [Option.map_some, Option.some.injEq] at hz
    subst hz
    intro ad ca H locs cells slots ls' h1 h2 h3 h4 h5 h6 h7 h8 h9 h10
    have hl := h3.2.2.2 _ _ he (fun _ q => by cases q)
    refine lv_aload X.1 X.2.1 hd hl ?_
    exact k ad ca H locs cells slots ls' h1 h2 h3 h4 (a_oks_cons.mpr ⟨a_oks_at h4 he, h5⟩) h6 h7 h8 h9 h10
  · simp at hz
theorem a_aload_n (X : a_cx p s H0 m args meth c cc own nL A xs L ad0 ini) {n : Fin 4} (hd : decode cc pc = .ok (.aload_n n, 1)) {a b : Nat}  (hz : a_ins xs L (.aload_n n) a b pc ls st h cb nb = some z) (k : a_GS p l e R s H0 m args below meth c Q D A nL ad0 n0 z) : a_G p l e R s H0 m args below meth c Q D A nL ad0 n0 pc ls st h cb nb := by
  simp only [a_ins, a_ldA] at hz
  split at hz
  · rename_i x he
    simp only [Option.map_some, Option.some.injEq] at hz
    subst hz
    intro ad ca H locs cells slots ls' h1 h2 h3 h4 h5 h6 h7 h8 h9 h10
    have hl := h3.2.2.2 _ _ he (fun _ q => by cases q)
    refine lv_aload_n X.1 X.2.1 hd rfl hl ?_
    exact k ad ca H locs cells slots ls' h1 h2 h3 h4 (a_oks_cons.mpr ⟨a_oks_at h4 he, h5⟩) h6 h7 h8 h9 h10
  · simp at hz
theorem a_istore (X : a_cx p s H0 m args meth c cc own nL A xs L ad0 ini) {n : Nat} (hd : decode cc pc = .ok (.istore n, 2)) {a b : Nat}  (hz : a_ins xs L (.istore n) a b pc ls st h cb nb = some z) (k : a_GS p l e R s H0 m args below meth c Q D A nL ad0 n0 z) : a_G p l e R s H0 m args below meth c Q D A nL ad0 n0 pc ls st h cb nb := by
  simp only [a_ins] at hz
  split at hz
  · split at hz
    · rename_i hk
      cases hz
      intro ad ca H locs cells slots ls' h1 h2 h3 h4 h5 h6 h7 h8 h9 h10
      rw [a_oks_cons] at h5
      refine lv_istore (nL := nL) (lv := a_as ad ls) X.1 X.2.1 hd h3.has (by rw [← h3.2.2.1]; exact hk) rfl (fun ls2 hl2 => ?_)
      exact k ad ca H locs cells slots ls2 h1 h2 (a_L.sto1 (v := .int _) h3 hk rfl hl2) (a_oks_sto h4 _ h5.1) h5.2 h6 h7 h8 h9 h10
    · cases hz
  · cases hz
theorem a_istore_n (X : a_cx p s H0 m args meth c cc own nL A xs L ad0 ini) {n : Fin 4} (hd : decode cc pc = .ok (.istore_n n, 1)) {a b : Nat}  (hz : a_ins xs L (.istore_n n) a b pc ls st h cb nb = some z) (k : a_GS p l e R s H0 m args below meth c Q D A nL ad0 n0 z) : a_G p l e R s H0 m args below meth c Q D A nL ad0 n0 pc ls st h cb nb := by
  simp only [a_ins] at hz
  split at hz
  · split at hz
    · rename_i hk
      cases hz
      intro ad ca H locs cells slots ls' h1 h2 h3 h4 h5 h6 h7 h8 h9 h10
      rw [a_oks_cons] at h5
      refine lv_istore_n (nL := nL) (lv := a_as ad ls) X.1 X.2.1 hd rfl h3.has (by rw [← h3.2.2.1]; exact hk) rfl (fun ls2 hl2 => ?_)
      exact k ad ca H locs cells slots ls2 h1 h2 (a_L.sto1 (v := .int _) h3 hk rfl hl2) (a_oks_sto h4 _ h5.1) h5.2 h6 h7 h8 h9 h10
    · cases hz
  · cases hz
theorem a_astore (X : a_cx p s H0 m args meth c cc own nL A xs L ad0 ini) {n : Nat} (hd : decode cc pc = .ok (.astore n, 2)) {a b : Nat}  (hz : a_ins xs L (.astore n) a b pc ls st h cb nb = some z) (k : a_GS p l e R s H0 m args below meth c Q D A nL ad0 n0 z) : a_G p l e R s H0 m args below meth c Q D A nL ad0 n0 pc ls st h cb nb := by
  simp only [a_ins] at hz
  split at hz
  · split at hz
    · rename_i hk
      cases hz
      intro ad ca H locs cells slots ls' h1 h2 h3 h4 h5 h6 h7 h8 h9 h10
      rw [a_oks_cons] at h5
      refine lv_astore (nL := nL) (lv := a_as ad ls) X.1 X.2.1 hd h3.has (by rw [← h3.2.2.1]; exact hk) rfl (fun ls2 hl2 => ?_)
      exact k ad ca H locs cells slots ls2 h1 h2 (a_L.sto1 (v := .ref _) h3 hk rfl hl2) (a_oks_sto h4 _ h5.1) h5.2 h6 h7 h8 h9 h10
    · cases hz
  · cases hz
theorem a_astore_n (X : a_cx p s H0 m args meth c cc own nL A xs L ad0 ini) {n : Fin 4} (hd : decode cc pc = .ok (.astore_n n, 1)) {a b : Nat}  (hz : a_ins xs L (.astore_n n) a b pc ls st h cb nb = some z) (k : a_GS p l e R s H0 m args below meth c Q D A nL ad0 n0 z) : a_G p l e R s H0 m args below meth c Q D A nL ad0 n0 pc ls st h cb nb := by
  simp only [a_ins] at hz
  split at hz
  · split at hz
    · rename_i hk
      cases hz
      intro ad ca H locs cells slots ls' h1 h2 h3 h4 h5 h6 h7 h8 h9 h10
      rw [a_oks_cons] at h5
      refine lv_astore_n (nL := nL) (lv := a_as ad ls) X.1 X.2.1 hd rfl h3.has (by rw [← h3.2.2.1]; exact hk) rfl (fun ls2 hl2 => ?_)
      exact k ad ca H locs cells slots ls2 h1 h2 (a_L.sto1 (v := .ref _) h3 hk rfl hl2) (a_oks_sto h4 _ h5.1) h5.2 h6 h7 h8 h9 h10
    · cases hz
  · cases hz
theorem a_dstore (X : a_cx p s H0 m args meth c cc own nL A xs L ad0 ini) {n : Nat} (hd : decode cc pc = .ok (.dstore n, 2)) {a b : Nat}  (hz : a_ins xs L (.dstore n) a b pc ls st h cb nb = some z) (k : a_GS p l e R s H0 m args below meth c Q D A nL ad0 n0 z) : a_G p l e R s H0 m args below meth c Q D A nL ad0 n0 pc ls st h cb nb := by
  simp only [a_ins] at hz
  split at hz
  · split at hz
    · rename_i hk
      cases hz
      intro ad ca H locs cells slots ls' h1 h2 h3 h4 h5 h6 h7 h8 h9 h10
      rw [a_oks_cons] at h5
      refine lv_dstore (nL := nL) (lv := a_as ad ls) X.1 X.2.1 hd h3.has (by rw [← h3.2.2.1]; exact hk) rfl (fun ls2 hl2 => ?_)
      exact k ad ca H locs cells slots ls2 h1 h2 (a_L.sto2 (v := .double _) h3 hk rfl hl2) (a_oks_sto h4 _ h5.1) h5.2 h6 h7 h8 h9 h10
    · cases hz
  · cases hz
theorem a_iinc (X : a_cx p s H0 m args meth c cc own nL A xs L ad0 ini) {n : Nat} {d : Int} (hd : decode cc pc = .ok (.iinc n d, 3)) {a b : Nat}  (hz : a_ins xs L (.iinc n d) a b pc ls st h cb nb = some z) (k : a_GS p l e R s H0 m args below meth c Q D A nL ad0 n0 z) : a_G p l e R s H0 m args below meth c Q D A nL ad0 n0 pc ls st h cb nb := by
  simp only [a_ins] at hz
  split at hz
  · rename_i x he
    cases hz
    intro ad ca H locs cells slots ls' h1 h2 h3 h4 h5 h6 h7 h8 h9 h10
    have hk := (List.getElem?_eq_some_iff.mp he).1
    obtain ⟨j, hj⟩ := List.getElem?_of_mem (a_as_mem (ad := ad) he (fun _ q => by cases q))
    refine lv_iinc (nL := nL) (lv := a_as ad ls) (k := j) X.1 X.2.1 hd h3.has hj rfl (by rw [← h3.2.2.1]; exact hk) rfl (fun ls2 hl2 => ?_)
    exact k ad ca H locs cells slots ls2 h1 h2 (a_L.sto1 (v := .int _) h3 hk rfl hl2) (a_oks_sto h4 _ (a_okv_int _ _)) h5 h6 h7 h8 h9 h10
  · cases hz
theorem a_iadd (X : a_cx p s H0 m args meth c cc own nL A xs L ad0 ini)  (hd : decode cc pc = .ok (.iadd, 1)) {a b : Nat}  (hz : a_ins xs L (.iadd) a b pc ls st h cb nb = some z) (k : a_GS p l e R s H0 m args below meth c Q D A nL ad0 n0 z) : a_G p l e R s H0 m args below meth c Q D A nL ad0 n0 pc ls st h cb nb := by
  simp only [a_ins] at hz
  split at hz
  · cases hz
    intro ad ca H locs cells slots ls' h1 h2 h3 h4 h5 h6 h7 h8 h9 h10
    simp only [a_oks_cons] at h5
    refine lv_iadd X.1 X.2.1 hd ?_
    exact k ad ca H locs cells slots ls' h1 h2 h3 h4 (a_oks_cons.mpr ⟨a_okv_int _ _, h5.2.2⟩) h6 h7 h8 h9 h10
  · cases hz
theorem a_isub (X : a_cx p s H0 m args meth c cc own nL A xs L ad0 ini)  (hd : decode cc pc = .ok (.isub, 1)) {a b : Nat}  (hz : a_ins xs L (.isub) a b pc ls st h cb nb = some z) (k : a_GS p l e R s H0 m args below meth c Q D A nL ad0 n0 z) : a_G p l e R s H0 m args below meth c Q D A nL ad0 n0 pc ls st h cb nb := by
  simp only [a_ins] at hz
  split at hz
  · cases hz
    intro ad ca H locs cells slots ls' h1 h2 h3 h4 h5 h6 h7 h8 h9 h10
    simp only [a_oks_cons] at h5
    refine lv_isub X.1 X.2.1 hd ?_
    exact k ad ca H locs cells slots ls' h1 h2 h3 h4 (a_oks_cons.mpr ⟨a_okv_int _ _, h5.2.2⟩) h6 h7 h8 h9 h10
  · cases hz
theorem a_imul (X : a_cx p s H0 m args meth c cc own nL A xs L ad0 ini)  (hd : decode cc pc = .ok (.imul, 1)) {a b : Nat}  (hz : a_ins xs L (.imul) a b pc ls st h cb nb = some z) (k : a_GS p l e R s H0 m args below meth c Q D A nL ad0 n0 z) : a_G p l e R s H0 m args below meth c Q D A nL ad0 n0 pc ls st h cb nb := by
  simp only [a_ins] at hz
  split at hz
  · cases hz
    intro ad ca H locs cells slots ls' h1 h2 h3 h4 h5 h6 h7 h8 h9 h10
    simp only [a_oks_cons] at h5
    refine lv_imul X.1 X.2.1 hd ?_
    exact k ad ca H locs cells slots ls' h1 h2 h3 h4 (a_oks_cons.mpr ⟨a_okv_int _ _, h5.2.2⟩) h6 h7 h8 h9 h10
  · cases hz
theorem a_iand (X : a_cx p s H0 m args meth c cc own nL A xs L ad0 ini)  (hd : decode cc pc = .ok (.iand, 1)) {a b : Nat}  (hz : a_ins xs L (.iand) a b pc ls st h cb nb = some z) (k : a_GS p l e R s H0 m args below meth c Q D A nL ad0 n0 z) : a_G p l e R s H0 m args below meth c Q D A nL ad0 n0 pc ls st h cb nb := by
  simp only [a_ins] at hz
  split at hz
  · cases hz
    intro ad ca H locs cells slots ls' h1 h2 h3 h4 h5 h6 h7 h8 h9 h10
    simp only [a_oks_cons] at h5
    refine lv_iand X.1 X.2.1 hd ?_
    exact k ad ca H locs cells slots ls' h1 h2 h3 h4 (a_oks_cons.mpr ⟨a_okv_int _ _, h5.2.2⟩) h6 h7 h8 h9 h10
  · cases hz
theorem a_ior (X : a_cx p s H0 m args meth c cc own nL A xs L ad0 ini)  (hd : decode cc pc = .ok (.ior, 1)) {a b : Nat}  (hz : a_ins xs L (.ior) a b pc ls st h cb nb = some z) (k : a_GS p l e R s H0 m args below meth c Q D A nL ad0 n0 z) : a_G p l e R s H0 m args below meth c Q D A nL ad0 n0 pc ls st h cb nb := by
  simp only [a_ins] at hz
  split at hz
  · cases hz
    intro ad ca H locs cells slots ls' h1 h2 h3 h4 h5 h6 h7 h8 h9 h10
    simp only [a_oks_cons] at h5
    refine lv_ior X.1 X.2.1 hd ?_
    exact k ad ca H locs cells slots ls' h1 h2 h3 h4 (a_oks_cons.mpr ⟨a_okv_int _ _, h5.2.2⟩) h6 h7 h8 h9 h10
  · cases hz
theorem a_ishl (X : a_cx p s H0 m args meth c cc own nL A xs L ad0 ini)  (hd : decode cc pc = .ok (.ishl, 1)) {a b : Nat}  (hz : a_ins xs L (.ishl) a b pc ls st h cb nb = some z) (k : a_GS p l e R s H0 m args below meth c Q D A nL ad0 n0 z) : a_G p l e R s H0 m args below meth c Q D A nL ad0 n0 pc ls st h cb nb := by
  simp only [a_ins] at hz
  split at hz
  · cases hz
    intro ad ca H locs cells slots ls' h1 h2 h3 h4 h5 h6 h7 h8 h9 h10
    simp only [a_oks_cons] at h5
    refine lv_ishl X.1 X.2.1 hd ?_
    exact k ad ca H locs cells slots ls' h1 h2 h3 h4 (a_oks_cons.mpr ⟨a_okv_int _ _, h5.2.2⟩) h6 h7 h8 h9 h10
  · cases hz
theorem a_ishr (X : a_cx p s H0 m args meth c cc own nL A xs L ad0 ini)  (hd : decode cc pc = .ok (.ishr, 1)) {a b : Nat}  (hz : a_ins xs L (.ishr) a b pc ls st h cb nb = some z) (k : a_GS p l e R s H0 m args below meth c Q D A nL ad0 n0 z) : a_G p l e R s H0 m args below meth c Q D A nL ad0 n0 pc ls st h cb nb := by
  simp only [a_ins] at hz
  split at hz
  · cases hz
    intro ad ca H locs cells slots ls' h1 h2 h3 h4 h5 h6 h7 h8 h9 h10
    simp only [a_oks_cons] at h5
    refine lv_ishr X.1 X.2.1 hd ?_
    exact k ad ca H locs cells slots ls' h1 h2 h3 h4 (a_oks_cons.mpr ⟨a_okv_int _ _, h5.2.2⟩) h6 h7 h8 h9 h10
  · cases hz
theorem a_iushr (X : a_cx p s H0 m args meth c cc own nL A xs L ad0 ini)  (hd : decode cc pc = .ok (.iushr, 1)) {a b : Nat}  (hz : a_ins xs L (.iushr) a b pc ls st h cb nb = some z) (k : a_GS p l e R s H0 m args below meth c Q D A nL ad0 n0 z) : a_G p l e R s H0 m args below meth c Q D A nL ad0 n0 pc ls st h cb nb := by
  simp only [a_ins] at hz
  split at hz
  · cases hz
    intro ad ca H locs cells slots ls' h1 h2 h3 h4 h5 h6 h7 h8 h9 h10
    simp only [a_oks_cons] at h5
    refine lv_iushr X.1 X.2.1 hd rfl ?_
    exact k ad ca H locs cells slots ls' h1 h2 h3 h4 (a_oks_cons.mpr ⟨a_okv_int _ _, h5.2.2⟩) h6 h7 h8 h9 h10
  · cases hz
theorem a_idiv (X : a_cx p s H0 m args meth c cc own nL A xs L ad0 ini)  (hd : decode cc pc = .ok (.idiv, 1)) {a b : Nat}  (hz : a_ins xs L (.idiv) a b pc ls st h cb nb = some z) (k : a_GS p l e R s H0 m args below meth c Q D A nL ad0 n0 z) : a_G p l e R s H0 m args below meth c Q D A nL ad0 n0 pc ls st h cb nb := by
  simp only [a_ins] at hz
  split at hz
  · split at hz
    · cases hz
    · rename_i hc
      cases hz
      intro ad ca H locs cells slots ls' h1 h2 h3 h4 h5 h6 h7 h8 h9 h10
      simp only [a_oks_cons] at h5
      refine lv_idiv X.1 X.2.1 hd hc ?_
      exact k ad ca H locs cells slots ls' h1 h2 h3 h4 (a_oks_cons.mpr ⟨a_okv_int _ _, h5.2.2⟩) h6 h7 h8 h9 h10
  · cases hz
theorem a_irem (X : a_cx p s H0 m args meth c cc own nL A xs L ad0 ini)  (hd : decode cc pc = .ok (.irem, 1)) {a b : Nat}  (hz : a_ins xs L (.irem) a b pc ls st h cb nb = some z) (k : a_GS p l e R s H0 m args below meth c Q D A nL ad0 n0 z) : a_G p l e R s H0 m args below meth c Q D A nL ad0 n0 pc ls st h cb nb := by
  simp only [a_ins] at hz
  split at hz
  · split at hz
    · cases hz
    · rename_i hc
      cases hz
      intro ad ca H locs cells slots ls' h1 h2 h3 h4 h5 h6 h7 h8 h9 h10
      simp only [a_oks_cons] at h5
      refine lv_irem X.1 X.2.1 hd hc ?_
      exact k ad ca H locs cells slots ls' h1 h2 h3 h4 (a_oks_cons.mpr ⟨a_okv_int _ _, h5.2.2⟩) h6 h7 h8 h9 h10
  · cases hz
theorem a_i2l (X : a_cx p s H0 m args meth c cc own nL A xs L ad0 ini)  (hd : decode cc pc = .ok (.i2l, 1)) {a b : Nat}  (hz : a_ins xs L (.i2l) a b pc ls st h cb nb = some z) (k : a_GS p l e R s H0 m args below meth c Q D A nL ad0 n0 z) : a_G p l e R s H0 m args below meth c Q D A nL ad0 n0 pc ls st h cb nb := by
  simp only [a_ins] at hz
  split at hz
  · cases hz
    intro ad ca H locs cells slots ls' h1 h2 h3 h4 h5 h6 h7 h8 h9 h10
    simp only [a_oks_cons] at h5
    refine lv_i2l X.1 X.2.1 hd rfl ?_
    exact k ad ca H locs cells slots ls' h1 h2 h3 h4 (a_oks_cons.mpr ⟨a_okv_long _ _, h5.2⟩) h6 h7 h8 h9 h10
  · cases hz
theorem a_i2b (X : a_cx p s H0 m args meth c cc own nL A xs L ad0 ini)  (hd : decode cc pc = .ok (.i2b, 1)) {a b : Nat}  (hz : a_ins xs L (.i2b) a b pc ls st h cb nb = some z) (k : a_GS p l e R s H0 m args below meth c Q D A nL ad0 n0 z) : a_G p l e R s H0 m args below meth c Q D A nL ad0 n0 pc ls st h cb nb := by
  simp only [a_ins] at hz
  split at hz
  · cases hz
    intro ad ca H locs cells slots ls' h1 h2 h3 h4 h5 h6 h7 h8 h9 h10
    simp only [a_oks_cons] at h5
    refine lv_i2b X.1 X.2.1 hd rfl ?_
    exact k ad ca H locs cells slots ls' h1 h2 h3 h4 (a_oks_cons.mpr ⟨a_okv_int _ _, h5.2⟩) h6 h7 h8 h9 h10
  · cases hz
theorem a_ineg (X : a_cx p s H0 m args meth c cc own nL A xs L ad0 ini)  (hd : decode cc pc = .ok (.ineg, 1)) {a b : Nat}  (hz : a_ins xs L (.ineg) a b pc ls st h cb nb = some z) (k : a_GS p l e R s H0 m args below meth c Q D A nL ad0 n0 z) : a_G p l e R s H0 m args below meth c Q D A nL ad0 n0 pc ls st h cb nb := by
  simp only [a_ins] at hz
  split at hz
  · cases hz
    intro ad ca H locs cells slots ls' h1 h2 h3 h4 h5 h6 h7 h8 h9 h10
    simp only [a_oks_cons] at h5
    refine lv_ineg X.1 X.2.1 hd ?_
    exact k ad ca H locs cells slots ls' h1 h2 h3 h4 (a_oks_cons.mpr ⟨a_okv_int _ _, h5.2⟩) h6 h7 h8 h9 h10
  · cases hz
theorem a_i2c (X : a_cx p s H0 m args meth c cc own nL A xs L ad0 ini)  (hd : decode cc pc = .ok (.i2c, 1)) {a b : Nat}  (hz : a_ins xs L (.i2c) a b pc ls st h cb nb = some z) (k : a_GS p l e R s H0 m args below meth c Q D A nL ad0 n0 z) : a_G p l e R s H0 m args below meth c Q D A nL ad0 n0 pc ls st h cb nb := by
  simp only [a_ins] at hz
  split at hz
  · cases hz
    intro ad ca H locs cells slots ls' h1 h2 h3 h4 h5 h6 h7 h8 h9 h10
    simp only [a_oks_cons] at h5
    refine lv_i2c X.1 X.2.1 hd rfl ?_
    exact k ad ca H locs cells slots ls' h1 h2 h3 h4 (a_oks_cons.mpr ⟨a_okv_int _ _, h5.2⟩) h6 h7 h8 h9 h10
  · cases hz
theorem a_dup_x1 (X : a_cx p s H0 m args meth c cc own nL A xs L ad0 ini)  (hd : decode cc pc = .ok (.dup_x1, 1)) {a b : Nat}  (hz : a_ins xs L (.dup_x1) a b pc ls st h cb nb = some z) (k : a_GS p l e R s H0 m args below meth c Q D A nL ad0 n0 z) : a_G p l e R s H0 m args below meth c Q D A nL ad0 n0 pc ls st h cb nb := by
  simp only [a_ins] at hz
  split at hz
  · split at hz
    · rename_i hc
      cases hz
      intro ad ca H locs cells slots ls' h1 h2 h3 h4 h5 h6 h7 h8 h9 h10
      have h5' := a_oks_cons.mp h5
      have h5'' := a_oks_cons.mp h5'.2
      refine lv_dup_x1 X.1 X.2.1 hd (by rw [a_cat]; exact hc.1) (by rw [a_cat]; exact hc.2) ?_
      exact k ad ca H locs cells slots ls' h1 h2 h3 h4 (a_oks_cons.mpr ⟨h5'.1, a_oks_cons.mpr ⟨h5''.1, a_oks_cons.mpr ⟨h5'.1, h5''.2⟩⟩⟩) h6 h7 h8 h9 h10
    · cases hz
  · cases hz
theorem a_ifnonnull (X : a_cx p s H0 m args meth c cc own nL A xs L ad0 ini) {off : Int} (hd : decode cc pc = .ok (.ifnonnull off, 3)) {a b : Nat}  (hz : a_ins xs L (.ifnonnull off) a b pc ls st h cb nb = some z) (k : a_GS p l e R s H0 m args below meth c Q D A nL ad0 n0 z) : a_G p l e R s H0 m args below meth c Q D A nL ad0 n0 pc ls st h cb nb := by
  simp only [a_ins] at hz
  split at hz
  · split at hz
    · rename_i hnn
      cases hz
      intro ad ca H locs cells slots ls' h1 h2 h3 h4 h5 h6 h7 h8 h9 h10
      refine lv_ifnonnull X.1 X.2.1 hd (Int.toNat_of_nonneg hnn).symm ?_
      exact k ad ca H locs cells slots ls' h1 h2 h3 h4 (a_oks_cons.mp h5).2 h6 h7 h8 h9 h10
    · cases hz
  · cases hz
theorem a_Dig.at {xs : Nat → Int32} {L : Nat} {ad : Nat → Nat} {A : Nat → Prop} {U : State} {H : Heap} (h : a_Amb xs L ad A U H) {w : Nat} (hw : w < 2) : va_Z "java/lang/Integer" (if w = 0 then "DigitOnes" else "DigitTens") "[B" (.ref (ad (a_big + 500 + w))) A U H ∧ va_T .byte (ad (a_big + 500 + w)) 100 (fun j => .int (a_dig w j)) A U H := h.1.2.2.2.2 w hw
theorem a_i2d (X : a_cx p s H0 m args meth c cc own nL A xs L ad0 ini)  (hd : decode cc pc = .ok (.i2d, 1)) {a b : Nat}  (hz : a_ins xs L (.i2d) a b pc ls st h cb nb = some z) (k : a_GS p l e R s H0 m args below meth c Q D A nL ad0 n0 z) : a_G p l e R s H0 m args below meth c Q D A nL ad0 n0 pc ls st h cb nb := by
  simp only [a_ins] at hz
  split at hz
  · cases hz
    intro ad ca H locs cells slots ls' h1 h2 h3 h4 h5 h6 h7 h8 h9 h10
    simp only [a_oks_cons] at h5
    refine lv_i2d X.1 X.2.1 hd ?_
    exact k ad ca H locs cells slots ls' h1 h2 h3 h4 (a_oks_cons.mpr ⟨a_okv_db _ _, h5.2⟩) h6 h7 h8 h9 h10
  · cases hz
theorem a_i2f (X : a_cx p s H0 m args meth c cc own nL A xs L ad0 ini)  (hd : decode cc pc = .ok (.i2f, 1)) {a b : Nat}  (hz : a_ins xs L (.i2f) a b pc ls st h cb nb = some z) (k : a_GS p l e R s H0 m args below meth c Q D A nL ad0 n0 z) : a_G p l e R s H0 m args below meth c Q D A nL ad0 n0 pc ls st h cb nb := by
  simp only [a_ins] at hz
  split at hz
  · cases hz
    intro ad ca H locs cells slots ls' h1 h2 h3 h4 h5 h6 h7 h8 h9 h10
    simp only [a_oks_cons] at h5
    refine lv_i2f X.1 X.2.1 hd ?_
    exact k ad ca H locs cells slots ls' h1 h2 h3 h4 (a_oks_cons.mpr ⟨a_okv_fl _ _, h5.2⟩) h6 h7 h8 h9 h10
  · cases hz
theorem a_f2d (X : a_cx p s H0 m args meth c cc own nL A xs L ad0 ini)  (hd : decode cc pc = .ok (.f2d, 1)) {a b : Nat}  (hz : a_ins xs L (.f2d) a b pc ls st h cb nb = some z) (k : a_GS p l e R s H0 m args below meth c Q D A nL ad0 n0 z) : a_G p l e R s H0 m args below meth c Q D A nL ad0 n0 pc ls st h cb nb := by
  simp only [a_ins] at hz
  split at hz
  · split at hz
    · rename_i hc
      cases hz
      intro ad ca H locs cells slots ls' h1 h2 h3 h4 h5 h6 h7 h8 h9 h10
      simp only [a_oks_cons] at h5
      refine lv_f2d X.1 X.2.1 hd hc ?_
      exact k ad ca H locs cells slots ls' h1 h2 h3 h4 (a_oks_cons.mpr ⟨a_okv_db _ _, h5.2⟩) h6 h7 h8 h9 h10
    · cases hz
  · cases hz
theorem a_ddiv (X : a_cx p s H0 m args meth c cc own nL A xs L ad0 ini)  (hd : decode cc pc = .ok (.ddiv, 1)) {a b : Nat}  (hz : a_ins xs L (.ddiv) a b pc ls st h cb nb = some z) (k : a_GS p l e R s H0 m args below meth c Q D A nL ad0 n0 z) : a_G p l e R s H0 m args below meth c Q D A nL ad0 n0 pc ls st h cb nb := by
  simp only [a_ins] at hz
  split at hz
  · split at hz
    · rename_i hc
      cases hz
      intro ad ca H locs cells slots ls' h1 h2 h3 h4 h5 h6 h7 h8 h9 h10
      simp only [a_oks_cons] at h5
      refine lv_ddiv X.1 X.2.1 hd hc ?_
      exact k ad ca H locs cells slots ls' h1 h2 h3 h4 (a_oks_cons.mpr ⟨a_okv_db _ _, h5.2.2⟩) h6 h7 h8 h9 h10
    · cases hz
  · cases hz
theorem a_fdiv (X : a_cx p s H0 m args meth c cc own nL A xs L ad0 ini)  (hd : decode cc pc = .ok (.fdiv, 1)) {a b : Nat}  (hz : a_ins xs L (.fdiv) a b pc ls st h cb nb = some z) (k : a_GS p l e R s H0 m args below meth c Q D A nL ad0 n0 z) : a_G p l e R s H0 m args below meth c Q D A nL ad0 n0 pc ls st h cb nb := by
  simp only [a_ins] at hz
  split at hz
  · split at hz
    · rename_i hc
      cases hz
      intro ad ca H locs cells slots ls' h1 h2 h3 h4 h5 h6 h7 h8 h9 h10
      simp only [a_oks_cons] at h5
      refine lv_fdiv X.1 X.2.1 hd hc ?_
      exact k ad ca H locs cells slots ls' h1 h2 h3 h4 (a_oks_cons.mpr ⟨a_okv_fl _ _, h5.2.2⟩) h6 h7 h8 h9 h10
    · cases hz
  · cases hz
theorem a_lcmp (X : a_cx p s H0 m args meth c cc own nL A xs L ad0 ini)  (hd : decode cc pc = .ok (.lcmp, 1)) {a b : Nat}  (hz : a_ins xs L (.lcmp) a b pc ls st h cb nb = some z) (k : a_GS p l e R s H0 m args below meth c Q D A nL ad0 n0 z) : a_G p l e R s H0 m args below meth c Q D A nL ad0 n0 pc ls st h cb nb := by
  simp only [a_ins] at hz
  split at hz
  · cases hz
    intro ad ca H locs cells slots ls' h1 h2 h3 h4 h5 h6 h7 h8 h9 h10
    simp only [a_oks_cons] at h5
    refine W.lcmp X.1 X.2.1 hd ?_
    exact k ad ca H locs cells slots ls' h1 h2 h3 h4 (a_oks_cons.mpr ⟨a_okv_int _ _, h5.2.2⟩) h6 h7 h8 h9 h10
  · cases hz
theorem a_dcmp (X : a_cx p s H0 m args meth c cc own nL A xs L ad0 ini) {o9 : CmpOp} (hd : decode cc pc = .ok (.dcmp o9, 1)) {a b : Nat}  (hz : a_ins xs L (.dcmp o9) a b pc ls st h cb nb = some z) (k : a_GS p l e R s H0 m args below meth c Q D A nL ad0 n0 z) : a_G p l e R s H0 m args below meth c Q D A nL ad0 n0 pc ls st h cb nb := by
  simp only [a_ins] at hz
  split at hz
  · cases hz
    intro ad ca H locs cells slots ls' h1 h2 h3 h4 h5 h6 h7 h8 h9 h10
    simp only [a_oks_cons] at h5
    refine lv_dcmp X.1 X.2.1 hd ?_
    exact k ad ca H locs cells slots ls' h1 h2 h3 h4 (a_oks_cons.mpr ⟨a_okv_int _ _, h5.2.2⟩) h6 h7 h8 h9 h10
  · cases hz
theorem a_dup (X : a_cx p s H0 m args meth c cc own nL A xs L ad0 ini)  (hd : decode cc pc = .ok (.dup, 1)) {a b : Nat}  (hz : a_ins xs L (.dup) a b pc ls st h cb nb = some z) (k : a_GS p l e R s H0 m args below meth c Q D A nL ad0 n0 z) : a_G p l e R s H0 m args below meth c Q D A nL ad0 n0 pc ls st h cb nb := by
  simp only [a_ins] at hz
  split at hz
  · split at hz
    · rename_i hc
      cases hz
      intro ad ca H locs cells slots ls' h1 h2 h3 h4 h5 h6 h7 h8 h9 h10
      have h5' := a_oks_cons.mp h5
      refine lv_dup X.1 X.2.1 hd (by rw [a_cat]; exact hc) ?_
      exact k ad ca H locs cells slots ls' h1 h2 h3 h4 (a_oks_cons.mpr ⟨h5'.1, h5⟩) h6 h7 h8 h9 h10
    · cases hz
  · cases hz
theorem a_dup2 (X : a_cx p s H0 m args meth c cc own nL A xs L ad0 ini)  (hd : decode cc pc = .ok (.dup2, 1)) {a b : Nat}  (hz : a_ins xs L (.dup2) a b pc ls st h cb nb = some z) (k : a_GS p l e R s H0 m args below meth c Q D A nL ad0 n0 z) : a_G p l e R s H0 m args below meth c Q D A nL ad0 n0 pc ls st h cb nb := by
  simp only [a_ins] at hz
  split at hz
  · split at hz
    · rename_i hc
      cases hz
      intro ad ca H locs cells slots ls' h1 h2 h3 h4 h5 h6 h7 h8 h9 h10
      have h5' := a_oks_cons.mp h5
      have h5'' := a_oks_cons.mp h5'.2
      refine lv_dup2_11 X.1 X.2.1 hd (by rw [a_cat]; exact hc.1) (by rw [a_cat]; exact hc.2) ?_
      exact k ad ca H locs cells slots ls' h1 h2 h3 h4 (a_oks_cons.mpr ⟨h5'.1, a_oks_cons.mpr ⟨h5''.1, h5⟩⟩) h6 h7 h8 h9 h10
    · cases hz
  · cases hz
theorem a_pop (X : a_cx p s H0 m args meth c cc own nL A xs L ad0 ini)  (hd : decode cc pc = .ok (.pop, 1)) {a b : Nat}  (hz : a_ins xs L (.pop) a b pc ls st h cb nb = some z) (k : a_GS p l e R s H0 m args below meth c Q D A nL ad0 n0 z) : a_G p l e R s H0 m args below meth c Q D A nL ad0 n0 pc ls st h cb nb := by
  simp only [a_ins] at hz
  split at hz
  · split at hz
    · rename_i hc
      cases hz
      intro ad ca H locs cells slots ls' h1 h2 h3 h4 h5 h6 h7 h8 h9 h10
      refine lv_pop X.1 X.2.1 hd (by rw [a_cat]; exact hc) ?_
      exact k ad ca H locs cells slots ls' h1 h2 h3 h4 (a_oks_cons.mp h5).2 h6 h7 h8 h9 h10
    · cases hz
  · cases hz
theorem a_ifCond (X : a_cx p s H0 m args meth c cc own nL A xs L ad0 ini) {cnd : ClassFile.Cond} {off : Int} (hd : decode cc pc = .ok (.ifCond cnd off, 3)) {a b : Nat}  (hz : a_ins xs L (.ifCond cnd off) a b pc ls st h cb nb = some z) (k : a_GS p l e R s H0 m args below meth c Q D A nL ad0 n0 z) : a_G p l e R s H0 m args below meth c Q D A nL ad0 n0 pc ls st h cb nb := by
  simp only [a_ins] at hz
  split at hz
  · split at hz
    · rename_i hnn
      cases hz
      intro ad ca H locs cells slots ls' h1 h2 h3 h4 h5 h6 h7 h8 h9 h10
      simp only [a_oks_cons] at h5
      have ht : (pc : Int) + off = ((((pc : Int) + off).toNat : Nat) : Int) := (Int.toNat_of_nonneg hnn).symm
      cases cnd
      · refine lv_if_eq X.1 X.2.1 hd ht (fun hc => ?_) (fun hc => ?_)
        · rw [show a_c0 .eq _ = true from decide_eq_true hc] at k
          exact k ad ca H locs cells slots ls' h1 h2 h3 h4 h5.2 h6 h7 h8 h9 h10
        · rw [show a_c0 .eq _ = false from decide_eq_false hc] at k
          exact k ad ca H locs cells slots ls' h1 h2 h3 h4 h5.2 h6 h7 h8 h9 h10
      · refine lv_if_ne X.1 X.2.1 hd ht (fun hc => ?_) (fun hc => ?_)
        · rw [show a_c0 .ne _ = true from decide_eq_true hc] at k
          exact k ad ca H locs cells slots ls' h1 h2 h3 h4 h5.2 h6 h7 h8 h9 h10
        · rw [show a_c0 .ne _ = false from decide_eq_false (fun q => q hc)] at k
          exact k ad ca H locs cells slots ls' h1 h2 h3 h4 h5.2 h6 h7 h8 h9 h10
      · refine lv_if_lt X.1 X.2.1 hd ht (fun hc => ?_) (fun hc => ?_)
        · rw [show a_c0 .lt _ = true from decide_eq_true hc] at k
          exact k ad ca H locs cells slots ls' h1 h2 h3 h4 h5.2 h6 h7 h8 h9 h10
        · rw [show a_c0 .lt _ = false from decide_eq_false hc] at k
          exact k ad ca H locs cells slots ls' h1 h2 h3 h4 h5.2 h6 h7 h8 h9 h10
      · refine lv_if_ge X.1 X.2.1 hd ht (fun hc => ?_) (fun hc => ?_)
        · rw [show a_c0 .ge _ = true from decide_eq_true hc] at k
          exact k ad ca H locs cells slots ls' h1 h2 h3 h4 h5.2 h6 h7 h8 h9 h10
        · rw [show a_c0 .ge _ = false from decide_eq_false hc] at k
          exact k ad ca H locs cells slots ls' h1 h2 h3 h4 h5.2 h6 h7 h8 h9 h10
      · refine lv_if_gt X.1 X.2.1 hd ht (fun hc => ?_) (fun hc => ?_)
        · rw [show a_c0 .gt _ = true from decide_eq_true hc] at k
          exact k ad ca H locs cells slots ls' h1 h2 h3 h4 h5.2 h6 h7 h8 h9 h10
        · rw [show a_c0 .gt _ = false from decide_eq_false hc] at k
          exact k ad ca H locs cells slots ls' h1 h2 h3 h4 h5.2 h6 h7 h8 h9 h10
      · refine lv_if_le X.1 X.2.1 hd ht (fun hc => ?_) (fun hc => ?_)
        · rw [show a_c0 .le _ = true from decide_eq_true hc] at k
          exact k ad ca H locs cells slots ls' h1 h2 h3 h4 h5.2 h6 h7 h8 h9 h10
        · rw [show a_c0 .le _ = false from decide_eq_false hc] at k
          exact k ad ca H locs cells slots ls' h1 h2 h3 h4 h5.2 h6 h7 h8 h9 h10
    · cases hz
  · cases hz
theorem a_if_icmp (X : a_cx p s H0 m args meth c cc own nL A xs L ad0 ini) {cnd : ClassFile.Cond} {off : Int} (hd : decode cc pc = .ok (.if_icmp cnd off, 3)) {a b : Nat}  (hz : a_ins xs L (.if_icmp cnd off) a b pc ls st h cb nb = some z) (k : a_GS p l e R s H0 m args below meth c Q D A nL ad0 n0 z) : a_G p l e R s H0 m args below meth c Q D A nL ad0 n0 pc ls st h cb nb := by
  simp only [a_ins] at hz
  split at hz
  · split at hz
    · rename_i hnn
      cases hz
      intro ad ca H locs cells slots ls' h1 h2 h3 h4 h5 h6 h7 h8 h9 h10
      simp only [a_oks_cons] at h5
      have ht : (pc : Int) + off = ((((pc : Int) + off).toNat : Nat) : Int) := (Int.toNat_of_nonneg hnn).symm
      cases cnd
      · refine lv_icmp_eq X.1 X.2.1 hd ht (fun hc => ?_) (fun hc => ?_)
        · rw [show a_c2 .eq _ _ = true from decide_eq_true hc] at k
          exact k ad ca H locs cells slots ls' h1 h2 h3 h4 h5.2.2 h6 h7 h8 h9 h10
        · rw [show a_c2 .eq _ _ = false from decide_eq_false hc] at k
          exact k ad ca H locs cells slots ls' h1 h2 h3 h4 h5.2.2 h6 h7 h8 h9 h10
      · refine lv_icmp_ne X.1 X.2.1 hd ht (fun hc => ?_) (fun hc => ?_)
        · rw [show a_c2 .ne _ _ = true from decide_eq_true hc] at k
          exact k ad ca H locs cells slots ls' h1 h2 h3 h4 h5.2.2 h6 h7 h8 h9 h10
        · rw [show a_c2 .ne _ _ = false from decide_eq_false (fun q => q hc)] at k
          exact k ad ca H locs cells slots ls' h1 h2 h3 h4 h5.2.2 h6 h7 h8 h9 h10
      · refine lv_icmp_lt X.1 X.2.1 hd ht (fun hc => ?_) (fun hc => ?_)
        · rw [show a_c2 .lt _ _ = true from decide_eq_true hc] at k
          exact k ad ca H locs cells slots ls' h1 h2 h3 h4 h5.2.2 h6 h7 h8 h9 h10
        · rw [show a_c2 .lt _ _ = false from decide_eq_false hc] at k
          exact k ad ca H locs cells slots ls' h1 h2 h3 h4 h5.2.2 h6 h7 h8 h9 h10
      · refine lv_icmp_ge X.1 X.2.1 hd ht (fun hc => ?_) (fun hc => ?_)
        · rw [show a_c2 .ge _ _ = true from decide_eq_true hc] at k
          exact k ad ca H locs cells slots ls' h1 h2 h3 h4 h5.2.2 h6 h7 h8 h9 h10
        · rw [show a_c2 .ge _ _ = false from decide_eq_false hc] at k
          exact k ad ca H locs cells slots ls' h1 h2 h3 h4 h5.2.2 h6 h7 h8 h9 h10
      · refine lv_icmp_gt X.1 X.2.1 hd ht (fun hc => ?_) (fun hc => ?_)
        · rw [show a_c2 .gt _ _ = true from decide_eq_true hc] at k
          exact k ad ca H locs cells slots ls' h1 h2 h3 h4 h5.2.2 h6 h7 h8 h9 h10
        · rw [show a_c2 .gt _ _ = false from decide_eq_false hc] at k
          exact k ad ca H locs cells slots ls' h1 h2 h3 h4 h5.2.2 h6 h7 h8 h9 h10
      · refine lv_icmp_le X.1 X.2.1 hd ht (fun hc => ?_) (fun hc => ?_)
        · rw [show a_c2 .le _ _ = true from decide_eq_true hc] at k
          exact k ad ca H locs cells slots ls' h1 h2 h3 h4 h5.2.2 h6 h7 h8 h9 h10
        · rw [show a_c2 .le _ _ = false from decide_eq_false hc] at k
          exact k ad ca H locs cells slots ls' h1 h2 h3 h4 h5.2.2 h6 h7 h8 h9 h10
    · cases hz
  · cases hz
theorem a_goto (X : a_cx p s H0 m args meth c cc own nL A xs L ad0 ini) {off : Int} (hd : decode cc pc = .ok (.goto off, 3)) {a b : Nat}  (hz : a_ins xs L (.goto off) a b pc ls st h cb nb = some z) (k : a_GS p l e R s H0 m args below meth c Q D A nL ad0 n0 z) : a_G p l e R s H0 m args below meth c Q D A nL ad0 n0 pc ls st h cb nb := by
  simp only [a_ins] at hz
  split at hz
  · rename_i hnn
    cases hz
    intro ad ca H locs cells slots ls' h1 h2 h3 h4 h5 h6 h7 h8 h9 h10
    refine lv_goto X.1 X.2.1 hd (Int.toNat_of_nonneg hnn).symm ?_
    exact k ad ca H locs cells slots ls' h1 h2 h3 h4 h5 h6 h7 h8 h9 h10
  · cases hz
theorem a_tsw (X : a_cx p s H0 m args meth c cc own nL A xs L ad0 ini) {dflt lo hi : Int} {offs : Array Int} {len : Nat} (hd : decode cc pc = .ok (.tableswitch dflt lo hi offs, len)) {a b : Nat}  (hz : a_ins xs L (.tableswitch dflt lo hi offs) a b pc ls st h cb nb = some z) (k : a_GS p l e R s H0 m args below meth c Q D A nL ad0 n0 z) : a_G p l e R s H0 m args below meth c Q D A nL ad0 n0 pc ls st h cb nb := by
  simp only [a_ins] at hz
  split at hz
  · split at hz
    · rename_i hr
      split at hz
      · rename_i hnn
        cases hz
        intro ad ca H locs cells slots ls' h1 h2 h3 h4 h5 h6 h7 h8 h9 h10
        refine lv_tableOut X.1 X.2.1 hd hr (Int.toNat_of_nonneg hnn).symm ?_
        exact k ad ca H locs cells slots ls' h1 h2 h3 h4 (a_oks_cons.mp h5).2 h6 h7 h8 h9 h10
      · cases hz
    · rename_i hr
      split at hz
      · rename_i off ho
        split at hz
        · rename_i hnn
          cases hz
          intro ad ca H locs cells slots ls' h1 h2 h3 h4 h5 h6 h7 h8 h9 h10
          refine lv_tableIn X.1 X.2.1 hd (fun q => hr (Or.inl q)) (fun q => hr (Or.inr q)) ho (Int.toNat_of_nonneg hnn).symm ?_
          exact k ad ca H locs cells slots ls' h1 h2 h3 h4 (a_oks_cons.mp h5).2 h6 h7 h8 h9 h10
        · cases hz
      · cases hz
  · cases hz
end AST
