/-! What stands around the world: the script, the string constants, the statics that throws and texts read. -/
/-- the String constants; behind them, where there is one, the text that the law has built: xs 998 says whether, xs 999 how long, xs 1000 .. its letters -/
def a_sbC : List (List Int32) := [
  [104,111,108,100,101,114,32,97,110,110,32,50,48,48,59,104,111,108,100,101,114,32,98,111,98,32,54,48,59,104,111,108,100,101,114,32,99,105,100,32,53,48,48,59,97,115,115,101,115,115,111,114,32,48,59,97,115,115,101,115,115,111,114,32,52,59,114,101,115,101,114,118,101,32,51,48,48,59],
  [114,101,115,101,114,118,101,32],
  [104,111,108,100,101,114],
  [97,115,115,101,115,115,111,114],
  [114,101,115,101,114,118,101],
  [104,111,108,100,101,114,32],
  [97,115,115,101,115,115,111,114,32]]
def a_slC : List Nat := [78, 8, 6, 8, 7, 7, 9]
def a_tn (xs : Nat → Int32) : Nat := if xs 998 = 1 then 8 else 7
def a_tl (xs : Nat → Int32) : Nat := min (xs 999).toNatClampNeg 200
def a_tb (xs : Nat → Int32) : List Int32 := (List.range (a_tl xs)).map fun i => xs (1000 + i)
def a_sl (xs : Nat → Int32) : List Nat := a_slC ++ [a_tl xs]
def a_sb (xs : Nat → Int32) : List (List Int32) := a_sbC ++ [a_tb xs]
theorem a_tn_le (xs : Nat → Int32) : a_tn xs ≤ 8 := by unfold a_tn; split <;> omega
theorem a_sl_31 (xs : Nat → Int32) {i : Nat} (h : i < a_tn xs) : (a_sl xs).getD i 0 < 2 ^ 31 := by
  have h8 := Nat.lt_of_lt_of_le h (a_tn_le xs)
  by_cases h7 : i < 7
  · have e : (a_sl xs).getD i 0 = a_slC.getD i 0 := by
      unfold a_sl
      rw [List.getD_eq_getElem?_getD, List.getElem?_append_left (show i < a_slC.length from h7), ← List.getD_eq_getElem?_getD]
    rw [e]
    have : ∀ i, i < 7 → a_slC.getD i 0 < 2 ^ 31 := by decide +kernel
    exact this i h7
  · obtain rfl : i = 7 := by omega
    show a_tl xs < 2 ^ 31
    unfold a_tl
    omega
def a_strs : List (String × Nat × String × Nat) := [
  ("WeatherInsurance", 84, "holder ann 200;holder bob 60;holder cid 500;assessor 0;assessor 4;reserve 300;", 0),
  ("WeatherInsuranceLaw", 252, "reserve ", 1),
  ("WeatherInsurance$Setup", 74, "holder", 2),
  ("WeatherInsurance$Setup", 83, "assessor", 3),
  ("WeatherInsurance$Setup", 88, "reserve", 4),
  ("WeatherInsuranceLaw", 264, "holder ", 5),
  ("WeatherInsuranceLaw", 269, "assessor ", 6)]
def a_thr : List (Nat × String) := [
  (301, "the clock is at its limit"), (324, "no claim can be filed for this policy now"),
  (370, "there is nothing with this number"), (375, "a number is outside its range"), (382, "too many policies, or the balance is too small")]
/-- the classes that are thrown -/
def a_xn (k : Nat) : String := match k with
  | 0 => "java/lang/IndexOutOfBoundsException"
  | 1 => "java/lang/IllegalArgumentException"
  | 2 => "java/lang/IllegalStateException"
  | _ => "java/util/NoSuchElementException"
def a_isn (w : Cond) : Bool := match w with
  | .methodLinkNest .. => true
  | .castable .. => true
  | .declares .. => true
  | .sameMethod r o n d => decide (r ≠ "java/lang/invoke/MethodHandle") && decide (r ≠ "java/lang/invoke/VarHandle") && decide (r = o)
  | _ => false
def a_nest : List Cond := lw_tbl.filter a_isn
/-- private methods of AbstractStringBuilder, as called on a StringBuilder -/
def a_prvs : List MethodName := [yJ5_ensureCapacityInternal_d00df, yJ5_newCapacity_0f7a4, yJ5_putStringAt_47b60, yJ5_inflateIfNeededFor_a7421]
def a_Dig (ad : Nat → Nat) (A : Nat → Prop) (U : State) (H : Heap) : Prop := (∀ y ∈ a_prvs, (Cond.selects RJ4 y y).before #[] U = true) ∧ ∀ w, w < 2 → va_Z "java/lang/Integer" (if w = 0 then "DigitOnes" else "DigitTens") "[B" (.ref (ad (a_big + 500 + w))) A U H ∧ va_T .byte (ad (a_big + 500 + w)) 100 (fun j => .int (a_dig w j)) A U H
def a_Amb (xs : Nat → Int32) (L : Nat) (ad : Nat → Nat) (A : Nat → Prop) (U : State) (H : Heap) : Prop :=
  (va_X (ad a_big) L xs U H ∧ ad a_big < H.size ∧ ¬ A (ad a_big) ∧ a_Dig ad A U H) ∧
  (∃ adV : Nat → Nat, vk_S (a_tn xs) (a_sl xs) (a_sb xs) (fun i => ad (a_big + 1 + i)) adV A U H) ∧
  (∀ q ∈ a_strs, vk_R q.1 q.2.1 q.2.2.1 (ad (a_big + 1 + q.2.2.2)) U) ∧
  (∀ q ∈ a_thr, ∃ sa, vk_R RX8 q.1 q.2 sa U) ∧
  (vx_Zq Bundle.tN "UNASSIGNED_STACK" Bundle.steD A U H ∧ vx_Zq Bundle.tN "SUPPRESSED_SENTINEL" Bundle.listD A U H) ∧
  va_Z "java/lang/String" "COMPACT_STRINGS" "Z" (.int 1) A U H ∧
  va_Zq "jdk/internal/util/Preconditions" "SIOOBE_FORMATTER" "Ljava/util/function/BiFunction;" A U H ∧
  (va_AO RX3 U ∧ va_AOA .int U) ∧
  (∀ w ∈ a_nest, va_Nw w U)
theorem a_X_to {b L : Nat} {xs : Nat → Int32} {U U' : State} {H H' : Heap} (hvm : U.vm.Alike U'.vm) (h : va_X b L xs U H) (e : H'[b]? = H[b]?) : va_X b L xs U' H' := by
  obtain ⟨scr, h1, h2, h3, h4, h5⟩ := h
  exact ⟨scr, e.trans h1, State.isArrayOf_alike hvm h2, h3, h4, h5⟩
theorem va_AOA.moved {t : FieldType} {u U : State} (hvm : u.vm.Alike U.vm) (h : va_AOA t u) : va_AOA t U := by
  obtain ⟨comp, c, k, h1, h2, h3, h4, h5⟩ := arrayOverA_spec h
  obtain ⟨k', hk', he⟩ := hvm.2.2 _ _ h3
  have hi : (U.vm.classes.findIdx? fun (x : Class) => match x.kind with | .array component _ => component == comp | _ => false) = some c := by
    refine (va_idx_bare U.vm comp).symm.trans ?_
    first | rw [hvm.bare_eq] | rw [← hvm.bare_eq]
    exact (va_idx_bare u.vm comp).trans h2
  have hkind : k'.kind = .array comp (.array t) := by rw [he]; exact h4
  have f1 : U.vm.findClass (FieldType.array t).toString = some comp := by rw [hvm.findClass]; exact h1
  have f2 : U.vm.findClass ("[" ++ (FieldType.array t).toString) = some c := by rw [hvm.findClass]; exact h5
  unfold va_AOA Cond.before Cond.holds
  simp only [Cond.value]
  rw [f1, Option.bind_some]
  refine (congrArg (fun o : Option Nat => (o.bind (fun c => (U.vm.classes[c]?).map fun (k : Class) => match k.kind with | .array _ ty => decide (ty = FieldType.array t) && decide (U.vm.findClass ("[" ++ (FieldType.array t).toString) = some c) | _ => false) == some true)) hi).trans ?_
  simp [hk', hkind, f2]
theorem a_Nw_warm {w : Cond} (hw : a_isn w = true) {s U : State} (hW : s.WarmedH U.vm) (h : va_Nw w s) : va_Nw w U := by
  cases w <;> first
    | exact va_Nw.warmM hW h
    | exact va_Nw.warmC hW h
    | exact va_Nw.warmD hW h
    | (simp only [a_isn, Bool.and_eq_true, decide_eq_true_eq] at hw
       exact va_tabs rfl (rfl : (s.setVm U.vm).vm = U.vm) (by rw [Cond.sameMethod_setVm hW.alike ⟨hw.1.1, hw.1.2⟩]; exact h))
    | cases hw
theorem a_Amb.to {xs : Nat → Int32} {L : Nat} {ad ad1 : Nat → Nat} {A B : Nat → Prop} {s U : State} {H H0 : Heap} {locs : List Loc} (h : a_Amb xs L ad A s H0) (hS : va_S A H0 H locs) (hW : s.WarmedH U.vm) (hAB : ∀ q, B q → A q) (hag : ∀ i, a_big ≤ i → ad1 i = ad i) : a_Amb xs L ad1 B U H := by
  obtain ⟨⟨h1, h2, h3, h3d⟩, ⟨adV, h4⟩, h5, h6, ⟨h7, h8⟩, h9, h10, ⟨h11, h12⟩, h13⟩ := h
  have ha := hW.alike
  have e0 : ad1 a_big = ad a_big := hag _ (Nat.le_refl _)
  have e1 : (fun i => ad1 (a_big + 1 + i)) = (fun i => ad (a_big + 1 + i)) := by
    funext i
    exact hag _ (by omega)
  refine ⟨⟨?_, ?_, ?_, ?_⟩, ⟨adV, ?_⟩, ?_, ?_, ⟨?_, ?_⟩, ?_, ?_, ⟨?_, ?_⟩, ?_⟩
  · rw [e0]; exact a_X_to ha h1 (hS.2.1 _ h2 h3)
  · rw [e0]; exact Nat.lt_of_lt_of_le h2 hS.1
  · rw [e0]; exact fun q => h3 (hAB _ q)
  · refine ⟨fun y hy => word_at hW (Or.inl rfl) (h3d.1 y hy), ?_⟩
    replace h3d := h3d.2
    intro w hw
    rw [show ad1 (a_big + 500 + w) = ad (a_big + 500 + w) from hag _ (by omega)]
    obtain ⟨z1, z2⟩ := h3d w hw
    exact ⟨((z1.kept hS.2.1).narrow hAB).moved ha, ((z2.kept hS.2.1).narrow hAB).moved ha⟩
  · rw [e1]; exact (vk_S.narrow (h4.kept hS.2.1) hAB).moved ha
  · intro q hq
    rw [show ad1 (a_big + 1 + q.2.2.2) = ad (a_big + 1 + q.2.2.2) from hag _ (by omega)]
    exact (h5 q hq).warm hW
  · intro q hq
    obtain ⟨sa, z⟩ := h6 q hq
    exact ⟨sa, z.warm hW⟩
  · exact ((h7.kept hS.2.1).narrow hAB).moved ha
  · exact ((h8.kept hS.2.1).narrow hAB).moved ha
  · exact ((h9.kept hS.2.1).narrow hAB).moved ha
  · exact ((h10.kept hS.2.1).narrow hAB).moved ha
  · exact h11.moved ha
  · exact h12.moved ha
  · exact fun w hw => a_Nw_warm (List.mem_filter.mp hw).2 hW (h13 w hw)
