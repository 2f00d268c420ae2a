/-! The law's entry: what stands around the world there. -/
theorem a_inT {ws : List Cond} (ps : List Nat) (hp : ws = ps.filterMap (fun i => lw_tbl[i]?)) : ∀ w ∈ ws, w ∈ lw_tbl := by
  intro w hw
  rw [hp] at hw
  obtain ⟨i, -, hi⟩ := List.mem_filterMap.mp hw
  exact List.mem_of_getElem? hi
def a_srL : List Cond := a_strs.map (fun q => Cond.stringRef q.1 q.2.1 q.2.2.1) ++ a_thr.map (fun q => Cond.stringRef RX8 q.1 q.2)
theorem a_sr_in : ∀ w ∈ a_srL, w ∈ lw_tbl := a_inT [373, 1437, 461, 511, 516, 1438, 1439, 811, 963, 944, 772, 1001] (by decide +kernel)
theorem a_inst_in : ∀ w ∈ (List.range 11).map (fun ci => Cond.instantiable (a_cn ci) (a_nf ci)), w ∈ lw_tbl := a_inT [157, 285, 170, 177, 277, 143, 107, 74, 66, 591, 1211] (by decide +kernel)
def a_eL : List Cond := [.laysStatic "java/lang/String" "COMPACT_STRINGS" "Z", .laysStatic "jdk/internal/util/Preconditions" "SIOOBE_FORMATTER" "Ljava/util/function/BiFunction;", .laysStatic Bundle.tN "UNASSIGNED_STACK" Bundle.steD, .laysStatic Bundle.tN "SUPPRESSED_SENTINEL" Bundle.listD, .initialized "java/lang/String", .initialized "jdk/internal/util/Preconditions", .initialized Bundle.tN, .arrayOver (.object RX3), .arrayOver (.array .int)]
theorem a_e_in : ∀ w ∈ a_eL, w ∈ lw_tbl := a_inT [383, 399, 758, 760, 47, 49, 59, 176, 149] (by decide +kernel)
def a_sv (tm : Term) : Term := .field tm "java/lang/String" "value" "[B"
def a_req (tm : Term) (len : Nat) (byt : List Int32) : List Cond := .exactly tm "java/lang/String" :: .eq (.field tm "java/lang/String" "coder" "B") (.int 0) :: .arrayOf (a_sv tm) .byte :: .eq (.length (a_sv tm)) (.int (Int32.ofNat len)) :: (List.range len).map (fun j => .eq (.elem (a_sv tm) (.int (Int32.ofNat j))) (.int (byt.getD j 0)))
def a_rep (i : Nat) : String × Nat := match i with
  | 0 => ("WeatherInsurance", 84)
  | 1 => ("WeatherInsuranceLaw", 252)
  | 2 => ("WeatherInsurance$Setup", 74)
  | 3 => ("WeatherInsurance$Setup", 83)
  | 4 => ("WeatherInsurance$Setup", 88)
  | 5 => ("WeatherInsuranceLaw", 264)
  | _ => ("WeatherInsuranceLaw", 269)
def a_fl : List Cond := flatC (Jvm.Cond.and given_1 narrow_1)
theorem a_rq_0 : a_req (.string (a_rep 0).1 (a_rep 0).2) (a_slC.getD 0 0) (a_sbC.getD 0 []) = (a_fl.drop 231).take 82 := by decide +kernel
theorem a_req_0 : ∀ w ∈ a_req (.string (a_rep 0).1 (a_rep 0).2) (a_slC.getD 0 0) (a_sbC.getD 0 []), w ∈ a_fl := fun w h => List.mem_of_mem_drop (List.mem_of_mem_take (by rw [← a_rq_0]; exact h))
theorem a_rq_1 : a_req (.string (a_rep 1).1 (a_rep 1).2) (a_slC.getD 1 0) (a_sbC.getD 1 []) = (a_fl.drop 576).take 12 := by decide +kernel
theorem a_req_1 : ∀ w ∈ a_req (.string (a_rep 1).1 (a_rep 1).2) (a_slC.getD 1 0) (a_sbC.getD 1 []), w ∈ a_fl := fun w h => List.mem_of_mem_drop (List.mem_of_mem_take (by rw [← a_rq_1]; exact h))
theorem a_rq_2 : a_req (.string (a_rep 2).1 (a_rep 2).2) (a_slC.getD 2 0) (a_sbC.getD 2 []) = (a_fl.drop 313).take 10 := by decide +kernel
theorem a_req_2 : ∀ w ∈ a_req (.string (a_rep 2).1 (a_rep 2).2) (a_slC.getD 2 0) (a_sbC.getD 2 []), w ∈ a_fl := fun w h => List.mem_of_mem_drop (List.mem_of_mem_take (by rw [← a_rq_2]; exact h))
theorem a_rq_3 : a_req (.string (a_rep 3).1 (a_rep 3).2) (a_slC.getD 3 0) (a_sbC.getD 3 []) = (a_fl.drop 324).take 12 := by decide +kernel
theorem a_req_3 : ∀ w ∈ a_req (.string (a_rep 3).1 (a_rep 3).2) (a_slC.getD 3 0) (a_sbC.getD 3 []), w ∈ a_fl := fun w h => List.mem_of_mem_drop (List.mem_of_mem_take (by rw [← a_rq_3]; exact h))
theorem a_rq_4 : a_req (.string (a_rep 4).1 (a_rep 4).2) (a_slC.getD 4 0) (a_sbC.getD 4 []) = (a_fl.drop 338).take 11 := by decide +kernel
theorem a_req_4 : ∀ w ∈ a_req (.string (a_rep 4).1 (a_rep 4).2) (a_slC.getD 4 0) (a_sbC.getD 4 []), w ∈ a_fl := fun w h => List.mem_of_mem_drop (List.mem_of_mem_take (by rw [← a_rq_4]; exact h))
theorem a_rq_5 : a_req (.string (a_rep 5).1 (a_rep 5).2) (a_slC.getD 5 0) (a_sbC.getD 5 []) = (a_fl.drop 597).take 11 := by decide +kernel
theorem a_req_5 : ∀ w ∈ a_req (.string (a_rep 5).1 (a_rep 5).2) (a_slC.getD 5 0) (a_sbC.getD 5 []), w ∈ a_fl := fun w h => List.mem_of_mem_drop (List.mem_of_mem_take (by rw [← a_rq_5]; exact h))
theorem a_rq_6 : a_req (.string (a_rep 6).1 (a_rep 6).2) (a_slC.getD 6 0) (a_sbC.getD 6 []) = (a_fl.drop 618).take 13 := by decide +kernel
theorem a_req_6 : ∀ w ∈ a_req (.string (a_rep 6).1 (a_rep 6).2) (a_slC.getD 6 0) (a_sbC.getD 6 []), w ∈ a_fl := fun w h => List.mem_of_mem_drop (List.mem_of_mem_take (by rw [← a_rq_6]; exact h))
theorem a_req_ok : ∀ i, i < 7 → ∀ w ∈ a_req (.string (a_rep i).1 (a_rep i).2) (a_slC.getD i 0) (a_sbC.getD i []), w ∈ a_fl := fun i hi => match i, hi with
  | 0, _ => a_req_0
  | 1, _ => a_req_1
  | 2, _ => a_req_2
  | 3, _ => a_req_3
  | 4, _ => a_req_4
  | 5, _ => a_req_5
  | 6, _ => a_req_6
theorem a_eqL_in : ∀ q ∈ a_strs, (q.1, q.2.1) = a_rep q.2.2.2 ∨ Cond.eq (.string (a_rep q.2.2.2).1 (a_rep q.2.2.2).2) (.string q.1 q.2.1) ∈ a_fl := fun q hq => Or.inl ((by decide : ∀ q ∈ a_strs, (q.1, q.2.1) = a_rep q.2.2.2) q hq)
theorem a_thr_in : ∀ q ∈ a_thr, Cond.exactly (.string RX8 q.1) "java/lang/String" ∈ a_fl := List.forall_mem_cons.mpr ⟨List.mem_of_getElem? (i := 389) (by decide +kernel), List.forall_mem_cons.mpr ⟨List.mem_of_getElem? (i := 466) (by decide +kernel), List.forall_mem_cons.mpr ⟨List.mem_of_getElem? (i := 423) (by decide +kernel), List.forall_mem_cons.mpr ⟨List.mem_of_getElem? (i := 352) (by decide +kernel), List.forall_mem_cons.mpr ⟨List.mem_of_getElem? (i := 518) (by decide +kernel), fun w h => nomatch h⟩⟩⟩⟩⟩
theorem a_st_in : ∀ w ∈ ([.eq (.static "java/lang/String" "COMPACT_STRINGS" "Z") (.int 1), .isRef (.static "jdk/internal/util/Preconditions" "SIOOBE_FORMATTER" "Ljava/util/function/BiFunction;"), .isRef (.static Bundle.tN "UNASSIGNED_STACK" Bundle.steD), .isRef (.static Bundle.tN "SUPPRESSED_SENTINEL" Bundle.listD)] : List Cond), w ∈ a_fl := List.forall_mem_cons.mpr ⟨List.mem_of_getElem? (i := 4) (by decide +kernel), List.forall_mem_cons.mpr ⟨List.mem_of_getElem? (i := 5) (by decide +kernel), List.forall_mem_cons.mpr ⟨List.mem_of_getElem? (i := 9) (by decide +kernel), List.forall_mem_cons.mpr ⟨List.mem_of_getElem? (i := 10) (by decide +kernel), fun w h => nomatch h⟩⟩⟩⟩
theorem a_sl_lt : ∀ i, i < 7 → a_slC.getD i 0 < 2 ^ 31 ∧ 0 < a_slC.getD i 0 := by decide +kernel
theorem a_sl_ne : ∀ i, i < 7 → ∀ j, j < 7 → i ≠ j → Int32.ofNat (a_slC.getD i 0) ≠ Int32.ofNat (a_slC.getD j 0) ∨ (a_sbC.getD i []).getD 0 0 ≠ (a_sbC.getD j []).getD 0 0 := by decide +kernel
theorem a_sl_lo (xs : Nat → Int32) {i : Nat} (h : i < 7) : (a_sl xs).getD i 0 = a_slC.getD i 0 := by
  unfold a_sl
  rw [List.getD_eq_getElem?_getD, List.getElem?_append_left (show i < a_slC.length from h), ← List.getD_eq_getElem?_getD]
theorem a_sb_lo (xs : Nat → Int32) {i : Nat} (h : i < 7) : (a_sb xs).getD i [] = a_sbC.getD i [] := by
  unfold a_sb
  rw [List.getD_eq_getElem?_getD, List.getElem?_append_left (show i < a_sbC.length from h), ← List.getD_eq_getElem?_getD]
/-- the tables of digits -/
def a_dgt (w : Nat) : Term := .static "java/lang/Integer" (if w = 0 then "DigitOnes" else "DigitTens") "[B"
def a_dgq (w : Nat) : List Cond := .arrayOf (a_dgt w) .byte :: .eq (.length (a_dgt w)) (.int 100) :: (List.range 100).map (fun j => .eq (.elem (a_dgt w) (.int (Int32.ofNat j))) (.int (a_dig w j)))
theorem a_dgq_0 : a_dgq 0 = (a_fl.drop 12).take 102 := by decide +kernel
theorem a_dgq_1 : a_dgq 1 = (a_fl.drop 115).take 102 := by decide +kernel
theorem a_dgq_in : ∀ w, w < 2 → ∀ q ∈ a_dgq w, q ∈ a_fl := fun w hw q h => by
  rcases (show w = 0 ∨ w = 1 by omega) with rfl | rfl
  · exact List.mem_of_mem_drop (List.mem_of_mem_take (by rw [← a_dgq_0]; exact h))
  · exact List.mem_of_mem_drop (List.mem_of_mem_take (by rw [← a_dgq_1]; exact h))
theorem a_dgw : ∀ q ∈ ([.laysStatic "java/lang/Integer" "DigitOnes" "[B", .laysStatic "java/lang/Integer" "DigitTens" "[B", .initialized "java/lang/Integer", .instantiable RJ4 4] : List Cond), q ∈ lw_tbl := a_inT [1369, 1371, 58, 1211] (by decide +kernel)
theorem a_prw : ∀ y ∈ a_prvs, ∀ q ∈ ([.privateMethod y, .instanceMethod y, .sameMethod RJ5 RJ5 y.name y.desc] : List Cond), q ∈ lw_tbl := List.forall_mem_cons.mpr ⟨a_inT [1248, 1249, 1442] (by decide +kernel), List.forall_mem_cons.mpr ⟨a_inT [1252, 1253, 1443] (by decide +kernel), List.forall_mem_cons.mpr ⟨a_inT [1297, 1298, 1444] (by decide +kernel), List.forall_mem_cons.mpr ⟨a_inT [1301, 1302, 1445] (by decide +kernel), fun _ h => by cases h⟩⟩⟩⟩
theorem a_prc : ∀ y ∈ a_prvs, y.cls = RJ5 := by decide +kernel
/-- a private method of a class, called on an object of another class that is there -/
theorem a_selp {C : String} {y : MethodName} {args : Array Value} {s : State} {n : Nat} (h1 : (Cond.instantiable C n).before args s = true) (h2 : (Cond.privateMethod y).before args s = true) (h3 : (Cond.instanceMethod y).before args s = true) (h4 : (Cond.sameMethod y.cls y.cls y.name y.desc).before args s = true) : (Cond.selects C y y).before #[] s = true := by
  obtain ⟨c, k, hc, -⟩ := Cond.instantiable_spec h1
  obtain ⟨c9, ck, r, hc9, hck, hni, hf, hn⟩ := Cond.sameMethod_found h4
  obtain ⟨m9, meth, hm, hmm, -, -⟩ := Cond.instanceMethod_spec h3
  have hn' : s.methodNamed? y = some r := hn
  cases Option.some.inj (hn'.symm.trans hm)
  have hp := Cond.privateMethod_at h2 _ _ hm hmm
  have hrc : r.cls = c9 := by
    unfold State.methodNamed? at hn'
    rw [hc9] at hn'
    simp only [Option.bind_eq_bind, Option.bind_some, hck] at hn'
    rw [Option.bind_eq_some_iff] at hn'
    obtain ⟨i9, -, e9⟩ := hn'
    cases e9
    rfl
  unfold Cond.before Cond.holds
  simp only [Cond.value, hc, hf, hn']
  unfold selectMethod
  rw [hmm]
  simp only [hp, if_true, decide_true, Bool.true_and, hrc, hck, Option.any_some, hni, Bool.not_false, beq_self_eq_true]
