/-! toString, by the library's law, from any place of the law's walk. -/
def w_d3 : List Cond := [.declares SB.asbGetValueN, .declares SB.asbLenN, .declares SB.asbIsLatin1N, .declares SB.sbToStringN, .castable SB.STR SB.STR]
def w_src : List Cond := lw_tbl ++ w_d3
theorem w_inS {ws : List Cond} (ps : List Nat) (hp : ws = ps.filterMap (fun i => w_src[i]?)) : ∀ w ∈ ws, w ∈ w_src := by
  intro w hw
  rw [hp] at hw
  obtain ⟨i, -, hi⟩ := List.mem_filterMap.mp hw
  exact List.mem_of_getElem? hi
def w_L : List Cond := [.methodLink "WeatherInsuranceLaw" 271 SB.sbToStringN, .selects SB.SBC SB.sbToStringN SB.sbToStringN, .instanceMethod SB.sbToStringN, .initialized SB.SBC, .instanceMethod SB.asbGetValueN, .instanceMethod SB.asbLenN, .instanceMethod SB.asbIsLatin1N, .instantiable SB.STR 4]
theorem w_L_in : ∀ w ∈ w_L, w ∈ lw_tbl := a_inT [1380, 1382, 1381, 54, 1394, 1399, 1276, 1385] (by decide +kernel)
def w_isC (x : MethodName) (w : Cond) : Bool := match w with
  | .code y _ _ _ => x == y
  | _ => false
theorem w_isC_ok {x : MethodName} {w : Cond} (h : w_isC x w = true) : ∃ b m r, w = .code x b m r := by
  unfold w_isC at h
  split at h
  · rename_i y b m r
    have : x = y := by simpa using h
    subst this
    exact ⟨b, m, r, rfl⟩
  · cases h
theorem w_code {x : MethodName} (i : Nat) (h : (lw_tbl[i]?).any (w_isC x) = true) : ∃ b m r, Cond.code x b m r ∈ lw_tbl := by
  cases hi : lw_tbl[i]? with
  | none => rw [hi] at h; cases h
  | some w =>
    rw [hi] at h
    obtain ⟨b, m, r, rfl⟩ := w_isC_ok (w := w) (by simpa using h)
    exact ⟨b, m, r, List.mem_of_getElem? hi⟩
theorem w_src_ok {args : Array Value} {s : State} (hts : ∀ w ∈ lw_tbl, w.before args s = true) : ∀ w ∈ w_src, w.before args s = true := by
  have hl : ∀ w ∈ w_L, w.before args s = true := fun w hw => hts w (w_L_in w hw)
  intro w hw
  rcases List.mem_append.mp hw with hw | hw
  · exact hts w hw
  · simp only [w_d3, List.mem_cons, List.not_mem_nil, or_false] at hw
    rcases hw with rfl | rfl | rfl | rfl | rfl
    · obtain ⟨b, m, r, h⟩ := w_code (x := SB.asbGetValueN) 1397 (by decide +kernel)
      exact w_decl (hl _ (List.mem_of_getElem? (i := 4) rfl)) (hts _ h)
    · obtain ⟨b, m, r, h⟩ := w_code (x := SB.asbLenN) 1405 (by decide +kernel)
      exact w_decl (hl _ (List.mem_of_getElem? (i := 5) rfl)) (hts _ h)
    · obtain ⟨b, m, r, h⟩ := w_code (x := SB.asbIsLatin1N) 1279 (by decide +kernel)
      exact w_decl (hl _ (List.mem_of_getElem? (i := 6) rfl)) (hts _ h)
    · obtain ⟨b, m, r, h⟩ := w_code (x := SB.sbToStringN) 1383 (by decide +kernel)
      exact w_decl (hl _ (List.mem_of_getElem? (i := 2) rfl)) (hts _ h)
    · exact w_cast (hl _ (List.mem_of_getElem? (i := 7) rfl))
theorem w_t1 : ∀ c ∈ flatC SB.SBToString.tab, c ∈ w_src := w_inS [1383, 1384, 1385, 47, 1386, 1387, 1388, 1389, 1390, 1391, 1392, 72, 71, 1393, 1395, 1449, 1396, 1394, 1397, 1329, 1398, 1400, 1450, 1401, 1402, 1403, 1404, 1400, 1399, 1241, 1405, 1332, 53, 54, 1406, 1277, 1451, 1278, 1276, 1279, 1280, 1330, 53, 1427, 1430, 1426, 1428, 1407, 1408, 1409, 1410, 1411, 105, 1412, 1413, 1414, 1415, 1273, 435, 436, 51, 1274, 531, 530, 52, 56, 47] (by decide +kernel)
theorem w_t2 : ∀ c ∈ flatC SB.SBToStringF.tab, c ∈ w_src := w_inS [1383, 1384, 1385, 47, 1386, 1387, 1388, 1389, 1390, 1391, 1392, 72, 71, 1393, 1395, 1449, 1396, 1394, 1397, 1329, 1398, 1400, 1450, 1401, 1402, 1403, 1404, 1400, 1399, 1241, 1405, 1332, 53, 54, 1406, 1277, 1451, 1278, 1276, 1279, 1280, 1330, 53, 1427, 1430, 1426, 1428, 1407, 1408, 1409, 1266, 1267, 1268, 1269, 1270, 1272, 56, 47] (by decide +kernel)
theorem w_t3 : ∀ c ∈ SBG.strLays, c ∈ w_src := w_inS [1428, 1430, 1453, 1271, 1385] (by decide +kernel)
theorem w_toS {p : Program} {l : Launch} {e : Env} {R : Room} {s : State} {m : MethodId} {args : Array Value} {below : List Frame} {meth : Method} {c : Code} {Q : State → Prop} {D : va_G} {A : Nat → Prop} {cc : ByteArray} {xs : Nat → Int32} {L : Nat} {ad : Nat → Nat} {ca : Nat → ClassId} {h : a_H} {H : Heap} {locs : List Loc} {cells slots : Nat} {ls' : Array Slot} {rest : List Value} {j n mm : Nat} {f : Nat → Int32}
    (hexec : p.tables.exec = Jvm.exec) (hb : c.code = cc) (hml : c.maxLocals = 6) (hown : s.vm.findClass RL = some m.cls) (hts : ∀ w ∈ lw_tbl, w.before args s = true) (hR : 15 ≤ R.frames ∧ 578 ≤ R.locals) (hd : decode cc 226 = .ok (.invokevirtual 271, 3))
    (hA : a_Amb xs L ad A s H) (hW : a_Wd D ad ca h A s H) (hg : h[181]? = some (sb_ob 181 j n)) (hgj : h[181 + j]? = some (sb_ar mm f)) (hj : 0 < j) (hn : n ≤ mm ∧ mm ≤ 102) (hf : ∀ i, fits .byte (.int (f i)) = true) (hls : ls'.size = 6) (hrest : (rest.map fun v => v.category).sum ≤ 8) (hc : cells + 2 ≤ R.cells) (hs : slots + (4 + mm) ≤ R.slots)
    (kk : ∀ (H' : Heap) (q : SB.SQ) (cS : ClassId), q.1 = H.size → H.size < q.2.2.2.2.1 → q.2.2.2.2.2.2 = n → SBG.Sl q cS { s with heap := H' } → s.vm.findClass "[B" = some q.2.2.2.2.2.1.cls → (∀ i, i < n → q.2.2.2.2.2.1.slots[i]? = some (.int (f i))) → (∀ (y : Nat) (cy : Cell), H[y]? = some cy → H'[y]? = some cy) → W p l e R s m args below meth c H' locs (cells + 2) (slots + (4 + n)) Q (F0 m 229 ls' (.ref H.size :: rest))) :
    W p l e R s m args below meth c H locs cells slots Q (F0 m 226 ls' (.ref (ad 181) :: rest)) := by
  intro T hT X
  have hg' : ∀ w ∈ lw_good, w.before args s = true := fun w hw => hts w (List.mem_filter.mp hw).1
  obtain ⟨x, bC, hxb, hBd⟩ := w_Bd hg' hA hW hg hgj hj hn hf
  have hsrc := w_src_ok hts
  have hl : ∀ w ∈ w_L, w.before args s = true := fun w hw => hts w (w_L_in w hw)
  have hal := X.warmed.alike
  have hBT : SBG.Bd x bC (ad (181 + j)) (arrV (ca (181 + j)) mm (fun i => .int (f i))) n T := SBG.Bd.carry (U := { s with heap := H }) hal (by rw [hT]; exact hBd.1.1) (by rw [hT]; exact hBd.1.2.2.2.2.2.2.2.2.2.2.2.2.1) (fun c9 h9 => by rw [hT]; exact h9) hBd
  have hsz : (arrV (ca (181 + j)) mm (fun i => Value.int (f i))).slots.size = mm := arrV_size _ _ _
  obtain ⟨T', q, cS, X', e1, e2, e3, hSl, hkS, hB, hlt, hkeep, hst⟩ := sbToStringG X hexec (own := "WeatherInsuranceLaw") (index := 271) hown (hl _ (List.mem_of_getElem? (i := 0) rfl)) (hsrc _ (List.mem_append_right _ (List.mem_of_getElem? (i := 3) rfl))) (hl _ (List.mem_of_getElem? (i := 1) rfl)) (hl _ (List.mem_of_getElem? (i := 2) rfl)) (hl _ (List.mem_of_getElem? (i := 3) rfl)) (w_of_flat _ fun c9 h9 => hsrc _ (w_t1 c9 h9)) (w_of_flat _ fun c9 h9 => hsrc _ (w_t2 c9 h9)) (fun w hw => hsrc _ (w_t3 w hw)) hBT (W := 8) (g := F0 m 226 ls' (.ref (ad 181) :: rest)) rfl (hls.trans hml.symm) (Steps.refl _) (rest := rest) (by rw [hxb]) (lv_room hrest) (by rw [hb]; exact hd) (by omega) (by omega) hc (by rw [hsz]; exact hs)
  rw [hT] at e1 e2
  have hSl' : SBG.Sl q cS { s with heap := T'.heap } := SBG.Sl.carry (U := T') X'.warmed.alike.symm hSl.1.1 hSl.1.2.2.2.2.2.2.2.2.2.1 hSl
  obtain ⟨t, a1, b1⟩ := kk T'.heap q cS e1 e2 e3 hSl' (by rw [← X'.warmed.alike.findClass]; exact hB) (fun i hi => by rw [hlt i hi]; exact arrV_read _ _ (by omega)) (fun y cy hy => hkeep y cy (by rw [hT]; exact hy)) T' rfl X'
  refine ⟨t, hst.trans ?_, b1⟩
  rw [hT]
  exact a1
