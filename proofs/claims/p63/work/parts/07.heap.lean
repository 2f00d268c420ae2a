/-! The instructions that read and write the heap. -/
theorem a_okc_at {h : a_H} (hh : a_okh h) {o ci : Nat} {fs : List Value} (e : h[o]? = some (.inr (ci, fs))) {k : Nat} {v : Value} (hv : fs[k]? = some v) : a_okv h.length v := hh o _ e v (List.mem_of_getElem? hv)
theorem a_agr_trans {n m : Nat} (hnm : n ≤ m) {f g k : Nat → Nat} (h1 : a_agr n f g) (h2 : a_agr m g k) : a_agr n f k := fun i hi => by
  rw [h2 i (hi.imp (fun q => Nat.lt_of_lt_of_le q hnm) id), h1 i hi]
theorem a_v_rf (ad : Nat → Nat) (r : Option Nat) : a_v ad (va_rf r) = va_rf (r.map ad) := by cases r <;> rfl
theorem a_v_def (ad : Nat → Nat) (t : FieldType) : a_v ad (defaultValue t) = defaultValue t := by cases t <;> rfl
theorem a_okv_def (n : Nat) (t : FieldType) : a_okv n (defaultValue t) := fun i e => by cases t <;> cases e
theorem a_Wd.push {D : va_G} {ad : Nat → Nat} {ca : Nat → ClassId} {h : a_H} {A : Nat → Prop} {s : State} {H H1 : Heap} (w : a_Wd D ad ca h A s H) (hh : a_okh h) (hn : h.length < a_big) {c : a_C} (hc : a_okc h.length c) {q : Nat} {cA : ClassId}
    (hP : va_P D vwCl (a_ws ad ca h ++ [(q, a_e ad cA c)]) H1) (hD : va_D A (a_ws ad ca h ++ [(q, a_e ad cA c)])) (hty : ∀ x, c = .inl x → ArrOfT s cA x.1 ∧ va_RA s cA x.1) : a_Wd D (va_up ad h.length q) (va_up ca h.length cA) (h ++ [c]) A s H1 := by
  rw [← a_ws_push hh hn hc] at hP hD
  refine ⟨hP, hD, w.2.2.1, fun j x hj => ?_⟩
  by_cases hl : j < h.length
  · rw [List.getElem?_append_left hl] at hj
    have : j ≠ h.length := Nat.ne_of_lt hl
    simp only [va_up, this, if_false]
    exact w.2.2.2 j x hj
  · rw [List.getElem?_append_right (Nat.not_lt.mp hl)] at hj
    have h1 : j - h.length < 1 := (List.getElem?_eq_some_iff.mp hj).1
    have h2 : j = h.length := by omega
    subst h2
    rw [Nat.sub_self] at hj
    cases hj
    simp only [va_up, if_true]
    exact hty x rfl
section AHP
variable {p : Program} {l : Launch} {e : Env} {R : Room} {s : State} {H0 : Heap} {m : MethodId} {args : Array Value} {below : List Frame} {meth : Method} {c : Code} {Q : State → Prop}
variable {D : va_G} {A : Nat → Prop} {nL : Nat} {ad0 : Nat → Nat} {n0 : Nat} {cc : ByteArray} {own : String} {xs : Nat → Int32} {L : Nat} {ini : Bool} {pc : Nat} {ls st : List Value} {h : a_H} {cb nb : Nat} {z : a_S}
theorem a_getfield (X : a_cx p s H0 m args meth c cc own nL A xs L ad0 ini) {n : Nat} (hd : decode cc pc = .ok (.getfield n, 3)) {a b : Nat} (hs : a < 11 ∧ b < a_nf a ∧ Cond.fieldLink own n (a_T a b).1 (a_T a b).2.1 (a_T a b).2.2.1 ∈ lw_good)
    (hz : a_ins xs L (.getfield n) a b pc ls st h cb nb = some z) (k : a_GS p l e R s H0 m args below meth c Q D A nL ad0 n0 z) : a_G p l e R s H0 m args below meth c Q D A nL ad0 n0 pc ls st h cb nb := by
  simp only [a_ins, a_gf] at hz
  split at hz
  · rename_i o r
    split at hz
    · rename_i cj fs he
      split at hz
      · rename_i hci
        subst hci
        cases hv : fs[b]? with
        | none => simp [hv] at hz
        | some v =>
          simp only [hv, Option.map_some, Option.some.injEq] at hz
          subst hz
          intro ad ca H locs cells slots ls' h1 h2 h3 h4 h5 h6 h7 h8 h9 h10
          rw [a_oks_cons] at h5
          refine va_get (D := D) (ci := cj) (C := a_cn cj) (T := a_T cj) (N := a_nf cj) (v := a_v ad v) X.1 X.2.1 X.2.2.2.2.1 (a_cw hs.1) X.2.2.2.1 h7.2.2.1 h7.1 o (a_ws_get he) (a_cl hs.1) b hs.2.1 (X.2.2.2.2.1 _ hs.2.2) (fun _ h9 => h9) (by rw [List.getElem?_map, hv]; rfl) hd ?_
          exact k ad ca H locs cells slots ls' h1 h2 h3 h4 (a_oks_cons.mpr ⟨a_okc_at h6 he hv, h5.2⟩) h6 h7 h8 h9 h10
      · simp at hz
    · simp at hz
  · cases hz
theorem a_putfield (X : a_cx p s H0 m args meth c cc own nL A xs L ad0 ini) {n : Nat} (hd : decode cc pc = .ok (.putfield n, 3)) {a b : Nat} (hs : (a < 11 ∧ b < a_nf a ∧ Cond.fieldLink own n (a_T a b).1 (a_T a b).2.1 (a_T a b).2.2.1 ∈ lw_good) ∧ ((a_T a b).2.2.2 = false ∨ ((a_T a b).2.2.2 = true ∧ ini = true ∧ (a_T a b).1 = own)))
    (hz : a_ins xs L (.putfield n) a b pc ls st h cb nb = some z) (k : a_GS p l e R s H0 m args below meth c Q D A nL ad0 n0 z) : a_G p l e R s H0 m args below meth c Q D A nL ad0 n0 pc ls st h cb nb := by
  simp only [a_ins, a_pf] at hz
  split at hz
  · rename_i v o r
    split at hz
    · rename_i cj fs he
      split at hz
      · rename_i hci
        obtain ⟨rfl, hl, hn, hf⟩ := hci
        simp only [Option.map_some, Option.some.injEq] at hz
        subst hz
        intro ad ca H locs cells slots ls' h1 h2 h3 h4 h5 h6 h7 h8 h9 h10
        simp only [a_oks_cons] at h5
        have hok : a_okc h.length (.inr (cj, fs.set b v)) := fun w hw => a_oks_set (l := fs) (fun u hu => h6 o _ he u hu) b h5.1 w hw
        have go : ∀ (H1 : Heap) (locs1 : List Loc), va_P D vwCl ((a_ws ad ca h).set o (ad o, .inr (cj, (fs.map (a_v ad)).set b (a_v ad v)))) H1 → va_D A ((a_ws ad ca h).set o (ad o, .inr (cj, (fs.map (a_v ad)).set b (a_v ad v)))) → va_S A H0 H1 locs1 → W p l e R s m args below meth c H1 locs1 cells slots Q (F0 m (pc + 3) ls' (r.map (a_v ad))) := by
          intro H1 locs1 hP hD hS
          rw [← List.map_set] at hP hD
          have w1 : a_Wd D ad ca (h.set o (.inr (cj, fs.set b v))) A s H1 := h7.set hP hD (fun x q => by cases q)
          exact k ad ca H1 locs1 cells slots ls' h1 (by rw [List.length_set]; exact h2) h3 (by rw [List.length_set]; exact h4) (by rw [List.length_set]; exact h5.2.2) (a_okh_set h6 o hok) w1 hS h9 h10
        rcases hs.2 with hfin | ⟨hfin, hini, hdecl⟩
        · exact va_put (D := D) (ci := cj) (C := a_cn cj) (T := a_T cj) (N := a_nf cj) (v := a_v ad v) (ty := a_ty cj b) X.1 X.2.1 X.2.2.2.2.1 (a_cw hs.1.1) (a_ty cj) (a_ty_ok hs.1.1) (a_nm_ok hs.1.1) X.2.2.2.1 h7.2.2.1 h7.1 h7.2.1 h8 o (a_ws_get he) (a_cl hs.1.1) b hs.1.2.1 (X.2.2.2.2.1 _ hs.1.2.2) (fun _ h9 => h9) hfin (a_ty_ok hs.1.1 b hs.1.2.1) (a_nar ad _ v hn) (by rw [a_fit]; exact hf) (by rw [List.length_map]; exact hl) hd go
        · exact va_putF (D := D) (ci := cj) (C := a_cn cj) (T := a_T cj) (N := a_nf cj) (v := a_v ad v) (ty := a_ty cj b) X.1 X.2.1 X.2.2.2.2.1 (a_cw hs.1.1) (a_ty cj) (a_ty_ok hs.1.1) (a_nm_ok hs.1.1) X.2.2.2.1 h7.2.2.1 h7.1 h7.2.1 h8 o (a_ws_get he) (a_cl hs.1.1) b hs.1.2.1 (X.2.2.2.2.1 _ hs.1.2.2) (fun _ h9 => h9) hfin (X.2.2.2.2.2.2.2 hini) hdecl (a_ty_ok hs.1.1 b hs.1.2.1) (a_nar ad _ v hn) (by rw [a_fit]; exact hf) (by rw [List.length_map]; exact hl) hd go
      · simp at hz
    · simp at hz
  · cases hz
theorem a_gets9 {rest : List Value} {ls9 : Array Slot} {H : Heap} {locs : List Loc} {cells slots : Nat} (hexec : p.tables.exec = Jvm.exec) (hb : c.code = cc) {C n d own : String} {v : Value} {index : Nat} (hZ : va_Z C n d v A s H0) (hS : va_S A H0 H locs) (hown : s.vm.findClass own = some m.cls) (hlink : (Cond.fieldLink own index C n d).before args s = true) (hdg : decode cc pc = .ok (.getstatic index, 3))
    (kk : W p l e R s m args below meth c H locs cells slots Q (F0 m (pc + 3) ls9 (v :: rest))) : W p l e R s m args below meth c H locs cells slots Q (F0 m pc ls9 rest) := by
  obtain ⟨cf, kf, fi, f, a, cell, h1, h2, h3, h4, h5, h6, h7, h8⟩ := hZ
  exact W.gets hexec hb hown hlink h1 h2 h3 h4 (by rw [hS.2.1 a (Array.getElem?_eq_some_iff.mp h5).1 h8]; exact h5) (fun e => by rw [e] at h6; cases h6) h7 rfl hdg kk
theorem a_tb9 {rest : List Value} {ls9 : Array Slot} {H : Heap} {locs : List Loc} {cells slots t N : Nat} {f : Nat → Value} (hexec : p.tables.exec = Jvm.exec) (hb : c.code = cc) (hT : va_T .byte t N f A s H0) (hS : va_S A H0 H locs) {i : Int32} (hin : ¬ (i < 0 ∨ N ≤ i.toNatClampNeg)) {v : Int32} (hv : f i.toNatClampNeg = .int v) (hdg : decode cc pc = .ok (.baload, 1))
    (kk : W p l e R s m args below meth c H locs cells slots Q (F0 m (pc + 1) ls9 (.int v :: rest))) : W p l e R s m args below meth c H locs cells slots Q (F0 m pc ls9 (.int i :: .ref t :: rest)) := by
  obtain ⟨cell, h1, h2, h3, h4, h5, h6, h7⟩ := hT
  have hlt : i.toNatClampNeg < N := Nat.not_le.mp fun q => hin (Or.inr q)
  have hin' : ¬ (i < 0 ∨ cell.slots.size ≤ i.toNatClampNeg) := by
    intro q
    rcases q with q | q
    · exact hin (Or.inl q)
    · omega
  exact W.bald (v := .int v) hexec hb (by rw [hS.2.1 t (Array.getElem?_eq_some_iff.mp h1).1 h7]; exact h1) h2 h3 hin' (by rw [h6 _ hlt, hv]) rfl rfl hdg kk
/-- the statics: 0 COMPACT_STRINGS, 1 and 2 the tables of digits -/
def a_stw (own : String) (n a : Nat) : Prop := (a = 0 ∧ Cond.fieldLink own n "java/lang/String" "COMPACT_STRINGS" "Z" ∈ lw_good) ∨ ((a = 1 ∨ a = 2) ∧ Cond.fieldLink own n "java/lang/Integer" (if a = 1 then "DigitOnes" else "DigitTens") "[B" ∈ lw_good)
theorem a_getstatic (X : a_cx p s H0 m args meth c cc own nL A xs L ad0 ini) {n : Nat} (hd : decode cc pc = .ok (.getstatic n, 3)) {a b : Nat} (hs : a_stw own n a) (hz : a_ins xs L (.getstatic n) a b pc ls st h cb nb = some z) (k : a_GS p l e R s H0 m args below meth c Q D A nL ad0 n0 z) : a_G p l e R s H0 m args below meth c Q D A nL ad0 n0 pc ls st h cb nb := by
  simp only [a_ins] at hz
  cases hz
  intro ad ca H locs cells slots ls' h1 h2 h3 h4 h5 h6 h7 h8 h9 h10
  have hA := X.2.2.2.2.2.2.1
  rcases hs with ⟨rfl, hw⟩ | ⟨ha, hw⟩
  · rw [if_pos rfl] at k
    refine a_gets9 X.1 X.2.1 hA.2.2.2.2.2.1 h8 X.2.2.2.1 (X.2.2.2.2.1 _ hw) hd ?_
    exact k ad ca H locs cells slots ls' h1 h2 h3 h4 (a_oks_cons.mpr ⟨a_okv_int _ _, h5⟩) h6 h7 h8 h9 h10
  · obtain ⟨w, rfl, hw2⟩ : ∃ w, a = w + 1 ∧ w < 2 := ⟨a - 1, by omega, by omega⟩
    rw [if_neg (by omega)] at k
    have e9 : ad (a_big + 499 + (w + 1)) = ad0 (a_big + 500 + w) := by
      rw [show a_big + 499 + (w + 1) = a_big + 500 + w by omega]
      exact h1 _ (Or.inr (by omega))
    have hZ := (a_Dig.at hA hw2).1
    rw [← e9] at hZ
    refine a_gets9 X.1 X.2.1 hZ h8 X.2.2.2.1 (X.2.2.2.2.1 _ (by
      rcases (show w = 0 ∨ w = 1 by omega) with rfl | rfl
      · exact hw
      · exact hw)) hd ?_
    exact k ad ca H locs cells slots ls' h1 h2 h3 h4 (a_oks_cons.mpr ⟨fun i q => by cases q; exact Or.inr (by omega), h5⟩) h6 h7 h8 h9 h10
/-- what a load of an element gives -/
theorem a_load (X : a_cx p s H0 m args meth c cc own nL A xs L ad0 ini) {o : Nat} {j : Int32} {kd : Nat} {v : Value} {r : List Value} {i : Instr} (hd : decode cc pc = .ok (i, 1)) (hi : (kd = 0 ∧ i = .iaload) ∨ (kd = 1 ∧ i = .baload) ∨ (kd = 2 ∧ i = .laload) ∨ (kd = 3 ∧ i = .aaload)) (hr : a_rd xs L h o j kd = some v)
    (k : a_G p l e R s H0 m args below meth c Q D A nL ad0 n0 (pc + 1) ls (v :: r) h cb nb) : a_G p l e R s H0 m args below meth c Q D A nL ad0 n0 pc ls (.int j :: .ref o :: r) h cb nb := by
  intro ad ca H locs cells slots ls' h1 h2 h3 h4 h5 h6 h7 h8 h9 h10
  simp only [a_oks_cons] at h5
  simp only [a_rd] at hr
  split at hr
  · rename_i ho
    subst ho
    split at hr
    · rename_i hin
      obtain ⟨hk, hin⟩ := hin
      subst hk
      cases hr
      have hii : i = .iaload := by rcases hi with q | q | q | q <;> first | exact q.2 | exact absurd q.1 (by decide)
      subst hii
      obtain ⟨⟨hX, hbl, hbA⟩, -⟩ := X.2.2.2.2.2.2.1
      have e9 : ad a_big = ad0 a_big := h1 _ (Or.inr (Nat.le_refl _))
      have kk := k ad ca H locs cells slots ls' h1 h2 h3 h4 (a_oks_cons.mpr ⟨a_okv_int _ _, h5.2.2⟩) h6 h7 h8 h9 h10
      show W p l e R s m args below meth c H locs cells slots Q (F0 m pc ls' (.int j :: .ref (ad a_big) :: r.map (a_v ad)))
      rw [e9]
      exact va_sld X.1 X.2.1 hX hbl hbA.1 h8 hin hd kk
    · cases hr
  · split at hr
    · rename_i ho
      split at hr
      · rename_i hin
        obtain ⟨hk, hin⟩ := hin
        subst hk
        cases hr
        have hii : i = .baload := by rcases hi with q | q | q | q <;> first | exact q.2 | exact absurd q.1 (by decide)
        subst hii
        obtain ⟨w, rfl, hw2⟩ : ∃ w, o = a_big + 500 + w ∧ w < 2 := ⟨o - a_big - 500, by omega, by omega⟩
        have e9 : ad (a_big + 500 + w) = ad0 (a_big + 500 + w) := h1 _ (Or.inr (by omega))
        have hT := (a_Dig.at X.2.2.2.2.2.2.1 hw2).2
        rw [← e9] at hT
        have kk := k ad ca H locs cells slots ls' h1 h2 h3 h4 (a_oks_cons.mpr ⟨a_okv_int _ _, h5.2.2⟩) h6 h7 h8 h9 h10
        refine a_tb9 X.1 X.2.1 hT h8 hin (by rw [show a_big + 500 + w - a_big - 500 = w by omega]) hd kk
      · cases hr
    split at hr
    · rename_i ty n f he
      split at hr
      · rename_i hc
        obtain ⟨hin, hc⟩ := hc
        cases hr
        have kk := k ad ca H locs cells slots ls' h1 h2 h3 h4 (a_oks_cons.mpr ⟨a_okv_int _ _, h5.2.2⟩) h6 h7 h8 h9 h10
        rcases hc with ⟨rfl, rfl⟩ | ⟨rfl, rfl | rfl⟩
        · have hii : i = .iaload := by rcases hi with q | q | q | q <;> first | exact q.2 | exact absurd q.1 (by decide)
          subst hii
          exact va_iald X.1 X.2.1 (h7.K he) h7.1 o 0 (a_ws_get he) rfl hin hd kk
        · have hii : i = .baload := by rcases hi with q | q | q | q <;> first | exact q.2 | exact absurd q.1 (by decide)
          subst hii
          exact va_bald X.1 X.2.1 (h7.K he) h7.1 o 0 (a_ws_get he) rfl hin hd kk
        · have hii : i = .baload := by rcases hi with q | q | q | q <;> first | exact q.2 | exact absurd q.1 (by decide)
          subst hii
          exact va_zald X.1 X.2.1 (h7.K he) h7.1 o 0 (a_ws_get he) rfl hin hd kk
      · cases hr
    · rename_i ty n f he
      split at hr
      · rename_i hc
        obtain ⟨hin, rfl, rfl⟩ := hc
        cases hr
        have kk := k ad ca H locs cells slots ls' h1 h2 h3 h4 (a_oks_cons.mpr ⟨a_okv_long _ _, h5.2.2⟩) h6 h7 h8 h9 h10
        have hii : i = .laload := by rcases hi with q | q | q | q <;> first | exact q.2 | exact absurd q.1 (by decide)
        subst hii
        exact va_lald X.1 X.2.1 (h7.K he) h7.1 o 0 (a_ws_get he) rfl hin hd kk
      · cases hr
    · rename_i ty n f he
      split at hr
      · rename_i hc
        obtain ⟨hin, rfl, hty⟩ := hc
        cases hr
        have hok : a_okv h.length (va_rf (f j.toNatClampNeg)) := by
          cases hf : f j.toNatClampNeg with
          | none => exact a_okv_null _
          | some i9 => intro i8 e8; cases e8; exact h6 o _ he f rfl _ _ hf
        have kk := k ad ca H locs cells slots ls' h1 h2 h3 h4 (a_oks_cons.mpr ⟨hok, h5.2.2⟩) h6 h7 h8 h9 h10
        have hii : i = .aaload := by rcases hi with q | q | q | q <;> first | exact q.2 | exact absurd q.1 (by decide)
        subst hii
        have hlt : j.toNatClampNeg < n := Nat.not_le.mp fun q => hin (Or.inr q)
        have hcell : H[ad o]? = some (arrV (ca o) n (fun i => va_rf ((f i).map ad))) := h7.1 o _ (a_ws_get he)
        have kk2 : W p l e R s m args below meth c H locs cells slots Q (F0 m (pc + 1) ls' (va_rf ((f j.toNatClampNeg).map ad) :: r.map (a_v ad))) := by
          rw [← a_v_rf]
          exact kk
        exact W.aald (v := va_rf ((f j.toNatClampNeg).map ad)) (ty := ty) X.1 X.2.1 hcell ((h7.2.2.2 o _ he).1 n (fun i => va_rf ((f i).map ad))) hty (fun q => by cases q) (by show ¬ (j < 0 ∨ (arrV _ _ _).slots.size ≤ _); rw [arrV_size]; exact hin) (by show (arrV _ _ _).slots[_]? = _; rw [arrV_read _ _ hlt]) rfl rfl hd kk2
      · cases hr
    · cases hr
theorem a_store (X : a_cx p s H0 m args meth c cc own nL A xs L ad0 ini) {o : Nat} {j : Int32} {kd : Nat} {v : Value} {h' : a_H} {r : List Value} {i : Instr} (hd : decode cc pc = .ok (i, 1)) (hi : (kd = 0 ∧ i = .iastore) ∨ (kd = 1 ∧ i = .bastore) ∨ (kd = 2 ∧ i = .lastore)) (hr : a_wr h o j v kd = some h')
    (k : a_G p l e R s H0 m args below meth c Q D A nL ad0 n0 (pc + 1) ls r h' cb nb) : a_G p l e R s H0 m args below meth c Q D A nL ad0 n0 pc ls (v :: .int j :: .ref o :: r) h cb nb := by
  intro ad ca H locs cells slots ls' h1 h2 h3 h4 h5 h6 h7 h8 h9 h10
  simp only [a_oks_cons] at h5
  simp only [a_wr] at hr
  have fin : ∀ (ty : FieldType) (n : Nat) (x0 x1 : (Nat → Int32) ⊕ (Nat → Int64) ⊕ (Nat → UInt32) ⊕ (Nat → UInt64) ⊕ (Nat → Option Nat)), h[o]? = some (.inl (ty, n, x0)) → h' = h.set o (.inl (ty, n, x1)) → (∀ f, x1 ≠ .inr (.inr (.inr (.inr f)))) →
      ∀ (H1 : Heap) (locs1 : List Loc), va_P D vwCl ((a_ws ad ca h).set o (ad o, .inl (ca o, n, x1))) H1 → va_D A ((a_ws ad ca h).set o (ad o, .inl (ca o, n, x1))) → va_S A H0 H1 locs1 → W p l e R s m args below meth c H1 locs1 cells slots Q (F0 m (pc + 1) ls' (r.map (a_v ad))) := by
    intro ty n x0 x1 he eh hx H1 locs1 hP hD hS
    subst eh
    have ek : a_k ad x1 = x1 := by rcases x1 with f | f | f | f | f <;> first | rfl | exact absurd rfl (hx f)
    have w1 : a_Wd D ad ca (h.set o (.inl (ty, n, x1))) A s H1 := h7.set (by show va_P D vwCl ((a_ws ad ca h).set o (ad o, .inl (ca o, n, a_k ad x1))) H1; rw [ek]; exact hP) (by show va_D A ((a_ws ad ca h).set o (ad o, .inl (ca o, n, a_k ad x1))); rw [ek]; exact hD) (fun x q => by cases q; exact ⟨_, he, rfl⟩)
    exact k ad ca H1 locs1 cells slots ls' h1 (by rw [List.length_set]; exact h2) h3 (by rw [List.length_set]; exact h4) (by rw [List.length_set]; exact h5.2.2.2) (a_okh_set h6 o (fun f e9 => absurd e9 (hx f))) w1 hS h9 h10
  split at hr
  · rename_i ty n f x he
    split at hr
    · rename_i hin
      split at hr
      · rename_i hc
        obtain ⟨rfl, rfl⟩ := hc
        cases hr
        have hii : i = .iastore := by rcases hi with q | q | q <;> first | exact q.2 | exact absurd q.1 (by decide)
        subst hii
        exact va_iast X.1 X.2.1 (h7.K he) h7.1 h7.2.1 h8 o 0 (a_ws_get he) rfl hin hd (fin _ _ _ _ he rfl (fun f q => by cases q))
      · split at hr
        · rename_i hc
          obtain ⟨rfl, rfl⟩ := hc
          cases hr
          have hii : i = .bastore := by rcases hi with q | q | q <;> first | exact q.2 | exact absurd q.1 (by decide)
          subst hii
          exact va_bast X.1 X.2.1 (h7.K he) h7.1 h7.2.1 h8 o 0 (a_ws_get he) rfl hin hd (fin _ _ _ _ he rfl (fun f q => by cases q))
        · split at hr
          · rename_i hc
            obtain ⟨rfl, rfl⟩ := hc
            cases hr
            have hii : i = .bastore := by rcases hi with q | q | q <;> first | exact q.2 | exact absurd q.1 (by decide)
            subst hii
            exact va_zast X.1 X.2.1 (h7.K he) h7.1 h7.2.1 h8 o 0 (a_ws_get he) rfl hin hd (fin _ _ _ _ he rfl (fun f q => by cases q))
          · cases hr
    · cases hr
  · rename_i ty n f x he
    split at hr
    · rename_i hc
      obtain ⟨hin, rfl, rfl⟩ := hc
      cases hr
      have hii : i = .lastore := by rcases hi with q | q | q <;> first | exact q.2 | exact absurd q.1 (by decide)
      subst hii
      exact va_last X.1 X.2.1 (h7.K he) h7.1 h7.2.1 h8 o 0 (a_ws_get he) rfl hin hd (fin _ _ _ _ he rfl (fun f q => by cases q))
    · cases hr
  · cases hr
theorem a_aastore (X : a_cx p s H0 m args meth c cc own nL A xs L ad0 ini) (hd : decode cc pc = .ok (.aastore, 1)) {a b : Nat}
    (hz : a_ins xs L .aastore a b pc ls st h cb nb = some z) (k : a_GS p l e R s H0 m args below meth c Q D A nL ad0 n0 z) : a_G p l e R s H0 m args below meth c Q D A nL ad0 n0 pc ls st h cb nb := by
  simp only [a_ins, a_wq] at hz
  split at hz
  · rename_i q j o r
    split at hz
    · rename_i ty n f cj fs he hq
      split at hz
      · rename_i hc
        obtain ⟨hin, rfl, h10', rfl⟩ := hc
        simp only [Option.map_some, Option.some.injEq] at hz
        subst hz
        intro ad ca H locs cells slots ls' h1 h2 h3 h4 h5 h6 h7 h8 h9 h10
        simp only [a_oks_cons] at h5
        refine va_astq (r := (a_cn cj, a_T cj, a_nf cj)) X.1 X.2.1 (h7.K he) h7.1 h7.2.1 h8 o 0 q cj (a_ws_get he) rfl (a_ws_get hq) (a_cl h10') hin hd (fun H1 locs1 hP hD hS => ?_)
        have ek : (fun i => (va_up f j.toNatClampNeg (some q) i).map ad) = va_up (fun i => (f i).map ad) j.toNatClampNeg (some (ad q)) := by
          funext i
          simp only [va_up]
          split <;> rfl
        have w1 : a_Wd D ad ca (h.set o (.inl (.object (a_cn cj), n, .inr (.inr (.inr (.inr (va_up f j.toNatClampNeg (some q)))))))) A s H1 := h7.set
          (by show va_P D vwCl ((a_ws ad ca h).set o (ad o, .inl (ca o, n, .inr (.inr (.inr (.inr (fun i => (va_up f j.toNatClampNeg (some q) i).map ad))))))) H1; rw [ek]; exact hP)
          (by show va_D A ((a_ws ad ca h).set o (ad o, .inl (ca o, n, .inr (.inr (.inr (.inr (fun i => (va_up f j.toNatClampNeg (some q) i).map ad))))))); rw [ek]; exact hD)
          (fun x e9 => by cases e9; exact ⟨_, he, rfl⟩)
        refine k ad ca H1 locs1 cells slots ls' h1 (by rw [List.length_set]; exact h2) h3 (by rw [List.length_set]; exact h4) (by rw [List.length_set]; exact h5.2.2.2) (a_okh_set h6 o ?_) w1 hS h9 h10
        intro f9 e9 i9 j9 hf9
        cases e9
        simp only [va_up] at hf9
        split at hf9
        · cases hf9; exact h5.1 _ rfl
        · exact h6 o _ he f rfl _ _ hf9
      · simp at hz
    · simp at hz
  · cases hz
theorem a_arraylength (X : a_cx p s H0 m args meth c cc own nL A xs L ad0 ini) (hd : decode cc pc = .ok (.arraylength, 1)) {a b : Nat}
    (hz : a_ins xs L .arraylength a b pc ls st h cb nb = some z) (k : a_GS p l e R s H0 m args below meth c Q D A nL ad0 n0 z) : a_G p l e R s H0 m args below meth c Q D A nL ad0 n0 pc ls st h cb nb := by
  simp only [a_ins, a_len] at hz
  split at hz
  · rename_i o r
    split at hz
    · rename_i ho
      subst ho
      simp only [Option.map_some, Option.some.injEq] at hz
      subst hz
      intro ad ca H locs cells slots ls' h1 h2 h3 h4 h5 h6 h7 h8 h9 h10
      simp only [a_oks_cons] at h5
      obtain ⟨⟨hX, hbl, hbA⟩, -⟩ := X.2.2.2.2.2.2.1
      have e9 : ad a_big = ad0 a_big := h1 _ (Or.inr (Nat.le_refl _))
      have kk := k ad ca H locs cells slots ls' h1 h2 h3 h4 (a_oks_cons.mpr ⟨a_okv_int _ _, h5.2⟩) h6 h7 h8 h9 h10
      show W p l e R s m args below meth c H locs cells slots Q (F0 m pc ls' (.ref (ad a_big) :: r.map (a_v ad)))
      rw [e9]
      exact va_slen X.1 X.2.1 hX hbl hbA.1 h8 hd kk
    · split at hz
      · rename_i ty n x he
        simp only [Option.map_some, Option.some.injEq] at hz
        subst hz
        intro ad ca H locs cells slots ls' h1 h2 h3 h4 h5 h6 h7 h8 h9 h10
        simp only [a_oks_cons] at h5
        have kk := k ad ca H locs cells slots ls' h1 h2 h3 h4 (a_oks_cons.mpr ⟨a_okv_int _ _, h5.2⟩) h6 h7 h8 h9 h10
        exact va_alen X.1 X.2.1 (h7.K he) h7.1 o 0 (a_ws_get he) rfl rfl hd kk
      · simp at hz
  · cases hz
/-- a new cell's frame -/
theorem a_fresh {ad : Nat → Nat} {ca : Nat → ClassId} {H1 : Heap} {locs : List Loc} {cells slots : Nat} {ls' : Array Slot} {c9 : a_C} {q : Nat} {cA : ClassId} {r : List Value} {k1 k2 pc' : Nat} (hw : ∃ H, a_Wd D ad ca h A s H) (hc : a_okc h.length c9) (hn : h.length < a_big)
    (k : a_G p l e R s H0 m args below meth c Q D A nL ad0 n0 pc' ls (.ref h.length :: r) (h ++ [c9]) (cb - k1) (nb - k2)) (hk1 : k1 ≤ cb) (hk2 : k2 ≤ nb)
    (h1 : a_agr n0 ad0 ad) (h2 : n0 ≤ h.length) (h3 : a_L ad nL ls ls') (h4 : a_oks h.length ls) (h5 : a_oks h.length r) (h6 : a_okh h) (hP : va_P D vwCl (a_ws ad ca h ++ [(q, a_e ad cA c9)]) H1) (hD : va_D A (a_ws ad ca h ++ [(q, a_e ad cA c9)])) (hty : ∀ x, c9 = .inl x → ArrOfT s cA x.1 ∧ va_RA s cA x.1) (h8 : va_S A H0 H1 locs) (h9 : cells + cb ≤ R.cells) (h10 : slots + nb ≤ R.slots) :
    W p l e R s m args below meth c H1 locs (cells + k1) (slots + k2) Q (F0 m pc' ls' (.ref q :: r.map (a_v ad))) := by
  obtain ⟨H, hw⟩ := hw
  have hag := a_agr_up ad q hn
  have w1 := hw.push h6 hn hc hP hD hty
  have hlen : h.length ≤ (h ++ [c9]).length := by rw [List.length_append]; exact Nat.le_add_right _ _
  have kk := k (va_up ad h.length q) (va_up ca h.length cA) H1 locs (cells + k1) (slots + k2) ls' (a_agr_trans h2 h1 hag) (Nat.le_trans h2 hlen) (h3.agr hag h4) (a_oks_mono hlen h4)
    (a_oks_cons.mpr ⟨fun i e9 => by cases e9; exact Or.inl (by rw [List.length_append]; exact Nat.lt_succ_self _), a_oks_mono hlen h5⟩) (a_okh_push h6 hc) w1 h8 (by omega) (by omega)
  have e1 : (Value.ref h.length :: r).map (a_v (va_up ad h.length q)) = .ref q :: r.map (a_v ad) := by
    rw [List.map_cons, a_vs_agr hag h5]
    show Value.ref (va_up ad h.length q h.length) :: _ = _
    simp [va_up]
  rw [e1] at kk
  exact kk
theorem a_new (X : a_cx p s H0 m args meth c cc own nL A xs L ad0 ini) {n : Nat} (hd : decode cc pc = .ok (.new n, 3)) {a b : Nat} (hs : Cond.classLink own n (a_cn a) ∈ lw_good ∧ Cond.instantiable (a_cn a) (a_nf a) ∈ lw_good ∧ Cond.initialized (a_cn a) ∈ lw_good)
    (hz : a_ins xs L (.new n) a b pc ls st h cb nb = some z) (k : a_GS p l e R s H0 m args below meth c Q D A nL ad0 n0 z) : a_G p l e R s H0 m args below meth c Q D A nL ad0 n0 pc ls st h cb nb := by
  simp only [a_ins] at hz
  split at hz
  · rename_i hc
    obtain ⟨hc1, hc2, hc3, hc4⟩ := hc
    cases hz
    intro ad ca H locs cells slots ls' h1 h2 h3 h4 h5 h6 h7 h8 h9 h10
    have efs : ((List.range (a_nf a)).map fun k => defaultValue (a_ty a k)).map (a_v ad) = (List.range (a_nf a)).map fun k => defaultValue (a_ty a k) := by
      rw [List.map_map]
      exact List.map_congr_left fun i _ => a_v_def ad _
    refine va_new (ci := a) (fs := (List.range (a_nf a)).map fun k => defaultValue (a_ty a k)) (C := a_cn a) (T := a_T a) (N := a_nf a) X.1 X.2.1 X.2.2.2.2.1 (a_cw hc4) (a_ty a) (a_ty_ok hc4) X.2.2.2.1 (X.2.2.2.2.1 _ hs.1) (X.2.2.2.2.1 _ hs.2.1) (X.2.2.2.2.1 _ hs.2.2) h7.2.2.1 h7.1 h7.2.1 h8 X.2.2.2.2.2.1 (a_cl hc4)
      (fun j hj => by simp [vp_V, hj]) (by omega) (by omega) hd (fun q H1 hP hD hS => ?_)
    refine a_fresh (c9 := .inr (a, (List.range (a_nf a)).map fun k => defaultValue (a_ty a k))) (cA := 0) (cb := cb) (nb := nb) ⟨H, h7⟩ (fun v hv => ?_) hc3 k hc1 hc2 h1 h2 h3 h4 h5 h6 ?_ ?_ (fun x e9 => by cases e9) hS h9 h10
    · obtain ⟨i, -, rfl⟩ := List.mem_map.mp hv
      exact a_okv_def _ _
    · show va_P D vwCl (a_ws ad ca h ++ [(q, .inr (a, List.map (a_v ad) _))]) H1
      rw [efs]; exact hP
    · show va_D A (a_ws ad ca h ++ [(q, .inr (a, List.map (a_v ad) _))])
      rw [efs]; exact hD
  · cases hz
theorem a_newarray (X : a_cx p s H0 m args meth c cc own nL A xs L ad0 ini) {t : ArrayType} (hd : decode cc pc = .ok (.newarray t, 2)) {a b : Nat} (hs : Cond.arrayClass (newarray.typeOf t) ∈ lw_good)
    (hz : a_ins xs L (.newarray t) a b pc ls st h cb nb = some z) (k : a_GS p l e R s H0 m args below meth c Q D A nL ad0 n0 z) : a_G p l e R s H0 m args below meth c Q D A nL ad0 n0 pc ls st h cb nb := by
  simp only [a_ins] at hz
  split at hz
  · rename_i x r
    split at hz
    · rename_i d hdf
      split at hz
      · rename_i hc
        obtain ⟨hc1, hc2, hc3, hc4, hc5⟩ := hc
        cases hz
        intro ad ca H locs cells slots ls' h1 h2 h3 h4 h5 h6 h7 h8 h9 h10
        rw [a_oks_cons] at h5
        have key : ∀ (x0 : (Nat → Int32) ⊕ (Nat → Int64) ⊕ (Nat → UInt32) ⊕ (Nat → UInt64) ⊕ (Nat → Option Nat)), d.2 = x0 → (∀ f, x0 ≠ .inr (.inr (.inr (.inr f)))) → (∀ cA : ClassId, vp_cell cA (x.toNatClampNeg, x0) = arrV cA x.toNatClampNeg (fun _ => defaultValue (newarray.typeOf t))) → componentBytes (newarray.typeOf t) ≤ 8 →
            W p l e R s m args below meth c H locs cells slots Q (F0 m pc ls' (.int x :: r.map (a_v ad))) := by
          intro x0 ed hx ha hcb
          subst ed
          refine va_newa (atype := t) (ty := newarray.typeOf t) (a0 := (x.toNatClampNeg, d.2)) X.1 X.2.1 (X.2.2.2.2.1 _ hs) rfl h7.2.2.1 h7.1 h7.2.1 h8 X.2.2.2.2.2.1 ha hc4 rfl (Nat.le_trans (Nat.mul_le_mul hc5 hcb) (Nat.le_of_ble_eq_true rfl)) (by omega) (by omega) hd (fun q cA H1 hK hP hD hS => ?_)
          have ek : a_k ad d.2 = d.2 := by
            revert hx
            rcases d.2 with f | f | f | f | f
            · intro _; rfl
            · intro _; rfl
            · intro _; rfl
            · intro _; rfl
            · intro hx; exact absurd rfl (hx f)
          refine a_fresh (c9 := .inl (newarray.typeOf t, x.toNatClampNeg, d.2)) (cA := cA) (cb := cb) (nb := nb) ⟨H, h7⟩ (fun f e9 => absurd e9 (hx f)) hc3 k hc1 hc2 h1 h2 h3 h4 h5.2 h6 ?_ ?_ (fun y e9 => by cases e9; exact hK.2 0 _ rfl) hS h9 h10
          · show va_P D vwCl (a_ws ad ca h ++ [(q, .inl (cA, x.toNatClampNeg, a_k ad d.2))]) H1
            rw [ek]; exact hP
          · show va_D A (a_ws ad ca h ++ [(q, .inl (cA, x.toNatClampNeg, a_k ad d.2))])
            rw [ek]; exact hD
        cases t <;> simp only [newarray.typeOf, a_df] at hdf <;> first
          | (cases hdf; exact key _ rfl (fun f q => by cases q) (fun _ => rfl) (by decide))
          | cases hdf
      · cases hz
    · cases hz
  · cases hz
theorem a_anewarray (X : a_cx p s H0 m args meth c cc own nL A xs L ad0 ini) {n : Nat} (hd : decode cc pc = .ok (.anewarray n, 3)) {a b : Nat} (hs : Cond.classLink own n RX3 ∈ lw_good ∧ a = 3)
    (hz : a_ins xs L (.anewarray n) a b pc ls st h cb nb = some z) (k : a_GS p l e R s H0 m args below meth c Q D A nL ad0 n0 z) : a_G p l e R s H0 m args below meth c Q D A nL ad0 n0 pc ls st h cb nb := by
  simp only [a_ins] at hz
  split at hz
  · rename_i x r
    split at hz
    · rename_i hc
      obtain ⟨hc1, hc2, hc3, hc4, hc5⟩ := hc
      cases hz
      intro ad ca H locs cells slots ls' h1 h2 h3 h4 h5 h6 h7 h8 h9 h10
      rw [a_oks_cons] at h5
      obtain ⟨hs1, rfl⟩ := hs
      refine va_newq (C := RX3) X.1 X.2.1 X.2.2.2.1 (X.2.2.2.2.1 _ hs1) X.2.2.2.2.2.2.1.2.2.2.2.2.2.2.1.1 h7.2.2.1 h7.1 h7.2.1 h8 X.2.2.2.2.2.1 hc4 rfl (Nat.le_trans (Nat.mul_le_mul hc5 (Nat.le_refl 4)) (Nat.le_of_ble_eq_true rfl)) (by omega) (by omega) hd (fun q cA H1 hK hP hD hS => ?_)
      refine a_fresh (c9 := .inl (.object RX3, x.toNatClampNeg, .inr (.inr (.inr (.inr (fun _ => none)))))) (cA := cA) (cb := cb) (nb := nb) ⟨H, h7⟩ (fun f e9 i9 j9 hf => by cases e9; cases hf) hc3 k hc1 hc2 h1 h2 h3 h4 h5.2 h6 hP hD (fun y e9 => by cases e9; exact hK.2 0 _ rfl) hS h9 h10
    · cases hz
  · cases hz
end AHP
