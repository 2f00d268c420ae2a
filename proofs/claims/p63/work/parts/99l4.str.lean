/-! The text's end: StringBuilder.toString by the library's law. -/
theorem w_in4 {k : Nat} (hk : k < 4) : Cond.lays RJ4 (TJ4 k).1 (TJ4 k).2.1 (TJ4 k).2.2.1 ∈ lw_good := by
  refine a_cw10 _ ?_
  rcases (show k = 0 ∨ k = 1 ∨ k = 2 ∨ k = 3 by omega) with rfl | rfl | rfl | rfl
  · exact List.mem_of_getElem? (i := 0) rfl
  · exact List.mem_of_getElem? (i := 1) rfl
  · exact List.mem_of_getElem? (i := 2) rfl
  · exact List.mem_of_getElem? (i := 3) rfl
theorem w_fit {s : State} {c : ClassId} {k : Class} {i : Nat} {ty : FieldType} {v : Value} (h1 : s.vm.classes[c]? = some k) (h3 : k.kind = .ordinary) (h2 : k.instanceTypes[i]? = some ty) (hf : fits ty v = true) : s.fitsSlot c .none i v = true := by
  unfold State.fitsSlot State.slotType?
  simp only [h1, h3, Option.bind_eq_bind, Option.bind_some, h2]
  exact hf
theorem w_Bd {D : va_G} {ad : Nat → Nat} {ca : Nat → ClassId} {h : a_H} {A : Nat → Prop} {s : State} {H : Heap} {args : Array Value} {j n m L : Nat} {f : Nat → Int32} {xs : Nat → Int32} (hts : ∀ w ∈ lw_good, w.before args s = true) (hA : a_Amb xs L ad A s H) (hW : a_Wd D ad ca h A s H) (hg : h[181]? = some (sb_ob 181 j n)) (hgj : h[181 + j]? = some (sb_ar m f)) (hj : 0 < j) (hn : n ≤ m ∧ m ≤ 102) (hf : ∀ i, fits .byte (.int (f i)) = true) :
    ∃ (x : SBG.Fix) (bC : Cell), x.b = ad 181 ∧ SBG.Bd x bC (ad (181 + j)) (arrV (ca (181 + j)) m (fun i => .int (f i))) n { s with heap := H } := by
  obtain ⟨c0, k0, cV, kV, iV, fV, v1, v2, v3, v4, v5, v6, v7, -⟩ := Cond.lays_spec (hts _ (w_in4 (k := 0) (by decide)))
  obtain ⟨c1, k1, cC, kC, iC, fC, u1, u2, u3, u4, u5, u6, u7, -⟩ := Cond.lays_spec (hts _ (w_in4 (k := 1) (by decide)))
  obtain ⟨c3, k3, cN, kN, iN, fN, w1, w2, w3, w4, w5, w6, w7, -⟩ := Cond.lays_spec (hts _ (w_in4 (k := 3) (by decide)))
  have hVC := Cond.lays_apart (hts _ (w_in4 (k := 0) (by decide))) (hts _ (w_in4 (k := 1) (by decide))) v3 u3
  have hVN := Cond.lays_apart (hts _ (w_in4 (k := 0) (by decide))) (hts _ (w_in4 (k := 3) (by decide))) v3 w3
  have hCN := Cond.lays_apart (hts _ (w_in4 (k := 1) (by decide))) (hts _ (w_in4 (k := 3) (by decide))) u3 w3
  obtain ⟨nV, tV⟩ := State.fieldFound?_type (t := .array .byte) v3 rfl
  obtain ⟨nC, tC⟩ := State.fieldFound?_type (t := .byte) u3 rfl
  obtain ⟨nN, tN⟩ := State.fieldFound?_type (t := .int) w3 rfl
  cases Option.some.inj (v1.symm.trans u1)
  cases Option.some.inj (v1.symm.trans w1)
  obtain ⟨hK1, hK2⟩ := hW.2.2.1.1 10 (RJ4, TJ4, 4) rfl
  obtain ⟨cf, kf, fi, fd, e1, e2⟩ := hK1 0 (by decide)
  cases Option.some.inj (v3.symm.trans e1)
  obtain ⟨cf, kf, fi, fd, e3, e4⟩ := hK1 1 (by decide)
  cases Option.some.inj (u3.symm.trans e3)
  obtain ⟨cf, kf, fi, fd, e5, e6⟩ := hK1 3 (by decide)
  cases Option.some.inj (w3.symm.trans e5)
  obtain ⟨hc1, kk, hc2, hc3⟩ := hK2
  have hcls : D.1 10 = c0 := Option.some.inj (hc1.symm.trans v1)
  obtain ⟨r, hr, bC, b1, b2, b3, b4⟩ := hW.1 181 _ (a_ws_get hg)
  cases Option.some.inj ((show vwCl[10]? = some (RJ4, TJ4, 4) from rfl).symm.trans hr)
  have hb1 : H[ad 181]? = some bC := b1
  rw [hcls] at hc2
  cases Option.some.inj (hc2.symm.trans v2)
  cases Option.some.inj (hc2.symm.trans w2)
  have hb2 : bC.cls = c0 := b2.trans hcls
  have s0 : bC.slots[fV.slot]? = some (.ref (ad (181 + j))) := by rw [e2]; exact b4 0 (by decide)
  have s1 : bC.slots[fC.slot]? = some (.int 0) := by rw [e4]; exact b4 1 (by decide)
  have s3 : bC.slots[fN.slot]? = some (.int (nI n)) := by rw [e6]; exact b4 3 (by decide)
  have ha : H[ad (181 + j)]? = some (arrV (ca (181 + j)) m (fun i => .int (f i))) := hW.1 (181 + j) _ (a_ws_get hgj)
  obtain ⟨ha1, ha2⟩ := hW.2.2.2 (181 + j) _ hgj
  obtain ⟨cf, kf, fi, fs, st, cl, z1, z2, z3, z4, z5, z6, z7, z8⟩ := hA.2.2.2.2.2.1
  have hDj := hW.2.1
  have hne : ad 181 ≠ ad (181 + j) := fun e => by
    have := hDj.1 181 (181 + j) _ _ (a_ws_get hg) (a_ws_get hgj) e
    omega
  have hst1 : ad 181 ≠ st := fun e => z8 (by rw [← e]; exact hDj.2 181 _ (a_ws_get hg))
  have hst2 : ad (181 + j) ≠ st := fun e => z8 (by rw [← e]; exact hDj.2 (181 + j) _ (a_ws_get hgj))
  have hsz : (arrV (ca (181 + j)) m (fun i => Value.int (f i))).slots.size = m := arrV_size _ _ _
  refine ⟨⟨ad 181, fV, fC, fN, c0, c0, st, 1⟩, bC, rfl, ⟨hb1, (by rw [b3]; decide), (by rw [b3]; rfl), ⟨_, _, _, v3⟩, ⟨_, _, _, u3⟩, ⟨_, _, _, w3⟩, v4, u4, w4, s0, s1, s3, ha, ha1 _ _, (by show VmData.none ≠ _; decide), ha2, (by rw [hsz]; exact hn.1), (by rw [hsz]; omega), hne⟩, v1, hb2, ⟨_, v2⟩, ⟨_, _, _, _, _, z1, z2, z3, z4, z5, (by intro e; rw [e] at z6; cases z6), z7⟩, (show (1 : Int32) ≠ 0 by decide), hst1, hst2, ⟨_, _, _, v3, by rw [hb2]; exact v6⟩, ⟨_, _, _, u3, by rw [hb2]; exact u6⟩, ?_, ?_, ?_, ?_, ?_, ?_, ?_, ?_, by rw [hsz]; omega⟩
  · exact (Array.getElem?_eq_some_iff.mp s3).1
  · intro w
    rw [b3, hb2]
    exact w_fit (s := { s with heap := H }) w2 hc3 w7 (by rw [tN]; rfl)
  · exact (Array.getElem?_eq_some_iff.mp s0).1
  · intro w
    rw [b3, hb2]
    exact w_fit (s := { s with heap := H }) v2 hc3 v7 (by rw [tV]; rfl)
  · exact hVN (by rw [nV, nN]; decide)
  · exact hVC (by rw [nV, nC]; decide)
  · exact hCN (by rw [nC, nN]; decide)
  · intro i hi
    rw [hsz] at hi
    have : (arrV (ca (181 + j)) m (fun i => Value.int (f i))).slots[i]? = some (Value.int (f i)) := arrV_read _ _ hi
    rw [Array.getD_eq_getD_getElem?, this]
    exact hf i
