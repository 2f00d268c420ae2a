/-! An array of arrays of ints. -/
section A14
variable {p : Program} {l : Launch} {e : Env} {R : Room} {s : State} {H0 : Heap} {m : MethodId} {args : Array Value} {below : List Frame} {meth : Method} {c : Code} {Q : State → Prop}
variable {D : va_G} {A : Nat → Prop} {nL : Nat} {ad0 : Nat → Nat} {n0 : Nat} {cc : ByteArray} {xs : Nat → Int32} {L : Nat} {pc : Nat} {ls st r : List Value} {h h0 : a_H} {cb nb : Nat} {n : Nat} {own : String} {ini : Bool} {z : List Value × a_H × Nat × Nat}
def a_adm (ad : Nat → Nat) (b N q : Nat) (r : Nat → Nat) : Nat → Nat := fun i => if i < b then ad i else if i = b then q else if i < b + 1 + N then r (i - (b + 1)) else ad i
def a_cam (ca : Nat → ClassId) (b : Nat) (cA cy : ClassId) : Nat → ClassId := fun i => if i < b then ca i else if i = b then cA else cy
theorem a_adm_agr {b N q : Nat} {ad r : Nat → Nat} (hb : b + N + 1 < a_big) : a_agr b ad (a_adm ad b N q r) := fun i hi => by
  unfold a_adm
  rcases hi with hi | hi
  · rw [if_pos hi]
  · rw [if_neg (by omega), if_neg (by omega), if_neg (by omega)]
theorem a_mna_ws {ad : Nat → Nat} {ca : Nat → ClassId} {N K q : Nat} {r : Nat → Nat} {cA cy : ClassId} {f : Nat → va_E} (hh : a_okh h) (hb : h.length + N + 1 < a_big) :
    a_ws (a_adm ad h.length N q r) (a_cam ca h.length cA cy) (h ++ (a_m1 (h.length + 1) N :: List.replicate N (a_m2 K))) =
      (a_ws ad ca h ++ [(q, .inl (cA, N, .inr (.inr (.inr (.inr (fun i => if i < N then some (r i) else none))))))]) ++ va_pl ([] ++ (List.range N).map r) (vr_up f ((List.range N).map r) (.inl (cy, (K, .inl (fun _ => 0))))) := by
  have hag : a_agr h.length ad (a_adm ad h.length N q r) := a_adm_agr hb
  apply List.ext_getElem?
  intro j
  rcases Nat.lt_trichotomy j h.length with hj | hj | hj
  · obtain ⟨d, hd⟩ : ∃ d, h[j]? = some d := ⟨_, List.getElem?_eq_getElem hj⟩
    rw [a_ws_get (c := d) (by rw [List.getElem?_append_left hj]; exact hd), List.append_assoc, List.getElem?_append_left (by rw [a_ws_len]; exact hj), a_ws_get hd, a_e_agr hag (hh j d hd)]
    unfold a_adm a_cam
    rw [if_pos hj, if_pos hj]
  · subst hj
    rw [a_ws_get (c := a_m1 (h.length + 1) N) (by rw [List.getElem?_append_right (Nat.le_refl _)]; simp), List.append_assoc, List.getElem?_append_right (by rw [a_ws_len]; exact Nat.le_refl _), a_ws_len, Nat.sub_self]
    show _ = some _
    congr 1
    unfold a_m1 a_e a_k
    dsimp only
    have e1 : a_adm ad h.length N q r h.length = q := by unfold a_adm; rw [if_neg (Nat.lt_irrefl _), if_pos rfl]
    have e2 : a_cam ca h.length cA cy h.length = cA := by unfold a_cam; rw [if_neg (Nat.lt_irrefl _), if_pos rfl]
    rw [e1, e2]
    have e3 : (fun i => Option.map (a_adm ad h.length N q r) (if i < N then some (h.length + 1 + i) else none)) = fun i => if i < N then some (r i) else none := by
      funext i
      by_cases hi : i < N
      · rw [if_pos hi, if_pos hi]
        show some _ = some _
        congr 1
        unfold a_adm
        rw [if_neg (by omega), if_neg (by omega), if_pos (by omega), show h.length + 1 + i - (h.length + 1) = i by omega]
      · rw [if_neg hi, if_neg hi]; rfl
    rw [e3]
  · by_cases hN : j < h.length + 1 + N
    · have hi : j - (h.length + 1) < N := by omega
      rw [a_ws_get (c := a_m2 K) (by rw [List.getElem?_append_right (by omega), show j - h.length = (j - (h.length + 1)) + 1 by omega, List.getElem?_cons_succ, List.getElem?_replicate, if_pos hi])]
      rw [List.getElem?_append_right (by simp [a_ws_len]; omega)]
      have e0 : j - (a_ws ad ca h ++ [(q, (Sum.inl (cA, N, .inr (.inr (.inr (.inr (fun i => if i < N then some (r i) else none))))) : va_E))]).length = j - (h.length + 1) := by simp [a_ws_len]
      rw [e0]
      unfold va_pl
      rw [List.nil_append, List.getElem?_map, List.getElem?_map, List.getElem?_range hi]
      show some _ = some _
      congr 1
      have e1 : a_adm ad h.length N q r j = r (j - (h.length + 1)) := by unfold a_adm; rw [if_neg (by omega), if_neg (by omega), if_pos hN]
      have e2 : a_cam ca h.length cA cy j = cy := by unfold a_cam; rw [if_neg (by omega), if_neg (by omega)]
      rw [e1, e2]
      congr 1
      rw [vr_up_in (List.mem_map.mpr ⟨_, List.mem_range.mpr hi, rfl⟩)]
      rfl
    · rw [List.getElem?_eq_none (by rw [a_ws_len]; simp; omega), List.getElem?_eq_none (by simp [a_ws_len, va_pl]; omega)]
theorem a_mna (X : a_cx p s H0 m args meth c cc own nL A xs L ad0 ini) (hd : decode cc pc = .ok (.multianewarray n 2, 4)) (hs : Cond.classLink own n "[[I" ∈ lw_good ∧ Cond.arrayClass .int ∈ lw_good)
    (hz : a_mn st h cb nb = some z) (k : a_G p l e R s H0 m args below meth c Q D A nL ad0 n0 (pc + 4) ls z.1 z.2.1 z.2.2.1 z.2.2.2) : a_G p l e R s H0 m args below meth c Q D A nL ad0 n0 pc ls st h cb nb := by
  unfold a_mn at hz
  split at hz
  · rename_i x y r
    split at hz
    · rename_i hc
      obtain ⟨⟨hc1, hc2⟩, ⟨hc3, hc4⟩, hc5, hc6, hc7⟩ := hc
      cases hz
      replace k : a_G p l e R s H0 m args below meth c Q D A nL ad0 n0 (pc + 4) ls (.ref h.length :: r) (h ++ (a_m1 (h.length + 1) y.toNatClampNeg :: List.replicate y.toNatClampNeg (a_m2 x.toNatClampNeg))) (cb - (1 + y.toNatClampNeg)) (nb - (y.toNatClampNeg + y.toNatClampNeg * x.toNatClampNeg)) := k
      intro ad ca H locs cells slots ls' h1 h2 h3 h4 h5 h6 h7 h8 h9 h10
      rw [a_oks_cons, a_oks_cons] at h5
      have hov : va_AOA .int s := X.2.2.2.2.2.2.1.2.2.2.2.2.2.2.1.2
      obtain ⟨cy, c9, k9, g1, -⟩ := arrayOverA_spec (va_AOA.use (A := args) hov)
      refine va_mna (X := a_ws ad ca h) (L := []) (f := fun _ => .inl (0, (0, .inl (fun _ => 0)))) (ty := .int) (cy := cy) (z := (x.toNatClampNeg, .inl (fun _ => 0))) (N' := y.toNatClampNeg) (K' := x.toNatClampNeg) (tys := []) (D := D) (cl := vwCl) (A := A) (H0 := H0) X.1 X.2.1 X.2.2.2.1 (X.2.2.2.2.1 _ hs.1) hov (X.2.2.2.2.1 _ hs.2) g1 h7.2.2.1
        (by show va_P D vwCl (a_ws ad ca h ++ []) H; rw [List.append_nil]; exact h7.1) (by show va_D A (a_ws ad ca h ++ []); rw [List.append_nil]; exact h7.2.1) h8 X.2.2.2.2.2.1 hc1 hc2 rfl rfl (by omega) (by show x.toNatClampNeg * 4 ≤ 536870912; omega) (by omega) rfl rfl (by omega) (by omega) (fun c0 => ?_) hd (fun q r9 cA H1 hinj hnm hK hP hD hS => ?_)
      · show _ = arrV c0 x.toNatClampNeg (fun _ => .int 0)
        unfold Jvm.Free.Multi.innerC
        simp only [arrV, defaultValue]
        congr 1
        apply Array.ext
        · simp
        · intro i h1 h2
          simp
      · rw [← a_mna_ws h6 hc7] at hP hD
        have hag : a_agr h.length ad (a_adm ad h.length y.toNatClampNeg q r9) := a_adm_agr hc7
        have hkc : ArrOfT s cy .int ∧ va_RA s cy .int := by
          obtain ⟨c2, k2, comp, f1, f2, f3⟩ := Cond.arrayClass_spec (X.2.2.2.2.1 _ hs.2)
          have e1 : s.vm.findClass ("[" ++ FieldType.int.toString) = some cy := g1
          cases Option.some.inj (f1.symm.trans e1)
          exact ⟨fun N z => ⟨(fun k h => by cases h), k2, f2, comp, f3⟩, e1⟩
        have hok : a_okh (h ++ (a_m1 (h.length + 1) y.toNatClampNeg :: List.replicate y.toNatClampNeg (a_m2 x.toNatClampNeg))) := by
          intro i d hi
          rw [List.length_append]
          rcases List.mem_append.mp (List.mem_of_getElem? hi) with hm | hm
          · obtain ⟨j, hj⟩ := List.getElem?_of_mem hm
            exact a_okc_mono (Nat.le_add_right _ _) (h6 j d hj)
          · rcases List.mem_cons.mp hm with rfl | hm
            · intro f ef i j hij
              have ef2 : (Sum.inr (Sum.inr (Sum.inr (Sum.inr (fun i => if i < y.toNatClampNeg then some (h.length + 1 + i) else none)))) : (Nat → Int32) ⊕ (Nat → Int64) ⊕ (Nat → UInt32) ⊕ (Nat → UInt64) ⊕ (Nat → Option Nat)) = Sum.inr (Sum.inr (Sum.inr (Sum.inr f))) := ef
              cases ef2
              dsimp only at hij
              split at hij
              · cases hij
                exact Or.inl (by simp; omega)
              · cases hij
            · rw [(List.mem_replicate.mp hm).2]
              intro f ef
              cases ef
        have hw : a_Wd D (a_adm ad h.length y.toNatClampNeg q r9) (a_cam ca h.length cA cy) (h ++ (a_m1 (h.length + 1) y.toNatClampNeg :: List.replicate y.toNatClampNeg (a_m2 x.toNatClampNeg))) A s H1 := by
          refine ⟨hP, hD, h7.2.2.1, fun j x9 hj => ?_⟩
          rcases Nat.lt_trichotomy j h.length with hl | hl | hl
          · rw [List.getElem?_append_left hl] at hj
            have e2 : a_cam ca h.length cA cy j = ca j := by unfold a_cam; rw [if_pos hl]
            rw [e2]
            exact h7.2.2.2 j x9 hj
          · subst hl
            rw [List.getElem?_append_right (Nat.le_refl _), Nat.sub_self] at hj
            cases hj
            have e2 : a_cam ca h.length cA cy h.length = cA := by unfold a_cam; rw [if_neg (Nat.lt_irrefl _), if_pos rfl]
            rw [e2]
            exact hK.2 0 _ rfl
          · rw [List.getElem?_append_right (by omega), show j - h.length = (j - (h.length + 1)) + 1 by omega, List.getElem?_cons_succ, List.getElem?_replicate] at hj
            have e2 : a_cam ca h.length cA cy j = cy := by unfold a_cam; rw [if_neg (by omega), if_neg (by omega)]
            rw [e2]
            split at hj
            · cases hj
              exact hkc
            · cases hj
        have := k (a_adm ad h.length y.toNatClampNeg q r9) (a_cam ca h.length cA cy) H1 locs (cells + 1 + y.toNatClampNeg) (slots + y.toNatClampNeg + y.toNatClampNeg * x.toNatClampNeg) ls' (a_agr_trans h2 h1 hag) (by rw [List.length_append]; omega) (h3.agr hag h4) (a_oks_mono (by rw [List.length_append]; omega) h4) (a_oks_cons.mpr ⟨fun i e9 => by cases e9; exact Or.inl (by simp), a_oks_mono (by rw [List.length_append]; omega) h5.2.2⟩) hok hw hS (by omega) (by omega)
        rw [List.map_cons, a_vs_agr hag h5.2.2] at this
        have e1 : a_v (a_adm ad h.length y.toNatClampNeg q r9) (.ref h.length) = .ref q := by show Value.ref (a_adm ad h.length y.toNatClampNeg q r9 h.length) = _; unfold a_adm; rw [if_neg (Nat.lt_irrefl _), if_pos rfl]
        rw [e1] at this
        exact this
    · cases hz
  · cases hz
end A14
