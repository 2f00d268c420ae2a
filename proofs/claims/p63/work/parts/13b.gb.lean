/-! String.getBytes called on a constant. -/
section A13B
variable {p : Program} {l : Launch} {e : Env} {R : Room} {s : State} {H0 : Heap} {m : MethodId} {args : Array Value} {below : List Frame} {meth : Method} {c : Code} {Q : State → Prop}
variable {D : va_G} {A : Nat → Prop} {nL : Nat} {ad0 : Nat → Nat} {n0 : Nat} {cc : ByteArray} {xs : Nat → Int32} {L : Nat} {pc : Nat} {ls st : List Value} {h : a_H} {cb nb : Nat} {q : a_Md} {n : Nat}
theorem a_tn_7 (xs : Nat → Int32) : 7 ≤ a_tn xs := by unfold a_tn; split <;> decide
theorem a_gbC : ∀ i, i < 7 → ∀ v ∈ a_sbC.getD i [], fits .byte (.int v) = true := by decide +kernel
theorem a_gbfit (xs : Nat → Int32) {i : Nat} (hi : i < 7) : ∀ j, fits .byte (.int (a_gbf xs i j)) = true := by
  intro j
  unfold a_gbf
  have e : (a_sb xs).getD i [] = a_sbC.getD i [] := by
    rcases i with _ | _ | _ | _ | _ | _ | _ | i <;> first | rfl | omega
  rw [e]
  by_cases hj : j < (a_sbC.getD i []).length
  · rw [List.getD_eq_getElem?_getD, List.getElem?_eq_getElem hj]
    exact a_gbC i hi _ (List.getElem_mem hj)
  · rw [List.getD_eq_getElem?_getD, List.getElem?_eq_none (Nat.le_of_not_lt hj)]
    rfl
def a_yGB : a_Md := (yJ0_getBytes_840e7, cJ0_getBytes_840e7, 4, none, [], (4, 1, 60, 0, 0), (false, false, []), [])
theorem a_bg (X : a_cx p s H0 m args meth c cc (m_y q).cls nL A xs L ad0 (m_ini q)) (hd : decode cc pc = .ok (.invokevirtual n, 3)) (hlk : Cond.methodLink (m_y q).cls n yJ0_getBytes_840e7 ∈ lw_good) (hf6 : 6 ≤ m_fr q) (hl6 : 140 ≤ m_lo q) (hRf : m_fr q ≤ R.frames) (hRl : m_lo q ≤ R.locals)
    {r9 : List Value} {h9 : a_H} (hz : a_b7 xs st h = some (r9, h9)) (k : a_G p l e R s H0 m args below meth c Q D A nL ad0 n0 (pc + 3) ls r9 h9 cb nb) : a_G p l e R s H0 m args below meth c Q D A nL ad0 n0 pc ls st h cb nb := by
  unfold a_b7 at hz
  split at hz
  rotate_left
  · cases hz
  rename_i z k9 o' o r
  split at hz
  rotate_left
  · cases hz
  rename_i hc
  obtain ⟨rfl, hsum, ho1, ho2, hk0⟩ := hc
  split at hz
  rotate_left
  · cases hz
  rename_i n9 g he
  split at hz
  rotate_left
  · cases hz
  rename_i hn9
  cases hz
  intro ad ca H locs cells slots ls' h1 h2 h3 h4 h5 h6 h7 h8 h9 h10
  simp only [a_oks_cons] at h5
  have ho2' : o < a_big + 1 + a_tn xs := Nat.lt_of_lt_of_le ho2 (Nat.add_le_add_left (a_tn_7 xs) _)
  have hix := a_ix ho1 ho2'
  have e9 : ad o = ad0 o := h1 _ (Or.inr hix.2.2)
  obtain ⟨adV, hrec, -⟩ := a_bstr X h8 ho1 ho2'
  rw [← e9] at hrec
  have hi7 : o - (a_big + 1) < 7 := by have : (o : Nat) < a_big + 1 + 7 := ho2; exact Nat.sub_lt_left_of_lt_add ho1 this
  generalize ei : o - (a_big + 1) = i at hn9 k hix hi7
  obtain ⟨hi, eo, -⟩ := hix
  subst eo
  have hC := j_getBytes l (D := D) (ad := ad) (ca := ca) (sz := H.size) (L := L) hi he hk0 hn9 h6 (a_gbfit xs hi7)
  have hts : ∀ w ∈ (Cond.code yJ0_getBytes_840e7 cJ0_getBytes_840e7 4 none :: lw_good), w.before args s = true := fun w hw => by
    rcases List.mem_cons.mp hw with rfl | hw
    · exact X.2.2.2.2.1 _ (a_gbl _ (List.mem_of_getElem? (i := 3) rfl))
    · exact X.2.2.2.2.1 _ hw
  have hpre := a_pre (vs := [.ref (a_big + 1 + i), .ref o', .int k9, .int 0]) X h1 h7 h8
  have hr := a_toX (XC := a_Xr D ad h.length (va_A (a_ws ad ca h) H.size) (.inl none) (h.set o' (.inl (.byte, n9, .inl (va_cpy (a_gbf xs i) g 0 k9.toNatClampNeg ((a_sl xs).getD i 0)))))) (va_runV (b := ad (a_big + 1 + i)) (As := [.ref (ad o'), .int k9, .int 0]) (rest := r9.map (a_v ad)) (p := p) (e := e) (below := below) (meth := meth) (locs := locs) (cells := cells) (slots := slots) ⟨X.1, X.2.1, X.2.2.1, X.2.2.2.1, hts⟩ hC
    (cwV 3 hts (a_gV hlk (a_gbl _ (List.mem_of_getElem? (i := 1) rfl)) (a_gbl _ (List.mem_of_getElem? (i := 2) rfl)) (a_jm _ (List.mem_of_getElem? (i := 27) rfl)) (a_gbl _ (List.mem_of_getElem? (i := 3) rfl))) rfl rfl rfl (by decide +kernel) ⟨by show 1 + 1 ≤ R.frames; omega, by show 8 + (4 + 11) + 60 ≤ R.locals; omega⟩)
    ⟨a_Pc_blind, hrec, hpre⟩ (g := F0 m pc ls' ((Value.int 0 :: .int k9 :: .ref o' :: .ref (a_big + 1 + i) :: r9).map (a_v ad))) rfl rfl h3.1 rfl (lv_room (by rw [a_sum_map]; exact hsum)) hd ⟨by omega, by omega⟩)
  exact a_aft (y := a_yGB) (r := r9) X hr h1 h2 h3 h4 h5.2.2.2.2 h7 h8 h9 h10 (Nat.zero_le _) (Nat.zero_le _) (fun v e => by cases e; exact k) (fun k e => by cases e)
end A13B
