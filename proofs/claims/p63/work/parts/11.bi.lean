/-! Every instruction but calls, returns and throws; the members of the JDK. -/
section A11
variable {p : Program} {l : Launch} {e : Env} {R : Room} {s : State} {H0 : Heap} {m : MethodId} {args : Array Value} {below : List Frame} {meth : Method} {c : Code} {Q : State → Prop}
variable {D : va_G} {A : Nat → Prop} {nL : Nat} {ad0 : Nat → Nat} {n0 : Nat} {cc : ByteArray} {xs : Nat → Int32} {L : Nat} {pc : Nat} {ls st : List Value} {h : a_H} {cb nb : Nat} {z : a_S} {MT : Nat → Option a_Md} {q : a_Md} {i : Instr} {len a b : Nat}
theorem a_insok (X : a_cx p s H0 m args meth c cc (m_y q).cls nL A xs L ad0 (m_ini q)) (hd : decode cc pc = .ok (i, len)) (hw : a_okw MT q pc i len a b) (hne : (∃ n, i = .new n) → a < 100) (hz : a_ins xs L i a b pc ls st h cb nb = some z) (k : a_GS p l e R s H0 m args below meth c Q D A nL ad0 n0 z) : a_G p l e R s H0 m args below meth c Q D A nL ad0 n0 pc ls st h cb nb := by
  cases i
  case iconst n =>
    obtain rfl : len = 1 := hw
    exact a_iconst X hd hz k
  case lconst n =>
    obtain rfl : len = 1 := hw
    exact a_lconst X hd hz k
  case fconst n =>
    obtain rfl : len = 1 := hw
    exact a_fconst X hd hz k
  case dconst n =>
    obtain rfl : len = 1 := hw
    exact a_dconst X hd hz k
  case bipush n =>
    obtain rfl : len = 2 := hw
    exact a_bipush X hd hz k
  case sipush n =>
    obtain rfl : len = 3 := hw
    exact a_sipush X hd hz k
  case getstatic n =>
    obtain ⟨rfl, hs⟩ := hw
    exact a_getstatic X hd hs hz k
  case ifnonnull n =>
    obtain rfl : len = 3 := hw
    exact a_ifnonnull X hd hz k
  case ineg =>
    obtain rfl : len = 1 := hw
    exact a_ineg X hd hz k
  case i2c =>
    obtain rfl : len = 1 := hw
    exact a_i2c X hd hz k
  case dup_x1 =>
    obtain rfl : len = 1 := hw
    exact a_dup_x1 X hd hz k
  case ldc n =>
    obtain ⟨rfl, hs⟩ := hw
    exact a_ldc X hd hs hz k
  case ldc_w n =>
    obtain ⟨rfl, hs⟩ := hw
    exact a_ldc_w X hd hs hz k
  case ldc2_w n =>
    obtain ⟨rfl, hs⟩ := hw
    exact a_ldc2_w X hd hs hz k
  case iload n =>
    obtain rfl : len = 2 := hw
    exact a_iload X hd hz k
  case iload_n n =>
    obtain rfl : len = 1 := hw
    exact a_iload_n X hd hz k
  case lload n =>
    obtain rfl : len = 2 := hw
    exact a_lload X hd hz k
  case lload_n n =>
    obtain rfl : len = 1 := hw
    exact a_lload_n X hd hz k
  case dload n =>
    obtain rfl : len = 2 := hw
    exact a_dload X hd hz k
  case dload_n n =>
    obtain rfl : len = 1 := hw
    exact a_dload_n X hd hz k
  case aload n =>
    obtain rfl : len = 2 := hw
    exact a_aload X hd hz k
  case aload_n n =>
    obtain rfl : len = 1 := hw
    exact a_aload_n X hd hz k
  case istore n =>
    obtain rfl : len = 2 := hw
    exact a_istore X hd hz k
  case astore n =>
    obtain rfl : len = 2 := hw
    exact a_astore X hd hz k
  case dstore n =>
    obtain rfl : len = 2 := hw
    exact a_dstore X hd hz k
  case istore_n n =>
    obtain rfl : len = 1 := hw
    exact a_istore_n X hd hz k
  case astore_n n =>
    obtain rfl : len = 1 := hw
    exact a_astore_n X hd hz k
  case iinc n d =>
    obtain rfl : len = 3 := hw
    exact a_iinc X hd hz k
  case ior  =>
    obtain rfl : len = 1 := hw
    exact a_ior X hd hz k
  case ishl  =>
    obtain rfl : len = 1 := hw
    exact a_ishl X hd hz k
  case iadd  =>
    obtain rfl : len = 1 := hw
    exact a_iadd X hd hz k
  case isub  =>
    obtain rfl : len = 1 := hw
    exact a_isub X hd hz k
  case imul  =>
    obtain rfl : len = 1 := hw
    exact a_imul X hd hz k
  case iand  =>
    obtain rfl : len = 1 := hw
    exact a_iand X hd hz k
  case ishr  =>
    obtain rfl : len = 1 := hw
    exact a_ishr X hd hz k
  case iushr  =>
    obtain rfl : len = 1 := hw
    exact a_iushr X hd hz k
  case idiv  =>
    obtain rfl : len = 1 := hw
    exact a_idiv X hd hz k
  case irem  =>
    obtain rfl : len = 1 := hw
    exact a_irem X hd hz k
  case i2l  =>
    obtain rfl : len = 1 := hw
    exact a_i2l X hd hz k
  case i2b  =>
    obtain rfl : len = 1 := hw
    exact a_i2b X hd hz k
  case i2d  =>
    obtain rfl : len = 1 := hw
    exact a_i2d X hd hz k
  case i2f  =>
    obtain rfl : len = 1 := hw
    exact a_i2f X hd hz k
  case f2d  =>
    obtain rfl : len = 1 := hw
    exact a_f2d X hd hz k
  case ddiv  =>
    obtain rfl : len = 1 := hw
    exact a_ddiv X hd hz k
  case fdiv  =>
    obtain rfl : len = 1 := hw
    exact a_fdiv X hd hz k
  case lcmp  =>
    obtain rfl : len = 1 := hw
    exact a_lcmp X hd hz k
  case dup  =>
    obtain rfl : len = 1 := hw
    exact a_dup X hd hz k
  case dup2  =>
    obtain rfl : len = 1 := hw
    exact a_dup2 X hd hz k
  case pop  =>
    obtain rfl : len = 1 := hw
    exact a_pop X hd hz k
  case dcmp o9 =>
    obtain rfl : len = 1 := hw
    exact a_dcmp X hd hz k
  case ifCond cnd off =>
    obtain rfl : len = 3 := hw
    exact a_ifCond X hd hz k
  case if_icmp cnd off =>
    obtain rfl : len = 3 := hw
    exact a_if_icmp X hd hz k
  case goto off =>
    obtain rfl : len = 3 := hw
    exact a_goto X hd hz k
  case tableswitch dflt lo hi offs =>
    exact a_tsw X hd hz k
  case getfield n =>
    obtain ⟨rfl, hs⟩ := hw
    exact a_getfield X hd hs hz k
  case putfield n =>
    obtain ⟨rfl, hs⟩ := hw
    exact a_putfield X hd hs hz k
  case new n =>
    obtain ⟨rfl, hs | hs⟩ := hw
    · exact a_new X hd hs.2 hz k
    · exact absurd (hne ⟨n, rfl⟩) (Nat.not_lt.mpr hs.1)
  case newarray t =>
    obtain ⟨rfl, hs⟩ := hw
    exact a_newarray X hd hs hz k
  case anewarray n =>
    obtain ⟨rfl, hs⟩ := hw
    exact a_anewarray X hd hs hz k
  case arraylength  =>
    obtain rfl : len = 1 := hw
    exact a_arraylength X hd hz k
  case aastore  =>
    obtain rfl : len = 1 := hw
    exact a_aastore X hd hz k
  case iaload  =>
    obtain rfl : len = 1 := hw
    simp only [a_ins] at hz
    split at hz
    · rename_i j o r
      cases hv : a_rd xs L h o j 0 with
      | none => simp [hv] at hz
      | some v =>
        simp only [hv, Option.map_some, Option.some.injEq] at hz
        subst hz
        exact a_load X hd (Or.inl ⟨rfl, rfl⟩) hv k
    · cases hz
  case baload  =>
    obtain rfl : len = 1 := hw
    simp only [a_ins] at hz
    split at hz
    · rename_i j o r
      cases hv : a_rd xs L h o j 1 with
      | none => simp [hv] at hz
      | some v =>
        simp only [hv, Option.map_some, Option.some.injEq] at hz
        subst hz
        exact a_load X hd (Or.inr (Or.inl ⟨rfl, rfl⟩)) hv k
    · cases hz
  case laload  =>
    obtain rfl : len = 1 := hw
    simp only [a_ins] at hz
    split at hz
    · rename_i j o r
      cases hv : a_rd xs L h o j 2 with
      | none => simp [hv] at hz
      | some v =>
        simp only [hv, Option.map_some, Option.some.injEq] at hz
        subst hz
        exact a_load X hd (Or.inr (Or.inr (Or.inl ⟨rfl, rfl⟩))) hv k
    · cases hz
  case aaload  =>
    obtain rfl : len = 1 := hw
    simp only [a_ins] at hz
    split at hz
    · rename_i j o r
      cases hv : a_rd xs L h o j 3 with
      | none => simp [hv] at hz
      | some v =>
        simp only [hv, Option.map_some, Option.some.injEq] at hz
        subst hz
        exact a_load X hd (Or.inr (Or.inr (Or.inr ⟨rfl, rfl⟩))) hv k
    · cases hz
  case iastore  =>
    obtain rfl : len = 1 := hw
    simp only [a_ins] at hz
    split at hz
    · rename_i v j o r
      cases hv : a_wr h o j v 0 with
      | none => simp [hv] at hz
      | some h1 =>
        simp only [hv, Option.map_some, Option.some.injEq] at hz
        subst hz
        exact a_store X hd (Or.inl ⟨rfl, rfl⟩) hv k
    · cases hz
  case bastore  =>
    obtain rfl : len = 1 := hw
    simp only [a_ins] at hz
    split at hz
    · rename_i v j o r
      cases hv : a_wr h o j v 1 with
      | none => simp [hv] at hz
      | some h1 =>
        simp only [hv, Option.map_some, Option.some.injEq] at hz
        subst hz
        exact a_store X hd (Or.inr (Or.inl ⟨rfl, rfl⟩)) hv k
    · cases hz
  case lastore  =>
    obtain rfl : len = 1 := hw
    simp only [a_ins] at hz
    split at hz
    · rename_i v j o r
      cases hv : a_wr h o j v 2 with
      | none => simp [hv] at hz
      | some h1 =>
        simp only [hv, Option.map_some, Option.some.injEq] at hz
        subst hz
        exact a_store X hd (Or.inr (Or.inr ⟨rfl, rfl⟩)) hv k
    · cases hz
  all_goals (simp only [a_ins] at hz; cases hz)
theorem a_sum_map (ad : Nat → Nat) (r : List Value) : ((r.map (a_v ad)).map fun v => v.category).sum = a_sum r := by
  unfold a_sum
  rw [List.map_map]
  congr 1
  exact List.map_congr_left fun v _ => a_cat ad v
theorem a_ix {xs : Nat → Int32} {o : Nat} (h1 : a_big + 1 ≤ o) (h2 : o < a_big + 1 + a_tn xs) : o - (a_big + 1) < a_tn xs ∧ a_big + 1 + (o - (a_big + 1)) = o ∧ a_big ≤ o := by omega
theorem a_bstr {locs : List Loc} {H : Heap} (X : a_cx p s H0 m args meth c cc (m_y q).cls nL A xs L ad0 (m_ini q)) (hS : va_S A H0 H locs) {o : Nat} (ho : a_big + 1 ≤ o) (ho2 : o < a_big + 1 + a_tn xs) : ∃ adV : Nat → Nat, (∃ cell : Cell, H[ad0 o]? = some cell ∧ cell.vm.isStatics = false ∧ s.vm.findClass "java/lang/String" = some cell.cls) ∧ (∀ U : State, U.heap = H → s.WarmedH U.vm → a_St xs (fun i => ad0 (a_big + 1 + i)) adV U) := by
  have hA := X.2.2.2.2.2.2.1
  obtain ⟨adV, h4⟩ := hA.2.1
  refine ⟨adV, ?_, fun U hU hW => ?_⟩
  · obtain ⟨cell, h1, h2, h3, -⟩ := (h4.1 (o - (a_big + 1)) (show o - (a_big + 1) < a_tn xs by omega)).1.kept hS.2.1
    have h1' : H[ad0 (a_big + 1 + (o - (a_big + 1)))]? = some cell := h1
    rw [show a_big + 1 + (o - (a_big + 1)) = o by omega] at h1'
    exact ⟨cell, h1', h2, h3⟩
  · unfold a_St
    rw [hU]
    exact ⟨((h4.kept hS.2.1).narrow (fun _ h => h.elim)).moved hW.alike, ((hA.2.2.2.2.2.1.kept hS.2.1).narrow (fun _ h => h.elim)).moved hW.alike, ((hA.2.2.2.2.2.2.1.kept hS.2.1).narrow (fun _ h => h.elim)).moved hW.alike⟩
theorem a_bv (X : a_cx p s H0 m args meth c cc (m_y q).cls nL A xs L ad0 (m_ini q)) {n : Nat} (hd : decode cc pc = .ok (.invokevirtual n, 3)) (hs : ((a = 1004 ∧ Cond.methodLink (m_y q).cls n yJ0_length_8abf5 ∈ lw_good) ∨ (a = 1005 ∧ Cond.methodLink (m_y q).cls n yJ0_charAt_5068e ∈ lw_good) ∨ (a = 1006 ∧ Cond.methodLink (m_y q).cls n yJ0_coder_7d493 ∈ lw_good)) ∧ 6 ≤ m_fr q ∧ 140 ≤ m_lo q) (hRf : m_fr q ≤ R.frames) (hRl : m_lo q ≤ R.locals)
    {r9 : List Value} {h9 : a_H} (hz : a_bi xs (a - 1000) st h = some (r9, h9)) (k : a_G p l e R s H0 m args below meth c Q D A nL ad0 n0 (pc + 3) ls r9 h9 cb nb) : a_G p l e R s H0 m args below meth c Q D A nL ad0 n0 pc ls st h cb nb := by
  obtain ⟨⟨rfl, hlk⟩ | ⟨rfl, hlk⟩ | ⟨rfl, hlk⟩, hf6, hl6⟩ := hs
  rotate_left 2
  · change a_b6 xs st h = some (r9, h9) at hz
    simp only [a_b6] at hz
    split at hz
    rotate_left
    · cases hz
    rename_i o r
    split at hz
    · rename_i hc
      cases hz
      intro ad ca H locs cells slots ls' h1 h2 h3 h4 h5 h6 h7 h8 h9 h10
      rw [a_oks_cons] at h5
      have hix := a_ix hc.2.1 hc.2.2
      have e9 : ad o = ad0 o := h1 _ (Or.inr hix.2.2)
      obtain ⟨adV, hrec, hSt⟩ := a_bstr X h8 hc.2.1 hc.2.2
      have hl := j_coder l xs (fun i => ad0 (a_big + 1 + i)) adV hix.1
      rw [hix.2.1] at hl
      show W p l e R s m args below meth c H locs cells slots Q (F0 m pc ls' (.ref (ad o) :: r.map (a_v ad)))
      rw [e9]
      have hts : ∀ w ∈ (Cond.code yJ0_coder_7d493 cJ0_coder_7d493 1 (some .byte) :: lw_good), w.before args s = true := fun w hw => by
        rcases List.mem_cons.mp hw with rfl | hw
        · exact X.2.2.2.2.1 _ (a_jm _ (List.mem_of_getElem? (i := 20) rfl))
        · exact X.2.2.2.2.1 _ hw
      exact W.callR (W.runV (As := []) (rest := r.map (a_v ad)) ⟨X.1, X.2.1, X.2.2.1, X.2.2.2.1, hts⟩ hl (cwV 0 hts (a_gV hlk (a_jm _ (List.mem_of_getElem? (i := 9) rfl)) (a_jm _ (List.mem_of_getElem? (i := 10) rfl)) (a_jm _ (List.mem_of_getElem? (i := 27) rfl)) (a_jm _ (List.mem_of_getElem? (i := 20) rfl))) rfl rfl rfl (by decide +kernel) ⟨by show 0 + 1 ≤ R.frames; omega, by show 8 + (1 + 11) + 0 ≤ R.locals; omega⟩)
        ⟨a_St_blind, hrec, fun U hU hW => ⟨rfl, hSt U hU hW⟩⟩ rfl rfl h3.1 rfl (lv_room (by rw [a_sum_map]; exact hc.1)) hd ⟨by omega, by omega⟩)
        (k ad ca H locs cells slots ls' h1 h2 h3 h4 (a_oks_cons.mpr ⟨a_okv_int _ _, h5.2⟩) h6 h7 h8 h9 h10)
    · cases hz
  · change a_b4 xs st h = some (r9, h9) at hz
    simp only [a_b4] at hz
    split at hz
    rotate_left
    · cases hz
    rename_i o r
    split at hz
    · rename_i hc
      cases hz
      intro ad ca H locs cells slots ls' h1 h2 h3 h4 h5 h6 h7 h8 h9 h10
      rw [a_oks_cons] at h5
      have hix := a_ix hc.2.1 hc.2.2
      have e9 : ad o = ad0 o := h1 _ (Or.inr hix.2.2)
      obtain ⟨adV, hrec, hSt⟩ := a_bstr X h8 hc.2.1 hc.2.2
      have hl := j_length l xs (fun i => ad0 (a_big + 1 + i)) adV hix.1
      rw [hix.2.1] at hl
      show W p l e R s m args below meth c H locs cells slots Q (F0 m pc ls' (.ref (ad o) :: r.map (a_v ad)))
      rw [e9]
      have hts : ∀ w ∈ (Cond.code yJ0_length_8abf5 cJ0_length_8abf5 1 (some .int) :: lw_good), w.before args s = true := fun w hw => by
        rcases List.mem_cons.mp hw with rfl | hw
        · exact X.2.2.2.2.1 _ (a_jm _ (List.mem_of_getElem? (i := 21) rfl))
        · exact X.2.2.2.2.1 _ hw
      exact W.callR (W.runV (As := []) (rest := r.map (a_v ad)) ⟨X.1, X.2.1, X.2.2.1, X.2.2.2.1, hts⟩ hl (cwV 0 hts (a_gV hlk (a_jm _ (List.mem_of_getElem? (i := 13) rfl)) (a_jm _ (List.mem_of_getElem? (i := 14) rfl)) (a_jm _ (List.mem_of_getElem? (i := 27) rfl)) (a_jm _ (List.mem_of_getElem? (i := 21) rfl))) rfl rfl rfl (by decide +kernel) ⟨by show 1 + 1 ≤ R.frames; omega, by show 8 + (1 + 11) + 20 ≤ R.locals; omega⟩)
        ⟨a_St_blind, hrec, fun U hU hW => ⟨rfl, hSt U hU hW⟩⟩ rfl rfl h3.1 rfl (lv_room (by rw [a_sum_map]; exact hc.1)) hd ⟨by omega, by omega⟩)
        (k ad ca H locs cells slots ls' h1 h2 h3 h4 (a_oks_cons.mpr ⟨a_okv_int _ _, h5.2⟩) h6 h7 h8 h9 h10)
    · cases hz
  · change a_b5 xs st h = some (r9, h9) at hz
    simp only [a_b5] at hz
    split at hz
    rotate_left
    · cases hz
    rename_i x o r
    split at hz
    · rename_i hc
      cases hz
      intro ad ca H locs cells slots ls' h1 h2 h3 h4 h5 h6 h7 h8 h9 h10
      simp only [a_oks_cons] at h5
      have hix := a_ix hc.2.1 hc.2.2.1
      have e9 : ad o = ad0 o := h1 _ (Or.inr hix.2.2)
      obtain ⟨adV, hrec, hSt⟩ := a_bstr X h8 hc.2.1 hc.2.2.1
      have hl := j_charAt l xs (fun i => ad0 (a_big + 1 + i)) adV hix.1 x hc.2.2.2
      rw [hix.2.1] at hl
      show W p l e R s m args below meth c H locs cells slots Q (F0 m pc ls' (.int x :: .ref (ad o) :: r.map (a_v ad)))
      rw [e9]
      have hts : ∀ w ∈ (Cond.code yJ0_charAt_5068e cJ0_charAt_5068e 2 (some .char) :: lw_good), w.before args s = true := fun w hw => by
        rcases List.mem_cons.mp hw with rfl | hw
        · exact X.2.2.2.2.1 _ (a_jm _ (List.mem_of_getElem? (i := 23) rfl))
        · exact X.2.2.2.2.1 _ hw
      exact W.callR (W.runV (As := [.int x]) (rest := r.map (a_v ad)) ⟨X.1, X.2.1, X.2.2.1, X.2.2.2.1, hts⟩ hl (cwV 1 hts (a_gV hlk (a_jm _ (List.mem_of_getElem? (i := 15) rfl)) (a_jm _ (List.mem_of_getElem? (i := 16) rfl)) (a_jm _ (List.mem_of_getElem? (i := 27) rfl)) (a_jm _ (List.mem_of_getElem? (i := 23) rfl))) rfl rfl rfl (by decide +kernel) ⟨by show 3 + 1 ≤ R.frames; omega, by show 8 + (2 + 11) + 64 ≤ R.locals; omega⟩)
        ⟨a_St_blind, hrec, fun U hU hW => ⟨rfl, hSt U hU hW⟩⟩ rfl rfl h3.1 rfl (lv_room (by rw [a_sum_map]; exact hc.1)) hd ⟨by omega, by omega⟩)
        (k ad ca H locs cells slots ls' h1 h2 h3 h4 (a_oks_cons.mpr ⟨a_okv_int _ _, h5.2.2⟩) h6 h7 h8 h9 h10)
    · cases hz
theorem a_bs (X : a_cx p s H0 m args meth c cc (m_y q).cls nL A xs L ad0 (m_ini q)) {n : Nat} (hd : decode cc pc = .ok (.invokestatic n, 3)) (hs : ((a = 1001 ∧ Cond.methodLink (m_y q).cls n Lib.Math.min.name ∈ lw_good) ∨ (a = 1002 ∧ Cond.methodLink (m_y q).cls n Lib.Math.max.name ∈ lw_good) ∨ (a = 1003 ∧ Cond.methodLink (m_y q).cls n arraycopyName ∈ lw_good)) ∧ 1 ≤ m_fr q ∧ 30 ≤ m_lo q) (hRf : m_fr q ≤ R.frames) (hRl : m_lo q ≤ R.locals)
    {r9 : List Value} {h9 : a_H} (hz : a_bi xs (a - 1000) st h = some (r9, h9)) (k : a_G p l e R s H0 m args below meth c Q D A nL ad0 n0 (pc + 3) ls r9 h9 cb nb) : a_G p l e R s H0 m args below meth c Q D A nL ad0 n0 pc ls st h cb nb := by
  obtain ⟨⟨rfl, hlk⟩ | ⟨rfl, hlk⟩ | ⟨rfl, hlk⟩, hf6, hl6⟩ := hs
  · change a_b1 st h = some (r9, h9) at hz
    simp only [a_b1] at hz
    split at hz
    rotate_left
    · cases hz
    rename_i y x r
    split at hz
    · rename_i hc
      cases hz
      intro ad ca H locs cells slots ls' h1 h2 h3 h4 h5 h6 h7 h8 h9 h10
      simp only [a_oks_cons] at h5
      exact va_mmin X.1 X.2.1 (X.2.2.1.trans h3.1.symm) X.2.2.2.1 (X.2.2.2.2.1 _ hlk) (X.2.2.2.2.1 _ (a_jm _ (List.mem_of_getElem? (i := 30) rfl))) (X.2.2.2.2.1 _ (a_jm _ (List.mem_of_getElem? (i := 34) rfl))) (X.2.2.2.2.1 _ (a_jm _ (List.mem_of_getElem? (i := 31) rfl))) (by omega) (by rw [a_sum_map]; omega) (by omega) (by omega) hd
        (k ad ca H locs cells slots ls' h1 h2 h3 h4 (a_oks_cons.mpr ⟨a_okv_int _ _, h5.2.2⟩) h6 h7 h8 h9 h10)
    · cases hz
  · change a_b2 st h = some (r9, h9) at hz
    simp only [a_b2] at hz
    split at hz
    rotate_left
    · cases hz
    rename_i y x r
    split at hz
    · rename_i hc
      cases hz
      intro ad ca H locs cells slots ls' h1 h2 h3 h4 h5 h6 h7 h8 h9 h10
      simp only [a_oks_cons] at h5
      exact va_mmax X.1 X.2.1 (X.2.2.1.trans h3.1.symm) X.2.2.2.1 (X.2.2.2.2.1 _ hlk) (X.2.2.2.2.1 _ (a_jm _ (List.mem_of_getElem? (i := 32) rfl))) (X.2.2.2.2.1 _ (a_jm _ (List.mem_of_getElem? (i := 34) rfl))) (X.2.2.2.2.1 _ (a_jm _ (List.mem_of_getElem? (i := 33) rfl))) (by omega) (by rw [a_sum_map]; omega) (by omega) (by omega) hd
        (k ad ca H locs cells slots ls' h1 h2 h3 h4 (a_oks_cons.mpr ⟨a_okv_int _ _, h5.2.2⟩) h6 h7 h8 h9 h10)
    · cases hz
  · change a_b3 st h = some (r9, h9) at hz
    simp only [a_b3] at hz
    split at hz
    rotate_left
    · cases hz
    rename_i x dp o1 sp o0 r
    split at hz
    · rename_i hc1
      simp only [a_cpy9] at hz
      split at hz
      · rename_i t0 n0' f t1 n1 g he0 he1
        split at hz
        · rename_i hc
          obtain ⟨⟨rfl, hty⟩, ⟨hc2, hc3, hc4, hc5, hc6⟩, hfit⟩ := hc
          cases hz
          intro ad ca H locs cells slots ls' h1 h2 h3 h4 h5 h6 h7 h8 h9 h10
          simp only [a_oks_cons] at h5
          refine va_copyi X.1 X.2.1 (X.2.2.1.trans h3.1.symm) X.2.2.2.1 (X.2.2.2.2.1 _ hlk) (X.2.2.2.2.1 _ (a_jm _ (List.mem_of_getElem? (i := 35) rfl))) (X.2.2.2.2.1 _ (a_jm _ (List.mem_of_getElem? (i := 36) rfl))) (X.2.2.2.2.1 _ (a_jm _ (List.mem_of_getElem? (i := 37) rfl))) (h7.K2 he0 he1) h7.1 h7.2.1 h8 o0 o1 0 1 (a_ws_get he0) (a_ws_get he1) rfl rfl (by rcases hty with rfl | rfl <;> rfl) hc2 hc3 hc4 hc5 hc6 hfit (by omega) (by
            rw [a_sum_map]
            have : nativeFrameWords "java/lang/System" "arraycopy" 5 = 7 := by decide
            omega) hd (fun H1 locs1 hP hD hS => ?_)
          have w1 : a_Wd D ad ca (h.set o1 (.inl (t0, n1, .inl (va_cpy f g sp.toNatClampNeg dp.toNatClampNeg x.toNatClampNeg)))) A s H1 := h7.set hP hD (fun y e9 => by cases e9; exact ⟨_, he1, rfl⟩)
          exact k ad ca H1 locs1 cells slots ls' h1 (by rw [List.length_set]; exact h2) h3 (by rw [List.length_set]; exact h4) (by rw [List.length_set]; exact h5.2.2.2.2.2) (a_okh_set h6 o1 (fun f9 e9 => by cases e9)) w1 hS h9 h10
        · simp at hz
      · simp at hz
    · cases hz
theorem a_bo (X : a_cx p s H0 m args meth c cc (m_y q).cls nL A xs L ad0 (m_ini q)) {n : Nat} (hd : decode cc pc = .ok (.invokespecial n, 3)) (hs : Cond.methodLink (m_y q).cls n Lib.objectInit ∈ lw_good ∧ 1 ≤ m_fr q ∧ 30 ≤ m_lo q) (hRf : m_fr q ≤ R.frames) (hRl : m_lo q ≤ R.locals)
    {r9 : List Value} {h9 : a_H} (hz : a_bi xs 0 st h = some (r9, h9)) (k : a_G p l e R s H0 m args below meth c Q D A nL ad0 n0 (pc + 3) ls r9 h9 cb nb) : a_G p l e R s H0 m args below meth c Q D A nL ad0 n0 pc ls st h cb nb := by
  obtain ⟨hlk, hf6, hl6⟩ := hs
  change a_b0 st h = some (r9, h9) at hz
  simp only [a_b0] at hz
  split at hz
  rotate_left
  · cases hz
  rename_i o r
  split at hz
  · rename_i hc
    simp only [Option.some.injEq, Prod.mk.injEq] at hz
    obtain ⟨rfl, rfl⟩ := hz
    intro ad ca H locs cells slots ls' h1 h2 h3 h4 h5 h6 h7 h8 h9 h10
    rw [a_oks_cons] at h5
    exact W.objInit X.1 X.2.1 X.2.2.2.1 (X.2.2.2.2.1 _ hlk) (X.2.2.2.2.1 _ (a_jm _ (List.mem_of_getElem? (i := 38) rfl))) (X.2.2.2.2.1 _ (a_jm _ (List.mem_of_getElem? (i := 39) rfl))) rfl (h3.1.trans X.2.2.1.symm) rfl hd (by omega) (by
        have := lv_room (m := m) (pc := pc) (ls := ls') (rest := .ref (ad o) :: r.map (a_v ad)) (st := r.map (a_v ad)) (by rw [a_sum_map]; exact hc)
        have h9' : 2 * (F0 m pc ls' (.ref (ad o) :: r.map (a_v ad))).monitorRoom + ((r.map (a_v ad)).map fun v => v.category).sum ≤ 8 := this
        show 2 * (F0 m pc ls' (.ref (ad o) :: r.map (a_v ad))).monitorRoom + ((r.map (a_v ad)).map fun v => v.category).sum + 12 ≤ R.locals
        omega)
      (k ad ca H locs cells slots ls' h1 h2 h3 h4 h5.2 h6 h7 h8 h9 h10)
  · cases hz

end A11
