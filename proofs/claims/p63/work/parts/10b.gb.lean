/-! String.getBytes(byte[], int, byte) of a constant: its bytes go into an array of the world. -/
theorem dJ0_gb_0 : decode cJ0_getBytes_840e7 0 = .ok (.aload_n 0, 1) := by decide +kernel
theorem dJ0_gb_1 : decode cJ0_getBytes_840e7 1 = .ok (.invokevirtual 335, 3) := by decide +kernel
theorem dJ0_gb_4 : decode cJ0_getBytes_840e7 4 = .ok (.iload_n 3, 1) := by decide +kernel
theorem dJ0_gb_5 : decode cJ0_getBytes_840e7 5 = .ok (.if_icmp .ne 23, 3) := by decide +kernel
theorem dJ0_gb_8 : decode cJ0_getBytes_840e7 8 = .ok (.aload_n 0, 1) := by decide +kernel
theorem dJ0_gb_9 : decode cJ0_getBytes_840e7 9 = .ok (.getfield 9, 3) := by decide +kernel
theorem dJ0_gb_12 : decode cJ0_getBytes_840e7 12 = .ok (.iconst 0, 1) := by decide +kernel
theorem dJ0_gb_13 : decode cJ0_getBytes_840e7 13 = .ok (.aload_n 1, 1) := by decide +kernel
theorem dJ0_gb_14 : decode cJ0_getBytes_840e7 14 = .ok (.iload_n 2, 1) := by decide +kernel
theorem dJ0_gb_15 : decode cJ0_getBytes_840e7 15 = .ok (.iload_n 3, 1) := by decide +kernel
theorem dJ0_gb_16 : decode cJ0_getBytes_840e7 16 = .ok (.ishl, 1) := by decide +kernel
theorem dJ0_gb_17 : decode cJ0_getBytes_840e7 17 = .ok (.aload_n 0, 1) := by decide +kernel
theorem dJ0_gb_18 : decode cJ0_getBytes_840e7 18 = .ok (.getfield 9, 3) := by decide +kernel
theorem dJ0_gb_21 : decode cJ0_getBytes_840e7 21 = .ok (.arraylength, 1) := by decide +kernel
theorem dJ0_gb_22 : decode cJ0_getBytes_840e7 22 = .ok (.invokestatic 212, 3) := by decide +kernel
theorem dJ0_gb_25 : decode cJ0_getBytes_840e7 25 = .ok (.goto 18, 3) := by decide +kernel
theorem dJ0_gb_43 : decode cJ0_getBytes_840e7 43 = .ok (.return_, 1) := by decide +kernel
theorem a_gbl : ∀ w ∈ ([.methodLink RJ0 212 arraycopyName, .instanceMethod yJ0_getBytes_840e7, .selects RJ0 yJ0_getBytes_840e7 yJ0_getBytes_840e7, .code yJ0_getBytes_840e7 cJ0_getBytes_840e7 4 none] : List Cond), w ∈ lw_good := a_good [1327, 1324, 1325, 1326] (by decide +kernel) (by decide +kernel)
/-- the bytes of constant i -/
def a_gbf (xs : Nat → Int32) (i : Nat) : Nat → Int32 := fun j => ((a_sb xs).getD i []).getD j 0
set_option maxRecDepth 100000 in
theorem j_getBytes (l : Launch) {xs : Nat → Int32} {L : Nat} {D : va_G} {ad : Nat → Nat} {ca : Nat → ClassId} {h : a_H} {sz i o n : Nat} {g : Nat → Int32} {off : Int32} (hi : i < a_tn xs) (ho : h[o]? = some (.inl (.byte, n, .inl g))) (hoff : ¬ off < 0) (hn : off.toNatClampNeg + (a_sl xs).getD i 0 ≤ n) (hh : a_okh h) (hfit : ∀ j, fits .byte (.int (a_gbf xs i j)) = true) :
    Met l yJ0_getBytes_840e7 (a_jw yJ0_getBytes_840e7 cJ0_getBytes_840e7 4 none) ({ frames := 1, cells := 0, slots := 0, locals := 60 })
      (a_Pc D ad ca h sz xs L [.ref (a_big + 1 + i), .ref o, .int off, .int 0])
      (a_Qr D ad h.length (va_A (a_ws ad ca h) sz) (.inl none) (h.set o (.inl (.byte, n, .inl (va_cpy (a_gbf xs i) g 0 off.toNatClampNeg ((a_sl xs).getD i 0)))))) 0 0 (va_A (a_ws ad ca h) sz) := by
  refine Met.ofW (cc := cJ0_getBytes_840e7) (maxL := 4) (ret := none) (by decide) rfl ?_
  intro p e s m args below meth c s₁ B hml hv
  obtain ⟨ha, hsz, hW, hA⟩ := hv
  have ha' : args = ([.ref (ad (a_big + 1 + i)), .ref (ad o), .int off, .int 0] : List Value).toArray := ha
  clear ha
  subst ha'
  have hx := B.exec
  have hb := B.bytes
  have hr := B.returns
  have hts := atoms_spec (ws := a_jw yJ0_getBytes_840e7 cJ0_getBytes_840e7 4 none) B.pre
  have htg : ∀ w ∈ lw_good, w.before _ s = true := fun w h => hts w (List.mem_cons_of_mem _ h)
  have hown : s.vm.findClass RJ0 = some m.cls := findClass_of_methodNamed B.named
  have hlocks := B.notSynchronized
  have hS : va_S (va_A (a_ws ad ca h) sz) s.heap s.heap [] := va_S.rf
  have hD : va_D (va_A (a_ws ad ca h) sz) (a_ws ad ca h) := hW.2.1.weaken (fun k q hk _ => va_A.in hk)
  obtain ⟨adV, hV⟩ := hA.2.1
  have hSt : a_St xs (fun i => ad (a_big + 1 + i)) adV s := by
    unfold a_St
    exact ⟨hV.narrow (fun _ h => h.elim), hA.2.2.2.2.2.1.narrow (fun _ h => h.elim), hA.2.2.2.2.2.2.1.narrow (fun _ h => h.elim)⟩
  have hVi := hV.1 i hi
  have hl := lv_entry ([.ref (ad (a_big + 1 + i)), .ref (ad o), .int off, .int 0]) (n := 4) (Nat.le_of_ble_eq_true rfl)
  rw [lg_entry_eq]
  generalize (lg_sl ([.ref (ad (a_big + 1 + i)), .ref (ad o), .int off, .int 0]) ++ List.replicate (4 - (lg_sl ([.ref (ad (a_big + 1 + i)), .ref (ad o), .int off, .int 0])).length) Slot.unset).toArray = ls at hl ⊢
  have hl : lv_has ls 4 [(0, .ref (ad (a_big + 1 + i))), (1, .ref (ad o)), (2, .int off), (3, .int 0)] := hl
  refine lv_aload_n hx hb dJ0_gb_0 rfl (lv_at hl 0 rfl) ?_
  refine W.callR (W.runV (As := []) (rest := []) ⟨hx, hb, hml, hown, hts⟩ (j_coder l xs (fun i => ad (a_big + 1 + i)) adV hi) (cwV 0 hts (a_gV (a_jm _ (List.mem_of_getElem? (i := 4) rfl)) (a_jm _ (List.mem_of_getElem? (i := 9) rfl)) (a_jm _ (List.mem_of_getElem? (i := 10) rfl)) (a_jm _ (List.mem_of_getElem? (i := 27) rfl)) (a_jm _ (List.mem_of_getElem? (i := 20) rfl))) rfl rfl rfl (by decide +kernel) ⟨Nat.le_of_ble_eq_true rfl, Nat.le_of_ble_eq_true rfl⟩)
    ⟨a_St_blind, vk_recv hV hi hS, fun U hU hW => ⟨rfl, hSt.to hU hW.alike⟩⟩ rfl rfl hl.1 rfl (lv_room (Nat.le_of_ble_eq_true rfl)) dJ0_gb_1 ⟨Nat.zero_le _, Nat.zero_le _⟩) ?_
  refine lv_iload_n hx hb dJ0_gb_4 rfl (lv_at hl 3 rfl) ?_
  refine lv_icmp_ne (tgt := 28) hx hb dJ0_gb_5 rfl (fun h => absurd rfl h) (fun _ => ?_)
  refine lv_aload_n hx hb dJ0_gb_8 rfl (lv_at hl 0 rfl) ?_
  refine vk_getf hx hb hVi.2.2.1 hS hown (htg _ (a_jm _ (List.mem_of_getElem? (i := 2) rfl))) (fun _ h => h) dJ0_gb_9 ?_
  refine lv_iconst (v := 0) hx hb dJ0_gb_12 (by decide) ?_
  refine lv_aload_n hx hb dJ0_gb_13 rfl (lv_at hl 1 rfl) ?_
  refine lv_iload_n hx hb dJ0_gb_14 rfl (lv_at hl 2 rfl) ?_
  refine lv_iload_n hx hb dJ0_gb_15 rfl (lv_at hl 3 rfl) ?_
  refine lv_ishl hx hb dJ0_gb_16 ?_
  have eoff : off <<< ((0 : Int32) &&& 31) = off := by
    show off <<< (0 : Int32) = off
    exact Int32.shiftLeft_zero
  rw [eoff]
  refine lv_aload_n hx hb dJ0_gb_17 rfl (lv_at hl 0 rfl) ?_
  refine vk_getf hx hb hVi.2.2.1 hS hown (htg _ (a_jm _ (List.mem_of_getElem? (i := 2) rfl))) (fun _ h => h) dJ0_gb_18 ?_
  refine va_tlen hx hb hVi.2.2.2 hS rfl dJ0_gb_21 ?_
  have hln : (Int32.ofNat ((a_sl xs).getD i 0)).toNatClampNeg = (a_sl xs).getD i 0 := nI_clamp (a_sl_31 xs hi)
  refine vk_copyt hx hb (hml.trans hl.1.symm) hown (htg _ (a_gbl _ (List.mem_of_getElem? (i := 0) rfl))) (htg _ (a_jm _ (List.mem_of_getElem? (i := 35) rfl))) (htg _ (a_jm _ (List.mem_of_getElem? (i := 36) rfl))) (htg _ (a_jm _ (List.mem_of_getElem? (i := 37) rfl))) (hW.K ho) hW.1 hD hS (f := a_gbf xs i) hVi.2.2.2 o 0 (a_ws_get ho) rfl (by decide) hoff (nI_pos (a_sl_31 xs hi)) (by rw [hln]; exact Nat.le_of_eq (Nat.zero_add _)) (by rw [hln]; exact hn) (fun j _ => hfit _) (Nat.le_refl _) (by decide +kernel) dJ0_gb_22 (fun H1 locs1 hP1 hD1 hS1 => ?_)
  rw [hln] at hP1 hD1
  have e0 : (0 : Int32).toNatClampNeg = 0 := rfl
  rw [e0] at hP1 hD1
  refine lv_goto (tgt := 43) hx hb dJ0_gb_25 rfl ?_
  have w1 := a_Wd.set (c := .inl (.byte, n, .inl (va_cpy (a_gbf xs i) g 0 off.toNatClampNeg ((a_sl xs).getD i 0)))) (A := va_A (a_ws ad ca h) sz) (H := s.heap) (H1 := H1) (i := o) ⟨hW.1, hD, hW.2.2⟩ hP1 hD1 (fun x hx => by cases hx; exact ⟨_, ho, rfl⟩)
  exact W.vret hx hb hr (fun t ht hWt => ⟨⟨none, ad, ca, rfl, rfl, (fun w e => by cases e), a_agr_refl _ _, by rw [List.length_set]; exact Nat.le_refl _, a_okh_set hh o (c := .inl (.byte, n, .inl (va_cpy (a_gbf xs i) g 0 off.toNatClampNeg ((a_sl xs).getD i 0)))) (fun f e9 => by cases e9), by rw [ht]; exact a_Wd.moved hWt.alike w1⟩, hS1.F ht⟩) hS1.2.2 dJ0_gb_43
