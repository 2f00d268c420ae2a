/-! The law at its entry. -/
theorem a_str1 {args : Array Value} {s : State} {tm : Term} {len : Nat} {byt : List Int32} {A : Nat → Prop} (hN : len < 2 ^ 31) (h : ∀ w ∈ a_req tm len byt, w.before args s = true) (hA : ∀ a : Nat, a < s.heap.size → ¬ A a) :
    ∃ a t : Nat, tm.eval args s none [] s = some (.ref a) ∧ va_O "java/lang/String" a A s s.heap ∧ va_OF "java/lang/String" "coder" "B" (.int 0) a A s s.heap ∧ va_OF "java/lang/String" "value" "[B" (.ref t) a A s s.heap ∧ va_T .byte t len (fun j => .int (byt.getD j 0)) A s s.heap := by
  obtain ⟨adK, adV, hS, hev⟩ := vk_Sof (N := 1) (tm := fun _ => tm) (len := [len]) (byt := [byt]) (A := A) (args := args) (s := s) (fun i hi => by
      obtain rfl : i = 0 := by omega
      exact hN) (fun i _ => h _ List.mem_cons_self) (fun i _ => h _ (List.mem_cons_of_mem _ List.mem_cons_self)) (fun i _ => h _ (List.mem_cons_of_mem _ (List.mem_cons_of_mem _ List.mem_cons_self))) (fun i hi => by
      obtain rfl : i = 0 := by omega
      exact h _ (List.mem_cons_of_mem _ (List.mem_cons_of_mem _ (List.mem_cons_of_mem _ List.mem_cons_self)))) (fun i hi j hj => by
      obtain rfl : i = 0 := by omega
      exact h _ (List.mem_cons_of_mem _ (List.mem_cons_of_mem _ (List.mem_cons_of_mem _ (List.mem_cons_of_mem _ (List.mem_map.mpr ⟨j, List.mem_range.mpr hj, rfl⟩)))))) (fun i j hi hj hij => by omega) hA
  obtain ⟨h1, h2, h3, h4⟩ := hS.1 0 (by omega)
  exact ⟨adK 0, adV 0, hev 0 (by omega), h1, h2, h3, h4⟩
theorem a_eqs {args : Array Value} {s : State} {t u : Term} {a : Nat} (h : (Cond.eq t u).before args s = true) (ht : t.eval args s none [] s = some (.ref a)) : u.eval args s none [] s = some (.ref a) := by
  cases hv : u.eval args s none [] s with
  | none => simp [Cond.before, Cond.holds, Cond.value, hv, ht] at h
  | some w =>
    simp [Cond.before, Cond.holds, Cond.value, hv, ht] at h
    cases w <;> simp_all
theorem a_OF_inj {n d o : String} {v w : Value} {a : Nat} {A : Nat → Prop} {U : State} {H : Heap} (h1 : va_OF o n d v a A U H) (h2 : va_OF o n d w a A U H) : v = w := by
  obtain ⟨cf, k, i, f, cell, g1, g2, g3, g4, g5, g6⟩ := h1
  obtain ⟨cf', k', i', f', cell', g1', g2', g3', g4', g5', g6'⟩ := h2
  cases Option.some.inj (g1.symm.trans g1')
  cases Option.some.inj (g3.symm.trans g3')
  exact Option.some.inj (g5.symm.trans g5')
theorem a_ch9 {P : Nat → Nat × Nat → Prop} (h : ∀ i, ∃ q, i < 7 → P i q) (dg : Nat → Nat) : ∃ ak : Nat → Nat × Nat, (∀ i, i < 7 → P i (ak i)) ∧ ∀ w, (ak (499 + w)).1 = dg w := by
  obtain ⟨ak, hak⟩ := Classical.axiomOfChoice h
  refine ⟨fun i => if 499 ≤ i then (dg (i - 499), 0) else ak i, fun i hi => ?_, fun w => ?_⟩
  · show P i (if 499 ≤ i then (dg (i - 499), 0) else ak i)
    rw [if_neg (show ¬ 499 ≤ i by omega)]; exact hak i hi
  · show (if 499 ≤ 499 + w then (dg (499 + w - 499), 0) else ak (499 + w)).1 = dg w
    rw [if_pos (show 499 ≤ 499 + w by omega), show 499 + w - 499 = w by omega]
theorem a_entry {s : State} {args : Array Value} {b L : Nat} {xs : Nat → Int32} (hts : ∀ w ∈ lw_tbl, w.before args s = true) (hgv : (Jvm.Cond.and given_1 narrow_1).before args s = true) (hX : va_X b L xs s s.heap) (hbl : b < s.heap.size) (ht7 : a_tn xs = 7) :
    ∃ ad : Nat → Nat, ad a_big = b ∧ a_Amb xs L ad (fun q : Nat => s.heap.size ≤ q) s s.heap := by
  have hfl : ∀ w ∈ a_fl, w.before args s = true := flat_of_before _ hgv
  have hA : ∀ a : Nat, a < s.heap.size → ¬ (fun q : Nat => s.heap.size ≤ q) a := fun a h => Nat.not_le.mpr h
  have h0 : ∀ i : Nat, ∃ q : Nat × Nat, i < 7 → (Term.string (a_rep i).1 (a_rep i).2).eval args s none [] s = some (.ref q.1) ∧ va_O "java/lang/String" q.1 (fun q : Nat => s.heap.size ≤ q) s s.heap ∧ va_OF "java/lang/String" "coder" "B" (.int 0) q.1 (fun q : Nat => s.heap.size ≤ q) s s.heap ∧ va_OF "java/lang/String" "value" "[B" (.ref q.2) q.1 (fun q : Nat => s.heap.size ≤ q) s s.heap ∧ va_T .byte q.2 (a_slC.getD i 0) (fun j => .int ((a_sbC.getD i []).getD j 0)) (fun q : Nat => s.heap.size ≤ q) s s.heap := by
    intro i
    by_cases hi : i < 7
    · obtain ⟨a, t, q⟩ := a_str1 (a_sl_lt i hi).1 (fun w hw => hfl w (a_req_ok i hi w hw)) hA
      exact ⟨(a, t), fun _ => q⟩
    · exact ⟨(0, 0), fun h => absurd h hi⟩
  have hdg : ∀ w : Nat, ∃ t : Nat, w < 2 → va_Z "java/lang/Integer" (if w = 0 then "DigitOnes" else "DigitTens") "[B" (.ref t) (fun q : Nat => s.heap.size ≤ q) s s.heap ∧ va_T .byte t 100 (fun j => .int (a_dig w j)) (fun q : Nat => s.heap.size ≤ q) s s.heap := by
    intro w
    by_cases hw : w < 2
    · have hq : ∀ q ∈ a_dgq w, q.before args s = true := fun q h => hfl q (a_dgq_in w hw q h)
      obtain ⟨t, h1, h2⟩ := va_Tof (N := 100) (ty := .byte) (tm := a_dgt w) (f := fun j => .int (a_dig w j)) (by omega) (hq _ List.mem_cons_self) (va_eqt (hq _ (List.mem_cons_of_mem _ List.mem_cons_self))) (fun j hj => va_eqt (hq _ (List.mem_cons_of_mem _ (List.mem_cons_of_mem _ (List.mem_map.mpr ⟨j, List.mem_range.mpr hj, rfl⟩))))) hA
      refine ⟨t, fun _ => ⟨va_Zof ?_ (hts _ (a_dgw _ (List.mem_of_getElem? (i := 2) rfl))) h1 hA, h2⟩⟩
      rcases (show w = 0 ∨ w = 1 by omega) with rfl | rfl
      · exact hts _ (a_dgw _ (List.mem_of_getElem? (i := 0) rfl))
      · exact hts _ (a_dgw _ (List.mem_of_getElem? (i := 1) rfl))
    · exact ⟨0, fun h => absurd h hw⟩
  obtain ⟨dg, hdg⟩ := Classical.axiomOfChoice hdg
  obtain ⟨ak, hak, hak9⟩ := a_ch9 h0 dg
  have e0 : ∀ i, (if a_big + 1 + i = a_big then b else (ak (a_big + 1 + i - (a_big + 1))).1) = (ak i).1 := fun i => by
    rw [if_neg (by omega), show a_big + 1 + i - (a_big + 1) = i by omega]
  refine ⟨fun i => if i = a_big then b else (ak (i - (a_big + 1))).1, if_pos rfl, ⟨?_, ?_, ?_, ?_⟩, ⟨fun i => (ak i).2, ?_⟩, ?_, ?_, ⟨?_, ?_⟩, ?_, ?_, ⟨?_, ?_⟩, ?_⟩
  · show va_X (if a_big = a_big then b else _) L xs s s.heap
    rw [if_pos rfl]; exact hX
  · show (if a_big = a_big then b else _) < s.heap.size
    rw [if_pos rfl]; exact hbl
  · show ¬ s.heap.size ≤ (if a_big = a_big then b else _)
    rw [if_pos rfl]; exact hA b hbl
  · refine ⟨fun y hy => ?_, fun w hw => ?_⟩
    · have hp := a_prw y hy
      have hc := a_prc y hy
      exact a_selp (hts _ (a_dgw _ (List.mem_of_getElem? (i := 3) rfl))) (hts _ (hp _ (List.mem_of_getElem? (i := 0) rfl))) (hts _ (hp _ (List.mem_of_getElem? (i := 1) rfl))) (by rw [hc]; exact hts _ (hp _ (List.mem_of_getElem? (i := 2) rfl)))
    · have e9 : (if a_big + 500 + w = a_big then b else (ak (a_big + 500 + w - (a_big + 1))).1) = dg w := by
        rw [if_neg (by omega), show a_big + 500 + w - (a_big + 1) = 499 + w by omega, hak9]
      have := hdg w hw
      rw [← e9] at this
      exact this
  · have e1 : (fun i => (fun i => if i = a_big then b else (ak (i - (a_big + 1))).1) (a_big + 1 + i)) = fun i => (ak i).1 := funext e0
    rw [e1, ht7]
    refine ⟨fun i hi => by rw [a_sl_lo xs hi, a_sb_lo xs hi]; exact (hak i hi).2, fun i j hi hj e9 => ?_⟩
    by_cases hij : i = j
    · exact hij
    · exfalso
      obtain ⟨-, -, -, g1, cell1, t1, t2, t3, t4, t5, t6, t7⟩ := hak i hi
      obtain ⟨-, -, -, g2, cell2, u1, u2, u3, u4, u5, u6, u7⟩ := hak j hj
      have e9' : (ak i).1 = (ak j).1 := e9
      rw [e9'] at g1
      have et := a_OF_inj g1 g2
      have et2 : (ak i).2 = (ak j).2 := by injection et
      rw [et2] at t1
      cases Option.some.inj (t1.symm.trans u1)
      rcases a_sl_ne i hi j hj hij with h9 | h9
      · exact h9 (t5.symm.trans u5)
      · have := (t6 0 (a_sl_lt i hi).2).symm.trans (u6 0 (a_sl_lt j hj).2)
        have e8 := Option.some.inj this
        injection e8 with e8
        exact h9 e8
  · intro q hq
    have hlt : ∀ q ∈ a_strs, q.2.2.2 < 7 := by decide
    have h1 : (Cond.stringRef q.1 q.2.1 q.2.2.1).before args s = true := hts _ (a_sr_in _ (List.mem_append_left _ (List.mem_map.mpr ⟨q, hq, rfl⟩)))
    have h2 : (Term.string q.1 q.2.1).eval args s none [] s = some (.ref (ak q.2.2.2).1) := by
      rcases a_eqL_in q hq with e9 | e9
      · have := (hak q.2.2.2 (hlt q hq)).1
        rw [← e9] at this
        exact this
      · exact a_eqs (hfl _ e9) (hak q.2.2.2 (hlt q hq)).1
    show vk_R q.1 q.2.1 q.2.2.1 (if a_big + 1 + q.2.2.2 = a_big then b else (ak (a_big + 1 + q.2.2.2 - (a_big + 1))).1) s
    rw [e0]
    exact vk_R.of (A := args) h1 h2
  · intro q hq
    have h1 : (Cond.stringRef RX8 q.1 q.2).before args s = true := hts _ (a_sr_in _ (List.mem_append_right _ (List.mem_map.mpr ⟨q, hq, rfl⟩)))
    obtain ⟨a, c, cA, kA, q1, -⟩ := Cond.exactly_spec (args := args) (first := s) (o := none) (s := s) (idx := []) (t := .string RX8 q.1) (cls := "java/lang/String") (hfl _ (a_thr_in q hq))
    exact ⟨a, vk_R.of (A := args) h1 q1⟩
  · exact vx_Zqof (hts _ (a_e_in _ (List.mem_of_getElem? (i := 2) rfl))) (hts _ (a_e_in _ (List.mem_of_getElem? (i := 6) rfl))) (hfl _ (a_st_in _ (List.mem_of_getElem? (i := 2) rfl))) hA
  · exact vx_Zqof (hts _ (a_e_in _ (List.mem_of_getElem? (i := 3) rfl))) (hts _ (a_e_in _ (List.mem_of_getElem? (i := 6) rfl))) (hfl _ (a_st_in _ (List.mem_of_getElem? (i := 3) rfl))) hA
  · exact va_Zof (hts _ (a_e_in _ (List.mem_of_getElem? (i := 0) rfl))) (hts _ (a_e_in _ (List.mem_of_getElem? (i := 4) rfl))) (va_eqt (hfl _ (a_st_in _ (List.mem_of_getElem? (i := 0) rfl)))) hA
  · exact va_Zqof (hts _ (a_e_in _ (List.mem_of_getElem? (i := 1) rfl))) (hts _ (a_e_in _ (List.mem_of_getElem? (i := 5) rfl))) (hfl _ (a_st_in _ (List.mem_of_getElem? (i := 1) rfl))) hA
  · exact va_AO.of (hts _ (a_e_in _ (List.mem_of_getElem? (i := 7) rfl)))
  · exact hts (.arrayOver (.array .int)) (a_e_in _ (List.mem_of_getElem? (i := 8) rfl))
  · intro w hw
    have := List.mem_filter.mp hw
    exact va_tabs (a_isn_tab this.2) rfl (hts w this.1)
theorem a_D {s : State} {args : Array Value} (hts : ∀ w ∈ lw_tbl, w.before args s = true) : ∃ D : va_G, va_K D vwCl [] s := by
  have h0 : ∀ ci : Nat, ∃ q : ClassId × (Nat → Nat), ci < 11 → u_Kn s (a_cn ci) (a_T ci) (a_nf ci) q.1 q.2 := by
    intro ci
    by_cases hi : ci < 11
    · obtain ⟨c9, i9, h9⟩ := u_known (C := a_cn ci) (T := a_T ci) (N := a_nf ci) (n := a_nf ci) (ws := lw_good) (args := args) (fun w hw => hts w (List.mem_filter.mp hw).1) (a_cw hi) (hts _ (a_inst_in _ (List.mem_map.mpr ⟨ci, List.mem_range.mpr hi, rfl⟩)))
      exact ⟨(c9, i9), fun _ => h9⟩
    · exact ⟨(0, fun _ => 0), fun h => absurd h hi⟩
  obtain ⟨f, hf⟩ := Classical.axiomOfChoice h0
  refine ⟨(fun k => (f k).1, fun k => (f k).2), fun k q hk => ?_, fun k q hk => by simp at hk⟩
  by_cases hi : k < 11
  · have := a_cl hi
    cases Option.some.inj (hk.symm.trans this)
    exact hf k hi
  · rw [List.getElem?_eq_none (by show 11 ≤ k; omega)] at hk
    cases hk
