/-! The law's run. -/
theorem ks_split {α : Type} {P : α → Prop} {l : List α} (a n : Nat) (h1 : ∀ z ∈ (l.drop a).take n, P z) (h2 : ∀ z ∈ l.drop (a + n), P z) : ∀ z ∈ l.drop a, P z := fun z hz => by
  rw [← List.take_append_drop n (l.drop a)] at hz
  rcases List.mem_append.mp hz with hz | hz
  · exact h1 z hz
  · rw [List.drop_drop] at hz
    exact h2 z hz
set_option maxRecDepth 100000 in
theorem ks_len : (m_is md_358).length = 1677 := rfl
theorem ks_all : ∀ z ∈ (m_is md_358).drop 0, a_oke (a_mt a_MK) md_358 z := by
  refine ks_split 0 80 (a_kall_ok a_hMK _ _ kc_0) ?_
  refine ks_split 80 80 (a_kall_ok a_hMK _ _ kc_1) ?_
  refine ks_split 160 80 (a_kall_ok a_hMK _ _ kc_2) ?_
  refine ks_split 240 80 (a_kall_ok a_hMK _ _ kc_3) ?_
  refine ks_split 320 80 (a_kall_ok a_hMK _ _ kc_4) ?_
  refine ks_split 400 80 (a_kall_ok a_hMK _ _ kc_5) ?_
  refine ks_split 480 80 (a_kall_ok a_hMK _ _ kc_6) ?_
  refine ks_split 560 80 (a_kall_ok a_hMK _ _ kc_7) ?_
  refine ks_split 640 80 (a_kall_ok a_hMK _ _ kc_8) ?_
  refine ks_split 720 80 (a_kall_ok a_hMK _ _ kc_9) ?_
  refine ks_split 800 80 (a_kall_ok a_hMK _ _ kc_10) ?_
  refine ks_split 880 80 (a_kall_ok a_hMK _ _ kc_11) ?_
  refine ks_split 960 80 (a_kall_ok a_hMK _ _ kc_12) ?_
  refine ks_split 1040 80 (a_kall_ok a_hMK _ _ kc_13) ?_
  refine ks_split 1120 80 (a_kall_ok a_hMK _ _ kc_14) ?_
  refine ks_split 1200 80 (a_kall_ok a_hMK _ _ kc_15) ?_
  refine ks_split 1280 80 (a_kall_ok a_hMK _ _ kc_16) ?_
  refine ks_split 1360 80 (a_kall_ok a_hMK _ _ kc_17) ?_
  refine ks_split 1440 80 (a_kall_ok a_hMK _ _ kc_18) ?_
  refine ks_split 1520 80 (a_kall_ok a_hMK _ _ kc_19) ?_
  refine ks_split 1600 20 (a_kall_ok a_hMK _ _ kc_20) ?_
  refine ks_split 1620 20 (a_kall_ok a_hMK _ _ kc_21) ?_
  refine ks_split 1640 20 (a_kall_ok a_hMK _ _ kc_22) ?_
  refine ks_split 1660 20 (a_kall_ok a_hMK _ _ kc_23) ?_
  intro z hz
  rw [List.drop_eq_nil_of_le (by rw [ks_len]; decide)] at hz
  cases hz
theorem md_358_ok : a_okm a_MT md_358 := ⟨by decide +kernel, ks_all, Or.inl rfl, (fun e => by cases e), fun hne => absurd rfl hne⟩
theorem md_358_law : a_lawq md_358 := ⟨rfl, rfl, rfl, rfl, rfl, rfl, rfl, rfl, by decide, by decide⟩
/-- a step that is known, then what comes behind -/
theorem s_cut {xs : Nat → Int32} {L N : Nat} {q : a_Md} {pc pc2 : Nat} {ls st : List Value} {σ σ' : f_M} {c n : Nat} {U : Type} {lsE : U → List Value} {x : Option f_M} {w : f_W} {P : Nat → Nat → Prop}
    (hB : ∀ k9 : f_M → Option f_W, (∀ (σ' : f_M) (u : U) (c' n' : Nat), P c' n' → f_Sim a_MT xs L N q pc2 (lsE u) [] σ' c' n' (k9 σ')) → f_Sim a_MT xs L N q pc ls st σ c n (x.bind k9)) (hx : x = some σ')
    (hP : ∀ u c' n', P c' n' → f_ok a_MT xs L q pc2 (lsE u) [] (f_hp N σ') c' n' (w.1, f_hp N w.2)) : f_ok a_MT xs L q pc ls st (f_hp N σ) c n (w.1, f_hp N w.2) := by
  classical
  refine hB (fun s => if (∀ u c' n', P c' n' → f_ok a_MT xs L q pc2 (lsE u) [] (f_hp N s) c' n' (w.1, f_hp N w.2)) then some w else none) (fun s u c' n' hp => ?_) w ?_
  · split
    · rename_i h
      intro w' hw
      cases hw
      exact h u c' n' hp
    · exact f_none
  · rw [hx]
    show (if _ then some w else none) = some w
    rw [if_pos hP]
theorem lw_add (j : Nat) : nI (7 * (j + 1)) = nI (7 * j) + 7 := by
  unfold nI
  rw [show 7 * (j + 1) = 7 * j + 7 by omega]
  exact Int32.ofNat_add _ _
theorem i_if2k {MT : Nat → Option a_Md} {xs : Nat → Int32} {L N : Nat} {q : a_Md} {pc pc' len a b : Nat} {ls st : List Value} {σ : f_M} {c n : Nat} {o : Option f_W} {cnd : ClassFile.Cond} {off : Int} {x y : Int32} {bb : Bool} (hc : a_c2 cnd x y = bb) (hat : a_at (m_is q) pc = some (.if_icmp cnd off, len, a, b)) (hp : 0 ≤ (pc : Int) + off ∧ (if bb then ((pc : Int) + off).toNat else pc + 3) = pc') (K : f_Sim MT xs L N q pc' ls st σ c n o) : f_Sim MT xs L N q pc ls (.int y :: .int x :: st) σ c n o := by
  obtain ⟨h0, rfl⟩ := hp
  exact f_stp (by unfold a_1; rw [hat]; simp only [a_ins, h0, hc, if_true, Option.map_some]) K
theorem lw_cmp {L j : Nat} (hL : L ≤ 3584) (hj : 7 * j ≤ 3584) : (Int32.ofNat L - 7 < nI (7 * j)) ↔ L < 7 * j + 7 := by
  rw [Int32.lt_iff_toInt_lt, nI_toInt (by omega), Int32.toInt_sub, show (Int32.ofNat L).toInt = (L : Int) from nI_toInt (by omega), show (7 : Int32).toInt = 7 from rfl, Int.bmod_eq_of_le (by omega) (by omega)]
  omega
theorem lw_gt {L j : Nat} (hL : L ≤ 3584) (hj : 7 * j ≤ 3584) : a_c2 .gt (nI (7 * j)) (Int32.ofNat L - 7) = decide (L < 7 * j + 7) := by
  unfold a_c2
  exact decide_eq_decide.mpr (lw_cmp hL hj)
set_option maxRecDepth 100000 in
theorem lw_head {xs : Nat → Int32} {L : Nat} {σ : f_M} {c n j : Nat} {o : Option f_W} {u : Value × Value × Value × Value} {bb : Bool} (hL : L ≤ 3584) (hj : 7 * j ≤ 3584) (hb : decide (L < 7 * j + 7) = bb) (K : f_Sim a_MT xs L 168 md_358 (if bb then 2929 else 33) [.ref a_big, .ref 0, .ref 155, .ref 167, .int (nI (7 * j)), u.1, u.2.1, u.2.2.1, u.2.2.2] [] σ c n o) : f_Sim a_MT xs L 168 md_358 23 [.ref a_big, .ref 0, .ref 155, .ref 167, .int (nI (7 * j)), u.1, u.2.1, u.2.2.1, u.2.2.2] [] σ c n o := by
  refine i_iload (pc' := 25) (f_at inc_358 (j := 13) rfl) rfl rfl ?_
  refine i_aload_n (pc' := 26) (f_at inc_358 (j := 14) rfl) rfl rfl ?_
  refine i_xlen (pc' := 27) (f_at inc_358 (j := 15) rfl) rfl ?_
  refine i_bipush (pc' := 29) (f_at inc_358 (j := 16) rfl) cb_7 rfl ?_
  refine i_isub (pc' := 30) (f_at inc_358 (j := 17) rfl) rfl ?_
  refine i_if2k (bb := bb) (by rw [lw_gt hL hj]; exact hb) (f_at inc_358 (j := 18) rfl) ⟨by decide, ?_⟩ K
  cases bb <;> rfl
set_option maxRecDepth 100000 in
theorem law_loop {xs : Nat → Int32} {L : Nat} (hL : L ≤ 3584) {Inv : Nat → f_M → Prop} (hstep : ∀ j σ, 7 * j + 7 ≤ L → Inv j σ → ∃ σ', lw_step xs L (nI (7 * j)) σ = some σ' ∧ Inv (j + 1) σ') :
    ∀ (m j : Nat) (σ : f_M), L < 7 * (j + m) + 7 → 7 * j ≤ L → Inv j σ → ∃ w : f_M, ∀ (u : Value × Value × Value × Value) (c n : Nat), 7 * m ≤ c → 42 * m ≤ n → f_ok a_MT xs L md_358 23 [.ref a_big, .ref 0, .ref 155, .ref 167, .int (nI (7 * j)), u.1, u.2.1, u.2.2.1, u.2.2.2] [] (f_hp 168 σ) c n (.inl (some (.int 1)), f_hp 168 w) := by
  intro m
  induction m with
  | zero =>
    intro j σ h1 h2 hI
    refine ⟨σ, fun u c n hc hn => ?_⟩
    have S : f_Sim a_MT xs L 168 md_358 23 [.ref a_big, .ref 0, .ref 155, .ref 167, .int (nI (7 * j)), u.1, u.2.1, u.2.2.1, u.2.2.2] [] σ c n (some (.inl (some (.int 1)), σ)) := by
      refine lw_head (bb := true) hL (by omega) (decide_eq_true (by omega)) ?_
      show f_Sim a_MT xs L 168 md_358 2929 _ _ σ c n _
      refine i_iconst (pc' := 2930) (f_at inc_358 (j := 1675) rfl) ci_1 rfl ?_
      exact i_iret (v := f_b true) (f_at inc_358 (j := 1676) rfl) rfl n_bool
    exact S _ rfl
  | succ m ih =>
    intro j σ h1 h2 hI
    by_cases hj : 7 * j + 7 ≤ L
    · obtain ⟨σ', e1, hI'⟩ := hstep j σ hj hI
      obtain ⟨w, hw⟩ := ih (j + 1) σ' (by omega) (by omega) hI'
      refine ⟨w, fun u c n hc hn => ?_⟩
      have S : f_Sim a_MT xs L 168 md_358 23 [.ref a_big, .ref 0, .ref 155, .ref 167, .int (nI (7 * j)), u.1, u.2.1, u.2.2.1, u.2.2.2] [] σ c n (some (.inl (some (.int 1)), w)) := by
        refine lw_head (bb := false) hL (by omega) (decide_eq_false (by omega)) ?_
        show f_Sim a_MT xs L 168 md_358 33 _ _ σ c n _
        intro w9 hw9
        cases hw9
        refine s_cut (U := Value × Value × Value × Value) (pc2 := 2923) (lsE := fun u => [.ref a_big, .ref 0, .ref 155, .ref 167, .int (nI (7 * j)), u.1, u.2.1, u.2.2.1, u.2.2.2]) (P := fun c' n' => c ≤ c' + 7 ∧ n ≤ n' + 42) (w := (.inl (some (.int 1)), w)) (fun k9 hk => LW_step (nI (7 * j)) σ u ⟨by omega, by omega⟩ k9 (fun s u' c' n' g1 g2 => hk s u' c' n' ⟨g1, g2⟩)) e1 ?_
        intro u' c' n' hP
        have S2 : f_Sim a_MT xs L 168 md_358 2923 [.ref a_big, .ref 0, .ref 155, .ref 167, .int (nI (7 * j)), u'.1, u'.2.1, u'.2.2.1, u'.2.2.2] [] σ' c' n' (some (.inl (some (.int 1)), w)) := by
          refine i_iinc (pc' := 2926) (ls' := [.ref a_big, .ref 0, .ref 155, .ref 167, .int (nI (7 * (j + 1))), u'.1, u'.2.1, u'.2.2.1, u'.2.2.2]) (f_at inc_358 (j := 1673) rfl) rfl (by decide +kernel : Int32.ofInt 7 = 7) (by rw [show nI (7 * (j + 1)) = nI (7 * j) + 7 from lw_add j]; rfl) rfl ?_
          refine i_goto (pc' := 23) (f_at inc_358 (j := 1674) rfl) (by decide) ?_
          intro w9 hw9
          cases hw9
          exact hw u' c' n' (by omega) (by omega)
        exact S2 _ rfl
      exact S _ rfl
    · refine ⟨σ, fun u c n hc hn => ?_⟩
      have S : f_Sim a_MT xs L 168 md_358 23 [.ref a_big, .ref 0, .ref 155, .ref 167, .int (nI (7 * j)), u.1, u.2.1, u.2.2.1, u.2.2.2] [] σ c n (some (.inl (some (.int 1)), σ)) := by
        refine lw_head (bb := true) hL (by omega) (decide_eq_true (by omega)) ?_
        show f_Sim a_MT xs L 168 md_358 2929 _ _ σ c n _
        refine i_iconst (pc' := 2930) (f_at inc_358 (j := 1675) rfl) ci_1 rfl ?_
        exact i_iret (v := f_b true) (f_at inc_358 (j := 1676) rfl) rfl n_bool
      exact S _ rfl
theorem r_nil {MT : Nat → Option a_Md} {xs : Nat → Int32} {L : Nat} {q : a_Md} {pc : Nat} {ls st : List Value} {h0 : a_H} {c n : Nat} {w : a_R × a_H} (K : f_ok MT xs L q pc ls st (h0 ++ []) c n w) : f_ok MT xs L q pc ls st h0 c n w := by rw [List.append_nil] at K; exact K
set_option maxRecDepth 100000 in
theorem law_all {xs : Nat → Int32} {L : Nat} (hL : L ≤ 3584) {Inv : Nat → f_M → Prop} {σ1 σ2 σ4 : f_M} (h34 : g_34 f_s0 = some σ1) (h35 : g_35 (f_s1 σ1) = some σ2) (h40 : g_40 (f_row σ2 166 (fun _ => 0)) = some σ4) (hI : Inv 0 (f_row σ4 167 (fun _ => 0)))
    (hstep : ∀ j σ, 7 * j + 7 ≤ L → Inv j σ → ∃ σ', lw_step xs L (nI (7 * j)) σ = some σ' ∧ Inv (j + 1) σ') : ∃ w, f_ok a_MT xs L md_358 0 (a_loc 9 [.ref a_big]) [] [] 601024 7293034 (.inl (some (.int 1)), w) := by
  obtain ⟨w, hw⟩ := law_loop hL hstep 512 0 _ (by omega) (by omega) hI
  refine ⟨f_hp 168 w, ?_⟩
  rw [show a_loc 9 [.ref a_big] = [.ref a_big, a_dead, a_dead, a_dead, a_dead, a_dead, a_dead, a_dead, a_dead] from rfl]
  refine r_nil ?_
  refine r_new (pc' := 3) (c' := 601023) (n' := 7293018) (B := 0) rfl (m := 0) (fs := [.null, .int 0, .null, .int 0, .null, .null, .null, .null, .null, .null, .null, .null, .null, .null, .null, .int 0]) (f_at inc_358 (j := 0) rfl) (by decide) rfl (by decide) ⟨by decide, by decide⟩ rfl ⟨rfl, rfl, rfl⟩ ?_
  refine r_dup (pc' := 4) (f_at inc_358 (j := 1) rfl) rfl rfl ?_
  refine r_fold (t' := hx_0) rfl ?_
  refine r_kall (pc' := 7) (c' := 600869) (n' := 7286186) (r := [.ref 0]) (r_spec (f_at inc_358 (j := 2) rfl) (by decide) MT_34 rfl ⟨by decide, by decide, by decide⟩) MT_34 (K_34 h34) ⟨rfl, rfl, rfl, rfl⟩ ?_
  refine r_astore_n (pc' := 8) (ls' := [.ref a_big, .ref 0, a_dead, a_dead, a_dead, a_dead, a_dead, a_dead, a_dead]) (f_at inc_358 (j := 3) rfl) (by decide) rfl rfl ?_
  refine r_nil ?_
  refine r_new (pc' := 11) (c' := 600868) (n' := 7286161) (B := 155) (f_hp_len 155 σ1) (m := 155) (fs := [.null, .null, .null, .null, .int 0, .int 0, .int 0, .null, .int 0, .null, .int 0, .int 0, .int 0, .int 0, .int 0, .int 0, .int 0, .int 0, .int 0, .null, .int 0, .null, .null, .null, .int 0]) (f_at inc_358 (j := 4) rfl) (by decide) rfl (by decide) ⟨by decide, by decide⟩ rfl ⟨rfl, rfl, rfl⟩ ?_
  refine r_dup (pc' := 12) (f_at inc_358 (j := 5) rfl) rfl rfl ?_
  refine r_fold (t' := hm_0) rfl ?_
  refine r_kall (pc' := 15) (c' := 600857) (n' := 7258638) (r := [.ref 155]) (r_spec (f_at inc_358 (j := 6) rfl) (by decide) MT_40 rfl ⟨by decide, by decide, by decide⟩) MT_40 (K_40 h35 h40) ⟨rfl, rfl, rfl, rfl⟩ ?_
  refine r_astore_n (pc' := 16) (ls' := [.ref a_big, .ref 0, .ref 155, a_dead, a_dead, a_dead, a_dead, a_dead, a_dead]) (f_at inc_358 (j := 7) rfl) (by decide) rfl rfl ?_
  refine r_iconst (pc' := 17) (f_at inc_358 (j := 8) rfl) ci_1 rfl ?_
  refine r_nil ?_
  refine r_newarr (pc' := 19) (c' := 600856) (n' := 7258637) (ty := .long) (els := .inr (.inl fun _ => 0)) (z := 1) (m := 167) (B := 167) (f_hp_len 167 σ4) (f_at inc_358 (j := 9) rfl) rfl rfl (by decide +kernel) rfl (by decide) ⟨by decide, by decide⟩ ⟨rfl, rfl, rfl⟩ ?_
  rw [List.nil_append, f_hp_eq (σ' := f_row σ4 167 (fun _ => 0)) (fun a h => by unfold f_row; rw [if_neg (by omega)]), f_hp_app (σ := f_row σ4 167 (fun _ => 0)) (N := 167) (x := .inl (.long, 1, .inr (.inl fun _ => 0))) rfl]
  refine r_astore_n (pc' := 20) (ls' := [.ref a_big, .ref 0, .ref 155, .ref 167, a_dead, a_dead, a_dead, a_dead, a_dead]) (f_at inc_358 (j := 10) rfl) (by decide) rfl rfl ?_
  refine r_iconst (pc' := 21) (f_at inc_358 (j := 11) rfl) ci_0 rfl ?_
  refine r_istore (pc' := 23) (ls' := [.ref a_big, .ref 0, .ref 155, .ref 167, .int 0, a_dead, a_dead, a_dead, a_dead]) (f_at inc_358 (j := 12) rfl) (by decide) rfl rfl ?_
  exact hw (a_dead, a_dead, a_dead, a_dead) 600856 7258637 (by decide) (by decide)
