/-! Flat programs and their proofs. -/
set_option maxRecDepth 4000 in
theorem G_8 {xs : Nat → Int32} {L N : Nat} (hN : 155 ≤ N) (a2 : Int32)  (σ : f_M) : f_Cal a_MT xs L N 8 [.ref 3, .ref 1, .int a2] σ ((g_8 a2 σ).bind fun t => some (e_wv t)) := by
  refine f_cal_of (ls := [.ref 3, .ref 1, .int a2]) MT_8 (Nat.le_of_ble_eq_true rfl) rfl ?_
  unfold g_8
  refine i_aload_n (pc' := 1) (f_at inc_8 (j := 0) rfl) rfl rfl ?_
  refine i_aload_n (pc' := 2) (f_at inc_8 (j := 1) rfl) rfl rfl ?_
  refine i_putB (pc' := 5) (f_at inc_8 (j := 2) rfl) sh_3 rfl ⟨rfl, rfl⟩ (f_lt (o := 3) (m := 155) (Nat.le_of_ble_eq_true rfl) hN) rfl ?_
  refine i_aload_n (pc' := 6) (f_at inc_8 (j := 3) rfl) rfl rfl ?_
  refine i_iload_n (pc' := 7) (f_at inc_8 (j := 4) rfl) rfl rfl ?_
  refine i_aload_n (pc' := 8) (f_at inc_8 (j := 5) rfl) rfl rfl ?_
  refine i_alen (pc' := 9) (f_at inc_8 (j := 6) rfl) sh_1 cn_600 (f_bg (Nat.le_of_ble_eq_true rfl)) (f_lt (o := 1) (m := 155) (Nat.le_of_ble_eq_true rfl) hN) rfl ?_
  refine i_min (pc' := 12) (f_at inc_8 (j := 7) rfl) (Nat.le_of_ble_eq_true rfl) rfl ?_
  refine i_putI (pc' := 15) (f_at inc_8 (j := 8) rfl) sh_3 rfl ⟨rfl, rfl⟩ (f_lt (o := 3) (m := 155) (Nat.le_of_ble_eq_true rfl) hN) rfl ?_
  refine i_aload_n (pc' := 16) (f_at inc_8 (j := 9) rfl) rfl rfl ?_
  refine i_iconst (pc' := 17) (f_at inc_8 (j := 10) rfl) ci_0 rfl ?_
  refine i_putI (pc' := 20) (f_at inc_8 (j := 11) rfl) sh_3 rfl ⟨rfl, rfl⟩ (f_lt (o := 3) (m := 155) (Nat.le_of_ble_eq_true rfl) hN) rfl ?_
  refine i_aload_n (pc' := 21) (f_at inc_8 (j := 12) rfl) rfl rfl ?_
  refine i_iconst (pc' := 22) (f_at inc_8 (j := 13) rfl) ci_0 rfl ?_
  refine i_putI (pc' := 25) (f_at inc_8 (j := 14) rfl) sh_3 rfl ⟨rfl, rfl⟩ (f_lt (o := 3) (m := 155) (Nat.le_of_ble_eq_true rfl) hN) rfl ?_
  refine i_aload_n (pc' := 26) (f_at inc_8 (j := 15) rfl) rfl rfl ?_
  refine i_iconst (pc' := 27) (f_at inc_8 (j := 16) rfl) ci_m1 rfl ?_
  refine i_putI (pc' := 30) (f_at inc_8 (j := 17) rfl) sh_3 rfl ⟨rfl, rfl⟩ (f_lt (o := 3) (m := 155) (Nat.le_of_ble_eq_true rfl) hN) rfl ?_
  exact i_vret (f_at inc_8 (j := 18) rfl) rfl
set_option maxRecDepth 4000 in
theorem G_9 {xs : Nat → Int32} {L N : Nat} (hN : 155 ≤ N)   (σ : f_M) : f_Cal a_MT xs L N 9 [.ref 0] σ ((g_9  σ).bind fun t => some (e_wv t)) := by
  refine f_cal_of (ls := [.ref 0]) MT_9 (Nat.le_of_ble_eq_true rfl) rfl ?_
  unfold g_9
  refine i_aload_n (pc' := 1) (f_at inc_9 (j := 0) rfl) rfl rfl ?_
  refine i_getR (pc' := 4) (f_at inc_9 (j := 1) rfl) sh_0 rfl (f_lt (o := 0) (m := 155) (Nat.le_of_ble_eq_true rfl) hN) rfl ?_
  refine i_aload_n (pc' := 5) (f_at inc_9 (j := 2) rfl) rfl rfl ?_
  refine i_getR (pc' := 8) (f_at inc_9 (j := 3) rfl) sh_0 rfl (f_lt (o := 0) (m := 155) (Nat.le_of_ble_eq_true rfl) hN) rfl ?_
  refine i_aload_n (pc' := 9) (f_at inc_9 (j := 4) rfl) rfl rfl ?_
  refine i_getI (pc' := 12) (f_at inc_9 (j := 5) rfl) sh_0 rfl (f_lt (o := 0) (m := 155) (Nat.le_of_ble_eq_true rfl) hN) rfl ?_
  refine c_wv (pc' := 15) (c' := 0) (n' := 0) (h_virt (ra := [.int (σ 0 1), .ref 1, .ref 3]) (r := []) (as := [.ref 1, .int (σ 0 1)]) (f_at inc_9 (j := 6) rfl) (by decide) MT_8 rfl rfl rfl ⟨Nat.le_of_ble_eq_true rfl, Nat.le_of_ble_eq_true rfl, Nat.le_of_ble_eq_true rfl⟩ sh_3 (f_lt (o := 3) (m := 155) (Nat.le_of_ble_eq_true rfl) hN)) MT_8 (G_8 hN (σ 0 1) σ) ⟨rfl, rfl, rfl⟩ fun t1 => ?_
  refine i_aload_n (pc' := 16) (f_at inc_9 (j := 7) rfl) rfl rfl ?_
  refine i_iconst (pc' := 17) (f_at inc_9 (j := 8) rfl) ci_0 rfl ?_
  refine i_putI (pc' := 20) (f_at inc_9 (j := 9) rfl) sh_0 rfl ⟨rfl, rfl⟩ (f_lt (o := 0) (m := 155) (Nat.le_of_ble_eq_true rfl) hN) rfl ?_
  exact i_vret (f_at inc_9 (j := 10) rfl) rfl
set_option maxRecDepth 4000 in
theorem G_10 {xs : Nat → Int32} {L N : Nat} (hN : 155 ≤ N) (a1 : Int32) (a2 : Int32)  (σ : f_M) : f_Cal a_MT xs L N 10 [.ref 3, .int a1, .int a2] σ ((g_10 a1 a2 σ).bind fun t => some (e_pi σ t)) := by
  refine f_cal_of (ls := [.ref 3, .int a1, .int a2, a_dead]) MT_10 (Nat.le_of_ble_eq_true rfl) rfl ?_
  unfold g_10
  refine i_aload_n (pc' := 1) (f_at inc_10 (j := 0) rfl) rfl rfl ?_
  refine i_getI (pc' := 4) (f_at inc_10 (j := 1) rfl) sh_3 rfl (f_lt (o := 3) (m := 155) (Nat.le_of_ble_eq_true rfl) hN) rfl ?_
  refine i_istore_n (pc' := 5) (ls' := [.ref 3, .int a1, .int a2, .int (σ 3 3)]) (f_at inc_10 (j := 2) rfl) (Nat.le_of_ble_eq_true rfl) rfl rfl ?_
  refine s_lX (X := 39) (σ 3 3) () (fun (s1 : Int32) (u1 : Unit) => [.ref 3, .int a1, .int a2, .int s1]) (fun (s1 : Int32) => σ) (fun (x1 : Int32) (w1 : Unit) => [.ref 3, .int a1, .int a2, .int x1]) (fun (x1 : Int32) => σ) ?_ ?_
  · intro x1 w1
    refine i_iload_n (pc' := 40) (f_at inc_10 (j := 21) rfl) rfl rfl ?_
    exact i_iret (f_at inc_10 (j := 22) rfl) rfl n_int
  · intro s1 u1 k1 hb1 hx1
    refine i_iload_n (pc' := 6) (f_at inc_10 (j := 3) rfl) rfl rfl ?_
    refine i_aload_n (pc' := 7) (f_at inc_10 (j := 4) rfl) rfl rfl ?_
    refine i_getI (pc' := 10) (f_at inc_10 (j := 5) rfl) sh_3 rfl (f_lt (o := 3) (m := 155) (Nat.le_of_ble_eq_true rfl) hN) rfl ?_
    refine i_if2 (pc' := 39) (nx := 13) c2_ge (f_at inc_10 (j := 6) rfl) ⟨by decide, rfl⟩ (fun b8 => ?_) (fun b8 => ?_)
    · exact hx1 s1 ()
    · refine i_aload_n (pc' := 14) (f_at inc_10 (j := 7) rfl) rfl rfl ?_
      refine i_getB (pc' := 17) (f_at inc_10 (j := 8) rfl) sh_3 rfl (f_lt (o := 3) (m := 155) (Nat.le_of_ble_eq_true rfl) hN) rfl fun h2 => ?_
      refine i_iload_n (pc' := 18) (f_at inc_10 (j := 9) rfl) rfl rfl ?_
      refine i_bald (pc' := 19) (f_at inc_10 (j := 10) rfl) sh_1 (Or.inl rfl) (f_bg (Nat.le_of_ble_eq_true rfl)) (f_lt (o := 1) (m := 155) (Nat.le_of_ble_eq_true rfl) hN) rfl fun v3 => ?_
      refine i_iload_n (pc' := 20) (f_at inc_10 (j := 11) rfl) rfl rfl ?_
      refine i_if2 (pc' := 39) (nx := 23) c2_lt (f_at inc_10 (j := 12) rfl) ⟨by decide, rfl⟩ (fun b7 => ?_) (fun b7 => ?_)
      · exact hx1 s1 ()
      · refine i_aload_n (pc' := 24) (f_at inc_10 (j := 13) rfl) rfl rfl ?_
        refine i_getB (pc' := 27) (f_at inc_10 (j := 14) rfl) sh_3 rfl (f_lt (o := 3) (m := 155) (Nat.le_of_ble_eq_true rfl) hN) rfl fun h4 => ?_
        refine i_iload_n (pc' := 28) (f_at inc_10 (j := 15) rfl) rfl rfl ?_
        refine i_bald (pc' := 29) (f_at inc_10 (j := 16) rfl) sh_1 (Or.inl rfl) (f_bg (Nat.le_of_ble_eq_true rfl)) (f_lt (o := 1) (m := 155) (Nat.le_of_ble_eq_true rfl) hN) rfl fun v5 => ?_
        refine i_iload_n (pc' := 30) (f_at inc_10 (j := 17) rfl) rfl rfl ?_
        refine i_if2 (pc' := 39) (nx := 33) c2_gt (f_at inc_10 (j := 18) rfl) ⟨by decide, rfl⟩ (fun b6 => ?_) (fun b6 => ?_)
        · exact hx1 s1 ()
        · refine i_iinc (pc' := 36) (ls' := [.ref 3, .int a1, .int a2, .int (s1 + (1 : Int32))]) (f_at inc_10 (j := 19) rfl) rfl ci_1 rfl rfl ?_
          refine i_goto (pc' := 5) (f_at inc_10 (j := 20) rfl) (by decide) ?_
          exact hb1 (s1 + (1 : Int32)) ()
set_option maxRecDepth 4000 in
theorem G_11 {xs : Nat → Int32} {L N : Nat} (hN : 155 ≤ N)   (σ : f_M) : f_Cal a_MT xs L N 11 [.ref 3] σ ((g_11  σ).bind fun t => some (e_pi σ t)) := by
  refine f_cal_of (ls := [.ref 3]) MT_11 (Nat.le_of_ble_eq_true rfl) rfl ?_
  unfold g_11
  refine i_aload_n (pc' := 1) (f_at inc_11 (j := 0) rfl) rfl rfl ?_
  refine i_getI (pc' := 4) (f_at inc_11 (j := 1) rfl) sh_3 rfl (f_lt (o := 3) (m := 155) (Nat.le_of_ble_eq_true rfl) hN) rfl ?_
  refine i_aload_n (pc' := 5) (f_at inc_11 (j := 2) rfl) rfl rfl ?_
  refine i_getI (pc' := 8) (f_at inc_11 (j := 3) rfl) sh_3 rfl (f_lt (o := 3) (m := 155) (Nat.le_of_ble_eq_true rfl) hN) rfl ?_
  refine i_isub (pc' := 9) (f_at inc_11 (j := 4) rfl) rfl ?_
  exact i_iret (f_at inc_11 (j := 5) rfl) rfl n_int
set_option maxRecDepth 4000 in
theorem G_12 {xs : Nat → Int32} {L N : Nat} (hN : 155 ≤ N)   (σ : f_M) : f_Cal a_MT xs L N 12 [.ref 3] σ ((g_12  σ).bind fun t => some (e_wv t)) := by
  refine f_cal_of (ls := [.ref 3]) MT_12 (Nat.le_of_ble_eq_true rfl) rfl ?_
  unfold g_12
  refine i_aload_n (pc' := 1) (f_at inc_12 (j := 0) rfl) rfl rfl ?_
  refine i_aload_n (pc' := 2) (f_at inc_12 (j := 1) rfl) rfl rfl ?_
  refine i_getI (pc' := 5) (f_at inc_12 (j := 2) rfl) sh_3 rfl (f_lt (o := 3) (m := 155) (Nat.le_of_ble_eq_true rfl) hN) rfl ?_
  refine i_putI (pc' := 8) (f_at inc_12 (j := 3) rfl) sh_3 rfl ⟨rfl, rfl⟩ (f_lt (o := 3) (m := 155) (Nat.le_of_ble_eq_true rfl) hN) rfl ?_
  refine s_lX (X := 60) (f_up σ 3 3 (σ 3 4)) () (fun (s1 : f_M) (u1 : Unit) => [.ref 3]) (fun (s1 : f_M) => s1) (fun (x1 : f_M) (w1 : Unit) => [.ref 3]) (fun (x1 : f_M) => x1) ?_ ?_
  · intro x1 w1
    refine i_aload_n (pc' := 61) (f_at inc_12 (j := 30) rfl) rfl rfl ?_
    refine i_aload_n (pc' := 62) (f_at inc_12 (j := 31) rfl) rfl rfl ?_
    refine i_getI (pc' := 65) (f_at inc_12 (j := 32) rfl) sh_3 rfl (f_lt (o := 3) (m := 155) (Nat.le_of_ble_eq_true rfl) hN) rfl ?_
    refine i_putI (pc' := 68) (f_at inc_12 (j := 33) rfl) sh_3 rfl ⟨rfl, rfl⟩ (f_lt (o := 3) (m := 155) (Nat.le_of_ble_eq_true rfl) hN) rfl ?_
    refine i_aload_n (pc' := 69) (f_at inc_12 (j := 34) rfl) rfl rfl ?_
    refine i_getI (pc' := 72) (f_at inc_12 (j := 35) rfl) sh_3 rfl (f_lt (o := 3) (m := 155) (Nat.le_of_ble_eq_true rfl) hN) rfl ?_
    refine i_aload_n (pc' := 73) (f_at inc_12 (j := 36) rfl) rfl rfl ?_
    refine i_getI (pc' := 76) (f_at inc_12 (j := 37) rfl) sh_3 rfl (f_lt (o := 3) (m := 155) (Nat.le_of_ble_eq_true rfl) hN) rfl ?_
    refine s_join (J := 241) (fun (t9 : f_M) (u9 : Unit) => [.ref 3]) (fun t9 => []) (fun t9 => t9) ?_ ?_
    · intro t9 u9
      exact i_vret (f_at inc_12 (j := 121) rfl) rfl
    · intro k9 hj9
      refine i_if2 (pc' := 87) (nx := 79) c2_lt (f_at inc_12 (j := 38) rfl) ⟨by decide, rfl⟩ (fun b56 => ?_) (fun b56 => ?_)
      · refine i_aload_n (pc' := 88) (f_at inc_12 (j := 43) rfl) rfl rfl ?_
        refine i_getB (pc' := 91) (f_at inc_12 (j := 44) rfl) sh_3 rfl (f_lt (o := 3) (m := 155) (Nat.le_of_ble_eq_true rfl) hN) rfl fun h10 => ?_
        refine i_aload_n (pc' := 92) (f_at inc_12 (j := 45) rfl) rfl rfl ?_
        refine i_getI (pc' := 95) (f_at inc_12 (j := 46) rfl) sh_3 rfl (f_lt (o := 3) (m := 155) (Nat.le_of_ble_eq_true rfl) hN) rfl ?_
        refine i_bald (pc' := 96) (f_at inc_12 (j := 47) rfl) sh_1 (Or.inl rfl) (f_bg (Nat.le_of_ble_eq_true rfl)) (f_lt (o := 1) (m := 155) (Nat.le_of_ble_eq_true rfl) hN) rfl fun v11 => ?_
        refine i_bipush (pc' := 98) (f_at inc_12 (j := 48) rfl) cb_97 rfl ?_
        refine i_if2 (pc' := 148) (nx := 101) c2_lt (f_at inc_12 (j := 49) rfl) ⟨by decide, rfl⟩ (fun b55 => ?_) (fun b55 => ?_)
        · refine i_aload_n (pc' := 149) (f_at inc_12 (j := 73) rfl) rfl rfl ?_
          refine i_getB (pc' := 152) (f_at inc_12 (j := 74) rfl) sh_3 rfl (f_lt (o := 3) (m := 155) (Nat.le_of_ble_eq_true rfl) hN) rfl fun h12 => ?_
          refine i_aload_n (pc' := 153) (f_at inc_12 (j := 75) rfl) rfl rfl ?_
          refine i_getI (pc' := 156) (f_at inc_12 (j := 76) rfl) sh_3 rfl (f_lt (o := 3) (m := 155) (Nat.le_of_ble_eq_true rfl) hN) rfl ?_
          refine i_bald (pc' := 157) (f_at inc_12 (j := 77) rfl) sh_1 (Or.inl rfl) (f_bg (Nat.le_of_ble_eq_true rfl)) (f_lt (o := 1) (m := 155) (Nat.le_of_ble_eq_true rfl) hN) rfl fun v13 => ?_
          refine i_bipush (pc' := 159) (f_at inc_12 (j := 78) rfl) cb_48 rfl ?_
          refine i_if2 (pc' := 208) (nx := 162) c2_lt (f_at inc_12 (j := 79) rfl) ⟨by decide, rfl⟩ (fun b29 => ?_) (fun b29 => ?_)
          · refine i_aload_n (pc' := 209) (f_at inc_12 (j := 103) rfl) rfl rfl ?_
            refine i_aload_n (pc' := 210) (f_at inc_12 (j := 104) rfl) rfl rfl ?_
            refine i_getI (pc' := 213) (f_at inc_12 (j := 105) rfl) sh_3 rfl (f_lt (o := 3) (m := 155) (Nat.le_of_ble_eq_true rfl) hN) rfl ?_
            refine i_iconst (pc' := 214) (f_at inc_12 (j := 106) rfl) ci_1 rfl ?_
            refine i_iadd (pc' := 215) (f_at inc_12 (j := 107) rfl) rfl ?_
            refine i_putI (pc' := 218) (f_at inc_12 (j := 108) rfl) sh_3 rfl ⟨rfl, rfl⟩ (f_lt (o := 3) (m := 155) (Nat.le_of_ble_eq_true rfl) hN) rfl ?_
            refine i_aload_n (pc' := 219) (f_at inc_12 (j := 109) rfl) rfl rfl ?_
            refine i_aload_n (pc' := 220) (f_at inc_12 (j := 110) rfl) rfl rfl ?_
            refine i_getB (pc' := 223) (f_at inc_12 (j := 111) rfl) sh_3 rfl (f_lt (o := 3) (m := 155) (Nat.le_of_ble_eq_true rfl) hN) rfl fun h14 => ?_
            refine i_aload_n (pc' := 224) (f_at inc_12 (j := 112) rfl) rfl rfl ?_
            refine i_getI (pc' := 227) (f_at inc_12 (j := 113) rfl) sh_3 rfl (f_lt (o := 3) (m := 155) (Nat.le_of_ble_eq_true rfl) hN) rfl ?_
            refine i_bald (pc' := 228) (f_at inc_12 (j := 114) rfl) sh_1 (Or.inl rfl) (f_bg (Nat.le_of_ble_eq_true rfl)) (f_lt (o := 1) (m := 155) (Nat.le_of_ble_eq_true rfl) hN) rfl fun v15 => ?_
            refine i_bipush (pc' := 230) (f_at inc_12 (j := 115) rfl) cb_59 rfl ?_
            refine s_join (J := 238) (fun (t16 : Int32) (u16 : Unit) => [.ref 3]) (fun t16 => [.int t16, .ref 3]) (fun t16 => (f_up (f_up x1 3 4 (x1 3 3)) 3 4 (((f_up x1 3 4 (x1 3 3)) 3 3) + (1 : Int32)))) ?_ ?_
            · intro t16 u16
              refine i_putI (pc' := 241) (f_at inc_12 (j := 120) rfl) sh_3 rfl ⟨rfl, rfl⟩ (f_lt (o := 3) (m := 155) (Nat.le_of_ble_eq_true rfl) hN) rfl ?_
              exact hj9 (f_up (f_up (f_up x1 3 4 (x1 3 3)) 3 4 (((f_up x1 3 4 (x1 3 3)) 3 3) + (1 : Int32))) 3 2 t16) ()
            · intro k16 hj16
              refine i_if2 (pc' := 237) (nx := 233) c2_ne (f_at inc_12 (j := 116) rfl) ⟨by decide, rfl⟩ (fun b17 => ?_) (fun b17 => ?_)
              · refine i_iconst (pc' := 238) (f_at inc_12 (j := 119) rfl) ci_4 rfl ?_
                exact hj16 (4 : Int32) ()
              · refine i_iconst (pc' := 234) (f_at inc_12 (j := 117) rfl) ci_3 rfl ?_
                refine i_goto (pc' := 238) (f_at inc_12 (j := 118) rfl) (by decide) ?_
                exact hj16 (3 : Int32) ()
          · refine i_aload_n (pc' := 163) (f_at inc_12 (j := 80) rfl) rfl rfl ?_
            refine i_getB (pc' := 166) (f_at inc_12 (j := 81) rfl) sh_3 rfl (f_lt (o := 3) (m := 155) (Nat.le_of_ble_eq_true rfl) hN) rfl fun h18 => ?_
            refine i_aload_n (pc' := 167) (f_at inc_12 (j := 82) rfl) rfl rfl ?_
            refine i_getI (pc' := 170) (f_at inc_12 (j := 83) rfl) sh_3 rfl (f_lt (o := 3) (m := 155) (Nat.le_of_ble_eq_true rfl) hN) rfl ?_
            refine i_bald (pc' := 171) (f_at inc_12 (j := 84) rfl) sh_1 (Or.inl rfl) (f_bg (Nat.le_of_ble_eq_true rfl)) (f_lt (o := 1) (m := 155) (Nat.le_of_ble_eq_true rfl) hN) rfl fun v19 => ?_
            refine i_bipush (pc' := 173) (f_at inc_12 (j := 85) rfl) cb_57 rfl ?_
            refine i_if2 (pc' := 208) (nx := 176) c2_gt (f_at inc_12 (j := 86) rfl) ⟨by decide, rfl⟩ (fun b28 => ?_) (fun b28 => ?_)
            · refine i_aload_n (pc' := 209) (f_at inc_12 (j := 103) rfl) rfl rfl ?_
              refine i_aload_n (pc' := 210) (f_at inc_12 (j := 104) rfl) rfl rfl ?_
              refine i_getI (pc' := 213) (f_at inc_12 (j := 105) rfl) sh_3 rfl (f_lt (o := 3) (m := 155) (Nat.le_of_ble_eq_true rfl) hN) rfl ?_
              refine i_iconst (pc' := 214) (f_at inc_12 (j := 106) rfl) ci_1 rfl ?_
              refine i_iadd (pc' := 215) (f_at inc_12 (j := 107) rfl) rfl ?_
              refine i_putI (pc' := 218) (f_at inc_12 (j := 108) rfl) sh_3 rfl ⟨rfl, rfl⟩ (f_lt (o := 3) (m := 155) (Nat.le_of_ble_eq_true rfl) hN) rfl ?_
              refine i_aload_n (pc' := 219) (f_at inc_12 (j := 109) rfl) rfl rfl ?_
              refine i_aload_n (pc' := 220) (f_at inc_12 (j := 110) rfl) rfl rfl ?_
              refine i_getB (pc' := 223) (f_at inc_12 (j := 111) rfl) sh_3 rfl (f_lt (o := 3) (m := 155) (Nat.le_of_ble_eq_true rfl) hN) rfl fun h20 => ?_
              refine i_aload_n (pc' := 224) (f_at inc_12 (j := 112) rfl) rfl rfl ?_
              refine i_getI (pc' := 227) (f_at inc_12 (j := 113) rfl) sh_3 rfl (f_lt (o := 3) (m := 155) (Nat.le_of_ble_eq_true rfl) hN) rfl ?_
              refine i_bald (pc' := 228) (f_at inc_12 (j := 114) rfl) sh_1 (Or.inl rfl) (f_bg (Nat.le_of_ble_eq_true rfl)) (f_lt (o := 1) (m := 155) (Nat.le_of_ble_eq_true rfl) hN) rfl fun v21 => ?_
              refine i_bipush (pc' := 230) (f_at inc_12 (j := 115) rfl) cb_59 rfl ?_
              refine s_join (J := 238) (fun (t22 : Int32) (u22 : Unit) => [.ref 3]) (fun t22 => [.int t22, .ref 3]) (fun t22 => (f_up (f_up x1 3 4 (x1 3 3)) 3 4 (((f_up x1 3 4 (x1 3 3)) 3 3) + (1 : Int32)))) ?_ ?_
              · intro t22 u22
                refine i_putI (pc' := 241) (f_at inc_12 (j := 120) rfl) sh_3 rfl ⟨rfl, rfl⟩ (f_lt (o := 3) (m := 155) (Nat.le_of_ble_eq_true rfl) hN) rfl ?_
                exact hj9 (f_up (f_up (f_up x1 3 4 (x1 3 3)) 3 4 (((f_up x1 3 4 (x1 3 3)) 3 3) + (1 : Int32))) 3 2 t22) ()
              · intro k22 hj22
                refine i_if2 (pc' := 237) (nx := 233) c2_ne (f_at inc_12 (j := 116) rfl) ⟨by decide, rfl⟩ (fun b23 => ?_) (fun b23 => ?_)
                · refine i_iconst (pc' := 238) (f_at inc_12 (j := 119) rfl) ci_4 rfl ?_
                  exact hj22 (4 : Int32) ()
                · refine i_iconst (pc' := 234) (f_at inc_12 (j := 117) rfl) ci_3 rfl ?_
                  refine i_goto (pc' := 238) (f_at inc_12 (j := 118) rfl) (by decide) ?_
                  exact hj22 (3 : Int32) ()
            · refine i_aload_n (pc' := 177) (f_at inc_12 (j := 87) rfl) rfl rfl ?_
              refine i_aload_n (pc' := 178) (f_at inc_12 (j := 88) rfl) rfl rfl ?_
              refine i_bipush (pc' := 180) (f_at inc_12 (j := 89) rfl) cb_48 rfl ?_
              refine i_bipush (pc' := 182) (f_at inc_12 (j := 90) rfl) cb_57 rfl ?_
              refine c_pi (pc' := 185) (c' := 0) (n' := 0) (h_virt (ra := [.int (57 : Int32), .int (48 : Int32), .ref 3]) (r := [.ref 3]) (as := [.int (48 : Int32), .int (57 : Int32)]) (f_at inc_12 (j := 91) rfl) (by decide) MT_10 rfl rfl rfl ⟨Nat.le_of_ble_eq_true rfl, Nat.le_of_ble_eq_true rfl, Nat.le_of_ble_eq_true rfl⟩ sh_3 (f_lt (o := 3) (m := 155) (Nat.le_of_ble_eq_true rfl) hN)) MT_10 (G_10 hN (48 : Int32) (57 : Int32) (f_up x1 3 4 (x1 3 3))) ⟨rfl, rfl, rfl⟩ fun t24 => ?_
              refine i_putI (pc' := 188) (f_at inc_12 (j := 92) rfl) sh_3 rfl ⟨rfl, rfl⟩ (f_lt (o := 3) (m := 155) (Nat.le_of_ble_eq_true rfl) hN) rfl ?_
              refine i_aload_n (pc' := 189) (f_at inc_12 (j := 93) rfl) rfl rfl ?_
              refine i_aload_n (pc' := 190) (f_at inc_12 (j := 94) rfl) rfl rfl ?_
              refine c_pi (pc' := 193) (c' := 0) (n' := 0) (h_virt (ra := [.ref 3]) (r := [.ref 3]) (as := []) (f_at inc_12 (j := 95) rfl) (by decide) MT_11 rfl rfl rfl ⟨Nat.le_of_ble_eq_true rfl, Nat.le_of_ble_eq_true rfl, Nat.le_of_ble_eq_true rfl⟩ sh_3 (f_lt (o := 3) (m := 155) (Nat.le_of_ble_eq_true rfl) hN)) MT_11 (G_11 hN  (f_up (f_up x1 3 4 (x1 3 3)) 3 4 t24)) ⟨rfl, rfl, rfl⟩ fun t25 => ?_
              refine i_iconst (pc' := 194) (f_at inc_12 (j := 96) rfl) ci_4 rfl ?_
              refine s_join (J := 202) (fun (t26 : Int32) (u26 : Unit) => [.ref 3]) (fun t26 => [.int t26, .ref 3]) (fun t26 => (f_up (f_up x1 3 4 (x1 3 3)) 3 4 t24)) ?_ ?_
              · intro t26 u26
                refine i_putI (pc' := 205) (f_at inc_12 (j := 101) rfl) sh_3 rfl ⟨rfl, rfl⟩ (f_lt (o := 3) (m := 155) (Nat.le_of_ble_eq_true rfl) hN) rfl ?_
                refine i_goto (pc' := 241) (f_at inc_12 (j := 102) rfl) (by decide) ?_
                exact hj9 (f_up (f_up (f_up x1 3 4 (x1 3 3)) 3 4 t24) 3 2 t26) ()
              · intro k26 hj26
                refine i_if2 (pc' := 201) (nx := 197) c2_gt (f_at inc_12 (j := 97) rfl) ⟨by decide, rfl⟩ (fun b27 => ?_) (fun b27 => ?_)
                · refine i_iconst (pc' := 202) (f_at inc_12 (j := 100) rfl) ci_4 rfl ?_
                  exact hj26 (4 : Int32) ()
                · refine i_iconst (pc' := 198) (f_at inc_12 (j := 98) rfl) ci_2 rfl ?_
                  refine i_goto (pc' := 202) (f_at inc_12 (j := 99) rfl) (by decide) ?_
                  exact hj26 (2 : Int32) ()
        · refine i_aload_n (pc' := 102) (f_at inc_12 (j := 50) rfl) rfl rfl ?_
          refine i_getB (pc' := 105) (f_at inc_12 (j := 51) rfl) sh_3 rfl (f_lt (o := 3) (m := 155) (Nat.le_of_ble_eq_true rfl) hN) rfl fun h30 => ?_
          refine i_aload_n (pc' := 106) (f_at inc_12 (j := 52) rfl) rfl rfl ?_
          refine i_getI (pc' := 109) (f_at inc_12 (j := 53) rfl) sh_3 rfl (f_lt (o := 3) (m := 155) (Nat.le_of_ble_eq_true rfl) hN) rfl ?_
          refine i_bald (pc' := 110) (f_at inc_12 (j := 54) rfl) sh_1 (Or.inl rfl) (f_bg (Nat.le_of_ble_eq_true rfl)) (f_lt (o := 1) (m := 155) (Nat.le_of_ble_eq_true rfl) hN) rfl fun v31 => ?_
          refine i_bipush (pc' := 112) (f_at inc_12 (j := 55) rfl) cb_122 rfl ?_
          refine i_if2 (pc' := 148) (nx := 115) c2_gt (f_at inc_12 (j := 56) rfl) ⟨by decide, rfl⟩ (fun b54 => ?_) (fun b54 => ?_)
          · refine i_aload_n (pc' := 149) (f_at inc_12 (j := 73) rfl) rfl rfl ?_
            refine i_getB (pc' := 152) (f_at inc_12 (j := 74) rfl) sh_3 rfl (f_lt (o := 3) (m := 155) (Nat.le_of_ble_eq_true rfl) hN) rfl fun h32 => ?_
            refine i_aload_n (pc' := 153) (f_at inc_12 (j := 75) rfl) rfl rfl ?_
            refine i_getI (pc' := 156) (f_at inc_12 (j := 76) rfl) sh_3 rfl (f_lt (o := 3) (m := 155) (Nat.le_of_ble_eq_true rfl) hN) rfl ?_
            refine i_bald (pc' := 157) (f_at inc_12 (j := 77) rfl) sh_1 (Or.inl rfl) (f_bg (Nat.le_of_ble_eq_true rfl)) (f_lt (o := 1) (m := 155) (Nat.le_of_ble_eq_true rfl) hN) rfl fun v33 => ?_
            refine i_bipush (pc' := 159) (f_at inc_12 (j := 78) rfl) cb_48 rfl ?_
            refine i_if2 (pc' := 208) (nx := 162) c2_lt (f_at inc_12 (j := 79) rfl) ⟨by decide, rfl⟩ (fun b49 => ?_) (fun b49 => ?_)
            · refine i_aload_n (pc' := 209) (f_at inc_12 (j := 103) rfl) rfl rfl ?_
              refine i_aload_n (pc' := 210) (f_at inc_12 (j := 104) rfl) rfl rfl ?_
              refine i_getI (pc' := 213) (f_at inc_12 (j := 105) rfl) sh_3 rfl (f_lt (o := 3) (m := 155) (Nat.le_of_ble_eq_true rfl) hN) rfl ?_
              refine i_iconst (pc' := 214) (f_at inc_12 (j := 106) rfl) ci_1 rfl ?_
              refine i_iadd (pc' := 215) (f_at inc_12 (j := 107) rfl) rfl ?_
              refine i_putI (pc' := 218) (f_at inc_12 (j := 108) rfl) sh_3 rfl ⟨rfl, rfl⟩ (f_lt (o := 3) (m := 155) (Nat.le_of_ble_eq_true rfl) hN) rfl ?_
              refine i_aload_n (pc' := 219) (f_at inc_12 (j := 109) rfl) rfl rfl ?_
              refine i_aload_n (pc' := 220) (f_at inc_12 (j := 110) rfl) rfl rfl ?_
              refine i_getB (pc' := 223) (f_at inc_12 (j := 111) rfl) sh_3 rfl (f_lt (o := 3) (m := 155) (Nat.le_of_ble_eq_true rfl) hN) rfl fun h34 => ?_
              refine i_aload_n (pc' := 224) (f_at inc_12 (j := 112) rfl) rfl rfl ?_
              refine i_getI (pc' := 227) (f_at inc_12 (j := 113) rfl) sh_3 rfl (f_lt (o := 3) (m := 155) (Nat.le_of_ble_eq_true rfl) hN) rfl ?_
              refine i_bald (pc' := 228) (f_at inc_12 (j := 114) rfl) sh_1 (Or.inl rfl) (f_bg (Nat.le_of_ble_eq_true rfl)) (f_lt (o := 1) (m := 155) (Nat.le_of_ble_eq_true rfl) hN) rfl fun v35 => ?_
              refine i_bipush (pc' := 230) (f_at inc_12 (j := 115) rfl) cb_59 rfl ?_
              refine s_join (J := 238) (fun (t36 : Int32) (u36 : Unit) => [.ref 3]) (fun t36 => [.int t36, .ref 3]) (fun t36 => (f_up (f_up x1 3 4 (x1 3 3)) 3 4 (((f_up x1 3 4 (x1 3 3)) 3 3) + (1 : Int32)))) ?_ ?_
              · intro t36 u36
                refine i_putI (pc' := 241) (f_at inc_12 (j := 120) rfl) sh_3 rfl ⟨rfl, rfl⟩ (f_lt (o := 3) (m := 155) (Nat.le_of_ble_eq_true rfl) hN) rfl ?_
                exact hj9 (f_up (f_up (f_up x1 3 4 (x1 3 3)) 3 4 (((f_up x1 3 4 (x1 3 3)) 3 3) + (1 : Int32))) 3 2 t36) ()
              · intro k36 hj36
                refine i_if2 (pc' := 237) (nx := 233) c2_ne (f_at inc_12 (j := 116) rfl) ⟨by decide, rfl⟩ (fun b37 => ?_) (fun b37 => ?_)
                · refine i_iconst (pc' := 238) (f_at inc_12 (j := 119) rfl) ci_4 rfl ?_
                  exact hj36 (4 : Int32) ()
                · refine i_iconst (pc' := 234) (f_at inc_12 (j := 117) rfl) ci_3 rfl ?_
                  refine i_goto (pc' := 238) (f_at inc_12 (j := 118) rfl) (by decide) ?_
                  exact hj36 (3 : Int32) ()
            · refine i_aload_n (pc' := 163) (f_at inc_12 (j := 80) rfl) rfl rfl ?_
              refine i_getB (pc' := 166) (f_at inc_12 (j := 81) rfl) sh_3 rfl (f_lt (o := 3) (m := 155) (Nat.le_of_ble_eq_true rfl) hN) rfl fun h38 => ?_
              refine i_aload_n (pc' := 167) (f_at inc_12 (j := 82) rfl) rfl rfl ?_
              refine i_getI (pc' := 170) (f_at inc_12 (j := 83) rfl) sh_3 rfl (f_lt (o := 3) (m := 155) (Nat.le_of_ble_eq_true rfl) hN) rfl ?_
              refine i_bald (pc' := 171) (f_at inc_12 (j := 84) rfl) sh_1 (Or.inl rfl) (f_bg (Nat.le_of_ble_eq_true rfl)) (f_lt (o := 1) (m := 155) (Nat.le_of_ble_eq_true rfl) hN) rfl fun v39 => ?_
              refine i_bipush (pc' := 173) (f_at inc_12 (j := 85) rfl) cb_57 rfl ?_
              refine i_if2 (pc' := 208) (nx := 176) c2_gt (f_at inc_12 (j := 86) rfl) ⟨by decide, rfl⟩ (fun b48 => ?_) (fun b48 => ?_)
              · refine i_aload_n (pc' := 209) (f_at inc_12 (j := 103) rfl) rfl rfl ?_
                refine i_aload_n (pc' := 210) (f_at inc_12 (j := 104) rfl) rfl rfl ?_
                refine i_getI (pc' := 213) (f_at inc_12 (j := 105) rfl) sh_3 rfl (f_lt (o := 3) (m := 155) (Nat.le_of_ble_eq_true rfl) hN) rfl ?_
                refine i_iconst (pc' := 214) (f_at inc_12 (j := 106) rfl) ci_1 rfl ?_
                refine i_iadd (pc' := 215) (f_at inc_12 (j := 107) rfl) rfl ?_
                refine i_putI (pc' := 218) (f_at inc_12 (j := 108) rfl) sh_3 rfl ⟨rfl, rfl⟩ (f_lt (o := 3) (m := 155) (Nat.le_of_ble_eq_true rfl) hN) rfl ?_
                refine i_aload_n (pc' := 219) (f_at inc_12 (j := 109) rfl) rfl rfl ?_
                refine i_aload_n (pc' := 220) (f_at inc_12 (j := 110) rfl) rfl rfl ?_
                refine i_getB (pc' := 223) (f_at inc_12 (j := 111) rfl) sh_3 rfl (f_lt (o := 3) (m := 155) (Nat.le_of_ble_eq_true rfl) hN) rfl fun h40 => ?_
                refine i_aload_n (pc' := 224) (f_at inc_12 (j := 112) rfl) rfl rfl ?_
                refine i_getI (pc' := 227) (f_at inc_12 (j := 113) rfl) sh_3 rfl (f_lt (o := 3) (m := 155) (Nat.le_of_ble_eq_true rfl) hN) rfl ?_
                refine i_bald (pc' := 228) (f_at inc_12 (j := 114) rfl) sh_1 (Or.inl rfl) (f_bg (Nat.le_of_ble_eq_true rfl)) (f_lt (o := 1) (m := 155) (Nat.le_of_ble_eq_true rfl) hN) rfl fun v41 => ?_
                refine i_bipush (pc' := 230) (f_at inc_12 (j := 115) rfl) cb_59 rfl ?_
                refine s_join (J := 238) (fun (t42 : Int32) (u42 : Unit) => [.ref 3]) (fun t42 => [.int t42, .ref 3]) (fun t42 => (f_up (f_up x1 3 4 (x1 3 3)) 3 4 (((f_up x1 3 4 (x1 3 3)) 3 3) + (1 : Int32)))) ?_ ?_
                · intro t42 u42
                  refine i_putI (pc' := 241) (f_at inc_12 (j := 120) rfl) sh_3 rfl ⟨rfl, rfl⟩ (f_lt (o := 3) (m := 155) (Nat.le_of_ble_eq_true rfl) hN) rfl ?_
                  exact hj9 (f_up (f_up (f_up x1 3 4 (x1 3 3)) 3 4 (((f_up x1 3 4 (x1 3 3)) 3 3) + (1 : Int32))) 3 2 t42) ()
                · intro k42 hj42
                  refine i_if2 (pc' := 237) (nx := 233) c2_ne (f_at inc_12 (j := 116) rfl) ⟨by decide, rfl⟩ (fun b43 => ?_) (fun b43 => ?_)
                  · refine i_iconst (pc' := 238) (f_at inc_12 (j := 119) rfl) ci_4 rfl ?_
                    exact hj42 (4 : Int32) ()
                  · refine i_iconst (pc' := 234) (f_at inc_12 (j := 117) rfl) ci_3 rfl ?_
                    refine i_goto (pc' := 238) (f_at inc_12 (j := 118) rfl) (by decide) ?_
                    exact hj42 (3 : Int32) ()
              · refine i_aload_n (pc' := 177) (f_at inc_12 (j := 87) rfl) rfl rfl ?_
                refine i_aload_n (pc' := 178) (f_at inc_12 (j := 88) rfl) rfl rfl ?_
                refine i_bipush (pc' := 180) (f_at inc_12 (j := 89) rfl) cb_48 rfl ?_
                refine i_bipush (pc' := 182) (f_at inc_12 (j := 90) rfl) cb_57 rfl ?_
                refine c_pi (pc' := 185) (c' := 0) (n' := 0) (h_virt (ra := [.int (57 : Int32), .int (48 : Int32), .ref 3]) (r := [.ref 3]) (as := [.int (48 : Int32), .int (57 : Int32)]) (f_at inc_12 (j := 91) rfl) (by decide) MT_10 rfl rfl rfl ⟨Nat.le_of_ble_eq_true rfl, Nat.le_of_ble_eq_true rfl, Nat.le_of_ble_eq_true rfl⟩ sh_3 (f_lt (o := 3) (m := 155) (Nat.le_of_ble_eq_true rfl) hN)) MT_10 (G_10 hN (48 : Int32) (57 : Int32) (f_up x1 3 4 (x1 3 3))) ⟨rfl, rfl, rfl⟩ fun t44 => ?_
                refine i_putI (pc' := 188) (f_at inc_12 (j := 92) rfl) sh_3 rfl ⟨rfl, rfl⟩ (f_lt (o := 3) (m := 155) (Nat.le_of_ble_eq_true rfl) hN) rfl ?_
                refine i_aload_n (pc' := 189) (f_at inc_12 (j := 93) rfl) rfl rfl ?_
                refine i_aload_n (pc' := 190) (f_at inc_12 (j := 94) rfl) rfl rfl ?_
                refine c_pi (pc' := 193) (c' := 0) (n' := 0) (h_virt (ra := [.ref 3]) (r := [.ref 3]) (as := []) (f_at inc_12 (j := 95) rfl) (by decide) MT_11 rfl rfl rfl ⟨Nat.le_of_ble_eq_true rfl, Nat.le_of_ble_eq_true rfl, Nat.le_of_ble_eq_true rfl⟩ sh_3 (f_lt (o := 3) (m := 155) (Nat.le_of_ble_eq_true rfl) hN)) MT_11 (G_11 hN  (f_up (f_up x1 3 4 (x1 3 3)) 3 4 t44)) ⟨rfl, rfl, rfl⟩ fun t45 => ?_
                refine i_iconst (pc' := 194) (f_at inc_12 (j := 96) rfl) ci_4 rfl ?_
                refine s_join (J := 202) (fun (t46 : Int32) (u46 : Unit) => [.ref 3]) (fun t46 => [.int t46, .ref 3]) (fun t46 => (f_up (f_up x1 3 4 (x1 3 3)) 3 4 t44)) ?_ ?_
                · intro t46 u46
                  refine i_putI (pc' := 205) (f_at inc_12 (j := 101) rfl) sh_3 rfl ⟨rfl, rfl⟩ (f_lt (o := 3) (m := 155) (Nat.le_of_ble_eq_true rfl) hN) rfl ?_
                  refine i_goto (pc' := 241) (f_at inc_12 (j := 102) rfl) (by decide) ?_
                  exact hj9 (f_up (f_up (f_up x1 3 4 (x1 3 3)) 3 4 t44) 3 2 t46) ()
                · intro k46 hj46
                  refine i_if2 (pc' := 201) (nx := 197) c2_gt (f_at inc_12 (j := 97) rfl) ⟨by decide, rfl⟩ (fun b47 => ?_) (fun b47 => ?_)
                  · refine i_iconst (pc' := 202) (f_at inc_12 (j := 100) rfl) ci_4 rfl ?_
                    exact hj46 (4 : Int32) ()
                  · refine i_iconst (pc' := 198) (f_at inc_12 (j := 98) rfl) ci_2 rfl ?_
                    refine i_goto (pc' := 202) (f_at inc_12 (j := 99) rfl) (by decide) ?_
                    exact hj46 (2 : Int32) ()
          · refine i_aload_n (pc' := 116) (f_at inc_12 (j := 57) rfl) rfl rfl ?_
            refine i_aload_n (pc' := 117) (f_at inc_12 (j := 58) rfl) rfl rfl ?_
            refine i_bipush (pc' := 119) (f_at inc_12 (j := 59) rfl) cb_97 rfl ?_
            refine i_bipush (pc' := 121) (f_at inc_12 (j := 60) rfl) cb_122 rfl ?_
            refine c_pi (pc' := 124) (c' := 0) (n' := 0) (h_virt (ra := [.int (122 : Int32), .int (97 : Int32), .ref 3]) (r := [.ref 3]) (as := [.int (97 : Int32), .int (122 : Int32)]) (f_at inc_12 (j := 61) rfl) (by decide) MT_10 rfl rfl rfl ⟨Nat.le_of_ble_eq_true rfl, Nat.le_of_ble_eq_true rfl, Nat.le_of_ble_eq_true rfl⟩ sh_3 (f_lt (o := 3) (m := 155) (Nat.le_of_ble_eq_true rfl) hN)) MT_10 (G_10 hN (97 : Int32) (122 : Int32) (f_up x1 3 4 (x1 3 3))) ⟨rfl, rfl, rfl⟩ fun t50 => ?_
            refine i_putI (pc' := 127) (f_at inc_12 (j := 62) rfl) sh_3 rfl ⟨rfl, rfl⟩ (f_lt (o := 3) (m := 155) (Nat.le_of_ble_eq_true rfl) hN) rfl ?_
            refine i_aload_n (pc' := 128) (f_at inc_12 (j := 63) rfl) rfl rfl ?_
            refine i_aload_n (pc' := 129) (f_at inc_12 (j := 64) rfl) rfl rfl ?_
            refine c_pi (pc' := 132) (c' := 0) (n' := 0) (h_virt (ra := [.ref 3]) (r := [.ref 3]) (as := []) (f_at inc_12 (j := 65) rfl) (by decide) MT_11 rfl rfl rfl ⟨Nat.le_of_ble_eq_true rfl, Nat.le_of_ble_eq_true rfl, Nat.le_of_ble_eq_true rfl⟩ sh_3 (f_lt (o := 3) (m := 155) (Nat.le_of_ble_eq_true rfl) hN)) MT_11 (G_11 hN  (f_up (f_up x1 3 4 (x1 3 3)) 3 4 t50)) ⟨rfl, rfl, rfl⟩ fun t51 => ?_
            refine i_bipush (pc' := 134) (f_at inc_12 (j := 66) rfl) cb_8 rfl ?_
            refine s_join (J := 142) (fun (t52 : Int32) (u52 : Unit) => [.ref 3]) (fun t52 => [.int t52, .ref 3]) (fun t52 => (f_up (f_up x1 3 4 (x1 3 3)) 3 4 t50)) ?_ ?_
            · intro t52 u52
              refine i_putI (pc' := 145) (f_at inc_12 (j := 71) rfl) sh_3 rfl ⟨rfl, rfl⟩ (f_lt (o := 3) (m := 155) (Nat.le_of_ble_eq_true rfl) hN) rfl ?_
              refine i_goto (pc' := 241) (f_at inc_12 (j := 72) rfl) (by decide) ?_
              exact hj9 (f_up (f_up (f_up x1 3 4 (x1 3 3)) 3 4 t50) 3 2 t52) ()
            · intro k52 hj52
              refine i_if2 (pc' := 141) (nx := 137) c2_gt (f_at inc_12 (j := 67) rfl) ⟨by decide, rfl⟩ (fun b53 => ?_) (fun b53 => ?_)
              · refine i_iconst (pc' := 142) (f_at inc_12 (j := 70) rfl) ci_4 rfl ?_
                exact hj52 (4 : Int32) ()
              · refine i_iconst (pc' := 138) (f_at inc_12 (j := 68) rfl) ci_1 rfl ?_
                refine i_goto (pc' := 142) (f_at inc_12 (j := 69) rfl) (by decide) ?_
                exact hj52 (1 : Int32) ()
      · refine i_aload_n (pc' := 80) (f_at inc_12 (j := 39) rfl) rfl rfl ?_
        refine i_iconst (pc' := 81) (f_at inc_12 (j := 40) rfl) ci_0 rfl ?_
        refine i_putI (pc' := 84) (f_at inc_12 (j := 41) rfl) sh_3 rfl ⟨rfl, rfl⟩ (f_lt (o := 3) (m := 155) (Nat.le_of_ble_eq_true rfl) hN) rfl ?_
        refine i_goto (pc' := 241) (f_at inc_12 (j := 42) rfl) (by decide) ?_
        exact hj9 (f_up (f_up x1 3 4 (x1 3 3)) 3 2 (0 : Int32)) ()
  · intro s1 u1 k1 hb1 hx1
    refine i_aload_n (pc' := 9) (f_at inc_12 (j := 4) rfl) rfl rfl ?_
    refine i_getI (pc' := 12) (f_at inc_12 (j := 5) rfl) sh_3 rfl (f_lt (o := 3) (m := 155) (Nat.le_of_ble_eq_true rfl) hN) rfl ?_
    refine i_aload_n (pc' := 13) (f_at inc_12 (j := 6) rfl) rfl rfl ?_
    refine i_getI (pc' := 16) (f_at inc_12 (j := 7) rfl) sh_3 rfl (f_lt (o := 3) (m := 155) (Nat.le_of_ble_eq_true rfl) hN) rfl ?_
    refine i_if2 (pc' := 60) (nx := 19) c2_ge (f_at inc_12 (j := 8) rfl) ⟨by decide, rfl⟩ (fun b8 => ?_) (fun b8 => ?_)
    · exact hx1 s1 ()
    · refine i_aload_n (pc' := 20) (f_at inc_12 (j := 9) rfl) rfl rfl ?_
      refine i_getB (pc' := 23) (f_at inc_12 (j := 10) rfl) sh_3 rfl (f_lt (o := 3) (m := 155) (Nat.le_of_ble_eq_true rfl) hN) rfl fun h2 => ?_
      refine i_aload_n (pc' := 24) (f_at inc_12 (j := 11) rfl) rfl rfl ?_
      refine i_getI (pc' := 27) (f_at inc_12 (j := 12) rfl) sh_3 rfl (f_lt (o := 3) (m := 155) (Nat.le_of_ble_eq_true rfl) hN) rfl ?_
      refine i_bald (pc' := 28) (f_at inc_12 (j := 13) rfl) sh_1 (Or.inl rfl) (f_bg (Nat.le_of_ble_eq_true rfl)) (f_lt (o := 1) (m := 155) (Nat.le_of_ble_eq_true rfl) hN) rfl fun v3 => ?_
      refine i_bipush (pc' := 30) (f_at inc_12 (j := 14) rfl) cb_32 rfl ?_
      refine i_if2 (pc' := 47) (nx := 33) c2_eq (f_at inc_12 (j := 15) rfl) ⟨by decide, rfl⟩ (fun b7 => ?_) (fun b7 => ?_)
      · refine i_aload_n (pc' := 48) (f_at inc_12 (j := 23) rfl) rfl rfl ?_
        refine i_dup (pc' := 49) (f_at inc_12 (j := 24) rfl) rfl rfl ?_
        refine i_getI (pc' := 52) (f_at inc_12 (j := 25) rfl) sh_3 rfl (f_lt (o := 3) (m := 155) (Nat.le_of_ble_eq_true rfl) hN) rfl ?_
        refine i_iconst (pc' := 53) (f_at inc_12 (j := 26) rfl) ci_1 rfl ?_
        refine i_iadd (pc' := 54) (f_at inc_12 (j := 27) rfl) rfl ?_
        refine i_putI (pc' := 57) (f_at inc_12 (j := 28) rfl) sh_3 rfl ⟨rfl, rfl⟩ (f_lt (o := 3) (m := 155) (Nat.le_of_ble_eq_true rfl) hN) rfl ?_
        refine i_goto (pc' := 8) (f_at inc_12 (j := 29) rfl) (by decide) ?_
        exact hb1 (f_up s1 3 3 ((s1 3 3) + (1 : Int32))) ()
      · refine i_aload_n (pc' := 34) (f_at inc_12 (j := 16) rfl) rfl rfl ?_
        refine i_getB (pc' := 37) (f_at inc_12 (j := 17) rfl) sh_3 rfl (f_lt (o := 3) (m := 155) (Nat.le_of_ble_eq_true rfl) hN) rfl fun h4 => ?_
        refine i_aload_n (pc' := 38) (f_at inc_12 (j := 18) rfl) rfl rfl ?_
        refine i_getI (pc' := 41) (f_at inc_12 (j := 19) rfl) sh_3 rfl (f_lt (o := 3) (m := 155) (Nat.le_of_ble_eq_true rfl) hN) rfl ?_
        refine i_bald (pc' := 42) (f_at inc_12 (j := 20) rfl) sh_1 (Or.inl rfl) (f_bg (Nat.le_of_ble_eq_true rfl)) (f_lt (o := 1) (m := 155) (Nat.le_of_ble_eq_true rfl) hN) rfl fun v5 => ?_
        refine i_bipush (pc' := 44) (f_at inc_12 (j := 21) rfl) cb_10 rfl ?_
        refine i_if2 (pc' := 60) (nx := 47) c2_ne (f_at inc_12 (j := 22) rfl) ⟨by decide, rfl⟩ (fun b6 => ?_) (fun b6 => ?_)
        · exact hx1 s1 ()
        · refine i_aload_n (pc' := 48) (f_at inc_12 (j := 23) rfl) rfl rfl ?_
          refine i_dup (pc' := 49) (f_at inc_12 (j := 24) rfl) rfl rfl ?_
          refine i_getI (pc' := 52) (f_at inc_12 (j := 25) rfl) sh_3 rfl (f_lt (o := 3) (m := 155) (Nat.le_of_ble_eq_true rfl) hN) rfl ?_
          refine i_iconst (pc' := 53) (f_at inc_12 (j := 26) rfl) ci_1 rfl ?_
          refine i_iadd (pc' := 54) (f_at inc_12 (j := 27) rfl) rfl ?_
          refine i_putI (pc' := 57) (f_at inc_12 (j := 28) rfl) sh_3 rfl ⟨rfl, rfl⟩ (f_lt (o := 3) (m := 155) (Nat.le_of_ble_eq_true rfl) hN) rfl ?_
          refine i_goto (pc' := 8) (f_at inc_12 (j := 29) rfl) (by decide) ?_
          exact hb1 (f_up s1 3 3 ((s1 3 3) + (1 : Int32))) ()
set_option maxRecDepth 4000 in
theorem G_13 {xs : Nat → Int32} {L N : Nat} (hN : 155 ≤ N)   (σ : f_M) : f_Cal a_MT xs L N 13 [.ref 3] σ ((g_13  σ).bind fun t => some (e_pb σ t)) := by
  refine f_cal_of (ls := [.ref 3]) MT_13 (Nat.le_of_ble_eq_true rfl) rfl ?_
  unfold g_13
  refine i_aload_n (pc' := 1) (f_at inc_13 (j := 0) rfl) rfl rfl ?_
  refine i_getI (pc' := 4) (f_at inc_13 (j := 1) rfl) sh_3 rfl (f_lt (o := 3) (m := 155) (Nat.le_of_ble_eq_true rfl) hN) rfl ?_
  refine s_join (J := 12) (fun (t1 : Bool) (u1 : Unit) => [.ref 3]) (fun t1 => [.int (f_b t1)]) (fun t1 => σ) ?_ ?_
  · intro t1 u1
    exact i_iret (v := f_b t1) (f_at inc_13 (j := 6) rfl) rfl n_bool
  · intro k1 hj1
    refine i_if0 (pc' := 11) (nx := 7) c0_ne (f_at inc_13 (j := 2) rfl) ⟨by decide, rfl⟩ (fun b2 => ?_) (fun b2 => ?_)
    · refine i_iconst (pc' := 12) (f_at inc_13 (j := 5) rfl) ci_0 rfl ?_
      exact hj1 false ()
    · refine i_iconst (pc' := 8) (f_at inc_13 (j := 3) rfl) ci_1 rfl ?_
      refine i_goto (pc' := 12) (f_at inc_13 (j := 4) rfl) (by decide) ?_
      exact hj1 true ()
set_option maxRecDepth 4000 in
theorem G_14 {xs : Nat → Int32} {L N : Nat} (hN : 155 ≤ N) (a1 : Nat) (ha1 : f_okw a1 = true) (σ : f_M) : f_Cal a_MT xs L N 14 [.ref 3, .ref (a_big + 1 + a1)] σ ((g_14 a1 σ).bind fun t => some (e_pb σ t)) := by
  refine f_cal_of (ls := [.ref 3, .ref (a_big + 1 + a1), a_dead]) MT_14 (Nat.le_of_ble_eq_true rfl) rfl ?_
  unfold g_14
  refine i_aload_n (pc' := 1) (f_at inc_14 (j := 0) rfl) rfl rfl ?_
  refine i_getI (pc' := 4) (f_at inc_14 (j := 1) rfl) sh_3 rfl (f_lt (o := 3) (m := 155) (Nat.le_of_ble_eq_true rfl) hN) rfl ?_
  refine i_iconst (pc' := 5) (f_at inc_14 (j := 2) rfl) ci_1 rfl ?_
  refine i_if2 (pc' := 19) (nx := 8) c2_ne (f_at inc_14 (j := 3) rfl) ⟨by decide, rfl⟩ (fun b9 => ?_) (fun b9 => ?_)
  · refine i_iconst (pc' := 20) (f_at inc_14 (j := 9) rfl) ci_0 rfl ?_
    exact i_iret (v := f_b false) (f_at inc_14 (j := 10) rfl) rfl n_bool
  · refine i_aload_n (pc' := 9) (f_at inc_14 (j := 4) rfl) rfl rfl ?_
    refine c_pi (pc' := 12) (c' := 0) (n' := 0) (h_virt (ra := [.ref 3]) (r := []) (as := []) (f_at inc_14 (j := 5) rfl) (by decide) MT_11 rfl rfl rfl ⟨Nat.le_of_ble_eq_true rfl, Nat.le_of_ble_eq_true rfl, Nat.le_of_ble_eq_true rfl⟩ sh_3 (f_lt (o := 3) (m := 155) (Nat.le_of_ble_eq_true rfl) hN)) MT_11 (G_11 hN  σ) ⟨rfl, rfl, rfl⟩ fun t1 => ?_
    refine i_aload_n (pc' := 13) (f_at inc_14 (j := 6) rfl) rfl rfl ?_
    refine i_slen (pc' := 16) (f_at inc_14 (j := 7) rfl) ha1 (Nat.le_of_ble_eq_true rfl) rfl ?_
    refine i_if2 (pc' := 21) (nx := 19) c2_eq (f_at inc_14 (j := 8) rfl) ⟨by decide, rfl⟩ (fun b8 => ?_) (fun b8 => ?_)
    · refine i_iconst (pc' := 22) (f_at inc_14 (j := 11) rfl) ci_0 rfl ?_
      refine i_istore_n (pc' := 23) (ls' := [.ref 3, .ref (a_big + 1 + a1), .int (0 : Int32)]) (f_at inc_14 (j := 12) rfl) (Nat.le_of_ble_eq_true rfl) rfl rfl ?_
      refine s_lR (0 : Int32) () (fun (s2 : Int32) (u2 : Unit) => [.ref 3, .ref (a_big + 1 + a1), .int s2]) (fun (s2 : Int32) => σ) ?_
      intro s2 u2 k2 hb2 hr2
      refine i_iload_n (pc' := 24) (f_at inc_14 (j := 13) rfl) rfl rfl ?_
      refine i_aload_n (pc' := 25) (f_at inc_14 (j := 14) rfl) rfl rfl ?_
      refine i_slen (pc' := 28) (f_at inc_14 (j := 15) rfl) ha1 (Nat.le_of_ble_eq_true rfl) rfl ?_
      refine i_if2 (pc' := 58) (nx := 31) c2_ge (f_at inc_14 (j := 16) rfl) ⟨by decide, rfl⟩ (fun b7 => ?_) (fun b7 => ?_)
      · refine i_iconst (pc' := 59) (f_at inc_14 (j := 32) rfl) ci_1 rfl ?_
        refine s_rt (hr2 _) ?_
        exact i_iret (v := f_b true) (f_at inc_14 (j := 33) rfl) rfl n_bool
      · refine i_aload_n (pc' := 32) (f_at inc_14 (j := 17) rfl) rfl rfl ?_
        refine i_getB (pc' := 35) (f_at inc_14 (j := 18) rfl) sh_3 rfl (f_lt (o := 3) (m := 155) (Nat.le_of_ble_eq_true rfl) hN) rfl fun h3 => ?_
        refine i_aload_n (pc' := 36) (f_at inc_14 (j := 19) rfl) rfl rfl ?_
        refine i_getI (pc' := 39) (f_at inc_14 (j := 20) rfl) sh_3 rfl (f_lt (o := 3) (m := 155) (Nat.le_of_ble_eq_true rfl) hN) rfl ?_
        refine i_iload_n (pc' := 40) (f_at inc_14 (j := 21) rfl) rfl rfl ?_
        refine i_iadd (pc' := 41) (f_at inc_14 (j := 22) rfl) rfl ?_
        refine i_bald (pc' := 42) (f_at inc_14 (j := 23) rfl) sh_1 (Or.inl rfl) (f_bg (Nat.le_of_ble_eq_true rfl)) (f_lt (o := 1) (m := 155) (Nat.le_of_ble_eq_true rfl) hN) rfl fun v4 => ?_
        refine i_aload_n (pc' := 43) (f_at inc_14 (j := 24) rfl) rfl rfl ?_
        refine i_iload_n (pc' := 44) (f_at inc_14 (j := 25) rfl) rfl rfl ?_
        refine i_scha (pc' := 47) (f_at inc_14 (j := 26) rfl) ha1 (Nat.le_of_ble_eq_true rfl) rfl fun v5 => ?_
        refine i_if2 (pc' := 52) (nx := 50) c2_eq (f_at inc_14 (j := 27) rfl) ⟨by decide, rfl⟩ (fun b6 => ?_) (fun b6 => ?_)
        · refine i_iinc (pc' := 55) (ls' := [.ref 3, .ref (a_big + 1 + a1), .int (s2 + (1 : Int32))]) (f_at inc_14 (j := 30) rfl) rfl ci_1 rfl rfl ?_
          refine i_goto (pc' := 23) (f_at inc_14 (j := 31) rfl) (by decide) ?_
          exact hb2 (s2 + (1 : Int32)) ()
        · refine i_iconst (pc' := 51) (f_at inc_14 (j := 28) rfl) ci_0 rfl ?_
          refine s_rt (hr2 _) ?_
          exact i_iret (v := f_b false) (f_at inc_14 (j := 29) rfl) rfl n_bool
    · refine i_iconst (pc' := 20) (f_at inc_14 (j := 9) rfl) ci_0 rfl ?_
      exact i_iret (v := f_b false) (f_at inc_14 (j := 10) rfl) rfl n_bool
set_option maxRecDepth 4000 in
theorem G_15 {xs : Nat → Int32} {L N : Nat} (hN : 155 ≤ N) (a1 : Int32)  (σ : f_M) : f_Cal a_MT xs L N 15 [.ref 3, .int a1] σ ((g_15 a1 σ).bind fun t => some (e_wb t)) := by
  refine f_cal_of (ls := [.ref 3, .int a1]) MT_15 (Nat.le_of_ble_eq_true rfl) rfl ?_
  unfold g_15
  refine i_aload_n (pc' := 1) (f_at inc_15 (j := 0) rfl) rfl rfl ?_
  refine i_iload_n (pc' := 2) (f_at inc_15 (j := 1) rfl) rfl rfl ?_
  refine i_putI (pc' := 5) (f_at inc_15 (j := 2) rfl) sh_3 rfl ⟨rfl, rfl⟩ (f_lt (o := 3) (m := 155) (Nat.le_of_ble_eq_true rfl) hN) rfl ?_
  refine i_aload_n (pc' := 6) (f_at inc_15 (j := 3) rfl) rfl rfl ?_
  refine i_aload_n (pc' := 7) (f_at inc_15 (j := 4) rfl) rfl rfl ?_
  refine i_getI (pc' := 10) (f_at inc_15 (j := 5) rfl) sh_3 rfl (f_lt (o := 3) (m := 155) (Nat.le_of_ble_eq_true rfl) hN) rfl ?_
  refine i_putI (pc' := 13) (f_at inc_15 (j := 6) rfl) sh_3 rfl ⟨rfl, rfl⟩ (f_lt (o := 3) (m := 155) (Nat.le_of_ble_eq_true rfl) hN) rfl ?_
  refine i_iconst (pc' := 14) (f_at inc_15 (j := 7) rfl) ci_0 rfl ?_
  exact i_iret (v := f_b false) (f_at inc_15 (j := 8) rfl) rfl n_bool
set_option maxRecDepth 4000 in
theorem G_16 {xs : Nat → Int32} {L N : Nat} (hN : 155 ≤ N)   (σ : f_M) : f_Cal a_MT xs L N 16 [.ref 3] σ ((g_16  σ).bind fun t => some (e_wb t)) := by
  refine f_cal_of (ls := [.ref 3]) MT_16 (Nat.le_of_ble_eq_true rfl) rfl ?_
  unfold g_16
  refine i_aload_n (pc' := 1) (f_at inc_16 (j := 0) rfl) rfl rfl ?_
  refine c_wv (pc' := 4) (c' := 0) (n' := 0) (h_virt (ra := [.ref 3]) (r := []) (as := []) (f_at inc_16 (j := 1) rfl) (by decide) MT_12 rfl rfl rfl ⟨Nat.le_of_ble_eq_true rfl, Nat.le_of_ble_eq_true rfl, Nat.le_of_ble_eq_true rfl⟩ sh_3 (f_lt (o := 3) (m := 155) (Nat.le_of_ble_eq_true rfl) hN)) MT_12 (G_12 hN  σ) ⟨rfl, rfl, rfl⟩ fun t1 => ?_
  refine i_aload_n (pc' := 5) (f_at inc_16 (j := 2) rfl) rfl rfl ?_
  refine i_getI (pc' := 8) (f_at inc_16 (j := 3) rfl) sh_3 rfl (f_lt (o := 3) (m := 155) (Nat.le_of_ble_eq_true rfl) hN) rfl ?_
  refine i_iconst (pc' := 9) (f_at inc_16 (j := 4) rfl) ci_1 rfl ?_
  refine s_join (J := 34) (fun (t2 : Bool × f_M) (u2 : Unit) => [.ref 3]) (fun t2 => [.int (f_b t2.1)]) (fun t2 => t2.2) ?_ ?_
  · intro t2 u2
    exact i_iret (v := f_b t2.1) (f_at inc_16 (j := 17) rfl) rfl n_bool
  · intro k2 hj2
    refine i_if2 (pc' := 21) (nx := 12) c2_ne (f_at inc_16 (j := 5) rfl) ⟨by decide, rfl⟩ (fun b9 => ?_) (fun b9 => ?_)
    · refine i_aload_n (pc' := 22) (f_at inc_16 (j := 10) rfl) rfl rfl ?_
      refine i_iconst (pc' := 23) (f_at inc_16 (j := 11) rfl) ci_1 rfl ?_
      refine c_wb (pc' := 26) (c' := 0) (n' := 0) (h_virt (ra := [.int (1 : Int32), .ref 3]) (r := []) (as := [.int (1 : Int32)]) (f_at inc_16 (j := 12) rfl) (by decide) MT_15 rfl rfl rfl ⟨Nat.le_of_ble_eq_true rfl, Nat.le_of_ble_eq_true rfl, Nat.le_of_ble_eq_true rfl⟩ sh_3 (f_lt (o := 3) (m := 155) (Nat.le_of_ble_eq_true rfl) hN)) MT_15 (G_15 hN (1 : Int32) t1) ⟨rfl, rfl, rfl⟩ fun t3 => ?_
      refine i_if0 (pc' := 33) (nx := 29) cb_eq (f_at inc_16 (j := 13) rfl) ⟨by decide, rfl⟩ (fun b4 => ?_) (fun b4 => ?_)
      · refine i_iconst (pc' := 34) (f_at inc_16 (j := 16) rfl) ci_0 rfl ?_
        exact hj2 (false, t3.2) ()
      · refine i_iconst (pc' := 30) (f_at inc_16 (j := 14) rfl) ci_1 rfl ?_
        refine i_goto (pc' := 34) (f_at inc_16 (j := 15) rfl) (by decide) ?_
        exact hj2 (true, t3.2) ()
    · refine i_aload_n (pc' := 13) (f_at inc_16 (j := 6) rfl) rfl rfl ?_
      refine c_pi (pc' := 16) (c' := 0) (n' := 0) (h_virt (ra := [.ref 3]) (r := []) (as := []) (f_at inc_16 (j := 7) rfl) (by decide) MT_11 rfl rfl rfl ⟨Nat.le_of_ble_eq_true rfl, Nat.le_of_ble_eq_true rfl, Nat.le_of_ble_eq_true rfl⟩ sh_3 (f_lt (o := 3) (m := 155) (Nat.le_of_ble_eq_true rfl) hN)) MT_11 (G_11 hN  t1) ⟨rfl, rfl, rfl⟩ fun t5 => ?_
      refine i_bipush (pc' := 18) (f_at inc_16 (j := 8) rfl) cb_6 rfl ?_
      refine i_if2 (pc' := 29) (nx := 21) c2_le (f_at inc_16 (j := 9) rfl) ⟨by decide, rfl⟩ (fun b8 => ?_) (fun b8 => ?_)
      · refine i_iconst (pc' := 30) (f_at inc_16 (j := 14) rfl) ci_1 rfl ?_
        refine i_goto (pc' := 34) (f_at inc_16 (j := 15) rfl) (by decide) ?_
        exact hj2 (true, t1) ()
      · refine i_aload_n (pc' := 22) (f_at inc_16 (j := 10) rfl) rfl rfl ?_
        refine i_iconst (pc' := 23) (f_at inc_16 (j := 11) rfl) ci_1 rfl ?_
        refine c_wb (pc' := 26) (c' := 0) (n' := 0) (h_virt (ra := [.int (1 : Int32), .ref 3]) (r := []) (as := [.int (1 : Int32)]) (f_at inc_16 (j := 12) rfl) (by decide) MT_15 rfl rfl rfl ⟨Nat.le_of_ble_eq_true rfl, Nat.le_of_ble_eq_true rfl, Nat.le_of_ble_eq_true rfl⟩ sh_3 (f_lt (o := 3) (m := 155) (Nat.le_of_ble_eq_true rfl) hN)) MT_15 (G_15 hN (1 : Int32) t1) ⟨rfl, rfl, rfl⟩ fun t6 => ?_
        refine i_if0 (pc' := 33) (nx := 29) cb_eq (f_at inc_16 (j := 13) rfl) ⟨by decide, rfl⟩ (fun b7 => ?_) (fun b7 => ?_)
        · refine i_iconst (pc' := 34) (f_at inc_16 (j := 16) rfl) ci_0 rfl ?_
          exact hj2 (false, t6.2) ()
        · refine i_iconst (pc' := 30) (f_at inc_16 (j := 14) rfl) ci_1 rfl ?_
          refine i_goto (pc' := 34) (f_at inc_16 (j := 15) rfl) (by decide) ?_
          exact hj2 (true, t6.2) ()
set_option maxRecDepth 4000 in
theorem G_17 {xs : Nat → Int32} {L N : Nat} (hN : 155 ≤ N) (a0 : Nat) (a1 : Int32) (a2 : Int32) (ha0 : f_S a0) (σ : f_M) : f_Cal a_MT xs L N 17 [.ref a0, .int a1, .int a2] σ ((g_17 a0 a1 a2 σ).bind fun t => some (e_pi σ t)) := by
  refine f_cal_of (ls := [.ref a0, .int a1, .int a2]) MT_17 (Nat.le_of_ble_eq_true rfl) rfl ?_
  unfold g_17
  refine i_aload_n (pc' := 1) (f_at inc_17 (j := 0) rfl) rfl rfl ?_
  refine i_getR (pc' := 4) (f_at inc_17 (j := 1) rfl) ha0.1 rfl (f_ltS ha0 hN 0 (Nat.le_of_ble_eq_true rfl)) rfl ?_
  refine i_iload_n (pc' := 5) (f_at inc_17 (j := 2) rfl) rfl rfl ?_
  refine i_bipush (pc' := 7) (f_at inc_17 (j := 3) rfl) cb_6 rfl ?_
  refine i_imul (pc' := 8) (f_at inc_17 (j := 4) rfl) rfl ?_
  refine i_iload_n (pc' := 9) (f_at inc_17 (j := 5) rfl) rfl rfl ?_
  refine i_iadd (pc' := 10) (f_at inc_17 (j := 6) rfl) rfl ?_
  refine i_bald (pc' := 11) (f_at inc_17 (j := 7) rfl) ha0.2.2.1 (Or.inl rfl) (f_bgS ha0 2 (Nat.le_of_ble_eq_true rfl)) (f_ltS ha0 hN 2 (Nat.le_of_ble_eq_true rfl)) rfl fun v1 => ?_
  exact i_iret (f_at inc_17 (j := 8) rfl) rfl n_int
set_option maxRecDepth 4000 in
theorem G_18 {xs : Nat → Int32} {L N : Nat} (hN : 155 ≤ N) (a1 : Int32)  (σ : f_M) : f_Cal a_MT xs L N 18 [.ref 3, .int a1] σ ((g_18 a1 σ).bind fun t => some (e_pi σ t)) := by
  refine f_cal_of (ls := [.ref 3, .int a1]) MT_18 (Nat.le_of_ble_eq_true rfl) rfl ?_
  unfold g_18
  refine i_iload_n (pc' := 1) (f_at inc_18 (j := 0) rfl) rfl rfl ?_
  refine s_join (J := 32) (fun (t1 : Int32) (u1 : Unit) => [.ref 3, .int a1]) (fun t1 => [.int t1]) (fun t1 => σ) ?_ ?_
  · intro t1 u1
    refine i_grd fun h6 => ?_
    exact i_iret (f_at inc_18 (j := 18) rfl) rfl (congrArg Value.int h6)
  · intro k1 hj1
    refine i_if0 (pc' := 31) (nx := 4) c0_lt (f_at inc_18 (j := 1) rfl) ⟨by decide, rfl⟩ (fun b5 => ?_) (fun b5 => ?_)
    · refine i_iconst (pc' := 32) (f_at inc_18 (j := 17) rfl) ci_0 rfl ?_
      exact hj1 (0 : Int32) ()
    · refine i_iload_n (pc' := 5) (f_at inc_18 (j := 2) rfl) rfl rfl ?_
      refine i_aload_n (pc' := 6) (f_at inc_18 (j := 3) rfl) rfl rfl ?_
      refine i_getI (pc' := 9) (f_at inc_18 (j := 4) rfl) sh_3 rfl (f_lt (o := 3) (m := 155) (Nat.le_of_ble_eq_true rfl) hN) rfl ?_
      refine i_aload_n (pc' := 10) (f_at inc_18 (j := 5) rfl) rfl rfl ?_
      refine i_getI (pc' := 13) (f_at inc_18 (j := 6) rfl) sh_3 rfl (f_lt (o := 3) (m := 155) (Nat.le_of_ble_eq_true rfl) hN) rfl ?_
      refine i_isub (pc' := 14) (f_at inc_18 (j := 7) rfl) rfl ?_
      refine i_if2 (pc' := 31) (nx := 17) c2_ge (f_at inc_18 (j := 8) rfl) ⟨by decide, rfl⟩ (fun b4 => ?_) (fun b4 => ?_)
      · refine i_iconst (pc' := 32) (f_at inc_18 (j := 17) rfl) ci_0 rfl ?_
        exact hj1 (0 : Int32) ()
      · refine i_aload_n (pc' := 18) (f_at inc_18 (j := 9) rfl) rfl rfl ?_
        refine i_getB (pc' := 21) (f_at inc_18 (j := 10) rfl) sh_3 rfl (f_lt (o := 3) (m := 155) (Nat.le_of_ble_eq_true rfl) hN) rfl fun h2 => ?_
        refine i_aload_n (pc' := 22) (f_at inc_18 (j := 11) rfl) rfl rfl ?_
        refine i_getI (pc' := 25) (f_at inc_18 (j := 12) rfl) sh_3 rfl (f_lt (o := 3) (m := 155) (Nat.le_of_ble_eq_true rfl) hN) rfl ?_
        refine i_iload_n (pc' := 26) (f_at inc_18 (j := 13) rfl) rfl rfl ?_
        refine i_iadd (pc' := 27) (f_at inc_18 (j := 14) rfl) rfl ?_
        refine i_bald (pc' := 28) (f_at inc_18 (j := 15) rfl) sh_1 (Or.inl rfl) (f_bg (Nat.le_of_ble_eq_true rfl)) (f_lt (o := 1) (m := 155) (Nat.le_of_ble_eq_true rfl) hN) rfl fun v3 => ?_
        refine i_goto (pc' := 32) (f_at inc_18 (j := 16) rfl) (by decide) ?_
        exact hj1 v3 ()
set_option maxRecDepth 4000 in
theorem G_19 {xs : Nat → Int32} {L N : Nat} (hN : 155 ≤ N) (a0 : Nat) (a1 : Int32) (ha0 : f_S a0) (σ : f_M) : f_Cal a_MT xs L N 19 [.ref a0, .int a1, .ref 3] σ ((g_19 a0 a1 σ).bind fun t => some (e_pb σ t)) := by
  refine f_cal_of (ls := [.ref a0, .int a1, .ref 3, a_dead]) MT_19 (Nat.le_of_ble_eq_true rfl) rfl ?_
  unfold g_19
  refine i_aload_n (pc' := 1) (f_at inc_19 (j := 0) rfl) rfl rfl ?_
  refine i_getR (pc' := 4) (f_at inc_19 (j := 1) rfl) ha0.1 rfl (f_ltS ha0 hN 0 (Nat.le_of_ble_eq_true rfl)) rfl ?_
  refine i_iload_n (pc' := 5) (f_at inc_19 (j := 2) rfl) rfl rfl ?_
  refine i_iald (pc' := 6) (f_at inc_19 (j := 3) rfl) ha0.2.1 (f_bgS ha0 1 (Nat.le_of_ble_eq_true rfl)) (f_ltS ha0 hN 1 (Nat.le_of_ble_eq_true rfl)) rfl fun v1 => ?_
  refine i_aload_n (pc' := 7) (f_at inc_19 (j := 4) rfl) rfl rfl ?_
  refine c_pi (pc' := 10) (c' := 0) (n' := 0) (h_virt (ra := [.ref 3]) (r := [.int v1]) (as := []) (f_at inc_19 (j := 5) rfl) (by decide) MT_11 rfl rfl rfl ⟨Nat.le_of_ble_eq_true rfl, Nat.le_of_ble_eq_true rfl, Nat.le_of_ble_eq_true rfl⟩ sh_3 (f_lt (o := 3) (m := 155) (Nat.le_of_ble_eq_true rfl) hN)) MT_11 (G_11 hN  σ) ⟨rfl, rfl, rfl⟩ fun t2 => ?_
  refine i_if2 (pc' := 15) (nx := 13) c2_eq (f_at inc_19 (j := 6) rfl) ⟨by decide, rfl⟩ (fun b9 => ?_) (fun b9 => ?_)
  · refine i_iconst (pc' := 16) (f_at inc_19 (j := 9) rfl) ci_0 rfl ?_
    refine i_istore_n (pc' := 17) (ls' := [.ref a0, .int a1, .ref 3, .int (0 : Int32)]) (f_at inc_19 (j := 10) rfl) (Nat.le_of_ble_eq_true rfl) rfl rfl ?_
    refine s_lR (0 : Int32) () (fun (s3 : Int32) (u3 : Unit) => [.ref a0, .int a1, .ref 3, .int s3]) (fun (s3 : Int32) => σ) ?_
    intro s3 u3 k3 hb3 hr3
    refine i_iload_n (pc' := 18) (f_at inc_19 (j := 11) rfl) rfl rfl ?_
    refine i_aload_n (pc' := 19) (f_at inc_19 (j := 12) rfl) rfl rfl ?_
    refine i_getR (pc' := 22) (f_at inc_19 (j := 13) rfl) ha0.1 rfl (f_ltS ha0 hN 0 (Nat.le_of_ble_eq_true rfl)) rfl ?_
    refine i_iload_n (pc' := 23) (f_at inc_19 (j := 14) rfl) rfl rfl ?_
    refine i_iald (pc' := 24) (f_at inc_19 (j := 15) rfl) ha0.2.1 (f_bgS ha0 1 (Nat.le_of_ble_eq_true rfl)) (f_ltS ha0 hN 1 (Nat.le_of_ble_eq_true rfl)) rfl fun v4 => ?_
    refine i_if2 (pc' := 49) (nx := 27) c2_ge (f_at inc_19 (j := 16) rfl) ⟨by decide, rfl⟩ (fun b8 => ?_) (fun b8 => ?_)
    · refine i_iconst (pc' := 50) (f_at inc_19 (j := 29) rfl) ci_1 rfl ?_
      refine s_rt (hr3 _) ?_
      exact i_iret (v := f_b true) (f_at inc_19 (j := 30) rfl) rfl n_bool
    · refine i_aload_n (pc' := 28) (f_at inc_19 (j := 17) rfl) rfl rfl ?_
      refine i_iload_n (pc' := 29) (f_at inc_19 (j := 18) rfl) rfl rfl ?_
      refine i_iload_n (pc' := 30) (f_at inc_19 (j := 19) rfl) rfl rfl ?_
      refine c_pi (pc' := 33) (c' := 0) (n' := 0) (h_virt (ra := [.int s3, .int a1, .ref a0]) (r := []) (as := [.int a1, .int s3]) (f_at inc_19 (j := 20) rfl) (by decide) MT_17 rfl rfl rfl ⟨Nat.le_of_ble_eq_true rfl, Nat.le_of_ble_eq_true rfl, Nat.le_of_ble_eq_true rfl⟩ ha0.1 (f_ltS ha0 hN 0 (Nat.le_of_ble_eq_true rfl))) MT_17 (G_17 hN a0 a1 s3 ha0 σ) ⟨rfl, rfl, rfl⟩ fun t5 => ?_
      refine i_aload_n (pc' := 34) (f_at inc_19 (j := 21) rfl) rfl rfl ?_
      refine i_iload_n (pc' := 35) (f_at inc_19 (j := 22) rfl) rfl rfl ?_
      refine c_pi (pc' := 38) (c' := 0) (n' := 0) (h_virt (ra := [.int s3, .ref 3]) (r := [.int t5]) (as := [.int s3]) (f_at inc_19 (j := 23) rfl) (by decide) MT_18 rfl rfl rfl ⟨Nat.le_of_ble_eq_true rfl, Nat.le_of_ble_eq_true rfl, Nat.le_of_ble_eq_true rfl⟩ sh_3 (f_lt (o := 3) (m := 155) (Nat.le_of_ble_eq_true rfl) hN)) MT_18 (G_18 hN s3 σ) ⟨rfl, rfl, rfl⟩ fun t6 => ?_
      refine i_if2 (pc' := 43) (nx := 41) c2_eq (f_at inc_19 (j := 24) rfl) ⟨by decide, rfl⟩ (fun b7 => ?_) (fun b7 => ?_)
      · refine i_iinc (pc' := 46) (ls' := [.ref a0, .int a1, .ref 3, .int (s3 + (1 : Int32))]) (f_at inc_19 (j := 27) rfl) rfl ci_1 rfl rfl ?_
        refine i_goto (pc' := 17) (f_at inc_19 (j := 28) rfl) (by decide) ?_
        exact hb3 (s3 + (1 : Int32)) ()
      · refine i_iconst (pc' := 42) (f_at inc_19 (j := 25) rfl) ci_0 rfl ?_
        refine s_rt (hr3 _) ?_
        exact i_iret (v := f_b false) (f_at inc_19 (j := 26) rfl) rfl n_bool
  · refine i_iconst (pc' := 14) (f_at inc_19 (j := 7) rfl) ci_0 rfl ?_
    exact i_iret (v := f_b false) (f_at inc_19 (j := 8) rfl) rfl n_bool
set_option maxRecDepth 4000 in
theorem G_20 {xs : Nat → Int32} {L N : Nat} (hN : 155 ≤ N) (a0 : Nat) (ha0 : f_S a0) (σ : f_M) : f_Cal a_MT xs L N 20 [.ref a0, .ref 3] σ ((g_20 a0 σ).bind fun t => some (e_pi σ t)) := by
  refine f_cal_of (ls := [.ref a0, .ref 3, a_dead]) MT_20 (Nat.le_of_ble_eq_true rfl) rfl ?_
  unfold g_20
  refine i_iconst (pc' := 1) (f_at inc_20 (j := 0) rfl) ci_0 rfl ?_
  refine i_istore_n (pc' := 2) (ls' := [.ref a0, .ref 3, .int (0 : Int32)]) (f_at inc_20 (j := 1) rfl) (Nat.le_of_ble_eq_true rfl) rfl rfl ?_
  refine s_lR (0 : Int32) () (fun (s1 : Int32) (u1 : Unit) => [.ref a0, .ref 3, .int s1]) (fun (s1 : Int32) => σ) ?_
  intro s1 u1 k1 hb1 hr1
  refine i_iload_n (pc' := 3) (f_at inc_20 (j := 2) rfl) rfl rfl ?_
  refine i_aload_n (pc' := 4) (f_at inc_20 (j := 3) rfl) rfl rfl ?_
  refine i_getI (pc' := 7) (f_at inc_20 (j := 4) rfl) ha0.1 rfl (f_ltS ha0 hN 0 (Nat.le_of_ble_eq_true rfl)) rfl ?_
  refine i_if2 (pc' := 27) (nx := 10) c2_ge (f_at inc_20 (j := 5) rfl) ⟨by decide, rfl⟩ (fun b4 => ?_) (fun b4 => ?_)
  · refine i_iconst (pc' := 28) (f_at inc_20 (j := 15) rfl) ci_m1 rfl ?_
    refine s_rt (hr1 _) ?_
    exact i_iret (f_at inc_20 (j := 16) rfl) rfl n_int
  · refine i_aload_n (pc' := 11) (f_at inc_20 (j := 6) rfl) rfl rfl ?_
    refine i_iload_n (pc' := 12) (f_at inc_20 (j := 7) rfl) rfl rfl ?_
    refine i_aload_n (pc' := 13) (f_at inc_20 (j := 8) rfl) rfl rfl ?_
    refine c_pb (pc' := 16) (c' := 0) (n' := 0) (h_virt (ra := [.ref 3, .int s1, .ref a0]) (r := []) (as := [.int s1, .ref 3]) (f_at inc_20 (j := 9) rfl) (by decide) MT_19 rfl rfl rfl ⟨Nat.le_of_ble_eq_true rfl, Nat.le_of_ble_eq_true rfl, Nat.le_of_ble_eq_true rfl⟩ ha0.1 (f_ltS ha0 hN 0 (Nat.le_of_ble_eq_true rfl))) MT_19 (G_19 hN a0 s1 ha0 σ) ⟨rfl, rfl, rfl⟩ fun t2 => ?_
    refine i_if0 (pc' := 21) (nx := 19) cb_eq (f_at inc_20 (j := 10) rfl) ⟨by decide, rfl⟩ (fun b3 => ?_) (fun b3 => ?_)
    · refine i_iinc (pc' := 24) (ls' := [.ref a0, .ref 3, .int (s1 + (1 : Int32))]) (f_at inc_20 (j := 13) rfl) rfl ci_1 rfl rfl ?_
      refine i_goto (pc' := 2) (f_at inc_20 (j := 14) rfl) (by decide) ?_
      exact hb1 (s1 + (1 : Int32)) ()
    · refine i_iload_n (pc' := 20) (f_at inc_20 (j := 11) rfl) rfl rfl ?_
      refine s_rt (hr1 _) ?_
      exact i_iret (f_at inc_20 (j := 12) rfl) rfl n_int
set_option maxRecDepth 4000 in
theorem G_21 {xs : Nat → Int32} {L N : Nat} (hN : 155 ≤ N)   (σ : f_M) : f_Cal a_MT xs L N 21 [.ref 5, .ref 3] σ ((g_21  σ).bind fun t => some (e_wv t)) := by
  refine f_cal_of (ls := [.ref 5, .ref 3, a_dead]) MT_21 (Nat.le_of_ble_eq_true rfl) rfl ?_
  unfold g_21
  refine i_aload_n (pc' := 1) (f_at inc_21 (j := 0) rfl) rfl rfl ?_
  refine i_getR (pc' := 4) (f_at inc_21 (j := 1) rfl) sh_5 rfl (f_lt (o := 5) (m := 155) (Nat.le_of_ble_eq_true rfl) hN) rfl ?_
  refine i_aload_n (pc' := 5) (f_at inc_21 (j := 2) rfl) rfl rfl ?_
  refine i_getI (pc' := 8) (f_at inc_21 (j := 3) rfl) sh_5 rfl (f_lt (o := 5) (m := 155) (Nat.le_of_ble_eq_true rfl) hN) rfl ?_
  refine i_aload_n (pc' := 9) (f_at inc_21 (j := 4) rfl) rfl rfl ?_
  refine c_pi (pc' := 12) (c' := 0) (n' := 0) (h_virt (ra := [.ref 3]) (r := [.int (σ 5 0), .ref 6]) (as := []) (f_at inc_21 (j := 5) rfl) (by decide) MT_11 rfl rfl rfl ⟨Nat.le_of_ble_eq_true rfl, Nat.le_of_ble_eq_true rfl, Nat.le_of_ble_eq_true rfl⟩ sh_3 (f_lt (o := 3) (m := 155) (Nat.le_of_ble_eq_true rfl) hN)) MT_11 (G_11 hN  σ) ⟨rfl, rfl, rfl⟩ fun t1 => ?_
  refine i_iast (pc' := 13) (f_at inc_21 (j := 6) rfl) sh_6 (f_lt (o := 6) (m := 155) (Nat.le_of_ble_eq_true rfl) hN) rfl fun m2 => ?_
  refine i_iconst (pc' := 14) (f_at inc_21 (j := 7) rfl) ci_0 rfl ?_
  refine i_istore_n (pc' := 15) (ls' := [.ref 5, .ref 3, .int (0 : Int32)]) (f_at inc_21 (j := 8) rfl) (Nat.le_of_ble_eq_true rfl) rfl rfl ?_
  refine s_lX (X := 53) ((0 : Int32), m2) () (fun (s3 : Int32 × f_M) (u3 : Unit) => [.ref 5, .ref 3, .int s3.1]) (fun (s3 : Int32 × f_M) => s3.2) (fun (x3 : f_M) (w3 : Value) => [.ref 5, .ref 3, w3]) (fun (x3 : f_M) => x3) ?_ ?_
  · intro x3 w3
    exact i_vret (f_at inc_21 (j := 30) rfl) rfl
  · intro s3 u3 k3 hb3 hx3
    refine i_iload_n (pc' := 16) (f_at inc_21 (j := 9) rfl) rfl rfl ?_
    refine i_aload_n (pc' := 17) (f_at inc_21 (j := 10) rfl) rfl rfl ?_
    refine i_getR (pc' := 20) (f_at inc_21 (j := 11) rfl) sh_5 rfl (f_lt (o := 5) (m := 155) (Nat.le_of_ble_eq_true rfl) hN) rfl ?_
    refine i_aload_n (pc' := 21) (f_at inc_21 (j := 12) rfl) rfl rfl ?_
    refine i_getI (pc' := 24) (f_at inc_21 (j := 13) rfl) sh_5 rfl (f_lt (o := 5) (m := 155) (Nat.le_of_ble_eq_true rfl) hN) rfl ?_
    refine i_iald (pc' := 25) (f_at inc_21 (j := 14) rfl) sh_6 (f_bg (Nat.le_of_ble_eq_true rfl)) (f_lt (o := 6) (m := 155) (Nat.le_of_ble_eq_true rfl) hN) rfl fun v4 => ?_
    refine i_if2 (pc' := 53) (nx := 28) c2_ge (f_at inc_21 (j := 15) rfl) ⟨by decide, rfl⟩ (fun b7 => ?_) (fun b7 => ?_)
    · exact hx3 s3.2 (.int s3.1)
    · refine i_aload_n (pc' := 29) (f_at inc_21 (j := 16) rfl) rfl rfl ?_
      refine i_getR (pc' := 32) (f_at inc_21 (j := 17) rfl) sh_5 rfl (f_lt (o := 5) (m := 155) (Nat.le_of_ble_eq_true rfl) hN) rfl ?_
      refine i_aload_n (pc' := 33) (f_at inc_21 (j := 18) rfl) rfl rfl ?_
      refine i_getI (pc' := 36) (f_at inc_21 (j := 19) rfl) sh_5 rfl (f_lt (o := 5) (m := 155) (Nat.le_of_ble_eq_true rfl) hN) rfl ?_
      refine i_bipush (pc' := 38) (f_at inc_21 (j := 20) rfl) cb_6 rfl ?_
      refine i_imul (pc' := 39) (f_at inc_21 (j := 21) rfl) rfl ?_
      refine i_iload_n (pc' := 40) (f_at inc_21 (j := 22) rfl) rfl rfl ?_
      refine i_iadd (pc' := 41) (f_at inc_21 (j := 23) rfl) rfl ?_
      refine i_aload_n (pc' := 42) (f_at inc_21 (j := 24) rfl) rfl rfl ?_
      refine i_iload_n (pc' := 43) (f_at inc_21 (j := 25) rfl) rfl rfl ?_
      refine c_pi (pc' := 46) (c' := 0) (n' := 0) (h_virt (ra := [.int s3.1, .ref 3]) (r := [.int (((s3.2 5 0) * (6 : Int32)) + s3.1), .ref 7]) (as := [.int s3.1]) (f_at inc_21 (j := 26) rfl) (by decide) MT_18 rfl rfl rfl ⟨Nat.le_of_ble_eq_true rfl, Nat.le_of_ble_eq_true rfl, Nat.le_of_ble_eq_true rfl⟩ sh_3 (f_lt (o := 3) (m := 155) (Nat.le_of_ble_eq_true rfl) hN)) MT_18 (G_18 hN s3.1 s3.2) ⟨rfl, rfl, rfl⟩ fun t5 => ?_
      refine i_bast (pc' := 47) (f_at inc_21 (j := 27) rfl) sh_7 (Or.inl rfl) rfl (f_lt (o := 7) (m := 155) (Nat.le_of_ble_eq_true rfl) hN) rfl fun m6 => ?_
      refine i_iinc (pc' := 50) (ls' := [.ref 5, .ref 3, .int (s3.1 + (1 : Int32))]) (f_at inc_21 (j := 28) rfl) rfl ci_1 rfl rfl ?_
      refine i_goto (pc' := 15) (f_at inc_21 (j := 29) rfl) (by decide) ?_
      exact hb3 ((s3.1 + (1 : Int32)), m6) ()
set_option maxRecDepth 4000 in
theorem G_22 {xs : Nat → Int32} {L N : Nat} (hN : 155 ≤ N) (a1 : Int32) (a2 : Int32)  (σ : f_M) : f_Cal a_MT xs L N 22 [.ref 3, .int a1, .int a2] σ ((g_22 a1 a2 σ).bind fun t => some (e_wb t)) := by
  refine f_cal_of (ls := [.ref 3, .int a1, .int a2, a_dead]) MT_22 (Nat.le_of_ble_eq_true rfl) rfl ?_
  unfold g_22
  refine i_aload_n (pc' := 1) (f_at inc_22 (j := 0) rfl) rfl rfl ?_
  refine c_wv (pc' := 4) (c' := 0) (n' := 0) (h_virt (ra := [.ref 3]) (r := []) (as := []) (f_at inc_22 (j := 1) rfl) (by decide) MT_12 rfl rfl rfl ⟨Nat.le_of_ble_eq_true rfl, Nat.le_of_ble_eq_true rfl, Nat.le_of_ble_eq_true rfl⟩ sh_3 (f_lt (o := 3) (m := 155) (Nat.le_of_ble_eq_true rfl) hN)) MT_12 (G_12 hN  σ) ⟨rfl, rfl, rfl⟩ fun t1 => ?_
  refine i_aload_n (pc' := 5) (f_at inc_22 (j := 2) rfl) rfl rfl ?_
  refine i_getI (pc' := 8) (f_at inc_22 (j := 3) rfl) sh_3 rfl (f_lt (o := 3) (m := 155) (Nat.le_of_ble_eq_true rfl) hN) rfl ?_
  refine i_iconst (pc' := 9) (f_at inc_22 (j := 4) rfl) ci_2 rfl ?_
  refine i_if2 (pc' := 18) (nx := 12) c2_eq (f_at inc_22 (j := 5) rfl) ⟨by decide, rfl⟩ (fun b14 => ?_) (fun b14 => ?_)
  · refine i_aload_n (pc' := 19) (f_at inc_22 (j := 10) rfl) rfl rfl ?_
    refine i_iconst (pc' := 20) (f_at inc_22 (j := 11) rfl) ci_0 rfl ?_
    refine i_putI (pc' := 23) (f_at inc_22 (j := 12) rfl) sh_3 rfl ⟨rfl, rfl⟩ (f_lt (o := 3) (m := 155) (Nat.le_of_ble_eq_true rfl) hN) rfl ?_
    refine i_aload_n (pc' := 24) (f_at inc_22 (j := 13) rfl) rfl rfl ?_
    refine i_getI (pc' := 27) (f_at inc_22 (j := 14) rfl) sh_3 rfl (f_lt (o := 3) (m := 155) (Nat.le_of_ble_eq_true rfl) hN) rfl ?_
    refine i_istore_n (pc' := 28) (ls' := [.ref 3, .int a1, .int a2, .int ((f_up t1 3 5 (0 : Int32)) 3 3)]) (f_at inc_22 (j := 15) rfl) (Nat.le_of_ble_eq_true rfl) rfl rfl ?_
    refine s_lX (X := 63) (((f_up t1 3 5 (0 : Int32)) 3 3), (f_up t1 3 5 (0 : Int32))) () (fun (s2 : Int32 × f_M) (u2 : Unit) => [.ref 3, .int a1, .int a2, .int s2.1]) (fun (s2 : Int32 × f_M) => s2.2) (fun (x2 : f_M) (w2 : Value) => [.ref 3, .int a1, .int a2, w2]) (fun (x2 : f_M) => x2) ?_ ?_
    · intro x2 w2
      refine i_aload_n (pc' := 64) (f_at inc_22 (j := 35) rfl) rfl rfl ?_
      refine i_getI (pc' := 67) (f_at inc_22 (j := 36) rfl) sh_3 rfl (f_lt (o := 3) (m := 155) (Nat.le_of_ble_eq_true rfl) hN) rfl ?_
      refine i_iload_n (pc' := 68) (f_at inc_22 (j := 37) rfl) rfl rfl ?_
      refine s_join (J := 92) (fun (t6 : Bool × f_M) (u6 : Unit) => [.ref 3, .int a1, .int a2, w2]) (fun t6 => [.int (f_b t6.1)]) (fun t6 => t6.2) ?_ ?_
      · intro t6 u6
        exact i_iret (v := f_b t6.1) (f_at inc_22 (j := 50) rfl) rfl n_bool
      · intro k6 hj6
        refine i_if2 (pc' := 79) (nx := 71) c2_lt (f_at inc_22 (j := 38) rfl) ⟨by decide, rfl⟩ (fun b12 => ?_) (fun b12 => ?_)
        · refine i_aload_n (pc' := 80) (f_at inc_22 (j := 43) rfl) rfl rfl ?_
          refine i_iconst (pc' := 81) (f_at inc_22 (j := 44) rfl) ci_2 rfl ?_
          refine c_wb (pc' := 84) (c' := 0) (n' := 0) (h_virt (ra := [.int (2 : Int32), .ref 3]) (r := []) (as := [.int (2 : Int32)]) (f_at inc_22 (j := 45) rfl) (by decide) MT_15 rfl rfl rfl ⟨Nat.le_of_ble_eq_true rfl, Nat.le_of_ble_eq_true rfl, Nat.le_of_ble_eq_true rfl⟩ sh_3 (f_lt (o := 3) (m := 155) (Nat.le_of_ble_eq_true rfl) hN)) MT_15 (G_15 hN (2 : Int32) x2) ⟨rfl, rfl, rfl⟩ fun t7 => ?_
          refine i_if0 (pc' := 91) (nx := 87) cb_eq (f_at inc_22 (j := 46) rfl) ⟨by decide, rfl⟩ (fun b8 => ?_) (fun b8 => ?_)
          · refine i_iconst (pc' := 92) (f_at inc_22 (j := 49) rfl) ci_0 rfl ?_
            exact hj6 (false, t7.2) ()
          · refine i_iconst (pc' := 88) (f_at inc_22 (j := 47) rfl) ci_1 rfl ?_
            refine i_goto (pc' := 92) (f_at inc_22 (j := 48) rfl) (by decide) ?_
            exact hj6 (true, t7.2) ()
        · refine i_aload_n (pc' := 72) (f_at inc_22 (j := 39) rfl) rfl rfl ?_
          refine i_getI (pc' := 75) (f_at inc_22 (j := 40) rfl) sh_3 rfl (f_lt (o := 3) (m := 155) (Nat.le_of_ble_eq_true rfl) hN) rfl ?_
          refine i_iload_n (pc' := 76) (f_at inc_22 (j := 41) rfl) rfl rfl ?_
          refine i_if2 (pc' := 87) (nx := 79) c2_le (f_at inc_22 (j := 42) rfl) ⟨by decide, rfl⟩ (fun b11 => ?_) (fun b11 => ?_)
          · refine i_iconst (pc' := 88) (f_at inc_22 (j := 47) rfl) ci_1 rfl ?_
            refine i_goto (pc' := 92) (f_at inc_22 (j := 48) rfl) (by decide) ?_
            exact hj6 (true, x2) ()
          · refine i_aload_n (pc' := 80) (f_at inc_22 (j := 43) rfl) rfl rfl ?_
            refine i_iconst (pc' := 81) (f_at inc_22 (j := 44) rfl) ci_2 rfl ?_
            refine c_wb (pc' := 84) (c' := 0) (n' := 0) (h_virt (ra := [.int (2 : Int32), .ref 3]) (r := []) (as := [.int (2 : Int32)]) (f_at inc_22 (j := 45) rfl) (by decide) MT_15 rfl rfl rfl ⟨Nat.le_of_ble_eq_true rfl, Nat.le_of_ble_eq_true rfl, Nat.le_of_ble_eq_true rfl⟩ sh_3 (f_lt (o := 3) (m := 155) (Nat.le_of_ble_eq_true rfl) hN)) MT_15 (G_15 hN (2 : Int32) x2) ⟨rfl, rfl, rfl⟩ fun t9 => ?_
            refine i_if0 (pc' := 91) (nx := 87) cb_eq (f_at inc_22 (j := 46) rfl) ⟨by decide, rfl⟩ (fun b10 => ?_) (fun b10 => ?_)
            · refine i_iconst (pc' := 92) (f_at inc_22 (j := 49) rfl) ci_0 rfl ?_
              exact hj6 (false, t9.2) ()
            · refine i_iconst (pc' := 88) (f_at inc_22 (j := 47) rfl) ci_1 rfl ?_
              refine i_goto (pc' := 92) (f_at inc_22 (j := 48) rfl) (by decide) ?_
              exact hj6 (true, t9.2) ()
    · intro s2 u2 k2 hb2 hx2
      refine i_iload_n (pc' := 29) (f_at inc_22 (j := 16) rfl) rfl rfl ?_
      refine i_aload_n (pc' := 30) (f_at inc_22 (j := 17) rfl) rfl rfl ?_
      refine i_getI (pc' := 33) (f_at inc_22 (j := 18) rfl) sh_3 rfl (f_lt (o := 3) (m := 155) (Nat.le_of_ble_eq_true rfl) hN) rfl ?_
      refine i_if2 (pc' := 63) (nx := 36) c2_ge (f_at inc_22 (j := 19) rfl) ⟨by decide, rfl⟩ (fun b5 => ?_) (fun b5 => ?_)
      · exact hx2 s2.2 (.int s2.1)
      · refine i_aload_n (pc' := 37) (f_at inc_22 (j := 20) rfl) rfl rfl ?_
        refine i_bipush (pc' := 39) (f_at inc_22 (j := 21) rfl) cb_10 rfl ?_
        refine i_aload_n (pc' := 40) (f_at inc_22 (j := 22) rfl) rfl rfl ?_
        refine i_getI (pc' := 43) (f_at inc_22 (j := 23) rfl) sh_3 rfl (f_lt (o := 3) (m := 155) (Nat.le_of_ble_eq_true rfl) hN) rfl ?_
        refine i_imul (pc' := 44) (f_at inc_22 (j := 24) rfl) rfl ?_
        refine i_aload_n (pc' := 45) (f_at inc_22 (j := 25) rfl) rfl rfl ?_
        refine i_getB (pc' := 48) (f_at inc_22 (j := 26) rfl) sh_3 rfl (f_lt (o := 3) (m := 155) (Nat.le_of_ble_eq_true rfl) hN) rfl fun h3 => ?_
        refine i_iload_n (pc' := 49) (f_at inc_22 (j := 27) rfl) rfl rfl ?_
        refine i_bald (pc' := 50) (f_at inc_22 (j := 28) rfl) sh_1 (Or.inl rfl) (f_bg (Nat.le_of_ble_eq_true rfl)) (f_lt (o := 1) (m := 155) (Nat.le_of_ble_eq_true rfl) hN) rfl fun v4 => ?_
        refine i_iadd (pc' := 51) (f_at inc_22 (j := 29) rfl) rfl ?_
        refine i_bipush (pc' := 53) (f_at inc_22 (j := 30) rfl) cb_48 rfl ?_
        refine i_isub (pc' := 54) (f_at inc_22 (j := 31) rfl) rfl ?_
        refine i_putI (pc' := 57) (f_at inc_22 (j := 32) rfl) sh_3 rfl ⟨rfl, rfl⟩ (f_lt (o := 3) (m := 155) (Nat.le_of_ble_eq_true rfl) hN) rfl ?_
        refine i_iinc (pc' := 60) (ls' := [.ref 3, .int a1, .int a2, .int (s2.1 + (1 : Int32))]) (f_at inc_22 (j := 33) rfl) rfl ci_1 rfl rfl ?_
        refine i_goto (pc' := 28) (f_at inc_22 (j := 34) rfl) (by decide) ?_
        exact hb2 ((s2.1 + (1 : Int32)), (f_up s2.2 3 5 ((((10 : Int32) * (s2.2 3 5)) + v4) - (48 : Int32)))) ()
  · refine i_aload_n (pc' := 13) (f_at inc_22 (j := 6) rfl) rfl rfl ?_
    refine i_iconst (pc' := 14) (f_at inc_22 (j := 7) rfl) ci_1 rfl ?_
    refine c_wb (pc' := 17) (c' := 0) (n' := 0) (h_virt (ra := [.int (1 : Int32), .ref 3]) (r := []) (as := [.int (1 : Int32)]) (f_at inc_22 (j := 8) rfl) (by decide) MT_15 rfl rfl rfl ⟨Nat.le_of_ble_eq_true rfl, Nat.le_of_ble_eq_true rfl, Nat.le_of_ble_eq_true rfl⟩ sh_3 (f_lt (o := 3) (m := 155) (Nat.le_of_ble_eq_true rfl) hN)) MT_15 (G_15 hN (1 : Int32) t1) ⟨rfl, rfl, rfl⟩ fun t13 => ?_
    exact i_iret (v := f_b t13.1) (f_at inc_22 (j := 9) rfl) rfl n_bool
set_option maxRecDepth 4000 in
theorem G_23 {xs : Nat → Int32} {L N : Nat} (hN : 155 ≤ N)   (σ : f_M) : f_Cal a_MT xs L N 23 [.ref 3] σ ((g_23  σ).bind fun t => some (e_wb t)) := by
  refine f_cal_of (ls := [.ref 3]) MT_23 (Nat.le_of_ble_eq_true rfl) rfl ?_
  unfold g_23
  refine i_aload_n (pc' := 1) (f_at inc_23 (j := 0) rfl) rfl rfl ?_
  refine c_wv (pc' := 4) (c' := 0) (n' := 0) (h_virt (ra := [.ref 3]) (r := []) (as := []) (f_at inc_23 (j := 1) rfl) (by decide) MT_12 rfl rfl rfl ⟨Nat.le_of_ble_eq_true rfl, Nat.le_of_ble_eq_true rfl, Nat.le_of_ble_eq_true rfl⟩ sh_3 (f_lt (o := 3) (m := 155) (Nat.le_of_ble_eq_true rfl) hN)) MT_12 (G_12 hN  σ) ⟨rfl, rfl, rfl⟩ fun t1 => ?_
  refine i_aload_n (pc' := 5) (f_at inc_23 (j := 2) rfl) rfl rfl ?_
  refine i_getI (pc' := 8) (f_at inc_23 (j := 3) rfl) sh_3 rfl (f_lt (o := 3) (m := 155) (Nat.le_of_ble_eq_true rfl) hN) rfl ?_
  refine i_iconst (pc' := 9) (f_at inc_23 (j := 4) rfl) ci_3 rfl ?_
  refine s_join (J := 25) (fun (t2 : Bool × f_M) (u2 : Unit) => [.ref 3]) (fun t2 => [.int (f_b t2.1)]) (fun t2 => t2.2) ?_ ?_
  · intro t2 u2
    exact i_iret (v := f_b t2.1) (f_at inc_23 (j := 13) rfl) rfl n_bool
  · intro k2 hj2
    refine i_if2 (pc' := 20) (nx := 12) c2_eq (f_at inc_23 (j := 5) rfl) ⟨by decide, rfl⟩ (fun b5 => ?_) (fun b5 => ?_)
    · refine i_iconst (pc' := 21) (f_at inc_23 (j := 10) rfl) ci_1 rfl ?_
      refine i_goto (pc' := 25) (f_at inc_23 (j := 11) rfl) (by decide) ?_
      exact hj2 (true, t1) ()
    · refine i_aload_n (pc' := 13) (f_at inc_23 (j := 6) rfl) rfl rfl ?_
      refine i_iconst (pc' := 14) (f_at inc_23 (j := 7) rfl) ci_1 rfl ?_
      refine c_wb (pc' := 17) (c' := 0) (n' := 0) (h_virt (ra := [.int (1 : Int32), .ref 3]) (r := []) (as := [.int (1 : Int32)]) (f_at inc_23 (j := 8) rfl) (by decide) MT_15 rfl rfl rfl ⟨Nat.le_of_ble_eq_true rfl, Nat.le_of_ble_eq_true rfl, Nat.le_of_ble_eq_true rfl⟩ sh_3 (f_lt (o := 3) (m := 155) (Nat.le_of_ble_eq_true rfl) hN)) MT_15 (G_15 hN (1 : Int32) t1) ⟨rfl, rfl, rfl⟩ fun t3 => ?_
      refine i_if0 (pc' := 24) (nx := 20) cb_eq (f_at inc_23 (j := 9) rfl) ⟨by decide, rfl⟩ (fun b4 => ?_) (fun b4 => ?_)
      · refine i_iconst (pc' := 25) (f_at inc_23 (j := 12) rfl) ci_0 rfl ?_
        exact hj2 (false, t3.2) ()
      · refine i_iconst (pc' := 21) (f_at inc_23 (j := 10) rfl) ci_1 rfl ?_
        refine i_goto (pc' := 25) (f_at inc_23 (j := 11) rfl) (by decide) ?_
        exact hj2 (true, t3.2) ()
set_option maxRecDepth 4000 in
theorem G_24 {xs : Nat → Int32} {L N : Nat} (hN : 155 ≤ N)   (σ : f_M) : f_Cal a_MT xs L N 24 [.ref 5, .ref 3] σ ((g_24  σ).bind fun t => some (e_wb t)) := by
  refine f_cal_of (ls := [.ref 5, .ref 3]) MT_24 (Nat.le_of_ble_eq_true rfl) rfl ?_
  unfold g_24
  refine i_aload_n (pc' := 1) (f_at inc_24 (j := 0) rfl) rfl rfl ?_
  refine i_getI (pc' := 4) (f_at inc_24 (j := 1) rfl) sh_5 rfl (f_lt (o := 5) (m := 155) (Nat.le_of_ble_eq_true rfl) hN) rfl ?_
  refine i_bipush (pc' := 6) (f_at inc_24 (j := 2) rfl) cb_8 rfl ?_
  refine i_if2 (pc' := 15) (nx := 9) c2_ne (f_at inc_24 (j := 3) rfl) ⟨by decide, rfl⟩ (fun b12 => ?_) (fun b12 => ?_)
  · refine i_aload_n (pc' := 16) (f_at inc_24 (j := 8) rfl) rfl rfl ?_
    refine c_wb (pc' := 19) (c' := 0) (n' := 0) (h_virt (ra := [.ref 3]) (r := []) (as := []) (f_at inc_24 (j := 9) rfl) (by decide) MT_16 rfl rfl rfl ⟨Nat.le_of_ble_eq_true rfl, Nat.le_of_ble_eq_true rfl, Nat.le_of_ble_eq_true rfl⟩ sh_3 (f_lt (o := 3) (m := 155) (Nat.le_of_ble_eq_true rfl) hN)) MT_16 (G_16 hN  σ) ⟨rfl, rfl, rfl⟩ fun t1 => ?_
    refine i_if0 (pc' := 24) (nx := 22) cb_ne (f_at inc_24 (j := 10) rfl) ⟨by decide, rfl⟩ (fun b10 => ?_) (fun b10 => ?_)
    · refine i_aload_n (pc' := 25) (f_at inc_24 (j := 13) rfl) rfl rfl ?_
      refine i_aload_n (pc' := 26) (f_at inc_24 (j := 14) rfl) rfl rfl ?_
      refine c_pi (pc' := 29) (c' := 0) (n' := 0) (h_virt (ra := [.ref 3, .ref 5]) (r := []) (as := [.ref 3]) (f_at inc_24 (j := 15) rfl) (by decide) MT_20 rfl rfl rfl ⟨Nat.le_of_ble_eq_true rfl, Nat.le_of_ble_eq_true rfl, Nat.le_of_ble_eq_true rfl⟩ sh_5 (f_lt (o := 5) (m := 155) (Nat.le_of_ble_eq_true rfl) hN)) MT_20 (G_20 hN 5 f_S5 t1.2) ⟨rfl, rfl, rfl⟩ fun t2 => ?_
      refine i_iconst (pc' := 30) (f_at inc_24 (j := 16) rfl) ci_m1 rfl ?_
      refine i_if2 (pc' := 39) (nx := 33) c2_eq (f_at inc_24 (j := 17) rfl) ⟨by decide, rfl⟩ (fun b9 => ?_) (fun b9 => ?_)
      · refine i_aload_n (pc' := 40) (f_at inc_24 (j := 22) rfl) rfl rfl ?_
        refine i_aload_n (pc' := 41) (f_at inc_24 (j := 23) rfl) rfl rfl ?_
        refine c_wv (pc' := 44) (c' := 0) (n' := 0) (h_virt (ra := [.ref 3, .ref 5]) (r := []) (as := [.ref 3]) (f_at inc_24 (j := 24) rfl) (by decide) MT_21 rfl rfl rfl ⟨Nat.le_of_ble_eq_true rfl, Nat.le_of_ble_eq_true rfl, Nat.le_of_ble_eq_true rfl⟩ sh_5 (f_lt (o := 5) (m := 155) (Nat.le_of_ble_eq_true rfl) hN)) MT_21 (G_21 hN  t1.2) ⟨rfl, rfl, rfl⟩ fun t3 => ?_
        refine i_aload_n (pc' := 45) (f_at inc_24 (j := 25) rfl) rfl rfl ?_
        refine i_iconst (pc' := 46) (f_at inc_24 (j := 26) rfl) ci_0 rfl ?_
        refine i_sipush (pc' := 49) (f_at inc_24 (j := 27) rfl) cs_9999 rfl ?_
        refine c_wb (pc' := 52) (c' := 0) (n' := 0) (h_virt (ra := [.int (9999 : Int32), .int (0 : Int32), .ref 3]) (r := []) (as := [.int (0 : Int32), .int (9999 : Int32)]) (f_at inc_24 (j := 28) rfl) (by decide) MT_22 rfl rfl rfl ⟨Nat.le_of_ble_eq_true rfl, Nat.le_of_ble_eq_true rfl, Nat.le_of_ble_eq_true rfl⟩ sh_3 (f_lt (o := 3) (m := 155) (Nat.le_of_ble_eq_true rfl) hN)) MT_22 (G_22 hN (0 : Int32) (9999 : Int32) t3) ⟨rfl, rfl, rfl⟩ fun t4 => ?_
        refine i_if0 (pc' := 57) (nx := 55) cb_ne (f_at inc_24 (j := 29) rfl) ⟨by decide, rfl⟩ (fun b7 => ?_) (fun b7 => ?_)
        · refine i_aload_n (pc' := 58) (f_at inc_24 (j := 32) rfl) rfl rfl ?_
          refine i_getR (pc' := 61) (f_at inc_24 (j := 33) rfl) sh_5 rfl (f_lt (o := 5) (m := 155) (Nat.le_of_ble_eq_true rfl) hN) rfl ?_
          refine i_aload_n (pc' := 62) (f_at inc_24 (j := 34) rfl) rfl rfl ?_
          refine i_getI (pc' := 65) (f_at inc_24 (j := 35) rfl) sh_5 rfl (f_lt (o := 5) (m := 155) (Nat.le_of_ble_eq_true rfl) hN) rfl ?_
          refine i_aload_n (pc' := 66) (f_at inc_24 (j := 36) rfl) rfl rfl ?_
          refine i_getI (pc' := 69) (f_at inc_24 (j := 37) rfl) sh_3 rfl (f_lt (o := 3) (m := 155) (Nat.le_of_ble_eq_true rfl) hN) rfl ?_
          refine i_iast (pc' := 70) (f_at inc_24 (j := 38) rfl) sh_8 (f_lt (o := 8) (m := 155) (Nat.le_of_ble_eq_true rfl) hN) rfl fun m5 => ?_
          refine i_aload_n (pc' := 71) (f_at inc_24 (j := 39) rfl) rfl rfl ?_
          refine i_dup (pc' := 72) (f_at inc_24 (j := 40) rfl) rfl rfl ?_
          refine i_getI (pc' := 75) (f_at inc_24 (j := 41) rfl) sh_5 rfl (f_lt (o := 5) (m := 155) (Nat.le_of_ble_eq_true rfl) hN) rfl ?_
          refine i_iconst (pc' := 76) (f_at inc_24 (j := 42) rfl) ci_1 rfl ?_
          refine i_iadd (pc' := 77) (f_at inc_24 (j := 43) rfl) rfl ?_
          refine i_putI (pc' := 80) (f_at inc_24 (j := 44) rfl) sh_5 rfl ⟨rfl, rfl⟩ (f_lt (o := 5) (m := 155) (Nat.le_of_ble_eq_true rfl) hN) rfl ?_
          refine i_aload_n (pc' := 81) (f_at inc_24 (j := 45) rfl) rfl rfl ?_
          refine c_wb (pc' := 84) (c' := 0) (n' := 0) (h_virt (ra := [.ref 3]) (r := []) (as := []) (f_at inc_24 (j := 46) rfl) (by decide) MT_23 rfl rfl rfl ⟨Nat.le_of_ble_eq_true rfl, Nat.le_of_ble_eq_true rfl, Nat.le_of_ble_eq_true rfl⟩ sh_3 (f_lt (o := 3) (m := 155) (Nat.le_of_ble_eq_true rfl) hN)) MT_23 (G_23 hN  (f_up m5 5 0 ((m5 5 0) + (1 : Int32)))) ⟨rfl, rfl, rfl⟩ fun t6 => ?_
          exact i_iret (v := f_b t6.1) (f_at inc_24 (j := 47) rfl) rfl n_bool
        · refine i_iconst (pc' := 56) (f_at inc_24 (j := 30) rfl) ci_0 rfl ?_
          exact i_iret (v := f_b false) (f_at inc_24 (j := 31) rfl) rfl n_bool
      · refine i_aload_n (pc' := 34) (f_at inc_24 (j := 18) rfl) rfl rfl ?_
        refine i_iconst (pc' := 35) (f_at inc_24 (j := 19) rfl) ci_3 rfl ?_
        refine c_wb (pc' := 38) (c' := 0) (n' := 0) (h_virt (ra := [.int (3 : Int32), .ref 3]) (r := []) (as := [.int (3 : Int32)]) (f_at inc_24 (j := 20) rfl) (by decide) MT_15 rfl rfl rfl ⟨Nat.le_of_ble_eq_true rfl, Nat.le_of_ble_eq_true rfl, Nat.le_of_ble_eq_true rfl⟩ sh_3 (f_lt (o := 3) (m := 155) (Nat.le_of_ble_eq_true rfl) hN)) MT_15 (G_15 hN (3 : Int32) t1.2) ⟨rfl, rfl, rfl⟩ fun t8 => ?_
        exact i_iret (v := f_b t8.1) (f_at inc_24 (j := 21) rfl) rfl n_bool
    · refine i_iconst (pc' := 23) (f_at inc_24 (j := 11) rfl) ci_0 rfl ?_
      exact i_iret (v := f_b false) (f_at inc_24 (j := 12) rfl) rfl n_bool
  · refine i_aload_n (pc' := 10) (f_at inc_24 (j := 4) rfl) rfl rfl ?_
    refine i_iconst (pc' := 11) (f_at inc_24 (j := 5) rfl) ci_4 rfl ?_
    refine c_wb (pc' := 14) (c' := 0) (n' := 0) (h_virt (ra := [.int (4 : Int32), .ref 3]) (r := []) (as := [.int (4 : Int32)]) (f_at inc_24 (j := 6) rfl) (by decide) MT_15 rfl rfl rfl ⟨Nat.le_of_ble_eq_true rfl, Nat.le_of_ble_eq_true rfl, Nat.le_of_ble_eq_true rfl⟩ sh_3 (f_lt (o := 3) (m := 155) (Nat.le_of_ble_eq_true rfl) hN)) MT_15 (G_15 hN (4 : Int32) σ) ⟨rfl, rfl, rfl⟩ fun t11 => ?_
    exact i_iret (v := f_b t11.1) (f_at inc_24 (j := 7) rfl) rfl n_bool
set_option maxRecDepth 4000 in
theorem G_25 {xs : Nat → Int32} {L N : Nat} (hN : 155 ≤ N)   (σ : f_M) : f_Cal a_MT xs L N 25 [.ref 5, .ref 3] σ ((g_25  σ).bind fun t => some (e_wb t)) := by
  refine f_cal_of (ls := [.ref 5, .ref 3]) MT_25 (Nat.le_of_ble_eq_true rfl) rfl ?_
  unfold g_25
  refine i_aload_n (pc' := 1) (f_at inc_25 (j := 0) rfl) rfl rfl ?_
  refine i_getI (pc' := 4) (f_at inc_25 (j := 1) rfl) sh_5 rfl (f_lt (o := 5) (m := 155) (Nat.le_of_ble_eq_true rfl) hN) rfl ?_
  refine i_iconst (pc' := 5) (f_at inc_25 (j := 2) rfl) ci_3 rfl ?_
  refine i_if2 (pc' := 14) (nx := 8) c2_ne (f_at inc_25 (j := 3) rfl) ⟨by decide, rfl⟩ (fun b6 => ?_) (fun b6 => ?_)
  · refine i_aload_n (pc' := 15) (f_at inc_25 (j := 8) rfl) rfl rfl ?_
    refine i_iconst (pc' := 16) (f_at inc_25 (j := 9) rfl) ci_0 rfl ?_
    refine i_bipush (pc' := 18) (f_at inc_25 (j := 10) rfl) cb_9 rfl ?_
    refine c_wb (pc' := 21) (c' := 0) (n' := 0) (h_virt (ra := [.int (9 : Int32), .int (0 : Int32), .ref 3]) (r := []) (as := [.int (0 : Int32), .int (9 : Int32)]) (f_at inc_25 (j := 11) rfl) (by decide) MT_22 rfl rfl rfl ⟨Nat.le_of_ble_eq_true rfl, Nat.le_of_ble_eq_true rfl, Nat.le_of_ble_eq_true rfl⟩ sh_3 (f_lt (o := 3) (m := 155) (Nat.le_of_ble_eq_true rfl) hN)) MT_22 (G_22 hN (0 : Int32) (9 : Int32) σ) ⟨rfl, rfl, rfl⟩ fun t1 => ?_
    refine i_if0 (pc' := 26) (nx := 24) cb_ne (f_at inc_25 (j := 12) rfl) ⟨by decide, rfl⟩ (fun b4 => ?_) (fun b4 => ?_)
    · refine i_aload_n (pc' := 27) (f_at inc_25 (j := 15) rfl) rfl rfl ?_
      refine i_getR (pc' := 30) (f_at inc_25 (j := 16) rfl) sh_5 rfl (f_lt (o := 5) (m := 155) (Nat.le_of_ble_eq_true rfl) hN) rfl ?_
      refine i_aload_n (pc' := 31) (f_at inc_25 (j := 17) rfl) rfl rfl ?_
      refine i_getI (pc' := 34) (f_at inc_25 (j := 18) rfl) sh_5 rfl (f_lt (o := 5) (m := 155) (Nat.le_of_ble_eq_true rfl) hN) rfl ?_
      refine i_aload_n (pc' := 35) (f_at inc_25 (j := 19) rfl) rfl rfl ?_
      refine i_getI (pc' := 38) (f_at inc_25 (j := 20) rfl) sh_3 rfl (f_lt (o := 3) (m := 155) (Nat.le_of_ble_eq_true rfl) hN) rfl ?_
      refine i_iast (pc' := 39) (f_at inc_25 (j := 21) rfl) sh_9 (f_lt (o := 9) (m := 155) (Nat.le_of_ble_eq_true rfl) hN) rfl fun m2 => ?_
      refine i_aload_n (pc' := 40) (f_at inc_25 (j := 22) rfl) rfl rfl ?_
      refine i_dup (pc' := 41) (f_at inc_25 (j := 23) rfl) rfl rfl ?_
      refine i_getI (pc' := 44) (f_at inc_25 (j := 24) rfl) sh_5 rfl (f_lt (o := 5) (m := 155) (Nat.le_of_ble_eq_true rfl) hN) rfl ?_
      refine i_iconst (pc' := 45) (f_at inc_25 (j := 25) rfl) ci_1 rfl ?_
      refine i_iadd (pc' := 46) (f_at inc_25 (j := 26) rfl) rfl ?_
      refine i_putI (pc' := 49) (f_at inc_25 (j := 27) rfl) sh_5 rfl ⟨rfl, rfl⟩ (f_lt (o := 5) (m := 155) (Nat.le_of_ble_eq_true rfl) hN) rfl ?_
      refine i_aload_n (pc' := 50) (f_at inc_25 (j := 28) rfl) rfl rfl ?_
      refine c_wb (pc' := 53) (c' := 0) (n' := 0) (h_virt (ra := [.ref 3]) (r := []) (as := []) (f_at inc_25 (j := 29) rfl) (by decide) MT_23 rfl rfl rfl ⟨Nat.le_of_ble_eq_true rfl, Nat.le_of_ble_eq_true rfl, Nat.le_of_ble_eq_true rfl⟩ sh_3 (f_lt (o := 3) (m := 155) (Nat.le_of_ble_eq_true rfl) hN)) MT_23 (G_23 hN  (f_up m2 5 4 ((m2 5 4) + (1 : Int32)))) ⟨rfl, rfl, rfl⟩ fun t3 => ?_
      exact i_iret (v := f_b t3.1) (f_at inc_25 (j := 30) rfl) rfl n_bool
    · refine i_iconst (pc' := 25) (f_at inc_25 (j := 13) rfl) ci_0 rfl ?_
      exact i_iret (v := f_b false) (f_at inc_25 (j := 14) rfl) rfl n_bool
  · refine i_aload_n (pc' := 9) (f_at inc_25 (j := 4) rfl) rfl rfl ?_
    refine i_iconst (pc' := 10) (f_at inc_25 (j := 5) rfl) ci_4 rfl ?_
    refine c_wb (pc' := 13) (c' := 0) (n' := 0) (h_virt (ra := [.int (4 : Int32), .ref 3]) (r := []) (as := [.int (4 : Int32)]) (f_at inc_25 (j := 6) rfl) (by decide) MT_15 rfl rfl rfl ⟨Nat.le_of_ble_eq_true rfl, Nat.le_of_ble_eq_true rfl, Nat.le_of_ble_eq_true rfl⟩ sh_3 (f_lt (o := 3) (m := 155) (Nat.le_of_ble_eq_true rfl) hN)) MT_15 (G_15 hN (4 : Int32) σ) ⟨rfl, rfl, rfl⟩ fun t5 => ?_
    exact i_iret (v := f_b t5.1) (f_at inc_25 (j := 7) rfl) rfl n_bool
set_option maxRecDepth 4000 in
theorem G_26 {xs : Nat → Int32} {L N : Nat} (hN : 155 ≤ N)   (σ : f_M) : f_Cal a_MT xs L N 26 [.ref 5, .ref 3] σ ((g_26  σ).bind fun t => some (e_wb t)) := by
  refine f_cal_of (ls := [.ref 5, .ref 3]) MT_26 (Nat.le_of_ble_eq_true rfl) rfl ?_
  unfold g_26
  refine i_aload_n (pc' := 1) (f_at inc_26 (j := 0) rfl) rfl rfl ?_
  refine i_iconst (pc' := 2) (f_at inc_26 (j := 1) rfl) ci_0 rfl ?_
  refine i_sipush (pc' := 5) (f_at inc_26 (j := 2) rfl) cs_9999 rfl ?_
  refine c_wb (pc' := 8) (c' := 0) (n' := 0) (h_virt (ra := [.int (9999 : Int32), .int (0 : Int32), .ref 3]) (r := []) (as := [.int (0 : Int32), .int (9999 : Int32)]) (f_at inc_26 (j := 3) rfl) (by decide) MT_22 rfl rfl rfl ⟨Nat.le_of_ble_eq_true rfl, Nat.le_of_ble_eq_true rfl, Nat.le_of_ble_eq_true rfl⟩ sh_3 (f_lt (o := 3) (m := 155) (Nat.le_of_ble_eq_true rfl) hN)) MT_22 (G_22 hN (0 : Int32) (9999 : Int32) σ) ⟨rfl, rfl, rfl⟩ fun t1 => ?_
  refine i_if0 (pc' := 13) (nx := 11) cb_ne (f_at inc_26 (j := 4) rfl) ⟨by decide, rfl⟩ (fun b3 => ?_) (fun b3 => ?_)
  · refine i_aload_n (pc' := 14) (f_at inc_26 (j := 7) rfl) rfl rfl ?_
    refine i_aload_n (pc' := 15) (f_at inc_26 (j := 8) rfl) rfl rfl ?_
    refine i_getI (pc' := 18) (f_at inc_26 (j := 9) rfl) sh_3 rfl (f_lt (o := 3) (m := 155) (Nat.le_of_ble_eq_true rfl) hN) rfl ?_
    refine i_putI (pc' := 21) (f_at inc_26 (j := 10) rfl) sh_5 rfl ⟨rfl, rfl⟩ (f_lt (o := 5) (m := 155) (Nat.le_of_ble_eq_true rfl) hN) rfl ?_
    refine i_aload_n (pc' := 22) (f_at inc_26 (j := 11) rfl) rfl rfl ?_
    refine c_wb (pc' := 25) (c' := 0) (n' := 0) (h_virt (ra := [.ref 3]) (r := []) (as := []) (f_at inc_26 (j := 12) rfl) (by decide) MT_23 rfl rfl rfl ⟨Nat.le_of_ble_eq_true rfl, Nat.le_of_ble_eq_true rfl, Nat.le_of_ble_eq_true rfl⟩ sh_3 (f_lt (o := 3) (m := 155) (Nat.le_of_ble_eq_true rfl) hN)) MT_23 (G_23 hN  (f_up t1.2 5 6 (t1.2 3 5))) ⟨rfl, rfl, rfl⟩ fun t2 => ?_
    exact i_iret (v := f_b t2.1) (f_at inc_26 (j := 13) rfl) rfl n_bool
  · refine i_iconst (pc' := 12) (f_at inc_26 (j := 5) rfl) ci_0 rfl ?_
    exact i_iret (v := f_b false) (f_at inc_26 (j := 6) rfl) rfl n_bool
set_option maxRecDepth 4000 in
theorem G_27 {xs : Nat → Int32} {L N : Nat} (hN : 155 ≤ N)   (σ : f_M) : f_Cal a_MT xs L N 27 [.ref 5, .ref 3] σ ((g_27  σ).bind fun t => some (e_wb t)) := by
  refine f_cal_of (ls := [.ref 5, .ref 3]) MT_27 (Nat.le_of_ble_eq_true rfl) rfl ?_
  unfold g_27
  refine i_aload_n (pc' := 1) (f_at inc_27 (j := 0) rfl) rfl rfl ?_
  refine i_ldc (pc' := 3) (f_at inc_27 (j := 1) rfl) rfl ?_
  refine c_pb (pc' := 6) (c' := 0) (n' := 0) (h_virt (ra := [.ref (a_big + 1 + 2), .ref 3]) (r := []) (as := [.ref (a_big + 1 + 2)]) (f_at inc_27 (j := 2) rfl) (by decide) MT_14 rfl rfl rfl ⟨Nat.le_of_ble_eq_true rfl, Nat.le_of_ble_eq_true rfl, Nat.le_of_ble_eq_true rfl⟩ sh_3 (f_lt (o := 3) (m := 155) (Nat.le_of_ble_eq_true rfl) hN)) MT_14 (G_14 hN 2 (by decide) σ) ⟨rfl, rfl, rfl⟩ fun t1 => ?_
  refine i_if0 (pc' := 15) (nx := 9) cb_eq (f_at inc_27 (j := 3) rfl) ⟨by decide, rfl⟩ (fun b10 => ?_) (fun b10 => ?_)
  · refine i_aload_n (pc' := 16) (f_at inc_27 (j := 8) rfl) rfl rfl ?_
    refine i_ldc (pc' := 18) (f_at inc_27 (j := 9) rfl) rfl ?_
    refine c_pb (pc' := 21) (c' := 0) (n' := 0) (h_virt (ra := [.ref (a_big + 1 + 3), .ref 3]) (r := []) (as := [.ref (a_big + 1 + 3)]) (f_at inc_27 (j := 10) rfl) (by decide) MT_14 rfl rfl rfl ⟨Nat.le_of_ble_eq_true rfl, Nat.le_of_ble_eq_true rfl, Nat.le_of_ble_eq_true rfl⟩ sh_3 (f_lt (o := 3) (m := 155) (Nat.le_of_ble_eq_true rfl) hN)) MT_14 (G_14 hN 3 (by decide) σ) ⟨rfl, rfl, rfl⟩ fun t2 => ?_
    refine i_if0 (pc' := 30) (nx := 24) cb_eq (f_at inc_27 (j := 11) rfl) ⟨by decide, rfl⟩ (fun b8 => ?_) (fun b8 => ?_)
    · refine i_aload_n (pc' := 31) (f_at inc_27 (j := 16) rfl) rfl rfl ?_
      refine i_ldc (pc' := 33) (f_at inc_27 (j := 17) rfl) rfl ?_
      refine c_pb (pc' := 36) (c' := 0) (n' := 0) (h_virt (ra := [.ref (a_big + 1 + 4), .ref 3]) (r := []) (as := [.ref (a_big + 1 + 4)]) (f_at inc_27 (j := 18) rfl) (by decide) MT_14 rfl rfl rfl ⟨Nat.le_of_ble_eq_true rfl, Nat.le_of_ble_eq_true rfl, Nat.le_of_ble_eq_true rfl⟩ sh_3 (f_lt (o := 3) (m := 155) (Nat.le_of_ble_eq_true rfl) hN)) MT_14 (G_14 hN 4 (by decide) σ) ⟨rfl, rfl, rfl⟩ fun t3 => ?_
      refine i_if0 (pc' := 45) (nx := 39) cb_eq (f_at inc_27 (j := 19) rfl) ⟨by decide, rfl⟩ (fun b6 => ?_) (fun b6 => ?_)
      · refine i_aload_n (pc' := 46) (f_at inc_27 (j := 24) rfl) rfl rfl ?_
        refine i_iconst (pc' := 47) (f_at inc_27 (j := 25) rfl) ci_1 rfl ?_
        refine c_wb (pc' := 50) (c' := 0) (n' := 0) (h_virt (ra := [.int (1 : Int32), .ref 3]) (r := []) (as := [.int (1 : Int32)]) (f_at inc_27 (j := 26) rfl) (by decide) MT_15 rfl rfl rfl ⟨Nat.le_of_ble_eq_true rfl, Nat.le_of_ble_eq_true rfl, Nat.le_of_ble_eq_true rfl⟩ sh_3 (f_lt (o := 3) (m := 155) (Nat.le_of_ble_eq_true rfl) hN)) MT_15 (G_15 hN (1 : Int32) σ) ⟨rfl, rfl, rfl⟩ fun t4 => ?_
        exact i_iret (v := f_b t4.1) (f_at inc_27 (j := 27) rfl) rfl n_bool
      · refine i_aload_n (pc' := 40) (f_at inc_27 (j := 20) rfl) rfl rfl ?_
        refine i_aload_n (pc' := 41) (f_at inc_27 (j := 21) rfl) rfl rfl ?_
        refine c_wb (pc' := 44) (c' := 0) (n' := 0) (h_virt (ra := [.ref 3, .ref 5]) (r := []) (as := [.ref 3]) (f_at inc_27 (j := 22) rfl) (by decide) MT_26 rfl rfl rfl ⟨Nat.le_of_ble_eq_true rfl, Nat.le_of_ble_eq_true rfl, Nat.le_of_ble_eq_true rfl⟩ sh_5 (f_lt (o := 5) (m := 155) (Nat.le_of_ble_eq_true rfl) hN)) MT_26 (G_26 hN  σ) ⟨rfl, rfl, rfl⟩ fun t5 => ?_
        exact i_iret (v := f_b t5.1) (f_at inc_27 (j := 23) rfl) rfl n_bool
    · refine i_aload_n (pc' := 25) (f_at inc_27 (j := 12) rfl) rfl rfl ?_
      refine i_aload_n (pc' := 26) (f_at inc_27 (j := 13) rfl) rfl rfl ?_
      refine c_wb (pc' := 29) (c' := 0) (n' := 0) (h_virt (ra := [.ref 3, .ref 5]) (r := []) (as := [.ref 3]) (f_at inc_27 (j := 14) rfl) (by decide) MT_25 rfl rfl rfl ⟨Nat.le_of_ble_eq_true rfl, Nat.le_of_ble_eq_true rfl, Nat.le_of_ble_eq_true rfl⟩ sh_5 (f_lt (o := 5) (m := 155) (Nat.le_of_ble_eq_true rfl) hN)) MT_25 (G_25 hN  σ) ⟨rfl, rfl, rfl⟩ fun t7 => ?_
      exact i_iret (v := f_b t7.1) (f_at inc_27 (j := 15) rfl) rfl n_bool
  · refine i_aload_n (pc' := 10) (f_at inc_27 (j := 4) rfl) rfl rfl ?_
    refine i_aload_n (pc' := 11) (f_at inc_27 (j := 5) rfl) rfl rfl ?_
    refine c_wb (pc' := 14) (c' := 0) (n' := 0) (h_virt (ra := [.ref 3, .ref 5]) (r := []) (as := [.ref 3]) (f_at inc_27 (j := 6) rfl) (by decide) MT_24 rfl rfl rfl ⟨Nat.le_of_ble_eq_true rfl, Nat.le_of_ble_eq_true rfl, Nat.le_of_ble_eq_true rfl⟩ sh_5 (f_lt (o := 5) (m := 155) (Nat.le_of_ble_eq_true rfl) hN)) MT_24 (G_24 hN  σ) ⟨rfl, rfl, rfl⟩ fun t9 => ?_
    exact i_iret (v := f_b t9.1) (f_at inc_27 (j := 7) rfl) rfl n_bool
set_option maxRecDepth 4000 in
theorem G_28 {xs : Nat → Int32} {L N : Nat} (hN : 155 ≤ N)   (σ : f_M) : f_Cal a_MT xs L N 28 [.ref 5, .ref 3] σ ((g_28  σ).bind fun t => some (e_wb t)) := by
  refine f_cal_of (ls := [.ref 5, .ref 3, a_dead]) MT_28 (Nat.le_of_ble_eq_true rfl) rfl ?_
  unfold g_28
  refine i_aload_n (pc' := 1) (f_at inc_28 (j := 0) rfl) rfl rfl ?_
  refine i_iconst (pc' := 2) (f_at inc_28 (j := 1) rfl) ci_0 rfl ?_
  refine i_putI (pc' := 5) (f_at inc_28 (j := 2) rfl) sh_5 rfl ⟨rfl, rfl⟩ (f_lt (o := 5) (m := 155) (Nat.le_of_ble_eq_true rfl) hN) rfl ?_
  refine i_aload_n (pc' := 6) (f_at inc_28 (j := 3) rfl) rfl rfl ?_
  refine i_iconst (pc' := 7) (f_at inc_28 (j := 4) rfl) ci_0 rfl ?_
  refine i_putI (pc' := 10) (f_at inc_28 (j := 5) rfl) sh_5 rfl ⟨rfl, rfl⟩ (f_lt (o := 5) (m := 155) (Nat.le_of_ble_eq_true rfl) hN) rfl ?_
  refine i_aload_n (pc' := 11) (f_at inc_28 (j := 6) rfl) rfl rfl ?_
  refine i_sipush (pc' := 14) (f_at inc_28 (j := 7) rfl) cs_1000 rfl ?_
  refine i_putI (pc' := 17) (f_at inc_28 (j := 8) rfl) sh_5 rfl ⟨rfl, rfl⟩ (f_lt (o := 5) (m := 155) (Nat.le_of_ble_eq_true rfl) hN) rfl ?_
  refine i_aload_n (pc' := 18) (f_at inc_28 (j := 9) rfl) rfl rfl ?_
  refine c_wv (pc' := 21) (c' := 0) (n' := 0) (h_virt (ra := [.ref 3]) (r := []) (as := []) (f_at inc_28 (j := 10) rfl) (by decide) MT_12 rfl rfl rfl ⟨Nat.le_of_ble_eq_true rfl, Nat.le_of_ble_eq_true rfl, Nat.le_of_ble_eq_true rfl⟩ sh_3 (f_lt (o := 3) (m := 155) (Nat.le_of_ble_eq_true rfl) hN)) MT_12 (G_12 hN  (f_up (f_up (f_up σ 5 0 (0 : Int32)) 5 4 (0 : Int32)) 5 6 (1000 : Int32))) ⟨rfl, rfl, rfl⟩ fun t1 => ?_
  refine i_iconst (pc' := 22) (f_at inc_28 (j := 11) rfl) ci_0 rfl ?_
  refine i_istore_n (pc' := 23) (ls' := [.ref 5, .ref 3, .int (0 : Int32)]) (f_at inc_28 (j := 12) rfl) (Nat.le_of_ble_eq_true rfl) rfl rfl ?_
  refine s_lB (X := 57) ((0 : Int32), t1) () (fun (s2 : Int32 × f_M) (u2 : Unit) => [.ref 5, .ref 3, .int s2.1]) (fun (s2 : Int32 × f_M) => s2.2) (fun (x2 : f_M) (w2 : Value) => [.ref 5, .ref 3, w2]) (fun (x2 : f_M) => x2) ?_ ?_
  · intro x2 w2
    refine i_aload_n (pc' := 58) (f_at inc_28 (j := 29) rfl) rfl rfl ?_
    refine i_getI (pc' := 61) (f_at inc_28 (j := 30) rfl) sh_5 rfl (f_lt (o := 5) (m := 155) (Nat.le_of_ble_eq_true rfl) hN) rfl ?_
    refine s_join (J := 84) (fun (t9 : Bool × f_M) (u9 : Unit) => [.ref 5, .ref 3, w2]) (fun t9 => [.int (f_b t9.1)]) (fun t9 => t9.2) ?_ ?_
    · intro t9 u9
      exact i_iret (v := f_b t9.1) (f_at inc_28 (j := 42) rfl) rfl n_bool
    · intro k9 hj9
      refine i_if0 (pc' := 71) (nx := 64) c0_le (f_at inc_28 (j := 31) rfl) ⟨by decide, rfl⟩ (fun b15 => ?_) (fun b15 => ?_)
      · refine i_aload_n (pc' := 72) (f_at inc_28 (j := 35) rfl) rfl rfl ?_
        refine i_iconst (pc' := 73) (f_at inc_28 (j := 36) rfl) ci_5 rfl ?_
        refine c_wb (pc' := 76) (c' := 0) (n' := 0) (h_virt (ra := [.int (5 : Int32), .ref 3]) (r := []) (as := [.int (5 : Int32)]) (f_at inc_28 (j := 37) rfl) (by decide) MT_15 rfl rfl rfl ⟨Nat.le_of_ble_eq_true rfl, Nat.le_of_ble_eq_true rfl, Nat.le_of_ble_eq_true rfl⟩ sh_3 (f_lt (o := 3) (m := 155) (Nat.le_of_ble_eq_true rfl) hN)) MT_15 (G_15 hN (5 : Int32) x2) ⟨rfl, rfl, rfl⟩ fun t10 => ?_
        refine i_if0 (pc' := 83) (nx := 79) cb_eq (f_at inc_28 (j := 38) rfl) ⟨by decide, rfl⟩ (fun b11 => ?_) (fun b11 => ?_)
        · refine i_iconst (pc' := 84) (f_at inc_28 (j := 41) rfl) ci_0 rfl ?_
          exact hj9 (false, t10.2) ()
        · refine i_iconst (pc' := 80) (f_at inc_28 (j := 39) rfl) ci_1 rfl ?_
          refine i_goto (pc' := 84) (f_at inc_28 (j := 40) rfl) (by decide) ?_
          exact hj9 (true, t10.2) ()
      · refine i_aload_n (pc' := 65) (f_at inc_28 (j := 32) rfl) rfl rfl ?_
        refine i_getI (pc' := 68) (f_at inc_28 (j := 33) rfl) sh_5 rfl (f_lt (o := 5) (m := 155) (Nat.le_of_ble_eq_true rfl) hN) rfl ?_
        refine i_if0 (pc' := 79) (nx := 71) c0_gt (f_at inc_28 (j := 34) rfl) ⟨by decide, rfl⟩ (fun b14 => ?_) (fun b14 => ?_)
        · refine i_iconst (pc' := 80) (f_at inc_28 (j := 39) rfl) ci_1 rfl ?_
          refine i_goto (pc' := 84) (f_at inc_28 (j := 40) rfl) (by decide) ?_
          exact hj9 (true, x2) ()
        · refine i_aload_n (pc' := 72) (f_at inc_28 (j := 35) rfl) rfl rfl ?_
          refine i_iconst (pc' := 73) (f_at inc_28 (j := 36) rfl) ci_5 rfl ?_
          refine c_wb (pc' := 76) (c' := 0) (n' := 0) (h_virt (ra := [.int (5 : Int32), .ref 3]) (r := []) (as := [.int (5 : Int32)]) (f_at inc_28 (j := 37) rfl) (by decide) MT_15 rfl rfl rfl ⟨Nat.le_of_ble_eq_true rfl, Nat.le_of_ble_eq_true rfl, Nat.le_of_ble_eq_true rfl⟩ sh_3 (f_lt (o := 3) (m := 155) (Nat.le_of_ble_eq_true rfl) hN)) MT_15 (G_15 hN (5 : Int32) x2) ⟨rfl, rfl, rfl⟩ fun t12 => ?_
          refine i_if0 (pc' := 83) (nx := 79) cb_eq (f_at inc_28 (j := 38) rfl) ⟨by decide, rfl⟩ (fun b13 => ?_) (fun b13 => ?_)
          · refine i_iconst (pc' := 84) (f_at inc_28 (j := 41) rfl) ci_0 rfl ?_
            exact hj9 (false, t12.2) ()
          · refine i_iconst (pc' := 80) (f_at inc_28 (j := 39) rfl) ci_1 rfl ?_
            refine i_goto (pc' := 84) (f_at inc_28 (j := 40) rfl) (by decide) ?_
            exact hj9 (true, t12.2) ()
  · intro s2 u2 k2 hb2 hx2 hr2
    refine i_iload_n (pc' := 24) (f_at inc_28 (j := 13) rfl) rfl rfl ?_
    refine i_sipush (pc' := 27) (f_at inc_28 (j := 14) rfl) cs_600 rfl ?_
    refine i_if2 (pc' := 57) (nx := 30) c2_ge (f_at inc_28 (j := 15) rfl) ⟨by decide, rfl⟩ (fun b8 => ?_) (fun b8 => ?_)
    · exact hx2 s2.2 (.int s2.1)
    · refine i_aload_n (pc' := 31) (f_at inc_28 (j := 16) rfl) rfl rfl ?_
      refine c_pb (pc' := 34) (c' := 0) (n' := 0) (h_virt (ra := [.ref 3]) (r := []) (as := []) (f_at inc_28 (j := 17) rfl) (by decide) MT_13 rfl rfl rfl ⟨Nat.le_of_ble_eq_true rfl, Nat.le_of_ble_eq_true rfl, Nat.le_of_ble_eq_true rfl⟩ sh_3 (f_lt (o := 3) (m := 155) (Nat.le_of_ble_eq_true rfl) hN)) MT_13 (G_13 hN  s2.2) ⟨rfl, rfl, rfl⟩ fun t3 => ?_
      refine i_if0 (pc' := 57) (nx := 37) cb_ne (f_at inc_28 (j := 18) rfl) ⟨by decide, rfl⟩ (fun b7 => ?_) (fun b7 => ?_)
      · exact hx2 s2.2 (.int s2.1)
      · refine i_aload_n (pc' := 38) (f_at inc_28 (j := 19) rfl) rfl rfl ?_
        refine i_aload_n (pc' := 39) (f_at inc_28 (j := 20) rfl) rfl rfl ?_
        refine c_wb (pc' := 42) (c' := 0) (n' := 0) (h_virt (ra := [.ref 3, .ref 5]) (r := []) (as := [.ref 3]) (f_at inc_28 (j := 21) rfl) (by decide) MT_27 rfl rfl rfl ⟨Nat.le_of_ble_eq_true rfl, Nat.le_of_ble_eq_true rfl, Nat.le_of_ble_eq_true rfl⟩ sh_5 (f_lt (o := 5) (m := 155) (Nat.le_of_ble_eq_true rfl) hN)) MT_27 (G_27 hN  s2.2) ⟨rfl, rfl, rfl⟩ fun t4 => ?_
        refine i_if0 (pc' := 47) (nx := 45) cb_ne (f_at inc_28 (j := 22) rfl) ⟨by decide, rfl⟩ (fun b6 => ?_) (fun b6 => ?_)
        · refine i_aload_n (pc' := 48) (f_at inc_28 (j := 25) rfl) rfl rfl ?_
          refine c_wv (pc' := 51) (c' := 0) (n' := 0) (h_virt (ra := [.ref 3]) (r := []) (as := []) (f_at inc_28 (j := 26) rfl) (by decide) MT_12 rfl rfl rfl ⟨Nat.le_of_ble_eq_true rfl, Nat.le_of_ble_eq_true rfl, Nat.le_of_ble_eq_true rfl⟩ sh_3 (f_lt (o := 3) (m := 155) (Nat.le_of_ble_eq_true rfl) hN)) MT_12 (G_12 hN  t4.2) ⟨rfl, rfl, rfl⟩ fun t5 => ?_
          refine i_iinc (pc' := 54) (ls' := [.ref 5, .ref 3, .int (s2.1 + (1 : Int32))]) (f_at inc_28 (j := 27) rfl) rfl ci_1 rfl rfl ?_
          refine i_goto (pc' := 23) (f_at inc_28 (j := 28) rfl) (by decide) ?_
          exact hb2 ((s2.1 + (1 : Int32)), t5) ()
        · refine i_iconst (pc' := 46) (f_at inc_28 (j := 23) rfl) ci_0 rfl ?_
          refine s_rt (hr2 _) ?_
          exact i_iret (v := f_b false) (f_at inc_28 (j := 24) rfl) rfl n_bool
set_option maxRecDepth 4000 in
theorem G_29 {xs : Nat → Int32} {L N : Nat} (hN : 155 ≤ N)   (σ : f_M) : f_Cal a_MT xs L N 29 [.ref 103, .ref 5] σ ((g_29  σ).bind fun t => some (e_wv t)) := by
  refine f_cal_of (ls := [.ref 103, .ref 5]) MT_29 (Nat.le_of_ble_eq_true rfl) rfl ?_
  unfold g_29
  refine i_aload_n (pc' := 1) (f_at inc_29 (j := 0) rfl) rfl rfl ?_
  refine i_aload_n (pc' := 2) (f_at inc_29 (j := 1) rfl) rfl rfl ?_
  refine i_getI (pc' := 5) (f_at inc_29 (j := 2) rfl) sh_5 rfl (f_lt (o := 5) (m := 155) (Nat.le_of_ble_eq_true rfl) hN) rfl ?_
  refine i_putI (pc' := 8) (f_at inc_29 (j := 3) rfl) sh_103 rfl ⟨rfl, rfl⟩ (f_lt (o := 103) (m := 155) (Nat.le_of_ble_eq_true rfl) hN) rfl ?_
  refine i_aload_n (pc' := 9) (f_at inc_29 (j := 4) rfl) rfl rfl ?_
  refine i_getR (pc' := 12) (f_at inc_29 (j := 5) rfl) sh_5 rfl (f_lt (o := 5) (m := 155) (Nat.le_of_ble_eq_true rfl) hN) rfl ?_
  refine i_iconst (pc' := 13) (f_at inc_29 (j := 6) rfl) ci_0 rfl ?_
  refine i_aload_n (pc' := 14) (f_at inc_29 (j := 7) rfl) rfl rfl ?_
  refine i_getR (pc' := 17) (f_at inc_29 (j := 8) rfl) sh_103 rfl (f_lt (o := 103) (m := 155) (Nat.le_of_ble_eq_true rfl) hN) rfl ?_
  refine i_iconst (pc' := 18) (f_at inc_29 (j := 9) rfl) ci_0 rfl ?_
  refine i_bipush (pc' := 20) (f_at inc_29 (j := 10) rfl) cb_8 rfl ?_
  refine i_cpy (pc' := 23) (f_at inc_29 (j := 11) rfl) sh_6 sh_104 (Or.inl rfl) (Nat.le_of_ble_eq_true rfl) (f_lt (o := 6) (m := 155) (Nat.le_of_ble_eq_true rfl) hN) (f_lt (o := 104) (m := 155) (Nat.le_of_ble_eq_true rfl) hN) rfl fun m1 => ?_
  refine i_aload_n (pc' := 24) (f_at inc_29 (j := 12) rfl) rfl rfl ?_
  refine i_getR (pc' := 27) (f_at inc_29 (j := 13) rfl) sh_5 rfl (f_lt (o := 5) (m := 155) (Nat.le_of_ble_eq_true rfl) hN) rfl ?_
  refine i_iconst (pc' := 28) (f_at inc_29 (j := 14) rfl) ci_0 rfl ?_
  refine i_aload_n (pc' := 29) (f_at inc_29 (j := 15) rfl) rfl rfl ?_
  refine i_getR (pc' := 32) (f_at inc_29 (j := 16) rfl) sh_103 rfl (f_lt (o := 103) (m := 155) (Nat.le_of_ble_eq_true rfl) hN) rfl ?_
  refine i_iconst (pc' := 33) (f_at inc_29 (j := 17) rfl) ci_0 rfl ?_
  refine i_bipush (pc' := 35) (f_at inc_29 (j := 18) rfl) cb_48 rfl ?_
  refine i_cpy (pc' := 38) (f_at inc_29 (j := 19) rfl) sh_7 sh_105 (Or.inr rfl) (Nat.le_of_ble_eq_true rfl) (f_lt (o := 7) (m := 155) (Nat.le_of_ble_eq_true rfl) hN) (f_lt (o := 105) (m := 155) (Nat.le_of_ble_eq_true rfl) hN) rfl fun m2 => ?_
  refine i_aload_n (pc' := 39) (f_at inc_29 (j := 20) rfl) rfl rfl ?_
  refine i_getR (pc' := 42) (f_at inc_29 (j := 21) rfl) sh_5 rfl (f_lt (o := 5) (m := 155) (Nat.le_of_ble_eq_true rfl) hN) rfl ?_
  refine i_iconst (pc' := 43) (f_at inc_29 (j := 22) rfl) ci_0 rfl ?_
  refine i_aload_n (pc' := 44) (f_at inc_29 (j := 23) rfl) rfl rfl ?_
  refine i_getR (pc' := 47) (f_at inc_29 (j := 24) rfl) sh_103 rfl (f_lt (o := 103) (m := 155) (Nat.le_of_ble_eq_true rfl) hN) rfl ?_
  refine i_iconst (pc' := 48) (f_at inc_29 (j := 25) rfl) ci_0 rfl ?_
  refine i_bipush (pc' := 50) (f_at inc_29 (j := 26) rfl) cb_8 rfl ?_
  refine i_cpy (pc' := 53) (f_at inc_29 (j := 27) rfl) sh_8 sh_106 (Or.inl rfl) (Nat.le_of_ble_eq_true rfl) (f_lt (o := 8) (m := 155) (Nat.le_of_ble_eq_true rfl) hN) (f_lt (o := 106) (m := 155) (Nat.le_of_ble_eq_true rfl) hN) rfl fun m3 => ?_
  refine i_aload_n (pc' := 54) (f_at inc_29 (j := 28) rfl) rfl rfl ?_
  refine i_aload_n (pc' := 55) (f_at inc_29 (j := 29) rfl) rfl rfl ?_
  refine i_getI (pc' := 58) (f_at inc_29 (j := 30) rfl) sh_5 rfl (f_lt (o := 5) (m := 155) (Nat.le_of_ble_eq_true rfl) hN) rfl ?_
  refine i_putI (pc' := 61) (f_at inc_29 (j := 31) rfl) sh_103 rfl ⟨rfl, rfl⟩ (f_lt (o := 103) (m := 155) (Nat.le_of_ble_eq_true rfl) hN) rfl ?_
  refine i_aload_n (pc' := 62) (f_at inc_29 (j := 32) rfl) rfl rfl ?_
  refine i_getR (pc' := 65) (f_at inc_29 (j := 33) rfl) sh_5 rfl (f_lt (o := 5) (m := 155) (Nat.le_of_ble_eq_true rfl) hN) rfl ?_
  refine i_iconst (pc' := 66) (f_at inc_29 (j := 34) rfl) ci_0 rfl ?_
  refine i_aload_n (pc' := 67) (f_at inc_29 (j := 35) rfl) rfl rfl ?_
  refine i_getR (pc' := 70) (f_at inc_29 (j := 36) rfl) sh_103 rfl (f_lt (o := 103) (m := 155) (Nat.le_of_ble_eq_true rfl) hN) rfl ?_
  refine i_iconst (pc' := 71) (f_at inc_29 (j := 37) rfl) ci_0 rfl ?_
  refine i_iconst (pc' := 72) (f_at inc_29 (j := 38) rfl) ci_3 rfl ?_
  refine i_cpy (pc' := 75) (f_at inc_29 (j := 39) rfl) sh_9 sh_107 (Or.inl rfl) (Nat.le_of_ble_eq_true rfl) (f_lt (o := 9) (m := 155) (Nat.le_of_ble_eq_true rfl) hN) (f_lt (o := 107) (m := 155) (Nat.le_of_ble_eq_true rfl) hN) rfl fun m4 => ?_
  refine i_aload_n (pc' := 76) (f_at inc_29 (j := 40) rfl) rfl rfl ?_
  refine i_aload_n (pc' := 77) (f_at inc_29 (j := 41) rfl) rfl rfl ?_
  refine i_getI (pc' := 80) (f_at inc_29 (j := 42) rfl) sh_5 rfl (f_lt (o := 5) (m := 155) (Nat.le_of_ble_eq_true rfl) hN) rfl ?_
  refine i_putI (pc' := 83) (f_at inc_29 (j := 43) rfl) sh_103 rfl ⟨rfl, rfl⟩ (f_lt (o := 103) (m := 155) (Nat.le_of_ble_eq_true rfl) hN) rfl ?_
  exact i_vret (f_at inc_29 (j := 44) rfl) rfl
set_option maxRecDepth 4000 in
theorem G_30 {xs : Nat → Int32} {L N : Nat} (hN : 155 ≤ N)   (σ : f_M) : f_Cal a_MT xs L N 30 [.ref 121, .ref 103] σ ((g_30  σ).bind fun t => some (e_wv t)) := by
  refine f_cal_of (ls := [.ref 121, .ref 103]) MT_30 (Nat.le_of_ble_eq_true rfl) rfl ?_
  unfold g_30
  refine i_aload_n (pc' := 1) (f_at inc_30 (j := 0) rfl) rfl rfl ?_
  refine i_iconst (pc' := 2) (f_at inc_30 (j := 1) rfl) ci_0 rfl ?_
  refine i_putI (pc' := 5) (f_at inc_30 (j := 2) rfl) sh_121 rfl ⟨rfl, rfl⟩ (f_lt (o := 121) (m := 155) (Nat.le_of_ble_eq_true rfl) hN) rfl ?_
  refine i_aload_n (pc' := 6) (f_at inc_30 (j := 3) rfl) rfl rfl ?_
  refine i_aload_n (pc' := 7) (f_at inc_30 (j := 4) rfl) rfl rfl ?_
  refine i_getI (pc' := 10) (f_at inc_30 (j := 5) rfl) sh_103 rfl (f_lt (o := 103) (m := 155) (Nat.le_of_ble_eq_true rfl) hN) rfl ?_
  refine i_putI (pc' := 13) (f_at inc_30 (j := 6) rfl) sh_121 rfl ⟨rfl, rfl⟩ (f_lt (o := 121) (m := 155) (Nat.le_of_ble_eq_true rfl) hN) rfl ?_
  refine i_aload_n (pc' := 14) (f_at inc_30 (j := 7) rfl) rfl rfl ?_
  refine i_getR (pc' := 17) (f_at inc_30 (j := 8) rfl) sh_103 rfl (f_lt (o := 103) (m := 155) (Nat.le_of_ble_eq_true rfl) hN) rfl ?_
  refine i_iconst (pc' := 18) (f_at inc_30 (j := 9) rfl) ci_0 rfl ?_
  refine i_aload_n (pc' := 19) (f_at inc_30 (j := 10) rfl) rfl rfl ?_
  refine i_getR (pc' := 22) (f_at inc_30 (j := 11) rfl) sh_121 rfl (f_lt (o := 121) (m := 155) (Nat.le_of_ble_eq_true rfl) hN) rfl ?_
  refine i_iconst (pc' := 23) (f_at inc_30 (j := 12) rfl) ci_0 rfl ?_
  refine i_bipush (pc' := 25) (f_at inc_30 (j := 13) rfl) cb_8 rfl ?_
  refine i_cpy (pc' := 28) (f_at inc_30 (j := 14) rfl) sh_106 sh_122 (Or.inl rfl) (Nat.le_of_ble_eq_true rfl) (f_lt (o := 106) (m := 155) (Nat.le_of_ble_eq_true rfl) hN) (f_lt (o := 122) (m := 155) (Nat.le_of_ble_eq_true rfl) hN) rfl fun m1 => ?_
  refine i_aload_n (pc' := 29) (f_at inc_30 (j := 15) rfl) rfl rfl ?_
  refine i_iconst (pc' := 30) (f_at inc_30 (j := 16) rfl) ci_0 rfl ?_
  refine i_putI (pc' := 33) (f_at inc_30 (j := 17) rfl) sh_121 rfl ⟨rfl, rfl⟩ (f_lt (o := 121) (m := 155) (Nat.le_of_ble_eq_true rfl) hN) rfl ?_
  refine i_aload_n (pc' := 34) (f_at inc_30 (j := 18) rfl) rfl rfl ?_
  refine i_iconst (pc' := 35) (f_at inc_30 (j := 19) rfl) ci_0 rfl ?_
  refine i_putI (pc' := 38) (f_at inc_30 (j := 20) rfl) sh_121 rfl ⟨rfl, rfl⟩ (f_lt (o := 121) (m := 155) (Nat.le_of_ble_eq_true rfl) hN) rfl ?_
  refine i_aload_n (pc' := 39) (f_at inc_30 (j := 21) rfl) rfl rfl ?_
  refine i_iconst (pc' := 40) (f_at inc_30 (j := 22) rfl) ci_0 rfl ?_
  refine i_putI (pc' := 43) (f_at inc_30 (j := 23) rfl) sh_121 rfl ⟨rfl, rfl⟩ (f_lt (o := 121) (m := 155) (Nat.le_of_ble_eq_true rfl) hN) rfl ?_
  refine i_aload_n (pc' := 44) (f_at inc_30 (j := 24) rfl) rfl rfl ?_
  refine i_iconst (pc' := 45) (f_at inc_30 (j := 25) rfl) ci_0 rfl ?_
  refine i_putI (pc' := 48) (f_at inc_30 (j := 26) rfl) sh_121 rfl ⟨rfl, rfl⟩ (f_lt (o := 121) (m := 155) (Nat.le_of_ble_eq_true rfl) hN) rfl ?_
  refine i_aload_n (pc' := 49) (f_at inc_30 (j := 27) rfl) rfl rfl ?_
  refine i_iconst (pc' := 50) (f_at inc_30 (j := 28) rfl) ci_0 rfl ?_
  refine i_putI (pc' := 53) (f_at inc_30 (j := 29) rfl) sh_121 rfl ⟨rfl, rfl⟩ (f_lt (o := 121) (m := 155) (Nat.le_of_ble_eq_true rfl) hN) rfl ?_
  refine i_aload_n (pc' := 54) (f_at inc_30 (j := 30) rfl) rfl rfl ?_
  refine i_iconst (pc' := 55) (f_at inc_30 (j := 31) rfl) ci_0 rfl ?_
  refine i_putI (pc' := 58) (f_at inc_30 (j := 32) rfl) sh_121 rfl ⟨rfl, rfl⟩ (f_lt (o := 121) (m := 155) (Nat.le_of_ble_eq_true rfl) hN) rfl ?_
  refine i_aload_n (pc' := 59) (f_at inc_30 (j := 33) rfl) rfl rfl ?_
  refine i_iconst (pc' := 60) (f_at inc_30 (j := 34) rfl) ci_0 rfl ?_
  refine i_putI (pc' := 63) (f_at inc_30 (j := 35) rfl) sh_121 rfl ⟨rfl, rfl⟩ (f_lt (o := 121) (m := 155) (Nat.le_of_ble_eq_true rfl) hN) rfl ?_
  exact i_vret (f_at inc_30 (j := 36) rfl) rfl
set_option maxRecDepth 4000 in
theorem G_31 {xs : Nat → Int32} {L N : Nat} (hN : 155 ≤ N)   (σ : f_M) : f_Cal a_MT xs L N 31 [.ref 102, .ref 5] σ ((g_31  σ).bind fun t => some (e_wv t)) := by
  refine f_cal_of (ls := [.ref 102, .ref 5]) MT_31 (Nat.le_of_ble_eq_true rfl) rfl ?_
  unfold g_31
  refine i_aload_n (pc' := 1) (f_at inc_31 (j := 0) rfl) rfl rfl ?_
  refine i_getR (pc' := 4) (f_at inc_31 (j := 1) rfl) sh_102 rfl (f_lt (o := 102) (m := 155) (Nat.le_of_ble_eq_true rfl) hN) rfl ?_
  refine i_aload_n (pc' := 5) (f_at inc_31 (j := 2) rfl) rfl rfl ?_
  refine c_wv (pc' := 8) (c' := 0) (n' := 0) (h_virt (ra := [.ref 5, .ref 103]) (r := []) (as := [.ref 5]) (f_at inc_31 (j := 3) rfl) (by decide) MT_29 rfl rfl rfl ⟨Nat.le_of_ble_eq_true rfl, Nat.le_of_ble_eq_true rfl, Nat.le_of_ble_eq_true rfl⟩ sh_103 (f_lt (o := 103) (m := 155) (Nat.le_of_ble_eq_true rfl) hN)) MT_29 (G_29 hN  σ) ⟨rfl, rfl, rfl⟩ fun t1 => ?_
  refine i_aload_n (pc' := 9) (f_at inc_31 (j := 4) rfl) rfl rfl ?_
  refine i_getR (pc' := 12) (f_at inc_31 (j := 5) rfl) sh_102 rfl (f_lt (o := 102) (m := 155) (Nat.le_of_ble_eq_true rfl) hN) rfl ?_
  refine i_aload_n (pc' := 13) (f_at inc_31 (j := 6) rfl) rfl rfl ?_
  refine i_getR (pc' := 16) (f_at inc_31 (j := 7) rfl) sh_102 rfl (f_lt (o := 102) (m := 155) (Nat.le_of_ble_eq_true rfl) hN) rfl ?_
  refine c_wv (pc' := 19) (c' := 0) (n' := 0) (h_virt (ra := [.ref 103, .ref 121]) (r := []) (as := [.ref 103]) (f_at inc_31 (j := 8) rfl) (by decide) MT_30 rfl rfl rfl ⟨Nat.le_of_ble_eq_true rfl, Nat.le_of_ble_eq_true rfl, Nat.le_of_ble_eq_true rfl⟩ sh_121 (f_lt (o := 121) (m := 155) (Nat.le_of_ble_eq_true rfl) hN)) MT_30 (G_30 hN  t1) ⟨rfl, rfl, rfl⟩ fun t2 => ?_
  exact i_vret (f_at inc_31 (j := 9) rfl) rfl
set_option maxRecDepth 4000 in
theorem G_32 {xs : Nat → Int32} {L N : Nat} (hN : 155 ≤ N)   (σ : f_M) : f_Cal a_MT xs L N 32 [.ref 44] σ ((g_32  σ).bind fun t => some (e_wv t)) := by
  refine f_cal_of (ls := [.ref 44]) MT_32 (Nat.le_of_ble_eq_true rfl) rfl ?_
  unfold g_32
  refine i_aload_n (pc' := 1) (f_at inc_32 (j := 0) rfl) rfl rfl ?_
  refine i_iconst (pc' := 2) (f_at inc_32 (j := 1) rfl) ci_0 rfl ?_
  refine i_putI (pc' := 5) (f_at inc_32 (j := 2) rfl) sh_44 rfl ⟨rfl, rfl⟩ (f_lt (o := 44) (m := 155) (Nat.le_of_ble_eq_true rfl) hN) rfl ?_
  exact i_vret (f_at inc_32 (j := 3) rfl) rfl
set_option maxRecDepth 4000 in
theorem G_33 {xs : Nat → Int32} {L N : Nat} (hN : 155 ≤ N)   (σ : f_M) : f_Cal a_MT xs L N 33 [.ref 0] σ ((g_33  σ).bind fun t => some (e_wi t)) := by
  refine f_cal_of (ls := [.ref 0]) MT_33 (Nat.le_of_ble_eq_true rfl) rfl ?_
  unfold g_33
  refine i_aload_n (pc' := 1) (f_at inc_33 (j := 0) rfl) rfl rfl ?_
  refine c_wv (pc' := 4) (c' := 0) (n' := 0) (h_virt (ra := [.ref 0]) (r := []) (as := []) (f_at inc_33 (j := 1) rfl) (by decide) MT_9 rfl rfl rfl ⟨Nat.le_of_ble_eq_true rfl, Nat.le_of_ble_eq_true rfl, Nat.le_of_ble_eq_true rfl⟩ sh_0 (f_lt (o := 0) (m := 155) (Nat.le_of_ble_eq_true rfl) hN)) MT_9 (G_9 hN  σ) ⟨rfl, rfl, rfl⟩ fun t1 => ?_
  refine i_aload_n (pc' := 5) (f_at inc_33 (j := 2) rfl) rfl rfl ?_
  refine i_getR (pc' := 8) (f_at inc_33 (j := 3) rfl) sh_0 rfl (f_lt (o := 0) (m := 155) (Nat.le_of_ble_eq_true rfl) hN) rfl ?_
  refine i_aload_n (pc' := 9) (f_at inc_33 (j := 4) rfl) rfl rfl ?_
  refine i_getR (pc' := 12) (f_at inc_33 (j := 5) rfl) sh_0 rfl (f_lt (o := 0) (m := 155) (Nat.le_of_ble_eq_true rfl) hN) rfl ?_
  refine c_wb (pc' := 15) (c' := 0) (n' := 0) (h_virt (ra := [.ref 3, .ref 5]) (r := []) (as := [.ref 3]) (f_at inc_33 (j := 6) rfl) (by decide) MT_28 rfl rfl rfl ⟨Nat.le_of_ble_eq_true rfl, Nat.le_of_ble_eq_true rfl, Nat.le_of_ble_eq_true rfl⟩ sh_5 (f_lt (o := 5) (m := 155) (Nat.le_of_ble_eq_true rfl) hN)) MT_28 (G_28 hN  t1) ⟨rfl, rfl, rfl⟩ fun t2 => ?_
  refine i_if0 (pc' := 20) (nx := 18) cb_ne (f_at inc_33 (j := 7) rfl) ⟨by decide, rfl⟩ (fun b5 => ?_) (fun b5 => ?_)
  · refine i_aload_n (pc' := 21) (f_at inc_33 (j := 10) rfl) rfl rfl ?_
    refine i_getR (pc' := 24) (f_at inc_33 (j := 11) rfl) sh_0 rfl (f_lt (o := 0) (m := 155) (Nat.le_of_ble_eq_true rfl) hN) rfl ?_
    refine i_aload_n (pc' := 25) (f_at inc_33 (j := 12) rfl) rfl rfl ?_
    refine i_getR (pc' := 28) (f_at inc_33 (j := 13) rfl) sh_0 rfl (f_lt (o := 0) (m := 155) (Nat.le_of_ble_eq_true rfl) hN) rfl ?_
    refine c_wv (pc' := 31) (c' := 0) (n' := 0) (h_virt (ra := [.ref 5, .ref 102]) (r := []) (as := [.ref 5]) (f_at inc_33 (j := 14) rfl) (by decide) MT_31 rfl rfl rfl ⟨Nat.le_of_ble_eq_true rfl, Nat.le_of_ble_eq_true rfl, Nat.le_of_ble_eq_true rfl⟩ sh_102 (f_lt (o := 102) (m := 155) (Nat.le_of_ble_eq_true rfl) hN)) MT_31 (G_31 hN  t2.2) ⟨rfl, rfl, rfl⟩ fun t3 => ?_
    refine i_aload_n (pc' := 32) (f_at inc_33 (j := 15) rfl) rfl rfl ?_
    refine i_getR (pc' := 35) (f_at inc_33 (j := 16) rfl) sh_0 rfl (f_lt (o := 0) (m := 155) (Nat.le_of_ble_eq_true rfl) hN) rfl ?_
    refine c_wv (pc' := 38) (c' := 0) (n' := 0) (h_virt (ra := [.ref 44]) (r := []) (as := []) (f_at inc_33 (j := 17) rfl) (by decide) MT_32 rfl rfl rfl ⟨Nat.le_of_ble_eq_true rfl, Nat.le_of_ble_eq_true rfl, Nat.le_of_ble_eq_true rfl⟩ sh_44 (f_lt (o := 44) (m := 155) (Nat.le_of_ble_eq_true rfl) hN)) MT_32 (G_32 hN  t3) ⟨rfl, rfl, rfl⟩ fun t4 => ?_
    refine i_aload_n (pc' := 39) (f_at inc_33 (j := 18) rfl) rfl rfl ?_
    refine i_iconst (pc' := 40) (f_at inc_33 (j := 19) rfl) ci_0 rfl ?_
    refine i_putI (pc' := 43) (f_at inc_33 (j := 20) rfl) sh_0 rfl (by decide) (f_lt (o := 0) (m := 155) (Nat.le_of_ble_eq_true rfl) hN) rfl ?_
    refine i_aload_n (pc' := 44) (f_at inc_33 (j := 21) rfl) rfl rfl ?_
    refine i_getR (pc' := 47) (f_at inc_33 (j := 22) rfl) sh_0 rfl (f_lt (o := 0) (m := 155) (Nat.le_of_ble_eq_true rfl) hN) rfl ?_
    refine i_getI (pc' := 50) (f_at inc_33 (j := 23) rfl) sh_103 rfl (f_lt (o := 103) (m := 155) (Nat.le_of_ble_eq_true rfl) hN) rfl ?_
    exact i_iret (f_at inc_33 (j := 24) rfl) rfl n_int
  · refine i_iconst (pc' := 19) (f_at inc_33 (j := 8) rfl) ci_m1 rfl ?_
    exact i_iret (f_at inc_33 (j := 9) rfl) rfl n_int
set_option maxRecDepth 4000 in
def l_bits (a0 : Int32) (a1 : Int32) (a2 : Int32) (σ : f_M) : Option (Int32) :=
  some ((((a0).toUInt32 >>> ((a1).toUInt32 &&& Int32.toUInt32 31)).toInt32) &&& (((1 : Int32) <<< (a2 &&& 31)) - (1 : Int32)))
set_option maxRecDepth 4000 in
theorem L_bits {xs : Nat → Int32} {L N : Nat} (hN : 181 ≤ N) (a0 : Int32) (a1 : Int32) (a2 : Int32)  (σ : f_M) : f_Cal a_MT xs L N 37 [.int a0, .int a1, .int a2] σ ((l_bits a0 a1 a2 σ).bind fun t => some (e_pi σ t)) := by
  refine f_cal_of (ls := [.int a0, .int a1, .int a2]) MT_37 (Nat.le_of_ble_eq_true rfl) rfl ?_
  unfold l_bits
  refine i_iload_n (pc' := 1) (f_at inc_37 (j := 0) rfl) rfl rfl ?_
  refine i_iload_n (pc' := 2) (f_at inc_37 (j := 1) rfl) rfl rfl ?_
  refine i_iushr (pc' := 3) (f_at inc_37 (j := 2) rfl) rfl ?_
  refine i_iconst (pc' := 4) (f_at inc_37 (j := 3) rfl) ci_1 rfl ?_
  refine i_iload_n (pc' := 5) (f_at inc_37 (j := 4) rfl) rfl rfl ?_
  refine i_ishl (pc' := 6) (f_at inc_37 (j := 5) rfl) rfl ?_
  refine i_iconst (pc' := 7) (f_at inc_37 (j := 6) rfl) ci_1 rfl ?_
  refine i_isub (pc' := 8) (f_at inc_37 (j := 7) rfl) rfl ?_
  refine i_iand (pc' := 9) (f_at inc_37 (j := 8) rfl) rfl ?_
  exact i_iret (f_at inc_37 (j := 9) rfl) rfl n_int
set_option maxRecDepth 4000 in
theorem G_41 {xs : Nat → Int32} {L N : Nat} (hN : 155 ≤ N) (a1 : Int32)  (σ : f_M) : f_Cal a_MT xs L N 38 [.ref 0, .int a1] σ ((g_41 a1 σ).bind fun t => some (e_wv t)) := by
  refine f_cal_of (ls := [.ref 0, .int a1, a_dead]) MT_38 (Nat.le_of_ble_eq_true rfl) rfl ?_
  unfold g_41
  refine i_bipush (pc' := 2) (f_at inc_38 (j := 0) rfl) cb_24 rfl ?_
  refine i_istore_n (pc' := 3) (ls' := [.ref 0, .int a1, .int (24 : Int32)]) (f_at inc_38 (j := 1) rfl) (Nat.le_of_ble_eq_true rfl) rfl rfl ?_
  refine s_lX (X := 46) ((24 : Int32), σ) () (fun (s1 : Int32 × f_M) (u1 : Unit) => [.ref 0, .int a1, .int s1.1]) (fun (s1 : Int32 × f_M) => s1.2) (fun (x1 : f_M) (w1 : Value) => [.ref 0, .int a1, w1]) (fun (x1 : f_M) => x1) ?_ ?_
  · intro x1 w1
    exact i_vret (f_at inc_38 (j := 25) rfl) rfl
  · intro s1 u1 k1 hb1 hx1
    refine i_iload_n (pc' := 4) (f_at inc_38 (j := 2) rfl) rfl rfl ?_
    refine i_if0 (pc' := 46) (nx := 7) c0_lt (f_at inc_38 (j := 3) rfl) ⟨by decide, rfl⟩ (fun b4 => ?_) (fun b4 => ?_)
    · exact hx1 s1.2 (.int s1.1)
    · refine i_aload_n (pc' := 8) (f_at inc_38 (j := 4) rfl) rfl rfl ?_
      refine i_getI (pc' := 11) (f_at inc_38 (j := 5) rfl) sh_0 rfl (f_lt (o := 0) (m := 155) (Nat.le_of_ble_eq_true rfl) hN) rfl ?_
      refine i_sipush (pc' := 14) (f_at inc_38 (j := 6) rfl) cs_600 rfl ?_
      refine i_if2 (pc' := 46) (nx := 17) c2_ge (f_at inc_38 (j := 7) rfl) ⟨by decide, rfl⟩ (fun b3 => ?_) (fun b3 => ?_)
      · exact hx1 s1.2 (.int s1.1)
      · refine i_aload_n (pc' := 18) (f_at inc_38 (j := 8) rfl) rfl rfl ?_
        refine i_getR (pc' := 21) (f_at inc_38 (j := 9) rfl) sh_0 rfl (f_lt (o := 0) (m := 155) (Nat.le_of_ble_eq_true rfl) hN) rfl ?_
        refine i_aload_n (pc' := 22) (f_at inc_38 (j := 10) rfl) rfl rfl ?_
        refine i_getI (pc' := 25) (f_at inc_38 (j := 11) rfl) sh_0 rfl (f_lt (o := 0) (m := 155) (Nat.le_of_ble_eq_true rfl) hN) rfl ?_
        refine i_iload_n (pc' := 26) (f_at inc_38 (j := 12) rfl) rfl rfl ?_
        refine i_iload_n (pc' := 27) (f_at inc_38 (j := 13) rfl) rfl rfl ?_
        refine i_iushr (pc' := 28) (f_at inc_38 (j := 14) rfl) rfl ?_
        refine i_i2b (pc' := 29) (f_at inc_38 (j := 15) rfl) rfl ?_
        refine i_bast (pc' := 30) (f_at inc_38 (j := 16) rfl) sh_1 (Or.inl rfl) rfl (f_lt (o := 1) (m := 155) (Nat.le_of_ble_eq_true rfl) hN) rfl fun m2 => ?_
        refine i_aload_n (pc' := 31) (f_at inc_38 (j := 17) rfl) rfl rfl ?_
        refine i_dup (pc' := 32) (f_at inc_38 (j := 18) rfl) rfl rfl ?_
        refine i_getI (pc' := 35) (f_at inc_38 (j := 19) rfl) sh_0 rfl (f_lt (o := 0) (m := 155) (Nat.le_of_ble_eq_true rfl) hN) rfl ?_
        refine i_iconst (pc' := 36) (f_at inc_38 (j := 20) rfl) ci_1 rfl ?_
        refine i_iadd (pc' := 37) (f_at inc_38 (j := 21) rfl) rfl ?_
        refine i_putI (pc' := 40) (f_at inc_38 (j := 22) rfl) sh_0 rfl ⟨rfl, rfl⟩ (f_lt (o := 0) (m := 155) (Nat.le_of_ble_eq_true rfl) hN) rfl ?_
        refine i_iinc (pc' := 43) (ls' := [.ref 0, .int a1, .int (s1.1 + (-8 : Int32))]) (f_at inc_38 (j := 23) rfl) rfl ci_m8 rfl rfl ?_
        refine i_goto (pc' := 3) (f_at inc_38 (j := 24) rfl) (by decide) ?_
        exact hb1 ((s1.1 + (-8 : Int32)), (f_up m2 0 1 ((m2 0 1) + (1 : Int32)))) ()
set_option maxRecDepth 4000 in
theorem G_42 {xs : Nat → Int32} {L N : Nat} (hN : 155 ≤ N) (a1 : Int32) (a2 : Int32) (a3 : Int32) (a4 : Int32) (a5 : Int32)  (σ : f_M) : f_Cal a_MT xs L N 39 [.ref 0, .int a1, .int a2, .int a3, .int a4, .int a5] σ ((g_42 a1 a2 a3 a4 a5 σ).bind fun t => some (e_wi t)) := by
  refine f_cal_of (ls := [.ref 0, .int a1, .int a2, .int a3, .int a4, .int a5]) MT_39 (Nat.le_of_ble_eq_true rfl) rfl ?_
  unfold g_42
  refine i_aload_n (pc' := 1) (f_at inc_39 (j := 0) rfl) rfl rfl ?_
  refine i_getI (pc' := 4) (f_at inc_39 (j := 1) rfl) sh_0 rfl (f_lt (o := 0) (m := 155) (Nat.le_of_ble_eq_true rfl) hN) rfl ?_
  refine i_bipush (pc' := 6) (f_at inc_39 (j := 2) rfl) cb_20 rfl ?_
  refine i_iadd (pc' := 7) (f_at inc_39 (j := 3) rfl) rfl ?_
  refine i_sipush (pc' := 10) (f_at inc_39 (j := 4) rfl) cs_600 rfl ?_
  refine i_if2 (pc' := 15) (nx := 13) c2_le (f_at inc_39 (j := 5) rfl) ⟨by decide, rfl⟩ (fun b6 => ?_) (fun b6 => ?_)
  · refine i_aload_n (pc' := 16) (f_at inc_39 (j := 8) rfl) rfl rfl ?_
    refine i_iload_n (pc' := 17) (f_at inc_39 (j := 9) rfl) rfl rfl ?_
    refine c_wv (pc' := 20) (c' := 0) (n' := 0) (h_virt (ra := [.int a1, .ref 0]) (r := []) (as := [.int a1]) (f_at inc_39 (j := 10) rfl) (by decide) MT_38 rfl rfl rfl ⟨Nat.le_of_ble_eq_true rfl, Nat.le_of_ble_eq_true rfl, Nat.le_of_ble_eq_true rfl⟩ sh_0 (f_lt (o := 0) (m := 155) (Nat.le_of_ble_eq_true rfl) hN)) MT_38 (G_41 hN a1 σ) ⟨rfl, rfl, rfl⟩ fun t1 => ?_
    refine i_aload_n (pc' := 21) (f_at inc_39 (j := 11) rfl) rfl rfl ?_
    refine i_iload_n (pc' := 22) (f_at inc_39 (j := 12) rfl) rfl rfl ?_
    refine c_wv (pc' := 25) (c' := 0) (n' := 0) (h_virt (ra := [.int a2, .ref 0]) (r := []) (as := [.int a2]) (f_at inc_39 (j := 13) rfl) (by decide) MT_38 rfl rfl rfl ⟨Nat.le_of_ble_eq_true rfl, Nat.le_of_ble_eq_true rfl, Nat.le_of_ble_eq_true rfl⟩ sh_0 (f_lt (o := 0) (m := 155) (Nat.le_of_ble_eq_true rfl) hN)) MT_38 (G_41 hN a2 t1) ⟨rfl, rfl, rfl⟩ fun t2 => ?_
    refine i_aload_n (pc' := 26) (f_at inc_39 (j := 14) rfl) rfl rfl ?_
    refine i_iload_n (pc' := 27) (f_at inc_39 (j := 15) rfl) rfl rfl ?_
    refine c_wv (pc' := 30) (c' := 0) (n' := 0) (h_virt (ra := [.int a3, .ref 0]) (r := []) (as := [.int a3]) (f_at inc_39 (j := 16) rfl) (by decide) MT_38 rfl rfl rfl ⟨Nat.le_of_ble_eq_true rfl, Nat.le_of_ble_eq_true rfl, Nat.le_of_ble_eq_true rfl⟩ sh_0 (f_lt (o := 0) (m := 155) (Nat.le_of_ble_eq_true rfl) hN)) MT_38 (G_41 hN a3 t2) ⟨rfl, rfl, rfl⟩ fun t3 => ?_
    refine i_aload_n (pc' := 31) (f_at inc_39 (j := 17) rfl) rfl rfl ?_
    refine i_iload (pc' := 33) (f_at inc_39 (j := 18) rfl) rfl rfl ?_
    refine c_wv (pc' := 36) (c' := 0) (n' := 0) (h_virt (ra := [.int a4, .ref 0]) (r := []) (as := [.int a4]) (f_at inc_39 (j := 19) rfl) (by decide) MT_38 rfl rfl rfl ⟨Nat.le_of_ble_eq_true rfl, Nat.le_of_ble_eq_true rfl, Nat.le_of_ble_eq_true rfl⟩ sh_0 (f_lt (o := 0) (m := 155) (Nat.le_of_ble_eq_true rfl) hN)) MT_38 (G_41 hN a4 t3) ⟨rfl, rfl, rfl⟩ fun t4 => ?_
    refine i_aload_n (pc' := 37) (f_at inc_39 (j := 20) rfl) rfl rfl ?_
    refine i_iload (pc' := 39) (f_at inc_39 (j := 21) rfl) rfl rfl ?_
    refine c_wv (pc' := 42) (c' := 0) (n' := 0) (h_virt (ra := [.int a5, .ref 0]) (r := []) (as := [.int a5]) (f_at inc_39 (j := 22) rfl) (by decide) MT_38 rfl rfl rfl ⟨Nat.le_of_ble_eq_true rfl, Nat.le_of_ble_eq_true rfl, Nat.le_of_ble_eq_true rfl⟩ sh_0 (f_lt (o := 0) (m := 155) (Nat.le_of_ble_eq_true rfl) hN)) MT_38 (G_41 hN a5 t4) ⟨rfl, rfl, rfl⟩ fun t5 => ?_
    refine i_aload_n (pc' := 43) (f_at inc_39 (j := 23) rfl) rfl rfl ?_
    refine i_getI (pc' := 46) (f_at inc_39 (j := 24) rfl) sh_0 rfl (f_lt (o := 0) (m := 155) (Nat.le_of_ble_eq_true rfl) hN) rfl ?_
    exact i_iret (f_at inc_39 (j := 25) rfl) rfl n_int
  · refine i_iconst (pc' := 14) (f_at inc_39 (j := 6) rfl) ci_m1 rfl ?_
    exact i_iret (f_at inc_39 (j := 7) rfl) rfl n_int
set_option maxRecDepth 4000 in
theorem G_45 {xs : Nat → Int32} {L N : Nat} (hN : 155 ≤ N) (a1 : Int32)  (σ : f_M) : f_Cal a_MT xs L N 40 [.ref 0, .int a1] σ ((g_45 a1 σ).bind fun t => some (e_wb t)) := by
  refine f_cal_of (ls := [.ref 0, .int a1]) MT_40 (Nat.le_of_ble_eq_true rfl) rfl ?_
  unfold g_45
  refine i_iload_n (pc' := 1) (f_at inc_40 (j := 0) rfl) rfl rfl ?_
  refine i_if0 (pc' := 12) (nx := 4) c0_lt (f_at inc_40 (j := 1) rfl) ⟨by decide, rfl⟩ (fun b2 => ?_) (fun b2 => ?_)
  · refine i_iconst (pc' := 13) (f_at inc_40 (j := 6) rfl) ci_0 rfl ?_
    exact i_iret (v := f_b false) (f_at inc_40 (j := 7) rfl) rfl n_bool
  · refine i_iload_n (pc' := 5) (f_at inc_40 (j := 2) rfl) rfl rfl ?_
    refine i_aload_n (pc' := 6) (f_at inc_40 (j := 3) rfl) rfl rfl ?_
    refine i_getI (pc' := 9) (f_at inc_40 (j := 4) rfl) sh_0 rfl (f_lt (o := 0) (m := 155) (Nat.le_of_ble_eq_true rfl) hN) rfl ?_
    refine i_if2 (pc' := 14) (nx := 12) c2_le (f_at inc_40 (j := 5) rfl) ⟨by decide, rfl⟩ (fun b1 => ?_) (fun b1 => ?_)
    · refine i_aload_n (pc' := 15) (f_at inc_40 (j := 8) rfl) rfl rfl ?_
      refine i_iload_n (pc' := 16) (f_at inc_40 (j := 9) rfl) rfl rfl ?_
      refine i_putI (pc' := 19) (f_at inc_40 (j := 10) rfl) sh_0 rfl ⟨rfl, rfl⟩ (f_lt (o := 0) (m := 155) (Nat.le_of_ble_eq_true rfl) hN) rfl ?_
      refine i_iconst (pc' := 20) (f_at inc_40 (j := 11) rfl) ci_1 rfl ?_
      exact i_iret (v := f_b true) (f_at inc_40 (j := 12) rfl) rfl n_bool
    · refine i_iconst (pc' := 13) (f_at inc_40 (j := 6) rfl) ci_0 rfl ?_
      exact i_iret (v := f_b false) (f_at inc_40 (j := 7) rfl) rfl n_bool
set_option maxRecDepth 4000 in
theorem G_164 {xs : Nat → Int32} {L N : Nat} (hN : 155 ≤ N)   (σ : f_M) : f_Cal a_MT xs L N 42 [.ref 0] σ ((g_164  σ).bind fun t => some (e_pi σ t)) := by
  refine f_cal_of (ls := [.ref 0]) MT_42 (Nat.le_of_ble_eq_true rfl) rfl ?_
  unfold g_164
  refine i_aload_n (pc' := 1) (f_at inc_42 (j := 0) rfl) rfl rfl ?_
  refine i_getR (pc' := 4) (f_at inc_42 (j := 1) rfl) sh_0 rfl (f_lt (o := 0) (m := 155) (Nat.le_of_ble_eq_true rfl) hN) rfl ?_
  refine i_getI (pc' := 7) (f_at inc_42 (j := 2) rfl) sh_121 rfl (f_lt (o := 121) (m := 155) (Nat.le_of_ble_eq_true rfl) hN) rfl ?_
  exact i_iret (f_at inc_42 (j := 3) rfl) rfl n_int
set_option maxRecDepth 4000 in
theorem G_167 {xs : Nat → Int32} {L N : Nat} (hN : 155 ≤ N)   (σ : f_M) : f_Cal a_MT xs L N 43 [.ref 0] σ ((g_167  σ).bind fun t => some (e_pi σ t)) := by
  refine f_cal_of (ls := [.ref 0]) MT_43 (Nat.le_of_ble_eq_true rfl) rfl ?_
  unfold g_167
  refine i_aload_n (pc' := 1) (f_at inc_43 (j := 0) rfl) rfl rfl ?_
  refine i_getR (pc' := 4) (f_at inc_43 (j := 1) rfl) sh_0 rfl (f_lt (o := 0) (m := 155) (Nat.le_of_ble_eq_true rfl) hN) rfl ?_
  refine i_getI (pc' := 7) (f_at inc_43 (j := 2) rfl) sh_121 rfl (f_lt (o := 121) (m := 155) (Nat.le_of_ble_eq_true rfl) hN) rfl ?_
  exact i_iret (f_at inc_43 (j := 3) rfl) rfl n_int
set_option maxRecDepth 4000 in
theorem G_194 {xs : Nat → Int32} {L N : Nat} (hN : 155 ≤ N)   (σ : f_M) : f_Cal a_MT xs L N 44 [.ref 0] σ ((g_194  σ).bind fun t => some (e_pi σ t)) := by
  refine f_cal_of (ls := [.ref 0]) MT_44 (Nat.le_of_ble_eq_true rfl) rfl ?_
  unfold g_194
  refine i_aload_n (pc' := 1) (f_at inc_44 (j := 0) rfl) rfl rfl ?_
  refine i_getR (pc' := 4) (f_at inc_44 (j := 1) rfl) sh_0 rfl (f_lt (o := 0) (m := 155) (Nat.le_of_ble_eq_true rfl) hN) rfl ?_
  refine i_getI (pc' := 7) (f_at inc_44 (j := 2) rfl) sh_121 rfl (f_lt (o := 121) (m := 155) (Nat.le_of_ble_eq_true rfl) hN) rfl ?_
  exact i_iret (f_at inc_44 (j := 3) rfl) rfl n_int
set_option maxRecDepth 4000 in
theorem G_228 {xs : Nat → Int32} {L N : Nat} (hN : 155 ≤ N)   (σ : f_M) : f_Cal a_MT xs L N 45 [.ref 0] σ ((g_228  σ).bind fun t => some (e_pi σ t)) := by
  refine f_cal_of (ls := [.ref 0]) MT_45 (Nat.le_of_ble_eq_true rfl) rfl ?_
  unfold g_228
  refine i_aload_n (pc' := 1) (f_at inc_45 (j := 0) rfl) rfl rfl ?_
  refine i_getR (pc' := 4) (f_at inc_45 (j := 1) rfl) sh_0 rfl (f_lt (o := 0) (m := 155) (Nat.le_of_ble_eq_true rfl) hN) rfl ?_
  refine i_getI (pc' := 7) (f_at inc_45 (j := 2) rfl) sh_121 rfl (f_lt (o := 121) (m := 155) (Nat.le_of_ble_eq_true rfl) hN) rfl ?_
  exact i_iret (f_at inc_45 (j := 3) rfl) rfl n_int
set_option maxRecDepth 4000 in
theorem G_269 {xs : Nat → Int32} {L N : Nat} (hN : 155 ≤ N)   (σ : f_M) : f_Cal a_MT xs L N 46 [.ref 0] σ ((g_269  σ).bind fun t => some (e_pi σ t)) := by
  refine f_cal_of (ls := [.ref 0]) MT_46 (Nat.le_of_ble_eq_true rfl) rfl ?_
  unfold g_269
  refine i_aload_n (pc' := 1) (f_at inc_46 (j := 0) rfl) rfl rfl ?_
  refine i_getR (pc' := 4) (f_at inc_46 (j := 1) rfl) sh_0 rfl (f_lt (o := 0) (m := 155) (Nat.le_of_ble_eq_true rfl) hN) rfl ?_
  refine i_getI (pc' := 7) (f_at inc_46 (j := 2) rfl) sh_121 rfl (f_lt (o := 121) (m := 155) (Nat.le_of_ble_eq_true rfl) hN) rfl ?_
  exact i_iret (f_at inc_46 (j := 3) rfl) rfl n_int
set_option maxRecDepth 4000 in
theorem G_271 {xs : Nat → Int32} {L N : Nat} (hN : 155 ≤ N)   (σ : f_M) : f_Cal a_MT xs L N 47 [.ref 0] σ ((g_271  σ).bind fun t => some (e_pi σ t)) := by
  refine f_cal_of (ls := [.ref 0]) MT_47 (Nat.le_of_ble_eq_true rfl) rfl ?_
  unfold g_271
  refine i_aload_n (pc' := 1) (f_at inc_47 (j := 0) rfl) rfl rfl ?_
  refine i_getR (pc' := 4) (f_at inc_47 (j := 1) rfl) sh_0 rfl (f_lt (o := 0) (m := 155) (Nat.le_of_ble_eq_true rfl) hN) rfl ?_
  refine i_getI (pc' := 7) (f_at inc_47 (j := 2) rfl) sh_121 rfl (f_lt (o := 121) (m := 155) (Nat.le_of_ble_eq_true rfl) hN) rfl ?_
  exact i_iret (f_at inc_47 (j := 3) rfl) rfl n_int
set_option maxRecDepth 4000 in
theorem G_273 {xs : Nat → Int32} {L N : Nat} (hN : 155 ≤ N)   (σ : f_M) : f_Cal a_MT xs L N 48 [.ref 0] σ ((g_273  σ).bind fun t => some (e_pi σ t)) := by
  refine f_cal_of (ls := [.ref 0]) MT_48 (Nat.le_of_ble_eq_true rfl) rfl ?_
  unfold g_273
  refine i_aload_n (pc' := 1) (f_at inc_48 (j := 0) rfl) rfl rfl ?_
  refine i_getR (pc' := 4) (f_at inc_48 (j := 1) rfl) sh_0 rfl (f_lt (o := 0) (m := 155) (Nat.le_of_ble_eq_true rfl) hN) rfl ?_
  refine i_getI (pc' := 7) (f_at inc_48 (j := 2) rfl) sh_121 rfl (f_lt (o := 121) (m := 155) (Nat.le_of_ble_eq_true rfl) hN) rfl ?_
  exact i_iret (f_at inc_48 (j := 3) rfl) rfl n_int
set_option maxRecDepth 4000 in
theorem G_264 {xs : Nat → Int32} {L N : Nat} (hN : 155 ≤ N)   (σ : f_M) : f_Cal a_MT xs L N 49 [.ref 0] σ ((g_264  σ).bind fun t => some (e_pi σ t)) := by
  refine f_cal_of (ls := [.ref 0]) MT_49 (Nat.le_of_ble_eq_true rfl) rfl ?_
  unfold g_264
  refine i_aload_n (pc' := 1) (f_at inc_49 (j := 0) rfl) rfl rfl ?_
  refine i_getR (pc' := 4) (f_at inc_49 (j := 1) rfl) sh_0 rfl (f_lt (o := 0) (m := 155) (Nat.le_of_ble_eq_true rfl) hN) rfl ?_
  refine i_getI (pc' := 7) (f_at inc_49 (j := 2) rfl) sh_121 rfl (f_lt (o := 121) (m := 155) (Nat.le_of_ble_eq_true rfl) hN) rfl ?_
  refine i_aload_n (pc' := 8) (f_at inc_49 (j := 3) rfl) rfl rfl ?_
  refine i_getR (pc' := 11) (f_at inc_49 (j := 4) rfl) sh_0 rfl (f_lt (o := 0) (m := 155) (Nat.le_of_ble_eq_true rfl) hN) rfl ?_
  refine i_getI (pc' := 14) (f_at inc_49 (j := 5) rfl) sh_121 rfl (f_lt (o := 121) (m := 155) (Nat.le_of_ble_eq_true rfl) hN) rfl ?_
  refine s_join (J := 36) (fun (t1 : Int32) (u1 : Unit) => [.ref 0]) (fun t1 => [.int t1]) (fun t1 => σ) ?_ ?_
  · intro t1 u1
    exact i_iret (f_at inc_49 (j := 16) rfl) rfl n_int
  · intro k1 hj1
    refine i_if2 (pc' := 35) (nx := 17) c2_ge (f_at inc_49 (j := 6) rfl) ⟨by decide, rfl⟩ (fun b3 => ?_) (fun b3 => ?_)
    · refine i_iconst (pc' := 36) (f_at inc_49 (j := 15) rfl) ci_m1 rfl ?_
      exact hj1 (-1 : Int32) ()
    · refine i_aload_n (pc' := 18) (f_at inc_49 (j := 7) rfl) rfl rfl ?_
      refine i_getR (pc' := 21) (f_at inc_49 (j := 8) rfl) sh_0 rfl (f_lt (o := 0) (m := 155) (Nat.le_of_ble_eq_true rfl) hN) rfl ?_
      refine i_getR (pc' := 24) (f_at inc_49 (j := 9) rfl) sh_121 rfl (f_lt (o := 121) (m := 155) (Nat.le_of_ble_eq_true rfl) hN) rfl ?_
      refine i_aload_n (pc' := 25) (f_at inc_49 (j := 10) rfl) rfl rfl ?_
      refine i_getR (pc' := 28) (f_at inc_49 (j := 11) rfl) sh_0 rfl (f_lt (o := 0) (m := 155) (Nat.le_of_ble_eq_true rfl) hN) rfl ?_
      refine i_getI (pc' := 31) (f_at inc_49 (j := 12) rfl) sh_121 rfl (f_lt (o := 121) (m := 155) (Nat.le_of_ble_eq_true rfl) hN) rfl ?_
      refine i_iald (pc' := 32) (f_at inc_49 (j := 13) rfl) sh_127 (f_bg (Nat.le_of_ble_eq_true rfl)) (f_lt (o := 127) (m := 155) (Nat.le_of_ble_eq_true rfl) hN) rfl fun v2 => ?_
      refine i_goto (pc' := 36) (f_at inc_49 (j := 14) rfl) (by decide) ?_
      exact hj1 v2 ()
set_option maxRecDepth 4000 in
def p_171 (a0 : Int32) (a1 : Int32) (σ : f_M) : Option (Unit) :=
  if a0 < 0 then (
   none
  ) else (
   if a0 < a1 then (
    some ()
   ) else (
    none
   )
  )
set_option maxRecDepth 4000 in
theorem P_171 {xs : Nat → Int32} {L N : Nat} (hN : 155 ≤ N) (a0 : Int32) (a1 : Int32)  (σ : f_M) : f_Cal a_MT xs L N 50 [.int a0, .int a1] σ ((p_171 a0 a1 σ).bind fun t => some (e_pv σ t)) := by
  refine f_cal_of (ls := [.int a0, .int a1]) MT_50 (Nat.le_of_ble_eq_true rfl) rfl ?_
  unfold p_171
  refine i_iload_n (pc' := 1) (f_at inc_50 (j := 0) rfl) rfl rfl ?_
  refine i_if0 (pc' := 9) (nx := 4) c0_lt (f_at inc_50 (j := 1) rfl) ⟨by decide, rfl⟩ (fun b2 => ?_) (fun b2 => ?_)
  · exact f_none
  · refine i_iload_n (pc' := 5) (f_at inc_50 (j := 2) rfl) rfl rfl ?_
    refine i_iload_n (pc' := 6) (f_at inc_50 (j := 3) rfl) rfl rfl ?_
    refine i_if2 (pc' := 20) (nx := 9) c2_lt (f_at inc_50 (j := 4) rfl) ⟨by decide, rfl⟩ (fun b1 => ?_) (fun b1 => ?_)
    · exact i_vret (f_at inc_50 (j := 5) rfl) rfl
    · exact f_none
set_option maxRecDepth 4000 in
def p_172 (a1 : Int32) (σ : f_M) : Option (Unit) :=
  (p_171 a1 (σ 103 0) σ).bind fun _ =>
  some ()
set_option maxRecDepth 4000 in
theorem P_172 {xs : Nat → Int32} {L N : Nat} (hN : 155 ≤ N) (a1 : Int32)  (σ : f_M) : f_Cal a_MT xs L N 51 [.ref 0, .int a1] σ ((p_172 a1 σ).bind fun t => some (e_pv σ t)) := by
  refine f_cal_of (ls := [.ref 0, .int a1]) MT_51 (Nat.le_of_ble_eq_true rfl) rfl ?_
  unfold p_172
  refine i_iload_n (pc' := 1) (f_at inc_51 (j := 0) rfl) rfl rfl ?_
  refine i_aload_n (pc' := 2) (f_at inc_51 (j := 1) rfl) rfl rfl ?_
  refine i_getR (pc' := 5) (f_at inc_51 (j := 2) rfl) sh_0 rfl (f_lt (o := 0) (m := 155) (Nat.le_of_ble_eq_true rfl) hN) rfl ?_
  refine i_getI (pc' := 8) (f_at inc_51 (j := 3) rfl) sh_103 rfl (f_lt (o := 103) (m := 155) (Nat.le_of_ble_eq_true rfl) hN) rfl ?_
  refine c_pv (pc' := 11) (c' := 0) (n' := 0) (h_stat (ra := [.int (σ 103 0), .int a1]) (r := []) (as := [.int a1, .int (σ 103 0)]) (f_at inc_51 (j := 4) rfl) (by decide) MT_50 rfl rfl rfl ⟨Nat.le_of_ble_eq_true rfl, Nat.le_of_ble_eq_true rfl, Nat.le_of_ble_eq_true rfl⟩) MT_50 (P_171 hN a1 (σ 103 0) σ) ⟨rfl, rfl, rfl⟩ ?_
  exact i_vret (f_at inc_51 (j := 5) rfl) rfl
set_option maxRecDepth 4000 in
def p_179 (a1 : Int32) (σ : f_M) : Option (Int32) :=
  (p_172 a1 σ).bind fun _ =>
  (f_rd σ 122 8 a1).bind fun v2 =>
  some v2
set_option maxRecDepth 4000 in
theorem P_179 {xs : Nat → Int32} {L N : Nat} (hN : 155 ≤ N) (a1 : Int32)  (σ : f_M) : f_Cal a_MT xs L N 52 [.ref 0, .int a1] σ ((p_179 a1 σ).bind fun t => some (e_pi σ t)) := by
  refine f_cal_of (ls := [.ref 0, .int a1]) MT_52 (Nat.le_of_ble_eq_true rfl) rfl ?_
  unfold p_179
  refine i_aload_n (pc' := 1) (f_at inc_52 (j := 0) rfl) rfl rfl ?_
  refine i_iload_n (pc' := 2) (f_at inc_52 (j := 1) rfl) rfl rfl ?_
  refine c_pv (pc' := 5) (c' := 0) (n' := 0) (h_virt (ra := [.int a1, .ref 0]) (r := []) (as := [.int a1]) (f_at inc_52 (j := 2) rfl) (by decide) MT_51 rfl rfl rfl ⟨Nat.le_of_ble_eq_true rfl, Nat.le_of_ble_eq_true rfl, Nat.le_of_ble_eq_true rfl⟩ sh_0 (f_lt (o := 0) (m := 155) (Nat.le_of_ble_eq_true rfl) hN)) MT_51 (P_172 hN a1 σ) ⟨rfl, rfl, rfl⟩ ?_
  refine i_aload_n (pc' := 6) (f_at inc_52 (j := 3) rfl) rfl rfl ?_
  refine i_getR (pc' := 9) (f_at inc_52 (j := 4) rfl) sh_0 rfl (f_lt (o := 0) (m := 155) (Nat.le_of_ble_eq_true rfl) hN) rfl ?_
  refine i_getR (pc' := 12) (f_at inc_52 (j := 5) rfl) sh_121 rfl (f_lt (o := 121) (m := 155) (Nat.le_of_ble_eq_true rfl) hN) rfl ?_
  refine i_iload_n (pc' := 13) (f_at inc_52 (j := 6) rfl) rfl rfl ?_
  refine i_iald (pc' := 14) (f_at inc_52 (j := 7) rfl) sh_122 (f_bg (Nat.le_of_ble_eq_true rfl)) (f_lt (o := 122) (m := 155) (Nat.le_of_ble_eq_true rfl) hN) rfl fun v2 => ?_
  exact i_iret (f_at inc_52 (j := 8) rfl) rfl n_int
set_option maxRecDepth 4000 in
def p_196 (a1 : Int32) (σ : f_M) : Option (Unit) :=
  (p_171 a1 (σ 121 3) σ).bind fun _ =>
  some ()
set_option maxRecDepth 4000 in
theorem P_196 {xs : Nat → Int32} {L N : Nat} (hN : 155 ≤ N) (a1 : Int32)  (σ : f_M) : f_Cal a_MT xs L N 53 [.ref 0, .int a1] σ ((p_196 a1 σ).bind fun t => some (e_pv σ t)) := by
  refine f_cal_of (ls := [.ref 0, .int a1]) MT_53 (Nat.le_of_ble_eq_true rfl) rfl ?_
  unfold p_196
  refine i_iload_n (pc' := 1) (f_at inc_53 (j := 0) rfl) rfl rfl ?_
  refine i_aload_n (pc' := 2) (f_at inc_53 (j := 1) rfl) rfl rfl ?_
  refine i_getR (pc' := 5) (f_at inc_53 (j := 2) rfl) sh_0 rfl (f_lt (o := 0) (m := 155) (Nat.le_of_ble_eq_true rfl) hN) rfl ?_
  refine i_getI (pc' := 8) (f_at inc_53 (j := 3) rfl) sh_121 rfl (f_lt (o := 121) (m := 155) (Nat.le_of_ble_eq_true rfl) hN) rfl ?_
  refine c_pv (pc' := 11) (c' := 0) (n' := 0) (h_stat (ra := [.int (σ 121 3), .int a1]) (r := []) (as := [.int a1, .int (σ 121 3)]) (f_at inc_53 (j := 4) rfl) (by decide) MT_50 rfl rfl rfl ⟨Nat.le_of_ble_eq_true rfl, Nat.le_of_ble_eq_true rfl, Nat.le_of_ble_eq_true rfl⟩) MT_50 (P_171 hN a1 (σ 121 3) σ) ⟨rfl, rfl, rfl⟩ ?_
  exact i_vret (f_at inc_53 (j := 5) rfl) rfl
set_option maxRecDepth 4000 in
theorem G_77 {xs : Nat → Int32} {L N : Nat} (hN : 155 ≤ N) (a0 : Int32) (a1 : Int32)  (σ : f_M) : f_Cal a_MT xs L N 54 [.int a0, .int a1] σ ((g_77 a0 a1 σ).bind fun t => some (e_pi σ t)) := by
  refine f_cal_of (ls := [.int a0, .int a1]) MT_54 (Nat.le_of_ble_eq_true rfl) rfl ?_
  unfold g_77
  refine i_iload_n (pc' := 1) (f_at inc_54 (j := 0) rfl) rfl rfl ?_
  refine i_iload_n (pc' := 2) (f_at inc_54 (j := 1) rfl) rfl rfl ?_
  refine i_imul (pc' := 3) (f_at inc_54 (j := 2) rfl) rfl ?_
  refine i_bipush (pc' := 5) (f_at inc_54 (j := 3) rfl) cb_40 rfl ?_
  refine i_idiv (pc' := 6) (f_at inc_54 (j := 4) rfl) (by decide) rfl ?_
  refine i_iconst (pc' := 7) (f_at inc_54 (j := 5) rfl) ci_1 rfl ?_
  refine i_iadd (pc' := 8) (f_at inc_54 (j := 6) rfl) rfl ?_
  exact i_iret (f_at inc_54 (j := 7) rfl) rfl n_int
set_option maxRecDepth 4000 in
theorem G_78 {xs : Nat → Int32} {L N : Nat} (hN : 155 ≤ N) (a0 : Int32) (a1 : Int32) (a2 : Int32)  (σ : f_M) : f_Cal a_MT xs L N 55 [.int a0, .int a1, .int a2] σ ((g_78 a0 a1 a2 σ).bind fun t => some (e_pi σ t)) := by
  refine f_cal_of (ls := [.int a0, .int a1, .int a2, a_dead]) MT_55 (Nat.le_of_ble_eq_true rfl) rfl ?_
  unfold g_78
  refine i_bipush (pc' := 2) (f_at inc_55 (j := 0) rfl) cb_20 rfl ?_
  refine i_iconst (pc' := 3) (f_at inc_55 (j := 1) rfl) ci_2 rfl ?_
  refine i_iload_n (pc' := 4) (f_at inc_55 (j := 2) rfl) rfl rfl ?_
  refine i_imul (pc' := 5) (f_at inc_55 (j := 3) rfl) rfl ?_
  refine i_iadd (pc' := 6) (f_at inc_55 (j := 4) rfl) rfl ?_
  refine i_istore_n (pc' := 7) (ls' := [.int a0, .int a1, .int a2, .int ((20 : Int32) + ((2 : Int32) * a2))]) (f_at inc_55 (j := 5) rfl) (Nat.le_of_ble_eq_true rfl) rfl rfl ?_
  refine i_iload_n (pc' := 8) (f_at inc_55 (j := 6) rfl) rfl rfl ?_
  refine s_join (J := 22) (fun (t1 : Int32) (u1 : Unit) => [.int a0, .int a1, .int a2, .int ((20 : Int32) + ((2 : Int32) * a2))]) (fun t1 => [.int t1]) (fun t1 => σ) ?_ ?_
  · intro t1 u1
    exact i_iret (f_at inc_55 (j := 17) rfl) rfl n_int
  · intro k1 hj1
    refine i_if0 (pc' := 21) (nx := 11) c0_le (f_at inc_55 (j := 7) rfl) ⟨by decide, rfl⟩ (fun b3 => ?_) (fun b3 => ?_)
    · refine i_iconst (pc' := 22) (f_at inc_55 (j := 16) rfl) ci_1 rfl ?_
      exact hj1 (1 : Int32) ()
    · refine i_iload_n (pc' := 12) (f_at inc_55 (j := 8) rfl) rfl rfl ?_
      refine i_iload_n (pc' := 13) (f_at inc_55 (j := 9) rfl) rfl rfl ?_
      refine i_imul (pc' := 14) (f_at inc_55 (j := 10) rfl) rfl ?_
      refine i_iload_n (pc' := 15) (f_at inc_55 (j := 11) rfl) rfl rfl ?_
      refine i_grn fun h2 => ?_
      refine i_idiv (pc' := 16) (f_at inc_55 (j := 12) rfl) h2 rfl ?_
      refine i_iconst (pc' := 17) (f_at inc_55 (j := 13) rfl) ci_1 rfl ?_
      refine i_iadd (pc' := 18) (f_at inc_55 (j := 14) rfl) rfl ?_
      refine i_goto (pc' := 22) (f_at inc_55 (j := 15) rfl) (by decide) ?_
      exact hj1 (((a1 * a0) / ((20 : Int32) + ((2 : Int32) * a2))) + (1 : Int32)) ()
set_option maxRecDepth 4000 in
theorem G_79 {xs : Nat → Int32} {L N : Nat} (hN : 155 ≤ N) (a1 : Int32)  (σ : f_M) : f_Cal a_MT xs L N 56 [.ref 108, .int a1] σ ((g_79 a1 σ).bind fun t => some (e_pi σ t)) := by
  refine f_cal_of (ls := [.ref 108, .int a1]) MT_56 (Nat.le_of_ble_eq_true rfl) rfl ?_
  unfold g_79
  refine i_aload_n (pc' := 1) (f_at inc_56 (j := 0) rfl) rfl rfl ?_
  refine i_getR (pc' := 4) (f_at inc_56 (j := 1) rfl) sh_108 rfl (f_lt (o := 108) (m := 155) (Nat.le_of_ble_eq_true rfl) hN) rfl ?_
  refine i_iload_n (pc' := 5) (f_at inc_56 (j := 2) rfl) rfl rfl ?_
  refine i_bald (pc' := 6) (f_at inc_56 (j := 3) rfl) sh_111 (Or.inr rfl) (f_bg (Nat.le_of_ble_eq_true rfl)) (f_lt (o := 111) (m := 155) (Nat.le_of_ble_eq_true rfl) hN) rfl fun v1 => ?_
  refine s_join (J := 48) (fun (t2 : Int32) (u2 : Unit) => [.ref 108, .int a1]) (fun t2 => [.int t2]) (fun t2 => σ) ?_ ?_
  · intro t2 u2
    exact i_iret (f_at inc_56 (j := 28) rfl) rfl n_int
  · intro k2 hj2
    refine i_if0 (pc' := 27) (nx := 9) c0_eq (f_at inc_56 (j := 4) rfl) ⟨by decide, rfl⟩ (fun b10 => ?_) (fun b10 => ?_)
    · refine i_aload_n (pc' := 28) (f_at inc_56 (j := 15) rfl) rfl rfl ?_
      refine i_getR (pc' := 31) (f_at inc_56 (j := 16) rfl) sh_108 rfl (f_lt (o := 108) (m := 155) (Nat.le_of_ble_eq_true rfl) hN) rfl ?_
      refine i_iload_n (pc' := 32) (f_at inc_56 (j := 17) rfl) rfl rfl ?_
      refine i_iald (pc' := 33) (f_at inc_56 (j := 18) rfl) sh_114 (f_bg (Nat.le_of_ble_eq_true rfl)) (f_lt (o := 114) (m := 155) (Nat.le_of_ble_eq_true rfl) hN) rfl fun v3 => ?_
      refine i_aload_n (pc' := 34) (f_at inc_56 (j := 19) rfl) rfl rfl ?_
      refine i_getR (pc' := 37) (f_at inc_56 (j := 20) rfl) sh_108 rfl (f_lt (o := 108) (m := 155) (Nat.le_of_ble_eq_true rfl) hN) rfl ?_
      refine i_iload_n (pc' := 38) (f_at inc_56 (j := 21) rfl) rfl rfl ?_
      refine i_iald (pc' := 39) (f_at inc_56 (j := 22) rfl) sh_115 (f_bg (Nat.le_of_ble_eq_true rfl)) (f_lt (o := 115) (m := 155) (Nat.le_of_ble_eq_true rfl) hN) rfl fun v4 => ?_
      refine i_aload_n (pc' := 40) (f_at inc_56 (j := 23) rfl) rfl rfl ?_
      refine i_getR (pc' := 43) (f_at inc_56 (j := 24) rfl) sh_108 rfl (f_lt (o := 108) (m := 155) (Nat.le_of_ble_eq_true rfl) hN) rfl ?_
      refine i_iload_n (pc' := 44) (f_at inc_56 (j := 25) rfl) rfl rfl ?_
      refine i_iald (pc' := 45) (f_at inc_56 (j := 26) rfl) sh_118 (f_bg (Nat.le_of_ble_eq_true rfl)) (f_lt (o := 118) (m := 155) (Nat.le_of_ble_eq_true rfl) hN) rfl fun v5 => ?_
      refine c_pi (pc' := 48) (c' := 0) (n' := 0) (h_stat (ra := [.int v5, .int v4, .int v3]) (r := []) (as := [.int v3, .int v4, .int v5]) (f_at inc_56 (j := 27) rfl) (by decide) MT_55 rfl rfl rfl ⟨Nat.le_of_ble_eq_true rfl, Nat.le_of_ble_eq_true rfl, Nat.le_of_ble_eq_true rfl⟩) MT_55 (G_78 hN v3 v4 v5 σ) ⟨rfl, rfl, rfl⟩ fun t6 => ?_
      exact hj2 t6 ()
    · refine i_aload_n (pc' := 10) (f_at inc_56 (j := 5) rfl) rfl rfl ?_
      refine i_getR (pc' := 13) (f_at inc_56 (j := 6) rfl) sh_108 rfl (f_lt (o := 108) (m := 155) (Nat.le_of_ble_eq_true rfl) hN) rfl ?_
      refine i_iload_n (pc' := 14) (f_at inc_56 (j := 7) rfl) rfl rfl ?_
      refine i_iald (pc' := 15) (f_at inc_56 (j := 8) rfl) sh_114 (f_bg (Nat.le_of_ble_eq_true rfl)) (f_lt (o := 114) (m := 155) (Nat.le_of_ble_eq_true rfl) hN) rfl fun v7 => ?_
      refine i_aload_n (pc' := 16) (f_at inc_56 (j := 9) rfl) rfl rfl ?_
      refine i_getR (pc' := 19) (f_at inc_56 (j := 10) rfl) sh_108 rfl (f_lt (o := 108) (m := 155) (Nat.le_of_ble_eq_true rfl) hN) rfl ?_
      refine i_iload_n (pc' := 20) (f_at inc_56 (j := 11) rfl) rfl rfl ?_
      refine i_iald (pc' := 21) (f_at inc_56 (j := 12) rfl) sh_115 (f_bg (Nat.le_of_ble_eq_true rfl)) (f_lt (o := 115) (m := 155) (Nat.le_of_ble_eq_true rfl) hN) rfl fun v8 => ?_
      refine c_pi (pc' := 24) (c' := 0) (n' := 0) (h_stat (ra := [.int v8, .int v7]) (r := []) (as := [.int v7, .int v8]) (f_at inc_56 (j := 13) rfl) (by decide) MT_54 rfl rfl rfl ⟨Nat.le_of_ble_eq_true rfl, Nat.le_of_ble_eq_true rfl, Nat.le_of_ble_eq_true rfl⟩) MT_54 (G_77 hN v7 v8 σ) ⟨rfl, rfl, rfl⟩ fun t9 => ?_
      refine i_goto (pc' := 48) (f_at inc_56 (j := 14) rfl) (by decide) ?_
      exact hj2 t9 ()
