/-! Flat programs and their proofs. -/
set_option maxRecDepth 4000 in
theorem G_307 {xs : Nat → Int32} {L N : Nat} (hN : 155 ≤ N)   (σ : f_M) : f_Cal a_MT xs L N 96 [.ref 42] σ ((g_307  σ).bind fun t => some (e_pi σ t)) := by
  refine f_cal_of (ls := [.ref 42, a_dead, a_dead]) MT_96 (Nat.le_of_ble_eq_true rfl) rfl ?_
  unfold g_307
  refine i_iconst (pc' := 1) (f_at inc_96 (j := 0) rfl) ci_0 rfl ?_
  refine i_istore_n (pc' := 2) (ls' := [.ref 42, .int (0 : Int32), a_dead]) (f_at inc_96 (j := 1) rfl) (Nat.le_of_ble_eq_true rfl) rfl rfl ?_
  refine i_iconst (pc' := 3) (f_at inc_96 (j := 2) rfl) ci_0 rfl ?_
  refine i_istore_n (pc' := 4) (ls' := [.ref 42, .int (0 : Int32), .int (0 : Int32)]) (f_at inc_96 (j := 3) rfl) (Nat.le_of_ble_eq_true rfl) rfl rfl ?_
  refine s_lX (X := 27) ((0 : Int32), (0 : Int32)) () (fun (s1 : Int32 × Int32) (u1 : Unit) => [.ref 42, .int s1.1, .int s1.2]) (fun (s1 : Int32 × Int32) => σ) (fun (x1 : Int32) (w1 : Value) => [.ref 42, .int x1, w1]) (fun (x1 : Int32) => σ) ?_ ?_
  · intro x1 w1
    refine i_iload_n (pc' := 28) (f_at inc_96 (j := 17) rfl) rfl rfl ?_
    exact i_iret (f_at inc_96 (j := 18) rfl) rfl n_int
  · intro s1 u1 k1 hb1 hx1
    refine i_iload_n (pc' := 5) (f_at inc_96 (j := 4) rfl) rfl rfl ?_
    refine i_aload_n (pc' := 6) (f_at inc_96 (j := 5) rfl) rfl rfl ?_
    refine i_getI (pc' := 9) (f_at inc_96 (j := 6) rfl) sh_42 rfl (f_lt (o := 42) (m := 155) (Nat.le_of_ble_eq_true rfl) hN) rfl ?_
    refine i_if2 (pc' := 27) (nx := 12) c2_ge (f_at inc_96 (j := 7) rfl) ⟨by decide, rfl⟩ (fun b3 => ?_) (fun b3 => ?_)
    · exact hx1 s1.1 (.int s1.2)
    · refine i_iload_n (pc' := 13) (f_at inc_96 (j := 8) rfl) rfl rfl ?_
      refine i_aload_n (pc' := 14) (f_at inc_96 (j := 9) rfl) rfl rfl ?_
      refine i_getR (pc' := 17) (f_at inc_96 (j := 10) rfl) sh_42 rfl (f_lt (o := 42) (m := 155) (Nat.le_of_ble_eq_true rfl) hN) rfl ?_
      refine i_iload_n (pc' := 18) (f_at inc_96 (j := 11) rfl) rfl rfl ?_
      refine i_iald (pc' := 19) (f_at inc_96 (j := 12) rfl) sh_43 (f_bg (Nat.le_of_ble_eq_true rfl)) (f_lt (o := 43) (m := 155) (Nat.le_of_ble_eq_true rfl) hN) rfl fun v2 => ?_
      refine i_iadd (pc' := 20) (f_at inc_96 (j := 13) rfl) rfl ?_
      refine i_istore_n (pc' := 21) (ls' := [.ref 42, .int (s1.1 + v2), .int s1.2]) (f_at inc_96 (j := 14) rfl) (Nat.le_of_ble_eq_true rfl) rfl rfl ?_
      refine i_iinc (pc' := 24) (ls' := [.ref 42, .int (s1.1 + v2), .int (s1.2 + (1 : Int32))]) (f_at inc_96 (j := 15) rfl) rfl ci_1 rfl rfl ?_
      refine i_goto (pc' := 4) (f_at inc_96 (j := 16) rfl) (by decide) ?_
      exact hb1 ((s1.1 + v2), (s1.2 + (1 : Int32))) ()
set_option maxRecDepth 4000 in
theorem G_308 {xs : Nat → Int32} {L N : Nat} (hN : 155 ≤ N) (a1 : Int32)  (σ : f_M) : f_Cal a_MT xs L N 97 [.ref 42, .int a1] σ ((g_308 a1 σ).bind fun t => some (e_pi σ t)) := by
  refine f_cal_of (ls := [.ref 42, .int a1, a_dead]) MT_97 (Nat.le_of_ble_eq_true rfl) rfl ?_
  unfold g_308
  refine i_iconst (pc' := 1) (f_at inc_97 (j := 0) rfl) ci_0 rfl ?_
  refine i_istore_n (pc' := 2) (ls' := [.ref 42, .int a1, .int (0 : Int32)]) (f_at inc_97 (j := 1) rfl) (Nat.le_of_ble_eq_true rfl) rfl rfl ?_
  refine s_lX (X := 26) (0 : Int32) () (fun (s1 : Int32) (u1 : Unit) => [.ref 42, .int a1, .int s1]) (fun (s1 : Int32) => σ) (fun (x1 : Int32) (w1 : Unit) => [.ref 42, .int a1, .int x1]) (fun (x1 : Int32) => σ) ?_ ?_
  · intro x1 w1
    refine i_iload_n (pc' := 27) (f_at inc_97 (j := 14) rfl) rfl rfl ?_
    exact i_iret (f_at inc_97 (j := 15) rfl) rfl n_int
  · intro s1 u1 k1 hb1 hx1
    refine i_iload_n (pc' := 3) (f_at inc_97 (j := 2) rfl) rfl rfl ?_
    refine i_aload_n (pc' := 4) (f_at inc_97 (j := 3) rfl) rfl rfl ?_
    refine i_getI (pc' := 7) (f_at inc_97 (j := 4) rfl) sh_42 rfl (f_lt (o := 42) (m := 155) (Nat.le_of_ble_eq_true rfl) hN) rfl ?_
    refine i_if2 (pc' := 26) (nx := 10) c2_ge (f_at inc_97 (j := 5) rfl) ⟨by decide, rfl⟩ (fun b4 => ?_) (fun b4 => ?_)
    · exact hx1 s1 ()
    · refine i_aload_n (pc' := 11) (f_at inc_97 (j := 6) rfl) rfl rfl ?_
      refine i_getR (pc' := 14) (f_at inc_97 (j := 7) rfl) sh_42 rfl (f_lt (o := 42) (m := 155) (Nat.le_of_ble_eq_true rfl) hN) rfl ?_
      refine i_iload_n (pc' := 15) (f_at inc_97 (j := 8) rfl) rfl rfl ?_
      refine i_iald (pc' := 16) (f_at inc_97 (j := 9) rfl) sh_43 (f_bg (Nat.le_of_ble_eq_true rfl)) (f_lt (o := 43) (m := 155) (Nat.le_of_ble_eq_true rfl) hN) rfl fun v2 => ?_
      refine i_iload_n (pc' := 17) (f_at inc_97 (j := 10) rfl) rfl rfl ?_
      refine i_if2 (pc' := 26) (nx := 20) c2_ge (f_at inc_97 (j := 11) rfl) ⟨by decide, rfl⟩ (fun b3 => ?_) (fun b3 => ?_)
      · exact hx1 s1 ()
      · refine i_iinc (pc' := 23) (ls' := [.ref 42, .int a1, .int (s1 + (1 : Int32))]) (f_at inc_97 (j := 12) rfl) rfl ci_1 rfl rfl ?_
        refine i_goto (pc' := 2) (f_at inc_97 (j := 13) rfl) (by decide) ?_
        exact hb1 (s1 + (1 : Int32)) ()
set_option maxRecDepth 4000 in
theorem G_309 {xs : Nat → Int32} {L N : Nat} (hN : 155 ≤ N) (a2 : Int32) (a3 : Int32)  (σ : f_M) : f_Cal a_MT xs L N 98 [.ref 42, .ref 108, .int a2, .int a3] σ ((g_309 a2 a3 σ).bind fun t => some (e_wi t)) := by
  refine f_cal_of (ls := [.ref 42, .ref 108, .int a2, .int a3, a_dead, a_dead, a_dead]) MT_98 (Nat.le_of_ble_eq_true rfl) rfl ?_
  unfold g_309
  refine i_aload_n (pc' := 1) (f_at inc_98 (j := 0) rfl) rfl rfl ?_
  refine i_iconst (pc' := 2) (f_at inc_98 (j := 1) rfl) ci_0 rfl ?_
  refine i_putI (pc' := 5) (f_at inc_98 (j := 2) rfl) sh_42 rfl ⟨rfl, rfl⟩ (f_lt (o := 42) (m := 155) (Nat.le_of_ble_eq_true rfl) hN) rfl ?_
  refine i_iload_n (pc' := 6) (f_at inc_98 (j := 3) rfl) rfl rfl ?_
  refine i_aload_n (pc' := 7) (f_at inc_98 (j := 4) rfl) rfl rfl ?_
  refine i_iload_n (pc' := 8) (f_at inc_98 (j := 5) rfl) rfl rfl ?_
  refine c_pi (pc' := 11) (c' := 0) (n' := 0) (h_virt (ra := [.int a2, .ref 108]) (r := [.int a3]) (as := [.int a2]) (f_at inc_98 (j := 6) rfl) (by decide) MT_58 rfl rfl rfl ⟨Nat.le_of_ble_eq_true rfl, Nat.le_of_ble_eq_true rfl, Nat.le_of_ble_eq_true rfl⟩ sh_108 (f_lt (o := 108) (m := 155) (Nat.le_of_ble_eq_true rfl) hN)) MT_58 (G_75 hN a2 (f_up σ 42 1 (0 : Int32))) ⟨rfl, rfl, rfl⟩ fun t1 => ?_
  refine i_min (pc' := 14) (f_at inc_98 (j := 7) rfl) (Nat.le_of_ble_eq_true rfl) rfl ?_
  refine i_istore (pc' := 16) (ls' := [.ref 42, .ref 108, .int a2, .int a3, .int (f_min a3 t1), a_dead, a_dead]) (f_at inc_98 (j := 8) rfl) (Nat.le_of_ble_eq_true rfl) rfl rfl ?_
  refine i_aload_n (pc' := 17) (f_at inc_98 (j := 9) rfl) rfl rfl ?_
  refine i_getR (pc' := 20) (f_at inc_98 (j := 10) rfl) sh_108 rfl (f_lt (o := 108) (m := 155) (Nat.le_of_ble_eq_true rfl) hN) rfl ?_
  refine i_iload_n (pc' := 21) (f_at inc_98 (j := 11) rfl) rfl rfl ?_
  refine i_iald (pc' := 22) (f_at inc_98 (j := 12) rfl) sh_113 (f_bg (Nat.le_of_ble_eq_true rfl)) (f_lt (o := 113) (m := 155) (Nat.le_of_ble_eq_true rfl) hN) rfl fun v2 => ?_
  refine i_istore (pc' := 24) (ls' := [.ref 42, .ref 108, .int a2, .int a3, .int (f_min a3 t1), .int v2, a_dead]) (f_at inc_98 (j := 13) rfl) (Nat.le_of_ble_eq_true rfl) rfl rfl ?_
  refine s_lX (X := 76) (v2, (f_up σ 42 1 (0 : Int32))) () (fun (s3 : Int32 × f_M) (u3 : Unit) => [.ref 42, .ref 108, .int a2, .int a3, .int (f_min a3 t1), .int s3.1, a_dead]) (fun (s3 : Int32 × f_M) => s3.2) (fun (x3 : f_M) (w3 : Value) => [.ref 42, .ref 108, .int a2, .int a3, .int (f_min a3 t1), w3, a_dead]) (fun (x3 : f_M) => x3) ?_ ?_
  · intro x3 w3
    refine i_aload_n (pc' := 77) (f_at inc_98 (j := 39) rfl) rfl rfl ?_
    refine i_getR (pc' := 80) (f_at inc_98 (j := 40) rfl) sh_108 rfl (f_lt (o := 108) (m := 155) (Nat.le_of_ble_eq_true rfl) hN) rfl ?_
    refine i_iload_n (pc' := 81) (f_at inc_98 (j := 41) rfl) rfl rfl ?_
    refine i_bald (pc' := 82) (f_at inc_98 (j := 42) rfl) sh_111 (Or.inr rfl) (f_bg (Nat.le_of_ble_eq_true rfl)) (f_lt (o := 111) (m := 155) (Nat.le_of_ble_eq_true rfl) hN) rfl fun v12 => ?_
    refine i_if0 (pc' := 95) (nx := 85) c0_ne (f_at inc_98 (j := 43) rfl) ⟨by decide, rfl⟩ (fun b20 => ?_) (fun b20 => ?_)
    · refine i_aload_n (pc' := 96) (f_at inc_98 (j := 50) rfl) rfl rfl ?_
      refine i_aload_n (pc' := 97) (f_at inc_98 (j := 51) rfl) rfl rfl ?_
      refine i_getR (pc' := 100) (f_at inc_98 (j := 52) rfl) sh_108 rfl (f_lt (o := 108) (m := 155) (Nat.le_of_ble_eq_true rfl) hN) rfl ?_
      refine i_iload_n (pc' := 101) (f_at inc_98 (j := 53) rfl) rfl rfl ?_
      refine i_iald (pc' := 102) (f_at inc_98 (j := 54) rfl) sh_116 (f_bg (Nat.le_of_ble_eq_true rfl)) (f_lt (o := 116) (m := 155) (Nat.le_of_ble_eq_true rfl) hN) rfl fun v13 => ?_
      refine c_pi (pc' := 105) (c' := 0) (n' := 0) (h_virt (ra := [.int v13, .ref 42]) (r := []) (as := [.int v13]) (f_at inc_98 (j := 55) rfl) (by decide) MT_97 rfl rfl rfl ⟨Nat.le_of_ble_eq_true rfl, Nat.le_of_ble_eq_true rfl, Nat.le_of_ble_eq_true rfl⟩ sh_42 (f_lt (o := 42) (m := 155) (Nat.le_of_ble_eq_true rfl) hN)) MT_97 (G_308 hN v13 x3) ⟨rfl, rfl, rfl⟩ fun t14 => ?_
      refine i_istore (pc' := 107) (ls' := [.ref 42, .ref 108, .int a2, .int a3, .int (f_min a3 t1), .int t14, a_dead]) (f_at inc_98 (j := 56) rfl) (Nat.le_of_ble_eq_true rfl) rfl rfl ?_
      refine i_aload_n (pc' := 108) (f_at inc_98 (j := 57) rfl) rfl rfl ?_
      refine i_getI (pc' := 111) (f_at inc_98 (j := 58) rfl) sh_42 rfl (f_lt (o := 42) (m := 155) (Nat.le_of_ble_eq_true rfl) hN) rfl ?_
      refine i_aload_n (pc' := 112) (f_at inc_98 (j := 59) rfl) rfl rfl ?_
      refine i_aload_n (pc' := 113) (f_at inc_98 (j := 60) rfl) rfl rfl ?_
      refine i_getR (pc' := 116) (f_at inc_98 (j := 61) rfl) sh_108 rfl (f_lt (o := 108) (m := 155) (Nat.le_of_ble_eq_true rfl) hN) rfl ?_
      refine i_iload_n (pc' := 117) (f_at inc_98 (j := 62) rfl) rfl rfl ?_
      refine i_iald (pc' := 118) (f_at inc_98 (j := 63) rfl) sh_117 (f_bg (Nat.le_of_ble_eq_true rfl)) (f_lt (o := 117) (m := 155) (Nat.le_of_ble_eq_true rfl) hN) rfl fun v15 => ?_
      refine i_iconst (pc' := 119) (f_at inc_98 (j := 64) rfl) ci_1 rfl ?_
      refine i_iadd (pc' := 120) (f_at inc_98 (j := 65) rfl) rfl ?_
      refine c_pi (pc' := 123) (c' := 0) (n' := 0) (h_virt (ra := [.int (v15 + (1 : Int32)), .ref 42]) (r := [.int (x3 42 1)]) (as := [.int (v15 + (1 : Int32))]) (f_at inc_98 (j := 66) rfl) (by decide) MT_97 rfl rfl rfl ⟨Nat.le_of_ble_eq_true rfl, Nat.le_of_ble_eq_true rfl, Nat.le_of_ble_eq_true rfl⟩ sh_42 (f_lt (o := 42) (m := 155) (Nat.le_of_ble_eq_true rfl) hN)) MT_97 (G_308 hN (v15 + (1 : Int32)) x3) ⟨rfl, rfl, rfl⟩ fun t16 => ?_
      refine i_isub (pc' := 124) (f_at inc_98 (j := 67) rfl) rfl ?_
      refine i_istore (pc' := 126) (ls' := [.ref 42, .ref 108, .int a2, .int a3, .int (f_min a3 t1), .int t14, .int ((x3 42 1) - t16)]) (f_at inc_98 (j := 68) rfl) (Nat.le_of_ble_eq_true rfl) rfl rfl ?_
      refine i_aload_n (pc' := 127) (f_at inc_98 (j := 69) rfl) rfl rfl ?_
      refine i_iload_n (pc' := 128) (f_at inc_98 (j := 70) rfl) rfl rfl ?_
      refine i_iload (pc' := 130) (f_at inc_98 (j := 71) rfl) rfl rfl ?_
      refine i_iload (pc' := 132) (f_at inc_98 (j := 72) rfl) rfl rfl ?_
      refine i_iadd (pc' := 133) (f_at inc_98 (j := 73) rfl) rfl ?_
      refine c_pi (pc' := 136) (c' := 0) (n' := 0) (h_virt (ra := [.int (t14 + ((x3 42 1) - t16)), .int a2, .ref 108]) (r := []) (as := [.int a2, .int (t14 + ((x3 42 1) - t16))]) (f_at inc_98 (j := 74) rfl) (by decide) MT_63 rfl rfl rfl ⟨Nat.le_of_ble_eq_true rfl, Nat.le_of_ble_eq_true rfl, Nat.le_of_ble_eq_true rfl⟩ sh_108 (f_lt (o := 108) (m := 155) (Nat.le_of_ble_eq_true rfl) hN)) MT_63 (G_86 hN a2 (t14 + ((x3 42 1) - t16)) x3) ⟨rfl, rfl, rfl⟩ fun t17 => ?_
      exact i_iret (f_at inc_98 (j := 75) rfl) rfl n_int
    · refine i_aload_n (pc' := 86) (f_at inc_98 (j := 44) rfl) rfl rfl ?_
      refine i_iload_n (pc' := 87) (f_at inc_98 (j := 45) rfl) rfl rfl ?_
      refine i_aload_n (pc' := 88) (f_at inc_98 (j := 46) rfl) rfl rfl ?_
      refine c_pi (pc' := 91) (c' := 0) (n' := 0) (h_virt (ra := [.ref 42]) (r := [.int a2, .ref 108]) (as := []) (f_at inc_98 (j := 47) rfl) (by decide) MT_96 rfl rfl rfl ⟨Nat.le_of_ble_eq_true rfl, Nat.le_of_ble_eq_true rfl, Nat.le_of_ble_eq_true rfl⟩ sh_42 (f_lt (o := 42) (m := 155) (Nat.le_of_ble_eq_true rfl) hN)) MT_96 (G_307 hN  x3) ⟨rfl, rfl, rfl⟩ fun t18 => ?_
      refine c_pi (pc' := 94) (c' := 0) (n' := 0) (h_virt (ra := [.int t18, .int a2, .ref 108]) (r := []) (as := [.int a2, .int t18]) (f_at inc_98 (j := 48) rfl) (by decide) MT_64 rfl rfl rfl ⟨Nat.le_of_ble_eq_true rfl, Nat.le_of_ble_eq_true rfl, Nat.le_of_ble_eq_true rfl⟩ sh_108 (f_lt (o := 108) (m := 155) (Nat.le_of_ble_eq_true rfl) hN)) MT_64 (G_87 hN a2 t18 x3) ⟨rfl, rfl, rfl⟩ fun t19 => ?_
      exact i_iret (f_at inc_98 (j := 49) rfl) rfl n_int
  · intro s3 u3 k3 hb3 hx3
    refine i_iload (pc' := 26) (f_at inc_98 (j := 14) rfl) rfl rfl ?_
    refine i_iload (pc' := 28) (f_at inc_98 (j := 15) rfl) rfl rfl ?_
    refine i_if2 (pc' := 76) (nx := 31) c2_ge (f_at inc_98 (j := 16) rfl) ⟨by decide, rfl⟩ (fun b11 => ?_) (fun b11 => ?_)
    · exact hx3 s3.2 (.int s3.1)
    · refine i_aload_n (pc' := 32) (f_at inc_98 (j := 17) rfl) rfl rfl ?_
      refine i_getI (pc' := 35) (f_at inc_98 (j := 18) rfl) sh_42 rfl (f_lt (o := 42) (m := 155) (Nat.le_of_ble_eq_true rfl) hN) rfl ?_
      refine i_bipush (pc' := 37) (f_at inc_98 (j := 19) rfl) cb_24 rfl ?_
      refine i_if2 (pc' := 76) (nx := 40) c2_ge (f_at inc_98 (j := 20) rfl) ⟨by decide, rfl⟩ (fun b10 => ?_) (fun b10 => ?_)
      · exact hx3 s3.2 (.int s3.1)
      · refine i_aload_n (pc' := 41) (f_at inc_98 (j := 21) rfl) rfl rfl ?_
        refine i_aload_n (pc' := 42) (f_at inc_98 (j := 22) rfl) rfl rfl ?_
        refine i_getR (pc' := 45) (f_at inc_98 (j := 23) rfl) sh_108 rfl (f_lt (o := 108) (m := 155) (Nat.le_of_ble_eq_true rfl) hN) rfl ?_
        refine i_iload_n (pc' := 46) (f_at inc_98 (j := 24) rfl) rfl rfl ?_
        refine i_bald (pc' := 47) (f_at inc_98 (j := 25) rfl) sh_111 (Or.inr rfl) (f_bg (Nat.le_of_ble_eq_true rfl)) (f_lt (o := 111) (m := 155) (Nat.le_of_ble_eq_true rfl) hN) rfl fun v4 => ?_
        refine s_join (J := 67) (fun (t5 : Int32) (u5 : Unit) => [.ref 42, .ref 108, .int a2, .int a3, .int (f_min a3 t1), .int s3.1, a_dead]) (fun t5 => [.int t5, .ref 42]) (fun t5 => s3.2) ?_ ?_
        · intro t5 u5
          refine c_wv (pc' := 70) (c' := 0) (n' := 0) (h_virt (ra := [.int t5, .ref 42]) (r := []) (as := [.int t5]) (f_at inc_98 (j := 36) rfl) (by decide) MT_95 rfl rfl rfl ⟨Nat.le_of_ble_eq_true rfl, Nat.le_of_ble_eq_true rfl, Nat.le_of_ble_eq_true rfl⟩ sh_42 (f_lt (o := 42) (m := 155) (Nat.le_of_ble_eq_true rfl) hN)) MT_95 (G_306 hN t5 s3.2) ⟨rfl, rfl, rfl⟩ fun t9 => ?_
          refine i_iinc (pc' := 73) (ls' := [.ref 42, .ref 108, .int a2, .int a3, .int (f_min a3 t1), .int (s3.1 + (1 : Int32)), a_dead]) (f_at inc_98 (j := 37) rfl) rfl ci_1 rfl rfl ?_
          refine i_goto (pc' := 24) (f_at inc_98 (j := 38) rfl) (by decide) ?_
          exact hb3 ((s3.1 + (1 : Int32)), t9) ()
        · intro k5 hj5
          refine i_if0 (pc' := 60) (nx := 50) c0_eq (f_at inc_98 (j := 26) rfl) ⟨by decide, rfl⟩ (fun b8 => ?_) (fun b8 => ?_)
          · refine i_aload_n (pc' := 61) (f_at inc_98 (j := 32) rfl) rfl rfl ?_
            refine i_getR (pc' := 64) (f_at inc_98 (j := 33) rfl) sh_108 rfl (f_lt (o := 108) (m := 155) (Nat.le_of_ble_eq_true rfl) hN) rfl ?_
            refine i_iload (pc' := 66) (f_at inc_98 (j := 34) rfl) rfl rfl ?_
            refine i_iald (pc' := 67) (f_at inc_98 (j := 35) rfl) sh_110 (f_bg (Nat.le_of_ble_eq_true rfl)) (f_lt (o := 110) (m := 155) (Nat.le_of_ble_eq_true rfl) hN) rfl fun v6 => ?_
            exact hj5 v6 ()
          · refine i_aload_n (pc' := 51) (f_at inc_98 (j := 27) rfl) rfl rfl ?_
            refine i_getR (pc' := 54) (f_at inc_98 (j := 28) rfl) sh_108 rfl (f_lt (o := 108) (m := 155) (Nat.le_of_ble_eq_true rfl) hN) rfl ?_
            refine i_iload (pc' := 56) (f_at inc_98 (j := 29) rfl) rfl rfl ?_
            refine i_iald (pc' := 57) (f_at inc_98 (j := 30) rfl) sh_109 (f_bg (Nat.le_of_ble_eq_true rfl)) (f_lt (o := 109) (m := 155) (Nat.le_of_ble_eq_true rfl) hN) rfl fun v7 => ?_
            refine i_goto (pc' := 67) (f_at inc_98 (j := 31) rfl) (by decide) ?_
            exact hj5 v7 ()
set_option maxRecDepth 4000 in
theorem G_310 {xs : Nat → Int32} {L N : Nat} (hN : 155 ≤ N)   (σ : f_M) : f_Cal a_MT xs L N 99 [.ref 42, .ref 108, .ref 121] σ ((g_310  σ).bind fun t => some (e_wb t)) := by
  refine f_cal_of (ls := [.ref 42, .ref 108, .ref 121, a_dead]) MT_99 (Nat.le_of_ble_eq_true rfl) rfl ?_
  unfold g_310
  refine i_iconst (pc' := 1) (f_at inc_99 (j := 0) rfl) ci_0 rfl ?_
  refine i_istore_n (pc' := 2) (ls' := [.ref 42, .ref 108, .ref 121, .int (0 : Int32)]) (f_at inc_99 (j := 1) rfl) (Nat.le_of_ble_eq_true rfl) rfl rfl ?_
  refine s_lR ((0 : Int32), σ) () (fun (s1 : Int32 × f_M) (u1 : Unit) => [.ref 42, .ref 108, .ref 121, .int s1.1]) (fun (s1 : Int32 × f_M) => s1.2) ?_
  intro s1 u1 k1 hb1 hr1
  refine i_iload_n (pc' := 3) (f_at inc_99 (j := 2) rfl) rfl rfl ?_
  refine i_aload_n (pc' := 4) (f_at inc_99 (j := 3) rfl) rfl rfl ?_
  refine i_getI (pc' := 7) (f_at inc_99 (j := 4) rfl) sh_121 rfl (f_lt (o := 121) (m := 155) (Nat.le_of_ble_eq_true rfl) hN) rfl ?_
  refine i_if2 (pc' := 40) (nx := 10) c2_ge (f_at inc_99 (j := 5) rfl) ⟨by decide, rfl⟩ (fun b5 => ?_) (fun b5 => ?_)
  · refine i_iconst (pc' := 41) (f_at inc_99 (j := 22) rfl) ci_1 rfl ?_
    refine s_rt (hr1 _) ?_
    exact i_iret (v := f_b true) (f_at inc_99 (j := 23) rfl) rfl n_bool
  · refine i_aload_n (pc' := 11) (f_at inc_99 (j := 6) rfl) rfl rfl ?_
    refine i_aload_n (pc' := 12) (f_at inc_99 (j := 7) rfl) rfl rfl ?_
    refine i_iload_n (pc' := 13) (f_at inc_99 (j := 8) rfl) rfl rfl ?_
    refine i_aload_n (pc' := 14) (f_at inc_99 (j := 9) rfl) rfl rfl ?_
    refine i_getI (pc' := 17) (f_at inc_99 (j := 10) rfl) sh_121 rfl (f_lt (o := 121) (m := 155) (Nat.le_of_ble_eq_true rfl) hN) rfl ?_
    refine c_wi (pc' := 20) (c' := 0) (n' := 0) (h_virt (ra := [.int (s1.2 121 0), .int s1.1, .ref 108, .ref 42]) (r := []) (as := [.ref 108, .int s1.1, .int (s1.2 121 0)]) (f_at inc_99 (j := 11) rfl) (by decide) MT_98 rfl rfl rfl ⟨Nat.le_of_ble_eq_true rfl, Nat.le_of_ble_eq_true rfl, Nat.le_of_ble_eq_true rfl⟩ sh_42 (f_lt (o := 42) (m := 155) (Nat.le_of_ble_eq_true rfl) hN)) MT_98 (G_309 hN s1.1 (s1.2 121 0) s1.2) ⟨rfl, rfl, rfl⟩ fun t2 => ?_
    refine i_aload_n (pc' := 21) (f_at inc_99 (j := 12) rfl) rfl rfl ?_
    refine i_iload_n (pc' := 22) (f_at inc_99 (j := 13) rfl) rfl rfl ?_
    refine i_aload_n (pc' := 23) (f_at inc_99 (j := 14) rfl) rfl rfl ?_
    refine i_getI (pc' := 26) (f_at inc_99 (j := 15) rfl) sh_121 rfl (f_lt (o := 121) (m := 155) (Nat.le_of_ble_eq_true rfl) hN) rfl ?_
    refine c_pi (pc' := 29) (c' := 0) (n' := 0) (h_virt (ra := [.int (t2.2 121 0), .int s1.1, .ref 108]) (r := [.int t2.1]) (as := [.int s1.1, .int (t2.2 121 0)]) (f_at inc_99 (j := 16) rfl) (by decide) MT_65 rfl rfl rfl ⟨Nat.le_of_ble_eq_true rfl, Nat.le_of_ble_eq_true rfl, Nat.le_of_ble_eq_true rfl⟩ sh_108 (f_lt (o := 108) (m := 155) (Nat.le_of_ble_eq_true rfl) hN)) MT_65 (G_88 hN s1.1 (t2.2 121 0) t2.2) ⟨rfl, rfl, rfl⟩ fun t3 => ?_
    refine i_if2 (pc' := 34) (nx := 32) c2_eq (f_at inc_99 (j := 17) rfl) ⟨by decide, rfl⟩ (fun b4 => ?_) (fun b4 => ?_)
    · refine i_iinc (pc' := 37) (ls' := [.ref 42, .ref 108, .ref 121, .int (s1.1 + (1 : Int32))]) (f_at inc_99 (j := 20) rfl) rfl ci_1 rfl rfl ?_
      refine i_goto (pc' := 2) (f_at inc_99 (j := 21) rfl) (by decide) ?_
      exact hb1 ((s1.1 + (1 : Int32)), t2.2) ()
    · refine i_iconst (pc' := 33) (f_at inc_99 (j := 18) rfl) ci_0 rfl ?_
      refine s_rt (hr1 _) ?_
      exact i_iret (v := f_b false) (f_at inc_99 (j := 19) rfl) rfl n_bool
set_option maxRecDepth 4000 in
theorem G_311 {xs : Nat → Int32} {L N : Nat} (hN : 155 ≤ N)   (σ : f_M) : f_Cal a_MT xs L N 100 [.ref 102] σ ((g_311  σ).bind fun t => some (e_pb σ t)) := by
  refine f_cal_of (ls := [.ref 102, a_dead, a_dead]) MT_100 (Nat.le_of_ble_eq_true rfl) rfl ?_
  unfold g_311
  refine i_iconst (pc' := 1) (f_at inc_100 (j := 0) rfl) ci_0 rfl ?_
  refine i_istore_n (pc' := 2) (ls' := [.ref 102, .int (0 : Int32), a_dead]) (f_at inc_100 (j := 1) rfl) (Nat.le_of_ble_eq_true rfl) rfl rfl ?_
  refine i_iconst (pc' := 3) (f_at inc_100 (j := 2) rfl) ci_0 rfl ?_
  refine i_istore_n (pc' := 4) (ls' := [.ref 102, .int (0 : Int32), .int (0 : Int32)]) (f_at inc_100 (j := 3) rfl) (Nat.le_of_ble_eq_true rfl) rfl rfl ?_
  refine s_lX (X := 29) ((0 : Int32), (0 : Int32)) () (fun (s1 : Int32 × Int32) (u1 : Unit) => [.ref 102, .int s1.1, .int s1.2]) (fun (s1 : Int32 × Int32) => σ) (fun (x1 : Int32) (w1 : Value) => [.ref 102, .int x1, w1]) (fun (x1 : Int32) => σ) ?_ ?_
  · intro x1 w1
    refine i_iload_n (pc' := 30) (f_at inc_100 (j := 17) rfl) rfl rfl ?_
    refine i_aload_n (pc' := 31) (f_at inc_100 (j := 18) rfl) rfl rfl ?_
    refine i_getR (pc' := 34) (f_at inc_100 (j := 19) rfl) sh_102 rfl (f_lt (o := 102) (m := 155) (Nat.le_of_ble_eq_true rfl) hN) rfl ?_
    refine i_getI (pc' := 37) (f_at inc_100 (j := 20) rfl) sh_121 rfl (f_lt (o := 121) (m := 155) (Nat.le_of_ble_eq_true rfl) hN) rfl ?_
    refine s_join (J := 45) (fun (t4 : Bool) (u4 : Unit) => [.ref 102, .int x1, w1]) (fun t4 => [.int (f_b t4)]) (fun t4 => σ) ?_ ?_
    · intro t4 u4
      exact i_iret (v := f_b t4) (f_at inc_100 (j := 25) rfl) rfl n_bool
    · intro k4 hj4
      refine i_if2 (pc' := 44) (nx := 40) c2_ne (f_at inc_100 (j := 21) rfl) ⟨by decide, rfl⟩ (fun b5 => ?_) (fun b5 => ?_)
      · refine i_iconst (pc' := 45) (f_at inc_100 (j := 24) rfl) ci_0 rfl ?_
        exact hj4 false ()
      · refine i_iconst (pc' := 41) (f_at inc_100 (j := 22) rfl) ci_1 rfl ?_
        refine i_goto (pc' := 45) (f_at inc_100 (j := 23) rfl) (by decide) ?_
        exact hj4 true ()
  · intro s1 u1 k1 hb1 hx1
    refine i_iload_n (pc' := 5) (f_at inc_100 (j := 4) rfl) rfl rfl ?_
    refine i_aload_n (pc' := 6) (f_at inc_100 (j := 5) rfl) rfl rfl ?_
    refine i_getR (pc' := 9) (f_at inc_100 (j := 6) rfl) sh_102 rfl (f_lt (o := 102) (m := 155) (Nat.le_of_ble_eq_true rfl) hN) rfl ?_
    refine i_getI (pc' := 12) (f_at inc_100 (j := 7) rfl) sh_103 rfl (f_lt (o := 103) (m := 155) (Nat.le_of_ble_eq_true rfl) hN) rfl ?_
    refine i_if2 (pc' := 29) (nx := 15) c2_ge (f_at inc_100 (j := 8) rfl) ⟨by decide, rfl⟩ (fun b3 => ?_) (fun b3 => ?_)
    · exact hx1 s1.1 (.int s1.2)
    · refine i_iload_n (pc' := 16) (f_at inc_100 (j := 9) rfl) rfl rfl ?_
      refine i_aload_n (pc' := 17) (f_at inc_100 (j := 10) rfl) rfl rfl ?_
      refine i_iload_n (pc' := 18) (f_at inc_100 (j := 11) rfl) rfl rfl ?_
      refine c_pi (pc' := 21) (c' := 0) (n' := 0) (h_virt (ra := [.int s1.2, .ref 102]) (r := [.int s1.1]) (as := [.int s1.2]) (f_at inc_100 (j := 12) rfl) (by decide) MT_89 rfl rfl rfl ⟨Nat.le_of_ble_eq_true rfl, Nat.le_of_ble_eq_true rfl, Nat.le_of_ble_eq_true rfl⟩ sh_102 (f_lt (o := 102) (m := 155) (Nat.le_of_ble_eq_true rfl) hN)) MT_89 (G_275 hN s1.2 σ) ⟨rfl, rfl, rfl⟩ fun t2 => ?_
      refine i_iadd (pc' := 22) (f_at inc_100 (j := 13) rfl) rfl ?_
      refine i_istore_n (pc' := 23) (ls' := [.ref 102, .int (s1.1 + t2), .int s1.2]) (f_at inc_100 (j := 14) rfl) (Nat.le_of_ble_eq_true rfl) rfl rfl ?_
      refine i_iinc (pc' := 26) (ls' := [.ref 102, .int (s1.1 + t2), .int (s1.2 + (1 : Int32))]) (f_at inc_100 (j := 15) rfl) rfl ci_1 rfl rfl ?_
      refine i_goto (pc' := 4) (f_at inc_100 (j := 16) rfl) (by decide) ?_
      exact hb1 ((s1.1 + t2), (s1.2 + (1 : Int32))) ()
set_option maxRecDepth 4000 in
theorem G_312 {xs : Nat → Int32} {L N : Nat} (hN : 155 ≤ N)   (σ : f_M) : f_Cal a_MT xs L N 101 [.ref 42, .ref 102] σ ((g_312  σ).bind fun t => some (e_wb t)) := by
  refine f_cal_of (ls := [.ref 42, .ref 102]) MT_101 (Nat.le_of_ble_eq_true rfl) rfl ?_
  unfold g_312
  refine i_aload_n (pc' := 1) (f_at inc_101 (j := 0) rfl) rfl rfl ?_
  refine i_getR (pc' := 4) (f_at inc_101 (j := 1) rfl) sh_102 rfl (f_lt (o := 102) (m := 155) (Nat.le_of_ble_eq_true rfl) hN) rfl ?_
  refine i_aload_n (pc' := 5) (f_at inc_101 (j := 2) rfl) rfl rfl ?_
  refine i_getR (pc' := 8) (f_at inc_101 (j := 3) rfl) sh_102 rfl (f_lt (o := 102) (m := 155) (Nat.le_of_ble_eq_true rfl) hN) rfl ?_
  refine c_pb (pc' := 11) (c' := 0) (n' := 0) (h_stat (ra := [.ref 121, .ref 103]) (r := []) (as := [.ref 103, .ref 121]) (f_at inc_101 (j := 4) rfl) (by decide) MT_92 rfl rfl rfl ⟨Nat.le_of_ble_eq_true rfl, Nat.le_of_ble_eq_true rfl, Nat.le_of_ble_eq_true rfl⟩) MT_92 (G_303 hN  σ) ⟨rfl, rfl, rfl⟩ fun t1 => ?_
  refine s_join (J := 58) (fun (t2 : Bool × f_M) (u2 : Unit) => [.ref 42, .ref 102]) (fun t2 => [.int (f_b t2.1)]) (fun t2 => t2.2) ?_ ?_
  · intro t2 u2
    exact i_iret (v := f_b t2.1) (f_at inc_101 (j := 26) rfl) rfl n_bool
  · intro k2 hj2
    refine i_if0 (pc' := 57) (nx := 14) cb_eq (f_at inc_101 (j := 5) rfl) ⟨by decide, rfl⟩ (fun b11 => ?_) (fun b11 => ?_)
    · refine i_iconst (pc' := 58) (f_at inc_101 (j := 25) rfl) ci_0 rfl ?_
      exact hj2 (false, σ) ()
    · refine i_aload_n (pc' := 15) (f_at inc_101 (j := 6) rfl) rfl rfl ?_
      refine i_getR (pc' := 18) (f_at inc_101 (j := 7) rfl) sh_102 rfl (f_lt (o := 102) (m := 155) (Nat.le_of_ble_eq_true rfl) hN) rfl ?_
      refine c_pb (pc' := 21) (c' := 0) (n' := 0) (h_stat (ra := [.ref 121]) (r := []) (as := [.ref 121]) (f_at inc_101 (j := 8) rfl) (by decide) MT_93 rfl rfl rfl ⟨Nat.le_of_ble_eq_true rfl, Nat.le_of_ble_eq_true rfl, Nat.le_of_ble_eq_true rfl⟩) MT_93 (G_304 hN  σ) ⟨rfl, rfl, rfl⟩ fun t3 => ?_
      refine i_if0 (pc' := 57) (nx := 24) cb_eq (f_at inc_101 (j := 9) rfl) ⟨by decide, rfl⟩ (fun b10 => ?_) (fun b10 => ?_)
      · refine i_iconst (pc' := 58) (f_at inc_101 (j := 25) rfl) ci_0 rfl ?_
        exact hj2 (false, σ) ()
      · refine i_aload_n (pc' := 25) (f_at inc_101 (j := 10) rfl) rfl rfl ?_
        refine c_pb (pc' := 28) (c' := 0) (n' := 0) (h_stat (ra := [.ref 102]) (r := []) (as := [.ref 102]) (f_at inc_101 (j := 11) rfl) (by decide) MT_94 rfl rfl rfl ⟨Nat.le_of_ble_eq_true rfl, Nat.le_of_ble_eq_true rfl, Nat.le_of_ble_eq_true rfl⟩) MT_94 (G_305 hN  σ) ⟨rfl, rfl, rfl⟩ fun t4 => ?_
        refine i_if0 (pc' := 57) (nx := 31) cb_eq (f_at inc_101 (j := 12) rfl) ⟨by decide, rfl⟩ (fun b9 => ?_) (fun b9 => ?_)
        · refine i_iconst (pc' := 58) (f_at inc_101 (j := 25) rfl) ci_0 rfl ?_
          exact hj2 (false, σ) ()
        · refine i_aload_n (pc' := 32) (f_at inc_101 (j := 13) rfl) rfl rfl ?_
          refine i_aload_n (pc' := 33) (f_at inc_101 (j := 14) rfl) rfl rfl ?_
          refine i_getR (pc' := 36) (f_at inc_101 (j := 15) rfl) sh_102 rfl (f_lt (o := 102) (m := 155) (Nat.le_of_ble_eq_true rfl) hN) rfl ?_
          refine i_aload_n (pc' := 37) (f_at inc_101 (j := 16) rfl) rfl rfl ?_
          refine i_getR (pc' := 40) (f_at inc_101 (j := 17) rfl) sh_102 rfl (f_lt (o := 102) (m := 155) (Nat.le_of_ble_eq_true rfl) hN) rfl ?_
          refine c_wb (pc' := 43) (c' := 0) (n' := 0) (h_virt (ra := [.ref 121, .ref 108, .ref 42]) (r := []) (as := [.ref 108, .ref 121]) (f_at inc_101 (j := 18) rfl) (by decide) MT_99 rfl rfl rfl ⟨Nat.le_of_ble_eq_true rfl, Nat.le_of_ble_eq_true rfl, Nat.le_of_ble_eq_true rfl⟩ sh_42 (f_lt (o := 42) (m := 155) (Nat.le_of_ble_eq_true rfl) hN)) MT_99 (G_310 hN  σ) ⟨rfl, rfl, rfl⟩ fun t5 => ?_
          refine i_if0 (pc' := 57) (nx := 46) cb_eq (f_at inc_101 (j := 19) rfl) ⟨by decide, rfl⟩ (fun b8 => ?_) (fun b8 => ?_)
          · refine i_iconst (pc' := 58) (f_at inc_101 (j := 25) rfl) ci_0 rfl ?_
            exact hj2 (false, t5.2) ()
          · refine i_aload_n (pc' := 47) (f_at inc_101 (j := 20) rfl) rfl rfl ?_
            refine c_pb (pc' := 50) (c' := 0) (n' := 0) (h_stat (ra := [.ref 102]) (r := []) (as := [.ref 102]) (f_at inc_101 (j := 21) rfl) (by decide) MT_100 rfl rfl rfl ⟨Nat.le_of_ble_eq_true rfl, Nat.le_of_ble_eq_true rfl, Nat.le_of_ble_eq_true rfl⟩) MT_100 (G_311 hN  t5.2) ⟨rfl, rfl, rfl⟩ fun t6 => ?_
            refine i_if0 (pc' := 57) (nx := 53) cb_eq (f_at inc_101 (j := 22) rfl) ⟨by decide, rfl⟩ (fun b7 => ?_) (fun b7 => ?_)
            · refine i_iconst (pc' := 58) (f_at inc_101 (j := 25) rfl) ci_0 rfl ?_
              exact hj2 (false, t5.2) ()
            · refine i_iconst (pc' := 54) (f_at inc_101 (j := 23) rfl) ci_1 rfl ?_
              refine i_goto (pc' := 58) (f_at inc_101 (j := 24) rfl) (by decide) ?_
              exact hj2 (true, t5.2) ()
set_option maxRecDepth 4000 in
theorem G_313 {xs : Nat → Int32} {L N : Nat} (hN : 155 ≤ N)   (σ : f_M) : f_Cal a_MT xs L N 102 [.ref 0] σ ((g_313  σ).bind fun t => some (e_wb t)) := by
  refine f_cal_of (ls := [.ref 0]) MT_102 (Nat.le_of_ble_eq_true rfl) rfl ?_
  unfold g_313
  refine i_aload_n (pc' := 1) (f_at inc_102 (j := 0) rfl) rfl rfl ?_
  refine i_getR (pc' := 4) (f_at inc_102 (j := 1) rfl) sh_0 rfl (f_lt (o := 0) (m := 155) (Nat.le_of_ble_eq_true rfl) hN) rfl ?_
  refine i_aload_n (pc' := 5) (f_at inc_102 (j := 2) rfl) rfl rfl ?_
  refine i_getR (pc' := 8) (f_at inc_102 (j := 3) rfl) sh_0 rfl (f_lt (o := 0) (m := 155) (Nat.le_of_ble_eq_true rfl) hN) rfl ?_
  refine c_wb (pc' := 11) (c' := 0) (n' := 0) (h_virt (ra := [.ref 102, .ref 42]) (r := []) (as := [.ref 102]) (f_at inc_102 (j := 4) rfl) (by decide) MT_101 rfl rfl rfl ⟨Nat.le_of_ble_eq_true rfl, Nat.le_of_ble_eq_true rfl, Nat.le_of_ble_eq_true rfl⟩ sh_42 (f_lt (o := 42) (m := 155) (Nat.le_of_ble_eq_true rfl) hN)) MT_101 (G_312 hN  σ) ⟨rfl, rfl, rfl⟩ fun t1 => ?_
  exact i_iret (v := f_b t1.1) (f_at inc_102 (j := 5) rfl) rfl n_bool
set_option maxRecDepth 4000 in
def l_isLike  (σ : f_M) : Option (Bool × f_M) :=
  (g_164  σ).bind fun t1 =>
  if ¬ t1 = (σ 155 26) then (
   some (false, σ)
  ) else (
   (g_167  σ).bind fun t2 =>
   if ¬ t2 = (σ 155 27) then (
    some (false, σ)
   ) else (
    (g_194  σ).bind fun t3 =>
    if ¬ t3 = (σ 155 24) then (
     some (false, σ)
    ) else (
     (g_228  σ).bind fun t4 =>
     if ¬ t4 = (σ 155 25) then (
      some (false, σ)
     ) else (
      (g_269  σ).bind fun t5 =>
      if ¬ t5 = (σ 155 28) then (
       some (false, σ)
      ) else (
       (g_271  σ).bind fun t6 =>
       if ¬ t6 = (σ 155 29) then (
        some (false, σ)
       ) else (
        (g_273  σ).bind fun t7 =>
        if ¬ t7 = (σ 155 30) then (
         some (false, σ)
        ) else (
         (g_264  σ).bind fun t8 =>
         (
          if ¬ (σ 155 31) = 0 then (
           (f_rd σ 180 20 (0 : Int32)).bind fun v10 =>
           some v10
          ) else (
           some (-1 : Int32)
          )
         ).bind fun (t9 : Int32) =>
         if t8 = t9 then (
          (f_lp (fun (s12 : Int32 × Int32) =>
           if (σ 155 22) ≤ s12.2 then (
            some (.inr (.inl s12.1))
           ) else (
            (p_179 s12.2 σ).bind fun t13 =>
            (f_rd σ 156 4 s12.2).bind fun v14 =>
            if t13 = v14 then (
             (f_rd σ 157 4 s12.2).bind fun v15 =>
             (f_rd σ 157 4 s12.1).bind fun v16 =>
             (
              if v15 ≤ v16 then (
               some s12.1
              ) else (
               some s12.2
              )
             ).bind fun (t17 : Int32) =>
             some (.inl (t17, (s12.2 + (1 : Int32))))
            ) else (
             some (.inr (.inr (false, σ)))
            )
           )
          ) f_F ((0 : Int32), (0 : Int32))).bind fun (y12 : (Int32) ⊕ (Bool × f_M)) => Sum.elim (fun x12 =>
           (f_lp (fun (s21 : Int32) =>
            if (σ 155 24) ≤ s21 then (
             (f_lp (fun (s22 : Int32 × Int32) =>
              if (σ 155 25) ≤ s22.2 then (
               (f_lp (fun (s23 : Int32) =>
                if (σ 155 23) ≤ s23 then (
                 some (.inr (.inl ()))
                ) else (
                 (p_259 s23 σ).bind fun t24 =>
                 (f_rd σ 178 3 s23).bind fun v25 =>
                 if t24 = v25 then (
                  (f_lp (fun (s26 : Int32) =>
                   (f_rd σ 178 3 s23).bind fun v27 =>
                   if v27 ≤ s26 then (
                    some (.inr (.inl ()))
                   ) else (
                    (f_ix 3 s23).bind fun v28 =>
                    (f_rd σ (175 + v28) 20 s26).bind fun v29 =>
                    (p_293 v29 σ).bind fun t30 =>
                    (f_rd σ 158 3 s23).bind fun v31 =>
                    (f_rd σ 179 3 s23).bind fun v32 =>
                    if t30 = (((s26 + (1 : Int32)) * ((2 : Int32) + v31)) - v32) then (
                     some (.inl (s26 + (1 : Int32)))
                    ) else (
                     some (.inr (.inr (false, σ)))
                    )
                   )
                  ) f_F (0 : Int32)).bind fun (y26 : (Unit) ⊕ (Bool × f_M)) => Sum.elim (fun x26 =>
                   some (.inl (s23 + (1 : Int32)))
                  ) (fun r26 => some (.inr (.inr r26))) y26
                 ) else (
                  some (.inr (.inr (false, σ)))
                 )
                )
               ) f_F (0 : Int32)).bind fun (y23 : (Unit) ⊕ (Bool × f_M)) => Sum.elim (fun x23 =>
                (g_266  σ).bind fun t37 =>
                if ¬ t37 = s22.1 then (
                 some (.inr (.inr (false, σ)))
                ) else (
                 (g_276  σ).bind fun t38 =>
                 if ¬ t38 = x12 then (
                  some (.inr (.inr (false, σ)))
                 ) else (
                  (g_313  σ).bind fun t39 =>
                  if t39.1 = false then (
                   some (.inr (.inr (false, t39.2)))
                  ) else (
                   some (.inr (.inr (true, t39.2)))
                  )
                 )
                )
               ) (fun r23 => some (.inr (.inr r23))) y23
              ) else (
               (p_231 s22.2 σ).bind fun t43 =>
               (f_rd σ 170 20 s22.2).bind fun v44 =>
               if ¬ t43 = v44 then (
                some (.inr (.inl ()))
               ) else (
                (p_236 s22.2 σ).bind fun t45 =>
                (f_rd σ 171 20 s22.2).bind fun v46 =>
                if ¬ t45 = v46 then (
                 some (.inr (.inl ()))
                ) else (
                 (p_239 s22.2 σ).bind fun t47 =>
                 (f_rd σ 172 20 s22.2).bind fun v48 =>
                 (
                  if ¬ v48 = 0 then (
                   some false
                  ) else (
                   some true
                  )
                 ).bind fun (t49 : Bool) =>
                 if ¬ (f_b t47) = (f_b t49) then (
                  some (.inr (.inl ()))
                 ) else (
                  (p_243 s22.2 σ).bind fun t51 =>
                  (f_rd σ 172 20 s22.2).bind fun v52 =>
                  (
                   if ¬ v52 = (1 : Int32) then (
                    some false
                   ) else (
                    some true
                   )
                  ).bind fun (t53 : Bool) =>
                  if ¬ (f_b t51) = (f_b t53) then (
                   some (.inr (.inl ()))
                  ) else (
                   (p_246 s22.2 σ).bind fun t55 =>
                   (f_rd σ 172 20 s22.2).bind fun v56 =>
                   (
                    if ¬ v56 = (3 : Int32) then (
                     some false
                    ) else (
                     some true
                    )
                   ).bind fun (t57 : Bool) =>
                   if ¬ (f_b t55) = (f_b t57) then (
                    some (.inr (.inl ()))
                   ) else (
                    (p_249 s22.2 σ).bind fun t59 =>
                    (f_rd σ 173 20 s22.2).bind fun v60 =>
                    if t59 = v60 then (
                     (f_rd σ 172 20 s22.2).bind fun v61 =>
                     (
                      if ¬ v61 = (2 : Int32) then (
                       some s22.1
                      ) else (
                       (f_rd σ 173 20 s22.2).bind fun v63 =>
                       some (s22.1 + v63)
                      )
                     ).bind fun (t62 : Int32) =>
                     some (.inl (t62, (s22.2 + (1 : Int32))))
                    ) else (
                     some (.inr (.inl ()))
                    )
                   )
                  )
                 )
                )
               )
              )
             ) f_F ((0 : Int32), (0 : Int32))).bind fun (y22 : (Unit) ⊕ (Bool × f_M)) => Sum.elim (fun x22 =>
              some (.inr (.inr (false, σ)))
             ) (fun r22 => some (.inr (.inr r22))) y22
            ) else (
             (p_213 s21 σ).bind fun t72 =>
             (f_rd σ 166 20 s21).bind fun v73 =>
             if ¬ t72 = v73 then (
              some (.inr (.inl ()))
             ) else (
              (p_216 s21 σ).bind fun t74 =>
              (l_isActive s21 σ).bind fun t75 =>
              if ¬ (f_b t74) = (f_b t75) then (
               some (.inr (.inl ()))
              ) else (
               (p_219 s21 σ).bind fun t76 =>
               (f_rd σ 168 20 s21).bind fun v77 =>
               if ¬ (f_b t76) = v77 then (
                some (.inr (.inl ()))
               ) else (
                (p_222 s21 σ).bind fun t78 =>
                (l_damage s21 σ).bind fun t79 =>
                if ¬ t78 = t79 then (
                 some (.inr (.inl ()))
                ) else (
                 (p_225 s21 σ).bind fun t80 =>
                 (l_obstacle s21 σ).bind fun t81 =>
                 if t80 = t81 then (
                  some (.inl (s21 + (1 : Int32)))
                 ) else (
                  some (.inr (.inl ()))
                 )
                )
               )
              )
             )
            )
           ) f_F (0 : Int32)).bind fun (y21 : (Unit) ⊕ (Bool × f_M)) => Sum.elim (fun x21 =>
            some (false, σ)
           ) (fun r21 => some r21) y21
          ) (fun r12 => some r12) y12
         ) else (
          some (false, σ)
         )
        )
       )
      )
     )
    )
   )
  )
set_option maxRecDepth 4000 in
theorem L_isLike {xs : Nat → Int32} {L N : Nat} (hN : 181 ≤ N)   (σ : f_M) : f_Cal a_MT xs L N 103 [.ref 155, .ref 0] σ ((l_isLike  σ).bind fun t => some (e_wb t)) := by
  refine f_cal_of (ls := [.ref 155, .ref 0, a_dead, a_dead, a_dead, a_dead]) MT_103 (Nat.le_of_ble_eq_true rfl) rfl ?_
  unfold l_isLike
  refine i_aload_n (pc' := 1) (f_at inc_103 (j := 0) rfl) rfl rfl ?_
  refine c_pi (pc' := 4) (c' := 0) (n' := 0) (h_virt (ra := [.ref 0]) (r := []) (as := []) (f_at inc_103 (j := 1) rfl) (by decide) MT_42 rfl rfl rfl ⟨Nat.le_of_ble_eq_true rfl, Nat.le_of_ble_eq_true rfl, Nat.le_of_ble_eq_true rfl⟩ sh_0 (f_lt (o := 0) (m := 181) (Nat.le_of_ble_eq_true rfl) hN)) MT_42 (G_164 (Nat.le_trans (Nat.le_of_ble_eq_true rfl) hN)  σ) ⟨rfl, rfl, rfl⟩ fun t1 => ?_
  refine i_aload_n (pc' := 5) (f_at inc_103 (j := 2) rfl) rfl rfl ?_
  refine i_getI (pc' := 8) (f_at inc_103 (j := 3) rfl) sh_155 rfl (f_lt (o := 155) (m := 181) (Nat.le_of_ble_eq_true rfl) hN) rfl ?_
  refine i_if2 (pc' := 101) (nx := 11) c2_ne (f_at inc_103 (j := 4) rfl) ⟨by decide, rfl⟩ (fun b95 => ?_) (fun b95 => ?_)
  · refine i_iconst (pc' := 102) (f_at inc_103 (j := 47) rfl) ci_0 rfl ?_
    exact i_iret (v := f_b false) (f_at inc_103 (j := 48) rfl) rfl n_bool
  · refine i_aload_n (pc' := 12) (f_at inc_103 (j := 5) rfl) rfl rfl ?_
    refine c_pi (pc' := 15) (c' := 0) (n' := 0) (h_virt (ra := [.ref 0]) (r := []) (as := []) (f_at inc_103 (j := 6) rfl) (by decide) MT_43 rfl rfl rfl ⟨Nat.le_of_ble_eq_true rfl, Nat.le_of_ble_eq_true rfl, Nat.le_of_ble_eq_true rfl⟩ sh_0 (f_lt (o := 0) (m := 181) (Nat.le_of_ble_eq_true rfl) hN)) MT_43 (G_167 (Nat.le_trans (Nat.le_of_ble_eq_true rfl) hN)  σ) ⟨rfl, rfl, rfl⟩ fun t2 => ?_
    refine i_aload_n (pc' := 16) (f_at inc_103 (j := 7) rfl) rfl rfl ?_
    refine i_getI (pc' := 19) (f_at inc_103 (j := 8) rfl) sh_155 rfl (f_lt (o := 155) (m := 181) (Nat.le_of_ble_eq_true rfl) hN) rfl ?_
    refine i_if2 (pc' := 101) (nx := 22) c2_ne (f_at inc_103 (j := 9) rfl) ⟨by decide, rfl⟩ (fun b94 => ?_) (fun b94 => ?_)
    · refine i_iconst (pc' := 102) (f_at inc_103 (j := 47) rfl) ci_0 rfl ?_
      exact i_iret (v := f_b false) (f_at inc_103 (j := 48) rfl) rfl n_bool
    · refine i_aload_n (pc' := 23) (f_at inc_103 (j := 10) rfl) rfl rfl ?_
      refine c_pi (pc' := 26) (c' := 0) (n' := 0) (h_virt (ra := [.ref 0]) (r := []) (as := []) (f_at inc_103 (j := 11) rfl) (by decide) MT_44 rfl rfl rfl ⟨Nat.le_of_ble_eq_true rfl, Nat.le_of_ble_eq_true rfl, Nat.le_of_ble_eq_true rfl⟩ sh_0 (f_lt (o := 0) (m := 181) (Nat.le_of_ble_eq_true rfl) hN)) MT_44 (G_194 (Nat.le_trans (Nat.le_of_ble_eq_true rfl) hN)  σ) ⟨rfl, rfl, rfl⟩ fun t3 => ?_
      refine i_aload_n (pc' := 27) (f_at inc_103 (j := 12) rfl) rfl rfl ?_
      refine i_getI (pc' := 30) (f_at inc_103 (j := 13) rfl) sh_155 rfl (f_lt (o := 155) (m := 181) (Nat.le_of_ble_eq_true rfl) hN) rfl ?_
      refine i_if2 (pc' := 101) (nx := 33) c2_ne (f_at inc_103 (j := 14) rfl) ⟨by decide, rfl⟩ (fun b93 => ?_) (fun b93 => ?_)
      · refine i_iconst (pc' := 102) (f_at inc_103 (j := 47) rfl) ci_0 rfl ?_
        exact i_iret (v := f_b false) (f_at inc_103 (j := 48) rfl) rfl n_bool
      · refine i_aload_n (pc' := 34) (f_at inc_103 (j := 15) rfl) rfl rfl ?_
        refine c_pi (pc' := 37) (c' := 0) (n' := 0) (h_virt (ra := [.ref 0]) (r := []) (as := []) (f_at inc_103 (j := 16) rfl) (by decide) MT_45 rfl rfl rfl ⟨Nat.le_of_ble_eq_true rfl, Nat.le_of_ble_eq_true rfl, Nat.le_of_ble_eq_true rfl⟩ sh_0 (f_lt (o := 0) (m := 181) (Nat.le_of_ble_eq_true rfl) hN)) MT_45 (G_228 (Nat.le_trans (Nat.le_of_ble_eq_true rfl) hN)  σ) ⟨rfl, rfl, rfl⟩ fun t4 => ?_
        refine i_aload_n (pc' := 38) (f_at inc_103 (j := 17) rfl) rfl rfl ?_
        refine i_getI (pc' := 41) (f_at inc_103 (j := 18) rfl) sh_155 rfl (f_lt (o := 155) (m := 181) (Nat.le_of_ble_eq_true rfl) hN) rfl ?_
        refine i_if2 (pc' := 101) (nx := 44) c2_ne (f_at inc_103 (j := 19) rfl) ⟨by decide, rfl⟩ (fun b92 => ?_) (fun b92 => ?_)
        · refine i_iconst (pc' := 102) (f_at inc_103 (j := 47) rfl) ci_0 rfl ?_
          exact i_iret (v := f_b false) (f_at inc_103 (j := 48) rfl) rfl n_bool
        · refine i_aload_n (pc' := 45) (f_at inc_103 (j := 20) rfl) rfl rfl ?_
          refine c_pi (pc' := 48) (c' := 0) (n' := 0) (h_virt (ra := [.ref 0]) (r := []) (as := []) (f_at inc_103 (j := 21) rfl) (by decide) MT_46 rfl rfl rfl ⟨Nat.le_of_ble_eq_true rfl, Nat.le_of_ble_eq_true rfl, Nat.le_of_ble_eq_true rfl⟩ sh_0 (f_lt (o := 0) (m := 181) (Nat.le_of_ble_eq_true rfl) hN)) MT_46 (G_269 (Nat.le_trans (Nat.le_of_ble_eq_true rfl) hN)  σ) ⟨rfl, rfl, rfl⟩ fun t5 => ?_
          refine i_aload_n (pc' := 49) (f_at inc_103 (j := 22) rfl) rfl rfl ?_
          refine i_getI (pc' := 52) (f_at inc_103 (j := 23) rfl) sh_155 rfl (f_lt (o := 155) (m := 181) (Nat.le_of_ble_eq_true rfl) hN) rfl ?_
          refine i_if2 (pc' := 101) (nx := 55) c2_ne (f_at inc_103 (j := 24) rfl) ⟨by decide, rfl⟩ (fun b91 => ?_) (fun b91 => ?_)
          · refine i_iconst (pc' := 102) (f_at inc_103 (j := 47) rfl) ci_0 rfl ?_
            exact i_iret (v := f_b false) (f_at inc_103 (j := 48) rfl) rfl n_bool
          · refine i_aload_n (pc' := 56) (f_at inc_103 (j := 25) rfl) rfl rfl ?_
            refine c_pi (pc' := 59) (c' := 0) (n' := 0) (h_virt (ra := [.ref 0]) (r := []) (as := []) (f_at inc_103 (j := 26) rfl) (by decide) MT_47 rfl rfl rfl ⟨Nat.le_of_ble_eq_true rfl, Nat.le_of_ble_eq_true rfl, Nat.le_of_ble_eq_true rfl⟩ sh_0 (f_lt (o := 0) (m := 181) (Nat.le_of_ble_eq_true rfl) hN)) MT_47 (G_271 (Nat.le_trans (Nat.le_of_ble_eq_true rfl) hN)  σ) ⟨rfl, rfl, rfl⟩ fun t6 => ?_
            refine i_aload_n (pc' := 60) (f_at inc_103 (j := 27) rfl) rfl rfl ?_
            refine i_getI (pc' := 63) (f_at inc_103 (j := 28) rfl) sh_155 rfl (f_lt (o := 155) (m := 181) (Nat.le_of_ble_eq_true rfl) hN) rfl ?_
            refine i_if2 (pc' := 101) (nx := 66) c2_ne (f_at inc_103 (j := 29) rfl) ⟨by decide, rfl⟩ (fun b90 => ?_) (fun b90 => ?_)
            · refine i_iconst (pc' := 102) (f_at inc_103 (j := 47) rfl) ci_0 rfl ?_
              exact i_iret (v := f_b false) (f_at inc_103 (j := 48) rfl) rfl n_bool
            · refine i_aload_n (pc' := 67) (f_at inc_103 (j := 30) rfl) rfl rfl ?_
              refine c_pi (pc' := 70) (c' := 0) (n' := 0) (h_virt (ra := [.ref 0]) (r := []) (as := []) (f_at inc_103 (j := 31) rfl) (by decide) MT_48 rfl rfl rfl ⟨Nat.le_of_ble_eq_true rfl, Nat.le_of_ble_eq_true rfl, Nat.le_of_ble_eq_true rfl⟩ sh_0 (f_lt (o := 0) (m := 181) (Nat.le_of_ble_eq_true rfl) hN)) MT_48 (G_273 (Nat.le_trans (Nat.le_of_ble_eq_true rfl) hN)  σ) ⟨rfl, rfl, rfl⟩ fun t7 => ?_
              refine i_aload_n (pc' := 71) (f_at inc_103 (j := 32) rfl) rfl rfl ?_
              refine i_getI (pc' := 74) (f_at inc_103 (j := 33) rfl) sh_155 rfl (f_lt (o := 155) (m := 181) (Nat.le_of_ble_eq_true rfl) hN) rfl ?_
              refine i_if2 (pc' := 101) (nx := 77) c2_ne (f_at inc_103 (j := 34) rfl) ⟨by decide, rfl⟩ (fun b89 => ?_) (fun b89 => ?_)
              · refine i_iconst (pc' := 102) (f_at inc_103 (j := 47) rfl) ci_0 rfl ?_
                exact i_iret (v := f_b false) (f_at inc_103 (j := 48) rfl) rfl n_bool
              · refine i_aload_n (pc' := 78) (f_at inc_103 (j := 35) rfl) rfl rfl ?_
                refine c_pi (pc' := 81) (c' := 0) (n' := 0) (h_virt (ra := [.ref 0]) (r := []) (as := []) (f_at inc_103 (j := 36) rfl) (by decide) MT_49 rfl rfl rfl ⟨Nat.le_of_ble_eq_true rfl, Nat.le_of_ble_eq_true rfl, Nat.le_of_ble_eq_true rfl⟩ sh_0 (f_lt (o := 0) (m := 181) (Nat.le_of_ble_eq_true rfl) hN)) MT_49 (G_264 (Nat.le_trans (Nat.le_of_ble_eq_true rfl) hN)  σ) ⟨rfl, rfl, rfl⟩ fun t8 => ?_
                refine i_aload_n (pc' := 82) (f_at inc_103 (j := 37) rfl) rfl rfl ?_
                refine i_getI (pc' := 85) (f_at inc_103 (j := 38) rfl) sh_155 rfl (f_lt (o := 155) (m := 181) (Nat.le_of_ble_eq_true rfl) hN) rfl ?_
                refine s_join (J := 98) (fun (t9 : Int32) (u9 : Unit) => [.ref 155, .ref 0, a_dead, a_dead, a_dead, a_dead]) (fun t9 => [.int t9, .int t8]) (fun t9 => σ) ?_ ?_
                · intro t9 u9
                  refine i_if2 (pc' := 103) (nx := 101) c2_eq (f_at inc_103 (j := 46) rfl) ⟨by decide, rfl⟩ (fun b88 => ?_) (fun b88 => ?_)
                  · refine i_iconst (pc' := 104) (f_at inc_103 (j := 49) rfl) ci_0 rfl ?_
                    refine i_istore_n (pc' := 105) (ls' := [.ref 155, .ref 0, .int (0 : Int32), a_dead, a_dead, a_dead]) (f_at inc_103 (j := 50) rfl) (Nat.le_of_ble_eq_true rfl) rfl rfl ?_
                    refine i_iconst (pc' := 106) (f_at inc_103 (j := 51) rfl) ci_0 rfl ?_
                    refine i_istore_n (pc' := 107) (ls' := [.ref 155, .ref 0, .int (0 : Int32), .int (0 : Int32), a_dead, a_dead]) (f_at inc_103 (j := 52) rfl) (Nat.le_of_ble_eq_true rfl) rfl rfl ?_
                    refine s_lB (X := 154) ((0 : Int32), (0 : Int32)) () (fun (s12 : Int32 × Int32) (u12 : Unit) => [.ref 155, .ref 0, .int s12.1, .int s12.2, a_dead, a_dead]) (fun (s12 : Int32 × Int32) => σ) (fun (x12 : Int32) (w12 : Value) => [.ref 155, .ref 0, .int x12, w12, a_dead, a_dead]) (fun (x12 : Int32) => σ) ?_ ?_
                    · intro x12 w12
                      refine i_iconst (pc' := 155) (f_at inc_103 (j := 80) rfl) ci_0 rfl ?_
                      refine i_istore_n (pc' := 156) (ls' := [.ref 155, .ref 0, .int x12, .int (0 : Int32), a_dead, a_dead]) (f_at inc_103 (j := 81) rfl) (Nat.le_of_ble_eq_true rfl) rfl rfl ?_
                      refine s_lB (X := 231) (0 : Int32) () (fun (s21 : Int32) (u21 : Unit) => [.ref 155, .ref 0, .int x12, .int s21, a_dead, a_dead]) (fun (s21 : Int32) => σ) (fun (x21 : Unit) (w21 : Value) => [.ref 155, .ref 0, .int x12, w21, a_dead, a_dead]) (fun (x21 : Unit) => σ) ?_ ?_
                      · intro x21 w21
                        refine i_iconst (pc' := 232) (f_at inc_103 (j := 123) rfl) ci_0 rfl ?_
                        exact i_iret (v := f_b false) (f_at inc_103 (j := 124) rfl) rfl n_bool
                      · intro s21 u21 k21 hb21 hx21 hr21
                        refine i_iload_n (pc' := 157) (f_at inc_103 (j := 82) rfl) rfl rfl ?_
                        refine i_aload_n (pc' := 158) (f_at inc_103 (j := 83) rfl) rfl rfl ?_
                        refine i_getI (pc' := 161) (f_at inc_103 (j := 84) rfl) sh_155 rfl (f_lt (o := 155) (m := 181) (Nat.le_of_ble_eq_true rfl) hN) rfl ?_
                        refine i_if2 (pc' := 239) (nx := 164) c2_ge (f_at inc_103 (j := 85) rfl) ⟨by decide, rfl⟩ (fun b87 => ?_) (fun b87 => ?_)
                        · refine i_iconst (pc' := 240) (f_at inc_103 (j := 127) rfl) ci_0 rfl ?_
                          refine i_istore_n (pc' := 241) (ls' := [.ref 155, .ref 0, .int x12, .int (0 : Int32), a_dead, a_dead]) (f_at inc_103 (j := 128) rfl) (Nat.le_of_ble_eq_true rfl) rfl rfl ?_
                          refine i_iconst (pc' := 242) (f_at inc_103 (j := 129) rfl) ci_0 rfl ?_
                          refine i_istore (pc' := 244) (ls' := [.ref 155, .ref 0, .int x12, .int (0 : Int32), .int (0 : Int32), a_dead]) (f_at inc_103 (j := 130) rfl) (Nat.le_of_ble_eq_true rfl) rfl rfl ?_
                          refine s_lB (X := 375) ((0 : Int32), (0 : Int32)) () (fun (s22 : Int32 × Int32) (u22 : Unit) => [.ref 155, .ref 0, .int x12, .int s22.1, .int s22.2, a_dead]) (fun (s22 : Int32 × Int32) => σ) (fun (x22 : Unit) (w22 : Value × Value) => [.ref 155, .ref 0, .int x12, w22.1, w22.2, a_dead]) (fun (x22 : Unit) => σ) ?_ ?_
                          · intro x22 w22
                            refine i_iconst (pc' := 376) (f_at inc_103 (j := 197) rfl) ci_0 rfl ?_
                            refine s_rt (hr21 _) ?_
                            exact i_iret (v := f_b false) (f_at inc_103 (j := 198) rfl) rfl n_bool
                          · intro s22 u22 k22 hb22 hx22 hr22
                            refine i_iload (pc' := 246) (f_at inc_103 (j := 131) rfl) rfl rfl ?_
                            refine i_aload_n (pc' := 247) (f_at inc_103 (j := 132) rfl) rfl rfl ?_
                            refine i_getI (pc' := 250) (f_at inc_103 (j := 133) rfl) sh_155 rfl (f_lt (o := 155) (m := 181) (Nat.le_of_ble_eq_true rfl) hN) rfl ?_
                            refine i_if2 (pc' := 404) (nx := 253) c2_ge (f_at inc_103 (j := 134) rfl) ⟨by decide, rfl⟩ (fun b71 => ?_) (fun b71 => ?_)
                            · refine i_iconst (pc' := 405) (f_at inc_103 (j := 214) rfl) ci_0 rfl ?_
                              refine i_istore (pc' := 407) (ls' := [.ref 155, .ref 0, .int x12, .int s22.1, .int (0 : Int32), a_dead]) (f_at inc_103 (j := 215) rfl) (Nat.le_of_ble_eq_true rfl) rfl rfl ?_
                              refine s_lB (X := 502) (0 : Int32) (a_dead) (fun (s23 : Int32) (u23 : Value) => [.ref 155, .ref 0, .int x12, .int s22.1, .int s23, u23]) (fun (s23 : Int32) => σ) (fun (x23 : Unit) (w23 : Value × Value) => [.ref 155, .ref 0, .int x12, .int s22.1, w23.1, w23.2]) (fun (x23 : Unit) => σ) ?_ ?_
                              · intro x23 w23
                                refine i_aload_n (pc' := 503) (f_at inc_103 (j := 268) rfl) rfl rfl ?_
                                refine c_pi (pc' := 506) (c' := 0) (n' := 0) (h_virt (ra := [.ref 0]) (r := []) (as := []) (f_at inc_103 (j := 269) rfl) (by decide) MT_87 rfl rfl rfl ⟨Nat.le_of_ble_eq_true rfl, Nat.le_of_ble_eq_true rfl, Nat.le_of_ble_eq_true rfl⟩ sh_0 (f_lt (o := 0) (m := 181) (Nat.le_of_ble_eq_true rfl) hN)) MT_87 (G_266 (Nat.le_trans (Nat.le_of_ble_eq_true rfl) hN)  σ) ⟨rfl, rfl, rfl⟩ fun t37 => ?_
                                refine i_iload_n (pc' := 507) (f_at inc_103 (j := 270) rfl) rfl rfl ?_
                                refine i_if2 (pc' := 529) (nx := 510) c2_ne (f_at inc_103 (j := 271) rfl) ⟨by decide, rfl⟩ (fun b42 => ?_) (fun b42 => ?_)
                                · refine i_iconst (pc' := 530) (f_at inc_103 (j := 281) rfl) ci_0 rfl ?_
                                  refine s_rt (hr22 _) ?_
                                  refine s_rt (hr21 _) ?_
                                  exact i_iret (v := f_b false) (f_at inc_103 (j := 282) rfl) rfl n_bool
                                · refine i_aload_n (pc' := 511) (f_at inc_103 (j := 272) rfl) rfl rfl ?_
                                  refine c_pi (pc' := 514) (c' := 0) (n' := 0) (h_virt (ra := [.ref 0]) (r := []) (as := []) (f_at inc_103 (j := 273) rfl) (by decide) MT_90 rfl rfl rfl ⟨Nat.le_of_ble_eq_true rfl, Nat.le_of_ble_eq_true rfl, Nat.le_of_ble_eq_true rfl⟩ sh_0 (f_lt (o := 0) (m := 181) (Nat.le_of_ble_eq_true rfl) hN)) MT_90 (G_276 (Nat.le_trans (Nat.le_of_ble_eq_true rfl) hN)  σ) ⟨rfl, rfl, rfl⟩ fun t38 => ?_
                                  refine i_iload_n (pc' := 515) (f_at inc_103 (j := 274) rfl) rfl rfl ?_
                                  refine i_if2 (pc' := 529) (nx := 518) c2_ne (f_at inc_103 (j := 275) rfl) ⟨by decide, rfl⟩ (fun b41 => ?_) (fun b41 => ?_)
                                  · refine i_iconst (pc' := 530) (f_at inc_103 (j := 281) rfl) ci_0 rfl ?_
                                    refine s_rt (hr22 _) ?_
                                    refine s_rt (hr21 _) ?_
                                    exact i_iret (v := f_b false) (f_at inc_103 (j := 282) rfl) rfl n_bool
                                  · refine i_aload_n (pc' := 519) (f_at inc_103 (j := 276) rfl) rfl rfl ?_
                                    refine c_wb (pc' := 522) (c' := 0) (n' := 0) (h_virt (ra := [.ref 0]) (r := []) (as := []) (f_at inc_103 (j := 277) rfl) (by decide) MT_102 rfl rfl rfl ⟨Nat.le_of_ble_eq_true rfl, Nat.le_of_ble_eq_true rfl, Nat.le_of_ble_eq_true rfl⟩ sh_0 (f_lt (o := 0) (m := 181) (Nat.le_of_ble_eq_true rfl) hN)) MT_102 (G_313 (Nat.le_trans (Nat.le_of_ble_eq_true rfl) hN)  σ) ⟨rfl, rfl, rfl⟩ fun t39 => ?_
                                    refine i_if0 (pc' := 529) (nx := 525) cb_eq (f_at inc_103 (j := 278) rfl) ⟨by decide, rfl⟩ (fun b40 => ?_) (fun b40 => ?_)
                                    · refine i_iconst (pc' := 530) (f_at inc_103 (j := 281) rfl) ci_0 rfl ?_
                                      refine s_rt (hr22 _) ?_
                                      refine s_rt (hr21 _) ?_
                                      exact i_iret (v := f_b false) (f_at inc_103 (j := 282) rfl) rfl n_bool
                                    · refine i_iconst (pc' := 526) (f_at inc_103 (j := 279) rfl) ci_1 rfl ?_
                                      refine i_goto (pc' := 530) (f_at inc_103 (j := 280) rfl) (by decide) ?_
                                      refine s_rt (hr22 _) ?_
                                      refine s_rt (hr21 _) ?_
                                      exact i_iret (v := f_b true) (f_at inc_103 (j := 282) rfl) rfl n_bool
                              · intro s23 u23 k23 hb23 hx23 hr23
                                refine i_iload (pc' := 409) (f_at inc_103 (j := 216) rfl) rfl rfl ?_
                                refine i_aload_n (pc' := 410) (f_at inc_103 (j := 217) rfl) rfl rfl ?_
                                refine i_getI (pc' := 413) (f_at inc_103 (j := 218) rfl) sh_155 rfl (f_lt (o := 155) (m := 181) (Nat.le_of_ble_eq_true rfl) hN) rfl ?_
                                refine i_if2 (pc' := 502) (nx := 416) c2_ge (f_at inc_103 (j := 219) rfl) ⟨by decide, rfl⟩ (fun b36 => ?_) (fun b36 => ?_)
                                · exact hx23 () (.int s23, u23)
                                · refine i_aload_n (pc' := 417) (f_at inc_103 (j := 220) rfl) rfl rfl ?_
                                  refine i_iload (pc' := 419) (f_at inc_103 (j := 221) rfl) rfl rfl ?_
                                  refine c_pi (pc' := 422) (c' := 0) (n' := 0) (h_virt (ra := [.int s23, .ref 0]) (r := []) (as := [.int s23]) (f_at inc_103 (j := 222) rfl) (by decide) MT_83 rfl rfl rfl ⟨Nat.le_of_ble_eq_true rfl, Nat.le_of_ble_eq_true rfl, Nat.le_of_ble_eq_true rfl⟩ sh_0 (f_lt (o := 0) (m := 181) (Nat.le_of_ble_eq_true rfl) hN)) MT_83 (P_259 (Nat.le_trans (Nat.le_of_ble_eq_true rfl) hN) s23 σ) ⟨rfl, rfl, rfl⟩ fun t24 => ?_
                                  refine i_aload_n (pc' := 423) (f_at inc_103 (j := 223) rfl) rfl rfl ?_
                                  refine i_getR (pc' := 426) (f_at inc_103 (j := 224) rfl) sh_155 rfl (f_lt (o := 155) (m := 181) (Nat.le_of_ble_eq_true rfl) hN) rfl ?_
                                  refine i_iload (pc' := 428) (f_at inc_103 (j := 225) rfl) rfl rfl ?_
                                  refine i_iald (pc' := 429) (f_at inc_103 (j := 226) rfl) sh_178 (f_bg (Nat.le_of_ble_eq_true rfl)) (f_lt (o := 178) (m := 181) (Nat.le_of_ble_eq_true rfl) hN) rfl fun v25 => ?_
                                  refine i_if2 (pc' := 434) (nx := 432) c2_eq (f_at inc_103 (j := 227) rfl) ⟨by decide, rfl⟩ (fun b35 => ?_) (fun b35 => ?_)
                                  · refine i_iconst (pc' := 435) (f_at inc_103 (j := 230) rfl) ci_0 rfl ?_
                                    refine i_istore (pc' := 437) (ls' := [.ref 155, .ref 0, .int x12, .int s22.1, .int s23, .int (0 : Int32)]) (f_at inc_103 (j := 231) rfl) (Nat.le_of_ble_eq_true rfl) rfl rfl ?_
                                    refine s_lB (X := 496) (0 : Int32) () (fun (s26 : Int32) (u26 : Unit) => [.ref 155, .ref 0, .int x12, .int s22.1, .int s23, .int s26]) (fun (s26 : Int32) => σ) (fun (x26 : Unit) (w26 : Value) => [.ref 155, .ref 0, .int x12, .int s22.1, .int s23, w26]) (fun (x26 : Unit) => σ) ?_ ?_
                                    · intro x26 w26
                                      refine i_iinc (pc' := 499) (ls' := [.ref 155, .ref 0, .int x12, .int s22.1, .int (s23 + (1 : Int32)), w26]) (f_at inc_103 (j := 266) rfl) rfl ci_1 rfl rfl ?_
                                      refine i_goto (pc' := 407) (f_at inc_103 (j := 267) rfl) (by decide) ?_
                                      exact hb23 (s23 + (1 : Int32)) (w26)
                                    · intro s26 u26 k26 hb26 hx26 hr26
                                      refine i_iload (pc' := 439) (f_at inc_103 (j := 232) rfl) rfl rfl ?_
                                      refine i_aload_n (pc' := 440) (f_at inc_103 (j := 233) rfl) rfl rfl ?_
                                      refine i_getR (pc' := 443) (f_at inc_103 (j := 234) rfl) sh_155 rfl (f_lt (o := 155) (m := 181) (Nat.le_of_ble_eq_true rfl) hN) rfl ?_
                                      refine i_iload (pc' := 445) (f_at inc_103 (j := 235) rfl) rfl rfl ?_
                                      refine i_iald (pc' := 446) (f_at inc_103 (j := 236) rfl) sh_178 (f_bg (Nat.le_of_ble_eq_true rfl)) (f_lt (o := 178) (m := 181) (Nat.le_of_ble_eq_true rfl) hN) rfl fun v27 => ?_
                                      refine i_if2 (pc' := 496) (nx := 449) c2_ge (f_at inc_103 (j := 237) rfl) ⟨by decide, rfl⟩ (fun b34 => ?_) (fun b34 => ?_)
                                      · exact hx26 () (.int s26)
                                      · refine i_aload_n (pc' := 450) (f_at inc_103 (j := 238) rfl) rfl rfl ?_
                                        refine i_aload_n (pc' := 451) (f_at inc_103 (j := 239) rfl) rfl rfl ?_
                                        refine i_getR (pc' := 454) (f_at inc_103 (j := 240) rfl) sh_155 rfl (f_lt (o := 155) (m := 181) (Nat.le_of_ble_eq_true rfl) hN) rfl ?_
                                        refine i_iload (pc' := 456) (f_at inc_103 (j := 241) rfl) rfl rfl ?_
                                        refine i_kald (pc' := 457) (f_at inc_103 (j := 242) rfl) sh_174 rfl f_gD (f_bg (Nat.le_of_ble_eq_true rfl)) (f_lt (o := 174) (m := 181) (Nat.le_of_ble_eq_true rfl) hN) rfl fun v28 hv28 => ?_
                                        refine i_iload (pc' := 459) (f_at inc_103 (j := 243) rfl) rfl rfl ?_
                                        refine i_iald (pc' := 460) (f_at inc_103 (j := 244) rfl) (f_Dk _ hv28).1 (f_bgD (f_Dk _ hv28)) (f_ltD (f_Dk _ hv28) hN) rfl fun v29 => ?_
                                        refine c_pi (pc' := 463) (c' := 0) (n' := 0) (h_virt (ra := [.int v29, .ref 0]) (r := []) (as := [.int v29]) (f_at inc_103 (j := 245) rfl) (by decide) MT_86 rfl rfl rfl ⟨Nat.le_of_ble_eq_true rfl, Nat.le_of_ble_eq_true rfl, Nat.le_of_ble_eq_true rfl⟩ sh_0 (f_lt (o := 0) (m := 181) (Nat.le_of_ble_eq_true rfl) hN)) MT_86 (P_293 (Nat.le_trans (Nat.le_of_ble_eq_true rfl) hN) v29 σ) ⟨rfl, rfl, rfl⟩ fun t30 => ?_
                                        refine i_iload (pc' := 465) (f_at inc_103 (j := 246) rfl) rfl rfl ?_
                                        refine i_iconst (pc' := 466) (f_at inc_103 (j := 247) rfl) ci_1 rfl ?_
                                        refine i_iadd (pc' := 467) (f_at inc_103 (j := 248) rfl) rfl ?_
                                        refine i_iconst (pc' := 468) (f_at inc_103 (j := 249) rfl) ci_2 rfl ?_
                                        refine i_aload_n (pc' := 469) (f_at inc_103 (j := 250) rfl) rfl rfl ?_
                                        refine i_getR (pc' := 472) (f_at inc_103 (j := 251) rfl) sh_155 rfl (f_lt (o := 155) (m := 181) (Nat.le_of_ble_eq_true rfl) hN) rfl ?_
                                        refine i_iload (pc' := 474) (f_at inc_103 (j := 252) rfl) rfl rfl ?_
                                        refine i_iald (pc' := 475) (f_at inc_103 (j := 253) rfl) sh_158 (f_bg (Nat.le_of_ble_eq_true rfl)) (f_lt (o := 158) (m := 181) (Nat.le_of_ble_eq_true rfl) hN) rfl fun v31 => ?_
                                        refine i_iadd (pc' := 476) (f_at inc_103 (j := 254) rfl) rfl ?_
                                        refine i_imul (pc' := 477) (f_at inc_103 (j := 255) rfl) rfl ?_
                                        refine i_aload_n (pc' := 478) (f_at inc_103 (j := 256) rfl) rfl rfl ?_
                                        refine i_getR (pc' := 481) (f_at inc_103 (j := 257) rfl) sh_155 rfl (f_lt (o := 155) (m := 181) (Nat.le_of_ble_eq_true rfl) hN) rfl ?_
                                        refine i_iload (pc' := 483) (f_at inc_103 (j := 258) rfl) rfl rfl ?_
                                        refine i_iald (pc' := 484) (f_at inc_103 (j := 259) rfl) sh_179 (f_bg (Nat.le_of_ble_eq_true rfl)) (f_lt (o := 179) (m := 181) (Nat.le_of_ble_eq_true rfl) hN) rfl fun v32 => ?_
                                        refine i_isub (pc' := 485) (f_at inc_103 (j := 260) rfl) rfl ?_
                                        refine i_if2 (pc' := 490) (nx := 488) c2_eq (f_at inc_103 (j := 261) rfl) ⟨by decide, rfl⟩ (fun b33 => ?_) (fun b33 => ?_)
                                        · refine i_iinc (pc' := 493) (ls' := [.ref 155, .ref 0, .int x12, .int s22.1, .int s23, .int (s26 + (1 : Int32))]) (f_at inc_103 (j := 264) rfl) rfl ci_1 rfl rfl ?_
                                          refine i_goto (pc' := 437) (f_at inc_103 (j := 265) rfl) (by decide) ?_
                                          exact hb26 (s26 + (1 : Int32)) ()
                                        · refine i_iconst (pc' := 489) (f_at inc_103 (j := 262) rfl) ci_0 rfl ?_
                                          refine s_rt (hr26 _) ?_
                                          refine s_rt (hr23 _) ?_
                                          refine s_rt (hr22 _) ?_
                                          refine s_rt (hr21 _) ?_
                                          exact i_iret (v := f_b false) (f_at inc_103 (j := 263) rfl) rfl n_bool
                                  · refine i_iconst (pc' := 433) (f_at inc_103 (j := 228) rfl) ci_0 rfl ?_
                                    refine s_rt (hr23 _) ?_
                                    refine s_rt (hr22 _) ?_
                                    refine s_rt (hr21 _) ?_
                                    exact i_iret (v := f_b false) (f_at inc_103 (j := 229) rfl) rfl n_bool
                            · refine i_aload_n (pc' := 254) (f_at inc_103 (j := 135) rfl) rfl rfl ?_
                              refine i_iload (pc' := 256) (f_at inc_103 (j := 136) rfl) rfl rfl ?_
                              refine c_pi (pc' := 259) (c' := 0) (n' := 0) (h_virt (ra := [.int s22.2, .ref 0]) (r := []) (as := [.int s22.2]) (f_at inc_103 (j := 137) rfl) (by decide) MT_74 rfl rfl rfl ⟨Nat.le_of_ble_eq_true rfl, Nat.le_of_ble_eq_true rfl, Nat.le_of_ble_eq_true rfl⟩ sh_0 (f_lt (o := 0) (m := 181) (Nat.le_of_ble_eq_true rfl) hN)) MT_74 (P_231 (Nat.le_trans (Nat.le_of_ble_eq_true rfl) hN) s22.2 σ) ⟨rfl, rfl, rfl⟩ fun t43 => ?_
                              refine i_aload_n (pc' := 260) (f_at inc_103 (j := 138) rfl) rfl rfl ?_
                              refine i_getR (pc' := 263) (f_at inc_103 (j := 139) rfl) sh_155 rfl (f_lt (o := 155) (m := 181) (Nat.le_of_ble_eq_true rfl) hN) rfl ?_
                              refine i_iload (pc' := 265) (f_at inc_103 (j := 140) rfl) rfl rfl ?_
                              refine i_iald (pc' := 266) (f_at inc_103 (j := 141) rfl) sh_170 (f_bg (Nat.le_of_ble_eq_true rfl)) (f_lt (o := 170) (m := 181) (Nat.le_of_ble_eq_true rfl) hN) rfl fun v44 => ?_
                              refine i_if2 (pc' := 375) (nx := 269) c2_ne (f_at inc_103 (j := 142) rfl) ⟨by decide, rfl⟩ (fun b70 => ?_) (fun b70 => ?_)
                              · exact hx22 () (.int s22.1, .int s22.2)
                              · refine i_aload_n (pc' := 270) (f_at inc_103 (j := 143) rfl) rfl rfl ?_
                                refine i_iload (pc' := 272) (f_at inc_103 (j := 144) rfl) rfl rfl ?_
                                refine c_pi (pc' := 275) (c' := 0) (n' := 0) (h_virt (ra := [.int s22.2, .ref 0]) (r := []) (as := [.int s22.2]) (f_at inc_103 (j := 145) rfl) (by decide) MT_75 rfl rfl rfl ⟨Nat.le_of_ble_eq_true rfl, Nat.le_of_ble_eq_true rfl, Nat.le_of_ble_eq_true rfl⟩ sh_0 (f_lt (o := 0) (m := 181) (Nat.le_of_ble_eq_true rfl) hN)) MT_75 (P_236 (Nat.le_trans (Nat.le_of_ble_eq_true rfl) hN) s22.2 σ) ⟨rfl, rfl, rfl⟩ fun t45 => ?_
                                refine i_aload_n (pc' := 276) (f_at inc_103 (j := 146) rfl) rfl rfl ?_
                                refine i_getR (pc' := 279) (f_at inc_103 (j := 147) rfl) sh_155 rfl (f_lt (o := 155) (m := 181) (Nat.le_of_ble_eq_true rfl) hN) rfl ?_
                                refine i_iload (pc' := 281) (f_at inc_103 (j := 148) rfl) rfl rfl ?_
                                refine i_iald (pc' := 282) (f_at inc_103 (j := 149) rfl) sh_171 (f_bg (Nat.le_of_ble_eq_true rfl)) (f_lt (o := 171) (m := 181) (Nat.le_of_ble_eq_true rfl) hN) rfl fun v46 => ?_
                                refine i_if2 (pc' := 375) (nx := 285) c2_ne (f_at inc_103 (j := 150) rfl) ⟨by decide, rfl⟩ (fun b69 => ?_) (fun b69 => ?_)
                                · exact hx22 () (.int s22.1, .int s22.2)
                                · refine i_aload_n (pc' := 286) (f_at inc_103 (j := 151) rfl) rfl rfl ?_
                                  refine i_iload (pc' := 288) (f_at inc_103 (j := 152) rfl) rfl rfl ?_
                                  refine c_pb (pc' := 291) (c' := 0) (n' := 0) (h_virt (ra := [.int s22.2, .ref 0]) (r := []) (as := [.int s22.2]) (f_at inc_103 (j := 153) rfl) (by decide) MT_76 rfl rfl rfl ⟨Nat.le_of_ble_eq_true rfl, Nat.le_of_ble_eq_true rfl, Nat.le_of_ble_eq_true rfl⟩ sh_0 (f_lt (o := 0) (m := 181) (Nat.le_of_ble_eq_true rfl) hN)) MT_76 (P_239 (Nat.le_trans (Nat.le_of_ble_eq_true rfl) hN) s22.2 σ) ⟨rfl, rfl, rfl⟩ fun t47 => ?_
                                  refine i_aload_n (pc' := 292) (f_at inc_103 (j := 154) rfl) rfl rfl ?_
                                  refine i_getR (pc' := 295) (f_at inc_103 (j := 155) rfl) sh_155 rfl (f_lt (o := 155) (m := 181) (Nat.le_of_ble_eq_true rfl) hN) rfl ?_
                                  refine i_iload (pc' := 297) (f_at inc_103 (j := 156) rfl) rfl rfl ?_
                                  refine i_iald (pc' := 298) (f_at inc_103 (j := 157) rfl) sh_172 (f_bg (Nat.le_of_ble_eq_true rfl)) (f_lt (o := 172) (m := 181) (Nat.le_of_ble_eq_true rfl) hN) rfl fun v48 => ?_
                                  refine s_join (J := 306) (fun (t49 : Bool) (u49 : Unit) => [.ref 155, .ref 0, .int x12, .int s22.1, .int s22.2, a_dead]) (fun t49 => [.int (f_b t49), .int (f_b t47)]) (fun t49 => σ) ?_ ?_
                                  · intro t49 u49
                                    refine i_if2 (pc' := 375) (nx := 309) c2_ne (f_at inc_103 (j := 162) rfl) ⟨by decide, rfl⟩ (fun b68 => ?_) (fun b68 => ?_)
                                    · exact hx22 () (.int s22.1, .int s22.2)
                                    · refine i_aload_n (pc' := 310) (f_at inc_103 (j := 163) rfl) rfl rfl ?_
                                      refine i_iload (pc' := 312) (f_at inc_103 (j := 164) rfl) rfl rfl ?_
                                      refine c_pb (pc' := 315) (c' := 0) (n' := 0) (h_virt (ra := [.int s22.2, .ref 0]) (r := []) (as := [.int s22.2]) (f_at inc_103 (j := 165) rfl) (by decide) MT_77 rfl rfl rfl ⟨Nat.le_of_ble_eq_true rfl, Nat.le_of_ble_eq_true rfl, Nat.le_of_ble_eq_true rfl⟩ sh_0 (f_lt (o := 0) (m := 181) (Nat.le_of_ble_eq_true rfl) hN)) MT_77 (P_243 (Nat.le_trans (Nat.le_of_ble_eq_true rfl) hN) s22.2 σ) ⟨rfl, rfl, rfl⟩ fun t51 => ?_
                                      refine i_aload_n (pc' := 316) (f_at inc_103 (j := 166) rfl) rfl rfl ?_
                                      refine i_getR (pc' := 319) (f_at inc_103 (j := 167) rfl) sh_155 rfl (f_lt (o := 155) (m := 181) (Nat.le_of_ble_eq_true rfl) hN) rfl ?_
                                      refine i_iload (pc' := 321) (f_at inc_103 (j := 168) rfl) rfl rfl ?_
                                      refine i_iald (pc' := 322) (f_at inc_103 (j := 169) rfl) sh_172 (f_bg (Nat.le_of_ble_eq_true rfl)) (f_lt (o := 172) (m := 181) (Nat.le_of_ble_eq_true rfl) hN) rfl fun v52 => ?_
                                      refine i_iconst (pc' := 323) (f_at inc_103 (j := 170) rfl) ci_1 rfl ?_
                                      refine s_join (J := 331) (fun (t53 : Bool) (u53 : Unit) => [.ref 155, .ref 0, .int x12, .int s22.1, .int s22.2, a_dead]) (fun t53 => [.int (f_b t53), .int (f_b t51)]) (fun t53 => σ) ?_ ?_
                                      · intro t53 u53
                                        refine i_if2 (pc' := 375) (nx := 334) c2_ne (f_at inc_103 (j := 175) rfl) ⟨by decide, rfl⟩ (fun b67 => ?_) (fun b67 => ?_)
                                        · exact hx22 () (.int s22.1, .int s22.2)
                                        · refine i_aload_n (pc' := 335) (f_at inc_103 (j := 176) rfl) rfl rfl ?_
                                          refine i_iload (pc' := 337) (f_at inc_103 (j := 177) rfl) rfl rfl ?_
                                          refine c_pb (pc' := 340) (c' := 0) (n' := 0) (h_virt (ra := [.int s22.2, .ref 0]) (r := []) (as := [.int s22.2]) (f_at inc_103 (j := 178) rfl) (by decide) MT_78 rfl rfl rfl ⟨Nat.le_of_ble_eq_true rfl, Nat.le_of_ble_eq_true rfl, Nat.le_of_ble_eq_true rfl⟩ sh_0 (f_lt (o := 0) (m := 181) (Nat.le_of_ble_eq_true rfl) hN)) MT_78 (P_246 (Nat.le_trans (Nat.le_of_ble_eq_true rfl) hN) s22.2 σ) ⟨rfl, rfl, rfl⟩ fun t55 => ?_
                                          refine i_aload_n (pc' := 341) (f_at inc_103 (j := 179) rfl) rfl rfl ?_
                                          refine i_getR (pc' := 344) (f_at inc_103 (j := 180) rfl) sh_155 rfl (f_lt (o := 155) (m := 181) (Nat.le_of_ble_eq_true rfl) hN) rfl ?_
                                          refine i_iload (pc' := 346) (f_at inc_103 (j := 181) rfl) rfl rfl ?_
                                          refine i_iald (pc' := 347) (f_at inc_103 (j := 182) rfl) sh_172 (f_bg (Nat.le_of_ble_eq_true rfl)) (f_lt (o := 172) (m := 181) (Nat.le_of_ble_eq_true rfl) hN) rfl fun v56 => ?_
                                          refine i_iconst (pc' := 348) (f_at inc_103 (j := 183) rfl) ci_3 rfl ?_
                                          refine s_join (J := 356) (fun (t57 : Bool) (u57 : Unit) => [.ref 155, .ref 0, .int x12, .int s22.1, .int s22.2, a_dead]) (fun t57 => [.int (f_b t57), .int (f_b t55)]) (fun t57 => σ) ?_ ?_
                                          · intro t57 u57
                                            refine i_if2 (pc' := 375) (nx := 359) c2_ne (f_at inc_103 (j := 188) rfl) ⟨by decide, rfl⟩ (fun b66 => ?_) (fun b66 => ?_)
                                            · exact hx22 () (.int s22.1, .int s22.2)
                                            · refine i_aload_n (pc' := 360) (f_at inc_103 (j := 189) rfl) rfl rfl ?_
                                              refine i_iload (pc' := 362) (f_at inc_103 (j := 190) rfl) rfl rfl ?_
                                              refine c_pi (pc' := 365) (c' := 0) (n' := 0) (h_virt (ra := [.int s22.2, .ref 0]) (r := []) (as := [.int s22.2]) (f_at inc_103 (j := 191) rfl) (by decide) MT_79 rfl rfl rfl ⟨Nat.le_of_ble_eq_true rfl, Nat.le_of_ble_eq_true rfl, Nat.le_of_ble_eq_true rfl⟩ sh_0 (f_lt (o := 0) (m := 181) (Nat.le_of_ble_eq_true rfl) hN)) MT_79 (P_249 (Nat.le_trans (Nat.le_of_ble_eq_true rfl) hN) s22.2 σ) ⟨rfl, rfl, rfl⟩ fun t59 => ?_
                                              refine i_aload_n (pc' := 366) (f_at inc_103 (j := 192) rfl) rfl rfl ?_
                                              refine i_getR (pc' := 369) (f_at inc_103 (j := 193) rfl) sh_155 rfl (f_lt (o := 155) (m := 181) (Nat.le_of_ble_eq_true rfl) hN) rfl ?_
                                              refine i_iload (pc' := 371) (f_at inc_103 (j := 194) rfl) rfl rfl ?_
                                              refine i_iald (pc' := 372) (f_at inc_103 (j := 195) rfl) sh_173 (f_bg (Nat.le_of_ble_eq_true rfl)) (f_lt (o := 173) (m := 181) (Nat.le_of_ble_eq_true rfl) hN) rfl fun v60 => ?_
                                              refine i_if2 (pc' := 377) (nx := 375) c2_eq (f_at inc_103 (j := 196) rfl) ⟨by decide, rfl⟩ (fun b65 => ?_) (fun b65 => ?_)
                                              · refine i_aload_n (pc' := 378) (f_at inc_103 (j := 199) rfl) rfl rfl ?_
                                                refine i_getR (pc' := 381) (f_at inc_103 (j := 200) rfl) sh_155 rfl (f_lt (o := 155) (m := 181) (Nat.le_of_ble_eq_true rfl) hN) rfl ?_
                                                refine i_iload (pc' := 383) (f_at inc_103 (j := 201) rfl) rfl rfl ?_
                                                refine i_iald (pc' := 384) (f_at inc_103 (j := 202) rfl) sh_172 (f_bg (Nat.le_of_ble_eq_true rfl)) (f_lt (o := 172) (m := 181) (Nat.le_of_ble_eq_true rfl) hN) rfl fun v61 => ?_
                                                refine i_iconst (pc' := 385) (f_at inc_103 (j := 203) rfl) ci_2 rfl ?_
                                                refine s_join (J := 398) (fun (t62 : Int32) (u62 : Unit) => [.ref 155, .ref 0, .int x12, .int t62, .int s22.2, a_dead]) (fun t62 => []) (fun t62 => σ) ?_ ?_
                                                · intro t62 u62
                                                  refine i_iinc (pc' := 401) (ls' := [.ref 155, .ref 0, .int x12, .int t62, .int (s22.2 + (1 : Int32)), a_dead]) (f_at inc_103 (j := 212) rfl) rfl ci_1 rfl rfl ?_
                                                  refine i_goto (pc' := 244) (f_at inc_103 (j := 213) rfl) (by decide) ?_
                                                  exact hb22 (t62, (s22.2 + (1 : Int32))) ()
                                                · intro k62 hj62
                                                  refine i_if2 (pc' := 398) (nx := 388) c2_ne (f_at inc_103 (j := 204) rfl) ⟨by decide, rfl⟩ (fun b64 => ?_) (fun b64 => ?_)
                                                  · exact hj62 s22.1 ()
                                                  · refine i_iload_n (pc' := 389) (f_at inc_103 (j := 205) rfl) rfl rfl ?_
                                                    refine i_aload_n (pc' := 390) (f_at inc_103 (j := 206) rfl) rfl rfl ?_
                                                    refine i_getR (pc' := 393) (f_at inc_103 (j := 207) rfl) sh_155 rfl (f_lt (o := 155) (m := 181) (Nat.le_of_ble_eq_true rfl) hN) rfl ?_
                                                    refine i_iload (pc' := 395) (f_at inc_103 (j := 208) rfl) rfl rfl ?_
                                                    refine i_iald (pc' := 396) (f_at inc_103 (j := 209) rfl) sh_173 (f_bg (Nat.le_of_ble_eq_true rfl)) (f_lt (o := 173) (m := 181) (Nat.le_of_ble_eq_true rfl) hN) rfl fun v63 => ?_
                                                    refine i_iadd (pc' := 397) (f_at inc_103 (j := 210) rfl) rfl ?_
                                                    refine i_istore_n (pc' := 398) (ls' := [.ref 155, .ref 0, .int x12, .int (s22.1 + v63), .int s22.2, a_dead]) (f_at inc_103 (j := 211) rfl) (Nat.le_of_ble_eq_true rfl) rfl rfl ?_
                                                    exact hj62 (s22.1 + v63) ()
                                              · exact hx22 () (.int s22.1, .int s22.2)
                                          · intro k57 hj57
                                            refine i_if2 (pc' := 355) (nx := 351) c2_ne (f_at inc_103 (j := 184) rfl) ⟨by decide, rfl⟩ (fun b58 => ?_) (fun b58 => ?_)
                                            · refine i_iconst (pc' := 356) (f_at inc_103 (j := 187) rfl) ci_0 rfl ?_
                                              exact hj57 false ()
                                            · refine i_iconst (pc' := 352) (f_at inc_103 (j := 185) rfl) ci_1 rfl ?_
                                              refine i_goto (pc' := 356) (f_at inc_103 (j := 186) rfl) (by decide) ?_
                                              exact hj57 true ()
                                      · intro k53 hj53
                                        refine i_if2 (pc' := 330) (nx := 326) c2_ne (f_at inc_103 (j := 171) rfl) ⟨by decide, rfl⟩ (fun b54 => ?_) (fun b54 => ?_)
                                        · refine i_iconst (pc' := 331) (f_at inc_103 (j := 174) rfl) ci_0 rfl ?_
                                          exact hj53 false ()
                                        · refine i_iconst (pc' := 327) (f_at inc_103 (j := 172) rfl) ci_1 rfl ?_
                                          refine i_goto (pc' := 331) (f_at inc_103 (j := 173) rfl) (by decide) ?_
                                          exact hj53 true ()
                                  · intro k49 hj49
                                    refine i_if0 (pc' := 305) (nx := 301) c0_ne (f_at inc_103 (j := 158) rfl) ⟨by decide, rfl⟩ (fun b50 => ?_) (fun b50 => ?_)
                                    · refine i_iconst (pc' := 306) (f_at inc_103 (j := 161) rfl) ci_0 rfl ?_
                                      exact hj49 false ()
                                    · refine i_iconst (pc' := 302) (f_at inc_103 (j := 159) rfl) ci_1 rfl ?_
                                      refine i_goto (pc' := 306) (f_at inc_103 (j := 160) rfl) (by decide) ?_
                                      exact hj49 true ()
                        · refine i_aload_n (pc' := 165) (f_at inc_103 (j := 86) rfl) rfl rfl ?_
                          refine i_iload_n (pc' := 166) (f_at inc_103 (j := 87) rfl) rfl rfl ?_
                          refine c_pi (pc' := 169) (c' := 0) (n' := 0) (h_virt (ra := [.int s21, .ref 0]) (r := []) (as := [.int s21]) (f_at inc_103 (j := 88) rfl) (by decide) MT_57 rfl rfl rfl ⟨Nat.le_of_ble_eq_true rfl, Nat.le_of_ble_eq_true rfl, Nat.le_of_ble_eq_true rfl⟩ sh_0 (f_lt (o := 0) (m := 181) (Nat.le_of_ble_eq_true rfl) hN)) MT_57 (P_213 (Nat.le_trans (Nat.le_of_ble_eq_true rfl) hN) s21 σ) ⟨rfl, rfl, rfl⟩ fun t72 => ?_
                          refine i_aload_n (pc' := 170) (f_at inc_103 (j := 89) rfl) rfl rfl ?_
                          refine i_getR (pc' := 173) (f_at inc_103 (j := 90) rfl) sh_155 rfl (f_lt (o := 155) (m := 181) (Nat.le_of_ble_eq_true rfl) hN) rfl ?_
                          refine i_iload_n (pc' := 174) (f_at inc_103 (j := 91) rfl) rfl rfl ?_
                          refine i_iald (pc' := 175) (f_at inc_103 (j := 92) rfl) sh_166 (f_bg (Nat.le_of_ble_eq_true rfl)) (f_lt (o := 166) (m := 181) (Nat.le_of_ble_eq_true rfl) hN) rfl fun v73 => ?_
                          refine i_if2 (pc' := 231) (nx := 178) c2_ne (f_at inc_103 (j := 93) rfl) ⟨by decide, rfl⟩ (fun b86 => ?_) (fun b86 => ?_)
                          · exact hx21 () (.int s21)
                          · refine i_aload_n (pc' := 179) (f_at inc_103 (j := 94) rfl) rfl rfl ?_
                            refine i_iload_n (pc' := 180) (f_at inc_103 (j := 95) rfl) rfl rfl ?_
                            refine c_pb (pc' := 183) (c' := 0) (n' := 0) (h_virt (ra := [.int s21, .ref 0]) (r := []) (as := [.int s21]) (f_at inc_103 (j := 96) rfl) (by decide) MT_60 rfl rfl rfl ⟨Nat.le_of_ble_eq_true rfl, Nat.le_of_ble_eq_true rfl, Nat.le_of_ble_eq_true rfl⟩ sh_0 (f_lt (o := 0) (m := 181) (Nat.le_of_ble_eq_true rfl) hN)) MT_60 (P_216 (Nat.le_trans (Nat.le_of_ble_eq_true rfl) hN) s21 σ) ⟨rfl, rfl, rfl⟩ fun t74 => ?_
                            refine i_aload_n (pc' := 184) (f_at inc_103 (j := 97) rfl) rfl rfl ?_
                            refine i_iload_n (pc' := 185) (f_at inc_103 (j := 98) rfl) rfl rfl ?_
                            refine c_pb (pc' := 188) (c' := 0) (n' := 0) (h_virt (ra := [.int s21, .ref 155]) (r := [.int (f_b t74)]) (as := [.int s21]) (f_at inc_103 (j := 99) rfl) (by decide) MT_61 rfl rfl rfl ⟨Nat.le_of_ble_eq_true rfl, Nat.le_of_ble_eq_true rfl, Nat.le_of_ble_eq_true rfl⟩ sh_155 (f_lt (o := 155) (m := 181) (Nat.le_of_ble_eq_true rfl) hN)) MT_61 (L_isActive hN s21 σ) ⟨rfl, rfl, rfl⟩ fun t75 => ?_
                            refine i_if2 (pc' := 231) (nx := 191) c2_ne (f_at inc_103 (j := 100) rfl) ⟨by decide, rfl⟩ (fun b85 => ?_) (fun b85 => ?_)
                            · exact hx21 () (.int s21)
                            · refine i_aload_n (pc' := 192) (f_at inc_103 (j := 101) rfl) rfl rfl ?_
                              refine i_iload_n (pc' := 193) (f_at inc_103 (j := 102) rfl) rfl rfl ?_
                              refine c_pb (pc' := 196) (c' := 0) (n' := 0) (h_virt (ra := [.int s21, .ref 0]) (r := []) (as := [.int s21]) (f_at inc_103 (j := 103) rfl) (by decide) MT_62 rfl rfl rfl ⟨Nat.le_of_ble_eq_true rfl, Nat.le_of_ble_eq_true rfl, Nat.le_of_ble_eq_true rfl⟩ sh_0 (f_lt (o := 0) (m := 181) (Nat.le_of_ble_eq_true rfl) hN)) MT_62 (P_219 (Nat.le_trans (Nat.le_of_ble_eq_true rfl) hN) s21 σ) ⟨rfl, rfl, rfl⟩ fun t76 => ?_
                              refine i_aload_n (pc' := 197) (f_at inc_103 (j := 104) rfl) rfl rfl ?_
                              refine i_getR (pc' := 200) (f_at inc_103 (j := 105) rfl) sh_155 rfl (f_lt (o := 155) (m := 181) (Nat.le_of_ble_eq_true rfl) hN) rfl ?_
                              refine i_iload_n (pc' := 201) (f_at inc_103 (j := 106) rfl) rfl rfl ?_
                              refine i_bald (pc' := 202) (f_at inc_103 (j := 107) rfl) sh_168 (Or.inr rfl) (f_bg (Nat.le_of_ble_eq_true rfl)) (f_lt (o := 168) (m := 181) (Nat.le_of_ble_eq_true rfl) hN) rfl fun v77 => ?_
                              refine i_if2 (pc' := 231) (nx := 205) c2_ne (f_at inc_103 (j := 108) rfl) ⟨by decide, rfl⟩ (fun b84 => ?_) (fun b84 => ?_)
                              · exact hx21 () (.int s21)
                              · refine i_aload_n (pc' := 206) (f_at inc_103 (j := 109) rfl) rfl rfl ?_
                                refine i_iload_n (pc' := 207) (f_at inc_103 (j := 110) rfl) rfl rfl ?_
                                refine c_pi (pc' := 210) (c' := 0) (n' := 0) (h_virt (ra := [.int s21, .ref 0]) (r := []) (as := [.int s21]) (f_at inc_103 (j := 111) rfl) (by decide) MT_66 rfl rfl rfl ⟨Nat.le_of_ble_eq_true rfl, Nat.le_of_ble_eq_true rfl, Nat.le_of_ble_eq_true rfl⟩ sh_0 (f_lt (o := 0) (m := 181) (Nat.le_of_ble_eq_true rfl) hN)) MT_66 (P_222 (Nat.le_trans (Nat.le_of_ble_eq_true rfl) hN) s21 σ) ⟨rfl, rfl, rfl⟩ fun t78 => ?_
                                refine i_aload_n (pc' := 211) (f_at inc_103 (j := 112) rfl) rfl rfl ?_
                                refine i_iload_n (pc' := 212) (f_at inc_103 (j := 113) rfl) rfl rfl ?_
                                refine c_pi (pc' := 215) (c' := 0) (n' := 0) (h_virt (ra := [.int s21, .ref 155]) (r := [.int t78]) (as := [.int s21]) (f_at inc_103 (j := 114) rfl) (by decide) MT_67 rfl rfl rfl ⟨Nat.le_of_ble_eq_true rfl, Nat.le_of_ble_eq_true rfl, Nat.le_of_ble_eq_true rfl⟩ sh_155 (f_lt (o := 155) (m := 181) (Nat.le_of_ble_eq_true rfl) hN)) MT_67 (L_damage hN s21 σ) ⟨rfl, rfl, rfl⟩ fun t79 => ?_
                                refine i_if2 (pc' := 231) (nx := 218) c2_ne (f_at inc_103 (j := 115) rfl) ⟨by decide, rfl⟩ (fun b83 => ?_) (fun b83 => ?_)
                                · exact hx21 () (.int s21)
                                · refine i_aload_n (pc' := 219) (f_at inc_103 (j := 116) rfl) rfl rfl ?_
                                  refine i_iload_n (pc' := 220) (f_at inc_103 (j := 117) rfl) rfl rfl ?_
                                  refine c_pi (pc' := 223) (c' := 0) (n' := 0) (h_virt (ra := [.int s21, .ref 0]) (r := []) (as := [.int s21]) (f_at inc_103 (j := 118) rfl) (by decide) MT_71 rfl rfl rfl ⟨Nat.le_of_ble_eq_true rfl, Nat.le_of_ble_eq_true rfl, Nat.le_of_ble_eq_true rfl⟩ sh_0 (f_lt (o := 0) (m := 181) (Nat.le_of_ble_eq_true rfl) hN)) MT_71 (P_225 (Nat.le_trans (Nat.le_of_ble_eq_true rfl) hN) s21 σ) ⟨rfl, rfl, rfl⟩ fun t80 => ?_
                                  refine i_aload_n (pc' := 224) (f_at inc_103 (j := 119) rfl) rfl rfl ?_
                                  refine i_iload_n (pc' := 225) (f_at inc_103 (j := 120) rfl) rfl rfl ?_
                                  refine c_pi (pc' := 228) (c' := 0) (n' := 0) (h_virt (ra := [.int s21, .ref 155]) (r := [.int t80]) (as := [.int s21]) (f_at inc_103 (j := 121) rfl) (by decide) MT_72 rfl rfl rfl ⟨Nat.le_of_ble_eq_true rfl, Nat.le_of_ble_eq_true rfl, Nat.le_of_ble_eq_true rfl⟩ sh_155 (f_lt (o := 155) (m := 181) (Nat.le_of_ble_eq_true rfl) hN)) MT_72 (L_obstacle hN s21 σ) ⟨rfl, rfl, rfl⟩ fun t81 => ?_
                                  refine i_if2 (pc' := 233) (nx := 231) c2_eq (f_at inc_103 (j := 122) rfl) ⟨by decide, rfl⟩ (fun b82 => ?_) (fun b82 => ?_)
                                  · refine i_iinc (pc' := 236) (ls' := [.ref 155, .ref 0, .int x12, .int (s21 + (1 : Int32)), a_dead, a_dead]) (f_at inc_103 (j := 125) rfl) rfl ci_1 rfl rfl ?_
                                    refine i_goto (pc' := 156) (f_at inc_103 (j := 126) rfl) (by decide) ?_
                                    exact hb21 (s21 + (1 : Int32)) ()
                                  · exact hx21 () (.int s21)
                    · intro s12 u12 k12 hb12 hx12 hr12
                      refine i_iload_n (pc' := 108) (f_at inc_103 (j := 53) rfl) rfl rfl ?_
                      refine i_aload_n (pc' := 109) (f_at inc_103 (j := 54) rfl) rfl rfl ?_
                      refine i_getI (pc' := 112) (f_at inc_103 (j := 55) rfl) sh_155 rfl (f_lt (o := 155) (m := 181) (Nat.le_of_ble_eq_true rfl) hN) rfl ?_
                      refine i_if2 (pc' := 154) (nx := 115) c2_ge (f_at inc_103 (j := 56) rfl) ⟨by decide, rfl⟩ (fun b20 => ?_) (fun b20 => ?_)
                      · exact hx12 s12.1 (.int s12.2)
                      · refine i_aload_n (pc' := 116) (f_at inc_103 (j := 57) rfl) rfl rfl ?_
                        refine i_iload_n (pc' := 117) (f_at inc_103 (j := 58) rfl) rfl rfl ?_
                        refine c_pi (pc' := 120) (c' := 0) (n' := 0) (h_virt (ra := [.int s12.2, .ref 0]) (r := []) (as := [.int s12.2]) (f_at inc_103 (j := 59) rfl) (by decide) MT_52 rfl rfl rfl ⟨Nat.le_of_ble_eq_true rfl, Nat.le_of_ble_eq_true rfl, Nat.le_of_ble_eq_true rfl⟩ sh_0 (f_lt (o := 0) (m := 181) (Nat.le_of_ble_eq_true rfl) hN)) MT_52 (P_179 (Nat.le_trans (Nat.le_of_ble_eq_true rfl) hN) s12.2 σ) ⟨rfl, rfl, rfl⟩ fun t13 => ?_
                        refine i_aload_n (pc' := 121) (f_at inc_103 (j := 60) rfl) rfl rfl ?_
                        refine i_getR (pc' := 124) (f_at inc_103 (j := 61) rfl) sh_155 rfl (f_lt (o := 155) (m := 181) (Nat.le_of_ble_eq_true rfl) hN) rfl ?_
                        refine i_iload_n (pc' := 125) (f_at inc_103 (j := 62) rfl) rfl rfl ?_
                        refine i_iald (pc' := 126) (f_at inc_103 (j := 63) rfl) sh_156 (f_bg (Nat.le_of_ble_eq_true rfl)) (f_lt (o := 156) (m := 181) (Nat.le_of_ble_eq_true rfl) hN) rfl fun v14 => ?_
                        refine i_if2 (pc' := 131) (nx := 129) c2_eq (f_at inc_103 (j := 64) rfl) ⟨by decide, rfl⟩ (fun b19 => ?_) (fun b19 => ?_)
                        · refine i_aload_n (pc' := 132) (f_at inc_103 (j := 67) rfl) rfl rfl ?_
                          refine i_getR (pc' := 135) (f_at inc_103 (j := 68) rfl) sh_155 rfl (f_lt (o := 155) (m := 181) (Nat.le_of_ble_eq_true rfl) hN) rfl ?_
                          refine i_iload_n (pc' := 136) (f_at inc_103 (j := 69) rfl) rfl rfl ?_
                          refine i_iald (pc' := 137) (f_at inc_103 (j := 70) rfl) sh_157 (f_bg (Nat.le_of_ble_eq_true rfl)) (f_lt (o := 157) (m := 181) (Nat.le_of_ble_eq_true rfl) hN) rfl fun v15 => ?_
                          refine i_aload_n (pc' := 138) (f_at inc_103 (j := 71) rfl) rfl rfl ?_
                          refine i_getR (pc' := 141) (f_at inc_103 (j := 72) rfl) sh_155 rfl (f_lt (o := 155) (m := 181) (Nat.le_of_ble_eq_true rfl) hN) rfl ?_
                          refine i_iload_n (pc' := 142) (f_at inc_103 (j := 73) rfl) rfl rfl ?_
                          refine i_iald (pc' := 143) (f_at inc_103 (j := 74) rfl) sh_157 (f_bg (Nat.le_of_ble_eq_true rfl)) (f_lt (o := 157) (m := 181) (Nat.le_of_ble_eq_true rfl) hN) rfl fun v16 => ?_
                          refine s_join (J := 148) (fun (t17 : Int32) (u17 : Unit) => [.ref 155, .ref 0, .int t17, .int s12.2, a_dead, a_dead]) (fun t17 => []) (fun t17 => σ) ?_ ?_
                          · intro t17 u17
                            refine i_iinc (pc' := 151) (ls' := [.ref 155, .ref 0, .int t17, .int (s12.2 + (1 : Int32)), a_dead, a_dead]) (f_at inc_103 (j := 78) rfl) rfl ci_1 rfl rfl ?_
                            refine i_goto (pc' := 107) (f_at inc_103 (j := 79) rfl) (by decide) ?_
                            exact hb12 (t17, (s12.2 + (1 : Int32))) ()
                          · intro k17 hj17
                            refine i_if2 (pc' := 148) (nx := 146) c2_le (f_at inc_103 (j := 75) rfl) ⟨by decide, rfl⟩ (fun b18 => ?_) (fun b18 => ?_)
                            · exact hj17 s12.1 ()
                            · refine i_iload_n (pc' := 147) (f_at inc_103 (j := 76) rfl) rfl rfl ?_
                              refine i_istore_n (pc' := 148) (ls' := [.ref 155, .ref 0, .int s12.2, .int s12.2, a_dead, a_dead]) (f_at inc_103 (j := 77) rfl) (Nat.le_of_ble_eq_true rfl) rfl rfl ?_
                              exact hj17 s12.2 ()
                        · refine i_iconst (pc' := 130) (f_at inc_103 (j := 65) rfl) ci_0 rfl ?_
                          refine s_rt (hr12 _) ?_
                          exact i_iret (v := f_b false) (f_at inc_103 (j := 66) rfl) rfl n_bool
                  · refine i_iconst (pc' := 102) (f_at inc_103 (j := 47) rfl) ci_0 rfl ?_
                    exact i_iret (v := f_b false) (f_at inc_103 (j := 48) rfl) rfl n_bool
                · intro k9 hj9
                  refine i_if0 (pc' := 92) (nx := 88) c0_ne (f_at inc_103 (j := 39) rfl) ⟨by decide, rfl⟩ (fun b11 => ?_) (fun b11 => ?_)
                  · refine i_aload_n (pc' := 93) (f_at inc_103 (j := 42) rfl) rfl rfl ?_
                    refine i_getR (pc' := 96) (f_at inc_103 (j := 43) rfl) sh_155 rfl (f_lt (o := 155) (m := 181) (Nat.le_of_ble_eq_true rfl) hN) rfl ?_
                    refine i_iconst (pc' := 97) (f_at inc_103 (j := 44) rfl) ci_0 rfl ?_
                    refine i_iald (pc' := 98) (f_at inc_103 (j := 45) rfl) sh_180 (f_bg (Nat.le_of_ble_eq_true rfl)) (f_lt (o := 180) (m := 181) (Nat.le_of_ble_eq_true rfl) hN) rfl fun v10 => ?_
                    exact hj9 v10 ()
                  · refine i_iconst (pc' := 89) (f_at inc_103 (j := 40) rfl) ci_m1 rfl ?_
                    refine i_goto (pc' := 98) (f_at inc_103 (j := 41) rfl) (by decide) ?_
                    exact hj9 (-1 : Int32) ()
set_option maxRecDepth 4000 in
def p_285 (a0 : Int32) (a1 : Int32) (a2 : Int32) (σ : f_M) : Option (Unit) :=
  if a0 < a1 then (
   none
  ) else (
   if a0 ≤ a2 then (
    some ()
   ) else (
    none
   )
  )
set_option maxRecDepth 4000 in
theorem P_285 {xs : Nat → Int32} {L N : Nat} (hN : 155 ≤ N) (a0 : Int32) (a1 : Int32) (a2 : Int32)  (σ : f_M) : f_Cal a_MT xs L N 104 [.int a0, .int a1, .int a2] σ ((p_285 a0 a1 a2 σ).bind fun t => some (e_pv σ t)) := by
  refine f_cal_of (ls := [.int a0, .int a1, .int a2]) MT_104 (Nat.le_of_ble_eq_true rfl) rfl ?_
  unfold p_285
  refine i_iload_n (pc' := 1) (f_at inc_104 (j := 0) rfl) rfl rfl ?_
  refine i_iload_n (pc' := 2) (f_at inc_104 (j := 1) rfl) rfl rfl ?_
  refine i_if2 (pc' := 10) (nx := 5) c2_lt (f_at inc_104 (j := 2) rfl) ⟨by decide, rfl⟩ (fun b2 => ?_) (fun b2 => ?_)
  · exact f_none
  · refine i_iload_n (pc' := 6) (f_at inc_104 (j := 3) rfl) rfl rfl ?_
    refine i_iload_n (pc' := 7) (f_at inc_104 (j := 4) rfl) rfl rfl ?_
    refine i_if2 (pc' := 21) (nx := 10) c2_le (f_at inc_104 (j := 5) rfl) ⟨by decide, rfl⟩ (fun b1 => ?_) (fun b1 => ?_)
    · exact i_vret (f_at inc_104 (j := 6) rfl) rfl
    · exact f_none
set_option maxRecDepth 4000 in
theorem G_74 {xs : Nat → Int32} {L N : Nat} (hN : 155 ≤ N) (a1 : Int32)  (σ : f_M) : f_Cal a_MT xs L N 105 [.ref 102, .int a1] σ ((g_74 a1 σ).bind fun t => some (e_pb σ t)) := by
  refine f_cal_of (ls := [.ref 102, .int a1]) MT_105 (Nat.le_of_ble_eq_true rfl) rfl ?_
  unfold g_74
  refine i_aload_n (pc' := 1) (f_at inc_105 (j := 0) rfl) rfl rfl ?_
  refine i_getR (pc' := 4) (f_at inc_105 (j := 1) rfl) sh_102 rfl (f_lt (o := 102) (m := 155) (Nat.le_of_ble_eq_true rfl) hN) rfl ?_
  refine i_getI (pc' := 7) (f_at inc_105 (j := 2) rfl) sh_121 rfl (f_lt (o := 121) (m := 155) (Nat.le_of_ble_eq_true rfl) hN) rfl ?_
  refine i_iload_n (pc' := 8) (f_at inc_105 (j := 3) rfl) rfl rfl ?_
  refine i_iadd (pc' := 9) (f_at inc_105 (j := 4) rfl) rfl ?_
  refine i_sipush (pc' := 12) (f_at inc_105 (j := 5) rfl) cs_1000 rfl ?_
  refine s_join (J := 20) (fun (t1 : Bool) (u1 : Unit) => [.ref 102, .int a1]) (fun t1 => [.int (f_b t1)]) (fun t1 => σ) ?_ ?_
  · intro t1 u1
    exact i_iret (v := f_b t1) (f_at inc_105 (j := 10) rfl) rfl n_bool
  · intro k1 hj1
    refine i_if2 (pc' := 19) (nx := 15) c2_gt (f_at inc_105 (j := 6) rfl) ⟨by decide, rfl⟩ (fun b2 => ?_) (fun b2 => ?_)
    · refine i_iconst (pc' := 20) (f_at inc_105 (j := 9) rfl) ci_0 rfl ?_
      exact hj1 false ()
    · refine i_iconst (pc' := 16) (f_at inc_105 (j := 7) rfl) ci_1 rfl ?_
      refine i_goto (pc' := 20) (f_at inc_105 (j := 8) rfl) (by decide) ?_
      exact hj1 true ()
set_option maxRecDepth 4000 in
theorem G_72 {xs : Nat → Int32} {L N : Nat} (hN : 155 ≤ N) (a0 : Nat) (a1 : Nat) (ha0 : f_L a0) (ha1 : f_L a1) (σ : f_M) : f_Cal a_MT xs L N 106 [.ref a0, .ref a1] σ ((g_72 a0 a1 σ).bind fun t => some (e_wv t)) := by
  refine f_cal_of (ls := [.ref a0, .ref a1, a_dead]) MT_106 (Nat.le_of_ble_eq_true rfl) rfl ?_
  unfold g_72
  refine i_aload_n (pc' := 1) (f_at inc_106 (j := 0) rfl) rfl rfl ?_
  refine i_aload_n (pc' := 2) (f_at inc_106 (j := 1) rfl) rfl rfl ?_
  refine i_getI (pc' := 5) (f_at inc_106 (j := 2) rfl) ha1.1 rfl (f_ltL ha1 hN 0 (Nat.le_of_ble_eq_true rfl)) rfl ?_
  refine i_putI (pc' := 8) (f_at inc_106 (j := 3) rfl) ha0.1 rfl ⟨rfl, rfl⟩ (f_ltL ha0 hN 0 (Nat.le_of_ble_eq_true rfl)) rfl ?_
  refine i_aload_n (pc' := 9) (f_at inc_106 (j := 4) rfl) rfl rfl ?_
  refine i_aload_n (pc' := 10) (f_at inc_106 (j := 5) rfl) rfl rfl ?_
  refine i_getI (pc' := 13) (f_at inc_106 (j := 6) rfl) ha1.1 rfl (f_ltL ha1 hN 0 (Nat.le_of_ble_eq_true rfl)) rfl ?_
  refine i_putI (pc' := 16) (f_at inc_106 (j := 7) rfl) ha0.1 rfl ⟨rfl, rfl⟩ (f_ltL ha0 hN 0 (Nat.le_of_ble_eq_true rfl)) rfl ?_
  refine i_aload_n (pc' := 17) (f_at inc_106 (j := 8) rfl) rfl rfl ?_
  refine i_getR (pc' := 20) (f_at inc_106 (j := 9) rfl) ha1.1 rfl (f_ltL ha1 hN 0 (Nat.le_of_ble_eq_true rfl)) rfl ?_
  refine i_iconst (pc' := 21) (f_at inc_106 (j := 10) rfl) ci_0 rfl ?_
  refine i_aload_n (pc' := 22) (f_at inc_106 (j := 11) rfl) rfl rfl ?_
  refine i_getR (pc' := 25) (f_at inc_106 (j := 12) rfl) ha0.1 rfl (f_ltL ha0 hN 0 (Nat.le_of_ble_eq_true rfl)) rfl ?_
  refine i_iconst (pc' := 26) (f_at inc_106 (j := 13) rfl) ci_0 rfl ?_
  refine i_bipush (pc' := 28) (f_at inc_106 (j := 14) rfl) cb_8 rfl ?_
  refine i_cpy (pc' := 31) (f_at inc_106 (j := 15) rfl) ha1.2.1 ha0.2.1 (Or.inl rfl) (Nat.le_of_ble_eq_true rfl) (f_ltL ha1 hN 1 (Nat.le_of_ble_eq_true rfl)) (f_ltL ha0 hN 1 (Nat.le_of_ble_eq_true rfl)) rfl fun m1 => ?_
  refine i_aload_n (pc' := 32) (f_at inc_106 (j := 16) rfl) rfl rfl ?_
  refine i_aload_n (pc' := 33) (f_at inc_106 (j := 17) rfl) rfl rfl ?_
  refine i_getI (pc' := 36) (f_at inc_106 (j := 18) rfl) ha1.1 rfl (f_ltL ha1 hN 0 (Nat.le_of_ble_eq_true rfl)) rfl ?_
  refine i_putI (pc' := 39) (f_at inc_106 (j := 19) rfl) ha0.1 rfl ⟨rfl, rfl⟩ (f_ltL ha0 hN 0 (Nat.le_of_ble_eq_true rfl)) rfl ?_
  refine i_iconst (pc' := 40) (f_at inc_106 (j := 20) rfl) ci_0 rfl ?_
  refine i_istore_n (pc' := 41) (ls' := [.ref a0, .ref a1, .int (0 : Int32)]) (f_at inc_106 (j := 21) rfl) (Nat.le_of_ble_eq_true rfl) rfl rfl ?_
  refine s_lX (X := 65) ((0 : Int32), (f_up m1 a0 3 (m1 a1 3))) () (fun (s2 : Int32 × f_M) (u2 : Unit) => [.ref a0, .ref a1, .int s2.1]) (fun (s2 : Int32 × f_M) => s2.2) (fun (x2 : f_M) (w2 : Value) => [.ref a0, .ref a1, w2]) (fun (x2 : f_M) => x2) ?_ ?_
  · intro x2 w2
    refine i_aload_n (pc' := 66) (f_at inc_106 (j := 35) rfl) rfl rfl ?_
    refine i_aload_n (pc' := 67) (f_at inc_106 (j := 36) rfl) rfl rfl ?_
    refine i_getI (pc' := 70) (f_at inc_106 (j := 37) rfl) ha1.1 rfl (f_ltL ha1 hN 0 (Nat.le_of_ble_eq_true rfl)) rfl ?_
    refine i_putI (pc' := 73) (f_at inc_106 (j := 38) rfl) ha0.1 rfl ⟨rfl, rfl⟩ (f_ltL ha0 hN 0 (Nat.le_of_ble_eq_true rfl)) rfl ?_
    refine i_aload_n (pc' := 74) (f_at inc_106 (j := 39) rfl) rfl rfl ?_
    refine i_getR (pc' := 77) (f_at inc_106 (j := 40) rfl) ha1.1 rfl (f_ltL ha1 hN 0 (Nat.le_of_ble_eq_true rfl)) rfl ?_
    refine i_iconst (pc' := 78) (f_at inc_106 (j := 41) rfl) ci_0 rfl ?_
    refine i_aload_n (pc' := 79) (f_at inc_106 (j := 42) rfl) rfl rfl ?_
    refine i_getR (pc' := 82) (f_at inc_106 (j := 43) rfl) ha0.1 rfl (f_ltL ha0 hN 0 (Nat.le_of_ble_eq_true rfl)) rfl ?_
    refine i_iconst (pc' := 83) (f_at inc_106 (j := 44) rfl) ci_0 rfl ?_
    refine i_bipush (pc' := 85) (f_at inc_106 (j := 45) rfl) cb_20 rfl ?_
    refine i_cpy (pc' := 88) (f_at inc_106 (j := 46) rfl) ha1.2.2.2.1 ha0.2.2.2.1 (Or.inl rfl) (Nat.le_of_ble_eq_true rfl) (f_ltL ha1 hN 3 (Nat.le_of_ble_eq_true rfl)) (f_ltL ha0 hN 3 (Nat.le_of_ble_eq_true rfl)) rfl fun m6 => ?_
    refine i_aload_n (pc' := 89) (f_at inc_106 (j := 47) rfl) rfl rfl ?_
    refine i_getR (pc' := 92) (f_at inc_106 (j := 48) rfl) ha1.1 rfl (f_ltL ha1 hN 0 (Nat.le_of_ble_eq_true rfl)) rfl ?_
    refine i_iconst (pc' := 93) (f_at inc_106 (j := 49) rfl) ci_0 rfl ?_
    refine i_aload_n (pc' := 94) (f_at inc_106 (j := 50) rfl) rfl rfl ?_
    refine i_getR (pc' := 97) (f_at inc_106 (j := 51) rfl) ha0.1 rfl (f_ltL ha0 hN 0 (Nat.le_of_ble_eq_true rfl)) rfl ?_
    refine i_iconst (pc' := 98) (f_at inc_106 (j := 52) rfl) ci_0 rfl ?_
    refine i_bipush (pc' := 100) (f_at inc_106 (j := 53) rfl) cb_20 rfl ?_
    refine i_cpy (pc' := 103) (f_at inc_106 (j := 54) rfl) ha1.2.2.2.2.1 ha0.2.2.2.2.1 (Or.inl rfl) (Nat.le_of_ble_eq_true rfl) (f_ltL ha1 hN 4 (Nat.le_of_ble_eq_true rfl)) (f_ltL ha0 hN 4 (Nat.le_of_ble_eq_true rfl)) rfl fun m7 => ?_
    refine i_aload_n (pc' := 104) (f_at inc_106 (j := 55) rfl) rfl rfl ?_
    refine i_getR (pc' := 107) (f_at inc_106 (j := 56) rfl) ha1.1 rfl (f_ltL ha1 hN 0 (Nat.le_of_ble_eq_true rfl)) rfl ?_
    refine i_iconst (pc' := 108) (f_at inc_106 (j := 57) rfl) ci_0 rfl ?_
    refine i_aload_n (pc' := 109) (f_at inc_106 (j := 58) rfl) rfl rfl ?_
    refine i_getR (pc' := 112) (f_at inc_106 (j := 59) rfl) ha0.1 rfl (f_ltL ha0 hN 0 (Nat.le_of_ble_eq_true rfl)) rfl ?_
    refine i_iconst (pc' := 113) (f_at inc_106 (j := 60) rfl) ci_0 rfl ?_
    refine i_bipush (pc' := 115) (f_at inc_106 (j := 61) rfl) cb_20 rfl ?_
    refine i_cpy (pc' := 118) (f_at inc_106 (j := 62) rfl) ha1.2.2.2.2.2.1 ha0.2.2.2.2.2.1 (Or.inl rfl) (Nat.le_of_ble_eq_true rfl) (f_ltL ha1 hN 5 (Nat.le_of_ble_eq_true rfl)) (f_ltL ha0 hN 5 (Nat.le_of_ble_eq_true rfl)) rfl fun m8 => ?_
    refine i_aload_n (pc' := 119) (f_at inc_106 (j := 63) rfl) rfl rfl ?_
    refine i_getR (pc' := 122) (f_at inc_106 (j := 64) rfl) ha1.1 rfl (f_ltL ha1 hN 0 (Nat.le_of_ble_eq_true rfl)) rfl ?_
    refine i_iconst (pc' := 123) (f_at inc_106 (j := 65) rfl) ci_0 rfl ?_
    refine i_aload_n (pc' := 124) (f_at inc_106 (j := 66) rfl) rfl rfl ?_
    refine i_getR (pc' := 127) (f_at inc_106 (j := 67) rfl) ha0.1 rfl (f_ltL ha0 hN 0 (Nat.le_of_ble_eq_true rfl)) rfl ?_
    refine i_iconst (pc' := 128) (f_at inc_106 (j := 68) rfl) ci_0 rfl ?_
    refine i_bipush (pc' := 130) (f_at inc_106 (j := 69) rfl) cb_20 rfl ?_
    refine i_cpy (pc' := 133) (f_at inc_106 (j := 70) rfl) ha1.2.2.2.2.2.2.1 ha0.2.2.2.2.2.2.1 (Or.inl rfl) (Nat.le_of_ble_eq_true rfl) (f_ltL ha1 hN 6 (Nat.le_of_ble_eq_true rfl)) (f_ltL ha0 hN 6 (Nat.le_of_ble_eq_true rfl)) rfl fun m9 => ?_
    refine i_aload_n (pc' := 134) (f_at inc_106 (j := 71) rfl) rfl rfl ?_
    refine i_aload_n (pc' := 135) (f_at inc_106 (j := 72) rfl) rfl rfl ?_
    refine i_getI (pc' := 138) (f_at inc_106 (j := 73) rfl) ha1.1 rfl (f_ltL ha1 hN 0 (Nat.le_of_ble_eq_true rfl)) rfl ?_
    refine i_putI (pc' := 141) (f_at inc_106 (j := 74) rfl) ha0.1 rfl ⟨rfl, rfl⟩ (f_ltL ha0 hN 0 (Nat.le_of_ble_eq_true rfl)) rfl ?_
    refine i_aload_n (pc' := 142) (f_at inc_106 (j := 75) rfl) rfl rfl ?_
    refine i_aload_n (pc' := 143) (f_at inc_106 (j := 76) rfl) rfl rfl ?_
    refine i_getI (pc' := 146) (f_at inc_106 (j := 77) rfl) ha1.1 rfl (f_ltL ha1 hN 0 (Nat.le_of_ble_eq_true rfl)) rfl ?_
    refine i_putI (pc' := 149) (f_at inc_106 (j := 78) rfl) ha0.1 rfl ⟨rfl, rfl⟩ (f_ltL ha0 hN 0 (Nat.le_of_ble_eq_true rfl)) rfl ?_
    refine i_aload_n (pc' := 150) (f_at inc_106 (j := 79) rfl) rfl rfl ?_
    refine i_aload_n (pc' := 151) (f_at inc_106 (j := 80) rfl) rfl rfl ?_
    refine i_getI (pc' := 154) (f_at inc_106 (j := 81) rfl) ha1.1 rfl (f_ltL ha1 hN 0 (Nat.le_of_ble_eq_true rfl)) rfl ?_
    refine i_putI (pc' := 157) (f_at inc_106 (j := 82) rfl) ha0.1 rfl ⟨rfl, rfl⟩ (f_ltL ha0 hN 0 (Nat.le_of_ble_eq_true rfl)) rfl ?_
    refine i_aload_n (pc' := 158) (f_at inc_106 (j := 83) rfl) rfl rfl ?_
    refine i_aload_n (pc' := 159) (f_at inc_106 (j := 84) rfl) rfl rfl ?_
    refine i_getI (pc' := 162) (f_at inc_106 (j := 85) rfl) ha1.1 rfl (f_ltL ha1 hN 0 (Nat.le_of_ble_eq_true rfl)) rfl ?_
    refine i_putI (pc' := 165) (f_at inc_106 (j := 86) rfl) ha0.1 rfl ⟨rfl, rfl⟩ (f_ltL ha0 hN 0 (Nat.le_of_ble_eq_true rfl)) rfl ?_
    refine i_aload_n (pc' := 166) (f_at inc_106 (j := 87) rfl) rfl rfl ?_
    refine i_aload_n (pc' := 167) (f_at inc_106 (j := 88) rfl) rfl rfl ?_
    refine i_getI (pc' := 170) (f_at inc_106 (j := 89) rfl) ha1.1 rfl (f_ltL ha1 hN 0 (Nat.le_of_ble_eq_true rfl)) rfl ?_
    refine i_putI (pc' := 173) (f_at inc_106 (j := 90) rfl) ha0.1 rfl ⟨rfl, rfl⟩ (f_ltL ha0 hN 0 (Nat.le_of_ble_eq_true rfl)) rfl ?_
    exact i_vret (f_at inc_106 (j := 91) rfl) rfl
  · intro s2 u2 k2 hb2 hx2
    refine i_iload_n (pc' := 42) (f_at inc_106 (j := 22) rfl) rfl rfl ?_
    refine i_bipush (pc' := 44) (f_at inc_106 (j := 23) rfl) cb_20 rfl ?_
    refine i_if2 (pc' := 65) (nx := 47) c2_ge (f_at inc_106 (j := 24) rfl) ⟨by decide, rfl⟩ (fun b5 => ?_) (fun b5 => ?_)
    · exact hx2 s2.2 (.int s2.1)
    · refine i_aload_n (pc' := 48) (f_at inc_106 (j := 25) rfl) rfl rfl ?_
      refine i_getR (pc' := 51) (f_at inc_106 (j := 26) rfl) ha0.1 rfl (f_ltL ha0 hN 0 (Nat.le_of_ble_eq_true rfl)) rfl ?_
      refine i_iload_n (pc' := 52) (f_at inc_106 (j := 27) rfl) rfl rfl ?_
      refine i_aload_n (pc' := 53) (f_at inc_106 (j := 28) rfl) rfl rfl ?_
      refine i_getR (pc' := 56) (f_at inc_106 (j := 29) rfl) ha1.1 rfl (f_ltL ha1 hN 0 (Nat.le_of_ble_eq_true rfl)) rfl ?_
      refine i_iload_n (pc' := 57) (f_at inc_106 (j := 30) rfl) rfl rfl ?_
      refine i_bald (pc' := 58) (f_at inc_106 (j := 31) rfl) ha1.2.2.1 (Or.inr rfl) (f_bgL ha1 2 (Nat.le_of_ble_eq_true rfl)) (f_ltL ha1 hN 2 (Nat.le_of_ble_eq_true rfl)) rfl fun v3 => ?_
      refine i_bast (pc' := 59) (f_at inc_106 (j := 32) rfl) ha0.2.2.1 (Or.inr rfl) rfl (f_ltL ha0 hN 2 (Nat.le_of_ble_eq_true rfl)) rfl fun m4 => ?_
      refine i_iinc (pc' := 62) (ls' := [.ref a0, .ref a1, .int (s2.1 + (1 : Int32))]) (f_at inc_106 (j := 33) rfl) rfl ci_1 rfl rfl ?_
      refine i_goto (pc' := 41) (f_at inc_106 (j := 34) rfl) (by decide) ?_
      exact hb2 ((s2.1 + (1 : Int32)), m4) ()
set_option maxRecDepth 4000 in
theorem G_73 {xs : Nat → Int32} {L N : Nat} (hN : 155 ≤ N)   (σ : f_M) : f_Cal a_MT xs L N 107 [.ref 44, .ref 121] σ ((g_73  σ).bind fun t => some (e_wv t)) := by
  refine f_cal_of (ls := [.ref 44, .ref 121]) MT_107 (Nat.le_of_ble_eq_true rfl) rfl ?_
  unfold g_73
  refine i_aload_n (pc' := 1) (f_at inc_107 (j := 0) rfl) rfl rfl ?_
  refine i_getR (pc' := 4) (f_at inc_107 (j := 1) rfl) sh_44 rfl (f_lt (o := 44) (m := 155) (Nat.le_of_ble_eq_true rfl) hN) rfl ?_
  refine i_aload_n (pc' := 5) (f_at inc_107 (j := 2) rfl) rfl rfl ?_
  refine i_getI (pc' := 8) (f_at inc_107 (j := 3) rfl) sh_44 rfl (f_lt (o := 44) (m := 155) (Nat.le_of_ble_eq_true rfl) hN) rfl ?_
  refine i_aload_n (pc' := 9) (f_at inc_107 (j := 4) rfl) rfl rfl ?_
  refine i_getI (pc' := 12) (f_at inc_107 (j := 5) rfl) sh_44 rfl (f_lt (o := 44) (m := 155) (Nat.le_of_ble_eq_true rfl) hN) rfl ?_
  refine i_iadd (pc' := 13) (f_at inc_107 (j := 6) rfl) rfl ?_
  refine i_bipush (pc' := 15) (f_at inc_107 (j := 7) rfl) cb_8 rfl ?_
  refine i_irem (pc' := 16) (f_at inc_107 (j := 8) rfl) (by decide) rfl ?_
  refine i_kald (pc' := 17) (f_at inc_107 (j := 9) rfl) sh_45 rfl f_gK (f_bg (Nat.le_of_ble_eq_true rfl)) (f_lt (o := 45) (m := 155) (Nat.le_of_ble_eq_true rfl) hN) rfl fun v1 hv1 => ?_
  refine i_aload_n (pc' := 18) (f_at inc_107 (j := 10) rfl) rfl rfl ?_
  refine c_wv (pc' := 21) (c' := 0) (n' := 0) (h_virt (ra := [.ref 121, .ref (46 + 7 * v1)]) (r := []) (as := [.ref 121]) (f_at inc_107 (j := 11) rfl) (by decide) MT_106 rfl rfl rfl ⟨Nat.le_of_ble_eq_true rfl, Nat.le_of_ble_eq_true rfl, Nat.le_of_ble_eq_true rfl⟩ (f_Lk _ hv1).1 (f_ltL (f_Lk _ hv1) hN 0 (Nat.le_of_ble_eq_true rfl))) MT_106 (G_72 hN (46 + 7 * v1) 121 (f_Lk _ hv1) f_L121 σ) ⟨rfl, rfl, rfl⟩ fun t2 => ?_
  refine i_aload_n (pc' := 22) (f_at inc_107 (j := 12) rfl) rfl rfl ?_
  refine i_getI (pc' := 25) (f_at inc_107 (j := 13) rfl) sh_44 rfl (f_lt (o := 44) (m := 155) (Nat.le_of_ble_eq_true rfl) hN) rfl ?_
  refine i_bipush (pc' := 27) (f_at inc_107 (j := 14) rfl) cb_8 rfl ?_
  refine s_join (J := 56) (fun (t3 : f_M) (u3 : Unit) => [.ref 44, .ref 121]) (fun t3 => []) (fun t3 => t3) ?_ ?_
  · intro t3 u3
    exact i_vret (f_at inc_107 (j := 31) rfl) rfl
  · intro k3 hj3
    refine i_if2 (pc' := 43) (nx := 30) c2_ge (f_at inc_107 (j := 15) rfl) ⟨by decide, rfl⟩ (fun b4 => ?_) (fun b4 => ?_)
    · refine i_aload_n (pc' := 44) (f_at inc_107 (j := 23) rfl) rfl rfl ?_
      refine i_aload_n (pc' := 45) (f_at inc_107 (j := 24) rfl) rfl rfl ?_
      refine i_getI (pc' := 48) (f_at inc_107 (j := 25) rfl) sh_44 rfl (f_lt (o := 44) (m := 155) (Nat.le_of_ble_eq_true rfl) hN) rfl ?_
      refine i_iconst (pc' := 49) (f_at inc_107 (j := 26) rfl) ci_1 rfl ?_
      refine i_iadd (pc' := 50) (f_at inc_107 (j := 27) rfl) rfl ?_
      refine i_bipush (pc' := 52) (f_at inc_107 (j := 28) rfl) cb_8 rfl ?_
      refine i_irem (pc' := 53) (f_at inc_107 (j := 29) rfl) (by decide) rfl ?_
      refine i_putI (pc' := 56) (f_at inc_107 (j := 30) rfl) sh_44 rfl ⟨rfl, rfl⟩ (f_lt (o := 44) (m := 155) (Nat.le_of_ble_eq_true rfl) hN) rfl ?_
      exact hj3 (f_up t2 44 1 (((t2 44 1) + (1 : Int32)) - ((t2 44 1) + (1 : Int32)) / (8 : Int32) * (8 : Int32))) ()
    · refine i_aload_n (pc' := 31) (f_at inc_107 (j := 16) rfl) rfl rfl ?_
      refine i_dup (pc' := 32) (f_at inc_107 (j := 17) rfl) rfl rfl ?_
      refine i_getI (pc' := 35) (f_at inc_107 (j := 18) rfl) sh_44 rfl (f_lt (o := 44) (m := 155) (Nat.le_of_ble_eq_true rfl) hN) rfl ?_
      refine i_iconst (pc' := 36) (f_at inc_107 (j := 19) rfl) ci_1 rfl ?_
      refine i_iadd (pc' := 37) (f_at inc_107 (j := 20) rfl) rfl ?_
      refine i_putI (pc' := 40) (f_at inc_107 (j := 21) rfl) sh_44 rfl ⟨rfl, rfl⟩ (f_lt (o := 44) (m := 155) (Nat.le_of_ble_eq_true rfl) hN) rfl ?_
      refine i_goto (pc' := 56) (f_at inc_107 (j := 22) rfl) (by decide) ?_
      exact hj3 (f_up t2 44 2 ((t2 44 2) + (1 : Int32))) ()
set_option maxRecDepth 4000 in
theorem G_80 {xs : Nat → Int32} {L N : Nat} (hN : 155 ≤ N) (a0 : Nat) (a1 : Int32) (a2 : Int32) (ha0 : f_L a0) (σ : f_M) : f_Cal a_MT xs L N 108 [.ref a0, .int a1, .int a2] σ ((g_80 a0 a1 a2 σ).bind fun t => some (e_wv t)) := by
  refine f_cal_of (ls := [.ref a0, .int a1, .int a2]) MT_108 (Nat.le_of_ble_eq_true rfl) rfl ?_
  unfold g_80
  refine i_aload_n (pc' := 1) (f_at inc_108 (j := 0) rfl) rfl rfl ?_
  refine i_getR (pc' := 4) (f_at inc_108 (j := 1) rfl) ha0.1 rfl (f_ltL ha0 hN 0 (Nat.le_of_ble_eq_true rfl)) rfl ?_
  refine i_iload_n (pc' := 5) (f_at inc_108 (j := 2) rfl) rfl rfl ?_
  refine i_dup2 (pc' := 6) (f_at inc_108 (j := 3) rfl) ⟨rfl, rfl⟩ rfl ?_
  refine i_iald (pc' := 7) (f_at inc_108 (j := 4) rfl) ha0.2.1 (f_bgL ha0 1 (Nat.le_of_ble_eq_true rfl)) (f_ltL ha0 hN 1 (Nat.le_of_ble_eq_true rfl)) rfl fun v1 => ?_
  refine i_iload_n (pc' := 8) (f_at inc_108 (j := 5) rfl) rfl rfl ?_
  refine i_isub (pc' := 9) (f_at inc_108 (j := 6) rfl) rfl ?_
  refine i_iast (pc' := 10) (f_at inc_108 (j := 7) rfl) ha0.2.1 (f_ltL ha0 hN 1 (Nat.le_of_ble_eq_true rfl)) rfl fun m2 => ?_
  refine i_aload_n (pc' := 11) (f_at inc_108 (j := 8) rfl) rfl rfl ?_
  refine i_dup (pc' := 12) (f_at inc_108 (j := 9) rfl) rfl rfl ?_
  refine i_getI (pc' := 15) (f_at inc_108 (j := 10) rfl) ha0.1 rfl (f_ltL ha0 hN 0 (Nat.le_of_ble_eq_true rfl)) rfl ?_
  refine i_iload_n (pc' := 16) (f_at inc_108 (j := 11) rfl) rfl rfl ?_
  refine i_iadd (pc' := 17) (f_at inc_108 (j := 12) rfl) rfl ?_
  refine i_putI (pc' := 20) (f_at inc_108 (j := 13) rfl) ha0.1 rfl ⟨rfl, rfl⟩ (f_ltL ha0 hN 0 (Nat.le_of_ble_eq_true rfl)) rfl ?_
  refine i_aload_n (pc' := 21) (f_at inc_108 (j := 14) rfl) rfl rfl ?_
  refine i_dup (pc' := 22) (f_at inc_108 (j := 15) rfl) rfl rfl ?_
  refine i_getI (pc' := 25) (f_at inc_108 (j := 16) rfl) ha0.1 rfl (f_ltL ha0 hN 0 (Nat.le_of_ble_eq_true rfl)) rfl ?_
  refine i_iload_n (pc' := 26) (f_at inc_108 (j := 17) rfl) rfl rfl ?_
  refine i_iadd (pc' := 27) (f_at inc_108 (j := 18) rfl) rfl ?_
  refine i_putI (pc' := 30) (f_at inc_108 (j := 19) rfl) ha0.1 rfl ⟨rfl, rfl⟩ (f_ltL ha0 hN 0 (Nat.le_of_ble_eq_true rfl)) rfl ?_
  exact i_vret (f_at inc_108 (j := 20) rfl) rfl
set_option maxRecDepth 4000 in
theorem G_81 {xs : Nat → Int32} {L N : Nat} (hN : 155 ≤ N) (a1 : Nat) (a2 : Int32) (ha1 : f_L a1) (σ : f_M) : f_Cal a_MT xs L N 109 [.ref 102, .ref a1, .int a2] σ ((g_81 a1 a2 σ).bind fun t => some (e_wv t)) := by
  refine f_cal_of (ls := [.ref 102, .ref a1, .int a2, a_dead, a_dead]) MT_109 (Nat.le_of_ble_eq_true rfl) rfl ?_
  unfold g_81
  refine i_aload_n (pc' := 1) (f_at inc_109 (j := 0) rfl) rfl rfl ?_
  refine i_getR (pc' := 4) (f_at inc_109 (j := 1) rfl) sh_102 rfl (f_lt (o := 102) (m := 155) (Nat.le_of_ble_eq_true rfl) hN) rfl ?_
  refine i_getR (pc' := 7) (f_at inc_109 (j := 2) rfl) sh_108 rfl (f_lt (o := 108) (m := 155) (Nat.le_of_ble_eq_true rfl) hN) rfl ?_
  refine i_iload_n (pc' := 8) (f_at inc_109 (j := 3) rfl) rfl rfl ?_
  refine i_iald (pc' := 9) (f_at inc_109 (j := 4) rfl) sh_112 (f_bg (Nat.le_of_ble_eq_true rfl)) (f_lt (o := 112) (m := 155) (Nat.le_of_ble_eq_true rfl) hN) rfl fun v1 => ?_
  refine i_istore_n (pc' := 10) (ls' := [.ref 102, .ref a1, .int a2, .int v1, a_dead]) (f_at inc_109 (j := 5) rfl) (Nat.le_of_ble_eq_true rfl) rfl rfl ?_
  refine i_aload_n (pc' := 11) (f_at inc_109 (j := 6) rfl) rfl rfl ?_
  refine i_getR (pc' := 14) (f_at inc_109 (j := 7) rfl) sh_102 rfl (f_lt (o := 102) (m := 155) (Nat.le_of_ble_eq_true rfl) hN) rfl ?_
  refine i_iload_n (pc' := 15) (f_at inc_109 (j := 8) rfl) rfl rfl ?_
  refine c_pi (pc' := 18) (c' := 0) (n' := 0) (h_virt (ra := [.int a2, .ref 108]) (r := []) (as := [.int a2]) (f_at inc_109 (j := 9) rfl) (by decide) MT_56 rfl rfl rfl ⟨Nat.le_of_ble_eq_true rfl, Nat.le_of_ble_eq_true rfl, Nat.le_of_ble_eq_true rfl⟩ sh_108 (f_lt (o := 108) (m := 155) (Nat.le_of_ble_eq_true rfl) hN)) MT_56 (G_79 hN a2 σ) ⟨rfl, rfl, rfl⟩ fun t2 => ?_
  refine i_istore (pc' := 20) (ls' := [.ref 102, .ref a1, .int a2, .int v1, .int t2]) (f_at inc_109 (j := 10) rfl) (Nat.le_of_ble_eq_true rfl) rfl rfl ?_
  refine i_aload_n (pc' := 21) (f_at inc_109 (j := 11) rfl) rfl rfl ?_
  refine i_getR (pc' := 24) (f_at inc_109 (j := 12) rfl) ha1.1 rfl (f_ltL ha1 hN 0 (Nat.le_of_ble_eq_true rfl)) rfl ?_
  refine i_iload_n (pc' := 25) (f_at inc_109 (j := 13) rfl) rfl rfl ?_
  refine i_iald (pc' := 26) (f_at inc_109 (j := 14) rfl) ha1.2.1 (f_bgL ha1 1 (Nat.le_of_ble_eq_true rfl)) (f_ltL ha1 hN 1 (Nat.le_of_ble_eq_true rfl)) rfl fun v3 => ?_
  refine i_iload (pc' := 28) (f_at inc_109 (j := 15) rfl) rfl rfl ?_
  refine s_join (J := 48) (fun (t4 : f_M) (u4 : Unit) => [.ref 102, .ref a1, .int a2, .int v1, .int t2]) (fun t4 => []) (fun t4 => t4) ?_ ?_
  · intro t4 u4
    exact i_vret (f_at inc_109 (j := 27) rfl) rfl
  · intro k4 hj4
    refine i_if2 (pc' := 41) (nx := 31) c2_lt (f_at inc_109 (j := 16) rfl) ⟨by decide, rfl⟩ (fun b7 => ?_) (fun b7 => ?_)
    · refine i_aload_n (pc' := 42) (f_at inc_109 (j := 22) rfl) rfl rfl ?_
      refine i_getR (pc' := 45) (f_at inc_109 (j := 23) rfl) ha1.1 rfl (f_ltL ha1 hN 0 (Nat.le_of_ble_eq_true rfl)) rfl ?_
      refine i_iload_n (pc' := 46) (f_at inc_109 (j := 24) rfl) rfl rfl ?_
      refine i_iconst (pc' := 47) (f_at inc_109 (j := 25) rfl) ci_1 rfl ?_
      refine i_bast (pc' := 48) (f_at inc_109 (j := 26) rfl) ha1.2.2.1 (Or.inr rfl) (by decide) (f_ltL ha1 hN 2 (Nat.le_of_ble_eq_true rfl)) rfl fun m5 => ?_
      exact hj4 m5 ()
    · refine i_aload_n (pc' := 32) (f_at inc_109 (j := 17) rfl) rfl rfl ?_
      refine i_iload_n (pc' := 33) (f_at inc_109 (j := 18) rfl) rfl rfl ?_
      refine i_iload (pc' := 35) (f_at inc_109 (j := 19) rfl) rfl rfl ?_
      refine c_wv (pc' := 38) (c' := 0) (n' := 0) (h_virt (ra := [.int t2, .int v1, .ref a1]) (r := []) (as := [.int v1, .int t2]) (f_at inc_109 (j := 20) rfl) (by decide) MT_108 rfl rfl rfl ⟨Nat.le_of_ble_eq_true rfl, Nat.le_of_ble_eq_true rfl, Nat.le_of_ble_eq_true rfl⟩ ha1.1 (f_ltL ha1 hN 0 (Nat.le_of_ble_eq_true rfl))) MT_108 (G_80 hN a1 v1 t2 ha1 σ) ⟨rfl, rfl, rfl⟩ fun t6 => ?_
      refine i_goto (pc' := 48) (f_at inc_109 (j := 21) rfl) (by decide) ?_
      exact hj4 t6 ()
set_option maxRecDepth 4000 in
theorem G_82 {xs : Nat → Int32} {L N : Nat} (hN : 155 ≤ N) (a1 : Nat) (ha1 : f_L a1) (σ : f_M) : f_Cal a_MT xs L N 110 [.ref 102, .ref a1] σ ((g_82 a1 σ).bind fun t => some (e_wv t)) := by
  refine f_cal_of (ls := [.ref 102, .ref a1, a_dead]) MT_110 (Nat.le_of_ble_eq_true rfl) rfl ?_
  unfold g_82
  refine i_aload_n (pc' := 1) (f_at inc_110 (j := 0) rfl) rfl rfl ?_
  refine i_getI (pc' := 4) (f_at inc_110 (j := 1) rfl) ha1.1 rfl (f_ltL ha1 hN 0 (Nat.le_of_ble_eq_true rfl)) rfl ?_
  refine i_if0 (pc' := 17) (nx := 7) c0_eq (f_at inc_110 (j := 2) rfl) ⟨by decide, rfl⟩ (fun b8 => ?_) (fun b8 => ?_)
  · exact i_vret (f_at inc_110 (j := 8) rfl) rfl
  · refine i_aload_n (pc' := 8) (f_at inc_110 (j := 3) rfl) rfl rfl ?_
    refine i_getI (pc' := 11) (f_at inc_110 (j := 4) rfl) ha1.1 rfl (f_ltL ha1 hN 0 (Nat.le_of_ble_eq_true rfl)) rfl ?_
    refine i_bipush (pc' := 13) (f_at inc_110 (j := 5) rfl) cb_24 rfl ?_
    refine i_irem (pc' := 14) (f_at inc_110 (j := 6) rfl) (by decide) rfl ?_
    refine i_if0 (pc' := 18) (nx := 17) c0_eq (f_at inc_110 (j := 7) rfl) ⟨by decide, rfl⟩ (fun b7 => ?_) (fun b7 => ?_)
    · refine i_iconst (pc' := 19) (f_at inc_110 (j := 9) rfl) ci_0 rfl ?_
      refine i_istore_n (pc' := 20) (ls' := [.ref 102, .ref a1, .int (0 : Int32)]) (f_at inc_110 (j := 10) rfl) (Nat.le_of_ble_eq_true rfl) rfl rfl ?_
      refine s_lX (X := 49) ((0 : Int32), σ) () (fun (s1 : Int32 × f_M) (u1 : Unit) => [.ref 102, .ref a1, .int s1.1]) (fun (s1 : Int32 × f_M) => s1.2) (fun (x1 : f_M) (w1 : Value) => [.ref 102, .ref a1, w1]) (fun (x1 : f_M) => x1) ?_ ?_
      · intro x1 w1
        exact i_vret (f_at inc_110 (j := 26) rfl) rfl
      · intro s1 u1 k1 hb1 hx1
        refine i_iload_n (pc' := 21) (f_at inc_110 (j := 11) rfl) rfl rfl ?_
        refine i_aload_n (pc' := 22) (f_at inc_110 (j := 12) rfl) rfl rfl ?_
        refine i_getI (pc' := 25) (f_at inc_110 (j := 13) rfl) ha1.1 rfl (f_ltL ha1 hN 0 (Nat.le_of_ble_eq_true rfl)) rfl ?_
        refine i_if2 (pc' := 49) (nx := 28) c2_ge (f_at inc_110 (j := 14) rfl) ⟨by decide, rfl⟩ (fun b6 => ?_) (fun b6 => ?_)
        · exact hx1 s1.2 (.int s1.1)
        · refine i_aload_n (pc' := 29) (f_at inc_110 (j := 15) rfl) rfl rfl ?_
          refine i_aload_n (pc' := 30) (f_at inc_110 (j := 16) rfl) rfl rfl ?_
          refine i_iload_n (pc' := 31) (f_at inc_110 (j := 17) rfl) rfl rfl ?_
          refine c_pb (pc' := 34) (c' := 0) (n' := 0) (h_virt (ra := [.int s1.1, .ref a1, .ref 102]) (r := []) (as := [.ref a1, .int s1.1]) (f_at inc_110 (j := 18) rfl) (by decide) MT_59 rfl rfl rfl ⟨Nat.le_of_ble_eq_true rfl, Nat.le_of_ble_eq_true rfl, Nat.le_of_ble_eq_true rfl⟩ sh_102 (f_lt (o := 102) (m := 155) (Nat.le_of_ble_eq_true rfl) hN)) MT_59 (G_76 hN a1 s1.1 ha1 s1.2) ⟨rfl, rfl, rfl⟩ fun t2 => ?_
          refine s_join (J := 43) (fun (t3 : f_M) (u3 : Unit) => [.ref 102, .ref a1, .int s1.1]) (fun t3 => []) (fun t3 => t3) ?_ ?_
          · intro t3 u3
            refine i_iinc (pc' := 46) (ls' := [.ref 102, .ref a1, .int (s1.1 + (1 : Int32))]) (f_at inc_110 (j := 24) rfl) rfl ci_1 rfl rfl ?_
            refine i_goto (pc' := 20) (f_at inc_110 (j := 25) rfl) (by decide) ?_
            exact hb1 ((s1.1 + (1 : Int32)), t3) ()
          · intro k3 hj3
            refine i_if0 (pc' := 43) (nx := 37) cb_eq (f_at inc_110 (j := 19) rfl) ⟨by decide, rfl⟩ (fun b5 => ?_) (fun b5 => ?_)
            · exact hj3 s1.2 ()
            · refine i_aload_n (pc' := 38) (f_at inc_110 (j := 20) rfl) rfl rfl ?_
              refine i_aload_n (pc' := 39) (f_at inc_110 (j := 21) rfl) rfl rfl ?_
              refine i_iload_n (pc' := 40) (f_at inc_110 (j := 22) rfl) rfl rfl ?_
              refine c_wv (pc' := 43) (c' := 0) (n' := 0) (h_virt (ra := [.int s1.1, .ref a1, .ref 102]) (r := []) (as := [.ref a1, .int s1.1]) (f_at inc_110 (j := 23) rfl) (by decide) MT_109 rfl rfl rfl ⟨Nat.le_of_ble_eq_true rfl, Nat.le_of_ble_eq_true rfl, Nat.le_of_ble_eq_true rfl⟩ sh_102 (f_lt (o := 102) (m := 155) (Nat.le_of_ble_eq_true rfl) hN)) MT_109 (G_81 hN a1 s1.1 ha1 s1.2) ⟨rfl, rfl, rfl⟩ fun t4 => ?_
              exact hj3 t4 ()
    · exact i_vret (f_at inc_110 (j := 8) rfl) rfl
set_option maxRecDepth 4000 in
theorem G_84 {xs : Nat → Int32} {L N : Nat} (hN : 155 ≤ N) (a1 : Int32)  (σ : f_M) : f_Cal a_MT xs L N 111 [.ref 102, .int a1] σ ((g_84 a1 σ).bind fun t => some (e_pi σ t)) := by
  refine f_cal_of (ls := [.ref 102, .int a1, a_dead]) MT_111 (Nat.le_of_ble_eq_true rfl) rfl ?_
  unfold g_84
  refine i_iconst (pc' := 1) (f_at inc_111 (j := 0) rfl) ci_0 rfl ?_
  refine i_istore_n (pc' := 2) (ls' := [.ref 102, .int a1, .int (0 : Int32)]) (f_at inc_111 (j := 1) rfl) (Nat.le_of_ble_eq_true rfl) rfl rfl ?_
  refine s_lR (0 : Int32) () (fun (s1 : Int32) (u1 : Unit) => [.ref 102, .int a1, .int s1]) (fun (s1 : Int32) => σ) ?_
  intro s1 u1 k1 hb1 hr1
  refine i_iload_n (pc' := 3) (f_at inc_111 (j := 2) rfl) rfl rfl ?_
  refine i_aload_n (pc' := 4) (f_at inc_111 (j := 3) rfl) rfl rfl ?_
  refine i_getR (pc' := 7) (f_at inc_111 (j := 4) rfl) sh_102 rfl (f_lt (o := 102) (m := 155) (Nat.le_of_ble_eq_true rfl) hN) rfl ?_
  refine i_getI (pc' := 10) (f_at inc_111 (j := 5) rfl) sh_121 rfl (f_lt (o := 121) (m := 155) (Nat.le_of_ble_eq_true rfl) hN) rfl ?_
  refine i_if2 (pc' := 30) (nx := 13) c2_ge (f_at inc_111 (j := 6) rfl) ⟨by decide, rfl⟩ (fun b4 => ?_) (fun b4 => ?_)
  · refine i_iconst (pc' := 31) (f_at inc_111 (j := 16) rfl) ci_m1 rfl ?_
    refine s_rt (hr1 _) ?_
    exact i_iret (f_at inc_111 (j := 17) rfl) rfl n_int
  · refine i_aload_n (pc' := 14) (f_at inc_111 (j := 7) rfl) rfl rfl ?_
    refine i_iload_n (pc' := 15) (f_at inc_111 (j := 8) rfl) rfl rfl ?_
    refine i_iload_n (pc' := 16) (f_at inc_111 (j := 9) rfl) rfl rfl ?_
    refine c_pb (pc' := 19) (c' := 0) (n' := 0) (h_virt (ra := [.int a1, .int s1, .ref 102]) (r := []) (as := [.int s1, .int a1]) (f_at inc_111 (j := 10) rfl) (by decide) MT_81 rfl rfl rfl ⟨Nat.le_of_ble_eq_true rfl, Nat.le_of_ble_eq_true rfl, Nat.le_of_ble_eq_true rfl⟩ sh_102 (f_lt (o := 102) (m := 155) (Nat.le_of_ble_eq_true rfl) hN)) MT_81 (G_83 hN s1 a1 σ) ⟨rfl, rfl, rfl⟩ fun t2 => ?_
    refine i_if0 (pc' := 24) (nx := 22) cb_eq (f_at inc_111 (j := 11) rfl) ⟨by decide, rfl⟩ (fun b3 => ?_) (fun b3 => ?_)
    · refine i_iinc (pc' := 27) (ls' := [.ref 102, .int a1, .int (s1 + (1 : Int32))]) (f_at inc_111 (j := 14) rfl) rfl ci_1 rfl rfl ?_
      refine i_goto (pc' := 2) (f_at inc_111 (j := 15) rfl) (by decide) ?_
      exact hb1 (s1 + (1 : Int32)) ()
    · refine i_iload_n (pc' := 23) (f_at inc_111 (j := 12) rfl) rfl rfl ?_
      refine s_rt (hr1 _) ?_
      exact i_iret (f_at inc_111 (j := 13) rfl) rfl n_int
set_option maxRecDepth 4000 in
theorem G_89 {xs : Nat → Int32} {L N : Nat} (hN : 155 ≤ N) (a1 : Int32) (a2 : Int32)  (σ : f_M) : f_Cal a_MT xs L N 112 [.ref 121, .int a1, .int a2] σ ((g_89 a1 a2 σ).bind fun t => some (e_wv t)) := by
  refine f_cal_of (ls := [.ref 121, .int a1, .int a2]) MT_112 (Nat.le_of_ble_eq_true rfl) rfl ?_
  unfold g_89
  refine i_aload_n (pc' := 1) (f_at inc_112 (j := 0) rfl) rfl rfl ?_
  refine i_getR (pc' := 4) (f_at inc_112 (j := 1) rfl) sh_121 rfl (f_lt (o := 121) (m := 155) (Nat.le_of_ble_eq_true rfl) hN) rfl ?_
  refine i_iload_n (pc' := 5) (f_at inc_112 (j := 2) rfl) rfl rfl ?_
  refine i_iload_n (pc' := 6) (f_at inc_112 (j := 3) rfl) rfl rfl ?_
  refine i_iast (pc' := 7) (f_at inc_112 (j := 4) rfl) sh_126 (f_lt (o := 126) (m := 155) (Nat.le_of_ble_eq_true rfl) hN) rfl fun m1 => ?_
  refine i_iload_n (pc' := 8) (f_at inc_112 (j := 5) rfl) rfl rfl ?_
  refine i_if0 (pc' := 19) (nx := 11) c0_ne (f_at inc_112 (j := 6) rfl) ⟨by decide, rfl⟩ (fun b5 => ?_) (fun b5 => ?_)
  · refine i_aload_n (pc' := 20) (f_at inc_112 (j := 13) rfl) rfl rfl ?_
    refine i_getR (pc' := 23) (f_at inc_112 (j := 14) rfl) sh_121 rfl (f_lt (o := 121) (m := 155) (Nat.le_of_ble_eq_true rfl) hN) rfl ?_
    refine i_iload_n (pc' := 24) (f_at inc_112 (j := 15) rfl) rfl rfl ?_
    refine i_iconst (pc' := 25) (f_at inc_112 (j := 16) rfl) ci_2 rfl ?_
    refine i_iast (pc' := 26) (f_at inc_112 (j := 17) rfl) sh_124 (f_lt (o := 124) (m := 155) (Nat.le_of_ble_eq_true rfl) hN) rfl fun m2 => ?_
    refine i_aload_n (pc' := 27) (f_at inc_112 (j := 18) rfl) rfl rfl ?_
    refine i_getR (pc' := 30) (f_at inc_112 (j := 19) rfl) sh_121 rfl (f_lt (o := 121) (m := 155) (Nat.le_of_ble_eq_true rfl) hN) rfl ?_
    refine i_aload_n (pc' := 31) (f_at inc_112 (j := 20) rfl) rfl rfl ?_
    refine i_getI (pc' := 34) (f_at inc_112 (j := 21) rfl) sh_121 rfl (f_lt (o := 121) (m := 155) (Nat.le_of_ble_eq_true rfl) hN) rfl ?_
    refine i_iload_n (pc' := 35) (f_at inc_112 (j := 22) rfl) rfl rfl ?_
    refine i_iast (pc' := 36) (f_at inc_112 (j := 23) rfl) sh_127 (f_lt (o := 127) (m := 155) (Nat.le_of_ble_eq_true rfl) hN) rfl fun m3 => ?_
    refine i_aload_n (pc' := 37) (f_at inc_112 (j := 24) rfl) rfl rfl ?_
    refine i_dup (pc' := 38) (f_at inc_112 (j := 25) rfl) rfl rfl ?_
    refine i_getI (pc' := 41) (f_at inc_112 (j := 26) rfl) sh_121 rfl (f_lt (o := 121) (m := 155) (Nat.le_of_ble_eq_true rfl) hN) rfl ?_
    refine i_iconst (pc' := 42) (f_at inc_112 (j := 27) rfl) ci_1 rfl ?_
    refine i_iadd (pc' := 43) (f_at inc_112 (j := 28) rfl) rfl ?_
    refine i_putI (pc' := 46) (f_at inc_112 (j := 29) rfl) sh_121 rfl ⟨rfl, rfl⟩ (f_lt (o := 121) (m := 155) (Nat.le_of_ble_eq_true rfl) hN) rfl ?_
    exact i_vret (f_at inc_112 (j := 30) rfl) rfl
  · refine i_aload_n (pc' := 12) (f_at inc_112 (j := 7) rfl) rfl rfl ?_
    refine i_getR (pc' := 15) (f_at inc_112 (j := 8) rfl) sh_121 rfl (f_lt (o := 121) (m := 155) (Nat.le_of_ble_eq_true rfl) hN) rfl ?_
    refine i_iload_n (pc' := 16) (f_at inc_112 (j := 9) rfl) rfl rfl ?_
    refine i_iconst (pc' := 17) (f_at inc_112 (j := 10) rfl) ci_1 rfl ?_
    refine i_iast (pc' := 18) (f_at inc_112 (j := 11) rfl) sh_124 (f_lt (o := 124) (m := 155) (Nat.le_of_ble_eq_true rfl) hN) rfl fun m4 => ?_
    exact i_vret (f_at inc_112 (j := 12) rfl) rfl
set_option maxRecDepth 4000 in
theorem G_90 {xs : Nat → Int32} {L N : Nat} (hN : 155 ≤ N) (a1 : Int32) (a2 : Int32)  (σ : f_M) : f_Cal a_MT xs L N 113 [.ref 102, .int a1, .int a2] σ ((g_90 a1 a2 σ).bind fun t => some (e_wb t)) := by
  refine f_cal_of (ls := [.ref 102, .int a1, .int a2, a_dead]) MT_113 (Nat.le_of_ble_eq_true rfl) rfl ?_
  unfold g_90
  refine i_aload_n (pc' := 1) (f_at inc_113 (j := 0) rfl) rfl rfl ?_
  refine i_getR (pc' := 4) (f_at inc_113 (j := 1) rfl) sh_102 rfl (f_lt (o := 102) (m := 155) (Nat.le_of_ble_eq_true rfl) hN) rfl ?_
  refine i_getR (pc' := 7) (f_at inc_113 (j := 2) rfl) sh_121 rfl (f_lt (o := 121) (m := 155) (Nat.le_of_ble_eq_true rfl) hN) rfl ?_
  refine i_iload_n (pc' := 8) (f_at inc_113 (j := 3) rfl) rfl rfl ?_
  refine i_dup2 (pc' := 9) (f_at inc_113 (j := 4) rfl) ⟨rfl, rfl⟩ rfl ?_
  refine i_iald (pc' := 10) (f_at inc_113 (j := 5) rfl) sh_125 (f_bg (Nat.le_of_ble_eq_true rfl)) (f_lt (o := 125) (m := 155) (Nat.le_of_ble_eq_true rfl) hN) rfl fun v1 => ?_
  refine i_iconst (pc' := 11) (f_at inc_113 (j := 6) rfl) ci_1 rfl ?_
  refine i_iadd (pc' := 12) (f_at inc_113 (j := 7) rfl) rfl ?_
  refine i_iast (pc' := 13) (f_at inc_113 (j := 8) rfl) sh_125 (f_lt (o := 125) (m := 155) (Nat.le_of_ble_eq_true rfl) hN) rfl fun m2 => ?_
  refine i_aload_n (pc' := 14) (f_at inc_113 (j := 9) rfl) rfl rfl ?_
  refine i_getR (pc' := 17) (f_at inc_113 (j := 10) rfl) sh_102 rfl (f_lt (o := 102) (m := 155) (Nat.le_of_ble_eq_true rfl) hN) rfl ?_
  refine i_getR (pc' := 20) (f_at inc_113 (j := 11) rfl) sh_121 rfl (f_lt (o := 121) (m := 155) (Nat.le_of_ble_eq_true rfl) hN) rfl ?_
  refine i_iload_n (pc' := 21) (f_at inc_113 (j := 12) rfl) rfl rfl ?_
  refine i_iald (pc' := 22) (f_at inc_113 (j := 13) rfl) sh_125 (f_bg (Nat.le_of_ble_eq_true rfl)) (f_lt (o := 125) (m := 155) (Nat.le_of_ble_eq_true rfl) hN) rfl fun v3 => ?_
  refine i_iload_n (pc' := 23) (f_at inc_113 (j := 14) rfl) rfl rfl ?_
  refine c_pi (pc' := 26) (c' := 0) (n' := 0) (h_stat (ra := [.int a2]) (r := [.int v3]) (as := [.int a2]) (f_at inc_113 (j := 15) rfl) (by decide) MT_84 rfl rfl rfl ⟨Nat.le_of_ble_eq_true rfl, Nat.le_of_ble_eq_true rfl, Nat.le_of_ble_eq_true rfl⟩) MT_84 (G_85 hN a2 m2) ⟨rfl, rfl, rfl⟩ fun t4 => ?_
  refine i_if2 (pc' := 31) (nx := 29) c2_ge (f_at inc_113 (j := 16) rfl) ⟨by decide, rfl⟩ (fun b8 => ?_) (fun b8 => ?_)
  · refine i_aload_n (pc' := 32) (f_at inc_113 (j := 19) rfl) rfl rfl ?_
    refine i_getR (pc' := 35) (f_at inc_113 (j := 20) rfl) sh_102 rfl (f_lt (o := 102) (m := 155) (Nat.le_of_ble_eq_true rfl) hN) rfl ?_
    refine i_aload_n (pc' := 36) (f_at inc_113 (j := 21) rfl) rfl rfl ?_
    refine i_getR (pc' := 39) (f_at inc_113 (j := 22) rfl) sh_102 rfl (f_lt (o := 102) (m := 155) (Nat.le_of_ble_eq_true rfl) hN) rfl ?_
    refine i_getR (pc' := 42) (f_at inc_113 (j := 23) rfl) sh_108 rfl (f_lt (o := 108) (m := 155) (Nat.le_of_ble_eq_true rfl) hN) rfl ?_
    refine i_iload_n (pc' := 43) (f_at inc_113 (j := 24) rfl) rfl rfl ?_
    refine i_iald (pc' := 44) (f_at inc_113 (j := 25) rfl) sh_119 (f_bg (Nat.le_of_ble_eq_true rfl)) (f_lt (o := 119) (m := 155) (Nat.le_of_ble_eq_true rfl) hN) rfl fun v5 => ?_
    refine i_aload_n (pc' := 45) (f_at inc_113 (j := 26) rfl) rfl rfl ?_
    refine i_getR (pc' := 48) (f_at inc_113 (j := 27) rfl) sh_102 rfl (f_lt (o := 102) (m := 155) (Nat.le_of_ble_eq_true rfl) hN) rfl ?_
    refine i_getI (pc' := 51) (f_at inc_113 (j := 28) rfl) sh_121 rfl (f_lt (o := 121) (m := 155) (Nat.le_of_ble_eq_true rfl) hN) rfl ?_
    refine c_pi (pc' := 54) (c' := 0) (n' := 0) (h_virt (ra := [.int (m2 121 0), .int v5, .ref 108]) (r := []) (as := [.int v5, .int (m2 121 0)]) (f_at inc_113 (j := 29) rfl) (by decide) MT_65 rfl rfl rfl ⟨Nat.le_of_ble_eq_true rfl, Nat.le_of_ble_eq_true rfl, Nat.le_of_ble_eq_true rfl⟩ sh_108 (f_lt (o := 108) (m := 155) (Nat.le_of_ble_eq_true rfl) hN)) MT_65 (G_88 hN v5 (m2 121 0) m2) ⟨rfl, rfl, rfl⟩ fun t6 => ?_
    refine i_istore_n (pc' := 55) (ls' := [.ref 102, .int a1, .int a2, .int t6]) (f_at inc_113 (j := 30) rfl) (Nat.le_of_ble_eq_true rfl) rfl rfl ?_
    refine i_aload_n (pc' := 56) (f_at inc_113 (j := 31) rfl) rfl rfl ?_
    refine i_getR (pc' := 59) (f_at inc_113 (j := 32) rfl) sh_102 rfl (f_lt (o := 102) (m := 155) (Nat.le_of_ble_eq_true rfl) hN) rfl ?_
    refine i_iload_n (pc' := 60) (f_at inc_113 (j := 33) rfl) rfl rfl ?_
    refine i_iload_n (pc' := 61) (f_at inc_113 (j := 34) rfl) rfl rfl ?_
    refine i_iload_n (pc' := 62) (f_at inc_113 (j := 35) rfl) rfl rfl ?_
    refine i_iconst (pc' := 63) (f_at inc_113 (j := 36) rfl) ci_5 rfl ?_
    refine i_imul (pc' := 64) (f_at inc_113 (j := 37) rfl) rfl ?_
    refine i_iload_n (pc' := 65) (f_at inc_113 (j := 38) rfl) rfl rfl ?_
    refine i_imul (pc' := 66) (f_at inc_113 (j := 39) rfl) rfl ?_
    refine i_bipush (pc' := 68) (f_at inc_113 (j := 40) rfl) cb_100 rfl ?_
    refine i_idiv (pc' := 69) (f_at inc_113 (j := 41) rfl) (by decide) rfl ?_
    refine i_isub (pc' := 70) (f_at inc_113 (j := 42) rfl) rfl ?_
    refine c_wv (pc' := 73) (c' := 0) (n' := 0) (h_virt (ra := [.int (t6 - (((t6 * (5 : Int32)) * a2) / (100 : Int32))), .int a1, .ref 121]) (r := []) (as := [.int a1, .int (t6 - (((t6 * (5 : Int32)) * a2) / (100 : Int32)))]) (f_at inc_113 (j := 43) rfl) (by decide) MT_112 rfl rfl rfl ⟨Nat.le_of_ble_eq_true rfl, Nat.le_of_ble_eq_true rfl, Nat.le_of_ble_eq_true rfl⟩ sh_121 (f_lt (o := 121) (m := 155) (Nat.le_of_ble_eq_true rfl) hN)) MT_112 (G_89 hN a1 (t6 - (((t6 * (5 : Int32)) * a2) / (100 : Int32))) m2) ⟨rfl, rfl, rfl⟩ fun t7 => ?_
    refine i_iconst (pc' := 74) (f_at inc_113 (j := 44) rfl) ci_1 rfl ?_
    exact i_iret (v := f_b true) (f_at inc_113 (j := 45) rfl) rfl n_bool
  · refine i_iconst (pc' := 30) (f_at inc_113 (j := 17) rfl) ci_0 rfl ?_
    exact i_iret (v := f_b false) (f_at inc_113 (j := 18) rfl) rfl n_bool
set_option maxRecDepth 4000 in
theorem G_92 {xs : Nat → Int32} {L N : Nat} (hN : 155 ≤ N) (a1 : Int32) (a2 : Int32)  (σ : f_M) : f_Cal a_MT xs L N 114 [.ref 121, .int a1, .int a2] σ ((g_92 a1 a2 σ).bind fun t => some (e_wv t)) := by
  refine f_cal_of (ls := [.ref 121, .int a1, .int a2]) MT_114 (Nat.le_of_ble_eq_true rfl) rfl ?_
  unfold g_92
  refine i_aload_n (pc' := 1) (f_at inc_114 (j := 0) rfl) rfl rfl ?_
  refine i_dup (pc' := 2) (f_at inc_114 (j := 1) rfl) rfl rfl ?_
  refine i_getI (pc' := 5) (f_at inc_114 (j := 2) rfl) sh_121 rfl (f_lt (o := 121) (m := 155) (Nat.le_of_ble_eq_true rfl) hN) rfl ?_
  refine i_iload_n (pc' := 6) (f_at inc_114 (j := 3) rfl) rfl rfl ?_
  refine i_isub (pc' := 7) (f_at inc_114 (j := 4) rfl) rfl ?_
  refine i_putI (pc' := 10) (f_at inc_114 (j := 5) rfl) sh_121 rfl ⟨rfl, rfl⟩ (f_lt (o := 121) (m := 155) (Nat.le_of_ble_eq_true rfl) hN) rfl ?_
  refine i_aload_n (pc' := 11) (f_at inc_114 (j := 6) rfl) rfl rfl ?_
  refine i_getR (pc' := 14) (f_at inc_114 (j := 7) rfl) sh_121 rfl (f_lt (o := 121) (m := 155) (Nat.le_of_ble_eq_true rfl) hN) rfl ?_
  refine i_iload_n (pc' := 15) (f_at inc_114 (j := 8) rfl) rfl rfl ?_
  refine i_dup2 (pc' := 16) (f_at inc_114 (j := 9) rfl) ⟨rfl, rfl⟩ rfl ?_
  refine i_iald (pc' := 17) (f_at inc_114 (j := 10) rfl) sh_122 (f_bg (Nat.le_of_ble_eq_true rfl)) (f_lt (o := 122) (m := 155) (Nat.le_of_ble_eq_true rfl) hN) rfl fun v1 => ?_
  refine i_iload_n (pc' := 18) (f_at inc_114 (j := 11) rfl) rfl rfl ?_
  refine i_iadd (pc' := 19) (f_at inc_114 (j := 12) rfl) rfl ?_
  refine i_iast (pc' := 20) (f_at inc_114 (j := 13) rfl) sh_122 (f_lt (o := 122) (m := 155) (Nat.le_of_ble_eq_true rfl) hN) rfl fun m2 => ?_
  refine i_aload_n (pc' := 21) (f_at inc_114 (j := 14) rfl) rfl rfl ?_
  refine i_dup (pc' := 22) (f_at inc_114 (j := 15) rfl) rfl rfl ?_
  refine i_getI (pc' := 25) (f_at inc_114 (j := 16) rfl) sh_121 rfl (f_lt (o := 121) (m := 155) (Nat.le_of_ble_eq_true rfl) hN) rfl ?_
  refine i_iload_n (pc' := 26) (f_at inc_114 (j := 17) rfl) rfl rfl ?_
  refine i_iadd (pc' := 27) (f_at inc_114 (j := 18) rfl) rfl ?_
  refine i_putI (pc' := 30) (f_at inc_114 (j := 19) rfl) sh_121 rfl ⟨rfl, rfl⟩ (f_lt (o := 121) (m := 155) (Nat.le_of_ble_eq_true rfl) hN) rfl ?_
  exact i_vret (f_at inc_114 (j := 20) rfl) rfl
set_option maxRecDepth 4000 in
theorem G_93 {xs : Nat → Int32} {L N : Nat} (hN : 155 ≤ N)   (σ : f_M) : f_Cal a_MT xs L N 115 [.ref 102] σ ((g_93  σ).bind fun t => some (e_wv t)) := by
  refine f_cal_of (ls := [.ref 102, a_dead, a_dead]) MT_115 (Nat.le_of_ble_eq_true rfl) rfl ?_
  unfold g_93
  refine i_aload_n (pc' := 1) (f_at inc_115 (j := 0) rfl) rfl rfl ?_
  refine i_getR (pc' := 4) (f_at inc_115 (j := 1) rfl) sh_102 rfl (f_lt (o := 102) (m := 155) (Nat.le_of_ble_eq_true rfl) hN) rfl ?_
  refine i_getI (pc' := 7) (f_at inc_115 (j := 2) rfl) sh_121 rfl (f_lt (o := 121) (m := 155) (Nat.le_of_ble_eq_true rfl) hN) rfl ?_
  refine i_istore_n (pc' := 8) (ls' := [.ref 102, .int (σ 121 11), a_dead]) (f_at inc_115 (j := 3) rfl) (Nat.le_of_ble_eq_true rfl) rfl rfl ?_
  refine s_lR ((σ 121 11), σ) (a_dead) (fun (s1 : Int32 × f_M) (u1 : Value) => [.ref 102, .int s1.1, u1]) (fun (s1 : Int32 × f_M) => s1.2) ?_
  intro s1 u1 k1 hb1 hr1
  refine i_iload_n (pc' := 9) (f_at inc_115 (j := 4) rfl) rfl rfl ?_
  refine i_aload_n (pc' := 10) (f_at inc_115 (j := 5) rfl) rfl rfl ?_
  refine i_getR (pc' := 13) (f_at inc_115 (j := 6) rfl) sh_102 rfl (f_lt (o := 102) (m := 155) (Nat.le_of_ble_eq_true rfl) hN) rfl ?_
  refine i_getI (pc' := 16) (f_at inc_115 (j := 7) rfl) sh_121 rfl (f_lt (o := 121) (m := 155) (Nat.le_of_ble_eq_true rfl) hN) rfl ?_
  refine i_if2 (pc' := 99) (nx := 19) c2_ge (f_at inc_115 (j := 8) rfl) ⟨by decide, rfl⟩ (fun b9 => ?_) (fun b9 => ?_)
  · refine s_rt (hr1 _) ?_
    exact i_vret (f_at inc_115 (j := 51) rfl) rfl
  · refine i_aload_n (pc' := 20) (f_at inc_115 (j := 9) rfl) rfl rfl ?_
    refine i_getR (pc' := 23) (f_at inc_115 (j := 10) rfl) sh_102 rfl (f_lt (o := 102) (m := 155) (Nat.le_of_ble_eq_true rfl) hN) rfl ?_
    refine i_getR (pc' := 26) (f_at inc_115 (j := 11) rfl) sh_121 rfl (f_lt (o := 121) (m := 155) (Nat.le_of_ble_eq_true rfl) hN) rfl ?_
    refine i_iload_n (pc' := 27) (f_at inc_115 (j := 12) rfl) rfl rfl ?_
    refine i_iald (pc' := 28) (f_at inc_115 (j := 13) rfl) sh_127 (f_bg (Nat.le_of_ble_eq_true rfl)) (f_lt (o := 127) (m := 155) (Nat.le_of_ble_eq_true rfl) hN) rfl fun v2 => ?_
    refine i_istore_n (pc' := 29) (ls' := [.ref 102, .int s1.1, .int v2]) (f_at inc_115 (j := 14) rfl) (Nat.le_of_ble_eq_true rfl) rfl rfl ?_
    refine i_aload_n (pc' := 30) (f_at inc_115 (j := 15) rfl) rfl rfl ?_
    refine i_getR (pc' := 33) (f_at inc_115 (j := 16) rfl) sh_102 rfl (f_lt (o := 102) (m := 155) (Nat.le_of_ble_eq_true rfl) hN) rfl ?_
    refine i_getI (pc' := 36) (f_at inc_115 (j := 17) rfl) sh_121 rfl (f_lt (o := 121) (m := 155) (Nat.le_of_ble_eq_true rfl) hN) rfl ?_
    refine i_aload_n (pc' := 37) (f_at inc_115 (j := 18) rfl) rfl rfl ?_
    refine i_getR (pc' := 40) (f_at inc_115 (j := 19) rfl) sh_102 rfl (f_lt (o := 102) (m := 155) (Nat.le_of_ble_eq_true rfl) hN) rfl ?_
    refine i_getR (pc' := 43) (f_at inc_115 (j := 20) rfl) sh_121 rfl (f_lt (o := 121) (m := 155) (Nat.le_of_ble_eq_true rfl) hN) rfl ?_
    refine i_iload_n (pc' := 44) (f_at inc_115 (j := 21) rfl) rfl rfl ?_
    refine i_iald (pc' := 45) (f_at inc_115 (j := 22) rfl) sh_126 (f_bg (Nat.le_of_ble_eq_true rfl)) (f_lt (o := 126) (m := 155) (Nat.le_of_ble_eq_true rfl) hN) rfl fun v3 => ?_
    refine i_if2 (pc' := 49) (nx := 48) c2_ge (f_at inc_115 (j := 23) rfl) ⟨by decide, rfl⟩ (fun b8 => ?_) (fun b8 => ?_)
    · refine i_aload_n (pc' := 50) (f_at inc_115 (j := 25) rfl) rfl rfl ?_
      refine i_getR (pc' := 53) (f_at inc_115 (j := 26) rfl) sh_102 rfl (f_lt (o := 102) (m := 155) (Nat.le_of_ble_eq_true rfl) hN) rfl ?_
      refine i_aload_n (pc' := 54) (f_at inc_115 (j := 27) rfl) rfl rfl ?_
      refine i_iload_n (pc' := 55) (f_at inc_115 (j := 28) rfl) rfl rfl ?_
      refine c_pi (pc' := 58) (c' := 0) (n' := 0) (h_virt (ra := [.int v2, .ref 102]) (r := [.ref 121]) (as := [.int v2]) (f_at inc_115 (j := 29) rfl) (by decide) MT_88 rfl rfl rfl ⟨Nat.le_of_ble_eq_true rfl, Nat.le_of_ble_eq_true rfl, Nat.le_of_ble_eq_true rfl⟩ sh_102 (f_lt (o := 102) (m := 155) (Nat.le_of_ble_eq_true rfl) hN)) MT_88 (G_91 hN v2 s1.2) ⟨rfl, rfl, rfl⟩ fun t4 => ?_
      refine i_aload_n (pc' := 59) (f_at inc_115 (j := 30) rfl) rfl rfl ?_
      refine i_getR (pc' := 62) (f_at inc_115 (j := 31) rfl) sh_102 rfl (f_lt (o := 102) (m := 155) (Nat.le_of_ble_eq_true rfl) hN) rfl ?_
      refine i_getR (pc' := 65) (f_at inc_115 (j := 32) rfl) sh_121 rfl (f_lt (o := 121) (m := 155) (Nat.le_of_ble_eq_true rfl) hN) rfl ?_
      refine i_iload_n (pc' := 66) (f_at inc_115 (j := 33) rfl) rfl rfl ?_
      refine i_iald (pc' := 67) (f_at inc_115 (j := 34) rfl) sh_126 (f_bg (Nat.le_of_ble_eq_true rfl)) (f_lt (o := 126) (m := 155) (Nat.le_of_ble_eq_true rfl) hN) rfl fun v5 => ?_
      refine c_wv (pc' := 70) (c' := 0) (n' := 0) (h_virt (ra := [.int v5, .int t4, .ref 121]) (r := []) (as := [.int t4, .int v5]) (f_at inc_115 (j := 35) rfl) (by decide) MT_114 rfl rfl rfl ⟨Nat.le_of_ble_eq_true rfl, Nat.le_of_ble_eq_true rfl, Nat.le_of_ble_eq_true rfl⟩ sh_121 (f_lt (o := 121) (m := 155) (Nat.le_of_ble_eq_true rfl) hN)) MT_114 (G_92 hN t4 v5 s1.2) ⟨rfl, rfl, rfl⟩ fun t6 => ?_
      refine i_aload_n (pc' := 71) (f_at inc_115 (j := 36) rfl) rfl rfl ?_
      refine i_getR (pc' := 74) (f_at inc_115 (j := 37) rfl) sh_102 rfl (f_lt (o := 102) (m := 155) (Nat.le_of_ble_eq_true rfl) hN) rfl ?_
      refine i_getR (pc' := 77) (f_at inc_115 (j := 38) rfl) sh_121 rfl (f_lt (o := 121) (m := 155) (Nat.le_of_ble_eq_true rfl) hN) rfl ?_
      refine i_iload_n (pc' := 78) (f_at inc_115 (j := 39) rfl) rfl rfl ?_
      refine i_iconst (pc' := 79) (f_at inc_115 (j := 40) rfl) ci_3 rfl ?_
      refine i_iast (pc' := 80) (f_at inc_115 (j := 41) rfl) sh_124 (f_lt (o := 124) (m := 155) (Nat.le_of_ble_eq_true rfl) hN) rfl fun m7 => ?_
      refine i_aload_n (pc' := 81) (f_at inc_115 (j := 42) rfl) rfl rfl ?_
      refine i_getR (pc' := 84) (f_at inc_115 (j := 43) rfl) sh_102 rfl (f_lt (o := 102) (m := 155) (Nat.le_of_ble_eq_true rfl) hN) rfl ?_
      refine i_dup (pc' := 85) (f_at inc_115 (j := 44) rfl) rfl rfl ?_
      refine i_getI (pc' := 88) (f_at inc_115 (j := 45) rfl) sh_121 rfl (f_lt (o := 121) (m := 155) (Nat.le_of_ble_eq_true rfl) hN) rfl ?_
      refine i_iconst (pc' := 89) (f_at inc_115 (j := 46) rfl) ci_1 rfl ?_
      refine i_iadd (pc' := 90) (f_at inc_115 (j := 47) rfl) rfl ?_
      refine i_putI (pc' := 93) (f_at inc_115 (j := 48) rfl) sh_121 rfl ⟨rfl, rfl⟩ (f_lt (o := 121) (m := 155) (Nat.le_of_ble_eq_true rfl) hN) rfl ?_
      refine i_iinc (pc' := 96) (ls' := [.ref 102, .int (s1.1 + (1 : Int32)), .int v2]) (f_at inc_115 (j := 49) rfl) rfl ci_1 rfl rfl ?_
      refine i_goto (pc' := 8) (f_at inc_115 (j := 50) rfl) (by decide) ?_
      exact hb1 ((s1.1 + (1 : Int32)), (f_up m7 121 11 ((m7 121 11) + (1 : Int32)))) (.int v2)
    · refine s_rt (hr1 _) ?_
      exact i_vret (f_at inc_115 (j := 24) rfl) rfl
set_option maxRecDepth 4000 in
theorem G_94 {xs : Nat → Int32} {L N : Nat} (hN : 155 ≤ N) (a1 : Int32) (a2 : Int32)  (σ : f_M) : f_Cal a_MT xs L N 116 [.ref 102, .int a1, .int a2] σ ((g_94 a1 a2 σ).bind fun t => some (e_wi t)) := by
  refine f_cal_of (ls := [.ref 102, .int a1, .int a2, a_dead, a_dead, a_dead]) MT_116 (Nat.le_of_ble_eq_true rfl) rfl ?_
  unfold g_94
  refine i_aload_n (pc' := 1) (f_at inc_116 (j := 0) rfl) rfl rfl ?_
  refine i_aload_n (pc' := 2) (f_at inc_116 (j := 1) rfl) rfl rfl ?_
  refine i_getR (pc' := 5) (f_at inc_116 (j := 2) rfl) sh_102 rfl (f_lt (o := 102) (m := 155) (Nat.le_of_ble_eq_true rfl) hN) rfl ?_
  refine c_wv (pc' := 8) (c' := 0) (n' := 0) (h_virt (ra := [.ref 121, .ref 102]) (r := []) (as := [.ref 121]) (f_at inc_116 (j := 3) rfl) (by decide) MT_110 rfl rfl rfl ⟨Nat.le_of_ble_eq_true rfl, Nat.le_of_ble_eq_true rfl, Nat.le_of_ble_eq_true rfl⟩ sh_102 (f_lt (o := 102) (m := 155) (Nat.le_of_ble_eq_true rfl) hN)) MT_110 (G_82 hN 121 f_L121 σ) ⟨rfl, rfl, rfl⟩ fun t1 => ?_
  refine i_aload_n (pc' := 9) (f_at inc_116 (j := 4) rfl) rfl rfl ?_
  refine i_getR (pc' := 12) (f_at inc_116 (j := 5) rfl) sh_102 rfl (f_lt (o := 102) (m := 155) (Nat.le_of_ble_eq_true rfl) hN) rfl ?_
  refine i_getR (pc' := 15) (f_at inc_116 (j := 6) rfl) sh_108 rfl (f_lt (o := 108) (m := 155) (Nat.le_of_ble_eq_true rfl) hN) rfl ?_
  refine i_aload_n (pc' := 16) (f_at inc_116 (j := 7) rfl) rfl rfl ?_
  refine i_getR (pc' := 19) (f_at inc_116 (j := 8) rfl) sh_102 rfl (f_lt (o := 102) (m := 155) (Nat.le_of_ble_eq_true rfl) hN) rfl ?_
  refine i_getI (pc' := 22) (f_at inc_116 (j := 9) rfl) sh_121 rfl (f_lt (o := 121) (m := 155) (Nat.le_of_ble_eq_true rfl) hN) rfl ?_
  refine i_iload_n (pc' := 23) (f_at inc_116 (j := 10) rfl) rfl rfl ?_
  refine i_iast (pc' := 24) (f_at inc_116 (j := 11) rfl) sh_109 (f_lt (o := 109) (m := 155) (Nat.le_of_ble_eq_true rfl) hN) rfl fun m2 => ?_
  refine i_aload_n (pc' := 25) (f_at inc_116 (j := 12) rfl) rfl rfl ?_
  refine i_getR (pc' := 28) (f_at inc_116 (j := 13) rfl) sh_102 rfl (f_lt (o := 102) (m := 155) (Nat.le_of_ble_eq_true rfl) hN) rfl ?_
  refine i_getR (pc' := 31) (f_at inc_116 (j := 14) rfl) sh_108 rfl (f_lt (o := 108) (m := 155) (Nat.le_of_ble_eq_true rfl) hN) rfl ?_
  refine i_aload_n (pc' := 32) (f_at inc_116 (j := 15) rfl) rfl rfl ?_
  refine i_getR (pc' := 35) (f_at inc_116 (j := 16) rfl) sh_102 rfl (f_lt (o := 102) (m := 155) (Nat.le_of_ble_eq_true rfl) hN) rfl ?_
  refine i_getI (pc' := 38) (f_at inc_116 (j := 17) rfl) sh_121 rfl (f_lt (o := 121) (m := 155) (Nat.le_of_ble_eq_true rfl) hN) rfl ?_
  refine i_iload_n (pc' := 39) (f_at inc_116 (j := 18) rfl) rfl rfl ?_
  refine i_iast (pc' := 40) (f_at inc_116 (j := 19) rfl) sh_110 (f_lt (o := 110) (m := 155) (Nat.le_of_ble_eq_true rfl) hN) rfl fun m3 => ?_
  refine i_aload_n (pc' := 41) (f_at inc_116 (j := 20) rfl) rfl rfl ?_
  refine i_getR (pc' := 44) (f_at inc_116 (j := 21) rfl) sh_102 rfl (f_lt (o := 102) (m := 155) (Nat.le_of_ble_eq_true rfl) hN) rfl ?_
  refine i_dup (pc' := 45) (f_at inc_116 (j := 22) rfl) rfl rfl ?_
  refine i_getI (pc' := 48) (f_at inc_116 (j := 23) rfl) sh_121 rfl (f_lt (o := 121) (m := 155) (Nat.le_of_ble_eq_true rfl) hN) rfl ?_
  refine i_iconst (pc' := 49) (f_at inc_116 (j := 24) rfl) ci_1 rfl ?_
  refine i_iadd (pc' := 50) (f_at inc_116 (j := 25) rfl) rfl ?_
  refine i_putI (pc' := 53) (f_at inc_116 (j := 26) rfl) sh_121 rfl ⟨rfl, rfl⟩ (f_lt (o := 121) (m := 155) (Nat.le_of_ble_eq_true rfl) hN) rfl ?_
  refine i_iconst (pc' := 54) (f_at inc_116 (j := 27) rfl) ci_0 rfl ?_
  refine i_istore_n (pc' := 55) (ls' := [.ref 102, .int a1, .int a2, .int (0 : Int32), a_dead, a_dead]) (f_at inc_116 (j := 28) rfl) (Nat.le_of_ble_eq_true rfl) rfl rfl ?_
  refine i_iconst (pc' := 56) (f_at inc_116 (j := 29) rfl) ci_0 rfl ?_
  refine i_istore (pc' := 58) (ls' := [.ref 102, .int a1, .int a2, .int (0 : Int32), .int (0 : Int32), a_dead]) (f_at inc_116 (j := 30) rfl) (Nat.le_of_ble_eq_true rfl) rfl rfl ?_
  refine s_lX (X := 112) ((0 : Int32), (0 : Int32), (f_up m3 121 0 ((m3 121 0) + (1 : Int32)))) (a_dead) (fun (s4 : Int32 × Int32 × f_M) (u4 : Value) => [.ref 102, .int a1, .int a2, .int s4.1, .int s4.2.1, u4]) (fun (s4 : Int32 × Int32 × f_M) => s4.2.2) (fun (x4 : Int32 × f_M) (w4 : Value × Value) => [.ref 102, .int a1, .int a2, .int x4.1, w4.1, w4.2]) (fun (x4 : Int32 × f_M) => x4.2) ?_ ?_
  · intro x4 w4
    refine i_aload_n (pc' := 113) (f_at inc_116 (j := 55) rfl) rfl rfl ?_
    refine c_wv (pc' := 116) (c' := 0) (n' := 0) (h_virt (ra := [.ref 102]) (r := []) (as := []) (f_at inc_116 (j := 56) rfl) (by decide) MT_115 rfl rfl rfl ⟨Nat.le_of_ble_eq_true rfl, Nat.le_of_ble_eq_true rfl, Nat.le_of_ble_eq_true rfl⟩ sh_102 (f_lt (o := 102) (m := 155) (Nat.le_of_ble_eq_true rfl) hN)) MT_115 (G_93 hN  x4.2) ⟨rfl, rfl, rfl⟩ fun t12 => ?_
    refine i_iload_n (pc' := 117) (f_at inc_116 (j := 57) rfl) rfl rfl ?_
    exact i_iret (f_at inc_116 (j := 58) rfl) rfl n_int
  · intro s4 u4 k4 hb4 hx4
    refine i_iload (pc' := 60) (f_at inc_116 (j := 31) rfl) rfl rfl ?_
    refine i_aload_n (pc' := 61) (f_at inc_116 (j := 32) rfl) rfl rfl ?_
    refine i_getR (pc' := 64) (f_at inc_116 (j := 33) rfl) sh_102 rfl (f_lt (o := 102) (m := 155) (Nat.le_of_ble_eq_true rfl) hN) rfl ?_
    refine i_getI (pc' := 67) (f_at inc_116 (j := 34) rfl) sh_103 rfl (f_lt (o := 103) (m := 155) (Nat.le_of_ble_eq_true rfl) hN) rfl ?_
    refine i_if2 (pc' := 112) (nx := 70) c2_ge (f_at inc_116 (j := 35) rfl) ⟨by decide, rfl⟩ (fun b11 => ?_) (fun b11 => ?_)
    · exact hx4 (s4.1, s4.2.2) (.int s4.2.1, u4)
    · refine i_aload_n (pc' := 71) (f_at inc_116 (j := 36) rfl) rfl rfl ?_
      refine i_iload (pc' := 73) (f_at inc_116 (j := 37) rfl) rfl rfl ?_
      refine c_pi (pc' := 76) (c' := 0) (n' := 0) (h_virt (ra := [.int s4.2.1, .ref 102]) (r := []) (as := [.int s4.2.1]) (f_at inc_116 (j := 38) rfl) (by decide) MT_111 rfl rfl rfl ⟨Nat.le_of_ble_eq_true rfl, Nat.le_of_ble_eq_true rfl, Nat.le_of_ble_eq_true rfl⟩ sh_102 (f_lt (o := 102) (m := 155) (Nat.le_of_ble_eq_true rfl) hN)) MT_111 (G_84 hN s4.2.1 s4.2.2) ⟨rfl, rfl, rfl⟩ fun t5 => ?_
      refine i_istore (pc' := 78) (ls' := [.ref 102, .int a1, .int a2, .int s4.1, .int s4.2.1, .int t5]) (f_at inc_116 (j := 39) rfl) (Nat.le_of_ble_eq_true rfl) rfl rfl ?_
      refine i_iload (pc' := 80) (f_at inc_116 (j := 40) rfl) rfl rfl ?_
      refine i_iconst (pc' := 81) (f_at inc_116 (j := 41) rfl) ci_m1 rfl ?_
      refine s_join (J := 106) (fun (t6 : Int32 × f_M) (u6 : Unit) => [.ref 102, .int a1, .int a2, .int t6.1, .int s4.2.1, .int t5]) (fun t6 => []) (fun t6 => t6.2) ?_ ?_
      · intro t6 u6
        refine i_iinc (pc' := 109) (ls' := [.ref 102, .int a1, .int a2, .int t6.1, .int (s4.2.1 + (1 : Int32)), .int t5]) (f_at inc_116 (j := 53) rfl) rfl ci_1 rfl rfl ?_
        refine i_goto (pc' := 58) (f_at inc_116 (j := 54) rfl) (by decide) ?_
        exact hb4 (t6.1, (s4.2.1 + (1 : Int32)), t6.2) (.int t5)
      · intro k6 hj6
        refine i_if2 (pc' := 106) (nx := 84) c2_eq (f_at inc_116 (j := 42) rfl) ⟨by decide, rfl⟩ (fun b10 => ?_) (fun b10 => ?_)
        · exact hj6 (s4.1, s4.2.2) ()
        · refine i_aload_n (pc' := 85) (f_at inc_116 (j := 43) rfl) rfl rfl ?_
          refine i_iload (pc' := 87) (f_at inc_116 (j := 44) rfl) rfl rfl ?_
          refine i_aload_n (pc' := 88) (f_at inc_116 (j := 45) rfl) rfl rfl ?_
          refine i_getR (pc' := 91) (f_at inc_116 (j := 46) rfl) sh_102 rfl (f_lt (o := 102) (m := 155) (Nat.le_of_ble_eq_true rfl) hN) rfl ?_
          refine i_getR (pc' := 94) (f_at inc_116 (j := 47) rfl) sh_103 rfl (f_lt (o := 103) (m := 155) (Nat.le_of_ble_eq_true rfl) hN) rfl ?_
          refine i_iload (pc' := 96) (f_at inc_116 (j := 48) rfl) rfl rfl ?_
          refine i_iald (pc' := 97) (f_at inc_116 (j := 49) rfl) sh_107 (f_bg (Nat.le_of_ble_eq_true rfl)) (f_lt (o := 107) (m := 155) (Nat.le_of_ble_eq_true rfl) hN) rfl fun v7 => ?_
          refine c_wb (pc' := 100) (c' := 0) (n' := 0) (h_virt (ra := [.int v7, .int t5, .ref 102]) (r := []) (as := [.int t5, .int v7]) (f_at inc_116 (j := 50) rfl) (by decide) MT_113 rfl rfl rfl ⟨Nat.le_of_ble_eq_true rfl, Nat.le_of_ble_eq_true rfl, Nat.le_of_ble_eq_true rfl⟩ sh_102 (f_lt (o := 102) (m := 155) (Nat.le_of_ble_eq_true rfl) hN)) MT_113 (G_90 hN t5 v7 s4.2.2) ⟨rfl, rfl, rfl⟩ fun t8 => ?_
          refine i_if0 (pc' := 106) (nx := 103) cb_eq (f_at inc_116 (j := 51) rfl) ⟨by decide, rfl⟩ (fun b9 => ?_) (fun b9 => ?_)
          · exact hj6 (s4.1, t8.2) ()
          · refine i_iinc (pc' := 106) (ls' := [.ref 102, .int a1, .int a2, .int (s4.1 + (1 : Int32)), .int s4.2.1, .int t5]) (f_at inc_116 (j := 52) rfl) rfl ci_1 rfl rfl ?_
            exact hj6 ((s4.1 + (1 : Int32)), t8.2) ()
