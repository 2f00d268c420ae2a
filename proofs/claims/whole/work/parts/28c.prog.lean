/-! Flat programs. -/
set_option maxRecDepth 4000 in
def g_75 (a1 : Int32) (σ : f_M) : Option (Int32) :=
  (f_rd σ 113 20 a1).bind fun v1 =>
  (f_rd σ 114 20 a1).bind fun v2 =>
  some (v1 + v2)
set_option maxRecDepth 4000 in
theorem G_75 {xs : Nat → Int32} {L N : Nat} (hN : 155 ≤ N) (a1 : Int32)  (σ : f_M) : f_Cal a_MT xs L N 75 [.ref 108, .int a1] σ ((g_75 a1 σ).bind fun t => some (e_pi σ t)) := by
  refine f_cal_of (ls := [.ref 108, .int a1]) MT_75 (Nat.le_of_ble_eq_true rfl) rfl ?_
  unfold g_75
  refine i_aload_n (pc' := 1) (f_at inc_75 (j := 0) rfl) rfl rfl ?_
  refine i_getR (pc' := 4) (f_at inc_75 (j := 1) rfl) sh_108 rfl (f_lt (o := 108) (m := 155) (Nat.le_of_ble_eq_true rfl) hN) rfl ?_
  refine i_iload_n (pc' := 5) (f_at inc_75 (j := 2) rfl) rfl rfl ?_
  refine i_iald (pc' := 6) (f_at inc_75 (j := 3) rfl) sh_113 (f_bg (Nat.le_of_ble_eq_true rfl)) (f_lt (o := 113) (m := 155) (Nat.le_of_ble_eq_true rfl) hN) rfl fun v1 => ?_
  refine i_aload_n (pc' := 7) (f_at inc_75 (j := 4) rfl) rfl rfl ?_
  refine i_getR (pc' := 10) (f_at inc_75 (j := 5) rfl) sh_108 rfl (f_lt (o := 108) (m := 155) (Nat.le_of_ble_eq_true rfl) hN) rfl ?_
  refine i_iload_n (pc' := 11) (f_at inc_75 (j := 6) rfl) rfl rfl ?_
  refine i_iald (pc' := 12) (f_at inc_75 (j := 7) rfl) sh_114 (f_bg (Nat.le_of_ble_eq_true rfl)) (f_lt (o := 114) (m := 155) (Nat.le_of_ble_eq_true rfl) hN) rfl fun v2 => ?_
  refine i_iadd (pc' := 13) (f_at inc_75 (j := 8) rfl) rfl ?_
  exact i_iret (f_at inc_75 (j := 9) rfl) rfl n_int
set_option maxRecDepth 4000 in
def g_76 (a1 : Nat) (a2 : Int32) (σ : f_M) : Option (Bool) :=
  (f_rd σ (a1 + 2) 20 a2).bind fun v1 =>
  (
   if ¬ v1 = 0 then (
    some false
   ) else (
    (g_75 a2 σ).bind fun t3 =>
    if t3 ≤ (σ a1 0) then (
     some false
    ) else (
     some true
    )
   )
  ).bind fun (t2 : Bool) =>
  some t2
set_option maxRecDepth 4000 in
theorem G_76 {xs : Nat → Int32} {L N : Nat} (hN : 155 ≤ N) (a1 : Nat) (a2 : Int32) (ha1 : f_L a1) (σ : f_M) : f_Cal a_MT xs L N 76 [.ref 102, .ref a1, .int a2] σ ((g_76 a1 a2 σ).bind fun t => some (e_pb σ t)) := by
  refine f_cal_of (ls := [.ref 102, .ref a1, .int a2]) MT_76 (Nat.le_of_ble_eq_true rfl) rfl ?_
  unfold g_76
  refine i_aload_n (pc' := 1) (f_at inc_76 (j := 0) rfl) rfl rfl ?_
  refine i_getR (pc' := 4) (f_at inc_76 (j := 1) rfl) ha1.1 rfl (f_ltL ha1 hN 0 (Nat.le_of_ble_eq_true rfl)) rfl ?_
  refine i_iload_n (pc' := 5) (f_at inc_76 (j := 2) rfl) rfl rfl ?_
  refine i_bald (pc' := 6) (f_at inc_76 (j := 3) rfl) ha1.2.2.1 (Or.inr rfl) (f_bgL ha1 2 (Nat.le_of_ble_eq_true rfl)) (f_ltL ha1 hN 2 (Nat.le_of_ble_eq_true rfl)) rfl fun v1 => ?_
  refine s_join (J := 29) (fun (t2 : Bool) (u2 : Unit) => [.ref 102, .ref a1, .int a2]) (fun t2 => [.int (f_b t2)]) (fun t2 => σ) ?_ ?_
  · intro t2 u2
    exact i_iret (v := f_b t2) (f_at inc_76 (j := 15) rfl) rfl n_bool
  · intro k2 hj2
    refine i_if0 (pc' := 28) (nx := 9) c0_ne (f_at inc_76 (j := 4) rfl) ⟨by decide, rfl⟩ (fun b5 => ?_) (fun b5 => ?_)
    · refine i_iconst (pc' := 29) (f_at inc_76 (j := 14) rfl) ci_0 rfl ?_
      exact hj2 false ()
    · refine i_aload_n (pc' := 10) (f_at inc_76 (j := 5) rfl) rfl rfl ?_
      refine i_getI (pc' := 13) (f_at inc_76 (j := 6) rfl) ha1.1 rfl (f_ltL ha1 hN 0 (Nat.le_of_ble_eq_true rfl)) rfl ?_
      refine i_aload_n (pc' := 14) (f_at inc_76 (j := 7) rfl) rfl rfl ?_
      refine i_getR (pc' := 17) (f_at inc_76 (j := 8) rfl) sh_102 rfl (f_lt (o := 102) (m := 155) (Nat.le_of_ble_eq_true rfl) hN) rfl ?_
      refine i_iload_n (pc' := 18) (f_at inc_76 (j := 9) rfl) rfl rfl ?_
      refine c_pi (pc' := 21) (c' := 0) (n' := 0) (h_virt (ra := [.int a2, .ref 108]) (r := [.int (σ a1 0)]) (as := [.int a2]) (f_at inc_76 (j := 10) rfl) (by decide) MT_75 rfl rfl rfl ⟨Nat.le_of_ble_eq_true rfl, Nat.le_of_ble_eq_true rfl, Nat.le_of_ble_eq_true rfl⟩ sh_108 (f_lt (o := 108) (m := 155) (Nat.le_of_ble_eq_true rfl) hN)) MT_75 (G_75 hN a2 σ) ⟨rfl, rfl, rfl⟩ fun t3 => ?_
      refine i_if2 (pc' := 28) (nx := 24) c2_ge (f_at inc_76 (j := 11) rfl) ⟨by decide, rfl⟩ (fun b4 => ?_) (fun b4 => ?_)
      · refine i_iconst (pc' := 29) (f_at inc_76 (j := 14) rfl) ci_0 rfl ?_
        exact hj2 false ()
      · refine i_iconst (pc' := 25) (f_at inc_76 (j := 12) rfl) ci_1 rfl ?_
        refine i_goto (pc' := 29) (f_at inc_76 (j := 13) rfl) (by decide) ?_
        exact hj2 true ()
set_option maxRecDepth 4000 in
def g_77 (a0 : Int32) (a1 : Int32) (σ : f_M) : Option (Int32) :=
  some (((a1 * a0) / (40 : Int32)) + (1 : Int32))
set_option maxRecDepth 4000 in
theorem G_77 {xs : Nat → Int32} {L N : Nat} (hN : 155 ≤ N) (a0 : Int32) (a1 : Int32)  (σ : f_M) : f_Cal a_MT xs L N 77 [.int a0, .int a1] σ ((g_77 a0 a1 σ).bind fun t => some (e_pi σ t)) := by
  refine f_cal_of (ls := [.int a0, .int a1]) MT_77 (Nat.le_of_ble_eq_true rfl) rfl ?_
  unfold g_77
  refine i_iload_n (pc' := 1) (f_at inc_77 (j := 0) rfl) rfl rfl ?_
  refine i_iload_n (pc' := 2) (f_at inc_77 (j := 1) rfl) rfl rfl ?_
  refine i_imul (pc' := 3) (f_at inc_77 (j := 2) rfl) rfl ?_
  refine i_bipush (pc' := 5) (f_at inc_77 (j := 3) rfl) cb_40 rfl ?_
  refine i_idiv (pc' := 6) (f_at inc_77 (j := 4) rfl) (by decide) rfl ?_
  refine i_iconst (pc' := 7) (f_at inc_77 (j := 5) rfl) ci_1 rfl ?_
  refine i_iadd (pc' := 8) (f_at inc_77 (j := 6) rfl) rfl ?_
  exact i_iret (f_at inc_77 (j := 7) rfl) rfl n_int
set_option maxRecDepth 4000 in
def g_78 (a0 : Int32) (a1 : Int32) (a2 : Int32) (σ : f_M) : Option (Int32) :=
  (
   if ((20 : Int32) + ((2 : Int32) * a2)) ≤ 0 then (
    some (1 : Int32)
   ) else (
    if ((20 : Int32) + ((2 : Int32) * a2)) = 0 then none else
    some (((a1 * a0) / ((20 : Int32) + ((2 : Int32) * a2))) + (1 : Int32))
   )
  ).bind fun (t1 : Int32) =>
  some t1
set_option maxRecDepth 4000 in
theorem G_78 {xs : Nat → Int32} {L N : Nat} (hN : 155 ≤ N) (a0 : Int32) (a1 : Int32) (a2 : Int32)  (σ : f_M) : f_Cal a_MT xs L N 78 [.int a0, .int a1, .int a2] σ ((g_78 a0 a1 a2 σ).bind fun t => some (e_pi σ t)) := by
  refine f_cal_of (ls := [.int a0, .int a1, .int a2, a_dead]) MT_78 (Nat.le_of_ble_eq_true rfl) rfl ?_
  unfold g_78
  refine i_bipush (pc' := 2) (f_at inc_78 (j := 0) rfl) cb_20 rfl ?_
  refine i_iconst (pc' := 3) (f_at inc_78 (j := 1) rfl) ci_2 rfl ?_
  refine i_iload_n (pc' := 4) (f_at inc_78 (j := 2) rfl) rfl rfl ?_
  refine i_imul (pc' := 5) (f_at inc_78 (j := 3) rfl) rfl ?_
  refine i_iadd (pc' := 6) (f_at inc_78 (j := 4) rfl) rfl ?_
  refine i_istore_n (pc' := 7) (ls' := [.int a0, .int a1, .int a2, .int ((20 : Int32) + ((2 : Int32) * a2))]) (f_at inc_78 (j := 5) rfl) (Nat.le_of_ble_eq_true rfl) rfl rfl ?_
  refine i_iload_n (pc' := 8) (f_at inc_78 (j := 6) rfl) rfl rfl ?_
  refine s_join (J := 22) (fun (t1 : Int32) (u1 : Unit) => [.int a0, .int a1, .int a2, .int ((20 : Int32) + ((2 : Int32) * a2))]) (fun t1 => [.int t1]) (fun t1 => σ) ?_ ?_
  · intro t1 u1
    exact i_iret (f_at inc_78 (j := 17) rfl) rfl n_int
  · intro k1 hj1
    refine i_if0 (pc' := 21) (nx := 11) c0_le (f_at inc_78 (j := 7) rfl) ⟨by decide, rfl⟩ (fun b3 => ?_) (fun b3 => ?_)
    · refine i_iconst (pc' := 22) (f_at inc_78 (j := 16) rfl) ci_1 rfl ?_
      exact hj1 (1 : Int32) ()
    · refine i_iload_n (pc' := 12) (f_at inc_78 (j := 8) rfl) rfl rfl ?_
      refine i_iload_n (pc' := 13) (f_at inc_78 (j := 9) rfl) rfl rfl ?_
      refine i_imul (pc' := 14) (f_at inc_78 (j := 10) rfl) rfl ?_
      refine i_iload_n (pc' := 15) (f_at inc_78 (j := 11) rfl) rfl rfl ?_
      refine i_grn fun h2 => ?_
      refine i_idiv (pc' := 16) (f_at inc_78 (j := 12) rfl) h2 rfl ?_
      refine i_iconst (pc' := 17) (f_at inc_78 (j := 13) rfl) ci_1 rfl ?_
      refine i_iadd (pc' := 18) (f_at inc_78 (j := 14) rfl) rfl ?_
      refine i_goto (pc' := 22) (f_at inc_78 (j := 15) rfl) (by decide) ?_
      exact hj1 (((a1 * a0) / ((20 : Int32) + ((2 : Int32) * a2))) + (1 : Int32)) ()
set_option maxRecDepth 4000 in
def g_79 (a1 : Int32) (σ : f_M) : Option (Int32) :=
  (f_rd σ 111 20 a1).bind fun v1 =>
  (
   if v1 = 0 then (
    (f_rd σ 114 20 a1).bind fun v3 =>
    (f_rd σ 115 20 a1).bind fun v4 =>
    (f_rd σ 118 20 a1).bind fun v5 =>
    (g_78 v3 v4 v5 σ).bind fun t6 =>
    some t6
   ) else (
    (f_rd σ 114 20 a1).bind fun v7 =>
    (f_rd σ 115 20 a1).bind fun v8 =>
    (g_77 v7 v8 σ).bind fun t9 =>
    some t9
   )
  ).bind fun (t2 : Int32) =>
  some t2
set_option maxRecDepth 4000 in
theorem G_79 {xs : Nat → Int32} {L N : Nat} (hN : 155 ≤ N) (a1 : Int32)  (σ : f_M) : f_Cal a_MT xs L N 79 [.ref 108, .int a1] σ ((g_79 a1 σ).bind fun t => some (e_pi σ t)) := by
  refine f_cal_of (ls := [.ref 108, .int a1]) MT_79 (Nat.le_of_ble_eq_true rfl) rfl ?_
  unfold g_79
  refine i_aload_n (pc' := 1) (f_at inc_79 (j := 0) rfl) rfl rfl ?_
  refine i_getR (pc' := 4) (f_at inc_79 (j := 1) rfl) sh_108 rfl (f_lt (o := 108) (m := 155) (Nat.le_of_ble_eq_true rfl) hN) rfl ?_
  refine i_iload_n (pc' := 5) (f_at inc_79 (j := 2) rfl) rfl rfl ?_
  refine i_bald (pc' := 6) (f_at inc_79 (j := 3) rfl) sh_111 (Or.inr rfl) (f_bg (Nat.le_of_ble_eq_true rfl)) (f_lt (o := 111) (m := 155) (Nat.le_of_ble_eq_true rfl) hN) rfl fun v1 => ?_
  refine s_join (J := 48) (fun (t2 : Int32) (u2 : Unit) => [.ref 108, .int a1]) (fun t2 => [.int t2]) (fun t2 => σ) ?_ ?_
  · intro t2 u2
    exact i_iret (f_at inc_79 (j := 28) rfl) rfl n_int
  · intro k2 hj2
    refine i_if0 (pc' := 27) (nx := 9) c0_eq (f_at inc_79 (j := 4) rfl) ⟨by decide, rfl⟩ (fun b10 => ?_) (fun b10 => ?_)
    · refine i_aload_n (pc' := 28) (f_at inc_79 (j := 15) rfl) rfl rfl ?_
      refine i_getR (pc' := 31) (f_at inc_79 (j := 16) rfl) sh_108 rfl (f_lt (o := 108) (m := 155) (Nat.le_of_ble_eq_true rfl) hN) rfl ?_
      refine i_iload_n (pc' := 32) (f_at inc_79 (j := 17) rfl) rfl rfl ?_
      refine i_iald (pc' := 33) (f_at inc_79 (j := 18) rfl) sh_114 (f_bg (Nat.le_of_ble_eq_true rfl)) (f_lt (o := 114) (m := 155) (Nat.le_of_ble_eq_true rfl) hN) rfl fun v3 => ?_
      refine i_aload_n (pc' := 34) (f_at inc_79 (j := 19) rfl) rfl rfl ?_
      refine i_getR (pc' := 37) (f_at inc_79 (j := 20) rfl) sh_108 rfl (f_lt (o := 108) (m := 155) (Nat.le_of_ble_eq_true rfl) hN) rfl ?_
      refine i_iload_n (pc' := 38) (f_at inc_79 (j := 21) rfl) rfl rfl ?_
      refine i_iald (pc' := 39) (f_at inc_79 (j := 22) rfl) sh_115 (f_bg (Nat.le_of_ble_eq_true rfl)) (f_lt (o := 115) (m := 155) (Nat.le_of_ble_eq_true rfl) hN) rfl fun v4 => ?_
      refine i_aload_n (pc' := 40) (f_at inc_79 (j := 23) rfl) rfl rfl ?_
      refine i_getR (pc' := 43) (f_at inc_79 (j := 24) rfl) sh_108 rfl (f_lt (o := 108) (m := 155) (Nat.le_of_ble_eq_true rfl) hN) rfl ?_
      refine i_iload_n (pc' := 44) (f_at inc_79 (j := 25) rfl) rfl rfl ?_
      refine i_iald (pc' := 45) (f_at inc_79 (j := 26) rfl) sh_118 (f_bg (Nat.le_of_ble_eq_true rfl)) (f_lt (o := 118) (m := 155) (Nat.le_of_ble_eq_true rfl) hN) rfl fun v5 => ?_
      refine c_pi (pc' := 48) (c' := 0) (n' := 0) (h_stat (ra := [.int v5, .int v4, .int v3]) (r := []) (as := [.int v3, .int v4, .int v5]) (f_at inc_79 (j := 27) rfl) (by decide) MT_78 rfl rfl rfl ⟨Nat.le_of_ble_eq_true rfl, Nat.le_of_ble_eq_true rfl, Nat.le_of_ble_eq_true rfl⟩) MT_78 (G_78 hN v3 v4 v5 σ) ⟨rfl, rfl, rfl⟩ fun t6 => ?_
      exact hj2 t6 ()
    · refine i_aload_n (pc' := 10) (f_at inc_79 (j := 5) rfl) rfl rfl ?_
      refine i_getR (pc' := 13) (f_at inc_79 (j := 6) rfl) sh_108 rfl (f_lt (o := 108) (m := 155) (Nat.le_of_ble_eq_true rfl) hN) rfl ?_
      refine i_iload_n (pc' := 14) (f_at inc_79 (j := 7) rfl) rfl rfl ?_
      refine i_iald (pc' := 15) (f_at inc_79 (j := 8) rfl) sh_114 (f_bg (Nat.le_of_ble_eq_true rfl)) (f_lt (o := 114) (m := 155) (Nat.le_of_ble_eq_true rfl) hN) rfl fun v7 => ?_
      refine i_aload_n (pc' := 16) (f_at inc_79 (j := 9) rfl) rfl rfl ?_
      refine i_getR (pc' := 19) (f_at inc_79 (j := 10) rfl) sh_108 rfl (f_lt (o := 108) (m := 155) (Nat.le_of_ble_eq_true rfl) hN) rfl ?_
      refine i_iload_n (pc' := 20) (f_at inc_79 (j := 11) rfl) rfl rfl ?_
      refine i_iald (pc' := 21) (f_at inc_79 (j := 12) rfl) sh_115 (f_bg (Nat.le_of_ble_eq_true rfl)) (f_lt (o := 115) (m := 155) (Nat.le_of_ble_eq_true rfl) hN) rfl fun v8 => ?_
      refine c_pi (pc' := 24) (c' := 0) (n' := 0) (h_stat (ra := [.int v8, .int v7]) (r := []) (as := [.int v7, .int v8]) (f_at inc_79 (j := 13) rfl) (by decide) MT_77 rfl rfl rfl ⟨Nat.le_of_ble_eq_true rfl, Nat.le_of_ble_eq_true rfl, Nat.le_of_ble_eq_true rfl⟩) MT_77 (G_77 hN v7 v8 σ) ⟨rfl, rfl, rfl⟩ fun t9 => ?_
      refine i_goto (pc' := 48) (f_at inc_79 (j := 14) rfl) (by decide) ?_
      exact hj2 t9 ()
set_option maxRecDepth 4000 in
def g_80 (a0 : Nat) (a1 : Int32) (a2 : Int32) (σ : f_M) : Option (f_M) :=
  (f_rd σ (a0 + 1) 8 a1).bind fun v1 =>
  (f_wr σ (a0 + 1) 8 a1 (v1 - a2)).bind fun m2 =>
  some (f_up (f_up m2 a0 1 ((m2 a0 1) + a2)) a0 12 (((f_up m2 a0 1 ((m2 a0 1) + a2)) a0 12) + a2))
set_option maxRecDepth 4000 in
theorem G_80 {xs : Nat → Int32} {L N : Nat} (hN : 155 ≤ N) (a0 : Nat) (a1 : Int32) (a2 : Int32) (ha0 : f_L a0) (σ : f_M) : f_Cal a_MT xs L N 80 [.ref a0, .int a1, .int a2] σ ((g_80 a0 a1 a2 σ).bind fun t => some (e_wv t)) := by
  refine f_cal_of (ls := [.ref a0, .int a1, .int a2]) MT_80 (Nat.le_of_ble_eq_true rfl) rfl ?_
  unfold g_80
  refine i_aload_n (pc' := 1) (f_at inc_80 (j := 0) rfl) rfl rfl ?_
  refine i_getR (pc' := 4) (f_at inc_80 (j := 1) rfl) ha0.1 rfl (f_ltL ha0 hN 0 (Nat.le_of_ble_eq_true rfl)) rfl ?_
  refine i_iload_n (pc' := 5) (f_at inc_80 (j := 2) rfl) rfl rfl ?_
  refine i_dup2 (pc' := 6) (f_at inc_80 (j := 3) rfl) ⟨rfl, rfl⟩ rfl ?_
  refine i_iald (pc' := 7) (f_at inc_80 (j := 4) rfl) ha0.2.1 (f_bgL ha0 1 (Nat.le_of_ble_eq_true rfl)) (f_ltL ha0 hN 1 (Nat.le_of_ble_eq_true rfl)) rfl fun v1 => ?_
  refine i_iload_n (pc' := 8) (f_at inc_80 (j := 5) rfl) rfl rfl ?_
  refine i_isub (pc' := 9) (f_at inc_80 (j := 6) rfl) rfl ?_
  refine i_iast (pc' := 10) (f_at inc_80 (j := 7) rfl) ha0.2.1 (f_ltL ha0 hN 1 (Nat.le_of_ble_eq_true rfl)) rfl fun m2 => ?_
  refine i_aload_n (pc' := 11) (f_at inc_80 (j := 8) rfl) rfl rfl ?_
  refine i_dup (pc' := 12) (f_at inc_80 (j := 9) rfl) rfl rfl ?_
  refine i_getI (pc' := 15) (f_at inc_80 (j := 10) rfl) ha0.1 rfl (f_ltL ha0 hN 0 (Nat.le_of_ble_eq_true rfl)) rfl ?_
  refine i_iload_n (pc' := 16) (f_at inc_80 (j := 11) rfl) rfl rfl ?_
  refine i_iadd (pc' := 17) (f_at inc_80 (j := 12) rfl) rfl ?_
  refine i_putI (pc' := 20) (f_at inc_80 (j := 13) rfl) ha0.1 rfl ⟨rfl, rfl⟩ (f_ltL ha0 hN 0 (Nat.le_of_ble_eq_true rfl)) rfl ?_
  refine i_aload_n (pc' := 21) (f_at inc_80 (j := 14) rfl) rfl rfl ?_
  refine i_dup (pc' := 22) (f_at inc_80 (j := 15) rfl) rfl rfl ?_
  refine i_getI (pc' := 25) (f_at inc_80 (j := 16) rfl) ha0.1 rfl (f_ltL ha0 hN 0 (Nat.le_of_ble_eq_true rfl)) rfl ?_
  refine i_iload_n (pc' := 26) (f_at inc_80 (j := 17) rfl) rfl rfl ?_
  refine i_iadd (pc' := 27) (f_at inc_80 (j := 18) rfl) rfl ?_
  refine i_putI (pc' := 30) (f_at inc_80 (j := 19) rfl) ha0.1 rfl ⟨rfl, rfl⟩ (f_ltL ha0 hN 0 (Nat.le_of_ble_eq_true rfl)) rfl ?_
  exact i_vret (f_at inc_80 (j := 20) rfl) rfl
set_option maxRecDepth 4000 in
def g_81 (a1 : Nat) (a2 : Int32) (σ : f_M) : Option (f_M) :=
  (f_rd σ 112 20 a2).bind fun v1 =>
  (g_79 a2 σ).bind fun t2 =>
  (f_rd σ (a1 + 1) 8 v1).bind fun v3 =>
  (
   if v3 < t2 then (
    (f_wr σ (a1 + 2) 20 a2 (1 : Int32)).bind fun m5 =>
    some m5
   ) else (
    (g_80 a1 v1 t2 σ).bind fun t6 =>
    some t6
   )
  ).bind fun (t4 : f_M) =>
  some t4
set_option maxRecDepth 4000 in
theorem G_81 {xs : Nat → Int32} {L N : Nat} (hN : 155 ≤ N) (a1 : Nat) (a2 : Int32) (ha1 : f_L a1) (σ : f_M) : f_Cal a_MT xs L N 81 [.ref 102, .ref a1, .int a2] σ ((g_81 a1 a2 σ).bind fun t => some (e_wv t)) := by
  refine f_cal_of (ls := [.ref 102, .ref a1, .int a2, a_dead, a_dead]) MT_81 (Nat.le_of_ble_eq_true rfl) rfl ?_
  unfold g_81
  refine i_aload_n (pc' := 1) (f_at inc_81 (j := 0) rfl) rfl rfl ?_
  refine i_getR (pc' := 4) (f_at inc_81 (j := 1) rfl) sh_102 rfl (f_lt (o := 102) (m := 155) (Nat.le_of_ble_eq_true rfl) hN) rfl ?_
  refine i_getR (pc' := 7) (f_at inc_81 (j := 2) rfl) sh_108 rfl (f_lt (o := 108) (m := 155) (Nat.le_of_ble_eq_true rfl) hN) rfl ?_
  refine i_iload_n (pc' := 8) (f_at inc_81 (j := 3) rfl) rfl rfl ?_
  refine i_iald (pc' := 9) (f_at inc_81 (j := 4) rfl) sh_112 (f_bg (Nat.le_of_ble_eq_true rfl)) (f_lt (o := 112) (m := 155) (Nat.le_of_ble_eq_true rfl) hN) rfl fun v1 => ?_
  refine i_istore_n (pc' := 10) (ls' := [.ref 102, .ref a1, .int a2, .int v1, a_dead]) (f_at inc_81 (j := 5) rfl) (Nat.le_of_ble_eq_true rfl) rfl rfl ?_
  refine i_aload_n (pc' := 11) (f_at inc_81 (j := 6) rfl) rfl rfl ?_
  refine i_getR (pc' := 14) (f_at inc_81 (j := 7) rfl) sh_102 rfl (f_lt (o := 102) (m := 155) (Nat.le_of_ble_eq_true rfl) hN) rfl ?_
  refine i_iload_n (pc' := 15) (f_at inc_81 (j := 8) rfl) rfl rfl ?_
  refine c_pi (pc' := 18) (c' := 0) (n' := 0) (h_virt (ra := [.int a2, .ref 108]) (r := []) (as := [.int a2]) (f_at inc_81 (j := 9) rfl) (by decide) MT_79 rfl rfl rfl ⟨Nat.le_of_ble_eq_true rfl, Nat.le_of_ble_eq_true rfl, Nat.le_of_ble_eq_true rfl⟩ sh_108 (f_lt (o := 108) (m := 155) (Nat.le_of_ble_eq_true rfl) hN)) MT_79 (G_79 hN a2 σ) ⟨rfl, rfl, rfl⟩ fun t2 => ?_
  refine i_istore (pc' := 20) (ls' := [.ref 102, .ref a1, .int a2, .int v1, .int t2]) (f_at inc_81 (j := 10) rfl) (Nat.le_of_ble_eq_true rfl) rfl rfl ?_
  refine i_aload_n (pc' := 21) (f_at inc_81 (j := 11) rfl) rfl rfl ?_
  refine i_getR (pc' := 24) (f_at inc_81 (j := 12) rfl) ha1.1 rfl (f_ltL ha1 hN 0 (Nat.le_of_ble_eq_true rfl)) rfl ?_
  refine i_iload_n (pc' := 25) (f_at inc_81 (j := 13) rfl) rfl rfl ?_
  refine i_iald (pc' := 26) (f_at inc_81 (j := 14) rfl) ha1.2.1 (f_bgL ha1 1 (Nat.le_of_ble_eq_true rfl)) (f_ltL ha1 hN 1 (Nat.le_of_ble_eq_true rfl)) rfl fun v3 => ?_
  refine i_iload (pc' := 28) (f_at inc_81 (j := 15) rfl) rfl rfl ?_
  refine s_join (J := 48) (fun (t4 : f_M) (u4 : Unit) => [.ref 102, .ref a1, .int a2, .int v1, .int t2]) (fun t4 => []) (fun t4 => t4) ?_ ?_
  · intro t4 u4
    exact i_vret (f_at inc_81 (j := 27) rfl) rfl
  · intro k4 hj4
    refine i_if2 (pc' := 41) (nx := 31) c2_lt (f_at inc_81 (j := 16) rfl) ⟨by decide, rfl⟩ (fun b7 => ?_) (fun b7 => ?_)
    · refine i_aload_n (pc' := 42) (f_at inc_81 (j := 22) rfl) rfl rfl ?_
      refine i_getR (pc' := 45) (f_at inc_81 (j := 23) rfl) ha1.1 rfl (f_ltL ha1 hN 0 (Nat.le_of_ble_eq_true rfl)) rfl ?_
      refine i_iload_n (pc' := 46) (f_at inc_81 (j := 24) rfl) rfl rfl ?_
      refine i_iconst (pc' := 47) (f_at inc_81 (j := 25) rfl) ci_1 rfl ?_
      refine i_bast (pc' := 48) (f_at inc_81 (j := 26) rfl) ha1.2.2.1 (Or.inr rfl) (by decide) (f_ltL ha1 hN 2 (Nat.le_of_ble_eq_true rfl)) rfl fun m5 => ?_
      exact hj4 m5 ()
    · refine i_aload_n (pc' := 32) (f_at inc_81 (j := 17) rfl) rfl rfl ?_
      refine i_iload_n (pc' := 33) (f_at inc_81 (j := 18) rfl) rfl rfl ?_
      refine i_iload (pc' := 35) (f_at inc_81 (j := 19) rfl) rfl rfl ?_
      refine c_wv (pc' := 38) (c' := 0) (n' := 0) (h_virt (ra := [.int t2, .int v1, .ref a1]) (r := []) (as := [.int v1, .int t2]) (f_at inc_81 (j := 20) rfl) (by decide) MT_80 rfl rfl rfl ⟨Nat.le_of_ble_eq_true rfl, Nat.le_of_ble_eq_true rfl, Nat.le_of_ble_eq_true rfl⟩ ha1.1 (f_ltL ha1 hN 0 (Nat.le_of_ble_eq_true rfl))) MT_80 (G_80 hN a1 v1 t2 ha1 σ) ⟨rfl, rfl, rfl⟩ fun t6 => ?_
      refine i_goto (pc' := 48) (f_at inc_81 (j := 21) rfl) (by decide) ?_
      exact hj4 t6 ()
set_option maxRecDepth 4000 in
def g_82 (a1 : Nat) (σ : f_M) : Option (f_M) :=
  if (σ a1 0) = 0 then (
   some σ
  ) else (
   if ((σ a1 0) - (σ a1 0) / (24 : Int32) * (24 : Int32)) = 0 then (
    (f_lp (fun (s1 : Int32 × f_M) =>
     if (s1.2 a1 3) ≤ s1.1 then (
      some (.inr s1.2)
     ) else (
      (g_76 a1 s1.1 s1.2).bind fun t2 =>
      (
       if t2 = false then (
        some s1.2
       ) else (
        (g_81 a1 s1.1 s1.2).bind fun t4 =>
        some t4
       )
      ).bind fun (t3 : f_M) =>
      some (.inl ((s1.1 + (1 : Int32)), t3))
     )
    ) f_F ((0 : Int32), σ)).bind fun (x1 : f_M) =>
    some x1
   ) else (
    some σ
   )
  )
set_option maxRecDepth 4000 in
theorem G_82 {xs : Nat → Int32} {L N : Nat} (hN : 155 ≤ N) (a1 : Nat) (ha1 : f_L a1) (σ : f_M) : f_Cal a_MT xs L N 82 [.ref 102, .ref a1] σ ((g_82 a1 σ).bind fun t => some (e_wv t)) := by
  refine f_cal_of (ls := [.ref 102, .ref a1, a_dead]) MT_82 (Nat.le_of_ble_eq_true rfl) rfl ?_
  unfold g_82
  refine i_aload_n (pc' := 1) (f_at inc_82 (j := 0) rfl) rfl rfl ?_
  refine i_getI (pc' := 4) (f_at inc_82 (j := 1) rfl) ha1.1 rfl (f_ltL ha1 hN 0 (Nat.le_of_ble_eq_true rfl)) rfl ?_
  refine i_if0 (pc' := 17) (nx := 7) c0_eq (f_at inc_82 (j := 2) rfl) ⟨by decide, rfl⟩ (fun b8 => ?_) (fun b8 => ?_)
  · exact i_vret (f_at inc_82 (j := 8) rfl) rfl
  · refine i_aload_n (pc' := 8) (f_at inc_82 (j := 3) rfl) rfl rfl ?_
    refine i_getI (pc' := 11) (f_at inc_82 (j := 4) rfl) ha1.1 rfl (f_ltL ha1 hN 0 (Nat.le_of_ble_eq_true rfl)) rfl ?_
    refine i_bipush (pc' := 13) (f_at inc_82 (j := 5) rfl) cb_24 rfl ?_
    refine i_irem (pc' := 14) (f_at inc_82 (j := 6) rfl) (by decide) rfl ?_
    refine i_if0 (pc' := 18) (nx := 17) c0_eq (f_at inc_82 (j := 7) rfl) ⟨by decide, rfl⟩ (fun b7 => ?_) (fun b7 => ?_)
    · refine i_iconst (pc' := 19) (f_at inc_82 (j := 9) rfl) ci_0 rfl ?_
      refine i_istore_n (pc' := 20) (ls' := [.ref 102, .ref a1, .int (0 : Int32)]) (f_at inc_82 (j := 10) rfl) (Nat.le_of_ble_eq_true rfl) rfl rfl ?_
      refine s_lX (X := 49) ((0 : Int32), σ) () (fun (s1 : Int32 × f_M) (u1 : Unit) => [.ref 102, .ref a1, .int s1.1]) (fun (s1 : Int32 × f_M) => s1.2) (fun (x1 : f_M) (w1 : Value) => [.ref 102, .ref a1, w1]) (fun (x1 : f_M) => x1) ?_ ?_
      · intro x1 w1
        exact i_vret (f_at inc_82 (j := 26) rfl) rfl
      · intro s1 u1 k1 hb1 hx1
        refine i_iload_n (pc' := 21) (f_at inc_82 (j := 11) rfl) rfl rfl ?_
        refine i_aload_n (pc' := 22) (f_at inc_82 (j := 12) rfl) rfl rfl ?_
        refine i_getI (pc' := 25) (f_at inc_82 (j := 13) rfl) ha1.1 rfl (f_ltL ha1 hN 0 (Nat.le_of_ble_eq_true rfl)) rfl ?_
        refine i_if2 (pc' := 49) (nx := 28) c2_ge (f_at inc_82 (j := 14) rfl) ⟨by decide, rfl⟩ (fun b6 => ?_) (fun b6 => ?_)
        · exact hx1 s1.2 (.int s1.1)
        · refine i_aload_n (pc' := 29) (f_at inc_82 (j := 15) rfl) rfl rfl ?_
          refine i_aload_n (pc' := 30) (f_at inc_82 (j := 16) rfl) rfl rfl ?_
          refine i_iload_n (pc' := 31) (f_at inc_82 (j := 17) rfl) rfl rfl ?_
          refine c_pb (pc' := 34) (c' := 0) (n' := 0) (h_virt (ra := [.int s1.1, .ref a1, .ref 102]) (r := []) (as := [.ref a1, .int s1.1]) (f_at inc_82 (j := 18) rfl) (by decide) MT_76 rfl rfl rfl ⟨Nat.le_of_ble_eq_true rfl, Nat.le_of_ble_eq_true rfl, Nat.le_of_ble_eq_true rfl⟩ sh_102 (f_lt (o := 102) (m := 155) (Nat.le_of_ble_eq_true rfl) hN)) MT_76 (G_76 hN a1 s1.1 ha1 s1.2) ⟨rfl, rfl, rfl⟩ fun t2 => ?_
          refine s_join (J := 43) (fun (t3 : f_M) (u3 : Unit) => [.ref 102, .ref a1, .int s1.1]) (fun t3 => []) (fun t3 => t3) ?_ ?_
          · intro t3 u3
            refine i_iinc (pc' := 46) (ls' := [.ref 102, .ref a1, .int (s1.1 + (1 : Int32))]) (f_at inc_82 (j := 24) rfl) rfl ci_1 rfl rfl ?_
            refine i_goto (pc' := 20) (f_at inc_82 (j := 25) rfl) (by decide) ?_
            exact hb1 ((s1.1 + (1 : Int32)), t3) ()
          · intro k3 hj3
            refine i_if0 (pc' := 43) (nx := 37) cb_eq (f_at inc_82 (j := 19) rfl) ⟨by decide, rfl⟩ (fun b5 => ?_) (fun b5 => ?_)
            · exact hj3 s1.2 ()
            · refine i_aload_n (pc' := 38) (f_at inc_82 (j := 20) rfl) rfl rfl ?_
              refine i_aload_n (pc' := 39) (f_at inc_82 (j := 21) rfl) rfl rfl ?_
              refine i_iload_n (pc' := 40) (f_at inc_82 (j := 22) rfl) rfl rfl ?_
              refine c_wv (pc' := 43) (c' := 0) (n' := 0) (h_virt (ra := [.int s1.1, .ref a1, .ref 102]) (r := []) (as := [.ref a1, .int s1.1]) (f_at inc_82 (j := 23) rfl) (by decide) MT_81 rfl rfl rfl ⟨Nat.le_of_ble_eq_true rfl, Nat.le_of_ble_eq_true rfl, Nat.le_of_ble_eq_true rfl⟩ sh_102 (f_lt (o := 102) (m := 155) (Nat.le_of_ble_eq_true rfl) hN)) MT_81 (G_81 hN a1 s1.1 ha1 s1.2) ⟨rfl, rfl, rfl⟩ fun t4 => ?_
              exact hj3 t4 ()
    · exact i_vret (f_at inc_82 (j := 8) rfl) rfl
set_option maxRecDepth 4000 in
def g_83 (a1 : Int32) (a2 : Int32) (σ : f_M) : Option (Bool) :=
  (f_rd σ 124 20 a1).bind fun v1 =>
  (
   if ¬ v1 = 0 then (
    some false
   ) else (
    (f_rd σ 120 20 a1).bind fun v3 =>
    if ¬ v3 = a2 then (
     some false
    ) else (
     some true
    )
   )
  ).bind fun (t2 : Bool) =>
  some t2
set_option maxRecDepth 4000 in
theorem G_83 {xs : Nat → Int32} {L N : Nat} (hN : 155 ≤ N) (a1 : Int32) (a2 : Int32)  (σ : f_M) : f_Cal a_MT xs L N 83 [.ref 102, .int a1, .int a2] σ ((g_83 a1 a2 σ).bind fun t => some (e_pb σ t)) := by
  refine f_cal_of (ls := [.ref 102, .int a1, .int a2]) MT_83 (Nat.le_of_ble_eq_true rfl) rfl ?_
  unfold g_83
  refine i_aload_n (pc' := 1) (f_at inc_83 (j := 0) rfl) rfl rfl ?_
  refine i_getR (pc' := 4) (f_at inc_83 (j := 1) rfl) sh_102 rfl (f_lt (o := 102) (m := 155) (Nat.le_of_ble_eq_true rfl) hN) rfl ?_
  refine i_getR (pc' := 7) (f_at inc_83 (j := 2) rfl) sh_121 rfl (f_lt (o := 121) (m := 155) (Nat.le_of_ble_eq_true rfl) hN) rfl ?_
  refine i_iload_n (pc' := 8) (f_at inc_83 (j := 3) rfl) rfl rfl ?_
  refine i_iald (pc' := 9) (f_at inc_83 (j := 4) rfl) sh_124 (f_bg (Nat.le_of_ble_eq_true rfl)) (f_lt (o := 124) (m := 155) (Nat.le_of_ble_eq_true rfl) hN) rfl fun v1 => ?_
  refine s_join (J := 30) (fun (t2 : Bool) (u2 : Unit) => [.ref 102, .int a1, .int a2]) (fun t2 => [.int (f_b t2)]) (fun t2 => σ) ?_ ?_
  · intro t2 u2
    exact i_iret (v := f_b t2) (f_at inc_83 (j := 16) rfl) rfl n_bool
  · intro k2 hj2
    refine i_if0 (pc' := 29) (nx := 12) c0_ne (f_at inc_83 (j := 5) rfl) ⟨by decide, rfl⟩ (fun b5 => ?_) (fun b5 => ?_)
    · refine i_iconst (pc' := 30) (f_at inc_83 (j := 15) rfl) ci_0 rfl ?_
      exact hj2 false ()
    · refine i_aload_n (pc' := 13) (f_at inc_83 (j := 6) rfl) rfl rfl ?_
      refine i_getR (pc' := 16) (f_at inc_83 (j := 7) rfl) sh_102 rfl (f_lt (o := 102) (m := 155) (Nat.le_of_ble_eq_true rfl) hN) rfl ?_
      refine i_getR (pc' := 19) (f_at inc_83 (j := 8) rfl) sh_108 rfl (f_lt (o := 108) (m := 155) (Nat.le_of_ble_eq_true rfl) hN) rfl ?_
      refine i_iload_n (pc' := 20) (f_at inc_83 (j := 9) rfl) rfl rfl ?_
      refine i_iald (pc' := 21) (f_at inc_83 (j := 10) rfl) sh_120 (f_bg (Nat.le_of_ble_eq_true rfl)) (f_lt (o := 120) (m := 155) (Nat.le_of_ble_eq_true rfl) hN) rfl fun v3 => ?_
      refine i_iload_n (pc' := 22) (f_at inc_83 (j := 11) rfl) rfl rfl ?_
      refine i_if2 (pc' := 29) (nx := 25) c2_ne (f_at inc_83 (j := 12) rfl) ⟨by decide, rfl⟩ (fun b4 => ?_) (fun b4 => ?_)
      · refine i_iconst (pc' := 30) (f_at inc_83 (j := 15) rfl) ci_0 rfl ?_
        exact hj2 false ()
      · refine i_iconst (pc' := 26) (f_at inc_83 (j := 13) rfl) ci_1 rfl ?_
        refine i_goto (pc' := 30) (f_at inc_83 (j := 14) rfl) (by decide) ?_
        exact hj2 true ()
set_option maxRecDepth 4000 in
def g_84 (a1 : Int32) (σ : f_M) : Option (Int32) :=
  (f_lp (fun (s1 : Int32) =>
   if (σ 121 5) ≤ s1 then (
    some (.inr (-1 : Int32))
   ) else (
    (g_83 s1 a1 σ).bind fun t2 =>
    if t2 = false then (
     some (.inl (s1 + (1 : Int32)))
    ) else (
     some (.inr s1)
    )
   )
  ) f_F (0 : Int32)).bind fun (r1 : Int32) => some r1
set_option maxRecDepth 4000 in
theorem G_84 {xs : Nat → Int32} {L N : Nat} (hN : 155 ≤ N) (a1 : Int32)  (σ : f_M) : f_Cal a_MT xs L N 84 [.ref 102, .int a1] σ ((g_84 a1 σ).bind fun t => some (e_pi σ t)) := by
  refine f_cal_of (ls := [.ref 102, .int a1, a_dead]) MT_84 (Nat.le_of_ble_eq_true rfl) rfl ?_
  unfold g_84
  refine i_iconst (pc' := 1) (f_at inc_84 (j := 0) rfl) ci_0 rfl ?_
  refine i_istore_n (pc' := 2) (ls' := [.ref 102, .int a1, .int (0 : Int32)]) (f_at inc_84 (j := 1) rfl) (Nat.le_of_ble_eq_true rfl) rfl rfl ?_
  refine s_lR (0 : Int32) () (fun (s1 : Int32) (u1 : Unit) => [.ref 102, .int a1, .int s1]) (fun (s1 : Int32) => σ) ?_
  intro s1 u1 k1 hb1 hr1
  refine i_iload_n (pc' := 3) (f_at inc_84 (j := 2) rfl) rfl rfl ?_
  refine i_aload_n (pc' := 4) (f_at inc_84 (j := 3) rfl) rfl rfl ?_
  refine i_getR (pc' := 7) (f_at inc_84 (j := 4) rfl) sh_102 rfl (f_lt (o := 102) (m := 155) (Nat.le_of_ble_eq_true rfl) hN) rfl ?_
  refine i_getI (pc' := 10) (f_at inc_84 (j := 5) rfl) sh_121 rfl (f_lt (o := 121) (m := 155) (Nat.le_of_ble_eq_true rfl) hN) rfl ?_
  refine i_if2 (pc' := 30) (nx := 13) c2_ge (f_at inc_84 (j := 6) rfl) ⟨by decide, rfl⟩ (fun b4 => ?_) (fun b4 => ?_)
  · refine i_iconst (pc' := 31) (f_at inc_84 (j := 16) rfl) ci_m1 rfl ?_
    refine s_rt (hr1 _) ?_
    exact i_iret (f_at inc_84 (j := 17) rfl) rfl n_int
  · refine i_aload_n (pc' := 14) (f_at inc_84 (j := 7) rfl) rfl rfl ?_
    refine i_iload_n (pc' := 15) (f_at inc_84 (j := 8) rfl) rfl rfl ?_
    refine i_iload_n (pc' := 16) (f_at inc_84 (j := 9) rfl) rfl rfl ?_
    refine c_pb (pc' := 19) (c' := 0) (n' := 0) (h_virt (ra := [.int a1, .int s1, .ref 102]) (r := []) (as := [.int s1, .int a1]) (f_at inc_84 (j := 10) rfl) (by decide) MT_83 rfl rfl rfl ⟨Nat.le_of_ble_eq_true rfl, Nat.le_of_ble_eq_true rfl, Nat.le_of_ble_eq_true rfl⟩ sh_102 (f_lt (o := 102) (m := 155) (Nat.le_of_ble_eq_true rfl) hN)) MT_83 (G_83 hN s1 a1 σ) ⟨rfl, rfl, rfl⟩ fun t2 => ?_
    refine i_if0 (pc' := 24) (nx := 22) cb_eq (f_at inc_84 (j := 11) rfl) ⟨by decide, rfl⟩ (fun b3 => ?_) (fun b3 => ?_)
    · refine i_iinc (pc' := 27) (ls' := [.ref 102, .int a1, .int (s1 + (1 : Int32))]) (f_at inc_84 (j := 14) rfl) rfl ci_1 rfl rfl ?_
      refine i_goto (pc' := 2) (f_at inc_84 (j := 15) rfl) (by decide) ?_
      exact hb1 (s1 + (1 : Int32)) ()
    · refine i_iload_n (pc' := 23) (f_at inc_84 (j := 12) rfl) rfl rfl ?_
      refine s_rt (hr1 _) ?_
      exact i_iret (f_at inc_84 (j := 13) rfl) rfl n_int
set_option maxRecDepth 4000 in
def g_85 (a0 : Int32) (σ : f_M) : Option (Int32) :=
  some ((2 : Int32) + a0)
set_option maxRecDepth 4000 in
theorem G_85 {xs : Nat → Int32} {L N : Nat} (hN : 155 ≤ N) (a0 : Int32)  (σ : f_M) : f_Cal a_MT xs L N 85 [.int a0] σ ((g_85 a0 σ).bind fun t => some (e_pi σ t)) := by
  refine f_cal_of (ls := [.int a0]) MT_85 (Nat.le_of_ble_eq_true rfl) rfl ?_
  unfold g_85
  refine i_iconst (pc' := 1) (f_at inc_85 (j := 0) rfl) ci_2 rfl ?_
  refine i_iload_n (pc' := 2) (f_at inc_85 (j := 1) rfl) rfl rfl ?_
  refine i_iadd (pc' := 3) (f_at inc_85 (j := 2) rfl) rfl ?_
  exact i_iret (f_at inc_85 (j := 3) rfl) rfl n_int
set_option maxRecDepth 4000 in
def g_86 (a1 : Int32) (a2 : Int32) (σ : f_M) : Option (Int32) :=
  (f_rd σ 114 20 a1).bind fun v1 =>
  (
   if v1 ≤ 0 then (
    some (0 : Int32)
   ) else (
    (f_rd σ 115 20 a1).bind fun v3 =>
    if v1 = 0 then none else
    some ((v3 * a2) / v1)
   )
  ).bind fun (t2 : Int32) =>
  some t2
set_option maxRecDepth 4000 in
theorem G_86 {xs : Nat → Int32} {L N : Nat} (hN : 155 ≤ N) (a1 : Int32) (a2 : Int32)  (σ : f_M) : f_Cal a_MT xs L N 86 [.ref 108, .int a1, .int a2] σ ((g_86 a1 a2 σ).bind fun t => some (e_pi σ t)) := by
  refine f_cal_of (ls := [.ref 108, .int a1, .int a2, a_dead]) MT_86 (Nat.le_of_ble_eq_true rfl) rfl ?_
  unfold g_86
  refine i_aload_n (pc' := 1) (f_at inc_86 (j := 0) rfl) rfl rfl ?_
  refine i_getR (pc' := 4) (f_at inc_86 (j := 1) rfl) sh_108 rfl (f_lt (o := 108) (m := 155) (Nat.le_of_ble_eq_true rfl) hN) rfl ?_
  refine i_iload_n (pc' := 5) (f_at inc_86 (j := 2) rfl) rfl rfl ?_
  refine i_iald (pc' := 6) (f_at inc_86 (j := 3) rfl) sh_114 (f_bg (Nat.le_of_ble_eq_true rfl)) (f_lt (o := 114) (m := 155) (Nat.le_of_ble_eq_true rfl) hN) rfl fun v1 => ?_
  refine i_istore_n (pc' := 7) (ls' := [.ref 108, .int a1, .int a2, .int v1]) (f_at inc_86 (j := 4) rfl) (Nat.le_of_ble_eq_true rfl) rfl rfl ?_
  refine i_iload_n (pc' := 8) (f_at inc_86 (j := 5) rfl) rfl rfl ?_
  refine s_join (J := 25) (fun (t2 : Int32) (u2 : Unit) => [.ref 108, .int a1, .int a2, .int v1]) (fun t2 => [.int t2]) (fun t2 => σ) ?_ ?_
  · intro t2 u2
    exact i_iret (f_at inc_86 (j := 17) rfl) rfl n_int
  · intro k2 hj2
    refine i_if0 (pc' := 24) (nx := 11) c0_le (f_at inc_86 (j := 6) rfl) ⟨by decide, rfl⟩ (fun b5 => ?_) (fun b5 => ?_)
    · refine i_iconst (pc' := 25) (f_at inc_86 (j := 16) rfl) ci_0 rfl ?_
      exact hj2 (0 : Int32) ()
    · refine i_aload_n (pc' := 12) (f_at inc_86 (j := 7) rfl) rfl rfl ?_
      refine i_getR (pc' := 15) (f_at inc_86 (j := 8) rfl) sh_108 rfl (f_lt (o := 108) (m := 155) (Nat.le_of_ble_eq_true rfl) hN) rfl ?_
      refine i_iload_n (pc' := 16) (f_at inc_86 (j := 9) rfl) rfl rfl ?_
      refine i_iald (pc' := 17) (f_at inc_86 (j := 10) rfl) sh_115 (f_bg (Nat.le_of_ble_eq_true rfl)) (f_lt (o := 115) (m := 155) (Nat.le_of_ble_eq_true rfl) hN) rfl fun v3 => ?_
      refine i_iload_n (pc' := 18) (f_at inc_86 (j := 11) rfl) rfl rfl ?_
      refine i_imul (pc' := 19) (f_at inc_86 (j := 12) rfl) rfl ?_
      refine i_iload_n (pc' := 20) (f_at inc_86 (j := 13) rfl) rfl rfl ?_
      refine i_grn fun h4 => ?_
      refine i_idiv (pc' := 21) (f_at inc_86 (j := 14) rfl) h4 rfl ?_
      refine i_goto (pc' := 25) (f_at inc_86 (j := 15) rfl) (by decide) ?_
      exact hj2 ((v3 * a2) / v1) ()
set_option maxRecDepth 4000 in
def g_87 (a1 : Int32) (a2 : Int32) (σ : f_M) : Option (Int32) :=
  (f_rd σ 118 20 a1).bind fun v1 =>
  (f_rd σ 115 20 a1).bind fun v2 =>
  (f_rd σ 115 20 a1).bind fun v3 =>
  some (f_min v2 ((v3 * (f_max (0 : Int32) (a2 - v1))) / (10 : Int32)))
set_option maxRecDepth 4000 in
theorem G_87 {xs : Nat → Int32} {L N : Nat} (hN : 155 ≤ N) (a1 : Int32) (a2 : Int32)  (σ : f_M) : f_Cal a_MT xs L N 87 [.ref 108, .int a1, .int a2] σ ((g_87 a1 a2 σ).bind fun t => some (e_pi σ t)) := by
  refine f_cal_of (ls := [.ref 108, .int a1, .int a2, a_dead]) MT_87 (Nat.le_of_ble_eq_true rfl) rfl ?_
  unfold g_87
  refine i_iconst (pc' := 1) (f_at inc_87 (j := 0) rfl) ci_0 rfl ?_
  refine i_iload_n (pc' := 2) (f_at inc_87 (j := 1) rfl) rfl rfl ?_
  refine i_aload_n (pc' := 3) (f_at inc_87 (j := 2) rfl) rfl rfl ?_
  refine i_getR (pc' := 6) (f_at inc_87 (j := 3) rfl) sh_108 rfl (f_lt (o := 108) (m := 155) (Nat.le_of_ble_eq_true rfl) hN) rfl ?_
  refine i_iload_n (pc' := 7) (f_at inc_87 (j := 4) rfl) rfl rfl ?_
  refine i_iald (pc' := 8) (f_at inc_87 (j := 5) rfl) sh_118 (f_bg (Nat.le_of_ble_eq_true rfl)) (f_lt (o := 118) (m := 155) (Nat.le_of_ble_eq_true rfl) hN) rfl fun v1 => ?_
  refine i_isub (pc' := 9) (f_at inc_87 (j := 6) rfl) rfl ?_
  refine i_max (pc' := 12) (f_at inc_87 (j := 7) rfl) (Nat.le_of_ble_eq_true rfl) rfl ?_
  refine i_istore_n (pc' := 13) (ls' := [.ref 108, .int a1, .int a2, .int (f_max (0 : Int32) (a2 - v1))]) (f_at inc_87 (j := 8) rfl) (Nat.le_of_ble_eq_true rfl) rfl rfl ?_
  refine i_aload_n (pc' := 14) (f_at inc_87 (j := 9) rfl) rfl rfl ?_
  refine i_getR (pc' := 17) (f_at inc_87 (j := 10) rfl) sh_108 rfl (f_lt (o := 108) (m := 155) (Nat.le_of_ble_eq_true rfl) hN) rfl ?_
  refine i_iload_n (pc' := 18) (f_at inc_87 (j := 11) rfl) rfl rfl ?_
  refine i_iald (pc' := 19) (f_at inc_87 (j := 12) rfl) sh_115 (f_bg (Nat.le_of_ble_eq_true rfl)) (f_lt (o := 115) (m := 155) (Nat.le_of_ble_eq_true rfl) hN) rfl fun v2 => ?_
  refine i_aload_n (pc' := 20) (f_at inc_87 (j := 13) rfl) rfl rfl ?_
  refine i_getR (pc' := 23) (f_at inc_87 (j := 14) rfl) sh_108 rfl (f_lt (o := 108) (m := 155) (Nat.le_of_ble_eq_true rfl) hN) rfl ?_
  refine i_iload_n (pc' := 24) (f_at inc_87 (j := 15) rfl) rfl rfl ?_
  refine i_iald (pc' := 25) (f_at inc_87 (j := 16) rfl) sh_115 (f_bg (Nat.le_of_ble_eq_true rfl)) (f_lt (o := 115) (m := 155) (Nat.le_of_ble_eq_true rfl) hN) rfl fun v3 => ?_
  refine i_iload_n (pc' := 26) (f_at inc_87 (j := 17) rfl) rfl rfl ?_
  refine i_imul (pc' := 27) (f_at inc_87 (j := 18) rfl) rfl ?_
  refine i_bipush (pc' := 29) (f_at inc_87 (j := 19) rfl) cb_10 rfl ?_
  refine i_idiv (pc' := 30) (f_at inc_87 (j := 20) rfl) (by decide) rfl ?_
  refine i_min (pc' := 33) (f_at inc_87 (j := 21) rfl) (Nat.le_of_ble_eq_true rfl) rfl ?_
  exact i_iret (f_at inc_87 (j := 22) rfl) rfl n_int
set_option maxRecDepth 4000 in
def g_88 (a1 : Int32) (a2 : Int32) (σ : f_M) : Option (Int32) :=
  (g_75 a1 σ).bind fun t1 =>
  (f_rd σ 113 20 a1).bind fun v2 =>
  (f_lp (fun (s3 : Int32 × Int32 × Int32) =>
   if (f_min a2 t1) ≤ s3.2.2 then (
    some (.inr (s3.1, s3.2.1))
   ) else (
    (f_rd σ 109 1000 s3.2.2).bind fun v4 =>
    (f_rd σ 116 20 a1).bind fun v5 =>
    (
     if v4 < v5 then (
      some (s3.1 + (1 : Int32))
     ) else (
      (f_rd σ 109 1000 s3.2.2).bind fun v7 =>
      (f_rd σ 117 20 a1).bind fun v8 =>
      if v7 ≤ v8 then (
       some s3.1
      ) else (
       some (s3.1 + (1 : Int32))
      )
     )
    ).bind fun (t6 : Int32) =>
    (f_rd σ 110 1000 s3.2.2).bind fun v11 =>
    some (.inl (t6, (s3.2.1 + v11), (s3.2.2 + (1 : Int32))))
   )
  ) f_F ((0 : Int32), (0 : Int32), v2)).bind fun (x3 : Int32 × Int32) =>
  (f_rd σ 111 20 a1).bind fun v13 =>
  (
   if v13 = 0 then (
    (g_87 a1 x3.2 σ).bind fun t15 =>
    some t15
   ) else (
    (g_86 a1 x3.1 σ).bind fun t16 =>
    some t16
   )
  ).bind fun (t14 : Int32) =>
  some t14
set_option maxRecDepth 4000 in
theorem G_88 {xs : Nat → Int32} {L N : Nat} (hN : 155 ≤ N) (a1 : Int32) (a2 : Int32)  (σ : f_M) : f_Cal a_MT xs L N 88 [.ref 108, .int a1, .int a2] σ ((g_88 a1 a2 σ).bind fun t => some (e_pi σ t)) := by
  refine f_cal_of (ls := [.ref 108, .int a1, .int a2, a_dead, a_dead, a_dead, a_dead]) MT_88 (Nat.le_of_ble_eq_true rfl) rfl ?_
  unfold g_88
  refine i_iload_n (pc' := 1) (f_at inc_88 (j := 0) rfl) rfl rfl ?_
  refine i_aload_n (pc' := 2) (f_at inc_88 (j := 1) rfl) rfl rfl ?_
  refine i_iload_n (pc' := 3) (f_at inc_88 (j := 2) rfl) rfl rfl ?_
  refine c_pi (pc' := 6) (c' := 0) (n' := 0) (h_virt (ra := [.int a1, .ref 108]) (r := [.int a2]) (as := [.int a1]) (f_at inc_88 (j := 3) rfl) (by decide) MT_75 rfl rfl rfl ⟨Nat.le_of_ble_eq_true rfl, Nat.le_of_ble_eq_true rfl, Nat.le_of_ble_eq_true rfl⟩ sh_108 (f_lt (o := 108) (m := 155) (Nat.le_of_ble_eq_true rfl) hN)) MT_75 (G_75 hN a1 σ) ⟨rfl, rfl, rfl⟩ fun t1 => ?_
  refine i_min (pc' := 9) (f_at inc_88 (j := 4) rfl) (Nat.le_of_ble_eq_true rfl) rfl ?_
  refine i_istore_n (pc' := 10) (ls' := [.ref 108, .int a1, .int a2, .int (f_min a2 t1), a_dead, a_dead, a_dead]) (f_at inc_88 (j := 5) rfl) (Nat.le_of_ble_eq_true rfl) rfl rfl ?_
  refine i_iconst (pc' := 11) (f_at inc_88 (j := 6) rfl) ci_0 rfl ?_
  refine i_istore (pc' := 13) (ls' := [.ref 108, .int a1, .int a2, .int (f_min a2 t1), .int (0 : Int32), a_dead, a_dead]) (f_at inc_88 (j := 7) rfl) (Nat.le_of_ble_eq_true rfl) rfl rfl ?_
  refine i_iconst (pc' := 14) (f_at inc_88 (j := 8) rfl) ci_0 rfl ?_
  refine i_istore (pc' := 16) (ls' := [.ref 108, .int a1, .int a2, .int (f_min a2 t1), .int (0 : Int32), .int (0 : Int32), a_dead]) (f_at inc_88 (j := 9) rfl) (Nat.le_of_ble_eq_true rfl) rfl rfl ?_
  refine i_aload_n (pc' := 17) (f_at inc_88 (j := 10) rfl) rfl rfl ?_
  refine i_getR (pc' := 20) (f_at inc_88 (j := 11) rfl) sh_108 rfl (f_lt (o := 108) (m := 155) (Nat.le_of_ble_eq_true rfl) hN) rfl ?_
  refine i_iload_n (pc' := 21) (f_at inc_88 (j := 12) rfl) rfl rfl ?_
  refine i_iald (pc' := 22) (f_at inc_88 (j := 13) rfl) sh_113 (f_bg (Nat.le_of_ble_eq_true rfl)) (f_lt (o := 113) (m := 155) (Nat.le_of_ble_eq_true rfl) hN) rfl fun v2 => ?_
  refine i_istore (pc' := 24) (ls' := [.ref 108, .int a1, .int a2, .int (f_min a2 t1), .int (0 : Int32), .int (0 : Int32), .int v2]) (f_at inc_88 (j := 14) rfl) (Nat.le_of_ble_eq_true rfl) rfl rfl ?_
  refine s_lX (X := 83) ((0 : Int32), (0 : Int32), v2) () (fun (s3 : Int32 × Int32 × Int32) (u3 : Unit) => [.ref 108, .int a1, .int a2, .int (f_min a2 t1), .int s3.1, .int s3.2.1, .int s3.2.2]) (fun (s3 : Int32 × Int32 × Int32) => σ) (fun (x3 : Int32 × Int32) (w3 : Value) => [.ref 108, .int a1, .int a2, .int (f_min a2 t1), .int x3.1, .int x3.2, w3]) (fun (x3 : Int32 × Int32) => σ) ?_ ?_
  · intro x3 w3
    refine i_aload_n (pc' := 84) (f_at inc_88 (j := 46) rfl) rfl rfl ?_
    refine i_getR (pc' := 87) (f_at inc_88 (j := 47) rfl) sh_108 rfl (f_lt (o := 108) (m := 155) (Nat.le_of_ble_eq_true rfl) hN) rfl ?_
    refine i_iload_n (pc' := 88) (f_at inc_88 (j := 48) rfl) rfl rfl ?_
    refine i_bald (pc' := 89) (f_at inc_88 (j := 49) rfl) sh_111 (Or.inr rfl) (f_bg (Nat.le_of_ble_eq_true rfl)) (f_lt (o := 111) (m := 155) (Nat.le_of_ble_eq_true rfl) hN) rfl fun v13 => ?_
    refine s_join (J := 109) (fun (t14 : Int32) (u14 : Unit) => [.ref 108, .int a1, .int a2, .int (f_min a2 t1), .int x3.1, .int x3.2, w3]) (fun t14 => [.int t14]) (fun t14 => σ) ?_ ?_
    · intro t14 u14
      exact i_iret (f_at inc_88 (j := 60) rfl) rfl n_int
    · intro k14 hj14
      refine i_if0 (pc' := 102) (nx := 92) c0_eq (f_at inc_88 (j := 50) rfl) ⟨by decide, rfl⟩ (fun b17 => ?_) (fun b17 => ?_)
      · refine i_aload_n (pc' := 103) (f_at inc_88 (j := 56) rfl) rfl rfl ?_
        refine i_iload_n (pc' := 104) (f_at inc_88 (j := 57) rfl) rfl rfl ?_
        refine i_iload (pc' := 106) (f_at inc_88 (j := 58) rfl) rfl rfl ?_
        refine c_pi (pc' := 109) (c' := 0) (n' := 0) (h_virt (ra := [.int x3.2, .int a1, .ref 108]) (r := []) (as := [.int a1, .int x3.2]) (f_at inc_88 (j := 59) rfl) (by decide) MT_87 rfl rfl rfl ⟨Nat.le_of_ble_eq_true rfl, Nat.le_of_ble_eq_true rfl, Nat.le_of_ble_eq_true rfl⟩ sh_108 (f_lt (o := 108) (m := 155) (Nat.le_of_ble_eq_true rfl) hN)) MT_87 (G_87 hN a1 x3.2 σ) ⟨rfl, rfl, rfl⟩ fun t15 => ?_
        exact hj14 t15 ()
      · refine i_aload_n (pc' := 93) (f_at inc_88 (j := 51) rfl) rfl rfl ?_
        refine i_iload_n (pc' := 94) (f_at inc_88 (j := 52) rfl) rfl rfl ?_
        refine i_iload (pc' := 96) (f_at inc_88 (j := 53) rfl) rfl rfl ?_
        refine c_pi (pc' := 99) (c' := 0) (n' := 0) (h_virt (ra := [.int x3.1, .int a1, .ref 108]) (r := []) (as := [.int a1, .int x3.1]) (f_at inc_88 (j := 54) rfl) (by decide) MT_86 rfl rfl rfl ⟨Nat.le_of_ble_eq_true rfl, Nat.le_of_ble_eq_true rfl, Nat.le_of_ble_eq_true rfl⟩ sh_108 (f_lt (o := 108) (m := 155) (Nat.le_of_ble_eq_true rfl) hN)) MT_86 (G_86 hN a1 x3.1 σ) ⟨rfl, rfl, rfl⟩ fun t16 => ?_
        refine i_goto (pc' := 109) (f_at inc_88 (j := 55) rfl) (by decide) ?_
        exact hj14 t16 ()
  · intro s3 u3 k3 hb3 hx3
    refine i_iload (pc' := 26) (f_at inc_88 (j := 15) rfl) rfl rfl ?_
    refine i_iload_n (pc' := 27) (f_at inc_88 (j := 16) rfl) rfl rfl ?_
    refine i_if2 (pc' := 83) (nx := 30) c2_ge (f_at inc_88 (j := 17) rfl) ⟨by decide, rfl⟩ (fun b12 => ?_) (fun b12 => ?_)
    · exact hx3 (s3.1, s3.2.1) (.int s3.2.2)
    · refine i_aload_n (pc' := 31) (f_at inc_88 (j := 18) rfl) rfl rfl ?_
      refine i_getR (pc' := 34) (f_at inc_88 (j := 19) rfl) sh_108 rfl (f_lt (o := 108) (m := 155) (Nat.le_of_ble_eq_true rfl) hN) rfl ?_
      refine i_iload (pc' := 36) (f_at inc_88 (j := 20) rfl) rfl rfl ?_
      refine i_iald (pc' := 37) (f_at inc_88 (j := 21) rfl) sh_109 (f_bg (Nat.le_of_ble_eq_true rfl)) (f_lt (o := 109) (m := 155) (Nat.le_of_ble_eq_true rfl) hN) rfl fun v4 => ?_
      refine i_aload_n (pc' := 38) (f_at inc_88 (j := 22) rfl) rfl rfl ?_
      refine i_getR (pc' := 41) (f_at inc_88 (j := 23) rfl) sh_108 rfl (f_lt (o := 108) (m := 155) (Nat.le_of_ble_eq_true rfl) hN) rfl ?_
      refine i_iload_n (pc' := 42) (f_at inc_88 (j := 24) rfl) rfl rfl ?_
      refine i_iald (pc' := 43) (f_at inc_88 (j := 25) rfl) sh_116 (f_bg (Nat.le_of_ble_eq_true rfl)) (f_lt (o := 116) (m := 155) (Nat.le_of_ble_eq_true rfl) hN) rfl fun v5 => ?_
      refine s_join (J := 65) (fun (t6 : Int32) (u6 : Unit) => [.ref 108, .int a1, .int a2, .int (f_min a2 t1), .int t6, .int s3.2.1, .int s3.2.2]) (fun t6 => []) (fun t6 => σ) ?_ ?_
      · intro t6 u6
        refine i_iload (pc' := 67) (f_at inc_88 (j := 37) rfl) rfl rfl ?_
        refine i_aload_n (pc' := 68) (f_at inc_88 (j := 38) rfl) rfl rfl ?_
        refine i_getR (pc' := 71) (f_at inc_88 (j := 39) rfl) sh_108 rfl (f_lt (o := 108) (m := 155) (Nat.le_of_ble_eq_true rfl) hN) rfl ?_
        refine i_iload (pc' := 73) (f_at inc_88 (j := 40) rfl) rfl rfl ?_
        refine i_iald (pc' := 74) (f_at inc_88 (j := 41) rfl) sh_110 (f_bg (Nat.le_of_ble_eq_true rfl)) (f_lt (o := 110) (m := 155) (Nat.le_of_ble_eq_true rfl) hN) rfl fun v11 => ?_
        refine i_iadd (pc' := 75) (f_at inc_88 (j := 42) rfl) rfl ?_
        refine i_istore (pc' := 77) (ls' := [.ref 108, .int a1, .int a2, .int (f_min a2 t1), .int t6, .int (s3.2.1 + v11), .int s3.2.2]) (f_at inc_88 (j := 43) rfl) (Nat.le_of_ble_eq_true rfl) rfl rfl ?_
        refine i_iinc (pc' := 80) (ls' := [.ref 108, .int a1, .int a2, .int (f_min a2 t1), .int t6, .int (s3.2.1 + v11), .int (s3.2.2 + (1 : Int32))]) (f_at inc_88 (j := 44) rfl) rfl ci_1 rfl rfl ?_
        refine i_goto (pc' := 24) (f_at inc_88 (j := 45) rfl) (by decide) ?_
        exact hb3 (t6, (s3.2.1 + v11), (s3.2.2 + (1 : Int32))) ()
      · intro k6 hj6
        refine i_if2 (pc' := 62) (nx := 46) c2_lt (f_at inc_88 (j := 26) rfl) ⟨by decide, rfl⟩ (fun b10 => ?_) (fun b10 => ?_)
        · refine i_iinc (pc' := 65) (ls' := [.ref 108, .int a1, .int a2, .int (f_min a2 t1), .int (s3.1 + (1 : Int32)), .int s3.2.1, .int s3.2.2]) (f_at inc_88 (j := 36) rfl) rfl ci_1 rfl rfl ?_
          exact hj6 (s3.1 + (1 : Int32)) ()
        · refine i_aload_n (pc' := 47) (f_at inc_88 (j := 27) rfl) rfl rfl ?_
          refine i_getR (pc' := 50) (f_at inc_88 (j := 28) rfl) sh_108 rfl (f_lt (o := 108) (m := 155) (Nat.le_of_ble_eq_true rfl) hN) rfl ?_
          refine i_iload (pc' := 52) (f_at inc_88 (j := 29) rfl) rfl rfl ?_
          refine i_iald (pc' := 53) (f_at inc_88 (j := 30) rfl) sh_109 (f_bg (Nat.le_of_ble_eq_true rfl)) (f_lt (o := 109) (m := 155) (Nat.le_of_ble_eq_true rfl) hN) rfl fun v7 => ?_
          refine i_aload_n (pc' := 54) (f_at inc_88 (j := 31) rfl) rfl rfl ?_
          refine i_getR (pc' := 57) (f_at inc_88 (j := 32) rfl) sh_108 rfl (f_lt (o := 108) (m := 155) (Nat.le_of_ble_eq_true rfl) hN) rfl ?_
          refine i_iload_n (pc' := 58) (f_at inc_88 (j := 33) rfl) rfl rfl ?_
          refine i_iald (pc' := 59) (f_at inc_88 (j := 34) rfl) sh_117 (f_bg (Nat.le_of_ble_eq_true rfl)) (f_lt (o := 117) (m := 155) (Nat.le_of_ble_eq_true rfl) hN) rfl fun v8 => ?_
          refine i_if2 (pc' := 65) (nx := 62) c2_le (f_at inc_88 (j := 35) rfl) ⟨by decide, rfl⟩ (fun b9 => ?_) (fun b9 => ?_)
          · exact hj6 s3.1 ()
          · refine i_iinc (pc' := 65) (ls' := [.ref 108, .int a1, .int a2, .int (f_min a2 t1), .int (s3.1 + (1 : Int32)), .int s3.2.1, .int s3.2.2]) (f_at inc_88 (j := 36) rfl) rfl ci_1 rfl rfl ?_
            exact hj6 (s3.1 + (1 : Int32)) ()
set_option maxRecDepth 4000 in
def g_89 (a1 : Int32) (a2 : Int32) (σ : f_M) : Option (f_M) :=
  (f_wr σ 126 20 a1 a2).bind fun m1 =>
  if ¬ a2 = 0 then (
   (f_wr m1 124 20 a1 (2 : Int32)).bind fun m2 =>
   (f_wr m2 127 20 (m2 121 10) a1).bind fun m3 =>
   some (f_up m3 121 10 ((m3 121 10) + (1 : Int32)))
  ) else (
   (f_wr m1 124 20 a1 (1 : Int32)).bind fun m4 =>
   some m4
  )
set_option maxRecDepth 4000 in
theorem G_89 {xs : Nat → Int32} {L N : Nat} (hN : 155 ≤ N) (a1 : Int32) (a2 : Int32)  (σ : f_M) : f_Cal a_MT xs L N 89 [.ref 121, .int a1, .int a2] σ ((g_89 a1 a2 σ).bind fun t => some (e_wv t)) := by
  refine f_cal_of (ls := [.ref 121, .int a1, .int a2]) MT_89 (Nat.le_of_ble_eq_true rfl) rfl ?_
  unfold g_89
  refine i_aload_n (pc' := 1) (f_at inc_89 (j := 0) rfl) rfl rfl ?_
  refine i_getR (pc' := 4) (f_at inc_89 (j := 1) rfl) sh_121 rfl (f_lt (o := 121) (m := 155) (Nat.le_of_ble_eq_true rfl) hN) rfl ?_
  refine i_iload_n (pc' := 5) (f_at inc_89 (j := 2) rfl) rfl rfl ?_
  refine i_iload_n (pc' := 6) (f_at inc_89 (j := 3) rfl) rfl rfl ?_
  refine i_iast (pc' := 7) (f_at inc_89 (j := 4) rfl) sh_126 (f_lt (o := 126) (m := 155) (Nat.le_of_ble_eq_true rfl) hN) rfl fun m1 => ?_
  refine i_iload_n (pc' := 8) (f_at inc_89 (j := 5) rfl) rfl rfl ?_
  refine i_if0 (pc' := 19) (nx := 11) c0_ne (f_at inc_89 (j := 6) rfl) ⟨by decide, rfl⟩ (fun b5 => ?_) (fun b5 => ?_)
  · refine i_aload_n (pc' := 20) (f_at inc_89 (j := 13) rfl) rfl rfl ?_
    refine i_getR (pc' := 23) (f_at inc_89 (j := 14) rfl) sh_121 rfl (f_lt (o := 121) (m := 155) (Nat.le_of_ble_eq_true rfl) hN) rfl ?_
    refine i_iload_n (pc' := 24) (f_at inc_89 (j := 15) rfl) rfl rfl ?_
    refine i_iconst (pc' := 25) (f_at inc_89 (j := 16) rfl) ci_2 rfl ?_
    refine i_iast (pc' := 26) (f_at inc_89 (j := 17) rfl) sh_124 (f_lt (o := 124) (m := 155) (Nat.le_of_ble_eq_true rfl) hN) rfl fun m2 => ?_
    refine i_aload_n (pc' := 27) (f_at inc_89 (j := 18) rfl) rfl rfl ?_
    refine i_getR (pc' := 30) (f_at inc_89 (j := 19) rfl) sh_121 rfl (f_lt (o := 121) (m := 155) (Nat.le_of_ble_eq_true rfl) hN) rfl ?_
    refine i_aload_n (pc' := 31) (f_at inc_89 (j := 20) rfl) rfl rfl ?_
    refine i_getI (pc' := 34) (f_at inc_89 (j := 21) rfl) sh_121 rfl (f_lt (o := 121) (m := 155) (Nat.le_of_ble_eq_true rfl) hN) rfl ?_
    refine i_iload_n (pc' := 35) (f_at inc_89 (j := 22) rfl) rfl rfl ?_
    refine i_iast (pc' := 36) (f_at inc_89 (j := 23) rfl) sh_127 (f_lt (o := 127) (m := 155) (Nat.le_of_ble_eq_true rfl) hN) rfl fun m3 => ?_
    refine i_aload_n (pc' := 37) (f_at inc_89 (j := 24) rfl) rfl rfl ?_
    refine i_dup (pc' := 38) (f_at inc_89 (j := 25) rfl) rfl rfl ?_
    refine i_getI (pc' := 41) (f_at inc_89 (j := 26) rfl) sh_121 rfl (f_lt (o := 121) (m := 155) (Nat.le_of_ble_eq_true rfl) hN) rfl ?_
    refine i_iconst (pc' := 42) (f_at inc_89 (j := 27) rfl) ci_1 rfl ?_
    refine i_iadd (pc' := 43) (f_at inc_89 (j := 28) rfl) rfl ?_
    refine i_putI (pc' := 46) (f_at inc_89 (j := 29) rfl) sh_121 rfl ⟨rfl, rfl⟩ (f_lt (o := 121) (m := 155) (Nat.le_of_ble_eq_true rfl) hN) rfl ?_
    exact i_vret (f_at inc_89 (j := 30) rfl) rfl
  · refine i_aload_n (pc' := 12) (f_at inc_89 (j := 7) rfl) rfl rfl ?_
    refine i_getR (pc' := 15) (f_at inc_89 (j := 8) rfl) sh_121 rfl (f_lt (o := 121) (m := 155) (Nat.le_of_ble_eq_true rfl) hN) rfl ?_
    refine i_iload_n (pc' := 16) (f_at inc_89 (j := 9) rfl) rfl rfl ?_
    refine i_iconst (pc' := 17) (f_at inc_89 (j := 10) rfl) ci_1 rfl ?_
    refine i_iast (pc' := 18) (f_at inc_89 (j := 11) rfl) sh_124 (f_lt (o := 124) (m := 155) (Nat.le_of_ble_eq_true rfl) hN) rfl fun m4 => ?_
    exact i_vret (f_at inc_89 (j := 12) rfl) rfl
set_option maxRecDepth 4000 in
def g_90 (a1 : Int32) (a2 : Int32) (σ : f_M) : Option (Bool × f_M) :=
  (f_rd σ 125 20 a1).bind fun v1 =>
  (f_wr σ 125 20 a1 (v1 + (1 : Int32))).bind fun m2 =>
  (f_rd m2 125 20 a1).bind fun v3 =>
  (g_85 a2 m2).bind fun t4 =>
  if t4 ≤ v3 then (
   (f_rd m2 119 20 a1).bind fun v5 =>
   (g_88 v5 (m2 121 0) m2).bind fun t6 =>
   (g_89 a1 (t6 - (((t6 * (5 : Int32)) * a2) / (100 : Int32))) m2).bind fun t7 =>
   some (true, t7)
  ) else (
   some (false, m2)
  )
set_option maxRecDepth 4000 in
theorem G_90 {xs : Nat → Int32} {L N : Nat} (hN : 155 ≤ N) (a1 : Int32) (a2 : Int32)  (σ : f_M) : f_Cal a_MT xs L N 90 [.ref 102, .int a1, .int a2] σ ((g_90 a1 a2 σ).bind fun t => some (e_wb t)) := by
  refine f_cal_of (ls := [.ref 102, .int a1, .int a2, a_dead]) MT_90 (Nat.le_of_ble_eq_true rfl) rfl ?_
  unfold g_90
  refine i_aload_n (pc' := 1) (f_at inc_90 (j := 0) rfl) rfl rfl ?_
  refine i_getR (pc' := 4) (f_at inc_90 (j := 1) rfl) sh_102 rfl (f_lt (o := 102) (m := 155) (Nat.le_of_ble_eq_true rfl) hN) rfl ?_
  refine i_getR (pc' := 7) (f_at inc_90 (j := 2) rfl) sh_121 rfl (f_lt (o := 121) (m := 155) (Nat.le_of_ble_eq_true rfl) hN) rfl ?_
  refine i_iload_n (pc' := 8) (f_at inc_90 (j := 3) rfl) rfl rfl ?_
  refine i_dup2 (pc' := 9) (f_at inc_90 (j := 4) rfl) ⟨rfl, rfl⟩ rfl ?_
  refine i_iald (pc' := 10) (f_at inc_90 (j := 5) rfl) sh_125 (f_bg (Nat.le_of_ble_eq_true rfl)) (f_lt (o := 125) (m := 155) (Nat.le_of_ble_eq_true rfl) hN) rfl fun v1 => ?_
  refine i_iconst (pc' := 11) (f_at inc_90 (j := 6) rfl) ci_1 rfl ?_
  refine i_iadd (pc' := 12) (f_at inc_90 (j := 7) rfl) rfl ?_
  refine i_iast (pc' := 13) (f_at inc_90 (j := 8) rfl) sh_125 (f_lt (o := 125) (m := 155) (Nat.le_of_ble_eq_true rfl) hN) rfl fun m2 => ?_
  refine i_aload_n (pc' := 14) (f_at inc_90 (j := 9) rfl) rfl rfl ?_
  refine i_getR (pc' := 17) (f_at inc_90 (j := 10) rfl) sh_102 rfl (f_lt (o := 102) (m := 155) (Nat.le_of_ble_eq_true rfl) hN) rfl ?_
  refine i_getR (pc' := 20) (f_at inc_90 (j := 11) rfl) sh_121 rfl (f_lt (o := 121) (m := 155) (Nat.le_of_ble_eq_true rfl) hN) rfl ?_
  refine i_iload_n (pc' := 21) (f_at inc_90 (j := 12) rfl) rfl rfl ?_
  refine i_iald (pc' := 22) (f_at inc_90 (j := 13) rfl) sh_125 (f_bg (Nat.le_of_ble_eq_true rfl)) (f_lt (o := 125) (m := 155) (Nat.le_of_ble_eq_true rfl) hN) rfl fun v3 => ?_
  refine i_iload_n (pc' := 23) (f_at inc_90 (j := 14) rfl) rfl rfl ?_
  refine c_pi (pc' := 26) (c' := 0) (n' := 0) (h_stat (ra := [.int a2]) (r := [.int v3]) (as := [.int a2]) (f_at inc_90 (j := 15) rfl) (by decide) MT_85 rfl rfl rfl ⟨Nat.le_of_ble_eq_true rfl, Nat.le_of_ble_eq_true rfl, Nat.le_of_ble_eq_true rfl⟩) MT_85 (G_85 hN a2 m2) ⟨rfl, rfl, rfl⟩ fun t4 => ?_
  refine i_if2 (pc' := 31) (nx := 29) c2_ge (f_at inc_90 (j := 16) rfl) ⟨by decide, rfl⟩ (fun b8 => ?_) (fun b8 => ?_)
  · refine i_aload_n (pc' := 32) (f_at inc_90 (j := 19) rfl) rfl rfl ?_
    refine i_getR (pc' := 35) (f_at inc_90 (j := 20) rfl) sh_102 rfl (f_lt (o := 102) (m := 155) (Nat.le_of_ble_eq_true rfl) hN) rfl ?_
    refine i_aload_n (pc' := 36) (f_at inc_90 (j := 21) rfl) rfl rfl ?_
    refine i_getR (pc' := 39) (f_at inc_90 (j := 22) rfl) sh_102 rfl (f_lt (o := 102) (m := 155) (Nat.le_of_ble_eq_true rfl) hN) rfl ?_
    refine i_getR (pc' := 42) (f_at inc_90 (j := 23) rfl) sh_108 rfl (f_lt (o := 108) (m := 155) (Nat.le_of_ble_eq_true rfl) hN) rfl ?_
    refine i_iload_n (pc' := 43) (f_at inc_90 (j := 24) rfl) rfl rfl ?_
    refine i_iald (pc' := 44) (f_at inc_90 (j := 25) rfl) sh_119 (f_bg (Nat.le_of_ble_eq_true rfl)) (f_lt (o := 119) (m := 155) (Nat.le_of_ble_eq_true rfl) hN) rfl fun v5 => ?_
    refine i_aload_n (pc' := 45) (f_at inc_90 (j := 26) rfl) rfl rfl ?_
    refine i_getR (pc' := 48) (f_at inc_90 (j := 27) rfl) sh_102 rfl (f_lt (o := 102) (m := 155) (Nat.le_of_ble_eq_true rfl) hN) rfl ?_
    refine i_getI (pc' := 51) (f_at inc_90 (j := 28) rfl) sh_121 rfl (f_lt (o := 121) (m := 155) (Nat.le_of_ble_eq_true rfl) hN) rfl ?_
    refine c_pi (pc' := 54) (c' := 0) (n' := 0) (h_virt (ra := [.int (m2 121 0), .int v5, .ref 108]) (r := []) (as := [.int v5, .int (m2 121 0)]) (f_at inc_90 (j := 29) rfl) (by decide) MT_88 rfl rfl rfl ⟨Nat.le_of_ble_eq_true rfl, Nat.le_of_ble_eq_true rfl, Nat.le_of_ble_eq_true rfl⟩ sh_108 (f_lt (o := 108) (m := 155) (Nat.le_of_ble_eq_true rfl) hN)) MT_88 (G_88 hN v5 (m2 121 0) m2) ⟨rfl, rfl, rfl⟩ fun t6 => ?_
    refine i_istore_n (pc' := 55) (ls' := [.ref 102, .int a1, .int a2, .int t6]) (f_at inc_90 (j := 30) rfl) (Nat.le_of_ble_eq_true rfl) rfl rfl ?_
    refine i_aload_n (pc' := 56) (f_at inc_90 (j := 31) rfl) rfl rfl ?_
    refine i_getR (pc' := 59) (f_at inc_90 (j := 32) rfl) sh_102 rfl (f_lt (o := 102) (m := 155) (Nat.le_of_ble_eq_true rfl) hN) rfl ?_
    refine i_iload_n (pc' := 60) (f_at inc_90 (j := 33) rfl) rfl rfl ?_
    refine i_iload_n (pc' := 61) (f_at inc_90 (j := 34) rfl) rfl rfl ?_
    refine i_iload_n (pc' := 62) (f_at inc_90 (j := 35) rfl) rfl rfl ?_
    refine i_iconst (pc' := 63) (f_at inc_90 (j := 36) rfl) ci_5 rfl ?_
    refine i_imul (pc' := 64) (f_at inc_90 (j := 37) rfl) rfl ?_
    refine i_iload_n (pc' := 65) (f_at inc_90 (j := 38) rfl) rfl rfl ?_
    refine i_imul (pc' := 66) (f_at inc_90 (j := 39) rfl) rfl ?_
    refine i_bipush (pc' := 68) (f_at inc_90 (j := 40) rfl) cb_100 rfl ?_
    refine i_idiv (pc' := 69) (f_at inc_90 (j := 41) rfl) (by decide) rfl ?_
    refine i_isub (pc' := 70) (f_at inc_90 (j := 42) rfl) rfl ?_
    refine c_wv (pc' := 73) (c' := 0) (n' := 0) (h_virt (ra := [.int (t6 - (((t6 * (5 : Int32)) * a2) / (100 : Int32))), .int a1, .ref 121]) (r := []) (as := [.int a1, .int (t6 - (((t6 * (5 : Int32)) * a2) / (100 : Int32)))]) (f_at inc_90 (j := 43) rfl) (by decide) MT_89 rfl rfl rfl ⟨Nat.le_of_ble_eq_true rfl, Nat.le_of_ble_eq_true rfl, Nat.le_of_ble_eq_true rfl⟩ sh_121 (f_lt (o := 121) (m := 155) (Nat.le_of_ble_eq_true rfl) hN)) MT_89 (G_89 hN a1 (t6 - (((t6 * (5 : Int32)) * a2) / (100 : Int32))) m2) ⟨rfl, rfl, rfl⟩ fun t7 => ?_
    refine i_iconst (pc' := 74) (f_at inc_90 (j := 44) rfl) ci_1 rfl ?_
    exact i_iret (v := f_b true) (f_at inc_90 (j := 45) rfl) rfl n_bool
  · refine i_iconst (pc' := 30) (f_at inc_90 (j := 17) rfl) ci_0 rfl ?_
    exact i_iret (v := f_b false) (f_at inc_90 (j := 18) rfl) rfl n_bool
set_option maxRecDepth 4000 in
def g_91 (a1 : Int32) (σ : f_M) : Option (Int32) :=
  (f_rd σ 119 20 a1).bind fun v1 =>
  (f_rd σ 112 20 v1).bind fun v2 =>
  some v2
set_option maxRecDepth 4000 in
theorem G_91 {xs : Nat → Int32} {L N : Nat} (hN : 155 ≤ N) (a1 : Int32)  (σ : f_M) : f_Cal a_MT xs L N 91 [.ref 102, .int a1] σ ((g_91 a1 σ).bind fun t => some (e_pi σ t)) := by
  refine f_cal_of (ls := [.ref 102, .int a1]) MT_91 (Nat.le_of_ble_eq_true rfl) rfl ?_
  unfold g_91
  refine i_aload_n (pc' := 1) (f_at inc_91 (j := 0) rfl) rfl rfl ?_
  refine i_getR (pc' := 4) (f_at inc_91 (j := 1) rfl) sh_102 rfl (f_lt (o := 102) (m := 155) (Nat.le_of_ble_eq_true rfl) hN) rfl ?_
  refine i_getR (pc' := 7) (f_at inc_91 (j := 2) rfl) sh_108 rfl (f_lt (o := 108) (m := 155) (Nat.le_of_ble_eq_true rfl) hN) rfl ?_
  refine i_aload_n (pc' := 8) (f_at inc_91 (j := 3) rfl) rfl rfl ?_
  refine i_getR (pc' := 11) (f_at inc_91 (j := 4) rfl) sh_102 rfl (f_lt (o := 102) (m := 155) (Nat.le_of_ble_eq_true rfl) hN) rfl ?_
  refine i_getR (pc' := 14) (f_at inc_91 (j := 5) rfl) sh_108 rfl (f_lt (o := 108) (m := 155) (Nat.le_of_ble_eq_true rfl) hN) rfl ?_
  refine i_iload_n (pc' := 15) (f_at inc_91 (j := 6) rfl) rfl rfl ?_
  refine i_iald (pc' := 16) (f_at inc_91 (j := 7) rfl) sh_119 (f_bg (Nat.le_of_ble_eq_true rfl)) (f_lt (o := 119) (m := 155) (Nat.le_of_ble_eq_true rfl) hN) rfl fun v1 => ?_
  refine i_iald (pc' := 17) (f_at inc_91 (j := 8) rfl) sh_112 (f_bg (Nat.le_of_ble_eq_true rfl)) (f_lt (o := 112) (m := 155) (Nat.le_of_ble_eq_true rfl) hN) rfl fun v2 => ?_
  exact i_iret (f_at inc_91 (j := 9) rfl) rfl n_int
set_option maxRecDepth 4000 in
def g_92 (a1 : Int32) (a2 : Int32) (σ : f_M) : Option (f_M) :=
  (f_rd (f_up σ 121 1 ((σ 121 1) - a2)) 122 8 a1).bind fun v1 =>
  (f_wr (f_up σ 121 1 ((σ 121 1) - a2)) 122 8 a1 (v1 + a2)).bind fun m2 =>
  some (f_up m2 121 13 ((m2 121 13) + a2))
set_option maxRecDepth 4000 in
theorem G_92 {xs : Nat → Int32} {L N : Nat} (hN : 155 ≤ N) (a1 : Int32) (a2 : Int32)  (σ : f_M) : f_Cal a_MT xs L N 92 [.ref 121, .int a1, .int a2] σ ((g_92 a1 a2 σ).bind fun t => some (e_wv t)) := by
  refine f_cal_of (ls := [.ref 121, .int a1, .int a2]) MT_92 (Nat.le_of_ble_eq_true rfl) rfl ?_
  unfold g_92
  refine i_aload_n (pc' := 1) (f_at inc_92 (j := 0) rfl) rfl rfl ?_
  refine i_dup (pc' := 2) (f_at inc_92 (j := 1) rfl) rfl rfl ?_
  refine i_getI (pc' := 5) (f_at inc_92 (j := 2) rfl) sh_121 rfl (f_lt (o := 121) (m := 155) (Nat.le_of_ble_eq_true rfl) hN) rfl ?_
  refine i_iload_n (pc' := 6) (f_at inc_92 (j := 3) rfl) rfl rfl ?_
  refine i_isub (pc' := 7) (f_at inc_92 (j := 4) rfl) rfl ?_
  refine i_putI (pc' := 10) (f_at inc_92 (j := 5) rfl) sh_121 rfl ⟨rfl, rfl⟩ (f_lt (o := 121) (m := 155) (Nat.le_of_ble_eq_true rfl) hN) rfl ?_
  refine i_aload_n (pc' := 11) (f_at inc_92 (j := 6) rfl) rfl rfl ?_
  refine i_getR (pc' := 14) (f_at inc_92 (j := 7) rfl) sh_121 rfl (f_lt (o := 121) (m := 155) (Nat.le_of_ble_eq_true rfl) hN) rfl ?_
  refine i_iload_n (pc' := 15) (f_at inc_92 (j := 8) rfl) rfl rfl ?_
  refine i_dup2 (pc' := 16) (f_at inc_92 (j := 9) rfl) ⟨rfl, rfl⟩ rfl ?_
  refine i_iald (pc' := 17) (f_at inc_92 (j := 10) rfl) sh_122 (f_bg (Nat.le_of_ble_eq_true rfl)) (f_lt (o := 122) (m := 155) (Nat.le_of_ble_eq_true rfl) hN) rfl fun v1 => ?_
  refine i_iload_n (pc' := 18) (f_at inc_92 (j := 11) rfl) rfl rfl ?_
  refine i_iadd (pc' := 19) (f_at inc_92 (j := 12) rfl) rfl ?_
  refine i_iast (pc' := 20) (f_at inc_92 (j := 13) rfl) sh_122 (f_lt (o := 122) (m := 155) (Nat.le_of_ble_eq_true rfl) hN) rfl fun m2 => ?_
  refine i_aload_n (pc' := 21) (f_at inc_92 (j := 14) rfl) rfl rfl ?_
  refine i_dup (pc' := 22) (f_at inc_92 (j := 15) rfl) rfl rfl ?_
  refine i_getI (pc' := 25) (f_at inc_92 (j := 16) rfl) sh_121 rfl (f_lt (o := 121) (m := 155) (Nat.le_of_ble_eq_true rfl) hN) rfl ?_
  refine i_iload_n (pc' := 26) (f_at inc_92 (j := 17) rfl) rfl rfl ?_
  refine i_iadd (pc' := 27) (f_at inc_92 (j := 18) rfl) rfl ?_
  refine i_putI (pc' := 30) (f_at inc_92 (j := 19) rfl) sh_121 rfl ⟨rfl, rfl⟩ (f_lt (o := 121) (m := 155) (Nat.le_of_ble_eq_true rfl) hN) rfl ?_
  exact i_vret (f_at inc_92 (j := 20) rfl) rfl
set_option maxRecDepth 4000 in
def g_93  (σ : f_M) : Option (f_M) :=
  (f_lp (fun (s1 : Int32 × f_M) =>
   if (s1.2 121 10) ≤ s1.1 then (
    some (.inr s1.2)
   ) else (
    (f_rd s1.2 127 20 s1.1).bind fun v2 =>
    (f_rd s1.2 126 20 v2).bind fun v3 =>
    if v3 ≤ (s1.2 121 1) then (
     (g_91 v2 s1.2).bind fun t4 =>
     (f_rd s1.2 126 20 v2).bind fun v5 =>
     (g_92 t4 v5 s1.2).bind fun t6 =>
     (f_wr t6 124 20 v2 (3 : Int32)).bind fun m7 =>
     some (.inl ((s1.1 + (1 : Int32)), (f_up m7 121 11 ((m7 121 11) + (1 : Int32)))))
    ) else (
     some (.inr s1.2)
    )
   )
  ) f_F ((σ 121 11), σ)).bind fun (r1 : f_M) => some r1
set_option maxRecDepth 4000 in
theorem G_93 {xs : Nat → Int32} {L N : Nat} (hN : 155 ≤ N)   (σ : f_M) : f_Cal a_MT xs L N 93 [.ref 102] σ ((g_93  σ).bind fun t => some (e_wv t)) := by
  refine f_cal_of (ls := [.ref 102, a_dead, a_dead]) MT_93 (Nat.le_of_ble_eq_true rfl) rfl ?_
  unfold g_93
  refine i_aload_n (pc' := 1) (f_at inc_93 (j := 0) rfl) rfl rfl ?_
  refine i_getR (pc' := 4) (f_at inc_93 (j := 1) rfl) sh_102 rfl (f_lt (o := 102) (m := 155) (Nat.le_of_ble_eq_true rfl) hN) rfl ?_
  refine i_getI (pc' := 7) (f_at inc_93 (j := 2) rfl) sh_121 rfl (f_lt (o := 121) (m := 155) (Nat.le_of_ble_eq_true rfl) hN) rfl ?_
  refine i_istore_n (pc' := 8) (ls' := [.ref 102, .int (σ 121 11), a_dead]) (f_at inc_93 (j := 3) rfl) (Nat.le_of_ble_eq_true rfl) rfl rfl ?_
  refine s_lR ((σ 121 11), σ) (a_dead) (fun (s1 : Int32 × f_M) (u1 : Value) => [.ref 102, .int s1.1, u1]) (fun (s1 : Int32 × f_M) => s1.2) ?_
  intro s1 u1 k1 hb1 hr1
  refine i_iload_n (pc' := 9) (f_at inc_93 (j := 4) rfl) rfl rfl ?_
  refine i_aload_n (pc' := 10) (f_at inc_93 (j := 5) rfl) rfl rfl ?_
  refine i_getR (pc' := 13) (f_at inc_93 (j := 6) rfl) sh_102 rfl (f_lt (o := 102) (m := 155) (Nat.le_of_ble_eq_true rfl) hN) rfl ?_
  refine i_getI (pc' := 16) (f_at inc_93 (j := 7) rfl) sh_121 rfl (f_lt (o := 121) (m := 155) (Nat.le_of_ble_eq_true rfl) hN) rfl ?_
  refine i_if2 (pc' := 99) (nx := 19) c2_ge (f_at inc_93 (j := 8) rfl) ⟨by decide, rfl⟩ (fun b9 => ?_) (fun b9 => ?_)
  · refine s_rt (hr1 _) ?_
    exact i_vret (f_at inc_93 (j := 51) rfl) rfl
  · refine i_aload_n (pc' := 20) (f_at inc_93 (j := 9) rfl) rfl rfl ?_
    refine i_getR (pc' := 23) (f_at inc_93 (j := 10) rfl) sh_102 rfl (f_lt (o := 102) (m := 155) (Nat.le_of_ble_eq_true rfl) hN) rfl ?_
    refine i_getR (pc' := 26) (f_at inc_93 (j := 11) rfl) sh_121 rfl (f_lt (o := 121) (m := 155) (Nat.le_of_ble_eq_true rfl) hN) rfl ?_
    refine i_iload_n (pc' := 27) (f_at inc_93 (j := 12) rfl) rfl rfl ?_
    refine i_iald (pc' := 28) (f_at inc_93 (j := 13) rfl) sh_127 (f_bg (Nat.le_of_ble_eq_true rfl)) (f_lt (o := 127) (m := 155) (Nat.le_of_ble_eq_true rfl) hN) rfl fun v2 => ?_
    refine i_istore_n (pc' := 29) (ls' := [.ref 102, .int s1.1, .int v2]) (f_at inc_93 (j := 14) rfl) (Nat.le_of_ble_eq_true rfl) rfl rfl ?_
    refine i_aload_n (pc' := 30) (f_at inc_93 (j := 15) rfl) rfl rfl ?_
    refine i_getR (pc' := 33) (f_at inc_93 (j := 16) rfl) sh_102 rfl (f_lt (o := 102) (m := 155) (Nat.le_of_ble_eq_true rfl) hN) rfl ?_
    refine i_getI (pc' := 36) (f_at inc_93 (j := 17) rfl) sh_121 rfl (f_lt (o := 121) (m := 155) (Nat.le_of_ble_eq_true rfl) hN) rfl ?_
    refine i_aload_n (pc' := 37) (f_at inc_93 (j := 18) rfl) rfl rfl ?_
    refine i_getR (pc' := 40) (f_at inc_93 (j := 19) rfl) sh_102 rfl (f_lt (o := 102) (m := 155) (Nat.le_of_ble_eq_true rfl) hN) rfl ?_
    refine i_getR (pc' := 43) (f_at inc_93 (j := 20) rfl) sh_121 rfl (f_lt (o := 121) (m := 155) (Nat.le_of_ble_eq_true rfl) hN) rfl ?_
    refine i_iload_n (pc' := 44) (f_at inc_93 (j := 21) rfl) rfl rfl ?_
    refine i_iald (pc' := 45) (f_at inc_93 (j := 22) rfl) sh_126 (f_bg (Nat.le_of_ble_eq_true rfl)) (f_lt (o := 126) (m := 155) (Nat.le_of_ble_eq_true rfl) hN) rfl fun v3 => ?_
    refine i_if2 (pc' := 49) (nx := 48) c2_ge (f_at inc_93 (j := 23) rfl) ⟨by decide, rfl⟩ (fun b8 => ?_) (fun b8 => ?_)
    · refine i_aload_n (pc' := 50) (f_at inc_93 (j := 25) rfl) rfl rfl ?_
      refine i_getR (pc' := 53) (f_at inc_93 (j := 26) rfl) sh_102 rfl (f_lt (o := 102) (m := 155) (Nat.le_of_ble_eq_true rfl) hN) rfl ?_
      refine i_aload_n (pc' := 54) (f_at inc_93 (j := 27) rfl) rfl rfl ?_
      refine i_iload_n (pc' := 55) (f_at inc_93 (j := 28) rfl) rfl rfl ?_
      refine c_pi (pc' := 58) (c' := 0) (n' := 0) (h_virt (ra := [.int v2, .ref 102]) (r := [.ref 121]) (as := [.int v2]) (f_at inc_93 (j := 29) rfl) (by decide) MT_91 rfl rfl rfl ⟨Nat.le_of_ble_eq_true rfl, Nat.le_of_ble_eq_true rfl, Nat.le_of_ble_eq_true rfl⟩ sh_102 (f_lt (o := 102) (m := 155) (Nat.le_of_ble_eq_true rfl) hN)) MT_91 (G_91 hN v2 s1.2) ⟨rfl, rfl, rfl⟩ fun t4 => ?_
      refine i_aload_n (pc' := 59) (f_at inc_93 (j := 30) rfl) rfl rfl ?_
      refine i_getR (pc' := 62) (f_at inc_93 (j := 31) rfl) sh_102 rfl (f_lt (o := 102) (m := 155) (Nat.le_of_ble_eq_true rfl) hN) rfl ?_
      refine i_getR (pc' := 65) (f_at inc_93 (j := 32) rfl) sh_121 rfl (f_lt (o := 121) (m := 155) (Nat.le_of_ble_eq_true rfl) hN) rfl ?_
      refine i_iload_n (pc' := 66) (f_at inc_93 (j := 33) rfl) rfl rfl ?_
      refine i_iald (pc' := 67) (f_at inc_93 (j := 34) rfl) sh_126 (f_bg (Nat.le_of_ble_eq_true rfl)) (f_lt (o := 126) (m := 155) (Nat.le_of_ble_eq_true rfl) hN) rfl fun v5 => ?_
      refine c_wv (pc' := 70) (c' := 0) (n' := 0) (h_virt (ra := [.int v5, .int t4, .ref 121]) (r := []) (as := [.int t4, .int v5]) (f_at inc_93 (j := 35) rfl) (by decide) MT_92 rfl rfl rfl ⟨Nat.le_of_ble_eq_true rfl, Nat.le_of_ble_eq_true rfl, Nat.le_of_ble_eq_true rfl⟩ sh_121 (f_lt (o := 121) (m := 155) (Nat.le_of_ble_eq_true rfl) hN)) MT_92 (G_92 hN t4 v5 s1.2) ⟨rfl, rfl, rfl⟩ fun t6 => ?_
      refine i_aload_n (pc' := 71) (f_at inc_93 (j := 36) rfl) rfl rfl ?_
      refine i_getR (pc' := 74) (f_at inc_93 (j := 37) rfl) sh_102 rfl (f_lt (o := 102) (m := 155) (Nat.le_of_ble_eq_true rfl) hN) rfl ?_
      refine i_getR (pc' := 77) (f_at inc_93 (j := 38) rfl) sh_121 rfl (f_lt (o := 121) (m := 155) (Nat.le_of_ble_eq_true rfl) hN) rfl ?_
      refine i_iload_n (pc' := 78) (f_at inc_93 (j := 39) rfl) rfl rfl ?_
      refine i_iconst (pc' := 79) (f_at inc_93 (j := 40) rfl) ci_3 rfl ?_
      refine i_iast (pc' := 80) (f_at inc_93 (j := 41) rfl) sh_124 (f_lt (o := 124) (m := 155) (Nat.le_of_ble_eq_true rfl) hN) rfl fun m7 => ?_
      refine i_aload_n (pc' := 81) (f_at inc_93 (j := 42) rfl) rfl rfl ?_
      refine i_getR (pc' := 84) (f_at inc_93 (j := 43) rfl) sh_102 rfl (f_lt (o := 102) (m := 155) (Nat.le_of_ble_eq_true rfl) hN) rfl ?_
      refine i_dup (pc' := 85) (f_at inc_93 (j := 44) rfl) rfl rfl ?_
      refine i_getI (pc' := 88) (f_at inc_93 (j := 45) rfl) sh_121 rfl (f_lt (o := 121) (m := 155) (Nat.le_of_ble_eq_true rfl) hN) rfl ?_
      refine i_iconst (pc' := 89) (f_at inc_93 (j := 46) rfl) ci_1 rfl ?_
      refine i_iadd (pc' := 90) (f_at inc_93 (j := 47) rfl) rfl ?_
      refine i_putI (pc' := 93) (f_at inc_93 (j := 48) rfl) sh_121 rfl ⟨rfl, rfl⟩ (f_lt (o := 121) (m := 155) (Nat.le_of_ble_eq_true rfl) hN) rfl ?_
      refine i_iinc (pc' := 96) (ls' := [.ref 102, .int (s1.1 + (1 : Int32)), .int v2]) (f_at inc_93 (j := 49) rfl) rfl ci_1 rfl rfl ?_
      refine i_goto (pc' := 8) (f_at inc_93 (j := 50) rfl) (by decide) ?_
      exact hb1 ((s1.1 + (1 : Int32)), (f_up m7 121 11 ((m7 121 11) + (1 : Int32)))) (.int v2)
    · refine s_rt (hr1 _) ?_
      exact i_vret (f_at inc_93 (j := 24) rfl) rfl
set_option maxRecDepth 4000 in
def g_94 (a1 : Int32) (a2 : Int32) (σ : f_M) : Option (Int32 × f_M) :=
  (g_82 121 σ).bind fun t1 =>
  (f_wr t1 109 1000 (t1 121 0) a1).bind fun m2 =>
  (f_wr m2 110 1000 (m2 121 0) a2).bind fun m3 =>
  (f_lp (fun (s4 : Int32 × Int32 × f_M) =>
   if (s4.2.2 103 4) ≤ s4.2.1 then (
    some (.inr (s4.1, s4.2.2))
   ) else (
    (g_84 s4.2.1 s4.2.2).bind fun t5 =>
    (
     if t5 = (-1 : Int32) then (
      some (s4.1, s4.2.2)
     ) else (
      (f_rd s4.2.2 107 3 s4.2.1).bind fun v7 =>
      (g_90 t5 v7 s4.2.2).bind fun t8 =>
      if t8.1 = false then (
       some (s4.1, t8.2)
      ) else (
       some ((s4.1 + (1 : Int32)), t8.2)
      )
     )
    ).bind fun (t6 : Int32 × f_M) =>
    some (.inl (t6.1, (s4.2.1 + (1 : Int32)), t6.2))
   )
  ) f_F ((0 : Int32), (0 : Int32), (f_up m3 121 0 ((m3 121 0) + (1 : Int32))))).bind fun (x4 : Int32 × f_M) =>
  (g_93  x4.2).bind fun t12 =>
  some (x4.1, t12)
set_option maxRecDepth 4000 in
theorem G_94 {xs : Nat → Int32} {L N : Nat} (hN : 155 ≤ N) (a1 : Int32) (a2 : Int32)  (σ : f_M) : f_Cal a_MT xs L N 94 [.ref 102, .int a1, .int a2] σ ((g_94 a1 a2 σ).bind fun t => some (e_wi t)) := by
  refine f_cal_of (ls := [.ref 102, .int a1, .int a2, a_dead, a_dead, a_dead]) MT_94 (Nat.le_of_ble_eq_true rfl) rfl ?_
  unfold g_94
  refine i_aload_n (pc' := 1) (f_at inc_94 (j := 0) rfl) rfl rfl ?_
  refine i_aload_n (pc' := 2) (f_at inc_94 (j := 1) rfl) rfl rfl ?_
  refine i_getR (pc' := 5) (f_at inc_94 (j := 2) rfl) sh_102 rfl (f_lt (o := 102) (m := 155) (Nat.le_of_ble_eq_true rfl) hN) rfl ?_
  refine c_wv (pc' := 8) (c' := 0) (n' := 0) (h_virt (ra := [.ref 121, .ref 102]) (r := []) (as := [.ref 121]) (f_at inc_94 (j := 3) rfl) (by decide) MT_82 rfl rfl rfl ⟨Nat.le_of_ble_eq_true rfl, Nat.le_of_ble_eq_true rfl, Nat.le_of_ble_eq_true rfl⟩ sh_102 (f_lt (o := 102) (m := 155) (Nat.le_of_ble_eq_true rfl) hN)) MT_82 (G_82 hN 121 f_L121 σ) ⟨rfl, rfl, rfl⟩ fun t1 => ?_
  refine i_aload_n (pc' := 9) (f_at inc_94 (j := 4) rfl) rfl rfl ?_
  refine i_getR (pc' := 12) (f_at inc_94 (j := 5) rfl) sh_102 rfl (f_lt (o := 102) (m := 155) (Nat.le_of_ble_eq_true rfl) hN) rfl ?_
  refine i_getR (pc' := 15) (f_at inc_94 (j := 6) rfl) sh_108 rfl (f_lt (o := 108) (m := 155) (Nat.le_of_ble_eq_true rfl) hN) rfl ?_
  refine i_aload_n (pc' := 16) (f_at inc_94 (j := 7) rfl) rfl rfl ?_
  refine i_getR (pc' := 19) (f_at inc_94 (j := 8) rfl) sh_102 rfl (f_lt (o := 102) (m := 155) (Nat.le_of_ble_eq_true rfl) hN) rfl ?_
  refine i_getI (pc' := 22) (f_at inc_94 (j := 9) rfl) sh_121 rfl (f_lt (o := 121) (m := 155) (Nat.le_of_ble_eq_true rfl) hN) rfl ?_
  refine i_iload_n (pc' := 23) (f_at inc_94 (j := 10) rfl) rfl rfl ?_
  refine i_iast (pc' := 24) (f_at inc_94 (j := 11) rfl) sh_109 (f_lt (o := 109) (m := 155) (Nat.le_of_ble_eq_true rfl) hN) rfl fun m2 => ?_
  refine i_aload_n (pc' := 25) (f_at inc_94 (j := 12) rfl) rfl rfl ?_
  refine i_getR (pc' := 28) (f_at inc_94 (j := 13) rfl) sh_102 rfl (f_lt (o := 102) (m := 155) (Nat.le_of_ble_eq_true rfl) hN) rfl ?_
  refine i_getR (pc' := 31) (f_at inc_94 (j := 14) rfl) sh_108 rfl (f_lt (o := 108) (m := 155) (Nat.le_of_ble_eq_true rfl) hN) rfl ?_
  refine i_aload_n (pc' := 32) (f_at inc_94 (j := 15) rfl) rfl rfl ?_
  refine i_getR (pc' := 35) (f_at inc_94 (j := 16) rfl) sh_102 rfl (f_lt (o := 102) (m := 155) (Nat.le_of_ble_eq_true rfl) hN) rfl ?_
  refine i_getI (pc' := 38) (f_at inc_94 (j := 17) rfl) sh_121 rfl (f_lt (o := 121) (m := 155) (Nat.le_of_ble_eq_true rfl) hN) rfl ?_
  refine i_iload_n (pc' := 39) (f_at inc_94 (j := 18) rfl) rfl rfl ?_
  refine i_iast (pc' := 40) (f_at inc_94 (j := 19) rfl) sh_110 (f_lt (o := 110) (m := 155) (Nat.le_of_ble_eq_true rfl) hN) rfl fun m3 => ?_
  refine i_aload_n (pc' := 41) (f_at inc_94 (j := 20) rfl) rfl rfl ?_
  refine i_getR (pc' := 44) (f_at inc_94 (j := 21) rfl) sh_102 rfl (f_lt (o := 102) (m := 155) (Nat.le_of_ble_eq_true rfl) hN) rfl ?_
  refine i_dup (pc' := 45) (f_at inc_94 (j := 22) rfl) rfl rfl ?_
  refine i_getI (pc' := 48) (f_at inc_94 (j := 23) rfl) sh_121 rfl (f_lt (o := 121) (m := 155) (Nat.le_of_ble_eq_true rfl) hN) rfl ?_
  refine i_iconst (pc' := 49) (f_at inc_94 (j := 24) rfl) ci_1 rfl ?_
  refine i_iadd (pc' := 50) (f_at inc_94 (j := 25) rfl) rfl ?_
  refine i_putI (pc' := 53) (f_at inc_94 (j := 26) rfl) sh_121 rfl ⟨rfl, rfl⟩ (f_lt (o := 121) (m := 155) (Nat.le_of_ble_eq_true rfl) hN) rfl ?_
  refine i_iconst (pc' := 54) (f_at inc_94 (j := 27) rfl) ci_0 rfl ?_
  refine i_istore_n (pc' := 55) (ls' := [.ref 102, .int a1, .int a2, .int (0 : Int32), a_dead, a_dead]) (f_at inc_94 (j := 28) rfl) (Nat.le_of_ble_eq_true rfl) rfl rfl ?_
  refine i_iconst (pc' := 56) (f_at inc_94 (j := 29) rfl) ci_0 rfl ?_
  refine i_istore (pc' := 58) (ls' := [.ref 102, .int a1, .int a2, .int (0 : Int32), .int (0 : Int32), a_dead]) (f_at inc_94 (j := 30) rfl) (Nat.le_of_ble_eq_true rfl) rfl rfl ?_
  refine s_lX (X := 112) ((0 : Int32), (0 : Int32), (f_up m3 121 0 ((m3 121 0) + (1 : Int32)))) (a_dead) (fun (s4 : Int32 × Int32 × f_M) (u4 : Value) => [.ref 102, .int a1, .int a2, .int s4.1, .int s4.2.1, u4]) (fun (s4 : Int32 × Int32 × f_M) => s4.2.2) (fun (x4 : Int32 × f_M) (w4 : Value × Value) => [.ref 102, .int a1, .int a2, .int x4.1, w4.1, w4.2]) (fun (x4 : Int32 × f_M) => x4.2) ?_ ?_
  · intro x4 w4
    refine i_aload_n (pc' := 113) (f_at inc_94 (j := 55) rfl) rfl rfl ?_
    refine c_wv (pc' := 116) (c' := 0) (n' := 0) (h_virt (ra := [.ref 102]) (r := []) (as := []) (f_at inc_94 (j := 56) rfl) (by decide) MT_93 rfl rfl rfl ⟨Nat.le_of_ble_eq_true rfl, Nat.le_of_ble_eq_true rfl, Nat.le_of_ble_eq_true rfl⟩ sh_102 (f_lt (o := 102) (m := 155) (Nat.le_of_ble_eq_true rfl) hN)) MT_93 (G_93 hN  x4.2) ⟨rfl, rfl, rfl⟩ fun t12 => ?_
    refine i_iload_n (pc' := 117) (f_at inc_94 (j := 57) rfl) rfl rfl ?_
    exact i_iret (f_at inc_94 (j := 58) rfl) rfl n_int
  · intro s4 u4 k4 hb4 hx4
    refine i_iload (pc' := 60) (f_at inc_94 (j := 31) rfl) rfl rfl ?_
    refine i_aload_n (pc' := 61) (f_at inc_94 (j := 32) rfl) rfl rfl ?_
    refine i_getR (pc' := 64) (f_at inc_94 (j := 33) rfl) sh_102 rfl (f_lt (o := 102) (m := 155) (Nat.le_of_ble_eq_true rfl) hN) rfl ?_
    refine i_getI (pc' := 67) (f_at inc_94 (j := 34) rfl) sh_103 rfl (f_lt (o := 103) (m := 155) (Nat.le_of_ble_eq_true rfl) hN) rfl ?_
    refine i_if2 (pc' := 112) (nx := 70) c2_ge (f_at inc_94 (j := 35) rfl) ⟨by decide, rfl⟩ (fun b11 => ?_) (fun b11 => ?_)
    · exact hx4 (s4.1, s4.2.2) (.int s4.2.1, u4)
    · refine i_aload_n (pc' := 71) (f_at inc_94 (j := 36) rfl) rfl rfl ?_
      refine i_iload (pc' := 73) (f_at inc_94 (j := 37) rfl) rfl rfl ?_
      refine c_pi (pc' := 76) (c' := 0) (n' := 0) (h_virt (ra := [.int s4.2.1, .ref 102]) (r := []) (as := [.int s4.2.1]) (f_at inc_94 (j := 38) rfl) (by decide) MT_84 rfl rfl rfl ⟨Nat.le_of_ble_eq_true rfl, Nat.le_of_ble_eq_true rfl, Nat.le_of_ble_eq_true rfl⟩ sh_102 (f_lt (o := 102) (m := 155) (Nat.le_of_ble_eq_true rfl) hN)) MT_84 (G_84 hN s4.2.1 s4.2.2) ⟨rfl, rfl, rfl⟩ fun t5 => ?_
      refine i_istore (pc' := 78) (ls' := [.ref 102, .int a1, .int a2, .int s4.1, .int s4.2.1, .int t5]) (f_at inc_94 (j := 39) rfl) (Nat.le_of_ble_eq_true rfl) rfl rfl ?_
      refine i_iload (pc' := 80) (f_at inc_94 (j := 40) rfl) rfl rfl ?_
      refine i_iconst (pc' := 81) (f_at inc_94 (j := 41) rfl) ci_m1 rfl ?_
      refine s_join (J := 106) (fun (t6 : Int32 × f_M) (u6 : Unit) => [.ref 102, .int a1, .int a2, .int t6.1, .int s4.2.1, .int t5]) (fun t6 => []) (fun t6 => t6.2) ?_ ?_
      · intro t6 u6
        refine i_iinc (pc' := 109) (ls' := [.ref 102, .int a1, .int a2, .int t6.1, .int (s4.2.1 + (1 : Int32)), .int t5]) (f_at inc_94 (j := 53) rfl) rfl ci_1 rfl rfl ?_
        refine i_goto (pc' := 58) (f_at inc_94 (j := 54) rfl) (by decide) ?_
        exact hb4 (t6.1, (s4.2.1 + (1 : Int32)), t6.2) (.int t5)
      · intro k6 hj6
        refine i_if2 (pc' := 106) (nx := 84) c2_eq (f_at inc_94 (j := 42) rfl) ⟨by decide, rfl⟩ (fun b10 => ?_) (fun b10 => ?_)
        · exact hj6 (s4.1, s4.2.2) ()
        · refine i_aload_n (pc' := 85) (f_at inc_94 (j := 43) rfl) rfl rfl ?_
          refine i_iload (pc' := 87) (f_at inc_94 (j := 44) rfl) rfl rfl ?_
          refine i_aload_n (pc' := 88) (f_at inc_94 (j := 45) rfl) rfl rfl ?_
          refine i_getR (pc' := 91) (f_at inc_94 (j := 46) rfl) sh_102 rfl (f_lt (o := 102) (m := 155) (Nat.le_of_ble_eq_true rfl) hN) rfl ?_
          refine i_getR (pc' := 94) (f_at inc_94 (j := 47) rfl) sh_103 rfl (f_lt (o := 103) (m := 155) (Nat.le_of_ble_eq_true rfl) hN) rfl ?_
          refine i_iload (pc' := 96) (f_at inc_94 (j := 48) rfl) rfl rfl ?_
          refine i_iald (pc' := 97) (f_at inc_94 (j := 49) rfl) sh_107 (f_bg (Nat.le_of_ble_eq_true rfl)) (f_lt (o := 107) (m := 155) (Nat.le_of_ble_eq_true rfl) hN) rfl fun v7 => ?_
          refine c_wb (pc' := 100) (c' := 0) (n' := 0) (h_virt (ra := [.int v7, .int t5, .ref 102]) (r := []) (as := [.int t5, .int v7]) (f_at inc_94 (j := 50) rfl) (by decide) MT_90 rfl rfl rfl ⟨Nat.le_of_ble_eq_true rfl, Nat.le_of_ble_eq_true rfl, Nat.le_of_ble_eq_true rfl⟩ sh_102 (f_lt (o := 102) (m := 155) (Nat.le_of_ble_eq_true rfl) hN)) MT_90 (G_90 hN t5 v7 s4.2.2) ⟨rfl, rfl, rfl⟩ fun t8 => ?_
          refine i_if0 (pc' := 106) (nx := 103) cb_eq (f_at inc_94 (j := 51) rfl) ⟨by decide, rfl⟩ (fun b9 => ?_) (fun b9 => ?_)
          · exact hj6 (s4.1, t8.2) ()
          · refine i_iinc (pc' := 106) (ls' := [.ref 102, .int a1, .int a2, .int (s4.1 + (1 : Int32)), .int s4.2.1, .int t5]) (f_at inc_94 (j := 52) rfl) rfl ci_1 rfl rfl ?_
            exact hj6 ((s4.1 + (1 : Int32)), t8.2) ()
set_option maxRecDepth 4000 in
def g_95 (a1 : Nat) (σ : f_M) : Option (Bool × f_M) :=
  (f_rd σ a1 7 (1 : Int32)).bind fun v1 =>
  (g_74 v1 σ).bind fun t2 =>
  if t2 = true then (
   (f_lp (fun (s3 : Int32 × f_M) =>
    (f_rd s3.2 a1 7 (1 : Int32)).bind fun v4 =>
    if v4 ≤ s3.1 then (
     some (.inr s3.2)
    ) else (
     (f_rd s3.2 a1 7 (2 : Int32)).bind fun v5 =>
     (f_rd s3.2 a1 7 (3 : Int32)).bind fun v6 =>
     (g_94 v5 v6 s3.2).bind fun t7 =>
     some (.inl ((s3.1 + (1 : Int32)), t7.2))
    )
   ) f_F ((0 : Int32), σ)).bind fun (x3 : f_M) =>
   some (true, x3)
  ) else (
   some (false, σ)
  )
set_option maxRecDepth 4000 in
theorem G_95 {xs : Nat → Int32} {L N : Nat} (hN : 155 ≤ N) (a1 : Nat) (ha1 : f_R a1) (σ : f_M) : f_Cal a_MT xs L N 95 [.ref 102, .ref a1] σ ((g_95 a1 σ).bind fun t => some (e_wb t)) := by
  refine f_cal_of (ls := [.ref 102, .ref a1, a_dead]) MT_95 (Nat.le_of_ble_eq_true rfl) rfl ?_
  unfold g_95
  refine i_aload_n (pc' := 1) (f_at inc_95 (j := 0) rfl) rfl rfl ?_
  refine i_aload_n (pc' := 2) (f_at inc_95 (j := 1) rfl) rfl rfl ?_
  refine i_iconst (pc' := 3) (f_at inc_95 (j := 2) rfl) ci_1 rfl ?_
  refine i_iald (pc' := 4) (f_at inc_95 (j := 3) rfl) ha1.1 (f_bgR ha1) (f_ltR ha1 hN) rfl fun v1 => ?_
  refine c_pb (pc' := 7) (c' := 0) (n' := 0) (h_virt (ra := [.int v1, .ref 102]) (r := []) (as := [.int v1]) (f_at inc_95 (j := 4) rfl) (by decide) MT_74 rfl rfl rfl ⟨Nat.le_of_ble_eq_true rfl, Nat.le_of_ble_eq_true rfl, Nat.le_of_ble_eq_true rfl⟩ sh_102 (f_lt (o := 102) (m := 155) (Nat.le_of_ble_eq_true rfl) hN)) MT_74 (G_74 hN v1 σ) ⟨rfl, rfl, rfl⟩ fun t2 => ?_
  refine i_if0 (pc' := 12) (nx := 10) cb_ne (f_at inc_95 (j := 5) rfl) ⟨by decide, rfl⟩ (fun b9 => ?_) (fun b9 => ?_)
  · refine i_iconst (pc' := 13) (f_at inc_95 (j := 8) rfl) ci_0 rfl ?_
    refine i_istore_n (pc' := 14) (ls' := [.ref 102, .ref a1, .int (0 : Int32)]) (f_at inc_95 (j := 9) rfl) (Nat.le_of_ble_eq_true rfl) rfl rfl ?_
    refine s_lX (X := 38) ((0 : Int32), σ) () (fun (s3 : Int32 × f_M) (u3 : Unit) => [.ref 102, .ref a1, .int s3.1]) (fun (s3 : Int32 × f_M) => s3.2) (fun (x3 : f_M) (w3 : Value) => [.ref 102, .ref a1, w3]) (fun (x3 : f_M) => x3) ?_ ?_
    · intro x3 w3
      refine i_iconst (pc' := 39) (f_at inc_95 (j := 26) rfl) ci_1 rfl ?_
      exact i_iret (v := f_b true) (f_at inc_95 (j := 27) rfl) rfl n_bool
    · intro s3 u3 k3 hb3 hx3
      refine i_iload_n (pc' := 15) (f_at inc_95 (j := 10) rfl) rfl rfl ?_
      refine i_aload_n (pc' := 16) (f_at inc_95 (j := 11) rfl) rfl rfl ?_
      refine i_iconst (pc' := 17) (f_at inc_95 (j := 12) rfl) ci_1 rfl ?_
      refine i_iald (pc' := 18) (f_at inc_95 (j := 13) rfl) ha1.1 (f_bgR ha1) (f_ltR ha1 hN) rfl fun v4 => ?_
      refine i_if2 (pc' := 38) (nx := 21) c2_ge (f_at inc_95 (j := 14) rfl) ⟨by decide, rfl⟩ (fun b8 => ?_) (fun b8 => ?_)
      · exact hx3 s3.2 (.int s3.1)
      · refine i_aload_n (pc' := 22) (f_at inc_95 (j := 15) rfl) rfl rfl ?_
        refine i_aload_n (pc' := 23) (f_at inc_95 (j := 16) rfl) rfl rfl ?_
        refine i_iconst (pc' := 24) (f_at inc_95 (j := 17) rfl) ci_2 rfl ?_
        refine i_iald (pc' := 25) (f_at inc_95 (j := 18) rfl) ha1.1 (f_bgR ha1) (f_ltR ha1 hN) rfl fun v5 => ?_
        refine i_aload_n (pc' := 26) (f_at inc_95 (j := 19) rfl) rfl rfl ?_
        refine i_iconst (pc' := 27) (f_at inc_95 (j := 20) rfl) ci_3 rfl ?_
        refine i_iald (pc' := 28) (f_at inc_95 (j := 21) rfl) ha1.1 (f_bgR ha1) (f_ltR ha1 hN) rfl fun v6 => ?_
        refine c_wi (pc' := 31) (c' := 0) (n' := 0) (h_virt (ra := [.int v6, .int v5, .ref 102]) (r := []) (as := [.int v5, .int v6]) (f_at inc_95 (j := 22) rfl) (by decide) MT_94 rfl rfl rfl ⟨Nat.le_of_ble_eq_true rfl, Nat.le_of_ble_eq_true rfl, Nat.le_of_ble_eq_true rfl⟩ sh_102 (f_lt (o := 102) (m := 155) (Nat.le_of_ble_eq_true rfl) hN)) MT_94 (G_94 hN v5 v6 s3.2) ⟨rfl, rfl, rfl⟩ fun t7 => ?_
        refine i_pop (pc' := 32) (f_at inc_95 (j := 23) rfl) rfl rfl ?_
        refine i_iinc (pc' := 35) (ls' := [.ref 102, .ref a1, .int (s3.1 + (1 : Int32))]) (f_at inc_95 (j := 24) rfl) rfl ci_1 rfl rfl ?_
        refine i_goto (pc' := 14) (f_at inc_95 (j := 25) rfl) (by decide) ?_
        exact hb3 ((s3.1 + (1 : Int32)), t7.2) ()
  · refine i_iconst (pc' := 11) (f_at inc_95 (j := 6) rfl) ci_0 rfl ?_
    exact i_iret (v := f_b false) (f_at inc_95 (j := 7) rfl) rfl n_bool
set_option maxRecDepth 4000 in
def g_96 (a1 : Int32) (a2 : Int32) (σ : f_M) : Option (Bool) :=
  (
   if (20 : Int32) ≤ (σ 121 3) then (
    some false
   ) else (
    (f_rd σ 122 8 a1).bind fun v2 =>
    if v2 < a2 then (
     some false
    ) else (
     some true
    )
   )
  ).bind fun (t1 : Bool) =>
  some t1
set_option maxRecDepth 4000 in
theorem G_96 {xs : Nat → Int32} {L N : Nat} (hN : 155 ≤ N) (a1 : Int32) (a2 : Int32)  (σ : f_M) : f_Cal a_MT xs L N 96 [.ref 102, .int a1, .int a2] σ ((g_96 a1 a2 σ).bind fun t => some (e_pb σ t)) := by
  refine f_cal_of (ls := [.ref 102, .int a1, .int a2]) MT_96 (Nat.le_of_ble_eq_true rfl) rfl ?_
  unfold g_96
  refine i_aload_n (pc' := 1) (f_at inc_96 (j := 0) rfl) rfl rfl ?_
  refine i_getR (pc' := 4) (f_at inc_96 (j := 1) rfl) sh_102 rfl (f_lt (o := 102) (m := 155) (Nat.le_of_ble_eq_true rfl) hN) rfl ?_
  refine i_getI (pc' := 7) (f_at inc_96 (j := 2) rfl) sh_121 rfl (f_lt (o := 121) (m := 155) (Nat.le_of_ble_eq_true rfl) hN) rfl ?_
  refine i_bipush (pc' := 9) (f_at inc_96 (j := 3) rfl) cb_20 rfl ?_
  refine s_join (J := 30) (fun (t1 : Bool) (u1 : Unit) => [.ref 102, .int a1, .int a2]) (fun t1 => [.int (f_b t1)]) (fun t1 => σ) ?_ ?_
  · intro t1 u1
    exact i_iret (v := f_b t1) (f_at inc_96 (j := 15) rfl) rfl n_bool
  · intro k1 hj1
    refine i_if2 (pc' := 29) (nx := 12) c2_ge (f_at inc_96 (j := 4) rfl) ⟨by decide, rfl⟩ (fun b4 => ?_) (fun b4 => ?_)
    · refine i_iconst (pc' := 30) (f_at inc_96 (j := 14) rfl) ci_0 rfl ?_
      exact hj1 false ()
    · refine i_aload_n (pc' := 13) (f_at inc_96 (j := 5) rfl) rfl rfl ?_
      refine i_getR (pc' := 16) (f_at inc_96 (j := 6) rfl) sh_102 rfl (f_lt (o := 102) (m := 155) (Nat.le_of_ble_eq_true rfl) hN) rfl ?_
      refine i_getR (pc' := 19) (f_at inc_96 (j := 7) rfl) sh_121 rfl (f_lt (o := 121) (m := 155) (Nat.le_of_ble_eq_true rfl) hN) rfl ?_
      refine i_iload_n (pc' := 20) (f_at inc_96 (j := 8) rfl) rfl rfl ?_
      refine i_iald (pc' := 21) (f_at inc_96 (j := 9) rfl) sh_122 (f_bg (Nat.le_of_ble_eq_true rfl)) (f_lt (o := 122) (m := 155) (Nat.le_of_ble_eq_true rfl) hN) rfl fun v2 => ?_
      refine i_iload_n (pc' := 22) (f_at inc_96 (j := 10) rfl) rfl rfl ?_
      refine i_if2 (pc' := 29) (nx := 25) c2_lt (f_at inc_96 (j := 11) rfl) ⟨by decide, rfl⟩ (fun b3 => ?_) (fun b3 => ?_)
      · refine i_iconst (pc' := 30) (f_at inc_96 (j := 14) rfl) ci_0 rfl ?_
        exact hj1 false ()
      · refine i_iconst (pc' := 26) (f_at inc_96 (j := 12) rfl) ci_1 rfl ?_
        refine i_goto (pc' := 30) (f_at inc_96 (j := 13) rfl) (by decide) ?_
        exact hj1 true ()
set_option maxRecDepth 4000 in
def g_97  (σ : f_M) : Option (Int32 × f_M) :=
  (f_wr σ 123 20 (σ 121 3) (0 : Int32)).bind fun m1 =>
  some ((((f_up m1 121 3 ((m1 121 3) + (1 : Int32))) 121 3) - (1 : Int32)), (f_up m1 121 3 ((m1 121 3) + (1 : Int32))))
set_option maxRecDepth 4000 in
theorem G_97 {xs : Nat → Int32} {L N : Nat} (hN : 155 ≤ N)   (σ : f_M) : f_Cal a_MT xs L N 97 [.ref 121] σ ((g_97  σ).bind fun t => some (e_wi t)) := by
  refine f_cal_of (ls := [.ref 121]) MT_97 (Nat.le_of_ble_eq_true rfl) rfl ?_
  unfold g_97
  refine i_aload_n (pc' := 1) (f_at inc_97 (j := 0) rfl) rfl rfl ?_
  refine i_getR (pc' := 4) (f_at inc_97 (j := 1) rfl) sh_121 rfl (f_lt (o := 121) (m := 155) (Nat.le_of_ble_eq_true rfl) hN) rfl ?_
  refine i_aload_n (pc' := 5) (f_at inc_97 (j := 2) rfl) rfl rfl ?_
  refine i_getI (pc' := 8) (f_at inc_97 (j := 3) rfl) sh_121 rfl (f_lt (o := 121) (m := 155) (Nat.le_of_ble_eq_true rfl) hN) rfl ?_
  refine i_iconst (pc' := 9) (f_at inc_97 (j := 4) rfl) ci_0 rfl ?_
  refine i_bast (pc' := 10) (f_at inc_97 (j := 5) rfl) sh_123 (Or.inr rfl) (by decide) (f_lt (o := 123) (m := 155) (Nat.le_of_ble_eq_true rfl) hN) rfl fun m1 => ?_
  refine i_aload_n (pc' := 11) (f_at inc_97 (j := 6) rfl) rfl rfl ?_
  refine i_dup (pc' := 12) (f_at inc_97 (j := 7) rfl) rfl rfl ?_
  refine i_getI (pc' := 15) (f_at inc_97 (j := 8) rfl) sh_121 rfl (f_lt (o := 121) (m := 155) (Nat.le_of_ble_eq_true rfl) hN) rfl ?_
  refine i_iconst (pc' := 16) (f_at inc_97 (j := 9) rfl) ci_1 rfl ?_
  refine i_iadd (pc' := 17) (f_at inc_97 (j := 10) rfl) rfl ?_
  refine i_putI (pc' := 20) (f_at inc_97 (j := 11) rfl) sh_121 rfl ⟨rfl, rfl⟩ (f_lt (o := 121) (m := 155) (Nat.le_of_ble_eq_true rfl) hN) rfl ?_
  refine i_aload_n (pc' := 21) (f_at inc_97 (j := 12) rfl) rfl rfl ?_
  refine i_getI (pc' := 24) (f_at inc_97 (j := 13) rfl) sh_121 rfl (f_lt (o := 121) (m := 155) (Nat.le_of_ble_eq_true rfl) hN) rfl ?_
  refine i_iconst (pc' := 25) (f_at inc_97 (j := 14) rfl) ci_1 rfl ?_
  refine i_isub (pc' := 26) (f_at inc_97 (j := 15) rfl) rfl ?_
  exact i_iret (f_at inc_97 (j := 16) rfl) rfl n_int
set_option maxRecDepth 4000 in
def g_98 (a1 : Int32) (a2 : Int32) (a3 : Int32) (a4 : Int32) (a5 : Int32) (σ : f_M) : Option (Int32 × f_M) :=
  (f_wr σ 112 20 a1 a2).bind fun m1 =>
  (f_wr m1 113 20 a1 a3).bind fun m2 =>
  (f_wr m2 114 20 a1 a4).bind fun m3 =>
  (f_wr m3 115 20 a1 a5).bind fun m4 =>
  (g_79 a1 m4).bind fun t5 =>
  (g_80 121 a2 t5 m4).bind fun t6 =>
  some (a1, t6)
set_option maxRecDepth 4000 in
theorem G_98 {xs : Nat → Int32} {L N : Nat} (hN : 155 ≤ N) (a1 : Int32) (a2 : Int32) (a3 : Int32) (a4 : Int32) (a5 : Int32)  (σ : f_M) : f_Cal a_MT xs L N 98 [.ref 102, .int a1, .int a2, .int a3, .int a4, .int a5] σ ((g_98 a1 a2 a3 a4 a5 σ).bind fun t => some (e_wi t)) := by
  refine f_cal_of (ls := [.ref 102, .int a1, .int a2, .int a3, .int a4, .int a5]) MT_98 (Nat.le_of_ble_eq_true rfl) rfl ?_
  unfold g_98
  refine i_aload_n (pc' := 1) (f_at inc_98 (j := 0) rfl) rfl rfl ?_
  refine i_getR (pc' := 4) (f_at inc_98 (j := 1) rfl) sh_102 rfl (f_lt (o := 102) (m := 155) (Nat.le_of_ble_eq_true rfl) hN) rfl ?_
  refine i_getR (pc' := 7) (f_at inc_98 (j := 2) rfl) sh_108 rfl (f_lt (o := 108) (m := 155) (Nat.le_of_ble_eq_true rfl) hN) rfl ?_
  refine i_iload_n (pc' := 8) (f_at inc_98 (j := 3) rfl) rfl rfl ?_
  refine i_iload_n (pc' := 9) (f_at inc_98 (j := 4) rfl) rfl rfl ?_
  refine i_iast (pc' := 10) (f_at inc_98 (j := 5) rfl) sh_112 (f_lt (o := 112) (m := 155) (Nat.le_of_ble_eq_true rfl) hN) rfl fun m1 => ?_
  refine i_aload_n (pc' := 11) (f_at inc_98 (j := 6) rfl) rfl rfl ?_
  refine i_getR (pc' := 14) (f_at inc_98 (j := 7) rfl) sh_102 rfl (f_lt (o := 102) (m := 155) (Nat.le_of_ble_eq_true rfl) hN) rfl ?_
  refine i_getR (pc' := 17) (f_at inc_98 (j := 8) rfl) sh_108 rfl (f_lt (o := 108) (m := 155) (Nat.le_of_ble_eq_true rfl) hN) rfl ?_
  refine i_iload_n (pc' := 18) (f_at inc_98 (j := 9) rfl) rfl rfl ?_
  refine i_iload_n (pc' := 19) (f_at inc_98 (j := 10) rfl) rfl rfl ?_
  refine i_iast (pc' := 20) (f_at inc_98 (j := 11) rfl) sh_113 (f_lt (o := 113) (m := 155) (Nat.le_of_ble_eq_true rfl) hN) rfl fun m2 => ?_
  refine i_aload_n (pc' := 21) (f_at inc_98 (j := 12) rfl) rfl rfl ?_
  refine i_getR (pc' := 24) (f_at inc_98 (j := 13) rfl) sh_102 rfl (f_lt (o := 102) (m := 155) (Nat.le_of_ble_eq_true rfl) hN) rfl ?_
  refine i_getR (pc' := 27) (f_at inc_98 (j := 14) rfl) sh_108 rfl (f_lt (o := 108) (m := 155) (Nat.le_of_ble_eq_true rfl) hN) rfl ?_
  refine i_iload_n (pc' := 28) (f_at inc_98 (j := 15) rfl) rfl rfl ?_
  refine i_iload (pc' := 30) (f_at inc_98 (j := 16) rfl) rfl rfl ?_
  refine i_iast (pc' := 31) (f_at inc_98 (j := 17) rfl) sh_114 (f_lt (o := 114) (m := 155) (Nat.le_of_ble_eq_true rfl) hN) rfl fun m3 => ?_
  refine i_aload_n (pc' := 32) (f_at inc_98 (j := 18) rfl) rfl rfl ?_
  refine i_getR (pc' := 35) (f_at inc_98 (j := 19) rfl) sh_102 rfl (f_lt (o := 102) (m := 155) (Nat.le_of_ble_eq_true rfl) hN) rfl ?_
  refine i_getR (pc' := 38) (f_at inc_98 (j := 20) rfl) sh_108 rfl (f_lt (o := 108) (m := 155) (Nat.le_of_ble_eq_true rfl) hN) rfl ?_
  refine i_iload_n (pc' := 39) (f_at inc_98 (j := 21) rfl) rfl rfl ?_
  refine i_iload (pc' := 41) (f_at inc_98 (j := 22) rfl) rfl rfl ?_
  refine i_iast (pc' := 42) (f_at inc_98 (j := 23) rfl) sh_115 (f_lt (o := 115) (m := 155) (Nat.le_of_ble_eq_true rfl) hN) rfl fun m4 => ?_
  refine i_aload_n (pc' := 43) (f_at inc_98 (j := 24) rfl) rfl rfl ?_
  refine i_getR (pc' := 46) (f_at inc_98 (j := 25) rfl) sh_102 rfl (f_lt (o := 102) (m := 155) (Nat.le_of_ble_eq_true rfl) hN) rfl ?_
  refine i_iload_n (pc' := 47) (f_at inc_98 (j := 26) rfl) rfl rfl ?_
  refine i_aload_n (pc' := 48) (f_at inc_98 (j := 27) rfl) rfl rfl ?_
  refine i_getR (pc' := 51) (f_at inc_98 (j := 28) rfl) sh_102 rfl (f_lt (o := 102) (m := 155) (Nat.le_of_ble_eq_true rfl) hN) rfl ?_
  refine i_iload_n (pc' := 52) (f_at inc_98 (j := 29) rfl) rfl rfl ?_
  refine c_pi (pc' := 55) (c' := 0) (n' := 0) (h_virt (ra := [.int a1, .ref 108]) (r := [.int a2, .ref 121]) (as := [.int a1]) (f_at inc_98 (j := 30) rfl) (by decide) MT_79 rfl rfl rfl ⟨Nat.le_of_ble_eq_true rfl, Nat.le_of_ble_eq_true rfl, Nat.le_of_ble_eq_true rfl⟩ sh_108 (f_lt (o := 108) (m := 155) (Nat.le_of_ble_eq_true rfl) hN)) MT_79 (G_79 hN a1 m4) ⟨rfl, rfl, rfl⟩ fun t5 => ?_
  refine c_wv (pc' := 58) (c' := 0) (n' := 0) (h_virt (ra := [.int t5, .int a2, .ref 121]) (r := []) (as := [.int a2, .int t5]) (f_at inc_98 (j := 31) rfl) (by decide) MT_80 rfl rfl rfl ⟨Nat.le_of_ble_eq_true rfl, Nat.le_of_ble_eq_true rfl, Nat.le_of_ble_eq_true rfl⟩ sh_121 (f_lt (o := 121) (m := 155) (Nat.le_of_ble_eq_true rfl) hN)) MT_80 (G_80 hN 121 a2 t5 f_L121 m4) ⟨rfl, rfl, rfl⟩ fun t6 => ?_
  refine i_iload_n (pc' := 59) (f_at inc_98 (j := 32) rfl) rfl rfl ?_
  exact i_iret (f_at inc_98 (j := 33) rfl) rfl n_int
set_option maxRecDepth 4000 in
def g_99 (a1 : Int32) (a2 : Int32) (a3 : Int32) (a4 : Int32) (a5 : Int32) (a6 : Int32) (σ : f_M) : Option (Int32 × f_M) :=
  (g_97  σ).bind fun t1 =>
  (f_wr t1.2 111 20 t1.1 (1 : Int32)).bind fun m2 =>
  (f_wr m2 116 20 t1.1 a5).bind fun m3 =>
  (f_wr m3 117 20 t1.1 a6).bind fun m4 =>
  (g_98 t1.1 a1 a2 a3 a4 m4).bind fun t5 =>
  some (t5.1, t5.2)
set_option maxRecDepth 4000 in
theorem G_99 {xs : Nat → Int32} {L N : Nat} (hN : 155 ≤ N) (a1 : Int32) (a2 : Int32) (a3 : Int32) (a4 : Int32) (a5 : Int32) (a6 : Int32)  (σ : f_M) : f_Cal a_MT xs L N 99 [.ref 102, .int a1, .int a2, .int a3, .int a4, .int a5, .int a6] σ ((g_99 a1 a2 a3 a4 a5 a6 σ).bind fun t => some (e_wi t)) := by
  refine f_cal_of (ls := [.ref 102, .int a1, .int a2, .int a3, .int a4, .int a5, .int a6, a_dead]) MT_99 (Nat.le_of_ble_eq_true rfl) rfl ?_
  unfold g_99
  refine i_aload_n (pc' := 1) (f_at inc_99 (j := 0) rfl) rfl rfl ?_
  refine i_getR (pc' := 4) (f_at inc_99 (j := 1) rfl) sh_102 rfl (f_lt (o := 102) (m := 155) (Nat.le_of_ble_eq_true rfl) hN) rfl ?_
  refine c_wi (pc' := 7) (c' := 0) (n' := 0) (h_virt (ra := [.ref 121]) (r := []) (as := []) (f_at inc_99 (j := 2) rfl) (by decide) MT_97 rfl rfl rfl ⟨Nat.le_of_ble_eq_true rfl, Nat.le_of_ble_eq_true rfl, Nat.le_of_ble_eq_true rfl⟩ sh_121 (f_lt (o := 121) (m := 155) (Nat.le_of_ble_eq_true rfl) hN)) MT_97 (G_97 hN  σ) ⟨rfl, rfl, rfl⟩ fun t1 => ?_
  refine i_istore (pc' := 9) (ls' := [.ref 102, .int a1, .int a2, .int a3, .int a4, .int a5, .int a6, .int t1.1]) (f_at inc_99 (j := 3) rfl) (Nat.le_of_ble_eq_true rfl) rfl rfl ?_
  refine i_aload_n (pc' := 10) (f_at inc_99 (j := 4) rfl) rfl rfl ?_
  refine i_getR (pc' := 13) (f_at inc_99 (j := 5) rfl) sh_102 rfl (f_lt (o := 102) (m := 155) (Nat.le_of_ble_eq_true rfl) hN) rfl ?_
  refine i_getR (pc' := 16) (f_at inc_99 (j := 6) rfl) sh_108 rfl (f_lt (o := 108) (m := 155) (Nat.le_of_ble_eq_true rfl) hN) rfl ?_
  refine i_iload (pc' := 18) (f_at inc_99 (j := 7) rfl) rfl rfl ?_
  refine i_iconst (pc' := 19) (f_at inc_99 (j := 8) rfl) ci_1 rfl ?_
  refine i_bast (pc' := 20) (f_at inc_99 (j := 9) rfl) sh_111 (Or.inr rfl) (by decide) (f_lt (o := 111) (m := 155) (Nat.le_of_ble_eq_true rfl) hN) rfl fun m2 => ?_
  refine i_aload_n (pc' := 21) (f_at inc_99 (j := 10) rfl) rfl rfl ?_
  refine i_getR (pc' := 24) (f_at inc_99 (j := 11) rfl) sh_102 rfl (f_lt (o := 102) (m := 155) (Nat.le_of_ble_eq_true rfl) hN) rfl ?_
  refine i_getR (pc' := 27) (f_at inc_99 (j := 12) rfl) sh_108 rfl (f_lt (o := 108) (m := 155) (Nat.le_of_ble_eq_true rfl) hN) rfl ?_
  refine i_iload (pc' := 29) (f_at inc_99 (j := 13) rfl) rfl rfl ?_
  refine i_iload (pc' := 31) (f_at inc_99 (j := 14) rfl) rfl rfl ?_
  refine i_iast (pc' := 32) (f_at inc_99 (j := 15) rfl) sh_116 (f_lt (o := 116) (m := 155) (Nat.le_of_ble_eq_true rfl) hN) rfl fun m3 => ?_
  refine i_aload_n (pc' := 33) (f_at inc_99 (j := 16) rfl) rfl rfl ?_
  refine i_getR (pc' := 36) (f_at inc_99 (j := 17) rfl) sh_102 rfl (f_lt (o := 102) (m := 155) (Nat.le_of_ble_eq_true rfl) hN) rfl ?_
  refine i_getR (pc' := 39) (f_at inc_99 (j := 18) rfl) sh_108 rfl (f_lt (o := 108) (m := 155) (Nat.le_of_ble_eq_true rfl) hN) rfl ?_
  refine i_iload (pc' := 41) (f_at inc_99 (j := 19) rfl) rfl rfl ?_
  refine i_iload (pc' := 43) (f_at inc_99 (j := 20) rfl) rfl rfl ?_
  refine i_iast (pc' := 44) (f_at inc_99 (j := 21) rfl) sh_117 (f_lt (o := 117) (m := 155) (Nat.le_of_ble_eq_true rfl) hN) rfl fun m4 => ?_
  refine i_aload_n (pc' := 45) (f_at inc_99 (j := 22) rfl) rfl rfl ?_
  refine i_iload (pc' := 47) (f_at inc_99 (j := 23) rfl) rfl rfl ?_
  refine i_iload_n (pc' := 48) (f_at inc_99 (j := 24) rfl) rfl rfl ?_
  refine i_iload_n (pc' := 49) (f_at inc_99 (j := 25) rfl) rfl rfl ?_
  refine i_iload_n (pc' := 50) (f_at inc_99 (j := 26) rfl) rfl rfl ?_
  refine i_iload (pc' := 52) (f_at inc_99 (j := 27) rfl) rfl rfl ?_
  refine c_wi (pc' := 55) (c' := 0) (n' := 0) (h_virt (ra := [.int a4, .int a3, .int a2, .int a1, .int t1.1, .ref 102]) (r := []) (as := [.int t1.1, .int a1, .int a2, .int a3, .int a4]) (f_at inc_99 (j := 28) rfl) (by decide) MT_98 rfl rfl rfl ⟨Nat.le_of_ble_eq_true rfl, Nat.le_of_ble_eq_true rfl, Nat.le_of_ble_eq_true rfl⟩ sh_102 (f_lt (o := 102) (m := 155) (Nat.le_of_ble_eq_true rfl) hN)) MT_98 (G_98 hN t1.1 a1 a2 a3 a4 m4) ⟨rfl, rfl, rfl⟩ fun t5 => ?_
  exact i_iret (f_at inc_99 (j := 29) rfl) rfl n_int
set_option maxRecDepth 4000 in
def g_100 (a1 : Nat) (σ : f_M) : Option (Bool × f_M) :=
  (f_rd σ a1 7 (2 : Int32)).bind fun v1 =>
  if v1 < (σ 121 0) then (
   some (false, σ)
  ) else (
   (f_rd σ a1 7 (1 : Int32)).bind fun v2 =>
   (f_rd σ a1 7 (3 : Int32)).bind fun v3 =>
   (f_rd σ a1 7 (4 : Int32)).bind fun v4 =>
   (g_77 v3 v4 σ).bind fun t5 =>
   (g_96 v2 t5 σ).bind fun t6 =>
   if t6 = true then (
    (f_rd σ a1 7 (1 : Int32)).bind fun v7 =>
    (f_rd σ a1 7 (2 : Int32)).bind fun v8 =>
    (f_rd σ a1 7 (3 : Int32)).bind fun v9 =>
    (f_rd σ a1 7 (4 : Int32)).bind fun v10 =>
    (f_rd σ a1 7 (5 : Int32)).bind fun v11 =>
    (f_rd σ a1 7 (6 : Int32)).bind fun v12 =>
    (g_99 v7 v8 v9 v10 v11 v12 σ).bind fun t13 =>
    some (true, t13.2)
   ) else (
    some (false, σ)
   )
  )
set_option maxRecDepth 4000 in
theorem G_100 {xs : Nat → Int32} {L N : Nat} (hN : 155 ≤ N) (a1 : Nat) (ha1 : f_R a1) (σ : f_M) : f_Cal a_MT xs L N 100 [.ref 102, .ref a1] σ ((g_100 a1 σ).bind fun t => some (e_wb t)) := by
  refine f_cal_of (ls := [.ref 102, .ref a1]) MT_100 (Nat.le_of_ble_eq_true rfl) rfl ?_
  unfold g_100
  refine i_aload_n (pc' := 1) (f_at inc_100 (j := 0) rfl) rfl rfl ?_
  refine i_iconst (pc' := 2) (f_at inc_100 (j := 1) rfl) ci_2 rfl ?_
  refine i_iald (pc' := 3) (f_at inc_100 (j := 2) rfl) ha1.1 (f_bgR ha1) (f_ltR ha1 hN) rfl fun v1 => ?_
  refine i_aload_n (pc' := 4) (f_at inc_100 (j := 3) rfl) rfl rfl ?_
  refine i_getR (pc' := 7) (f_at inc_100 (j := 4) rfl) sh_102 rfl (f_lt (o := 102) (m := 155) (Nat.le_of_ble_eq_true rfl) hN) rfl ?_
  refine i_getI (pc' := 10) (f_at inc_100 (j := 5) rfl) sh_121 rfl (f_lt (o := 121) (m := 155) (Nat.le_of_ble_eq_true rfl) hN) rfl ?_
  refine i_if2 (pc' := 32) (nx := 13) c2_lt (f_at inc_100 (j := 6) rfl) ⟨by decide, rfl⟩ (fun b15 => ?_) (fun b15 => ?_)
  · refine i_iconst (pc' := 33) (f_at inc_100 (j := 20) rfl) ci_0 rfl ?_
    exact i_iret (v := f_b false) (f_at inc_100 (j := 21) rfl) rfl n_bool
  · refine i_aload_n (pc' := 14) (f_at inc_100 (j := 7) rfl) rfl rfl ?_
    refine i_aload_n (pc' := 15) (f_at inc_100 (j := 8) rfl) rfl rfl ?_
    refine i_iconst (pc' := 16) (f_at inc_100 (j := 9) rfl) ci_1 rfl ?_
    refine i_iald (pc' := 17) (f_at inc_100 (j := 10) rfl) ha1.1 (f_bgR ha1) (f_ltR ha1 hN) rfl fun v2 => ?_
    refine i_aload_n (pc' := 18) (f_at inc_100 (j := 11) rfl) rfl rfl ?_
    refine i_iconst (pc' := 19) (f_at inc_100 (j := 12) rfl) ci_3 rfl ?_
    refine i_iald (pc' := 20) (f_at inc_100 (j := 13) rfl) ha1.1 (f_bgR ha1) (f_ltR ha1 hN) rfl fun v3 => ?_
    refine i_aload_n (pc' := 21) (f_at inc_100 (j := 14) rfl) rfl rfl ?_
    refine i_iconst (pc' := 22) (f_at inc_100 (j := 15) rfl) ci_4 rfl ?_
    refine i_iald (pc' := 23) (f_at inc_100 (j := 16) rfl) ha1.1 (f_bgR ha1) (f_ltR ha1 hN) rfl fun v4 => ?_
    refine c_pi (pc' := 26) (c' := 0) (n' := 0) (h_stat (ra := [.int v4, .int v3]) (r := [.int v2, .ref 102]) (as := [.int v3, .int v4]) (f_at inc_100 (j := 17) rfl) (by decide) MT_77 rfl rfl rfl ⟨Nat.le_of_ble_eq_true rfl, Nat.le_of_ble_eq_true rfl, Nat.le_of_ble_eq_true rfl⟩) MT_77 (G_77 hN v3 v4 σ) ⟨rfl, rfl, rfl⟩ fun t5 => ?_
    refine c_pb (pc' := 29) (c' := 0) (n' := 0) (h_virt (ra := [.int t5, .int v2, .ref 102]) (r := []) (as := [.int v2, .int t5]) (f_at inc_100 (j := 18) rfl) (by decide) MT_96 rfl rfl rfl ⟨Nat.le_of_ble_eq_true rfl, Nat.le_of_ble_eq_true rfl, Nat.le_of_ble_eq_true rfl⟩ sh_102 (f_lt (o := 102) (m := 155) (Nat.le_of_ble_eq_true rfl) hN)) MT_96 (G_96 hN v2 t5 σ) ⟨rfl, rfl, rfl⟩ fun t6 => ?_
    refine i_if0 (pc' := 34) (nx := 32) cb_ne (f_at inc_100 (j := 19) rfl) ⟨by decide, rfl⟩ (fun b14 => ?_) (fun b14 => ?_)
    · refine i_aload_n (pc' := 35) (f_at inc_100 (j := 22) rfl) rfl rfl ?_
      refine i_aload_n (pc' := 36) (f_at inc_100 (j := 23) rfl) rfl rfl ?_
      refine i_iconst (pc' := 37) (f_at inc_100 (j := 24) rfl) ci_1 rfl ?_
      refine i_iald (pc' := 38) (f_at inc_100 (j := 25) rfl) ha1.1 (f_bgR ha1) (f_ltR ha1 hN) rfl fun v7 => ?_
      refine i_aload_n (pc' := 39) (f_at inc_100 (j := 26) rfl) rfl rfl ?_
      refine i_iconst (pc' := 40) (f_at inc_100 (j := 27) rfl) ci_2 rfl ?_
      refine i_iald (pc' := 41) (f_at inc_100 (j := 28) rfl) ha1.1 (f_bgR ha1) (f_ltR ha1 hN) rfl fun v8 => ?_
      refine i_aload_n (pc' := 42) (f_at inc_100 (j := 29) rfl) rfl rfl ?_
      refine i_iconst (pc' := 43) (f_at inc_100 (j := 30) rfl) ci_3 rfl ?_
      refine i_iald (pc' := 44) (f_at inc_100 (j := 31) rfl) ha1.1 (f_bgR ha1) (f_ltR ha1 hN) rfl fun v9 => ?_
      refine i_aload_n (pc' := 45) (f_at inc_100 (j := 32) rfl) rfl rfl ?_
      refine i_iconst (pc' := 46) (f_at inc_100 (j := 33) rfl) ci_4 rfl ?_
      refine i_iald (pc' := 47) (f_at inc_100 (j := 34) rfl) ha1.1 (f_bgR ha1) (f_ltR ha1 hN) rfl fun v10 => ?_
      refine i_aload_n (pc' := 48) (f_at inc_100 (j := 35) rfl) rfl rfl ?_
      refine i_iconst (pc' := 49) (f_at inc_100 (j := 36) rfl) ci_5 rfl ?_
      refine i_iald (pc' := 50) (f_at inc_100 (j := 37) rfl) ha1.1 (f_bgR ha1) (f_ltR ha1 hN) rfl fun v11 => ?_
      refine i_aload_n (pc' := 51) (f_at inc_100 (j := 38) rfl) rfl rfl ?_
      refine i_bipush (pc' := 53) (f_at inc_100 (j := 39) rfl) cb_6 rfl ?_
      refine i_iald (pc' := 54) (f_at inc_100 (j := 40) rfl) ha1.1 (f_bgR ha1) (f_ltR ha1 hN) rfl fun v12 => ?_
      refine c_wi (pc' := 57) (c' := 0) (n' := 0) (h_virt (ra := [.int v12, .int v11, .int v10, .int v9, .int v8, .int v7, .ref 102]) (r := []) (as := [.int v7, .int v8, .int v9, .int v10, .int v11, .int v12]) (f_at inc_100 (j := 41) rfl) (by decide) MT_99 rfl rfl rfl ⟨Nat.le_of_ble_eq_true rfl, Nat.le_of_ble_eq_true rfl, Nat.le_of_ble_eq_true rfl⟩ sh_102 (f_lt (o := 102) (m := 155) (Nat.le_of_ble_eq_true rfl) hN)) MT_99 (G_99 hN v7 v8 v9 v10 v11 v12 σ) ⟨rfl, rfl, rfl⟩ fun t13 => ?_
      refine i_pop (pc' := 58) (f_at inc_100 (j := 42) rfl) rfl rfl ?_
      refine i_iconst (pc' := 59) (f_at inc_100 (j := 43) rfl) ci_1 rfl ?_
      exact i_iret (v := f_b true) (f_at inc_100 (j := 44) rfl) rfl n_bool
    · refine i_iconst (pc' := 33) (f_at inc_100 (j := 20) rfl) ci_0 rfl ?_
      exact i_iret (v := f_b false) (f_at inc_100 (j := 21) rfl) rfl n_bool
set_option maxRecDepth 4000 in
def g_101 (a1 : Int32) (a2 : Int32) (a3 : Int32) (a4 : Int32) (a5 : Int32) (σ : f_M) : Option (Int32 × f_M) :=
  (g_97  σ).bind fun t1 =>
  (f_wr t1.2 111 20 t1.1 (0 : Int32)).bind fun m2 =>
  (f_wr m2 118 20 t1.1 a5).bind fun m3 =>
  (g_98 t1.1 a1 a2 a3 a4 m3).bind fun t4 =>
  some (t4.1, t4.2)
set_option maxRecDepth 4000 in
theorem G_101 {xs : Nat → Int32} {L N : Nat} (hN : 155 ≤ N) (a1 : Int32) (a2 : Int32) (a3 : Int32) (a4 : Int32) (a5 : Int32)  (σ : f_M) : f_Cal a_MT xs L N 101 [.ref 102, .int a1, .int a2, .int a3, .int a4, .int a5] σ ((g_101 a1 a2 a3 a4 a5 σ).bind fun t => some (e_wi t)) := by
  refine f_cal_of (ls := [.ref 102, .int a1, .int a2, .int a3, .int a4, .int a5, a_dead]) MT_101 (Nat.le_of_ble_eq_true rfl) rfl ?_
  unfold g_101
  refine i_aload_n (pc' := 1) (f_at inc_101 (j := 0) rfl) rfl rfl ?_
  refine i_getR (pc' := 4) (f_at inc_101 (j := 1) rfl) sh_102 rfl (f_lt (o := 102) (m := 155) (Nat.le_of_ble_eq_true rfl) hN) rfl ?_
  refine c_wi (pc' := 7) (c' := 0) (n' := 0) (h_virt (ra := [.ref 121]) (r := []) (as := []) (f_at inc_101 (j := 2) rfl) (by decide) MT_97 rfl rfl rfl ⟨Nat.le_of_ble_eq_true rfl, Nat.le_of_ble_eq_true rfl, Nat.le_of_ble_eq_true rfl⟩ sh_121 (f_lt (o := 121) (m := 155) (Nat.le_of_ble_eq_true rfl) hN)) MT_97 (G_97 hN  σ) ⟨rfl, rfl, rfl⟩ fun t1 => ?_
  refine i_istore (pc' := 9) (ls' := [.ref 102, .int a1, .int a2, .int a3, .int a4, .int a5, .int t1.1]) (f_at inc_101 (j := 3) rfl) (Nat.le_of_ble_eq_true rfl) rfl rfl ?_
  refine i_aload_n (pc' := 10) (f_at inc_101 (j := 4) rfl) rfl rfl ?_
  refine i_getR (pc' := 13) (f_at inc_101 (j := 5) rfl) sh_102 rfl (f_lt (o := 102) (m := 155) (Nat.le_of_ble_eq_true rfl) hN) rfl ?_
  refine i_getR (pc' := 16) (f_at inc_101 (j := 6) rfl) sh_108 rfl (f_lt (o := 108) (m := 155) (Nat.le_of_ble_eq_true rfl) hN) rfl ?_
  refine i_iload (pc' := 18) (f_at inc_101 (j := 7) rfl) rfl rfl ?_
  refine i_iconst (pc' := 19) (f_at inc_101 (j := 8) rfl) ci_0 rfl ?_
  refine i_bast (pc' := 20) (f_at inc_101 (j := 9) rfl) sh_111 (Or.inr rfl) (by decide) (f_lt (o := 111) (m := 155) (Nat.le_of_ble_eq_true rfl) hN) rfl fun m2 => ?_
  refine i_aload_n (pc' := 21) (f_at inc_101 (j := 10) rfl) rfl rfl ?_
  refine i_getR (pc' := 24) (f_at inc_101 (j := 11) rfl) sh_102 rfl (f_lt (o := 102) (m := 155) (Nat.le_of_ble_eq_true rfl) hN) rfl ?_
  refine i_getR (pc' := 27) (f_at inc_101 (j := 12) rfl) sh_108 rfl (f_lt (o := 108) (m := 155) (Nat.le_of_ble_eq_true rfl) hN) rfl ?_
  refine i_iload (pc' := 29) (f_at inc_101 (j := 13) rfl) rfl rfl ?_
  refine i_iload (pc' := 31) (f_at inc_101 (j := 14) rfl) rfl rfl ?_
  refine i_iast (pc' := 32) (f_at inc_101 (j := 15) rfl) sh_118 (f_lt (o := 118) (m := 155) (Nat.le_of_ble_eq_true rfl) hN) rfl fun m3 => ?_
  refine i_aload_n (pc' := 33) (f_at inc_101 (j := 16) rfl) rfl rfl ?_
  refine i_iload (pc' := 35) (f_at inc_101 (j := 17) rfl) rfl rfl ?_
  refine i_iload_n (pc' := 36) (f_at inc_101 (j := 18) rfl) rfl rfl ?_
  refine i_iload_n (pc' := 37) (f_at inc_101 (j := 19) rfl) rfl rfl ?_
  refine i_iload_n (pc' := 38) (f_at inc_101 (j := 20) rfl) rfl rfl ?_
  refine i_iload (pc' := 40) (f_at inc_101 (j := 21) rfl) rfl rfl ?_
  refine c_wi (pc' := 43) (c' := 0) (n' := 0) (h_virt (ra := [.int a4, .int a3, .int a2, .int a1, .int t1.1, .ref 102]) (r := []) (as := [.int t1.1, .int a1, .int a2, .int a3, .int a4]) (f_at inc_101 (j := 22) rfl) (by decide) MT_98 rfl rfl rfl ⟨Nat.le_of_ble_eq_true rfl, Nat.le_of_ble_eq_true rfl, Nat.le_of_ble_eq_true rfl⟩ sh_102 (f_lt (o := 102) (m := 155) (Nat.le_of_ble_eq_true rfl) hN)) MT_98 (G_98 hN t1.1 a1 a2 a3 a4 m3) ⟨rfl, rfl, rfl⟩ fun t4 => ?_
  exact i_iret (f_at inc_101 (j := 23) rfl) rfl n_int
set_option maxRecDepth 4000 in
def g_102 (a1 : Nat) (σ : f_M) : Option (Bool × f_M) :=
  (f_rd σ a1 7 (2 : Int32)).bind fun v1 =>
  if v1 < (σ 121 0) then (
   some (false, σ)
  ) else (
   (f_rd σ a1 7 (1 : Int32)).bind fun v2 =>
   (f_rd σ a1 7 (3 : Int32)).bind fun v3 =>
   (f_rd σ a1 7 (4 : Int32)).bind fun v4 =>
   (f_rd σ a1 7 (5 : Int32)).bind fun v5 =>
   (g_78 v3 v4 v5 σ).bind fun t6 =>
   (g_96 v2 t6 σ).bind fun t7 =>
   if t7 = true then (
    (f_rd σ a1 7 (1 : Int32)).bind fun v8 =>
    (f_rd σ a1 7 (2 : Int32)).bind fun v9 =>
    (f_rd σ a1 7 (3 : Int32)).bind fun v10 =>
    (f_rd σ a1 7 (4 : Int32)).bind fun v11 =>
    (f_rd σ a1 7 (5 : Int32)).bind fun v12 =>
    (g_101 v8 v9 v10 v11 v12 σ).bind fun t13 =>
    some (true, t13.2)
   ) else (
    some (false, σ)
   )
  )
set_option maxRecDepth 4000 in
theorem G_102 {xs : Nat → Int32} {L N : Nat} (hN : 155 ≤ N) (a1 : Nat) (ha1 : f_R a1) (σ : f_M) : f_Cal a_MT xs L N 102 [.ref 102, .ref a1] σ ((g_102 a1 σ).bind fun t => some (e_wb t)) := by
  refine f_cal_of (ls := [.ref 102, .ref a1]) MT_102 (Nat.le_of_ble_eq_true rfl) rfl ?_
  unfold g_102
  refine i_aload_n (pc' := 1) (f_at inc_102 (j := 0) rfl) rfl rfl ?_
  refine i_iconst (pc' := 2) (f_at inc_102 (j := 1) rfl) ci_2 rfl ?_
  refine i_iald (pc' := 3) (f_at inc_102 (j := 2) rfl) ha1.1 (f_bgR ha1) (f_ltR ha1 hN) rfl fun v1 => ?_
  refine i_aload_n (pc' := 4) (f_at inc_102 (j := 3) rfl) rfl rfl ?_
  refine i_getR (pc' := 7) (f_at inc_102 (j := 4) rfl) sh_102 rfl (f_lt (o := 102) (m := 155) (Nat.le_of_ble_eq_true rfl) hN) rfl ?_
  refine i_getI (pc' := 10) (f_at inc_102 (j := 5) rfl) sh_121 rfl (f_lt (o := 121) (m := 155) (Nat.le_of_ble_eq_true rfl) hN) rfl ?_
  refine i_if2 (pc' := 35) (nx := 13) c2_lt (f_at inc_102 (j := 6) rfl) ⟨by decide, rfl⟩ (fun b15 => ?_) (fun b15 => ?_)
  · refine i_iconst (pc' := 36) (f_at inc_102 (j := 23) rfl) ci_0 rfl ?_
    exact i_iret (v := f_b false) (f_at inc_102 (j := 24) rfl) rfl n_bool
  · refine i_aload_n (pc' := 14) (f_at inc_102 (j := 7) rfl) rfl rfl ?_
    refine i_aload_n (pc' := 15) (f_at inc_102 (j := 8) rfl) rfl rfl ?_
    refine i_iconst (pc' := 16) (f_at inc_102 (j := 9) rfl) ci_1 rfl ?_
    refine i_iald (pc' := 17) (f_at inc_102 (j := 10) rfl) ha1.1 (f_bgR ha1) (f_ltR ha1 hN) rfl fun v2 => ?_
    refine i_aload_n (pc' := 18) (f_at inc_102 (j := 11) rfl) rfl rfl ?_
    refine i_iconst (pc' := 19) (f_at inc_102 (j := 12) rfl) ci_3 rfl ?_
    refine i_iald (pc' := 20) (f_at inc_102 (j := 13) rfl) ha1.1 (f_bgR ha1) (f_ltR ha1 hN) rfl fun v3 => ?_
    refine i_aload_n (pc' := 21) (f_at inc_102 (j := 14) rfl) rfl rfl ?_
    refine i_iconst (pc' := 22) (f_at inc_102 (j := 15) rfl) ci_4 rfl ?_
    refine i_iald (pc' := 23) (f_at inc_102 (j := 16) rfl) ha1.1 (f_bgR ha1) (f_ltR ha1 hN) rfl fun v4 => ?_
    refine i_aload_n (pc' := 24) (f_at inc_102 (j := 17) rfl) rfl rfl ?_
    refine i_iconst (pc' := 25) (f_at inc_102 (j := 18) rfl) ci_5 rfl ?_
    refine i_iald (pc' := 26) (f_at inc_102 (j := 19) rfl) ha1.1 (f_bgR ha1) (f_ltR ha1 hN) rfl fun v5 => ?_
    refine c_pi (pc' := 29) (c' := 0) (n' := 0) (h_stat (ra := [.int v5, .int v4, .int v3]) (r := [.int v2, .ref 102]) (as := [.int v3, .int v4, .int v5]) (f_at inc_102 (j := 20) rfl) (by decide) MT_78 rfl rfl rfl ⟨Nat.le_of_ble_eq_true rfl, Nat.le_of_ble_eq_true rfl, Nat.le_of_ble_eq_true rfl⟩) MT_78 (G_78 hN v3 v4 v5 σ) ⟨rfl, rfl, rfl⟩ fun t6 => ?_
    refine c_pb (pc' := 32) (c' := 0) (n' := 0) (h_virt (ra := [.int t6, .int v2, .ref 102]) (r := []) (as := [.int v2, .int t6]) (f_at inc_102 (j := 21) rfl) (by decide) MT_96 rfl rfl rfl ⟨Nat.le_of_ble_eq_true rfl, Nat.le_of_ble_eq_true rfl, Nat.le_of_ble_eq_true rfl⟩ sh_102 (f_lt (o := 102) (m := 155) (Nat.le_of_ble_eq_true rfl) hN)) MT_96 (G_96 hN v2 t6 σ) ⟨rfl, rfl, rfl⟩ fun t7 => ?_
    refine i_if0 (pc' := 37) (nx := 35) cb_ne (f_at inc_102 (j := 22) rfl) ⟨by decide, rfl⟩ (fun b14 => ?_) (fun b14 => ?_)
    · refine i_aload_n (pc' := 38) (f_at inc_102 (j := 25) rfl) rfl rfl ?_
      refine i_aload_n (pc' := 39) (f_at inc_102 (j := 26) rfl) rfl rfl ?_
      refine i_iconst (pc' := 40) (f_at inc_102 (j := 27) rfl) ci_1 rfl ?_
      refine i_iald (pc' := 41) (f_at inc_102 (j := 28) rfl) ha1.1 (f_bgR ha1) (f_ltR ha1 hN) rfl fun v8 => ?_
      refine i_aload_n (pc' := 42) (f_at inc_102 (j := 29) rfl) rfl rfl ?_
      refine i_iconst (pc' := 43) (f_at inc_102 (j := 30) rfl) ci_2 rfl ?_
      refine i_iald (pc' := 44) (f_at inc_102 (j := 31) rfl) ha1.1 (f_bgR ha1) (f_ltR ha1 hN) rfl fun v9 => ?_
      refine i_aload_n (pc' := 45) (f_at inc_102 (j := 32) rfl) rfl rfl ?_
      refine i_iconst (pc' := 46) (f_at inc_102 (j := 33) rfl) ci_3 rfl ?_
      refine i_iald (pc' := 47) (f_at inc_102 (j := 34) rfl) ha1.1 (f_bgR ha1) (f_ltR ha1 hN) rfl fun v10 => ?_
      refine i_aload_n (pc' := 48) (f_at inc_102 (j := 35) rfl) rfl rfl ?_
      refine i_iconst (pc' := 49) (f_at inc_102 (j := 36) rfl) ci_4 rfl ?_
      refine i_iald (pc' := 50) (f_at inc_102 (j := 37) rfl) ha1.1 (f_bgR ha1) (f_ltR ha1 hN) rfl fun v11 => ?_
      refine i_aload_n (pc' := 51) (f_at inc_102 (j := 38) rfl) rfl rfl ?_
      refine i_iconst (pc' := 52) (f_at inc_102 (j := 39) rfl) ci_5 rfl ?_
      refine i_iald (pc' := 53) (f_at inc_102 (j := 40) rfl) ha1.1 (f_bgR ha1) (f_ltR ha1 hN) rfl fun v12 => ?_
      refine c_wi (pc' := 56) (c' := 0) (n' := 0) (h_virt (ra := [.int v12, .int v11, .int v10, .int v9, .int v8, .ref 102]) (r := []) (as := [.int v8, .int v9, .int v10, .int v11, .int v12]) (f_at inc_102 (j := 41) rfl) (by decide) MT_101 rfl rfl rfl ⟨Nat.le_of_ble_eq_true rfl, Nat.le_of_ble_eq_true rfl, Nat.le_of_ble_eq_true rfl⟩ sh_102 (f_lt (o := 102) (m := 155) (Nat.le_of_ble_eq_true rfl) hN)) MT_101 (G_101 hN v8 v9 v10 v11 v12 σ) ⟨rfl, rfl, rfl⟩ fun t13 => ?_
      refine i_pop (pc' := 57) (f_at inc_102 (j := 42) rfl) rfl rfl ?_
      refine i_iconst (pc' := 58) (f_at inc_102 (j := 43) rfl) ci_1 rfl ?_
      exact i_iret (v := f_b true) (f_at inc_102 (j := 44) rfl) rfl n_bool
    · refine i_iconst (pc' := 36) (f_at inc_102 (j := 23) rfl) ci_0 rfl ?_
      exact i_iret (v := f_b false) (f_at inc_102 (j := 24) rfl) rfl n_bool
set_option maxRecDepth 4000 in
def g_103 (a1 : Int32) (a2 : Int32) (σ : f_M) : Option (Bool) :=
  (f_rd σ 112 20 a1).bind fun v1 =>
  (f_rd σ 112 20 a2).bind fun v2 =>
  (
   if ¬ v1 = v2 then (
    some false
   ) else (
    (f_rd σ 111 20 a1).bind fun v4 =>
    (f_rd σ 111 20 a2).bind fun v5 =>
    if ¬ v4 = v5 then (
     some false
    ) else (
     (f_rd σ 113 20 a1).bind fun v6 =>
     (f_rd σ 113 20 a2).bind fun v7 =>
     if ¬ v6 = v7 then (
      some false
     ) else (
      some true
     )
    )
   )
  ).bind fun (t3 : Bool) =>
  some t3
set_option maxRecDepth 4000 in
theorem G_103 {xs : Nat → Int32} {L N : Nat} (hN : 155 ≤ N) (a1 : Int32) (a2 : Int32)  (σ : f_M) : f_Cal a_MT xs L N 103 [.ref 102, .int a1, .int a2] σ ((g_103 a1 a2 σ).bind fun t => some (e_pb σ t)) := by
  refine f_cal_of (ls := [.ref 102, .int a1, .int a2]) MT_103 (Nat.le_of_ble_eq_true rfl) rfl ?_
  unfold g_103
  refine i_aload_n (pc' := 1) (f_at inc_103 (j := 0) rfl) rfl rfl ?_
  refine i_getR (pc' := 4) (f_at inc_103 (j := 1) rfl) sh_102 rfl (f_lt (o := 102) (m := 155) (Nat.le_of_ble_eq_true rfl) hN) rfl ?_
  refine i_getR (pc' := 7) (f_at inc_103 (j := 2) rfl) sh_108 rfl (f_lt (o := 108) (m := 155) (Nat.le_of_ble_eq_true rfl) hN) rfl ?_
  refine i_iload_n (pc' := 8) (f_at inc_103 (j := 3) rfl) rfl rfl ?_
  refine i_iald (pc' := 9) (f_at inc_103 (j := 4) rfl) sh_112 (f_bg (Nat.le_of_ble_eq_true rfl)) (f_lt (o := 112) (m := 155) (Nat.le_of_ble_eq_true rfl) hN) rfl fun v1 => ?_
  refine i_aload_n (pc' := 10) (f_at inc_103 (j := 5) rfl) rfl rfl ?_
  refine i_getR (pc' := 13) (f_at inc_103 (j := 6) rfl) sh_102 rfl (f_lt (o := 102) (m := 155) (Nat.le_of_ble_eq_true rfl) hN) rfl ?_
  refine i_getR (pc' := 16) (f_at inc_103 (j := 7) rfl) sh_108 rfl (f_lt (o := 108) (m := 155) (Nat.le_of_ble_eq_true rfl) hN) rfl ?_
  refine i_iload_n (pc' := 17) (f_at inc_103 (j := 8) rfl) rfl rfl ?_
  refine i_iald (pc' := 18) (f_at inc_103 (j := 9) rfl) sh_112 (f_bg (Nat.le_of_ble_eq_true rfl)) (f_lt (o := 112) (m := 155) (Nat.le_of_ble_eq_true rfl) hN) rfl fun v2 => ?_
  refine s_join (J := 68) (fun (t3 : Bool) (u3 : Unit) => [.ref 102, .int a1, .int a2]) (fun t3 => [.int (f_b t3)]) (fun t3 => σ) ?_ ?_
  · intro t3 u3
    exact i_iret (v := f_b t3) (f_at inc_103 (j := 36) rfl) rfl n_bool
  · intro k3 hj3
    refine i_if2 (pc' := 67) (nx := 21) c2_ne (f_at inc_103 (j := 10) rfl) ⟨by decide, rfl⟩ (fun b10 => ?_) (fun b10 => ?_)
    · refine i_iconst (pc' := 68) (f_at inc_103 (j := 35) rfl) ci_0 rfl ?_
      exact hj3 false ()
    · refine i_aload_n (pc' := 22) (f_at inc_103 (j := 11) rfl) rfl rfl ?_
      refine i_getR (pc' := 25) (f_at inc_103 (j := 12) rfl) sh_102 rfl (f_lt (o := 102) (m := 155) (Nat.le_of_ble_eq_true rfl) hN) rfl ?_
      refine i_getR (pc' := 28) (f_at inc_103 (j := 13) rfl) sh_108 rfl (f_lt (o := 108) (m := 155) (Nat.le_of_ble_eq_true rfl) hN) rfl ?_
      refine i_iload_n (pc' := 29) (f_at inc_103 (j := 14) rfl) rfl rfl ?_
      refine i_bald (pc' := 30) (f_at inc_103 (j := 15) rfl) sh_111 (Or.inr rfl) (f_bg (Nat.le_of_ble_eq_true rfl)) (f_lt (o := 111) (m := 155) (Nat.le_of_ble_eq_true rfl) hN) rfl fun v4 => ?_
      refine i_aload_n (pc' := 31) (f_at inc_103 (j := 16) rfl) rfl rfl ?_
      refine i_getR (pc' := 34) (f_at inc_103 (j := 17) rfl) sh_102 rfl (f_lt (o := 102) (m := 155) (Nat.le_of_ble_eq_true rfl) hN) rfl ?_
      refine i_getR (pc' := 37) (f_at inc_103 (j := 18) rfl) sh_108 rfl (f_lt (o := 108) (m := 155) (Nat.le_of_ble_eq_true rfl) hN) rfl ?_
      refine i_iload_n (pc' := 38) (f_at inc_103 (j := 19) rfl) rfl rfl ?_
      refine i_bald (pc' := 39) (f_at inc_103 (j := 20) rfl) sh_111 (Or.inr rfl) (f_bg (Nat.le_of_ble_eq_true rfl)) (f_lt (o := 111) (m := 155) (Nat.le_of_ble_eq_true rfl) hN) rfl fun v5 => ?_
      refine i_if2 (pc' := 67) (nx := 42) c2_ne (f_at inc_103 (j := 21) rfl) ⟨by decide, rfl⟩ (fun b9 => ?_) (fun b9 => ?_)
      · refine i_iconst (pc' := 68) (f_at inc_103 (j := 35) rfl) ci_0 rfl ?_
        exact hj3 false ()
      · refine i_aload_n (pc' := 43) (f_at inc_103 (j := 22) rfl) rfl rfl ?_
        refine i_getR (pc' := 46) (f_at inc_103 (j := 23) rfl) sh_102 rfl (f_lt (o := 102) (m := 155) (Nat.le_of_ble_eq_true rfl) hN) rfl ?_
        refine i_getR (pc' := 49) (f_at inc_103 (j := 24) rfl) sh_108 rfl (f_lt (o := 108) (m := 155) (Nat.le_of_ble_eq_true rfl) hN) rfl ?_
        refine i_iload_n (pc' := 50) (f_at inc_103 (j := 25) rfl) rfl rfl ?_
        refine i_iald (pc' := 51) (f_at inc_103 (j := 26) rfl) sh_113 (f_bg (Nat.le_of_ble_eq_true rfl)) (f_lt (o := 113) (m := 155) (Nat.le_of_ble_eq_true rfl) hN) rfl fun v6 => ?_
        refine i_aload_n (pc' := 52) (f_at inc_103 (j := 27) rfl) rfl rfl ?_
        refine i_getR (pc' := 55) (f_at inc_103 (j := 28) rfl) sh_102 rfl (f_lt (o := 102) (m := 155) (Nat.le_of_ble_eq_true rfl) hN) rfl ?_
        refine i_getR (pc' := 58) (f_at inc_103 (j := 29) rfl) sh_108 rfl (f_lt (o := 108) (m := 155) (Nat.le_of_ble_eq_true rfl) hN) rfl ?_
        refine i_iload_n (pc' := 59) (f_at inc_103 (j := 30) rfl) rfl rfl ?_
        refine i_iald (pc' := 60) (f_at inc_103 (j := 31) rfl) sh_113 (f_bg (Nat.le_of_ble_eq_true rfl)) (f_lt (o := 113) (m := 155) (Nat.le_of_ble_eq_true rfl) hN) rfl fun v7 => ?_
        refine i_if2 (pc' := 67) (nx := 63) c2_ne (f_at inc_103 (j := 32) rfl) ⟨by decide, rfl⟩ (fun b8 => ?_) (fun b8 => ?_)
        · refine i_iconst (pc' := 68) (f_at inc_103 (j := 35) rfl) ci_0 rfl ?_
          exact hj3 false ()
        · refine i_iconst (pc' := 64) (f_at inc_103 (j := 33) rfl) ci_1 rfl ?_
          refine i_goto (pc' := 68) (f_at inc_103 (j := 34) rfl) (by decide) ?_
          exact hj3 true ()
set_option maxRecDepth 4000 in
def g_104 (a1 : Int32) (σ : f_M) : Option (Int32) :=
  (f_lp (fun (s1 : Int32 × Int32) =>
   if (σ 121 5) ≤ s1.2 then (
    some (.inr s1.1)
   ) else (
    (f_rd σ 119 20 s1.2).bind fun v2 =>
    if ¬ v2 = a1 then (
     (g_103 v2 a1 σ).bind fun t3 =>
     (
      if t3 = false then (
       some s1.1
      ) else (
       some (5 : Int32)
      )
     ).bind fun (t4 : Int32) =>
     some (.inl (t4, (s1.2 + (1 : Int32))))
    ) else (
     some (.inr (4 : Int32))
    )
   )
  ) f_F ((0 : Int32), (0 : Int32))).bind fun (r1 : Int32) => some r1
set_option maxRecDepth 4000 in
theorem G_104 {xs : Nat → Int32} {L N : Nat} (hN : 155 ≤ N) (a1 : Int32)  (σ : f_M) : f_Cal a_MT xs L N 104 [.ref 102, .int a1] σ ((g_104 a1 σ).bind fun t => some (e_pi σ t)) := by
  refine f_cal_of (ls := [.ref 102, .int a1, a_dead, a_dead, a_dead]) MT_104 (Nat.le_of_ble_eq_true rfl) rfl ?_
  unfold g_104
  refine i_iconst (pc' := 1) (f_at inc_104 (j := 0) rfl) ci_0 rfl ?_
  refine i_istore_n (pc' := 2) (ls' := [.ref 102, .int a1, .int (0 : Int32), a_dead, a_dead]) (f_at inc_104 (j := 1) rfl) (Nat.le_of_ble_eq_true rfl) rfl rfl ?_
  refine i_iconst (pc' := 3) (f_at inc_104 (j := 2) rfl) ci_0 rfl ?_
  refine i_istore_n (pc' := 4) (ls' := [.ref 102, .int a1, .int (0 : Int32), .int (0 : Int32), a_dead]) (f_at inc_104 (j := 3) rfl) (Nat.le_of_ble_eq_true rfl) rfl rfl ?_
  refine s_lR ((0 : Int32), (0 : Int32)) (a_dead) (fun (s1 : Int32 × Int32) (u1 : Value) => [.ref 102, .int a1, .int s1.1, .int s1.2, u1]) (fun (s1 : Int32 × Int32) => σ) ?_
  intro s1 u1 k1 hb1 hr1
  refine i_iload_n (pc' := 5) (f_at inc_104 (j := 4) rfl) rfl rfl ?_
  refine i_aload_n (pc' := 6) (f_at inc_104 (j := 5) rfl) rfl rfl ?_
  refine i_getR (pc' := 9) (f_at inc_104 (j := 6) rfl) sh_102 rfl (f_lt (o := 102) (m := 155) (Nat.le_of_ble_eq_true rfl) hN) rfl ?_
  refine i_getI (pc' := 12) (f_at inc_104 (j := 7) rfl) sh_121 rfl (f_lt (o := 121) (m := 155) (Nat.le_of_ble_eq_true rfl) hN) rfl ?_
  refine i_if2 (pc' := 52) (nx := 15) c2_ge (f_at inc_104 (j := 8) rfl) ⟨by decide, rfl⟩ (fun b7 => ?_) (fun b7 => ?_)
  · refine i_iload_n (pc' := 53) (f_at inc_104 (j := 29) rfl) rfl rfl ?_
    refine s_rt (hr1 _) ?_
    exact i_iret (f_at inc_104 (j := 30) rfl) rfl n_int
  · refine i_aload_n (pc' := 16) (f_at inc_104 (j := 9) rfl) rfl rfl ?_
    refine i_getR (pc' := 19) (f_at inc_104 (j := 10) rfl) sh_102 rfl (f_lt (o := 102) (m := 155) (Nat.le_of_ble_eq_true rfl) hN) rfl ?_
    refine i_getR (pc' := 22) (f_at inc_104 (j := 11) rfl) sh_108 rfl (f_lt (o := 108) (m := 155) (Nat.le_of_ble_eq_true rfl) hN) rfl ?_
    refine i_iload_n (pc' := 23) (f_at inc_104 (j := 12) rfl) rfl rfl ?_
    refine i_iald (pc' := 24) (f_at inc_104 (j := 13) rfl) sh_119 (f_bg (Nat.le_of_ble_eq_true rfl)) (f_lt (o := 119) (m := 155) (Nat.le_of_ble_eq_true rfl) hN) rfl fun v2 => ?_
    refine i_istore (pc' := 26) (ls' := [.ref 102, .int a1, .int s1.1, .int s1.2, .int v2]) (f_at inc_104 (j := 14) rfl) (Nat.le_of_ble_eq_true rfl) rfl rfl ?_
    refine i_iload (pc' := 28) (f_at inc_104 (j := 15) rfl) rfl rfl ?_
    refine i_iload_n (pc' := 29) (f_at inc_104 (j := 16) rfl) rfl rfl ?_
    refine i_if2 (pc' := 34) (nx := 32) c2_ne (f_at inc_104 (j := 17) rfl) ⟨by decide, rfl⟩ (fun b6 => ?_) (fun b6 => ?_)
    · refine i_aload_n (pc' := 35) (f_at inc_104 (j := 20) rfl) rfl rfl ?_
      refine i_iload (pc' := 37) (f_at inc_104 (j := 21) rfl) rfl rfl ?_
      refine i_iload_n (pc' := 38) (f_at inc_104 (j := 22) rfl) rfl rfl ?_
      refine c_pb (pc' := 41) (c' := 0) (n' := 0) (h_virt (ra := [.int a1, .int v2, .ref 102]) (r := []) (as := [.int v2, .int a1]) (f_at inc_104 (j := 23) rfl) (by decide) MT_103 rfl rfl rfl ⟨Nat.le_of_ble_eq_true rfl, Nat.le_of_ble_eq_true rfl, Nat.le_of_ble_eq_true rfl⟩ sh_102 (f_lt (o := 102) (m := 155) (Nat.le_of_ble_eq_true rfl) hN)) MT_103 (G_103 hN v2 a1 σ) ⟨rfl, rfl, rfl⟩ fun t3 => ?_
      refine s_join (J := 46) (fun (t4 : Int32) (u4 : Unit) => [.ref 102, .int a1, .int t4, .int s1.2, .int v2]) (fun t4 => []) (fun t4 => σ) ?_ ?_
      · intro t4 u4
        refine i_iinc (pc' := 49) (ls' := [.ref 102, .int a1, .int t4, .int (s1.2 + (1 : Int32)), .int v2]) (f_at inc_104 (j := 27) rfl) rfl ci_1 rfl rfl ?_
        refine i_goto (pc' := 4) (f_at inc_104 (j := 28) rfl) (by decide) ?_
        exact hb1 (t4, (s1.2 + (1 : Int32))) (.int v2)
      · intro k4 hj4
        refine i_if0 (pc' := 46) (nx := 44) cb_eq (f_at inc_104 (j := 24) rfl) ⟨by decide, rfl⟩ (fun b5 => ?_) (fun b5 => ?_)
        · exact hj4 s1.1 ()
        · refine i_iconst (pc' := 45) (f_at inc_104 (j := 25) rfl) ci_5 rfl ?_
          refine i_istore_n (pc' := 46) (ls' := [.ref 102, .int a1, .int (5 : Int32), .int s1.2, .int v2]) (f_at inc_104 (j := 26) rfl) (Nat.le_of_ble_eq_true rfl) rfl rfl ?_
          exact hj4 (5 : Int32) ()
    · refine i_iconst (pc' := 33) (f_at inc_104 (j := 18) rfl) ci_4 rfl ?_
      refine s_rt (hr1 _) ?_
      exact i_iret (f_at inc_104 (j := 19) rfl) rfl n_int
set_option maxRecDepth 4000 in
def g_105 (a1 : Int32) (σ : f_M) : Option (Int32) :=
  (g_75 a1 σ).bind fun t1 =>
  (f_rd σ 123 20 a1).bind fun v2 =>
  if v2 = 0 then (
   if t1 ≤ (σ 121 0) then (
    if (σ 121 0) ≤ (t1 + (72 : Int32)) then (
     (g_104 a1 σ).bind fun t3 =>
     some t3
    ) else (
     some (3 : Int32)
    )
   ) else (
    some (2 : Int32)
   )
  ) else (
   some (1 : Int32)
  )
set_option maxRecDepth 4000 in
theorem G_105 {xs : Nat → Int32} {L N : Nat} (hN : 155 ≤ N) (a1 : Int32)  (σ : f_M) : f_Cal a_MT xs L N 105 [.ref 102, .int a1] σ ((g_105 a1 σ).bind fun t => some (e_pi σ t)) := by
  refine f_cal_of (ls := [.ref 102, .int a1, a_dead]) MT_105 (Nat.le_of_ble_eq_true rfl) rfl ?_
  unfold g_105
  refine i_aload_n (pc' := 1) (f_at inc_105 (j := 0) rfl) rfl rfl ?_
  refine i_getR (pc' := 4) (f_at inc_105 (j := 1) rfl) sh_102 rfl (f_lt (o := 102) (m := 155) (Nat.le_of_ble_eq_true rfl) hN) rfl ?_
  refine i_iload_n (pc' := 5) (f_at inc_105 (j := 2) rfl) rfl rfl ?_
  refine c_pi (pc' := 8) (c' := 0) (n' := 0) (h_virt (ra := [.int a1, .ref 108]) (r := []) (as := [.int a1]) (f_at inc_105 (j := 3) rfl) (by decide) MT_75 rfl rfl rfl ⟨Nat.le_of_ble_eq_true rfl, Nat.le_of_ble_eq_true rfl, Nat.le_of_ble_eq_true rfl⟩ sh_108 (f_lt (o := 108) (m := 155) (Nat.le_of_ble_eq_true rfl) hN)) MT_75 (G_75 hN a1 σ) ⟨rfl, rfl, rfl⟩ fun t1 => ?_
  refine i_istore_n (pc' := 9) (ls' := [.ref 102, .int a1, .int t1]) (f_at inc_105 (j := 4) rfl) (Nat.le_of_ble_eq_true rfl) rfl rfl ?_
  refine i_aload_n (pc' := 10) (f_at inc_105 (j := 5) rfl) rfl rfl ?_
  refine i_getR (pc' := 13) (f_at inc_105 (j := 6) rfl) sh_102 rfl (f_lt (o := 102) (m := 155) (Nat.le_of_ble_eq_true rfl) hN) rfl ?_
  refine i_getR (pc' := 16) (f_at inc_105 (j := 7) rfl) sh_121 rfl (f_lt (o := 121) (m := 155) (Nat.le_of_ble_eq_true rfl) hN) rfl ?_
  refine i_iload_n (pc' := 17) (f_at inc_105 (j := 8) rfl) rfl rfl ?_
  refine i_bald (pc' := 18) (f_at inc_105 (j := 9) rfl) sh_123 (Or.inr rfl) (f_bg (Nat.le_of_ble_eq_true rfl)) (f_lt (o := 123) (m := 155) (Nat.le_of_ble_eq_true rfl) hN) rfl fun v2 => ?_
  refine i_if0 (pc' := 23) (nx := 21) c0_eq (f_at inc_105 (j := 10) rfl) ⟨by decide, rfl⟩ (fun b6 => ?_) (fun b6 => ?_)
  · refine i_aload_n (pc' := 24) (f_at inc_105 (j := 13) rfl) rfl rfl ?_
    refine i_getR (pc' := 27) (f_at inc_105 (j := 14) rfl) sh_102 rfl (f_lt (o := 102) (m := 155) (Nat.le_of_ble_eq_true rfl) hN) rfl ?_
    refine i_getI (pc' := 30) (f_at inc_105 (j := 15) rfl) sh_121 rfl (f_lt (o := 121) (m := 155) (Nat.le_of_ble_eq_true rfl) hN) rfl ?_
    refine i_iload_n (pc' := 31) (f_at inc_105 (j := 16) rfl) rfl rfl ?_
    refine i_if2 (pc' := 36) (nx := 34) c2_ge (f_at inc_105 (j := 17) rfl) ⟨by decide, rfl⟩ (fun b5 => ?_) (fun b5 => ?_)
    · refine i_aload_n (pc' := 37) (f_at inc_105 (j := 20) rfl) rfl rfl ?_
      refine i_getR (pc' := 40) (f_at inc_105 (j := 21) rfl) sh_102 rfl (f_lt (o := 102) (m := 155) (Nat.le_of_ble_eq_true rfl) hN) rfl ?_
      refine i_getI (pc' := 43) (f_at inc_105 (j := 22) rfl) sh_121 rfl (f_lt (o := 121) (m := 155) (Nat.le_of_ble_eq_true rfl) hN) rfl ?_
      refine i_iload_n (pc' := 44) (f_at inc_105 (j := 23) rfl) rfl rfl ?_
      refine i_bipush (pc' := 46) (f_at inc_105 (j := 24) rfl) cb_72 rfl ?_
      refine i_iadd (pc' := 47) (f_at inc_105 (j := 25) rfl) rfl ?_
      refine i_if2 (pc' := 52) (nx := 50) c2_le (f_at inc_105 (j := 26) rfl) ⟨by decide, rfl⟩ (fun b4 => ?_) (fun b4 => ?_)
      · refine i_aload_n (pc' := 53) (f_at inc_105 (j := 29) rfl) rfl rfl ?_
        refine i_iload_n (pc' := 54) (f_at inc_105 (j := 30) rfl) rfl rfl ?_
        refine c_pi (pc' := 57) (c' := 0) (n' := 0) (h_virt (ra := [.int a1, .ref 102]) (r := []) (as := [.int a1]) (f_at inc_105 (j := 31) rfl) (by decide) MT_104 rfl rfl rfl ⟨Nat.le_of_ble_eq_true rfl, Nat.le_of_ble_eq_true rfl, Nat.le_of_ble_eq_true rfl⟩ sh_102 (f_lt (o := 102) (m := 155) (Nat.le_of_ble_eq_true rfl) hN)) MT_104 (G_104 hN a1 σ) ⟨rfl, rfl, rfl⟩ fun t3 => ?_
        exact i_iret (f_at inc_105 (j := 32) rfl) rfl n_int
      · refine i_iconst (pc' := 51) (f_at inc_105 (j := 27) rfl) ci_3 rfl ?_
        exact i_iret (f_at inc_105 (j := 28) rfl) rfl n_int
    · refine i_iconst (pc' := 35) (f_at inc_105 (j := 18) rfl) ci_2 rfl ?_
      exact i_iret (f_at inc_105 (j := 19) rfl) rfl n_int
  · refine i_iconst (pc' := 22) (f_at inc_105 (j := 11) rfl) ci_1 rfl ?_
    exact i_iret (f_at inc_105 (j := 12) rfl) rfl n_int
set_option maxRecDepth 4000 in
def g_106 (a1 : Int32) (σ : f_M) : Option (Int32) :=
  (f_lp (fun (s1 : Int32 × Int32) =>
   if (σ 121 5) ≤ s1.2 then (
    some (.inr s1.1)
   ) else (
    (g_83 s1.2 a1 σ).bind fun t2 =>
    (
     if t2 = false then (
      some s1.1
     ) else (
      some (s1.1 + (1 : Int32))
     )
    ).bind fun (t3 : Int32) =>
    some (.inl (t3, (s1.2 + (1 : Int32))))
   )
  ) f_F ((0 : Int32), (0 : Int32))).bind fun (x1 : Int32) =>
  some x1
set_option maxRecDepth 4000 in
theorem G_106 {xs : Nat → Int32} {L N : Nat} (hN : 155 ≤ N) (a1 : Int32)  (σ : f_M) : f_Cal a_MT xs L N 106 [.ref 102, .int a1] σ ((g_106 a1 σ).bind fun t => some (e_pi σ t)) := by
  refine f_cal_of (ls := [.ref 102, .int a1, a_dead, a_dead]) MT_106 (Nat.le_of_ble_eq_true rfl) rfl ?_
  unfold g_106
  refine i_iconst (pc' := 1) (f_at inc_106 (j := 0) rfl) ci_0 rfl ?_
  refine i_istore_n (pc' := 2) (ls' := [.ref 102, .int a1, .int (0 : Int32), a_dead]) (f_at inc_106 (j := 1) rfl) (Nat.le_of_ble_eq_true rfl) rfl rfl ?_
  refine i_iconst (pc' := 3) (f_at inc_106 (j := 2) rfl) ci_0 rfl ?_
  refine i_istore_n (pc' := 4) (ls' := [.ref 102, .int a1, .int (0 : Int32), .int (0 : Int32)]) (f_at inc_106 (j := 3) rfl) (Nat.le_of_ble_eq_true rfl) rfl rfl ?_
  refine s_lX (X := 33) ((0 : Int32), (0 : Int32)) () (fun (s1 : Int32 × Int32) (u1 : Unit) => [.ref 102, .int a1, .int s1.1, .int s1.2]) (fun (s1 : Int32 × Int32) => σ) (fun (x1 : Int32) (w1 : Value) => [.ref 102, .int a1, .int x1, w1]) (fun (x1 : Int32) => σ) ?_ ?_
  · intro x1 w1
    refine i_iload_n (pc' := 34) (f_at inc_106 (j := 17) rfl) rfl rfl ?_
    exact i_iret (f_at inc_106 (j := 18) rfl) rfl n_int
  · intro s1 u1 k1 hb1 hx1
    refine i_iload_n (pc' := 5) (f_at inc_106 (j := 4) rfl) rfl rfl ?_
    refine i_aload_n (pc' := 6) (f_at inc_106 (j := 5) rfl) rfl rfl ?_
    refine i_getR (pc' := 9) (f_at inc_106 (j := 6) rfl) sh_102 rfl (f_lt (o := 102) (m := 155) (Nat.le_of_ble_eq_true rfl) hN) rfl ?_
    refine i_getI (pc' := 12) (f_at inc_106 (j := 7) rfl) sh_121 rfl (f_lt (o := 121) (m := 155) (Nat.le_of_ble_eq_true rfl) hN) rfl ?_
    refine i_if2 (pc' := 33) (nx := 15) c2_ge (f_at inc_106 (j := 8) rfl) ⟨by decide, rfl⟩ (fun b5 => ?_) (fun b5 => ?_)
    · exact hx1 s1.1 (.int s1.2)
    · refine i_aload_n (pc' := 16) (f_at inc_106 (j := 9) rfl) rfl rfl ?_
      refine i_iload_n (pc' := 17) (f_at inc_106 (j := 10) rfl) rfl rfl ?_
      refine i_iload_n (pc' := 18) (f_at inc_106 (j := 11) rfl) rfl rfl ?_
      refine c_pb (pc' := 21) (c' := 0) (n' := 0) (h_virt (ra := [.int a1, .int s1.2, .ref 102]) (r := []) (as := [.int s1.2, .int a1]) (f_at inc_106 (j := 12) rfl) (by decide) MT_83 rfl rfl rfl ⟨Nat.le_of_ble_eq_true rfl, Nat.le_of_ble_eq_true rfl, Nat.le_of_ble_eq_true rfl⟩ sh_102 (f_lt (o := 102) (m := 155) (Nat.le_of_ble_eq_true rfl) hN)) MT_83 (G_83 hN s1.2 a1 σ) ⟨rfl, rfl, rfl⟩ fun t2 => ?_
      refine s_join (J := 27) (fun (t3 : Int32) (u3 : Unit) => [.ref 102, .int a1, .int t3, .int s1.2]) (fun t3 => []) (fun t3 => σ) ?_ ?_
      · intro t3 u3
        refine i_iinc (pc' := 30) (ls' := [.ref 102, .int a1, .int t3, .int (s1.2 + (1 : Int32))]) (f_at inc_106 (j := 15) rfl) rfl ci_1 rfl rfl ?_
        refine i_goto (pc' := 4) (f_at inc_106 (j := 16) rfl) (by decide) ?_
        exact hb1 (t3, (s1.2 + (1 : Int32))) ()
      · intro k3 hj3
        refine i_if0 (pc' := 27) (nx := 24) cb_eq (f_at inc_106 (j := 13) rfl) ⟨by decide, rfl⟩ (fun b4 => ?_) (fun b4 => ?_)
        · exact hj3 s1.1 ()
        · refine i_iinc (pc' := 27) (ls' := [.ref 102, .int a1, .int (s1.1 + (1 : Int32)), .int s1.2]) (f_at inc_106 (j := 14) rfl) rfl ci_1 rfl rfl ?_
          exact hj3 (s1.1 + (1 : Int32)) ()
set_option maxRecDepth 4000 in
def g_107  (σ : f_M) : Option (Int32) :=
  (f_lp (fun (s1 : Int32 × Int32) =>
   if (σ 103 4) ≤ s1.2 then (
    some (.inr s1.1)
   ) else (
    (g_106 s1.2 σ).bind fun t2 =>
    (g_106 s1.1 σ).bind fun t3 =>
    (
     if t3 ≤ t2 then (
      some s1.1
     ) else (
      some s1.2
     )
    ).bind fun (t4 : Int32) =>
    some (.inl (t4, (s1.2 + (1 : Int32))))
   )
  ) f_F ((0 : Int32), (1 : Int32))).bind fun (x1 : Int32) =>
  some x1
set_option maxRecDepth 4000 in
theorem G_107 {xs : Nat → Int32} {L N : Nat} (hN : 155 ≤ N)   (σ : f_M) : f_Cal a_MT xs L N 107 [.ref 102] σ ((g_107  σ).bind fun t => some (e_pi σ t)) := by
  refine f_cal_of (ls := [.ref 102, a_dead, a_dead]) MT_107 (Nat.le_of_ble_eq_true rfl) rfl ?_
  unfold g_107
  refine i_iconst (pc' := 1) (f_at inc_107 (j := 0) rfl) ci_0 rfl ?_
  refine i_istore_n (pc' := 2) (ls' := [.ref 102, .int (0 : Int32), a_dead]) (f_at inc_107 (j := 1) rfl) (Nat.le_of_ble_eq_true rfl) rfl rfl ?_
  refine i_iconst (pc' := 3) (f_at inc_107 (j := 2) rfl) ci_1 rfl ?_
  refine i_istore_n (pc' := 4) (ls' := [.ref 102, .int (0 : Int32), .int (1 : Int32)]) (f_at inc_107 (j := 3) rfl) (Nat.le_of_ble_eq_true rfl) rfl rfl ?_
  refine s_lX (X := 36) ((0 : Int32), (1 : Int32)) () (fun (s1 : Int32 × Int32) (u1 : Unit) => [.ref 102, .int s1.1, .int s1.2]) (fun (s1 : Int32 × Int32) => σ) (fun (x1 : Int32) (w1 : Value) => [.ref 102, .int x1, w1]) (fun (x1 : Int32) => σ) ?_ ?_
  · intro x1 w1
    refine i_iload_n (pc' := 37) (f_at inc_107 (j := 20) rfl) rfl rfl ?_
    exact i_iret (f_at inc_107 (j := 21) rfl) rfl n_int
  · intro s1 u1 k1 hb1 hx1
    refine i_iload_n (pc' := 5) (f_at inc_107 (j := 4) rfl) rfl rfl ?_
    refine i_aload_n (pc' := 6) (f_at inc_107 (j := 5) rfl) rfl rfl ?_
    refine i_getR (pc' := 9) (f_at inc_107 (j := 6) rfl) sh_102 rfl (f_lt (o := 102) (m := 155) (Nat.le_of_ble_eq_true rfl) hN) rfl ?_
    refine i_getI (pc' := 12) (f_at inc_107 (j := 7) rfl) sh_103 rfl (f_lt (o := 103) (m := 155) (Nat.le_of_ble_eq_true rfl) hN) rfl ?_
    refine i_if2 (pc' := 36) (nx := 15) c2_ge (f_at inc_107 (j := 8) rfl) ⟨by decide, rfl⟩ (fun b6 => ?_) (fun b6 => ?_)
    · exact hx1 s1.1 (.int s1.2)
    · refine i_aload_n (pc' := 16) (f_at inc_107 (j := 9) rfl) rfl rfl ?_
      refine i_iload_n (pc' := 17) (f_at inc_107 (j := 10) rfl) rfl rfl ?_
      refine c_pi (pc' := 20) (c' := 0) (n' := 0) (h_virt (ra := [.int s1.2, .ref 102]) (r := []) (as := [.int s1.2]) (f_at inc_107 (j := 11) rfl) (by decide) MT_106 rfl rfl rfl ⟨Nat.le_of_ble_eq_true rfl, Nat.le_of_ble_eq_true rfl, Nat.le_of_ble_eq_true rfl⟩ sh_102 (f_lt (o := 102) (m := 155) (Nat.le_of_ble_eq_true rfl) hN)) MT_106 (G_106 hN s1.2 σ) ⟨rfl, rfl, rfl⟩ fun t2 => ?_
      refine i_aload_n (pc' := 21) (f_at inc_107 (j := 12) rfl) rfl rfl ?_
      refine i_iload_n (pc' := 22) (f_at inc_107 (j := 13) rfl) rfl rfl ?_
      refine c_pi (pc' := 25) (c' := 0) (n' := 0) (h_virt (ra := [.int s1.1, .ref 102]) (r := [.int t2]) (as := [.int s1.1]) (f_at inc_107 (j := 14) rfl) (by decide) MT_106 rfl rfl rfl ⟨Nat.le_of_ble_eq_true rfl, Nat.le_of_ble_eq_true rfl, Nat.le_of_ble_eq_true rfl⟩ sh_102 (f_lt (o := 102) (m := 155) (Nat.le_of_ble_eq_true rfl) hN)) MT_106 (G_106 hN s1.1 σ) ⟨rfl, rfl, rfl⟩ fun t3 => ?_
      refine s_join (J := 30) (fun (t4 : Int32) (u4 : Unit) => [.ref 102, .int t4, .int s1.2]) (fun t4 => []) (fun t4 => σ) ?_ ?_
      · intro t4 u4
        refine i_iinc (pc' := 33) (ls' := [.ref 102, .int t4, .int (s1.2 + (1 : Int32))]) (f_at inc_107 (j := 18) rfl) rfl ci_1 rfl rfl ?_
        refine i_goto (pc' := 4) (f_at inc_107 (j := 19) rfl) (by decide) ?_
        exact hb1 (t4, (s1.2 + (1 : Int32))) ()
      · intro k4 hj4
        refine i_if2 (pc' := 30) (nx := 28) c2_ge (f_at inc_107 (j := 15) rfl) ⟨by decide, rfl⟩ (fun b5 => ?_) (fun b5 => ?_)
        · exact hj4 s1.1 ()
        · refine i_iload_n (pc' := 29) (f_at inc_107 (j := 16) rfl) rfl rfl ?_
          refine i_istore_n (pc' := 30) (ls' := [.ref 102, .int s1.2, .int s1.2]) (f_at inc_107 (j := 17) rfl) (Nat.le_of_ble_eq_true rfl) rfl rfl ?_
          exact hj4 s1.2 ()
set_option maxRecDepth 4000 in
def g_108  (σ : f_M) : Option (Int32 × f_M) :=
  (f_wr σ 124 20 (σ 121 5) (0 : Int32)).bind fun m1 =>
  (f_wr m1 125 20 (m1 121 5) (0 : Int32)).bind fun m2 =>
  (f_wr m2 126 20 (m2 121 5) (0 : Int32)).bind fun m3 =>
  some ((((f_up m3 121 5 ((m3 121 5) + (1 : Int32))) 121 5) - (1 : Int32)), (f_up m3 121 5 ((m3 121 5) + (1 : Int32))))
set_option maxRecDepth 4000 in
theorem G_108 {xs : Nat → Int32} {L N : Nat} (hN : 155 ≤ N)   (σ : f_M) : f_Cal a_MT xs L N 108 [.ref 121] σ ((g_108  σ).bind fun t => some (e_wi t)) := by
  refine f_cal_of (ls := [.ref 121]) MT_108 (Nat.le_of_ble_eq_true rfl) rfl ?_
  unfold g_108
  refine i_aload_n (pc' := 1) (f_at inc_108 (j := 0) rfl) rfl rfl ?_
  refine i_getR (pc' := 4) (f_at inc_108 (j := 1) rfl) sh_121 rfl (f_lt (o := 121) (m := 155) (Nat.le_of_ble_eq_true rfl) hN) rfl ?_
  refine i_aload_n (pc' := 5) (f_at inc_108 (j := 2) rfl) rfl rfl ?_
  refine i_getI (pc' := 8) (f_at inc_108 (j := 3) rfl) sh_121 rfl (f_lt (o := 121) (m := 155) (Nat.le_of_ble_eq_true rfl) hN) rfl ?_
  refine i_iconst (pc' := 9) (f_at inc_108 (j := 4) rfl) ci_0 rfl ?_
  refine i_iast (pc' := 10) (f_at inc_108 (j := 5) rfl) sh_124 (f_lt (o := 124) (m := 155) (Nat.le_of_ble_eq_true rfl) hN) rfl fun m1 => ?_
  refine i_aload_n (pc' := 11) (f_at inc_108 (j := 6) rfl) rfl rfl ?_
  refine i_getR (pc' := 14) (f_at inc_108 (j := 7) rfl) sh_121 rfl (f_lt (o := 121) (m := 155) (Nat.le_of_ble_eq_true rfl) hN) rfl ?_
  refine i_aload_n (pc' := 15) (f_at inc_108 (j := 8) rfl) rfl rfl ?_
  refine i_getI (pc' := 18) (f_at inc_108 (j := 9) rfl) sh_121 rfl (f_lt (o := 121) (m := 155) (Nat.le_of_ble_eq_true rfl) hN) rfl ?_
  refine i_iconst (pc' := 19) (f_at inc_108 (j := 10) rfl) ci_0 rfl ?_
  refine i_iast (pc' := 20) (f_at inc_108 (j := 11) rfl) sh_125 (f_lt (o := 125) (m := 155) (Nat.le_of_ble_eq_true rfl) hN) rfl fun m2 => ?_
  refine i_aload_n (pc' := 21) (f_at inc_108 (j := 12) rfl) rfl rfl ?_
  refine i_getR (pc' := 24) (f_at inc_108 (j := 13) rfl) sh_121 rfl (f_lt (o := 121) (m := 155) (Nat.le_of_ble_eq_true rfl) hN) rfl ?_
  refine i_aload_n (pc' := 25) (f_at inc_108 (j := 14) rfl) rfl rfl ?_
  refine i_getI (pc' := 28) (f_at inc_108 (j := 15) rfl) sh_121 rfl (f_lt (o := 121) (m := 155) (Nat.le_of_ble_eq_true rfl) hN) rfl ?_
  refine i_iconst (pc' := 29) (f_at inc_108 (j := 16) rfl) ci_0 rfl ?_
  refine i_iast (pc' := 30) (f_at inc_108 (j := 17) rfl) sh_126 (f_lt (o := 126) (m := 155) (Nat.le_of_ble_eq_true rfl) hN) rfl fun m3 => ?_
  refine i_aload_n (pc' := 31) (f_at inc_108 (j := 18) rfl) rfl rfl ?_
  refine i_dup (pc' := 32) (f_at inc_108 (j := 19) rfl) rfl rfl ?_
  refine i_getI (pc' := 35) (f_at inc_108 (j := 20) rfl) sh_121 rfl (f_lt (o := 121) (m := 155) (Nat.le_of_ble_eq_true rfl) hN) rfl ?_
  refine i_iconst (pc' := 36) (f_at inc_108 (j := 21) rfl) ci_1 rfl ?_
  refine i_iadd (pc' := 37) (f_at inc_108 (j := 22) rfl) rfl ?_
  refine i_putI (pc' := 40) (f_at inc_108 (j := 23) rfl) sh_121 rfl ⟨rfl, rfl⟩ (f_lt (o := 121) (m := 155) (Nat.le_of_ble_eq_true rfl) hN) rfl ?_
  refine i_aload_n (pc' := 41) (f_at inc_108 (j := 24) rfl) rfl rfl ?_
  refine i_getI (pc' := 44) (f_at inc_108 (j := 25) rfl) sh_121 rfl (f_lt (o := 121) (m := 155) (Nat.le_of_ble_eq_true rfl) hN) rfl ?_
  refine i_iconst (pc' := 45) (f_at inc_108 (j := 26) rfl) ci_1 rfl ?_
  refine i_isub (pc' := 46) (f_at inc_108 (j := 27) rfl) rfl ?_
  exact i_iret (f_at inc_108 (j := 28) rfl) rfl n_int
set_option maxRecDepth 4000 in
def g_109 (a1 : Int32) (σ : f_M) : Option (Int32 × f_M) :=
  (g_107  σ).bind fun t1 =>
  (g_108  σ).bind fun t2 =>
  (f_wr t2.2 119 20 t2.1 a1).bind fun m3 =>
  (f_wr m3 120 20 t2.1 t1).bind fun m4 =>
  some (t2.1, m4)
set_option maxRecDepth 4000 in
theorem G_109 {xs : Nat → Int32} {L N : Nat} (hN : 155 ≤ N) (a1 : Int32)  (σ : f_M) : f_Cal a_MT xs L N 109 [.ref 102, .int a1] σ ((g_109 a1 σ).bind fun t => some (e_wi t)) := by
  refine f_cal_of (ls := [.ref 102, .int a1, a_dead, a_dead]) MT_109 (Nat.le_of_ble_eq_true rfl) rfl ?_
  unfold g_109
  refine i_aload_n (pc' := 1) (f_at inc_109 (j := 0) rfl) rfl rfl ?_
  refine c_pi (pc' := 4) (c' := 0) (n' := 0) (h_virt (ra := [.ref 102]) (r := []) (as := []) (f_at inc_109 (j := 1) rfl) (by decide) MT_107 rfl rfl rfl ⟨Nat.le_of_ble_eq_true rfl, Nat.le_of_ble_eq_true rfl, Nat.le_of_ble_eq_true rfl⟩ sh_102 (f_lt (o := 102) (m := 155) (Nat.le_of_ble_eq_true rfl) hN)) MT_107 (G_107 hN  σ) ⟨rfl, rfl, rfl⟩ fun t1 => ?_
  refine i_istore_n (pc' := 5) (ls' := [.ref 102, .int a1, .int t1, a_dead]) (f_at inc_109 (j := 2) rfl) (Nat.le_of_ble_eq_true rfl) rfl rfl ?_
  refine i_aload_n (pc' := 6) (f_at inc_109 (j := 3) rfl) rfl rfl ?_
  refine i_getR (pc' := 9) (f_at inc_109 (j := 4) rfl) sh_102 rfl (f_lt (o := 102) (m := 155) (Nat.le_of_ble_eq_true rfl) hN) rfl ?_
  refine c_wi (pc' := 12) (c' := 0) (n' := 0) (h_virt (ra := [.ref 121]) (r := []) (as := []) (f_at inc_109 (j := 5) rfl) (by decide) MT_108 rfl rfl rfl ⟨Nat.le_of_ble_eq_true rfl, Nat.le_of_ble_eq_true rfl, Nat.le_of_ble_eq_true rfl⟩ sh_121 (f_lt (o := 121) (m := 155) (Nat.le_of_ble_eq_true rfl) hN)) MT_108 (G_108 hN  σ) ⟨rfl, rfl, rfl⟩ fun t2 => ?_
  refine i_istore_n (pc' := 13) (ls' := [.ref 102, .int a1, .int t1, .int t2.1]) (f_at inc_109 (j := 6) rfl) (Nat.le_of_ble_eq_true rfl) rfl rfl ?_
  refine i_aload_n (pc' := 14) (f_at inc_109 (j := 7) rfl) rfl rfl ?_
  refine i_getR (pc' := 17) (f_at inc_109 (j := 8) rfl) sh_102 rfl (f_lt (o := 102) (m := 155) (Nat.le_of_ble_eq_true rfl) hN) rfl ?_
  refine i_getR (pc' := 20) (f_at inc_109 (j := 9) rfl) sh_108 rfl (f_lt (o := 108) (m := 155) (Nat.le_of_ble_eq_true rfl) hN) rfl ?_
  refine i_iload_n (pc' := 21) (f_at inc_109 (j := 10) rfl) rfl rfl ?_
  refine i_iload_n (pc' := 22) (f_at inc_109 (j := 11) rfl) rfl rfl ?_
  refine i_iast (pc' := 23) (f_at inc_109 (j := 12) rfl) sh_119 (f_lt (o := 119) (m := 155) (Nat.le_of_ble_eq_true rfl) hN) rfl fun m3 => ?_
  refine i_aload_n (pc' := 24) (f_at inc_109 (j := 13) rfl) rfl rfl ?_
  refine i_getR (pc' := 27) (f_at inc_109 (j := 14) rfl) sh_102 rfl (f_lt (o := 102) (m := 155) (Nat.le_of_ble_eq_true rfl) hN) rfl ?_
  refine i_getR (pc' := 30) (f_at inc_109 (j := 15) rfl) sh_108 rfl (f_lt (o := 108) (m := 155) (Nat.le_of_ble_eq_true rfl) hN) rfl ?_
  refine i_iload_n (pc' := 31) (f_at inc_109 (j := 16) rfl) rfl rfl ?_
  refine i_iload_n (pc' := 32) (f_at inc_109 (j := 17) rfl) rfl rfl ?_
  refine i_iast (pc' := 33) (f_at inc_109 (j := 18) rfl) sh_120 (f_lt (o := 120) (m := 155) (Nat.le_of_ble_eq_true rfl) hN) rfl fun m4 => ?_
  refine i_iload_n (pc' := 34) (f_at inc_109 (j := 19) rfl) rfl rfl ?_
  exact i_iret (f_at inc_109 (j := 20) rfl) rfl n_int
set_option maxRecDepth 4000 in
def g_110 (a1 : Int32) (σ : f_M) : Option (Bool × f_M) :=
  if (σ 121 3) ≤ a1 then (
   some (false, σ)
  ) else (
   (g_105 a1 σ).bind fun t1 =>
   if t1 = 0 then (
    (g_109 a1 σ).bind fun t2 =>
    some (true, t2.2)
   ) else (
    some (false, σ)
   )
  )
set_option maxRecDepth 4000 in
theorem G_110 {xs : Nat → Int32} {L N : Nat} (hN : 155 ≤ N) (a1 : Int32)  (σ : f_M) : f_Cal a_MT xs L N 110 [.ref 102, .int a1] σ ((g_110 a1 σ).bind fun t => some (e_wb t)) := by
  refine f_cal_of (ls := [.ref 102, .int a1]) MT_110 (Nat.le_of_ble_eq_true rfl) rfl ?_
  unfold g_110
  refine i_iload_n (pc' := 1) (f_at inc_110 (j := 0) rfl) rfl rfl ?_
  refine i_aload_n (pc' := 2) (f_at inc_110 (j := 1) rfl) rfl rfl ?_
  refine i_getR (pc' := 5) (f_at inc_110 (j := 2) rfl) sh_102 rfl (f_lt (o := 102) (m := 155) (Nat.le_of_ble_eq_true rfl) hN) rfl ?_
  refine i_getI (pc' := 8) (f_at inc_110 (j := 3) rfl) sh_121 rfl (f_lt (o := 121) (m := 155) (Nat.le_of_ble_eq_true rfl) hN) rfl ?_
  refine i_if2 (pc' := 19) (nx := 11) c2_ge (f_at inc_110 (j := 4) rfl) ⟨by decide, rfl⟩ (fun b4 => ?_) (fun b4 => ?_)
  · refine i_iconst (pc' := 20) (f_at inc_110 (j := 9) rfl) ci_0 rfl ?_
    exact i_iret (v := f_b false) (f_at inc_110 (j := 10) rfl) rfl n_bool
  · refine i_aload_n (pc' := 12) (f_at inc_110 (j := 5) rfl) rfl rfl ?_
    refine i_iload_n (pc' := 13) (f_at inc_110 (j := 6) rfl) rfl rfl ?_
    refine c_pi (pc' := 16) (c' := 0) (n' := 0) (h_virt (ra := [.int a1, .ref 102]) (r := []) (as := [.int a1]) (f_at inc_110 (j := 7) rfl) (by decide) MT_105 rfl rfl rfl ⟨Nat.le_of_ble_eq_true rfl, Nat.le_of_ble_eq_true rfl, Nat.le_of_ble_eq_true rfl⟩ sh_102 (f_lt (o := 102) (m := 155) (Nat.le_of_ble_eq_true rfl) hN)) MT_105 (G_105 hN a1 σ) ⟨rfl, rfl, rfl⟩ fun t1 => ?_
    refine i_if0 (pc' := 21) (nx := 19) c0_eq (f_at inc_110 (j := 8) rfl) ⟨by decide, rfl⟩ (fun b3 => ?_) (fun b3 => ?_)
    · refine i_aload_n (pc' := 22) (f_at inc_110 (j := 11) rfl) rfl rfl ?_
      refine i_iload_n (pc' := 23) (f_at inc_110 (j := 12) rfl) rfl rfl ?_
      refine c_wi (pc' := 26) (c' := 0) (n' := 0) (h_virt (ra := [.int a1, .ref 102]) (r := []) (as := [.int a1]) (f_at inc_110 (j := 13) rfl) (by decide) MT_109 rfl rfl rfl ⟨Nat.le_of_ble_eq_true rfl, Nat.le_of_ble_eq_true rfl, Nat.le_of_ble_eq_true rfl⟩ sh_102 (f_lt (o := 102) (m := 155) (Nat.le_of_ble_eq_true rfl) hN)) MT_109 (G_109 hN a1 σ) ⟨rfl, rfl, rfl⟩ fun t2 => ?_
      refine i_pop (pc' := 27) (f_at inc_110 (j := 14) rfl) rfl rfl ?_
      refine i_iconst (pc' := 28) (f_at inc_110 (j := 15) rfl) ci_1 rfl ?_
      exact i_iret (v := f_b true) (f_at inc_110 (j := 16) rfl) rfl n_bool
    · refine i_iconst (pc' := 20) (f_at inc_110 (j := 9) rfl) ci_0 rfl ?_
      exact i_iret (v := f_b false) (f_at inc_110 (j := 10) rfl) rfl n_bool
set_option maxRecDepth 4000 in
def g_111 (a1 : Int32) (a2 : Int32) (σ : f_M) : Option (Int32 × f_M) :=
  (f_rd σ 122 8 a1).bind fun v1 =>
  (f_wr σ 122 8 a1 (v1 + a2)).bind fun m2 =>
  (f_rd (f_up m2 121 14 ((m2 121 14) + a2)) 122 8 a1).bind fun v3 =>
  some (v3, (f_up m2 121 14 ((m2 121 14) + a2)))
set_option maxRecDepth 4000 in
theorem G_111 {xs : Nat → Int32} {L N : Nat} (hN : 155 ≤ N) (a1 : Int32) (a2 : Int32)  (σ : f_M) : f_Cal a_MT xs L N 111 [.ref 121, .int a1, .int a2] σ ((g_111 a1 a2 σ).bind fun t => some (e_wi t)) := by
  refine f_cal_of (ls := [.ref 121, .int a1, .int a2]) MT_111 (Nat.le_of_ble_eq_true rfl) rfl ?_
  unfold g_111
  refine i_aload_n (pc' := 1) (f_at inc_111 (j := 0) rfl) rfl rfl ?_
  refine i_getR (pc' := 4) (f_at inc_111 (j := 1) rfl) sh_121 rfl (f_lt (o := 121) (m := 155) (Nat.le_of_ble_eq_true rfl) hN) rfl ?_
  refine i_iload_n (pc' := 5) (f_at inc_111 (j := 2) rfl) rfl rfl ?_
  refine i_dup2 (pc' := 6) (f_at inc_111 (j := 3) rfl) ⟨rfl, rfl⟩ rfl ?_
  refine i_iald (pc' := 7) (f_at inc_111 (j := 4) rfl) sh_122 (f_bg (Nat.le_of_ble_eq_true rfl)) (f_lt (o := 122) (m := 155) (Nat.le_of_ble_eq_true rfl) hN) rfl fun v1 => ?_
  refine i_iload_n (pc' := 8) (f_at inc_111 (j := 5) rfl) rfl rfl ?_
  refine i_iadd (pc' := 9) (f_at inc_111 (j := 6) rfl) rfl ?_
  refine i_iast (pc' := 10) (f_at inc_111 (j := 7) rfl) sh_122 (f_lt (o := 122) (m := 155) (Nat.le_of_ble_eq_true rfl) hN) rfl fun m2 => ?_
  refine i_aload_n (pc' := 11) (f_at inc_111 (j := 8) rfl) rfl rfl ?_
  refine i_dup (pc' := 12) (f_at inc_111 (j := 9) rfl) rfl rfl ?_
  refine i_getI (pc' := 15) (f_at inc_111 (j := 10) rfl) sh_121 rfl (f_lt (o := 121) (m := 155) (Nat.le_of_ble_eq_true rfl) hN) rfl ?_
  refine i_iload_n (pc' := 16) (f_at inc_111 (j := 11) rfl) rfl rfl ?_
  refine i_iadd (pc' := 17) (f_at inc_111 (j := 12) rfl) rfl ?_
  refine i_putI (pc' := 20) (f_at inc_111 (j := 13) rfl) sh_121 rfl ⟨rfl, rfl⟩ (f_lt (o := 121) (m := 155) (Nat.le_of_ble_eq_true rfl) hN) rfl ?_
  refine i_aload_n (pc' := 21) (f_at inc_111 (j := 14) rfl) rfl rfl ?_
  refine i_getR (pc' := 24) (f_at inc_111 (j := 15) rfl) sh_121 rfl (f_lt (o := 121) (m := 155) (Nat.le_of_ble_eq_true rfl) hN) rfl ?_
  refine i_iload_n (pc' := 25) (f_at inc_111 (j := 16) rfl) rfl rfl ?_
  refine i_iald (pc' := 26) (f_at inc_111 (j := 17) rfl) sh_122 (f_bg (Nat.le_of_ble_eq_true rfl)) (f_lt (o := 122) (m := 155) (Nat.le_of_ble_eq_true rfl) hN) rfl fun v3 => ?_
  exact i_iret (f_at inc_111 (j := 18) rfl) rfl n_int
set_option maxRecDepth 4000 in
def g_112 (a1 : Int32) (σ : f_M) : Option (Bool × f_M) :=
  (f_ix 30 a1).bind fun v1 =>
  (f_rd σ (12 + v1) 7 (0 : Int32)).bind fun v2 =>
  if v2 = (0 : Int32) then (
   (g_95 (12 + v1) σ).bind fun t3 =>
   some (t3.1, t3.2)
  ) else
  if v2 = (1 : Int32) then (
   (g_100 (12 + v1) σ).bind fun t5 =>
   some (t5.1, t5.2)
  ) else
  if v2 = (2 : Int32) then (
   (g_102 (12 + v1) σ).bind fun t7 =>
   some (t7.1, t7.2)
  ) else
  if v2 = (3 : Int32) then (
   (f_rd σ (12 + v1) 7 (1 : Int32)).bind fun v9 =>
   (g_110 v9 σ).bind fun t10 =>
   some (t10.1, t10.2)
  ) else
  (
   (f_rd σ (12 + v1) 7 (1 : Int32)).bind fun v12 =>
   (f_rd σ (12 + v1) 7 (2 : Int32)).bind fun v13 =>
   (g_111 v12 v13 σ).bind fun t14 =>
   some (true, t14.2)
  )
set_option maxRecDepth 4000 in
theorem G_112 {xs : Nat → Int32} {L N : Nat} (hN : 155 ≤ N) (a1 : Int32)  (σ : f_M) : f_Cal a_MT xs L N 112 [.ref 10, .int a1, .ref 102] σ ((g_112 a1 σ).bind fun t => some (e_wb t)) := by
  refine f_cal_of (ls := [.ref 10, .int a1, .ref 102, a_dead]) MT_112 (Nat.le_of_ble_eq_true rfl) rfl ?_
  unfold g_112
  refine i_aload_n (pc' := 1) (f_at inc_112 (j := 0) rfl) rfl rfl ?_
  refine i_getR (pc' := 4) (f_at inc_112 (j := 1) rfl) sh_10 rfl (f_lt (o := 10) (m := 155) (Nat.le_of_ble_eq_true rfl) hN) rfl ?_
  refine i_iload_n (pc' := 5) (f_at inc_112 (j := 2) rfl) rfl rfl ?_
  refine i_kald (pc' := 6) (f_at inc_112 (j := 3) rfl) sh_11 rfl f_gR (f_bg (Nat.le_of_ble_eq_true rfl)) (f_lt (o := 11) (m := 155) (Nat.le_of_ble_eq_true rfl) hN) rfl fun v1 hv1 => ?_
  refine i_astore_n (pc' := 7) (ls' := [.ref 10, .int a1, .ref 102, .ref (12 + v1)]) (f_at inc_112 (j := 4) rfl) (Nat.le_of_ble_eq_true rfl) rfl rfl ?_
  refine i_aload_n (pc' := 8) (f_at inc_112 (j := 5) rfl) rfl rfl ?_
  refine i_iconst (pc' := 9) (f_at inc_112 (j := 6) rfl) ci_0 rfl ?_
  refine i_iald (pc' := 10) (f_at inc_112 (j := 7) rfl) (f_Rk _ hv1).1 (f_bgR (f_Rk _ hv1)) (f_ltR (f_Rk _ hv1) hN) rfl fun v2 => ?_
  refine i_cas (fun b4 => ?_) (fun b4 => ?_)
  · refine i_sw (pc' := 40) (v := (0 : Int32)) (f_at inc_112 (j := 8) rfl) b4 ⟨by decide, rfl⟩ (by decide) ?_
    refine i_aload_n (pc' := 41) (f_at inc_112 (j := 9) rfl) rfl rfl ?_
    refine i_aload_n (pc' := 42) (f_at inc_112 (j := 10) rfl) rfl rfl ?_
    refine c_wb (pc' := 45) (c' := 0) (n' := 0) (h_stat (ra := [.ref (12 + v1), .ref 102]) (r := []) (as := [.ref 102, .ref (12 + v1)]) (f_at inc_112 (j := 11) rfl) (by decide) MT_95 rfl rfl rfl ⟨Nat.le_of_ble_eq_true rfl, Nat.le_of_ble_eq_true rfl, Nat.le_of_ble_eq_true rfl⟩) MT_95 (G_95 hN (12 + v1) (f_Rk _ hv1) σ) ⟨rfl, rfl, rfl⟩ fun t3 => ?_
    exact i_iret (v := f_b t3.1) (f_at inc_112 (j := 12) rfl) rfl n_bool
  refine i_cas (fun b6 => ?_) (fun b6 => ?_)
  · refine i_sw (pc' := 46) (v := (1 : Int32)) (f_at inc_112 (j := 8) rfl) b6 ⟨by decide, rfl⟩ (by decide) ?_
    refine i_aload_n (pc' := 47) (f_at inc_112 (j := 13) rfl) rfl rfl ?_
    refine i_aload_n (pc' := 48) (f_at inc_112 (j := 14) rfl) rfl rfl ?_
    refine c_wb (pc' := 51) (c' := 0) (n' := 0) (h_stat (ra := [.ref (12 + v1), .ref 102]) (r := []) (as := [.ref 102, .ref (12 + v1)]) (f_at inc_112 (j := 15) rfl) (by decide) MT_100 rfl rfl rfl ⟨Nat.le_of_ble_eq_true rfl, Nat.le_of_ble_eq_true rfl, Nat.le_of_ble_eq_true rfl⟩) MT_100 (G_100 hN (12 + v1) (f_Rk _ hv1) σ) ⟨rfl, rfl, rfl⟩ fun t5 => ?_
    exact i_iret (v := f_b t5.1) (f_at inc_112 (j := 16) rfl) rfl n_bool
  refine i_cas (fun b8 => ?_) (fun b8 => ?_)
  · refine i_sw (pc' := 52) (v := (2 : Int32)) (f_at inc_112 (j := 8) rfl) b8 ⟨by decide, rfl⟩ (by decide) ?_
    refine i_aload_n (pc' := 53) (f_at inc_112 (j := 17) rfl) rfl rfl ?_
    refine i_aload_n (pc' := 54) (f_at inc_112 (j := 18) rfl) rfl rfl ?_
    refine c_wb (pc' := 57) (c' := 0) (n' := 0) (h_stat (ra := [.ref (12 + v1), .ref 102]) (r := []) (as := [.ref 102, .ref (12 + v1)]) (f_at inc_112 (j := 19) rfl) (by decide) MT_102 rfl rfl rfl ⟨Nat.le_of_ble_eq_true rfl, Nat.le_of_ble_eq_true rfl, Nat.le_of_ble_eq_true rfl⟩) MT_102 (G_102 hN (12 + v1) (f_Rk _ hv1) σ) ⟨rfl, rfl, rfl⟩ fun t7 => ?_
    exact i_iret (v := f_b t7.1) (f_at inc_112 (j := 20) rfl) rfl n_bool
  refine i_cas (fun b11 => ?_) (fun b11 => ?_)
  · refine i_sw (pc' := 58) (v := (3 : Int32)) (f_at inc_112 (j := 8) rfl) b11 ⟨by decide, rfl⟩ (by decide) ?_
    refine i_aload_n (pc' := 59) (f_at inc_112 (j := 21) rfl) rfl rfl ?_
    refine i_aload_n (pc' := 60) (f_at inc_112 (j := 22) rfl) rfl rfl ?_
    refine i_iconst (pc' := 61) (f_at inc_112 (j := 23) rfl) ci_1 rfl ?_
    refine i_iald (pc' := 62) (f_at inc_112 (j := 24) rfl) (f_Rk _ hv1).1 (f_bgR (f_Rk _ hv1)) (f_ltR (f_Rk _ hv1) hN) rfl fun v9 => ?_
    refine c_wb (pc' := 65) (c' := 0) (n' := 0) (h_stat (ra := [.int v9, .ref 102]) (r := []) (as := [.ref 102, .int v9]) (f_at inc_112 (j := 25) rfl) (by decide) MT_110 rfl rfl rfl ⟨Nat.le_of_ble_eq_true rfl, Nat.le_of_ble_eq_true rfl, Nat.le_of_ble_eq_true rfl⟩) MT_110 (G_110 hN v9 σ) ⟨rfl, rfl, rfl⟩ fun t10 => ?_
    exact i_iret (v := f_b t10.1) (f_at inc_112 (j := 26) rfl) rfl n_bool
  refine i_swd (pc' := 66) (f_at inc_112 (j := 8) rfl) (sw_out 4 (fun j hj => by match j, hj with | 0, _ => exact b4 | 1, _ => exact b6 | 2, _ => exact b8 | 3, _ => exact b11)) (by decide) ?_
  refine i_aload_n (pc' := 67) (f_at inc_112 (j := 27) rfl) rfl rfl ?_
  refine i_getR (pc' := 70) (f_at inc_112 (j := 28) rfl) sh_102 rfl (f_lt (o := 102) (m := 155) (Nat.le_of_ble_eq_true rfl) hN) rfl ?_
  refine i_aload_n (pc' := 71) (f_at inc_112 (j := 29) rfl) rfl rfl ?_
  refine i_iconst (pc' := 72) (f_at inc_112 (j := 30) rfl) ci_1 rfl ?_
  refine i_iald (pc' := 73) (f_at inc_112 (j := 31) rfl) (f_Rk _ hv1).1 (f_bgR (f_Rk _ hv1)) (f_ltR (f_Rk _ hv1) hN) rfl fun v12 => ?_
  refine i_aload_n (pc' := 74) (f_at inc_112 (j := 32) rfl) rfl rfl ?_
  refine i_iconst (pc' := 75) (f_at inc_112 (j := 33) rfl) ci_2 rfl ?_
  refine i_iald (pc' := 76) (f_at inc_112 (j := 34) rfl) (f_Rk _ hv1).1 (f_bgR (f_Rk _ hv1)) (f_ltR (f_Rk _ hv1) hN) rfl fun v13 => ?_
  refine c_wi (pc' := 79) (c' := 0) (n' := 0) (h_virt (ra := [.int v13, .int v12, .ref 121]) (r := []) (as := [.int v12, .int v13]) (f_at inc_112 (j := 35) rfl) (by decide) MT_111 rfl rfl rfl ⟨Nat.le_of_ble_eq_true rfl, Nat.le_of_ble_eq_true rfl, Nat.le_of_ble_eq_true rfl⟩ sh_121 (f_lt (o := 121) (m := 155) (Nat.le_of_ble_eq_true rfl) hN)) MT_111 (G_111 hN v12 v13 σ) ⟨rfl, rfl, rfl⟩ fun t14 => ?_
  refine i_pop (pc' := 80) (f_at inc_112 (j := 36) rfl) rfl rfl ?_
  refine i_iconst (pc' := 81) (f_at inc_112 (j := 37) rfl) ci_1 rfl ?_
  exact i_iret (v := f_b true) (f_at inc_112 (j := 38) rfl) rfl n_bool
