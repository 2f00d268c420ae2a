/-! Flat programs and their proofs. -/
set_option maxRecDepth 4000 in
def p_213 (a1 : Int32) (σ : f_M) : Option (Int32) :=
  (p_196 a1 σ).bind fun _ =>
  (g_79 a1 σ).bind fun t2 =>
  some t2
set_option maxRecDepth 4000 in
theorem P_213 {xs : Nat → Int32} {L N : Nat} (hN : 155 ≤ N) (a1 : Int32)  (σ : f_M) : f_Cal a_MT xs L N 57 [.ref 0, .int a1] σ ((p_213 a1 σ).bind fun t => some (e_pi σ t)) := by
  refine f_cal_of (ls := [.ref 0, .int a1]) MT_57 (Nat.le_of_ble_eq_true rfl) rfl ?_
  unfold p_213
  refine i_aload_n (pc' := 1) (f_at inc_57 (j := 0) rfl) rfl rfl ?_
  refine i_iload_n (pc' := 2) (f_at inc_57 (j := 1) rfl) rfl rfl ?_
  refine c_pv (pc' := 5) (c' := 0) (n' := 0) (h_virt (ra := [.int a1, .ref 0]) (r := []) (as := [.int a1]) (f_at inc_57 (j := 2) rfl) (by decide) MT_53 rfl rfl rfl ⟨Nat.le_of_ble_eq_true rfl, Nat.le_of_ble_eq_true rfl, Nat.le_of_ble_eq_true rfl⟩ sh_0 (f_lt (o := 0) (m := 155) (Nat.le_of_ble_eq_true rfl) hN)) MT_53 (P_196 hN a1 σ) ⟨rfl, rfl, rfl⟩ ?_
  refine i_aload_n (pc' := 6) (f_at inc_57 (j := 3) rfl) rfl rfl ?_
  refine i_getR (pc' := 9) (f_at inc_57 (j := 4) rfl) sh_0 rfl (f_lt (o := 0) (m := 155) (Nat.le_of_ble_eq_true rfl) hN) rfl ?_
  refine i_iload_n (pc' := 10) (f_at inc_57 (j := 5) rfl) rfl rfl ?_
  refine c_pi (pc' := 13) (c' := 0) (n' := 0) (h_virt (ra := [.int a1, .ref 108]) (r := []) (as := [.int a1]) (f_at inc_57 (j := 6) rfl) (by decide) MT_56 rfl rfl rfl ⟨Nat.le_of_ble_eq_true rfl, Nat.le_of_ble_eq_true rfl, Nat.le_of_ble_eq_true rfl⟩ sh_108 (f_lt (o := 108) (m := 155) (Nat.le_of_ble_eq_true rfl) hN)) MT_56 (G_79 hN a1 σ) ⟨rfl, rfl, rfl⟩ fun t2 => ?_
  exact i_iret (f_at inc_57 (j := 7) rfl) rfl n_int
set_option maxRecDepth 4000 in
theorem G_75 {xs : Nat → Int32} {L N : Nat} (hN : 155 ≤ N) (a1 : Int32)  (σ : f_M) : f_Cal a_MT xs L N 58 [.ref 108, .int a1] σ ((g_75 a1 σ).bind fun t => some (e_pi σ t)) := by
  refine f_cal_of (ls := [.ref 108, .int a1]) MT_58 (Nat.le_of_ble_eq_true rfl) rfl ?_
  unfold g_75
  refine i_aload_n (pc' := 1) (f_at inc_58 (j := 0) rfl) rfl rfl ?_
  refine i_getR (pc' := 4) (f_at inc_58 (j := 1) rfl) sh_108 rfl (f_lt (o := 108) (m := 155) (Nat.le_of_ble_eq_true rfl) hN) rfl ?_
  refine i_iload_n (pc' := 5) (f_at inc_58 (j := 2) rfl) rfl rfl ?_
  refine i_iald (pc' := 6) (f_at inc_58 (j := 3) rfl) sh_113 (f_bg (Nat.le_of_ble_eq_true rfl)) (f_lt (o := 113) (m := 155) (Nat.le_of_ble_eq_true rfl) hN) rfl fun v1 => ?_
  refine i_aload_n (pc' := 7) (f_at inc_58 (j := 4) rfl) rfl rfl ?_
  refine i_getR (pc' := 10) (f_at inc_58 (j := 5) rfl) sh_108 rfl (f_lt (o := 108) (m := 155) (Nat.le_of_ble_eq_true rfl) hN) rfl ?_
  refine i_iload_n (pc' := 11) (f_at inc_58 (j := 6) rfl) rfl rfl ?_
  refine i_iald (pc' := 12) (f_at inc_58 (j := 7) rfl) sh_114 (f_bg (Nat.le_of_ble_eq_true rfl)) (f_lt (o := 114) (m := 155) (Nat.le_of_ble_eq_true rfl) hN) rfl fun v2 => ?_
  refine i_iadd (pc' := 13) (f_at inc_58 (j := 8) rfl) rfl ?_
  exact i_iret (f_at inc_58 (j := 9) rfl) rfl n_int
set_option maxRecDepth 4000 in
theorem G_76 {xs : Nat → Int32} {L N : Nat} (hN : 155 ≤ N) (a1 : Nat) (a2 : Int32) (ha1 : f_L a1) (σ : f_M) : f_Cal a_MT xs L N 59 [.ref 102, .ref a1, .int a2] σ ((g_76 a1 a2 σ).bind fun t => some (e_pb σ t)) := by
  refine f_cal_of (ls := [.ref 102, .ref a1, .int a2]) MT_59 (Nat.le_of_ble_eq_true rfl) rfl ?_
  unfold g_76
  refine i_aload_n (pc' := 1) (f_at inc_59 (j := 0) rfl) rfl rfl ?_
  refine i_getR (pc' := 4) (f_at inc_59 (j := 1) rfl) ha1.1 rfl (f_ltL ha1 hN 0 (Nat.le_of_ble_eq_true rfl)) rfl ?_
  refine i_iload_n (pc' := 5) (f_at inc_59 (j := 2) rfl) rfl rfl ?_
  refine i_bald (pc' := 6) (f_at inc_59 (j := 3) rfl) ha1.2.2.1 (Or.inr rfl) (f_bgL ha1 2 (Nat.le_of_ble_eq_true rfl)) (f_ltL ha1 hN 2 (Nat.le_of_ble_eq_true rfl)) rfl fun v1 => ?_
  refine s_join (J := 29) (fun (t2 : Bool) (u2 : Unit) => [.ref 102, .ref a1, .int a2]) (fun t2 => [.int (f_b t2)]) (fun t2 => σ) ?_ ?_
  · intro t2 u2
    exact i_iret (v := f_b t2) (f_at inc_59 (j := 15) rfl) rfl n_bool
  · intro k2 hj2
    refine i_if0 (pc' := 28) (nx := 9) c0_ne (f_at inc_59 (j := 4) rfl) ⟨by decide, rfl⟩ (fun b5 => ?_) (fun b5 => ?_)
    · refine i_iconst (pc' := 29) (f_at inc_59 (j := 14) rfl) ci_0 rfl ?_
      exact hj2 false ()
    · refine i_aload_n (pc' := 10) (f_at inc_59 (j := 5) rfl) rfl rfl ?_
      refine i_getI (pc' := 13) (f_at inc_59 (j := 6) rfl) ha1.1 rfl (f_ltL ha1 hN 0 (Nat.le_of_ble_eq_true rfl)) rfl ?_
      refine i_aload_n (pc' := 14) (f_at inc_59 (j := 7) rfl) rfl rfl ?_
      refine i_getR (pc' := 17) (f_at inc_59 (j := 8) rfl) sh_102 rfl (f_lt (o := 102) (m := 155) (Nat.le_of_ble_eq_true rfl) hN) rfl ?_
      refine i_iload_n (pc' := 18) (f_at inc_59 (j := 9) rfl) rfl rfl ?_
      refine c_pi (pc' := 21) (c' := 0) (n' := 0) (h_virt (ra := [.int a2, .ref 108]) (r := [.int (σ a1 0)]) (as := [.int a2]) (f_at inc_59 (j := 10) rfl) (by decide) MT_58 rfl rfl rfl ⟨Nat.le_of_ble_eq_true rfl, Nat.le_of_ble_eq_true rfl, Nat.le_of_ble_eq_true rfl⟩ sh_108 (f_lt (o := 108) (m := 155) (Nat.le_of_ble_eq_true rfl) hN)) MT_58 (G_75 hN a2 σ) ⟨rfl, rfl, rfl⟩ fun t3 => ?_
      refine i_if2 (pc' := 28) (nx := 24) c2_ge (f_at inc_59 (j := 11) rfl) ⟨by decide, rfl⟩ (fun b4 => ?_) (fun b4 => ?_)
      · refine i_iconst (pc' := 29) (f_at inc_59 (j := 14) rfl) ci_0 rfl ?_
        exact hj2 false ()
      · refine i_iconst (pc' := 25) (f_at inc_59 (j := 12) rfl) ci_1 rfl ?_
        refine i_goto (pc' := 29) (f_at inc_59 (j := 13) rfl) (by decide) ?_
        exact hj2 true ()
set_option maxRecDepth 4000 in
def p_216 (a1 : Int32) (σ : f_M) : Option (Bool) :=
  (p_196 a1 σ).bind fun _ =>
  (g_76 121 a1 σ).bind fun t2 =>
  some t2
set_option maxRecDepth 4000 in
theorem P_216 {xs : Nat → Int32} {L N : Nat} (hN : 155 ≤ N) (a1 : Int32)  (σ : f_M) : f_Cal a_MT xs L N 60 [.ref 0, .int a1] σ ((p_216 a1 σ).bind fun t => some (e_pb σ t)) := by
  refine f_cal_of (ls := [.ref 0, .int a1]) MT_60 (Nat.le_of_ble_eq_true rfl) rfl ?_
  unfold p_216
  refine i_aload_n (pc' := 1) (f_at inc_60 (j := 0) rfl) rfl rfl ?_
  refine i_iload_n (pc' := 2) (f_at inc_60 (j := 1) rfl) rfl rfl ?_
  refine c_pv (pc' := 5) (c' := 0) (n' := 0) (h_virt (ra := [.int a1, .ref 0]) (r := []) (as := [.int a1]) (f_at inc_60 (j := 2) rfl) (by decide) MT_53 rfl rfl rfl ⟨Nat.le_of_ble_eq_true rfl, Nat.le_of_ble_eq_true rfl, Nat.le_of_ble_eq_true rfl⟩ sh_0 (f_lt (o := 0) (m := 155) (Nat.le_of_ble_eq_true rfl) hN)) MT_53 (P_196 hN a1 σ) ⟨rfl, rfl, rfl⟩ ?_
  refine i_aload_n (pc' := 6) (f_at inc_60 (j := 3) rfl) rfl rfl ?_
  refine i_getR (pc' := 9) (f_at inc_60 (j := 4) rfl) sh_0 rfl (f_lt (o := 0) (m := 155) (Nat.le_of_ble_eq_true rfl) hN) rfl ?_
  refine i_aload_n (pc' := 10) (f_at inc_60 (j := 5) rfl) rfl rfl ?_
  refine i_getR (pc' := 13) (f_at inc_60 (j := 6) rfl) sh_0 rfl (f_lt (o := 0) (m := 155) (Nat.le_of_ble_eq_true rfl) hN) rfl ?_
  refine i_iload_n (pc' := 14) (f_at inc_60 (j := 7) rfl) rfl rfl ?_
  refine c_pb (pc' := 17) (c' := 0) (n' := 0) (h_virt (ra := [.int a1, .ref 121, .ref 102]) (r := []) (as := [.ref 121, .int a1]) (f_at inc_60 (j := 8) rfl) (by decide) MT_59 rfl rfl rfl ⟨Nat.le_of_ble_eq_true rfl, Nat.le_of_ble_eq_true rfl, Nat.le_of_ble_eq_true rfl⟩ sh_102 (f_lt (o := 102) (m := 155) (Nat.le_of_ble_eq_true rfl) hN)) MT_59 (G_76 hN 121 a1 f_L121 σ) ⟨rfl, rfl, rfl⟩ fun t2 => ?_
  exact i_iret (v := f_b t2) (f_at inc_60 (j := 9) rfl) rfl n_bool
set_option maxRecDepth 4000 in
def l_isActive (a1 : Int32) (σ : f_M) : Option (Bool) :=
  (f_rd σ 168 20 a1).bind fun v1 =>
  (
   if ¬ v1 = 0 then (
    some false
   ) else (
    (f_rd σ 161 20 a1).bind fun v3 =>
    (f_rd σ 162 20 a1).bind fun v4 =>
    if (v3 + v4) ≤ (σ 155 26) then (
     some false
    ) else (
     some true
    )
   )
  ).bind fun (t2 : Bool) =>
  some t2
set_option maxRecDepth 4000 in
theorem L_isActive {xs : Nat → Int32} {L N : Nat} (hN : 181 ≤ N) (a1 : Int32)  (σ : f_M) : f_Cal a_MT xs L N 61 [.ref 155, .int a1] σ ((l_isActive a1 σ).bind fun t => some (e_pb σ t)) := by
  refine f_cal_of (ls := [.ref 155, .int a1]) MT_61 (Nat.le_of_ble_eq_true rfl) rfl ?_
  unfold l_isActive
  refine i_aload_n (pc' := 1) (f_at inc_61 (j := 0) rfl) rfl rfl ?_
  refine i_getR (pc' := 4) (f_at inc_61 (j := 1) rfl) sh_155 rfl (f_lt (o := 155) (m := 181) (Nat.le_of_ble_eq_true rfl) hN) rfl ?_
  refine i_iload_n (pc' := 5) (f_at inc_61 (j := 2) rfl) rfl rfl ?_
  refine i_bald (pc' := 6) (f_at inc_61 (j := 3) rfl) sh_168 (Or.inr rfl) (f_bg (Nat.le_of_ble_eq_true rfl)) (f_lt (o := 168) (m := 181) (Nat.le_of_ble_eq_true rfl) hN) rfl fun v1 => ?_
  refine s_join (J := 34) (fun (t2 : Bool) (u2 : Unit) => [.ref 155, .int a1]) (fun t2 => [.int (f_b t2)]) (fun t2 => σ) ?_ ?_
  · intro t2 u2
    exact i_iret (v := f_b t2) (f_at inc_61 (j := 20) rfl) rfl n_bool
  · intro k2 hj2
    refine i_if0 (pc' := 33) (nx := 9) c0_ne (f_at inc_61 (j := 4) rfl) ⟨by decide, rfl⟩ (fun b6 => ?_) (fun b6 => ?_)
    · refine i_iconst (pc' := 34) (f_at inc_61 (j := 19) rfl) ci_0 rfl ?_
      exact hj2 false ()
    · refine i_aload_n (pc' := 10) (f_at inc_61 (j := 5) rfl) rfl rfl ?_
      refine i_getI (pc' := 13) (f_at inc_61 (j := 6) rfl) sh_155 rfl (f_lt (o := 155) (m := 181) (Nat.le_of_ble_eq_true rfl) hN) rfl ?_
      refine i_aload_n (pc' := 14) (f_at inc_61 (j := 7) rfl) rfl rfl ?_
      refine i_getR (pc' := 17) (f_at inc_61 (j := 8) rfl) sh_155 rfl (f_lt (o := 155) (m := 181) (Nat.le_of_ble_eq_true rfl) hN) rfl ?_
      refine i_iload_n (pc' := 18) (f_at inc_61 (j := 9) rfl) rfl rfl ?_
      refine i_iald (pc' := 19) (f_at inc_61 (j := 10) rfl) sh_161 (f_bg (Nat.le_of_ble_eq_true rfl)) (f_lt (o := 161) (m := 181) (Nat.le_of_ble_eq_true rfl) hN) rfl fun v3 => ?_
      refine i_aload_n (pc' := 20) (f_at inc_61 (j := 11) rfl) rfl rfl ?_
      refine i_getR (pc' := 23) (f_at inc_61 (j := 12) rfl) sh_155 rfl (f_lt (o := 155) (m := 181) (Nat.le_of_ble_eq_true rfl) hN) rfl ?_
      refine i_iload_n (pc' := 24) (f_at inc_61 (j := 13) rfl) rfl rfl ?_
      refine i_iald (pc' := 25) (f_at inc_61 (j := 14) rfl) sh_162 (f_bg (Nat.le_of_ble_eq_true rfl)) (f_lt (o := 162) (m := 181) (Nat.le_of_ble_eq_true rfl) hN) rfl fun v4 => ?_
      refine i_iadd (pc' := 26) (f_at inc_61 (j := 15) rfl) rfl ?_
      refine i_if2 (pc' := 33) (nx := 29) c2_ge (f_at inc_61 (j := 16) rfl) ⟨by decide, rfl⟩ (fun b5 => ?_) (fun b5 => ?_)
      · refine i_iconst (pc' := 34) (f_at inc_61 (j := 19) rfl) ci_0 rfl ?_
        exact hj2 false ()
      · refine i_iconst (pc' := 30) (f_at inc_61 (j := 17) rfl) ci_1 rfl ?_
        refine i_goto (pc' := 34) (f_at inc_61 (j := 18) rfl) (by decide) ?_
        exact hj2 true ()
set_option maxRecDepth 4000 in
def p_219 (a1 : Int32) (σ : f_M) : Option (Bool) :=
  (p_196 a1 σ).bind fun _ =>
  (f_rd σ 123 20 a1).bind fun v2 =>
  (f_z v2).bind fun b3 => some b3
set_option maxRecDepth 4000 in
theorem P_219 {xs : Nat → Int32} {L N : Nat} (hN : 155 ≤ N) (a1 : Int32)  (σ : f_M) : f_Cal a_MT xs L N 62 [.ref 0, .int a1] σ ((p_219 a1 σ).bind fun t => some (e_pb σ t)) := by
  refine f_cal_of (ls := [.ref 0, .int a1]) MT_62 (Nat.le_of_ble_eq_true rfl) rfl ?_
  unfold p_219
  refine i_aload_n (pc' := 1) (f_at inc_62 (j := 0) rfl) rfl rfl ?_
  refine i_iload_n (pc' := 2) (f_at inc_62 (j := 1) rfl) rfl rfl ?_
  refine c_pv (pc' := 5) (c' := 0) (n' := 0) (h_virt (ra := [.int a1, .ref 0]) (r := []) (as := [.int a1]) (f_at inc_62 (j := 2) rfl) (by decide) MT_53 rfl rfl rfl ⟨Nat.le_of_ble_eq_true rfl, Nat.le_of_ble_eq_true rfl, Nat.le_of_ble_eq_true rfl⟩ sh_0 (f_lt (o := 0) (m := 155) (Nat.le_of_ble_eq_true rfl) hN)) MT_53 (P_196 hN a1 σ) ⟨rfl, rfl, rfl⟩ ?_
  refine i_aload_n (pc' := 6) (f_at inc_62 (j := 3) rfl) rfl rfl ?_
  refine i_getR (pc' := 9) (f_at inc_62 (j := 4) rfl) sh_0 rfl (f_lt (o := 0) (m := 155) (Nat.le_of_ble_eq_true rfl) hN) rfl ?_
  refine i_getR (pc' := 12) (f_at inc_62 (j := 5) rfl) sh_121 rfl (f_lt (o := 121) (m := 155) (Nat.le_of_ble_eq_true rfl) hN) rfl ?_
  refine i_iload_n (pc' := 13) (f_at inc_62 (j := 6) rfl) rfl rfl ?_
  refine i_bald (pc' := 14) (f_at inc_62 (j := 7) rfl) sh_123 (Or.inr rfl) (f_bg (Nat.le_of_ble_eq_true rfl)) (f_lt (o := 123) (m := 155) (Nat.le_of_ble_eq_true rfl) hN) rfl fun v2 => ?_
  exact i_zret (fun b => rfl) (f_at inc_62 (j := 8) rfl) rfl
set_option maxRecDepth 4000 in
theorem G_86 {xs : Nat → Int32} {L N : Nat} (hN : 155 ≤ N) (a1 : Int32) (a2 : Int32)  (σ : f_M) : f_Cal a_MT xs L N 63 [.ref 108, .int a1, .int a2] σ ((g_86 a1 a2 σ).bind fun t => some (e_pi σ t)) := by
  refine f_cal_of (ls := [.ref 108, .int a1, .int a2, a_dead]) MT_63 (Nat.le_of_ble_eq_true rfl) rfl ?_
  unfold g_86
  refine i_aload_n (pc' := 1) (f_at inc_63 (j := 0) rfl) rfl rfl ?_
  refine i_getR (pc' := 4) (f_at inc_63 (j := 1) rfl) sh_108 rfl (f_lt (o := 108) (m := 155) (Nat.le_of_ble_eq_true rfl) hN) rfl ?_
  refine i_iload_n (pc' := 5) (f_at inc_63 (j := 2) rfl) rfl rfl ?_
  refine i_iald (pc' := 6) (f_at inc_63 (j := 3) rfl) sh_114 (f_bg (Nat.le_of_ble_eq_true rfl)) (f_lt (o := 114) (m := 155) (Nat.le_of_ble_eq_true rfl) hN) rfl fun v1 => ?_
  refine i_istore_n (pc' := 7) (ls' := [.ref 108, .int a1, .int a2, .int v1]) (f_at inc_63 (j := 4) rfl) (Nat.le_of_ble_eq_true rfl) rfl rfl ?_
  refine i_iload_n (pc' := 8) (f_at inc_63 (j := 5) rfl) rfl rfl ?_
  refine s_join (J := 25) (fun (t2 : Int32) (u2 : Unit) => [.ref 108, .int a1, .int a2, .int v1]) (fun t2 => [.int t2]) (fun t2 => σ) ?_ ?_
  · intro t2 u2
    exact i_iret (f_at inc_63 (j := 17) rfl) rfl n_int
  · intro k2 hj2
    refine i_if0 (pc' := 24) (nx := 11) c0_le (f_at inc_63 (j := 6) rfl) ⟨by decide, rfl⟩ (fun b5 => ?_) (fun b5 => ?_)
    · refine i_iconst (pc' := 25) (f_at inc_63 (j := 16) rfl) ci_0 rfl ?_
      exact hj2 (0 : Int32) ()
    · refine i_aload_n (pc' := 12) (f_at inc_63 (j := 7) rfl) rfl rfl ?_
      refine i_getR (pc' := 15) (f_at inc_63 (j := 8) rfl) sh_108 rfl (f_lt (o := 108) (m := 155) (Nat.le_of_ble_eq_true rfl) hN) rfl ?_
      refine i_iload_n (pc' := 16) (f_at inc_63 (j := 9) rfl) rfl rfl ?_
      refine i_iald (pc' := 17) (f_at inc_63 (j := 10) rfl) sh_115 (f_bg (Nat.le_of_ble_eq_true rfl)) (f_lt (o := 115) (m := 155) (Nat.le_of_ble_eq_true rfl) hN) rfl fun v3 => ?_
      refine i_iload_n (pc' := 18) (f_at inc_63 (j := 11) rfl) rfl rfl ?_
      refine i_imul (pc' := 19) (f_at inc_63 (j := 12) rfl) rfl ?_
      refine i_iload_n (pc' := 20) (f_at inc_63 (j := 13) rfl) rfl rfl ?_
      refine i_grn fun h4 => ?_
      refine i_idiv (pc' := 21) (f_at inc_63 (j := 14) rfl) h4 rfl ?_
      refine i_goto (pc' := 25) (f_at inc_63 (j := 15) rfl) (by decide) ?_
      exact hj2 ((v3 * a2) / v1) ()
set_option maxRecDepth 4000 in
theorem G_87 {xs : Nat → Int32} {L N : Nat} (hN : 155 ≤ N) (a1 : Int32) (a2 : Int32)  (σ : f_M) : f_Cal a_MT xs L N 64 [.ref 108, .int a1, .int a2] σ ((g_87 a1 a2 σ).bind fun t => some (e_pi σ t)) := by
  refine f_cal_of (ls := [.ref 108, .int a1, .int a2, a_dead]) MT_64 (Nat.le_of_ble_eq_true rfl) rfl ?_
  unfold g_87
  refine i_iconst (pc' := 1) (f_at inc_64 (j := 0) rfl) ci_0 rfl ?_
  refine i_iload_n (pc' := 2) (f_at inc_64 (j := 1) rfl) rfl rfl ?_
  refine i_aload_n (pc' := 3) (f_at inc_64 (j := 2) rfl) rfl rfl ?_
  refine i_getR (pc' := 6) (f_at inc_64 (j := 3) rfl) sh_108 rfl (f_lt (o := 108) (m := 155) (Nat.le_of_ble_eq_true rfl) hN) rfl ?_
  refine i_iload_n (pc' := 7) (f_at inc_64 (j := 4) rfl) rfl rfl ?_
  refine i_iald (pc' := 8) (f_at inc_64 (j := 5) rfl) sh_118 (f_bg (Nat.le_of_ble_eq_true rfl)) (f_lt (o := 118) (m := 155) (Nat.le_of_ble_eq_true rfl) hN) rfl fun v1 => ?_
  refine i_isub (pc' := 9) (f_at inc_64 (j := 6) rfl) rfl ?_
  refine i_max (pc' := 12) (f_at inc_64 (j := 7) rfl) (Nat.le_of_ble_eq_true rfl) rfl ?_
  refine i_istore_n (pc' := 13) (ls' := [.ref 108, .int a1, .int a2, .int (f_max (0 : Int32) (a2 - v1))]) (f_at inc_64 (j := 8) rfl) (Nat.le_of_ble_eq_true rfl) rfl rfl ?_
  refine i_aload_n (pc' := 14) (f_at inc_64 (j := 9) rfl) rfl rfl ?_
  refine i_getR (pc' := 17) (f_at inc_64 (j := 10) rfl) sh_108 rfl (f_lt (o := 108) (m := 155) (Nat.le_of_ble_eq_true rfl) hN) rfl ?_
  refine i_iload_n (pc' := 18) (f_at inc_64 (j := 11) rfl) rfl rfl ?_
  refine i_iald (pc' := 19) (f_at inc_64 (j := 12) rfl) sh_115 (f_bg (Nat.le_of_ble_eq_true rfl)) (f_lt (o := 115) (m := 155) (Nat.le_of_ble_eq_true rfl) hN) rfl fun v2 => ?_
  refine i_aload_n (pc' := 20) (f_at inc_64 (j := 13) rfl) rfl rfl ?_
  refine i_getR (pc' := 23) (f_at inc_64 (j := 14) rfl) sh_108 rfl (f_lt (o := 108) (m := 155) (Nat.le_of_ble_eq_true rfl) hN) rfl ?_
  refine i_iload_n (pc' := 24) (f_at inc_64 (j := 15) rfl) rfl rfl ?_
  refine i_iald (pc' := 25) (f_at inc_64 (j := 16) rfl) sh_115 (f_bg (Nat.le_of_ble_eq_true rfl)) (f_lt (o := 115) (m := 155) (Nat.le_of_ble_eq_true rfl) hN) rfl fun v3 => ?_
  refine i_iload_n (pc' := 26) (f_at inc_64 (j := 17) rfl) rfl rfl ?_
  refine i_imul (pc' := 27) (f_at inc_64 (j := 18) rfl) rfl ?_
  refine i_bipush (pc' := 29) (f_at inc_64 (j := 19) rfl) cb_10 rfl ?_
  refine i_idiv (pc' := 30) (f_at inc_64 (j := 20) rfl) (by decide) rfl ?_
  refine i_min (pc' := 33) (f_at inc_64 (j := 21) rfl) (Nat.le_of_ble_eq_true rfl) rfl ?_
  exact i_iret (f_at inc_64 (j := 22) rfl) rfl n_int
set_option maxRecDepth 4000 in
theorem G_88 {xs : Nat → Int32} {L N : Nat} (hN : 155 ≤ N) (a1 : Int32) (a2 : Int32)  (σ : f_M) : f_Cal a_MT xs L N 65 [.ref 108, .int a1, .int a2] σ ((g_88 a1 a2 σ).bind fun t => some (e_pi σ t)) := by
  refine f_cal_of (ls := [.ref 108, .int a1, .int a2, a_dead, a_dead, a_dead, a_dead]) MT_65 (Nat.le_of_ble_eq_true rfl) rfl ?_
  unfold g_88
  refine i_iload_n (pc' := 1) (f_at inc_65 (j := 0) rfl) rfl rfl ?_
  refine i_aload_n (pc' := 2) (f_at inc_65 (j := 1) rfl) rfl rfl ?_
  refine i_iload_n (pc' := 3) (f_at inc_65 (j := 2) rfl) rfl rfl ?_
  refine c_pi (pc' := 6) (c' := 0) (n' := 0) (h_virt (ra := [.int a1, .ref 108]) (r := [.int a2]) (as := [.int a1]) (f_at inc_65 (j := 3) rfl) (by decide) MT_58 rfl rfl rfl ⟨Nat.le_of_ble_eq_true rfl, Nat.le_of_ble_eq_true rfl, Nat.le_of_ble_eq_true rfl⟩ sh_108 (f_lt (o := 108) (m := 155) (Nat.le_of_ble_eq_true rfl) hN)) MT_58 (G_75 hN a1 σ) ⟨rfl, rfl, rfl⟩ fun t1 => ?_
  refine i_min (pc' := 9) (f_at inc_65 (j := 4) rfl) (Nat.le_of_ble_eq_true rfl) rfl ?_
  refine i_istore_n (pc' := 10) (ls' := [.ref 108, .int a1, .int a2, .int (f_min a2 t1), a_dead, a_dead, a_dead]) (f_at inc_65 (j := 5) rfl) (Nat.le_of_ble_eq_true rfl) rfl rfl ?_
  refine i_iconst (pc' := 11) (f_at inc_65 (j := 6) rfl) ci_0 rfl ?_
  refine i_istore (pc' := 13) (ls' := [.ref 108, .int a1, .int a2, .int (f_min a2 t1), .int (0 : Int32), a_dead, a_dead]) (f_at inc_65 (j := 7) rfl) (Nat.le_of_ble_eq_true rfl) rfl rfl ?_
  refine i_iconst (pc' := 14) (f_at inc_65 (j := 8) rfl) ci_0 rfl ?_
  refine i_istore (pc' := 16) (ls' := [.ref 108, .int a1, .int a2, .int (f_min a2 t1), .int (0 : Int32), .int (0 : Int32), a_dead]) (f_at inc_65 (j := 9) rfl) (Nat.le_of_ble_eq_true rfl) rfl rfl ?_
  refine i_aload_n (pc' := 17) (f_at inc_65 (j := 10) rfl) rfl rfl ?_
  refine i_getR (pc' := 20) (f_at inc_65 (j := 11) rfl) sh_108 rfl (f_lt (o := 108) (m := 155) (Nat.le_of_ble_eq_true rfl) hN) rfl ?_
  refine i_iload_n (pc' := 21) (f_at inc_65 (j := 12) rfl) rfl rfl ?_
  refine i_iald (pc' := 22) (f_at inc_65 (j := 13) rfl) sh_113 (f_bg (Nat.le_of_ble_eq_true rfl)) (f_lt (o := 113) (m := 155) (Nat.le_of_ble_eq_true rfl) hN) rfl fun v2 => ?_
  refine i_istore (pc' := 24) (ls' := [.ref 108, .int a1, .int a2, .int (f_min a2 t1), .int (0 : Int32), .int (0 : Int32), .int v2]) (f_at inc_65 (j := 14) rfl) (Nat.le_of_ble_eq_true rfl) rfl rfl ?_
  refine s_lX (X := 83) ((0 : Int32), (0 : Int32), v2) () (fun (s3 : Int32 × Int32 × Int32) (u3 : Unit) => [.ref 108, .int a1, .int a2, .int (f_min a2 t1), .int s3.1, .int s3.2.1, .int s3.2.2]) (fun (s3 : Int32 × Int32 × Int32) => σ) (fun (x3 : Int32 × Int32) (w3 : Value) => [.ref 108, .int a1, .int a2, .int (f_min a2 t1), .int x3.1, .int x3.2, w3]) (fun (x3 : Int32 × Int32) => σ) ?_ ?_
  · intro x3 w3
    refine i_aload_n (pc' := 84) (f_at inc_65 (j := 46) rfl) rfl rfl ?_
    refine i_getR (pc' := 87) (f_at inc_65 (j := 47) rfl) sh_108 rfl (f_lt (o := 108) (m := 155) (Nat.le_of_ble_eq_true rfl) hN) rfl ?_
    refine i_iload_n (pc' := 88) (f_at inc_65 (j := 48) rfl) rfl rfl ?_
    refine i_bald (pc' := 89) (f_at inc_65 (j := 49) rfl) sh_111 (Or.inr rfl) (f_bg (Nat.le_of_ble_eq_true rfl)) (f_lt (o := 111) (m := 155) (Nat.le_of_ble_eq_true rfl) hN) rfl fun v13 => ?_
    refine s_join (J := 109) (fun (t14 : Int32) (u14 : Unit) => [.ref 108, .int a1, .int a2, .int (f_min a2 t1), .int x3.1, .int x3.2, w3]) (fun t14 => [.int t14]) (fun t14 => σ) ?_ ?_
    · intro t14 u14
      exact i_iret (f_at inc_65 (j := 60) rfl) rfl n_int
    · intro k14 hj14
      refine i_if0 (pc' := 102) (nx := 92) c0_eq (f_at inc_65 (j := 50) rfl) ⟨by decide, rfl⟩ (fun b17 => ?_) (fun b17 => ?_)
      · refine i_aload_n (pc' := 103) (f_at inc_65 (j := 56) rfl) rfl rfl ?_
        refine i_iload_n (pc' := 104) (f_at inc_65 (j := 57) rfl) rfl rfl ?_
        refine i_iload (pc' := 106) (f_at inc_65 (j := 58) rfl) rfl rfl ?_
        refine c_pi (pc' := 109) (c' := 0) (n' := 0) (h_virt (ra := [.int x3.2, .int a1, .ref 108]) (r := []) (as := [.int a1, .int x3.2]) (f_at inc_65 (j := 59) rfl) (by decide) MT_64 rfl rfl rfl ⟨Nat.le_of_ble_eq_true rfl, Nat.le_of_ble_eq_true rfl, Nat.le_of_ble_eq_true rfl⟩ sh_108 (f_lt (o := 108) (m := 155) (Nat.le_of_ble_eq_true rfl) hN)) MT_64 (G_87 hN a1 x3.2 σ) ⟨rfl, rfl, rfl⟩ fun t15 => ?_
        exact hj14 t15 ()
      · refine i_aload_n (pc' := 93) (f_at inc_65 (j := 51) rfl) rfl rfl ?_
        refine i_iload_n (pc' := 94) (f_at inc_65 (j := 52) rfl) rfl rfl ?_
        refine i_iload (pc' := 96) (f_at inc_65 (j := 53) rfl) rfl rfl ?_
        refine c_pi (pc' := 99) (c' := 0) (n' := 0) (h_virt (ra := [.int x3.1, .int a1, .ref 108]) (r := []) (as := [.int a1, .int x3.1]) (f_at inc_65 (j := 54) rfl) (by decide) MT_63 rfl rfl rfl ⟨Nat.le_of_ble_eq_true rfl, Nat.le_of_ble_eq_true rfl, Nat.le_of_ble_eq_true rfl⟩ sh_108 (f_lt (o := 108) (m := 155) (Nat.le_of_ble_eq_true rfl) hN)) MT_63 (G_86 hN a1 x3.1 σ) ⟨rfl, rfl, rfl⟩ fun t16 => ?_
        refine i_goto (pc' := 109) (f_at inc_65 (j := 55) rfl) (by decide) ?_
        exact hj14 t16 ()
  · intro s3 u3 k3 hb3 hx3
    refine i_iload (pc' := 26) (f_at inc_65 (j := 15) rfl) rfl rfl ?_
    refine i_iload_n (pc' := 27) (f_at inc_65 (j := 16) rfl) rfl rfl ?_
    refine i_if2 (pc' := 83) (nx := 30) c2_ge (f_at inc_65 (j := 17) rfl) ⟨by decide, rfl⟩ (fun b12 => ?_) (fun b12 => ?_)
    · exact hx3 (s3.1, s3.2.1) (.int s3.2.2)
    · refine i_aload_n (pc' := 31) (f_at inc_65 (j := 18) rfl) rfl rfl ?_
      refine i_getR (pc' := 34) (f_at inc_65 (j := 19) rfl) sh_108 rfl (f_lt (o := 108) (m := 155) (Nat.le_of_ble_eq_true rfl) hN) rfl ?_
      refine i_iload (pc' := 36) (f_at inc_65 (j := 20) rfl) rfl rfl ?_
      refine i_iald (pc' := 37) (f_at inc_65 (j := 21) rfl) sh_109 (f_bg (Nat.le_of_ble_eq_true rfl)) (f_lt (o := 109) (m := 155) (Nat.le_of_ble_eq_true rfl) hN) rfl fun v4 => ?_
      refine i_aload_n (pc' := 38) (f_at inc_65 (j := 22) rfl) rfl rfl ?_
      refine i_getR (pc' := 41) (f_at inc_65 (j := 23) rfl) sh_108 rfl (f_lt (o := 108) (m := 155) (Nat.le_of_ble_eq_true rfl) hN) rfl ?_
      refine i_iload_n (pc' := 42) (f_at inc_65 (j := 24) rfl) rfl rfl ?_
      refine i_iald (pc' := 43) (f_at inc_65 (j := 25) rfl) sh_116 (f_bg (Nat.le_of_ble_eq_true rfl)) (f_lt (o := 116) (m := 155) (Nat.le_of_ble_eq_true rfl) hN) rfl fun v5 => ?_
      refine s_join (J := 65) (fun (t6 : Int32) (u6 : Unit) => [.ref 108, .int a1, .int a2, .int (f_min a2 t1), .int t6, .int s3.2.1, .int s3.2.2]) (fun t6 => []) (fun t6 => σ) ?_ ?_
      · intro t6 u6
        refine i_iload (pc' := 67) (f_at inc_65 (j := 37) rfl) rfl rfl ?_
        refine i_aload_n (pc' := 68) (f_at inc_65 (j := 38) rfl) rfl rfl ?_
        refine i_getR (pc' := 71) (f_at inc_65 (j := 39) rfl) sh_108 rfl (f_lt (o := 108) (m := 155) (Nat.le_of_ble_eq_true rfl) hN) rfl ?_
        refine i_iload (pc' := 73) (f_at inc_65 (j := 40) rfl) rfl rfl ?_
        refine i_iald (pc' := 74) (f_at inc_65 (j := 41) rfl) sh_110 (f_bg (Nat.le_of_ble_eq_true rfl)) (f_lt (o := 110) (m := 155) (Nat.le_of_ble_eq_true rfl) hN) rfl fun v11 => ?_
        refine i_iadd (pc' := 75) (f_at inc_65 (j := 42) rfl) rfl ?_
        refine i_istore (pc' := 77) (ls' := [.ref 108, .int a1, .int a2, .int (f_min a2 t1), .int t6, .int (s3.2.1 + v11), .int s3.2.2]) (f_at inc_65 (j := 43) rfl) (Nat.le_of_ble_eq_true rfl) rfl rfl ?_
        refine i_iinc (pc' := 80) (ls' := [.ref 108, .int a1, .int a2, .int (f_min a2 t1), .int t6, .int (s3.2.1 + v11), .int (s3.2.2 + (1 : Int32))]) (f_at inc_65 (j := 44) rfl) rfl ci_1 rfl rfl ?_
        refine i_goto (pc' := 24) (f_at inc_65 (j := 45) rfl) (by decide) ?_
        exact hb3 (t6, (s3.2.1 + v11), (s3.2.2 + (1 : Int32))) ()
      · intro k6 hj6
        refine i_if2 (pc' := 62) (nx := 46) c2_lt (f_at inc_65 (j := 26) rfl) ⟨by decide, rfl⟩ (fun b10 => ?_) (fun b10 => ?_)
        · refine i_iinc (pc' := 65) (ls' := [.ref 108, .int a1, .int a2, .int (f_min a2 t1), .int (s3.1 + (1 : Int32)), .int s3.2.1, .int s3.2.2]) (f_at inc_65 (j := 36) rfl) rfl ci_1 rfl rfl ?_
          exact hj6 (s3.1 + (1 : Int32)) ()
        · refine i_aload_n (pc' := 47) (f_at inc_65 (j := 27) rfl) rfl rfl ?_
          refine i_getR (pc' := 50) (f_at inc_65 (j := 28) rfl) sh_108 rfl (f_lt (o := 108) (m := 155) (Nat.le_of_ble_eq_true rfl) hN) rfl ?_
          refine i_iload (pc' := 52) (f_at inc_65 (j := 29) rfl) rfl rfl ?_
          refine i_iald (pc' := 53) (f_at inc_65 (j := 30) rfl) sh_109 (f_bg (Nat.le_of_ble_eq_true rfl)) (f_lt (o := 109) (m := 155) (Nat.le_of_ble_eq_true rfl) hN) rfl fun v7 => ?_
          refine i_aload_n (pc' := 54) (f_at inc_65 (j := 31) rfl) rfl rfl ?_
          refine i_getR (pc' := 57) (f_at inc_65 (j := 32) rfl) sh_108 rfl (f_lt (o := 108) (m := 155) (Nat.le_of_ble_eq_true rfl) hN) rfl ?_
          refine i_iload_n (pc' := 58) (f_at inc_65 (j := 33) rfl) rfl rfl ?_
          refine i_iald (pc' := 59) (f_at inc_65 (j := 34) rfl) sh_117 (f_bg (Nat.le_of_ble_eq_true rfl)) (f_lt (o := 117) (m := 155) (Nat.le_of_ble_eq_true rfl) hN) rfl fun v8 => ?_
          refine i_if2 (pc' := 65) (nx := 62) c2_le (f_at inc_65 (j := 35) rfl) ⟨by decide, rfl⟩ (fun b9 => ?_) (fun b9 => ?_)
          · exact hj6 s3.1 ()
          · refine i_iinc (pc' := 65) (ls' := [.ref 108, .int a1, .int a2, .int (f_min a2 t1), .int (s3.1 + (1 : Int32)), .int s3.2.1, .int s3.2.2]) (f_at inc_65 (j := 36) rfl) rfl ci_1 rfl rfl ?_
            exact hj6 (s3.1 + (1 : Int32)) ()
set_option maxRecDepth 4000 in
def p_222 (a1 : Int32) (σ : f_M) : Option (Int32) :=
  (p_196 a1 σ).bind fun _ =>
  (g_88 a1 (σ 121 0) σ).bind fun t2 =>
  some t2
set_option maxRecDepth 4000 in
theorem P_222 {xs : Nat → Int32} {L N : Nat} (hN : 155 ≤ N) (a1 : Int32)  (σ : f_M) : f_Cal a_MT xs L N 66 [.ref 0, .int a1] σ ((p_222 a1 σ).bind fun t => some (e_pi σ t)) := by
  refine f_cal_of (ls := [.ref 0, .int a1]) MT_66 (Nat.le_of_ble_eq_true rfl) rfl ?_
  unfold p_222
  refine i_aload_n (pc' := 1) (f_at inc_66 (j := 0) rfl) rfl rfl ?_
  refine i_iload_n (pc' := 2) (f_at inc_66 (j := 1) rfl) rfl rfl ?_
  refine c_pv (pc' := 5) (c' := 0) (n' := 0) (h_virt (ra := [.int a1, .ref 0]) (r := []) (as := [.int a1]) (f_at inc_66 (j := 2) rfl) (by decide) MT_53 rfl rfl rfl ⟨Nat.le_of_ble_eq_true rfl, Nat.le_of_ble_eq_true rfl, Nat.le_of_ble_eq_true rfl⟩ sh_0 (f_lt (o := 0) (m := 155) (Nat.le_of_ble_eq_true rfl) hN)) MT_53 (P_196 hN a1 σ) ⟨rfl, rfl, rfl⟩ ?_
  refine i_aload_n (pc' := 6) (f_at inc_66 (j := 3) rfl) rfl rfl ?_
  refine i_getR (pc' := 9) (f_at inc_66 (j := 4) rfl) sh_0 rfl (f_lt (o := 0) (m := 155) (Nat.le_of_ble_eq_true rfl) hN) rfl ?_
  refine i_iload_n (pc' := 10) (f_at inc_66 (j := 5) rfl) rfl rfl ?_
  refine i_aload_n (pc' := 11) (f_at inc_66 (j := 6) rfl) rfl rfl ?_
  refine i_getR (pc' := 14) (f_at inc_66 (j := 7) rfl) sh_0 rfl (f_lt (o := 0) (m := 155) (Nat.le_of_ble_eq_true rfl) hN) rfl ?_
  refine i_getI (pc' := 17) (f_at inc_66 (j := 8) rfl) sh_121 rfl (f_lt (o := 121) (m := 155) (Nat.le_of_ble_eq_true rfl) hN) rfl ?_
  refine c_pi (pc' := 20) (c' := 0) (n' := 0) (h_virt (ra := [.int (σ 121 0), .int a1, .ref 108]) (r := []) (as := [.int a1, .int (σ 121 0)]) (f_at inc_66 (j := 9) rfl) (by decide) MT_65 rfl rfl rfl ⟨Nat.le_of_ble_eq_true rfl, Nat.le_of_ble_eq_true rfl, Nat.le_of_ble_eq_true rfl⟩ sh_108 (f_lt (o := 108) (m := 155) (Nat.le_of_ble_eq_true rfl) hN)) MT_65 (G_88 hN a1 (σ 121 0) σ) ⟨rfl, rfl, rfl⟩ fun t2 => ?_
  exact i_iret (f_at inc_66 (j := 10) rfl) rfl n_int
set_option maxRecDepth 4000 in
def l_damage (a1 : Int32) (σ : f_M) : Option (Int32) :=
  (f_rd σ 159 20 a1).bind fun v1 =>
  if ¬ v1 = 0 then (
   (f_rd σ 167 20 a1).bind fun v2 =>
   (f_rd σ 164 20 a1).bind fun v3 =>
   (
    if v2 ≤ v3 then (
     some (0 : Int32)
    ) else (
     (f_rd σ 167 20 a1).bind fun v5 =>
     (f_rd σ 164 20 a1).bind fun v6 =>
     some (v5 - v6)
    )
   ).bind fun (t4 : Int32) =>
   (f_rd σ 163 20 a1).bind fun v8 =>
   (f_rd σ 163 20 a1).bind fun v9 =>
   (
    if ((v8 * t4) / (10 : Int32)) ≤ v9 then (
     some ((v8 * t4) / (10 : Int32))
    ) else (
     (f_rd σ 163 20 a1).bind fun v11 =>
     some v11
    )
   ).bind fun (t10 : Int32) =>
   some t10
  ) else (
   (f_rd σ 163 20 a1).bind fun v13 =>
   (f_rd σ 167 20 a1).bind fun v14 =>
   (f_rd σ 162 20 a1).bind fun v15 =>
   if v15 = 0 then none else
   some ((v13 * v14) / v15)
  )
set_option maxRecDepth 4000 in
theorem L_damage {xs : Nat → Int32} {L N : Nat} (hN : 181 ≤ N) (a1 : Int32)  (σ : f_M) : f_Cal a_MT xs L N 67 [.ref 155, .int a1] σ ((l_damage a1 σ).bind fun t => some (e_pi σ t)) := by
  refine f_cal_of (ls := [.ref 155, .int a1, a_dead, a_dead]) MT_67 (Nat.le_of_ble_eq_true rfl) rfl ?_
  unfold l_damage
  refine i_aload_n (pc' := 1) (f_at inc_67 (j := 0) rfl) rfl rfl ?_
  refine i_getR (pc' := 4) (f_at inc_67 (j := 1) rfl) sh_155 rfl (f_lt (o := 155) (m := 181) (Nat.le_of_ble_eq_true rfl) hN) rfl ?_
  refine i_iload_n (pc' := 5) (f_at inc_67 (j := 2) rfl) rfl rfl ?_
  refine i_iald (pc' := 6) (f_at inc_67 (j := 3) rfl) sh_159 (f_bg (Nat.le_of_ble_eq_true rfl)) (f_lt (o := 159) (m := 181) (Nat.le_of_ble_eq_true rfl) hN) rfl fun v1 => ?_
  refine i_if0 (pc' := 30) (nx := 9) c0_ne (f_at inc_67 (j := 4) rfl) ⟨by decide, rfl⟩ (fun b17 => ?_) (fun b17 => ?_)
  · refine i_aload_n (pc' := 31) (f_at inc_67 (j := 20) rfl) rfl rfl ?_
    refine i_getR (pc' := 34) (f_at inc_67 (j := 21) rfl) sh_155 rfl (f_lt (o := 155) (m := 181) (Nat.le_of_ble_eq_true rfl) hN) rfl ?_
    refine i_iload_n (pc' := 35) (f_at inc_67 (j := 22) rfl) rfl rfl ?_
    refine i_iald (pc' := 36) (f_at inc_67 (j := 23) rfl) sh_167 (f_bg (Nat.le_of_ble_eq_true rfl)) (f_lt (o := 167) (m := 181) (Nat.le_of_ble_eq_true rfl) hN) rfl fun v2 => ?_
    refine i_aload_n (pc' := 37) (f_at inc_67 (j := 24) rfl) rfl rfl ?_
    refine i_getR (pc' := 40) (f_at inc_67 (j := 25) rfl) sh_155 rfl (f_lt (o := 155) (m := 181) (Nat.le_of_ble_eq_true rfl) hN) rfl ?_
    refine i_iload_n (pc' := 41) (f_at inc_67 (j := 26) rfl) rfl rfl ?_
    refine i_iald (pc' := 42) (f_at inc_67 (j := 27) rfl) sh_164 (f_bg (Nat.le_of_ble_eq_true rfl)) (f_lt (o := 164) (m := 181) (Nat.le_of_ble_eq_true rfl) hN) rfl fun v3 => ?_
    refine s_join (J := 62) (fun (t4 : Int32) (u4 : Unit) => [.ref 155, .int a1, a_dead, a_dead]) (fun t4 => [.int t4]) (fun t4 => σ) ?_ ?_
    · intro t4 u4
      refine i_istore_n (pc' := 63) (ls' := [.ref 155, .int a1, .int t4, a_dead]) (f_at inc_67 (j := 40) rfl) (Nat.le_of_ble_eq_true rfl) rfl rfl ?_
      refine i_aload_n (pc' := 64) (f_at inc_67 (j := 41) rfl) rfl rfl ?_
      refine i_getR (pc' := 67) (f_at inc_67 (j := 42) rfl) sh_155 rfl (f_lt (o := 155) (m := 181) (Nat.le_of_ble_eq_true rfl) hN) rfl ?_
      refine i_iload_n (pc' := 68) (f_at inc_67 (j := 43) rfl) rfl rfl ?_
      refine i_iald (pc' := 69) (f_at inc_67 (j := 44) rfl) sh_163 (f_bg (Nat.le_of_ble_eq_true rfl)) (f_lt (o := 163) (m := 181) (Nat.le_of_ble_eq_true rfl) hN) rfl fun v8 => ?_
      refine i_iload_n (pc' := 70) (f_at inc_67 (j := 45) rfl) rfl rfl ?_
      refine i_imul (pc' := 71) (f_at inc_67 (j := 46) rfl) rfl ?_
      refine i_bipush (pc' := 73) (f_at inc_67 (j := 47) rfl) cb_10 rfl ?_
      refine i_idiv (pc' := 74) (f_at inc_67 (j := 48) rfl) (by decide) rfl ?_
      refine i_istore_n (pc' := 75) (ls' := [.ref 155, .int a1, .int t4, .int ((v8 * t4) / (10 : Int32))]) (f_at inc_67 (j := 49) rfl) (Nat.le_of_ble_eq_true rfl) rfl rfl ?_
      refine i_iload_n (pc' := 76) (f_at inc_67 (j := 50) rfl) rfl rfl ?_
      refine i_aload_n (pc' := 77) (f_at inc_67 (j := 51) rfl) rfl rfl ?_
      refine i_getR (pc' := 80) (f_at inc_67 (j := 52) rfl) sh_155 rfl (f_lt (o := 155) (m := 181) (Nat.le_of_ble_eq_true rfl) hN) rfl ?_
      refine i_iload_n (pc' := 81) (f_at inc_67 (j := 53) rfl) rfl rfl ?_
      refine i_iald (pc' := 82) (f_at inc_67 (j := 54) rfl) sh_163 (f_bg (Nat.le_of_ble_eq_true rfl)) (f_lt (o := 163) (m := 181) (Nat.le_of_ble_eq_true rfl) hN) rfl fun v9 => ?_
      refine s_join (J := 95) (fun (t10 : Int32) (u10 : Unit) => [.ref 155, .int a1, .int t4, .int ((v8 * t4) / (10 : Int32))]) (fun t10 => [.int t10]) (fun t10 => σ) ?_ ?_
      · intro t10 u10
        exact i_iret (f_at inc_67 (j := 62) rfl) rfl n_int
      · intro k10 hj10
        refine i_if2 (pc' := 94) (nx := 85) c2_le (f_at inc_67 (j := 55) rfl) ⟨by decide, rfl⟩ (fun b12 => ?_) (fun b12 => ?_)
        · refine i_iload_n (pc' := 95) (f_at inc_67 (j := 61) rfl) rfl rfl ?_
          exact hj10 ((v8 * t4) / (10 : Int32)) ()
        · refine i_aload_n (pc' := 86) (f_at inc_67 (j := 56) rfl) rfl rfl ?_
          refine i_getR (pc' := 89) (f_at inc_67 (j := 57) rfl) sh_155 rfl (f_lt (o := 155) (m := 181) (Nat.le_of_ble_eq_true rfl) hN) rfl ?_
          refine i_iload_n (pc' := 90) (f_at inc_67 (j := 58) rfl) rfl rfl ?_
          refine i_iald (pc' := 91) (f_at inc_67 (j := 59) rfl) sh_163 (f_bg (Nat.le_of_ble_eq_true rfl)) (f_lt (o := 163) (m := 181) (Nat.le_of_ble_eq_true rfl) hN) rfl fun v11 => ?_
          refine i_goto (pc' := 95) (f_at inc_67 (j := 60) rfl) (by decide) ?_
          exact hj10 v11 ()
    · intro k4 hj4
      refine i_if2 (pc' := 61) (nx := 45) c2_le (f_at inc_67 (j := 28) rfl) ⟨by decide, rfl⟩ (fun b7 => ?_) (fun b7 => ?_)
      · refine i_iconst (pc' := 62) (f_at inc_67 (j := 39) rfl) ci_0 rfl ?_
        exact hj4 (0 : Int32) ()
      · refine i_aload_n (pc' := 46) (f_at inc_67 (j := 29) rfl) rfl rfl ?_
        refine i_getR (pc' := 49) (f_at inc_67 (j := 30) rfl) sh_155 rfl (f_lt (o := 155) (m := 181) (Nat.le_of_ble_eq_true rfl) hN) rfl ?_
        refine i_iload_n (pc' := 50) (f_at inc_67 (j := 31) rfl) rfl rfl ?_
        refine i_iald (pc' := 51) (f_at inc_67 (j := 32) rfl) sh_167 (f_bg (Nat.le_of_ble_eq_true rfl)) (f_lt (o := 167) (m := 181) (Nat.le_of_ble_eq_true rfl) hN) rfl fun v5 => ?_
        refine i_aload_n (pc' := 52) (f_at inc_67 (j := 33) rfl) rfl rfl ?_
        refine i_getR (pc' := 55) (f_at inc_67 (j := 34) rfl) sh_155 rfl (f_lt (o := 155) (m := 181) (Nat.le_of_ble_eq_true rfl) hN) rfl ?_
        refine i_iload_n (pc' := 56) (f_at inc_67 (j := 35) rfl) rfl rfl ?_
        refine i_iald (pc' := 57) (f_at inc_67 (j := 36) rfl) sh_164 (f_bg (Nat.le_of_ble_eq_true rfl)) (f_lt (o := 164) (m := 181) (Nat.le_of_ble_eq_true rfl) hN) rfl fun v6 => ?_
        refine i_isub (pc' := 58) (f_at inc_67 (j := 37) rfl) rfl ?_
        refine i_goto (pc' := 62) (f_at inc_67 (j := 38) rfl) (by decide) ?_
        exact hj4 (v5 - v6) ()
  · refine i_aload_n (pc' := 10) (f_at inc_67 (j := 5) rfl) rfl rfl ?_
    refine i_getR (pc' := 13) (f_at inc_67 (j := 6) rfl) sh_155 rfl (f_lt (o := 155) (m := 181) (Nat.le_of_ble_eq_true rfl) hN) rfl ?_
    refine i_iload_n (pc' := 14) (f_at inc_67 (j := 7) rfl) rfl rfl ?_
    refine i_iald (pc' := 15) (f_at inc_67 (j := 8) rfl) sh_163 (f_bg (Nat.le_of_ble_eq_true rfl)) (f_lt (o := 163) (m := 181) (Nat.le_of_ble_eq_true rfl) hN) rfl fun v13 => ?_
    refine i_aload_n (pc' := 16) (f_at inc_67 (j := 9) rfl) rfl rfl ?_
    refine i_getR (pc' := 19) (f_at inc_67 (j := 10) rfl) sh_155 rfl (f_lt (o := 155) (m := 181) (Nat.le_of_ble_eq_true rfl) hN) rfl ?_
    refine i_iload_n (pc' := 20) (f_at inc_67 (j := 11) rfl) rfl rfl ?_
    refine i_iald (pc' := 21) (f_at inc_67 (j := 12) rfl) sh_167 (f_bg (Nat.le_of_ble_eq_true rfl)) (f_lt (o := 167) (m := 181) (Nat.le_of_ble_eq_true rfl) hN) rfl fun v14 => ?_
    refine i_imul (pc' := 22) (f_at inc_67 (j := 13) rfl) rfl ?_
    refine i_aload_n (pc' := 23) (f_at inc_67 (j := 14) rfl) rfl rfl ?_
    refine i_getR (pc' := 26) (f_at inc_67 (j := 15) rfl) sh_155 rfl (f_lt (o := 155) (m := 181) (Nat.le_of_ble_eq_true rfl) hN) rfl ?_
    refine i_iload_n (pc' := 27) (f_at inc_67 (j := 16) rfl) rfl rfl ?_
    refine i_iald (pc' := 28) (f_at inc_67 (j := 17) rfl) sh_162 (f_bg (Nat.le_of_ble_eq_true rfl)) (f_lt (o := 162) (m := 181) (Nat.le_of_ble_eq_true rfl) hN) rfl fun v15 => ?_
    refine i_grn fun h16 => ?_
    refine i_idiv (pc' := 29) (f_at inc_67 (j := 18) rfl) h16 rfl ?_
    exact i_iret (f_at inc_67 (j := 19) rfl) rfl n_int
set_option maxRecDepth 4000 in
theorem G_103 {xs : Nat → Int32} {L N : Nat} (hN : 155 ≤ N) (a1 : Int32) (a2 : Int32)  (σ : f_M) : f_Cal a_MT xs L N 68 [.ref 102, .int a1, .int a2] σ ((g_103 a1 a2 σ).bind fun t => some (e_pb σ t)) := by
  refine f_cal_of (ls := [.ref 102, .int a1, .int a2]) MT_68 (Nat.le_of_ble_eq_true rfl) rfl ?_
  unfold g_103
  refine i_aload_n (pc' := 1) (f_at inc_68 (j := 0) rfl) rfl rfl ?_
  refine i_getR (pc' := 4) (f_at inc_68 (j := 1) rfl) sh_102 rfl (f_lt (o := 102) (m := 155) (Nat.le_of_ble_eq_true rfl) hN) rfl ?_
  refine i_getR (pc' := 7) (f_at inc_68 (j := 2) rfl) sh_108 rfl (f_lt (o := 108) (m := 155) (Nat.le_of_ble_eq_true rfl) hN) rfl ?_
  refine i_iload_n (pc' := 8) (f_at inc_68 (j := 3) rfl) rfl rfl ?_
  refine i_iald (pc' := 9) (f_at inc_68 (j := 4) rfl) sh_112 (f_bg (Nat.le_of_ble_eq_true rfl)) (f_lt (o := 112) (m := 155) (Nat.le_of_ble_eq_true rfl) hN) rfl fun v1 => ?_
  refine i_aload_n (pc' := 10) (f_at inc_68 (j := 5) rfl) rfl rfl ?_
  refine i_getR (pc' := 13) (f_at inc_68 (j := 6) rfl) sh_102 rfl (f_lt (o := 102) (m := 155) (Nat.le_of_ble_eq_true rfl) hN) rfl ?_
  refine i_getR (pc' := 16) (f_at inc_68 (j := 7) rfl) sh_108 rfl (f_lt (o := 108) (m := 155) (Nat.le_of_ble_eq_true rfl) hN) rfl ?_
  refine i_iload_n (pc' := 17) (f_at inc_68 (j := 8) rfl) rfl rfl ?_
  refine i_iald (pc' := 18) (f_at inc_68 (j := 9) rfl) sh_112 (f_bg (Nat.le_of_ble_eq_true rfl)) (f_lt (o := 112) (m := 155) (Nat.le_of_ble_eq_true rfl) hN) rfl fun v2 => ?_
  refine s_join (J := 68) (fun (t3 : Bool) (u3 : Unit) => [.ref 102, .int a1, .int a2]) (fun t3 => [.int (f_b t3)]) (fun t3 => σ) ?_ ?_
  · intro t3 u3
    exact i_iret (v := f_b t3) (f_at inc_68 (j := 36) rfl) rfl n_bool
  · intro k3 hj3
    refine i_if2 (pc' := 67) (nx := 21) c2_ne (f_at inc_68 (j := 10) rfl) ⟨by decide, rfl⟩ (fun b10 => ?_) (fun b10 => ?_)
    · refine i_iconst (pc' := 68) (f_at inc_68 (j := 35) rfl) ci_0 rfl ?_
      exact hj3 false ()
    · refine i_aload_n (pc' := 22) (f_at inc_68 (j := 11) rfl) rfl rfl ?_
      refine i_getR (pc' := 25) (f_at inc_68 (j := 12) rfl) sh_102 rfl (f_lt (o := 102) (m := 155) (Nat.le_of_ble_eq_true rfl) hN) rfl ?_
      refine i_getR (pc' := 28) (f_at inc_68 (j := 13) rfl) sh_108 rfl (f_lt (o := 108) (m := 155) (Nat.le_of_ble_eq_true rfl) hN) rfl ?_
      refine i_iload_n (pc' := 29) (f_at inc_68 (j := 14) rfl) rfl rfl ?_
      refine i_bald (pc' := 30) (f_at inc_68 (j := 15) rfl) sh_111 (Or.inr rfl) (f_bg (Nat.le_of_ble_eq_true rfl)) (f_lt (o := 111) (m := 155) (Nat.le_of_ble_eq_true rfl) hN) rfl fun v4 => ?_
      refine i_aload_n (pc' := 31) (f_at inc_68 (j := 16) rfl) rfl rfl ?_
      refine i_getR (pc' := 34) (f_at inc_68 (j := 17) rfl) sh_102 rfl (f_lt (o := 102) (m := 155) (Nat.le_of_ble_eq_true rfl) hN) rfl ?_
      refine i_getR (pc' := 37) (f_at inc_68 (j := 18) rfl) sh_108 rfl (f_lt (o := 108) (m := 155) (Nat.le_of_ble_eq_true rfl) hN) rfl ?_
      refine i_iload_n (pc' := 38) (f_at inc_68 (j := 19) rfl) rfl rfl ?_
      refine i_bald (pc' := 39) (f_at inc_68 (j := 20) rfl) sh_111 (Or.inr rfl) (f_bg (Nat.le_of_ble_eq_true rfl)) (f_lt (o := 111) (m := 155) (Nat.le_of_ble_eq_true rfl) hN) rfl fun v5 => ?_
      refine i_if2 (pc' := 67) (nx := 42) c2_ne (f_at inc_68 (j := 21) rfl) ⟨by decide, rfl⟩ (fun b9 => ?_) (fun b9 => ?_)
      · refine i_iconst (pc' := 68) (f_at inc_68 (j := 35) rfl) ci_0 rfl ?_
        exact hj3 false ()
      · refine i_aload_n (pc' := 43) (f_at inc_68 (j := 22) rfl) rfl rfl ?_
        refine i_getR (pc' := 46) (f_at inc_68 (j := 23) rfl) sh_102 rfl (f_lt (o := 102) (m := 155) (Nat.le_of_ble_eq_true rfl) hN) rfl ?_
        refine i_getR (pc' := 49) (f_at inc_68 (j := 24) rfl) sh_108 rfl (f_lt (o := 108) (m := 155) (Nat.le_of_ble_eq_true rfl) hN) rfl ?_
        refine i_iload_n (pc' := 50) (f_at inc_68 (j := 25) rfl) rfl rfl ?_
        refine i_iald (pc' := 51) (f_at inc_68 (j := 26) rfl) sh_113 (f_bg (Nat.le_of_ble_eq_true rfl)) (f_lt (o := 113) (m := 155) (Nat.le_of_ble_eq_true rfl) hN) rfl fun v6 => ?_
        refine i_aload_n (pc' := 52) (f_at inc_68 (j := 27) rfl) rfl rfl ?_
        refine i_getR (pc' := 55) (f_at inc_68 (j := 28) rfl) sh_102 rfl (f_lt (o := 102) (m := 155) (Nat.le_of_ble_eq_true rfl) hN) rfl ?_
        refine i_getR (pc' := 58) (f_at inc_68 (j := 29) rfl) sh_108 rfl (f_lt (o := 108) (m := 155) (Nat.le_of_ble_eq_true rfl) hN) rfl ?_
        refine i_iload_n (pc' := 59) (f_at inc_68 (j := 30) rfl) rfl rfl ?_
        refine i_iald (pc' := 60) (f_at inc_68 (j := 31) rfl) sh_113 (f_bg (Nat.le_of_ble_eq_true rfl)) (f_lt (o := 113) (m := 155) (Nat.le_of_ble_eq_true rfl) hN) rfl fun v7 => ?_
        refine i_if2 (pc' := 67) (nx := 63) c2_ne (f_at inc_68 (j := 32) rfl) ⟨by decide, rfl⟩ (fun b8 => ?_) (fun b8 => ?_)
        · refine i_iconst (pc' := 68) (f_at inc_68 (j := 35) rfl) ci_0 rfl ?_
          exact hj3 false ()
        · refine i_iconst (pc' := 64) (f_at inc_68 (j := 33) rfl) ci_1 rfl ?_
          refine i_goto (pc' := 68) (f_at inc_68 (j := 34) rfl) (by decide) ?_
          exact hj3 true ()
set_option maxRecDepth 4000 in
theorem G_104 {xs : Nat → Int32} {L N : Nat} (hN : 155 ≤ N) (a1 : Int32)  (σ : f_M) : f_Cal a_MT xs L N 69 [.ref 102, .int a1] σ ((g_104 a1 σ).bind fun t => some (e_pi σ t)) := by
  refine f_cal_of (ls := [.ref 102, .int a1, a_dead, a_dead, a_dead]) MT_69 (Nat.le_of_ble_eq_true rfl) rfl ?_
  unfold g_104
  refine i_iconst (pc' := 1) (f_at inc_69 (j := 0) rfl) ci_0 rfl ?_
  refine i_istore_n (pc' := 2) (ls' := [.ref 102, .int a1, .int (0 : Int32), a_dead, a_dead]) (f_at inc_69 (j := 1) rfl) (Nat.le_of_ble_eq_true rfl) rfl rfl ?_
  refine i_iconst (pc' := 3) (f_at inc_69 (j := 2) rfl) ci_0 rfl ?_
  refine i_istore_n (pc' := 4) (ls' := [.ref 102, .int a1, .int (0 : Int32), .int (0 : Int32), a_dead]) (f_at inc_69 (j := 3) rfl) (Nat.le_of_ble_eq_true rfl) rfl rfl ?_
  refine s_lR ((0 : Int32), (0 : Int32)) (a_dead) (fun (s1 : Int32 × Int32) (u1 : Value) => [.ref 102, .int a1, .int s1.1, .int s1.2, u1]) (fun (s1 : Int32 × Int32) => σ) ?_
  intro s1 u1 k1 hb1 hr1
  refine i_iload_n (pc' := 5) (f_at inc_69 (j := 4) rfl) rfl rfl ?_
  refine i_aload_n (pc' := 6) (f_at inc_69 (j := 5) rfl) rfl rfl ?_
  refine i_getR (pc' := 9) (f_at inc_69 (j := 6) rfl) sh_102 rfl (f_lt (o := 102) (m := 155) (Nat.le_of_ble_eq_true rfl) hN) rfl ?_
  refine i_getI (pc' := 12) (f_at inc_69 (j := 7) rfl) sh_121 rfl (f_lt (o := 121) (m := 155) (Nat.le_of_ble_eq_true rfl) hN) rfl ?_
  refine i_if2 (pc' := 52) (nx := 15) c2_ge (f_at inc_69 (j := 8) rfl) ⟨by decide, rfl⟩ (fun b7 => ?_) (fun b7 => ?_)
  · refine i_iload_n (pc' := 53) (f_at inc_69 (j := 29) rfl) rfl rfl ?_
    refine s_rt (hr1 _) ?_
    exact i_iret (f_at inc_69 (j := 30) rfl) rfl n_int
  · refine i_aload_n (pc' := 16) (f_at inc_69 (j := 9) rfl) rfl rfl ?_
    refine i_getR (pc' := 19) (f_at inc_69 (j := 10) rfl) sh_102 rfl (f_lt (o := 102) (m := 155) (Nat.le_of_ble_eq_true rfl) hN) rfl ?_
    refine i_getR (pc' := 22) (f_at inc_69 (j := 11) rfl) sh_108 rfl (f_lt (o := 108) (m := 155) (Nat.le_of_ble_eq_true rfl) hN) rfl ?_
    refine i_iload_n (pc' := 23) (f_at inc_69 (j := 12) rfl) rfl rfl ?_
    refine i_iald (pc' := 24) (f_at inc_69 (j := 13) rfl) sh_119 (f_bg (Nat.le_of_ble_eq_true rfl)) (f_lt (o := 119) (m := 155) (Nat.le_of_ble_eq_true rfl) hN) rfl fun v2 => ?_
    refine i_istore (pc' := 26) (ls' := [.ref 102, .int a1, .int s1.1, .int s1.2, .int v2]) (f_at inc_69 (j := 14) rfl) (Nat.le_of_ble_eq_true rfl) rfl rfl ?_
    refine i_iload (pc' := 28) (f_at inc_69 (j := 15) rfl) rfl rfl ?_
    refine i_iload_n (pc' := 29) (f_at inc_69 (j := 16) rfl) rfl rfl ?_
    refine i_if2 (pc' := 34) (nx := 32) c2_ne (f_at inc_69 (j := 17) rfl) ⟨by decide, rfl⟩ (fun b6 => ?_) (fun b6 => ?_)
    · refine i_aload_n (pc' := 35) (f_at inc_69 (j := 20) rfl) rfl rfl ?_
      refine i_iload (pc' := 37) (f_at inc_69 (j := 21) rfl) rfl rfl ?_
      refine i_iload_n (pc' := 38) (f_at inc_69 (j := 22) rfl) rfl rfl ?_
      refine c_pb (pc' := 41) (c' := 0) (n' := 0) (h_virt (ra := [.int a1, .int v2, .ref 102]) (r := []) (as := [.int v2, .int a1]) (f_at inc_69 (j := 23) rfl) (by decide) MT_68 rfl rfl rfl ⟨Nat.le_of_ble_eq_true rfl, Nat.le_of_ble_eq_true rfl, Nat.le_of_ble_eq_true rfl⟩ sh_102 (f_lt (o := 102) (m := 155) (Nat.le_of_ble_eq_true rfl) hN)) MT_68 (G_103 hN v2 a1 σ) ⟨rfl, rfl, rfl⟩ fun t3 => ?_
      refine s_join (J := 46) (fun (t4 : Int32) (u4 : Unit) => [.ref 102, .int a1, .int t4, .int s1.2, .int v2]) (fun t4 => []) (fun t4 => σ) ?_ ?_
      · intro t4 u4
        refine i_iinc (pc' := 49) (ls' := [.ref 102, .int a1, .int t4, .int (s1.2 + (1 : Int32)), .int v2]) (f_at inc_69 (j := 27) rfl) rfl ci_1 rfl rfl ?_
        refine i_goto (pc' := 4) (f_at inc_69 (j := 28) rfl) (by decide) ?_
        exact hb1 (t4, (s1.2 + (1 : Int32))) (.int v2)
      · intro k4 hj4
        refine i_if0 (pc' := 46) (nx := 44) cb_eq (f_at inc_69 (j := 24) rfl) ⟨by decide, rfl⟩ (fun b5 => ?_) (fun b5 => ?_)
        · exact hj4 s1.1 ()
        · refine i_iconst (pc' := 45) (f_at inc_69 (j := 25) rfl) ci_5 rfl ?_
          refine i_istore_n (pc' := 46) (ls' := [.ref 102, .int a1, .int (5 : Int32), .int s1.2, .int v2]) (f_at inc_69 (j := 26) rfl) (Nat.le_of_ble_eq_true rfl) rfl rfl ?_
          exact hj4 (5 : Int32) ()
    · refine i_iconst (pc' := 33) (f_at inc_69 (j := 18) rfl) ci_4 rfl ?_
      refine s_rt (hr1 _) ?_
      exact i_iret (f_at inc_69 (j := 19) rfl) rfl n_int
set_option maxRecDepth 4000 in
theorem G_105 {xs : Nat → Int32} {L N : Nat} (hN : 155 ≤ N) (a1 : Int32)  (σ : f_M) : f_Cal a_MT xs L N 70 [.ref 102, .int a1] σ ((g_105 a1 σ).bind fun t => some (e_pi σ t)) := by
  refine f_cal_of (ls := [.ref 102, .int a1, a_dead]) MT_70 (Nat.le_of_ble_eq_true rfl) rfl ?_
  unfold g_105
  refine i_aload_n (pc' := 1) (f_at inc_70 (j := 0) rfl) rfl rfl ?_
  refine i_getR (pc' := 4) (f_at inc_70 (j := 1) rfl) sh_102 rfl (f_lt (o := 102) (m := 155) (Nat.le_of_ble_eq_true rfl) hN) rfl ?_
  refine i_iload_n (pc' := 5) (f_at inc_70 (j := 2) rfl) rfl rfl ?_
  refine c_pi (pc' := 8) (c' := 0) (n' := 0) (h_virt (ra := [.int a1, .ref 108]) (r := []) (as := [.int a1]) (f_at inc_70 (j := 3) rfl) (by decide) MT_58 rfl rfl rfl ⟨Nat.le_of_ble_eq_true rfl, Nat.le_of_ble_eq_true rfl, Nat.le_of_ble_eq_true rfl⟩ sh_108 (f_lt (o := 108) (m := 155) (Nat.le_of_ble_eq_true rfl) hN)) MT_58 (G_75 hN a1 σ) ⟨rfl, rfl, rfl⟩ fun t1 => ?_
  refine i_istore_n (pc' := 9) (ls' := [.ref 102, .int a1, .int t1]) (f_at inc_70 (j := 4) rfl) (Nat.le_of_ble_eq_true rfl) rfl rfl ?_
  refine i_aload_n (pc' := 10) (f_at inc_70 (j := 5) rfl) rfl rfl ?_
  refine i_getR (pc' := 13) (f_at inc_70 (j := 6) rfl) sh_102 rfl (f_lt (o := 102) (m := 155) (Nat.le_of_ble_eq_true rfl) hN) rfl ?_
  refine i_getR (pc' := 16) (f_at inc_70 (j := 7) rfl) sh_121 rfl (f_lt (o := 121) (m := 155) (Nat.le_of_ble_eq_true rfl) hN) rfl ?_
  refine i_iload_n (pc' := 17) (f_at inc_70 (j := 8) rfl) rfl rfl ?_
  refine i_bald (pc' := 18) (f_at inc_70 (j := 9) rfl) sh_123 (Or.inr rfl) (f_bg (Nat.le_of_ble_eq_true rfl)) (f_lt (o := 123) (m := 155) (Nat.le_of_ble_eq_true rfl) hN) rfl fun v2 => ?_
  refine i_if0 (pc' := 23) (nx := 21) c0_eq (f_at inc_70 (j := 10) rfl) ⟨by decide, rfl⟩ (fun b6 => ?_) (fun b6 => ?_)
  · refine i_aload_n (pc' := 24) (f_at inc_70 (j := 13) rfl) rfl rfl ?_
    refine i_getR (pc' := 27) (f_at inc_70 (j := 14) rfl) sh_102 rfl (f_lt (o := 102) (m := 155) (Nat.le_of_ble_eq_true rfl) hN) rfl ?_
    refine i_getI (pc' := 30) (f_at inc_70 (j := 15) rfl) sh_121 rfl (f_lt (o := 121) (m := 155) (Nat.le_of_ble_eq_true rfl) hN) rfl ?_
    refine i_iload_n (pc' := 31) (f_at inc_70 (j := 16) rfl) rfl rfl ?_
    refine i_if2 (pc' := 36) (nx := 34) c2_ge (f_at inc_70 (j := 17) rfl) ⟨by decide, rfl⟩ (fun b5 => ?_) (fun b5 => ?_)
    · refine i_aload_n (pc' := 37) (f_at inc_70 (j := 20) rfl) rfl rfl ?_
      refine i_getR (pc' := 40) (f_at inc_70 (j := 21) rfl) sh_102 rfl (f_lt (o := 102) (m := 155) (Nat.le_of_ble_eq_true rfl) hN) rfl ?_
      refine i_getI (pc' := 43) (f_at inc_70 (j := 22) rfl) sh_121 rfl (f_lt (o := 121) (m := 155) (Nat.le_of_ble_eq_true rfl) hN) rfl ?_
      refine i_iload_n (pc' := 44) (f_at inc_70 (j := 23) rfl) rfl rfl ?_
      refine i_bipush (pc' := 46) (f_at inc_70 (j := 24) rfl) cb_72 rfl ?_
      refine i_iadd (pc' := 47) (f_at inc_70 (j := 25) rfl) rfl ?_
      refine i_if2 (pc' := 52) (nx := 50) c2_le (f_at inc_70 (j := 26) rfl) ⟨by decide, rfl⟩ (fun b4 => ?_) (fun b4 => ?_)
      · refine i_aload_n (pc' := 53) (f_at inc_70 (j := 29) rfl) rfl rfl ?_
        refine i_iload_n (pc' := 54) (f_at inc_70 (j := 30) rfl) rfl rfl ?_
        refine c_pi (pc' := 57) (c' := 0) (n' := 0) (h_virt (ra := [.int a1, .ref 102]) (r := []) (as := [.int a1]) (f_at inc_70 (j := 31) rfl) (by decide) MT_69 rfl rfl rfl ⟨Nat.le_of_ble_eq_true rfl, Nat.le_of_ble_eq_true rfl, Nat.le_of_ble_eq_true rfl⟩ sh_102 (f_lt (o := 102) (m := 155) (Nat.le_of_ble_eq_true rfl) hN)) MT_69 (G_104 hN a1 σ) ⟨rfl, rfl, rfl⟩ fun t3 => ?_
        exact i_iret (f_at inc_70 (j := 32) rfl) rfl n_int
      · refine i_iconst (pc' := 51) (f_at inc_70 (j := 27) rfl) ci_3 rfl ?_
        exact i_iret (f_at inc_70 (j := 28) rfl) rfl n_int
    · refine i_iconst (pc' := 35) (f_at inc_70 (j := 18) rfl) ci_2 rfl ?_
      exact i_iret (f_at inc_70 (j := 19) rfl) rfl n_int
  · refine i_iconst (pc' := 22) (f_at inc_70 (j := 11) rfl) ci_1 rfl ?_
    exact i_iret (f_at inc_70 (j := 12) rfl) rfl n_int
set_option maxRecDepth 4000 in
def p_225 (a1 : Int32) (σ : f_M) : Option (Int32) :=
  (p_196 a1 σ).bind fun _ =>
  (g_105 a1 σ).bind fun t2 =>
  some t2
set_option maxRecDepth 4000 in
theorem P_225 {xs : Nat → Int32} {L N : Nat} (hN : 155 ≤ N) (a1 : Int32)  (σ : f_M) : f_Cal a_MT xs L N 71 [.ref 0, .int a1] σ ((p_225 a1 σ).bind fun t => some (e_pi σ t)) := by
  refine f_cal_of (ls := [.ref 0, .int a1]) MT_71 (Nat.le_of_ble_eq_true rfl) rfl ?_
  unfold p_225
  refine i_aload_n (pc' := 1) (f_at inc_71 (j := 0) rfl) rfl rfl ?_
  refine i_iload_n (pc' := 2) (f_at inc_71 (j := 1) rfl) rfl rfl ?_
  refine c_pv (pc' := 5) (c' := 0) (n' := 0) (h_virt (ra := [.int a1, .ref 0]) (r := []) (as := [.int a1]) (f_at inc_71 (j := 2) rfl) (by decide) MT_53 rfl rfl rfl ⟨Nat.le_of_ble_eq_true rfl, Nat.le_of_ble_eq_true rfl, Nat.le_of_ble_eq_true rfl⟩ sh_0 (f_lt (o := 0) (m := 155) (Nat.le_of_ble_eq_true rfl) hN)) MT_53 (P_196 hN a1 σ) ⟨rfl, rfl, rfl⟩ ?_
  refine i_aload_n (pc' := 6) (f_at inc_71 (j := 3) rfl) rfl rfl ?_
  refine i_getR (pc' := 9) (f_at inc_71 (j := 4) rfl) sh_0 rfl (f_lt (o := 0) (m := 155) (Nat.le_of_ble_eq_true rfl) hN) rfl ?_
  refine i_iload_n (pc' := 10) (f_at inc_71 (j := 5) rfl) rfl rfl ?_
  refine c_pi (pc' := 13) (c' := 0) (n' := 0) (h_virt (ra := [.int a1, .ref 102]) (r := []) (as := [.int a1]) (f_at inc_71 (j := 6) rfl) (by decide) MT_70 rfl rfl rfl ⟨Nat.le_of_ble_eq_true rfl, Nat.le_of_ble_eq_true rfl, Nat.le_of_ble_eq_true rfl⟩ sh_102 (f_lt (o := 102) (m := 155) (Nat.le_of_ble_eq_true rfl) hN)) MT_70 (G_105 hN a1 σ) ⟨rfl, rfl, rfl⟩ fun t2 => ?_
  exact i_iret (f_at inc_71 (j := 7) rfl) rfl n_int
set_option maxRecDepth 4000 in
def l_obstacle (a1 : Int32) (σ : f_M) : Option (Int32) :=
  (f_rd σ 161 20 a1).bind fun v1 =>
  (f_rd σ 162 20 a1).bind fun v2 =>
  (f_rd σ 168 20 a1).bind fun v3 =>
  if v3 = 0 then (
   if (v1 + v2) ≤ (σ 155 26) then (
    if (σ 155 26) ≤ ((v1 + v2) + (72 : Int32)) then (
     (f_rd σ 169 20 a1).bind fun v4 =>
     if v4 = 0 then (
      (f_lp (fun (s5 : Int32) =>
       if (σ 155 24) ≤ s5 then (
        some (.inr (0 : Int32))
       ) else (
        (f_rd σ 169 20 s5).bind fun v6 =>
        if v6 = 0 then (
         some (.inl (s5 + (1 : Int32)))
        ) else (
         (f_rd σ 160 20 s5).bind fun v7 =>
         (f_rd σ 160 20 a1).bind fun v8 =>
         if ¬ v7 = v8 then (
          some (.inl (s5 + (1 : Int32)))
         ) else (
          (f_rd σ 159 20 s5).bind fun v9 =>
          (f_rd σ 159 20 a1).bind fun v10 =>
          if ¬ v9 = v10 then (
           some (.inl (s5 + (1 : Int32)))
          ) else (
           (f_rd σ 161 20 s5).bind fun v11 =>
           (f_rd σ 161 20 a1).bind fun v12 =>
           if ¬ v11 = v12 then (
            some (.inl (s5 + (1 : Int32)))
           ) else (
            some (.inr (5 : Int32))
           )
          )
         )
        )
       )
      ) f_F (0 : Int32)).bind fun (r5 : Int32) => some r5
     ) else (
      some (4 : Int32)
     )
    ) else (
     some (3 : Int32)
    )
   ) else (
    some (2 : Int32)
   )
  ) else (
   some (1 : Int32)
  )
set_option maxRecDepth 4000 in
theorem L_obstacle {xs : Nat → Int32} {L N : Nat} (hN : 181 ≤ N) (a1 : Int32)  (σ : f_M) : f_Cal a_MT xs L N 72 [.ref 155, .int a1] σ ((l_obstacle a1 σ).bind fun t => some (e_pi σ t)) := by
  refine f_cal_of (ls := [.ref 155, .int a1, a_dead, a_dead]) MT_72 (Nat.le_of_ble_eq_true rfl) rfl ?_
  unfold l_obstacle
  refine i_aload_n (pc' := 1) (f_at inc_72 (j := 0) rfl) rfl rfl ?_
  refine i_getR (pc' := 4) (f_at inc_72 (j := 1) rfl) sh_155 rfl (f_lt (o := 155) (m := 181) (Nat.le_of_ble_eq_true rfl) hN) rfl ?_
  refine i_iload_n (pc' := 5) (f_at inc_72 (j := 2) rfl) rfl rfl ?_
  refine i_iald (pc' := 6) (f_at inc_72 (j := 3) rfl) sh_161 (f_bg (Nat.le_of_ble_eq_true rfl)) (f_lt (o := 161) (m := 181) (Nat.le_of_ble_eq_true rfl) hN) rfl fun v1 => ?_
  refine i_aload_n (pc' := 7) (f_at inc_72 (j := 4) rfl) rfl rfl ?_
  refine i_getR (pc' := 10) (f_at inc_72 (j := 5) rfl) sh_155 rfl (f_lt (o := 155) (m := 181) (Nat.le_of_ble_eq_true rfl) hN) rfl ?_
  refine i_iload_n (pc' := 11) (f_at inc_72 (j := 6) rfl) rfl rfl ?_
  refine i_iald (pc' := 12) (f_at inc_72 (j := 7) rfl) sh_162 (f_bg (Nat.le_of_ble_eq_true rfl)) (f_lt (o := 162) (m := 181) (Nat.le_of_ble_eq_true rfl) hN) rfl fun v2 => ?_
  refine i_iadd (pc' := 13) (f_at inc_72 (j := 8) rfl) rfl ?_
  refine i_istore_n (pc' := 14) (ls' := [.ref 155, .int a1, .int (v1 + v2), a_dead]) (f_at inc_72 (j := 9) rfl) (Nat.le_of_ble_eq_true rfl) rfl rfl ?_
  refine i_aload_n (pc' := 15) (f_at inc_72 (j := 10) rfl) rfl rfl ?_
  refine i_getR (pc' := 18) (f_at inc_72 (j := 11) rfl) sh_155 rfl (f_lt (o := 155) (m := 181) (Nat.le_of_ble_eq_true rfl) hN) rfl ?_
  refine i_iload_n (pc' := 19) (f_at inc_72 (j := 12) rfl) rfl rfl ?_
  refine i_bald (pc' := 20) (f_at inc_72 (j := 13) rfl) sh_168 (Or.inr rfl) (f_bg (Nat.le_of_ble_eq_true rfl)) (f_lt (o := 168) (m := 181) (Nat.le_of_ble_eq_true rfl) hN) rfl fun v3 => ?_
  refine i_if0 (pc' := 25) (nx := 23) c0_eq (f_at inc_72 (j := 14) rfl) ⟨by decide, rfl⟩ (fun b21 => ?_) (fun b21 => ?_)
  · refine i_aload_n (pc' := 26) (f_at inc_72 (j := 17) rfl) rfl rfl ?_
    refine i_getI (pc' := 29) (f_at inc_72 (j := 18) rfl) sh_155 rfl (f_lt (o := 155) (m := 181) (Nat.le_of_ble_eq_true rfl) hN) rfl ?_
    refine i_iload_n (pc' := 30) (f_at inc_72 (j := 19) rfl) rfl rfl ?_
    refine i_if2 (pc' := 35) (nx := 33) c2_ge (f_at inc_72 (j := 20) rfl) ⟨by decide, rfl⟩ (fun b20 => ?_) (fun b20 => ?_)
    · refine i_aload_n (pc' := 36) (f_at inc_72 (j := 23) rfl) rfl rfl ?_
      refine i_getI (pc' := 39) (f_at inc_72 (j := 24) rfl) sh_155 rfl (f_lt (o := 155) (m := 181) (Nat.le_of_ble_eq_true rfl) hN) rfl ?_
      refine i_iload_n (pc' := 40) (f_at inc_72 (j := 25) rfl) rfl rfl ?_
      refine i_bipush (pc' := 42) (f_at inc_72 (j := 26) rfl) cb_72 rfl ?_
      refine i_iadd (pc' := 43) (f_at inc_72 (j := 27) rfl) rfl ?_
      refine i_if2 (pc' := 48) (nx := 46) c2_le (f_at inc_72 (j := 28) rfl) ⟨by decide, rfl⟩ (fun b19 => ?_) (fun b19 => ?_)
      · refine i_aload_n (pc' := 49) (f_at inc_72 (j := 31) rfl) rfl rfl ?_
        refine i_getR (pc' := 52) (f_at inc_72 (j := 32) rfl) sh_155 rfl (f_lt (o := 155) (m := 181) (Nat.le_of_ble_eq_true rfl) hN) rfl ?_
        refine i_iload_n (pc' := 53) (f_at inc_72 (j := 33) rfl) rfl rfl ?_
        refine i_bald (pc' := 54) (f_at inc_72 (j := 34) rfl) sh_169 (Or.inr rfl) (f_bg (Nat.le_of_ble_eq_true rfl)) (f_lt (o := 169) (m := 181) (Nat.le_of_ble_eq_true rfl) hN) rfl fun v4 => ?_
        refine i_if0 (pc' := 59) (nx := 57) c0_eq (f_at inc_72 (j := 35) rfl) ⟨by decide, rfl⟩ (fun b18 => ?_) (fun b18 => ?_)
        · refine i_iconst (pc' := 60) (f_at inc_72 (j := 38) rfl) ci_0 rfl ?_
          refine i_istore_n (pc' := 61) (ls' := [.ref 155, .int a1, .int (v1 + v2), .int (0 : Int32)]) (f_at inc_72 (j := 39) rfl) (Nat.le_of_ble_eq_true rfl) rfl rfl ?_
          refine s_lR (0 : Int32) () (fun (s5 : Int32) (u5 : Unit) => [.ref 155, .int a1, .int (v1 + v2), .int s5]) (fun (s5 : Int32) => σ) ?_
          intro s5 u5 k5 hb5 hr5
          refine i_iload_n (pc' := 62) (f_at inc_72 (j := 40) rfl) rfl rfl ?_
          refine i_aload_n (pc' := 63) (f_at inc_72 (j := 41) rfl) rfl rfl ?_
          refine i_getI (pc' := 66) (f_at inc_72 (j := 42) rfl) sh_155 rfl (f_lt (o := 155) (m := 181) (Nat.le_of_ble_eq_true rfl) hN) rfl ?_
          refine i_if2 (pc' := 131) (nx := 69) c2_ge (f_at inc_72 (j := 43) rfl) ⟨by decide, rfl⟩ (fun b17 => ?_) (fun b17 => ?_)
          · refine i_iconst (pc' := 132) (f_at inc_72 (j := 80) rfl) ci_0 rfl ?_
            refine s_rt (hr5 _) ?_
            exact i_iret (f_at inc_72 (j := 81) rfl) rfl n_int
          · refine i_aload_n (pc' := 70) (f_at inc_72 (j := 44) rfl) rfl rfl ?_
            refine i_getR (pc' := 73) (f_at inc_72 (j := 45) rfl) sh_155 rfl (f_lt (o := 155) (m := 181) (Nat.le_of_ble_eq_true rfl) hN) rfl ?_
            refine i_iload_n (pc' := 74) (f_at inc_72 (j := 46) rfl) rfl rfl ?_
            refine i_bald (pc' := 75) (f_at inc_72 (j := 47) rfl) sh_169 (Or.inr rfl) (f_bg (Nat.le_of_ble_eq_true rfl)) (f_lt (o := 169) (m := 181) (Nat.le_of_ble_eq_true rfl) hN) rfl fun v6 => ?_
            refine i_if0 (pc' := 125) (nx := 78) c0_eq (f_at inc_72 (j := 48) rfl) ⟨by decide, rfl⟩ (fun b16 => ?_) (fun b16 => ?_)
            · refine i_iinc (pc' := 128) (ls' := [.ref 155, .int a1, .int (v1 + v2), .int (s5 + (1 : Int32))]) (f_at inc_72 (j := 78) rfl) rfl ci_1 rfl rfl ?_
              refine i_goto (pc' := 61) (f_at inc_72 (j := 79) rfl) (by decide) ?_
              exact hb5 (s5 + (1 : Int32)) ()
            · refine i_aload_n (pc' := 79) (f_at inc_72 (j := 49) rfl) rfl rfl ?_
              refine i_getR (pc' := 82) (f_at inc_72 (j := 50) rfl) sh_155 rfl (f_lt (o := 155) (m := 181) (Nat.le_of_ble_eq_true rfl) hN) rfl ?_
              refine i_iload_n (pc' := 83) (f_at inc_72 (j := 51) rfl) rfl rfl ?_
              refine i_iald (pc' := 84) (f_at inc_72 (j := 52) rfl) sh_160 (f_bg (Nat.le_of_ble_eq_true rfl)) (f_lt (o := 160) (m := 181) (Nat.le_of_ble_eq_true rfl) hN) rfl fun v7 => ?_
              refine i_aload_n (pc' := 85) (f_at inc_72 (j := 53) rfl) rfl rfl ?_
              refine i_getR (pc' := 88) (f_at inc_72 (j := 54) rfl) sh_155 rfl (f_lt (o := 155) (m := 181) (Nat.le_of_ble_eq_true rfl) hN) rfl ?_
              refine i_iload_n (pc' := 89) (f_at inc_72 (j := 55) rfl) rfl rfl ?_
              refine i_iald (pc' := 90) (f_at inc_72 (j := 56) rfl) sh_160 (f_bg (Nat.le_of_ble_eq_true rfl)) (f_lt (o := 160) (m := 181) (Nat.le_of_ble_eq_true rfl) hN) rfl fun v8 => ?_
              refine i_if2 (pc' := 125) (nx := 93) c2_ne (f_at inc_72 (j := 57) rfl) ⟨by decide, rfl⟩ (fun b15 => ?_) (fun b15 => ?_)
              · refine i_iinc (pc' := 128) (ls' := [.ref 155, .int a1, .int (v1 + v2), .int (s5 + (1 : Int32))]) (f_at inc_72 (j := 78) rfl) rfl ci_1 rfl rfl ?_
                refine i_goto (pc' := 61) (f_at inc_72 (j := 79) rfl) (by decide) ?_
                exact hb5 (s5 + (1 : Int32)) ()
              · refine i_aload_n (pc' := 94) (f_at inc_72 (j := 58) rfl) rfl rfl ?_
                refine i_getR (pc' := 97) (f_at inc_72 (j := 59) rfl) sh_155 rfl (f_lt (o := 155) (m := 181) (Nat.le_of_ble_eq_true rfl) hN) rfl ?_
                refine i_iload_n (pc' := 98) (f_at inc_72 (j := 60) rfl) rfl rfl ?_
                refine i_iald (pc' := 99) (f_at inc_72 (j := 61) rfl) sh_159 (f_bg (Nat.le_of_ble_eq_true rfl)) (f_lt (o := 159) (m := 181) (Nat.le_of_ble_eq_true rfl) hN) rfl fun v9 => ?_
                refine i_aload_n (pc' := 100) (f_at inc_72 (j := 62) rfl) rfl rfl ?_
                refine i_getR (pc' := 103) (f_at inc_72 (j := 63) rfl) sh_155 rfl (f_lt (o := 155) (m := 181) (Nat.le_of_ble_eq_true rfl) hN) rfl ?_
                refine i_iload_n (pc' := 104) (f_at inc_72 (j := 64) rfl) rfl rfl ?_
                refine i_iald (pc' := 105) (f_at inc_72 (j := 65) rfl) sh_159 (f_bg (Nat.le_of_ble_eq_true rfl)) (f_lt (o := 159) (m := 181) (Nat.le_of_ble_eq_true rfl) hN) rfl fun v10 => ?_
                refine i_if2 (pc' := 125) (nx := 108) c2_ne (f_at inc_72 (j := 66) rfl) ⟨by decide, rfl⟩ (fun b14 => ?_) (fun b14 => ?_)
                · refine i_iinc (pc' := 128) (ls' := [.ref 155, .int a1, .int (v1 + v2), .int (s5 + (1 : Int32))]) (f_at inc_72 (j := 78) rfl) rfl ci_1 rfl rfl ?_
                  refine i_goto (pc' := 61) (f_at inc_72 (j := 79) rfl) (by decide) ?_
                  exact hb5 (s5 + (1 : Int32)) ()
                · refine i_aload_n (pc' := 109) (f_at inc_72 (j := 67) rfl) rfl rfl ?_
                  refine i_getR (pc' := 112) (f_at inc_72 (j := 68) rfl) sh_155 rfl (f_lt (o := 155) (m := 181) (Nat.le_of_ble_eq_true rfl) hN) rfl ?_
                  refine i_iload_n (pc' := 113) (f_at inc_72 (j := 69) rfl) rfl rfl ?_
                  refine i_iald (pc' := 114) (f_at inc_72 (j := 70) rfl) sh_161 (f_bg (Nat.le_of_ble_eq_true rfl)) (f_lt (o := 161) (m := 181) (Nat.le_of_ble_eq_true rfl) hN) rfl fun v11 => ?_
                  refine i_aload_n (pc' := 115) (f_at inc_72 (j := 71) rfl) rfl rfl ?_
                  refine i_getR (pc' := 118) (f_at inc_72 (j := 72) rfl) sh_155 rfl (f_lt (o := 155) (m := 181) (Nat.le_of_ble_eq_true rfl) hN) rfl ?_
                  refine i_iload_n (pc' := 119) (f_at inc_72 (j := 73) rfl) rfl rfl ?_
                  refine i_iald (pc' := 120) (f_at inc_72 (j := 74) rfl) sh_161 (f_bg (Nat.le_of_ble_eq_true rfl)) (f_lt (o := 161) (m := 181) (Nat.le_of_ble_eq_true rfl) hN) rfl fun v12 => ?_
                  refine i_if2 (pc' := 125) (nx := 123) c2_ne (f_at inc_72 (j := 75) rfl) ⟨by decide, rfl⟩ (fun b13 => ?_) (fun b13 => ?_)
                  · refine i_iinc (pc' := 128) (ls' := [.ref 155, .int a1, .int (v1 + v2), .int (s5 + (1 : Int32))]) (f_at inc_72 (j := 78) rfl) rfl ci_1 rfl rfl ?_
                    refine i_goto (pc' := 61) (f_at inc_72 (j := 79) rfl) (by decide) ?_
                    exact hb5 (s5 + (1 : Int32)) ()
                  · refine i_iconst (pc' := 124) (f_at inc_72 (j := 76) rfl) ci_5 rfl ?_
                    refine s_rt (hr5 _) ?_
                    exact i_iret (f_at inc_72 (j := 77) rfl) rfl n_int
        · refine i_iconst (pc' := 58) (f_at inc_72 (j := 36) rfl) ci_4 rfl ?_
          exact i_iret (f_at inc_72 (j := 37) rfl) rfl n_int
      · refine i_iconst (pc' := 47) (f_at inc_72 (j := 29) rfl) ci_3 rfl ?_
        exact i_iret (f_at inc_72 (j := 30) rfl) rfl n_int
    · refine i_iconst (pc' := 34) (f_at inc_72 (j := 21) rfl) ci_2 rfl ?_
      exact i_iret (f_at inc_72 (j := 22) rfl) rfl n_int
  · refine i_iconst (pc' := 24) (f_at inc_72 (j := 15) rfl) ci_1 rfl ?_
    exact i_iret (f_at inc_72 (j := 16) rfl) rfl n_int
set_option maxRecDepth 4000 in
def p_230 (a1 : Int32) (σ : f_M) : Option (Unit) :=
  (p_171 a1 (σ 121 5) σ).bind fun _ =>
  some ()
set_option maxRecDepth 4000 in
theorem P_230 {xs : Nat → Int32} {L N : Nat} (hN : 155 ≤ N) (a1 : Int32)  (σ : f_M) : f_Cal a_MT xs L N 73 [.ref 0, .int a1] σ ((p_230 a1 σ).bind fun t => some (e_pv σ t)) := by
  refine f_cal_of (ls := [.ref 0, .int a1]) MT_73 (Nat.le_of_ble_eq_true rfl) rfl ?_
  unfold p_230
  refine i_iload_n (pc' := 1) (f_at inc_73 (j := 0) rfl) rfl rfl ?_
  refine i_aload_n (pc' := 2) (f_at inc_73 (j := 1) rfl) rfl rfl ?_
  refine i_getR (pc' := 5) (f_at inc_73 (j := 2) rfl) sh_0 rfl (f_lt (o := 0) (m := 155) (Nat.le_of_ble_eq_true rfl) hN) rfl ?_
  refine i_getI (pc' := 8) (f_at inc_73 (j := 3) rfl) sh_121 rfl (f_lt (o := 121) (m := 155) (Nat.le_of_ble_eq_true rfl) hN) rfl ?_
  refine c_pv (pc' := 11) (c' := 0) (n' := 0) (h_stat (ra := [.int (σ 121 5), .int a1]) (r := []) (as := [.int a1, .int (σ 121 5)]) (f_at inc_73 (j := 4) rfl) (by decide) MT_50 rfl rfl rfl ⟨Nat.le_of_ble_eq_true rfl, Nat.le_of_ble_eq_true rfl, Nat.le_of_ble_eq_true rfl⟩) MT_50 (P_171 hN a1 (σ 121 5) σ) ⟨rfl, rfl, rfl⟩ ?_
  exact i_vret (f_at inc_73 (j := 5) rfl) rfl
set_option maxRecDepth 4000 in
def p_231 (a1 : Int32) (σ : f_M) : Option (Int32) :=
  (p_230 a1 σ).bind fun _ =>
  (f_rd σ 119 20 a1).bind fun v2 =>
  some v2
set_option maxRecDepth 4000 in
theorem P_231 {xs : Nat → Int32} {L N : Nat} (hN : 155 ≤ N) (a1 : Int32)  (σ : f_M) : f_Cal a_MT xs L N 74 [.ref 0, .int a1] σ ((p_231 a1 σ).bind fun t => some (e_pi σ t)) := by
  refine f_cal_of (ls := [.ref 0, .int a1]) MT_74 (Nat.le_of_ble_eq_true rfl) rfl ?_
  unfold p_231
  refine i_aload_n (pc' := 1) (f_at inc_74 (j := 0) rfl) rfl rfl ?_
  refine i_iload_n (pc' := 2) (f_at inc_74 (j := 1) rfl) rfl rfl ?_
  refine c_pv (pc' := 5) (c' := 0) (n' := 0) (h_virt (ra := [.int a1, .ref 0]) (r := []) (as := [.int a1]) (f_at inc_74 (j := 2) rfl) (by decide) MT_73 rfl rfl rfl ⟨Nat.le_of_ble_eq_true rfl, Nat.le_of_ble_eq_true rfl, Nat.le_of_ble_eq_true rfl⟩ sh_0 (f_lt (o := 0) (m := 155) (Nat.le_of_ble_eq_true rfl) hN)) MT_73 (P_230 hN a1 σ) ⟨rfl, rfl, rfl⟩ ?_
  refine i_aload_n (pc' := 6) (f_at inc_74 (j := 3) rfl) rfl rfl ?_
  refine i_getR (pc' := 9) (f_at inc_74 (j := 4) rfl) sh_0 rfl (f_lt (o := 0) (m := 155) (Nat.le_of_ble_eq_true rfl) hN) rfl ?_
  refine i_getR (pc' := 12) (f_at inc_74 (j := 5) rfl) sh_108 rfl (f_lt (o := 108) (m := 155) (Nat.le_of_ble_eq_true rfl) hN) rfl ?_
  refine i_iload_n (pc' := 13) (f_at inc_74 (j := 6) rfl) rfl rfl ?_
  refine i_iald (pc' := 14) (f_at inc_74 (j := 7) rfl) sh_119 (f_bg (Nat.le_of_ble_eq_true rfl)) (f_lt (o := 119) (m := 155) (Nat.le_of_ble_eq_true rfl) hN) rfl fun v2 => ?_
  exact i_iret (f_at inc_74 (j := 8) rfl) rfl n_int
set_option maxRecDepth 4000 in
def p_236 (a1 : Int32) (σ : f_M) : Option (Int32) :=
  (p_230 a1 σ).bind fun _ =>
  (f_rd σ 120 20 a1).bind fun v2 =>
  some v2
set_option maxRecDepth 4000 in
theorem P_236 {xs : Nat → Int32} {L N : Nat} (hN : 155 ≤ N) (a1 : Int32)  (σ : f_M) : f_Cal a_MT xs L N 75 [.ref 0, .int a1] σ ((p_236 a1 σ).bind fun t => some (e_pi σ t)) := by
  refine f_cal_of (ls := [.ref 0, .int a1]) MT_75 (Nat.le_of_ble_eq_true rfl) rfl ?_
  unfold p_236
  refine i_aload_n (pc' := 1) (f_at inc_75 (j := 0) rfl) rfl rfl ?_
  refine i_iload_n (pc' := 2) (f_at inc_75 (j := 1) rfl) rfl rfl ?_
  refine c_pv (pc' := 5) (c' := 0) (n' := 0) (h_virt (ra := [.int a1, .ref 0]) (r := []) (as := [.int a1]) (f_at inc_75 (j := 2) rfl) (by decide) MT_73 rfl rfl rfl ⟨Nat.le_of_ble_eq_true rfl, Nat.le_of_ble_eq_true rfl, Nat.le_of_ble_eq_true rfl⟩ sh_0 (f_lt (o := 0) (m := 155) (Nat.le_of_ble_eq_true rfl) hN)) MT_73 (P_230 hN a1 σ) ⟨rfl, rfl, rfl⟩ ?_
  refine i_aload_n (pc' := 6) (f_at inc_75 (j := 3) rfl) rfl rfl ?_
  refine i_getR (pc' := 9) (f_at inc_75 (j := 4) rfl) sh_0 rfl (f_lt (o := 0) (m := 155) (Nat.le_of_ble_eq_true rfl) hN) rfl ?_
  refine i_getR (pc' := 12) (f_at inc_75 (j := 5) rfl) sh_108 rfl (f_lt (o := 108) (m := 155) (Nat.le_of_ble_eq_true rfl) hN) rfl ?_
  refine i_iload_n (pc' := 13) (f_at inc_75 (j := 6) rfl) rfl rfl ?_
  refine i_iald (pc' := 14) (f_at inc_75 (j := 7) rfl) sh_120 (f_bg (Nat.le_of_ble_eq_true rfl)) (f_lt (o := 120) (m := 155) (Nat.le_of_ble_eq_true rfl) hN) rfl fun v2 => ?_
  exact i_iret (f_at inc_75 (j := 8) rfl) rfl n_int
set_option maxRecDepth 4000 in
def p_239 (a1 : Int32) (σ : f_M) : Option (Bool) :=
  (p_230 a1 σ).bind fun _ =>
  (f_rd σ 124 20 a1).bind fun v2 =>
  (
   if ¬ v2 = 0 then (
    some false
   ) else (
    some true
   )
  ).bind fun (t3 : Bool) =>
  some t3
set_option maxRecDepth 4000 in
theorem P_239 {xs : Nat → Int32} {L N : Nat} (hN : 155 ≤ N) (a1 : Int32)  (σ : f_M) : f_Cal a_MT xs L N 76 [.ref 0, .int a1] σ ((p_239 a1 σ).bind fun t => some (e_pb σ t)) := by
  refine f_cal_of (ls := [.ref 0, .int a1]) MT_76 (Nat.le_of_ble_eq_true rfl) rfl ?_
  unfold p_239
  refine i_aload_n (pc' := 1) (f_at inc_76 (j := 0) rfl) rfl rfl ?_
  refine i_iload_n (pc' := 2) (f_at inc_76 (j := 1) rfl) rfl rfl ?_
  refine c_pv (pc' := 5) (c' := 0) (n' := 0) (h_virt (ra := [.int a1, .ref 0]) (r := []) (as := [.int a1]) (f_at inc_76 (j := 2) rfl) (by decide) MT_73 rfl rfl rfl ⟨Nat.le_of_ble_eq_true rfl, Nat.le_of_ble_eq_true rfl, Nat.le_of_ble_eq_true rfl⟩ sh_0 (f_lt (o := 0) (m := 155) (Nat.le_of_ble_eq_true rfl) hN)) MT_73 (P_230 hN a1 σ) ⟨rfl, rfl, rfl⟩ ?_
  refine i_aload_n (pc' := 6) (f_at inc_76 (j := 3) rfl) rfl rfl ?_
  refine i_getR (pc' := 9) (f_at inc_76 (j := 4) rfl) sh_0 rfl (f_lt (o := 0) (m := 155) (Nat.le_of_ble_eq_true rfl) hN) rfl ?_
  refine i_getR (pc' := 12) (f_at inc_76 (j := 5) rfl) sh_121 rfl (f_lt (o := 121) (m := 155) (Nat.le_of_ble_eq_true rfl) hN) rfl ?_
  refine i_iload_n (pc' := 13) (f_at inc_76 (j := 6) rfl) rfl rfl ?_
  refine i_iald (pc' := 14) (f_at inc_76 (j := 7) rfl) sh_124 (f_bg (Nat.le_of_ble_eq_true rfl)) (f_lt (o := 124) (m := 155) (Nat.le_of_ble_eq_true rfl) hN) rfl fun v2 => ?_
  refine s_join (J := 22) (fun (t3 : Bool) (u3 : Unit) => [.ref 0, .int a1]) (fun t3 => [.int (f_b t3)]) (fun t3 => σ) ?_ ?_
  · intro t3 u3
    exact i_iret (v := f_b t3) (f_at inc_76 (j := 12) rfl) rfl n_bool
  · intro k3 hj3
    refine i_if0 (pc' := 21) (nx := 17) c0_ne (f_at inc_76 (j := 8) rfl) ⟨by decide, rfl⟩ (fun b4 => ?_) (fun b4 => ?_)
    · refine i_iconst (pc' := 22) (f_at inc_76 (j := 11) rfl) ci_0 rfl ?_
      exact hj3 false ()
    · refine i_iconst (pc' := 18) (f_at inc_76 (j := 9) rfl) ci_1 rfl ?_
      refine i_goto (pc' := 22) (f_at inc_76 (j := 10) rfl) (by decide) ?_
      exact hj3 true ()
set_option maxRecDepth 4000 in
def p_243 (a1 : Int32) (σ : f_M) : Option (Bool) :=
  (p_230 a1 σ).bind fun _ =>
  (f_rd σ 124 20 a1).bind fun v2 =>
  (
   if ¬ v2 = (1 : Int32) then (
    some false
   ) else (
    some true
   )
  ).bind fun (t3 : Bool) =>
  some t3
set_option maxRecDepth 4000 in
theorem P_243 {xs : Nat → Int32} {L N : Nat} (hN : 155 ≤ N) (a1 : Int32)  (σ : f_M) : f_Cal a_MT xs L N 77 [.ref 0, .int a1] σ ((p_243 a1 σ).bind fun t => some (e_pb σ t)) := by
  refine f_cal_of (ls := [.ref 0, .int a1]) MT_77 (Nat.le_of_ble_eq_true rfl) rfl ?_
  unfold p_243
  refine i_aload_n (pc' := 1) (f_at inc_77 (j := 0) rfl) rfl rfl ?_
  refine i_iload_n (pc' := 2) (f_at inc_77 (j := 1) rfl) rfl rfl ?_
  refine c_pv (pc' := 5) (c' := 0) (n' := 0) (h_virt (ra := [.int a1, .ref 0]) (r := []) (as := [.int a1]) (f_at inc_77 (j := 2) rfl) (by decide) MT_73 rfl rfl rfl ⟨Nat.le_of_ble_eq_true rfl, Nat.le_of_ble_eq_true rfl, Nat.le_of_ble_eq_true rfl⟩ sh_0 (f_lt (o := 0) (m := 155) (Nat.le_of_ble_eq_true rfl) hN)) MT_73 (P_230 hN a1 σ) ⟨rfl, rfl, rfl⟩ ?_
  refine i_aload_n (pc' := 6) (f_at inc_77 (j := 3) rfl) rfl rfl ?_
  refine i_getR (pc' := 9) (f_at inc_77 (j := 4) rfl) sh_0 rfl (f_lt (o := 0) (m := 155) (Nat.le_of_ble_eq_true rfl) hN) rfl ?_
  refine i_getR (pc' := 12) (f_at inc_77 (j := 5) rfl) sh_121 rfl (f_lt (o := 121) (m := 155) (Nat.le_of_ble_eq_true rfl) hN) rfl ?_
  refine i_iload_n (pc' := 13) (f_at inc_77 (j := 6) rfl) rfl rfl ?_
  refine i_iald (pc' := 14) (f_at inc_77 (j := 7) rfl) sh_124 (f_bg (Nat.le_of_ble_eq_true rfl)) (f_lt (o := 124) (m := 155) (Nat.le_of_ble_eq_true rfl) hN) rfl fun v2 => ?_
  refine i_iconst (pc' := 15) (f_at inc_77 (j := 8) rfl) ci_1 rfl ?_
  refine s_join (J := 23) (fun (t3 : Bool) (u3 : Unit) => [.ref 0, .int a1]) (fun t3 => [.int (f_b t3)]) (fun t3 => σ) ?_ ?_
  · intro t3 u3
    exact i_iret (v := f_b t3) (f_at inc_77 (j := 13) rfl) rfl n_bool
  · intro k3 hj3
    refine i_if2 (pc' := 22) (nx := 18) c2_ne (f_at inc_77 (j := 9) rfl) ⟨by decide, rfl⟩ (fun b4 => ?_) (fun b4 => ?_)
    · refine i_iconst (pc' := 23) (f_at inc_77 (j := 12) rfl) ci_0 rfl ?_
      exact hj3 false ()
    · refine i_iconst (pc' := 19) (f_at inc_77 (j := 10) rfl) ci_1 rfl ?_
      refine i_goto (pc' := 23) (f_at inc_77 (j := 11) rfl) (by decide) ?_
      exact hj3 true ()
set_option maxRecDepth 4000 in
def p_246 (a1 : Int32) (σ : f_M) : Option (Bool) :=
  (p_230 a1 σ).bind fun _ =>
  (f_rd σ 124 20 a1).bind fun v2 =>
  (
   if ¬ v2 = (3 : Int32) then (
    some false
   ) else (
    some true
   )
  ).bind fun (t3 : Bool) =>
  some t3
set_option maxRecDepth 4000 in
theorem P_246 {xs : Nat → Int32} {L N : Nat} (hN : 155 ≤ N) (a1 : Int32)  (σ : f_M) : f_Cal a_MT xs L N 78 [.ref 0, .int a1] σ ((p_246 a1 σ).bind fun t => some (e_pb σ t)) := by
  refine f_cal_of (ls := [.ref 0, .int a1]) MT_78 (Nat.le_of_ble_eq_true rfl) rfl ?_
  unfold p_246
  refine i_aload_n (pc' := 1) (f_at inc_78 (j := 0) rfl) rfl rfl ?_
  refine i_iload_n (pc' := 2) (f_at inc_78 (j := 1) rfl) rfl rfl ?_
  refine c_pv (pc' := 5) (c' := 0) (n' := 0) (h_virt (ra := [.int a1, .ref 0]) (r := []) (as := [.int a1]) (f_at inc_78 (j := 2) rfl) (by decide) MT_73 rfl rfl rfl ⟨Nat.le_of_ble_eq_true rfl, Nat.le_of_ble_eq_true rfl, Nat.le_of_ble_eq_true rfl⟩ sh_0 (f_lt (o := 0) (m := 155) (Nat.le_of_ble_eq_true rfl) hN)) MT_73 (P_230 hN a1 σ) ⟨rfl, rfl, rfl⟩ ?_
  refine i_aload_n (pc' := 6) (f_at inc_78 (j := 3) rfl) rfl rfl ?_
  refine i_getR (pc' := 9) (f_at inc_78 (j := 4) rfl) sh_0 rfl (f_lt (o := 0) (m := 155) (Nat.le_of_ble_eq_true rfl) hN) rfl ?_
  refine i_getR (pc' := 12) (f_at inc_78 (j := 5) rfl) sh_121 rfl (f_lt (o := 121) (m := 155) (Nat.le_of_ble_eq_true rfl) hN) rfl ?_
  refine i_iload_n (pc' := 13) (f_at inc_78 (j := 6) rfl) rfl rfl ?_
  refine i_iald (pc' := 14) (f_at inc_78 (j := 7) rfl) sh_124 (f_bg (Nat.le_of_ble_eq_true rfl)) (f_lt (o := 124) (m := 155) (Nat.le_of_ble_eq_true rfl) hN) rfl fun v2 => ?_
  refine i_iconst (pc' := 15) (f_at inc_78 (j := 8) rfl) ci_3 rfl ?_
  refine s_join (J := 23) (fun (t3 : Bool) (u3 : Unit) => [.ref 0, .int a1]) (fun t3 => [.int (f_b t3)]) (fun t3 => σ) ?_ ?_
  · intro t3 u3
    exact i_iret (v := f_b t3) (f_at inc_78 (j := 13) rfl) rfl n_bool
  · intro k3 hj3
    refine i_if2 (pc' := 22) (nx := 18) c2_ne (f_at inc_78 (j := 9) rfl) ⟨by decide, rfl⟩ (fun b4 => ?_) (fun b4 => ?_)
    · refine i_iconst (pc' := 23) (f_at inc_78 (j := 12) rfl) ci_0 rfl ?_
      exact hj3 false ()
    · refine i_iconst (pc' := 19) (f_at inc_78 (j := 10) rfl) ci_1 rfl ?_
      refine i_goto (pc' := 23) (f_at inc_78 (j := 11) rfl) (by decide) ?_
      exact hj3 true ()
set_option maxRecDepth 4000 in
def p_249 (a1 : Int32) (σ : f_M) : Option (Int32) :=
  (p_230 a1 σ).bind fun _ =>
  (f_rd σ 126 20 a1).bind fun v2 =>
  some v2
set_option maxRecDepth 4000 in
theorem P_249 {xs : Nat → Int32} {L N : Nat} (hN : 155 ≤ N) (a1 : Int32)  (σ : f_M) : f_Cal a_MT xs L N 79 [.ref 0, .int a1] σ ((p_249 a1 σ).bind fun t => some (e_pi σ t)) := by
  refine f_cal_of (ls := [.ref 0, .int a1]) MT_79 (Nat.le_of_ble_eq_true rfl) rfl ?_
  unfold p_249
  refine i_aload_n (pc' := 1) (f_at inc_79 (j := 0) rfl) rfl rfl ?_
  refine i_iload_n (pc' := 2) (f_at inc_79 (j := 1) rfl) rfl rfl ?_
  refine c_pv (pc' := 5) (c' := 0) (n' := 0) (h_virt (ra := [.int a1, .ref 0]) (r := []) (as := [.int a1]) (f_at inc_79 (j := 2) rfl) (by decide) MT_73 rfl rfl rfl ⟨Nat.le_of_ble_eq_true rfl, Nat.le_of_ble_eq_true rfl, Nat.le_of_ble_eq_true rfl⟩ sh_0 (f_lt (o := 0) (m := 155) (Nat.le_of_ble_eq_true rfl) hN)) MT_73 (P_230 hN a1 σ) ⟨rfl, rfl, rfl⟩ ?_
  refine i_aload_n (pc' := 6) (f_at inc_79 (j := 3) rfl) rfl rfl ?_
  refine i_getR (pc' := 9) (f_at inc_79 (j := 4) rfl) sh_0 rfl (f_lt (o := 0) (m := 155) (Nat.le_of_ble_eq_true rfl) hN) rfl ?_
  refine i_getR (pc' := 12) (f_at inc_79 (j := 5) rfl) sh_121 rfl (f_lt (o := 121) (m := 155) (Nat.le_of_ble_eq_true rfl) hN) rfl ?_
  refine i_iload_n (pc' := 13) (f_at inc_79 (j := 6) rfl) rfl rfl ?_
  refine i_iald (pc' := 14) (f_at inc_79 (j := 7) rfl) sh_126 (f_bg (Nat.le_of_ble_eq_true rfl)) (f_lt (o := 126) (m := 155) (Nat.le_of_ble_eq_true rfl) hN) rfl fun v2 => ?_
  exact i_iret (f_at inc_79 (j := 8) rfl) rfl n_int
set_option maxRecDepth 4000 in
def p_254 (a1 : Int32) (σ : f_M) : Option (Unit) :=
  (p_171 a1 (σ 103 4) σ).bind fun _ =>
  some ()
set_option maxRecDepth 4000 in
theorem P_254 {xs : Nat → Int32} {L N : Nat} (hN : 155 ≤ N) (a1 : Int32)  (σ : f_M) : f_Cal a_MT xs L N 80 [.ref 0, .int a1] σ ((p_254 a1 σ).bind fun t => some (e_pv σ t)) := by
  refine f_cal_of (ls := [.ref 0, .int a1]) MT_80 (Nat.le_of_ble_eq_true rfl) rfl ?_
  unfold p_254
  refine i_iload_n (pc' := 1) (f_at inc_80 (j := 0) rfl) rfl rfl ?_
  refine i_aload_n (pc' := 2) (f_at inc_80 (j := 1) rfl) rfl rfl ?_
  refine i_getR (pc' := 5) (f_at inc_80 (j := 2) rfl) sh_0 rfl (f_lt (o := 0) (m := 155) (Nat.le_of_ble_eq_true rfl) hN) rfl ?_
  refine i_getI (pc' := 8) (f_at inc_80 (j := 3) rfl) sh_103 rfl (f_lt (o := 103) (m := 155) (Nat.le_of_ble_eq_true rfl) hN) rfl ?_
  refine c_pv (pc' := 11) (c' := 0) (n' := 0) (h_stat (ra := [.int (σ 103 4), .int a1]) (r := []) (as := [.int a1, .int (σ 103 4)]) (f_at inc_80 (j := 4) rfl) (by decide) MT_50 rfl rfl rfl ⟨Nat.le_of_ble_eq_true rfl, Nat.le_of_ble_eq_true rfl, Nat.le_of_ble_eq_true rfl⟩) MT_50 (P_171 hN a1 (σ 103 4) σ) ⟨rfl, rfl, rfl⟩ ?_
  exact i_vret (f_at inc_80 (j := 5) rfl) rfl
set_option maxRecDepth 4000 in
theorem G_83 {xs : Nat → Int32} {L N : Nat} (hN : 155 ≤ N) (a1 : Int32) (a2 : Int32)  (σ : f_M) : f_Cal a_MT xs L N 81 [.ref 102, .int a1, .int a2] σ ((g_83 a1 a2 σ).bind fun t => some (e_pb σ t)) := by
  refine f_cal_of (ls := [.ref 102, .int a1, .int a2]) MT_81 (Nat.le_of_ble_eq_true rfl) rfl ?_
  unfold g_83
  refine i_aload_n (pc' := 1) (f_at inc_81 (j := 0) rfl) rfl rfl ?_
  refine i_getR (pc' := 4) (f_at inc_81 (j := 1) rfl) sh_102 rfl (f_lt (o := 102) (m := 155) (Nat.le_of_ble_eq_true rfl) hN) rfl ?_
  refine i_getR (pc' := 7) (f_at inc_81 (j := 2) rfl) sh_121 rfl (f_lt (o := 121) (m := 155) (Nat.le_of_ble_eq_true rfl) hN) rfl ?_
  refine i_iload_n (pc' := 8) (f_at inc_81 (j := 3) rfl) rfl rfl ?_
  refine i_iald (pc' := 9) (f_at inc_81 (j := 4) rfl) sh_124 (f_bg (Nat.le_of_ble_eq_true rfl)) (f_lt (o := 124) (m := 155) (Nat.le_of_ble_eq_true rfl) hN) rfl fun v1 => ?_
  refine s_join (J := 30) (fun (t2 : Bool) (u2 : Unit) => [.ref 102, .int a1, .int a2]) (fun t2 => [.int (f_b t2)]) (fun t2 => σ) ?_ ?_
  · intro t2 u2
    exact i_iret (v := f_b t2) (f_at inc_81 (j := 16) rfl) rfl n_bool
  · intro k2 hj2
    refine i_if0 (pc' := 29) (nx := 12) c0_ne (f_at inc_81 (j := 5) rfl) ⟨by decide, rfl⟩ (fun b5 => ?_) (fun b5 => ?_)
    · refine i_iconst (pc' := 30) (f_at inc_81 (j := 15) rfl) ci_0 rfl ?_
      exact hj2 false ()
    · refine i_aload_n (pc' := 13) (f_at inc_81 (j := 6) rfl) rfl rfl ?_
      refine i_getR (pc' := 16) (f_at inc_81 (j := 7) rfl) sh_102 rfl (f_lt (o := 102) (m := 155) (Nat.le_of_ble_eq_true rfl) hN) rfl ?_
      refine i_getR (pc' := 19) (f_at inc_81 (j := 8) rfl) sh_108 rfl (f_lt (o := 108) (m := 155) (Nat.le_of_ble_eq_true rfl) hN) rfl ?_
      refine i_iload_n (pc' := 20) (f_at inc_81 (j := 9) rfl) rfl rfl ?_
      refine i_iald (pc' := 21) (f_at inc_81 (j := 10) rfl) sh_120 (f_bg (Nat.le_of_ble_eq_true rfl)) (f_lt (o := 120) (m := 155) (Nat.le_of_ble_eq_true rfl) hN) rfl fun v3 => ?_
      refine i_iload_n (pc' := 22) (f_at inc_81 (j := 11) rfl) rfl rfl ?_
      refine i_if2 (pc' := 29) (nx := 25) c2_ne (f_at inc_81 (j := 12) rfl) ⟨by decide, rfl⟩ (fun b4 => ?_) (fun b4 => ?_)
      · refine i_iconst (pc' := 30) (f_at inc_81 (j := 15) rfl) ci_0 rfl ?_
        exact hj2 false ()
      · refine i_iconst (pc' := 26) (f_at inc_81 (j := 13) rfl) ci_1 rfl ?_
        refine i_goto (pc' := 30) (f_at inc_81 (j := 14) rfl) (by decide) ?_
        exact hj2 true ()
set_option maxRecDepth 4000 in
theorem G_106 {xs : Nat → Int32} {L N : Nat} (hN : 155 ≤ N) (a1 : Int32)  (σ : f_M) : f_Cal a_MT xs L N 82 [.ref 102, .int a1] σ ((g_106 a1 σ).bind fun t => some (e_pi σ t)) := by
  refine f_cal_of (ls := [.ref 102, .int a1, a_dead, a_dead]) MT_82 (Nat.le_of_ble_eq_true rfl) rfl ?_
  unfold g_106
  refine i_iconst (pc' := 1) (f_at inc_82 (j := 0) rfl) ci_0 rfl ?_
  refine i_istore_n (pc' := 2) (ls' := [.ref 102, .int a1, .int (0 : Int32), a_dead]) (f_at inc_82 (j := 1) rfl) (Nat.le_of_ble_eq_true rfl) rfl rfl ?_
  refine i_iconst (pc' := 3) (f_at inc_82 (j := 2) rfl) ci_0 rfl ?_
  refine i_istore_n (pc' := 4) (ls' := [.ref 102, .int a1, .int (0 : Int32), .int (0 : Int32)]) (f_at inc_82 (j := 3) rfl) (Nat.le_of_ble_eq_true rfl) rfl rfl ?_
  refine s_lX (X := 33) ((0 : Int32), (0 : Int32)) () (fun (s1 : Int32 × Int32) (u1 : Unit) => [.ref 102, .int a1, .int s1.1, .int s1.2]) (fun (s1 : Int32 × Int32) => σ) (fun (x1 : Int32) (w1 : Value) => [.ref 102, .int a1, .int x1, w1]) (fun (x1 : Int32) => σ) ?_ ?_
  · intro x1 w1
    refine i_iload_n (pc' := 34) (f_at inc_82 (j := 17) rfl) rfl rfl ?_
    exact i_iret (f_at inc_82 (j := 18) rfl) rfl n_int
  · intro s1 u1 k1 hb1 hx1
    refine i_iload_n (pc' := 5) (f_at inc_82 (j := 4) rfl) rfl rfl ?_
    refine i_aload_n (pc' := 6) (f_at inc_82 (j := 5) rfl) rfl rfl ?_
    refine i_getR (pc' := 9) (f_at inc_82 (j := 6) rfl) sh_102 rfl (f_lt (o := 102) (m := 155) (Nat.le_of_ble_eq_true rfl) hN) rfl ?_
    refine i_getI (pc' := 12) (f_at inc_82 (j := 7) rfl) sh_121 rfl (f_lt (o := 121) (m := 155) (Nat.le_of_ble_eq_true rfl) hN) rfl ?_
    refine i_if2 (pc' := 33) (nx := 15) c2_ge (f_at inc_82 (j := 8) rfl) ⟨by decide, rfl⟩ (fun b5 => ?_) (fun b5 => ?_)
    · exact hx1 s1.1 (.int s1.2)
    · refine i_aload_n (pc' := 16) (f_at inc_82 (j := 9) rfl) rfl rfl ?_
      refine i_iload_n (pc' := 17) (f_at inc_82 (j := 10) rfl) rfl rfl ?_
      refine i_iload_n (pc' := 18) (f_at inc_82 (j := 11) rfl) rfl rfl ?_
      refine c_pb (pc' := 21) (c' := 0) (n' := 0) (h_virt (ra := [.int a1, .int s1.2, .ref 102]) (r := []) (as := [.int s1.2, .int a1]) (f_at inc_82 (j := 12) rfl) (by decide) MT_81 rfl rfl rfl ⟨Nat.le_of_ble_eq_true rfl, Nat.le_of_ble_eq_true rfl, Nat.le_of_ble_eq_true rfl⟩ sh_102 (f_lt (o := 102) (m := 155) (Nat.le_of_ble_eq_true rfl) hN)) MT_81 (G_83 hN s1.2 a1 σ) ⟨rfl, rfl, rfl⟩ fun t2 => ?_
      refine s_join (J := 27) (fun (t3 : Int32) (u3 : Unit) => [.ref 102, .int a1, .int t3, .int s1.2]) (fun t3 => []) (fun t3 => σ) ?_ ?_
      · intro t3 u3
        refine i_iinc (pc' := 30) (ls' := [.ref 102, .int a1, .int t3, .int (s1.2 + (1 : Int32))]) (f_at inc_82 (j := 15) rfl) rfl ci_1 rfl rfl ?_
        refine i_goto (pc' := 4) (f_at inc_82 (j := 16) rfl) (by decide) ?_
        exact hb1 (t3, (s1.2 + (1 : Int32))) ()
      · intro k3 hj3
        refine i_if0 (pc' := 27) (nx := 24) cb_eq (f_at inc_82 (j := 13) rfl) ⟨by decide, rfl⟩ (fun b4 => ?_) (fun b4 => ?_)
        · exact hj3 s1.1 ()
        · refine i_iinc (pc' := 27) (ls' := [.ref 102, .int a1, .int (s1.1 + (1 : Int32)), .int s1.2]) (f_at inc_82 (j := 14) rfl) rfl ci_1 rfl rfl ?_
          exact hj3 (s1.1 + (1 : Int32)) ()
set_option maxRecDepth 4000 in
def p_259 (a1 : Int32) (σ : f_M) : Option (Int32) :=
  (p_254 a1 σ).bind fun _ =>
  (g_106 a1 σ).bind fun t2 =>
  some t2
set_option maxRecDepth 4000 in
theorem P_259 {xs : Nat → Int32} {L N : Nat} (hN : 155 ≤ N) (a1 : Int32)  (σ : f_M) : f_Cal a_MT xs L N 83 [.ref 0, .int a1] σ ((p_259 a1 σ).bind fun t => some (e_pi σ t)) := by
  refine f_cal_of (ls := [.ref 0, .int a1]) MT_83 (Nat.le_of_ble_eq_true rfl) rfl ?_
  unfold p_259
  refine i_aload_n (pc' := 1) (f_at inc_83 (j := 0) rfl) rfl rfl ?_
  refine i_iload_n (pc' := 2) (f_at inc_83 (j := 1) rfl) rfl rfl ?_
  refine c_pv (pc' := 5) (c' := 0) (n' := 0) (h_virt (ra := [.int a1, .ref 0]) (r := []) (as := [.int a1]) (f_at inc_83 (j := 2) rfl) (by decide) MT_80 rfl rfl rfl ⟨Nat.le_of_ble_eq_true rfl, Nat.le_of_ble_eq_true rfl, Nat.le_of_ble_eq_true rfl⟩ sh_0 (f_lt (o := 0) (m := 155) (Nat.le_of_ble_eq_true rfl) hN)) MT_80 (P_254 hN a1 σ) ⟨rfl, rfl, rfl⟩ ?_
  refine i_aload_n (pc' := 6) (f_at inc_83 (j := 3) rfl) rfl rfl ?_
  refine i_getR (pc' := 9) (f_at inc_83 (j := 4) rfl) sh_0 rfl (f_lt (o := 0) (m := 155) (Nat.le_of_ble_eq_true rfl) hN) rfl ?_
  refine i_iload_n (pc' := 10) (f_at inc_83 (j := 5) rfl) rfl rfl ?_
  refine c_pi (pc' := 13) (c' := 0) (n' := 0) (h_virt (ra := [.int a1, .ref 102]) (r := []) (as := [.int a1]) (f_at inc_83 (j := 6) rfl) (by decide) MT_82 rfl rfl rfl ⟨Nat.le_of_ble_eq_true rfl, Nat.le_of_ble_eq_true rfl, Nat.le_of_ble_eq_true rfl⟩ sh_102 (f_lt (o := 102) (m := 155) (Nat.le_of_ble_eq_true rfl) hN)) MT_82 (G_106 hN a1 σ) ⟨rfl, rfl, rfl⟩ fun t2 => ?_
  exact i_iret (f_at inc_83 (j := 7) rfl) rfl n_int
set_option maxRecDepth 4000 in
theorem G_85 {xs : Nat → Int32} {L N : Nat} (hN : 155 ≤ N) (a0 : Int32)  (σ : f_M) : f_Cal a_MT xs L N 84 [.int a0] σ ((g_85 a0 σ).bind fun t => some (e_pi σ t)) := by
  refine f_cal_of (ls := [.int a0]) MT_84 (Nat.le_of_ble_eq_true rfl) rfl ?_
  unfold g_85
  refine i_iconst (pc' := 1) (f_at inc_84 (j := 0) rfl) ci_2 rfl ?_
  refine i_iload_n (pc' := 2) (f_at inc_84 (j := 1) rfl) rfl rfl ?_
  refine i_iadd (pc' := 3) (f_at inc_84 (j := 2) rfl) rfl ?_
  exact i_iret (f_at inc_84 (j := 3) rfl) rfl n_int
set_option maxRecDepth 4000 in
theorem G_292 {xs : Nat → Int32} {L N : Nat} (hN : 155 ≤ N) (a1 : Int32)  (σ : f_M) : f_Cal a_MT xs L N 85 [.ref 102, .int a1] σ ((g_292 a1 σ).bind fun t => some (e_pi σ t)) := by
  refine f_cal_of (ls := [.ref 102, .int a1, a_dead, a_dead, a_dead, a_dead]) MT_85 (Nat.le_of_ble_eq_true rfl) rfl ?_
  unfold g_292
  refine i_aload_n (pc' := 1) (f_at inc_85 (j := 0) rfl) rfl rfl ?_
  refine i_getR (pc' := 4) (f_at inc_85 (j := 1) rfl) sh_102 rfl (f_lt (o := 102) (m := 155) (Nat.le_of_ble_eq_true rfl) hN) rfl ?_
  refine i_getR (pc' := 7) (f_at inc_85 (j := 2) rfl) sh_121 rfl (f_lt (o := 121) (m := 155) (Nat.le_of_ble_eq_true rfl) hN) rfl ?_
  refine i_iload_n (pc' := 8) (f_at inc_85 (j := 3) rfl) rfl rfl ?_
  refine i_iald (pc' := 9) (f_at inc_85 (j := 4) rfl) sh_124 (f_bg (Nat.le_of_ble_eq_true rfl)) (f_lt (o := 124) (m := 155) (Nat.le_of_ble_eq_true rfl) hN) rfl fun v1 => ?_
  refine i_if0 (pc' := 14) (nx := 12) c0_eq (f_at inc_85 (j := 5) rfl) ⟨by decide, rfl⟩ (fun b11 => ?_) (fun b11 => ?_)
  · refine i_aload_n (pc' := 15) (f_at inc_85 (j := 8) rfl) rfl rfl ?_
    refine i_getR (pc' := 18) (f_at inc_85 (j := 9) rfl) sh_102 rfl (f_lt (o := 102) (m := 155) (Nat.le_of_ble_eq_true rfl) hN) rfl ?_
    refine i_getR (pc' := 21) (f_at inc_85 (j := 10) rfl) sh_108 rfl (f_lt (o := 108) (m := 155) (Nat.le_of_ble_eq_true rfl) hN) rfl ?_
    refine i_iload_n (pc' := 22) (f_at inc_85 (j := 11) rfl) rfl rfl ?_
    refine i_iald (pc' := 23) (f_at inc_85 (j := 12) rfl) sh_120 (f_bg (Nat.le_of_ble_eq_true rfl)) (f_lt (o := 120) (m := 155) (Nat.le_of_ble_eq_true rfl) hN) rfl fun v2 => ?_
    refine i_istore_n (pc' := 24) (ls' := [.ref 102, .int a1, .int v2, a_dead, a_dead, a_dead]) (f_at inc_85 (j := 13) rfl) (Nat.le_of_ble_eq_true rfl) rfl rfl ?_
    refine i_aload_n (pc' := 25) (f_at inc_85 (j := 14) rfl) rfl rfl ?_
    refine i_getR (pc' := 28) (f_at inc_85 (j := 15) rfl) sh_102 rfl (f_lt (o := 102) (m := 155) (Nat.le_of_ble_eq_true rfl) hN) rfl ?_
    refine i_getR (pc' := 31) (f_at inc_85 (j := 16) rfl) sh_103 rfl (f_lt (o := 103) (m := 155) (Nat.le_of_ble_eq_true rfl) hN) rfl ?_
    refine i_iload_n (pc' := 32) (f_at inc_85 (j := 17) rfl) rfl rfl ?_
    refine i_iald (pc' := 33) (f_at inc_85 (j := 18) rfl) sh_107 (f_bg (Nat.le_of_ble_eq_true rfl)) (f_lt (o := 107) (m := 155) (Nat.le_of_ble_eq_true rfl) hN) rfl fun v3 => ?_
    refine c_pi (pc' := 36) (c' := 0) (n' := 0) (h_stat (ra := [.int v3]) (r := []) (as := [.int v3]) (f_at inc_85 (j := 19) rfl) (by decide) MT_84 rfl rfl rfl ⟨Nat.le_of_ble_eq_true rfl, Nat.le_of_ble_eq_true rfl, Nat.le_of_ble_eq_true rfl⟩) MT_84 (G_85 hN v3 σ) ⟨rfl, rfl, rfl⟩ fun t4 => ?_
    refine i_istore_n (pc' := 37) (ls' := [.ref 102, .int a1, .int v2, .int t4, a_dead, a_dead]) (f_at inc_85 (j := 20) rfl) (Nat.le_of_ble_eq_true rfl) rfl rfl ?_
    refine i_iconst (pc' := 38) (f_at inc_85 (j := 21) rfl) ci_0 rfl ?_
    refine i_istore (pc' := 40) (ls' := [.ref 102, .int a1, .int v2, .int t4, .int (0 : Int32), a_dead]) (f_at inc_85 (j := 22) rfl) (Nat.le_of_ble_eq_true rfl) rfl rfl ?_
    refine i_iconst (pc' := 41) (f_at inc_85 (j := 23) rfl) ci_0 rfl ?_
    refine i_istore (pc' := 43) (ls' := [.ref 102, .int a1, .int v2, .int t4, .int (0 : Int32), .int (0 : Int32)]) (f_at inc_85 (j := 24) rfl) (Nat.le_of_ble_eq_true rfl) rfl rfl ?_
    refine s_lX (X := 82) ((0 : Int32), (0 : Int32)) () (fun (s5 : Int32 × Int32) (u5 : Unit) => [.ref 102, .int a1, .int v2, .int t4, .int s5.1, .int s5.2]) (fun (s5 : Int32 × Int32) => σ) (fun (x5 : Int32) (w5 : Value) => [.ref 102, .int a1, .int v2, .int t4, .int x5, w5]) (fun (x5 : Int32) => σ) ?_ ?_
    · intro x5 w5
      refine i_iload (pc' := 84) (f_at inc_85 (j := 45) rfl) rfl rfl ?_
      exact i_iret (f_at inc_85 (j := 46) rfl) rfl n_int
    · intro s5 u5 k5 hb5 hx5
      refine i_iload (pc' := 45) (f_at inc_85 (j := 25) rfl) rfl rfl ?_
      refine i_iload_n (pc' := 46) (f_at inc_85 (j := 26) rfl) rfl rfl ?_
      refine i_if2 (pc' := 82) (nx := 49) c2_gt (f_at inc_85 (j := 27) rfl) ⟨by decide, rfl⟩ (fun b10 => ?_) (fun b10 => ?_)
      · exact hx5 s5.1 (.int s5.2)
      · refine i_aload_n (pc' := 50) (f_at inc_85 (j := 28) rfl) rfl rfl ?_
        refine i_iload (pc' := 52) (f_at inc_85 (j := 29) rfl) rfl rfl ?_
        refine i_iload_n (pc' := 53) (f_at inc_85 (j := 30) rfl) rfl rfl ?_
        refine c_pb (pc' := 56) (c' := 0) (n' := 0) (h_virt (ra := [.int v2, .int s5.2, .ref 102]) (r := []) (as := [.int s5.2, .int v2]) (f_at inc_85 (j := 31) rfl) (by decide) MT_81 rfl rfl rfl ⟨Nat.le_of_ble_eq_true rfl, Nat.le_of_ble_eq_true rfl, Nat.le_of_ble_eq_true rfl⟩ sh_102 (f_lt (o := 102) (m := 155) (Nat.le_of_ble_eq_true rfl) hN)) MT_81 (G_83 hN s5.2 v2 σ) ⟨rfl, rfl, rfl⟩ fun t6 => ?_
        refine s_join (J := 76) (fun (t7 : Int32) (u7 : Unit) => [.ref 102, .int a1, .int v2, .int t4, .int t7, .int s5.2]) (fun t7 => []) (fun t7 => σ) ?_ ?_
        · intro t7 u7
          refine i_iinc (pc' := 79) (ls' := [.ref 102, .int a1, .int v2, .int t4, .int t7, .int (s5.2 + (1 : Int32))]) (f_at inc_85 (j := 43) rfl) rfl ci_1 rfl rfl ?_
          refine i_goto (pc' := 43) (f_at inc_85 (j := 44) rfl) (by decide) ?_
          exact hb5 (t7, (s5.2 + (1 : Int32))) ()
        · intro k7 hj7
          refine i_if0 (pc' := 76) (nx := 59) cb_eq (f_at inc_85 (j := 32) rfl) ⟨by decide, rfl⟩ (fun b9 => ?_) (fun b9 => ?_)
          · exact hj7 s5.1 ()
          · refine i_iload (pc' := 61) (f_at inc_85 (j := 33) rfl) rfl rfl ?_
            refine i_iload_n (pc' := 62) (f_at inc_85 (j := 34) rfl) rfl rfl ?_
            refine i_aload_n (pc' := 63) (f_at inc_85 (j := 35) rfl) rfl rfl ?_
            refine i_getR (pc' := 66) (f_at inc_85 (j := 36) rfl) sh_102 rfl (f_lt (o := 102) (m := 155) (Nat.le_of_ble_eq_true rfl) hN) rfl ?_
            refine i_getR (pc' := 69) (f_at inc_85 (j := 37) rfl) sh_121 rfl (f_lt (o := 121) (m := 155) (Nat.le_of_ble_eq_true rfl) hN) rfl ?_
            refine i_iload (pc' := 71) (f_at inc_85 (j := 38) rfl) rfl rfl ?_
            refine i_iald (pc' := 72) (f_at inc_85 (j := 39) rfl) sh_125 (f_bg (Nat.le_of_ble_eq_true rfl)) (f_lt (o := 125) (m := 155) (Nat.le_of_ble_eq_true rfl) hN) rfl fun v8 => ?_
            refine i_isub (pc' := 73) (f_at inc_85 (j := 40) rfl) rfl ?_
            refine i_iadd (pc' := 74) (f_at inc_85 (j := 41) rfl) rfl ?_
            refine i_istore (pc' := 76) (ls' := [.ref 102, .int a1, .int v2, .int t4, .int (s5.1 + (t4 - v8)), .int s5.2]) (f_at inc_85 (j := 42) rfl) (Nat.le_of_ble_eq_true rfl) rfl rfl ?_
            exact hj7 (s5.1 + (t4 - v8)) ()
  · refine i_iconst (pc' := 13) (f_at inc_85 (j := 6) rfl) ci_0 rfl ?_
    exact i_iret (f_at inc_85 (j := 7) rfl) rfl n_int
set_option maxRecDepth 4000 in
def p_293 (a1 : Int32) (σ : f_M) : Option (Int32) :=
  (p_230 a1 σ).bind fun _ =>
  (g_292 a1 σ).bind fun t2 =>
  some t2
set_option maxRecDepth 4000 in
theorem P_293 {xs : Nat → Int32} {L N : Nat} (hN : 155 ≤ N) (a1 : Int32)  (σ : f_M) : f_Cal a_MT xs L N 86 [.ref 0, .int a1] σ ((p_293 a1 σ).bind fun t => some (e_pi σ t)) := by
  refine f_cal_of (ls := [.ref 0, .int a1]) MT_86 (Nat.le_of_ble_eq_true rfl) rfl ?_
  unfold p_293
  refine i_aload_n (pc' := 1) (f_at inc_86 (j := 0) rfl) rfl rfl ?_
  refine i_iload_n (pc' := 2) (f_at inc_86 (j := 1) rfl) rfl rfl ?_
  refine c_pv (pc' := 5) (c' := 0) (n' := 0) (h_virt (ra := [.int a1, .ref 0]) (r := []) (as := [.int a1]) (f_at inc_86 (j := 2) rfl) (by decide) MT_73 rfl rfl rfl ⟨Nat.le_of_ble_eq_true rfl, Nat.le_of_ble_eq_true rfl, Nat.le_of_ble_eq_true rfl⟩ sh_0 (f_lt (o := 0) (m := 155) (Nat.le_of_ble_eq_true rfl) hN)) MT_73 (P_230 hN a1 σ) ⟨rfl, rfl, rfl⟩ ?_
  refine i_aload_n (pc' := 6) (f_at inc_86 (j := 3) rfl) rfl rfl ?_
  refine i_getR (pc' := 9) (f_at inc_86 (j := 4) rfl) sh_0 rfl (f_lt (o := 0) (m := 155) (Nat.le_of_ble_eq_true rfl) hN) rfl ?_
  refine i_iload_n (pc' := 10) (f_at inc_86 (j := 5) rfl) rfl rfl ?_
  refine c_pi (pc' := 13) (c' := 0) (n' := 0) (h_virt (ra := [.int a1, .ref 102]) (r := []) (as := [.int a1]) (f_at inc_86 (j := 6) rfl) (by decide) MT_85 rfl rfl rfl ⟨Nat.le_of_ble_eq_true rfl, Nat.le_of_ble_eq_true rfl, Nat.le_of_ble_eq_true rfl⟩ sh_102 (f_lt (o := 102) (m := 155) (Nat.le_of_ble_eq_true rfl) hN)) MT_85 (G_292 hN a1 σ) ⟨rfl, rfl, rfl⟩ fun t2 => ?_
  exact i_iret (f_at inc_86 (j := 7) rfl) rfl n_int
set_option maxRecDepth 4000 in
theorem G_266 {xs : Nat → Int32} {L N : Nat} (hN : 155 ≤ N)   (σ : f_M) : f_Cal a_MT xs L N 87 [.ref 0] σ ((g_266  σ).bind fun t => some (e_pi σ t)) := by
  refine f_cal_of (ls := [.ref 0, a_dead, a_dead]) MT_87 (Nat.le_of_ble_eq_true rfl) rfl ?_
  unfold g_266
  refine i_iconst (pc' := 1) (f_at inc_87 (j := 0) rfl) ci_0 rfl ?_
  refine i_istore_n (pc' := 2) (ls' := [.ref 0, .int (0 : Int32), a_dead]) (f_at inc_87 (j := 1) rfl) (Nat.le_of_ble_eq_true rfl) rfl rfl ?_
  refine i_aload_n (pc' := 3) (f_at inc_87 (j := 2) rfl) rfl rfl ?_
  refine i_getR (pc' := 6) (f_at inc_87 (j := 3) rfl) sh_0 rfl (f_lt (o := 0) (m := 155) (Nat.le_of_ble_eq_true rfl) hN) rfl ?_
  refine i_getI (pc' := 9) (f_at inc_87 (j := 4) rfl) sh_121 rfl (f_lt (o := 121) (m := 155) (Nat.le_of_ble_eq_true rfl) hN) rfl ?_
  refine i_istore_n (pc' := 10) (ls' := [.ref 0, .int (0 : Int32), .int (σ 121 11)]) (f_at inc_87 (j := 5) rfl) (Nat.le_of_ble_eq_true rfl) rfl rfl ?_
  refine s_lX (X := 47) ((0 : Int32), (σ 121 11)) () (fun (s1 : Int32 × Int32) (u1 : Unit) => [.ref 0, .int s1.1, .int s1.2]) (fun (s1 : Int32 × Int32) => σ) (fun (x1 : Int32) (w1 : Value) => [.ref 0, .int x1, w1]) (fun (x1 : Int32) => σ) ?_ ?_
  · intro x1 w1
    refine i_iload_n (pc' := 48) (f_at inc_87 (j := 25) rfl) rfl rfl ?_
    exact i_iret (f_at inc_87 (j := 26) rfl) rfl n_int
  · intro s1 u1 k1 hb1 hx1
    refine i_iload_n (pc' := 11) (f_at inc_87 (j := 6) rfl) rfl rfl ?_
    refine i_aload_n (pc' := 12) (f_at inc_87 (j := 7) rfl) rfl rfl ?_
    refine i_getR (pc' := 15) (f_at inc_87 (j := 8) rfl) sh_0 rfl (f_lt (o := 0) (m := 155) (Nat.le_of_ble_eq_true rfl) hN) rfl ?_
    refine i_getI (pc' := 18) (f_at inc_87 (j := 9) rfl) sh_121 rfl (f_lt (o := 121) (m := 155) (Nat.le_of_ble_eq_true rfl) hN) rfl ?_
    refine i_if2 (pc' := 47) (nx := 21) c2_ge (f_at inc_87 (j := 10) rfl) ⟨by decide, rfl⟩ (fun b4 => ?_) (fun b4 => ?_)
    · exact hx1 s1.1 (.int s1.2)
    · refine i_iload_n (pc' := 22) (f_at inc_87 (j := 11) rfl) rfl rfl ?_
      refine i_aload_n (pc' := 23) (f_at inc_87 (j := 12) rfl) rfl rfl ?_
      refine i_getR (pc' := 26) (f_at inc_87 (j := 13) rfl) sh_0 rfl (f_lt (o := 0) (m := 155) (Nat.le_of_ble_eq_true rfl) hN) rfl ?_
      refine i_getR (pc' := 29) (f_at inc_87 (j := 14) rfl) sh_121 rfl (f_lt (o := 121) (m := 155) (Nat.le_of_ble_eq_true rfl) hN) rfl ?_
      refine i_aload_n (pc' := 30) (f_at inc_87 (j := 15) rfl) rfl rfl ?_
      refine i_getR (pc' := 33) (f_at inc_87 (j := 16) rfl) sh_0 rfl (f_lt (o := 0) (m := 155) (Nat.le_of_ble_eq_true rfl) hN) rfl ?_
      refine i_getR (pc' := 36) (f_at inc_87 (j := 17) rfl) sh_121 rfl (f_lt (o := 121) (m := 155) (Nat.le_of_ble_eq_true rfl) hN) rfl ?_
      refine i_iload_n (pc' := 37) (f_at inc_87 (j := 18) rfl) rfl rfl ?_
      refine i_iald (pc' := 38) (f_at inc_87 (j := 19) rfl) sh_127 (f_bg (Nat.le_of_ble_eq_true rfl)) (f_lt (o := 127) (m := 155) (Nat.le_of_ble_eq_true rfl) hN) rfl fun v2 => ?_
      refine i_iald (pc' := 39) (f_at inc_87 (j := 20) rfl) sh_126 (f_bg (Nat.le_of_ble_eq_true rfl)) (f_lt (o := 126) (m := 155) (Nat.le_of_ble_eq_true rfl) hN) rfl fun v3 => ?_
      refine i_iadd (pc' := 40) (f_at inc_87 (j := 21) rfl) rfl ?_
      refine i_istore_n (pc' := 41) (ls' := [.ref 0, .int (s1.1 + v3), .int s1.2]) (f_at inc_87 (j := 22) rfl) (Nat.le_of_ble_eq_true rfl) rfl rfl ?_
      refine i_iinc (pc' := 44) (ls' := [.ref 0, .int (s1.1 + v3), .int (s1.2 + (1 : Int32))]) (f_at inc_87 (j := 23) rfl) rfl ci_1 rfl rfl ?_
      refine i_goto (pc' := 10) (f_at inc_87 (j := 24) rfl) (by decide) ?_
      exact hb1 ((s1.1 + v3), (s1.2 + (1 : Int32))) ()
set_option maxRecDepth 4000 in
theorem G_91 {xs : Nat → Int32} {L N : Nat} (hN : 155 ≤ N) (a1 : Int32)  (σ : f_M) : f_Cal a_MT xs L N 88 [.ref 102, .int a1] σ ((g_91 a1 σ).bind fun t => some (e_pi σ t)) := by
  refine f_cal_of (ls := [.ref 102, .int a1]) MT_88 (Nat.le_of_ble_eq_true rfl) rfl ?_
  unfold g_91
  refine i_aload_n (pc' := 1) (f_at inc_88 (j := 0) rfl) rfl rfl ?_
  refine i_getR (pc' := 4) (f_at inc_88 (j := 1) rfl) sh_102 rfl (f_lt (o := 102) (m := 155) (Nat.le_of_ble_eq_true rfl) hN) rfl ?_
  refine i_getR (pc' := 7) (f_at inc_88 (j := 2) rfl) sh_108 rfl (f_lt (o := 108) (m := 155) (Nat.le_of_ble_eq_true rfl) hN) rfl ?_
  refine i_aload_n (pc' := 8) (f_at inc_88 (j := 3) rfl) rfl rfl ?_
  refine i_getR (pc' := 11) (f_at inc_88 (j := 4) rfl) sh_102 rfl (f_lt (o := 102) (m := 155) (Nat.le_of_ble_eq_true rfl) hN) rfl ?_
  refine i_getR (pc' := 14) (f_at inc_88 (j := 5) rfl) sh_108 rfl (f_lt (o := 108) (m := 155) (Nat.le_of_ble_eq_true rfl) hN) rfl ?_
  refine i_iload_n (pc' := 15) (f_at inc_88 (j := 6) rfl) rfl rfl ?_
  refine i_iald (pc' := 16) (f_at inc_88 (j := 7) rfl) sh_119 (f_bg (Nat.le_of_ble_eq_true rfl)) (f_lt (o := 119) (m := 155) (Nat.le_of_ble_eq_true rfl) hN) rfl fun v1 => ?_
  refine i_iald (pc' := 17) (f_at inc_88 (j := 8) rfl) sh_112 (f_bg (Nat.le_of_ble_eq_true rfl)) (f_lt (o := 112) (m := 155) (Nat.le_of_ble_eq_true rfl) hN) rfl fun v2 => ?_
  exact i_iret (f_at inc_88 (j := 9) rfl) rfl n_int
set_option maxRecDepth 4000 in
theorem G_275 {xs : Nat → Int32} {L N : Nat} (hN : 155 ≤ N) (a1 : Int32)  (σ : f_M) : f_Cal a_MT xs L N 89 [.ref 102, .int a1] σ ((g_275 a1 σ).bind fun t => some (e_pi σ t)) := by
  refine f_cal_of (ls := [.ref 102, .int a1, a_dead, a_dead, a_dead]) MT_89 (Nat.le_of_ble_eq_true rfl) rfl ?_
  unfold g_275
  refine i_iconst (pc' := 1) (f_at inc_89 (j := 0) rfl) ci_0 rfl ?_
  refine i_istore_n (pc' := 2) (ls' := [.ref 102, .int a1, .int (0 : Int32), a_dead, a_dead]) (f_at inc_89 (j := 1) rfl) (Nat.le_of_ble_eq_true rfl) rfl rfl ?_
  refine i_iconst (pc' := 3) (f_at inc_89 (j := 2) rfl) ci_0 rfl ?_
  refine i_istore_n (pc' := 4) (ls' := [.ref 102, .int a1, .int (0 : Int32), .int (0 : Int32), a_dead]) (f_at inc_89 (j := 3) rfl) (Nat.le_of_ble_eq_true rfl) rfl rfl ?_
  refine s_lX (X := 55) ((0 : Int32), (0 : Int32)) (a_dead) (fun (s1 : Int32 × Int32) (u1 : Value) => [.ref 102, .int a1, .int s1.1, .int s1.2, u1]) (fun (s1 : Int32 × Int32) => σ) (fun (x1 : Int32) (w1 : Value × Value) => [.ref 102, .int a1, .int x1, w1.1, w1.2]) (fun (x1 : Int32) => σ) ?_ ?_
  · intro x1 w1
    refine i_iload_n (pc' := 56) (f_at inc_89 (j := 30) rfl) rfl rfl ?_
    exact i_iret (f_at inc_89 (j := 31) rfl) rfl n_int
  · intro s1 u1 k1 hb1 hx1
    refine i_iload_n (pc' := 5) (f_at inc_89 (j := 4) rfl) rfl rfl ?_
    refine i_aload_n (pc' := 6) (f_at inc_89 (j := 5) rfl) rfl rfl ?_
    refine i_getR (pc' := 9) (f_at inc_89 (j := 6) rfl) sh_102 rfl (f_lt (o := 102) (m := 155) (Nat.le_of_ble_eq_true rfl) hN) rfl ?_
    refine i_getI (pc' := 12) (f_at inc_89 (j := 7) rfl) sh_121 rfl (f_lt (o := 121) (m := 155) (Nat.le_of_ble_eq_true rfl) hN) rfl ?_
    refine i_if2 (pc' := 55) (nx := 15) c2_ge (f_at inc_89 (j := 8) rfl) ⟨by decide, rfl⟩ (fun b7 => ?_) (fun b7 => ?_)
    · exact hx1 s1.1 (.int s1.2, u1)
    · refine i_aload_n (pc' := 16) (f_at inc_89 (j := 9) rfl) rfl rfl ?_
      refine i_getR (pc' := 19) (f_at inc_89 (j := 10) rfl) sh_102 rfl (f_lt (o := 102) (m := 155) (Nat.le_of_ble_eq_true rfl) hN) rfl ?_
      refine i_getR (pc' := 22) (f_at inc_89 (j := 11) rfl) sh_121 rfl (f_lt (o := 121) (m := 155) (Nat.le_of_ble_eq_true rfl) hN) rfl ?_
      refine i_iload_n (pc' := 23) (f_at inc_89 (j := 12) rfl) rfl rfl ?_
      refine i_iald (pc' := 24) (f_at inc_89 (j := 13) rfl) sh_127 (f_bg (Nat.le_of_ble_eq_true rfl)) (f_lt (o := 127) (m := 155) (Nat.le_of_ble_eq_true rfl) hN) rfl fun v2 => ?_
      refine i_istore (pc' := 26) (ls' := [.ref 102, .int a1, .int s1.1, .int s1.2, .int v2]) (f_at inc_89 (j := 14) rfl) (Nat.le_of_ble_eq_true rfl) rfl rfl ?_
      refine i_aload_n (pc' := 27) (f_at inc_89 (j := 15) rfl) rfl rfl ?_
      refine i_iload (pc' := 29) (f_at inc_89 (j := 16) rfl) rfl rfl ?_
      refine c_pi (pc' := 32) (c' := 0) (n' := 0) (h_virt (ra := [.int v2, .ref 102]) (r := []) (as := [.int v2]) (f_at inc_89 (j := 17) rfl) (by decide) MT_88 rfl rfl rfl ⟨Nat.le_of_ble_eq_true rfl, Nat.le_of_ble_eq_true rfl, Nat.le_of_ble_eq_true rfl⟩ sh_102 (f_lt (o := 102) (m := 155) (Nat.le_of_ble_eq_true rfl) hN)) MT_88 (G_91 hN v2 σ) ⟨rfl, rfl, rfl⟩ fun t3 => ?_
      refine i_iload_n (pc' := 33) (f_at inc_89 (j := 18) rfl) rfl rfl ?_
      refine s_join (J := 49) (fun (t4 : Int32) (u4 : Unit) => [.ref 102, .int a1, .int t4, .int s1.2, .int v2]) (fun t4 => []) (fun t4 => σ) ?_ ?_
      · intro t4 u4
        refine i_iinc (pc' := 52) (ls' := [.ref 102, .int a1, .int t4, .int (s1.2 + (1 : Int32)), .int v2]) (f_at inc_89 (j := 28) rfl) rfl ci_1 rfl rfl ?_
        refine i_goto (pc' := 4) (f_at inc_89 (j := 29) rfl) (by decide) ?_
        exact hb1 (t4, (s1.2 + (1 : Int32))) (.int v2)
      · intro k4 hj4
        refine i_if2 (pc' := 49) (nx := 36) c2_ne (f_at inc_89 (j := 19) rfl) ⟨by decide, rfl⟩ (fun b6 => ?_) (fun b6 => ?_)
        · exact hj4 s1.1 ()
        · refine i_iload_n (pc' := 37) (f_at inc_89 (j := 20) rfl) rfl rfl ?_
          refine i_aload_n (pc' := 38) (f_at inc_89 (j := 21) rfl) rfl rfl ?_
          refine i_getR (pc' := 41) (f_at inc_89 (j := 22) rfl) sh_102 rfl (f_lt (o := 102) (m := 155) (Nat.le_of_ble_eq_true rfl) hN) rfl ?_
          refine i_getR (pc' := 44) (f_at inc_89 (j := 23) rfl) sh_121 rfl (f_lt (o := 121) (m := 155) (Nat.le_of_ble_eq_true rfl) hN) rfl ?_
          refine i_iload (pc' := 46) (f_at inc_89 (j := 24) rfl) rfl rfl ?_
          refine i_iald (pc' := 47) (f_at inc_89 (j := 25) rfl) sh_126 (f_bg (Nat.le_of_ble_eq_true rfl)) (f_lt (o := 126) (m := 155) (Nat.le_of_ble_eq_true rfl) hN) rfl fun v5 => ?_
          refine i_iadd (pc' := 48) (f_at inc_89 (j := 26) rfl) rfl ?_
          refine i_istore_n (pc' := 49) (ls' := [.ref 102, .int a1, .int (s1.1 + v5), .int s1.2, .int v2]) (f_at inc_89 (j := 27) rfl) (Nat.le_of_ble_eq_true rfl) rfl rfl ?_
          exact hj4 (s1.1 + v5) ()
set_option maxRecDepth 4000 in
theorem G_276 {xs : Nat → Int32} {L N : Nat} (hN : 155 ≤ N)   (σ : f_M) : f_Cal a_MT xs L N 90 [.ref 0] σ ((g_276  σ).bind fun t => some (e_pi σ t)) := by
  refine f_cal_of (ls := [.ref 0, a_dead, a_dead, a_dead, a_dead]) MT_90 (Nat.le_of_ble_eq_true rfl) rfl ?_
  unfold g_276
  refine i_iconst (pc' := 1) (f_at inc_90 (j := 0) rfl) ci_0 rfl ?_
  refine i_istore_n (pc' := 2) (ls' := [.ref 0, .int (0 : Int32), a_dead, a_dead, a_dead]) (f_at inc_90 (j := 1) rfl) (Nat.le_of_ble_eq_true rfl) rfl rfl ?_
  refine i_iconst (pc' := 3) (f_at inc_90 (j := 2) rfl) ci_0 rfl ?_
  refine i_istore_n (pc' := 4) (ls' := [.ref 0, .int (0 : Int32), .int (0 : Int32), a_dead, a_dead]) (f_at inc_90 (j := 3) rfl) (Nat.le_of_ble_eq_true rfl) rfl rfl ?_
  refine i_iconst (pc' := 5) (f_at inc_90 (j := 4) rfl) ci_0 rfl ?_
  refine i_istore_n (pc' := 6) (ls' := [.ref 0, .int (0 : Int32), .int (0 : Int32), .int (0 : Int32), a_dead]) (f_at inc_90 (j := 5) rfl) (Nat.le_of_ble_eq_true rfl) rfl rfl ?_
  refine s_lX (X := 44) ((0 : Int32), (0 : Int32), (0 : Int32)) (a_dead) (fun (s1 : Int32 × Int32 × Int32) (u1 : Value) => [.ref 0, .int s1.1, .int s1.2.1, .int s1.2.2, u1]) (fun (s1 : Int32 × Int32 × Int32) => σ) (fun (x1 : Int32) (w1 : Value × Value × Value) => [.ref 0, .int x1, w1.1, w1.2.1, w1.2.2]) (fun (x1 : Int32) => σ) ?_ ?_
  · intro x1 w1
    refine i_iload_n (pc' := 45) (f_at inc_90 (j := 25) rfl) rfl rfl ?_
    exact i_iret (f_at inc_90 (j := 26) rfl) rfl n_int
  · intro s1 u1 k1 hb1 hx1
    refine i_iload_n (pc' := 7) (f_at inc_90 (j := 6) rfl) rfl rfl ?_
    refine i_aload_n (pc' := 8) (f_at inc_90 (j := 7) rfl) rfl rfl ?_
    refine i_getR (pc' := 11) (f_at inc_90 (j := 8) rfl) sh_0 rfl (f_lt (o := 0) (m := 155) (Nat.le_of_ble_eq_true rfl) hN) rfl ?_
    refine i_getI (pc' := 14) (f_at inc_90 (j := 9) rfl) sh_103 rfl (f_lt (o := 103) (m := 155) (Nat.le_of_ble_eq_true rfl) hN) rfl ?_
    refine i_if2 (pc' := 44) (nx := 17) c2_ge (f_at inc_90 (j := 10) rfl) ⟨by decide, rfl⟩ (fun b5 => ?_) (fun b5 => ?_)
    · exact hx1 s1.1 (.int s1.2.1, .int s1.2.2, u1)
    · refine i_aload_n (pc' := 18) (f_at inc_90 (j := 11) rfl) rfl rfl ?_
      refine i_getR (pc' := 21) (f_at inc_90 (j := 12) rfl) sh_0 rfl (f_lt (o := 0) (m := 155) (Nat.le_of_ble_eq_true rfl) hN) rfl ?_
      refine i_iload_n (pc' := 22) (f_at inc_90 (j := 13) rfl) rfl rfl ?_
      refine c_pi (pc' := 25) (c' := 0) (n' := 0) (h_virt (ra := [.int s1.2.2, .ref 102]) (r := []) (as := [.int s1.2.2]) (f_at inc_90 (j := 14) rfl) (by decide) MT_89 rfl rfl rfl ⟨Nat.le_of_ble_eq_true rfl, Nat.le_of_ble_eq_true rfl, Nat.le_of_ble_eq_true rfl⟩ sh_102 (f_lt (o := 102) (m := 155) (Nat.le_of_ble_eq_true rfl) hN)) MT_89 (G_275 hN s1.2.2 σ) ⟨rfl, rfl, rfl⟩ fun t2 => ?_
      refine i_istore (pc' := 27) (ls' := [.ref 0, .int s1.1, .int s1.2.1, .int s1.2.2, .int t2]) (f_at inc_90 (j := 15) rfl) (Nat.le_of_ble_eq_true rfl) rfl rfl ?_
      refine i_iload (pc' := 29) (f_at inc_90 (j := 16) rfl) rfl rfl ?_
      refine i_iload_n (pc' := 30) (f_at inc_90 (j := 17) rfl) rfl rfl ?_
      refine s_join (J := 38) (fun (t3 : Int32 × Int32) (u3 : Unit) => [.ref 0, .int t3.1, .int t3.2, .int s1.2.2, .int t2]) (fun t3 => []) (fun t3 => σ) ?_ ?_
      · intro t3 u3
        refine i_iinc (pc' := 41) (ls' := [.ref 0, .int t3.1, .int t3.2, .int (s1.2.2 + (1 : Int32)), .int t2]) (f_at inc_90 (j := 23) rfl) rfl ci_1 rfl rfl ?_
        refine i_goto (pc' := 6) (f_at inc_90 (j := 24) rfl) (by decide) ?_
        exact hb1 (t3.1, t3.2, (s1.2.2 + (1 : Int32))) (.int t2)
      · intro k3 hj3
        refine i_if2 (pc' := 38) (nx := 33) c2_le (f_at inc_90 (j := 18) rfl) ⟨by decide, rfl⟩ (fun b4 => ?_) (fun b4 => ?_)
        · exact hj3 (s1.1, s1.2.1) ()
        · refine i_iload_n (pc' := 34) (f_at inc_90 (j := 19) rfl) rfl rfl ?_
          refine i_istore_n (pc' := 35) (ls' := [.ref 0, .int s1.2.2, .int s1.2.1, .int s1.2.2, .int t2]) (f_at inc_90 (j := 20) rfl) (Nat.le_of_ble_eq_true rfl) rfl rfl ?_
          refine i_iload (pc' := 37) (f_at inc_90 (j := 21) rfl) rfl rfl ?_
          refine i_istore_n (pc' := 38) (ls' := [.ref 0, .int s1.2.2, .int t2, .int s1.2.2, .int t2]) (f_at inc_90 (j := 22) rfl) (Nat.le_of_ble_eq_true rfl) rfl rfl ?_
          exact hj3 (s1.2.2, t2) ()
set_option maxRecDepth 4000 in
theorem G_302 {xs : Nat → Int32} {L N : Nat} (hN : 155 ≤ N)   (σ : f_M) : f_Cal a_MT xs L N 91 [.ref 103] σ ((g_302  σ).bind fun t => some (e_pi σ t)) := by
  refine f_cal_of (ls := [.ref 103, a_dead, a_dead]) MT_91 (Nat.le_of_ble_eq_true rfl) rfl ?_
  unfold g_302
  refine i_aload_n (pc' := 1) (f_at inc_91 (j := 0) rfl) rfl rfl ?_
  refine i_getI (pc' := 4) (f_at inc_91 (j := 1) rfl) sh_103 rfl (f_lt (o := 103) (m := 155) (Nat.le_of_ble_eq_true rfl) hN) rfl ?_
  refine i_istore_n (pc' := 5) (ls' := [.ref 103, .int (σ 103 6), a_dead]) (f_at inc_91 (j := 2) rfl) (Nat.le_of_ble_eq_true rfl) rfl rfl ?_
  refine i_iconst (pc' := 6) (f_at inc_91 (j := 3) rfl) ci_0 rfl ?_
  refine i_istore_n (pc' := 7) (ls' := [.ref 103, .int (σ 103 6), .int (0 : Int32)]) (f_at inc_91 (j := 4) rfl) (Nat.le_of_ble_eq_true rfl) rfl rfl ?_
  refine s_lX (X := 30) ((σ 103 6), (0 : Int32)) () (fun (s1 : Int32 × Int32) (u1 : Unit) => [.ref 103, .int s1.1, .int s1.2]) (fun (s1 : Int32 × Int32) => σ) (fun (x1 : Int32) (w1 : Value) => [.ref 103, .int x1, w1]) (fun (x1 : Int32) => σ) ?_ ?_
  · intro x1 w1
    refine i_iload_n (pc' := 31) (f_at inc_91 (j := 18) rfl) rfl rfl ?_
    exact i_iret (f_at inc_91 (j := 19) rfl) rfl n_int
  · intro s1 u1 k1 hb1 hx1
    refine i_iload_n (pc' := 8) (f_at inc_91 (j := 5) rfl) rfl rfl ?_
    refine i_aload_n (pc' := 9) (f_at inc_91 (j := 6) rfl) rfl rfl ?_
    refine i_getI (pc' := 12) (f_at inc_91 (j := 7) rfl) sh_103 rfl (f_lt (o := 103) (m := 155) (Nat.le_of_ble_eq_true rfl) hN) rfl ?_
    refine i_if2 (pc' := 30) (nx := 15) c2_ge (f_at inc_91 (j := 8) rfl) ⟨by decide, rfl⟩ (fun b3 => ?_) (fun b3 => ?_)
    · exact hx1 s1.1 (.int s1.2)
    · refine i_iload_n (pc' := 16) (f_at inc_91 (j := 9) rfl) rfl rfl ?_
      refine i_aload_n (pc' := 17) (f_at inc_91 (j := 10) rfl) rfl rfl ?_
      refine i_getR (pc' := 20) (f_at inc_91 (j := 11) rfl) sh_103 rfl (f_lt (o := 103) (m := 155) (Nat.le_of_ble_eq_true rfl) hN) rfl ?_
      refine i_iload_n (pc' := 21) (f_at inc_91 (j := 12) rfl) rfl rfl ?_
      refine i_iald (pc' := 22) (f_at inc_91 (j := 13) rfl) sh_106 (f_bg (Nat.le_of_ble_eq_true rfl)) (f_lt (o := 106) (m := 155) (Nat.le_of_ble_eq_true rfl) hN) rfl fun v2 => ?_
      refine i_iadd (pc' := 23) (f_at inc_91 (j := 14) rfl) rfl ?_
      refine i_istore_n (pc' := 24) (ls' := [.ref 103, .int (s1.1 + v2), .int s1.2]) (f_at inc_91 (j := 15) rfl) (Nat.le_of_ble_eq_true rfl) rfl rfl ?_
      refine i_iinc (pc' := 27) (ls' := [.ref 103, .int (s1.1 + v2), .int (s1.2 + (1 : Int32))]) (f_at inc_91 (j := 16) rfl) rfl ci_1 rfl rfl ?_
      refine i_goto (pc' := 7) (f_at inc_91 (j := 17) rfl) (by decide) ?_
      exact hb1 ((s1.1 + v2), (s1.2 + (1 : Int32))) ()
set_option maxRecDepth 4000 in
theorem G_303 {xs : Nat → Int32} {L N : Nat} (hN : 155 ≤ N)   (σ : f_M) : f_Cal a_MT xs L N 92 [.ref 103, .ref 121] σ ((g_303  σ).bind fun t => some (e_pb σ t)) := by
  refine f_cal_of (ls := [.ref 103, .ref 121, a_dead, a_dead]) MT_92 (Nat.le_of_ble_eq_true rfl) rfl ?_
  unfold g_303
  refine i_aload_n (pc' := 1) (f_at inc_92 (j := 0) rfl) rfl rfl ?_
  refine i_getI (pc' := 4) (f_at inc_92 (j := 1) rfl) sh_121 rfl (f_lt (o := 121) (m := 155) (Nat.le_of_ble_eq_true rfl) hN) rfl ?_
  refine i_istore_n (pc' := 5) (ls' := [.ref 103, .ref 121, .int (σ 121 1), a_dead]) (f_at inc_92 (j := 2) rfl) (Nat.le_of_ble_eq_true rfl) rfl rfl ?_
  refine i_iconst (pc' := 6) (f_at inc_92 (j := 3) rfl) ci_0 rfl ?_
  refine i_istore_n (pc' := 7) (ls' := [.ref 103, .ref 121, .int (σ 121 1), .int (0 : Int32)]) (f_at inc_92 (j := 4) rfl) (Nat.le_of_ble_eq_true rfl) rfl rfl ?_
  refine s_lX (X := 30) ((σ 121 1), (0 : Int32)) () (fun (s1 : Int32 × Int32) (u1 : Unit) => [.ref 103, .ref 121, .int s1.1, .int s1.2]) (fun (s1 : Int32 × Int32) => σ) (fun (x1 : Int32) (w1 : Value) => [.ref 103, .ref 121, .int x1, w1]) (fun (x1 : Int32) => σ) ?_ ?_
  · intro x1 w1
    refine i_iload_n (pc' := 31) (f_at inc_92 (j := 18) rfl) rfl rfl ?_
    refine i_aload_n (pc' := 32) (f_at inc_92 (j := 19) rfl) rfl rfl ?_
    refine c_pi (pc' := 35) (c' := 0) (n' := 0) (h_virt (ra := [.ref 103]) (r := [.int x1]) (as := []) (f_at inc_92 (j := 20) rfl) (by decide) MT_91 rfl rfl rfl ⟨Nat.le_of_ble_eq_true rfl, Nat.le_of_ble_eq_true rfl, Nat.le_of_ble_eq_true rfl⟩ sh_103 (f_lt (o := 103) (m := 155) (Nat.le_of_ble_eq_true rfl) hN)) MT_91 (G_302 hN  σ) ⟨rfl, rfl, rfl⟩ fun t4 => ?_
    refine i_aload_n (pc' := 36) (f_at inc_92 (j := 21) rfl) rfl rfl ?_
    refine i_getI (pc' := 39) (f_at inc_92 (j := 22) rfl) sh_121 rfl (f_lt (o := 121) (m := 155) (Nat.le_of_ble_eq_true rfl) hN) rfl ?_
    refine i_iadd (pc' := 40) (f_at inc_92 (j := 23) rfl) rfl ?_
    refine s_join (J := 48) (fun (t5 : Bool) (u5 : Unit) => [.ref 103, .ref 121, .int x1, w1]) (fun t5 => [.int (f_b t5)]) (fun t5 => σ) ?_ ?_
    · intro t5 u5
      exact i_iret (v := f_b t5) (f_at inc_92 (j := 28) rfl) rfl n_bool
    · intro k5 hj5
      refine i_if2 (pc' := 47) (nx := 43) c2_ne (f_at inc_92 (j := 24) rfl) ⟨by decide, rfl⟩ (fun b6 => ?_) (fun b6 => ?_)
      · refine i_iconst (pc' := 48) (f_at inc_92 (j := 27) rfl) ci_0 rfl ?_
        exact hj5 false ()
      · refine i_iconst (pc' := 44) (f_at inc_92 (j := 25) rfl) ci_1 rfl ?_
        refine i_goto (pc' := 48) (f_at inc_92 (j := 26) rfl) (by decide) ?_
        exact hj5 true ()
  · intro s1 u1 k1 hb1 hx1
    refine i_iload_n (pc' := 8) (f_at inc_92 (j := 5) rfl) rfl rfl ?_
    refine i_aload_n (pc' := 9) (f_at inc_92 (j := 6) rfl) rfl rfl ?_
    refine i_getI (pc' := 12) (f_at inc_92 (j := 7) rfl) sh_103 rfl (f_lt (o := 103) (m := 155) (Nat.le_of_ble_eq_true rfl) hN) rfl ?_
    refine i_if2 (pc' := 30) (nx := 15) c2_ge (f_at inc_92 (j := 8) rfl) ⟨by decide, rfl⟩ (fun b3 => ?_) (fun b3 => ?_)
    · exact hx1 s1.1 (.int s1.2)
    · refine i_iload_n (pc' := 16) (f_at inc_92 (j := 9) rfl) rfl rfl ?_
      refine i_aload_n (pc' := 17) (f_at inc_92 (j := 10) rfl) rfl rfl ?_
      refine i_getR (pc' := 20) (f_at inc_92 (j := 11) rfl) sh_121 rfl (f_lt (o := 121) (m := 155) (Nat.le_of_ble_eq_true rfl) hN) rfl ?_
      refine i_iload_n (pc' := 21) (f_at inc_92 (j := 12) rfl) rfl rfl ?_
      refine i_iald (pc' := 22) (f_at inc_92 (j := 13) rfl) sh_122 (f_bg (Nat.le_of_ble_eq_true rfl)) (f_lt (o := 122) (m := 155) (Nat.le_of_ble_eq_true rfl) hN) rfl fun v2 => ?_
      refine i_iadd (pc' := 23) (f_at inc_92 (j := 14) rfl) rfl ?_
      refine i_istore_n (pc' := 24) (ls' := [.ref 103, .ref 121, .int (s1.1 + v2), .int s1.2]) (f_at inc_92 (j := 15) rfl) (Nat.le_of_ble_eq_true rfl) rfl rfl ?_
      refine i_iinc (pc' := 27) (ls' := [.ref 103, .ref 121, .int (s1.1 + v2), .int (s1.2 + (1 : Int32))]) (f_at inc_92 (j := 16) rfl) rfl ci_1 rfl rfl ?_
      refine i_goto (pc' := 7) (f_at inc_92 (j := 17) rfl) (by decide) ?_
      exact hb1 ((s1.1 + v2), (s1.2 + (1 : Int32))) ()
set_option maxRecDepth 4000 in
theorem G_304 {xs : Nat → Int32} {L N : Nat} (hN : 155 ≤ N)   (σ : f_M) : f_Cal a_MT xs L N 93 [.ref 121] σ ((g_304  σ).bind fun t => some (e_pb σ t)) := by
  refine f_cal_of (ls := [.ref 121, a_dead, a_dead, a_dead, a_dead, a_dead]) MT_93 (Nat.le_of_ble_eq_true rfl) rfl ?_
  unfold g_304
  refine i_iconst (pc' := 1) (f_at inc_93 (j := 0) rfl) ci_0 rfl ?_
  refine i_istore_n (pc' := 2) (ls' := [.ref 121, .int (0 : Int32), a_dead, a_dead, a_dead, a_dead]) (f_at inc_93 (j := 1) rfl) (Nat.le_of_ble_eq_true rfl) rfl rfl ?_
  refine i_iconst (pc' := 3) (f_at inc_93 (j := 2) rfl) ci_0 rfl ?_
  refine i_istore_n (pc' := 4) (ls' := [.ref 121, .int (0 : Int32), .int (0 : Int32), a_dead, a_dead, a_dead]) (f_at inc_93 (j := 3) rfl) (Nat.le_of_ble_eq_true rfl) rfl rfl ?_
  refine i_iconst (pc' := 5) (f_at inc_93 (j := 4) rfl) ci_0 rfl ?_
  refine i_istore_n (pc' := 6) (ls' := [.ref 121, .int (0 : Int32), .int (0 : Int32), .int (0 : Int32), a_dead, a_dead]) (f_at inc_93 (j := 5) rfl) (Nat.le_of_ble_eq_true rfl) rfl rfl ?_
  refine s_lR ((0 : Int32), (0 : Int32), (0 : Int32)) (a_dead, a_dead) (fun (s1 : Int32 × Int32 × Int32) (u1 : Value × Value) => [.ref 121, .int s1.1, .int s1.2.1, .int s1.2.2, u1.1, u1.2]) (fun (s1 : Int32 × Int32 × Int32) => σ) ?_
  intro s1 u1 k1 hb1 hr1
  refine i_iload_n (pc' := 7) (f_at inc_93 (j := 6) rfl) rfl rfl ?_
  refine i_aload_n (pc' := 8) (f_at inc_93 (j := 7) rfl) rfl rfl ?_
  refine i_getI (pc' := 11) (f_at inc_93 (j := 8) rfl) sh_121 rfl (f_lt (o := 121) (m := 155) (Nat.le_of_ble_eq_true rfl) hN) rfl ?_
  refine i_if2 (pc' := 113) (nx := 14) c2_ge (f_at inc_93 (j := 9) rfl) ⟨by decide, rfl⟩ (fun b35 => ?_) (fun b35 => ?_)
  · refine i_iload_n (pc' := 114) (f_at inc_93 (j := 65) rfl) rfl rfl ?_
    refine i_aload_n (pc' := 115) (f_at inc_93 (j := 66) rfl) rfl rfl ?_
    refine i_getI (pc' := 118) (f_at inc_93 (j := 67) rfl) sh_121 rfl (f_lt (o := 121) (m := 155) (Nat.le_of_ble_eq_true rfl) hN) rfl ?_
    refine i_if2 (pc' := 133) (nx := 121) c2_ne (f_at inc_93 (j := 68) rfl) ⟨by decide, rfl⟩ (fun b3 => ?_) (fun b3 => ?_)
    · refine i_iconst (pc' := 134) (f_at inc_93 (j := 75) rfl) ci_0 rfl ?_
      refine s_rt (hr1 _) ?_
      exact i_iret (v := f_b false) (f_at inc_93 (j := 76) rfl) rfl n_bool
    · refine i_iload_n (pc' := 122) (f_at inc_93 (j := 69) rfl) rfl rfl ?_
      refine i_aload_n (pc' := 123) (f_at inc_93 (j := 70) rfl) rfl rfl ?_
      refine i_getI (pc' := 126) (f_at inc_93 (j := 71) rfl) sh_121 rfl (f_lt (o := 121) (m := 155) (Nat.le_of_ble_eq_true rfl) hN) rfl ?_
      refine i_if2 (pc' := 133) (nx := 129) c2_ne (f_at inc_93 (j := 72) rfl) ⟨by decide, rfl⟩ (fun b2 => ?_) (fun b2 => ?_)
      · refine i_iconst (pc' := 134) (f_at inc_93 (j := 75) rfl) ci_0 rfl ?_
        refine s_rt (hr1 _) ?_
        exact i_iret (v := f_b false) (f_at inc_93 (j := 76) rfl) rfl n_bool
      · refine i_iconst (pc' := 130) (f_at inc_93 (j := 73) rfl) ci_1 rfl ?_
        refine i_goto (pc' := 134) (f_at inc_93 (j := 74) rfl) (by decide) ?_
        refine s_rt (hr1 _) ?_
        exact i_iret (v := f_b true) (f_at inc_93 (j := 76) rfl) rfl n_bool
  · refine i_aload_n (pc' := 15) (f_at inc_93 (j := 10) rfl) rfl rfl ?_
    refine i_getR (pc' := 18) (f_at inc_93 (j := 11) rfl) sh_121 rfl (f_lt (o := 121) (m := 155) (Nat.le_of_ble_eq_true rfl) hN) rfl ?_
    refine i_iload_n (pc' := 19) (f_at inc_93 (j := 12) rfl) rfl rfl ?_
    refine i_iald (pc' := 20) (f_at inc_93 (j := 13) rfl) sh_124 (f_bg (Nat.le_of_ble_eq_true rfl)) (f_lt (o := 124) (m := 155) (Nat.le_of_ble_eq_true rfl) hN) rfl fun v4 => ?_
    refine i_istore (pc' := 22) (ls' := [.ref 121, .int s1.1, .int s1.2.1, .int s1.2.2, .int v4, u1.2]) (f_at inc_93 (j := 14) rfl) (Nat.le_of_ble_eq_true rfl) rfl rfl ?_
    refine i_iload (pc' := 24) (f_at inc_93 (j := 15) rfl) rfl rfl ?_
    refine i_iconst (pc' := 25) (f_at inc_93 (j := 16) rfl) ci_2 rfl ?_
    refine s_join (J := 39) (fun (t5 : Bool) (u5 : Unit) => [.ref 121, .int s1.1, .int s1.2.1, .int s1.2.2, .int v4, u1.2]) (fun t5 => [.int (f_b t5)]) (fun t5 => σ) ?_ ?_
    · intro t5 u5
      refine i_istore (pc' := 41) (ls' := [.ref 121, .int s1.1, .int s1.2.1, .int s1.2.2, .int v4, .int (f_b t5)]) (f_at inc_93 (j := 24) rfl) (Nat.le_of_ble_eq_true rfl) rfl rfl ?_
      refine i_iload (pc' := 43) (f_at inc_93 (j := 25) rfl) rfl rfl ?_
      refine i_if0 (pc' := 59) (nx := 46) cb_ne (f_at inc_93 (j := 26) rfl) ⟨by decide, rfl⟩ (fun b34 => ?_) (fun b34 => ?_)
      · refine i_iload (pc' := 61) (f_at inc_93 (j := 34) rfl) rfl rfl ?_
        refine i_aload_n (pc' := 62) (f_at inc_93 (j := 35) rfl) rfl rfl ?_
        refine i_getR (pc' := 65) (f_at inc_93 (j := 36) rfl) sh_121 rfl (f_lt (o := 121) (m := 155) (Nat.le_of_ble_eq_true rfl) hN) rfl ?_
        refine i_iload_n (pc' := 66) (f_at inc_93 (j := 37) rfl) rfl rfl ?_
        refine i_iald (pc' := 67) (f_at inc_93 (j := 38) rfl) sh_126 (f_bg (Nat.le_of_ble_eq_true rfl)) (f_lt (o := 126) (m := 155) (Nat.le_of_ble_eq_true rfl) hN) rfl fun v8 => ?_
        refine s_join (J := 75) (fun (t9 : Bool) (u9 : Unit) => [.ref 121, .int s1.1, .int s1.2.1, .int s1.2.2, .int v4, .int (f_b t5)]) (fun t9 => [.int (f_b t9), .int (f_b t5)]) (fun t9 => σ) ?_ ?_
        · intro t9 u9
          refine i_if2 (pc' := 80) (nx := 78) c2_eq (f_at inc_93 (j := 43) rfl) ⟨by decide, rfl⟩ (fun b15 => ?_) (fun b15 => ?_)
          · refine i_iload_n (pc' := 81) (f_at inc_93 (j := 46) rfl) rfl rfl ?_
            refine i_iload (pc' := 83) (f_at inc_93 (j := 47) rfl) rfl rfl ?_
            refine s_join (J := 91) (fun (t11 : Bool) (u11 : Unit) => [.ref 121, .int s1.1, .int s1.2.1, .int s1.2.2, .int v4, .int (f_b t5)]) (fun t11 => [.int (f_b t11), .int s1.1]) (fun t11 => σ) ?_ ?_
            · intro t11 u11
              refine i_iadd (pc' := 92) (f_at inc_93 (j := 52) rfl) rfl ?_
              refine i_istore_n (pc' := 93) (ls' := [.ref 121, .int (s1.1 + (f_b t11)), .int s1.2.1, .int s1.2.2, .int v4, .int (f_b t5)]) (f_at inc_93 (j := 53) rfl) (Nat.le_of_ble_eq_true rfl) rfl rfl ?_
              refine i_iload_n (pc' := 94) (f_at inc_93 (j := 54) rfl) rfl rfl ?_
              refine i_iload (pc' := 96) (f_at inc_93 (j := 55) rfl) rfl rfl ?_
              refine i_iconst (pc' := 97) (f_at inc_93 (j := 56) rfl) ci_3 rfl ?_
              refine s_join (J := 105) (fun (t13 : Bool) (u13 : Unit) => [.ref 121, .int (s1.1 + (f_b t11)), .int s1.2.1, .int s1.2.2, .int v4, .int (f_b t5)]) (fun t13 => [.int (f_b t13), .int s1.2.1]) (fun t13 => σ) ?_ ?_
              · intro t13 u13
                refine i_iadd (pc' := 106) (f_at inc_93 (j := 61) rfl) rfl ?_
                refine i_istore_n (pc' := 107) (ls' := [.ref 121, .int (s1.1 + (f_b t11)), .int (s1.2.1 + (f_b t13)), .int s1.2.2, .int v4, .int (f_b t5)]) (f_at inc_93 (j := 62) rfl) (Nat.le_of_ble_eq_true rfl) rfl rfl ?_
                refine i_iinc (pc' := 110) (ls' := [.ref 121, .int (s1.1 + (f_b t11)), .int (s1.2.1 + (f_b t13)), .int (s1.2.2 + (1 : Int32)), .int v4, .int (f_b t5)]) (f_at inc_93 (j := 63) rfl) rfl ci_1 rfl rfl ?_
                refine i_goto (pc' := 6) (f_at inc_93 (j := 64) rfl) (by decide) ?_
                exact hb1 ((s1.1 + (f_b t11)), (s1.2.1 + (f_b t13)), (s1.2.2 + (1 : Int32))) (.int v4, .int (f_b t5))
              · intro k13 hj13
                refine i_if2 (pc' := 104) (nx := 100) c2_ne (f_at inc_93 (j := 57) rfl) ⟨by decide, rfl⟩ (fun b14 => ?_) (fun b14 => ?_)
                · refine i_iconst (pc' := 105) (f_at inc_93 (j := 60) rfl) ci_0 rfl ?_
                  exact hj13 false ()
                · refine i_iconst (pc' := 101) (f_at inc_93 (j := 58) rfl) ci_1 rfl ?_
                  refine i_goto (pc' := 105) (f_at inc_93 (j := 59) rfl) (by decide) ?_
                  exact hj13 true ()
            · intro k11 hj11
              refine i_if0 (pc' := 90) (nx := 86) cb_eq (f_at inc_93 (j := 48) rfl) ⟨by decide, rfl⟩ (fun b12 => ?_) (fun b12 => ?_)
              · refine i_iconst (pc' := 91) (f_at inc_93 (j := 51) rfl) ci_0 rfl ?_
                exact hj11 false ()
              · refine i_iconst (pc' := 87) (f_at inc_93 (j := 49) rfl) ci_1 rfl ?_
                refine i_goto (pc' := 91) (f_at inc_93 (j := 50) rfl) (by decide) ?_
                exact hj11 true ()
          · refine i_iconst (pc' := 79) (f_at inc_93 (j := 44) rfl) ci_0 rfl ?_
            refine s_rt (hr1 _) ?_
            exact i_iret (v := f_b false) (f_at inc_93 (j := 45) rfl) rfl n_bool
        · intro k9 hj9
          refine i_if0 (pc' := 74) (nx := 70) c0_le (f_at inc_93 (j := 39) rfl) ⟨by decide, rfl⟩ (fun b10 => ?_) (fun b10 => ?_)
          · refine i_iconst (pc' := 75) (f_at inc_93 (j := 42) rfl) ci_0 rfl ?_
            exact hj9 false ()
          · refine i_iconst (pc' := 71) (f_at inc_93 (j := 40) rfl) ci_1 rfl ?_
            refine i_goto (pc' := 75) (f_at inc_93 (j := 41) rfl) (by decide) ?_
            exact hj9 true ()
      · refine i_iload (pc' := 48) (f_at inc_93 (j := 27) rfl) rfl rfl ?_
        refine i_if0 (pc' := 59) (nx := 51) c0_eq (f_at inc_93 (j := 28) rfl) ⟨by decide, rfl⟩ (fun b33 => ?_) (fun b33 => ?_)
        · refine i_iload (pc' := 61) (f_at inc_93 (j := 34) rfl) rfl rfl ?_
          refine i_aload_n (pc' := 62) (f_at inc_93 (j := 35) rfl) rfl rfl ?_
          refine i_getR (pc' := 65) (f_at inc_93 (j := 36) rfl) sh_121 rfl (f_lt (o := 121) (m := 155) (Nat.le_of_ble_eq_true rfl) hN) rfl ?_
          refine i_iload_n (pc' := 66) (f_at inc_93 (j := 37) rfl) rfl rfl ?_
          refine i_iald (pc' := 67) (f_at inc_93 (j := 38) rfl) sh_126 (f_bg (Nat.le_of_ble_eq_true rfl)) (f_lt (o := 126) (m := 155) (Nat.le_of_ble_eq_true rfl) hN) rfl fun v16 => ?_
          refine s_join (J := 75) (fun (t17 : Bool) (u17 : Unit) => [.ref 121, .int s1.1, .int s1.2.1, .int s1.2.2, .int v4, .int (f_b t5)]) (fun t17 => [.int (f_b t17), .int (f_b t5)]) (fun t17 => σ) ?_ ?_
          · intro t17 u17
            refine i_if2 (pc' := 80) (nx := 78) c2_eq (f_at inc_93 (j := 43) rfl) ⟨by decide, rfl⟩ (fun b23 => ?_) (fun b23 => ?_)
            · refine i_iload_n (pc' := 81) (f_at inc_93 (j := 46) rfl) rfl rfl ?_
              refine i_iload (pc' := 83) (f_at inc_93 (j := 47) rfl) rfl rfl ?_
              refine s_join (J := 91) (fun (t19 : Bool) (u19 : Unit) => [.ref 121, .int s1.1, .int s1.2.1, .int s1.2.2, .int v4, .int (f_b t5)]) (fun t19 => [.int (f_b t19), .int s1.1]) (fun t19 => σ) ?_ ?_
              · intro t19 u19
                refine i_iadd (pc' := 92) (f_at inc_93 (j := 52) rfl) rfl ?_
                refine i_istore_n (pc' := 93) (ls' := [.ref 121, .int (s1.1 + (f_b t19)), .int s1.2.1, .int s1.2.2, .int v4, .int (f_b t5)]) (f_at inc_93 (j := 53) rfl) (Nat.le_of_ble_eq_true rfl) rfl rfl ?_
                refine i_iload_n (pc' := 94) (f_at inc_93 (j := 54) rfl) rfl rfl ?_
                refine i_iload (pc' := 96) (f_at inc_93 (j := 55) rfl) rfl rfl ?_
                refine i_iconst (pc' := 97) (f_at inc_93 (j := 56) rfl) ci_3 rfl ?_
                refine s_join (J := 105) (fun (t21 : Bool) (u21 : Unit) => [.ref 121, .int (s1.1 + (f_b t19)), .int s1.2.1, .int s1.2.2, .int v4, .int (f_b t5)]) (fun t21 => [.int (f_b t21), .int s1.2.1]) (fun t21 => σ) ?_ ?_
                · intro t21 u21
                  refine i_iadd (pc' := 106) (f_at inc_93 (j := 61) rfl) rfl ?_
                  refine i_istore_n (pc' := 107) (ls' := [.ref 121, .int (s1.1 + (f_b t19)), .int (s1.2.1 + (f_b t21)), .int s1.2.2, .int v4, .int (f_b t5)]) (f_at inc_93 (j := 62) rfl) (Nat.le_of_ble_eq_true rfl) rfl rfl ?_
                  refine i_iinc (pc' := 110) (ls' := [.ref 121, .int (s1.1 + (f_b t19)), .int (s1.2.1 + (f_b t21)), .int (s1.2.2 + (1 : Int32)), .int v4, .int (f_b t5)]) (f_at inc_93 (j := 63) rfl) rfl ci_1 rfl rfl ?_
                  refine i_goto (pc' := 6) (f_at inc_93 (j := 64) rfl) (by decide) ?_
                  exact hb1 ((s1.1 + (f_b t19)), (s1.2.1 + (f_b t21)), (s1.2.2 + (1 : Int32))) (.int v4, .int (f_b t5))
                · intro k21 hj21
                  refine i_if2 (pc' := 104) (nx := 100) c2_ne (f_at inc_93 (j := 57) rfl) ⟨by decide, rfl⟩ (fun b22 => ?_) (fun b22 => ?_)
                  · refine i_iconst (pc' := 105) (f_at inc_93 (j := 60) rfl) ci_0 rfl ?_
                    exact hj21 false ()
                  · refine i_iconst (pc' := 101) (f_at inc_93 (j := 58) rfl) ci_1 rfl ?_
                    refine i_goto (pc' := 105) (f_at inc_93 (j := 59) rfl) (by decide) ?_
                    exact hj21 true ()
              · intro k19 hj19
                refine i_if0 (pc' := 90) (nx := 86) cb_eq (f_at inc_93 (j := 48) rfl) ⟨by decide, rfl⟩ (fun b20 => ?_) (fun b20 => ?_)
                · refine i_iconst (pc' := 91) (f_at inc_93 (j := 51) rfl) ci_0 rfl ?_
                  exact hj19 false ()
                · refine i_iconst (pc' := 87) (f_at inc_93 (j := 49) rfl) ci_1 rfl ?_
                  refine i_goto (pc' := 91) (f_at inc_93 (j := 50) rfl) (by decide) ?_
                  exact hj19 true ()
            · refine i_iconst (pc' := 79) (f_at inc_93 (j := 44) rfl) ci_0 rfl ?_
              refine s_rt (hr1 _) ?_
              exact i_iret (v := f_b false) (f_at inc_93 (j := 45) rfl) rfl n_bool
          · intro k17 hj17
            refine i_if0 (pc' := 74) (nx := 70) c0_le (f_at inc_93 (j := 39) rfl) ⟨by decide, rfl⟩ (fun b18 => ?_) (fun b18 => ?_)
            · refine i_iconst (pc' := 75) (f_at inc_93 (j := 42) rfl) ci_0 rfl ?_
              exact hj17 false ()
            · refine i_iconst (pc' := 71) (f_at inc_93 (j := 40) rfl) ci_1 rfl ?_
              refine i_goto (pc' := 75) (f_at inc_93 (j := 41) rfl) (by decide) ?_
              exact hj17 true ()
        · refine i_iload (pc' := 53) (f_at inc_93 (j := 29) rfl) rfl rfl ?_
          refine i_iconst (pc' := 54) (f_at inc_93 (j := 30) rfl) ci_1 rfl ?_
          refine i_if2 (pc' := 59) (nx := 57) c2_eq (f_at inc_93 (j := 31) rfl) ⟨by decide, rfl⟩ (fun b32 => ?_) (fun b32 => ?_)
          · refine i_iload (pc' := 61) (f_at inc_93 (j := 34) rfl) rfl rfl ?_
            refine i_aload_n (pc' := 62) (f_at inc_93 (j := 35) rfl) rfl rfl ?_
            refine i_getR (pc' := 65) (f_at inc_93 (j := 36) rfl) sh_121 rfl (f_lt (o := 121) (m := 155) (Nat.le_of_ble_eq_true rfl) hN) rfl ?_
            refine i_iload_n (pc' := 66) (f_at inc_93 (j := 37) rfl) rfl rfl ?_
            refine i_iald (pc' := 67) (f_at inc_93 (j := 38) rfl) sh_126 (f_bg (Nat.le_of_ble_eq_true rfl)) (f_lt (o := 126) (m := 155) (Nat.le_of_ble_eq_true rfl) hN) rfl fun v24 => ?_
            refine s_join (J := 75) (fun (t25 : Bool) (u25 : Unit) => [.ref 121, .int s1.1, .int s1.2.1, .int s1.2.2, .int v4, .int (f_b t5)]) (fun t25 => [.int (f_b t25), .int (f_b t5)]) (fun t25 => σ) ?_ ?_
            · intro t25 u25
              refine i_if2 (pc' := 80) (nx := 78) c2_eq (f_at inc_93 (j := 43) rfl) ⟨by decide, rfl⟩ (fun b31 => ?_) (fun b31 => ?_)
              · refine i_iload_n (pc' := 81) (f_at inc_93 (j := 46) rfl) rfl rfl ?_
                refine i_iload (pc' := 83) (f_at inc_93 (j := 47) rfl) rfl rfl ?_
                refine s_join (J := 91) (fun (t27 : Bool) (u27 : Unit) => [.ref 121, .int s1.1, .int s1.2.1, .int s1.2.2, .int v4, .int (f_b t5)]) (fun t27 => [.int (f_b t27), .int s1.1]) (fun t27 => σ) ?_ ?_
                · intro t27 u27
                  refine i_iadd (pc' := 92) (f_at inc_93 (j := 52) rfl) rfl ?_
                  refine i_istore_n (pc' := 93) (ls' := [.ref 121, .int (s1.1 + (f_b t27)), .int s1.2.1, .int s1.2.2, .int v4, .int (f_b t5)]) (f_at inc_93 (j := 53) rfl) (Nat.le_of_ble_eq_true rfl) rfl rfl ?_
                  refine i_iload_n (pc' := 94) (f_at inc_93 (j := 54) rfl) rfl rfl ?_
                  refine i_iload (pc' := 96) (f_at inc_93 (j := 55) rfl) rfl rfl ?_
                  refine i_iconst (pc' := 97) (f_at inc_93 (j := 56) rfl) ci_3 rfl ?_
                  refine s_join (J := 105) (fun (t29 : Bool) (u29 : Unit) => [.ref 121, .int (s1.1 + (f_b t27)), .int s1.2.1, .int s1.2.2, .int v4, .int (f_b t5)]) (fun t29 => [.int (f_b t29), .int s1.2.1]) (fun t29 => σ) ?_ ?_
                  · intro t29 u29
                    refine i_iadd (pc' := 106) (f_at inc_93 (j := 61) rfl) rfl ?_
                    refine i_istore_n (pc' := 107) (ls' := [.ref 121, .int (s1.1 + (f_b t27)), .int (s1.2.1 + (f_b t29)), .int s1.2.2, .int v4, .int (f_b t5)]) (f_at inc_93 (j := 62) rfl) (Nat.le_of_ble_eq_true rfl) rfl rfl ?_
                    refine i_iinc (pc' := 110) (ls' := [.ref 121, .int (s1.1 + (f_b t27)), .int (s1.2.1 + (f_b t29)), .int (s1.2.2 + (1 : Int32)), .int v4, .int (f_b t5)]) (f_at inc_93 (j := 63) rfl) rfl ci_1 rfl rfl ?_
                    refine i_goto (pc' := 6) (f_at inc_93 (j := 64) rfl) (by decide) ?_
                    exact hb1 ((s1.1 + (f_b t27)), (s1.2.1 + (f_b t29)), (s1.2.2 + (1 : Int32))) (.int v4, .int (f_b t5))
                  · intro k29 hj29
                    refine i_if2 (pc' := 104) (nx := 100) c2_ne (f_at inc_93 (j := 57) rfl) ⟨by decide, rfl⟩ (fun b30 => ?_) (fun b30 => ?_)
                    · refine i_iconst (pc' := 105) (f_at inc_93 (j := 60) rfl) ci_0 rfl ?_
                      exact hj29 false ()
                    · refine i_iconst (pc' := 101) (f_at inc_93 (j := 58) rfl) ci_1 rfl ?_
                      refine i_goto (pc' := 105) (f_at inc_93 (j := 59) rfl) (by decide) ?_
                      exact hj29 true ()
                · intro k27 hj27
                  refine i_if0 (pc' := 90) (nx := 86) cb_eq (f_at inc_93 (j := 48) rfl) ⟨by decide, rfl⟩ (fun b28 => ?_) (fun b28 => ?_)
                  · refine i_iconst (pc' := 91) (f_at inc_93 (j := 51) rfl) ci_0 rfl ?_
                    exact hj27 false ()
                  · refine i_iconst (pc' := 87) (f_at inc_93 (j := 49) rfl) ci_1 rfl ?_
                    refine i_goto (pc' := 91) (f_at inc_93 (j := 50) rfl) (by decide) ?_
                    exact hj27 true ()
              · refine i_iconst (pc' := 79) (f_at inc_93 (j := 44) rfl) ci_0 rfl ?_
                refine s_rt (hr1 _) ?_
                exact i_iret (v := f_b false) (f_at inc_93 (j := 45) rfl) rfl n_bool
            · intro k25 hj25
              refine i_if0 (pc' := 74) (nx := 70) c0_le (f_at inc_93 (j := 39) rfl) ⟨by decide, rfl⟩ (fun b26 => ?_) (fun b26 => ?_)
              · refine i_iconst (pc' := 75) (f_at inc_93 (j := 42) rfl) ci_0 rfl ?_
                exact hj25 false ()
              · refine i_iconst (pc' := 71) (f_at inc_93 (j := 40) rfl) ci_1 rfl ?_
                refine i_goto (pc' := 75) (f_at inc_93 (j := 41) rfl) (by decide) ?_
                exact hj25 true ()
          · refine i_iconst (pc' := 58) (f_at inc_93 (j := 32) rfl) ci_0 rfl ?_
            refine s_rt (hr1 _) ?_
            exact i_iret (v := f_b false) (f_at inc_93 (j := 33) rfl) rfl n_bool
    · intro k5 hj5
      refine i_if2 (pc' := 34) (nx := 28) c2_eq (f_at inc_93 (j := 17) rfl) ⟨by decide, rfl⟩ (fun b7 => ?_) (fun b7 => ?_)
      · refine i_iconst (pc' := 35) (f_at inc_93 (j := 21) rfl) ci_1 rfl ?_
        refine i_goto (pc' := 39) (f_at inc_93 (j := 22) rfl) (by decide) ?_
        exact hj5 true ()
      · refine i_iload (pc' := 30) (f_at inc_93 (j := 18) rfl) rfl rfl ?_
        refine i_iconst (pc' := 31) (f_at inc_93 (j := 19) rfl) ci_3 rfl ?_
        refine i_if2 (pc' := 38) (nx := 34) c2_ne (f_at inc_93 (j := 20) rfl) ⟨by decide, rfl⟩ (fun b6 => ?_) (fun b6 => ?_)
        · refine i_iconst (pc' := 39) (f_at inc_93 (j := 23) rfl) ci_0 rfl ?_
          exact hj5 false ()
        · refine i_iconst (pc' := 35) (f_at inc_93 (j := 21) rfl) ci_1 rfl ?_
          refine i_goto (pc' := 39) (f_at inc_93 (j := 22) rfl) (by decide) ?_
          exact hj5 true ()
set_option maxRecDepth 4000 in
theorem G_305 {xs : Nat → Int32} {L N : Nat} (hN : 155 ≤ N)   (σ : f_M) : f_Cal a_MT xs L N 94 [.ref 102] σ ((g_305  σ).bind fun t => some (e_pb σ t)) := by
  refine f_cal_of (ls := [.ref 102, a_dead, a_dead]) MT_94 (Nat.le_of_ble_eq_true rfl) rfl ?_
  unfold g_305
  refine i_iconst (pc' := 1) (f_at inc_94 (j := 0) rfl) ci_1 rfl ?_
  refine i_istore_n (pc' := 2) (ls' := [.ref 102, .int (1 : Int32), a_dead]) (f_at inc_94 (j := 1) rfl) (Nat.le_of_ble_eq_true rfl) rfl rfl ?_
  refine s_lR (1 : Int32) (a_dead) (fun (s1 : Int32) (u1 : Value) => [.ref 102, .int s1, u1]) (fun (s1 : Int32) => σ) ?_
  intro s1 u1 k1 hb1 hr1
  refine i_iload_n (pc' := 3) (f_at inc_94 (j := 2) rfl) rfl rfl ?_
  refine i_aload_n (pc' := 4) (f_at inc_94 (j := 3) rfl) rfl rfl ?_
  refine i_getR (pc' := 7) (f_at inc_94 (j := 4) rfl) sh_102 rfl (f_lt (o := 102) (m := 155) (Nat.le_of_ble_eq_true rfl) hN) rfl ?_
  refine i_getI (pc' := 10) (f_at inc_94 (j := 5) rfl) sh_121 rfl (f_lt (o := 121) (m := 155) (Nat.le_of_ble_eq_true rfl) hN) rfl ?_
  refine i_if2 (pc' := 59) (nx := 13) c2_ge (f_at inc_94 (j := 6) rfl) ⟨by decide, rfl⟩ (fun b8 => ?_) (fun b8 => ?_)
  · refine i_iconst (pc' := 60) (f_at inc_94 (j := 31) rfl) ci_1 rfl ?_
    refine s_rt (hr1 _) ?_
    exact i_iret (v := f_b true) (f_at inc_94 (j := 32) rfl) rfl n_bool
  · refine i_iconst (pc' := 14) (f_at inc_94 (j := 7) rfl) ci_0 rfl ?_
    refine i_istore_n (pc' := 15) (ls' := [.ref 102, .int s1, .int (0 : Int32)]) (f_at inc_94 (j := 8) rfl) (Nat.le_of_ble_eq_true rfl) rfl rfl ?_
    refine s_lB (X := 53) (0 : Int32) () (fun (s2 : Int32) (u2 : Unit) => [.ref 102, .int s1, .int s2]) (fun (s2 : Int32) => σ) (fun (x2 : Unit) (w2 : Value) => [.ref 102, .int s1, w2]) (fun (x2 : Unit) => σ) ?_ ?_
    · intro x2 w2
      refine i_iinc (pc' := 56) (ls' := [.ref 102, .int (s1 + (1 : Int32)), w2]) (f_at inc_94 (j := 29) rfl) rfl ci_1 rfl rfl ?_
      refine i_goto (pc' := 2) (f_at inc_94 (j := 30) rfl) (by decide) ?_
      exact hb1 (s1 + (1 : Int32)) (w2)
    · intro s2 u2 k2 hb2 hx2 hr2
      refine i_iload_n (pc' := 16) (f_at inc_94 (j := 9) rfl) rfl rfl ?_
      refine i_iload_n (pc' := 17) (f_at inc_94 (j := 10) rfl) rfl rfl ?_
      refine i_if2 (pc' := 53) (nx := 20) c2_ge (f_at inc_94 (j := 11) rfl) ⟨by decide, rfl⟩ (fun b7 => ?_) (fun b7 => ?_)
      · exact hx2 () (.int s2)
      · refine i_aload_n (pc' := 21) (f_at inc_94 (j := 12) rfl) rfl rfl ?_
        refine i_aload_n (pc' := 22) (f_at inc_94 (j := 13) rfl) rfl rfl ?_
        refine i_getR (pc' := 25) (f_at inc_94 (j := 14) rfl) sh_102 rfl (f_lt (o := 102) (m := 155) (Nat.le_of_ble_eq_true rfl) hN) rfl ?_
        refine i_getR (pc' := 28) (f_at inc_94 (j := 15) rfl) sh_108 rfl (f_lt (o := 108) (m := 155) (Nat.le_of_ble_eq_true rfl) hN) rfl ?_
        refine i_iload_n (pc' := 29) (f_at inc_94 (j := 16) rfl) rfl rfl ?_
        refine i_iald (pc' := 30) (f_at inc_94 (j := 17) rfl) sh_119 (f_bg (Nat.le_of_ble_eq_true rfl)) (f_lt (o := 119) (m := 155) (Nat.le_of_ble_eq_true rfl) hN) rfl fun v3 => ?_
        refine i_aload_n (pc' := 31) (f_at inc_94 (j := 18) rfl) rfl rfl ?_
        refine i_getR (pc' := 34) (f_at inc_94 (j := 19) rfl) sh_102 rfl (f_lt (o := 102) (m := 155) (Nat.le_of_ble_eq_true rfl) hN) rfl ?_
        refine i_getR (pc' := 37) (f_at inc_94 (j := 20) rfl) sh_108 rfl (f_lt (o := 108) (m := 155) (Nat.le_of_ble_eq_true rfl) hN) rfl ?_
        refine i_iload_n (pc' := 38) (f_at inc_94 (j := 21) rfl) rfl rfl ?_
        refine i_iald (pc' := 39) (f_at inc_94 (j := 22) rfl) sh_119 (f_bg (Nat.le_of_ble_eq_true rfl)) (f_lt (o := 119) (m := 155) (Nat.le_of_ble_eq_true rfl) hN) rfl fun v4 => ?_
        refine c_pb (pc' := 42) (c' := 0) (n' := 0) (h_virt (ra := [.int v4, .int v3, .ref 102]) (r := []) (as := [.int v3, .int v4]) (f_at inc_94 (j := 23) rfl) (by decide) MT_68 rfl rfl rfl ⟨Nat.le_of_ble_eq_true rfl, Nat.le_of_ble_eq_true rfl, Nat.le_of_ble_eq_true rfl⟩ sh_102 (f_lt (o := 102) (m := 155) (Nat.le_of_ble_eq_true rfl) hN)) MT_68 (G_103 hN v3 v4 σ) ⟨rfl, rfl, rfl⟩ fun t5 => ?_
        refine i_if0 (pc' := 47) (nx := 45) cb_eq (f_at inc_94 (j := 24) rfl) ⟨by decide, rfl⟩ (fun b6 => ?_) (fun b6 => ?_)
        · refine i_iinc (pc' := 50) (ls' := [.ref 102, .int s1, .int (s2 + (1 : Int32))]) (f_at inc_94 (j := 27) rfl) rfl ci_1 rfl rfl ?_
          refine i_goto (pc' := 15) (f_at inc_94 (j := 28) rfl) (by decide) ?_
          exact hb2 (s2 + (1 : Int32)) ()
        · refine i_iconst (pc' := 46) (f_at inc_94 (j := 25) rfl) ci_0 rfl ?_
          refine s_rt (hr2 _) ?_
          refine s_rt (hr1 _) ?_
          exact i_iret (v := f_b false) (f_at inc_94 (j := 26) rfl) rfl n_bool
set_option maxRecDepth 4000 in
theorem G_306 {xs : Nat → Int32} {L N : Nat} (hN : 155 ≤ N) (a1 : Int32)  (σ : f_M) : f_Cal a_MT xs L N 95 [.ref 42, .int a1] σ ((g_306 a1 σ).bind fun t => some (e_wv t)) := by
  refine f_cal_of (ls := [.ref 42, .int a1, a_dead]) MT_95 (Nat.le_of_ble_eq_true rfl) rfl ?_
  unfold g_306
  refine i_aload_n (pc' := 1) (f_at inc_95 (j := 0) rfl) rfl rfl ?_
  refine i_getI (pc' := 4) (f_at inc_95 (j := 1) rfl) sh_42 rfl (f_lt (o := 42) (m := 155) (Nat.le_of_ble_eq_true rfl) hN) rfl ?_
  refine i_istore_n (pc' := 5) (ls' := [.ref 42, .int a1, .int (σ 42 1)]) (f_at inc_95 (j := 2) rfl) (Nat.le_of_ble_eq_true rfl) rfl rfl ?_
  refine s_lX (X := 41) ((σ 42 1), σ) () (fun (s1 : Int32 × f_M) (u1 : Unit) => [.ref 42, .int a1, .int s1.1]) (fun (s1 : Int32 × f_M) => s1.2) (fun (x1 : Int32 × f_M) (w1 : Unit) => [.ref 42, .int a1, .int x1.1]) (fun (x1 : Int32 × f_M) => x1.2) ?_ ?_
  · intro x1 w1
    refine i_aload_n (pc' := 42) (f_at inc_95 (j := 25) rfl) rfl rfl ?_
    refine i_getR (pc' := 45) (f_at inc_95 (j := 26) rfl) sh_42 rfl (f_lt (o := 42) (m := 155) (Nat.le_of_ble_eq_true rfl) hN) rfl ?_
    refine i_iload_n (pc' := 46) (f_at inc_95 (j := 27) rfl) rfl rfl ?_
    refine i_iload_n (pc' := 47) (f_at inc_95 (j := 28) rfl) rfl rfl ?_
    refine i_iast (pc' := 48) (f_at inc_95 (j := 29) rfl) sh_43 (f_lt (o := 43) (m := 155) (Nat.le_of_ble_eq_true rfl) hN) rfl fun m7 => ?_
    refine i_aload_n (pc' := 49) (f_at inc_95 (j := 30) rfl) rfl rfl ?_
    refine i_dup (pc' := 50) (f_at inc_95 (j := 31) rfl) rfl rfl ?_
    refine i_getI (pc' := 53) (f_at inc_95 (j := 32) rfl) sh_42 rfl (f_lt (o := 42) (m := 155) (Nat.le_of_ble_eq_true rfl) hN) rfl ?_
    refine i_iconst (pc' := 54) (f_at inc_95 (j := 33) rfl) ci_1 rfl ?_
    refine i_iadd (pc' := 55) (f_at inc_95 (j := 34) rfl) rfl ?_
    refine i_putI (pc' := 58) (f_at inc_95 (j := 35) rfl) sh_42 rfl ⟨rfl, rfl⟩ (f_lt (o := 42) (m := 155) (Nat.le_of_ble_eq_true rfl) hN) rfl ?_
    exact i_vret (f_at inc_95 (j := 36) rfl) rfl
  · intro s1 u1 k1 hb1 hx1
    refine i_iload_n (pc' := 6) (f_at inc_95 (j := 3) rfl) rfl rfl ?_
    refine i_if0 (pc' := 41) (nx := 9) c0_le (f_at inc_95 (j := 4) rfl) ⟨by decide, rfl⟩ (fun b6 => ?_) (fun b6 => ?_)
    · exact hx1 (s1.1, s1.2) ()
    · refine i_aload_n (pc' := 10) (f_at inc_95 (j := 5) rfl) rfl rfl ?_
      refine i_getR (pc' := 13) (f_at inc_95 (j := 6) rfl) sh_42 rfl (f_lt (o := 42) (m := 155) (Nat.le_of_ble_eq_true rfl) hN) rfl ?_
      refine i_iload_n (pc' := 14) (f_at inc_95 (j := 7) rfl) rfl rfl ?_
      refine i_iconst (pc' := 15) (f_at inc_95 (j := 8) rfl) ci_1 rfl ?_
      refine i_isub (pc' := 16) (f_at inc_95 (j := 9) rfl) rfl ?_
      refine i_iald (pc' := 17) (f_at inc_95 (j := 10) rfl) sh_43 (f_bg (Nat.le_of_ble_eq_true rfl)) (f_lt (o := 43) (m := 155) (Nat.le_of_ble_eq_true rfl) hN) rfl fun v2 => ?_
      refine i_iload_n (pc' := 18) (f_at inc_95 (j := 11) rfl) rfl rfl ?_
      refine i_if2 (pc' := 41) (nx := 21) c2_le (f_at inc_95 (j := 12) rfl) ⟨by decide, rfl⟩ (fun b5 => ?_) (fun b5 => ?_)
      · exact hx1 (s1.1, s1.2) ()
      · refine i_aload_n (pc' := 22) (f_at inc_95 (j := 13) rfl) rfl rfl ?_
        refine i_getR (pc' := 25) (f_at inc_95 (j := 14) rfl) sh_42 rfl (f_lt (o := 42) (m := 155) (Nat.le_of_ble_eq_true rfl) hN) rfl ?_
        refine i_iload_n (pc' := 26) (f_at inc_95 (j := 15) rfl) rfl rfl ?_
        refine i_aload_n (pc' := 27) (f_at inc_95 (j := 16) rfl) rfl rfl ?_
        refine i_getR (pc' := 30) (f_at inc_95 (j := 17) rfl) sh_42 rfl (f_lt (o := 42) (m := 155) (Nat.le_of_ble_eq_true rfl) hN) rfl ?_
        refine i_iload_n (pc' := 31) (f_at inc_95 (j := 18) rfl) rfl rfl ?_
        refine i_iconst (pc' := 32) (f_at inc_95 (j := 19) rfl) ci_1 rfl ?_
        refine i_isub (pc' := 33) (f_at inc_95 (j := 20) rfl) rfl ?_
        refine i_iald (pc' := 34) (f_at inc_95 (j := 21) rfl) sh_43 (f_bg (Nat.le_of_ble_eq_true rfl)) (f_lt (o := 43) (m := 155) (Nat.le_of_ble_eq_true rfl) hN) rfl fun v3 => ?_
        refine i_iast (pc' := 35) (f_at inc_95 (j := 22) rfl) sh_43 (f_lt (o := 43) (m := 155) (Nat.le_of_ble_eq_true rfl) hN) rfl fun m4 => ?_
        refine i_iinc (pc' := 38) (ls' := [.ref 42, .int a1, .int (s1.1 + (-1 : Int32))]) (f_at inc_95 (j := 23) rfl) rfl ci_m1 rfl rfl ?_
        refine i_goto (pc' := 5) (f_at inc_95 (j := 24) rfl) (by decide) ?_
        exact hb1 ((s1.1 + (-1 : Int32)), m4) ()
