/-! Flat programs. -/
set_option maxRecDepth 4000 in
def g_141 (a1 : Int32) (σ : f_M) : Option (Bool × f_M) :=
  (f_rd σ 156 2420 (0 : Int32)).bind fun v1 =>
  (f_rd σ 162 210 (a1 + (1 : Int32))).bind fun v2 =>
  if (v1 + v2) ≤ (1000 : Int32) then (
   (f_lp (fun (s3 : Int32 × f_M) =>
    (f_rd s3.2 162 210 (a1 + (1 : Int32))).bind fun v4 =>
    if v4 ≤ s3.1 then (
     some (.inr s3.2)
    ) else (
     (f_rd s3.2 162 210 (a1 + (2 : Int32))).bind fun v5 =>
     (f_rd s3.2 162 210 (a1 + (3 : Int32))).bind fun v6 =>
     (g_140 v5 v6 s3.2).bind fun t7 =>
     some (.inl ((s3.1 + (1 : Int32)), t7.2))
    )
   ) f_F ((0 : Int32), σ)).bind fun (x3 : f_M) =>
   some (true, x3)
  ) else (
   some (false, σ)
  )
set_option maxRecDepth 4000 in
theorem G_141 {xs : Nat → Int32} {L N : Nat} (hN : 166 ≤ N) (a1 : Int32)  (σ : f_M) : f_Cal a_MT xs L N 141 [.ref 155, .int a1] σ ((g_141 a1 σ).bind fun t => some (e_wb t)) := by
  refine f_cal_of (ls := [.ref 155, .int a1, a_dead, a_dead]) MT_141 (Nat.le_of_ble_eq_true rfl) rfl ?_
  unfold g_141
  refine i_aload_n (pc' := 1) (f_at inc_141 (j := 0) rfl) rfl rfl ?_
  refine i_getR (pc' := 4) (f_at inc_141 (j := 1) rfl) sh_155 rfl (f_lt (o := 155) (m := 166) (Nat.le_of_ble_eq_true rfl) hN) rfl ?_
  refine i_iconst (pc' := 5) (f_at inc_141 (j := 2) rfl) ci_0 rfl ?_
  refine i_iald (pc' := 6) (f_at inc_141 (j := 3) rfl) sh_156 (f_bg (Nat.le_of_ble_eq_true rfl)) (f_lt (o := 156) (m := 166) (Nat.le_of_ble_eq_true rfl) hN) rfl fun v1 => ?_
  refine i_aload_n (pc' := 7) (f_at inc_141 (j := 4) rfl) rfl rfl ?_
  refine i_getR (pc' := 10) (f_at inc_141 (j := 5) rfl) sh_155 rfl (f_lt (o := 155) (m := 166) (Nat.le_of_ble_eq_true rfl) hN) rfl ?_
  refine i_iload_n (pc' := 11) (f_at inc_141 (j := 6) rfl) rfl rfl ?_
  refine i_iconst (pc' := 12) (f_at inc_141 (j := 7) rfl) ci_1 rfl ?_
  refine i_iadd (pc' := 13) (f_at inc_141 (j := 8) rfl) rfl ?_
  refine i_iald (pc' := 14) (f_at inc_141 (j := 9) rfl) sh_162 (f_bg (Nat.le_of_ble_eq_true rfl)) (f_lt (o := 162) (m := 166) (Nat.le_of_ble_eq_true rfl) hN) rfl fun v2 => ?_
  refine i_iadd (pc' := 15) (f_at inc_141 (j := 10) rfl) rfl ?_
  refine i_sipush (pc' := 18) (f_at inc_141 (j := 11) rfl) cs_1000 rfl ?_
  refine i_if2 (pc' := 23) (nx := 21) c2_le (f_at inc_141 (j := 12) rfl) ⟨by decide, rfl⟩ (fun b9 => ?_) (fun b9 => ?_)
  · refine i_iconst (pc' := 24) (f_at inc_141 (j := 15) rfl) ci_0 rfl ?_
    refine i_istore_n (pc' := 25) (ls' := [.ref 155, .int a1, .int (0 : Int32), a_dead]) (f_at inc_141 (j := 16) rfl) (Nat.le_of_ble_eq_true rfl) rfl rfl ?_
    refine s_lX (X := 64) ((0 : Int32), σ) (a_dead) (fun (s3 : Int32 × f_M) (u3 : Value) => [.ref 155, .int a1, .int s3.1, u3]) (fun (s3 : Int32 × f_M) => s3.2) (fun (x3 : f_M) (w3 : Value × Value) => [.ref 155, .int a1, w3.1, w3.2]) (fun (x3 : f_M) => x3) ?_ ?_
    · intro x3 w3
      refine i_iconst (pc' := 65) (f_at inc_141 (j := 42) rfl) ci_1 rfl ?_
      exact i_iret (v := f_b true) (f_at inc_141 (j := 43) rfl) rfl n_bool
    · intro s3 u3 k3 hb3 hx3
      refine i_iload_n (pc' := 26) (f_at inc_141 (j := 17) rfl) rfl rfl ?_
      refine i_aload_n (pc' := 27) (f_at inc_141 (j := 18) rfl) rfl rfl ?_
      refine i_getR (pc' := 30) (f_at inc_141 (j := 19) rfl) sh_155 rfl (f_lt (o := 155) (m := 166) (Nat.le_of_ble_eq_true rfl) hN) rfl ?_
      refine i_iload_n (pc' := 31) (f_at inc_141 (j := 20) rfl) rfl rfl ?_
      refine i_iconst (pc' := 32) (f_at inc_141 (j := 21) rfl) ci_1 rfl ?_
      refine i_iadd (pc' := 33) (f_at inc_141 (j := 22) rfl) rfl ?_
      refine i_iald (pc' := 34) (f_at inc_141 (j := 23) rfl) sh_162 (f_bg (Nat.le_of_ble_eq_true rfl)) (f_lt (o := 162) (m := 166) (Nat.le_of_ble_eq_true rfl) hN) rfl fun v4 => ?_
      refine i_if2 (pc' := 64) (nx := 37) c2_ge (f_at inc_141 (j := 24) rfl) ⟨by decide, rfl⟩ (fun b8 => ?_) (fun b8 => ?_)
      · exact hx3 s3.2 (.int s3.1, u3)
      · refine i_aload_n (pc' := 38) (f_at inc_141 (j := 25) rfl) rfl rfl ?_
        refine i_aload_n (pc' := 39) (f_at inc_141 (j := 26) rfl) rfl rfl ?_
        refine i_getR (pc' := 42) (f_at inc_141 (j := 27) rfl) sh_155 rfl (f_lt (o := 155) (m := 166) (Nat.le_of_ble_eq_true rfl) hN) rfl ?_
        refine i_iload_n (pc' := 43) (f_at inc_141 (j := 28) rfl) rfl rfl ?_
        refine i_iconst (pc' := 44) (f_at inc_141 (j := 29) rfl) ci_2 rfl ?_
        refine i_iadd (pc' := 45) (f_at inc_141 (j := 30) rfl) rfl ?_
        refine i_iald (pc' := 46) (f_at inc_141 (j := 31) rfl) sh_162 (f_bg (Nat.le_of_ble_eq_true rfl)) (f_lt (o := 162) (m := 166) (Nat.le_of_ble_eq_true rfl) hN) rfl fun v5 => ?_
        refine i_aload_n (pc' := 47) (f_at inc_141 (j := 32) rfl) rfl rfl ?_
        refine i_getR (pc' := 50) (f_at inc_141 (j := 33) rfl) sh_155 rfl (f_lt (o := 155) (m := 166) (Nat.le_of_ble_eq_true rfl) hN) rfl ?_
        refine i_iload_n (pc' := 51) (f_at inc_141 (j := 34) rfl) rfl rfl ?_
        refine i_iconst (pc' := 52) (f_at inc_141 (j := 35) rfl) ci_3 rfl ?_
        refine i_iadd (pc' := 53) (f_at inc_141 (j := 36) rfl) rfl ?_
        refine i_iald (pc' := 54) (f_at inc_141 (j := 37) rfl) sh_162 (f_bg (Nat.le_of_ble_eq_true rfl)) (f_lt (o := 162) (m := 166) (Nat.le_of_ble_eq_true rfl) hN) rfl fun v6 => ?_
        refine c_wi (pc' := 57) (c' := 0) (n' := 0) (h_virt (ra := [.int v6, .int v5, .ref 155]) (r := []) (as := [.int v5, .int v6]) (f_at inc_141 (j := 38) rfl) (by decide) MT_140 rfl rfl rfl ⟨Nat.le_of_ble_eq_true rfl, Nat.le_of_ble_eq_true rfl, Nat.le_of_ble_eq_true rfl⟩ sh_155 (f_lt (o := 155) (m := 166) (Nat.le_of_ble_eq_true rfl) hN)) MT_140 (G_140 hN v5 v6 s3.2) ⟨rfl, rfl, rfl⟩ fun t7 => ?_
        refine i_istore_n (pc' := 58) (ls' := [.ref 155, .int a1, .int s3.1, .int t7.1]) (f_at inc_141 (j := 39) rfl) (Nat.le_of_ble_eq_true rfl) rfl rfl ?_
        refine i_iinc (pc' := 61) (ls' := [.ref 155, .int a1, .int (s3.1 + (1 : Int32)), .int t7.1]) (f_at inc_141 (j := 40) rfl) rfl ci_1 rfl rfl ?_
        refine i_goto (pc' := 25) (f_at inc_141 (j := 41) rfl) (by decide) ?_
        exact hb3 ((s3.1 + (1 : Int32)), t7.2) (.int t7.1)
  · refine i_iconst (pc' := 22) (f_at inc_141 (j := 13) rfl) ci_0 rfl ?_
    exact i_iret (v := f_b false) (f_at inc_141 (j := 14) rfl) rfl n_bool
set_option maxRecDepth 4000 in
def g_142 (a1 : Int32) (σ : f_M) : Option (Bool) :=
  (f_rd σ 156 2420 (4 : Int32)).bind fun v1 =>
  (g_46 (a1).toInt64 (0 : Int64) ((v1 - (1 : Int32))).toInt64 σ).bind fun t2 =>
  some t2
set_option maxRecDepth 4000 in
theorem G_142 {xs : Nat → Int32} {L N : Nat} (hN : 166 ≤ N) (a1 : Int32)  (σ : f_M) : f_Cal a_MT xs L N 142 [.ref 155, .int a1] σ ((g_142 a1 σ).bind fun t => some (e_pb σ t)) := by
  refine f_cal_of (ls := [.ref 155, .int a1]) MT_142 (Nat.le_of_ble_eq_true rfl) rfl ?_
  unfold g_142
  refine i_iload_n (pc' := 1) (f_at inc_142 (j := 0) rfl) rfl rfl ?_
  refine i_i2l (pc' := 2) (f_at inc_142 (j := 1) rfl) rfl ?_
  refine i_lconst (pc' := 3) (f_at inc_142 (j := 2) rfl) cl_0 rfl ?_
  refine i_aload_n (pc' := 4) (f_at inc_142 (j := 3) rfl) rfl rfl ?_
  refine i_getR (pc' := 7) (f_at inc_142 (j := 4) rfl) sh_155 rfl (f_lt (o := 155) (m := 166) (Nat.le_of_ble_eq_true rfl) hN) rfl ?_
  refine i_iconst (pc' := 8) (f_at inc_142 (j := 5) rfl) ci_4 rfl ?_
  refine i_iald (pc' := 9) (f_at inc_142 (j := 6) rfl) sh_156 (f_bg (Nat.le_of_ble_eq_true rfl)) (f_lt (o := 156) (m := 166) (Nat.le_of_ble_eq_true rfl) hN) rfl fun v1 => ?_
  refine i_iconst (pc' := 10) (f_at inc_142 (j := 7) rfl) ci_1 rfl ?_
  refine i_isub (pc' := 11) (f_at inc_142 (j := 8) rfl) rfl ?_
  refine i_i2l (pc' := 12) (f_at inc_142 (j := 9) rfl) rfl ?_
  refine c_pb (pc' := 15) (c' := 0) (n' := 0) (h_stat (ra := [.long ((v1 - (1 : Int32))).toInt64, .long (0 : Int64), .long (a1).toInt64]) (r := []) (as := [.long (a1).toInt64, .long (0 : Int64), .long ((v1 - (1 : Int32))).toInt64]) (f_at inc_142 (j := 10) rfl) (by decide) MT_46 rfl rfl rfl ⟨Nat.le_of_ble_eq_true rfl, Nat.le_of_ble_eq_true rfl, Nat.le_of_ble_eq_true rfl⟩) MT_46 (G_46 hN (a1).toInt64 (0 : Int64) ((v1 - (1 : Int32))).toInt64 σ) ⟨rfl, rfl, rfl⟩ fun t2 => ?_
  exact i_iret (v := f_b t2) (f_at inc_142 (j := 11) rfl) rfl n_bool
set_option maxRecDepth 4000 in
def g_143 (a1 : Int32) (a2 : Int32) (σ : f_M) : Option (Bool) :=
  (g_119 a1 σ).bind fun t1 =>
  (f_rd σ 156 2420 (t1 + (0 : Int32))).bind fun v2 =>
  (g_119 a2 σ).bind fun t3 =>
  (f_rd σ 156 2420 (t3 + (0 : Int32))).bind fun v4 =>
  (
   if ¬ v2 = v4 then (
    some false
   ) else (
    (g_119 a1 σ).bind fun t6 =>
    (f_rd σ 156 2420 (t6 + (2 : Int32))).bind fun v7 =>
    (g_119 a2 σ).bind fun t8 =>
    (f_rd σ 156 2420 (t8 + (2 : Int32))).bind fun v9 =>
    if ¬ v7 = v9 then (
     some false
    ) else (
     some true
    )
   )
  ).bind fun (t5 : Bool) =>
  (
   if t5 = false then (
    some false
   ) else (
    (g_119 a1 σ).bind fun t13 =>
    (f_rd σ 156 2420 (t13 + (1 : Int32))).bind fun v14 =>
    (g_119 a2 σ).bind fun t15 =>
    (f_rd σ 156 2420 (t15 + (1 : Int32))).bind fun v16 =>
    if ¬ v14 = v16 then (
     some false
    ) else (
     some true
    )
   )
  ).bind fun (t12 : Bool) =>
  some t12
set_option maxRecDepth 4000 in
theorem G_143 {xs : Nat → Int32} {L N : Nat} (hN : 166 ≤ N) (a1 : Int32) (a2 : Int32)  (σ : f_M) : f_Cal a_MT xs L N 143 [.ref 155, .int a1, .int a2] σ ((g_143 a1 a2 σ).bind fun t => some (e_pb σ t)) := by
  refine f_cal_of (ls := [.ref 155, .int a1, .int a2, a_dead]) MT_143 (Nat.le_of_ble_eq_true rfl) rfl ?_
  unfold g_143
  refine i_aload_n (pc' := 1) (f_at inc_143 (j := 0) rfl) rfl rfl ?_
  refine i_getR (pc' := 4) (f_at inc_143 (j := 1) rfl) sh_155 rfl (f_lt (o := 155) (m := 166) (Nat.le_of_ble_eq_true rfl) hN) rfl ?_
  refine i_iload_n (pc' := 5) (f_at inc_143 (j := 2) rfl) rfl rfl ?_
  refine c_pi (pc' := 8) (c' := 0) (n' := 0) (h_stat (ra := [.int a1]) (r := [.ref 156]) (as := [.int a1]) (f_at inc_143 (j := 3) rfl) (by decide) MT_119 rfl rfl rfl ⟨Nat.le_of_ble_eq_true rfl, Nat.le_of_ble_eq_true rfl, Nat.le_of_ble_eq_true rfl⟩) MT_119 (G_119 hN a1 σ) ⟨rfl, rfl, rfl⟩ fun t1 => ?_
  refine i_iconst (pc' := 9) (f_at inc_143 (j := 4) rfl) ci_0 rfl ?_
  refine i_iadd (pc' := 10) (f_at inc_143 (j := 5) rfl) rfl ?_
  refine i_iald (pc' := 11) (f_at inc_143 (j := 6) rfl) sh_156 (f_bg (Nat.le_of_ble_eq_true rfl)) (f_lt (o := 156) (m := 166) (Nat.le_of_ble_eq_true rfl) hN) rfl fun v2 => ?_
  refine i_aload_n (pc' := 12) (f_at inc_143 (j := 7) rfl) rfl rfl ?_
  refine i_getR (pc' := 15) (f_at inc_143 (j := 8) rfl) sh_155 rfl (f_lt (o := 155) (m := 166) (Nat.le_of_ble_eq_true rfl) hN) rfl ?_
  refine i_iload_n (pc' := 16) (f_at inc_143 (j := 9) rfl) rfl rfl ?_
  refine c_pi (pc' := 19) (c' := 0) (n' := 0) (h_stat (ra := [.int a2]) (r := [.ref 156, .int v2]) (as := [.int a2]) (f_at inc_143 (j := 10) rfl) (by decide) MT_119 rfl rfl rfl ⟨Nat.le_of_ble_eq_true rfl, Nat.le_of_ble_eq_true rfl, Nat.le_of_ble_eq_true rfl⟩) MT_119 (G_119 hN a2 σ) ⟨rfl, rfl, rfl⟩ fun t3 => ?_
  refine i_iconst (pc' := 20) (f_at inc_143 (j := 11) rfl) ci_0 rfl ?_
  refine i_iadd (pc' := 21) (f_at inc_143 (j := 12) rfl) rfl ?_
  refine i_iald (pc' := 22) (f_at inc_143 (j := 13) rfl) sh_156 (f_bg (Nat.le_of_ble_eq_true rfl)) (f_lt (o := 156) (m := 166) (Nat.le_of_ble_eq_true rfl) hN) rfl fun v4 => ?_
  refine s_join (J := 55) (fun (t5 : Bool) (u5 : Unit) => [.ref 155, .int a1, .int a2, a_dead]) (fun t5 => [.int (f_b t5)]) (fun t5 => σ) ?_ ?_
  · intro t5 u5
    refine i_istore_n (pc' := 56) (ls' := [.ref 155, .int a1, .int a2, .int (f_b t5)]) (f_at inc_143 (j := 33) rfl) (Nat.le_of_ble_eq_true rfl) rfl rfl ?_
    refine i_iload_n (pc' := 57) (f_at inc_143 (j := 34) rfl) rfl rfl ?_
    refine s_join (J := 90) (fun (t12 : Bool) (u12 : Unit) => [.ref 155, .int a1, .int a2, .int (f_b t5)]) (fun t12 => [.int (f_b t12)]) (fun t12 => σ) ?_ ?_
    · intro t12 u12
      exact i_iret (v := f_b t12) (f_at inc_143 (j := 54) rfl) rfl n_bool
    · intro k12 hj12
      refine i_if0 (pc' := 89) (nx := 60) cb_eq (f_at inc_143 (j := 35) rfl) ⟨by decide, rfl⟩ (fun b18 => ?_) (fun b18 => ?_)
      · refine i_iconst (pc' := 90) (f_at inc_143 (j := 53) rfl) ci_0 rfl ?_
        exact hj12 false ()
      · refine i_aload_n (pc' := 61) (f_at inc_143 (j := 36) rfl) rfl rfl ?_
        refine i_getR (pc' := 64) (f_at inc_143 (j := 37) rfl) sh_155 rfl (f_lt (o := 155) (m := 166) (Nat.le_of_ble_eq_true rfl) hN) rfl ?_
        refine i_iload_n (pc' := 65) (f_at inc_143 (j := 38) rfl) rfl rfl ?_
        refine c_pi (pc' := 68) (c' := 0) (n' := 0) (h_stat (ra := [.int a1]) (r := [.ref 156]) (as := [.int a1]) (f_at inc_143 (j := 39) rfl) (by decide) MT_119 rfl rfl rfl ⟨Nat.le_of_ble_eq_true rfl, Nat.le_of_ble_eq_true rfl, Nat.le_of_ble_eq_true rfl⟩) MT_119 (G_119 hN a1 σ) ⟨rfl, rfl, rfl⟩ fun t13 => ?_
        refine i_iconst (pc' := 69) (f_at inc_143 (j := 40) rfl) ci_1 rfl ?_
        refine i_iadd (pc' := 70) (f_at inc_143 (j := 41) rfl) rfl ?_
        refine i_iald (pc' := 71) (f_at inc_143 (j := 42) rfl) sh_156 (f_bg (Nat.le_of_ble_eq_true rfl)) (f_lt (o := 156) (m := 166) (Nat.le_of_ble_eq_true rfl) hN) rfl fun v14 => ?_
        refine i_aload_n (pc' := 72) (f_at inc_143 (j := 43) rfl) rfl rfl ?_
        refine i_getR (pc' := 75) (f_at inc_143 (j := 44) rfl) sh_155 rfl (f_lt (o := 155) (m := 166) (Nat.le_of_ble_eq_true rfl) hN) rfl ?_
        refine i_iload_n (pc' := 76) (f_at inc_143 (j := 45) rfl) rfl rfl ?_
        refine c_pi (pc' := 79) (c' := 0) (n' := 0) (h_stat (ra := [.int a2]) (r := [.ref 156, .int v14]) (as := [.int a2]) (f_at inc_143 (j := 46) rfl) (by decide) MT_119 rfl rfl rfl ⟨Nat.le_of_ble_eq_true rfl, Nat.le_of_ble_eq_true rfl, Nat.le_of_ble_eq_true rfl⟩) MT_119 (G_119 hN a2 σ) ⟨rfl, rfl, rfl⟩ fun t15 => ?_
        refine i_iconst (pc' := 80) (f_at inc_143 (j := 47) rfl) ci_1 rfl ?_
        refine i_iadd (pc' := 81) (f_at inc_143 (j := 48) rfl) rfl ?_
        refine i_iald (pc' := 82) (f_at inc_143 (j := 49) rfl) sh_156 (f_bg (Nat.le_of_ble_eq_true rfl)) (f_lt (o := 156) (m := 166) (Nat.le_of_ble_eq_true rfl) hN) rfl fun v16 => ?_
        refine i_if2 (pc' := 89) (nx := 85) c2_ne (f_at inc_143 (j := 50) rfl) ⟨by decide, rfl⟩ (fun b17 => ?_) (fun b17 => ?_)
        · refine i_iconst (pc' := 90) (f_at inc_143 (j := 53) rfl) ci_0 rfl ?_
          exact hj12 false ()
        · refine i_iconst (pc' := 86) (f_at inc_143 (j := 51) rfl) ci_1 rfl ?_
          refine i_goto (pc' := 90) (f_at inc_143 (j := 52) rfl) (by decide) ?_
          exact hj12 true ()
  · intro k5 hj5
    refine i_if2 (pc' := 54) (nx := 25) c2_ne (f_at inc_143 (j := 14) rfl) ⟨by decide, rfl⟩ (fun b11 => ?_) (fun b11 => ?_)
    · refine i_iconst (pc' := 55) (f_at inc_143 (j := 32) rfl) ci_0 rfl ?_
      exact hj5 false ()
    · refine i_aload_n (pc' := 26) (f_at inc_143 (j := 15) rfl) rfl rfl ?_
      refine i_getR (pc' := 29) (f_at inc_143 (j := 16) rfl) sh_155 rfl (f_lt (o := 155) (m := 166) (Nat.le_of_ble_eq_true rfl) hN) rfl ?_
      refine i_iload_n (pc' := 30) (f_at inc_143 (j := 17) rfl) rfl rfl ?_
      refine c_pi (pc' := 33) (c' := 0) (n' := 0) (h_stat (ra := [.int a1]) (r := [.ref 156]) (as := [.int a1]) (f_at inc_143 (j := 18) rfl) (by decide) MT_119 rfl rfl rfl ⟨Nat.le_of_ble_eq_true rfl, Nat.le_of_ble_eq_true rfl, Nat.le_of_ble_eq_true rfl⟩) MT_119 (G_119 hN a1 σ) ⟨rfl, rfl, rfl⟩ fun t6 => ?_
      refine i_iconst (pc' := 34) (f_at inc_143 (j := 19) rfl) ci_2 rfl ?_
      refine i_iadd (pc' := 35) (f_at inc_143 (j := 20) rfl) rfl ?_
      refine i_iald (pc' := 36) (f_at inc_143 (j := 21) rfl) sh_156 (f_bg (Nat.le_of_ble_eq_true rfl)) (f_lt (o := 156) (m := 166) (Nat.le_of_ble_eq_true rfl) hN) rfl fun v7 => ?_
      refine i_aload_n (pc' := 37) (f_at inc_143 (j := 22) rfl) rfl rfl ?_
      refine i_getR (pc' := 40) (f_at inc_143 (j := 23) rfl) sh_155 rfl (f_lt (o := 155) (m := 166) (Nat.le_of_ble_eq_true rfl) hN) rfl ?_
      refine i_iload_n (pc' := 41) (f_at inc_143 (j := 24) rfl) rfl rfl ?_
      refine c_pi (pc' := 44) (c' := 0) (n' := 0) (h_stat (ra := [.int a2]) (r := [.ref 156, .int v7]) (as := [.int a2]) (f_at inc_143 (j := 25) rfl) (by decide) MT_119 rfl rfl rfl ⟨Nat.le_of_ble_eq_true rfl, Nat.le_of_ble_eq_true rfl, Nat.le_of_ble_eq_true rfl⟩) MT_119 (G_119 hN a2 σ) ⟨rfl, rfl, rfl⟩ fun t8 => ?_
      refine i_iconst (pc' := 45) (f_at inc_143 (j := 26) rfl) ci_2 rfl ?_
      refine i_iadd (pc' := 46) (f_at inc_143 (j := 27) rfl) rfl ?_
      refine i_iald (pc' := 47) (f_at inc_143 (j := 28) rfl) sh_156 (f_bg (Nat.le_of_ble_eq_true rfl)) (f_lt (o := 156) (m := 166) (Nat.le_of_ble_eq_true rfl) hN) rfl fun v9 => ?_
      refine i_if2 (pc' := 54) (nx := 50) c2_ne (f_at inc_143 (j := 29) rfl) ⟨by decide, rfl⟩ (fun b10 => ?_) (fun b10 => ?_)
      · refine i_iconst (pc' := 55) (f_at inc_143 (j := 32) rfl) ci_0 rfl ?_
        exact hj5 false ()
      · refine i_iconst (pc' := 51) (f_at inc_143 (j := 30) rfl) ci_1 rfl ?_
        refine i_goto (pc' := 55) (f_at inc_143 (j := 31) rfl) (by decide) ?_
        exact hj5 true ()
set_option maxRecDepth 4000 in
def g_144 (a1 : Int32) (σ : f_M) : Option (Bool) :=
  (f_lp (fun (s1 : Int32) =>
   (f_rd σ 156 2420 (4 : Int32)).bind fun v2 =>
   if v2 ≤ s1 then (
    some (.inr false)
   ) else (
    (g_119 s1 σ).bind fun t3 =>
    (f_rd σ 156 2420 (t3 + (9 : Int32))).bind fun v4 =>
    if ¬ v4 = (1 : Int32) then (
     some (.inl (s1 + (1 : Int32)))
    ) else (
     (g_143 a1 s1 σ).bind fun t5 =>
     if t5 = false then (
      some (.inl (s1 + (1 : Int32)))
     ) else (
      some (.inr true)
     )
    )
   )
  ) f_F (0 : Int32)).bind fun (r1 : Bool) => some r1
set_option maxRecDepth 4000 in
theorem G_144 {xs : Nat → Int32} {L N : Nat} (hN : 166 ≤ N) (a1 : Int32)  (σ : f_M) : f_Cal a_MT xs L N 144 [.ref 155, .int a1] σ ((g_144 a1 σ).bind fun t => some (e_pb σ t)) := by
  refine f_cal_of (ls := [.ref 155, .int a1, a_dead]) MT_144 (Nat.le_of_ble_eq_true rfl) rfl ?_
  unfold g_144
  refine i_iconst (pc' := 1) (f_at inc_144 (j := 0) rfl) ci_0 rfl ?_
  refine i_istore_n (pc' := 2) (ls' := [.ref 155, .int a1, .int (0 : Int32)]) (f_at inc_144 (j := 1) rfl) (Nat.le_of_ble_eq_true rfl) rfl rfl ?_
  refine s_lR (0 : Int32) () (fun (s1 : Int32) (u1 : Unit) => [.ref 155, .int a1, .int s1]) (fun (s1 : Int32) => σ) ?_
  intro s1 u1 k1 hb1 hr1
  refine i_iload_n (pc' := 3) (f_at inc_144 (j := 2) rfl) rfl rfl ?_
  refine i_aload_n (pc' := 4) (f_at inc_144 (j := 3) rfl) rfl rfl ?_
  refine i_getR (pc' := 7) (f_at inc_144 (j := 4) rfl) sh_155 rfl (f_lt (o := 155) (m := 166) (Nat.le_of_ble_eq_true rfl) hN) rfl ?_
  refine i_iconst (pc' := 8) (f_at inc_144 (j := 5) rfl) ci_4 rfl ?_
  refine i_iald (pc' := 9) (f_at inc_144 (j := 6) rfl) sh_156 (f_bg (Nat.le_of_ble_eq_true rfl)) (f_lt (o := 156) (m := 166) (Nat.le_of_ble_eq_true rfl) hN) rfl fun v2 => ?_
  refine i_if2 (pc' := 45) (nx := 12) c2_ge (f_at inc_144 (j := 7) rfl) ⟨by decide, rfl⟩ (fun b8 => ?_) (fun b8 => ?_)
  · refine i_iconst (pc' := 46) (f_at inc_144 (j := 26) rfl) ci_0 rfl ?_
    refine s_rt (hr1 _) ?_
    exact i_iret (v := f_b false) (f_at inc_144 (j := 27) rfl) rfl n_bool
  · refine i_aload_n (pc' := 13) (f_at inc_144 (j := 8) rfl) rfl rfl ?_
    refine i_getR (pc' := 16) (f_at inc_144 (j := 9) rfl) sh_155 rfl (f_lt (o := 155) (m := 166) (Nat.le_of_ble_eq_true rfl) hN) rfl ?_
    refine i_iload_n (pc' := 17) (f_at inc_144 (j := 10) rfl) rfl rfl ?_
    refine c_pi (pc' := 20) (c' := 0) (n' := 0) (h_stat (ra := [.int s1]) (r := [.ref 156]) (as := [.int s1]) (f_at inc_144 (j := 11) rfl) (by decide) MT_119 rfl rfl rfl ⟨Nat.le_of_ble_eq_true rfl, Nat.le_of_ble_eq_true rfl, Nat.le_of_ble_eq_true rfl⟩) MT_119 (G_119 hN s1 σ) ⟨rfl, rfl, rfl⟩ fun t3 => ?_
    refine i_bipush (pc' := 22) (f_at inc_144 (j := 12) rfl) cb_9 rfl ?_
    refine i_iadd (pc' := 23) (f_at inc_144 (j := 13) rfl) rfl ?_
    refine i_iald (pc' := 24) (f_at inc_144 (j := 14) rfl) sh_156 (f_bg (Nat.le_of_ble_eq_true rfl)) (f_lt (o := 156) (m := 166) (Nat.le_of_ble_eq_true rfl) hN) rfl fun v4 => ?_
    refine i_iconst (pc' := 25) (f_at inc_144 (j := 15) rfl) ci_1 rfl ?_
    refine i_if2 (pc' := 39) (nx := 28) c2_ne (f_at inc_144 (j := 16) rfl) ⟨by decide, rfl⟩ (fun b7 => ?_) (fun b7 => ?_)
    · refine i_iinc (pc' := 42) (ls' := [.ref 155, .int a1, .int (s1 + (1 : Int32))]) (f_at inc_144 (j := 24) rfl) rfl ci_1 rfl rfl ?_
      refine i_goto (pc' := 2) (f_at inc_144 (j := 25) rfl) (by decide) ?_
      exact hb1 (s1 + (1 : Int32)) ()
    · refine i_aload_n (pc' := 29) (f_at inc_144 (j := 17) rfl) rfl rfl ?_
      refine i_iload_n (pc' := 30) (f_at inc_144 (j := 18) rfl) rfl rfl ?_
      refine i_iload_n (pc' := 31) (f_at inc_144 (j := 19) rfl) rfl rfl ?_
      refine c_pb (pc' := 34) (c' := 0) (n' := 0) (h_virt (ra := [.int s1, .int a1, .ref 155]) (r := []) (as := [.int a1, .int s1]) (f_at inc_144 (j := 20) rfl) (by decide) MT_143 rfl rfl rfl ⟨Nat.le_of_ble_eq_true rfl, Nat.le_of_ble_eq_true rfl, Nat.le_of_ble_eq_true rfl⟩ sh_155 (f_lt (o := 155) (m := 166) (Nat.le_of_ble_eq_true rfl) hN)) MT_143 (G_143 hN a1 s1 σ) ⟨rfl, rfl, rfl⟩ fun t5 => ?_
      refine i_if0 (pc' := 39) (nx := 37) cb_eq (f_at inc_144 (j := 21) rfl) ⟨by decide, rfl⟩ (fun b6 => ?_) (fun b6 => ?_)
      · refine i_iinc (pc' := 42) (ls' := [.ref 155, .int a1, .int (s1 + (1 : Int32))]) (f_at inc_144 (j := 24) rfl) rfl ci_1 rfl rfl ?_
        refine i_goto (pc' := 2) (f_at inc_144 (j := 25) rfl) (by decide) ?_
        exact hb1 (s1 + (1 : Int32)) ()
      · refine i_iconst (pc' := 38) (f_at inc_144 (j := 22) rfl) ci_1 rfl ?_
        refine s_rt (hr1 _) ?_
        exact i_iret (v := f_b true) (f_at inc_144 (j := 23) rfl) rfl n_bool
set_option maxRecDepth 4000 in
def g_145 (a1 : Int32) (σ : f_M) : Option (Int32) :=
  (g_120 a1 σ).bind fun t1 =>
  if t1 = false then (
   (f_rd σ 156 2420 (0 : Int32)).bind fun v2 =>
   (g_121 a1 σ).bind fun t3 =>
   if t3 ≤ v2 then (
    (f_rd σ 156 2420 (0 : Int32)).bind fun v4 =>
    (g_121 a1 σ).bind fun t5 =>
    if v4 ≤ (t5 + (72 : Int32)) then (
     (g_119 a1 σ).bind fun t6 =>
     (f_rd σ 156 2420 (t6 + (9 : Int32))).bind fun v7 =>
     if ¬ v7 = (1 : Int32) then (
      (g_144 a1 σ).bind fun t8 =>
      (
       if t8 = false then (
        some (0 : Int32)
       ) else (
        some (5 : Int32)
       )
      ).bind fun (t9 : Int32) =>
      some t9
     ) else (
      some (4 : Int32)
     )
    ) else (
     some (3 : Int32)
    )
   ) else (
    some (2 : Int32)
   )
  ) else (
   some (1 : Int32)
  )
set_option maxRecDepth 4000 in
theorem G_145 {xs : Nat → Int32} {L N : Nat} (hN : 166 ≤ N) (a1 : Int32)  (σ : f_M) : f_Cal a_MT xs L N 145 [.ref 155, .int a1] σ ((g_145 a1 σ).bind fun t => some (e_pi σ t)) := by
  refine f_cal_of (ls := [.ref 155, .int a1]) MT_145 (Nat.le_of_ble_eq_true rfl) rfl ?_
  unfold g_145
  refine i_aload_n (pc' := 1) (f_at inc_145 (j := 0) rfl) rfl rfl ?_
  refine i_iload_n (pc' := 2) (f_at inc_145 (j := 1) rfl) rfl rfl ?_
  refine c_pb (pc' := 5) (c' := 0) (n' := 0) (h_virt (ra := [.int a1, .ref 155]) (r := []) (as := [.int a1]) (f_at inc_145 (j := 2) rfl) (by decide) MT_120 rfl rfl rfl ⟨Nat.le_of_ble_eq_true rfl, Nat.le_of_ble_eq_true rfl, Nat.le_of_ble_eq_true rfl⟩ sh_155 (f_lt (o := 155) (m := 166) (Nat.le_of_ble_eq_true rfl) hN)) MT_120 (G_120 hN a1 σ) ⟨rfl, rfl, rfl⟩ fun t1 => ?_
  refine i_if0 (pc' := 10) (nx := 8) cb_eq (f_at inc_145 (j := 3) rfl) ⟨by decide, rfl⟩ (fun b14 => ?_) (fun b14 => ?_)
  · refine i_aload_n (pc' := 11) (f_at inc_145 (j := 6) rfl) rfl rfl ?_
    refine i_getR (pc' := 14) (f_at inc_145 (j := 7) rfl) sh_155 rfl (f_lt (o := 155) (m := 166) (Nat.le_of_ble_eq_true rfl) hN) rfl ?_
    refine i_iconst (pc' := 15) (f_at inc_145 (j := 8) rfl) ci_0 rfl ?_
    refine i_iald (pc' := 16) (f_at inc_145 (j := 9) rfl) sh_156 (f_bg (Nat.le_of_ble_eq_true rfl)) (f_lt (o := 156) (m := 166) (Nat.le_of_ble_eq_true rfl) hN) rfl fun v2 => ?_
    refine i_aload_n (pc' := 17) (f_at inc_145 (j := 10) rfl) rfl rfl ?_
    refine i_iload_n (pc' := 18) (f_at inc_145 (j := 11) rfl) rfl rfl ?_
    refine c_pi (pc' := 21) (c' := 0) (n' := 0) (h_virt (ra := [.int a1, .ref 155]) (r := [.int v2]) (as := [.int a1]) (f_at inc_145 (j := 12) rfl) (by decide) MT_121 rfl rfl rfl ⟨Nat.le_of_ble_eq_true rfl, Nat.le_of_ble_eq_true rfl, Nat.le_of_ble_eq_true rfl⟩ sh_155 (f_lt (o := 155) (m := 166) (Nat.le_of_ble_eq_true rfl) hN)) MT_121 (G_121 hN a1 σ) ⟨rfl, rfl, rfl⟩ fun t3 => ?_
    refine i_if2 (pc' := 26) (nx := 24) c2_ge (f_at inc_145 (j := 13) rfl) ⟨by decide, rfl⟩ (fun b13 => ?_) (fun b13 => ?_)
    · refine i_aload_n (pc' := 27) (f_at inc_145 (j := 16) rfl) rfl rfl ?_
      refine i_getR (pc' := 30) (f_at inc_145 (j := 17) rfl) sh_155 rfl (f_lt (o := 155) (m := 166) (Nat.le_of_ble_eq_true rfl) hN) rfl ?_
      refine i_iconst (pc' := 31) (f_at inc_145 (j := 18) rfl) ci_0 rfl ?_
      refine i_iald (pc' := 32) (f_at inc_145 (j := 19) rfl) sh_156 (f_bg (Nat.le_of_ble_eq_true rfl)) (f_lt (o := 156) (m := 166) (Nat.le_of_ble_eq_true rfl) hN) rfl fun v4 => ?_
      refine i_aload_n (pc' := 33) (f_at inc_145 (j := 20) rfl) rfl rfl ?_
      refine i_iload_n (pc' := 34) (f_at inc_145 (j := 21) rfl) rfl rfl ?_
      refine c_pi (pc' := 37) (c' := 0) (n' := 0) (h_virt (ra := [.int a1, .ref 155]) (r := [.int v4]) (as := [.int a1]) (f_at inc_145 (j := 22) rfl) (by decide) MT_121 rfl rfl rfl ⟨Nat.le_of_ble_eq_true rfl, Nat.le_of_ble_eq_true rfl, Nat.le_of_ble_eq_true rfl⟩ sh_155 (f_lt (o := 155) (m := 166) (Nat.le_of_ble_eq_true rfl) hN)) MT_121 (G_121 hN a1 σ) ⟨rfl, rfl, rfl⟩ fun t5 => ?_
      refine i_bipush (pc' := 39) (f_at inc_145 (j := 23) rfl) cb_72 rfl ?_
      refine i_iadd (pc' := 40) (f_at inc_145 (j := 24) rfl) rfl ?_
      refine i_if2 (pc' := 45) (nx := 43) c2_le (f_at inc_145 (j := 25) rfl) ⟨by decide, rfl⟩ (fun b12 => ?_) (fun b12 => ?_)
      · refine i_aload_n (pc' := 46) (f_at inc_145 (j := 28) rfl) rfl rfl ?_
        refine i_getR (pc' := 49) (f_at inc_145 (j := 29) rfl) sh_155 rfl (f_lt (o := 155) (m := 166) (Nat.le_of_ble_eq_true rfl) hN) rfl ?_
        refine i_iload_n (pc' := 50) (f_at inc_145 (j := 30) rfl) rfl rfl ?_
        refine c_pi (pc' := 53) (c' := 0) (n' := 0) (h_stat (ra := [.int a1]) (r := [.ref 156]) (as := [.int a1]) (f_at inc_145 (j := 31) rfl) (by decide) MT_119 rfl rfl rfl ⟨Nat.le_of_ble_eq_true rfl, Nat.le_of_ble_eq_true rfl, Nat.le_of_ble_eq_true rfl⟩) MT_119 (G_119 hN a1 σ) ⟨rfl, rfl, rfl⟩ fun t6 => ?_
        refine i_bipush (pc' := 55) (f_at inc_145 (j := 32) rfl) cb_9 rfl ?_
        refine i_iadd (pc' := 56) (f_at inc_145 (j := 33) rfl) rfl ?_
        refine i_iald (pc' := 57) (f_at inc_145 (j := 34) rfl) sh_156 (f_bg (Nat.le_of_ble_eq_true rfl)) (f_lt (o := 156) (m := 166) (Nat.le_of_ble_eq_true rfl) hN) rfl fun v7 => ?_
        refine i_iconst (pc' := 58) (f_at inc_145 (j := 35) rfl) ci_1 rfl ?_
        refine i_if2 (pc' := 63) (nx := 61) c2_ne (f_at inc_145 (j := 36) rfl) ⟨by decide, rfl⟩ (fun b11 => ?_) (fun b11 => ?_)
        · refine i_aload_n (pc' := 64) (f_at inc_145 (j := 39) rfl) rfl rfl ?_
          refine i_iload_n (pc' := 65) (f_at inc_145 (j := 40) rfl) rfl rfl ?_
          refine c_pb (pc' := 68) (c' := 0) (n' := 0) (h_virt (ra := [.int a1, .ref 155]) (r := []) (as := [.int a1]) (f_at inc_145 (j := 41) rfl) (by decide) MT_144 rfl rfl rfl ⟨Nat.le_of_ble_eq_true rfl, Nat.le_of_ble_eq_true rfl, Nat.le_of_ble_eq_true rfl⟩ sh_155 (f_lt (o := 155) (m := 166) (Nat.le_of_ble_eq_true rfl) hN)) MT_144 (G_144 hN a1 σ) ⟨rfl, rfl, rfl⟩ fun t8 => ?_
          refine s_join (J := 76) (fun (t9 : Int32) (u9 : Unit) => [.ref 155, .int a1]) (fun t9 => [.int t9]) (fun t9 => σ) ?_ ?_
          · intro t9 u9
            exact i_iret (f_at inc_145 (j := 46) rfl) rfl n_int
          · intro k9 hj9
            refine i_if0 (pc' := 75) (nx := 71) cb_eq (f_at inc_145 (j := 42) rfl) ⟨by decide, rfl⟩ (fun b10 => ?_) (fun b10 => ?_)
            · refine i_iconst (pc' := 76) (f_at inc_145 (j := 45) rfl) ci_0 rfl ?_
              exact hj9 (0 : Int32) ()
            · refine i_iconst (pc' := 72) (f_at inc_145 (j := 43) rfl) ci_5 rfl ?_
              refine i_goto (pc' := 76) (f_at inc_145 (j := 44) rfl) (by decide) ?_
              exact hj9 (5 : Int32) ()
        · refine i_iconst (pc' := 62) (f_at inc_145 (j := 37) rfl) ci_4 rfl ?_
          exact i_iret (f_at inc_145 (j := 38) rfl) rfl n_int
      · refine i_iconst (pc' := 44) (f_at inc_145 (j := 26) rfl) ci_3 rfl ?_
        exact i_iret (f_at inc_145 (j := 27) rfl) rfl n_int
    · refine i_iconst (pc' := 25) (f_at inc_145 (j := 14) rfl) ci_2 rfl ?_
      exact i_iret (f_at inc_145 (j := 15) rfl) rfl n_int
  · refine i_iconst (pc' := 9) (f_at inc_145 (j := 4) rfl) ci_1 rfl ?_
    exact i_iret (f_at inc_145 (j := 5) rfl) rfl n_int
set_option maxRecDepth 4000 in
def g_146 (a1 : Int32) (σ : f_M) : Option (Int32) :=
  (f_lp (fun (s1 : Int32 × Int32) =>
   (f_rd σ 156 2420 (5 : Int32)).bind fun v2 =>
   if v2 ≤ s1.2 then (
    some (.inr s1.1)
   ) else (
    (g_127 s1.2 a1 σ).bind fun t3 =>
    (g_131 t3 σ).bind fun t4 =>
    some (.inl ((s1.1 + t4), (s1.2 + (1 : Int32))))
   )
  ) f_F ((0 : Int32), (0 : Int32))).bind fun (x1 : Int32) =>
  some x1
set_option maxRecDepth 4000 in
theorem G_146 {xs : Nat → Int32} {L N : Nat} (hN : 166 ≤ N) (a1 : Int32)  (σ : f_M) : f_Cal a_MT xs L N 146 [.ref 155, .int a1] σ ((g_146 a1 σ).bind fun t => some (e_pi σ t)) := by
  refine f_cal_of (ls := [.ref 155, .int a1, a_dead, a_dead]) MT_146 (Nat.le_of_ble_eq_true rfl) rfl ?_
  unfold g_146
  refine i_iconst (pc' := 1) (f_at inc_146 (j := 0) rfl) ci_0 rfl ?_
  refine i_istore_n (pc' := 2) (ls' := [.ref 155, .int a1, .int (0 : Int32), a_dead]) (f_at inc_146 (j := 1) rfl) (Nat.le_of_ble_eq_true rfl) rfl rfl ?_
  refine i_iconst (pc' := 3) (f_at inc_146 (j := 2) rfl) ci_0 rfl ?_
  refine i_istore_n (pc' := 4) (ls' := [.ref 155, .int a1, .int (0 : Int32), .int (0 : Int32)]) (f_at inc_146 (j := 3) rfl) (Nat.le_of_ble_eq_true rfl) rfl rfl ?_
  refine s_lX (X := 32) ((0 : Int32), (0 : Int32)) () (fun (s1 : Int32 × Int32) (u1 : Unit) => [.ref 155, .int a1, .int s1.1, .int s1.2]) (fun (s1 : Int32 × Int32) => σ) (fun (x1 : Int32) (w1 : Value) => [.ref 155, .int a1, .int x1, w1]) (fun (x1 : Int32) => σ) ?_ ?_
  · intro x1 w1
    refine i_iload_n (pc' := 33) (f_at inc_146 (j := 20) rfl) rfl rfl ?_
    exact i_iret (f_at inc_146 (j := 21) rfl) rfl n_int
  · intro s1 u1 k1 hb1 hx1
    refine i_iload_n (pc' := 5) (f_at inc_146 (j := 4) rfl) rfl rfl ?_
    refine i_aload_n (pc' := 6) (f_at inc_146 (j := 5) rfl) rfl rfl ?_
    refine i_getR (pc' := 9) (f_at inc_146 (j := 6) rfl) sh_155 rfl (f_lt (o := 155) (m := 166) (Nat.le_of_ble_eq_true rfl) hN) rfl ?_
    refine i_iconst (pc' := 10) (f_at inc_146 (j := 7) rfl) ci_5 rfl ?_
    refine i_iald (pc' := 11) (f_at inc_146 (j := 8) rfl) sh_156 (f_bg (Nat.le_of_ble_eq_true rfl)) (f_lt (o := 156) (m := 166) (Nat.le_of_ble_eq_true rfl) hN) rfl fun v2 => ?_
    refine i_if2 (pc' := 32) (nx := 14) c2_ge (f_at inc_146 (j := 9) rfl) ⟨by decide, rfl⟩ (fun b5 => ?_) (fun b5 => ?_)
    · exact hx1 s1.1 (.int s1.2)
    · refine i_iload_n (pc' := 15) (f_at inc_146 (j := 10) rfl) rfl rfl ?_
      refine i_aload_n (pc' := 16) (f_at inc_146 (j := 11) rfl) rfl rfl ?_
      refine i_iload_n (pc' := 17) (f_at inc_146 (j := 12) rfl) rfl rfl ?_
      refine i_iload_n (pc' := 18) (f_at inc_146 (j := 13) rfl) rfl rfl ?_
      refine c_pb (pc' := 21) (c' := 0) (n' := 0) (h_virt (ra := [.int a1, .int s1.2, .ref 155]) (r := [.int s1.1]) (as := [.int s1.2, .int a1]) (f_at inc_146 (j := 14) rfl) (by decide) MT_127 rfl rfl rfl ⟨Nat.le_of_ble_eq_true rfl, Nat.le_of_ble_eq_true rfl, Nat.le_of_ble_eq_true rfl⟩ sh_155 (f_lt (o := 155) (m := 166) (Nat.le_of_ble_eq_true rfl) hN)) MT_127 (G_127 hN s1.2 a1 σ) ⟨rfl, rfl, rfl⟩ fun t3 => ?_
      refine c_pi (pc' := 24) (c' := 0) (n' := 0) (h_stat (ra := [.int (f_b t3)]) (r := [.int s1.1]) (as := [.int (f_b t3)]) (f_at inc_146 (j := 15) rfl) (by decide) MT_131 rfl rfl rfl ⟨Nat.le_of_ble_eq_true rfl, Nat.le_of_ble_eq_true rfl, Nat.le_of_ble_eq_true rfl⟩) MT_131 (G_131 hN t3 σ) ⟨rfl, rfl, rfl⟩ fun t4 => ?_
      refine i_iadd (pc' := 25) (f_at inc_146 (j := 16) rfl) rfl ?_
      refine i_istore_n (pc' := 26) (ls' := [.ref 155, .int a1, .int (s1.1 + t4), .int s1.2]) (f_at inc_146 (j := 17) rfl) (Nat.le_of_ble_eq_true rfl) rfl rfl ?_
      refine i_iinc (pc' := 29) (ls' := [.ref 155, .int a1, .int (s1.1 + t4), .int (s1.2 + (1 : Int32))]) (f_at inc_146 (j := 18) rfl) rfl ci_1 rfl rfl ?_
      refine i_goto (pc' := 4) (f_at inc_146 (j := 19) rfl) (by decide) ?_
      exact hb1 ((s1.1 + t4), (s1.2 + (1 : Int32))) ()
set_option maxRecDepth 4000 in
def g_147  (σ : f_M) : Option (Int32) :=
  (f_lp (fun (s1 : Int32 × Int32) =>
   (f_rd σ 156 2420 (3 : Int32)).bind fun v2 =>
   if v2 ≤ s1.2 then (
    some (.inr s1.1)
   ) else (
    (g_146 s1.2 σ).bind fun t3 =>
    (g_146 s1.1 σ).bind fun t4 =>
    (
     if t4 ≤ t3 then (
      some s1.1
     ) else (
      some s1.2
     )
    ).bind fun (t5 : Int32) =>
    some (.inl (t5, (s1.2 + (1 : Int32))))
   )
  ) f_F ((0 : Int32), (1 : Int32))).bind fun (x1 : Int32) =>
  some x1
set_option maxRecDepth 4000 in
theorem G_147 {xs : Nat → Int32} {L N : Nat} (hN : 166 ≤ N)   (σ : f_M) : f_Cal a_MT xs L N 147 [.ref 155] σ ((g_147  σ).bind fun t => some (e_pi σ t)) := by
  refine f_cal_of (ls := [.ref 155, a_dead, a_dead]) MT_147 (Nat.le_of_ble_eq_true rfl) rfl ?_
  unfold g_147
  refine i_iconst (pc' := 1) (f_at inc_147 (j := 0) rfl) ci_0 rfl ?_
  refine i_istore_n (pc' := 2) (ls' := [.ref 155, .int (0 : Int32), a_dead]) (f_at inc_147 (j := 1) rfl) (Nat.le_of_ble_eq_true rfl) rfl rfl ?_
  refine i_iconst (pc' := 3) (f_at inc_147 (j := 2) rfl) ci_1 rfl ?_
  refine i_istore_n (pc' := 4) (ls' := [.ref 155, .int (0 : Int32), .int (1 : Int32)]) (f_at inc_147 (j := 3) rfl) (Nat.le_of_ble_eq_true rfl) rfl rfl ?_
  refine s_lX (X := 35) ((0 : Int32), (1 : Int32)) () (fun (s1 : Int32 × Int32) (u1 : Unit) => [.ref 155, .int s1.1, .int s1.2]) (fun (s1 : Int32 × Int32) => σ) (fun (x1 : Int32) (w1 : Value) => [.ref 155, .int x1, w1]) (fun (x1 : Int32) => σ) ?_ ?_
  · intro x1 w1
    refine i_iload_n (pc' := 36) (f_at inc_147 (j := 21) rfl) rfl rfl ?_
    exact i_iret (f_at inc_147 (j := 22) rfl) rfl n_int
  · intro s1 u1 k1 hb1 hx1
    refine i_iload_n (pc' := 5) (f_at inc_147 (j := 4) rfl) rfl rfl ?_
    refine i_aload_n (pc' := 6) (f_at inc_147 (j := 5) rfl) rfl rfl ?_
    refine i_getR (pc' := 9) (f_at inc_147 (j := 6) rfl) sh_155 rfl (f_lt (o := 155) (m := 166) (Nat.le_of_ble_eq_true rfl) hN) rfl ?_
    refine i_iconst (pc' := 10) (f_at inc_147 (j := 7) rfl) ci_3 rfl ?_
    refine i_iald (pc' := 11) (f_at inc_147 (j := 8) rfl) sh_156 (f_bg (Nat.le_of_ble_eq_true rfl)) (f_lt (o := 156) (m := 166) (Nat.le_of_ble_eq_true rfl) hN) rfl fun v2 => ?_
    refine i_if2 (pc' := 35) (nx := 14) c2_ge (f_at inc_147 (j := 9) rfl) ⟨by decide, rfl⟩ (fun b7 => ?_) (fun b7 => ?_)
    · exact hx1 s1.1 (.int s1.2)
    · refine i_aload_n (pc' := 15) (f_at inc_147 (j := 10) rfl) rfl rfl ?_
      refine i_iload_n (pc' := 16) (f_at inc_147 (j := 11) rfl) rfl rfl ?_
      refine c_pi (pc' := 19) (c' := 0) (n' := 0) (h_virt (ra := [.int s1.2, .ref 155]) (r := []) (as := [.int s1.2]) (f_at inc_147 (j := 12) rfl) (by decide) MT_146 rfl rfl rfl ⟨Nat.le_of_ble_eq_true rfl, Nat.le_of_ble_eq_true rfl, Nat.le_of_ble_eq_true rfl⟩ sh_155 (f_lt (o := 155) (m := 166) (Nat.le_of_ble_eq_true rfl) hN)) MT_146 (G_146 hN s1.2 σ) ⟨rfl, rfl, rfl⟩ fun t3 => ?_
      refine i_aload_n (pc' := 20) (f_at inc_147 (j := 13) rfl) rfl rfl ?_
      refine i_iload_n (pc' := 21) (f_at inc_147 (j := 14) rfl) rfl rfl ?_
      refine c_pi (pc' := 24) (c' := 0) (n' := 0) (h_virt (ra := [.int s1.1, .ref 155]) (r := [.int t3]) (as := [.int s1.1]) (f_at inc_147 (j := 15) rfl) (by decide) MT_146 rfl rfl rfl ⟨Nat.le_of_ble_eq_true rfl, Nat.le_of_ble_eq_true rfl, Nat.le_of_ble_eq_true rfl⟩ sh_155 (f_lt (o := 155) (m := 166) (Nat.le_of_ble_eq_true rfl) hN)) MT_146 (G_146 hN s1.1 σ) ⟨rfl, rfl, rfl⟩ fun t4 => ?_
      refine s_join (J := 29) (fun (t5 : Int32) (u5 : Unit) => [.ref 155, .int t5, .int s1.2]) (fun t5 => []) (fun t5 => σ) ?_ ?_
      · intro t5 u5
        refine i_iinc (pc' := 32) (ls' := [.ref 155, .int t5, .int (s1.2 + (1 : Int32))]) (f_at inc_147 (j := 19) rfl) rfl ci_1 rfl rfl ?_
        refine i_goto (pc' := 4) (f_at inc_147 (j := 20) rfl) (by decide) ?_
        exact hb1 (t5, (s1.2 + (1 : Int32))) ()
      · intro k5 hj5
        refine i_if2 (pc' := 29) (nx := 27) c2_ge (f_at inc_147 (j := 16) rfl) ⟨by decide, rfl⟩ (fun b6 => ?_) (fun b6 => ?_)
        · exact hj5 s1.1 ()
        · refine i_iload_n (pc' := 28) (f_at inc_147 (j := 17) rfl) rfl rfl ?_
          refine i_istore_n (pc' := 29) (ls' := [.ref 155, .int s1.2, .int s1.2]) (f_at inc_147 (j := 18) rfl) (Nat.le_of_ble_eq_true rfl) rfl rfl ?_
          exact hj5 s1.2 ()
set_option maxRecDepth 4000 in
def g_148 (a1 : Int32) (σ : f_M) : Option (Int32 × f_M) :=
  (f_rd σ 156 2420 (5 : Int32)).bind fun v1 =>
  (g_147  σ).bind fun t2 =>
  (f_lp (fun (s3 : Int32 × f_M) =>
   if (6 : Int32) ≤ s3.1 then (
    some (.inr s3.2)
   ) else (
    (g_126 v1 s3.2).bind fun t4 =>
    (f_wr s3.2 156 2420 (t4 + s3.1) (0 : Int32)).bind fun m5 =>
    some (.inl ((s3.1 + (1 : Int32)), m5))
   )
  ) f_F ((0 : Int32), σ)).bind fun (x3 : f_M) =>
  (g_126 v1 x3).bind fun t7 =>
  (f_wr x3 156 2420 (t7 + (0 : Int32)) a1).bind fun m8 =>
  (g_126 v1 m8).bind fun t9 =>
  (f_wr m8 156 2420 (t9 + (1 : Int32)) t2).bind fun m10 =>
  (g_119 a1 m10).bind fun t11 =>
  (f_wr m10 156 2420 (t11 + (9 : Int32)) (1 : Int32)).bind fun m12 =>
  (f_rd m12 156 2420 (5 : Int32)).bind fun v13 =>
  (f_wr m12 156 2420 (5 : Int32) (v13 + (1 : Int32))).bind fun m14 =>
  some (v1, m14)
set_option maxRecDepth 4000 in
theorem G_148 {xs : Nat → Int32} {L N : Nat} (hN : 166 ≤ N) (a1 : Int32)  (σ : f_M) : f_Cal a_MT xs L N 148 [.ref 155, .int a1] σ ((g_148 a1 σ).bind fun t => some (e_wi t)) := by
  refine f_cal_of (ls := [.ref 155, .int a1, a_dead, a_dead, a_dead]) MT_148 (Nat.le_of_ble_eq_true rfl) rfl ?_
  unfold g_148
  refine i_aload_n (pc' := 1) (f_at inc_148 (j := 0) rfl) rfl rfl ?_
  refine i_getR (pc' := 4) (f_at inc_148 (j := 1) rfl) sh_155 rfl (f_lt (o := 155) (m := 166) (Nat.le_of_ble_eq_true rfl) hN) rfl ?_
  refine i_iconst (pc' := 5) (f_at inc_148 (j := 2) rfl) ci_5 rfl ?_
  refine i_iald (pc' := 6) (f_at inc_148 (j := 3) rfl) sh_156 (f_bg (Nat.le_of_ble_eq_true rfl)) (f_lt (o := 156) (m := 166) (Nat.le_of_ble_eq_true rfl) hN) rfl fun v1 => ?_
  refine i_istore_n (pc' := 7) (ls' := [.ref 155, .int a1, .int v1, a_dead, a_dead]) (f_at inc_148 (j := 4) rfl) (Nat.le_of_ble_eq_true rfl) rfl rfl ?_
  refine i_aload_n (pc' := 8) (f_at inc_148 (j := 5) rfl) rfl rfl ?_
  refine c_pi (pc' := 11) (c' := 0) (n' := 0) (h_virt (ra := [.ref 155]) (r := []) (as := []) (f_at inc_148 (j := 6) rfl) (by decide) MT_147 rfl rfl rfl ⟨Nat.le_of_ble_eq_true rfl, Nat.le_of_ble_eq_true rfl, Nat.le_of_ble_eq_true rfl⟩ sh_155 (f_lt (o := 155) (m := 166) (Nat.le_of_ble_eq_true rfl) hN)) MT_147 (G_147 hN  σ) ⟨rfl, rfl, rfl⟩ fun t2 => ?_
  refine i_istore_n (pc' := 12) (ls' := [.ref 155, .int a1, .int v1, .int t2, a_dead]) (f_at inc_148 (j := 7) rfl) (Nat.le_of_ble_eq_true rfl) rfl rfl ?_
  refine i_iconst (pc' := 13) (f_at inc_148 (j := 8) rfl) ci_0 rfl ?_
  refine i_istore (pc' := 15) (ls' := [.ref 155, .int a1, .int v1, .int t2, .int (0 : Int32)]) (f_at inc_148 (j := 9) rfl) (Nat.le_of_ble_eq_true rfl) rfl rfl ?_
  refine s_lX (X := 41) ((0 : Int32), σ) () (fun (s3 : Int32 × f_M) (u3 : Unit) => [.ref 155, .int a1, .int v1, .int t2, .int s3.1]) (fun (s3 : Int32 × f_M) => s3.2) (fun (x3 : f_M) (w3 : Value) => [.ref 155, .int a1, .int v1, .int t2, w3]) (fun (x3 : f_M) => x3) ?_ ?_
  · intro x3 w3
    refine i_aload_n (pc' := 42) (f_at inc_148 (j := 23) rfl) rfl rfl ?_
    refine i_getR (pc' := 45) (f_at inc_148 (j := 24) rfl) sh_155 rfl (f_lt (o := 155) (m := 166) (Nat.le_of_ble_eq_true rfl) hN) rfl ?_
    refine i_iload_n (pc' := 46) (f_at inc_148 (j := 25) rfl) rfl rfl ?_
    refine c_pi (pc' := 49) (c' := 0) (n' := 0) (h_stat (ra := [.int v1]) (r := [.ref 156]) (as := [.int v1]) (f_at inc_148 (j := 26) rfl) (by decide) MT_126 rfl rfl rfl ⟨Nat.le_of_ble_eq_true rfl, Nat.le_of_ble_eq_true rfl, Nat.le_of_ble_eq_true rfl⟩) MT_126 (G_126 hN v1 x3) ⟨rfl, rfl, rfl⟩ fun t7 => ?_
    refine i_iconst (pc' := 50) (f_at inc_148 (j := 27) rfl) ci_0 rfl ?_
    refine i_iadd (pc' := 51) (f_at inc_148 (j := 28) rfl) rfl ?_
    refine i_iload_n (pc' := 52) (f_at inc_148 (j := 29) rfl) rfl rfl ?_
    refine i_iast (pc' := 53) (f_at inc_148 (j := 30) rfl) sh_156 (f_lt (o := 156) (m := 166) (Nat.le_of_ble_eq_true rfl) hN) rfl fun m8 => ?_
    refine i_aload_n (pc' := 54) (f_at inc_148 (j := 31) rfl) rfl rfl ?_
    refine i_getR (pc' := 57) (f_at inc_148 (j := 32) rfl) sh_155 rfl (f_lt (o := 155) (m := 166) (Nat.le_of_ble_eq_true rfl) hN) rfl ?_
    refine i_iload_n (pc' := 58) (f_at inc_148 (j := 33) rfl) rfl rfl ?_
    refine c_pi (pc' := 61) (c' := 0) (n' := 0) (h_stat (ra := [.int v1]) (r := [.ref 156]) (as := [.int v1]) (f_at inc_148 (j := 34) rfl) (by decide) MT_126 rfl rfl rfl ⟨Nat.le_of_ble_eq_true rfl, Nat.le_of_ble_eq_true rfl, Nat.le_of_ble_eq_true rfl⟩) MT_126 (G_126 hN v1 m8) ⟨rfl, rfl, rfl⟩ fun t9 => ?_
    refine i_iconst (pc' := 62) (f_at inc_148 (j := 35) rfl) ci_1 rfl ?_
    refine i_iadd (pc' := 63) (f_at inc_148 (j := 36) rfl) rfl ?_
    refine i_iload_n (pc' := 64) (f_at inc_148 (j := 37) rfl) rfl rfl ?_
    refine i_iast (pc' := 65) (f_at inc_148 (j := 38) rfl) sh_156 (f_lt (o := 156) (m := 166) (Nat.le_of_ble_eq_true rfl) hN) rfl fun m10 => ?_
    refine i_aload_n (pc' := 66) (f_at inc_148 (j := 39) rfl) rfl rfl ?_
    refine i_getR (pc' := 69) (f_at inc_148 (j := 40) rfl) sh_155 rfl (f_lt (o := 155) (m := 166) (Nat.le_of_ble_eq_true rfl) hN) rfl ?_
    refine i_iload_n (pc' := 70) (f_at inc_148 (j := 41) rfl) rfl rfl ?_
    refine c_pi (pc' := 73) (c' := 0) (n' := 0) (h_stat (ra := [.int a1]) (r := [.ref 156]) (as := [.int a1]) (f_at inc_148 (j := 42) rfl) (by decide) MT_119 rfl rfl rfl ⟨Nat.le_of_ble_eq_true rfl, Nat.le_of_ble_eq_true rfl, Nat.le_of_ble_eq_true rfl⟩) MT_119 (G_119 hN a1 m10) ⟨rfl, rfl, rfl⟩ fun t11 => ?_
    refine i_bipush (pc' := 75) (f_at inc_148 (j := 43) rfl) cb_9 rfl ?_
    refine i_iadd (pc' := 76) (f_at inc_148 (j := 44) rfl) rfl ?_
    refine i_iconst (pc' := 77) (f_at inc_148 (j := 45) rfl) ci_1 rfl ?_
    refine i_iast (pc' := 78) (f_at inc_148 (j := 46) rfl) sh_156 (f_lt (o := 156) (m := 166) (Nat.le_of_ble_eq_true rfl) hN) rfl fun m12 => ?_
    refine i_aload_n (pc' := 79) (f_at inc_148 (j := 47) rfl) rfl rfl ?_
    refine i_getR (pc' := 82) (f_at inc_148 (j := 48) rfl) sh_155 rfl (f_lt (o := 155) (m := 166) (Nat.le_of_ble_eq_true rfl) hN) rfl ?_
    refine i_iconst (pc' := 83) (f_at inc_148 (j := 49) rfl) ci_5 rfl ?_
    refine i_dup2 (pc' := 84) (f_at inc_148 (j := 50) rfl) ⟨rfl, rfl⟩ rfl ?_
    refine i_iald (pc' := 85) (f_at inc_148 (j := 51) rfl) sh_156 (f_bg (Nat.le_of_ble_eq_true rfl)) (f_lt (o := 156) (m := 166) (Nat.le_of_ble_eq_true rfl) hN) rfl fun v13 => ?_
    refine i_iconst (pc' := 86) (f_at inc_148 (j := 52) rfl) ci_1 rfl ?_
    refine i_iadd (pc' := 87) (f_at inc_148 (j := 53) rfl) rfl ?_
    refine i_iast (pc' := 88) (f_at inc_148 (j := 54) rfl) sh_156 (f_lt (o := 156) (m := 166) (Nat.le_of_ble_eq_true rfl) hN) rfl fun m14 => ?_
    refine i_iload_n (pc' := 89) (f_at inc_148 (j := 55) rfl) rfl rfl ?_
    exact i_iret (f_at inc_148 (j := 56) rfl) rfl n_int
  · intro s3 u3 k3 hb3 hx3
    refine i_iload (pc' := 17) (f_at inc_148 (j := 10) rfl) rfl rfl ?_
    refine i_bipush (pc' := 19) (f_at inc_148 (j := 11) rfl) cb_6 rfl ?_
    refine i_if2 (pc' := 41) (nx := 22) c2_ge (f_at inc_148 (j := 12) rfl) ⟨by decide, rfl⟩ (fun b6 => ?_) (fun b6 => ?_)
    · exact hx3 s3.2 (.int s3.1)
    · refine i_aload_n (pc' := 23) (f_at inc_148 (j := 13) rfl) rfl rfl ?_
      refine i_getR (pc' := 26) (f_at inc_148 (j := 14) rfl) sh_155 rfl (f_lt (o := 155) (m := 166) (Nat.le_of_ble_eq_true rfl) hN) rfl ?_
      refine i_iload_n (pc' := 27) (f_at inc_148 (j := 15) rfl) rfl rfl ?_
      refine c_pi (pc' := 30) (c' := 0) (n' := 0) (h_stat (ra := [.int v1]) (r := [.ref 156]) (as := [.int v1]) (f_at inc_148 (j := 16) rfl) (by decide) MT_126 rfl rfl rfl ⟨Nat.le_of_ble_eq_true rfl, Nat.le_of_ble_eq_true rfl, Nat.le_of_ble_eq_true rfl⟩) MT_126 (G_126 hN v1 s3.2) ⟨rfl, rfl, rfl⟩ fun t4 => ?_
      refine i_iload (pc' := 32) (f_at inc_148 (j := 17) rfl) rfl rfl ?_
      refine i_iadd (pc' := 33) (f_at inc_148 (j := 18) rfl) rfl ?_
      refine i_iconst (pc' := 34) (f_at inc_148 (j := 19) rfl) ci_0 rfl ?_
      refine i_iast (pc' := 35) (f_at inc_148 (j := 20) rfl) sh_156 (f_lt (o := 156) (m := 166) (Nat.le_of_ble_eq_true rfl) hN) rfl fun m5 => ?_
      refine i_iinc (pc' := 38) (ls' := [.ref 155, .int a1, .int v1, .int t2, .int (s3.1 + (1 : Int32))]) (f_at inc_148 (j := 21) rfl) rfl ci_1 rfl rfl ?_
      refine i_goto (pc' := 15) (f_at inc_148 (j := 22) rfl) (by decide) ?_
      exact hb3 ((s3.1 + (1 : Int32)), m5) ()
set_option maxRecDepth 4000 in
def g_149 (a1 : Int32) (a2 : Int32) (σ : f_M) : Option (Int32 × f_M) :=
  (g_36 a1 σ).bind fun t1 =>
  (f_rd σ 156 2420 (t1 + (7 : Int32))).bind fun v2 =>
  (f_wr σ 156 2420 (t1 + (7 : Int32)) (v2 + a2)).bind fun m3 =>
  (f_rd m3 156 2420 (8 : Int32)).bind fun v4 =>
  (f_wr m3 156 2420 (8 : Int32) (v4 + a2)).bind fun m5 =>
  (g_36 a1 m5).bind fun t6 =>
  (f_rd m5 156 2420 (t6 + (7 : Int32))).bind fun v7 =>
  some (v7, m5)
set_option maxRecDepth 4000 in
theorem G_149 {xs : Nat → Int32} {L N : Nat} (hN : 166 ≤ N) (a1 : Int32) (a2 : Int32)  (σ : f_M) : f_Cal a_MT xs L N 149 [.ref 155, .int a1, .int a2] σ ((g_149 a1 a2 σ).bind fun t => some (e_wi t)) := by
  refine f_cal_of (ls := [.ref 155, .int a1, .int a2]) MT_149 (Nat.le_of_ble_eq_true rfl) rfl ?_
  unfold g_149
  refine i_aload_n (pc' := 1) (f_at inc_149 (j := 0) rfl) rfl rfl ?_
  refine i_getR (pc' := 4) (f_at inc_149 (j := 1) rfl) sh_155 rfl (f_lt (o := 155) (m := 166) (Nat.le_of_ble_eq_true rfl) hN) rfl ?_
  refine i_iload_n (pc' := 5) (f_at inc_149 (j := 2) rfl) rfl rfl ?_
  refine c_pi (pc' := 8) (c' := 0) (n' := 0) (h_stat (ra := [.int a1]) (r := [.ref 156]) (as := [.int a1]) (f_at inc_149 (j := 3) rfl) (by decide) MT_36 rfl rfl rfl ⟨Nat.le_of_ble_eq_true rfl, Nat.le_of_ble_eq_true rfl, Nat.le_of_ble_eq_true rfl⟩) MT_36 (G_36 hN a1 σ) ⟨rfl, rfl, rfl⟩ fun t1 => ?_
  refine i_bipush (pc' := 10) (f_at inc_149 (j := 4) rfl) cb_7 rfl ?_
  refine i_iadd (pc' := 11) (f_at inc_149 (j := 5) rfl) rfl ?_
  refine i_dup2 (pc' := 12) (f_at inc_149 (j := 6) rfl) ⟨rfl, rfl⟩ rfl ?_
  refine i_iald (pc' := 13) (f_at inc_149 (j := 7) rfl) sh_156 (f_bg (Nat.le_of_ble_eq_true rfl)) (f_lt (o := 156) (m := 166) (Nat.le_of_ble_eq_true rfl) hN) rfl fun v2 => ?_
  refine i_iload_n (pc' := 14) (f_at inc_149 (j := 8) rfl) rfl rfl ?_
  refine i_iadd (pc' := 15) (f_at inc_149 (j := 9) rfl) rfl ?_
  refine i_iast (pc' := 16) (f_at inc_149 (j := 10) rfl) sh_156 (f_lt (o := 156) (m := 166) (Nat.le_of_ble_eq_true rfl) hN) rfl fun m3 => ?_
  refine i_aload_n (pc' := 17) (f_at inc_149 (j := 11) rfl) rfl rfl ?_
  refine i_getR (pc' := 20) (f_at inc_149 (j := 12) rfl) sh_155 rfl (f_lt (o := 155) (m := 166) (Nat.le_of_ble_eq_true rfl) hN) rfl ?_
  refine i_bipush (pc' := 22) (f_at inc_149 (j := 13) rfl) cb_8 rfl ?_
  refine i_dup2 (pc' := 23) (f_at inc_149 (j := 14) rfl) ⟨rfl, rfl⟩ rfl ?_
  refine i_iald (pc' := 24) (f_at inc_149 (j := 15) rfl) sh_156 (f_bg (Nat.le_of_ble_eq_true rfl)) (f_lt (o := 156) (m := 166) (Nat.le_of_ble_eq_true rfl) hN) rfl fun v4 => ?_
  refine i_iload_n (pc' := 25) (f_at inc_149 (j := 16) rfl) rfl rfl ?_
  refine i_iadd (pc' := 26) (f_at inc_149 (j := 17) rfl) rfl ?_
  refine i_iast (pc' := 27) (f_at inc_149 (j := 18) rfl) sh_156 (f_lt (o := 156) (m := 166) (Nat.le_of_ble_eq_true rfl) hN) rfl fun m5 => ?_
  refine i_aload_n (pc' := 28) (f_at inc_149 (j := 19) rfl) rfl rfl ?_
  refine i_getR (pc' := 31) (f_at inc_149 (j := 20) rfl) sh_155 rfl (f_lt (o := 155) (m := 166) (Nat.le_of_ble_eq_true rfl) hN) rfl ?_
  refine i_iload_n (pc' := 32) (f_at inc_149 (j := 21) rfl) rfl rfl ?_
  refine c_pi (pc' := 35) (c' := 0) (n' := 0) (h_stat (ra := [.int a1]) (r := [.ref 156]) (as := [.int a1]) (f_at inc_149 (j := 22) rfl) (by decide) MT_36 rfl rfl rfl ⟨Nat.le_of_ble_eq_true rfl, Nat.le_of_ble_eq_true rfl, Nat.le_of_ble_eq_true rfl⟩) MT_36 (G_36 hN a1 m5) ⟨rfl, rfl, rfl⟩ fun t6 => ?_
  refine i_bipush (pc' := 37) (f_at inc_149 (j := 23) rfl) cb_7 rfl ?_
  refine i_iadd (pc' := 38) (f_at inc_149 (j := 24) rfl) rfl ?_
  refine i_iald (pc' := 39) (f_at inc_149 (j := 25) rfl) sh_156 (f_bg (Nat.le_of_ble_eq_true rfl)) (f_lt (o := 156) (m := 166) (Nat.le_of_ble_eq_true rfl) hN) rfl fun v7 => ?_
  exact i_iret (f_at inc_149 (j := 26) rfl) rfl n_int
set_option maxRecDepth 4000 in
def g_150 (a0 : Int32) (a1 : Int32) (σ : f_M) : Option (Int32) :=
  some (((a1 * a0) / (40 : Int32)) + (1 : Int32))
set_option maxRecDepth 4000 in
theorem G_150 {xs : Nat → Int32} {L N : Nat} (hN : 166 ≤ N) (a0 : Int32) (a1 : Int32)  (σ : f_M) : f_Cal a_MT xs L N 150 [.int a0, .int a1] σ ((g_150 a0 a1 σ).bind fun t => some (e_pi σ t)) := by
  refine f_cal_of (ls := [.int a0, .int a1]) MT_150 (Nat.le_of_ble_eq_true rfl) rfl ?_
  unfold g_150
  refine i_iload_n (pc' := 1) (f_at inc_150 (j := 0) rfl) rfl rfl ?_
  refine i_iload_n (pc' := 2) (f_at inc_150 (j := 1) rfl) rfl rfl ?_
  refine i_imul (pc' := 3) (f_at inc_150 (j := 2) rfl) rfl ?_
  refine i_bipush (pc' := 5) (f_at inc_150 (j := 3) rfl) cb_40 rfl ?_
  refine i_idiv (pc' := 6) (f_at inc_150 (j := 4) rfl) (by decide) rfl ?_
  refine i_iconst (pc' := 7) (f_at inc_150 (j := 5) rfl) ci_1 rfl ?_
  refine i_iadd (pc' := 8) (f_at inc_150 (j := 6) rfl) rfl ?_
  exact i_iret (f_at inc_150 (j := 7) rfl) rfl n_int
set_option maxRecDepth 4000 in
def g_151 (a0 : Int32) (a1 : Int32) (a2 : Int32) (σ : f_M) : Option (Int32) :=
  if ((20 : Int32) + ((2 : Int32) * a2)) = 0 then none else
  some (((a1 * a0) / ((20 : Int32) + ((2 : Int32) * a2))) + (1 : Int32))
set_option maxRecDepth 4000 in
theorem G_151 {xs : Nat → Int32} {L N : Nat} (hN : 166 ≤ N) (a0 : Int32) (a1 : Int32) (a2 : Int32)  (σ : f_M) : f_Cal a_MT xs L N 151 [.int a0, .int a1, .int a2] σ ((g_151 a0 a1 a2 σ).bind fun t => some (e_pi σ t)) := by
  refine f_cal_of (ls := [.int a0, .int a1, .int a2]) MT_151 (Nat.le_of_ble_eq_true rfl) rfl ?_
  unfold g_151
  refine i_iload_n (pc' := 1) (f_at inc_151 (j := 0) rfl) rfl rfl ?_
  refine i_iload_n (pc' := 2) (f_at inc_151 (j := 1) rfl) rfl rfl ?_
  refine i_imul (pc' := 3) (f_at inc_151 (j := 2) rfl) rfl ?_
  refine i_bipush (pc' := 5) (f_at inc_151 (j := 3) rfl) cb_20 rfl ?_
  refine i_iconst (pc' := 6) (f_at inc_151 (j := 4) rfl) ci_2 rfl ?_
  refine i_iload_n (pc' := 7) (f_at inc_151 (j := 5) rfl) rfl rfl ?_
  refine i_imul (pc' := 8) (f_at inc_151 (j := 6) rfl) rfl ?_
  refine i_iadd (pc' := 9) (f_at inc_151 (j := 7) rfl) rfl ?_
  refine i_grn fun h1 => ?_
  refine i_idiv (pc' := 10) (f_at inc_151 (j := 8) rfl) h1 rfl ?_
  refine i_iconst (pc' := 11) (f_at inc_151 (j := 9) rfl) ci_1 rfl ?_
  refine i_iadd (pc' := 12) (f_at inc_151 (j := 10) rfl) rfl ?_
  exact i_iret (f_at inc_151 (j := 11) rfl) rfl n_int
set_option maxRecDepth 4000 in
def g_152 (a1 : Int32) (a2 : Int32) (σ : f_M) : Option (Bool) :=
  (f_rd σ 156 2420 (4 : Int32)).bind fun v1 =>
  (
   if (20 : Int32) ≤ v1 then (
    some false
   ) else (
    (g_36 a1 σ).bind fun t3 =>
    (f_rd σ 156 2420 (t3 + (7 : Int32))).bind fun v4 =>
    if v4 < a2 then (
     some false
    ) else (
     some true
    )
   )
  ).bind fun (t2 : Bool) =>
  some t2
set_option maxRecDepth 4000 in
theorem G_152 {xs : Nat → Int32} {L N : Nat} (hN : 166 ≤ N) (a1 : Int32) (a2 : Int32)  (σ : f_M) : f_Cal a_MT xs L N 152 [.ref 155, .int a1, .int a2] σ ((g_152 a1 a2 σ).bind fun t => some (e_pb σ t)) := by
  refine f_cal_of (ls := [.ref 155, .int a1, .int a2]) MT_152 (Nat.le_of_ble_eq_true rfl) rfl ?_
  unfold g_152
  refine i_aload_n (pc' := 1) (f_at inc_152 (j := 0) rfl) rfl rfl ?_
  refine i_getR (pc' := 4) (f_at inc_152 (j := 1) rfl) sh_155 rfl (f_lt (o := 155) (m := 166) (Nat.le_of_ble_eq_true rfl) hN) rfl ?_
  refine i_iconst (pc' := 5) (f_at inc_152 (j := 2) rfl) ci_4 rfl ?_
  refine i_iald (pc' := 6) (f_at inc_152 (j := 3) rfl) sh_156 (f_bg (Nat.le_of_ble_eq_true rfl)) (f_lt (o := 156) (m := 166) (Nat.le_of_ble_eq_true rfl) hN) rfl fun v1 => ?_
  refine i_bipush (pc' := 8) (f_at inc_152 (j := 4) rfl) cb_20 rfl ?_
  refine s_join (J := 32) (fun (t2 : Bool) (u2 : Unit) => [.ref 155, .int a1, .int a2]) (fun t2 => [.int (f_b t2)]) (fun t2 => σ) ?_ ?_
  · intro t2 u2
    exact i_iret (v := f_b t2) (f_at inc_152 (j := 18) rfl) rfl n_bool
  · intro k2 hj2
    refine i_if2 (pc' := 31) (nx := 11) c2_ge (f_at inc_152 (j := 5) rfl) ⟨by decide, rfl⟩ (fun b6 => ?_) (fun b6 => ?_)
    · refine i_iconst (pc' := 32) (f_at inc_152 (j := 17) rfl) ci_0 rfl ?_
      exact hj2 false ()
    · refine i_aload_n (pc' := 12) (f_at inc_152 (j := 6) rfl) rfl rfl ?_
      refine i_getR (pc' := 15) (f_at inc_152 (j := 7) rfl) sh_155 rfl (f_lt (o := 155) (m := 166) (Nat.le_of_ble_eq_true rfl) hN) rfl ?_
      refine i_iload_n (pc' := 16) (f_at inc_152 (j := 8) rfl) rfl rfl ?_
      refine c_pi (pc' := 19) (c' := 0) (n' := 0) (h_stat (ra := [.int a1]) (r := [.ref 156]) (as := [.int a1]) (f_at inc_152 (j := 9) rfl) (by decide) MT_36 rfl rfl rfl ⟨Nat.le_of_ble_eq_true rfl, Nat.le_of_ble_eq_true rfl, Nat.le_of_ble_eq_true rfl⟩) MT_36 (G_36 hN a1 σ) ⟨rfl, rfl, rfl⟩ fun t3 => ?_
      refine i_bipush (pc' := 21) (f_at inc_152 (j := 10) rfl) cb_7 rfl ?_
      refine i_iadd (pc' := 22) (f_at inc_152 (j := 11) rfl) rfl ?_
      refine i_iald (pc' := 23) (f_at inc_152 (j := 12) rfl) sh_156 (f_bg (Nat.le_of_ble_eq_true rfl)) (f_lt (o := 156) (m := 166) (Nat.le_of_ble_eq_true rfl) hN) rfl fun v4 => ?_
      refine i_iload_n (pc' := 24) (f_at inc_152 (j := 13) rfl) rfl rfl ?_
      refine i_if2 (pc' := 31) (nx := 27) c2_lt (f_at inc_152 (j := 14) rfl) ⟨by decide, rfl⟩ (fun b5 => ?_) (fun b5 => ?_)
      · refine i_iconst (pc' := 32) (f_at inc_152 (j := 17) rfl) ci_0 rfl ?_
        exact hj2 false ()
      · refine i_iconst (pc' := 28) (f_at inc_152 (j := 15) rfl) ci_1 rfl ?_
        refine i_goto (pc' := 32) (f_at inc_152 (j := 16) rfl) (by decide) ?_
        exact hj2 true ()
set_option maxRecDepth 4000 in
def g_153 (a1 : Int32) (a2 : Int32) (a3 : Int32) (a4 : Int32) (a5 : Int32) (σ : f_M) : Option (f_M) :=
  (f_rd σ 156 2420 (4 : Int32)).bind fun v1 =>
  (g_119 v1 σ).bind fun t2 =>
  (f_lp (fun (s3 : Int32 × f_M) =>
   if (10 : Int32) ≤ s3.1 then (
    some (.inr s3.2)
   ) else (
    (f_wr s3.2 156 2420 (t2 + s3.1) (0 : Int32)).bind fun m4 =>
    some (.inl ((s3.1 + (1 : Int32)), m4))
   )
  ) f_F ((0 : Int32), σ)).bind fun (x3 : f_M) =>
  (f_wr x3 156 2420 (t2 + (0 : Int32)) a1).bind fun m6 =>
  (f_wr m6 156 2420 (t2 + (1 : Int32)) a2).bind fun m7 =>
  (f_wr m7 156 2420 (t2 + (2 : Int32)) a3).bind fun m8 =>
  (f_wr m8 156 2420 (t2 + (3 : Int32)) a4).bind fun m9 =>
  (f_wr m9 156 2420 (t2 + (4 : Int32)) a5).bind fun m10 =>
  some m10
set_option maxRecDepth 4000 in
theorem G_153 {xs : Nat → Int32} {L N : Nat} (hN : 166 ≤ N) (a1 : Int32) (a2 : Int32) (a3 : Int32) (a4 : Int32) (a5 : Int32)  (σ : f_M) : f_Cal a_MT xs L N 153 [.ref 155, .int a1, .int a2, .int a3, .int a4, .int a5] σ ((g_153 a1 a2 a3 a4 a5 σ).bind fun t => some (e_wv t)) := by
  refine f_cal_of (ls := [.ref 155, .int a1, .int a2, .int a3, .int a4, .int a5, a_dead, a_dead]) MT_153 (Nat.le_of_ble_eq_true rfl) rfl ?_
  unfold g_153
  refine i_aload_n (pc' := 1) (f_at inc_153 (j := 0) rfl) rfl rfl ?_
  refine i_getR (pc' := 4) (f_at inc_153 (j := 1) rfl) sh_155 rfl (f_lt (o := 155) (m := 166) (Nat.le_of_ble_eq_true rfl) hN) rfl ?_
  refine i_iconst (pc' := 5) (f_at inc_153 (j := 2) rfl) ci_4 rfl ?_
  refine i_iald (pc' := 6) (f_at inc_153 (j := 3) rfl) sh_156 (f_bg (Nat.le_of_ble_eq_true rfl)) (f_lt (o := 156) (m := 166) (Nat.le_of_ble_eq_true rfl) hN) rfl fun v1 => ?_
  refine c_pi (pc' := 9) (c' := 0) (n' := 0) (h_stat (ra := [.int v1]) (r := []) (as := [.int v1]) (f_at inc_153 (j := 4) rfl) (by decide) MT_119 rfl rfl rfl ⟨Nat.le_of_ble_eq_true rfl, Nat.le_of_ble_eq_true rfl, Nat.le_of_ble_eq_true rfl⟩) MT_119 (G_119 hN v1 σ) ⟨rfl, rfl, rfl⟩ fun t2 => ?_
  refine i_istore (pc' := 11) (ls' := [.ref 155, .int a1, .int a2, .int a3, .int a4, .int a5, .int t2, a_dead]) (f_at inc_153 (j := 5) rfl) (Nat.le_of_ble_eq_true rfl) rfl rfl ?_
  refine i_iconst (pc' := 12) (f_at inc_153 (j := 6) rfl) ci_0 rfl ?_
  refine i_istore (pc' := 14) (ls' := [.ref 155, .int a1, .int a2, .int a3, .int a4, .int a5, .int t2, .int (0 : Int32)]) (f_at inc_153 (j := 7) rfl) (Nat.le_of_ble_eq_true rfl) rfl rfl ?_
  refine s_lX (X := 38) ((0 : Int32), σ) () (fun (s3 : Int32 × f_M) (u3 : Unit) => [.ref 155, .int a1, .int a2, .int a3, .int a4, .int a5, .int t2, .int s3.1]) (fun (s3 : Int32 × f_M) => s3.2) (fun (x3 : f_M) (w3 : Value) => [.ref 155, .int a1, .int a2, .int a3, .int a4, .int a5, .int t2, w3]) (fun (x3 : f_M) => x3) ?_ ?_
  · intro x3 w3
    refine i_aload_n (pc' := 39) (f_at inc_153 (j := 20) rfl) rfl rfl ?_
    refine i_getR (pc' := 42) (f_at inc_153 (j := 21) rfl) sh_155 rfl (f_lt (o := 155) (m := 166) (Nat.le_of_ble_eq_true rfl) hN) rfl ?_
    refine i_iload (pc' := 44) (f_at inc_153 (j := 22) rfl) rfl rfl ?_
    refine i_iconst (pc' := 45) (f_at inc_153 (j := 23) rfl) ci_0 rfl ?_
    refine i_iadd (pc' := 46) (f_at inc_153 (j := 24) rfl) rfl ?_
    refine i_iload_n (pc' := 47) (f_at inc_153 (j := 25) rfl) rfl rfl ?_
    refine i_iast (pc' := 48) (f_at inc_153 (j := 26) rfl) sh_156 (f_lt (o := 156) (m := 166) (Nat.le_of_ble_eq_true rfl) hN) rfl fun m6 => ?_
    refine i_aload_n (pc' := 49) (f_at inc_153 (j := 27) rfl) rfl rfl ?_
    refine i_getR (pc' := 52) (f_at inc_153 (j := 28) rfl) sh_155 rfl (f_lt (o := 155) (m := 166) (Nat.le_of_ble_eq_true rfl) hN) rfl ?_
    refine i_iload (pc' := 54) (f_at inc_153 (j := 29) rfl) rfl rfl ?_
    refine i_iconst (pc' := 55) (f_at inc_153 (j := 30) rfl) ci_1 rfl ?_
    refine i_iadd (pc' := 56) (f_at inc_153 (j := 31) rfl) rfl ?_
    refine i_iload_n (pc' := 57) (f_at inc_153 (j := 32) rfl) rfl rfl ?_
    refine i_iast (pc' := 58) (f_at inc_153 (j := 33) rfl) sh_156 (f_lt (o := 156) (m := 166) (Nat.le_of_ble_eq_true rfl) hN) rfl fun m7 => ?_
    refine i_aload_n (pc' := 59) (f_at inc_153 (j := 34) rfl) rfl rfl ?_
    refine i_getR (pc' := 62) (f_at inc_153 (j := 35) rfl) sh_155 rfl (f_lt (o := 155) (m := 166) (Nat.le_of_ble_eq_true rfl) hN) rfl ?_
    refine i_iload (pc' := 64) (f_at inc_153 (j := 36) rfl) rfl rfl ?_
    refine i_iconst (pc' := 65) (f_at inc_153 (j := 37) rfl) ci_2 rfl ?_
    refine i_iadd (pc' := 66) (f_at inc_153 (j := 38) rfl) rfl ?_
    refine i_iload_n (pc' := 67) (f_at inc_153 (j := 39) rfl) rfl rfl ?_
    refine i_iast (pc' := 68) (f_at inc_153 (j := 40) rfl) sh_156 (f_lt (o := 156) (m := 166) (Nat.le_of_ble_eq_true rfl) hN) rfl fun m8 => ?_
    refine i_aload_n (pc' := 69) (f_at inc_153 (j := 41) rfl) rfl rfl ?_
    refine i_getR (pc' := 72) (f_at inc_153 (j := 42) rfl) sh_155 rfl (f_lt (o := 155) (m := 166) (Nat.le_of_ble_eq_true rfl) hN) rfl ?_
    refine i_iload (pc' := 74) (f_at inc_153 (j := 43) rfl) rfl rfl ?_
    refine i_iconst (pc' := 75) (f_at inc_153 (j := 44) rfl) ci_3 rfl ?_
    refine i_iadd (pc' := 76) (f_at inc_153 (j := 45) rfl) rfl ?_
    refine i_iload (pc' := 78) (f_at inc_153 (j := 46) rfl) rfl rfl ?_
    refine i_iast (pc' := 79) (f_at inc_153 (j := 47) rfl) sh_156 (f_lt (o := 156) (m := 166) (Nat.le_of_ble_eq_true rfl) hN) rfl fun m9 => ?_
    refine i_aload_n (pc' := 80) (f_at inc_153 (j := 48) rfl) rfl rfl ?_
    refine i_getR (pc' := 83) (f_at inc_153 (j := 49) rfl) sh_155 rfl (f_lt (o := 155) (m := 166) (Nat.le_of_ble_eq_true rfl) hN) rfl ?_
    refine i_iload (pc' := 85) (f_at inc_153 (j := 50) rfl) rfl rfl ?_
    refine i_iconst (pc' := 86) (f_at inc_153 (j := 51) rfl) ci_4 rfl ?_
    refine i_iadd (pc' := 87) (f_at inc_153 (j := 52) rfl) rfl ?_
    refine i_iload (pc' := 89) (f_at inc_153 (j := 53) rfl) rfl rfl ?_
    refine i_iast (pc' := 90) (f_at inc_153 (j := 54) rfl) sh_156 (f_lt (o := 156) (m := 166) (Nat.le_of_ble_eq_true rfl) hN) rfl fun m10 => ?_
    exact i_vret (f_at inc_153 (j := 55) rfl) rfl
  · intro s3 u3 k3 hb3 hx3
    refine i_iload (pc' := 16) (f_at inc_153 (j := 8) rfl) rfl rfl ?_
    refine i_bipush (pc' := 18) (f_at inc_153 (j := 9) rfl) cb_10 rfl ?_
    refine i_if2 (pc' := 38) (nx := 21) c2_ge (f_at inc_153 (j := 10) rfl) ⟨by decide, rfl⟩ (fun b5 => ?_) (fun b5 => ?_)
    · exact hx3 s3.2 (.int s3.1)
    · refine i_aload_n (pc' := 22) (f_at inc_153 (j := 11) rfl) rfl rfl ?_
      refine i_getR (pc' := 25) (f_at inc_153 (j := 12) rfl) sh_155 rfl (f_lt (o := 155) (m := 166) (Nat.le_of_ble_eq_true rfl) hN) rfl ?_
      refine i_iload (pc' := 27) (f_at inc_153 (j := 13) rfl) rfl rfl ?_
      refine i_iload (pc' := 29) (f_at inc_153 (j := 14) rfl) rfl rfl ?_
      refine i_iadd (pc' := 30) (f_at inc_153 (j := 15) rfl) rfl ?_
      refine i_iconst (pc' := 31) (f_at inc_153 (j := 16) rfl) ci_0 rfl ?_
      refine i_iast (pc' := 32) (f_at inc_153 (j := 17) rfl) sh_156 (f_lt (o := 156) (m := 166) (Nat.le_of_ble_eq_true rfl) hN) rfl fun m4 => ?_
      refine i_iinc (pc' := 35) (ls' := [.ref 155, .int a1, .int a2, .int a3, .int a4, .int a5, .int t2, .int (s3.1 + (1 : Int32))]) (f_at inc_153 (j := 18) rfl) rfl ci_1 rfl rfl ?_
      refine i_goto (pc' := 14) (f_at inc_153 (j := 19) rfl) (by decide) ?_
      exact hb3 ((s3.1 + (1 : Int32)), m4) ()
set_option maxRecDepth 4000 in
def g_154 (a1 : Int32) (a2 : Int32) (a3 : Int32) (a4 : Int32) (a5 : Int32) (a6 : Int32) (σ : f_M) : Option (f_M) :=
  (g_153 (0 : Int32) a1 a2 a3 a4 σ).bind fun t1 =>
  (f_rd t1 156 2420 (4 : Int32)).bind fun v2 =>
  (g_119 v2 t1).bind fun t3 =>
  (f_wr t1 156 2420 (t3 + (5 : Int32)) a5).bind fun m4 =>
  (f_wr m4 156 2420 (t3 + (6 : Int32)) a6).bind fun m5 =>
  (g_150 a3 a4 m5).bind fun t6 =>
  (f_wr m5 156 2420 (t3 + (7 : Int32)) t6).bind fun m7 =>
  some m7
set_option maxRecDepth 4000 in
theorem G_154 {xs : Nat → Int32} {L N : Nat} (hN : 166 ≤ N) (a1 : Int32) (a2 : Int32) (a3 : Int32) (a4 : Int32) (a5 : Int32) (a6 : Int32)  (σ : f_M) : f_Cal a_MT xs L N 154 [.ref 155, .int a1, .int a2, .int a3, .int a4, .int a5, .int a6] σ ((g_154 a1 a2 a3 a4 a5 a6 σ).bind fun t => some (e_wv t)) := by
  refine f_cal_of (ls := [.ref 155, .int a1, .int a2, .int a3, .int a4, .int a5, .int a6, a_dead]) MT_154 (Nat.le_of_ble_eq_true rfl) rfl ?_
  unfold g_154
  refine i_aload_n (pc' := 1) (f_at inc_154 (j := 0) rfl) rfl rfl ?_
  refine i_iconst (pc' := 2) (f_at inc_154 (j := 1) rfl) ci_0 rfl ?_
  refine i_iload_n (pc' := 3) (f_at inc_154 (j := 2) rfl) rfl rfl ?_
  refine i_iload_n (pc' := 4) (f_at inc_154 (j := 3) rfl) rfl rfl ?_
  refine i_iload_n (pc' := 5) (f_at inc_154 (j := 4) rfl) rfl rfl ?_
  refine i_iload (pc' := 7) (f_at inc_154 (j := 5) rfl) rfl rfl ?_
  refine c_wv (pc' := 10) (c' := 0) (n' := 0) (h_virt (ra := [.int a4, .int a3, .int a2, .int a1, .int (0 : Int32), .ref 155]) (r := []) (as := [.int (0 : Int32), .int a1, .int a2, .int a3, .int a4]) (f_at inc_154 (j := 6) rfl) (by decide) MT_153 rfl rfl rfl ⟨Nat.le_of_ble_eq_true rfl, Nat.le_of_ble_eq_true rfl, Nat.le_of_ble_eq_true rfl⟩ sh_155 (f_lt (o := 155) (m := 166) (Nat.le_of_ble_eq_true rfl) hN)) MT_153 (G_153 hN (0 : Int32) a1 a2 a3 a4 σ) ⟨rfl, rfl, rfl⟩ fun t1 => ?_
  refine i_aload_n (pc' := 11) (f_at inc_154 (j := 7) rfl) rfl rfl ?_
  refine i_getR (pc' := 14) (f_at inc_154 (j := 8) rfl) sh_155 rfl (f_lt (o := 155) (m := 166) (Nat.le_of_ble_eq_true rfl) hN) rfl ?_
  refine i_iconst (pc' := 15) (f_at inc_154 (j := 9) rfl) ci_4 rfl ?_
  refine i_iald (pc' := 16) (f_at inc_154 (j := 10) rfl) sh_156 (f_bg (Nat.le_of_ble_eq_true rfl)) (f_lt (o := 156) (m := 166) (Nat.le_of_ble_eq_true rfl) hN) rfl fun v2 => ?_
  refine c_pi (pc' := 19) (c' := 0) (n' := 0) (h_stat (ra := [.int v2]) (r := []) (as := [.int v2]) (f_at inc_154 (j := 11) rfl) (by decide) MT_119 rfl rfl rfl ⟨Nat.le_of_ble_eq_true rfl, Nat.le_of_ble_eq_true rfl, Nat.le_of_ble_eq_true rfl⟩) MT_119 (G_119 hN v2 t1) ⟨rfl, rfl, rfl⟩ fun t3 => ?_
  refine i_istore (pc' := 21) (ls' := [.ref 155, .int a1, .int a2, .int a3, .int a4, .int a5, .int a6, .int t3]) (f_at inc_154 (j := 12) rfl) (Nat.le_of_ble_eq_true rfl) rfl rfl ?_
  refine i_aload_n (pc' := 22) (f_at inc_154 (j := 13) rfl) rfl rfl ?_
  refine i_getR (pc' := 25) (f_at inc_154 (j := 14) rfl) sh_155 rfl (f_lt (o := 155) (m := 166) (Nat.le_of_ble_eq_true rfl) hN) rfl ?_
  refine i_iload (pc' := 27) (f_at inc_154 (j := 15) rfl) rfl rfl ?_
  refine i_iconst (pc' := 28) (f_at inc_154 (j := 16) rfl) ci_5 rfl ?_
  refine i_iadd (pc' := 29) (f_at inc_154 (j := 17) rfl) rfl ?_
  refine i_iload (pc' := 31) (f_at inc_154 (j := 18) rfl) rfl rfl ?_
  refine i_iast (pc' := 32) (f_at inc_154 (j := 19) rfl) sh_156 (f_lt (o := 156) (m := 166) (Nat.le_of_ble_eq_true rfl) hN) rfl fun m4 => ?_
  refine i_aload_n (pc' := 33) (f_at inc_154 (j := 20) rfl) rfl rfl ?_
  refine i_getR (pc' := 36) (f_at inc_154 (j := 21) rfl) sh_155 rfl (f_lt (o := 155) (m := 166) (Nat.le_of_ble_eq_true rfl) hN) rfl ?_
  refine i_iload (pc' := 38) (f_at inc_154 (j := 22) rfl) rfl rfl ?_
  refine i_bipush (pc' := 40) (f_at inc_154 (j := 23) rfl) cb_6 rfl ?_
  refine i_iadd (pc' := 41) (f_at inc_154 (j := 24) rfl) rfl ?_
  refine i_iload (pc' := 43) (f_at inc_154 (j := 25) rfl) rfl rfl ?_
  refine i_iast (pc' := 44) (f_at inc_154 (j := 26) rfl) sh_156 (f_lt (o := 156) (m := 166) (Nat.le_of_ble_eq_true rfl) hN) rfl fun m5 => ?_
  refine i_aload_n (pc' := 45) (f_at inc_154 (j := 27) rfl) rfl rfl ?_
  refine i_getR (pc' := 48) (f_at inc_154 (j := 28) rfl) sh_155 rfl (f_lt (o := 155) (m := 166) (Nat.le_of_ble_eq_true rfl) hN) rfl ?_
  refine i_iload (pc' := 50) (f_at inc_154 (j := 29) rfl) rfl rfl ?_
  refine i_bipush (pc' := 52) (f_at inc_154 (j := 30) rfl) cb_7 rfl ?_
  refine i_iadd (pc' := 53) (f_at inc_154 (j := 31) rfl) rfl ?_
  refine i_iload_n (pc' := 54) (f_at inc_154 (j := 32) rfl) rfl rfl ?_
  refine i_iload (pc' := 56) (f_at inc_154 (j := 33) rfl) rfl rfl ?_
  refine c_pi (pc' := 59) (c' := 0) (n' := 0) (h_stat (ra := [.int a4, .int a3]) (r := [.int (t3 + (7 : Int32)), .ref 156]) (as := [.int a3, .int a4]) (f_at inc_154 (j := 34) rfl) (by decide) MT_150 rfl rfl rfl ⟨Nat.le_of_ble_eq_true rfl, Nat.le_of_ble_eq_true rfl, Nat.le_of_ble_eq_true rfl⟩) MT_150 (G_150 hN a3 a4 m5) ⟨rfl, rfl, rfl⟩ fun t6 => ?_
  refine i_iast (pc' := 60) (f_at inc_154 (j := 35) rfl) sh_156 (f_lt (o := 156) (m := 166) (Nat.le_of_ble_eq_true rfl) hN) rfl fun m7 => ?_
  exact i_vret (f_at inc_154 (j := 36) rfl) rfl
set_option maxRecDepth 4000 in
def g_155 (a1 : Int32) (a2 : Int32) (a3 : Int32) (a4 : Int32) (a5 : Int32) (σ : f_M) : Option (f_M) :=
  (g_153 (1 : Int32) a1 a2 a3 a4 σ).bind fun t1 =>
  (f_rd t1 156 2420 (4 : Int32)).bind fun v2 =>
  (g_119 v2 t1).bind fun t3 =>
  (f_wr t1 156 2420 (t3 + (5 : Int32)) a5).bind fun m4 =>
  (g_151 a3 a4 a5 m4).bind fun t5 =>
  (f_wr m4 156 2420 (t3 + (7 : Int32)) t5).bind fun m6 =>
  some m6
set_option maxRecDepth 4000 in
theorem G_155 {xs : Nat → Int32} {L N : Nat} (hN : 166 ≤ N) (a1 : Int32) (a2 : Int32) (a3 : Int32) (a4 : Int32) (a5 : Int32)  (σ : f_M) : f_Cal a_MT xs L N 155 [.ref 155, .int a1, .int a2, .int a3, .int a4, .int a5] σ ((g_155 a1 a2 a3 a4 a5 σ).bind fun t => some (e_wv t)) := by
  refine f_cal_of (ls := [.ref 155, .int a1, .int a2, .int a3, .int a4, .int a5, a_dead]) MT_155 (Nat.le_of_ble_eq_true rfl) rfl ?_
  unfold g_155
  refine i_aload_n (pc' := 1) (f_at inc_155 (j := 0) rfl) rfl rfl ?_
  refine i_iconst (pc' := 2) (f_at inc_155 (j := 1) rfl) ci_1 rfl ?_
  refine i_iload_n (pc' := 3) (f_at inc_155 (j := 2) rfl) rfl rfl ?_
  refine i_iload_n (pc' := 4) (f_at inc_155 (j := 3) rfl) rfl rfl ?_
  refine i_iload_n (pc' := 5) (f_at inc_155 (j := 4) rfl) rfl rfl ?_
  refine i_iload (pc' := 7) (f_at inc_155 (j := 5) rfl) rfl rfl ?_
  refine c_wv (pc' := 10) (c' := 0) (n' := 0) (h_virt (ra := [.int a4, .int a3, .int a2, .int a1, .int (1 : Int32), .ref 155]) (r := []) (as := [.int (1 : Int32), .int a1, .int a2, .int a3, .int a4]) (f_at inc_155 (j := 6) rfl) (by decide) MT_153 rfl rfl rfl ⟨Nat.le_of_ble_eq_true rfl, Nat.le_of_ble_eq_true rfl, Nat.le_of_ble_eq_true rfl⟩ sh_155 (f_lt (o := 155) (m := 166) (Nat.le_of_ble_eq_true rfl) hN)) MT_153 (G_153 hN (1 : Int32) a1 a2 a3 a4 σ) ⟨rfl, rfl, rfl⟩ fun t1 => ?_
  refine i_aload_n (pc' := 11) (f_at inc_155 (j := 7) rfl) rfl rfl ?_
  refine i_getR (pc' := 14) (f_at inc_155 (j := 8) rfl) sh_155 rfl (f_lt (o := 155) (m := 166) (Nat.le_of_ble_eq_true rfl) hN) rfl ?_
  refine i_iconst (pc' := 15) (f_at inc_155 (j := 9) rfl) ci_4 rfl ?_
  refine i_iald (pc' := 16) (f_at inc_155 (j := 10) rfl) sh_156 (f_bg (Nat.le_of_ble_eq_true rfl)) (f_lt (o := 156) (m := 166) (Nat.le_of_ble_eq_true rfl) hN) rfl fun v2 => ?_
  refine c_pi (pc' := 19) (c' := 0) (n' := 0) (h_stat (ra := [.int v2]) (r := []) (as := [.int v2]) (f_at inc_155 (j := 11) rfl) (by decide) MT_119 rfl rfl rfl ⟨Nat.le_of_ble_eq_true rfl, Nat.le_of_ble_eq_true rfl, Nat.le_of_ble_eq_true rfl⟩) MT_119 (G_119 hN v2 t1) ⟨rfl, rfl, rfl⟩ fun t3 => ?_
  refine i_istore (pc' := 21) (ls' := [.ref 155, .int a1, .int a2, .int a3, .int a4, .int a5, .int t3]) (f_at inc_155 (j := 12) rfl) (Nat.le_of_ble_eq_true rfl) rfl rfl ?_
  refine i_aload_n (pc' := 22) (f_at inc_155 (j := 13) rfl) rfl rfl ?_
  refine i_getR (pc' := 25) (f_at inc_155 (j := 14) rfl) sh_155 rfl (f_lt (o := 155) (m := 166) (Nat.le_of_ble_eq_true rfl) hN) rfl ?_
  refine i_iload (pc' := 27) (f_at inc_155 (j := 15) rfl) rfl rfl ?_
  refine i_iconst (pc' := 28) (f_at inc_155 (j := 16) rfl) ci_5 rfl ?_
  refine i_iadd (pc' := 29) (f_at inc_155 (j := 17) rfl) rfl ?_
  refine i_iload (pc' := 31) (f_at inc_155 (j := 18) rfl) rfl rfl ?_
  refine i_iast (pc' := 32) (f_at inc_155 (j := 19) rfl) sh_156 (f_lt (o := 156) (m := 166) (Nat.le_of_ble_eq_true rfl) hN) rfl fun m4 => ?_
  refine i_aload_n (pc' := 33) (f_at inc_155 (j := 20) rfl) rfl rfl ?_
  refine i_getR (pc' := 36) (f_at inc_155 (j := 21) rfl) sh_155 rfl (f_lt (o := 155) (m := 166) (Nat.le_of_ble_eq_true rfl) hN) rfl ?_
  refine i_iload (pc' := 38) (f_at inc_155 (j := 22) rfl) rfl rfl ?_
  refine i_bipush (pc' := 40) (f_at inc_155 (j := 23) rfl) cb_7 rfl ?_
  refine i_iadd (pc' := 41) (f_at inc_155 (j := 24) rfl) rfl ?_
  refine i_iload_n (pc' := 42) (f_at inc_155 (j := 25) rfl) rfl rfl ?_
  refine i_iload (pc' := 44) (f_at inc_155 (j := 26) rfl) rfl rfl ?_
  refine i_iload (pc' := 46) (f_at inc_155 (j := 27) rfl) rfl rfl ?_
  refine c_pi (pc' := 49) (c' := 0) (n' := 0) (h_stat (ra := [.int a5, .int a4, .int a3]) (r := [.int (t3 + (7 : Int32)), .ref 156]) (as := [.int a3, .int a4, .int a5]) (f_at inc_155 (j := 28) rfl) (by decide) MT_151 rfl rfl rfl ⟨Nat.le_of_ble_eq_true rfl, Nat.le_of_ble_eq_true rfl, Nat.le_of_ble_eq_true rfl⟩) MT_151 (G_151 hN a3 a4 a5 m4) ⟨rfl, rfl, rfl⟩ fun t5 => ?_
  refine i_iast (pc' := 50) (f_at inc_155 (j := 29) rfl) sh_156 (f_lt (o := 156) (m := 166) (Nat.le_of_ble_eq_true rfl) hN) rfl fun m6 => ?_
  exact i_vret (f_at inc_155 (j := 30) rfl) rfl
set_option maxRecDepth 4000 in
def g_156  (σ : f_M) : Option (Int32 × f_M) :=
  (f_rd σ 156 2420 (4 : Int32)).bind fun v1 =>
  (f_rd σ 156 2420 (4 : Int32)).bind fun v2 =>
  (f_wr σ 156 2420 (4 : Int32) (v2 + (1 : Int32))).bind fun m3 =>
  (g_124 v1 m3).bind fun t4 =>
  some (v1, t4)
set_option maxRecDepth 4000 in
theorem G_156 {xs : Nat → Int32} {L N : Nat} (hN : 166 ≤ N)   (σ : f_M) : f_Cal a_MT xs L N 156 [.ref 155] σ ((g_156  σ).bind fun t => some (e_wi t)) := by
  refine f_cal_of (ls := [.ref 155, a_dead]) MT_156 (Nat.le_of_ble_eq_true rfl) rfl ?_
  unfold g_156
  refine i_aload_n (pc' := 1) (f_at inc_156 (j := 0) rfl) rfl rfl ?_
  refine i_getR (pc' := 4) (f_at inc_156 (j := 1) rfl) sh_155 rfl (f_lt (o := 155) (m := 166) (Nat.le_of_ble_eq_true rfl) hN) rfl ?_
  refine i_iconst (pc' := 5) (f_at inc_156 (j := 2) rfl) ci_4 rfl ?_
  refine i_iald (pc' := 6) (f_at inc_156 (j := 3) rfl) sh_156 (f_bg (Nat.le_of_ble_eq_true rfl)) (f_lt (o := 156) (m := 166) (Nat.le_of_ble_eq_true rfl) hN) rfl fun v1 => ?_
  refine i_istore_n (pc' := 7) (ls' := [.ref 155, .int v1]) (f_at inc_156 (j := 4) rfl) (Nat.le_of_ble_eq_true rfl) rfl rfl ?_
  refine i_aload_n (pc' := 8) (f_at inc_156 (j := 5) rfl) rfl rfl ?_
  refine i_getR (pc' := 11) (f_at inc_156 (j := 6) rfl) sh_155 rfl (f_lt (o := 155) (m := 166) (Nat.le_of_ble_eq_true rfl) hN) rfl ?_
  refine i_iconst (pc' := 12) (f_at inc_156 (j := 7) rfl) ci_4 rfl ?_
  refine i_dup2 (pc' := 13) (f_at inc_156 (j := 8) rfl) ⟨rfl, rfl⟩ rfl ?_
  refine i_iald (pc' := 14) (f_at inc_156 (j := 9) rfl) sh_156 (f_bg (Nat.le_of_ble_eq_true rfl)) (f_lt (o := 156) (m := 166) (Nat.le_of_ble_eq_true rfl) hN) rfl fun v2 => ?_
  refine i_iconst (pc' := 15) (f_at inc_156 (j := 10) rfl) ci_1 rfl ?_
  refine i_iadd (pc' := 16) (f_at inc_156 (j := 11) rfl) rfl ?_
  refine i_iast (pc' := 17) (f_at inc_156 (j := 12) rfl) sh_156 (f_lt (o := 156) (m := 166) (Nat.le_of_ble_eq_true rfl) hN) rfl fun m3 => ?_
  refine i_aload_n (pc' := 18) (f_at inc_156 (j := 13) rfl) rfl rfl ?_
  refine i_iload_n (pc' := 19) (f_at inc_156 (j := 14) rfl) rfl rfl ?_
  refine c_wv (pc' := 22) (c' := 0) (n' := 0) (h_virt (ra := [.int v1, .ref 155]) (r := []) (as := [.int v1]) (f_at inc_156 (j := 15) rfl) (by decide) MT_124 rfl rfl rfl ⟨Nat.le_of_ble_eq_true rfl, Nat.le_of_ble_eq_true rfl, Nat.le_of_ble_eq_true rfl⟩ sh_155 (f_lt (o := 155) (m := 166) (Nat.le_of_ble_eq_true rfl) hN)) MT_124 (G_124 hN v1 m3) ⟨rfl, rfl, rfl⟩ fun t4 => ?_
  refine i_iload_n (pc' := 23) (f_at inc_156 (j := 16) rfl) rfl rfl ?_
  exact i_iret (f_at inc_156 (j := 17) rfl) rfl n_int
set_option maxRecDepth 4000 in
def g_157 (a1 : Int32) (σ : f_M) : Option (Bool × f_M) :=
  (f_rd σ 162 210 (a1 + (1 : Int32))).bind fun v1 =>
  (f_rd σ 162 210 (a1 + (2 : Int32))).bind fun v2 =>
  (f_rd σ 162 210 (a1 + (3 : Int32))).bind fun v3 =>
  (f_rd σ 162 210 (a1 + (4 : Int32))).bind fun v4 =>
  (f_rd σ 162 210 a1).bind fun v5 =>
  (
   if ¬ v5 = (1 : Int32) then (
    some false
   ) else (
    some true
   )
  ).bind fun (t6 : Bool) =>
  (
   if t6 = false then (
    (f_rd σ 162 210 (a1 + (5 : Int32))).bind fun v9 =>
    (g_151 v3 v4 v9 σ).bind fun t10 =>
    some t10
   ) else (
    (g_150 v3 v4 σ).bind fun t11 =>
    some t11
   )
  ).bind fun (t8 : Int32) =>
  (f_rd σ 156 2420 (0 : Int32)).bind fun v13 =>
  if v2 < v13 then (
   some (false, σ)
  ) else (
   (g_152 v1 t8 σ).bind fun t14 =>
   if t14 = true then (
    (
     if t6 = false then (
      (f_rd σ 162 210 (a1 + (5 : Int32))).bind fun v16 =>
      (g_155 v1 v2 v3 v4 v16 σ).bind fun t17 =>
      some t17
     ) else (
      (f_rd σ 162 210 (a1 + (5 : Int32))).bind fun v18 =>
      (f_rd σ 162 210 (a1 + (6 : Int32))).bind fun v19 =>
      (g_154 v1 v2 v3 v4 v18 v19 σ).bind fun t20 =>
      some t20
     )
    ).bind fun (t15 : f_M) =>
    (g_156  t15).bind fun t22 =>
    (
     if t22.1 < 0 then (
      some false
     ) else (
      some true
     )
    ).bind fun (t23 : Bool) =>
    some (t23, t22.2)
   ) else (
    some (false, σ)
   )
  )
set_option maxRecDepth 4000 in
theorem G_157 {xs : Nat → Int32} {L N : Nat} (hN : 166 ≤ N) (a1 : Int32)  (σ : f_M) : f_Cal a_MT xs L N 157 [.ref 155, .int a1] σ ((g_157 a1 σ).bind fun t => some (e_wb t)) := by
  refine f_cal_of (ls := [.ref 155, .int a1, a_dead, a_dead, a_dead, a_dead, a_dead, a_dead]) MT_157 (Nat.le_of_ble_eq_true rfl) rfl ?_
  unfold g_157
  refine i_aload_n (pc' := 1) (f_at inc_157 (j := 0) rfl) rfl rfl ?_
  refine i_getR (pc' := 4) (f_at inc_157 (j := 1) rfl) sh_155 rfl (f_lt (o := 155) (m := 166) (Nat.le_of_ble_eq_true rfl) hN) rfl ?_
  refine i_iload_n (pc' := 5) (f_at inc_157 (j := 2) rfl) rfl rfl ?_
  refine i_iconst (pc' := 6) (f_at inc_157 (j := 3) rfl) ci_1 rfl ?_
  refine i_iadd (pc' := 7) (f_at inc_157 (j := 4) rfl) rfl ?_
  refine i_iald (pc' := 8) (f_at inc_157 (j := 5) rfl) sh_162 (f_bg (Nat.le_of_ble_eq_true rfl)) (f_lt (o := 162) (m := 166) (Nat.le_of_ble_eq_true rfl) hN) rfl fun v1 => ?_
  refine i_istore_n (pc' := 9) (ls' := [.ref 155, .int a1, .int v1, a_dead, a_dead, a_dead, a_dead, a_dead]) (f_at inc_157 (j := 6) rfl) (Nat.le_of_ble_eq_true rfl) rfl rfl ?_
  refine i_aload_n (pc' := 10) (f_at inc_157 (j := 7) rfl) rfl rfl ?_
  refine i_getR (pc' := 13) (f_at inc_157 (j := 8) rfl) sh_155 rfl (f_lt (o := 155) (m := 166) (Nat.le_of_ble_eq_true rfl) hN) rfl ?_
  refine i_iload_n (pc' := 14) (f_at inc_157 (j := 9) rfl) rfl rfl ?_
  refine i_iconst (pc' := 15) (f_at inc_157 (j := 10) rfl) ci_2 rfl ?_
  refine i_iadd (pc' := 16) (f_at inc_157 (j := 11) rfl) rfl ?_
  refine i_iald (pc' := 17) (f_at inc_157 (j := 12) rfl) sh_162 (f_bg (Nat.le_of_ble_eq_true rfl)) (f_lt (o := 162) (m := 166) (Nat.le_of_ble_eq_true rfl) hN) rfl fun v2 => ?_
  refine i_istore_n (pc' := 18) (ls' := [.ref 155, .int a1, .int v1, .int v2, a_dead, a_dead, a_dead, a_dead]) (f_at inc_157 (j := 13) rfl) (Nat.le_of_ble_eq_true rfl) rfl rfl ?_
  refine i_aload_n (pc' := 19) (f_at inc_157 (j := 14) rfl) rfl rfl ?_
  refine i_getR (pc' := 22) (f_at inc_157 (j := 15) rfl) sh_155 rfl (f_lt (o := 155) (m := 166) (Nat.le_of_ble_eq_true rfl) hN) rfl ?_
  refine i_iload_n (pc' := 23) (f_at inc_157 (j := 16) rfl) rfl rfl ?_
  refine i_iconst (pc' := 24) (f_at inc_157 (j := 17) rfl) ci_3 rfl ?_
  refine i_iadd (pc' := 25) (f_at inc_157 (j := 18) rfl) rfl ?_
  refine i_iald (pc' := 26) (f_at inc_157 (j := 19) rfl) sh_162 (f_bg (Nat.le_of_ble_eq_true rfl)) (f_lt (o := 162) (m := 166) (Nat.le_of_ble_eq_true rfl) hN) rfl fun v3 => ?_
  refine i_istore (pc' := 28) (ls' := [.ref 155, .int a1, .int v1, .int v2, .int v3, a_dead, a_dead, a_dead]) (f_at inc_157 (j := 20) rfl) (Nat.le_of_ble_eq_true rfl) rfl rfl ?_
  refine i_aload_n (pc' := 29) (f_at inc_157 (j := 21) rfl) rfl rfl ?_
  refine i_getR (pc' := 32) (f_at inc_157 (j := 22) rfl) sh_155 rfl (f_lt (o := 155) (m := 166) (Nat.le_of_ble_eq_true rfl) hN) rfl ?_
  refine i_iload_n (pc' := 33) (f_at inc_157 (j := 23) rfl) rfl rfl ?_
  refine i_iconst (pc' := 34) (f_at inc_157 (j := 24) rfl) ci_4 rfl ?_
  refine i_iadd (pc' := 35) (f_at inc_157 (j := 25) rfl) rfl ?_
  refine i_iald (pc' := 36) (f_at inc_157 (j := 26) rfl) sh_162 (f_bg (Nat.le_of_ble_eq_true rfl)) (f_lt (o := 162) (m := 166) (Nat.le_of_ble_eq_true rfl) hN) rfl fun v4 => ?_
  refine i_istore (pc' := 38) (ls' := [.ref 155, .int a1, .int v1, .int v2, .int v3, .int v4, a_dead, a_dead]) (f_at inc_157 (j := 27) rfl) (Nat.le_of_ble_eq_true rfl) rfl rfl ?_
  refine i_aload_n (pc' := 39) (f_at inc_157 (j := 28) rfl) rfl rfl ?_
  refine i_getR (pc' := 42) (f_at inc_157 (j := 29) rfl) sh_155 rfl (f_lt (o := 155) (m := 166) (Nat.le_of_ble_eq_true rfl) hN) rfl ?_
  refine i_iload_n (pc' := 43) (f_at inc_157 (j := 30) rfl) rfl rfl ?_
  refine i_iald (pc' := 44) (f_at inc_157 (j := 31) rfl) sh_162 (f_bg (Nat.le_of_ble_eq_true rfl)) (f_lt (o := 162) (m := 166) (Nat.le_of_ble_eq_true rfl) hN) rfl fun v5 => ?_
  refine i_iconst (pc' := 45) (f_at inc_157 (j := 32) rfl) ci_1 rfl ?_
  refine s_join (J := 53) (fun (t6 : Bool) (u6 : Unit) => [.ref 155, .int a1, .int v1, .int v2, .int v3, .int v4, a_dead, a_dead]) (fun t6 => [.int (f_b t6)]) (fun t6 => σ) ?_ ?_
  · intro t6 u6
    refine i_istore (pc' := 55) (ls' := [.ref 155, .int a1, .int v1, .int v2, .int v3, .int v4, .int (f_b t6), a_dead]) (f_at inc_157 (j := 37) rfl) (Nat.le_of_ble_eq_true rfl) rfl rfl ?_
    refine i_iload (pc' := 57) (f_at inc_157 (j := 38) rfl) rfl rfl ?_
    refine s_join (J := 85) (fun (t8 : Int32) (u8 : Unit) => [.ref 155, .int a1, .int v1, .int v2, .int v3, .int v4, .int (f_b t6), a_dead]) (fun t8 => [.int t8]) (fun t8 => σ) ?_ ?_
    · intro t8 u8
      refine i_istore (pc' := 87) (ls' := [.ref 155, .int a1, .int v1, .int v2, .int v3, .int v4, .int (f_b t6), .int t8]) (f_at inc_157 (j := 53) rfl) (Nat.le_of_ble_eq_true rfl) rfl rfl ?_
      refine i_iload_n (pc' := 88) (f_at inc_157 (j := 54) rfl) rfl rfl ?_
      refine i_aload_n (pc' := 89) (f_at inc_157 (j := 55) rfl) rfl rfl ?_
      refine i_getR (pc' := 92) (f_at inc_157 (j := 56) rfl) sh_155 rfl (f_lt (o := 155) (m := 166) (Nat.le_of_ble_eq_true rfl) hN) rfl ?_
      refine i_iconst (pc' := 93) (f_at inc_157 (j := 57) rfl) ci_0 rfl ?_
      refine i_iald (pc' := 94) (f_at inc_157 (j := 58) rfl) sh_156 (f_bg (Nat.le_of_ble_eq_true rfl)) (f_lt (o := 156) (m := 166) (Nat.le_of_ble_eq_true rfl) hN) rfl fun v13 => ?_
      refine i_if2 (pc' := 107) (nx := 97) c2_lt (f_at inc_157 (j := 59) rfl) ⟨by decide, rfl⟩ (fun b26 => ?_) (fun b26 => ?_)
      · refine i_iconst (pc' := 108) (f_at inc_157 (j := 65) rfl) ci_0 rfl ?_
        exact i_iret (v := f_b false) (f_at inc_157 (j := 66) rfl) rfl n_bool
      · refine i_aload_n (pc' := 98) (f_at inc_157 (j := 60) rfl) rfl rfl ?_
        refine i_iload_n (pc' := 99) (f_at inc_157 (j := 61) rfl) rfl rfl ?_
        refine i_iload (pc' := 101) (f_at inc_157 (j := 62) rfl) rfl rfl ?_
        refine c_pb (pc' := 104) (c' := 0) (n' := 0) (h_virt (ra := [.int t8, .int v1, .ref 155]) (r := []) (as := [.int v1, .int t8]) (f_at inc_157 (j := 63) rfl) (by decide) MT_152 rfl rfl rfl ⟨Nat.le_of_ble_eq_true rfl, Nat.le_of_ble_eq_true rfl, Nat.le_of_ble_eq_true rfl⟩ sh_155 (f_lt (o := 155) (m := 166) (Nat.le_of_ble_eq_true rfl) hN)) MT_152 (G_152 hN v1 t8 σ) ⟨rfl, rfl, rfl⟩ fun t14 => ?_
        refine i_if0 (pc' := 109) (nx := 107) cb_ne (f_at inc_157 (j := 64) rfl) ⟨by decide, rfl⟩ (fun b25 => ?_) (fun b25 => ?_)
        · refine i_iload (pc' := 111) (f_at inc_157 (j := 67) rfl) rfl rfl ?_
          refine s_join (J := 162) (fun (t15 : f_M) (u15 : Unit) => [.ref 155, .int a1, .int v1, .int v2, .int v3, .int v4, .int (f_b t6), .int t8]) (fun t15 => []) (fun t15 => t15) ?_ ?_
          · intro t15 u15
            refine i_aload_n (pc' := 163) (f_at inc_157 (j := 100) rfl) rfl rfl ?_
            refine c_wi (pc' := 166) (c' := 0) (n' := 0) (h_virt (ra := [.ref 155]) (r := []) (as := []) (f_at inc_157 (j := 101) rfl) (by decide) MT_156 rfl rfl rfl ⟨Nat.le_of_ble_eq_true rfl, Nat.le_of_ble_eq_true rfl, Nat.le_of_ble_eq_true rfl⟩ sh_155 (f_lt (o := 155) (m := 166) (Nat.le_of_ble_eq_true rfl) hN)) MT_156 (G_156 hN  t15) ⟨rfl, rfl, rfl⟩ fun t22 => ?_
            refine s_join (J := 174) (fun (t23 : Bool) (u23 : Unit) => [.ref 155, .int a1, .int v1, .int v2, .int v3, .int v4, .int (f_b t6), .int t8]) (fun t23 => [.int (f_b t23)]) (fun t23 => t22.2) ?_ ?_
            · intro t23 u23
              exact i_iret (v := f_b t23) (f_at inc_157 (j := 106) rfl) rfl n_bool
            · intro k23 hj23
              refine i_if0 (pc' := 173) (nx := 169) c0_lt (f_at inc_157 (j := 102) rfl) ⟨by decide, rfl⟩ (fun b24 => ?_) (fun b24 => ?_)
              · refine i_iconst (pc' := 174) (f_at inc_157 (j := 105) rfl) ci_0 rfl ?_
                exact hj23 false ()
              · refine i_iconst (pc' := 170) (f_at inc_157 (j := 103) rfl) ci_1 rfl ?_
                refine i_goto (pc' := 174) (f_at inc_157 (j := 104) rfl) (by decide) ?_
                exact hj23 true ()
          · intro k15 hj15
            refine i_if0 (pc' := 144) (nx := 114) cb_eq (f_at inc_157 (j := 68) rfl) ⟨by decide, rfl⟩ (fun b21 => ?_) (fun b21 => ?_)
            · refine i_aload_n (pc' := 145) (f_at inc_157 (j := 88) rfl) rfl rfl ?_
              refine i_iload_n (pc' := 146) (f_at inc_157 (j := 89) rfl) rfl rfl ?_
              refine i_iload_n (pc' := 147) (f_at inc_157 (j := 90) rfl) rfl rfl ?_
              refine i_iload (pc' := 149) (f_at inc_157 (j := 91) rfl) rfl rfl ?_
              refine i_iload (pc' := 151) (f_at inc_157 (j := 92) rfl) rfl rfl ?_
              refine i_aload_n (pc' := 152) (f_at inc_157 (j := 93) rfl) rfl rfl ?_
              refine i_getR (pc' := 155) (f_at inc_157 (j := 94) rfl) sh_155 rfl (f_lt (o := 155) (m := 166) (Nat.le_of_ble_eq_true rfl) hN) rfl ?_
              refine i_iload_n (pc' := 156) (f_at inc_157 (j := 95) rfl) rfl rfl ?_
              refine i_iconst (pc' := 157) (f_at inc_157 (j := 96) rfl) ci_5 rfl ?_
              refine i_iadd (pc' := 158) (f_at inc_157 (j := 97) rfl) rfl ?_
              refine i_iald (pc' := 159) (f_at inc_157 (j := 98) rfl) sh_162 (f_bg (Nat.le_of_ble_eq_true rfl)) (f_lt (o := 162) (m := 166) (Nat.le_of_ble_eq_true rfl) hN) rfl fun v16 => ?_
              refine c_wv (pc' := 162) (c' := 0) (n' := 0) (h_virt (ra := [.int v16, .int v4, .int v3, .int v2, .int v1, .ref 155]) (r := []) (as := [.int v1, .int v2, .int v3, .int v4, .int v16]) (f_at inc_157 (j := 99) rfl) (by decide) MT_155 rfl rfl rfl ⟨Nat.le_of_ble_eq_true rfl, Nat.le_of_ble_eq_true rfl, Nat.le_of_ble_eq_true rfl⟩ sh_155 (f_lt (o := 155) (m := 166) (Nat.le_of_ble_eq_true rfl) hN)) MT_155 (G_155 hN v1 v2 v3 v4 v16 σ) ⟨rfl, rfl, rfl⟩ fun t17 => ?_
              exact hj15 t17 ()
            · refine i_aload_n (pc' := 115) (f_at inc_157 (j := 69) rfl) rfl rfl ?_
              refine i_iload_n (pc' := 116) (f_at inc_157 (j := 70) rfl) rfl rfl ?_
              refine i_iload_n (pc' := 117) (f_at inc_157 (j := 71) rfl) rfl rfl ?_
              refine i_iload (pc' := 119) (f_at inc_157 (j := 72) rfl) rfl rfl ?_
              refine i_iload (pc' := 121) (f_at inc_157 (j := 73) rfl) rfl rfl ?_
              refine i_aload_n (pc' := 122) (f_at inc_157 (j := 74) rfl) rfl rfl ?_
              refine i_getR (pc' := 125) (f_at inc_157 (j := 75) rfl) sh_155 rfl (f_lt (o := 155) (m := 166) (Nat.le_of_ble_eq_true rfl) hN) rfl ?_
              refine i_iload_n (pc' := 126) (f_at inc_157 (j := 76) rfl) rfl rfl ?_
              refine i_iconst (pc' := 127) (f_at inc_157 (j := 77) rfl) ci_5 rfl ?_
              refine i_iadd (pc' := 128) (f_at inc_157 (j := 78) rfl) rfl ?_
              refine i_iald (pc' := 129) (f_at inc_157 (j := 79) rfl) sh_162 (f_bg (Nat.le_of_ble_eq_true rfl)) (f_lt (o := 162) (m := 166) (Nat.le_of_ble_eq_true rfl) hN) rfl fun v18 => ?_
              refine i_aload_n (pc' := 130) (f_at inc_157 (j := 80) rfl) rfl rfl ?_
              refine i_getR (pc' := 133) (f_at inc_157 (j := 81) rfl) sh_155 rfl (f_lt (o := 155) (m := 166) (Nat.le_of_ble_eq_true rfl) hN) rfl ?_
              refine i_iload_n (pc' := 134) (f_at inc_157 (j := 82) rfl) rfl rfl ?_
              refine i_bipush (pc' := 136) (f_at inc_157 (j := 83) rfl) cb_6 rfl ?_
              refine i_iadd (pc' := 137) (f_at inc_157 (j := 84) rfl) rfl ?_
              refine i_iald (pc' := 138) (f_at inc_157 (j := 85) rfl) sh_162 (f_bg (Nat.le_of_ble_eq_true rfl)) (f_lt (o := 162) (m := 166) (Nat.le_of_ble_eq_true rfl) hN) rfl fun v19 => ?_
              refine c_wv (pc' := 141) (c' := 0) (n' := 0) (h_virt (ra := [.int v19, .int v18, .int v4, .int v3, .int v2, .int v1, .ref 155]) (r := []) (as := [.int v1, .int v2, .int v3, .int v4, .int v18, .int v19]) (f_at inc_157 (j := 86) rfl) (by decide) MT_154 rfl rfl rfl ⟨Nat.le_of_ble_eq_true rfl, Nat.le_of_ble_eq_true rfl, Nat.le_of_ble_eq_true rfl⟩ sh_155 (f_lt (o := 155) (m := 166) (Nat.le_of_ble_eq_true rfl) hN)) MT_154 (G_154 hN v1 v2 v3 v4 v18 v19 σ) ⟨rfl, rfl, rfl⟩ fun t20 => ?_
              refine i_goto (pc' := 162) (f_at inc_157 (j := 87) rfl) (by decide) ?_
              exact hj15 t20 ()
        · refine i_iconst (pc' := 108) (f_at inc_157 (j := 65) rfl) ci_0 rfl ?_
          exact i_iret (v := f_b false) (f_at inc_157 (j := 66) rfl) rfl n_bool
    · intro k8 hj8
      refine i_if0 (pc' := 70) (nx := 60) cb_eq (f_at inc_157 (j := 39) rfl) ⟨by decide, rfl⟩ (fun b12 => ?_) (fun b12 => ?_)
      · refine i_iload (pc' := 72) (f_at inc_157 (j := 44) rfl) rfl rfl ?_
        refine i_iload (pc' := 74) (f_at inc_157 (j := 45) rfl) rfl rfl ?_
        refine i_aload_n (pc' := 75) (f_at inc_157 (j := 46) rfl) rfl rfl ?_
        refine i_getR (pc' := 78) (f_at inc_157 (j := 47) rfl) sh_155 rfl (f_lt (o := 155) (m := 166) (Nat.le_of_ble_eq_true rfl) hN) rfl ?_
        refine i_iload_n (pc' := 79) (f_at inc_157 (j := 48) rfl) rfl rfl ?_
        refine i_iconst (pc' := 80) (f_at inc_157 (j := 49) rfl) ci_5 rfl ?_
        refine i_iadd (pc' := 81) (f_at inc_157 (j := 50) rfl) rfl ?_
        refine i_iald (pc' := 82) (f_at inc_157 (j := 51) rfl) sh_162 (f_bg (Nat.le_of_ble_eq_true rfl)) (f_lt (o := 162) (m := 166) (Nat.le_of_ble_eq_true rfl) hN) rfl fun v9 => ?_
        refine c_pi (pc' := 85) (c' := 0) (n' := 0) (h_stat (ra := [.int v9, .int v4, .int v3]) (r := []) (as := [.int v3, .int v4, .int v9]) (f_at inc_157 (j := 52) rfl) (by decide) MT_151 rfl rfl rfl ⟨Nat.le_of_ble_eq_true rfl, Nat.le_of_ble_eq_true rfl, Nat.le_of_ble_eq_true rfl⟩) MT_151 (G_151 hN v3 v4 v9 σ) ⟨rfl, rfl, rfl⟩ fun t10 => ?_
        exact hj8 t10 ()
      · refine i_iload (pc' := 62) (f_at inc_157 (j := 40) rfl) rfl rfl ?_
        refine i_iload (pc' := 64) (f_at inc_157 (j := 41) rfl) rfl rfl ?_
        refine c_pi (pc' := 67) (c' := 0) (n' := 0) (h_stat (ra := [.int v4, .int v3]) (r := []) (as := [.int v3, .int v4]) (f_at inc_157 (j := 42) rfl) (by decide) MT_150 rfl rfl rfl ⟨Nat.le_of_ble_eq_true rfl, Nat.le_of_ble_eq_true rfl, Nat.le_of_ble_eq_true rfl⟩) MT_150 (G_150 hN v3 v4 σ) ⟨rfl, rfl, rfl⟩ fun t11 => ?_
        refine i_goto (pc' := 85) (f_at inc_157 (j := 43) rfl) (by decide) ?_
        exact hj8 t11 ()
  · intro k6 hj6
    refine i_if2 (pc' := 52) (nx := 48) c2_ne (f_at inc_157 (j := 33) rfl) ⟨by decide, rfl⟩ (fun b7 => ?_) (fun b7 => ?_)
    · refine i_iconst (pc' := 53) (f_at inc_157 (j := 36) rfl) ci_0 rfl ?_
      exact hj6 false ()
    · refine i_iconst (pc' := 49) (f_at inc_157 (j := 34) rfl) ci_1 rfl ?_
      refine i_goto (pc' := 53) (f_at inc_157 (j := 35) rfl) (by decide) ?_
      exact hj6 true ()
set_option maxRecDepth 4000 in
def g_158 (a1 : Int32) (σ : f_M) : Option (Bool × f_M) :=
  (f_rd σ 162 210 (((7 : Int32) * a1) + (1 : Int32))).bind fun v1 =>
  (f_rd σ 162 210 ((7 : Int32) * a1)).bind fun v2 =>
  if v2 = (0 : Int32) then (
   (g_141 ((7 : Int32) * a1) σ).bind fun t3 =>
   some (t3.1, t3.2)
  ) else
  if v2 = (1 : Int32) then (
   (g_157 ((7 : Int32) * a1) σ).bind fun t5 =>
   some (t5.1, t5.2)
  ) else
  if v2 = (2 : Int32) then (
   (g_157 ((7 : Int32) * a1) σ).bind fun t7 =>
   some (t7.1, t7.2)
  ) else
  if v2 = (3 : Int32) then (
   (g_142 v1 σ).bind fun t9 =>
   (
    if t9 = false then (
     some (false, σ)
    ) else (
     (g_145 v1 σ).bind fun t11 =>
     if ¬ t11 = 0 then (
      some (false, σ)
     ) else (
      (g_148 v1 σ).bind fun t12 =>
      if t12.1 < 0 then (
       some (false, t12.2)
      ) else (
       some (true, t12.2)
      )
     )
    )
   ).bind fun (t10 : Bool × f_M) =>
   some (t10.1, t10.2)
  ) else
  if v2 = (4 : Int32) then (
   (f_rd σ 162 210 (((7 : Int32) * a1) + (2 : Int32))).bind fun v17 =>
   (g_149 v1 v17 σ).bind fun t18 =>
   (
    if t18.1 ≤ 0 then (
     some false
    ) else (
     some true
    )
   ).bind fun (t19 : Bool) =>
   some (t19, t18.2)
  ) else
  (
   (g_157 ((7 : Int32) * a1) σ).bind fun t22 =>
   some (t22.1, t22.2)
  )
set_option maxRecDepth 4000 in
theorem G_158 {xs : Nat → Int32} {L N : Nat} (hN : 166 ≤ N) (a1 : Int32)  (σ : f_M) : f_Cal a_MT xs L N 158 [.ref 155, .int a1] σ ((g_158 a1 σ).bind fun t => some (e_wb t)) := by
  refine f_cal_of (ls := [.ref 155, .int a1, a_dead, a_dead]) MT_158 (Nat.le_of_ble_eq_true rfl) rfl ?_
  unfold g_158
  refine i_bipush (pc' := 2) (f_at inc_158 (j := 0) rfl) cb_7 rfl ?_
  refine i_iload_n (pc' := 3) (f_at inc_158 (j := 1) rfl) rfl rfl ?_
  refine i_imul (pc' := 4) (f_at inc_158 (j := 2) rfl) rfl ?_
  refine i_istore_n (pc' := 5) (ls' := [.ref 155, .int a1, .int ((7 : Int32) * a1), a_dead]) (f_at inc_158 (j := 3) rfl) (Nat.le_of_ble_eq_true rfl) rfl rfl ?_
  refine i_aload_n (pc' := 6) (f_at inc_158 (j := 4) rfl) rfl rfl ?_
  refine i_getR (pc' := 9) (f_at inc_158 (j := 5) rfl) sh_155 rfl (f_lt (o := 155) (m := 166) (Nat.le_of_ble_eq_true rfl) hN) rfl ?_
  refine i_iload_n (pc' := 10) (f_at inc_158 (j := 6) rfl) rfl rfl ?_
  refine i_iconst (pc' := 11) (f_at inc_158 (j := 7) rfl) ci_1 rfl ?_
  refine i_iadd (pc' := 12) (f_at inc_158 (j := 8) rfl) rfl ?_
  refine i_iald (pc' := 13) (f_at inc_158 (j := 9) rfl) sh_162 (f_bg (Nat.le_of_ble_eq_true rfl)) (f_lt (o := 162) (m := 166) (Nat.le_of_ble_eq_true rfl) hN) rfl fun v1 => ?_
  refine i_istore_n (pc' := 14) (ls' := [.ref 155, .int a1, .int ((7 : Int32) * a1), .int v1]) (f_at inc_158 (j := 10) rfl) (Nat.le_of_ble_eq_true rfl) rfl rfl ?_
  refine i_aload_n (pc' := 15) (f_at inc_158 (j := 11) rfl) rfl rfl ?_
  refine i_getR (pc' := 18) (f_at inc_158 (j := 12) rfl) sh_155 rfl (f_lt (o := 155) (m := 166) (Nat.le_of_ble_eq_true rfl) hN) rfl ?_
  refine i_iload_n (pc' := 19) (f_at inc_158 (j := 13) rfl) rfl rfl ?_
  refine i_iald (pc' := 20) (f_at inc_158 (j := 14) rfl) sh_162 (f_bg (Nat.le_of_ble_eq_true rfl)) (f_lt (o := 162) (m := 166) (Nat.le_of_ble_eq_true rfl) hN) rfl fun v2 => ?_
  refine i_cas (fun b4 => ?_) (fun b4 => ?_)
  · refine i_sw (pc' := 56) (v := (0 : Int32)) (f_at inc_158 (j := 15) rfl) b4 ⟨by decide, rfl⟩ (by decide) ?_
    refine i_aload_n (pc' := 57) (f_at inc_158 (j := 16) rfl) rfl rfl ?_
    refine i_iload_n (pc' := 58) (f_at inc_158 (j := 17) rfl) rfl rfl ?_
    refine c_wb (pc' := 61) (c' := 0) (n' := 0) (h_virt (ra := [.int ((7 : Int32) * a1), .ref 155]) (r := []) (as := [.int ((7 : Int32) * a1)]) (f_at inc_158 (j := 18) rfl) (by decide) MT_141 rfl rfl rfl ⟨Nat.le_of_ble_eq_true rfl, Nat.le_of_ble_eq_true rfl, Nat.le_of_ble_eq_true rfl⟩ sh_155 (f_lt (o := 155) (m := 166) (Nat.le_of_ble_eq_true rfl) hN)) MT_141 (G_141 hN ((7 : Int32) * a1) σ) ⟨rfl, rfl, rfl⟩ fun t3 => ?_
    exact i_iret (v := f_b t3.1) (f_at inc_158 (j := 19) rfl) rfl n_bool
  refine i_cas (fun b6 => ?_) (fun b6 => ?_)
  · refine i_sw (pc' := 114) (v := (1 : Int32)) (f_at inc_158 (j := 15) rfl) b6 ⟨by decide, rfl⟩ (by decide) ?_
    refine i_aload_n (pc' := 115) (f_at inc_158 (j := 50) rfl) rfl rfl ?_
    refine i_iload_n (pc' := 116) (f_at inc_158 (j := 51) rfl) rfl rfl ?_
    refine c_wb (pc' := 119) (c' := 0) (n' := 0) (h_virt (ra := [.int ((7 : Int32) * a1), .ref 155]) (r := []) (as := [.int ((7 : Int32) * a1)]) (f_at inc_158 (j := 52) rfl) (by decide) MT_157 rfl rfl rfl ⟨Nat.le_of_ble_eq_true rfl, Nat.le_of_ble_eq_true rfl, Nat.le_of_ble_eq_true rfl⟩ sh_155 (f_lt (o := 155) (m := 166) (Nat.le_of_ble_eq_true rfl) hN)) MT_157 (G_157 hN ((7 : Int32) * a1) σ) ⟨rfl, rfl, rfl⟩ fun t5 => ?_
    exact i_iret (v := f_b t5.1) (f_at inc_158 (j := 53) rfl) rfl n_bool
  refine i_cas (fun b8 => ?_) (fun b8 => ?_)
  · refine i_sw (pc' := 114) (v := (2 : Int32)) (f_at inc_158 (j := 15) rfl) b8 ⟨by decide, rfl⟩ (by decide) ?_
    refine i_aload_n (pc' := 115) (f_at inc_158 (j := 50) rfl) rfl rfl ?_
    refine i_iload_n (pc' := 116) (f_at inc_158 (j := 51) rfl) rfl rfl ?_
    refine c_wb (pc' := 119) (c' := 0) (n' := 0) (h_virt (ra := [.int ((7 : Int32) * a1), .ref 155]) (r := []) (as := [.int ((7 : Int32) * a1)]) (f_at inc_158 (j := 52) rfl) (by decide) MT_157 rfl rfl rfl ⟨Nat.le_of_ble_eq_true rfl, Nat.le_of_ble_eq_true rfl, Nat.le_of_ble_eq_true rfl⟩ sh_155 (f_lt (o := 155) (m := 166) (Nat.le_of_ble_eq_true rfl) hN)) MT_157 (G_157 hN ((7 : Int32) * a1) σ) ⟨rfl, rfl, rfl⟩ fun t7 => ?_
    exact i_iret (v := f_b t7.1) (f_at inc_158 (j := 53) rfl) rfl n_bool
  refine i_cas (fun b16 => ?_) (fun b16 => ?_)
  · refine i_sw (pc' := 62) (v := (3 : Int32)) (f_at inc_158 (j := 15) rfl) b16 ⟨by decide, rfl⟩ (by decide) ?_
    refine i_aload_n (pc' := 63) (f_at inc_158 (j := 20) rfl) rfl rfl ?_
    refine i_iload_n (pc' := 64) (f_at inc_158 (j := 21) rfl) rfl rfl ?_
    refine c_pb (pc' := 67) (c' := 0) (n' := 0) (h_virt (ra := [.int v1, .ref 155]) (r := []) (as := [.int v1]) (f_at inc_158 (j := 22) rfl) (by decide) MT_142 rfl rfl rfl ⟨Nat.le_of_ble_eq_true rfl, Nat.le_of_ble_eq_true rfl, Nat.le_of_ble_eq_true rfl⟩ sh_155 (f_lt (o := 155) (m := 166) (Nat.le_of_ble_eq_true rfl) hN)) MT_142 (G_142 hN v1 σ) ⟨rfl, rfl, rfl⟩ fun t9 => ?_
    refine s_join (J := 91) (fun (t10 : Bool × f_M) (u10 : Unit) => [.ref 155, .int a1, .int ((7 : Int32) * a1), .int v1]) (fun t10 => [.int (f_b t10.1)]) (fun t10 => t10.2) ?_ ?_
    · intro t10 u10
      exact i_iret (v := f_b t10.1) (f_at inc_158 (j := 35) rfl) rfl n_bool
    · intro k10 hj10
      refine i_if0 (pc' := 90) (nx := 70) cb_eq (f_at inc_158 (j := 23) rfl) ⟨by decide, rfl⟩ (fun b15 => ?_) (fun b15 => ?_)
      · refine i_iconst (pc' := 91) (f_at inc_158 (j := 34) rfl) ci_0 rfl ?_
        exact hj10 (false, σ) ()
      · refine i_aload_n (pc' := 71) (f_at inc_158 (j := 24) rfl) rfl rfl ?_
        refine i_iload_n (pc' := 72) (f_at inc_158 (j := 25) rfl) rfl rfl ?_
        refine c_pi (pc' := 75) (c' := 0) (n' := 0) (h_virt (ra := [.int v1, .ref 155]) (r := []) (as := [.int v1]) (f_at inc_158 (j := 26) rfl) (by decide) MT_145 rfl rfl rfl ⟨Nat.le_of_ble_eq_true rfl, Nat.le_of_ble_eq_true rfl, Nat.le_of_ble_eq_true rfl⟩ sh_155 (f_lt (o := 155) (m := 166) (Nat.le_of_ble_eq_true rfl) hN)) MT_145 (G_145 hN v1 σ) ⟨rfl, rfl, rfl⟩ fun t11 => ?_
        refine i_if0 (pc' := 90) (nx := 78) c0_ne (f_at inc_158 (j := 27) rfl) ⟨by decide, rfl⟩ (fun b14 => ?_) (fun b14 => ?_)
        · refine i_iconst (pc' := 91) (f_at inc_158 (j := 34) rfl) ci_0 rfl ?_
          exact hj10 (false, σ) ()
        · refine i_aload_n (pc' := 79) (f_at inc_158 (j := 28) rfl) rfl rfl ?_
          refine i_iload_n (pc' := 80) (f_at inc_158 (j := 29) rfl) rfl rfl ?_
          refine c_wi (pc' := 83) (c' := 0) (n' := 0) (h_virt (ra := [.int v1, .ref 155]) (r := []) (as := [.int v1]) (f_at inc_158 (j := 30) rfl) (by decide) MT_148 rfl rfl rfl ⟨Nat.le_of_ble_eq_true rfl, Nat.le_of_ble_eq_true rfl, Nat.le_of_ble_eq_true rfl⟩ sh_155 (f_lt (o := 155) (m := 166) (Nat.le_of_ble_eq_true rfl) hN)) MT_148 (G_148 hN v1 σ) ⟨rfl, rfl, rfl⟩ fun t12 => ?_
          refine i_if0 (pc' := 90) (nx := 86) c0_lt (f_at inc_158 (j := 31) rfl) ⟨by decide, rfl⟩ (fun b13 => ?_) (fun b13 => ?_)
          · refine i_iconst (pc' := 91) (f_at inc_158 (j := 34) rfl) ci_0 rfl ?_
            exact hj10 (false, t12.2) ()
          · refine i_iconst (pc' := 87) (f_at inc_158 (j := 32) rfl) ci_1 rfl ?_
            refine i_goto (pc' := 91) (f_at inc_158 (j := 33) rfl) (by decide) ?_
            exact hj10 (true, t12.2) ()
  refine i_cas (fun b21 => ?_) (fun b21 => ?_)
  · refine i_sw (pc' := 92) (v := (4 : Int32)) (f_at inc_158 (j := 15) rfl) b21 ⟨by decide, rfl⟩ (by decide) ?_
    refine i_aload_n (pc' := 93) (f_at inc_158 (j := 36) rfl) rfl rfl ?_
    refine i_iload_n (pc' := 94) (f_at inc_158 (j := 37) rfl) rfl rfl ?_
    refine i_aload_n (pc' := 95) (f_at inc_158 (j := 38) rfl) rfl rfl ?_
    refine i_getR (pc' := 98) (f_at inc_158 (j := 39) rfl) sh_155 rfl (f_lt (o := 155) (m := 166) (Nat.le_of_ble_eq_true rfl) hN) rfl ?_
    refine i_iload_n (pc' := 99) (f_at inc_158 (j := 40) rfl) rfl rfl ?_
    refine i_iconst (pc' := 100) (f_at inc_158 (j := 41) rfl) ci_2 rfl ?_
    refine i_iadd (pc' := 101) (f_at inc_158 (j := 42) rfl) rfl ?_
    refine i_iald (pc' := 102) (f_at inc_158 (j := 43) rfl) sh_162 (f_bg (Nat.le_of_ble_eq_true rfl)) (f_lt (o := 162) (m := 166) (Nat.le_of_ble_eq_true rfl) hN) rfl fun v17 => ?_
    refine c_wi (pc' := 105) (c' := 0) (n' := 0) (h_virt (ra := [.int v17, .int v1, .ref 155]) (r := []) (as := [.int v1, .int v17]) (f_at inc_158 (j := 44) rfl) (by decide) MT_149 rfl rfl rfl ⟨Nat.le_of_ble_eq_true rfl, Nat.le_of_ble_eq_true rfl, Nat.le_of_ble_eq_true rfl⟩ sh_155 (f_lt (o := 155) (m := 166) (Nat.le_of_ble_eq_true rfl) hN)) MT_149 (G_149 hN v1 v17 σ) ⟨rfl, rfl, rfl⟩ fun t18 => ?_
    refine s_join (J := 113) (fun (t19 : Bool) (u19 : Unit) => [.ref 155, .int a1, .int ((7 : Int32) * a1), .int v1]) (fun t19 => [.int (f_b t19)]) (fun t19 => t18.2) ?_ ?_
    · intro t19 u19
      exact i_iret (v := f_b t19) (f_at inc_158 (j := 49) rfl) rfl n_bool
    · intro k19 hj19
      refine i_if0 (pc' := 112) (nx := 108) c0_le (f_at inc_158 (j := 45) rfl) ⟨by decide, rfl⟩ (fun b20 => ?_) (fun b20 => ?_)
      · refine i_iconst (pc' := 113) (f_at inc_158 (j := 48) rfl) ci_0 rfl ?_
        exact hj19 false ()
      · refine i_iconst (pc' := 109) (f_at inc_158 (j := 46) rfl) ci_1 rfl ?_
        refine i_goto (pc' := 113) (f_at inc_158 (j := 47) rfl) (by decide) ?_
        exact hj19 true ()
  refine i_swd (pc' := 114) (f_at inc_158 (j := 15) rfl) (sw_out 5 (fun j hj => by match j, hj with | 0, _ => exact b4 | 1, _ => exact b6 | 2, _ => exact b8 | 3, _ => exact b16 | 4, _ => exact b21)) (by decide) ?_
  refine i_aload_n (pc' := 115) (f_at inc_158 (j := 50) rfl) rfl rfl ?_
  refine i_iload_n (pc' := 116) (f_at inc_158 (j := 51) rfl) rfl rfl ?_
  refine c_wb (pc' := 119) (c' := 0) (n' := 0) (h_virt (ra := [.int ((7 : Int32) * a1), .ref 155]) (r := []) (as := [.int ((7 : Int32) * a1)]) (f_at inc_158 (j := 52) rfl) (by decide) MT_157 rfl rfl rfl ⟨Nat.le_of_ble_eq_true rfl, Nat.le_of_ble_eq_true rfl, Nat.le_of_ble_eq_true rfl⟩ sh_155 (f_lt (o := 155) (m := 166) (Nat.le_of_ble_eq_true rfl) hN)) MT_157 (G_157 hN ((7 : Int32) * a1) σ) ⟨rfl, rfl, rfl⟩ fun t22 => ?_
  exact i_iret (v := f_b t22.1) (f_at inc_158 (j := 53) rfl) rfl n_bool
set_option maxRecDepth 4000 in
def g_159  (σ : f_M) : Option (Int32 × f_M) :=
  (g_52  (f_up (f_up σ 155 6 (0 : Int32)) 155 20 (0 : Int32))).bind fun t1 =>
  (f_lp (fun (s2 : f_M) =>
   if ¬ (s2 155 17) = 0 then (
    some (.inr s2)
   ) else (
    if (s2 155 15) = 0 then (
     some (.inr s2)
    ) else (
     (g_117  s2).bind fun t3 =>
     some (.inl t3)
    )
   )
  ) f_F t1).bind fun (x2 : f_M) =>
  (g_63  x2).bind fun t6 =>
  if (t6 155 17) ≤ 0 then (
   (g_118  t6).bind fun t7 =>
   (f_lp (fun (s8 : Int32 × f_M) =>
    if (s8.2 155 20) ≤ s8.1 then (
     some (.inr (s8.1, s8.2))
    ) else (
     (g_158 s8.1 s8.2).bind fun t9 =>
     if t9.1 = false then (
      some (.inr (s8.1, t9.2))
     ) else (
      some (.inl ((s8.1 + (1 : Int32)), t9.2))
     )
    )
   ) f_F ((0 : Int32), t7)).bind fun (x8 : Int32 × f_M) =>
   some (x8.1, x8.2)
  ) else (
   some ((-1 : Int32), t6)
  )
set_option maxRecDepth 4000 in
theorem G_159 {xs : Nat → Int32} {L N : Nat} (hN : 166 ≤ N)   (σ : f_M) : f_Cal a_MT xs L N 159 [.ref 155] σ ((g_159  σ).bind fun t => some (e_wi t)) := by
  refine f_cal_of (ls := [.ref 155, a_dead]) MT_159 (Nat.le_of_ble_eq_true rfl) rfl ?_
  unfold g_159
  refine i_aload_n (pc' := 1) (f_at inc_159 (j := 0) rfl) rfl rfl ?_
  refine i_iconst (pc' := 2) (f_at inc_159 (j := 1) rfl) ci_0 rfl ?_
  refine i_putI (pc' := 5) (f_at inc_159 (j := 2) rfl) sh_155 rfl ⟨rfl, rfl⟩ (f_lt (o := 155) (m := 166) (Nat.le_of_ble_eq_true rfl) hN) rfl ?_
  refine i_aload_n (pc' := 6) (f_at inc_159 (j := 3) rfl) rfl rfl ?_
  refine i_iconst (pc' := 7) (f_at inc_159 (j := 4) rfl) ci_0 rfl ?_
  refine i_putI (pc' := 10) (f_at inc_159 (j := 5) rfl) sh_155 rfl ⟨rfl, rfl⟩ (f_lt (o := 155) (m := 166) (Nat.le_of_ble_eq_true rfl) hN) rfl ?_
  refine i_aload_n (pc' := 11) (f_at inc_159 (j := 6) rfl) rfl rfl ?_
  refine c_wv (pc' := 14) (c' := 0) (n' := 0) (h_virt (ra := [.ref 155]) (r := []) (as := []) (f_at inc_159 (j := 7) rfl) (by decide) MT_52 rfl rfl rfl ⟨Nat.le_of_ble_eq_true rfl, Nat.le_of_ble_eq_true rfl, Nat.le_of_ble_eq_true rfl⟩ sh_155 (f_lt (o := 155) (m := 166) (Nat.le_of_ble_eq_true rfl) hN)) MT_52 (G_52 hN  (f_up (f_up σ 155 6 (0 : Int32)) 155 20 (0 : Int32))) ⟨rfl, rfl, rfl⟩ fun t1 => ?_
  refine s_lX (X := 35) t1 () (fun (s2 : f_M) (u2 : Unit) => [.ref 155, a_dead]) (fun (s2 : f_M) => s2) (fun (x2 : f_M) (w2 : Unit) => [.ref 155, a_dead]) (fun (x2 : f_M) => x2) ?_ ?_
  · intro x2 w2
    refine i_aload_n (pc' := 36) (f_at inc_159 (j := 17) rfl) rfl rfl ?_
    refine c_wv (pc' := 39) (c' := 0) (n' := 0) (h_virt (ra := [.ref 155]) (r := []) (as := []) (f_at inc_159 (j := 18) rfl) (by decide) MT_63 rfl rfl rfl ⟨Nat.le_of_ble_eq_true rfl, Nat.le_of_ble_eq_true rfl, Nat.le_of_ble_eq_true rfl⟩ sh_155 (f_lt (o := 155) (m := 166) (Nat.le_of_ble_eq_true rfl) hN)) MT_63 (G_63 hN  x2) ⟨rfl, rfl, rfl⟩ fun t6 => ?_
    refine i_aload_n (pc' := 40) (f_at inc_159 (j := 19) rfl) rfl rfl ?_
    refine i_getI (pc' := 43) (f_at inc_159 (j := 20) rfl) sh_155 rfl (f_lt (o := 155) (m := 166) (Nat.le_of_ble_eq_true rfl) hN) rfl ?_
    refine i_if0 (pc' := 48) (nx := 46) c0_le (f_at inc_159 (j := 21) rfl) ⟨by decide, rfl⟩ (fun b12 => ?_) (fun b12 => ?_)
    · refine i_aload_n (pc' := 49) (f_at inc_159 (j := 24) rfl) rfl rfl ?_
      refine c_wv (pc' := 52) (c' := 0) (n' := 0) (h_virt (ra := [.ref 155]) (r := []) (as := []) (f_at inc_159 (j := 25) rfl) (by decide) MT_118 rfl rfl rfl ⟨Nat.le_of_ble_eq_true rfl, Nat.le_of_ble_eq_true rfl, Nat.le_of_ble_eq_true rfl⟩ sh_155 (f_lt (o := 155) (m := 166) (Nat.le_of_ble_eq_true rfl) hN)) MT_118 (G_118 hN  t6) ⟨rfl, rfl, rfl⟩ fun t7 => ?_
      refine i_iconst (pc' := 53) (f_at inc_159 (j := 26) rfl) ci_0 rfl ?_
      refine i_istore_n (pc' := 54) (ls' := [.ref 155, .int (0 : Int32)]) (f_at inc_159 (j := 27) rfl) (Nat.le_of_ble_eq_true rfl) rfl rfl ?_
      refine s_lX (X := 76) ((0 : Int32), t7) () (fun (s8 : Int32 × f_M) (u8 : Unit) => [.ref 155, .int s8.1]) (fun (s8 : Int32 × f_M) => s8.2) (fun (x8 : Int32 × f_M) (w8 : Unit) => [.ref 155, .int x8.1]) (fun (x8 : Int32 × f_M) => x8.2) ?_ ?_
      · intro x8 w8
        refine i_iload_n (pc' := 77) (f_at inc_159 (j := 38) rfl) rfl rfl ?_
        exact i_iret (f_at inc_159 (j := 39) rfl) rfl n_int
      · intro s8 u8 k8 hb8 hx8
        refine i_iload_n (pc' := 55) (f_at inc_159 (j := 28) rfl) rfl rfl ?_
        refine i_aload_n (pc' := 56) (f_at inc_159 (j := 29) rfl) rfl rfl ?_
        refine i_getI (pc' := 59) (f_at inc_159 (j := 30) rfl) sh_155 rfl (f_lt (o := 155) (m := 166) (Nat.le_of_ble_eq_true rfl) hN) rfl ?_
        refine i_if2 (pc' := 76) (nx := 62) c2_ge (f_at inc_159 (j := 31) rfl) ⟨by decide, rfl⟩ (fun b11 => ?_) (fun b11 => ?_)
        · exact hx8 (s8.1, s8.2) ()
        · refine i_aload_n (pc' := 63) (f_at inc_159 (j := 32) rfl) rfl rfl ?_
          refine i_iload_n (pc' := 64) (f_at inc_159 (j := 33) rfl) rfl rfl ?_
          refine c_wb (pc' := 67) (c' := 0) (n' := 0) (h_virt (ra := [.int s8.1, .ref 155]) (r := []) (as := [.int s8.1]) (f_at inc_159 (j := 34) rfl) (by decide) MT_158 rfl rfl rfl ⟨Nat.le_of_ble_eq_true rfl, Nat.le_of_ble_eq_true rfl, Nat.le_of_ble_eq_true rfl⟩ sh_155 (f_lt (o := 155) (m := 166) (Nat.le_of_ble_eq_true rfl) hN)) MT_158 (G_158 hN s8.1 s8.2) ⟨rfl, rfl, rfl⟩ fun t9 => ?_
          refine i_if0 (pc' := 76) (nx := 70) cb_eq (f_at inc_159 (j := 35) rfl) ⟨by decide, rfl⟩ (fun b10 => ?_) (fun b10 => ?_)
          · exact hx8 (s8.1, t9.2) ()
          · refine i_iinc (pc' := 73) (ls' := [.ref 155, .int (s8.1 + (1 : Int32))]) (f_at inc_159 (j := 36) rfl) rfl ci_1 rfl rfl ?_
            refine i_goto (pc' := 54) (f_at inc_159 (j := 37) rfl) (by decide) ?_
            exact hb8 ((s8.1 + (1 : Int32)), t9.2) ()
    · refine i_iconst (pc' := 47) (f_at inc_159 (j := 22) rfl) ci_m1 rfl ?_
      exact i_iret (f_at inc_159 (j := 23) rfl) rfl n_int
  · intro s2 u2 k2 hb2 hx2
    refine i_aload_n (pc' := 15) (f_at inc_159 (j := 8) rfl) rfl rfl ?_
    refine i_getI (pc' := 18) (f_at inc_159 (j := 9) rfl) sh_155 rfl (f_lt (o := 155) (m := 166) (Nat.le_of_ble_eq_true rfl) hN) rfl ?_
    refine i_if0 (pc' := 35) (nx := 21) c0_ne (f_at inc_159 (j := 10) rfl) ⟨by decide, rfl⟩ (fun b5 => ?_) (fun b5 => ?_)
    · exact hx2 s2 ()
    · refine i_aload_n (pc' := 22) (f_at inc_159 (j := 11) rfl) rfl rfl ?_
      refine i_getI (pc' := 25) (f_at inc_159 (j := 12) rfl) sh_155 rfl (f_lt (o := 155) (m := 166) (Nat.le_of_ble_eq_true rfl) hN) rfl ?_
      refine i_if0 (pc' := 35) (nx := 28) c0_eq (f_at inc_159 (j := 13) rfl) ⟨by decide, rfl⟩ (fun b4 => ?_) (fun b4 => ?_)
      · exact hx2 s2 ()
      · refine i_aload_n (pc' := 29) (f_at inc_159 (j := 14) rfl) rfl rfl ?_
        refine c_wv (pc' := 32) (c' := 0) (n' := 0) (h_virt (ra := [.ref 155]) (r := []) (as := []) (f_at inc_159 (j := 15) rfl) (by decide) MT_117 rfl rfl rfl ⟨Nat.le_of_ble_eq_true rfl, Nat.le_of_ble_eq_true rfl, Nat.le_of_ble_eq_true rfl⟩ sh_155 (f_lt (o := 155) (m := 166) (Nat.le_of_ble_eq_true rfl) hN)) MT_117 (G_117 hN  s2) ⟨rfl, rfl, rfl⟩ fun t3 => ?_
        refine i_goto (pc' := 14) (f_at inc_159 (j := 16) rfl) (by decide) ?_
        exact hb2 t3 ()
set_option maxRecDepth 4000 in
def g_160  (σ : f_M) : Option (Int32) :=
  some (σ 3 6)
set_option maxRecDepth 4000 in
theorem G_160 {xs : Nat → Int32} {L N : Nat} (hN : 155 ≤ N)   (σ : f_M) : f_Cal a_MT xs L N 160 [.ref 0] σ ((g_160  σ).bind fun t => some (e_pi σ t)) := by
  refine f_cal_of (ls := [.ref 0]) MT_160 (Nat.le_of_ble_eq_true rfl) rfl ?_
  unfold g_160
  refine i_aload_n (pc' := 1) (f_at inc_160 (j := 0) rfl) rfl rfl ?_
  refine i_getR (pc' := 4) (f_at inc_160 (j := 1) rfl) sh_0 rfl (f_lt (o := 0) (m := 155) (Nat.le_of_ble_eq_true rfl) hN) rfl ?_
  refine i_getI (pc' := 7) (f_at inc_160 (j := 2) rfl) sh_3 rfl (f_lt (o := 3) (m := 155) (Nat.le_of_ble_eq_true rfl) hN) rfl ?_
  exact i_iret (f_at inc_160 (j := 3) rfl) rfl n_int
set_option maxRecDepth 4000 in
def g_161  (σ : f_M) : Option (Int32 × f_M) :=
  some (((f_up σ 155 6 (0 : Int32)) 155 11), (f_up σ 155 6 (0 : Int32)))
set_option maxRecDepth 4000 in
theorem G_161 {xs : Nat → Int32} {L N : Nat} (hN : 166 ≤ N)   (σ : f_M) : f_Cal a_MT xs L N 161 [.ref 155] σ ((g_161  σ).bind fun t => some (e_wi t)) := by
  refine f_cal_of (ls := [.ref 155]) MT_161 (Nat.le_of_ble_eq_true rfl) rfl ?_
  unfold g_161
  refine i_aload_n (pc' := 1) (f_at inc_161 (j := 0) rfl) rfl rfl ?_
  refine i_iconst (pc' := 2) (f_at inc_161 (j := 1) rfl) ci_0 rfl ?_
  refine i_putI (pc' := 5) (f_at inc_161 (j := 2) rfl) sh_155 rfl ⟨rfl, rfl⟩ (f_lt (o := 155) (m := 166) (Nat.le_of_ble_eq_true rfl) hN) rfl ?_
  refine i_aload_n (pc' := 6) (f_at inc_161 (j := 3) rfl) rfl rfl ?_
  refine i_getI (pc' := 9) (f_at inc_161 (j := 4) rfl) sh_155 rfl (f_lt (o := 155) (m := 166) (Nat.le_of_ble_eq_true rfl) hN) rfl ?_
  exact i_iret (f_at inc_161 (j := 5) rfl) rfl n_int
set_option maxRecDepth 4000 in
def g_162  (σ : f_M) : Option (Int32) :=
  some (σ 3 7)
set_option maxRecDepth 4000 in
theorem G_162 {xs : Nat → Int32} {L N : Nat} (hN : 155 ≤ N)   (σ : f_M) : f_Cal a_MT xs L N 162 [.ref 0] σ ((g_162  σ).bind fun t => some (e_pi σ t)) := by
  refine f_cal_of (ls := [.ref 0]) MT_162 (Nat.le_of_ble_eq_true rfl) rfl ?_
  unfold g_162
  refine i_aload_n (pc' := 1) (f_at inc_162 (j := 0) rfl) rfl rfl ?_
  refine i_getR (pc' := 4) (f_at inc_162 (j := 1) rfl) sh_0 rfl (f_lt (o := 0) (m := 155) (Nat.le_of_ble_eq_true rfl) hN) rfl ?_
  refine i_getI (pc' := 7) (f_at inc_162 (j := 2) rfl) sh_3 rfl (f_lt (o := 3) (m := 155) (Nat.le_of_ble_eq_true rfl) hN) rfl ?_
  exact i_iret (f_at inc_162 (j := 3) rfl) rfl n_int
set_option maxRecDepth 4000 in
def g_163  (σ : f_M) : Option (Int32 × f_M) :=
  some (((f_up σ 155 6 (0 : Int32)) 155 12), (f_up σ 155 6 (0 : Int32)))
set_option maxRecDepth 4000 in
theorem G_163 {xs : Nat → Int32} {L N : Nat} (hN : 166 ≤ N)   (σ : f_M) : f_Cal a_MT xs L N 163 [.ref 155] σ ((g_163  σ).bind fun t => some (e_wi t)) := by
  refine f_cal_of (ls := [.ref 155]) MT_163 (Nat.le_of_ble_eq_true rfl) rfl ?_
  unfold g_163
  refine i_aload_n (pc' := 1) (f_at inc_163 (j := 0) rfl) rfl rfl ?_
  refine i_iconst (pc' := 2) (f_at inc_163 (j := 1) rfl) ci_0 rfl ?_
  refine i_putI (pc' := 5) (f_at inc_163 (j := 2) rfl) sh_155 rfl ⟨rfl, rfl⟩ (f_lt (o := 155) (m := 166) (Nat.le_of_ble_eq_true rfl) hN) rfl ?_
  refine i_aload_n (pc' := 6) (f_at inc_163 (j := 3) rfl) rfl rfl ?_
  refine i_getI (pc' := 9) (f_at inc_163 (j := 4) rfl) sh_155 rfl (f_lt (o := 155) (m := 166) (Nat.le_of_ble_eq_true rfl) hN) rfl ?_
  exact i_iret (f_at inc_163 (j := 5) rfl) rfl n_int
set_option maxRecDepth 4000 in
def g_164  (σ : f_M) : Option (Int32) :=
  some (σ 121 0)
set_option maxRecDepth 4000 in
theorem G_164 {xs : Nat → Int32} {L N : Nat} (hN : 155 ≤ N)   (σ : f_M) : f_Cal a_MT xs L N 164 [.ref 0] σ ((g_164  σ).bind fun t => some (e_pi σ t)) := by
  refine f_cal_of (ls := [.ref 0]) MT_164 (Nat.le_of_ble_eq_true rfl) rfl ?_
  unfold g_164
  refine i_aload_n (pc' := 1) (f_at inc_164 (j := 0) rfl) rfl rfl ?_
  refine i_getR (pc' := 4) (f_at inc_164 (j := 1) rfl) sh_0 rfl (f_lt (o := 0) (m := 155) (Nat.le_of_ble_eq_true rfl) hN) rfl ?_
  refine i_getI (pc' := 7) (f_at inc_164 (j := 2) rfl) sh_121 rfl (f_lt (o := 121) (m := 155) (Nat.le_of_ble_eq_true rfl) hN) rfl ?_
  exact i_iret (f_at inc_164 (j := 3) rfl) rfl n_int
set_option maxRecDepth 4000 in
def g_165 (a1 : Int32) (σ : f_M) : Option (Int32 × f_M) :=
  (f_rd (f_up σ 155 6 (0 : Int32)) 156 2420 a1).bind fun v1 =>
  some (v1, (f_up σ 155 6 (0 : Int32)))
set_option maxRecDepth 4000 in
theorem G_165 {xs : Nat → Int32} {L N : Nat} (hN : 166 ≤ N) (a1 : Int32)  (σ : f_M) : f_Cal a_MT xs L N 165 [.ref 155, .int a1] σ ((g_165 a1 σ).bind fun t => some (e_wi t)) := by
  refine f_cal_of (ls := [.ref 155, .int a1]) MT_165 (Nat.le_of_ble_eq_true rfl) rfl ?_
  unfold g_165
  refine i_aload_n (pc' := 1) (f_at inc_165 (j := 0) rfl) rfl rfl ?_
  refine i_iconst (pc' := 2) (f_at inc_165 (j := 1) rfl) ci_0 rfl ?_
  refine i_putI (pc' := 5) (f_at inc_165 (j := 2) rfl) sh_155 rfl ⟨rfl, rfl⟩ (f_lt (o := 155) (m := 166) (Nat.le_of_ble_eq_true rfl) hN) rfl ?_
  refine i_aload_n (pc' := 6) (f_at inc_165 (j := 3) rfl) rfl rfl ?_
  refine i_getR (pc' := 9) (f_at inc_165 (j := 4) rfl) sh_155 rfl (f_lt (o := 155) (m := 166) (Nat.le_of_ble_eq_true rfl) hN) rfl ?_
  refine i_iload_n (pc' := 10) (f_at inc_165 (j := 5) rfl) rfl rfl ?_
  refine i_iald (pc' := 11) (f_at inc_165 (j := 6) rfl) sh_156 (f_bg (Nat.le_of_ble_eq_true rfl)) (f_lt (o := 156) (m := 166) (Nat.le_of_ble_eq_true rfl) hN) rfl fun v1 => ?_
  exact i_iret (f_at inc_165 (j := 7) rfl) rfl n_int
set_option maxRecDepth 4000 in
def g_166  (σ : f_M) : Option (Int32 × f_M) :=
  (g_165 (0 : Int32) σ).bind fun t1 =>
  some (t1.1, t1.2)
set_option maxRecDepth 4000 in
theorem G_166 {xs : Nat → Int32} {L N : Nat} (hN : 166 ≤ N)   (σ : f_M) : f_Cal a_MT xs L N 166 [.ref 155] σ ((g_166  σ).bind fun t => some (e_wi t)) := by
  refine f_cal_of (ls := [.ref 155]) MT_166 (Nat.le_of_ble_eq_true rfl) rfl ?_
  unfold g_166
  refine i_aload_n (pc' := 1) (f_at inc_166 (j := 0) rfl) rfl rfl ?_
  refine i_iconst (pc' := 2) (f_at inc_166 (j := 1) rfl) ci_0 rfl ?_
  refine c_wi (pc' := 5) (c' := 0) (n' := 0) (h_virt (ra := [.int (0 : Int32), .ref 155]) (r := []) (as := [.int (0 : Int32)]) (f_at inc_166 (j := 2) rfl) (by decide) MT_165 rfl rfl rfl ⟨Nat.le_of_ble_eq_true rfl, Nat.le_of_ble_eq_true rfl, Nat.le_of_ble_eq_true rfl⟩ sh_155 (f_lt (o := 155) (m := 166) (Nat.le_of_ble_eq_true rfl) hN)) MT_165 (G_165 hN (0 : Int32) σ) ⟨rfl, rfl, rfl⟩ fun t1 => ?_
  exact i_iret (f_at inc_166 (j := 3) rfl) rfl n_int
set_option maxRecDepth 4000 in
def g_167  (σ : f_M) : Option (Int32) :=
  some (σ 121 1)
set_option maxRecDepth 4000 in
theorem G_167 {xs : Nat → Int32} {L N : Nat} (hN : 155 ≤ N)   (σ : f_M) : f_Cal a_MT xs L N 167 [.ref 0] σ ((g_167  σ).bind fun t => some (e_pi σ t)) := by
  refine f_cal_of (ls := [.ref 0]) MT_167 (Nat.le_of_ble_eq_true rfl) rfl ?_
  unfold g_167
  refine i_aload_n (pc' := 1) (f_at inc_167 (j := 0) rfl) rfl rfl ?_
  refine i_getR (pc' := 4) (f_at inc_167 (j := 1) rfl) sh_0 rfl (f_lt (o := 0) (m := 155) (Nat.le_of_ble_eq_true rfl) hN) rfl ?_
  refine i_getI (pc' := 7) (f_at inc_167 (j := 2) rfl) sh_121 rfl (f_lt (o := 121) (m := 155) (Nat.le_of_ble_eq_true rfl) hN) rfl ?_
  exact i_iret (f_at inc_167 (j := 3) rfl) rfl n_int
set_option maxRecDepth 4000 in
def g_168  (σ : f_M) : Option (Int32 × f_M) :=
  (g_165 (1 : Int32) σ).bind fun t1 =>
  some (t1.1, t1.2)
set_option maxRecDepth 4000 in
theorem G_168 {xs : Nat → Int32} {L N : Nat} (hN : 166 ≤ N)   (σ : f_M) : f_Cal a_MT xs L N 168 [.ref 155] σ ((g_168  σ).bind fun t => some (e_wi t)) := by
  refine f_cal_of (ls := [.ref 155]) MT_168 (Nat.le_of_ble_eq_true rfl) rfl ?_
  unfold g_168
  refine i_aload_n (pc' := 1) (f_at inc_168 (j := 0) rfl) rfl rfl ?_
  refine i_iconst (pc' := 2) (f_at inc_168 (j := 1) rfl) ci_1 rfl ?_
  refine c_wi (pc' := 5) (c' := 0) (n' := 0) (h_virt (ra := [.int (1 : Int32), .ref 155]) (r := []) (as := [.int (1 : Int32)]) (f_at inc_168 (j := 2) rfl) (by decide) MT_165 rfl rfl rfl ⟨Nat.le_of_ble_eq_true rfl, Nat.le_of_ble_eq_true rfl, Nat.le_of_ble_eq_true rfl⟩ sh_155 (f_lt (o := 155) (m := 166) (Nat.le_of_ble_eq_true rfl) hN)) MT_165 (G_165 hN (1 : Int32) σ) ⟨rfl, rfl, rfl⟩ fun t1 => ?_
  exact i_iret (f_at inc_168 (j := 3) rfl) rfl n_int
set_option maxRecDepth 4000 in
def g_169  (σ : f_M) : Option (Int32) :=
  some (σ 103 0)
set_option maxRecDepth 4000 in
theorem G_169 {xs : Nat → Int32} {L N : Nat} (hN : 155 ≤ N)   (σ : f_M) : f_Cal a_MT xs L N 169 [.ref 0] σ ((g_169  σ).bind fun t => some (e_pi σ t)) := by
  refine f_cal_of (ls := [.ref 0]) MT_169 (Nat.le_of_ble_eq_true rfl) rfl ?_
  unfold g_169
  refine i_aload_n (pc' := 1) (f_at inc_169 (j := 0) rfl) rfl rfl ?_
  refine i_getR (pc' := 4) (f_at inc_169 (j := 1) rfl) sh_0 rfl (f_lt (o := 0) (m := 155) (Nat.le_of_ble_eq_true rfl) hN) rfl ?_
  refine i_getI (pc' := 7) (f_at inc_169 (j := 2) rfl) sh_103 rfl (f_lt (o := 103) (m := 155) (Nat.le_of_ble_eq_true rfl) hN) rfl ?_
  exact i_iret (f_at inc_169 (j := 3) rfl) rfl n_int
set_option maxRecDepth 4000 in
def g_170  (σ : f_M) : Option (Int32 × f_M) :=
  (g_165 (2 : Int32) σ).bind fun t1 =>
  some (t1.1, t1.2)
set_option maxRecDepth 4000 in
theorem G_170 {xs : Nat → Int32} {L N : Nat} (hN : 166 ≤ N)   (σ : f_M) : f_Cal a_MT xs L N 170 [.ref 155] σ ((g_170  σ).bind fun t => some (e_wi t)) := by
  refine f_cal_of (ls := [.ref 155]) MT_170 (Nat.le_of_ble_eq_true rfl) rfl ?_
  unfold g_170
  refine i_aload_n (pc' := 1) (f_at inc_170 (j := 0) rfl) rfl rfl ?_
  refine i_iconst (pc' := 2) (f_at inc_170 (j := 1) rfl) ci_2 rfl ?_
  refine c_wi (pc' := 5) (c' := 0) (n' := 0) (h_virt (ra := [.int (2 : Int32), .ref 155]) (r := []) (as := [.int (2 : Int32)]) (f_at inc_170 (j := 2) rfl) (by decide) MT_165 rfl rfl rfl ⟨Nat.le_of_ble_eq_true rfl, Nat.le_of_ble_eq_true rfl, Nat.le_of_ble_eq_true rfl⟩ sh_155 (f_lt (o := 155) (m := 166) (Nat.le_of_ble_eq_true rfl) hN)) MT_165 (G_165 hN (2 : Int32) σ) ⟨rfl, rfl, rfl⟩ fun t1 => ?_
  exact i_iret (f_at inc_170 (j := 3) rfl) rfl n_int
set_option maxRecDepth 4000 in
def g_171 (a0 : Int32) (a1 : Int32) (σ : f_M) : Option (Unit ⊕ Fin 4) :=
  if a0 < 0 then (
   some (.inr 0)
  ) else (
   if a0 < a1 then (
    some (.inl ())
   ) else (
    some (.inr 0)
   )
  )
set_option maxRecDepth 4000 in
theorem G_171 {xs : Nat → Int32} {L N : Nat} (hN : 155 ≤ N) (a0 : Int32) (a1 : Int32)  (σ : f_M) : f_Cal a_MT xs L N 171 [.int a0, .int a1] σ ((g_171 a0 a1 σ).bind fun t => some (e_tv σ t)) := by
  refine f_cal_of (ls := [.int a0, .int a1]) MT_171 (Nat.le_of_ble_eq_true rfl) rfl ?_
  unfold g_171
  refine i_iload_n (pc' := 1) (f_at inc_171 (j := 0) rfl) rfl rfl ?_
  refine i_if0 (pc' := 9) (nx := 4) c0_lt (f_at inc_171 (j := 1) rfl) ⟨by decide, rfl⟩ (fun b2 => ?_) (fun b2 => ?_)
  · exact i_thrw (a9 := 0) (f_at inc_171 (j := 5) rfl) ⟨rfl, by decide⟩ ⟨rfl, rfl⟩ ⟨Nat.le_of_ble_eq_true rfl, Nat.le_of_ble_eq_true rfl, Nat.le_of_ble_eq_true rfl⟩
  · refine i_iload_n (pc' := 5) (f_at inc_171 (j := 2) rfl) rfl rfl ?_
    refine i_iload_n (pc' := 6) (f_at inc_171 (j := 3) rfl) rfl rfl ?_
    refine i_if2 (pc' := 20) (nx := 9) c2_lt (f_at inc_171 (j := 4) rfl) ⟨by decide, rfl⟩ (fun b1 => ?_) (fun b1 => ?_)
    · exact i_vret (f_at inc_171 (j := 6) rfl) rfl
    · exact i_thrw (a9 := 0) (f_at inc_171 (j := 5) rfl) ⟨rfl, by decide⟩ ⟨rfl, rfl⟩ ⟨Nat.le_of_ble_eq_true rfl, Nat.le_of_ble_eq_true rfl, Nat.le_of_ble_eq_true rfl⟩
set_option maxRecDepth 4000 in
def g_172 (a1 : Int32) (σ : f_M) : Option (Unit ⊕ Fin 4) :=
  (g_171 a1 (σ 103 0) σ).bind fun t1 => Sum.elim (fun _ =>
   some (.inl ())
  ) (fun k1 => some (.inr k1)) t1
set_option maxRecDepth 4000 in
theorem G_172 {xs : Nat → Int32} {L N : Nat} (hN : 155 ≤ N) (a1 : Int32)  (σ : f_M) : f_Cal a_MT xs L N 172 [.ref 0, .int a1] σ ((g_172 a1 σ).bind fun t => some (e_tv σ t)) := by
  refine f_cal_of (ls := [.ref 0, .int a1]) MT_172 (Nat.le_of_ble_eq_true rfl) rfl ?_
  unfold g_172
  refine i_iload_n (pc' := 1) (f_at inc_172 (j := 0) rfl) rfl rfl ?_
  refine i_aload_n (pc' := 2) (f_at inc_172 (j := 1) rfl) rfl rfl ?_
  refine i_getR (pc' := 5) (f_at inc_172 (j := 2) rfl) sh_0 rfl (f_lt (o := 0) (m := 155) (Nat.le_of_ble_eq_true rfl) hN) rfl ?_
  refine i_getI (pc' := 8) (f_at inc_172 (j := 3) rfl) sh_103 rfl (f_lt (o := 103) (m := 155) (Nat.le_of_ble_eq_true rfl) hN) rfl ?_
  refine c_tv (pc' := 11) (c' := 0) (n' := 0) (h_stat (ra := [.int (σ 103 0), .int a1]) (r := []) (as := [.int a1, .int (σ 103 0)]) (f_at inc_172 (j := 4) rfl) (by decide) MT_171 rfl rfl rfl ⟨Nat.le_of_ble_eq_true rfl, Nat.le_of_ble_eq_true rfl, Nat.le_of_ble_eq_true rfl⟩) MT_171 (G_171 hN a1 (σ 103 0) σ) ⟨rfl, rfl, rfl⟩ (fun k w h => x_thr ⟨rfl, rfl⟩ h) ?_
  exact i_vret (f_at inc_172 (j := 5) rfl) rfl
set_option maxRecDepth 4000 in
def g_173 (a1 : Int32) (a2 : Int32) (σ : f_M) : Option (Int32 ⊕ Fin 4) :=
  (g_172 a1 σ).bind fun t1 => Sum.elim (fun _ =>
   if a2 < 0 then (
    some (.inl (-1 : Int32))
   ) else (
    (f_rd σ 104 8 a1).bind fun v2 =>
    if a2 < v2 then (
     (g_17 103 a1 a2 σ).bind fun t3 =>
     some (.inl t3)
    ) else (
     some (.inl (-1 : Int32))
    )
   )
  ) (fun k1 => some (.inr k1)) t1
set_option maxRecDepth 4000 in
theorem G_173 {xs : Nat → Int32} {L N : Nat} (hN : 155 ≤ N) (a1 : Int32) (a2 : Int32)  (σ : f_M) : f_Cal a_MT xs L N 173 [.ref 0, .int a1, .int a2] σ ((g_173 a1 a2 σ).bind fun t => some (e_ti σ t)) := by
  refine f_cal_of (ls := [.ref 0, .int a1, .int a2]) MT_173 (Nat.le_of_ble_eq_true rfl) rfl ?_
  unfold g_173
  refine i_aload_n (pc' := 1) (f_at inc_173 (j := 0) rfl) rfl rfl ?_
  refine i_iload_n (pc' := 2) (f_at inc_173 (j := 1) rfl) rfl rfl ?_
  refine c_tv (pc' := 5) (c' := 0) (n' := 0) (h_virt (ra := [.int a1, .ref 0]) (r := []) (as := [.int a1]) (f_at inc_173 (j := 2) rfl) (by decide) MT_172 rfl rfl rfl ⟨Nat.le_of_ble_eq_true rfl, Nat.le_of_ble_eq_true rfl, Nat.le_of_ble_eq_true rfl⟩ sh_0 (f_lt (o := 0) (m := 155) (Nat.le_of_ble_eq_true rfl) hN)) MT_172 (G_172 hN a1 σ) ⟨rfl, rfl, rfl⟩ (fun k w h => x_thr ⟨rfl, rfl⟩ h) ?_
  refine i_iload_n (pc' := 6) (f_at inc_173 (j := 3) rfl) rfl rfl ?_
  refine i_if0 (pc' := 22) (nx := 9) c0_lt (f_at inc_173 (j := 4) rfl) ⟨by decide, rfl⟩ (fun b5 => ?_) (fun b5 => ?_)
  · refine i_iconst (pc' := 23) (f_at inc_173 (j := 12) rfl) ci_m1 rfl ?_
    exact i_iret (f_at inc_173 (j := 13) rfl) rfl n_int
  · refine i_iload_n (pc' := 10) (f_at inc_173 (j := 5) rfl) rfl rfl ?_
    refine i_aload_n (pc' := 11) (f_at inc_173 (j := 6) rfl) rfl rfl ?_
    refine i_getR (pc' := 14) (f_at inc_173 (j := 7) rfl) sh_0 rfl (f_lt (o := 0) (m := 155) (Nat.le_of_ble_eq_true rfl) hN) rfl ?_
    refine i_getR (pc' := 17) (f_at inc_173 (j := 8) rfl) sh_103 rfl (f_lt (o := 103) (m := 155) (Nat.le_of_ble_eq_true rfl) hN) rfl ?_
    refine i_iload_n (pc' := 18) (f_at inc_173 (j := 9) rfl) rfl rfl ?_
    refine i_iald (pc' := 19) (f_at inc_173 (j := 10) rfl) sh_104 (f_bg (Nat.le_of_ble_eq_true rfl)) (f_lt (o := 104) (m := 155) (Nat.le_of_ble_eq_true rfl) hN) rfl fun v2 => ?_
    refine i_if2 (pc' := 24) (nx := 22) c2_lt (f_at inc_173 (j := 11) rfl) ⟨by decide, rfl⟩ (fun b4 => ?_) (fun b4 => ?_)
    · refine i_aload_n (pc' := 25) (f_at inc_173 (j := 14) rfl) rfl rfl ?_
      refine i_getR (pc' := 28) (f_at inc_173 (j := 15) rfl) sh_0 rfl (f_lt (o := 0) (m := 155) (Nat.le_of_ble_eq_true rfl) hN) rfl ?_
      refine i_iload_n (pc' := 29) (f_at inc_173 (j := 16) rfl) rfl rfl ?_
      refine i_iload_n (pc' := 30) (f_at inc_173 (j := 17) rfl) rfl rfl ?_
      refine c_pi (pc' := 33) (c' := 0) (n' := 0) (h_virt (ra := [.int a2, .int a1, .ref 103]) (r := []) (as := [.int a1, .int a2]) (f_at inc_173 (j := 18) rfl) (by decide) MT_17 rfl rfl rfl ⟨Nat.le_of_ble_eq_true rfl, Nat.le_of_ble_eq_true rfl, Nat.le_of_ble_eq_true rfl⟩ sh_103 (f_lt (o := 103) (m := 155) (Nat.le_of_ble_eq_true rfl) hN)) MT_17 (G_17 hN 103 a1 a2 f_S103 σ) ⟨rfl, rfl, rfl⟩ fun t3 => ?_
      exact i_iret (f_at inc_173 (j := 19) rfl) rfl n_int
    · refine i_iconst (pc' := 23) (f_at inc_173 (j := 12) rfl) ci_m1 rfl ?_
      exact i_iret (f_at inc_173 (j := 13) rfl) rfl n_int
set_option maxRecDepth 4000 in
def g_174 (a1 : Int32) (a2 : Int32) (σ : f_M) : Option (Int32 × f_M) :=
  (g_173 a1 a2 σ).bind fun t1 => Sum.elim (fun v1 =>
   (f_wr σ 167 1 (0 : Int32) v1).bind fun m2 =>
   some ((0 : Int32), m2)
  ) (fun k1 => (f_hc [(0, 1)] k1).bind fun v => some (v, σ)) t1
set_option maxRecDepth 4000 in
theorem G_174 {xs : Nat → Int32} {L N : Nat} (hN : 168 ≤ N) (a1 : Int32) (a2 : Int32)  (σ : f_M) : f_Cal a_MT xs L N 174 [.ref 0, .int a1, .int a2, .ref 167] σ ((g_174 a1 a2 σ).bind fun t => some (e_wi t)) := by
  refine f_cal_of (ls := [.ref 0, .int a1, .int a2, .ref 167, a_dead]) MT_174 (Nat.le_of_ble_eq_true rfl) rfl ?_
  unfold g_174
  refine i_aload_n (pc' := 1) (f_at inc_174 (j := 0) rfl) rfl rfl ?_
  refine i_iconst (pc' := 2) (f_at inc_174 (j := 1) rfl) ci_0 rfl ?_
  refine i_aload_n (pc' := 3) (f_at inc_174 (j := 2) rfl) rfl rfl ?_
  refine i_iload_n (pc' := 4) (f_at inc_174 (j := 3) rfl) rfl rfl ?_
  refine i_iload_n (pc' := 5) (f_at inc_174 (j := 4) rfl) rfl rfl ?_
  refine c_ti (pc' := 8) (c' := 0) (n' := 0) (h_virt (ra := [.int a2, .int a1, .ref 0]) (r := [.int (0 : Int32), .ref 167]) (as := [.int a1, .int a2]) (f_at inc_174 (j := 5) rfl) (by decide) MT_173 rfl rfl rfl ⟨Nat.le_of_ble_eq_true rfl, Nat.le_of_ble_eq_true rfl, Nat.le_of_ble_eq_true rfl⟩ sh_0 (f_lt (o := 0) (m := 168) (Nat.le_of_ble_eq_true rfl) hN)) MT_173 (G_173 (Nat.le_trans (Nat.le_of_ble_eq_true rfl) hN) a1 a2 σ) ⟨rfl, rfl, rfl⟩ (fun k w h => x_hdl (l := [(0, 1)]) (by decide +kernel) h) fun v1 => ?_
  refine i_i2l (pc' := 9) (f_at inc_174 (j := 6) rfl) rfl ?_
  refine i_last (pc' := 10) (f_at inc_174 (j := 7) rfl) sh_167 rfl (f_lt (o := 167) (m := 168) (Nat.le_of_ble_eq_true rfl) hN) rfl fun m2 => ?_
  refine i_goto (pc' := 17) (f_at inc_174 (j := 8) rfl) (by decide) ?_
  refine i_iconst (pc' := 18) (f_at inc_174 (j := 12) rfl) ci_0 rfl ?_
  exact i_iret (f_at inc_174 (j := 13) rfl) rfl n_int
set_option maxRecDepth 4000 in
def g_175 (a1 : Int32) (σ : f_M) : Option (Bool) :=
  (f_rd σ 156 2420 (2 : Int32)).bind fun v1 =>
  (g_46 (a1).toInt64 (0 : Int64) ((v1 - (1 : Int32))).toInt64 σ).bind fun t2 =>
  some t2
set_option maxRecDepth 4000 in
theorem G_175 {xs : Nat → Int32} {L N : Nat} (hN : 166 ≤ N) (a1 : Int32)  (σ : f_M) : f_Cal a_MT xs L N 175 [.ref 155, .int a1] σ ((g_175 a1 σ).bind fun t => some (e_pb σ t)) := by
  refine f_cal_of (ls := [.ref 155, .int a1]) MT_175 (Nat.le_of_ble_eq_true rfl) rfl ?_
  unfold g_175
  refine i_iload_n (pc' := 1) (f_at inc_175 (j := 0) rfl) rfl rfl ?_
  refine i_i2l (pc' := 2) (f_at inc_175 (j := 1) rfl) rfl ?_
  refine i_lconst (pc' := 3) (f_at inc_175 (j := 2) rfl) cl_0 rfl ?_
  refine i_aload_n (pc' := 4) (f_at inc_175 (j := 3) rfl) rfl rfl ?_
  refine i_getR (pc' := 7) (f_at inc_175 (j := 4) rfl) sh_155 rfl (f_lt (o := 155) (m := 166) (Nat.le_of_ble_eq_true rfl) hN) rfl ?_
  refine i_iconst (pc' := 8) (f_at inc_175 (j := 5) rfl) ci_2 rfl ?_
  refine i_iald (pc' := 9) (f_at inc_175 (j := 6) rfl) sh_156 (f_bg (Nat.le_of_ble_eq_true rfl)) (f_lt (o := 156) (m := 166) (Nat.le_of_ble_eq_true rfl) hN) rfl fun v1 => ?_
  refine i_iconst (pc' := 10) (f_at inc_175 (j := 7) rfl) ci_1 rfl ?_
  refine i_isub (pc' := 11) (f_at inc_175 (j := 8) rfl) rfl ?_
  refine i_i2l (pc' := 12) (f_at inc_175 (j := 9) rfl) rfl ?_
  refine c_pb (pc' := 15) (c' := 0) (n' := 0) (h_stat (ra := [.long ((v1 - (1 : Int32))).toInt64, .long (0 : Int64), .long (a1).toInt64]) (r := []) (as := [.long (a1).toInt64, .long (0 : Int64), .long ((v1 - (1 : Int32))).toInt64]) (f_at inc_175 (j := 10) rfl) (by decide) MT_46 rfl rfl rfl ⟨Nat.le_of_ble_eq_true rfl, Nat.le_of_ble_eq_true rfl, Nat.le_of_ble_eq_true rfl⟩) MT_46 (G_46 hN (a1).toInt64 (0 : Int64) ((v1 - (1 : Int32))).toInt64 σ) ⟨rfl, rfl, rfl⟩ fun t2 => ?_
  exact i_iret (v := f_b t2) (f_at inc_175 (j := 11) rfl) rfl n_bool
set_option maxRecDepth 4000 in
def g_176 (a1 : Bool) (a2 : Bool) (a3 : Bool) (σ : f_M) : Option (Bool × f_M) :=
  (
   if a1 = true then (
    if a2 = true then (
     if a3 = true then (
      some (0 : Int32)
     ) else (
      some (3 : Int32)
     )
    ) else (
     some (2 : Int32)
    )
   ) else (
    some (1 : Int32)
   )
  ).bind fun (t1 : Int32) =>
  (
   if ¬ ((f_up σ 155 6 t1) 155 6) = 0 then (
    some false
   ) else (
    some true
   )
  ).bind fun (t5 : Bool) =>
  some (t5, (f_up σ 155 6 t1))
set_option maxRecDepth 4000 in
theorem G_176 {xs : Nat → Int32} {L N : Nat} (hN : 166 ≤ N) (a1 : Bool) (a2 : Bool) (a3 : Bool)  (σ : f_M) : f_Cal a_MT xs L N 176 [.ref 155, .int (f_b a1), .int (f_b a2), .int (f_b a3)] σ ((g_176 a1 a2 a3 σ).bind fun t => some (e_wb t)) := by
  refine f_cal_of (ls := [.ref 155, .int (f_b a1), .int (f_b a2), .int (f_b a3)]) MT_176 (Nat.le_of_ble_eq_true rfl) rfl ?_
  unfold g_176
  refine i_aload_n (pc' := 1) (f_at inc_176 (j := 0) rfl) rfl rfl ?_
  refine i_iload_n (pc' := 2) (f_at inc_176 (j := 1) rfl) rfl rfl ?_
  refine s_join (J := 26) (fun (t1 : Int32) (u1 : Unit) => [.ref 155, .int (f_b a1), .int (f_b a2), .int (f_b a3)]) (fun t1 => [.int t1, .ref 155]) (fun t1 => σ) ?_ ?_
  · intro t1 u1
    refine i_putI (pc' := 29) (f_at inc_176 (j := 14) rfl) sh_155 rfl ⟨rfl, rfl⟩ (f_lt (o := 155) (m := 166) (Nat.le_of_ble_eq_true rfl) hN) rfl ?_
    refine i_aload_n (pc' := 30) (f_at inc_176 (j := 15) rfl) rfl rfl ?_
    refine i_getI (pc' := 33) (f_at inc_176 (j := 16) rfl) sh_155 rfl (f_lt (o := 155) (m := 166) (Nat.le_of_ble_eq_true rfl) hN) rfl ?_
    refine s_join (J := 41) (fun (t5 : Bool) (u5 : Unit) => [.ref 155, .int (f_b a1), .int (f_b a2), .int (f_b a3)]) (fun t5 => [.int (f_b t5)]) (fun t5 => (f_up σ 155 6 t1)) ?_ ?_
    · intro t5 u5
      exact i_iret (v := f_b t5) (f_at inc_176 (j := 21) rfl) rfl n_bool
    · intro k5 hj5
      refine i_if0 (pc' := 40) (nx := 36) c0_ne (f_at inc_176 (j := 17) rfl) ⟨by decide, rfl⟩ (fun b6 => ?_) (fun b6 => ?_)
      · refine i_iconst (pc' := 41) (f_at inc_176 (j := 20) rfl) ci_0 rfl ?_
        exact hj5 false ()
      · refine i_iconst (pc' := 37) (f_at inc_176 (j := 18) rfl) ci_1 rfl ?_
        refine i_goto (pc' := 41) (f_at inc_176 (j := 19) rfl) (by decide) ?_
        exact hj5 true ()
  · intro k1 hj1
    refine i_if0 (pc' := 9) (nx := 5) cb_ne (f_at inc_176 (j := 2) rfl) ⟨by decide, rfl⟩ (fun b4 => ?_) (fun b4 => ?_)
    · refine i_iload_n (pc' := 10) (f_at inc_176 (j := 5) rfl) rfl rfl ?_
      refine i_if0 (pc' := 17) (nx := 13) cb_ne (f_at inc_176 (j := 6) rfl) ⟨by decide, rfl⟩ (fun b3 => ?_) (fun b3 => ?_)
      · refine i_iload_n (pc' := 18) (f_at inc_176 (j := 9) rfl) rfl rfl ?_
        refine i_if0 (pc' := 25) (nx := 21) cb_ne (f_at inc_176 (j := 10) rfl) ⟨by decide, rfl⟩ (fun b2 => ?_) (fun b2 => ?_)
        · refine i_iconst (pc' := 26) (f_at inc_176 (j := 13) rfl) ci_0 rfl ?_
          exact hj1 (0 : Int32) ()
        · refine i_iconst (pc' := 22) (f_at inc_176 (j := 11) rfl) ci_3 rfl ?_
          refine i_goto (pc' := 26) (f_at inc_176 (j := 12) rfl) (by decide) ?_
          exact hj1 (3 : Int32) ()
      · refine i_iconst (pc' := 14) (f_at inc_176 (j := 7) rfl) ci_2 rfl ?_
        refine i_goto (pc' := 26) (f_at inc_176 (j := 8) rfl) (by decide) ?_
        exact hj1 (2 : Int32) ()
    · refine i_iconst (pc' := 6) (f_at inc_176 (j := 3) rfl) ci_1 rfl ?_
      refine i_goto (pc' := 26) (f_at inc_176 (j := 4) rfl) (by decide) ?_
      exact hj1 (1 : Int32) ()
set_option maxRecDepth 4000 in
def g_177 (a1 : Int32) (a2 : Int32) (σ : f_M) : Option (Int32 × f_M) :=
  (g_175 a1 σ).bind fun t1 =>
  (g_176 t1 true true σ).bind fun t2 =>
  if t2.1 = true then (
   (g_36 a1 t2.2).bind fun t3 =>
   (f_rd t2.2 156 2420 t3).bind fun v4 =>
   (g_46 (a2).toInt64 (0 : Int64) ((v4 - (1 : Int32))).toInt64 t2.2).bind fun t5 =>
   (
    if t5 = false then (
     some (-1 : Int32)
    ) else (
     (g_36 a1 t2.2).bind fun t7 =>
     (f_rd t2.2 156 2420 ((t7 + (1 : Int32)) + a2)).bind fun v8 =>
     some v8
    )
   ).bind fun (t6 : Int32) =>
   some (t6, t2.2)
  ) else (
   some ((0 : Int32), t2.2)
  )
set_option maxRecDepth 4000 in
theorem G_177 {xs : Nat → Int32} {L N : Nat} (hN : 166 ≤ N) (a1 : Int32) (a2 : Int32)  (σ : f_M) : f_Cal a_MT xs L N 177 [.ref 155, .int a1, .int a2] σ ((g_177 a1 a2 σ).bind fun t => some (e_wi t)) := by
  refine f_cal_of (ls := [.ref 155, .int a1, .int a2]) MT_177 (Nat.le_of_ble_eq_true rfl) rfl ?_
  unfold g_177
  refine i_aload_n (pc' := 1) (f_at inc_177 (j := 0) rfl) rfl rfl ?_
  refine i_aload_n (pc' := 2) (f_at inc_177 (j := 1) rfl) rfl rfl ?_
  refine i_iload_n (pc' := 3) (f_at inc_177 (j := 2) rfl) rfl rfl ?_
  refine c_pb (pc' := 6) (c' := 0) (n' := 0) (h_virt (ra := [.int a1, .ref 155]) (r := [.ref 155]) (as := [.int a1]) (f_at inc_177 (j := 3) rfl) (by decide) MT_175 rfl rfl rfl ⟨Nat.le_of_ble_eq_true rfl, Nat.le_of_ble_eq_true rfl, Nat.le_of_ble_eq_true rfl⟩ sh_155 (f_lt (o := 155) (m := 166) (Nat.le_of_ble_eq_true rfl) hN)) MT_175 (G_175 hN a1 σ) ⟨rfl, rfl, rfl⟩ fun t1 => ?_
  refine i_iconst (pc' := 7) (f_at inc_177 (j := 4) rfl) ci_1 rfl ?_
  refine i_iconst (pc' := 8) (f_at inc_177 (j := 5) rfl) ci_1 rfl ?_
  refine c_wb (pc' := 11) (c' := 0) (n' := 0) (h_virt (ra := [.int (1 : Int32), .int (1 : Int32), .int (f_b t1), .ref 155]) (r := []) (as := [.int (f_b t1), .int (1 : Int32), .int (1 : Int32)]) (f_at inc_177 (j := 6) rfl) (by decide) MT_176 rfl rfl rfl ⟨Nat.le_of_ble_eq_true rfl, Nat.le_of_ble_eq_true rfl, Nat.le_of_ble_eq_true rfl⟩ sh_155 (f_lt (o := 155) (m := 166) (Nat.le_of_ble_eq_true rfl) hN)) MT_176 (G_176 hN t1 true true σ) ⟨rfl, rfl, rfl⟩ fun t2 => ?_
  refine i_if0 (pc' := 16) (nx := 14) cb_ne (f_at inc_177 (j := 7) rfl) ⟨by decide, rfl⟩ (fun b10 => ?_) (fun b10 => ?_)
  · refine i_iload_n (pc' := 17) (f_at inc_177 (j := 10) rfl) rfl rfl ?_
    refine i_i2l (pc' := 18) (f_at inc_177 (j := 11) rfl) rfl ?_
    refine i_lconst (pc' := 19) (f_at inc_177 (j := 12) rfl) cl_0 rfl ?_
    refine i_aload_n (pc' := 20) (f_at inc_177 (j := 13) rfl) rfl rfl ?_
    refine i_getR (pc' := 23) (f_at inc_177 (j := 14) rfl) sh_155 rfl (f_lt (o := 155) (m := 166) (Nat.le_of_ble_eq_true rfl) hN) rfl ?_
    refine i_iload_n (pc' := 24) (f_at inc_177 (j := 15) rfl) rfl rfl ?_
    refine c_pi (pc' := 27) (c' := 0) (n' := 0) (h_stat (ra := [.int a1]) (r := [.ref 156, .long (0 : Int64), .long (a2).toInt64]) (as := [.int a1]) (f_at inc_177 (j := 16) rfl) (by decide) MT_36 rfl rfl rfl ⟨Nat.le_of_ble_eq_true rfl, Nat.le_of_ble_eq_true rfl, Nat.le_of_ble_eq_true rfl⟩) MT_36 (G_36 hN a1 t2.2) ⟨rfl, rfl, rfl⟩ fun t3 => ?_
    refine i_iald (pc' := 28) (f_at inc_177 (j := 17) rfl) sh_156 (f_bg (Nat.le_of_ble_eq_true rfl)) (f_lt (o := 156) (m := 166) (Nat.le_of_ble_eq_true rfl) hN) rfl fun v4 => ?_
    refine i_iconst (pc' := 29) (f_at inc_177 (j := 18) rfl) ci_1 rfl ?_
    refine i_isub (pc' := 30) (f_at inc_177 (j := 19) rfl) rfl ?_
    refine i_i2l (pc' := 31) (f_at inc_177 (j := 20) rfl) rfl ?_
    refine c_pb (pc' := 34) (c' := 0) (n' := 0) (h_stat (ra := [.long ((v4 - (1 : Int32))).toInt64, .long (0 : Int64), .long (a2).toInt64]) (r := []) (as := [.long (a2).toInt64, .long (0 : Int64), .long ((v4 - (1 : Int32))).toInt64]) (f_at inc_177 (j := 21) rfl) (by decide) MT_46 rfl rfl rfl ⟨Nat.le_of_ble_eq_true rfl, Nat.le_of_ble_eq_true rfl, Nat.le_of_ble_eq_true rfl⟩) MT_46 (G_46 hN (a2).toInt64 (0 : Int64) ((v4 - (1 : Int32))).toInt64 t2.2) ⟨rfl, rfl, rfl⟩ fun t5 => ?_
    refine s_join (J := 54) (fun (t6 : Int32) (u6 : Unit) => [.ref 155, .int a1, .int a2]) (fun t6 => [.int t6]) (fun t6 => t2.2) ?_ ?_
    · intro t6 u6
      exact i_iret (f_at inc_177 (j := 34) rfl) rfl n_int
    · intro k6 hj6
      refine i_if0 (pc' := 53) (nx := 37) cb_eq (f_at inc_177 (j := 22) rfl) ⟨by decide, rfl⟩ (fun b9 => ?_) (fun b9 => ?_)
      · refine i_iconst (pc' := 54) (f_at inc_177 (j := 33) rfl) ci_m1 rfl ?_
        exact hj6 (-1 : Int32) ()
      · refine i_aload_n (pc' := 38) (f_at inc_177 (j := 23) rfl) rfl rfl ?_
        refine i_getR (pc' := 41) (f_at inc_177 (j := 24) rfl) sh_155 rfl (f_lt (o := 155) (m := 166) (Nat.le_of_ble_eq_true rfl) hN) rfl ?_
        refine i_iload_n (pc' := 42) (f_at inc_177 (j := 25) rfl) rfl rfl ?_
        refine c_pi (pc' := 45) (c' := 0) (n' := 0) (h_stat (ra := [.int a1]) (r := [.ref 156]) (as := [.int a1]) (f_at inc_177 (j := 26) rfl) (by decide) MT_36 rfl rfl rfl ⟨Nat.le_of_ble_eq_true rfl, Nat.le_of_ble_eq_true rfl, Nat.le_of_ble_eq_true rfl⟩) MT_36 (G_36 hN a1 t2.2) ⟨rfl, rfl, rfl⟩ fun t7 => ?_
        refine i_iconst (pc' := 46) (f_at inc_177 (j := 27) rfl) ci_1 rfl ?_
        refine i_iadd (pc' := 47) (f_at inc_177 (j := 28) rfl) rfl ?_
        refine i_iload_n (pc' := 48) (f_at inc_177 (j := 29) rfl) rfl rfl ?_
        refine i_iadd (pc' := 49) (f_at inc_177 (j := 30) rfl) rfl ?_
        refine i_iald (pc' := 50) (f_at inc_177 (j := 31) rfl) sh_156 (f_bg (Nat.le_of_ble_eq_true rfl)) (f_lt (o := 156) (m := 166) (Nat.le_of_ble_eq_true rfl) hN) rfl fun v8 => ?_
        refine i_goto (pc' := 54) (f_at inc_177 (j := 32) rfl) (by decide) ?_
        exact hj6 v8 ()
  · refine i_iconst (pc' := 15) (f_at inc_177 (j := 8) rfl) ci_0 rfl ?_
    exact i_iret (f_at inc_177 (j := 9) rfl) rfl n_int
set_option maxRecDepth 4000 in
def g_178  (σ : f_M) : Option (Int32) :=
  some (σ 155 6)
set_option maxRecDepth 4000 in
theorem G_178 {xs : Nat → Int32} {L N : Nat} (hN : 166 ≤ N)   (σ : f_M) : f_Cal a_MT xs L N 178 [.ref 155] σ ((g_178  σ).bind fun t => some (e_pi σ t)) := by
  refine f_cal_of (ls := [.ref 155]) MT_178 (Nat.le_of_ble_eq_true rfl) rfl ?_
  unfold g_178
  refine i_aload_n (pc' := 1) (f_at inc_178 (j := 0) rfl) rfl rfl ?_
  refine i_getI (pc' := 4) (f_at inc_178 (j := 1) rfl) sh_155 rfl (f_lt (o := 155) (m := 166) (Nat.le_of_ble_eq_true rfl) hN) rfl ?_
  exact i_iret (f_at inc_178 (j := 2) rfl) rfl n_int
set_option maxRecDepth 4000 in
def g_179 (a1 : Int32) (σ : f_M) : Option (Int32 ⊕ Fin 4) :=
  (g_172 a1 σ).bind fun t1 => Sum.elim (fun _ =>
   (f_rd σ 122 8 a1).bind fun v2 =>
   some (.inl v2)
  ) (fun k1 => some (.inr k1)) t1
set_option maxRecDepth 4000 in
theorem G_179 {xs : Nat → Int32} {L N : Nat} (hN : 155 ≤ N) (a1 : Int32)  (σ : f_M) : f_Cal a_MT xs L N 179 [.ref 0, .int a1] σ ((g_179 a1 σ).bind fun t => some (e_ti σ t)) := by
  refine f_cal_of (ls := [.ref 0, .int a1]) MT_179 (Nat.le_of_ble_eq_true rfl) rfl ?_
  unfold g_179
  refine i_aload_n (pc' := 1) (f_at inc_179 (j := 0) rfl) rfl rfl ?_
  refine i_iload_n (pc' := 2) (f_at inc_179 (j := 1) rfl) rfl rfl ?_
  refine c_tv (pc' := 5) (c' := 0) (n' := 0) (h_virt (ra := [.int a1, .ref 0]) (r := []) (as := [.int a1]) (f_at inc_179 (j := 2) rfl) (by decide) MT_172 rfl rfl rfl ⟨Nat.le_of_ble_eq_true rfl, Nat.le_of_ble_eq_true rfl, Nat.le_of_ble_eq_true rfl⟩ sh_0 (f_lt (o := 0) (m := 155) (Nat.le_of_ble_eq_true rfl) hN)) MT_172 (G_172 hN a1 σ) ⟨rfl, rfl, rfl⟩ (fun k w h => x_thr ⟨rfl, rfl⟩ h) ?_
  refine i_aload_n (pc' := 6) (f_at inc_179 (j := 3) rfl) rfl rfl ?_
  refine i_getR (pc' := 9) (f_at inc_179 (j := 4) rfl) sh_0 rfl (f_lt (o := 0) (m := 155) (Nat.le_of_ble_eq_true rfl) hN) rfl ?_
  refine i_getR (pc' := 12) (f_at inc_179 (j := 5) rfl) sh_121 rfl (f_lt (o := 121) (m := 155) (Nat.le_of_ble_eq_true rfl) hN) rfl ?_
  refine i_iload_n (pc' := 13) (f_at inc_179 (j := 6) rfl) rfl rfl ?_
  refine i_iald (pc' := 14) (f_at inc_179 (j := 7) rfl) sh_122 (f_bg (Nat.le_of_ble_eq_true rfl)) (f_lt (o := 122) (m := 155) (Nat.le_of_ble_eq_true rfl) hN) rfl fun v2 => ?_
  exact i_iret (f_at inc_179 (j := 8) rfl) rfl n_int
set_option maxRecDepth 4000 in
def g_180 (a1 : Int32) (σ : f_M) : Option (Int32 × f_M) :=
  (g_179 a1 σ).bind fun t1 => Sum.elim (fun v1 =>
   (f_wr σ 167 1 (0 : Int32) v1).bind fun m2 =>
   some ((0 : Int32), m2)
  ) (fun k1 => (f_hc [(0, 1)] k1).bind fun v => some (v, σ)) t1
set_option maxRecDepth 4000 in
theorem G_180 {xs : Nat → Int32} {L N : Nat} (hN : 168 ≤ N) (a1 : Int32)  (σ : f_M) : f_Cal a_MT xs L N 180 [.ref 0, .int a1, .ref 167] σ ((g_180 a1 σ).bind fun t => some (e_wi t)) := by
  refine f_cal_of (ls := [.ref 0, .int a1, .ref 167, a_dead]) MT_180 (Nat.le_of_ble_eq_true rfl) rfl ?_
  unfold g_180
  refine i_aload_n (pc' := 1) (f_at inc_180 (j := 0) rfl) rfl rfl ?_
  refine i_iconst (pc' := 2) (f_at inc_180 (j := 1) rfl) ci_0 rfl ?_
  refine i_aload_n (pc' := 3) (f_at inc_180 (j := 2) rfl) rfl rfl ?_
  refine i_iload_n (pc' := 4) (f_at inc_180 (j := 3) rfl) rfl rfl ?_
  refine c_ti (pc' := 7) (c' := 0) (n' := 0) (h_virt (ra := [.int a1, .ref 0]) (r := [.int (0 : Int32), .ref 167]) (as := [.int a1]) (f_at inc_180 (j := 4) rfl) (by decide) MT_179 rfl rfl rfl ⟨Nat.le_of_ble_eq_true rfl, Nat.le_of_ble_eq_true rfl, Nat.le_of_ble_eq_true rfl⟩ sh_0 (f_lt (o := 0) (m := 168) (Nat.le_of_ble_eq_true rfl) hN)) MT_179 (G_179 (Nat.le_trans (Nat.le_of_ble_eq_true rfl) hN) a1 σ) ⟨rfl, rfl, rfl⟩ (fun k w h => x_hdl (l := [(0, 1)]) (by decide +kernel) h) fun v1 => ?_
  refine i_i2l (pc' := 8) (f_at inc_180 (j := 5) rfl) rfl ?_
  refine i_last (pc' := 9) (f_at inc_180 (j := 6) rfl) sh_167 rfl (f_lt (o := 167) (m := 168) (Nat.le_of_ble_eq_true rfl) hN) rfl fun m2 => ?_
  refine i_goto (pc' := 15) (f_at inc_180 (j := 7) rfl) (by decide) ?_
  refine i_iconst (pc' := 16) (f_at inc_180 (j := 11) rfl) ci_0 rfl ?_
  exact i_iret (f_at inc_180 (j := 12) rfl) rfl n_int
set_option maxRecDepth 4000 in
def g_181 (a1 : Int32) (σ : f_M) : Option (Int32 × f_M) :=
  (g_175 a1 σ).bind fun t1 =>
  (g_176 t1 true true σ).bind fun t2 =>
  (
   if t2.1 = false then (
    some (0 : Int32)
   ) else (
    (g_36 a1 t2.2).bind fun t4 =>
    (f_rd t2.2 156 2420 (t4 + (7 : Int32))).bind fun v5 =>
    some v5
   )
  ).bind fun (t3 : Int32) =>
  some (t3, t2.2)
set_option maxRecDepth 4000 in
theorem G_181 {xs : Nat → Int32} {L N : Nat} (hN : 166 ≤ N) (a1 : Int32)  (σ : f_M) : f_Cal a_MT xs L N 181 [.ref 155, .int a1] σ ((g_181 a1 σ).bind fun t => some (e_wi t)) := by
  refine f_cal_of (ls := [.ref 155, .int a1]) MT_181 (Nat.le_of_ble_eq_true rfl) rfl ?_
  unfold g_181
  refine i_aload_n (pc' := 1) (f_at inc_181 (j := 0) rfl) rfl rfl ?_
  refine i_aload_n (pc' := 2) (f_at inc_181 (j := 1) rfl) rfl rfl ?_
  refine i_iload_n (pc' := 3) (f_at inc_181 (j := 2) rfl) rfl rfl ?_
  refine c_pb (pc' := 6) (c' := 0) (n' := 0) (h_virt (ra := [.int a1, .ref 155]) (r := [.ref 155]) (as := [.int a1]) (f_at inc_181 (j := 3) rfl) (by decide) MT_175 rfl rfl rfl ⟨Nat.le_of_ble_eq_true rfl, Nat.le_of_ble_eq_true rfl, Nat.le_of_ble_eq_true rfl⟩ sh_155 (f_lt (o := 155) (m := 166) (Nat.le_of_ble_eq_true rfl) hN)) MT_175 (G_175 hN a1 σ) ⟨rfl, rfl, rfl⟩ fun t1 => ?_
  refine i_iconst (pc' := 7) (f_at inc_181 (j := 4) rfl) ci_1 rfl ?_
  refine i_iconst (pc' := 8) (f_at inc_181 (j := 5) rfl) ci_1 rfl ?_
  refine c_wb (pc' := 11) (c' := 0) (n' := 0) (h_virt (ra := [.int (1 : Int32), .int (1 : Int32), .int (f_b t1), .ref 155]) (r := []) (as := [.int (f_b t1), .int (1 : Int32), .int (1 : Int32)]) (f_at inc_181 (j := 6) rfl) (by decide) MT_176 rfl rfl rfl ⟨Nat.le_of_ble_eq_true rfl, Nat.le_of_ble_eq_true rfl, Nat.le_of_ble_eq_true rfl⟩ sh_155 (f_lt (o := 155) (m := 166) (Nat.le_of_ble_eq_true rfl) hN)) MT_176 (G_176 hN t1 true true σ) ⟨rfl, rfl, rfl⟩ fun t2 => ?_
  refine s_join (J := 30) (fun (t3 : Int32) (u3 : Unit) => [.ref 155, .int a1]) (fun t3 => [.int t3]) (fun t3 => t2.2) ?_ ?_
  · intro t3 u3
    exact i_iret (f_at inc_181 (j := 17) rfl) rfl n_int
  · intro k3 hj3
    refine i_if0 (pc' := 29) (nx := 14) cb_eq (f_at inc_181 (j := 7) rfl) ⟨by decide, rfl⟩ (fun b6 => ?_) (fun b6 => ?_)
    · refine i_iconst (pc' := 30) (f_at inc_181 (j := 16) rfl) ci_0 rfl ?_
      exact hj3 (0 : Int32) ()
    · refine i_aload_n (pc' := 15) (f_at inc_181 (j := 8) rfl) rfl rfl ?_
      refine i_getR (pc' := 18) (f_at inc_181 (j := 9) rfl) sh_155 rfl (f_lt (o := 155) (m := 166) (Nat.le_of_ble_eq_true rfl) hN) rfl ?_
      refine i_iload_n (pc' := 19) (f_at inc_181 (j := 10) rfl) rfl rfl ?_
      refine c_pi (pc' := 22) (c' := 0) (n' := 0) (h_stat (ra := [.int a1]) (r := [.ref 156]) (as := [.int a1]) (f_at inc_181 (j := 11) rfl) (by decide) MT_36 rfl rfl rfl ⟨Nat.le_of_ble_eq_true rfl, Nat.le_of_ble_eq_true rfl, Nat.le_of_ble_eq_true rfl⟩) MT_36 (G_36 hN a1 t2.2) ⟨rfl, rfl, rfl⟩ fun t4 => ?_
      refine i_bipush (pc' := 24) (f_at inc_181 (j := 12) rfl) cb_7 rfl ?_
      refine i_iadd (pc' := 25) (f_at inc_181 (j := 13) rfl) rfl ?_
      refine i_iald (pc' := 26) (f_at inc_181 (j := 14) rfl) sh_156 (f_bg (Nat.le_of_ble_eq_true rfl)) (f_lt (o := 156) (m := 166) (Nat.le_of_ble_eq_true rfl) hN) rfl fun v5 => ?_
      refine i_goto (pc' := 30) (f_at inc_181 (j := 15) rfl) (by decide) ?_
      exact hj3 v5 ()
set_option maxRecDepth 4000 in
def g_182 (a1 : Int32) (σ : f_M) : Option (Int32 ⊕ Fin 4) :=
  (g_172 a1 σ).bind fun t1 => Sum.elim (fun _ =>
   (f_lp (fun (s2 : Int32 × Int32) =>
    if (σ 121 3) ≤ s2.2 then (
     some (.inr s2.1)
    ) else (
     (f_rd σ 112 20 s2.2).bind fun v3 =>
     (
      if ¬ v3 = a1 then (
       some s2.1
      ) else (
       (g_76 121 s2.2 σ).bind fun t5 =>
       if t5 = false then (
        some s2.1
       ) else (
        (g_79 s2.2 σ).bind fun t6 =>
        some (s2.1 + t6)
       )
      )
     ).bind fun (t4 : Int32) =>
     some (.inl (t4, (s2.2 + (1 : Int32))))
    )
   ) f_F ((0 : Int32), (0 : Int32))).bind fun (x2 : Int32) =>
   some (.inl x2)
  ) (fun k1 => some (.inr k1)) t1
set_option maxRecDepth 4000 in
theorem G_182 {xs : Nat → Int32} {L N : Nat} (hN : 155 ≤ N) (a1 : Int32)  (σ : f_M) : f_Cal a_MT xs L N 182 [.ref 0, .int a1] σ ((g_182 a1 σ).bind fun t => some (e_ti σ t)) := by
  refine f_cal_of (ls := [.ref 0, .int a1, a_dead, a_dead]) MT_182 (Nat.le_of_ble_eq_true rfl) rfl ?_
  unfold g_182
  refine i_aload_n (pc' := 1) (f_at inc_182 (j := 0) rfl) rfl rfl ?_
  refine i_iload_n (pc' := 2) (f_at inc_182 (j := 1) rfl) rfl rfl ?_
  refine c_tv (pc' := 5) (c' := 0) (n' := 0) (h_virt (ra := [.int a1, .ref 0]) (r := []) (as := [.int a1]) (f_at inc_182 (j := 2) rfl) (by decide) MT_172 rfl rfl rfl ⟨Nat.le_of_ble_eq_true rfl, Nat.le_of_ble_eq_true rfl, Nat.le_of_ble_eq_true rfl⟩ sh_0 (f_lt (o := 0) (m := 155) (Nat.le_of_ble_eq_true rfl) hN)) MT_172 (G_172 hN a1 σ) ⟨rfl, rfl, rfl⟩ (fun k w h => x_thr ⟨rfl, rfl⟩ h) ?_
  refine i_iconst (pc' := 6) (f_at inc_182 (j := 3) rfl) ci_0 rfl ?_
  refine i_istore_n (pc' := 7) (ls' := [.ref 0, .int a1, .int (0 : Int32), a_dead]) (f_at inc_182 (j := 4) rfl) (Nat.le_of_ble_eq_true rfl) rfl rfl ?_
  refine i_iconst (pc' := 8) (f_at inc_182 (j := 5) rfl) ci_0 rfl ?_
  refine i_istore_n (pc' := 9) (ls' := [.ref 0, .int a1, .int (0 : Int32), .int (0 : Int32)]) (f_at inc_182 (j := 6) rfl) (Nat.le_of_ble_eq_true rfl) rfl rfl ?_
  refine s_lX (X := 65) ((0 : Int32), (0 : Int32)) () (fun (s2 : Int32 × Int32) (u2 : Unit) => [.ref 0, .int a1, .int s2.1, .int s2.2]) (fun (s2 : Int32 × Int32) => σ) (fun (x2 : Int32) (w2 : Value) => [.ref 0, .int a1, .int x2, w2]) (fun (x2 : Int32) => σ) ?_ ?_
  · intro x2 w2
    refine i_iload_n (pc' := 66) (f_at inc_182 (j := 35) rfl) rfl rfl ?_
    exact i_iret (f_at inc_182 (j := 36) rfl) rfl n_int
  · intro s2 u2 k2 hb2 hx2
    refine i_iload_n (pc' := 10) (f_at inc_182 (j := 7) rfl) rfl rfl ?_
    refine i_aload_n (pc' := 11) (f_at inc_182 (j := 8) rfl) rfl rfl ?_
    refine i_getR (pc' := 14) (f_at inc_182 (j := 9) rfl) sh_0 rfl (f_lt (o := 0) (m := 155) (Nat.le_of_ble_eq_true rfl) hN) rfl ?_
    refine i_getI (pc' := 17) (f_at inc_182 (j := 10) rfl) sh_121 rfl (f_lt (o := 121) (m := 155) (Nat.le_of_ble_eq_true rfl) hN) rfl ?_
    refine i_if2 (pc' := 65) (nx := 20) c2_ge (f_at inc_182 (j := 11) rfl) ⟨by decide, rfl⟩ (fun b9 => ?_) (fun b9 => ?_)
    · exact hx2 s2.1 (.int s2.2)
    · refine i_aload_n (pc' := 21) (f_at inc_182 (j := 12) rfl) rfl rfl ?_
      refine i_getR (pc' := 24) (f_at inc_182 (j := 13) rfl) sh_0 rfl (f_lt (o := 0) (m := 155) (Nat.le_of_ble_eq_true rfl) hN) rfl ?_
      refine i_getR (pc' := 27) (f_at inc_182 (j := 14) rfl) sh_108 rfl (f_lt (o := 108) (m := 155) (Nat.le_of_ble_eq_true rfl) hN) rfl ?_
      refine i_iload_n (pc' := 28) (f_at inc_182 (j := 15) rfl) rfl rfl ?_
      refine i_iald (pc' := 29) (f_at inc_182 (j := 16) rfl) sh_112 (f_bg (Nat.le_of_ble_eq_true rfl)) (f_lt (o := 112) (m := 155) (Nat.le_of_ble_eq_true rfl) hN) rfl fun v3 => ?_
      refine i_iload_n (pc' := 30) (f_at inc_182 (j := 17) rfl) rfl rfl ?_
      refine s_join (J := 59) (fun (t4 : Int32) (u4 : Unit) => [.ref 0, .int a1, .int t4, .int s2.2]) (fun t4 => []) (fun t4 => σ) ?_ ?_
      · intro t4 u4
        refine i_iinc (pc' := 62) (ls' := [.ref 0, .int a1, .int t4, .int (s2.2 + (1 : Int32))]) (f_at inc_182 (j := 33) rfl) rfl ci_1 rfl rfl ?_
        refine i_goto (pc' := 9) (f_at inc_182 (j := 34) rfl) (by decide) ?_
        exact hb2 (t4, (s2.2 + (1 : Int32))) ()
      · intro k4 hj4
        refine i_if2 (pc' := 59) (nx := 33) c2_ne (f_at inc_182 (j := 18) rfl) ⟨by decide, rfl⟩ (fun b8 => ?_) (fun b8 => ?_)
        · exact hj4 s2.1 ()
        · refine i_aload_n (pc' := 34) (f_at inc_182 (j := 19) rfl) rfl rfl ?_
          refine i_getR (pc' := 37) (f_at inc_182 (j := 20) rfl) sh_0 rfl (f_lt (o := 0) (m := 155) (Nat.le_of_ble_eq_true rfl) hN) rfl ?_
          refine i_aload_n (pc' := 38) (f_at inc_182 (j := 21) rfl) rfl rfl ?_
          refine i_getR (pc' := 41) (f_at inc_182 (j := 22) rfl) sh_0 rfl (f_lt (o := 0) (m := 155) (Nat.le_of_ble_eq_true rfl) hN) rfl ?_
          refine i_iload_n (pc' := 42) (f_at inc_182 (j := 23) rfl) rfl rfl ?_
          refine c_pb (pc' := 45) (c' := 0) (n' := 0) (h_virt (ra := [.int s2.2, .ref 121, .ref 102]) (r := []) (as := [.ref 121, .int s2.2]) (f_at inc_182 (j := 24) rfl) (by decide) MT_76 rfl rfl rfl ⟨Nat.le_of_ble_eq_true rfl, Nat.le_of_ble_eq_true rfl, Nat.le_of_ble_eq_true rfl⟩ sh_102 (f_lt (o := 102) (m := 155) (Nat.le_of_ble_eq_true rfl) hN)) MT_76 (G_76 hN 121 s2.2 f_L121 σ) ⟨rfl, rfl, rfl⟩ fun t5 => ?_
          refine i_if0 (pc' := 59) (nx := 48) cb_eq (f_at inc_182 (j := 25) rfl) ⟨by decide, rfl⟩ (fun b7 => ?_) (fun b7 => ?_)
          · exact hj4 s2.1 ()
          · refine i_iload_n (pc' := 49) (f_at inc_182 (j := 26) rfl) rfl rfl ?_
            refine i_aload_n (pc' := 50) (f_at inc_182 (j := 27) rfl) rfl rfl ?_
            refine i_getR (pc' := 53) (f_at inc_182 (j := 28) rfl) sh_0 rfl (f_lt (o := 0) (m := 155) (Nat.le_of_ble_eq_true rfl) hN) rfl ?_
            refine i_iload_n (pc' := 54) (f_at inc_182 (j := 29) rfl) rfl rfl ?_
            refine c_pi (pc' := 57) (c' := 0) (n' := 0) (h_virt (ra := [.int s2.2, .ref 108]) (r := [.int s2.1]) (as := [.int s2.2]) (f_at inc_182 (j := 30) rfl) (by decide) MT_79 rfl rfl rfl ⟨Nat.le_of_ble_eq_true rfl, Nat.le_of_ble_eq_true rfl, Nat.le_of_ble_eq_true rfl⟩ sh_108 (f_lt (o := 108) (m := 155) (Nat.le_of_ble_eq_true rfl) hN)) MT_79 (G_79 hN s2.2 σ) ⟨rfl, rfl, rfl⟩ fun t6 => ?_
            refine i_iadd (pc' := 58) (f_at inc_182 (j := 31) rfl) rfl ?_
            refine i_istore_n (pc' := 59) (ls' := [.ref 0, .int a1, .int (s2.1 + t6), .int s2.2]) (f_at inc_182 (j := 32) rfl) (Nat.le_of_ble_eq_true rfl) rfl rfl ?_
            exact hj4 (s2.1 + t6) ()
set_option maxRecDepth 4000 in
def g_183 (a1 : Int32) (σ : f_M) : Option (Int32 × f_M) :=
  (g_182 a1 σ).bind fun t1 => Sum.elim (fun v1 =>
   (f_wr σ 167 1 (0 : Int32) v1).bind fun m2 =>
   some ((0 : Int32), m2)
  ) (fun k1 => (f_hc [(0, 1)] k1).bind fun v => some (v, σ)) t1
set_option maxRecDepth 4000 in
theorem G_183 {xs : Nat → Int32} {L N : Nat} (hN : 168 ≤ N) (a1 : Int32)  (σ : f_M) : f_Cal a_MT xs L N 183 [.ref 0, .int a1, .ref 167] σ ((g_183 a1 σ).bind fun t => some (e_wi t)) := by
  refine f_cal_of (ls := [.ref 0, .int a1, .ref 167, a_dead]) MT_183 (Nat.le_of_ble_eq_true rfl) rfl ?_
  unfold g_183
  refine i_aload_n (pc' := 1) (f_at inc_183 (j := 0) rfl) rfl rfl ?_
  refine i_iconst (pc' := 2) (f_at inc_183 (j := 1) rfl) ci_0 rfl ?_
  refine i_aload_n (pc' := 3) (f_at inc_183 (j := 2) rfl) rfl rfl ?_
  refine i_iload_n (pc' := 4) (f_at inc_183 (j := 3) rfl) rfl rfl ?_
  refine c_ti (pc' := 7) (c' := 0) (n' := 0) (h_virt (ra := [.int a1, .ref 0]) (r := [.int (0 : Int32), .ref 167]) (as := [.int a1]) (f_at inc_183 (j := 4) rfl) (by decide) MT_182 rfl rfl rfl ⟨Nat.le_of_ble_eq_true rfl, Nat.le_of_ble_eq_true rfl, Nat.le_of_ble_eq_true rfl⟩ sh_0 (f_lt (o := 0) (m := 168) (Nat.le_of_ble_eq_true rfl) hN)) MT_182 (G_182 (Nat.le_trans (Nat.le_of_ble_eq_true rfl) hN) a1 σ) ⟨rfl, rfl, rfl⟩ (fun k w h => x_hdl (l := [(0, 1)]) (by decide +kernel) h) fun v1 => ?_
  refine i_i2l (pc' := 8) (f_at inc_183 (j := 5) rfl) rfl ?_
  refine i_last (pc' := 9) (f_at inc_183 (j := 6) rfl) sh_167 rfl (f_lt (o := 167) (m := 168) (Nat.le_of_ble_eq_true rfl) hN) rfl fun m2 => ?_
  refine i_goto (pc' := 15) (f_at inc_183 (j := 7) rfl) (by decide) ?_
  refine i_iconst (pc' := 16) (f_at inc_183 (j := 11) rfl) ci_0 rfl ?_
  exact i_iret (f_at inc_183 (j := 12) rfl) rfl n_int
set_option maxRecDepth 4000 in
def g_184 (a1 : Int32) (a2 : Int32) (σ : f_M) : Option (Bool) :=
  (g_119 a1 σ).bind fun t1 =>
  (f_rd σ 156 2420 (t1 + (1 : Int32))).bind fun v2 =>
  (
   if ¬ v2 = a2 then (
    some false
   ) else (
    some true
   )
  ).bind fun (t3 : Bool) =>
  some t3
set_option maxRecDepth 4000 in
theorem G_184 {xs : Nat → Int32} {L N : Nat} (hN : 166 ≤ N) (a1 : Int32) (a2 : Int32)  (σ : f_M) : f_Cal a_MT xs L N 184 [.ref 155, .int a1, .int a2] σ ((g_184 a1 a2 σ).bind fun t => some (e_pb σ t)) := by
  refine f_cal_of (ls := [.ref 155, .int a1, .int a2]) MT_184 (Nat.le_of_ble_eq_true rfl) rfl ?_
  unfold g_184
  refine i_aload_n (pc' := 1) (f_at inc_184 (j := 0) rfl) rfl rfl ?_
  refine i_getR (pc' := 4) (f_at inc_184 (j := 1) rfl) sh_155 rfl (f_lt (o := 155) (m := 166) (Nat.le_of_ble_eq_true rfl) hN) rfl ?_
  refine i_iload_n (pc' := 5) (f_at inc_184 (j := 2) rfl) rfl rfl ?_
  refine c_pi (pc' := 8) (c' := 0) (n' := 0) (h_stat (ra := [.int a1]) (r := [.ref 156]) (as := [.int a1]) (f_at inc_184 (j := 3) rfl) (by decide) MT_119 rfl rfl rfl ⟨Nat.le_of_ble_eq_true rfl, Nat.le_of_ble_eq_true rfl, Nat.le_of_ble_eq_true rfl⟩) MT_119 (G_119 hN a1 σ) ⟨rfl, rfl, rfl⟩ fun t1 => ?_
  refine i_iconst (pc' := 9) (f_at inc_184 (j := 4) rfl) ci_1 rfl ?_
  refine i_iadd (pc' := 10) (f_at inc_184 (j := 5) rfl) rfl ?_
  refine i_iald (pc' := 11) (f_at inc_184 (j := 6) rfl) sh_156 (f_bg (Nat.le_of_ble_eq_true rfl)) (f_lt (o := 156) (m := 166) (Nat.le_of_ble_eq_true rfl) hN) rfl fun v2 => ?_
  refine i_iload_n (pc' := 12) (f_at inc_184 (j := 7) rfl) rfl rfl ?_
  refine s_join (J := 20) (fun (t3 : Bool) (u3 : Unit) => [.ref 155, .int a1, .int a2]) (fun t3 => [.int (f_b t3)]) (fun t3 => σ) ?_ ?_
  · intro t3 u3
    exact i_iret (v := f_b t3) (f_at inc_184 (j := 12) rfl) rfl n_bool
  · intro k3 hj3
    refine i_if2 (pc' := 19) (nx := 15) c2_ne (f_at inc_184 (j := 8) rfl) ⟨by decide, rfl⟩ (fun b4 => ?_) (fun b4 => ?_)
    · refine i_iconst (pc' := 20) (f_at inc_184 (j := 11) rfl) ci_0 rfl ?_
      exact hj3 false ()
    · refine i_iconst (pc' := 16) (f_at inc_184 (j := 9) rfl) ci_1 rfl ?_
      refine i_goto (pc' := 20) (f_at inc_184 (j := 10) rfl) (by decide) ?_
      exact hj3 true ()
set_option maxRecDepth 4000 in
def g_185 (a1 : Int32) (σ : f_M) : Option (Int32 × f_M) :=
  (g_175 a1 σ).bind fun t1 =>
  (g_176 t1 true true σ).bind fun t2 =>
  if t2.1 = true then (
   (f_lp (fun (s3 : Int32 × Int32) =>
    (f_rd t2.2 156 2420 (4 : Int32)).bind fun v4 =>
    if v4 ≤ s3.2 then (
     some (.inr s3.1)
    ) else (
     (g_184 s3.2 a1 t2.2).bind fun t5 =>
     (
      if t5 = false then (
       some false
      ) else (
       (f_rd t2.2 156 2420 (0 : Int32)).bind fun v7 =>
       (g_122 s3.2 v7 t2.2).bind fun t8 =>
       if t8 = false then (
        some false
       ) else (
        some true
       )
      )
     ).bind fun (t6 : Bool) =>
     (
      if t6 = false then (
       some (0 : Int32)
      ) else (
       (g_119 s3.2 t2.2).bind fun t12 =>
       (f_rd t2.2 156 2420 (t12 + (7 : Int32))).bind fun v13 =>
       some v13
      )
     ).bind fun (t11 : Int32) =>
     some (.inl ((s3.1 + t11), (s3.2 + (1 : Int32))))
    )
   ) f_F ((0 : Int32), (0 : Int32))).bind fun (x3 : Int32) =>
   some (x3, t2.2)
  ) else (
   some ((0 : Int32), t2.2)
  )
set_option maxRecDepth 4000 in
theorem G_185 {xs : Nat → Int32} {L N : Nat} (hN : 166 ≤ N) (a1 : Int32)  (σ : f_M) : f_Cal a_MT xs L N 185 [.ref 155, .int a1] σ ((g_185 a1 σ).bind fun t => some (e_wi t)) := by
  refine f_cal_of (ls := [.ref 155, .int a1, a_dead, a_dead, a_dead]) MT_185 (Nat.le_of_ble_eq_true rfl) rfl ?_
  unfold g_185
  refine i_aload_n (pc' := 1) (f_at inc_185 (j := 0) rfl) rfl rfl ?_
  refine i_aload_n (pc' := 2) (f_at inc_185 (j := 1) rfl) rfl rfl ?_
  refine i_iload_n (pc' := 3) (f_at inc_185 (j := 2) rfl) rfl rfl ?_
  refine c_pb (pc' := 6) (c' := 0) (n' := 0) (h_virt (ra := [.int a1, .ref 155]) (r := [.ref 155]) (as := [.int a1]) (f_at inc_185 (j := 3) rfl) (by decide) MT_175 rfl rfl rfl ⟨Nat.le_of_ble_eq_true rfl, Nat.le_of_ble_eq_true rfl, Nat.le_of_ble_eq_true rfl⟩ sh_155 (f_lt (o := 155) (m := 166) (Nat.le_of_ble_eq_true rfl) hN)) MT_175 (G_175 hN a1 σ) ⟨rfl, rfl, rfl⟩ fun t1 => ?_
  refine i_iconst (pc' := 7) (f_at inc_185 (j := 4) rfl) ci_1 rfl ?_
  refine i_iconst (pc' := 8) (f_at inc_185 (j := 5) rfl) ci_1 rfl ?_
  refine c_wb (pc' := 11) (c' := 0) (n' := 0) (h_virt (ra := [.int (1 : Int32), .int (1 : Int32), .int (f_b t1), .ref 155]) (r := []) (as := [.int (f_b t1), .int (1 : Int32), .int (1 : Int32)]) (f_at inc_185 (j := 6) rfl) (by decide) MT_176 rfl rfl rfl ⟨Nat.le_of_ble_eq_true rfl, Nat.le_of_ble_eq_true rfl, Nat.le_of_ble_eq_true rfl⟩ sh_155 (f_lt (o := 155) (m := 166) (Nat.le_of_ble_eq_true rfl) hN)) MT_176 (G_176 hN t1 true true σ) ⟨rfl, rfl, rfl⟩ fun t2 => ?_
  refine i_if0 (pc' := 16) (nx := 14) cb_ne (f_at inc_185 (j := 7) rfl) ⟨by decide, rfl⟩ (fun b16 => ?_) (fun b16 => ?_)
  · refine i_iconst (pc' := 17) (f_at inc_185 (j := 10) rfl) ci_0 rfl ?_
    refine i_istore_n (pc' := 18) (ls' := [.ref 155, .int a1, .int (0 : Int32), a_dead, a_dead]) (f_at inc_185 (j := 11) rfl) (Nat.le_of_ble_eq_true rfl) rfl rfl ?_
    refine i_iconst (pc' := 19) (f_at inc_185 (j := 12) rfl) ci_0 rfl ?_
    refine i_istore_n (pc' := 20) (ls' := [.ref 155, .int a1, .int (0 : Int32), .int (0 : Int32), a_dead]) (f_at inc_185 (j := 13) rfl) (Nat.le_of_ble_eq_true rfl) rfl rfl ?_
    refine s_lX (X := 90) ((0 : Int32), (0 : Int32)) (a_dead) (fun (s3 : Int32 × Int32) (u3 : Value) => [.ref 155, .int a1, .int s3.1, .int s3.2, u3]) (fun (s3 : Int32 × Int32) => t2.2) (fun (x3 : Int32) (w3 : Value × Value) => [.ref 155, .int a1, .int x3, w3.1, w3.2]) (fun (x3 : Int32) => t2.2) ?_ ?_
    · intro x3 w3
      refine i_iload_n (pc' := 91) (f_at inc_185 (j := 53) rfl) rfl rfl ?_
      exact i_iret (f_at inc_185 (j := 54) rfl) rfl n_int
    · intro s3 u3 k3 hb3 hx3
      refine i_iload_n (pc' := 21) (f_at inc_185 (j := 14) rfl) rfl rfl ?_
      refine i_aload_n (pc' := 22) (f_at inc_185 (j := 15) rfl) rfl rfl ?_
      refine i_getR (pc' := 25) (f_at inc_185 (j := 16) rfl) sh_155 rfl (f_lt (o := 155) (m := 166) (Nat.le_of_ble_eq_true rfl) hN) rfl ?_
      refine i_iconst (pc' := 26) (f_at inc_185 (j := 17) rfl) ci_4 rfl ?_
      refine i_iald (pc' := 27) (f_at inc_185 (j := 18) rfl) sh_156 (f_bg (Nat.le_of_ble_eq_true rfl)) (f_lt (o := 156) (m := 166) (Nat.le_of_ble_eq_true rfl) hN) rfl fun v4 => ?_
      refine i_if2 (pc' := 90) (nx := 30) c2_ge (f_at inc_185 (j := 19) rfl) ⟨by decide, rfl⟩ (fun b15 => ?_) (fun b15 => ?_)
      · exact hx3 s3.1 (.int s3.2, u3)
      · refine i_aload_n (pc' := 31) (f_at inc_185 (j := 20) rfl) rfl rfl ?_
        refine i_iload_n (pc' := 32) (f_at inc_185 (j := 21) rfl) rfl rfl ?_
        refine i_iload_n (pc' := 33) (f_at inc_185 (j := 22) rfl) rfl rfl ?_
        refine c_pb (pc' := 36) (c' := 0) (n' := 0) (h_virt (ra := [.int a1, .int s3.2, .ref 155]) (r := []) (as := [.int s3.2, .int a1]) (f_at inc_185 (j := 23) rfl) (by decide) MT_184 rfl rfl rfl ⟨Nat.le_of_ble_eq_true rfl, Nat.le_of_ble_eq_true rfl, Nat.le_of_ble_eq_true rfl⟩ sh_155 (f_lt (o := 155) (m := 166) (Nat.le_of_ble_eq_true rfl) hN)) MT_184 (G_184 hN s3.2 a1 t2.2) ⟨rfl, rfl, rfl⟩ fun t5 => ?_
        refine s_join (J := 58) (fun (t6 : Bool) (u6 : Unit) => [.ref 155, .int a1, .int s3.1, .int s3.2, u3]) (fun t6 => [.int (f_b t6)]) (fun t6 => t2.2) ?_ ?_
        · intro t6 u6
          refine i_istore (pc' := 60) (ls' := [.ref 155, .int a1, .int s3.1, .int s3.2, .int (f_b t6)]) (f_at inc_185 (j := 36) rfl) (Nat.le_of_ble_eq_true rfl) rfl rfl ?_
          refine i_iload_n (pc' := 61) (f_at inc_185 (j := 37) rfl) rfl rfl ?_
          refine i_iload (pc' := 63) (f_at inc_185 (j := 38) rfl) rfl rfl ?_
          refine s_join (J := 82) (fun (t11 : Int32) (u11 : Unit) => [.ref 155, .int a1, .int s3.1, .int s3.2, .int (f_b t6)]) (fun t11 => [.int t11, .int s3.1]) (fun t11 => t2.2) ?_ ?_
          · intro t11 u11
            refine i_iadd (pc' := 83) (f_at inc_185 (j := 49) rfl) rfl ?_
            refine i_istore_n (pc' := 84) (ls' := [.ref 155, .int a1, .int (s3.1 + t11), .int s3.2, .int (f_b t6)]) (f_at inc_185 (j := 50) rfl) (Nat.le_of_ble_eq_true rfl) rfl rfl ?_
            refine i_iinc (pc' := 87) (ls' := [.ref 155, .int a1, .int (s3.1 + t11), .int (s3.2 + (1 : Int32)), .int (f_b t6)]) (f_at inc_185 (j := 51) rfl) rfl ci_1 rfl rfl ?_
            refine i_goto (pc' := 20) (f_at inc_185 (j := 52) rfl) (by decide) ?_
            exact hb3 ((s3.1 + t11), (s3.2 + (1 : Int32))) (.int (f_b t6))
          · intro k11 hj11
            refine i_if0 (pc' := 81) (nx := 66) cb_eq (f_at inc_185 (j := 39) rfl) ⟨by decide, rfl⟩ (fun b14 => ?_) (fun b14 => ?_)
            · refine i_iconst (pc' := 82) (f_at inc_185 (j := 48) rfl) ci_0 rfl ?_
              exact hj11 (0 : Int32) ()
            · refine i_aload_n (pc' := 67) (f_at inc_185 (j := 40) rfl) rfl rfl ?_
              refine i_getR (pc' := 70) (f_at inc_185 (j := 41) rfl) sh_155 rfl (f_lt (o := 155) (m := 166) (Nat.le_of_ble_eq_true rfl) hN) rfl ?_
              refine i_iload_n (pc' := 71) (f_at inc_185 (j := 42) rfl) rfl rfl ?_
              refine c_pi (pc' := 74) (c' := 0) (n' := 0) (h_stat (ra := [.int s3.2]) (r := [.ref 156, .int s3.1]) (as := [.int s3.2]) (f_at inc_185 (j := 43) rfl) (by decide) MT_119 rfl rfl rfl ⟨Nat.le_of_ble_eq_true rfl, Nat.le_of_ble_eq_true rfl, Nat.le_of_ble_eq_true rfl⟩) MT_119 (G_119 hN s3.2 t2.2) ⟨rfl, rfl, rfl⟩ fun t12 => ?_
              refine i_bipush (pc' := 76) (f_at inc_185 (j := 44) rfl) cb_7 rfl ?_
              refine i_iadd (pc' := 77) (f_at inc_185 (j := 45) rfl) rfl ?_
              refine i_iald (pc' := 78) (f_at inc_185 (j := 46) rfl) sh_156 (f_bg (Nat.le_of_ble_eq_true rfl)) (f_lt (o := 156) (m := 166) (Nat.le_of_ble_eq_true rfl) hN) rfl fun v13 => ?_
              refine i_goto (pc' := 82) (f_at inc_185 (j := 47) rfl) (by decide) ?_
              exact hj11 v13 ()
        · intro k6 hj6
          refine i_if0 (pc' := 57) (nx := 39) cb_eq (f_at inc_185 (j := 24) rfl) ⟨by decide, rfl⟩ (fun b10 => ?_) (fun b10 => ?_)
          · refine i_iconst (pc' := 58) (f_at inc_185 (j := 35) rfl) ci_0 rfl ?_
            exact hj6 false ()
          · refine i_aload_n (pc' := 40) (f_at inc_185 (j := 25) rfl) rfl rfl ?_
            refine i_iload_n (pc' := 41) (f_at inc_185 (j := 26) rfl) rfl rfl ?_
            refine i_aload_n (pc' := 42) (f_at inc_185 (j := 27) rfl) rfl rfl ?_
            refine i_getR (pc' := 45) (f_at inc_185 (j := 28) rfl) sh_155 rfl (f_lt (o := 155) (m := 166) (Nat.le_of_ble_eq_true rfl) hN) rfl ?_
            refine i_iconst (pc' := 46) (f_at inc_185 (j := 29) rfl) ci_0 rfl ?_
            refine i_iald (pc' := 47) (f_at inc_185 (j := 30) rfl) sh_156 (f_bg (Nat.le_of_ble_eq_true rfl)) (f_lt (o := 156) (m := 166) (Nat.le_of_ble_eq_true rfl) hN) rfl fun v7 => ?_
            refine c_pb (pc' := 50) (c' := 0) (n' := 0) (h_virt (ra := [.int v7, .int s3.2, .ref 155]) (r := []) (as := [.int s3.2, .int v7]) (f_at inc_185 (j := 31) rfl) (by decide) MT_122 rfl rfl rfl ⟨Nat.le_of_ble_eq_true rfl, Nat.le_of_ble_eq_true rfl, Nat.le_of_ble_eq_true rfl⟩ sh_155 (f_lt (o := 155) (m := 166) (Nat.le_of_ble_eq_true rfl) hN)) MT_122 (G_122 hN s3.2 v7 t2.2) ⟨rfl, rfl, rfl⟩ fun t8 => ?_
            refine i_if0 (pc' := 57) (nx := 53) cb_eq (f_at inc_185 (j := 32) rfl) ⟨by decide, rfl⟩ (fun b9 => ?_) (fun b9 => ?_)
            · refine i_iconst (pc' := 58) (f_at inc_185 (j := 35) rfl) ci_0 rfl ?_
              exact hj6 false ()
            · refine i_iconst (pc' := 54) (f_at inc_185 (j := 33) rfl) ci_1 rfl ?_
              refine i_goto (pc' := 58) (f_at inc_185 (j := 34) rfl) (by decide) ?_
              exact hj6 true ()
  · refine i_iconst (pc' := 15) (f_at inc_185 (j := 8) rfl) ci_0 rfl ?_
    exact i_iret (f_at inc_185 (j := 9) rfl) rfl n_int
