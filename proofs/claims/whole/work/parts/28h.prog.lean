/-! Flat programs. -/
set_option maxRecDepth 4000 in
def g_313  (σ : f_M) : Option (Bool × f_M) :=
  (g_312  σ).bind fun t1 =>
  some (t1.1, t1.2)
set_option maxRecDepth 4000 in
theorem G_313 {xs : Nat → Int32} {L N : Nat} (hN : 155 ≤ N)   (σ : f_M) : f_Cal a_MT xs L N 313 [.ref 0] σ ((g_313  σ).bind fun t => some (e_wb t)) := by
  refine f_cal_of (ls := [.ref 0]) MT_313 (Nat.le_of_ble_eq_true rfl) rfl ?_
  unfold g_313
  refine i_aload_n (pc' := 1) (f_at inc_313 (j := 0) rfl) rfl rfl ?_
  refine i_getR (pc' := 4) (f_at inc_313 (j := 1) rfl) sh_0 rfl (f_lt (o := 0) (m := 155) (Nat.le_of_ble_eq_true rfl) hN) rfl ?_
  refine i_aload_n (pc' := 5) (f_at inc_313 (j := 2) rfl) rfl rfl ?_
  refine i_getR (pc' := 8) (f_at inc_313 (j := 3) rfl) sh_0 rfl (f_lt (o := 0) (m := 155) (Nat.le_of_ble_eq_true rfl) hN) rfl ?_
  refine c_wb (pc' := 11) (c' := 0) (n' := 0) (h_virt (ra := [.ref 102, .ref 42]) (r := []) (as := [.ref 102]) (f_at inc_313 (j := 4) rfl) (by decide) MT_312 rfl rfl rfl ⟨Nat.le_of_ble_eq_true rfl, Nat.le_of_ble_eq_true rfl, Nat.le_of_ble_eq_true rfl⟩ sh_42 (f_lt (o := 42) (m := 155) (Nat.le_of_ble_eq_true rfl) hN)) MT_312 (G_312 hN  σ) ⟨rfl, rfl, rfl⟩ fun t1 => ?_
  exact i_iret (v := f_b t1.1) (f_at inc_313 (j := 5) rfl) rfl n_bool
set_option maxRecDepth 4000 in
def g_314  (σ : f_M) : Option (Bool) :=
  (f_lp (fun (s1 : Int32) =>
   (f_rd σ 156 2420 (5 : Int32)).bind fun v2 =>
   if v2 ≤ s1 then (
    some (.inr (.inl ()))
   ) else (
    (f_lp (fun (s3 : Int32) =>
     if s1 ≤ s3 then (
      some (.inr (.inl ()))
     ) else (
      (g_126 s1 σ).bind fun t4 =>
      (f_rd σ 156 2420 (t4 + (0 : Int32))).bind fun v5 =>
      (g_126 s3 σ).bind fun t6 =>
      (f_rd σ 156 2420 (t6 + (0 : Int32))).bind fun v7 =>
      (g_143 v5 v7 σ).bind fun t8 =>
      if t8 = false then (
       some (.inl (s3 + (1 : Int32)))
      ) else (
       some (.inr (.inr false))
      )
     )
    ) f_F (0 : Int32)).bind fun (y3 : (Unit) ⊕ (Bool)) => Sum.elim (fun x3 =>
     some (.inl (s1 + (1 : Int32)))
    ) (fun r3 => some (.inr (.inr r3))) y3
   )
  ) f_F (0 : Int32)).bind fun (y1 : (Unit) ⊕ (Bool)) => Sum.elim (fun x1 =>
   (g_283 (1 : Int32) σ).bind fun t12 =>
   (g_283 (2 : Int32) σ).bind fun t13 =>
   (g_283 (3 : Int32) σ).bind fun t14 =>
   (f_rd σ 156 2420 (10 : Int32)).bind fun v15 =>
   (
    if ¬ ((t12 + t13) + t14) = v15 then (
     some false
    ) else (
     (g_283 (0 : Int32) σ).bind fun t17 =>
     (f_rd σ 156 2420 (5 : Int32)).bind fun v18 =>
     if ¬ (((t12 + t13) + t14) + t17) = v18 then (
      some false
     ) else (
      some true
     )
    )
   ).bind fun (t16 : Bool) =>
   some t16
  ) (fun r1 => some r1) y1
set_option maxRecDepth 4000 in
theorem G_314 {xs : Nat → Int32} {L N : Nat} (hN : 166 ≤ N)   (σ : f_M) : f_Cal a_MT xs L N 314 [.ref 155] σ ((g_314  σ).bind fun t => some (e_pb σ t)) := by
  refine f_cal_of (ls := [.ref 155, a_dead, a_dead]) MT_314 (Nat.le_of_ble_eq_true rfl) rfl ?_
  unfold g_314
  refine i_iconst (pc' := 1) (f_at inc_314 (j := 0) rfl) ci_0 rfl ?_
  refine i_istore_n (pc' := 2) (ls' := [.ref 155, .int (0 : Int32), a_dead]) (f_at inc_314 (j := 1) rfl) (Nat.le_of_ble_eq_true rfl) rfl rfl ?_
  refine s_lB (X := 62) (0 : Int32) (a_dead) (fun (s1 : Int32) (u1 : Value) => [.ref 155, .int s1, u1]) (fun (s1 : Int32) => σ) (fun (x1 : Unit) (w1 : Value × Value) => [.ref 155, w1.1, w1.2]) (fun (x1 : Unit) => σ) ?_ ?_
  · intro x1 w1
    refine i_aload_n (pc' := 63) (f_at inc_314 (j := 36) rfl) rfl rfl ?_
    refine i_iconst (pc' := 64) (f_at inc_314 (j := 37) rfl) ci_1 rfl ?_
    refine c_pi (pc' := 67) (c' := 0) (n' := 0) (h_virt (ra := [.int (1 : Int32), .ref 155]) (r := []) (as := [.int (1 : Int32)]) (f_at inc_314 (j := 38) rfl) (by decide) MT_283 rfl rfl rfl ⟨Nat.le_of_ble_eq_true rfl, Nat.le_of_ble_eq_true rfl, Nat.le_of_ble_eq_true rfl⟩ sh_155 (f_lt (o := 155) (m := 166) (Nat.le_of_ble_eq_true rfl) hN)) MT_283 (G_283 hN (1 : Int32) σ) ⟨rfl, rfl, rfl⟩ fun t12 => ?_
    refine i_aload_n (pc' := 68) (f_at inc_314 (j := 39) rfl) rfl rfl ?_
    refine i_iconst (pc' := 69) (f_at inc_314 (j := 40) rfl) ci_2 rfl ?_
    refine c_pi (pc' := 72) (c' := 0) (n' := 0) (h_virt (ra := [.int (2 : Int32), .ref 155]) (r := [.int t12]) (as := [.int (2 : Int32)]) (f_at inc_314 (j := 41) rfl) (by decide) MT_283 rfl rfl rfl ⟨Nat.le_of_ble_eq_true rfl, Nat.le_of_ble_eq_true rfl, Nat.le_of_ble_eq_true rfl⟩ sh_155 (f_lt (o := 155) (m := 166) (Nat.le_of_ble_eq_true rfl) hN)) MT_283 (G_283 hN (2 : Int32) σ) ⟨rfl, rfl, rfl⟩ fun t13 => ?_
    refine i_iadd (pc' := 73) (f_at inc_314 (j := 42) rfl) rfl ?_
    refine i_aload_n (pc' := 74) (f_at inc_314 (j := 43) rfl) rfl rfl ?_
    refine i_iconst (pc' := 75) (f_at inc_314 (j := 44) rfl) ci_3 rfl ?_
    refine c_pi (pc' := 78) (c' := 0) (n' := 0) (h_virt (ra := [.int (3 : Int32), .ref 155]) (r := [.int (t12 + t13)]) (as := [.int (3 : Int32)]) (f_at inc_314 (j := 45) rfl) (by decide) MT_283 rfl rfl rfl ⟨Nat.le_of_ble_eq_true rfl, Nat.le_of_ble_eq_true rfl, Nat.le_of_ble_eq_true rfl⟩ sh_155 (f_lt (o := 155) (m := 166) (Nat.le_of_ble_eq_true rfl) hN)) MT_283 (G_283 hN (3 : Int32) σ) ⟨rfl, rfl, rfl⟩ fun t14 => ?_
    refine i_iadd (pc' := 79) (f_at inc_314 (j := 46) rfl) rfl ?_
    refine i_istore_n (pc' := 80) (ls' := [.ref 155, .int ((t12 + t13) + t14), w1.2]) (f_at inc_314 (j := 47) rfl) (Nat.le_of_ble_eq_true rfl) rfl rfl ?_
    refine i_iload_n (pc' := 81) (f_at inc_314 (j := 48) rfl) rfl rfl ?_
    refine i_aload_n (pc' := 82) (f_at inc_314 (j := 49) rfl) rfl rfl ?_
    refine i_getR (pc' := 85) (f_at inc_314 (j := 50) rfl) sh_155 rfl (f_lt (o := 155) (m := 166) (Nat.le_of_ble_eq_true rfl) hN) rfl ?_
    refine i_bipush (pc' := 87) (f_at inc_314 (j := 51) rfl) cb_10 rfl ?_
    refine i_iald (pc' := 88) (f_at inc_314 (j := 52) rfl) sh_156 (f_bg (Nat.le_of_ble_eq_true rfl)) (f_lt (o := 156) (m := 166) (Nat.le_of_ble_eq_true rfl) hN) rfl fun v15 => ?_
    refine s_join (J := 112) (fun (t16 : Bool) (u16 : Unit) => [.ref 155, .int ((t12 + t13) + t14), w1.2]) (fun t16 => [.int (f_b t16)]) (fun t16 => σ) ?_ ?_
    · intro t16 u16
      exact i_iret (v := f_b t16) (f_at inc_314 (j := 67) rfl) rfl n_bool
    · intro k16 hj16
      refine i_if2 (pc' := 111) (nx := 91) c2_ne (f_at inc_314 (j := 53) rfl) ⟨by decide, rfl⟩ (fun b20 => ?_) (fun b20 => ?_)
      · refine i_iconst (pc' := 112) (f_at inc_314 (j := 66) rfl) ci_0 rfl ?_
        exact hj16 false ()
      · refine i_iload_n (pc' := 92) (f_at inc_314 (j := 54) rfl) rfl rfl ?_
        refine i_aload_n (pc' := 93) (f_at inc_314 (j := 55) rfl) rfl rfl ?_
        refine i_iconst (pc' := 94) (f_at inc_314 (j := 56) rfl) ci_0 rfl ?_
        refine c_pi (pc' := 97) (c' := 0) (n' := 0) (h_virt (ra := [.int (0 : Int32), .ref 155]) (r := [.int ((t12 + t13) + t14)]) (as := [.int (0 : Int32)]) (f_at inc_314 (j := 57) rfl) (by decide) MT_283 rfl rfl rfl ⟨Nat.le_of_ble_eq_true rfl, Nat.le_of_ble_eq_true rfl, Nat.le_of_ble_eq_true rfl⟩ sh_155 (f_lt (o := 155) (m := 166) (Nat.le_of_ble_eq_true rfl) hN)) MT_283 (G_283 hN (0 : Int32) σ) ⟨rfl, rfl, rfl⟩ fun t17 => ?_
        refine i_iadd (pc' := 98) (f_at inc_314 (j := 58) rfl) rfl ?_
        refine i_aload_n (pc' := 99) (f_at inc_314 (j := 59) rfl) rfl rfl ?_
        refine i_getR (pc' := 102) (f_at inc_314 (j := 60) rfl) sh_155 rfl (f_lt (o := 155) (m := 166) (Nat.le_of_ble_eq_true rfl) hN) rfl ?_
        refine i_iconst (pc' := 103) (f_at inc_314 (j := 61) rfl) ci_5 rfl ?_
        refine i_iald (pc' := 104) (f_at inc_314 (j := 62) rfl) sh_156 (f_bg (Nat.le_of_ble_eq_true rfl)) (f_lt (o := 156) (m := 166) (Nat.le_of_ble_eq_true rfl) hN) rfl fun v18 => ?_
        refine i_if2 (pc' := 111) (nx := 107) c2_ne (f_at inc_314 (j := 63) rfl) ⟨by decide, rfl⟩ (fun b19 => ?_) (fun b19 => ?_)
        · refine i_iconst (pc' := 112) (f_at inc_314 (j := 66) rfl) ci_0 rfl ?_
          exact hj16 false ()
        · refine i_iconst (pc' := 108) (f_at inc_314 (j := 64) rfl) ci_1 rfl ?_
          refine i_goto (pc' := 112) (f_at inc_314 (j := 65) rfl) (by decide) ?_
          exact hj16 true ()
  · intro s1 u1 k1 hb1 hx1 hr1
    refine i_iload_n (pc' := 3) (f_at inc_314 (j := 2) rfl) rfl rfl ?_
    refine i_aload_n (pc' := 4) (f_at inc_314 (j := 3) rfl) rfl rfl ?_
    refine i_getR (pc' := 7) (f_at inc_314 (j := 4) rfl) sh_155 rfl (f_lt (o := 155) (m := 166) (Nat.le_of_ble_eq_true rfl) hN) rfl ?_
    refine i_iconst (pc' := 8) (f_at inc_314 (j := 5) rfl) ci_5 rfl ?_
    refine i_iald (pc' := 9) (f_at inc_314 (j := 6) rfl) sh_156 (f_bg (Nat.le_of_ble_eq_true rfl)) (f_lt (o := 156) (m := 166) (Nat.le_of_ble_eq_true rfl) hN) rfl fun v2 => ?_
    refine i_if2 (pc' := 62) (nx := 12) c2_ge (f_at inc_314 (j := 7) rfl) ⟨by decide, rfl⟩ (fun b11 => ?_) (fun b11 => ?_)
    · exact hx1 () (.int s1, u1)
    · refine i_iconst (pc' := 13) (f_at inc_314 (j := 8) rfl) ci_0 rfl ?_
      refine i_istore_n (pc' := 14) (ls' := [.ref 155, .int s1, .int (0 : Int32)]) (f_at inc_314 (j := 9) rfl) (Nat.le_of_ble_eq_true rfl) rfl rfl ?_
      refine s_lB (X := 56) (0 : Int32) () (fun (s3 : Int32) (u3 : Unit) => [.ref 155, .int s1, .int s3]) (fun (s3 : Int32) => σ) (fun (x3 : Unit) (w3 : Value) => [.ref 155, .int s1, w3]) (fun (x3 : Unit) => σ) ?_ ?_
      · intro x3 w3
        refine i_iinc (pc' := 59) (ls' := [.ref 155, .int (s1 + (1 : Int32)), w3]) (f_at inc_314 (j := 34) rfl) rfl ci_1 rfl rfl ?_
        refine i_goto (pc' := 2) (f_at inc_314 (j := 35) rfl) (by decide) ?_
        exact hb1 (s1 + (1 : Int32)) (w3)
      · intro s3 u3 k3 hb3 hx3 hr3
        refine i_iload_n (pc' := 15) (f_at inc_314 (j := 10) rfl) rfl rfl ?_
        refine i_iload_n (pc' := 16) (f_at inc_314 (j := 11) rfl) rfl rfl ?_
        refine i_if2 (pc' := 56) (nx := 19) c2_ge (f_at inc_314 (j := 12) rfl) ⟨by decide, rfl⟩ (fun b10 => ?_) (fun b10 => ?_)
        · exact hx3 () (.int s3)
        · refine i_aload_n (pc' := 20) (f_at inc_314 (j := 13) rfl) rfl rfl ?_
          refine i_aload_n (pc' := 21) (f_at inc_314 (j := 14) rfl) rfl rfl ?_
          refine i_getR (pc' := 24) (f_at inc_314 (j := 15) rfl) sh_155 rfl (f_lt (o := 155) (m := 166) (Nat.le_of_ble_eq_true rfl) hN) rfl ?_
          refine i_iload_n (pc' := 25) (f_at inc_314 (j := 16) rfl) rfl rfl ?_
          refine c_pi (pc' := 28) (c' := 0) (n' := 0) (h_stat (ra := [.int s1]) (r := [.ref 156, .ref 155]) (as := [.int s1]) (f_at inc_314 (j := 17) rfl) (by decide) MT_126 rfl rfl rfl ⟨Nat.le_of_ble_eq_true rfl, Nat.le_of_ble_eq_true rfl, Nat.le_of_ble_eq_true rfl⟩) MT_126 (G_126 hN s1 σ) ⟨rfl, rfl, rfl⟩ fun t4 => ?_
          refine i_iconst (pc' := 29) (f_at inc_314 (j := 18) rfl) ci_0 rfl ?_
          refine i_iadd (pc' := 30) (f_at inc_314 (j := 19) rfl) rfl ?_
          refine i_iald (pc' := 31) (f_at inc_314 (j := 20) rfl) sh_156 (f_bg (Nat.le_of_ble_eq_true rfl)) (f_lt (o := 156) (m := 166) (Nat.le_of_ble_eq_true rfl) hN) rfl fun v5 => ?_
          refine i_aload_n (pc' := 32) (f_at inc_314 (j := 21) rfl) rfl rfl ?_
          refine i_getR (pc' := 35) (f_at inc_314 (j := 22) rfl) sh_155 rfl (f_lt (o := 155) (m := 166) (Nat.le_of_ble_eq_true rfl) hN) rfl ?_
          refine i_iload_n (pc' := 36) (f_at inc_314 (j := 23) rfl) rfl rfl ?_
          refine c_pi (pc' := 39) (c' := 0) (n' := 0) (h_stat (ra := [.int s3]) (r := [.ref 156, .int v5, .ref 155]) (as := [.int s3]) (f_at inc_314 (j := 24) rfl) (by decide) MT_126 rfl rfl rfl ⟨Nat.le_of_ble_eq_true rfl, Nat.le_of_ble_eq_true rfl, Nat.le_of_ble_eq_true rfl⟩) MT_126 (G_126 hN s3 σ) ⟨rfl, rfl, rfl⟩ fun t6 => ?_
          refine i_iconst (pc' := 40) (f_at inc_314 (j := 25) rfl) ci_0 rfl ?_
          refine i_iadd (pc' := 41) (f_at inc_314 (j := 26) rfl) rfl ?_
          refine i_iald (pc' := 42) (f_at inc_314 (j := 27) rfl) sh_156 (f_bg (Nat.le_of_ble_eq_true rfl)) (f_lt (o := 156) (m := 166) (Nat.le_of_ble_eq_true rfl) hN) rfl fun v7 => ?_
          refine c_pb (pc' := 45) (c' := 0) (n' := 0) (h_virt (ra := [.int v7, .int v5, .ref 155]) (r := []) (as := [.int v5, .int v7]) (f_at inc_314 (j := 28) rfl) (by decide) MT_143 rfl rfl rfl ⟨Nat.le_of_ble_eq_true rfl, Nat.le_of_ble_eq_true rfl, Nat.le_of_ble_eq_true rfl⟩ sh_155 (f_lt (o := 155) (m := 166) (Nat.le_of_ble_eq_true rfl) hN)) MT_143 (G_143 hN v5 v7 σ) ⟨rfl, rfl, rfl⟩ fun t8 => ?_
          refine i_if0 (pc' := 50) (nx := 48) cb_eq (f_at inc_314 (j := 29) rfl) ⟨by decide, rfl⟩ (fun b9 => ?_) (fun b9 => ?_)
          · refine i_iinc (pc' := 53) (ls' := [.ref 155, .int s1, .int (s3 + (1 : Int32))]) (f_at inc_314 (j := 32) rfl) rfl ci_1 rfl rfl ?_
            refine i_goto (pc' := 14) (f_at inc_314 (j := 33) rfl) (by decide) ?_
            exact hb3 (s3 + (1 : Int32)) ()
          · refine i_iconst (pc' := 49) (f_at inc_314 (j := 30) rfl) ci_0 rfl ?_
            refine s_rt (hr3 _) ?_
            refine s_rt (hr1 _) ?_
            exact i_iret (v := f_b false) (f_at inc_314 (j := 31) rfl) rfl n_bool
set_option maxRecDepth 4000 in
def g_315 (a1 : Int32) (a2 : Int32) (σ : f_M) : Option (Int32 × f_M) :=
  (g_119 a1 σ).bind fun t1 =>
  (f_rd σ 156 2420 (t1 + (2 : Int32))).bind fun v2 =>
  (f_lp (fun (s3 : Int32 × Int32 × f_M) =>
   (g_130 a1 s3.2.2).bind fun t4 =>
   if t4 ≤ s3.2.1 then (
    some (.inr (s3.1, s3.2.2))
   ) else (
    (f_rd s3.2.2 156 2420 (a2 + s3.2.1)).bind fun v5 =>
    (f_lp (fun (s6 : Int32 × f_M) =>
     if s6.1 ≤ 0 then (
      some (.inr (s6.1, s6.2))
     ) else (
      (f_rd s6.2 164 24 (s6.1 - (1 : Int32))).bind fun v7 =>
      if v7 ≤ v5 then (
       some (.inr (s6.1, s6.2))
      ) else (
       (f_rd s6.2 164 24 (s6.1 - (1 : Int32))).bind fun v8 =>
       (f_wr s6.2 164 24 s6.1 v8).bind fun m9 =>
       some (.inl ((s6.1 + (-1 : Int32)), m9))
      )
     )
    ) f_F (s3.1, s3.2.2)).bind fun (x6 : Int32 × f_M) =>
    (f_wr x6.2 164 24 x6.1 v5).bind fun m12 =>
    some (.inl ((s3.1 + (1 : Int32)), (s3.2.1 + (1 : Int32)), m12))
   )
  ) f_F ((0 : Int32), v2, σ)).bind fun (x3 : Int32 × f_M) =>
  some (x3.1, x3.2)
set_option maxRecDepth 4000 in
theorem G_315 {xs : Nat → Int32} {L N : Nat} (hN : 166 ≤ N) (a1 : Int32) (a2 : Int32)  (σ : f_M) : f_Cal a_MT xs L N 315 [.ref 155, .int a1, .int a2] σ ((g_315 a1 a2 σ).bind fun t => some (e_wi t)) := by
  refine f_cal_of (ls := [.ref 155, .int a1, .int a2, a_dead, a_dead, a_dead, a_dead]) MT_315 (Nat.le_of_ble_eq_true rfl) rfl ?_
  unfold g_315
  refine i_iconst (pc' := 1) (f_at inc_315 (j := 0) rfl) ci_0 rfl ?_
  refine i_istore_n (pc' := 2) (ls' := [.ref 155, .int a1, .int a2, .int (0 : Int32), a_dead, a_dead, a_dead]) (f_at inc_315 (j := 1) rfl) (Nat.le_of_ble_eq_true rfl) rfl rfl ?_
  refine i_aload_n (pc' := 3) (f_at inc_315 (j := 2) rfl) rfl rfl ?_
  refine i_getR (pc' := 6) (f_at inc_315 (j := 3) rfl) sh_155 rfl (f_lt (o := 155) (m := 166) (Nat.le_of_ble_eq_true rfl) hN) rfl ?_
  refine i_iload_n (pc' := 7) (f_at inc_315 (j := 4) rfl) rfl rfl ?_
  refine c_pi (pc' := 10) (c' := 0) (n' := 0) (h_stat (ra := [.int a1]) (r := [.ref 156]) (as := [.int a1]) (f_at inc_315 (j := 5) rfl) (by decide) MT_119 rfl rfl rfl ⟨Nat.le_of_ble_eq_true rfl, Nat.le_of_ble_eq_true rfl, Nat.le_of_ble_eq_true rfl⟩) MT_119 (G_119 hN a1 σ) ⟨rfl, rfl, rfl⟩ fun t1 => ?_
  refine i_iconst (pc' := 11) (f_at inc_315 (j := 6) rfl) ci_2 rfl ?_
  refine i_iadd (pc' := 12) (f_at inc_315 (j := 7) rfl) rfl ?_
  refine i_iald (pc' := 13) (f_at inc_315 (j := 8) rfl) sh_156 (f_bg (Nat.le_of_ble_eq_true rfl)) (f_lt (o := 156) (m := 166) (Nat.le_of_ble_eq_true rfl) hN) rfl fun v2 => ?_
  refine i_istore (pc' := 15) (ls' := [.ref 155, .int a1, .int a2, .int (0 : Int32), .int v2, a_dead, a_dead]) (f_at inc_315 (j := 9) rfl) (Nat.le_of_ble_eq_true rfl) rfl rfl ?_
  refine s_lX (X := 98) ((0 : Int32), v2, σ) (a_dead, a_dead) (fun (s3 : Int32 × Int32 × f_M) (u3 : Value × Value) => [.ref 155, .int a1, .int a2, .int s3.1, .int s3.2.1, u3.1, u3.2]) (fun (s3 : Int32 × Int32 × f_M) => s3.2.2) (fun (x3 : Int32 × f_M) (w3 : Value × Value × Value) => [.ref 155, .int a1, .int a2, .int x3.1, w3.1, w3.2.1, w3.2.2]) (fun (x3 : Int32 × f_M) => x3.2) ?_ ?_
  · intro x3 w3
    refine i_iload_n (pc' := 99) (f_at inc_315 (j := 54) rfl) rfl rfl ?_
    exact i_iret (f_at inc_315 (j := 55) rfl) rfl n_int
  · intro s3 u3 k3 hb3 hx3
    refine i_iload (pc' := 17) (f_at inc_315 (j := 10) rfl) rfl rfl ?_
    refine i_aload_n (pc' := 18) (f_at inc_315 (j := 11) rfl) rfl rfl ?_
    refine i_iload_n (pc' := 19) (f_at inc_315 (j := 12) rfl) rfl rfl ?_
    refine c_pi (pc' := 22) (c' := 0) (n' := 0) (h_virt (ra := [.int a1, .ref 155]) (r := [.int s3.2.1]) (as := [.int a1]) (f_at inc_315 (j := 13) rfl) (by decide) MT_130 rfl rfl rfl ⟨Nat.le_of_ble_eq_true rfl, Nat.le_of_ble_eq_true rfl, Nat.le_of_ble_eq_true rfl⟩ sh_155 (f_lt (o := 155) (m := 166) (Nat.le_of_ble_eq_true rfl) hN)) MT_130 (G_130 hN a1 s3.2.2) ⟨rfl, rfl, rfl⟩ fun t4 => ?_
    refine i_if2 (pc' := 98) (nx := 25) c2_ge (f_at inc_315 (j := 14) rfl) ⟨by decide, rfl⟩ (fun b13 => ?_) (fun b13 => ?_)
    · exact hx3 (s3.1, s3.2.2) (.int s3.2.1, u3.1, u3.2)
    · refine i_aload_n (pc' := 26) (f_at inc_315 (j := 15) rfl) rfl rfl ?_
      refine i_getR (pc' := 29) (f_at inc_315 (j := 16) rfl) sh_155 rfl (f_lt (o := 155) (m := 166) (Nat.le_of_ble_eq_true rfl) hN) rfl ?_
      refine i_iload_n (pc' := 30) (f_at inc_315 (j := 17) rfl) rfl rfl ?_
      refine i_iload (pc' := 32) (f_at inc_315 (j := 18) rfl) rfl rfl ?_
      refine i_iadd (pc' := 33) (f_at inc_315 (j := 19) rfl) rfl ?_
      refine i_iald (pc' := 34) (f_at inc_315 (j := 20) rfl) sh_156 (f_bg (Nat.le_of_ble_eq_true rfl)) (f_lt (o := 156) (m := 166) (Nat.le_of_ble_eq_true rfl) hN) rfl fun v5 => ?_
      refine i_istore (pc' := 36) (ls' := [.ref 155, .int a1, .int a2, .int s3.1, .int s3.2.1, .int v5, u3.2]) (f_at inc_315 (j := 21) rfl) (Nat.le_of_ble_eq_true rfl) rfl rfl ?_
      refine i_iload_n (pc' := 37) (f_at inc_315 (j := 22) rfl) rfl rfl ?_
      refine i_istore (pc' := 39) (ls' := [.ref 155, .int a1, .int a2, .int s3.1, .int s3.2.1, .int v5, .int s3.1]) (f_at inc_315 (j := 23) rfl) (Nat.le_of_ble_eq_true rfl) rfl rfl ?_
      refine s_lX (X := 80) (s3.1, s3.2.2) () (fun (s6 : Int32 × f_M) (u6 : Unit) => [.ref 155, .int a1, .int a2, .int s3.1, .int s3.2.1, .int v5, .int s6.1]) (fun (s6 : Int32 × f_M) => s6.2) (fun (x6 : Int32 × f_M) (w6 : Unit) => [.ref 155, .int a1, .int a2, .int s3.1, .int s3.2.1, .int v5, .int x6.1]) (fun (x6 : Int32 × f_M) => x6.2) ?_ ?_
      · intro x6 w6
        refine i_aload_n (pc' := 81) (f_at inc_315 (j := 46) rfl) rfl rfl ?_
        refine i_getR (pc' := 84) (f_at inc_315 (j := 47) rfl) sh_155 rfl (f_lt (o := 155) (m := 166) (Nat.le_of_ble_eq_true rfl) hN) rfl ?_
        refine i_iload (pc' := 86) (f_at inc_315 (j := 48) rfl) rfl rfl ?_
        refine i_iload (pc' := 88) (f_at inc_315 (j := 49) rfl) rfl rfl ?_
        refine i_iast (pc' := 89) (f_at inc_315 (j := 50) rfl) sh_164 (f_lt (o := 164) (m := 166) (Nat.le_of_ble_eq_true rfl) hN) rfl fun m12 => ?_
        refine i_iinc (pc' := 92) (ls' := [.ref 155, .int a1, .int a2, .int (s3.1 + (1 : Int32)), .int s3.2.1, .int v5, .int x6.1]) (f_at inc_315 (j := 51) rfl) rfl ci_1 rfl rfl ?_
        refine i_iinc (pc' := 95) (ls' := [.ref 155, .int a1, .int a2, .int (s3.1 + (1 : Int32)), .int (s3.2.1 + (1 : Int32)), .int v5, .int x6.1]) (f_at inc_315 (j := 52) rfl) rfl ci_1 rfl rfl ?_
        refine i_goto (pc' := 15) (f_at inc_315 (j := 53) rfl) (by decide) ?_
        exact hb3 ((s3.1 + (1 : Int32)), (s3.2.1 + (1 : Int32)), m12) (.int v5, .int x6.1)
      · intro s6 u6 k6 hb6 hx6
        refine i_iload (pc' := 41) (f_at inc_315 (j := 24) rfl) rfl rfl ?_
        refine i_if0 (pc' := 80) (nx := 44) c0_le (f_at inc_315 (j := 25) rfl) ⟨by decide, rfl⟩ (fun b11 => ?_) (fun b11 => ?_)
        · exact hx6 (s6.1, s6.2) ()
        · refine i_aload_n (pc' := 45) (f_at inc_315 (j := 26) rfl) rfl rfl ?_
          refine i_getR (pc' := 48) (f_at inc_315 (j := 27) rfl) sh_155 rfl (f_lt (o := 155) (m := 166) (Nat.le_of_ble_eq_true rfl) hN) rfl ?_
          refine i_iload (pc' := 50) (f_at inc_315 (j := 28) rfl) rfl rfl ?_
          refine i_iconst (pc' := 51) (f_at inc_315 (j := 29) rfl) ci_1 rfl ?_
          refine i_isub (pc' := 52) (f_at inc_315 (j := 30) rfl) rfl ?_
          refine i_iald (pc' := 53) (f_at inc_315 (j := 31) rfl) sh_164 (f_bg (Nat.le_of_ble_eq_true rfl)) (f_lt (o := 164) (m := 166) (Nat.le_of_ble_eq_true rfl) hN) rfl fun v7 => ?_
          refine i_iload (pc' := 55) (f_at inc_315 (j := 32) rfl) rfl rfl ?_
          refine i_if2 (pc' := 80) (nx := 58) c2_le (f_at inc_315 (j := 33) rfl) ⟨by decide, rfl⟩ (fun b10 => ?_) (fun b10 => ?_)
          · exact hx6 (s6.1, s6.2) ()
          · refine i_aload_n (pc' := 59) (f_at inc_315 (j := 34) rfl) rfl rfl ?_
            refine i_getR (pc' := 62) (f_at inc_315 (j := 35) rfl) sh_155 rfl (f_lt (o := 155) (m := 166) (Nat.le_of_ble_eq_true rfl) hN) rfl ?_
            refine i_iload (pc' := 64) (f_at inc_315 (j := 36) rfl) rfl rfl ?_
            refine i_aload_n (pc' := 65) (f_at inc_315 (j := 37) rfl) rfl rfl ?_
            refine i_getR (pc' := 68) (f_at inc_315 (j := 38) rfl) sh_155 rfl (f_lt (o := 155) (m := 166) (Nat.le_of_ble_eq_true rfl) hN) rfl ?_
            refine i_iload (pc' := 70) (f_at inc_315 (j := 39) rfl) rfl rfl ?_
            refine i_iconst (pc' := 71) (f_at inc_315 (j := 40) rfl) ci_1 rfl ?_
            refine i_isub (pc' := 72) (f_at inc_315 (j := 41) rfl) rfl ?_
            refine i_iald (pc' := 73) (f_at inc_315 (j := 42) rfl) sh_164 (f_bg (Nat.le_of_ble_eq_true rfl)) (f_lt (o := 164) (m := 166) (Nat.le_of_ble_eq_true rfl) hN) rfl fun v8 => ?_
            refine i_iast (pc' := 74) (f_at inc_315 (j := 43) rfl) sh_164 (f_lt (o := 164) (m := 166) (Nat.le_of_ble_eq_true rfl) hN) rfl fun m9 => ?_
            refine i_iinc (pc' := 77) (ls' := [.ref 155, .int a1, .int a2, .int s3.1, .int s3.2.1, .int v5, .int (s6.1 + (-1 : Int32))]) (f_at inc_315 (j := 44) rfl) rfl ci_m1 rfl rfl ?_
            refine i_goto (pc' := 39) (f_at inc_315 (j := 45) rfl) (by decide) ?_
            exact hb6 ((s6.1 + (-1 : Int32)), m9) ()
set_option maxRecDepth 4000 in
def g_316 (a1 : Int32) (σ : f_M) : Option (Int32 × f_M) :=
  (g_119 a1 σ).bind fun t1 =>
  (f_rd σ 156 2420 (t1 + (0 : Int32))).bind fun v2 =>
  (
   if ¬ v2 = 0 then (
    some false
   ) else (
    some true
   )
  ).bind fun (t3 : Bool) =>
  (
   if t3 = false then (
    some (1420 : Int32)
   ) else (
    some (420 : Int32)
   )
  ).bind fun (t5 : Int32) =>
  (g_315 a1 t5 σ).bind fun t7 =>
  (f_lp (fun (s8 : Int32 × Int32) =>
   if s8.2 < 0 then (
    some (.inr s8.1)
   ) else (
    (g_119 a1 t7.2).bind fun t9 =>
    (f_rd t7.2 156 2420 (t9 + (5 : Int32))).bind fun v10 =>
    (g_119 a1 t7.2).bind fun t11 =>
    (f_rd t7.2 156 2420 (t11 + (6 : Int32))).bind fun v12 =>
    (
     if t3 = false then (
      (f_rd t7.2 164 24 s8.2).bind fun v14 =>
      some v14
     ) else (
      (f_rd t7.2 164 24 s8.2).bind fun v15 =>
      (
       if v15 < v10 then (
        some true
       ) else (
        (f_rd t7.2 164 24 s8.2).bind fun v17 =>
        if v17 ≤ v12 then (
         some false
        ) else (
         some true
        )
       )
      ).bind fun (t16 : Bool) =>
      (g_131 t16 t7.2).bind fun t20 =>
      some t20
     )
    ).bind fun (t13 : Int32) =>
    some (.inl ((s8.1 + t13), (s8.2 + (-1 : Int32))))
   )
  ) f_F ((0 : Int32), (t7.1 - (1 : Int32)))).bind fun (x8 : Int32) =>
  some (x8, t7.2)
set_option maxRecDepth 4000 in
theorem G_316 {xs : Nat → Int32} {L N : Nat} (hN : 166 ≤ N) (a1 : Int32)  (σ : f_M) : f_Cal a_MT xs L N 316 [.ref 155, .int a1] σ ((g_316 a1 σ).bind fun t => some (e_wi t)) := by
  refine f_cal_of (ls := [.ref 155, .int a1, a_dead, a_dead, a_dead, a_dead, a_dead, a_dead]) MT_316 (Nat.le_of_ble_eq_true rfl) rfl ?_
  unfold g_316
  refine i_aload_n (pc' := 1) (f_at inc_316 (j := 0) rfl) rfl rfl ?_
  refine i_getR (pc' := 4) (f_at inc_316 (j := 1) rfl) sh_155 rfl (f_lt (o := 155) (m := 166) (Nat.le_of_ble_eq_true rfl) hN) rfl ?_
  refine i_iload_n (pc' := 5) (f_at inc_316 (j := 2) rfl) rfl rfl ?_
  refine c_pi (pc' := 8) (c' := 0) (n' := 0) (h_stat (ra := [.int a1]) (r := [.ref 156]) (as := [.int a1]) (f_at inc_316 (j := 3) rfl) (by decide) MT_119 rfl rfl rfl ⟨Nat.le_of_ble_eq_true rfl, Nat.le_of_ble_eq_true rfl, Nat.le_of_ble_eq_true rfl⟩) MT_119 (G_119 hN a1 σ) ⟨rfl, rfl, rfl⟩ fun t1 => ?_
  refine i_iconst (pc' := 9) (f_at inc_316 (j := 4) rfl) ci_0 rfl ?_
  refine i_iadd (pc' := 10) (f_at inc_316 (j := 5) rfl) rfl ?_
  refine i_iald (pc' := 11) (f_at inc_316 (j := 6) rfl) sh_156 (f_bg (Nat.le_of_ble_eq_true rfl)) (f_lt (o := 156) (m := 166) (Nat.le_of_ble_eq_true rfl) hN) rfl fun v2 => ?_
  refine s_join (J := 19) (fun (t3 : Bool) (u3 : Unit) => [.ref 155, .int a1, a_dead, a_dead, a_dead, a_dead, a_dead, a_dead]) (fun t3 => [.int (f_b t3)]) (fun t3 => σ) ?_ ?_
  · intro t3 u3
    refine i_istore_n (pc' := 20) (ls' := [.ref 155, .int a1, .int (f_b t3), a_dead, a_dead, a_dead, a_dead, a_dead]) (f_at inc_316 (j := 11) rfl) (Nat.le_of_ble_eq_true rfl) rfl rfl ?_
    refine i_aload_n (pc' := 21) (f_at inc_316 (j := 12) rfl) rfl rfl ?_
    refine i_iload_n (pc' := 22) (f_at inc_316 (j := 13) rfl) rfl rfl ?_
    refine i_iload_n (pc' := 23) (f_at inc_316 (j := 14) rfl) rfl rfl ?_
    refine s_join (J := 35) (fun (t5 : Int32) (u5 : Unit) => [.ref 155, .int a1, .int (f_b t3), a_dead, a_dead, a_dead, a_dead, a_dead]) (fun t5 => [.int t5, .int a1, .ref 155]) (fun t5 => σ) ?_ ?_
    · intro t5 u5
      refine c_wi (pc' := 38) (c' := 0) (n' := 0) (h_virt (ra := [.int t5, .int a1, .ref 155]) (r := []) (as := [.int a1, .int t5]) (f_at inc_316 (j := 19) rfl) (by decide) MT_315 rfl rfl rfl ⟨Nat.le_of_ble_eq_true rfl, Nat.le_of_ble_eq_true rfl, Nat.le_of_ble_eq_true rfl⟩ sh_155 (f_lt (o := 155) (m := 166) (Nat.le_of_ble_eq_true rfl) hN)) MT_315 (G_315 hN a1 t5 σ) ⟨rfl, rfl, rfl⟩ fun t7 => ?_
      refine i_istore_n (pc' := 39) (ls' := [.ref 155, .int a1, .int (f_b t3), .int t7.1, a_dead, a_dead, a_dead, a_dead]) (f_at inc_316 (j := 20) rfl) (Nat.le_of_ble_eq_true rfl) rfl rfl ?_
      refine i_iconst (pc' := 40) (f_at inc_316 (j := 21) rfl) ci_0 rfl ?_
      refine i_istore (pc' := 42) (ls' := [.ref 155, .int a1, .int (f_b t3), .int t7.1, .int (0 : Int32), a_dead, a_dead, a_dead]) (f_at inc_316 (j := 22) rfl) (Nat.le_of_ble_eq_true rfl) rfl rfl ?_
      refine i_iload_n (pc' := 43) (f_at inc_316 (j := 23) rfl) rfl rfl ?_
      refine i_iconst (pc' := 44) (f_at inc_316 (j := 24) rfl) ci_1 rfl ?_
      refine i_isub (pc' := 45) (f_at inc_316 (j := 25) rfl) rfl ?_
      refine i_istore (pc' := 47) (ls' := [.ref 155, .int a1, .int (f_b t3), .int t7.1, .int (0 : Int32), .int (t7.1 - (1 : Int32)), a_dead, a_dead]) (f_at inc_316 (j := 26) rfl) (Nat.le_of_ble_eq_true rfl) rfl rfl ?_
      refine s_lX (X := 136) ((0 : Int32), (t7.1 - (1 : Int32))) (a_dead, a_dead) (fun (s8 : Int32 × Int32) (u8 : Value × Value) => [.ref 155, .int a1, .int (f_b t3), .int t7.1, .int s8.1, .int s8.2, u8.1, u8.2]) (fun (s8 : Int32 × Int32) => t7.2) (fun (x8 : Int32) (w8 : Value × Value × Value) => [.ref 155, .int a1, .int (f_b t3), .int t7.1, .int x8, w8.1, w8.2.1, w8.2.2]) (fun (x8 : Int32) => t7.2) ?_ ?_
      · intro x8 w8
        refine i_iload (pc' := 138) (f_at inc_316 (j := 73) rfl) rfl rfl ?_
        exact i_iret (f_at inc_316 (j := 74) rfl) rfl n_int
      · intro s8 u8 k8 hb8 hx8
        refine i_iload (pc' := 49) (f_at inc_316 (j := 27) rfl) rfl rfl ?_
        refine i_if0 (pc' := 136) (nx := 52) c0_lt (f_at inc_316 (j := 28) rfl) ⟨by decide, rfl⟩ (fun b22 => ?_) (fun b22 => ?_)
        · exact hx8 s8.1 (.int s8.2, u8.1, u8.2)
        · refine i_aload_n (pc' := 53) (f_at inc_316 (j := 29) rfl) rfl rfl ?_
          refine i_getR (pc' := 56) (f_at inc_316 (j := 30) rfl) sh_155 rfl (f_lt (o := 155) (m := 166) (Nat.le_of_ble_eq_true rfl) hN) rfl ?_
          refine i_iload_n (pc' := 57) (f_at inc_316 (j := 31) rfl) rfl rfl ?_
          refine c_pi (pc' := 60) (c' := 0) (n' := 0) (h_stat (ra := [.int a1]) (r := [.ref 156]) (as := [.int a1]) (f_at inc_316 (j := 32) rfl) (by decide) MT_119 rfl rfl rfl ⟨Nat.le_of_ble_eq_true rfl, Nat.le_of_ble_eq_true rfl, Nat.le_of_ble_eq_true rfl⟩) MT_119 (G_119 hN a1 t7.2) ⟨rfl, rfl, rfl⟩ fun t9 => ?_
          refine i_iconst (pc' := 61) (f_at inc_316 (j := 33) rfl) ci_5 rfl ?_
          refine i_iadd (pc' := 62) (f_at inc_316 (j := 34) rfl) rfl ?_
          refine i_iald (pc' := 63) (f_at inc_316 (j := 35) rfl) sh_156 (f_bg (Nat.le_of_ble_eq_true rfl)) (f_lt (o := 156) (m := 166) (Nat.le_of_ble_eq_true rfl) hN) rfl fun v10 => ?_
          refine i_istore (pc' := 65) (ls' := [.ref 155, .int a1, .int (f_b t3), .int t7.1, .int s8.1, .int s8.2, .int v10, u8.2]) (f_at inc_316 (j := 36) rfl) (Nat.le_of_ble_eq_true rfl) rfl rfl ?_
          refine i_aload_n (pc' := 66) (f_at inc_316 (j := 37) rfl) rfl rfl ?_
          refine i_getR (pc' := 69) (f_at inc_316 (j := 38) rfl) sh_155 rfl (f_lt (o := 155) (m := 166) (Nat.le_of_ble_eq_true rfl) hN) rfl ?_
          refine i_iload_n (pc' := 70) (f_at inc_316 (j := 39) rfl) rfl rfl ?_
          refine c_pi (pc' := 73) (c' := 0) (n' := 0) (h_stat (ra := [.int a1]) (r := [.ref 156]) (as := [.int a1]) (f_at inc_316 (j := 40) rfl) (by decide) MT_119 rfl rfl rfl ⟨Nat.le_of_ble_eq_true rfl, Nat.le_of_ble_eq_true rfl, Nat.le_of_ble_eq_true rfl⟩) MT_119 (G_119 hN a1 t7.2) ⟨rfl, rfl, rfl⟩ fun t11 => ?_
          refine i_bipush (pc' := 75) (f_at inc_316 (j := 41) rfl) cb_6 rfl ?_
          refine i_iadd (pc' := 76) (f_at inc_316 (j := 42) rfl) rfl ?_
          refine i_iald (pc' := 77) (f_at inc_316 (j := 43) rfl) sh_156 (f_bg (Nat.le_of_ble_eq_true rfl)) (f_lt (o := 156) (m := 166) (Nat.le_of_ble_eq_true rfl) hN) rfl fun v12 => ?_
          refine i_istore (pc' := 79) (ls' := [.ref 155, .int a1, .int (f_b t3), .int t7.1, .int s8.1, .int s8.2, .int v10, .int v12]) (f_at inc_316 (j := 44) rfl) (Nat.le_of_ble_eq_true rfl) rfl rfl ?_
          refine i_iload (pc' := 81) (f_at inc_316 (j := 45) rfl) rfl rfl ?_
          refine i_iload_n (pc' := 82) (f_at inc_316 (j := 46) rfl) rfl rfl ?_
          refine s_join (J := 127) (fun (t13 : Int32) (u13 : Unit) => [.ref 155, .int a1, .int (f_b t3), .int t7.1, .int s8.1, .int s8.2, .int v10, .int v12]) (fun t13 => [.int t13, .int s8.1]) (fun t13 => t7.2) ?_ ?_
          · intro t13 u13
            refine i_iadd (pc' := 128) (f_at inc_316 (j := 69) rfl) rfl ?_
            refine i_istore (pc' := 130) (ls' := [.ref 155, .int a1, .int (f_b t3), .int t7.1, .int (s8.1 + t13), .int s8.2, .int v10, .int v12]) (f_at inc_316 (j := 70) rfl) (Nat.le_of_ble_eq_true rfl) rfl rfl ?_
            refine i_iinc (pc' := 133) (ls' := [.ref 155, .int a1, .int (f_b t3), .int t7.1, .int (s8.1 + t13), .int (s8.2 + (-1 : Int32)), .int v10, .int v12]) (f_at inc_316 (j := 71) rfl) rfl ci_m1 rfl rfl ?_
            refine i_goto (pc' := 47) (f_at inc_316 (j := 72) rfl) (by decide) ?_
            exact hb8 ((s8.1 + t13), (s8.2 + (-1 : Int32))) (.int v10, .int v12)
          · intro k13 hj13
            refine i_if0 (pc' := 120) (nx := 85) cb_eq (f_at inc_316 (j := 47) rfl) ⟨by decide, rfl⟩ (fun b21 => ?_) (fun b21 => ?_)
            · refine i_aload_n (pc' := 121) (f_at inc_316 (j := 65) rfl) rfl rfl ?_
              refine i_getR (pc' := 124) (f_at inc_316 (j := 66) rfl) sh_155 rfl (f_lt (o := 155) (m := 166) (Nat.le_of_ble_eq_true rfl) hN) rfl ?_
              refine i_iload (pc' := 126) (f_at inc_316 (j := 67) rfl) rfl rfl ?_
              refine i_iald (pc' := 127) (f_at inc_316 (j := 68) rfl) sh_164 (f_bg (Nat.le_of_ble_eq_true rfl)) (f_lt (o := 164) (m := 166) (Nat.le_of_ble_eq_true rfl) hN) rfl fun v14 => ?_
              exact hj13 v14 ()
            · refine i_aload_n (pc' := 86) (f_at inc_316 (j := 48) rfl) rfl rfl ?_
              refine i_getR (pc' := 89) (f_at inc_316 (j := 49) rfl) sh_155 rfl (f_lt (o := 155) (m := 166) (Nat.le_of_ble_eq_true rfl) hN) rfl ?_
              refine i_iload (pc' := 91) (f_at inc_316 (j := 50) rfl) rfl rfl ?_
              refine i_iald (pc' := 92) (f_at inc_316 (j := 51) rfl) sh_164 (f_bg (Nat.le_of_ble_eq_true rfl)) (f_lt (o := 164) (m := 166) (Nat.le_of_ble_eq_true rfl) hN) rfl fun v15 => ?_
              refine i_iload (pc' := 94) (f_at inc_316 (j := 52) rfl) rfl rfl ?_
              refine s_join (J := 114) (fun (t16 : Bool) (u16 : Unit) => [.ref 155, .int a1, .int (f_b t3), .int t7.1, .int s8.1, .int s8.2, .int v10, .int v12]) (fun t16 => [.int (f_b t16), .int s8.1]) (fun t16 => t7.2) ?_ ?_
              · intro t16 u16
                refine c_pi (pc' := 117) (c' := 0) (n' := 0) (h_stat (ra := [.int (f_b t16)]) (r := [.int s8.1]) (as := [.int (f_b t16)]) (f_at inc_316 (j := 63) rfl) (by decide) MT_131 rfl rfl rfl ⟨Nat.le_of_ble_eq_true rfl, Nat.le_of_ble_eq_true rfl, Nat.le_of_ble_eq_true rfl⟩) MT_131 (G_131 hN t16 t7.2) ⟨rfl, rfl, rfl⟩ fun t20 => ?_
                refine i_goto (pc' := 127) (f_at inc_316 (j := 64) rfl) (by decide) ?_
                exact hj13 t20 ()
              · intro k16 hj16
                refine i_if2 (pc' := 109) (nx := 97) c2_lt (f_at inc_316 (j := 53) rfl) ⟨by decide, rfl⟩ (fun b19 => ?_) (fun b19 => ?_)
                · refine i_iconst (pc' := 110) (f_at inc_316 (j := 60) rfl) ci_1 rfl ?_
                  refine i_goto (pc' := 114) (f_at inc_316 (j := 61) rfl) (by decide) ?_
                  exact hj16 true ()
                · refine i_aload_n (pc' := 98) (f_at inc_316 (j := 54) rfl) rfl rfl ?_
                  refine i_getR (pc' := 101) (f_at inc_316 (j := 55) rfl) sh_155 rfl (f_lt (o := 155) (m := 166) (Nat.le_of_ble_eq_true rfl) hN) rfl ?_
                  refine i_iload (pc' := 103) (f_at inc_316 (j := 56) rfl) rfl rfl ?_
                  refine i_iald (pc' := 104) (f_at inc_316 (j := 57) rfl) sh_164 (f_bg (Nat.le_of_ble_eq_true rfl)) (f_lt (o := 164) (m := 166) (Nat.le_of_ble_eq_true rfl) hN) rfl fun v17 => ?_
                  refine i_iload (pc' := 106) (f_at inc_316 (j := 58) rfl) rfl rfl ?_
                  refine i_if2 (pc' := 113) (nx := 109) c2_le (f_at inc_316 (j := 59) rfl) ⟨by decide, rfl⟩ (fun b18 => ?_) (fun b18 => ?_)
                  · refine i_iconst (pc' := 114) (f_at inc_316 (j := 62) rfl) ci_0 rfl ?_
                    exact hj16 false ()
                  · refine i_iconst (pc' := 110) (f_at inc_316 (j := 60) rfl) ci_1 rfl ?_
                    refine i_goto (pc' := 114) (f_at inc_316 (j := 61) rfl) (by decide) ?_
                    exact hj16 true ()
    · intro k5 hj5
      refine i_if0 (pc' := 32) (nx := 26) cb_eq (f_at inc_316 (j := 15) rfl) ⟨by decide, rfl⟩ (fun b6 => ?_) (fun b6 => ?_)
      · refine i_sipush (pc' := 35) (f_at inc_316 (j := 18) rfl) cs_1420 rfl ?_
        exact hj5 (1420 : Int32) ()
      · refine i_sipush (pc' := 29) (f_at inc_316 (j := 16) rfl) cs_420 rfl ?_
        refine i_goto (pc' := 35) (f_at inc_316 (j := 17) rfl) (by decide) ?_
        exact hj5 (420 : Int32) ()
  · intro k3 hj3
    refine i_if0 (pc' := 18) (nx := 14) c0_ne (f_at inc_316 (j := 7) rfl) ⟨by decide, rfl⟩ (fun b4 => ?_) (fun b4 => ?_)
    · refine i_iconst (pc' := 19) (f_at inc_316 (j := 10) rfl) ci_0 rfl ?_
      exact hj3 false ()
    · refine i_iconst (pc' := 15) (f_at inc_316 (j := 8) rfl) ci_1 rfl ?_
      refine i_goto (pc' := 19) (f_at inc_316 (j := 9) rfl) (by decide) ?_
      exact hj3 true ()
set_option maxRecDepth 4000 in
def g_317  (σ : f_M) : Option (Bool × f_M) :=
  (f_lp (fun (s1 : Int32 × f_M) =>
   (f_rd s1.2 156 2420 (4 : Int32)).bind fun v2 =>
   if v2 ≤ s1.1 then (
    some (.inr (true, s1.2))
   ) else (
    (g_119 s1.1 s1.2).bind fun t3 =>
    (f_rd s1.2 156 2420 (t3 + (0 : Int32))).bind fun v4 =>
    (
     if ¬ v4 = 0 then (
      (g_133 s1.1 s1.2).bind fun t6 =>
      some t6
     ) else (
      (g_132 s1.1 s1.2).bind fun t7 =>
      some t7
     )
    ).bind fun (t5 : Int32) =>
    (g_316 s1.1 s1.2).bind fun t9 =>
    if t9.1 = t5 then (
     some (.inl ((s1.1 + (1 : Int32)), t9.2))
    ) else (
     some (.inr (false, t9.2))
    )
   )
  ) f_F ((0 : Int32), σ)).bind fun (r1 : Bool × f_M) => some r1
set_option maxRecDepth 4000 in
theorem G_317 {xs : Nat → Int32} {L N : Nat} (hN : 166 ≤ N)   (σ : f_M) : f_Cal a_MT xs L N 317 [.ref 155] σ ((g_317  σ).bind fun t => some (e_wb t)) := by
  refine f_cal_of (ls := [.ref 155, a_dead, a_dead]) MT_317 (Nat.le_of_ble_eq_true rfl) rfl ?_
  unfold g_317
  refine i_iconst (pc' := 1) (f_at inc_317 (j := 0) rfl) ci_0 rfl ?_
  refine i_istore_n (pc' := 2) (ls' := [.ref 155, .int (0 : Int32), a_dead]) (f_at inc_317 (j := 1) rfl) (Nat.le_of_ble_eq_true rfl) rfl rfl ?_
  refine s_lR ((0 : Int32), σ) (a_dead) (fun (s1 : Int32 × f_M) (u1 : Value) => [.ref 155, .int s1.1, u1]) (fun (s1 : Int32 × f_M) => s1.2) ?_
  intro s1 u1 k1 hb1 hr1
  refine i_iload_n (pc' := 3) (f_at inc_317 (j := 2) rfl) rfl rfl ?_
  refine i_aload_n (pc' := 4) (f_at inc_317 (j := 3) rfl) rfl rfl ?_
  refine i_getR (pc' := 7) (f_at inc_317 (j := 4) rfl) sh_155 rfl (f_lt (o := 155) (m := 166) (Nat.le_of_ble_eq_true rfl) hN) rfl ?_
  refine i_iconst (pc' := 8) (f_at inc_317 (j := 5) rfl) ci_4 rfl ?_
  refine i_iald (pc' := 9) (f_at inc_317 (j := 6) rfl) sh_156 (f_bg (Nat.le_of_ble_eq_true rfl)) (f_lt (o := 156) (m := 166) (Nat.le_of_ble_eq_true rfl) hN) rfl fun v2 => ?_
  refine i_if2 (pc' := 57) (nx := 12) c2_ge (f_at inc_317 (j := 7) rfl) ⟨by decide, rfl⟩ (fun b11 => ?_) (fun b11 => ?_)
  · refine i_iconst (pc' := 58) (f_at inc_317 (j := 33) rfl) ci_1 rfl ?_
    refine s_rt (hr1 _) ?_
    exact i_iret (v := f_b true) (f_at inc_317 (j := 34) rfl) rfl n_bool
  · refine i_aload_n (pc' := 13) (f_at inc_317 (j := 8) rfl) rfl rfl ?_
    refine i_getR (pc' := 16) (f_at inc_317 (j := 9) rfl) sh_155 rfl (f_lt (o := 155) (m := 166) (Nat.le_of_ble_eq_true rfl) hN) rfl ?_
    refine i_iload_n (pc' := 17) (f_at inc_317 (j := 10) rfl) rfl rfl ?_
    refine c_pi (pc' := 20) (c' := 0) (n' := 0) (h_stat (ra := [.int s1.1]) (r := [.ref 156]) (as := [.int s1.1]) (f_at inc_317 (j := 11) rfl) (by decide) MT_119 rfl rfl rfl ⟨Nat.le_of_ble_eq_true rfl, Nat.le_of_ble_eq_true rfl, Nat.le_of_ble_eq_true rfl⟩) MT_119 (G_119 hN s1.1 s1.2) ⟨rfl, rfl, rfl⟩ fun t3 => ?_
    refine i_iconst (pc' := 21) (f_at inc_317 (j := 12) rfl) ci_0 rfl ?_
    refine i_iadd (pc' := 22) (f_at inc_317 (j := 13) rfl) rfl ?_
    refine i_iald (pc' := 23) (f_at inc_317 (j := 14) rfl) sh_156 (f_bg (Nat.le_of_ble_eq_true rfl)) (f_lt (o := 156) (m := 166) (Nat.le_of_ble_eq_true rfl) hN) rfl fun v4 => ?_
    refine s_join (J := 39) (fun (t5 : Int32) (u5 : Unit) => [.ref 155, .int s1.1, u1]) (fun t5 => [.int t5]) (fun t5 => s1.2) ?_ ?_
    · intro t5 u5
      refine i_istore_n (pc' := 40) (ls' := [.ref 155, .int s1.1, .int t5]) (f_at inc_317 (j := 23) rfl) (Nat.le_of_ble_eq_true rfl) rfl rfl ?_
      refine i_aload_n (pc' := 41) (f_at inc_317 (j := 24) rfl) rfl rfl ?_
      refine i_iload_n (pc' := 42) (f_at inc_317 (j := 25) rfl) rfl rfl ?_
      refine c_wi (pc' := 45) (c' := 0) (n' := 0) (h_virt (ra := [.int s1.1, .ref 155]) (r := []) (as := [.int s1.1]) (f_at inc_317 (j := 26) rfl) (by decide) MT_316 rfl rfl rfl ⟨Nat.le_of_ble_eq_true rfl, Nat.le_of_ble_eq_true rfl, Nat.le_of_ble_eq_true rfl⟩ sh_155 (f_lt (o := 155) (m := 166) (Nat.le_of_ble_eq_true rfl) hN)) MT_316 (G_316 hN s1.1 s1.2) ⟨rfl, rfl, rfl⟩ fun t9 => ?_
      refine i_iload_n (pc' := 46) (f_at inc_317 (j := 27) rfl) rfl rfl ?_
      refine i_if2 (pc' := 51) (nx := 49) c2_eq (f_at inc_317 (j := 28) rfl) ⟨by decide, rfl⟩ (fun b10 => ?_) (fun b10 => ?_)
      · refine i_iinc (pc' := 54) (ls' := [.ref 155, .int (s1.1 + (1 : Int32)), .int t5]) (f_at inc_317 (j := 31) rfl) rfl ci_1 rfl rfl ?_
        refine i_goto (pc' := 2) (f_at inc_317 (j := 32) rfl) (by decide) ?_
        exact hb1 ((s1.1 + (1 : Int32)), t9.2) (.int t5)
      · refine i_iconst (pc' := 50) (f_at inc_317 (j := 29) rfl) ci_0 rfl ?_
        refine s_rt (hr1 _) ?_
        exact i_iret (v := f_b false) (f_at inc_317 (j := 30) rfl) rfl n_bool
    · intro k5 hj5
      refine i_if0 (pc' := 34) (nx := 26) c0_ne (f_at inc_317 (j := 15) rfl) ⟨by decide, rfl⟩ (fun b8 => ?_) (fun b8 => ?_)
      · refine i_aload_n (pc' := 35) (f_at inc_317 (j := 20) rfl) rfl rfl ?_
        refine i_iload_n (pc' := 36) (f_at inc_317 (j := 21) rfl) rfl rfl ?_
        refine c_pi (pc' := 39) (c' := 0) (n' := 0) (h_virt (ra := [.int s1.1, .ref 155]) (r := []) (as := [.int s1.1]) (f_at inc_317 (j := 22) rfl) (by decide) MT_133 rfl rfl rfl ⟨Nat.le_of_ble_eq_true rfl, Nat.le_of_ble_eq_true rfl, Nat.le_of_ble_eq_true rfl⟩ sh_155 (f_lt (o := 155) (m := 166) (Nat.le_of_ble_eq_true rfl) hN)) MT_133 (G_133 hN s1.1 s1.2) ⟨rfl, rfl, rfl⟩ fun t6 => ?_
        exact hj5 t6 ()
      · refine i_aload_n (pc' := 27) (f_at inc_317 (j := 16) rfl) rfl rfl ?_
        refine i_iload_n (pc' := 28) (f_at inc_317 (j := 17) rfl) rfl rfl ?_
        refine c_pi (pc' := 31) (c' := 0) (n' := 0) (h_virt (ra := [.int s1.1, .ref 155]) (r := []) (as := [.int s1.1]) (f_at inc_317 (j := 18) rfl) (by decide) MT_132 rfl rfl rfl ⟨Nat.le_of_ble_eq_true rfl, Nat.le_of_ble_eq_true rfl, Nat.le_of_ble_eq_true rfl⟩ sh_155 (f_lt (o := 155) (m := 166) (Nat.le_of_ble_eq_true rfl) hN)) MT_132 (G_132 hN s1.1 s1.2) ⟨rfl, rfl, rfl⟩ fun t7 => ?_
        refine i_goto (pc' := 39) (f_at inc_317 (j := 19) rfl) (by decide) ?_
        exact hj5 t7 ()
set_option maxRecDepth 4000 in
def g_318  (σ : f_M) : Option (Bool × f_M) :=
  (g_39  (f_up σ 155 6 (0 : Int32))).bind fun t1 =>
  (f_rd (f_up σ 155 6 (0 : Int32)) 156 2420 (9 : Int32)).bind fun v2 =>
  (f_rd (f_up σ 155 6 (0 : Int32)) 156 2420 (8 : Int32)).bind fun v3 =>
  (
   if ¬ t1 = (v2 + v3) then (
    some false
   ) else (
    some true
   )
  ).bind fun (t4 : Bool) =>
  (
   if t4 = false then (
    some (false, (f_up σ 155 6 (0 : Int32)))
   ) else (
    (g_267 (3 : Int32) (f_up σ 155 6 (0 : Int32))).bind fun t7 =>
    (f_rd (f_up σ 155 6 (0 : Int32)) 156 2420 (7 : Int32)).bind fun v8 =>
    if ¬ t7 = v8 then (
     some (false, (f_up σ 155 6 (0 : Int32)))
    ) else (
     (g_314  (f_up σ 155 6 (0 : Int32))).bind fun t9 =>
     if t9 = false then (
      some (false, (f_up σ 155 6 (0 : Int32)))
     ) else (
      (g_317  (f_up σ 155 6 (0 : Int32))).bind fun t10 =>
      if t10.1 = false then (
       some (false, t10.2)
      ) else (
       some (true, t10.2)
      )
     )
    )
   )
  ).bind fun (t6 : Bool × f_M) =>
  some (t6.1, t6.2)
set_option maxRecDepth 4000 in
theorem G_318 {xs : Nat → Int32} {L N : Nat} (hN : 166 ≤ N)   (σ : f_M) : f_Cal a_MT xs L N 318 [.ref 155] σ ((g_318  σ).bind fun t => some (e_wb t)) := by
  refine f_cal_of (ls := [.ref 155, a_dead]) MT_318 (Nat.le_of_ble_eq_true rfl) rfl ?_
  unfold g_318
  refine i_aload_n (pc' := 1) (f_at inc_318 (j := 0) rfl) rfl rfl ?_
  refine i_iconst (pc' := 2) (f_at inc_318 (j := 1) rfl) ci_0 rfl ?_
  refine i_putI (pc' := 5) (f_at inc_318 (j := 2) rfl) sh_155 rfl ⟨rfl, rfl⟩ (f_lt (o := 155) (m := 166) (Nat.le_of_ble_eq_true rfl) hN) rfl ?_
  refine i_aload_n (pc' := 6) (f_at inc_318 (j := 3) rfl) rfl rfl ?_
  refine c_pi (pc' := 9) (c' := 0) (n' := 0) (h_virt (ra := [.ref 155]) (r := []) (as := []) (f_at inc_318 (j := 4) rfl) (by decide) MT_39 rfl rfl rfl ⟨Nat.le_of_ble_eq_true rfl, Nat.le_of_ble_eq_true rfl, Nat.le_of_ble_eq_true rfl⟩ sh_155 (f_lt (o := 155) (m := 166) (Nat.le_of_ble_eq_true rfl) hN)) MT_39 (G_39 hN  (f_up σ 155 6 (0 : Int32))) ⟨rfl, rfl, rfl⟩ fun t1 => ?_
  refine i_aload_n (pc' := 10) (f_at inc_318 (j := 5) rfl) rfl rfl ?_
  refine i_getR (pc' := 13) (f_at inc_318 (j := 6) rfl) sh_155 rfl (f_lt (o := 155) (m := 166) (Nat.le_of_ble_eq_true rfl) hN) rfl ?_
  refine i_bipush (pc' := 15) (f_at inc_318 (j := 7) rfl) cb_9 rfl ?_
  refine i_iald (pc' := 16) (f_at inc_318 (j := 8) rfl) sh_156 (f_bg (Nat.le_of_ble_eq_true rfl)) (f_lt (o := 156) (m := 166) (Nat.le_of_ble_eq_true rfl) hN) rfl fun v2 => ?_
  refine i_aload_n (pc' := 17) (f_at inc_318 (j := 9) rfl) rfl rfl ?_
  refine i_getR (pc' := 20) (f_at inc_318 (j := 10) rfl) sh_155 rfl (f_lt (o := 155) (m := 166) (Nat.le_of_ble_eq_true rfl) hN) rfl ?_
  refine i_bipush (pc' := 22) (f_at inc_318 (j := 11) rfl) cb_8 rfl ?_
  refine i_iald (pc' := 23) (f_at inc_318 (j := 12) rfl) sh_156 (f_bg (Nat.le_of_ble_eq_true rfl)) (f_lt (o := 156) (m := 166) (Nat.le_of_ble_eq_true rfl) hN) rfl fun v3 => ?_
  refine i_iadd (pc' := 24) (f_at inc_318 (j := 13) rfl) rfl ?_
  refine s_join (J := 32) (fun (t4 : Bool) (u4 : Unit) => [.ref 155, a_dead]) (fun t4 => [.int (f_b t4)]) (fun t4 => (f_up σ 155 6 (0 : Int32))) ?_ ?_
  · intro t4 u4
    refine i_istore_n (pc' := 33) (ls' := [.ref 155, .int (f_b t4)]) (f_at inc_318 (j := 18) rfl) (Nat.le_of_ble_eq_true rfl) rfl rfl ?_
    refine i_iload_n (pc' := 34) (f_at inc_318 (j := 19) rfl) rfl rfl ?_
    refine s_join (J := 71) (fun (t6 : Bool × f_M) (u6 : Unit) => [.ref 155, .int (f_b t4)]) (fun t6 => [.int (f_b t6.1)]) (fun t6 => t6.2) ?_ ?_
    · intro t6 u6
      exact i_iret (v := f_b t6.1) (f_at inc_318 (j := 38) rfl) rfl n_bool
    · intro k6 hj6
      refine i_if0 (pc' := 70) (nx := 37) cb_eq (f_at inc_318 (j := 20) rfl) ⟨by decide, rfl⟩ (fun b14 => ?_) (fun b14 => ?_)
      · refine i_iconst (pc' := 71) (f_at inc_318 (j := 37) rfl) ci_0 rfl ?_
        exact hj6 (false, (f_up σ 155 6 (0 : Int32))) ()
      · refine i_aload_n (pc' := 38) (f_at inc_318 (j := 21) rfl) rfl rfl ?_
        refine i_iconst (pc' := 39) (f_at inc_318 (j := 22) rfl) ci_3 rfl ?_
        refine c_pi (pc' := 42) (c' := 0) (n' := 0) (h_virt (ra := [.int (3 : Int32), .ref 155]) (r := []) (as := [.int (3 : Int32)]) (f_at inc_318 (j := 23) rfl) (by decide) MT_267 rfl rfl rfl ⟨Nat.le_of_ble_eq_true rfl, Nat.le_of_ble_eq_true rfl, Nat.le_of_ble_eq_true rfl⟩ sh_155 (f_lt (o := 155) (m := 166) (Nat.le_of_ble_eq_true rfl) hN)) MT_267 (G_267 hN (3 : Int32) (f_up σ 155 6 (0 : Int32))) ⟨rfl, rfl, rfl⟩ fun t7 => ?_
        refine i_aload_n (pc' := 43) (f_at inc_318 (j := 24) rfl) rfl rfl ?_
        refine i_getR (pc' := 46) (f_at inc_318 (j := 25) rfl) sh_155 rfl (f_lt (o := 155) (m := 166) (Nat.le_of_ble_eq_true rfl) hN) rfl ?_
        refine i_bipush (pc' := 48) (f_at inc_318 (j := 26) rfl) cb_7 rfl ?_
        refine i_iald (pc' := 49) (f_at inc_318 (j := 27) rfl) sh_156 (f_bg (Nat.le_of_ble_eq_true rfl)) (f_lt (o := 156) (m := 166) (Nat.le_of_ble_eq_true rfl) hN) rfl fun v8 => ?_
        refine i_if2 (pc' := 70) (nx := 52) c2_ne (f_at inc_318 (j := 28) rfl) ⟨by decide, rfl⟩ (fun b13 => ?_) (fun b13 => ?_)
        · refine i_iconst (pc' := 71) (f_at inc_318 (j := 37) rfl) ci_0 rfl ?_
          exact hj6 (false, (f_up σ 155 6 (0 : Int32))) ()
        · refine i_aload_n (pc' := 53) (f_at inc_318 (j := 29) rfl) rfl rfl ?_
          refine c_pb (pc' := 56) (c' := 0) (n' := 0) (h_virt (ra := [.ref 155]) (r := []) (as := []) (f_at inc_318 (j := 30) rfl) (by decide) MT_314 rfl rfl rfl ⟨Nat.le_of_ble_eq_true rfl, Nat.le_of_ble_eq_true rfl, Nat.le_of_ble_eq_true rfl⟩ sh_155 (f_lt (o := 155) (m := 166) (Nat.le_of_ble_eq_true rfl) hN)) MT_314 (G_314 hN  (f_up σ 155 6 (0 : Int32))) ⟨rfl, rfl, rfl⟩ fun t9 => ?_
          refine i_if0 (pc' := 70) (nx := 59) cb_eq (f_at inc_318 (j := 31) rfl) ⟨by decide, rfl⟩ (fun b12 => ?_) (fun b12 => ?_)
          · refine i_iconst (pc' := 71) (f_at inc_318 (j := 37) rfl) ci_0 rfl ?_
            exact hj6 (false, (f_up σ 155 6 (0 : Int32))) ()
          · refine i_aload_n (pc' := 60) (f_at inc_318 (j := 32) rfl) rfl rfl ?_
            refine c_wb (pc' := 63) (c' := 0) (n' := 0) (h_virt (ra := [.ref 155]) (r := []) (as := []) (f_at inc_318 (j := 33) rfl) (by decide) MT_317 rfl rfl rfl ⟨Nat.le_of_ble_eq_true rfl, Nat.le_of_ble_eq_true rfl, Nat.le_of_ble_eq_true rfl⟩ sh_155 (f_lt (o := 155) (m := 166) (Nat.le_of_ble_eq_true rfl) hN)) MT_317 (G_317 hN  (f_up σ 155 6 (0 : Int32))) ⟨rfl, rfl, rfl⟩ fun t10 => ?_
            refine i_if0 (pc' := 70) (nx := 66) cb_eq (f_at inc_318 (j := 34) rfl) ⟨by decide, rfl⟩ (fun b11 => ?_) (fun b11 => ?_)
            · refine i_iconst (pc' := 71) (f_at inc_318 (j := 37) rfl) ci_0 rfl ?_
              exact hj6 (false, t10.2) ()
            · refine i_iconst (pc' := 67) (f_at inc_318 (j := 35) rfl) ci_1 rfl ?_
              refine i_goto (pc' := 71) (f_at inc_318 (j := 36) rfl) (by decide) ?_
              exact hj6 (true, t10.2) ()
  · intro k4 hj4
    refine i_if2 (pc' := 31) (nx := 27) c2_ne (f_at inc_318 (j := 14) rfl) ⟨by decide, rfl⟩ (fun b5 => ?_) (fun b5 => ?_)
    · refine i_iconst (pc' := 32) (f_at inc_318 (j := 17) rfl) ci_0 rfl ?_
      exact hj4 false ()
    · refine i_iconst (pc' := 28) (f_at inc_318 (j := 15) rfl) ci_1 rfl ?_
      refine i_goto (pc' := 32) (f_at inc_318 (j := 16) rfl) (by decide) ?_
      exact hj4 true ()
set_option maxRecDepth 4000 in
def g_319 (a1 : Int32) (a2 : Int32) (σ : f_M) : Option ((Int32 ⊕ Fin 4) × f_M) :=
  (g_285 a1 (0 : Int32) (150 : Int32) σ).bind fun t1 => Sum.elim (fun _ =>
   (g_285 a2 (0 : Int32) (50 : Int32) σ).bind fun t2 => Sum.elim (fun _ =>
    (g_74 (1 : Int32) σ).bind fun t3 =>
    if t3 = true then (
     (g_73  σ).bind fun t4 =>
     (g_94 a1 a2 t4).bind fun t5 =>
     some (.inl t5.1, t5.2)
    ) else (
     some (.inr 2, σ)
    )
   ) (fun k2 => some (.inr k2, σ)) t2
  ) (fun k1 => some (.inr k1, σ)) t1
set_option maxRecDepth 4000 in
theorem G_319 {xs : Nat → Int32} {L N : Nat} (hN : 155 ≤ N) (a1 : Int32) (a2 : Int32)  (σ : f_M) : f_Cal a_MT xs L N 319 [.ref 0, .int a1, .int a2] σ ((g_319 a1 a2 σ).bind fun t => some (e_xi t)) := by
  refine f_cal_of (ls := [.ref 0, .int a1, .int a2]) MT_319 (Nat.le_of_ble_eq_true rfl) rfl ?_
  unfold g_319
  refine i_iload_n (pc' := 1) (f_at inc_319 (j := 0) rfl) rfl rfl ?_
  refine i_iconst (pc' := 2) (f_at inc_319 (j := 1) rfl) ci_0 rfl ?_
  refine i_sipush (pc' := 5) (f_at inc_319 (j := 2) rfl) cs_150 rfl ?_
  refine c_tv (pc' := 8) (c' := 2) (n' := 12) (h_stat (ra := [.int (150 : Int32), .int (0 : Int32), .int a1]) (r := []) (as := [.int a1, .int (0 : Int32), .int (150 : Int32)]) (f_at inc_319 (j := 3) rfl) (by decide) MT_285 rfl rfl rfl ⟨Nat.le_of_ble_eq_true rfl, Nat.le_of_ble_eq_true rfl, Nat.le_of_ble_eq_true rfl⟩) MT_285 (G_285 hN a1 (0 : Int32) (150 : Int32) σ) ⟨rfl, rfl, rfl⟩ (fun k w h => x_thr ⟨rfl, rfl⟩ h) ?_
  refine i_iload_n (pc' := 9) (f_at inc_319 (j := 4) rfl) rfl rfl ?_
  refine i_iconst (pc' := 10) (f_at inc_319 (j := 5) rfl) ci_0 rfl ?_
  refine i_bipush (pc' := 12) (f_at inc_319 (j := 6) rfl) cb_50 rfl ?_
  refine c_tv (pc' := 15) (c' := 1) (n' := 6) (h_stat (ra := [.int (50 : Int32), .int (0 : Int32), .int a2]) (r := []) (as := [.int a2, .int (0 : Int32), .int (50 : Int32)]) (f_at inc_319 (j := 7) rfl) (by decide) MT_285 rfl rfl rfl ⟨Nat.le_of_ble_eq_true rfl, Nat.le_of_ble_eq_true rfl, Nat.le_of_ble_eq_true rfl⟩) MT_285 (G_285 hN a2 (0 : Int32) (50 : Int32) σ) ⟨rfl, rfl, rfl⟩ (fun k w h => x_thr ⟨rfl, rfl⟩ h) ?_
  refine i_aload_n (pc' := 16) (f_at inc_319 (j := 8) rfl) rfl rfl ?_
  refine i_getR (pc' := 19) (f_at inc_319 (j := 9) rfl) sh_0 rfl (f_lt (o := 0) (m := 155) (Nat.le_of_ble_eq_true rfl) hN) rfl ?_
  refine i_iconst (pc' := 20) (f_at inc_319 (j := 10) rfl) ci_1 rfl ?_
  refine c_pb (pc' := 23) (c' := 1) (n' := 6) (h_virt (ra := [.int (1 : Int32), .ref 102]) (r := []) (as := [.int (1 : Int32)]) (f_at inc_319 (j := 11) rfl) (by decide) MT_74 rfl rfl rfl ⟨Nat.le_of_ble_eq_true rfl, Nat.le_of_ble_eq_true rfl, Nat.le_of_ble_eq_true rfl⟩ sh_102 (f_lt (o := 102) (m := 155) (Nat.le_of_ble_eq_true rfl) hN)) MT_74 (G_74 hN (1 : Int32) σ) ⟨rfl, rfl, rfl⟩ fun t3 => ?_
  refine i_if0 (pc' := 37) (nx := 26) cb_ne (f_at inc_319 (j := 12) rfl) ⟨by decide, rfl⟩ (fun b6 => ?_) (fun b6 => ?_)
  · refine i_aload_n (pc' := 38) (f_at inc_319 (j := 14) rfl) rfl rfl ?_
    refine i_getR (pc' := 41) (f_at inc_319 (j := 15) rfl) sh_0 rfl (f_lt (o := 0) (m := 155) (Nat.le_of_ble_eq_true rfl) hN) rfl ?_
    refine i_aload_n (pc' := 42) (f_at inc_319 (j := 16) rfl) rfl rfl ?_
    refine i_getR (pc' := 45) (f_at inc_319 (j := 17) rfl) sh_0 rfl (f_lt (o := 0) (m := 155) (Nat.le_of_ble_eq_true rfl) hN) rfl ?_
    refine c_wv (pc' := 48) (c' := 1) (n' := 6) (h_virt (ra := [.ref 121, .ref 44]) (r := []) (as := [.ref 121]) (f_at inc_319 (j := 18) rfl) (by decide) MT_73 rfl rfl rfl ⟨Nat.le_of_ble_eq_true rfl, Nat.le_of_ble_eq_true rfl, Nat.le_of_ble_eq_true rfl⟩ sh_44 (f_lt (o := 44) (m := 155) (Nat.le_of_ble_eq_true rfl) hN)) MT_73 (G_73 hN  σ) ⟨rfl, rfl, rfl⟩ fun t4 => ?_
    refine i_aload_n (pc' := 49) (f_at inc_319 (j := 19) rfl) rfl rfl ?_
    refine i_getR (pc' := 52) (f_at inc_319 (j := 20) rfl) sh_0 rfl (f_lt (o := 0) (m := 155) (Nat.le_of_ble_eq_true rfl) hN) rfl ?_
    refine i_iload_n (pc' := 53) (f_at inc_319 (j := 21) rfl) rfl rfl ?_
    refine i_iload_n (pc' := 54) (f_at inc_319 (j := 22) rfl) rfl rfl ?_
    refine c_wi (pc' := 57) (c' := 1) (n' := 6) (h_virt (ra := [.int a2, .int a1, .ref 102]) (r := []) (as := [.int a1, .int a2]) (f_at inc_319 (j := 23) rfl) (by decide) MT_94 rfl rfl rfl ⟨Nat.le_of_ble_eq_true rfl, Nat.le_of_ble_eq_true rfl, Nat.le_of_ble_eq_true rfl⟩ sh_102 (f_lt (o := 102) (m := 155) (Nat.le_of_ble_eq_true rfl) hN)) MT_94 (G_94 hN a1 a2 t4) ⟨rfl, rfl, rfl⟩ fun t5 => ?_
    exact i_iret (f_at inc_319 (j := 24) rfl) rfl n_int
  · exact i_thrw (a9 := 2) (f_at inc_319 (j := 13) rfl) ⟨rfl, by decide⟩ ⟨rfl, rfl⟩ ⟨Nat.le_of_ble_eq_true rfl, Nat.le_of_ble_eq_true rfl, Nat.le_of_ble_eq_true rfl⟩
set_option maxRecDepth 4000 in
def g_320 (a1 : Int32) (a2 : Int32) (σ : f_M) : Option (Int32 × f_M) :=
  (g_319 a1 a2 σ).bind (f_xe (fun v1 m1 =>
   (f_wr m1 167 1 (0 : Int32) v1).bind fun m2 =>
   some ((0 : Int32), m2)
  ) (fun k1 m1 => (f_hc [(1, 1), (2, 2)] k1).bind fun v => some (v, m1)))
set_option maxRecDepth 4000 in
theorem G_320 {xs : Nat → Int32} {L N : Nat} (hN : 168 ≤ N) (a1 : Int32) (a2 : Int32)  (σ : f_M) : f_Cal a_MT xs L N 320 [.ref 0, .int a1, .int a2, .ref 167] σ ((g_320 a1 a2 σ).bind fun t => some (e_wi t)) := by
  refine f_cal_of (ls := [.ref 0, .int a1, .int a2, .ref 167, a_dead]) MT_320 (Nat.le_of_ble_eq_true rfl) rfl ?_
  unfold g_320
  refine i_aload_n (pc' := 1) (f_at inc_320 (j := 0) rfl) rfl rfl ?_
  refine i_iconst (pc' := 2) (f_at inc_320 (j := 1) rfl) ci_0 rfl ?_
  refine i_aload_n (pc' := 3) (f_at inc_320 (j := 2) rfl) rfl rfl ?_
  refine i_iload_n (pc' := 4) (f_at inc_320 (j := 3) rfl) rfl rfl ?_
  refine i_iload_n (pc' := 5) (f_at inc_320 (j := 4) rfl) rfl rfl ?_
  refine c_xi (pc' := 8) (c' := 0) (n' := 0) (h_virt (ra := [.int a2, .int a1, .ref 0]) (r := [.int (0 : Int32), .ref 167]) (as := [.int a1, .int a2]) (f_at inc_320 (j := 5) rfl) (by decide) MT_319 rfl rfl rfl ⟨Nat.le_of_ble_eq_true rfl, Nat.le_of_ble_eq_true rfl, Nat.le_of_ble_eq_true rfl⟩ sh_0 (f_lt (o := 0) (m := 168) (Nat.le_of_ble_eq_true rfl) hN)) MT_319 (G_319 (Nat.le_trans (Nat.le_of_ble_eq_true rfl) hN) a1 a2 σ) ⟨rfl, rfl, rfl⟩ (fun k s w h => x_hdl (l := [(1, 1), (2, 2)]) (by decide +kernel) h) fun v1 m1 => ?_
  refine i_i2l (pc' := 9) (f_at inc_320 (j := 6) rfl) rfl ?_
  refine i_last (pc' := 10) (f_at inc_320 (j := 7) rfl) sh_167 rfl (f_lt (o := 167) (m := 168) (Nat.le_of_ble_eq_true rfl) hN) rfl fun m2 => ?_
  refine i_goto (pc' := 21) (f_at inc_320 (j := 8) rfl) (by decide) ?_
  refine i_iconst (pc' := 22) (f_at inc_320 (j := 15) rfl) ci_0 rfl ?_
  exact i_iret (f_at inc_320 (j := 16) rfl) rfl n_int
set_option maxRecDepth 4000 in
def g_321 (a1 : Int32) (a2 : Int32) (σ : f_M) : Option (Int32 × f_M) :=
  (g_46 (a1).toInt64 (0 : Int64) (150 : Int64) σ).bind fun t1 =>
  (
   if t1 = false then (
    some false
   ) else (
    (g_46 (a2).toInt64 (0 : Int64) (50 : Int64) σ).bind fun t3 =>
    if t3 = false then (
     some false
    ) else (
     some true
    )
   )
  ).bind fun (t2 : Bool) =>
  (f_rd σ 156 2420 (0 : Int32)).bind fun v6 =>
  (
   if (1000 : Int32) ≤ v6 then (
    some false
   ) else (
    some true
   )
  ).bind fun (t7 : Bool) =>
  (g_176 t2 t7 true σ).bind fun t9 =>
  if t9.1 = true then (
   (g_118  t9.2).bind fun t10 =>
   (g_140 a1 a2 t10).bind fun t11 =>
   some (t11.1, t11.2)
  ) else (
   some ((0 : Int32), t9.2)
  )
set_option maxRecDepth 4000 in
theorem G_321 {xs : Nat → Int32} {L N : Nat} (hN : 166 ≤ N) (a1 : Int32) (a2 : Int32)  (σ : f_M) : f_Cal a_MT xs L N 321 [.ref 155, .int a1, .int a2] σ ((g_321 a1 a2 σ).bind fun t => some (e_wi t)) := by
  refine f_cal_of (ls := [.ref 155, .int a1, .int a2]) MT_321 (Nat.le_of_ble_eq_true rfl) rfl ?_
  unfold g_321
  refine i_aload_n (pc' := 1) (f_at inc_321 (j := 0) rfl) rfl rfl ?_
  refine i_iload_n (pc' := 2) (f_at inc_321 (j := 1) rfl) rfl rfl ?_
  refine i_i2l (pc' := 3) (f_at inc_321 (j := 2) rfl) rfl ?_
  refine i_lconst (pc' := 4) (f_at inc_321 (j := 3) rfl) cl_0 rfl ?_
  refine i_ldc2_w (pc' := 7) (f_at inc_321 (j := 4) rfl) cw_150 rfl ?_
  refine c_pb (pc' := 10) (c' := 0) (n' := 0) (h_stat (ra := [.long (150 : Int64), .long (0 : Int64), .long (a1).toInt64]) (r := [.ref 155]) (as := [.long (a1).toInt64, .long (0 : Int64), .long (150 : Int64)]) (f_at inc_321 (j := 5) rfl) (by decide) MT_46 rfl rfl rfl ⟨Nat.le_of_ble_eq_true rfl, Nat.le_of_ble_eq_true rfl, Nat.le_of_ble_eq_true rfl⟩) MT_46 (G_46 hN (a1).toInt64 (0 : Int64) (150 : Int64) σ) ⟨rfl, rfl, rfl⟩ fun t1 => ?_
  refine s_join (J := 30) (fun (t2 : Bool) (u2 : Unit) => [.ref 155, .int a1, .int a2]) (fun t2 => [.int (f_b t2), .ref 155]) (fun t2 => σ) ?_ ?_
  · intro t2 u2
    refine i_aload_n (pc' := 31) (f_at inc_321 (j := 16) rfl) rfl rfl ?_
    refine i_getR (pc' := 34) (f_at inc_321 (j := 17) rfl) sh_155 rfl (f_lt (o := 155) (m := 166) (Nat.le_of_ble_eq_true rfl) hN) rfl ?_
    refine i_iconst (pc' := 35) (f_at inc_321 (j := 18) rfl) ci_0 rfl ?_
    refine i_iald (pc' := 36) (f_at inc_321 (j := 19) rfl) sh_156 (f_bg (Nat.le_of_ble_eq_true rfl)) (f_lt (o := 156) (m := 166) (Nat.le_of_ble_eq_true rfl) hN) rfl fun v6 => ?_
    refine i_sipush (pc' := 39) (f_at inc_321 (j := 20) rfl) cs_1000 rfl ?_
    refine s_join (J := 47) (fun (t7 : Bool) (u7 : Unit) => [.ref 155, .int a1, .int a2]) (fun t7 => [.int (f_b t7), .int (f_b t2), .ref 155]) (fun t7 => σ) ?_ ?_
    · intro t7 u7
      refine i_iconst (pc' := 48) (f_at inc_321 (j := 25) rfl) ci_1 rfl ?_
      refine c_wb (pc' := 51) (c' := 0) (n' := 0) (h_virt (ra := [.int (1 : Int32), .int (f_b t7), .int (f_b t2), .ref 155]) (r := []) (as := [.int (f_b t2), .int (f_b t7), .int (1 : Int32)]) (f_at inc_321 (j := 26) rfl) (by decide) MT_176 rfl rfl rfl ⟨Nat.le_of_ble_eq_true rfl, Nat.le_of_ble_eq_true rfl, Nat.le_of_ble_eq_true rfl⟩ sh_155 (f_lt (o := 155) (m := 166) (Nat.le_of_ble_eq_true rfl) hN)) MT_176 (G_176 hN t2 t7 true σ) ⟨rfl, rfl, rfl⟩ fun t9 => ?_
      refine i_if0 (pc' := 56) (nx := 54) cb_ne (f_at inc_321 (j := 27) rfl) ⟨by decide, rfl⟩ (fun b12 => ?_) (fun b12 => ?_)
      · refine i_aload_n (pc' := 57) (f_at inc_321 (j := 30) rfl) rfl rfl ?_
        refine c_wv (pc' := 60) (c' := 0) (n' := 0) (h_virt (ra := [.ref 155]) (r := []) (as := []) (f_at inc_321 (j := 31) rfl) (by decide) MT_118 rfl rfl rfl ⟨Nat.le_of_ble_eq_true rfl, Nat.le_of_ble_eq_true rfl, Nat.le_of_ble_eq_true rfl⟩ sh_155 (f_lt (o := 155) (m := 166) (Nat.le_of_ble_eq_true rfl) hN)) MT_118 (G_118 hN  t9.2) ⟨rfl, rfl, rfl⟩ fun t10 => ?_
        refine i_aload_n (pc' := 61) (f_at inc_321 (j := 32) rfl) rfl rfl ?_
        refine i_iload_n (pc' := 62) (f_at inc_321 (j := 33) rfl) rfl rfl ?_
        refine i_iload_n (pc' := 63) (f_at inc_321 (j := 34) rfl) rfl rfl ?_
        refine c_wi (pc' := 66) (c' := 0) (n' := 0) (h_virt (ra := [.int a2, .int a1, .ref 155]) (r := []) (as := [.int a1, .int a2]) (f_at inc_321 (j := 35) rfl) (by decide) MT_140 rfl rfl rfl ⟨Nat.le_of_ble_eq_true rfl, Nat.le_of_ble_eq_true rfl, Nat.le_of_ble_eq_true rfl⟩ sh_155 (f_lt (o := 155) (m := 166) (Nat.le_of_ble_eq_true rfl) hN)) MT_140 (G_140 hN a1 a2 t10) ⟨rfl, rfl, rfl⟩ fun t11 => ?_
        exact i_iret (f_at inc_321 (j := 36) rfl) rfl n_int
      · refine i_iconst (pc' := 55) (f_at inc_321 (j := 28) rfl) ci_0 rfl ?_
        exact i_iret (f_at inc_321 (j := 29) rfl) rfl n_int
    · intro k7 hj7
      refine i_if2 (pc' := 46) (nx := 42) c2_ge (f_at inc_321 (j := 21) rfl) ⟨by decide, rfl⟩ (fun b8 => ?_) (fun b8 => ?_)
      · refine i_iconst (pc' := 47) (f_at inc_321 (j := 24) rfl) ci_0 rfl ?_
        exact hj7 false ()
      · refine i_iconst (pc' := 43) (f_at inc_321 (j := 22) rfl) ci_1 rfl ?_
        refine i_goto (pc' := 47) (f_at inc_321 (j := 23) rfl) (by decide) ?_
        exact hj7 true ()
  · intro k2 hj2
    refine i_if0 (pc' := 29) (nx := 13) cb_eq (f_at inc_321 (j := 6) rfl) ⟨by decide, rfl⟩ (fun b5 => ?_) (fun b5 => ?_)
    · refine i_iconst (pc' := 30) (f_at inc_321 (j := 15) rfl) ci_0 rfl ?_
      exact hj2 false ()
    · refine i_iload_n (pc' := 14) (f_at inc_321 (j := 7) rfl) rfl rfl ?_
      refine i_i2l (pc' := 15) (f_at inc_321 (j := 8) rfl) rfl ?_
      refine i_lconst (pc' := 16) (f_at inc_321 (j := 9) rfl) cl_0 rfl ?_
      refine i_ldc2_w (pc' := 19) (f_at inc_321 (j := 10) rfl) cw_50 rfl ?_
      refine c_pb (pc' := 22) (c' := 0) (n' := 0) (h_stat (ra := [.long (50 : Int64), .long (0 : Int64), .long (a2).toInt64]) (r := [.ref 155]) (as := [.long (a2).toInt64, .long (0 : Int64), .long (50 : Int64)]) (f_at inc_321 (j := 11) rfl) (by decide) MT_46 rfl rfl rfl ⟨Nat.le_of_ble_eq_true rfl, Nat.le_of_ble_eq_true rfl, Nat.le_of_ble_eq_true rfl⟩) MT_46 (G_46 hN (a2).toInt64 (0 : Int64) (50 : Int64) σ) ⟨rfl, rfl, rfl⟩ fun t3 => ?_
      refine i_if0 (pc' := 29) (nx := 25) cb_eq (f_at inc_321 (j := 12) rfl) ⟨by decide, rfl⟩ (fun b4 => ?_) (fun b4 => ?_)
      · refine i_iconst (pc' := 30) (f_at inc_321 (j := 15) rfl) ci_0 rfl ?_
        exact hj2 false ()
      · refine i_iconst (pc' := 26) (f_at inc_321 (j := 13) rfl) ci_1 rfl ?_
        refine i_goto (pc' := 30) (f_at inc_321 (j := 14) rfl) (by decide) ?_
        exact hj2 true ()
set_option maxRecDepth 4000 in
def g_322 (a1 : Int32) (a2 : Int32) (a3 : Int32) (σ : f_M) : Option (Unit ⊕ Fin 4) :=
  (g_285 a1 (σ 121 0) (1000 : Int32) σ).bind fun t1 => Sum.elim (fun _ =>
   (g_285 a2 (1 : Int32) (24 : Int32) σ).bind fun t2 => Sum.elim (fun _ =>
    (g_285 a3 (1 : Int32) (500 : Int32) σ).bind fun t3 => Sum.elim (fun _ =>
     some (.inl ())
    ) (fun k3 => some (.inr k3)) t3
   ) (fun k2 => some (.inr k2)) t2
  ) (fun k1 => some (.inr k1)) t1
set_option maxRecDepth 4000 in
theorem G_322 {xs : Nat → Int32} {L N : Nat} (hN : 155 ≤ N) (a1 : Int32) (a2 : Int32) (a3 : Int32)  (σ : f_M) : f_Cal a_MT xs L N 322 [.ref 0, .int a1, .int a2, .int a3] σ ((g_322 a1 a2 a3 σ).bind fun t => some (e_tv σ t)) := by
  refine f_cal_of (ls := [.ref 0, .int a1, .int a2, .int a3]) MT_322 (Nat.le_of_ble_eq_true rfl) rfl ?_
  unfold g_322
  refine i_iload_n (pc' := 1) (f_at inc_322 (j := 0) rfl) rfl rfl ?_
  refine i_aload_n (pc' := 2) (f_at inc_322 (j := 1) rfl) rfl rfl ?_
  refine i_getR (pc' := 5) (f_at inc_322 (j := 2) rfl) sh_0 rfl (f_lt (o := 0) (m := 155) (Nat.le_of_ble_eq_true rfl) hN) rfl ?_
  refine i_getI (pc' := 8) (f_at inc_322 (j := 3) rfl) sh_121 rfl (f_lt (o := 121) (m := 155) (Nat.le_of_ble_eq_true rfl) hN) rfl ?_
  refine i_sipush (pc' := 11) (f_at inc_322 (j := 4) rfl) cs_1000 rfl ?_
  refine c_tv (pc' := 14) (c' := 2) (n' := 12) (h_stat (ra := [.int (1000 : Int32), .int (σ 121 0), .int a1]) (r := []) (as := [.int a1, .int (σ 121 0), .int (1000 : Int32)]) (f_at inc_322 (j := 5) rfl) (by decide) MT_285 rfl rfl rfl ⟨Nat.le_of_ble_eq_true rfl, Nat.le_of_ble_eq_true rfl, Nat.le_of_ble_eq_true rfl⟩) MT_285 (G_285 hN a1 (σ 121 0) (1000 : Int32) σ) ⟨rfl, rfl, rfl⟩ (fun k w h => x_thr ⟨rfl, rfl⟩ h) ?_
  refine i_iload_n (pc' := 15) (f_at inc_322 (j := 6) rfl) rfl rfl ?_
  refine i_iconst (pc' := 16) (f_at inc_322 (j := 7) rfl) ci_1 rfl ?_
  refine i_bipush (pc' := 18) (f_at inc_322 (j := 8) rfl) cb_24 rfl ?_
  refine c_tv (pc' := 21) (c' := 1) (n' := 6) (h_stat (ra := [.int (24 : Int32), .int (1 : Int32), .int a2]) (r := []) (as := [.int a2, .int (1 : Int32), .int (24 : Int32)]) (f_at inc_322 (j := 9) rfl) (by decide) MT_285 rfl rfl rfl ⟨Nat.le_of_ble_eq_true rfl, Nat.le_of_ble_eq_true rfl, Nat.le_of_ble_eq_true rfl⟩) MT_285 (G_285 hN a2 (1 : Int32) (24 : Int32) σ) ⟨rfl, rfl, rfl⟩ (fun k w h => x_thr ⟨rfl, rfl⟩ h) ?_
  refine i_iload_n (pc' := 22) (f_at inc_322 (j := 10) rfl) rfl rfl ?_
  refine i_iconst (pc' := 23) (f_at inc_322 (j := 11) rfl) ci_1 rfl ?_
  refine i_sipush (pc' := 26) (f_at inc_322 (j := 12) rfl) cs_500 rfl ?_
  refine c_tv (pc' := 29) (c' := 0) (n' := 0) (h_stat (ra := [.int (500 : Int32), .int (1 : Int32), .int a3]) (r := []) (as := [.int a3, .int (1 : Int32), .int (500 : Int32)]) (f_at inc_322 (j := 13) rfl) (by decide) MT_285 rfl rfl rfl ⟨Nat.le_of_ble_eq_true rfl, Nat.le_of_ble_eq_true rfl, Nat.le_of_ble_eq_true rfl⟩) MT_285 (G_285 hN a3 (1 : Int32) (500 : Int32) σ) ⟨rfl, rfl, rfl⟩ (fun k w h => x_thr ⟨rfl, rfl⟩ h) ?_
  exact i_vret (f_at inc_322 (j := 14) rfl) rfl
set_option maxRecDepth 4000 in
def g_323 (a1 : Int32) (a2 : Int32) (σ : f_M) : Option (Unit ⊕ Fin 4) :=
  (g_96 a1 a2 σ).bind fun t1 =>
  if t1 = true then (
   some (.inl ())
  ) else (
   some (.inr 2)
  )
set_option maxRecDepth 4000 in
theorem G_323 {xs : Nat → Int32} {L N : Nat} (hN : 155 ≤ N) (a1 : Int32) (a2 : Int32)  (σ : f_M) : f_Cal a_MT xs L N 323 [.ref 0, .int a1, .int a2] σ ((g_323 a1 a2 σ).bind fun t => some (e_tv σ t)) := by
  refine f_cal_of (ls := [.ref 0, .int a1, .int a2]) MT_323 (Nat.le_of_ble_eq_true rfl) rfl ?_
  unfold g_323
  refine i_aload_n (pc' := 1) (f_at inc_323 (j := 0) rfl) rfl rfl ?_
  refine i_getR (pc' := 4) (f_at inc_323 (j := 1) rfl) sh_0 rfl (f_lt (o := 0) (m := 155) (Nat.le_of_ble_eq_true rfl) hN) rfl ?_
  refine i_iload_n (pc' := 5) (f_at inc_323 (j := 2) rfl) rfl rfl ?_
  refine i_iload_n (pc' := 6) (f_at inc_323 (j := 3) rfl) rfl rfl ?_
  refine c_pb (pc' := 9) (c' := 1) (n' := 6) (h_virt (ra := [.int a2, .int a1, .ref 102]) (r := []) (as := [.int a1, .int a2]) (f_at inc_323 (j := 4) rfl) (by decide) MT_96 rfl rfl rfl ⟨Nat.le_of_ble_eq_true rfl, Nat.le_of_ble_eq_true rfl, Nat.le_of_ble_eq_true rfl⟩ sh_102 (f_lt (o := 102) (m := 155) (Nat.le_of_ble_eq_true rfl) hN)) MT_96 (G_96 hN a1 a2 σ) ⟨rfl, rfl, rfl⟩ fun t1 => ?_
  refine i_if0 (pc' := 23) (nx := 12) cb_ne (f_at inc_323 (j := 5) rfl) ⟨by decide, rfl⟩ (fun b2 => ?_) (fun b2 => ?_)
  · exact i_vret (f_at inc_323 (j := 7) rfl) rfl
  · exact i_thrw (a9 := 2) (f_at inc_323 (j := 6) rfl) ⟨rfl, by decide⟩ ⟨rfl, rfl⟩ ⟨Nat.le_of_ble_eq_true rfl, Nat.le_of_ble_eq_true rfl, Nat.le_of_ble_eq_true rfl⟩
set_option maxRecDepth 4000 in
def g_324 (a1 : Int32) (a2 : Int32) (a3 : Int32) (a4 : Int32) (a5 : Int32) (a6 : Int32) (σ : f_M) : Option ((Int32 ⊕ Fin 4) × f_M) :=
  (g_172 a1 σ).bind fun t1 => Sum.elim (fun _ =>
   (g_322 a2 a3 a4 σ).bind fun t2 => Sum.elim (fun _ =>
    (g_285 a5 (0 : Int32) (150 : Int32) σ).bind fun t3 => Sum.elim (fun _ =>
     (g_285 a6 a5 (150 : Int32) σ).bind fun t4 => Sum.elim (fun _ =>
      (g_77 a3 a4 σ).bind fun t5 =>
      (g_323 a1 t5 σ).bind fun t6 => Sum.elim (fun _ =>
       (g_73  σ).bind fun t7 =>
       (g_99 a1 a2 a3 a4 a5 a6 t7).bind fun t8 =>
       some (.inl t8.1, t8.2)
      ) (fun k6 => some (.inr k6, σ)) t6
     ) (fun k4 => some (.inr k4, σ)) t4
    ) (fun k3 => some (.inr k3, σ)) t3
   ) (fun k2 => some (.inr k2, σ)) t2
  ) (fun k1 => some (.inr k1, σ)) t1
set_option maxRecDepth 4000 in
theorem G_324 {xs : Nat → Int32} {L N : Nat} (hN : 155 ≤ N) (a1 : Int32) (a2 : Int32) (a3 : Int32) (a4 : Int32) (a5 : Int32) (a6 : Int32)  (σ : f_M) : f_Cal a_MT xs L N 324 [.ref 0, .int a1, .int a2, .int a3, .int a4, .int a5, .int a6] σ ((g_324 a1 a2 a3 a4 a5 a6 σ).bind fun t => some (e_xi t)) := by
  refine f_cal_of (ls := [.ref 0, .int a1, .int a2, .int a3, .int a4, .int a5, .int a6]) MT_324 (Nat.le_of_ble_eq_true rfl) rfl ?_
  unfold g_324
  refine i_aload_n (pc' := 1) (f_at inc_324 (j := 0) rfl) rfl rfl ?_
  refine i_iload_n (pc' := 2) (f_at inc_324 (j := 1) rfl) rfl rfl ?_
  refine c_tv (pc' := 5) (c' := 6) (n' := 36) (h_virt (ra := [.int a1, .ref 0]) (r := []) (as := [.int a1]) (f_at inc_324 (j := 2) rfl) (by decide) MT_172 rfl rfl rfl ⟨Nat.le_of_ble_eq_true rfl, Nat.le_of_ble_eq_true rfl, Nat.le_of_ble_eq_true rfl⟩ sh_0 (f_lt (o := 0) (m := 155) (Nat.le_of_ble_eq_true rfl) hN)) MT_172 (G_172 hN a1 σ) ⟨rfl, rfl, rfl⟩ (fun k w h => x_thr ⟨rfl, rfl⟩ h) ?_
  refine i_aload_n (pc' := 6) (f_at inc_324 (j := 3) rfl) rfl rfl ?_
  refine i_iload_n (pc' := 7) (f_at inc_324 (j := 4) rfl) rfl rfl ?_
  refine i_iload_n (pc' := 8) (f_at inc_324 (j := 5) rfl) rfl rfl ?_
  refine i_iload (pc' := 10) (f_at inc_324 (j := 6) rfl) rfl rfl ?_
  refine c_tv (pc' := 13) (c' := 3) (n' := 18) (h_virt (ra := [.int a4, .int a3, .int a2, .ref 0]) (r := []) (as := [.int a2, .int a3, .int a4]) (f_at inc_324 (j := 7) rfl) (by decide) MT_322 rfl rfl rfl ⟨Nat.le_of_ble_eq_true rfl, Nat.le_of_ble_eq_true rfl, Nat.le_of_ble_eq_true rfl⟩ sh_0 (f_lt (o := 0) (m := 155) (Nat.le_of_ble_eq_true rfl) hN)) MT_322 (G_322 hN a2 a3 a4 σ) ⟨rfl, rfl, rfl⟩ (fun k w h => x_thr ⟨rfl, rfl⟩ h) ?_
  refine i_iload (pc' := 15) (f_at inc_324 (j := 8) rfl) rfl rfl ?_
  refine i_iconst (pc' := 16) (f_at inc_324 (j := 9) rfl) ci_0 rfl ?_
  refine i_sipush (pc' := 19) (f_at inc_324 (j := 10) rfl) cs_150 rfl ?_
  refine c_tv (pc' := 22) (c' := 2) (n' := 12) (h_stat (ra := [.int (150 : Int32), .int (0 : Int32), .int a5]) (r := []) (as := [.int a5, .int (0 : Int32), .int (150 : Int32)]) (f_at inc_324 (j := 11) rfl) (by decide) MT_285 rfl rfl rfl ⟨Nat.le_of_ble_eq_true rfl, Nat.le_of_ble_eq_true rfl, Nat.le_of_ble_eq_true rfl⟩) MT_285 (G_285 hN a5 (0 : Int32) (150 : Int32) σ) ⟨rfl, rfl, rfl⟩ (fun k w h => x_thr ⟨rfl, rfl⟩ h) ?_
  refine i_iload (pc' := 24) (f_at inc_324 (j := 12) rfl) rfl rfl ?_
  refine i_iload (pc' := 26) (f_at inc_324 (j := 13) rfl) rfl rfl ?_
  refine i_sipush (pc' := 29) (f_at inc_324 (j := 14) rfl) cs_150 rfl ?_
  refine c_tv (pc' := 32) (c' := 1) (n' := 6) (h_stat (ra := [.int (150 : Int32), .int a5, .int a6]) (r := []) (as := [.int a6, .int a5, .int (150 : Int32)]) (f_at inc_324 (j := 15) rfl) (by decide) MT_285 rfl rfl rfl ⟨Nat.le_of_ble_eq_true rfl, Nat.le_of_ble_eq_true rfl, Nat.le_of_ble_eq_true rfl⟩) MT_285 (G_285 hN a6 a5 (150 : Int32) σ) ⟨rfl, rfl, rfl⟩ (fun k w h => x_thr ⟨rfl, rfl⟩ h) ?_
  refine i_aload_n (pc' := 33) (f_at inc_324 (j := 16) rfl) rfl rfl ?_
  refine i_iload_n (pc' := 34) (f_at inc_324 (j := 17) rfl) rfl rfl ?_
  refine i_iload_n (pc' := 35) (f_at inc_324 (j := 18) rfl) rfl rfl ?_
  refine i_iload (pc' := 37) (f_at inc_324 (j := 19) rfl) rfl rfl ?_
  refine c_pi (pc' := 40) (c' := 1) (n' := 6) (h_stat (ra := [.int a4, .int a3]) (r := [.int a1, .ref 0]) (as := [.int a3, .int a4]) (f_at inc_324 (j := 20) rfl) (by decide) MT_77 rfl rfl rfl ⟨Nat.le_of_ble_eq_true rfl, Nat.le_of_ble_eq_true rfl, Nat.le_of_ble_eq_true rfl⟩) MT_77 (G_77 hN a3 a4 σ) ⟨rfl, rfl, rfl⟩ fun t5 => ?_
  refine c_tv (pc' := 43) (c' := 0) (n' := 0) (h_virt (ra := [.int t5, .int a1, .ref 0]) (r := []) (as := [.int a1, .int t5]) (f_at inc_324 (j := 21) rfl) (by decide) MT_323 rfl rfl rfl ⟨Nat.le_of_ble_eq_true rfl, Nat.le_of_ble_eq_true rfl, Nat.le_of_ble_eq_true rfl⟩ sh_0 (f_lt (o := 0) (m := 155) (Nat.le_of_ble_eq_true rfl) hN)) MT_323 (G_323 hN a1 t5 σ) ⟨rfl, rfl, rfl⟩ (fun k w h => x_thr ⟨rfl, rfl⟩ h) ?_
  refine i_aload_n (pc' := 44) (f_at inc_324 (j := 22) rfl) rfl rfl ?_
  refine i_getR (pc' := 47) (f_at inc_324 (j := 23) rfl) sh_0 rfl (f_lt (o := 0) (m := 155) (Nat.le_of_ble_eq_true rfl) hN) rfl ?_
  refine i_aload_n (pc' := 48) (f_at inc_324 (j := 24) rfl) rfl rfl ?_
  refine i_getR (pc' := 51) (f_at inc_324 (j := 25) rfl) sh_0 rfl (f_lt (o := 0) (m := 155) (Nat.le_of_ble_eq_true rfl) hN) rfl ?_
  refine c_wv (pc' := 54) (c' := 0) (n' := 0) (h_virt (ra := [.ref 121, .ref 44]) (r := []) (as := [.ref 121]) (f_at inc_324 (j := 26) rfl) (by decide) MT_73 rfl rfl rfl ⟨Nat.le_of_ble_eq_true rfl, Nat.le_of_ble_eq_true rfl, Nat.le_of_ble_eq_true rfl⟩ sh_44 (f_lt (o := 44) (m := 155) (Nat.le_of_ble_eq_true rfl) hN)) MT_73 (G_73 hN  σ) ⟨rfl, rfl, rfl⟩ fun t7 => ?_
  refine i_aload_n (pc' := 55) (f_at inc_324 (j := 27) rfl) rfl rfl ?_
  refine i_getR (pc' := 58) (f_at inc_324 (j := 28) rfl) sh_0 rfl (f_lt (o := 0) (m := 155) (Nat.le_of_ble_eq_true rfl) hN) rfl ?_
  refine i_iload_n (pc' := 59) (f_at inc_324 (j := 29) rfl) rfl rfl ?_
  refine i_iload_n (pc' := 60) (f_at inc_324 (j := 30) rfl) rfl rfl ?_
  refine i_iload_n (pc' := 61) (f_at inc_324 (j := 31) rfl) rfl rfl ?_
  refine i_iload (pc' := 63) (f_at inc_324 (j := 32) rfl) rfl rfl ?_
  refine i_iload (pc' := 65) (f_at inc_324 (j := 33) rfl) rfl rfl ?_
  refine i_iload (pc' := 67) (f_at inc_324 (j := 34) rfl) rfl rfl ?_
  refine c_wi (pc' := 70) (c' := 0) (n' := 0) (h_virt (ra := [.int a6, .int a5, .int a4, .int a3, .int a2, .int a1, .ref 102]) (r := []) (as := [.int a1, .int a2, .int a3, .int a4, .int a5, .int a6]) (f_at inc_324 (j := 35) rfl) (by decide) MT_99 rfl rfl rfl ⟨Nat.le_of_ble_eq_true rfl, Nat.le_of_ble_eq_true rfl, Nat.le_of_ble_eq_true rfl⟩ sh_102 (f_lt (o := 102) (m := 155) (Nat.le_of_ble_eq_true rfl) hN)) MT_99 (G_99 hN a1 a2 a3 a4 a5 a6 t7) ⟨rfl, rfl, rfl⟩ fun t8 => ?_
  exact i_iret (f_at inc_324 (j := 36) rfl) rfl n_int
set_option maxRecDepth 4000 in
def g_325 (a1 : Int32) (a2 : Int32) (a3 : Int32) (a4 : Int32) (a5 : Int32) (a6 : Int32) (σ : f_M) : Option (Int32 × f_M) :=
  (g_324 a1 a2 a3 a4 a5 a6 σ).bind (f_xe (fun v1 m1 =>
   (f_wr m1 167 1 (0 : Int32) v1).bind fun m2 =>
   some ((0 : Int32), m2)
  ) (fun k1 m1 => (f_hc [(0, 1), (1, 2), (2, 3)] k1).bind fun v => some (v, m1)))
set_option maxRecDepth 4000 in
theorem G_325 {xs : Nat → Int32} {L N : Nat} (hN : 168 ≤ N) (a1 : Int32) (a2 : Int32) (a3 : Int32) (a4 : Int32) (a5 : Int32) (a6 : Int32)  (σ : f_M) : f_Cal a_MT xs L N 325 [.ref 0, .int a1, .int a2, .int a3, .int a4, .int a5, .int a6, .ref 167] σ ((g_325 a1 a2 a3 a4 a5 a6 σ).bind fun t => some (e_wi t)) := by
  refine f_cal_of (ls := [.ref 0, .int a1, .int a2, .int a3, .int a4, .int a5, .int a6, .ref 167, a_dead]) MT_325 (Nat.le_of_ble_eq_true rfl) rfl ?_
  unfold g_325
  refine i_aload (pc' := 2) (f_at inc_325 (j := 0) rfl) rfl rfl ?_
  refine i_iconst (pc' := 3) (f_at inc_325 (j := 1) rfl) ci_0 rfl ?_
  refine i_aload_n (pc' := 4) (f_at inc_325 (j := 2) rfl) rfl rfl ?_
  refine i_iload_n (pc' := 5) (f_at inc_325 (j := 3) rfl) rfl rfl ?_
  refine i_iload_n (pc' := 6) (f_at inc_325 (j := 4) rfl) rfl rfl ?_
  refine i_iload_n (pc' := 7) (f_at inc_325 (j := 5) rfl) rfl rfl ?_
  refine i_iload (pc' := 9) (f_at inc_325 (j := 6) rfl) rfl rfl ?_
  refine i_iload (pc' := 11) (f_at inc_325 (j := 7) rfl) rfl rfl ?_
  refine i_iload (pc' := 13) (f_at inc_325 (j := 8) rfl) rfl rfl ?_
  refine c_xi (pc' := 16) (c' := 0) (n' := 0) (h_virt (ra := [.int a6, .int a5, .int a4, .int a3, .int a2, .int a1, .ref 0]) (r := [.int (0 : Int32), .ref 167]) (as := [.int a1, .int a2, .int a3, .int a4, .int a5, .int a6]) (f_at inc_325 (j := 9) rfl) (by decide) MT_324 rfl rfl rfl ⟨Nat.le_of_ble_eq_true rfl, Nat.le_of_ble_eq_true rfl, Nat.le_of_ble_eq_true rfl⟩ sh_0 (f_lt (o := 0) (m := 168) (Nat.le_of_ble_eq_true rfl) hN)) MT_324 (G_324 (Nat.le_trans (Nat.le_of_ble_eq_true rfl) hN) a1 a2 a3 a4 a5 a6 σ) ⟨rfl, rfl, rfl⟩ (fun k s w h => x_hdl (l := [(0, 1), (1, 2), (2, 3)]) (by decide +kernel) h) fun v1 m1 => ?_
  refine i_i2l (pc' := 17) (f_at inc_325 (j := 10) rfl) rfl ?_
  refine i_last (pc' := 18) (f_at inc_325 (j := 11) rfl) sh_167 rfl (f_lt (o := 167) (m := 168) (Nat.le_of_ble_eq_true rfl) hN) rfl fun m2 => ?_
  refine i_goto (pc' := 33) (f_at inc_325 (j := 12) rfl) (by decide) ?_
  refine i_iconst (pc' := 34) (f_at inc_325 (j := 22) rfl) ci_0 rfl ?_
  exact i_iret (f_at inc_325 (j := 23) rfl) rfl n_int
set_option maxRecDepth 4000 in
def g_326 (a1 : Int32) (a2 : Int32) (a3 : Int32) (σ : f_M) : Option (Bool) :=
  (f_rd σ 156 2420 (0 : Int32)).bind fun v1 =>
  (g_46 (a1).toInt64 (v1).toInt64 (1000 : Int64) σ).bind fun t2 =>
  (
   if t2 = false then (
    some false
   ) else (
    (g_46 (a2).toInt64 (1 : Int64) (24 : Int64) σ).bind fun t4 =>
    if t4 = false then (
     some false
    ) else (
     (g_46 (a3).toInt64 (1 : Int64) (500 : Int64) σ).bind fun t5 =>
     if t5 = false then (
      some false
     ) else (
      some true
     )
    )
   )
  ).bind fun (t3 : Bool) =>
  some t3
set_option maxRecDepth 4000 in
theorem G_326 {xs : Nat → Int32} {L N : Nat} (hN : 166 ≤ N) (a1 : Int32) (a2 : Int32) (a3 : Int32)  (σ : f_M) : f_Cal a_MT xs L N 326 [.ref 155, .int a1, .int a2, .int a3] σ ((g_326 a1 a2 a3 σ).bind fun t => some (e_pb σ t)) := by
  refine f_cal_of (ls := [.ref 155, .int a1, .int a2, .int a3]) MT_326 (Nat.le_of_ble_eq_true rfl) rfl ?_
  unfold g_326
  refine i_iload_n (pc' := 1) (f_at inc_326 (j := 0) rfl) rfl rfl ?_
  refine i_i2l (pc' := 2) (f_at inc_326 (j := 1) rfl) rfl ?_
  refine i_aload_n (pc' := 3) (f_at inc_326 (j := 2) rfl) rfl rfl ?_
  refine i_getR (pc' := 6) (f_at inc_326 (j := 3) rfl) sh_155 rfl (f_lt (o := 155) (m := 166) (Nat.le_of_ble_eq_true rfl) hN) rfl ?_
  refine i_iconst (pc' := 7) (f_at inc_326 (j := 4) rfl) ci_0 rfl ?_
  refine i_iald (pc' := 8) (f_at inc_326 (j := 5) rfl) sh_156 (f_bg (Nat.le_of_ble_eq_true rfl)) (f_lt (o := 156) (m := 166) (Nat.le_of_ble_eq_true rfl) hN) rfl fun v1 => ?_
  refine i_i2l (pc' := 9) (f_at inc_326 (j := 6) rfl) rfl ?_
  refine i_ldc2_w (pc' := 12) (f_at inc_326 (j := 7) rfl) cw_1000 rfl ?_
  refine c_pb (pc' := 15) (c' := 0) (n' := 0) (h_stat (ra := [.long (1000 : Int64), .long (v1).toInt64, .long (a1).toInt64]) (r := []) (as := [.long (a1).toInt64, .long (v1).toInt64, .long (1000 : Int64)]) (f_at inc_326 (j := 8) rfl) (by decide) MT_46 rfl rfl rfl ⟨Nat.le_of_ble_eq_true rfl, Nat.le_of_ble_eq_true rfl, Nat.le_of_ble_eq_true rfl⟩) MT_46 (G_46 hN (a1).toInt64 (v1).toInt64 (1000 : Int64) σ) ⟨rfl, rfl, rfl⟩ fun t2 => ?_
  refine s_join (J := 47) (fun (t3 : Bool) (u3 : Unit) => [.ref 155, .int a1, .int a2, .int a3]) (fun t3 => [.int (f_b t3)]) (fun t3 => σ) ?_ ?_
  · intro t3 u3
    exact i_iret (v := f_b t3) (f_at inc_326 (j := 25) rfl) rfl n_bool
  · intro k3 hj3
    refine i_if0 (pc' := 46) (nx := 18) cb_eq (f_at inc_326 (j := 9) rfl) ⟨by decide, rfl⟩ (fun b8 => ?_) (fun b8 => ?_)
    · refine i_iconst (pc' := 47) (f_at inc_326 (j := 24) rfl) ci_0 rfl ?_
      exact hj3 false ()
    · refine i_iload_n (pc' := 19) (f_at inc_326 (j := 10) rfl) rfl rfl ?_
      refine i_i2l (pc' := 20) (f_at inc_326 (j := 11) rfl) rfl ?_
      refine i_lconst (pc' := 21) (f_at inc_326 (j := 12) rfl) cl_1 rfl ?_
      refine i_ldc2_w (pc' := 24) (f_at inc_326 (j := 13) rfl) cw_24 rfl ?_
      refine c_pb (pc' := 27) (c' := 0) (n' := 0) (h_stat (ra := [.long (24 : Int64), .long (1 : Int64), .long (a2).toInt64]) (r := []) (as := [.long (a2).toInt64, .long (1 : Int64), .long (24 : Int64)]) (f_at inc_326 (j := 14) rfl) (by decide) MT_46 rfl rfl rfl ⟨Nat.le_of_ble_eq_true rfl, Nat.le_of_ble_eq_true rfl, Nat.le_of_ble_eq_true rfl⟩) MT_46 (G_46 hN (a2).toInt64 (1 : Int64) (24 : Int64) σ) ⟨rfl, rfl, rfl⟩ fun t4 => ?_
      refine i_if0 (pc' := 46) (nx := 30) cb_eq (f_at inc_326 (j := 15) rfl) ⟨by decide, rfl⟩ (fun b7 => ?_) (fun b7 => ?_)
      · refine i_iconst (pc' := 47) (f_at inc_326 (j := 24) rfl) ci_0 rfl ?_
        exact hj3 false ()
      · refine i_iload_n (pc' := 31) (f_at inc_326 (j := 16) rfl) rfl rfl ?_
        refine i_i2l (pc' := 32) (f_at inc_326 (j := 17) rfl) rfl ?_
        refine i_lconst (pc' := 33) (f_at inc_326 (j := 18) rfl) cl_1 rfl ?_
        refine i_ldc2_w (pc' := 36) (f_at inc_326 (j := 19) rfl) cw_500 rfl ?_
        refine c_pb (pc' := 39) (c' := 0) (n' := 0) (h_stat (ra := [.long (500 : Int64), .long (1 : Int64), .long (a3).toInt64]) (r := []) (as := [.long (a3).toInt64, .long (1 : Int64), .long (500 : Int64)]) (f_at inc_326 (j := 20) rfl) (by decide) MT_46 rfl rfl rfl ⟨Nat.le_of_ble_eq_true rfl, Nat.le_of_ble_eq_true rfl, Nat.le_of_ble_eq_true rfl⟩) MT_46 (G_46 hN (a3).toInt64 (1 : Int64) (500 : Int64) σ) ⟨rfl, rfl, rfl⟩ fun t5 => ?_
        refine i_if0 (pc' := 46) (nx := 42) cb_eq (f_at inc_326 (j := 21) rfl) ⟨by decide, rfl⟩ (fun b6 => ?_) (fun b6 => ?_)
        · refine i_iconst (pc' := 47) (f_at inc_326 (j := 24) rfl) ci_0 rfl ?_
          exact hj3 false ()
        · refine i_iconst (pc' := 43) (f_at inc_326 (j := 22) rfl) ci_1 rfl ?_
          refine i_goto (pc' := 47) (f_at inc_326 (j := 23) rfl) (by decide) ?_
          exact hj3 true ()
set_option maxRecDepth 4000 in
def g_327 (a1 : Int32) (a2 : Int32) (a3 : Int32) (a4 : Int32) (a5 : Int32) (a6 : Int32) (σ : f_M) : Option (Int32 × f_M) :=
  (g_175 a1 σ).bind fun t1 =>
  (g_326 a2 a3 a4 σ).bind fun t2 =>
  (
   if t2 = false then (
    some false
   ) else (
    (g_46 (a5).toInt64 (0 : Int64) (150 : Int64) σ).bind fun t4 =>
    if t4 = false then (
     some false
    ) else (
     (g_46 (a6).toInt64 (a5).toInt64 (150 : Int64) σ).bind fun t5 =>
     if t5 = false then (
      some false
     ) else (
      some true
     )
    )
   )
  ).bind fun (t3 : Bool) =>
  (
   if t1 = false then (
    some false
   ) else (
    if t3 = false then (
     some false
    ) else (
     (g_150 a3 a4 σ).bind fun t10 =>
     (g_152 a1 t10 σ).bind fun t11 =>
     if t11 = false then (
      some false
     ) else (
      some true
     )
    )
   )
  ).bind fun (t9 : Bool) =>
  (g_176 t1 t3 t9 σ).bind fun t15 =>
  if t15.1 = true then (
   (g_118  t15.2).bind fun t16 =>
   (g_154 a1 a2 a3 a4 a5 a6 t16).bind fun t17 =>
   (g_156  t17).bind fun t18 =>
   some (t18.1, t18.2)
  ) else (
   some ((0 : Int32), t15.2)
  )
set_option maxRecDepth 4000 in
theorem G_327 {xs : Nat → Int32} {L N : Nat} (hN : 166 ≤ N) (a1 : Int32) (a2 : Int32) (a3 : Int32) (a4 : Int32) (a5 : Int32) (a6 : Int32)  (σ : f_M) : f_Cal a_MT xs L N 327 [.ref 155, .int a1, .int a2, .int a3, .int a4, .int a5, .int a6] σ ((g_327 a1 a2 a3 a4 a5 a6 σ).bind fun t => some (e_wi t)) := by
  refine f_cal_of (ls := [.ref 155, .int a1, .int a2, .int a3, .int a4, .int a5, .int a6, a_dead, a_dead]) MT_327 (Nat.le_of_ble_eq_true rfl) rfl ?_
  unfold g_327
  refine i_aload_n (pc' := 1) (f_at inc_327 (j := 0) rfl) rfl rfl ?_
  refine i_iload_n (pc' := 2) (f_at inc_327 (j := 1) rfl) rfl rfl ?_
  refine c_pb (pc' := 5) (c' := 0) (n' := 0) (h_virt (ra := [.int a1, .ref 155]) (r := []) (as := [.int a1]) (f_at inc_327 (j := 2) rfl) (by decide) MT_175 rfl rfl rfl ⟨Nat.le_of_ble_eq_true rfl, Nat.le_of_ble_eq_true rfl, Nat.le_of_ble_eq_true rfl⟩ sh_155 (f_lt (o := 155) (m := 166) (Nat.le_of_ble_eq_true rfl) hN)) MT_175 (G_175 hN a1 σ) ⟨rfl, rfl, rfl⟩ fun t1 => ?_
  refine i_istore (pc' := 7) (ls' := [.ref 155, .int a1, .int a2, .int a3, .int a4, .int a5, .int a6, .int (f_b t1), a_dead]) (f_at inc_327 (j := 3) rfl) (Nat.le_of_ble_eq_true rfl) rfl rfl ?_
  refine i_aload_n (pc' := 8) (f_at inc_327 (j := 4) rfl) rfl rfl ?_
  refine i_iload_n (pc' := 9) (f_at inc_327 (j := 5) rfl) rfl rfl ?_
  refine i_iload_n (pc' := 10) (f_at inc_327 (j := 6) rfl) rfl rfl ?_
  refine i_iload (pc' := 12) (f_at inc_327 (j := 7) rfl) rfl rfl ?_
  refine c_pb (pc' := 15) (c' := 0) (n' := 0) (h_virt (ra := [.int a4, .int a3, .int a2, .ref 155]) (r := []) (as := [.int a2, .int a3, .int a4]) (f_at inc_327 (j := 8) rfl) (by decide) MT_326 rfl rfl rfl ⟨Nat.le_of_ble_eq_true rfl, Nat.le_of_ble_eq_true rfl, Nat.le_of_ble_eq_true rfl⟩ sh_155 (f_lt (o := 155) (m := 166) (Nat.le_of_ble_eq_true rfl) hN)) MT_326 (G_326 hN a2 a3 a4 σ) ⟨rfl, rfl, rfl⟩ fun t2 => ?_
  refine s_join (J := 51) (fun (t3 : Bool) (u3 : Unit) => [.ref 155, .int a1, .int a2, .int a3, .int a4, .int a5, .int a6, .int (f_b t1), a_dead]) (fun t3 => [.int (f_b t3)]) (fun t3 => σ) ?_ ?_
  · intro t3 u3
    refine i_istore (pc' := 53) (ls' := [.ref 155, .int a1, .int a2, .int a3, .int a4, .int a5, .int a6, .int (f_b t1), .int (f_b t3)]) (f_at inc_327 (j := 26) rfl) (Nat.le_of_ble_eq_true rfl) rfl rfl ?_
    refine i_aload_n (pc' := 54) (f_at inc_327 (j := 27) rfl) rfl rfl ?_
    refine i_iload (pc' := 56) (f_at inc_327 (j := 28) rfl) rfl rfl ?_
    refine i_iload (pc' := 58) (f_at inc_327 (j := 29) rfl) rfl rfl ?_
    refine i_iload (pc' := 60) (f_at inc_327 (j := 30) rfl) rfl rfl ?_
    refine s_join (J := 87) (fun (t9 : Bool) (u9 : Unit) => [.ref 155, .int a1, .int a2, .int a3, .int a4, .int a5, .int a6, .int (f_b t1), .int (f_b t3)]) (fun t9 => [.int (f_b t9), .int (f_b t3), .int (f_b t1), .ref 155]) (fun t9 => σ) ?_ ?_
    · intro t9 u9
      refine c_wb (pc' := 90) (c' := 0) (n' := 0) (h_virt (ra := [.int (f_b t9), .int (f_b t3), .int (f_b t1), .ref 155]) (r := []) (as := [.int (f_b t1), .int (f_b t3), .int (f_b t9)]) (f_at inc_327 (j := 44) rfl) (by decide) MT_176 rfl rfl rfl ⟨Nat.le_of_ble_eq_true rfl, Nat.le_of_ble_eq_true rfl, Nat.le_of_ble_eq_true rfl⟩ sh_155 (f_lt (o := 155) (m := 166) (Nat.le_of_ble_eq_true rfl) hN)) MT_176 (G_176 hN t1 t3 t9 σ) ⟨rfl, rfl, rfl⟩ fun t15 => ?_
      refine i_if0 (pc' := 95) (nx := 93) cb_ne (f_at inc_327 (j := 45) rfl) ⟨by decide, rfl⟩ (fun b19 => ?_) (fun b19 => ?_)
      · refine i_aload_n (pc' := 96) (f_at inc_327 (j := 48) rfl) rfl rfl ?_
        refine c_wv (pc' := 99) (c' := 0) (n' := 0) (h_virt (ra := [.ref 155]) (r := []) (as := []) (f_at inc_327 (j := 49) rfl) (by decide) MT_118 rfl rfl rfl ⟨Nat.le_of_ble_eq_true rfl, Nat.le_of_ble_eq_true rfl, Nat.le_of_ble_eq_true rfl⟩ sh_155 (f_lt (o := 155) (m := 166) (Nat.le_of_ble_eq_true rfl) hN)) MT_118 (G_118 hN  t15.2) ⟨rfl, rfl, rfl⟩ fun t16 => ?_
        refine i_aload_n (pc' := 100) (f_at inc_327 (j := 50) rfl) rfl rfl ?_
        refine i_iload_n (pc' := 101) (f_at inc_327 (j := 51) rfl) rfl rfl ?_
        refine i_iload_n (pc' := 102) (f_at inc_327 (j := 52) rfl) rfl rfl ?_
        refine i_iload_n (pc' := 103) (f_at inc_327 (j := 53) rfl) rfl rfl ?_
        refine i_iload (pc' := 105) (f_at inc_327 (j := 54) rfl) rfl rfl ?_
        refine i_iload (pc' := 107) (f_at inc_327 (j := 55) rfl) rfl rfl ?_
        refine i_iload (pc' := 109) (f_at inc_327 (j := 56) rfl) rfl rfl ?_
        refine c_wv (pc' := 112) (c' := 0) (n' := 0) (h_virt (ra := [.int a6, .int a5, .int a4, .int a3, .int a2, .int a1, .ref 155]) (r := []) (as := [.int a1, .int a2, .int a3, .int a4, .int a5, .int a6]) (f_at inc_327 (j := 57) rfl) (by decide) MT_154 rfl rfl rfl ⟨Nat.le_of_ble_eq_true rfl, Nat.le_of_ble_eq_true rfl, Nat.le_of_ble_eq_true rfl⟩ sh_155 (f_lt (o := 155) (m := 166) (Nat.le_of_ble_eq_true rfl) hN)) MT_154 (G_154 hN a1 a2 a3 a4 a5 a6 t16) ⟨rfl, rfl, rfl⟩ fun t17 => ?_
        refine i_aload_n (pc' := 113) (f_at inc_327 (j := 58) rfl) rfl rfl ?_
        refine c_wi (pc' := 116) (c' := 0) (n' := 0) (h_virt (ra := [.ref 155]) (r := []) (as := []) (f_at inc_327 (j := 59) rfl) (by decide) MT_156 rfl rfl rfl ⟨Nat.le_of_ble_eq_true rfl, Nat.le_of_ble_eq_true rfl, Nat.le_of_ble_eq_true rfl⟩ sh_155 (f_lt (o := 155) (m := 166) (Nat.le_of_ble_eq_true rfl) hN)) MT_156 (G_156 hN  t17) ⟨rfl, rfl, rfl⟩ fun t18 => ?_
        exact i_iret (f_at inc_327 (j := 60) rfl) rfl n_int
      · refine i_iconst (pc' := 94) (f_at inc_327 (j := 46) rfl) ci_0 rfl ?_
        exact i_iret (f_at inc_327 (j := 47) rfl) rfl n_int
    · intro k9 hj9
      refine i_if0 (pc' := 86) (nx := 63) cb_eq (f_at inc_327 (j := 31) rfl) ⟨by decide, rfl⟩ (fun b14 => ?_) (fun b14 => ?_)
      · refine i_iconst (pc' := 87) (f_at inc_327 (j := 43) rfl) ci_0 rfl ?_
        exact hj9 false ()
      · refine i_iload (pc' := 65) (f_at inc_327 (j := 32) rfl) rfl rfl ?_
        refine i_if0 (pc' := 86) (nx := 68) cb_eq (f_at inc_327 (j := 33) rfl) ⟨by decide, rfl⟩ (fun b13 => ?_) (fun b13 => ?_)
        · refine i_iconst (pc' := 87) (f_at inc_327 (j := 43) rfl) ci_0 rfl ?_
          exact hj9 false ()
        · refine i_aload_n (pc' := 69) (f_at inc_327 (j := 34) rfl) rfl rfl ?_
          refine i_iload_n (pc' := 70) (f_at inc_327 (j := 35) rfl) rfl rfl ?_
          refine i_iload_n (pc' := 71) (f_at inc_327 (j := 36) rfl) rfl rfl ?_
          refine i_iload (pc' := 73) (f_at inc_327 (j := 37) rfl) rfl rfl ?_
          refine c_pi (pc' := 76) (c' := 0) (n' := 0) (h_stat (ra := [.int a4, .int a3]) (r := [.int a1, .ref 155, .int (f_b t3), .int (f_b t1), .ref 155]) (as := [.int a3, .int a4]) (f_at inc_327 (j := 38) rfl) (by decide) MT_150 rfl rfl rfl ⟨Nat.le_of_ble_eq_true rfl, Nat.le_of_ble_eq_true rfl, Nat.le_of_ble_eq_true rfl⟩) MT_150 (G_150 hN a3 a4 σ) ⟨rfl, rfl, rfl⟩ fun t10 => ?_
          refine c_pb (pc' := 79) (c' := 0) (n' := 0) (h_virt (ra := [.int t10, .int a1, .ref 155]) (r := [.int (f_b t3), .int (f_b t1), .ref 155]) (as := [.int a1, .int t10]) (f_at inc_327 (j := 39) rfl) (by decide) MT_152 rfl rfl rfl ⟨Nat.le_of_ble_eq_true rfl, Nat.le_of_ble_eq_true rfl, Nat.le_of_ble_eq_true rfl⟩ sh_155 (f_lt (o := 155) (m := 166) (Nat.le_of_ble_eq_true rfl) hN)) MT_152 (G_152 hN a1 t10 σ) ⟨rfl, rfl, rfl⟩ fun t11 => ?_
          refine i_if0 (pc' := 86) (nx := 82) cb_eq (f_at inc_327 (j := 40) rfl) ⟨by decide, rfl⟩ (fun b12 => ?_) (fun b12 => ?_)
          · refine i_iconst (pc' := 87) (f_at inc_327 (j := 43) rfl) ci_0 rfl ?_
            exact hj9 false ()
          · refine i_iconst (pc' := 83) (f_at inc_327 (j := 41) rfl) ci_1 rfl ?_
            refine i_goto (pc' := 87) (f_at inc_327 (j := 42) rfl) (by decide) ?_
            exact hj9 true ()
  · intro k3 hj3
    refine i_if0 (pc' := 50) (nx := 18) cb_eq (f_at inc_327 (j := 9) rfl) ⟨by decide, rfl⟩ (fun b8 => ?_) (fun b8 => ?_)
    · refine i_iconst (pc' := 51) (f_at inc_327 (j := 25) rfl) ci_0 rfl ?_
      exact hj3 false ()
    · refine i_iload (pc' := 20) (f_at inc_327 (j := 10) rfl) rfl rfl ?_
      refine i_i2l (pc' := 21) (f_at inc_327 (j := 11) rfl) rfl ?_
      refine i_lconst (pc' := 22) (f_at inc_327 (j := 12) rfl) cl_0 rfl ?_
      refine i_ldc2_w (pc' := 25) (f_at inc_327 (j := 13) rfl) cw_150 rfl ?_
      refine c_pb (pc' := 28) (c' := 0) (n' := 0) (h_stat (ra := [.long (150 : Int64), .long (0 : Int64), .long (a5).toInt64]) (r := []) (as := [.long (a5).toInt64, .long (0 : Int64), .long (150 : Int64)]) (f_at inc_327 (j := 14) rfl) (by decide) MT_46 rfl rfl rfl ⟨Nat.le_of_ble_eq_true rfl, Nat.le_of_ble_eq_true rfl, Nat.le_of_ble_eq_true rfl⟩) MT_46 (G_46 hN (a5).toInt64 (0 : Int64) (150 : Int64) σ) ⟨rfl, rfl, rfl⟩ fun t4 => ?_
      refine i_if0 (pc' := 50) (nx := 31) cb_eq (f_at inc_327 (j := 15) rfl) ⟨by decide, rfl⟩ (fun b7 => ?_) (fun b7 => ?_)
      · refine i_iconst (pc' := 51) (f_at inc_327 (j := 25) rfl) ci_0 rfl ?_
        exact hj3 false ()
      · refine i_iload (pc' := 33) (f_at inc_327 (j := 16) rfl) rfl rfl ?_
        refine i_i2l (pc' := 34) (f_at inc_327 (j := 17) rfl) rfl ?_
        refine i_iload (pc' := 36) (f_at inc_327 (j := 18) rfl) rfl rfl ?_
        refine i_i2l (pc' := 37) (f_at inc_327 (j := 19) rfl) rfl ?_
        refine i_ldc2_w (pc' := 40) (f_at inc_327 (j := 20) rfl) cw_150 rfl ?_
        refine c_pb (pc' := 43) (c' := 0) (n' := 0) (h_stat (ra := [.long (150 : Int64), .long (a5).toInt64, .long (a6).toInt64]) (r := []) (as := [.long (a6).toInt64, .long (a5).toInt64, .long (150 : Int64)]) (f_at inc_327 (j := 21) rfl) (by decide) MT_46 rfl rfl rfl ⟨Nat.le_of_ble_eq_true rfl, Nat.le_of_ble_eq_true rfl, Nat.le_of_ble_eq_true rfl⟩) MT_46 (G_46 hN (a6).toInt64 (a5).toInt64 (150 : Int64) σ) ⟨rfl, rfl, rfl⟩ fun t5 => ?_
        refine i_if0 (pc' := 50) (nx := 46) cb_eq (f_at inc_327 (j := 22) rfl) ⟨by decide, rfl⟩ (fun b6 => ?_) (fun b6 => ?_)
        · refine i_iconst (pc' := 51) (f_at inc_327 (j := 25) rfl) ci_0 rfl ?_
          exact hj3 false ()
        · refine i_iconst (pc' := 47) (f_at inc_327 (j := 23) rfl) ci_1 rfl ?_
          refine i_goto (pc' := 51) (f_at inc_327 (j := 24) rfl) (by decide) ?_
          exact hj3 true ()
set_option maxRecDepth 4000 in
def g_328 (a1 : Int32) (a2 : Int32) (a3 : Int32) (a4 : Int32) (a5 : Int32) (σ : f_M) : Option ((Int32 ⊕ Fin 4) × f_M) :=
  (g_172 a1 σ).bind fun t1 => Sum.elim (fun _ =>
   (g_322 a2 a3 a4 σ).bind fun t2 => Sum.elim (fun _ =>
    (g_285 a5 (0 : Int32) (50 : Int32) σ).bind fun t3 => Sum.elim (fun _ =>
     (g_78 a3 a4 a5 σ).bind fun t4 =>
     (g_323 a1 t4 σ).bind fun t5 => Sum.elim (fun _ =>
      (g_73  σ).bind fun t6 =>
      (g_101 a1 a2 a3 a4 a5 t6).bind fun t7 =>
      some (.inl t7.1, t7.2)
     ) (fun k5 => some (.inr k5, σ)) t5
    ) (fun k3 => some (.inr k3, σ)) t3
   ) (fun k2 => some (.inr k2, σ)) t2
  ) (fun k1 => some (.inr k1, σ)) t1
set_option maxRecDepth 4000 in
theorem G_328 {xs : Nat → Int32} {L N : Nat} (hN : 155 ≤ N) (a1 : Int32) (a2 : Int32) (a3 : Int32) (a4 : Int32) (a5 : Int32)  (σ : f_M) : f_Cal a_MT xs L N 328 [.ref 0, .int a1, .int a2, .int a3, .int a4, .int a5] σ ((g_328 a1 a2 a3 a4 a5 σ).bind fun t => some (e_xi t)) := by
  refine f_cal_of (ls := [.ref 0, .int a1, .int a2, .int a3, .int a4, .int a5]) MT_328 (Nat.le_of_ble_eq_true rfl) rfl ?_
  unfold g_328
  refine i_aload_n (pc' := 1) (f_at inc_328 (j := 0) rfl) rfl rfl ?_
  refine i_iload_n (pc' := 2) (f_at inc_328 (j := 1) rfl) rfl rfl ?_
  refine c_tv (pc' := 5) (c' := 5) (n' := 30) (h_virt (ra := [.int a1, .ref 0]) (r := []) (as := [.int a1]) (f_at inc_328 (j := 2) rfl) (by decide) MT_172 rfl rfl rfl ⟨Nat.le_of_ble_eq_true rfl, Nat.le_of_ble_eq_true rfl, Nat.le_of_ble_eq_true rfl⟩ sh_0 (f_lt (o := 0) (m := 155) (Nat.le_of_ble_eq_true rfl) hN)) MT_172 (G_172 hN a1 σ) ⟨rfl, rfl, rfl⟩ (fun k w h => x_thr ⟨rfl, rfl⟩ h) ?_
  refine i_aload_n (pc' := 6) (f_at inc_328 (j := 3) rfl) rfl rfl ?_
  refine i_iload_n (pc' := 7) (f_at inc_328 (j := 4) rfl) rfl rfl ?_
  refine i_iload_n (pc' := 8) (f_at inc_328 (j := 5) rfl) rfl rfl ?_
  refine i_iload (pc' := 10) (f_at inc_328 (j := 6) rfl) rfl rfl ?_
  refine c_tv (pc' := 13) (c' := 2) (n' := 12) (h_virt (ra := [.int a4, .int a3, .int a2, .ref 0]) (r := []) (as := [.int a2, .int a3, .int a4]) (f_at inc_328 (j := 7) rfl) (by decide) MT_322 rfl rfl rfl ⟨Nat.le_of_ble_eq_true rfl, Nat.le_of_ble_eq_true rfl, Nat.le_of_ble_eq_true rfl⟩ sh_0 (f_lt (o := 0) (m := 155) (Nat.le_of_ble_eq_true rfl) hN)) MT_322 (G_322 hN a2 a3 a4 σ) ⟨rfl, rfl, rfl⟩ (fun k w h => x_thr ⟨rfl, rfl⟩ h) ?_
  refine i_iload (pc' := 15) (f_at inc_328 (j := 8) rfl) rfl rfl ?_
  refine i_iconst (pc' := 16) (f_at inc_328 (j := 9) rfl) ci_0 rfl ?_
  refine i_bipush (pc' := 18) (f_at inc_328 (j := 10) rfl) cb_50 rfl ?_
  refine c_tv (pc' := 21) (c' := 1) (n' := 6) (h_stat (ra := [.int (50 : Int32), .int (0 : Int32), .int a5]) (r := []) (as := [.int a5, .int (0 : Int32), .int (50 : Int32)]) (f_at inc_328 (j := 11) rfl) (by decide) MT_285 rfl rfl rfl ⟨Nat.le_of_ble_eq_true rfl, Nat.le_of_ble_eq_true rfl, Nat.le_of_ble_eq_true rfl⟩) MT_285 (G_285 hN a5 (0 : Int32) (50 : Int32) σ) ⟨rfl, rfl, rfl⟩ (fun k w h => x_thr ⟨rfl, rfl⟩ h) ?_
  refine i_aload_n (pc' := 22) (f_at inc_328 (j := 12) rfl) rfl rfl ?_
  refine i_iload_n (pc' := 23) (f_at inc_328 (j := 13) rfl) rfl rfl ?_
  refine i_iload_n (pc' := 24) (f_at inc_328 (j := 14) rfl) rfl rfl ?_
  refine i_iload (pc' := 26) (f_at inc_328 (j := 15) rfl) rfl rfl ?_
  refine i_iload (pc' := 28) (f_at inc_328 (j := 16) rfl) rfl rfl ?_
  refine c_pi (pc' := 31) (c' := 1) (n' := 6) (h_stat (ra := [.int a5, .int a4, .int a3]) (r := [.int a1, .ref 0]) (as := [.int a3, .int a4, .int a5]) (f_at inc_328 (j := 17) rfl) (by decide) MT_78 rfl rfl rfl ⟨Nat.le_of_ble_eq_true rfl, Nat.le_of_ble_eq_true rfl, Nat.le_of_ble_eq_true rfl⟩) MT_78 (G_78 hN a3 a4 a5 σ) ⟨rfl, rfl, rfl⟩ fun t4 => ?_
  refine c_tv (pc' := 34) (c' := 0) (n' := 0) (h_virt (ra := [.int t4, .int a1, .ref 0]) (r := []) (as := [.int a1, .int t4]) (f_at inc_328 (j := 18) rfl) (by decide) MT_323 rfl rfl rfl ⟨Nat.le_of_ble_eq_true rfl, Nat.le_of_ble_eq_true rfl, Nat.le_of_ble_eq_true rfl⟩ sh_0 (f_lt (o := 0) (m := 155) (Nat.le_of_ble_eq_true rfl) hN)) MT_323 (G_323 hN a1 t4 σ) ⟨rfl, rfl, rfl⟩ (fun k w h => x_thr ⟨rfl, rfl⟩ h) ?_
  refine i_aload_n (pc' := 35) (f_at inc_328 (j := 19) rfl) rfl rfl ?_
  refine i_getR (pc' := 38) (f_at inc_328 (j := 20) rfl) sh_0 rfl (f_lt (o := 0) (m := 155) (Nat.le_of_ble_eq_true rfl) hN) rfl ?_
  refine i_aload_n (pc' := 39) (f_at inc_328 (j := 21) rfl) rfl rfl ?_
  refine i_getR (pc' := 42) (f_at inc_328 (j := 22) rfl) sh_0 rfl (f_lt (o := 0) (m := 155) (Nat.le_of_ble_eq_true rfl) hN) rfl ?_
  refine c_wv (pc' := 45) (c' := 0) (n' := 0) (h_virt (ra := [.ref 121, .ref 44]) (r := []) (as := [.ref 121]) (f_at inc_328 (j := 23) rfl) (by decide) MT_73 rfl rfl rfl ⟨Nat.le_of_ble_eq_true rfl, Nat.le_of_ble_eq_true rfl, Nat.le_of_ble_eq_true rfl⟩ sh_44 (f_lt (o := 44) (m := 155) (Nat.le_of_ble_eq_true rfl) hN)) MT_73 (G_73 hN  σ) ⟨rfl, rfl, rfl⟩ fun t6 => ?_
  refine i_aload_n (pc' := 46) (f_at inc_328 (j := 24) rfl) rfl rfl ?_
  refine i_getR (pc' := 49) (f_at inc_328 (j := 25) rfl) sh_0 rfl (f_lt (o := 0) (m := 155) (Nat.le_of_ble_eq_true rfl) hN) rfl ?_
  refine i_iload_n (pc' := 50) (f_at inc_328 (j := 26) rfl) rfl rfl ?_
  refine i_iload_n (pc' := 51) (f_at inc_328 (j := 27) rfl) rfl rfl ?_
  refine i_iload_n (pc' := 52) (f_at inc_328 (j := 28) rfl) rfl rfl ?_
  refine i_iload (pc' := 54) (f_at inc_328 (j := 29) rfl) rfl rfl ?_
  refine i_iload (pc' := 56) (f_at inc_328 (j := 30) rfl) rfl rfl ?_
  refine c_wi (pc' := 59) (c' := 0) (n' := 0) (h_virt (ra := [.int a5, .int a4, .int a3, .int a2, .int a1, .ref 102]) (r := []) (as := [.int a1, .int a2, .int a3, .int a4, .int a5]) (f_at inc_328 (j := 31) rfl) (by decide) MT_101 rfl rfl rfl ⟨Nat.le_of_ble_eq_true rfl, Nat.le_of_ble_eq_true rfl, Nat.le_of_ble_eq_true rfl⟩ sh_102 (f_lt (o := 102) (m := 155) (Nat.le_of_ble_eq_true rfl) hN)) MT_101 (G_101 hN a1 a2 a3 a4 a5 t6) ⟨rfl, rfl, rfl⟩ fun t7 => ?_
  exact i_iret (f_at inc_328 (j := 32) rfl) rfl n_int
set_option maxRecDepth 4000 in
def g_329 (a1 : Int32) (a2 : Int32) (a3 : Int32) (a4 : Int32) (a5 : Int32) (σ : f_M) : Option (Int32 × f_M) :=
  (g_328 a1 a2 a3 a4 a5 σ).bind (f_xe (fun v1 m1 =>
   (f_wr m1 167 1 (0 : Int32) v1).bind fun m2 =>
   some ((0 : Int32), m2)
  ) (fun k1 m1 => (f_hc [(0, 1), (1, 2), (2, 3)] k1).bind fun v => some (v, m1)))
set_option maxRecDepth 4000 in
theorem G_329 {xs : Nat → Int32} {L N : Nat} (hN : 168 ≤ N) (a1 : Int32) (a2 : Int32) (a3 : Int32) (a4 : Int32) (a5 : Int32)  (σ : f_M) : f_Cal a_MT xs L N 329 [.ref 0, .int a1, .int a2, .int a3, .int a4, .int a5, .ref 167] σ ((g_329 a1 a2 a3 a4 a5 σ).bind fun t => some (e_wi t)) := by
  refine f_cal_of (ls := [.ref 0, .int a1, .int a2, .int a3, .int a4, .int a5, .ref 167, a_dead]) MT_329 (Nat.le_of_ble_eq_true rfl) rfl ?_
  unfold g_329
  refine i_aload (pc' := 2) (f_at inc_329 (j := 0) rfl) rfl rfl ?_
  refine i_iconst (pc' := 3) (f_at inc_329 (j := 1) rfl) ci_0 rfl ?_
  refine i_aload_n (pc' := 4) (f_at inc_329 (j := 2) rfl) rfl rfl ?_
  refine i_iload_n (pc' := 5) (f_at inc_329 (j := 3) rfl) rfl rfl ?_
  refine i_iload_n (pc' := 6) (f_at inc_329 (j := 4) rfl) rfl rfl ?_
  refine i_iload_n (pc' := 7) (f_at inc_329 (j := 5) rfl) rfl rfl ?_
  refine i_iload (pc' := 9) (f_at inc_329 (j := 6) rfl) rfl rfl ?_
  refine i_iload (pc' := 11) (f_at inc_329 (j := 7) rfl) rfl rfl ?_
  refine c_xi (pc' := 14) (c' := 0) (n' := 0) (h_virt (ra := [.int a5, .int a4, .int a3, .int a2, .int a1, .ref 0]) (r := [.int (0 : Int32), .ref 167]) (as := [.int a1, .int a2, .int a3, .int a4, .int a5]) (f_at inc_329 (j := 8) rfl) (by decide) MT_328 rfl rfl rfl ⟨Nat.le_of_ble_eq_true rfl, Nat.le_of_ble_eq_true rfl, Nat.le_of_ble_eq_true rfl⟩ sh_0 (f_lt (o := 0) (m := 168) (Nat.le_of_ble_eq_true rfl) hN)) MT_328 (G_328 (Nat.le_trans (Nat.le_of_ble_eq_true rfl) hN) a1 a2 a3 a4 a5 σ) ⟨rfl, rfl, rfl⟩ (fun k s w h => x_hdl (l := [(0, 1), (1, 2), (2, 3)]) (by decide +kernel) h) fun v1 m1 => ?_
  refine i_i2l (pc' := 15) (f_at inc_329 (j := 9) rfl) rfl ?_
  refine i_last (pc' := 16) (f_at inc_329 (j := 10) rfl) sh_167 rfl (f_lt (o := 167) (m := 168) (Nat.le_of_ble_eq_true rfl) hN) rfl fun m2 => ?_
  refine i_goto (pc' := 31) (f_at inc_329 (j := 11) rfl) (by decide) ?_
  refine i_iconst (pc' := 32) (f_at inc_329 (j := 21) rfl) ci_0 rfl ?_
  exact i_iret (f_at inc_329 (j := 22) rfl) rfl n_int
set_option maxRecDepth 4000 in
def g_330 (a1 : Int32) (a2 : Int32) (a3 : Int32) (a4 : Int32) (a5 : Int32) (σ : f_M) : Option (Int32 × f_M) :=
  (g_175 a1 σ).bind fun t1 =>
  (g_326 a2 a3 a4 σ).bind fun t2 =>
  (
   if t2 = false then (
    some false
   ) else (
    (g_46 (a5).toInt64 (0 : Int64) (50 : Int64) σ).bind fun t4 =>
    if t4 = false then (
     some false
    ) else (
     some true
    )
   )
  ).bind fun (t3 : Bool) =>
  (
   if t1 = false then (
    some false
   ) else (
    if t3 = false then (
     some false
    ) else (
     (g_151 a3 a4 a5 σ).bind fun t8 =>
     (g_152 a1 t8 σ).bind fun t9 =>
     if t9 = false then (
      some false
     ) else (
      some true
     )
    )
   )
  ).bind fun (t7 : Bool) =>
  (g_176 t1 t3 t7 σ).bind fun t13 =>
  if t13.1 = true then (
   (g_118  t13.2).bind fun t14 =>
   (g_155 a1 a2 a3 a4 a5 t14).bind fun t15 =>
   (g_156  t15).bind fun t16 =>
   some (t16.1, t16.2)
  ) else (
   some ((0 : Int32), t13.2)
  )
set_option maxRecDepth 4000 in
theorem G_330 {xs : Nat → Int32} {L N : Nat} (hN : 166 ≤ N) (a1 : Int32) (a2 : Int32) (a3 : Int32) (a4 : Int32) (a5 : Int32)  (σ : f_M) : f_Cal a_MT xs L N 330 [.ref 155, .int a1, .int a2, .int a3, .int a4, .int a5] σ ((g_330 a1 a2 a3 a4 a5 σ).bind fun t => some (e_wi t)) := by
  refine f_cal_of (ls := [.ref 155, .int a1, .int a2, .int a3, .int a4, .int a5, a_dead, a_dead]) MT_330 (Nat.le_of_ble_eq_true rfl) rfl ?_
  unfold g_330
  refine i_aload_n (pc' := 1) (f_at inc_330 (j := 0) rfl) rfl rfl ?_
  refine i_iload_n (pc' := 2) (f_at inc_330 (j := 1) rfl) rfl rfl ?_
  refine c_pb (pc' := 5) (c' := 0) (n' := 0) (h_virt (ra := [.int a1, .ref 155]) (r := []) (as := [.int a1]) (f_at inc_330 (j := 2) rfl) (by decide) MT_175 rfl rfl rfl ⟨Nat.le_of_ble_eq_true rfl, Nat.le_of_ble_eq_true rfl, Nat.le_of_ble_eq_true rfl⟩ sh_155 (f_lt (o := 155) (m := 166) (Nat.le_of_ble_eq_true rfl) hN)) MT_175 (G_175 hN a1 σ) ⟨rfl, rfl, rfl⟩ fun t1 => ?_
  refine i_istore (pc' := 7) (ls' := [.ref 155, .int a1, .int a2, .int a3, .int a4, .int a5, .int (f_b t1), a_dead]) (f_at inc_330 (j := 3) rfl) (Nat.le_of_ble_eq_true rfl) rfl rfl ?_
  refine i_aload_n (pc' := 8) (f_at inc_330 (j := 4) rfl) rfl rfl ?_
  refine i_iload_n (pc' := 9) (f_at inc_330 (j := 5) rfl) rfl rfl ?_
  refine i_iload_n (pc' := 10) (f_at inc_330 (j := 6) rfl) rfl rfl ?_
  refine i_iload (pc' := 12) (f_at inc_330 (j := 7) rfl) rfl rfl ?_
  refine c_pb (pc' := 15) (c' := 0) (n' := 0) (h_virt (ra := [.int a4, .int a3, .int a2, .ref 155]) (r := []) (as := [.int a2, .int a3, .int a4]) (f_at inc_330 (j := 8) rfl) (by decide) MT_326 rfl rfl rfl ⟨Nat.le_of_ble_eq_true rfl, Nat.le_of_ble_eq_true rfl, Nat.le_of_ble_eq_true rfl⟩ sh_155 (f_lt (o := 155) (m := 166) (Nat.le_of_ble_eq_true rfl) hN)) MT_326 (G_326 hN a2 a3 a4 σ) ⟨rfl, rfl, rfl⟩ fun t2 => ?_
  refine s_join (J := 36) (fun (t3 : Bool) (u3 : Unit) => [.ref 155, .int a1, .int a2, .int a3, .int a4, .int a5, .int (f_b t1), a_dead]) (fun t3 => [.int (f_b t3)]) (fun t3 => σ) ?_ ?_
  · intro t3 u3
    refine i_istore (pc' := 38) (ls' := [.ref 155, .int a1, .int a2, .int a3, .int a4, .int a5, .int (f_b t1), .int (f_b t3)]) (f_at inc_330 (j := 19) rfl) (Nat.le_of_ble_eq_true rfl) rfl rfl ?_
    refine i_aload_n (pc' := 39) (f_at inc_330 (j := 20) rfl) rfl rfl ?_
    refine i_iload (pc' := 41) (f_at inc_330 (j := 21) rfl) rfl rfl ?_
    refine i_iload (pc' := 43) (f_at inc_330 (j := 22) rfl) rfl rfl ?_
    refine i_iload (pc' := 45) (f_at inc_330 (j := 23) rfl) rfl rfl ?_
    refine s_join (J := 74) (fun (t7 : Bool) (u7 : Unit) => [.ref 155, .int a1, .int a2, .int a3, .int a4, .int a5, .int (f_b t1), .int (f_b t3)]) (fun t7 => [.int (f_b t7), .int (f_b t3), .int (f_b t1), .ref 155]) (fun t7 => σ) ?_ ?_
    · intro t7 u7
      refine c_wb (pc' := 77) (c' := 0) (n' := 0) (h_virt (ra := [.int (f_b t7), .int (f_b t3), .int (f_b t1), .ref 155]) (r := []) (as := [.int (f_b t1), .int (f_b t3), .int (f_b t7)]) (f_at inc_330 (j := 38) rfl) (by decide) MT_176 rfl rfl rfl ⟨Nat.le_of_ble_eq_true rfl, Nat.le_of_ble_eq_true rfl, Nat.le_of_ble_eq_true rfl⟩ sh_155 (f_lt (o := 155) (m := 166) (Nat.le_of_ble_eq_true rfl) hN)) MT_176 (G_176 hN t1 t3 t7 σ) ⟨rfl, rfl, rfl⟩ fun t13 => ?_
      refine i_if0 (pc' := 82) (nx := 80) cb_ne (f_at inc_330 (j := 39) rfl) ⟨by decide, rfl⟩ (fun b17 => ?_) (fun b17 => ?_)
      · refine i_aload_n (pc' := 83) (f_at inc_330 (j := 42) rfl) rfl rfl ?_
        refine c_wv (pc' := 86) (c' := 0) (n' := 0) (h_virt (ra := [.ref 155]) (r := []) (as := []) (f_at inc_330 (j := 43) rfl) (by decide) MT_118 rfl rfl rfl ⟨Nat.le_of_ble_eq_true rfl, Nat.le_of_ble_eq_true rfl, Nat.le_of_ble_eq_true rfl⟩ sh_155 (f_lt (o := 155) (m := 166) (Nat.le_of_ble_eq_true rfl) hN)) MT_118 (G_118 hN  t13.2) ⟨rfl, rfl, rfl⟩ fun t14 => ?_
        refine i_aload_n (pc' := 87) (f_at inc_330 (j := 44) rfl) rfl rfl ?_
        refine i_iload_n (pc' := 88) (f_at inc_330 (j := 45) rfl) rfl rfl ?_
        refine i_iload_n (pc' := 89) (f_at inc_330 (j := 46) rfl) rfl rfl ?_
        refine i_iload_n (pc' := 90) (f_at inc_330 (j := 47) rfl) rfl rfl ?_
        refine i_iload (pc' := 92) (f_at inc_330 (j := 48) rfl) rfl rfl ?_
        refine i_iload (pc' := 94) (f_at inc_330 (j := 49) rfl) rfl rfl ?_
        refine c_wv (pc' := 97) (c' := 0) (n' := 0) (h_virt (ra := [.int a5, .int a4, .int a3, .int a2, .int a1, .ref 155]) (r := []) (as := [.int a1, .int a2, .int a3, .int a4, .int a5]) (f_at inc_330 (j := 50) rfl) (by decide) MT_155 rfl rfl rfl ⟨Nat.le_of_ble_eq_true rfl, Nat.le_of_ble_eq_true rfl, Nat.le_of_ble_eq_true rfl⟩ sh_155 (f_lt (o := 155) (m := 166) (Nat.le_of_ble_eq_true rfl) hN)) MT_155 (G_155 hN a1 a2 a3 a4 a5 t14) ⟨rfl, rfl, rfl⟩ fun t15 => ?_
        refine i_aload_n (pc' := 98) (f_at inc_330 (j := 51) rfl) rfl rfl ?_
        refine c_wi (pc' := 101) (c' := 0) (n' := 0) (h_virt (ra := [.ref 155]) (r := []) (as := []) (f_at inc_330 (j := 52) rfl) (by decide) MT_156 rfl rfl rfl ⟨Nat.le_of_ble_eq_true rfl, Nat.le_of_ble_eq_true rfl, Nat.le_of_ble_eq_true rfl⟩ sh_155 (f_lt (o := 155) (m := 166) (Nat.le_of_ble_eq_true rfl) hN)) MT_156 (G_156 hN  t15) ⟨rfl, rfl, rfl⟩ fun t16 => ?_
        exact i_iret (f_at inc_330 (j := 53) rfl) rfl n_int
      · refine i_iconst (pc' := 81) (f_at inc_330 (j := 40) rfl) ci_0 rfl ?_
        exact i_iret (f_at inc_330 (j := 41) rfl) rfl n_int
    · intro k7 hj7
      refine i_if0 (pc' := 73) (nx := 48) cb_eq (f_at inc_330 (j := 24) rfl) ⟨by decide, rfl⟩ (fun b12 => ?_) (fun b12 => ?_)
      · refine i_iconst (pc' := 74) (f_at inc_330 (j := 37) rfl) ci_0 rfl ?_
        exact hj7 false ()
      · refine i_iload (pc' := 50) (f_at inc_330 (j := 25) rfl) rfl rfl ?_
        refine i_if0 (pc' := 73) (nx := 53) cb_eq (f_at inc_330 (j := 26) rfl) ⟨by decide, rfl⟩ (fun b11 => ?_) (fun b11 => ?_)
        · refine i_iconst (pc' := 74) (f_at inc_330 (j := 37) rfl) ci_0 rfl ?_
          exact hj7 false ()
        · refine i_aload_n (pc' := 54) (f_at inc_330 (j := 27) rfl) rfl rfl ?_
          refine i_iload_n (pc' := 55) (f_at inc_330 (j := 28) rfl) rfl rfl ?_
          refine i_iload_n (pc' := 56) (f_at inc_330 (j := 29) rfl) rfl rfl ?_
          refine i_iload (pc' := 58) (f_at inc_330 (j := 30) rfl) rfl rfl ?_
          refine i_iload (pc' := 60) (f_at inc_330 (j := 31) rfl) rfl rfl ?_
          refine c_pi (pc' := 63) (c' := 0) (n' := 0) (h_stat (ra := [.int a5, .int a4, .int a3]) (r := [.int a1, .ref 155, .int (f_b t3), .int (f_b t1), .ref 155]) (as := [.int a3, .int a4, .int a5]) (f_at inc_330 (j := 32) rfl) (by decide) MT_151 rfl rfl rfl ⟨Nat.le_of_ble_eq_true rfl, Nat.le_of_ble_eq_true rfl, Nat.le_of_ble_eq_true rfl⟩) MT_151 (G_151 hN a3 a4 a5 σ) ⟨rfl, rfl, rfl⟩ fun t8 => ?_
          refine c_pb (pc' := 66) (c' := 0) (n' := 0) (h_virt (ra := [.int t8, .int a1, .ref 155]) (r := [.int (f_b t3), .int (f_b t1), .ref 155]) (as := [.int a1, .int t8]) (f_at inc_330 (j := 33) rfl) (by decide) MT_152 rfl rfl rfl ⟨Nat.le_of_ble_eq_true rfl, Nat.le_of_ble_eq_true rfl, Nat.le_of_ble_eq_true rfl⟩ sh_155 (f_lt (o := 155) (m := 166) (Nat.le_of_ble_eq_true rfl) hN)) MT_152 (G_152 hN a1 t8 σ) ⟨rfl, rfl, rfl⟩ fun t9 => ?_
          refine i_if0 (pc' := 73) (nx := 69) cb_eq (f_at inc_330 (j := 34) rfl) ⟨by decide, rfl⟩ (fun b10 => ?_) (fun b10 => ?_)
          · refine i_iconst (pc' := 74) (f_at inc_330 (j := 37) rfl) ci_0 rfl ?_
            exact hj7 false ()
          · refine i_iconst (pc' := 70) (f_at inc_330 (j := 35) rfl) ci_1 rfl ?_
            refine i_goto (pc' := 74) (f_at inc_330 (j := 36) rfl) (by decide) ?_
            exact hj7 true ()
  · intro k3 hj3
    refine i_if0 (pc' := 35) (nx := 18) cb_eq (f_at inc_330 (j := 9) rfl) ⟨by decide, rfl⟩ (fun b6 => ?_) (fun b6 => ?_)
    · refine i_iconst (pc' := 36) (f_at inc_330 (j := 18) rfl) ci_0 rfl ?_
      exact hj3 false ()
    · refine i_iload (pc' := 20) (f_at inc_330 (j := 10) rfl) rfl rfl ?_
      refine i_i2l (pc' := 21) (f_at inc_330 (j := 11) rfl) rfl ?_
      refine i_lconst (pc' := 22) (f_at inc_330 (j := 12) rfl) cl_0 rfl ?_
      refine i_ldc2_w (pc' := 25) (f_at inc_330 (j := 13) rfl) cw_50 rfl ?_
      refine c_pb (pc' := 28) (c' := 0) (n' := 0) (h_stat (ra := [.long (50 : Int64), .long (0 : Int64), .long (a5).toInt64]) (r := []) (as := [.long (a5).toInt64, .long (0 : Int64), .long (50 : Int64)]) (f_at inc_330 (j := 14) rfl) (by decide) MT_46 rfl rfl rfl ⟨Nat.le_of_ble_eq_true rfl, Nat.le_of_ble_eq_true rfl, Nat.le_of_ble_eq_true rfl⟩) MT_46 (G_46 hN (a5).toInt64 (0 : Int64) (50 : Int64) σ) ⟨rfl, rfl, rfl⟩ fun t4 => ?_
      refine i_if0 (pc' := 35) (nx := 31) cb_eq (f_at inc_330 (j := 15) rfl) ⟨by decide, rfl⟩ (fun b5 => ?_) (fun b5 => ?_)
      · refine i_iconst (pc' := 36) (f_at inc_330 (j := 18) rfl) ci_0 rfl ?_
        exact hj3 false ()
      · refine i_iconst (pc' := 32) (f_at inc_330 (j := 16) rfl) ci_1 rfl ?_
        refine i_goto (pc' := 36) (f_at inc_330 (j := 17) rfl) (by decide) ?_
        exact hj3 true ()
set_option maxRecDepth 4000 in
def g_331 (a1 : Int32) (σ : f_M) : Option ((Int32 ⊕ Fin 4) × f_M) :=
  (g_196 a1 σ).bind fun t1 => Sum.elim (fun _ =>
   (g_105 a1 σ).bind fun t2 =>
   if t2 = 0 then (
    (g_73  σ).bind fun t3 =>
    (g_109 a1 t3).bind fun t4 =>
    some (.inl t4.1, t4.2)
   ) else (
    some (.inr 2, σ)
   )
  ) (fun k1 => some (.inr k1, σ)) t1
set_option maxRecDepth 4000 in
theorem G_331 {xs : Nat → Int32} {L N : Nat} (hN : 155 ≤ N) (a1 : Int32)  (σ : f_M) : f_Cal a_MT xs L N 331 [.ref 0, .int a1] σ ((g_331 a1 σ).bind fun t => some (e_xi t)) := by
  refine f_cal_of (ls := [.ref 0, .int a1]) MT_331 (Nat.le_of_ble_eq_true rfl) rfl ?_
  unfold g_331
  refine i_aload_n (pc' := 1) (f_at inc_331 (j := 0) rfl) rfl rfl ?_
  refine i_iload_n (pc' := 2) (f_at inc_331 (j := 1) rfl) rfl rfl ?_
  refine c_tv (pc' := 5) (c' := 1) (n' := 6) (h_virt (ra := [.int a1, .ref 0]) (r := []) (as := [.int a1]) (f_at inc_331 (j := 2) rfl) (by decide) MT_196 rfl rfl rfl ⟨Nat.le_of_ble_eq_true rfl, Nat.le_of_ble_eq_true rfl, Nat.le_of_ble_eq_true rfl⟩ sh_0 (f_lt (o := 0) (m := 155) (Nat.le_of_ble_eq_true rfl) hN)) MT_196 (G_196 hN a1 σ) ⟨rfl, rfl, rfl⟩ (fun k w h => x_thr ⟨rfl, rfl⟩ h) ?_
  refine i_aload_n (pc' := 6) (f_at inc_331 (j := 3) rfl) rfl rfl ?_
  refine i_getR (pc' := 9) (f_at inc_331 (j := 4) rfl) sh_0 rfl (f_lt (o := 0) (m := 155) (Nat.le_of_ble_eq_true rfl) hN) rfl ?_
  refine i_iload_n (pc' := 10) (f_at inc_331 (j := 5) rfl) rfl rfl ?_
  refine c_pi (pc' := 13) (c' := 1) (n' := 6) (h_virt (ra := [.int a1, .ref 102]) (r := []) (as := [.int a1]) (f_at inc_331 (j := 6) rfl) (by decide) MT_105 rfl rfl rfl ⟨Nat.le_of_ble_eq_true rfl, Nat.le_of_ble_eq_true rfl, Nat.le_of_ble_eq_true rfl⟩ sh_102 (f_lt (o := 102) (m := 155) (Nat.le_of_ble_eq_true rfl) hN)) MT_105 (G_105 hN a1 σ) ⟨rfl, rfl, rfl⟩ fun t2 => ?_
  refine i_if0 (pc' := 27) (nx := 16) c0_eq (f_at inc_331 (j := 7) rfl) ⟨by decide, rfl⟩ (fun b5 => ?_) (fun b5 => ?_)
  · refine i_aload_n (pc' := 28) (f_at inc_331 (j := 9) rfl) rfl rfl ?_
    refine i_getR (pc' := 31) (f_at inc_331 (j := 10) rfl) sh_0 rfl (f_lt (o := 0) (m := 155) (Nat.le_of_ble_eq_true rfl) hN) rfl ?_
    refine i_aload_n (pc' := 32) (f_at inc_331 (j := 11) rfl) rfl rfl ?_
    refine i_getR (pc' := 35) (f_at inc_331 (j := 12) rfl) sh_0 rfl (f_lt (o := 0) (m := 155) (Nat.le_of_ble_eq_true rfl) hN) rfl ?_
    refine c_wv (pc' := 38) (c' := 1) (n' := 6) (h_virt (ra := [.ref 121, .ref 44]) (r := []) (as := [.ref 121]) (f_at inc_331 (j := 13) rfl) (by decide) MT_73 rfl rfl rfl ⟨Nat.le_of_ble_eq_true rfl, Nat.le_of_ble_eq_true rfl, Nat.le_of_ble_eq_true rfl⟩ sh_44 (f_lt (o := 44) (m := 155) (Nat.le_of_ble_eq_true rfl) hN)) MT_73 (G_73 hN  σ) ⟨rfl, rfl, rfl⟩ fun t3 => ?_
    refine i_aload_n (pc' := 39) (f_at inc_331 (j := 14) rfl) rfl rfl ?_
    refine i_getR (pc' := 42) (f_at inc_331 (j := 15) rfl) sh_0 rfl (f_lt (o := 0) (m := 155) (Nat.le_of_ble_eq_true rfl) hN) rfl ?_
    refine i_iload_n (pc' := 43) (f_at inc_331 (j := 16) rfl) rfl rfl ?_
    refine c_wi (pc' := 46) (c' := 1) (n' := 6) (h_virt (ra := [.int a1, .ref 102]) (r := []) (as := [.int a1]) (f_at inc_331 (j := 17) rfl) (by decide) MT_109 rfl rfl rfl ⟨Nat.le_of_ble_eq_true rfl, Nat.le_of_ble_eq_true rfl, Nat.le_of_ble_eq_true rfl⟩ sh_102 (f_lt (o := 102) (m := 155) (Nat.le_of_ble_eq_true rfl) hN)) MT_109 (G_109 hN a1 t3) ⟨rfl, rfl, rfl⟩ fun t4 => ?_
    exact i_iret (f_at inc_331 (j := 18) rfl) rfl n_int
  · exact i_thrw (a9 := 2) (f_at inc_331 (j := 8) rfl) ⟨rfl, by decide⟩ ⟨rfl, rfl⟩ ⟨Nat.le_of_ble_eq_true rfl, Nat.le_of_ble_eq_true rfl, Nat.le_of_ble_eq_true rfl⟩
set_option maxRecDepth 4000 in
def g_332 (a1 : Int32) (σ : f_M) : Option (Int32 × f_M) :=
  (g_331 a1 σ).bind (f_xe (fun v1 m1 =>
   (f_wr m1 167 1 (0 : Int32) v1).bind fun m2 =>
   some ((0 : Int32), m2)
  ) (fun k1 m1 => (f_hc [(0, 1), (2, 2)] k1).bind fun v => some (v, m1)))
set_option maxRecDepth 4000 in
theorem G_332 {xs : Nat → Int32} {L N : Nat} (hN : 168 ≤ N) (a1 : Int32)  (σ : f_M) : f_Cal a_MT xs L N 332 [.ref 0, .int a1, .ref 167] σ ((g_332 a1 σ).bind fun t => some (e_wi t)) := by
  refine f_cal_of (ls := [.ref 0, .int a1, .ref 167, a_dead]) MT_332 (Nat.le_of_ble_eq_true rfl) rfl ?_
  unfold g_332
  refine i_aload_n (pc' := 1) (f_at inc_332 (j := 0) rfl) rfl rfl ?_
  refine i_iconst (pc' := 2) (f_at inc_332 (j := 1) rfl) ci_0 rfl ?_
  refine i_aload_n (pc' := 3) (f_at inc_332 (j := 2) rfl) rfl rfl ?_
  refine i_iload_n (pc' := 4) (f_at inc_332 (j := 3) rfl) rfl rfl ?_
  refine c_xi (pc' := 7) (c' := 0) (n' := 0) (h_virt (ra := [.int a1, .ref 0]) (r := [.int (0 : Int32), .ref 167]) (as := [.int a1]) (f_at inc_332 (j := 4) rfl) (by decide) MT_331 rfl rfl rfl ⟨Nat.le_of_ble_eq_true rfl, Nat.le_of_ble_eq_true rfl, Nat.le_of_ble_eq_true rfl⟩ sh_0 (f_lt (o := 0) (m := 168) (Nat.le_of_ble_eq_true rfl) hN)) MT_331 (G_331 (Nat.le_trans (Nat.le_of_ble_eq_true rfl) hN) a1 σ) ⟨rfl, rfl, rfl⟩ (fun k s w h => x_hdl (l := [(0, 1), (2, 2)]) (by decide +kernel) h) fun v1 m1 => ?_
  refine i_i2l (pc' := 8) (f_at inc_332 (j := 5) rfl) rfl ?_
  refine i_last (pc' := 9) (f_at inc_332 (j := 6) rfl) sh_167 rfl (f_lt (o := 167) (m := 168) (Nat.le_of_ble_eq_true rfl) hN) rfl fun m2 => ?_
  refine i_goto (pc' := 18) (f_at inc_332 (j := 7) rfl) (by decide) ?_
  refine i_iconst (pc' := 19) (f_at inc_332 (j := 14) rfl) ci_0 rfl ?_
  exact i_iret (f_at inc_332 (j := 15) rfl) rfl n_int
set_option maxRecDepth 4000 in
def g_333 (a1 : Int32) (σ : f_M) : Option (Int32 × f_M) :=
  (g_142 a1 σ).bind fun t1 =>
  (
   if t1 = false then (
    some false
   ) else (
    (g_145 a1 σ).bind fun t3 =>
    if ¬ t3 = 0 then (
     some false
    ) else (
     some true
    )
   )
  ).bind fun (t2 : Bool) =>
  (g_176 t1 t2 true σ).bind fun t6 =>
  if t6.1 = true then (
   (g_118  t6.2).bind fun t7 =>
   (g_148 a1 t7).bind fun t8 =>
   some (t8.1, t8.2)
  ) else (
   some ((0 : Int32), t6.2)
  )
set_option maxRecDepth 4000 in
theorem G_333 {xs : Nat → Int32} {L N : Nat} (hN : 166 ≤ N) (a1 : Int32)  (σ : f_M) : f_Cal a_MT xs L N 333 [.ref 155, .int a1] σ ((g_333 a1 σ).bind fun t => some (e_wi t)) := by
  refine f_cal_of (ls := [.ref 155, .int a1, a_dead]) MT_333 (Nat.le_of_ble_eq_true rfl) rfl ?_
  unfold g_333
  refine i_aload_n (pc' := 1) (f_at inc_333 (j := 0) rfl) rfl rfl ?_
  refine i_iload_n (pc' := 2) (f_at inc_333 (j := 1) rfl) rfl rfl ?_
  refine c_pb (pc' := 5) (c' := 0) (n' := 0) (h_virt (ra := [.int a1, .ref 155]) (r := []) (as := [.int a1]) (f_at inc_333 (j := 2) rfl) (by decide) MT_142 rfl rfl rfl ⟨Nat.le_of_ble_eq_true rfl, Nat.le_of_ble_eq_true rfl, Nat.le_of_ble_eq_true rfl⟩ sh_155 (f_lt (o := 155) (m := 166) (Nat.le_of_ble_eq_true rfl) hN)) MT_142 (G_142 hN a1 σ) ⟨rfl, rfl, rfl⟩ fun t1 => ?_
  refine i_istore_n (pc' := 6) (ls' := [.ref 155, .int a1, .int (f_b t1)]) (f_at inc_333 (j := 3) rfl) (Nat.le_of_ble_eq_true rfl) rfl rfl ?_
  refine i_aload_n (pc' := 7) (f_at inc_333 (j := 4) rfl) rfl rfl ?_
  refine i_iload_n (pc' := 8) (f_at inc_333 (j := 5) rfl) rfl rfl ?_
  refine i_iload_n (pc' := 9) (f_at inc_333 (j := 6) rfl) rfl rfl ?_
  refine s_join (J := 25) (fun (t2 : Bool) (u2 : Unit) => [.ref 155, .int a1, .int (f_b t1)]) (fun t2 => [.int (f_b t2), .int (f_b t1), .ref 155]) (fun t2 => σ) ?_ ?_
  · intro t2 u2
    refine i_iconst (pc' := 26) (f_at inc_333 (j := 15) rfl) ci_1 rfl ?_
    refine c_wb (pc' := 29) (c' := 0) (n' := 0) (h_virt (ra := [.int (1 : Int32), .int (f_b t2), .int (f_b t1), .ref 155]) (r := []) (as := [.int (f_b t1), .int (f_b t2), .int (1 : Int32)]) (f_at inc_333 (j := 16) rfl) (by decide) MT_176 rfl rfl rfl ⟨Nat.le_of_ble_eq_true rfl, Nat.le_of_ble_eq_true rfl, Nat.le_of_ble_eq_true rfl⟩ sh_155 (f_lt (o := 155) (m := 166) (Nat.le_of_ble_eq_true rfl) hN)) MT_176 (G_176 hN t1 t2 true σ) ⟨rfl, rfl, rfl⟩ fun t6 => ?_
    refine i_if0 (pc' := 34) (nx := 32) cb_ne (f_at inc_333 (j := 17) rfl) ⟨by decide, rfl⟩ (fun b9 => ?_) (fun b9 => ?_)
    · refine i_aload_n (pc' := 35) (f_at inc_333 (j := 20) rfl) rfl rfl ?_
      refine c_wv (pc' := 38) (c' := 0) (n' := 0) (h_virt (ra := [.ref 155]) (r := []) (as := []) (f_at inc_333 (j := 21) rfl) (by decide) MT_118 rfl rfl rfl ⟨Nat.le_of_ble_eq_true rfl, Nat.le_of_ble_eq_true rfl, Nat.le_of_ble_eq_true rfl⟩ sh_155 (f_lt (o := 155) (m := 166) (Nat.le_of_ble_eq_true rfl) hN)) MT_118 (G_118 hN  t6.2) ⟨rfl, rfl, rfl⟩ fun t7 => ?_
      refine i_aload_n (pc' := 39) (f_at inc_333 (j := 22) rfl) rfl rfl ?_
      refine i_iload_n (pc' := 40) (f_at inc_333 (j := 23) rfl) rfl rfl ?_
      refine c_wi (pc' := 43) (c' := 0) (n' := 0) (h_virt (ra := [.int a1, .ref 155]) (r := []) (as := [.int a1]) (f_at inc_333 (j := 24) rfl) (by decide) MT_148 rfl rfl rfl ⟨Nat.le_of_ble_eq_true rfl, Nat.le_of_ble_eq_true rfl, Nat.le_of_ble_eq_true rfl⟩ sh_155 (f_lt (o := 155) (m := 166) (Nat.le_of_ble_eq_true rfl) hN)) MT_148 (G_148 hN a1 t7) ⟨rfl, rfl, rfl⟩ fun t8 => ?_
      exact i_iret (f_at inc_333 (j := 25) rfl) rfl n_int
    · refine i_iconst (pc' := 33) (f_at inc_333 (j := 18) rfl) ci_0 rfl ?_
      exact i_iret (f_at inc_333 (j := 19) rfl) rfl n_int
  · intro k2 hj2
    refine i_if0 (pc' := 24) (nx := 12) cb_eq (f_at inc_333 (j := 7) rfl) ⟨by decide, rfl⟩ (fun b5 => ?_) (fun b5 => ?_)
    · refine i_iconst (pc' := 25) (f_at inc_333 (j := 14) rfl) ci_0 rfl ?_
      exact hj2 false ()
    · refine i_aload_n (pc' := 13) (f_at inc_333 (j := 8) rfl) rfl rfl ?_
      refine i_iload_n (pc' := 14) (f_at inc_333 (j := 9) rfl) rfl rfl ?_
      refine c_pi (pc' := 17) (c' := 0) (n' := 0) (h_virt (ra := [.int a1, .ref 155]) (r := [.int (f_b t1), .ref 155]) (as := [.int a1]) (f_at inc_333 (j := 10) rfl) (by decide) MT_145 rfl rfl rfl ⟨Nat.le_of_ble_eq_true rfl, Nat.le_of_ble_eq_true rfl, Nat.le_of_ble_eq_true rfl⟩ sh_155 (f_lt (o := 155) (m := 166) (Nat.le_of_ble_eq_true rfl) hN)) MT_145 (G_145 hN a1 σ) ⟨rfl, rfl, rfl⟩ fun t3 => ?_
      refine i_if0 (pc' := 24) (nx := 20) c0_ne (f_at inc_333 (j := 11) rfl) ⟨by decide, rfl⟩ (fun b4 => ?_) (fun b4 => ?_)
      · refine i_iconst (pc' := 25) (f_at inc_333 (j := 14) rfl) ci_0 rfl ?_
        exact hj2 false ()
      · refine i_iconst (pc' := 21) (f_at inc_333 (j := 12) rfl) ci_1 rfl ?_
        refine i_goto (pc' := 25) (f_at inc_333 (j := 13) rfl) (by decide) ?_
        exact hj2 true ()
set_option maxRecDepth 4000 in
def g_334 (a1 : Int32) (a2 : Int32) (σ : f_M) : Option ((Int32 ⊕ Fin 4) × f_M) :=
  (g_172 a1 σ).bind fun t1 => Sum.elim (fun _ =>
   (g_285 a2 (1 : Int32) (999 : Int32) σ).bind fun t2 => Sum.elim (fun _ =>
    (g_73  σ).bind fun t3 =>
    (g_111 a1 a2 t3).bind fun t4 =>
    some (.inl t4.1, t4.2)
   ) (fun k2 => some (.inr k2, σ)) t2
  ) (fun k1 => some (.inr k1, σ)) t1
set_option maxRecDepth 4000 in
theorem G_334 {xs : Nat → Int32} {L N : Nat} (hN : 155 ≤ N) (a1 : Int32) (a2 : Int32)  (σ : f_M) : f_Cal a_MT xs L N 334 [.ref 0, .int a1, .int a2] σ ((g_334 a1 a2 σ).bind fun t => some (e_xi t)) := by
  refine f_cal_of (ls := [.ref 0, .int a1, .int a2]) MT_334 (Nat.le_of_ble_eq_true rfl) rfl ?_
  unfold g_334
  refine i_aload_n (pc' := 1) (f_at inc_334 (j := 0) rfl) rfl rfl ?_
  refine i_iload_n (pc' := 2) (f_at inc_334 (j := 1) rfl) rfl rfl ?_
  refine c_tv (pc' := 5) (c' := 1) (n' := 6) (h_virt (ra := [.int a1, .ref 0]) (r := []) (as := [.int a1]) (f_at inc_334 (j := 2) rfl) (by decide) MT_172 rfl rfl rfl ⟨Nat.le_of_ble_eq_true rfl, Nat.le_of_ble_eq_true rfl, Nat.le_of_ble_eq_true rfl⟩ sh_0 (f_lt (o := 0) (m := 155) (Nat.le_of_ble_eq_true rfl) hN)) MT_172 (G_172 hN a1 σ) ⟨rfl, rfl, rfl⟩ (fun k w h => x_thr ⟨rfl, rfl⟩ h) ?_
  refine i_iload_n (pc' := 6) (f_at inc_334 (j := 3) rfl) rfl rfl ?_
  refine i_iconst (pc' := 7) (f_at inc_334 (j := 4) rfl) ci_1 rfl ?_
  refine i_sipush (pc' := 10) (f_at inc_334 (j := 5) rfl) cs_999 rfl ?_
  refine c_tv (pc' := 13) (c' := 0) (n' := 0) (h_stat (ra := [.int (999 : Int32), .int (1 : Int32), .int a2]) (r := []) (as := [.int a2, .int (1 : Int32), .int (999 : Int32)]) (f_at inc_334 (j := 6) rfl) (by decide) MT_285 rfl rfl rfl ⟨Nat.le_of_ble_eq_true rfl, Nat.le_of_ble_eq_true rfl, Nat.le_of_ble_eq_true rfl⟩) MT_285 (G_285 hN a2 (1 : Int32) (999 : Int32) σ) ⟨rfl, rfl, rfl⟩ (fun k w h => x_thr ⟨rfl, rfl⟩ h) ?_
  refine i_aload_n (pc' := 14) (f_at inc_334 (j := 7) rfl) rfl rfl ?_
  refine i_getR (pc' := 17) (f_at inc_334 (j := 8) rfl) sh_0 rfl (f_lt (o := 0) (m := 155) (Nat.le_of_ble_eq_true rfl) hN) rfl ?_
  refine i_aload_n (pc' := 18) (f_at inc_334 (j := 9) rfl) rfl rfl ?_
  refine i_getR (pc' := 21) (f_at inc_334 (j := 10) rfl) sh_0 rfl (f_lt (o := 0) (m := 155) (Nat.le_of_ble_eq_true rfl) hN) rfl ?_
  refine c_wv (pc' := 24) (c' := 0) (n' := 0) (h_virt (ra := [.ref 121, .ref 44]) (r := []) (as := [.ref 121]) (f_at inc_334 (j := 11) rfl) (by decide) MT_73 rfl rfl rfl ⟨Nat.le_of_ble_eq_true rfl, Nat.le_of_ble_eq_true rfl, Nat.le_of_ble_eq_true rfl⟩ sh_44 (f_lt (o := 44) (m := 155) (Nat.le_of_ble_eq_true rfl) hN)) MT_73 (G_73 hN  σ) ⟨rfl, rfl, rfl⟩ fun t3 => ?_
  refine i_aload_n (pc' := 25) (f_at inc_334 (j := 12) rfl) rfl rfl ?_
  refine i_getR (pc' := 28) (f_at inc_334 (j := 13) rfl) sh_0 rfl (f_lt (o := 0) (m := 155) (Nat.le_of_ble_eq_true rfl) hN) rfl ?_
  refine i_iload_n (pc' := 29) (f_at inc_334 (j := 14) rfl) rfl rfl ?_
  refine i_iload_n (pc' := 30) (f_at inc_334 (j := 15) rfl) rfl rfl ?_
  refine c_wi (pc' := 33) (c' := 0) (n' := 0) (h_virt (ra := [.int a2, .int a1, .ref 121]) (r := []) (as := [.int a1, .int a2]) (f_at inc_334 (j := 16) rfl) (by decide) MT_111 rfl rfl rfl ⟨Nat.le_of_ble_eq_true rfl, Nat.le_of_ble_eq_true rfl, Nat.le_of_ble_eq_true rfl⟩ sh_121 (f_lt (o := 121) (m := 155) (Nat.le_of_ble_eq_true rfl) hN)) MT_111 (G_111 hN a1 a2 t3) ⟨rfl, rfl, rfl⟩ fun t4 => ?_
  exact i_iret (f_at inc_334 (j := 17) rfl) rfl n_int
set_option maxRecDepth 4000 in
def g_335 (a1 : Int32) (a2 : Int32) (σ : f_M) : Option (Int32 × f_M) :=
  (g_334 a1 a2 σ).bind (f_xe (fun v1 m1 =>
   (f_wr m1 167 1 (0 : Int32) v1).bind fun m2 =>
   some ((0 : Int32), m2)
  ) (fun k1 m1 => (f_hc [(0, 1), (1, 2)] k1).bind fun v => some (v, m1)))
set_option maxRecDepth 4000 in
theorem G_335 {xs : Nat → Int32} {L N : Nat} (hN : 168 ≤ N) (a1 : Int32) (a2 : Int32)  (σ : f_M) : f_Cal a_MT xs L N 335 [.ref 0, .int a1, .int a2, .ref 167] σ ((g_335 a1 a2 σ).bind fun t => some (e_wi t)) := by
  refine f_cal_of (ls := [.ref 0, .int a1, .int a2, .ref 167, a_dead]) MT_335 (Nat.le_of_ble_eq_true rfl) rfl ?_
  unfold g_335
  refine i_aload_n (pc' := 1) (f_at inc_335 (j := 0) rfl) rfl rfl ?_
  refine i_iconst (pc' := 2) (f_at inc_335 (j := 1) rfl) ci_0 rfl ?_
  refine i_aload_n (pc' := 3) (f_at inc_335 (j := 2) rfl) rfl rfl ?_
  refine i_iload_n (pc' := 4) (f_at inc_335 (j := 3) rfl) rfl rfl ?_
  refine i_iload_n (pc' := 5) (f_at inc_335 (j := 4) rfl) rfl rfl ?_
  refine c_xi (pc' := 8) (c' := 0) (n' := 0) (h_virt (ra := [.int a2, .int a1, .ref 0]) (r := [.int (0 : Int32), .ref 167]) (as := [.int a1, .int a2]) (f_at inc_335 (j := 5) rfl) (by decide) MT_334 rfl rfl rfl ⟨Nat.le_of_ble_eq_true rfl, Nat.le_of_ble_eq_true rfl, Nat.le_of_ble_eq_true rfl⟩ sh_0 (f_lt (o := 0) (m := 168) (Nat.le_of_ble_eq_true rfl) hN)) MT_334 (G_334 (Nat.le_trans (Nat.le_of_ble_eq_true rfl) hN) a1 a2 σ) ⟨rfl, rfl, rfl⟩ (fun k s w h => x_hdl (l := [(0, 1), (1, 2)]) (by decide +kernel) h) fun v1 m1 => ?_
  refine i_i2l (pc' := 9) (f_at inc_335 (j := 6) rfl) rfl ?_
  refine i_last (pc' := 10) (f_at inc_335 (j := 7) rfl) sh_167 rfl (f_lt (o := 167) (m := 168) (Nat.le_of_ble_eq_true rfl) hN) rfl fun m2 => ?_
  refine i_goto (pc' := 21) (f_at inc_335 (j := 8) rfl) (by decide) ?_
  refine i_iconst (pc' := 22) (f_at inc_335 (j := 15) rfl) ci_0 rfl ?_
  exact i_iret (f_at inc_335 (j := 16) rfl) rfl n_int
set_option maxRecDepth 4000 in
def g_336 (a1 : Int32) (a2 : Int32) (σ : f_M) : Option (Int32 × f_M) :=
  (g_175 a1 σ).bind fun t1 =>
  (g_46 (a2).toInt64 (1 : Int64) (999 : Int64) σ).bind fun t2 =>
  (g_176 t1 t2 true σ).bind fun t3 =>
  if t3.1 = true then (
   (g_118  t3.2).bind fun t4 =>
   (g_149 a1 a2 t4).bind fun t5 =>
   some (t5.1, t5.2)
  ) else (
   some ((0 : Int32), t3.2)
  )
set_option maxRecDepth 4000 in
theorem G_336 {xs : Nat → Int32} {L N : Nat} (hN : 166 ≤ N) (a1 : Int32) (a2 : Int32)  (σ : f_M) : f_Cal a_MT xs L N 336 [.ref 155, .int a1, .int a2] σ ((g_336 a1 a2 σ).bind fun t => some (e_wi t)) := by
  refine f_cal_of (ls := [.ref 155, .int a1, .int a2]) MT_336 (Nat.le_of_ble_eq_true rfl) rfl ?_
  unfold g_336
  refine i_aload_n (pc' := 1) (f_at inc_336 (j := 0) rfl) rfl rfl ?_
  refine i_aload_n (pc' := 2) (f_at inc_336 (j := 1) rfl) rfl rfl ?_
  refine i_iload_n (pc' := 3) (f_at inc_336 (j := 2) rfl) rfl rfl ?_
  refine c_pb (pc' := 6) (c' := 0) (n' := 0) (h_virt (ra := [.int a1, .ref 155]) (r := [.ref 155]) (as := [.int a1]) (f_at inc_336 (j := 3) rfl) (by decide) MT_175 rfl rfl rfl ⟨Nat.le_of_ble_eq_true rfl, Nat.le_of_ble_eq_true rfl, Nat.le_of_ble_eq_true rfl⟩ sh_155 (f_lt (o := 155) (m := 166) (Nat.le_of_ble_eq_true rfl) hN)) MT_175 (G_175 hN a1 σ) ⟨rfl, rfl, rfl⟩ fun t1 => ?_
  refine i_iload_n (pc' := 7) (f_at inc_336 (j := 4) rfl) rfl rfl ?_
  refine i_i2l (pc' := 8) (f_at inc_336 (j := 5) rfl) rfl ?_
  refine i_lconst (pc' := 9) (f_at inc_336 (j := 6) rfl) cl_1 rfl ?_
  refine i_ldc2_w (pc' := 12) (f_at inc_336 (j := 7) rfl) cw_999 rfl ?_
  refine c_pb (pc' := 15) (c' := 0) (n' := 0) (h_stat (ra := [.long (999 : Int64), .long (1 : Int64), .long (a2).toInt64]) (r := [.int (f_b t1), .ref 155]) (as := [.long (a2).toInt64, .long (1 : Int64), .long (999 : Int64)]) (f_at inc_336 (j := 8) rfl) (by decide) MT_46 rfl rfl rfl ⟨Nat.le_of_ble_eq_true rfl, Nat.le_of_ble_eq_true rfl, Nat.le_of_ble_eq_true rfl⟩) MT_46 (G_46 hN (a2).toInt64 (1 : Int64) (999 : Int64) σ) ⟨rfl, rfl, rfl⟩ fun t2 => ?_
  refine i_iconst (pc' := 16) (f_at inc_336 (j := 9) rfl) ci_1 rfl ?_
  refine c_wb (pc' := 19) (c' := 0) (n' := 0) (h_virt (ra := [.int (1 : Int32), .int (f_b t2), .int (f_b t1), .ref 155]) (r := []) (as := [.int (f_b t1), .int (f_b t2), .int (1 : Int32)]) (f_at inc_336 (j := 10) rfl) (by decide) MT_176 rfl rfl rfl ⟨Nat.le_of_ble_eq_true rfl, Nat.le_of_ble_eq_true rfl, Nat.le_of_ble_eq_true rfl⟩ sh_155 (f_lt (o := 155) (m := 166) (Nat.le_of_ble_eq_true rfl) hN)) MT_176 (G_176 hN t1 t2 true σ) ⟨rfl, rfl, rfl⟩ fun t3 => ?_
  refine i_if0 (pc' := 24) (nx := 22) cb_ne (f_at inc_336 (j := 11) rfl) ⟨by decide, rfl⟩ (fun b6 => ?_) (fun b6 => ?_)
  · refine i_aload_n (pc' := 25) (f_at inc_336 (j := 14) rfl) rfl rfl ?_
    refine c_wv (pc' := 28) (c' := 0) (n' := 0) (h_virt (ra := [.ref 155]) (r := []) (as := []) (f_at inc_336 (j := 15) rfl) (by decide) MT_118 rfl rfl rfl ⟨Nat.le_of_ble_eq_true rfl, Nat.le_of_ble_eq_true rfl, Nat.le_of_ble_eq_true rfl⟩ sh_155 (f_lt (o := 155) (m := 166) (Nat.le_of_ble_eq_true rfl) hN)) MT_118 (G_118 hN  t3.2) ⟨rfl, rfl, rfl⟩ fun t4 => ?_
    refine i_aload_n (pc' := 29) (f_at inc_336 (j := 16) rfl) rfl rfl ?_
    refine i_iload_n (pc' := 30) (f_at inc_336 (j := 17) rfl) rfl rfl ?_
    refine i_iload_n (pc' := 31) (f_at inc_336 (j := 18) rfl) rfl rfl ?_
    refine c_wi (pc' := 34) (c' := 0) (n' := 0) (h_virt (ra := [.int a2, .int a1, .ref 155]) (r := []) (as := [.int a1, .int a2]) (f_at inc_336 (j := 19) rfl) (by decide) MT_149 rfl rfl rfl ⟨Nat.le_of_ble_eq_true rfl, Nat.le_of_ble_eq_true rfl, Nat.le_of_ble_eq_true rfl⟩ sh_155 (f_lt (o := 155) (m := 166) (Nat.le_of_ble_eq_true rfl) hN)) MT_149 (G_149 hN a1 a2 t4) ⟨rfl, rfl, rfl⟩ fun t5 => ?_
    exact i_iret (f_at inc_336 (j := 20) rfl) rfl n_int
  · refine i_iconst (pc' := 23) (f_at inc_336 (j := 12) rfl) ci_0 rfl ?_
    exact i_iret (f_at inc_336 (j := 13) rfl) rfl n_int
set_option maxRecDepth 4000 in
def g_337  (σ : f_M) : Option (Bool) :=
  (
   if ¬ (σ 44 2) = 0 then (
    some false
   ) else (
    some true
   )
  ).bind fun (t1 : Bool) =>
  some t1
set_option maxRecDepth 4000 in
theorem G_337 {xs : Nat → Int32} {L N : Nat} (hN : 155 ≤ N)   (σ : f_M) : f_Cal a_MT xs L N 337 [.ref 44] σ ((g_337  σ).bind fun t => some (e_pb σ t)) := by
  refine f_cal_of (ls := [.ref 44]) MT_337 (Nat.le_of_ble_eq_true rfl) rfl ?_
  unfold g_337
  refine i_aload_n (pc' := 1) (f_at inc_337 (j := 0) rfl) rfl rfl ?_
  refine i_getI (pc' := 4) (f_at inc_337 (j := 1) rfl) sh_44 rfl (f_lt (o := 44) (m := 155) (Nat.le_of_ble_eq_true rfl) hN) rfl ?_
  refine s_join (J := 12) (fun (t1 : Bool) (u1 : Unit) => [.ref 44]) (fun t1 => [.int (f_b t1)]) (fun t1 => σ) ?_ ?_
  · intro t1 u1
    exact i_iret (v := f_b t1) (f_at inc_337 (j := 6) rfl) rfl n_bool
  · intro k1 hj1
    refine i_if0 (pc' := 11) (nx := 7) c0_ne (f_at inc_337 (j := 2) rfl) ⟨by decide, rfl⟩ (fun b2 => ?_) (fun b2 => ?_)
    · refine i_iconst (pc' := 12) (f_at inc_337 (j := 5) rfl) ci_0 rfl ?_
      exact hj1 false ()
    · refine i_iconst (pc' := 8) (f_at inc_337 (j := 3) rfl) ci_1 rfl ?_
      refine i_goto (pc' := 12) (f_at inc_337 (j := 4) rfl) (by decide) ?_
      exact hj1 true ()
set_option maxRecDepth 4000 in
def g_338  (σ : f_M) : Option (Int32 × f_M) :=
  (f_ix 8 ((((f_up σ 44 2 ((σ 44 2) - (1 : Int32))) 44 1) + ((f_up σ 44 2 ((σ 44 2) - (1 : Int32))) 44 2)) - (((f_up σ 44 2 ((σ 44 2) - (1 : Int32))) 44 1) + ((f_up σ 44 2 ((σ 44 2) - (1 : Int32))) 44 2)) / (8 : Int32) * (8 : Int32))).bind fun v1 =>
  (g_72 121 (46 + 7 * v1) (f_up σ 44 2 ((σ 44 2) - (1 : Int32)))).bind fun t2 =>
  some ((t2 44 2), t2)
set_option maxRecDepth 4000 in
theorem G_338 {xs : Nat → Int32} {L N : Nat} (hN : 155 ≤ N)   (σ : f_M) : f_Cal a_MT xs L N 338 [.ref 44, .ref 121] σ ((g_338  σ).bind fun t => some (e_wi t)) := by
  refine f_cal_of (ls := [.ref 44, .ref 121]) MT_338 (Nat.le_of_ble_eq_true rfl) rfl ?_
  unfold g_338
  refine i_aload_n (pc' := 1) (f_at inc_338 (j := 0) rfl) rfl rfl ?_
  refine i_dup (pc' := 2) (f_at inc_338 (j := 1) rfl) rfl rfl ?_
  refine i_getI (pc' := 5) (f_at inc_338 (j := 2) rfl) sh_44 rfl (f_lt (o := 44) (m := 155) (Nat.le_of_ble_eq_true rfl) hN) rfl ?_
  refine i_iconst (pc' := 6) (f_at inc_338 (j := 3) rfl) ci_1 rfl ?_
  refine i_isub (pc' := 7) (f_at inc_338 (j := 4) rfl) rfl ?_
  refine i_putI (pc' := 10) (f_at inc_338 (j := 5) rfl) sh_44 rfl ⟨rfl, rfl⟩ (f_lt (o := 44) (m := 155) (Nat.le_of_ble_eq_true rfl) hN) rfl ?_
  refine i_aload_n (pc' := 11) (f_at inc_338 (j := 6) rfl) rfl rfl ?_
  refine i_aload_n (pc' := 12) (f_at inc_338 (j := 7) rfl) rfl rfl ?_
  refine i_getR (pc' := 15) (f_at inc_338 (j := 8) rfl) sh_44 rfl (f_lt (o := 44) (m := 155) (Nat.le_of_ble_eq_true rfl) hN) rfl ?_
  refine i_aload_n (pc' := 16) (f_at inc_338 (j := 9) rfl) rfl rfl ?_
  refine i_getI (pc' := 19) (f_at inc_338 (j := 10) rfl) sh_44 rfl (f_lt (o := 44) (m := 155) (Nat.le_of_ble_eq_true rfl) hN) rfl ?_
  refine i_aload_n (pc' := 20) (f_at inc_338 (j := 11) rfl) rfl rfl ?_
  refine i_getI (pc' := 23) (f_at inc_338 (j := 12) rfl) sh_44 rfl (f_lt (o := 44) (m := 155) (Nat.le_of_ble_eq_true rfl) hN) rfl ?_
  refine i_iadd (pc' := 24) (f_at inc_338 (j := 13) rfl) rfl ?_
  refine i_bipush (pc' := 26) (f_at inc_338 (j := 14) rfl) cb_8 rfl ?_
  refine i_irem (pc' := 27) (f_at inc_338 (j := 15) rfl) (by decide) rfl ?_
  refine i_kald (pc' := 28) (f_at inc_338 (j := 16) rfl) sh_45 rfl f_gK (f_bg (Nat.le_of_ble_eq_true rfl)) (f_lt (o := 45) (m := 155) (Nat.le_of_ble_eq_true rfl) hN) rfl fun v1 hv1 => ?_
  refine c_wv (pc' := 31) (c' := 0) (n' := 0) (h_virt (ra := [.ref (46 + 7 * v1), .ref 121]) (r := []) (as := [.ref (46 + 7 * v1)]) (f_at inc_338 (j := 17) rfl) (by decide) MT_72 rfl rfl rfl ⟨Nat.le_of_ble_eq_true rfl, Nat.le_of_ble_eq_true rfl, Nat.le_of_ble_eq_true rfl⟩ sh_121 (f_lt (o := 121) (m := 155) (Nat.le_of_ble_eq_true rfl) hN)) MT_72 (G_72 hN 121 (46 + 7 * v1) f_L121 (f_Lk _ hv1) (f_up σ 44 2 ((σ 44 2) - (1 : Int32)))) ⟨rfl, rfl, rfl⟩ fun t2 => ?_
  refine i_aload_n (pc' := 32) (f_at inc_338 (j := 18) rfl) rfl rfl ?_
  refine i_getI (pc' := 35) (f_at inc_338 (j := 19) rfl) sh_44 rfl (f_lt (o := 44) (m := 155) (Nat.le_of_ble_eq_true rfl) hN) rfl ?_
  exact i_iret (f_at inc_338 (j := 20) rfl) rfl n_int
set_option maxRecDepth 4000 in
def g_339  (σ : f_M) : Option ((Int32 ⊕ Fin 4) × f_M) :=
  (g_337  σ).bind fun t1 =>
  if t1 = false then (
   (g_338  σ).bind fun t2 =>
   some (.inl t2.1, t2.2)
  ) else (
   some (.inr 3, σ)
  )
set_option maxRecDepth 4000 in
theorem G_339 {xs : Nat → Int32} {L N : Nat} (hN : 155 ≤ N)   (σ : f_M) : f_Cal a_MT xs L N 339 [.ref 0] σ ((g_339  σ).bind fun t => some (e_xi t)) := by
  refine f_cal_of (ls := [.ref 0]) MT_339 (Nat.le_of_ble_eq_true rfl) rfl ?_
  unfold g_339
  refine i_aload_n (pc' := 1) (f_at inc_339 (j := 0) rfl) rfl rfl ?_
  refine i_getR (pc' := 4) (f_at inc_339 (j := 1) rfl) sh_0 rfl (f_lt (o := 0) (m := 155) (Nat.le_of_ble_eq_true rfl) hN) rfl ?_
  refine c_pb (pc' := 7) (c' := 1) (n' := 6) (h_virt (ra := [.ref 44]) (r := []) (as := []) (f_at inc_339 (j := 2) rfl) (by decide) MT_337 rfl rfl rfl ⟨Nat.le_of_ble_eq_true rfl, Nat.le_of_ble_eq_true rfl, Nat.le_of_ble_eq_true rfl⟩ sh_44 (f_lt (o := 44) (m := 155) (Nat.le_of_ble_eq_true rfl) hN)) MT_337 (G_337 hN  σ) ⟨rfl, rfl, rfl⟩ fun t1 => ?_
  refine i_if0 (pc' := 21) (nx := 10) cb_eq (f_at inc_339 (j := 3) rfl) ⟨by decide, rfl⟩ (fun b3 => ?_) (fun b3 => ?_)
  · refine i_aload_n (pc' := 22) (f_at inc_339 (j := 5) rfl) rfl rfl ?_
    refine i_getR (pc' := 25) (f_at inc_339 (j := 6) rfl) sh_0 rfl (f_lt (o := 0) (m := 155) (Nat.le_of_ble_eq_true rfl) hN) rfl ?_
    refine i_aload_n (pc' := 26) (f_at inc_339 (j := 7) rfl) rfl rfl ?_
    refine i_getR (pc' := 29) (f_at inc_339 (j := 8) rfl) sh_0 rfl (f_lt (o := 0) (m := 155) (Nat.le_of_ble_eq_true rfl) hN) rfl ?_
    refine c_wi (pc' := 32) (c' := 1) (n' := 6) (h_virt (ra := [.ref 121, .ref 44]) (r := []) (as := [.ref 121]) (f_at inc_339 (j := 9) rfl) (by decide) MT_338 rfl rfl rfl ⟨Nat.le_of_ble_eq_true rfl, Nat.le_of_ble_eq_true rfl, Nat.le_of_ble_eq_true rfl⟩ sh_44 (f_lt (o := 44) (m := 155) (Nat.le_of_ble_eq_true rfl) hN)) MT_338 (G_338 hN  σ) ⟨rfl, rfl, rfl⟩ fun t2 => ?_
    exact i_iret (f_at inc_339 (j := 10) rfl) rfl n_int
  · exact i_thrw (a9 := 3) (f_at inc_339 (j := 4) rfl) ⟨rfl, by decide⟩ ⟨rfl, rfl⟩ ⟨Nat.le_of_ble_eq_true rfl, Nat.le_of_ble_eq_true rfl, Nat.le_of_ble_eq_true rfl⟩
set_option maxRecDepth 4000 in
def g_340  (σ : f_M) : Option (Int32 × f_M) :=
  (g_339  σ).bind (f_xe (fun v1 m1 =>
   (f_wr m1 167 1 (0 : Int32) v1).bind fun m2 =>
   some ((0 : Int32), m2)
  ) (fun k1 m1 => (f_hc [(3, 1)] k1).bind fun v => some (v, m1)))
set_option maxRecDepth 4000 in
theorem G_340 {xs : Nat → Int32} {L N : Nat} (hN : 168 ≤ N)   (σ : f_M) : f_Cal a_MT xs L N 340 [.ref 0, .ref 167] σ ((g_340  σ).bind fun t => some (e_wi t)) := by
  refine f_cal_of (ls := [.ref 0, .ref 167, a_dead]) MT_340 (Nat.le_of_ble_eq_true rfl) rfl ?_
  unfold g_340
  refine i_aload_n (pc' := 1) (f_at inc_340 (j := 0) rfl) rfl rfl ?_
  refine i_iconst (pc' := 2) (f_at inc_340 (j := 1) rfl) ci_0 rfl ?_
  refine i_aload_n (pc' := 3) (f_at inc_340 (j := 2) rfl) rfl rfl ?_
  refine c_xi (pc' := 6) (c' := 0) (n' := 0) (h_virt (ra := [.ref 0]) (r := [.int (0 : Int32), .ref 167]) (as := []) (f_at inc_340 (j := 3) rfl) (by decide) MT_339 rfl rfl rfl ⟨Nat.le_of_ble_eq_true rfl, Nat.le_of_ble_eq_true rfl, Nat.le_of_ble_eq_true rfl⟩ sh_0 (f_lt (o := 0) (m := 168) (Nat.le_of_ble_eq_true rfl) hN)) MT_339 (G_339 (Nat.le_trans (Nat.le_of_ble_eq_true rfl) hN)  σ) ⟨rfl, rfl, rfl⟩ (fun k s w h => x_hdl (l := [(3, 1)]) (by decide +kernel) h) fun v1 m1 => ?_
  refine i_i2l (pc' := 7) (f_at inc_340 (j := 4) rfl) rfl ?_
  refine i_last (pc' := 8) (f_at inc_340 (j := 5) rfl) sh_167 rfl (f_lt (o := 167) (m := 168) (Nat.le_of_ble_eq_true rfl) hN) rfl fun m2 => ?_
  refine i_goto (pc' := 14) (f_at inc_340 (j := 6) rfl) (by decide) ?_
  refine i_iconst (pc' := 15) (f_at inc_340 (j := 10) rfl) ci_0 rfl ?_
  exact i_iret (f_at inc_340 (j := 11) rfl) rfl n_int
set_option maxRecDepth 4000 in
def g_341  (σ : f_M) : Option (Int32 × f_M) :=
  (
   if (σ 155 4) ≤ 0 then (
    some false
   ) else (
    some true
   )
  ).bind fun (t1 : Bool) =>
  (g_176 t1 true true σ).bind fun t3 =>
  if t3.1 = true then (
   (f_lp (fun (s4 : Int32 × f_M) =>
    if (2420 : Int32) ≤ s4.1 then (
     some (.inr s4.2)
    ) else (
     (f_rd s4.2 159 19360 (((2420 : Int32) * (s4.2 155 4)) + s4.1)).bind fun v5 =>
     (f_wr s4.2 156 2420 s4.1 v5).bind fun m6 =>
     some (.inl ((s4.1 + (1 : Int32)), m6))
    )
   ) f_F ((0 : Int32), (f_up t3.2 155 4 ((t3.2 155 4) - (1 : Int32))))).bind fun (x4 : f_M) =>
   some ((x4 155 4), x4)
  ) else (
   some ((0 : Int32), t3.2)
  )
set_option maxRecDepth 4000 in
theorem G_341 {xs : Nat → Int32} {L N : Nat} (hN : 166 ≤ N)   (σ : f_M) : f_Cal a_MT xs L N 341 [.ref 155] σ ((g_341  σ).bind fun t => some (e_wi t)) := by
  refine f_cal_of (ls := [.ref 155, a_dead]) MT_341 (Nat.le_of_ble_eq_true rfl) rfl ?_
  unfold g_341
  refine i_aload_n (pc' := 1) (f_at inc_341 (j := 0) rfl) rfl rfl ?_
  refine i_aload_n (pc' := 2) (f_at inc_341 (j := 1) rfl) rfl rfl ?_
  refine i_getI (pc' := 5) (f_at inc_341 (j := 2) rfl) sh_155 rfl (f_lt (o := 155) (m := 166) (Nat.le_of_ble_eq_true rfl) hN) rfl ?_
  refine s_join (J := 13) (fun (t1 : Bool) (u1 : Unit) => [.ref 155, a_dead]) (fun t1 => [.int (f_b t1), .ref 155]) (fun t1 => σ) ?_ ?_
  · intro t1 u1
    refine i_iconst (pc' := 14) (f_at inc_341 (j := 7) rfl) ci_1 rfl ?_
    refine i_iconst (pc' := 15) (f_at inc_341 (j := 8) rfl) ci_1 rfl ?_
    refine c_wb (pc' := 18) (c' := 0) (n' := 0) (h_virt (ra := [.int (1 : Int32), .int (1 : Int32), .int (f_b t1), .ref 155]) (r := []) (as := [.int (f_b t1), .int (1 : Int32), .int (1 : Int32)]) (f_at inc_341 (j := 9) rfl) (by decide) MT_176 rfl rfl rfl ⟨Nat.le_of_ble_eq_true rfl, Nat.le_of_ble_eq_true rfl, Nat.le_of_ble_eq_true rfl⟩ sh_155 (f_lt (o := 155) (m := 166) (Nat.le_of_ble_eq_true rfl) hN)) MT_176 (G_176 hN t1 true true σ) ⟨rfl, rfl, rfl⟩ fun t3 => ?_
    refine i_if0 (pc' := 23) (nx := 21) cb_ne (f_at inc_341 (j := 10) rfl) ⟨by decide, rfl⟩ (fun b8 => ?_) (fun b8 => ?_)
    · refine i_aload_n (pc' := 24) (f_at inc_341 (j := 13) rfl) rfl rfl ?_
      refine i_dup (pc' := 25) (f_at inc_341 (j := 14) rfl) rfl rfl ?_
      refine i_getI (pc' := 28) (f_at inc_341 (j := 15) rfl) sh_155 rfl (f_lt (o := 155) (m := 166) (Nat.le_of_ble_eq_true rfl) hN) rfl ?_
      refine i_iconst (pc' := 29) (f_at inc_341 (j := 16) rfl) ci_1 rfl ?_
      refine i_isub (pc' := 30) (f_at inc_341 (j := 17) rfl) rfl ?_
      refine i_putI (pc' := 33) (f_at inc_341 (j := 18) rfl) sh_155 rfl ⟨rfl, rfl⟩ (f_lt (o := 155) (m := 166) (Nat.le_of_ble_eq_true rfl) hN) rfl ?_
      refine i_iconst (pc' := 34) (f_at inc_341 (j := 19) rfl) ci_0 rfl ?_
      refine i_istore_n (pc' := 35) (ls' := [.ref 155, .int (0 : Int32)]) (f_at inc_341 (j := 20) rfl) (Nat.le_of_ble_eq_true rfl) rfl rfl ?_
      refine s_lX (X := 69) ((0 : Int32), (f_up t3.2 155 4 ((t3.2 155 4) - (1 : Int32)))) () (fun (s4 : Int32 × f_M) (u4 : Unit) => [.ref 155, .int s4.1]) (fun (s4 : Int32 × f_M) => s4.2) (fun (x4 : f_M) (w4 : Value) => [.ref 155, w4]) (fun (x4 : f_M) => x4) ?_ ?_
      · intro x4 w4
        refine i_aload_n (pc' := 70) (f_at inc_341 (j := 39) rfl) rfl rfl ?_
        refine i_getI (pc' := 73) (f_at inc_341 (j := 40) rfl) sh_155 rfl (f_lt (o := 155) (m := 166) (Nat.le_of_ble_eq_true rfl) hN) rfl ?_
        exact i_iret (f_at inc_341 (j := 41) rfl) rfl n_int
      · intro s4 u4 k4 hb4 hx4
        refine i_iload_n (pc' := 36) (f_at inc_341 (j := 21) rfl) rfl rfl ?_
        refine i_sipush (pc' := 39) (f_at inc_341 (j := 22) rfl) cs_2420 rfl ?_
        refine i_if2 (pc' := 69) (nx := 42) c2_ge (f_at inc_341 (j := 23) rfl) ⟨by decide, rfl⟩ (fun b7 => ?_) (fun b7 => ?_)
        · exact hx4 s4.2 (.int s4.1)
        · refine i_aload_n (pc' := 43) (f_at inc_341 (j := 24) rfl) rfl rfl ?_
          refine i_getR (pc' := 46) (f_at inc_341 (j := 25) rfl) sh_155 rfl (f_lt (o := 155) (m := 166) (Nat.le_of_ble_eq_true rfl) hN) rfl ?_
          refine i_iload_n (pc' := 47) (f_at inc_341 (j := 26) rfl) rfl rfl ?_
          refine i_aload_n (pc' := 48) (f_at inc_341 (j := 27) rfl) rfl rfl ?_
          refine i_getR (pc' := 51) (f_at inc_341 (j := 28) rfl) sh_155 rfl (f_lt (o := 155) (m := 166) (Nat.le_of_ble_eq_true rfl) hN) rfl ?_
          refine i_sipush (pc' := 54) (f_at inc_341 (j := 29) rfl) cs_2420 rfl ?_
          refine i_aload_n (pc' := 55) (f_at inc_341 (j := 30) rfl) rfl rfl ?_
          refine i_getI (pc' := 58) (f_at inc_341 (j := 31) rfl) sh_155 rfl (f_lt (o := 155) (m := 166) (Nat.le_of_ble_eq_true rfl) hN) rfl ?_
          refine i_imul (pc' := 59) (f_at inc_341 (j := 32) rfl) rfl ?_
          refine i_iload_n (pc' := 60) (f_at inc_341 (j := 33) rfl) rfl rfl ?_
          refine i_iadd (pc' := 61) (f_at inc_341 (j := 34) rfl) rfl ?_
          refine i_iald (pc' := 62) (f_at inc_341 (j := 35) rfl) sh_159 (f_bg (Nat.le_of_ble_eq_true rfl)) (f_lt (o := 159) (m := 166) (Nat.le_of_ble_eq_true rfl) hN) rfl fun v5 => ?_
          refine i_iast (pc' := 63) (f_at inc_341 (j := 36) rfl) sh_156 (f_lt (o := 156) (m := 166) (Nat.le_of_ble_eq_true rfl) hN) rfl fun m6 => ?_
          refine i_iinc (pc' := 66) (ls' := [.ref 155, .int (s4.1 + (1 : Int32))]) (f_at inc_341 (j := 37) rfl) rfl ci_1 rfl rfl ?_
          refine i_goto (pc' := 35) (f_at inc_341 (j := 38) rfl) (by decide) ?_
          exact hb4 ((s4.1 + (1 : Int32)), m6) ()
    · refine i_iconst (pc' := 22) (f_at inc_341 (j := 11) rfl) ci_0 rfl ?_
      exact i_iret (f_at inc_341 (j := 12) rfl) rfl n_int
  · intro k1 hj1
    refine i_if0 (pc' := 12) (nx := 8) c0_le (f_at inc_341 (j := 3) rfl) ⟨by decide, rfl⟩ (fun b2 => ?_) (fun b2 => ?_)
    · refine i_iconst (pc' := 13) (f_at inc_341 (j := 6) rfl) ci_0 rfl ?_
      exact hj1 false ()
    · refine i_iconst (pc' := 9) (f_at inc_341 (j := 4) rfl) ci_1 rfl ?_
      refine i_goto (pc' := 13) (f_at inc_341 (j := 5) rfl) (by decide) ?_
      exact hj1 true ()
set_option maxRecDepth 4000 in
def g_342 (a1 : Int32) (σ : f_M) : Option (f_M) :=
  (
   if (16 : Int32) ≤ (σ 0 3) then (
    some σ
   ) else (
    (f_wr σ 2 16 (σ 0 3) ((a1).toInt8.toInt32).toInt8.toInt32).bind fun m2 =>
    some (f_up m2 0 3 ((m2 0 3) + (1 : Int32)))
   )
  ).bind fun (t1 : f_M) =>
  some t1
set_option maxRecDepth 4000 in
theorem G_342 {xs : Nat → Int32} {L N : Nat} (hN : 155 ≤ N) (a1 : Int32)  (σ : f_M) : f_Cal a_MT xs L N 342 [.ref 0, .int a1] σ ((g_342 a1 σ).bind fun t => some (e_wv t)) := by
  refine f_cal_of (ls := [.ref 0, .int a1]) MT_342 (Nat.le_of_ble_eq_true rfl) rfl ?_
  unfold g_342
  refine i_aload_n (pc' := 1) (f_at inc_342 (j := 0) rfl) rfl rfl ?_
  refine i_getI (pc' := 4) (f_at inc_342 (j := 1) rfl) sh_0 rfl (f_lt (o := 0) (m := 155) (Nat.le_of_ble_eq_true rfl) hN) rfl ?_
  refine i_bipush (pc' := 6) (f_at inc_342 (j := 2) rfl) cb_16 rfl ?_
  refine s_join (J := 30) (fun (t1 : f_M) (u1 : Unit) => [.ref 0, .int a1]) (fun t1 => []) (fun t1 => t1) ?_ ?_
  · intro t1 u1
    exact i_vret (f_at inc_342 (j := 17) rfl) rfl
  · intro k1 hj1
    refine i_if2 (pc' := 30) (nx := 9) c2_ge (f_at inc_342 (j := 3) rfl) ⟨by decide, rfl⟩ (fun b3 => ?_) (fun b3 => ?_)
    · exact hj1 σ ()
    · refine i_aload_n (pc' := 10) (f_at inc_342 (j := 4) rfl) rfl rfl ?_
      refine i_getR (pc' := 13) (f_at inc_342 (j := 5) rfl) sh_0 rfl (f_lt (o := 0) (m := 155) (Nat.le_of_ble_eq_true rfl) hN) rfl ?_
      refine i_aload_n (pc' := 14) (f_at inc_342 (j := 6) rfl) rfl rfl ?_
      refine i_getI (pc' := 17) (f_at inc_342 (j := 7) rfl) sh_0 rfl (f_lt (o := 0) (m := 155) (Nat.le_of_ble_eq_true rfl) hN) rfl ?_
      refine i_iload_n (pc' := 18) (f_at inc_342 (j := 8) rfl) rfl rfl ?_
      refine i_i2b (pc' := 19) (f_at inc_342 (j := 9) rfl) rfl ?_
      refine i_bast (pc' := 20) (f_at inc_342 (j := 10) rfl) sh_2 (Or.inl rfl) rfl (f_lt (o := 2) (m := 155) (Nat.le_of_ble_eq_true rfl) hN) rfl fun m2 => ?_
      refine i_aload_n (pc' := 21) (f_at inc_342 (j := 11) rfl) rfl rfl ?_
      refine i_dup (pc' := 22) (f_at inc_342 (j := 12) rfl) rfl rfl ?_
      refine i_getI (pc' := 25) (f_at inc_342 (j := 13) rfl) sh_0 rfl (f_lt (o := 0) (m := 155) (Nat.le_of_ble_eq_true rfl) hN) rfl ?_
      refine i_iconst (pc' := 26) (f_at inc_342 (j := 14) rfl) ci_1 rfl ?_
      refine i_iadd (pc' := 27) (f_at inc_342 (j := 15) rfl) rfl ?_
      refine i_putI (pc' := 30) (f_at inc_342 (j := 16) rfl) sh_0 rfl ⟨rfl, rfl⟩ (f_lt (o := 0) (m := 155) (Nat.le_of_ble_eq_true rfl) hN) rfl ?_
      exact hj1 (f_up m2 0 3 ((m2 0 3) + (1 : Int32))) ()
set_option maxRecDepth 4000 in
def g_343 (a1 : Int32) (σ : f_M) : Option (f_M) :=
  (f_lp (fun (s1 : Int32 × f_M) =>
   (f_rd s1.2 104 8 a1).bind fun v2 =>
   if v2 ≤ s1.1 then (
    some (.inr s1.2)
   ) else (
    (g_17 103 a1 s1.1 s1.2).bind fun t3 =>
    (g_342 t3 s1.2).bind fun t4 =>
    some (.inl ((s1.1 + (1 : Int32)), t4))
   )
  ) f_F ((0 : Int32), σ)).bind fun (x1 : f_M) =>
  some x1
set_option maxRecDepth 4000 in
theorem G_343 {xs : Nat → Int32} {L N : Nat} (hN : 155 ≤ N) (a1 : Int32)  (σ : f_M) : f_Cal a_MT xs L N 343 [.ref 0, .int a1] σ ((g_343 a1 σ).bind fun t => some (e_wv t)) := by
  refine f_cal_of (ls := [.ref 0, .int a1, a_dead]) MT_343 (Nat.le_of_ble_eq_true rfl) rfl ?_
  unfold g_343
  refine i_iconst (pc' := 1) (f_at inc_343 (j := 0) rfl) ci_0 rfl ?_
  refine i_istore_n (pc' := 2) (ls' := [.ref 0, .int a1, .int (0 : Int32)]) (f_at inc_343 (j := 1) rfl) (Nat.le_of_ble_eq_true rfl) rfl rfl ?_
  refine s_lX (X := 34) ((0 : Int32), σ) () (fun (s1 : Int32 × f_M) (u1 : Unit) => [.ref 0, .int a1, .int s1.1]) (fun (s1 : Int32 × f_M) => s1.2) (fun (x1 : f_M) (w1 : Value) => [.ref 0, .int a1, w1]) (fun (x1 : f_M) => x1) ?_ ?_
  · intro x1 w1
    exact i_vret (f_at inc_343 (j := 18) rfl) rfl
  · intro s1 u1 k1 hb1 hx1
    refine i_iload_n (pc' := 3) (f_at inc_343 (j := 2) rfl) rfl rfl ?_
    refine i_aload_n (pc' := 4) (f_at inc_343 (j := 3) rfl) rfl rfl ?_
    refine i_getR (pc' := 7) (f_at inc_343 (j := 4) rfl) sh_0 rfl (f_lt (o := 0) (m := 155) (Nat.le_of_ble_eq_true rfl) hN) rfl ?_
    refine i_getR (pc' := 10) (f_at inc_343 (j := 5) rfl) sh_103 rfl (f_lt (o := 103) (m := 155) (Nat.le_of_ble_eq_true rfl) hN) rfl ?_
    refine i_iload_n (pc' := 11) (f_at inc_343 (j := 6) rfl) rfl rfl ?_
    refine i_iald (pc' := 12) (f_at inc_343 (j := 7) rfl) sh_104 (f_bg (Nat.le_of_ble_eq_true rfl)) (f_lt (o := 104) (m := 155) (Nat.le_of_ble_eq_true rfl) hN) rfl fun v2 => ?_
    refine i_if2 (pc' := 34) (nx := 15) c2_ge (f_at inc_343 (j := 8) rfl) ⟨by decide, rfl⟩ (fun b5 => ?_) (fun b5 => ?_)
    · exact hx1 s1.2 (.int s1.1)
    · refine i_aload_n (pc' := 16) (f_at inc_343 (j := 9) rfl) rfl rfl ?_
      refine i_aload_n (pc' := 17) (f_at inc_343 (j := 10) rfl) rfl rfl ?_
      refine i_getR (pc' := 20) (f_at inc_343 (j := 11) rfl) sh_0 rfl (f_lt (o := 0) (m := 155) (Nat.le_of_ble_eq_true rfl) hN) rfl ?_
      refine i_iload_n (pc' := 21) (f_at inc_343 (j := 12) rfl) rfl rfl ?_
      refine i_iload_n (pc' := 22) (f_at inc_343 (j := 13) rfl) rfl rfl ?_
      refine c_pi (pc' := 25) (c' := 0) (n' := 0) (h_virt (ra := [.int s1.1, .int a1, .ref 103]) (r := [.ref 0]) (as := [.int a1, .int s1.1]) (f_at inc_343 (j := 14) rfl) (by decide) MT_17 rfl rfl rfl ⟨Nat.le_of_ble_eq_true rfl, Nat.le_of_ble_eq_true rfl, Nat.le_of_ble_eq_true rfl⟩ sh_103 (f_lt (o := 103) (m := 155) (Nat.le_of_ble_eq_true rfl) hN)) MT_17 (G_17 hN 103 a1 s1.1 f_S103 s1.2) ⟨rfl, rfl, rfl⟩ fun t3 => ?_
      refine c_wv (pc' := 28) (c' := 0) (n' := 0) (h_virt (ra := [.int t3, .ref 0]) (r := []) (as := [.int t3]) (f_at inc_343 (j := 15) rfl) (by decide) MT_342 rfl rfl rfl ⟨Nat.le_of_ble_eq_true rfl, Nat.le_of_ble_eq_true rfl, Nat.le_of_ble_eq_true rfl⟩ sh_0 (f_lt (o := 0) (m := 155) (Nat.le_of_ble_eq_true rfl) hN)) MT_342 (G_342 hN t3 s1.2) ⟨rfl, rfl, rfl⟩ fun t4 => ?_
      refine i_iinc (pc' := 31) (ls' := [.ref 0, .int a1, .int (s1.1 + (1 : Int32))]) (f_at inc_343 (j := 16) rfl) rfl ci_1 rfl rfl ?_
      refine i_goto (pc' := 2) (f_at inc_343 (j := 17) rfl) (by decide) ?_
      exact hb1 ((s1.1 + (1 : Int32)), t4) ()
set_option maxRecDepth 4000 in
def g_344 (a1 : Int32) (σ : f_M) : Option (f_M) :=
  (
   if a1 < (100 : Int32) then (
    some σ
   ) else (
    (g_342 ((48 : Int32) + (a1 / (100 : Int32))) σ).bind fun t2 =>
    some t2
   )
  ).bind fun (t1 : f_M) =>
  (
   if a1 < (10 : Int32) then (
    some t1
   ) else (
    (g_342 ((48 : Int32) + ((a1 / (10 : Int32)) - (a1 / (10 : Int32)) / (10 : Int32) * (10 : Int32))) t1).bind fun t5 =>
    some t5
   )
  ).bind fun (t4 : f_M) =>
  (g_342 ((48 : Int32) + (a1 - a1 / (10 : Int32) * (10 : Int32))) t4).bind fun t7 =>
  some t7
set_option maxRecDepth 4000 in
theorem G_344 {xs : Nat → Int32} {L N : Nat} (hN : 155 ≤ N) (a1 : Int32)  (σ : f_M) : f_Cal a_MT xs L N 344 [.ref 0, .int a1] σ ((g_344 a1 σ).bind fun t => some (e_wv t)) := by
  refine f_cal_of (ls := [.ref 0, .int a1]) MT_344 (Nat.le_of_ble_eq_true rfl) rfl ?_
  unfold g_344
  refine i_iload_n (pc' := 1) (f_at inc_344 (j := 0) rfl) rfl rfl ?_
  refine i_bipush (pc' := 3) (f_at inc_344 (j := 1) rfl) cb_100 rfl ?_
  refine s_join (J := 17) (fun (t1 : f_M) (u1 : Unit) => [.ref 0, .int a1]) (fun t1 => []) (fun t1 => t1) ?_ ?_
  · intro t1 u1
    refine i_iload_n (pc' := 18) (f_at inc_344 (j := 10) rfl) rfl rfl ?_
    refine i_bipush (pc' := 20) (f_at inc_344 (j := 11) rfl) cb_10 rfl ?_
    refine s_join (J := 37) (fun (t4 : f_M) (u4 : Unit) => [.ref 0, .int a1]) (fun t4 => []) (fun t4 => t4) ?_ ?_
    · intro t4 u4
      refine i_aload_n (pc' := 38) (f_at inc_344 (j := 22) rfl) rfl rfl ?_
      refine i_bipush (pc' := 40) (f_at inc_344 (j := 23) rfl) cb_48 rfl ?_
      refine i_iload_n (pc' := 41) (f_at inc_344 (j := 24) rfl) rfl rfl ?_
      refine i_bipush (pc' := 43) (f_at inc_344 (j := 25) rfl) cb_10 rfl ?_
      refine i_irem (pc' := 44) (f_at inc_344 (j := 26) rfl) (by decide) rfl ?_
      refine i_iadd (pc' := 45) (f_at inc_344 (j := 27) rfl) rfl ?_
      refine c_wv (pc' := 48) (c' := 0) (n' := 0) (h_virt (ra := [.int ((48 : Int32) + (a1 - a1 / (10 : Int32) * (10 : Int32))), .ref 0]) (r := []) (as := [.int ((48 : Int32) + (a1 - a1 / (10 : Int32) * (10 : Int32)))]) (f_at inc_344 (j := 28) rfl) (by decide) MT_342 rfl rfl rfl ⟨Nat.le_of_ble_eq_true rfl, Nat.le_of_ble_eq_true rfl, Nat.le_of_ble_eq_true rfl⟩ sh_0 (f_lt (o := 0) (m := 155) (Nat.le_of_ble_eq_true rfl) hN)) MT_342 (G_342 hN ((48 : Int32) + (a1 - a1 / (10 : Int32) * (10 : Int32))) t4) ⟨rfl, rfl, rfl⟩ fun t7 => ?_
      exact i_vret (f_at inc_344 (j := 29) rfl) rfl
    · intro k4 hj4
      refine i_if2 (pc' := 37) (nx := 23) c2_lt (f_at inc_344 (j := 12) rfl) ⟨by decide, rfl⟩ (fun b6 => ?_) (fun b6 => ?_)
      · exact hj4 t1 ()
      · refine i_aload_n (pc' := 24) (f_at inc_344 (j := 13) rfl) rfl rfl ?_
        refine i_bipush (pc' := 26) (f_at inc_344 (j := 14) rfl) cb_48 rfl ?_
        refine i_iload_n (pc' := 27) (f_at inc_344 (j := 15) rfl) rfl rfl ?_
        refine i_bipush (pc' := 29) (f_at inc_344 (j := 16) rfl) cb_10 rfl ?_
        refine i_idiv (pc' := 30) (f_at inc_344 (j := 17) rfl) (by decide) rfl ?_
        refine i_bipush (pc' := 32) (f_at inc_344 (j := 18) rfl) cb_10 rfl ?_
        refine i_irem (pc' := 33) (f_at inc_344 (j := 19) rfl) (by decide) rfl ?_
        refine i_iadd (pc' := 34) (f_at inc_344 (j := 20) rfl) rfl ?_
        refine c_wv (pc' := 37) (c' := 0) (n' := 0) (h_virt (ra := [.int ((48 : Int32) + ((a1 / (10 : Int32)) - (a1 / (10 : Int32)) / (10 : Int32) * (10 : Int32))), .ref 0]) (r := []) (as := [.int ((48 : Int32) + ((a1 / (10 : Int32)) - (a1 / (10 : Int32)) / (10 : Int32) * (10 : Int32)))]) (f_at inc_344 (j := 21) rfl) (by decide) MT_342 rfl rfl rfl ⟨Nat.le_of_ble_eq_true rfl, Nat.le_of_ble_eq_true rfl, Nat.le_of_ble_eq_true rfl⟩ sh_0 (f_lt (o := 0) (m := 155) (Nat.le_of_ble_eq_true rfl) hN)) MT_342 (G_342 hN ((48 : Int32) + ((a1 / (10 : Int32)) - (a1 / (10 : Int32)) / (10 : Int32) * (10 : Int32))) t1) ⟨rfl, rfl, rfl⟩ fun t5 => ?_
        exact hj4 t5 ()
  · intro k1 hj1
    refine i_if2 (pc' := 17) (nx := 6) c2_lt (f_at inc_344 (j := 2) rfl) ⟨by decide, rfl⟩ (fun b3 => ?_) (fun b3 => ?_)
    · exact hj1 σ ()
    · refine i_aload_n (pc' := 7) (f_at inc_344 (j := 3) rfl) rfl rfl ?_
      refine i_bipush (pc' := 9) (f_at inc_344 (j := 4) rfl) cb_48 rfl ?_
      refine i_iload_n (pc' := 10) (f_at inc_344 (j := 5) rfl) rfl rfl ?_
      refine i_bipush (pc' := 12) (f_at inc_344 (j := 6) rfl) cb_100 rfl ?_
      refine i_idiv (pc' := 13) (f_at inc_344 (j := 7) rfl) (by decide) rfl ?_
      refine i_iadd (pc' := 14) (f_at inc_344 (j := 8) rfl) rfl ?_
      refine c_wv (pc' := 17) (c' := 0) (n' := 0) (h_virt (ra := [.int ((48 : Int32) + (a1 / (100 : Int32))), .ref 0]) (r := []) (as := [.int ((48 : Int32) + (a1 / (100 : Int32)))]) (f_at inc_344 (j := 9) rfl) (by decide) MT_342 rfl rfl rfl ⟨Nat.le_of_ble_eq_true rfl, Nat.le_of_ble_eq_true rfl, Nat.le_of_ble_eq_true rfl⟩ sh_0 (f_lt (o := 0) (m := 155) (Nat.le_of_ble_eq_true rfl) hN)) MT_342 (G_342 hN ((48 : Int32) + (a1 / (100 : Int32))) σ) ⟨rfl, rfl, rfl⟩ fun t2 => ?_
      exact hj1 t2 ()
set_option maxRecDepth 4000 in
def g_345 (a1 : Int32) (σ : f_M) : Option ((Int32 ⊕ Fin 4) × f_M) :=
  (g_230 a1 σ).bind fun t1 => Sum.elim (fun _ =>
   (f_rd σ 119 20 a1).bind fun v2 =>
   (f_rd (f_up σ 0 3 (0 : Int32)) 112 20 v2).bind fun v3 =>
   (g_343 v3 (f_up σ 0 3 (0 : Int32))).bind fun t4 =>
   (g_342 (47 : Int32) t4).bind fun t5 =>
   (f_rd t5 111 20 v2).bind fun v6 =>
   (
    if v6 = 0 then (
     some (112 : Int32)
    ) else (
     some (107 : Int32)
    )
   ).bind fun (t7 : Int32) =>
   (g_342 t7 t5).bind fun t9 =>
   (f_rd t9 124 20 a1).bind fun v10 =>
   (
    if v10 = (0 : Int32) then (
     (g_342 (63 : Int32) t9).bind fun t12 =>
     some t12
    ) else
    if v10 = (1 : Int32) then (
     (g_342 (45 : Int32) t9).bind fun t14 =>
     some t14
    ) else
    if v10 = (2 : Int32) then (
     (g_342 (43 : Int32) t9).bind fun t16 =>
     (f_rd t16 126 20 a1).bind fun v17 =>
     (g_344 v17 t16).bind fun t18 =>
     some t18
    ) else
    (
     (g_342 (61 : Int32) t9).bind fun t20 =>
     (f_rd t20 126 20 a1).bind fun v21 =>
     (g_344 v21 t20).bind fun t22 =>
     some t22
    )
   ).bind fun (t11 : f_M) =>
   some (.inl (t11 0 3), t11)
  ) (fun k1 => some (.inr k1, σ)) t1
set_option maxRecDepth 4000 in
theorem G_345 {xs : Nat → Int32} {L N : Nat} (hN : 155 ≤ N) (a1 : Int32)  (σ : f_M) : f_Cal a_MT xs L N 345 [.ref 0, .int a1] σ ((g_345 a1 σ).bind fun t => some (e_xi t)) := by
  refine f_cal_of (ls := [.ref 0, .int a1, a_dead]) MT_345 (Nat.le_of_ble_eq_true rfl) rfl ?_
  unfold g_345
  refine i_aload_n (pc' := 1) (f_at inc_345 (j := 0) rfl) rfl rfl ?_
  refine i_iload_n (pc' := 2) (f_at inc_345 (j := 1) rfl) rfl rfl ?_
  refine c_tv (pc' := 5) (c' := 0) (n' := 0) (h_virt (ra := [.int a1, .ref 0]) (r := []) (as := [.int a1]) (f_at inc_345 (j := 2) rfl) (by decide) MT_230 rfl rfl rfl ⟨Nat.le_of_ble_eq_true rfl, Nat.le_of_ble_eq_true rfl, Nat.le_of_ble_eq_true rfl⟩ sh_0 (f_lt (o := 0) (m := 155) (Nat.le_of_ble_eq_true rfl) hN)) MT_230 (G_230 hN a1 σ) ⟨rfl, rfl, rfl⟩ (fun k w h => x_thr ⟨rfl, rfl⟩ h) ?_
  refine i_aload_n (pc' := 6) (f_at inc_345 (j := 3) rfl) rfl rfl ?_
  refine i_getR (pc' := 9) (f_at inc_345 (j := 4) rfl) sh_0 rfl (f_lt (o := 0) (m := 155) (Nat.le_of_ble_eq_true rfl) hN) rfl ?_
  refine i_getR (pc' := 12) (f_at inc_345 (j := 5) rfl) sh_108 rfl (f_lt (o := 108) (m := 155) (Nat.le_of_ble_eq_true rfl) hN) rfl ?_
  refine i_iload_n (pc' := 13) (f_at inc_345 (j := 6) rfl) rfl rfl ?_
  refine i_iald (pc' := 14) (f_at inc_345 (j := 7) rfl) sh_119 (f_bg (Nat.le_of_ble_eq_true rfl)) (f_lt (o := 119) (m := 155) (Nat.le_of_ble_eq_true rfl) hN) rfl fun v2 => ?_
  refine i_istore_n (pc' := 15) (ls' := [.ref 0, .int a1, .int v2]) (f_at inc_345 (j := 8) rfl) (Nat.le_of_ble_eq_true rfl) rfl rfl ?_
  refine i_aload_n (pc' := 16) (f_at inc_345 (j := 9) rfl) rfl rfl ?_
  refine i_iconst (pc' := 17) (f_at inc_345 (j := 10) rfl) ci_0 rfl ?_
  refine i_putI (pc' := 20) (f_at inc_345 (j := 11) rfl) sh_0 rfl ⟨rfl, rfl⟩ (f_lt (o := 0) (m := 155) (Nat.le_of_ble_eq_true rfl) hN) rfl ?_
  refine i_aload_n (pc' := 21) (f_at inc_345 (j := 12) rfl) rfl rfl ?_
  refine i_aload_n (pc' := 22) (f_at inc_345 (j := 13) rfl) rfl rfl ?_
  refine i_getR (pc' := 25) (f_at inc_345 (j := 14) rfl) sh_0 rfl (f_lt (o := 0) (m := 155) (Nat.le_of_ble_eq_true rfl) hN) rfl ?_
  refine i_getR (pc' := 28) (f_at inc_345 (j := 15) rfl) sh_108 rfl (f_lt (o := 108) (m := 155) (Nat.le_of_ble_eq_true rfl) hN) rfl ?_
  refine i_iload_n (pc' := 29) (f_at inc_345 (j := 16) rfl) rfl rfl ?_
  refine i_iald (pc' := 30) (f_at inc_345 (j := 17) rfl) sh_112 (f_bg (Nat.le_of_ble_eq_true rfl)) (f_lt (o := 112) (m := 155) (Nat.le_of_ble_eq_true rfl) hN) rfl fun v3 => ?_
  refine c_wv (pc' := 33) (c' := 0) (n' := 0) (h_virt (ra := [.int v3, .ref 0]) (r := []) (as := [.int v3]) (f_at inc_345 (j := 18) rfl) (by decide) MT_343 rfl rfl rfl ⟨Nat.le_of_ble_eq_true rfl, Nat.le_of_ble_eq_true rfl, Nat.le_of_ble_eq_true rfl⟩ sh_0 (f_lt (o := 0) (m := 155) (Nat.le_of_ble_eq_true rfl) hN)) MT_343 (G_343 hN v3 (f_up σ 0 3 (0 : Int32))) ⟨rfl, rfl, rfl⟩ fun t4 => ?_
  refine i_aload_n (pc' := 34) (f_at inc_345 (j := 19) rfl) rfl rfl ?_
  refine i_bipush (pc' := 36) (f_at inc_345 (j := 20) rfl) cb_47 rfl ?_
  refine c_wv (pc' := 39) (c' := 0) (n' := 0) (h_virt (ra := [.int (47 : Int32), .ref 0]) (r := []) (as := [.int (47 : Int32)]) (f_at inc_345 (j := 21) rfl) (by decide) MT_342 rfl rfl rfl ⟨Nat.le_of_ble_eq_true rfl, Nat.le_of_ble_eq_true rfl, Nat.le_of_ble_eq_true rfl⟩ sh_0 (f_lt (o := 0) (m := 155) (Nat.le_of_ble_eq_true rfl) hN)) MT_342 (G_342 hN (47 : Int32) t4) ⟨rfl, rfl, rfl⟩ fun t5 => ?_
  refine i_aload_n (pc' := 40) (f_at inc_345 (j := 22) rfl) rfl rfl ?_
  refine i_aload_n (pc' := 41) (f_at inc_345 (j := 23) rfl) rfl rfl ?_
  refine i_getR (pc' := 44) (f_at inc_345 (j := 24) rfl) sh_0 rfl (f_lt (o := 0) (m := 155) (Nat.le_of_ble_eq_true rfl) hN) rfl ?_
  refine i_getR (pc' := 47) (f_at inc_345 (j := 25) rfl) sh_108 rfl (f_lt (o := 108) (m := 155) (Nat.le_of_ble_eq_true rfl) hN) rfl ?_
  refine i_iload_n (pc' := 48) (f_at inc_345 (j := 26) rfl) rfl rfl ?_
  refine i_bald (pc' := 49) (f_at inc_345 (j := 27) rfl) sh_111 (Or.inr rfl) (f_bg (Nat.le_of_ble_eq_true rfl)) (f_lt (o := 111) (m := 155) (Nat.le_of_ble_eq_true rfl) hN) rfl fun v6 => ?_
  refine s_join (J := 59) (fun (t7 : Int32) (u7 : Unit) => [.ref 0, .int a1, .int v2]) (fun t7 => [.int t7, .ref 0]) (fun t7 => t5) ?_ ?_
  · intro t7 u7
    refine c_wv (pc' := 62) (c' := 0) (n' := 0) (h_virt (ra := [.int t7, .ref 0]) (r := []) (as := [.int t7]) (f_at inc_345 (j := 32) rfl) (by decide) MT_342 rfl rfl rfl ⟨Nat.le_of_ble_eq_true rfl, Nat.le_of_ble_eq_true rfl, Nat.le_of_ble_eq_true rfl⟩ sh_0 (f_lt (o := 0) (m := 155) (Nat.le_of_ble_eq_true rfl) hN)) MT_342 (G_342 hN t7 t5) ⟨rfl, rfl, rfl⟩ fun t9 => ?_
    refine i_aload_n (pc' := 63) (f_at inc_345 (j := 33) rfl) rfl rfl ?_
    refine i_getR (pc' := 66) (f_at inc_345 (j := 34) rfl) sh_0 rfl (f_lt (o := 0) (m := 155) (Nat.le_of_ble_eq_true rfl) hN) rfl ?_
    refine i_getR (pc' := 69) (f_at inc_345 (j := 35) rfl) sh_121 rfl (f_lt (o := 121) (m := 155) (Nat.le_of_ble_eq_true rfl) hN) rfl ?_
    refine i_iload_n (pc' := 70) (f_at inc_345 (j := 36) rfl) rfl rfl ?_
    refine i_iald (pc' := 71) (f_at inc_345 (j := 37) rfl) sh_124 (f_bg (Nat.le_of_ble_eq_true rfl)) (f_lt (o := 124) (m := 155) (Nat.le_of_ble_eq_true rfl) hN) rfl fun v10 => ?_
    refine s_join (J := 155) (fun (t11 : f_M) (u11 : Unit) => [.ref 0, .int a1, .int v2]) (fun t11 => []) (fun t11 => t11) ?_ ?_
    · intro t11 u11
      refine i_aload_n (pc' := 156) (f_at inc_345 (j := 68) rfl) rfl rfl ?_
      refine i_getI (pc' := 159) (f_at inc_345 (j := 69) rfl) sh_0 rfl (f_lt (o := 0) (m := 155) (Nat.le_of_ble_eq_true rfl) hN) rfl ?_
      exact i_iret (f_at inc_345 (j := 70) rfl) rfl n_int
    · intro k11 hj11
      refine i_cas (fun b13 => ?_) (fun b13 => ?_)
      · refine i_sw (pc' := 96) (v := (0 : Int32)) (f_at inc_345 (j := 38) rfl) b13 ⟨by decide, rfl⟩ (by decide) ?_
        refine i_aload_n (pc' := 97) (f_at inc_345 (j := 39) rfl) rfl rfl ?_
        refine i_bipush (pc' := 99) (f_at inc_345 (j := 40) rfl) cb_63 rfl ?_
        refine c_wv (pc' := 102) (c' := 0) (n' := 0) (h_virt (ra := [.int (63 : Int32), .ref 0]) (r := []) (as := [.int (63 : Int32)]) (f_at inc_345 (j := 41) rfl) (by decide) MT_342 rfl rfl rfl ⟨Nat.le_of_ble_eq_true rfl, Nat.le_of_ble_eq_true rfl, Nat.le_of_ble_eq_true rfl⟩ sh_0 (f_lt (o := 0) (m := 155) (Nat.le_of_ble_eq_true rfl) hN)) MT_342 (G_342 hN (63 : Int32) t9) ⟨rfl, rfl, rfl⟩ fun t12 => ?_
        refine i_goto (pc' := 155) (f_at inc_345 (j := 42) rfl) (by decide) ?_
        exact hj11 t12 ()
      refine i_cas (fun b15 => ?_) (fun b15 => ?_)
      · refine i_sw (pc' := 105) (v := (1 : Int32)) (f_at inc_345 (j := 38) rfl) b15 ⟨by decide, rfl⟩ (by decide) ?_
        refine i_aload_n (pc' := 106) (f_at inc_345 (j := 43) rfl) rfl rfl ?_
        refine i_bipush (pc' := 108) (f_at inc_345 (j := 44) rfl) cb_45 rfl ?_
        refine c_wv (pc' := 111) (c' := 0) (n' := 0) (h_virt (ra := [.int (45 : Int32), .ref 0]) (r := []) (as := [.int (45 : Int32)]) (f_at inc_345 (j := 45) rfl) (by decide) MT_342 rfl rfl rfl ⟨Nat.le_of_ble_eq_true rfl, Nat.le_of_ble_eq_true rfl, Nat.le_of_ble_eq_true rfl⟩ sh_0 (f_lt (o := 0) (m := 155) (Nat.le_of_ble_eq_true rfl) hN)) MT_342 (G_342 hN (45 : Int32) t9) ⟨rfl, rfl, rfl⟩ fun t14 => ?_
        refine i_goto (pc' := 155) (f_at inc_345 (j := 46) rfl) (by decide) ?_
        exact hj11 t14 ()
      refine i_cas (fun b19 => ?_) (fun b19 => ?_)
      · refine i_sw (pc' := 114) (v := (2 : Int32)) (f_at inc_345 (j := 38) rfl) b19 ⟨by decide, rfl⟩ (by decide) ?_
        refine i_aload_n (pc' := 115) (f_at inc_345 (j := 47) rfl) rfl rfl ?_
        refine i_bipush (pc' := 117) (f_at inc_345 (j := 48) rfl) cb_43 rfl ?_
        refine c_wv (pc' := 120) (c' := 0) (n' := 0) (h_virt (ra := [.int (43 : Int32), .ref 0]) (r := []) (as := [.int (43 : Int32)]) (f_at inc_345 (j := 49) rfl) (by decide) MT_342 rfl rfl rfl ⟨Nat.le_of_ble_eq_true rfl, Nat.le_of_ble_eq_true rfl, Nat.le_of_ble_eq_true rfl⟩ sh_0 (f_lt (o := 0) (m := 155) (Nat.le_of_ble_eq_true rfl) hN)) MT_342 (G_342 hN (43 : Int32) t9) ⟨rfl, rfl, rfl⟩ fun t16 => ?_
        refine i_aload_n (pc' := 121) (f_at inc_345 (j := 50) rfl) rfl rfl ?_
        refine i_aload_n (pc' := 122) (f_at inc_345 (j := 51) rfl) rfl rfl ?_
        refine i_getR (pc' := 125) (f_at inc_345 (j := 52) rfl) sh_0 rfl (f_lt (o := 0) (m := 155) (Nat.le_of_ble_eq_true rfl) hN) rfl ?_
        refine i_getR (pc' := 128) (f_at inc_345 (j := 53) rfl) sh_121 rfl (f_lt (o := 121) (m := 155) (Nat.le_of_ble_eq_true rfl) hN) rfl ?_
        refine i_iload_n (pc' := 129) (f_at inc_345 (j := 54) rfl) rfl rfl ?_
        refine i_iald (pc' := 130) (f_at inc_345 (j := 55) rfl) sh_126 (f_bg (Nat.le_of_ble_eq_true rfl)) (f_lt (o := 126) (m := 155) (Nat.le_of_ble_eq_true rfl) hN) rfl fun v17 => ?_
        refine c_wv (pc' := 133) (c' := 0) (n' := 0) (h_virt (ra := [.int v17, .ref 0]) (r := []) (as := [.int v17]) (f_at inc_345 (j := 56) rfl) (by decide) MT_344 rfl rfl rfl ⟨Nat.le_of_ble_eq_true rfl, Nat.le_of_ble_eq_true rfl, Nat.le_of_ble_eq_true rfl⟩ sh_0 (f_lt (o := 0) (m := 155) (Nat.le_of_ble_eq_true rfl) hN)) MT_344 (G_344 hN v17 t16) ⟨rfl, rfl, rfl⟩ fun t18 => ?_
        refine i_goto (pc' := 155) (f_at inc_345 (j := 57) rfl) (by decide) ?_
        exact hj11 t18 ()
      refine i_swd (pc' := 136) (f_at inc_345 (j := 38) rfl) (sw_out 3 (fun j hj => by match j, hj with | 0, _ => exact b13 | 1, _ => exact b15 | 2, _ => exact b19)) (by decide) ?_
      refine i_aload_n (pc' := 137) (f_at inc_345 (j := 58) rfl) rfl rfl ?_
      refine i_bipush (pc' := 139) (f_at inc_345 (j := 59) rfl) cb_61 rfl ?_
      refine c_wv (pc' := 142) (c' := 0) (n' := 0) (h_virt (ra := [.int (61 : Int32), .ref 0]) (r := []) (as := [.int (61 : Int32)]) (f_at inc_345 (j := 60) rfl) (by decide) MT_342 rfl rfl rfl ⟨Nat.le_of_ble_eq_true rfl, Nat.le_of_ble_eq_true rfl, Nat.le_of_ble_eq_true rfl⟩ sh_0 (f_lt (o := 0) (m := 155) (Nat.le_of_ble_eq_true rfl) hN)) MT_342 (G_342 hN (61 : Int32) t9) ⟨rfl, rfl, rfl⟩ fun t20 => ?_
      refine i_aload_n (pc' := 143) (f_at inc_345 (j := 61) rfl) rfl rfl ?_
      refine i_aload_n (pc' := 144) (f_at inc_345 (j := 62) rfl) rfl rfl ?_
      refine i_getR (pc' := 147) (f_at inc_345 (j := 63) rfl) sh_0 rfl (f_lt (o := 0) (m := 155) (Nat.le_of_ble_eq_true rfl) hN) rfl ?_
      refine i_getR (pc' := 150) (f_at inc_345 (j := 64) rfl) sh_121 rfl (f_lt (o := 121) (m := 155) (Nat.le_of_ble_eq_true rfl) hN) rfl ?_
      refine i_iload_n (pc' := 151) (f_at inc_345 (j := 65) rfl) rfl rfl ?_
      refine i_iald (pc' := 152) (f_at inc_345 (j := 66) rfl) sh_126 (f_bg (Nat.le_of_ble_eq_true rfl)) (f_lt (o := 126) (m := 155) (Nat.le_of_ble_eq_true rfl) hN) rfl fun v21 => ?_
      refine c_wv (pc' := 155) (c' := 0) (n' := 0) (h_virt (ra := [.int v21, .ref 0]) (r := []) (as := [.int v21]) (f_at inc_345 (j := 67) rfl) (by decide) MT_344 rfl rfl rfl ⟨Nat.le_of_ble_eq_true rfl, Nat.le_of_ble_eq_true rfl, Nat.le_of_ble_eq_true rfl⟩ sh_0 (f_lt (o := 0) (m := 155) (Nat.le_of_ble_eq_true rfl) hN)) MT_344 (G_344 hN v21 t20) ⟨rfl, rfl, rfl⟩ fun t22 => ?_
      exact hj11 t22 ()
  · intro k7 hj7
    refine i_if0 (pc' := 57) (nx := 52) c0_eq (f_at inc_345 (j := 28) rfl) ⟨by decide, rfl⟩ (fun b8 => ?_) (fun b8 => ?_)
    · refine i_bipush (pc' := 59) (f_at inc_345 (j := 31) rfl) cb_112 rfl ?_
      exact hj7 (112 : Int32) ()
    · refine i_bipush (pc' := 54) (f_at inc_345 (j := 29) rfl) cb_107 rfl ?_
      refine i_goto (pc' := 59) (f_at inc_345 (j := 30) rfl) (by decide) ?_
      exact hj7 (107 : Int32) ()
