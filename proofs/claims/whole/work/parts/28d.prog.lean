/-! Flat programs. -/
set_option maxRecDepth 4000 in
def g_113  (σ : f_M) : Option (Int32 × f_M) :=
  (g_9  σ).bind fun t1 =>
  (g_71  t1).bind fun t2 =>
  if t2.1 = true then (
   (g_73  t2.2).bind fun t3 =>
   (f_lp (fun (s4 : Int32 × f_M) =>
    if (s4.2 10 1) ≤ s4.1 then (
     some (.inr ((s4.2 10 1), s4.2))
    ) else (
     (g_112 s4.1 s4.2).bind fun t5 =>
     if t5.1 = true then (
      some (.inl ((s4.1 + (1 : Int32)), t5.2))
     ) else (
      some (.inr (s4.1, t5.2))
     )
    )
   ) f_F ((0 : Int32), t3)).bind fun (r4 : Int32 × f_M) => some r4
  ) else (
   some ((-1 : Int32), t2.2)
  )
set_option maxRecDepth 4000 in
theorem G_113 {xs : Nat → Int32} {L N : Nat} (hN : 155 ≤ N)   (σ : f_M) : f_Cal a_MT xs L N 113 [.ref 0] σ ((g_113  σ).bind fun t => some (e_wi t)) := by
  refine f_cal_of (ls := [.ref 0, a_dead]) MT_113 (Nat.le_of_ble_eq_true rfl) rfl ?_
  unfold g_113
  refine i_aload_n (pc' := 1) (f_at inc_113 (j := 0) rfl) rfl rfl ?_
  refine c_wv (pc' := 4) (c' := 0) (n' := 0) (h_virt (ra := [.ref 0]) (r := []) (as := []) (f_at inc_113 (j := 1) rfl) (by decide) MT_9 rfl rfl rfl ⟨Nat.le_of_ble_eq_true rfl, Nat.le_of_ble_eq_true rfl, Nat.le_of_ble_eq_true rfl⟩ sh_0 (f_lt (o := 0) (m := 155) (Nat.le_of_ble_eq_true rfl) hN)) MT_9 (G_9 hN  σ) ⟨rfl, rfl, rfl⟩ fun t1 => ?_
  refine i_aload_n (pc' := 5) (f_at inc_113 (j := 2) rfl) rfl rfl ?_
  refine i_getR (pc' := 8) (f_at inc_113 (j := 3) rfl) sh_0 rfl (f_lt (o := 0) (m := 155) (Nat.le_of_ble_eq_true rfl) hN) rfl ?_
  refine i_aload_n (pc' := 9) (f_at inc_113 (j := 4) rfl) rfl rfl ?_
  refine i_getR (pc' := 12) (f_at inc_113 (j := 5) rfl) sh_0 rfl (f_lt (o := 0) (m := 155) (Nat.le_of_ble_eq_true rfl) hN) rfl ?_
  refine i_aload_n (pc' := 13) (f_at inc_113 (j := 6) rfl) rfl rfl ?_
  refine i_getR (pc' := 16) (f_at inc_113 (j := 7) rfl) sh_0 rfl (f_lt (o := 0) (m := 155) (Nat.le_of_ble_eq_true rfl) hN) rfl ?_
  refine c_wb (pc' := 19) (c' := 0) (n' := 0) (h_virt (ra := [.ref 103, .ref 3, .ref 10]) (r := []) (as := [.ref 3, .ref 103]) (f_at inc_113 (j := 8) rfl) (by decide) MT_71 rfl rfl rfl ⟨Nat.le_of_ble_eq_true rfl, Nat.le_of_ble_eq_true rfl, Nat.le_of_ble_eq_true rfl⟩ sh_10 (f_lt (o := 10) (m := 155) (Nat.le_of_ble_eq_true rfl) hN)) MT_71 (G_71 hN  t1) ⟨rfl, rfl, rfl⟩ fun t2 => ?_
  refine i_if0 (pc' := 24) (nx := 22) cb_ne (f_at inc_113 (j := 9) rfl) ⟨by decide, rfl⟩ (fun b8 => ?_) (fun b8 => ?_)
  · refine i_aload_n (pc' := 25) (f_at inc_113 (j := 12) rfl) rfl rfl ?_
    refine i_getR (pc' := 28) (f_at inc_113 (j := 13) rfl) sh_0 rfl (f_lt (o := 0) (m := 155) (Nat.le_of_ble_eq_true rfl) hN) rfl ?_
    refine i_aload_n (pc' := 29) (f_at inc_113 (j := 14) rfl) rfl rfl ?_
    refine i_getR (pc' := 32) (f_at inc_113 (j := 15) rfl) sh_0 rfl (f_lt (o := 0) (m := 155) (Nat.le_of_ble_eq_true rfl) hN) rfl ?_
    refine c_wv (pc' := 35) (c' := 0) (n' := 0) (h_virt (ra := [.ref 121, .ref 44]) (r := []) (as := [.ref 121]) (f_at inc_113 (j := 16) rfl) (by decide) MT_73 rfl rfl rfl ⟨Nat.le_of_ble_eq_true rfl, Nat.le_of_ble_eq_true rfl, Nat.le_of_ble_eq_true rfl⟩ sh_44 (f_lt (o := 44) (m := 155) (Nat.le_of_ble_eq_true rfl) hN)) MT_73 (G_73 hN  t2.2) ⟨rfl, rfl, rfl⟩ fun t3 => ?_
    refine i_iconst (pc' := 36) (f_at inc_113 (j := 17) rfl) ci_0 rfl ?_
    refine i_istore_n (pc' := 37) (ls' := [.ref 0, .int (0 : Int32)]) (f_at inc_113 (j := 18) rfl) (Nat.le_of_ble_eq_true rfl) rfl rfl ?_
    refine s_lR ((0 : Int32), t3) () (fun (s4 : Int32 × f_M) (u4 : Unit) => [.ref 0, .int s4.1]) (fun (s4 : Int32 × f_M) => s4.2) ?_
    intro s4 u4 k4 hb4 hr4
    refine i_iload_n (pc' := 38) (f_at inc_113 (j := 19) rfl) rfl rfl ?_
    refine i_aload_n (pc' := 39) (f_at inc_113 (j := 20) rfl) rfl rfl ?_
    refine i_getR (pc' := 42) (f_at inc_113 (j := 21) rfl) sh_0 rfl (f_lt (o := 0) (m := 155) (Nat.le_of_ble_eq_true rfl) hN) rfl ?_
    refine i_getI (pc' := 45) (f_at inc_113 (j := 22) rfl) sh_10 rfl (f_lt (o := 10) (m := 155) (Nat.le_of_ble_eq_true rfl) hN) rfl ?_
    refine i_if2 (pc' := 71) (nx := 48) c2_ge (f_at inc_113 (j := 23) rfl) ⟨by decide, rfl⟩ (fun b7 => ?_) (fun b7 => ?_)
    · refine i_aload_n (pc' := 72) (f_at inc_113 (j := 35) rfl) rfl rfl ?_
      refine i_getR (pc' := 75) (f_at inc_113 (j := 36) rfl) sh_0 rfl (f_lt (o := 0) (m := 155) (Nat.le_of_ble_eq_true rfl) hN) rfl ?_
      refine i_getI (pc' := 78) (f_at inc_113 (j := 37) rfl) sh_10 rfl (f_lt (o := 10) (m := 155) (Nat.le_of_ble_eq_true rfl) hN) rfl ?_
      refine s_rt (hr4 _) ?_
      exact i_iret (f_at inc_113 (j := 38) rfl) rfl n_int
    · refine i_aload_n (pc' := 49) (f_at inc_113 (j := 24) rfl) rfl rfl ?_
      refine i_getR (pc' := 52) (f_at inc_113 (j := 25) rfl) sh_0 rfl (f_lt (o := 0) (m := 155) (Nat.le_of_ble_eq_true rfl) hN) rfl ?_
      refine i_iload_n (pc' := 53) (f_at inc_113 (j := 26) rfl) rfl rfl ?_
      refine i_aload_n (pc' := 54) (f_at inc_113 (j := 27) rfl) rfl rfl ?_
      refine i_getR (pc' := 57) (f_at inc_113 (j := 28) rfl) sh_0 rfl (f_lt (o := 0) (m := 155) (Nat.le_of_ble_eq_true rfl) hN) rfl ?_
      refine c_wb (pc' := 60) (c' := 0) (n' := 0) (h_virt (ra := [.ref 102, .int s4.1, .ref 10]) (r := []) (as := [.int s4.1, .ref 102]) (f_at inc_113 (j := 29) rfl) (by decide) MT_112 rfl rfl rfl ⟨Nat.le_of_ble_eq_true rfl, Nat.le_of_ble_eq_true rfl, Nat.le_of_ble_eq_true rfl⟩ sh_10 (f_lt (o := 10) (m := 155) (Nat.le_of_ble_eq_true rfl) hN)) MT_112 (G_112 hN s4.1 s4.2) ⟨rfl, rfl, rfl⟩ fun t5 => ?_
      refine i_if0 (pc' := 65) (nx := 63) cb_ne (f_at inc_113 (j := 30) rfl) ⟨by decide, rfl⟩ (fun b6 => ?_) (fun b6 => ?_)
      · refine i_iinc (pc' := 68) (ls' := [.ref 0, .int (s4.1 + (1 : Int32))]) (f_at inc_113 (j := 33) rfl) rfl ci_1 rfl rfl ?_
        refine i_goto (pc' := 37) (f_at inc_113 (j := 34) rfl) (by decide) ?_
        exact hb4 ((s4.1 + (1 : Int32)), t5.2) ()
      · refine i_iload_n (pc' := 64) (f_at inc_113 (j := 31) rfl) rfl rfl ?_
        refine s_rt (hr4 _) ?_
        exact i_iret (f_at inc_113 (j := 32) rfl) rfl n_int
  · refine i_iconst (pc' := 23) (f_at inc_113 (j := 10) rfl) ci_m1 rfl ?_
    exact i_iret (f_at inc_113 (j := 11) rfl) rfl n_int
set_option maxRecDepth 4000 in
def g_114  (σ : f_M) : Option (Int32) :=
  (g_53 5 σ).bind fun t1 =>
  if t1 = false then (
   (g_53 6 σ).bind fun t2 =>
   if t2 = false then (
    (g_53 7 σ).bind fun t3 =>
    if t3 = false then (
     (g_53 8 σ).bind fun t4 =>
     if t4 = false then (
      (g_53 9 σ).bind fun t5 =>
      (
       if t5 = false then (
        some (-1 : Int32)
       ) else (
        some (4 : Int32)
       )
      ).bind fun (t6 : Int32) =>
      some t6
     ) else (
      some (3 : Int32)
     )
    ) else (
     some (2 : Int32)
    )
   ) else (
    some (1 : Int32)
   )
  ) else (
   some (0 : Int32)
  )
set_option maxRecDepth 4000 in
theorem G_114 {xs : Nat → Int32} {L N : Nat} (hN : 166 ≤ N)   (σ : f_M) : f_Cal a_MT xs L N 114 [.ref 155] σ ((g_114  σ).bind fun t => some (e_pi σ t)) := by
  refine f_cal_of (ls := [.ref 155]) MT_114 (Nat.le_of_ble_eq_true rfl) rfl ?_
  unfold g_114
  refine i_aload_n (pc' := 1) (f_at inc_114 (j := 0) rfl) rfl rfl ?_
  refine i_ldc_w (pc' := 4) (f_at inc_114 (j := 1) rfl) rfl ?_
  refine c_pb (pc' := 7) (c' := 0) (n' := 0) (h_virt (ra := [.ref (a_big + 1 + 5), .ref 155]) (r := []) (as := [.ref (a_big + 1 + 5)]) (f_at inc_114 (j := 2) rfl) (by decide) MT_53 rfl rfl rfl ⟨Nat.le_of_ble_eq_true rfl, Nat.le_of_ble_eq_true rfl, Nat.le_of_ble_eq_true rfl⟩ sh_155 (f_lt (o := 155) (m := 166) (Nat.le_of_ble_eq_true rfl) hN)) MT_53 (G_53 hN 5 (by decide) σ) ⟨rfl, rfl, rfl⟩ fun t1 => ?_
  refine i_if0 (pc' := 12) (nx := 10) cb_eq (f_at inc_114 (j := 3) rfl) ⟨by decide, rfl⟩ (fun b11 => ?_) (fun b11 => ?_)
  · refine i_aload_n (pc' := 13) (f_at inc_114 (j := 6) rfl) rfl rfl ?_
    refine i_ldc_w (pc' := 16) (f_at inc_114 (j := 7) rfl) rfl ?_
    refine c_pb (pc' := 19) (c' := 0) (n' := 0) (h_virt (ra := [.ref (a_big + 1 + 6), .ref 155]) (r := []) (as := [.ref (a_big + 1 + 6)]) (f_at inc_114 (j := 8) rfl) (by decide) MT_53 rfl rfl rfl ⟨Nat.le_of_ble_eq_true rfl, Nat.le_of_ble_eq_true rfl, Nat.le_of_ble_eq_true rfl⟩ sh_155 (f_lt (o := 155) (m := 166) (Nat.le_of_ble_eq_true rfl) hN)) MT_53 (G_53 hN 6 (by decide) σ) ⟨rfl, rfl, rfl⟩ fun t2 => ?_
    refine i_if0 (pc' := 24) (nx := 22) cb_eq (f_at inc_114 (j := 9) rfl) ⟨by decide, rfl⟩ (fun b10 => ?_) (fun b10 => ?_)
    · refine i_aload_n (pc' := 25) (f_at inc_114 (j := 12) rfl) rfl rfl ?_
      refine i_ldc_w (pc' := 28) (f_at inc_114 (j := 13) rfl) rfl ?_
      refine c_pb (pc' := 31) (c' := 0) (n' := 0) (h_virt (ra := [.ref (a_big + 1 + 7), .ref 155]) (r := []) (as := [.ref (a_big + 1 + 7)]) (f_at inc_114 (j := 14) rfl) (by decide) MT_53 rfl rfl rfl ⟨Nat.le_of_ble_eq_true rfl, Nat.le_of_ble_eq_true rfl, Nat.le_of_ble_eq_true rfl⟩ sh_155 (f_lt (o := 155) (m := 166) (Nat.le_of_ble_eq_true rfl) hN)) MT_53 (G_53 hN 7 (by decide) σ) ⟨rfl, rfl, rfl⟩ fun t3 => ?_
      refine i_if0 (pc' := 36) (nx := 34) cb_eq (f_at inc_114 (j := 15) rfl) ⟨by decide, rfl⟩ (fun b9 => ?_) (fun b9 => ?_)
      · refine i_aload_n (pc' := 37) (f_at inc_114 (j := 18) rfl) rfl rfl ?_
        refine i_ldc_w (pc' := 40) (f_at inc_114 (j := 19) rfl) rfl ?_
        refine c_pb (pc' := 43) (c' := 0) (n' := 0) (h_virt (ra := [.ref (a_big + 1 + 8), .ref 155]) (r := []) (as := [.ref (a_big + 1 + 8)]) (f_at inc_114 (j := 20) rfl) (by decide) MT_53 rfl rfl rfl ⟨Nat.le_of_ble_eq_true rfl, Nat.le_of_ble_eq_true rfl, Nat.le_of_ble_eq_true rfl⟩ sh_155 (f_lt (o := 155) (m := 166) (Nat.le_of_ble_eq_true rfl) hN)) MT_53 (G_53 hN 8 (by decide) σ) ⟨rfl, rfl, rfl⟩ fun t4 => ?_
        refine i_if0 (pc' := 48) (nx := 46) cb_eq (f_at inc_114 (j := 21) rfl) ⟨by decide, rfl⟩ (fun b8 => ?_) (fun b8 => ?_)
        · refine i_aload_n (pc' := 49) (f_at inc_114 (j := 24) rfl) rfl rfl ?_
          refine i_ldc_w (pc' := 52) (f_at inc_114 (j := 25) rfl) rfl ?_
          refine c_pb (pc' := 55) (c' := 0) (n' := 0) (h_virt (ra := [.ref (a_big + 1 + 9), .ref 155]) (r := []) (as := [.ref (a_big + 1 + 9)]) (f_at inc_114 (j := 26) rfl) (by decide) MT_53 rfl rfl rfl ⟨Nat.le_of_ble_eq_true rfl, Nat.le_of_ble_eq_true rfl, Nat.le_of_ble_eq_true rfl⟩ sh_155 (f_lt (o := 155) (m := 166) (Nat.le_of_ble_eq_true rfl) hN)) MT_53 (G_53 hN 9 (by decide) σ) ⟨rfl, rfl, rfl⟩ fun t5 => ?_
          refine s_join (J := 63) (fun (t6 : Int32) (u6 : Unit) => [.ref 155]) (fun t6 => [.int t6]) (fun t6 => σ) ?_ ?_
          · intro t6 u6
            exact i_iret (f_at inc_114 (j := 31) rfl) rfl n_int
          · intro k6 hj6
            refine i_if0 (pc' := 62) (nx := 58) cb_eq (f_at inc_114 (j := 27) rfl) ⟨by decide, rfl⟩ (fun b7 => ?_) (fun b7 => ?_)
            · refine i_iconst (pc' := 63) (f_at inc_114 (j := 30) rfl) ci_m1 rfl ?_
              exact hj6 (-1 : Int32) ()
            · refine i_iconst (pc' := 59) (f_at inc_114 (j := 28) rfl) ci_4 rfl ?_
              refine i_goto (pc' := 63) (f_at inc_114 (j := 29) rfl) (by decide) ?_
              exact hj6 (4 : Int32) ()
        · refine i_iconst (pc' := 47) (f_at inc_114 (j := 22) rfl) ci_3 rfl ?_
          exact i_iret (f_at inc_114 (j := 23) rfl) rfl n_int
      · refine i_iconst (pc' := 35) (f_at inc_114 (j := 16) rfl) ci_2 rfl ?_
        exact i_iret (f_at inc_114 (j := 17) rfl) rfl n_int
    · refine i_iconst (pc' := 23) (f_at inc_114 (j := 10) rfl) ci_1 rfl ?_
      exact i_iret (f_at inc_114 (j := 11) rfl) rfl n_int
  · refine i_iconst (pc' := 11) (f_at inc_114 (j := 4) rfl) ci_0 rfl ?_
    exact i_iret (f_at inc_114 (j := 5) rfl) rfl n_int
set_option maxRecDepth 4000 in
def g_115  (σ : f_M) : Option (Int32 × f_M) :=
  (g_55  σ).bind fun t1 =>
  (
   if ¬ (t1 155 17) = 0 then (
    some (0 : Int32)
   ) else (
    (g_56  t1).bind fun t3 =>
    some t3
   )
  ).bind fun (t2 : Int32) =>
  (
   if t2 = (-1 : Int32) then (
    some false
   ) else (
    some true
   )
  ).bind fun (t5 : Bool) =>
  (g_54 t5 (3 : Int32) t1).bind fun t7 =>
  (g_51  t7).bind fun t8 =>
  some ((f_max (0 : Int32) t2), t8)
set_option maxRecDepth 4000 in
theorem G_115 {xs : Nat → Int32} {L N : Nat} (hN : 166 ≤ N)   (σ : f_M) : f_Cal a_MT xs L N 115 [.ref 155] σ ((g_115  σ).bind fun t => some (e_wi t)) := by
  refine f_cal_of (ls := [.ref 155, a_dead]) MT_115 (Nat.le_of_ble_eq_true rfl) rfl ?_
  unfold g_115
  refine i_aload_n (pc' := 1) (f_at inc_115 (j := 0) rfl) rfl rfl ?_
  refine c_wv (pc' := 4) (c' := 0) (n' := 0) (h_virt (ra := [.ref 155]) (r := []) (as := []) (f_at inc_115 (j := 1) rfl) (by decide) MT_55 rfl rfl rfl ⟨Nat.le_of_ble_eq_true rfl, Nat.le_of_ble_eq_true rfl, Nat.le_of_ble_eq_true rfl⟩ sh_155 (f_lt (o := 155) (m := 166) (Nat.le_of_ble_eq_true rfl) hN)) MT_55 (G_55 hN  σ) ⟨rfl, rfl, rfl⟩ fun t1 => ?_
  refine i_aload_n (pc' := 5) (f_at inc_115 (j := 2) rfl) rfl rfl ?_
  refine i_getI (pc' := 8) (f_at inc_115 (j := 3) rfl) sh_155 rfl (f_lt (o := 155) (m := 166) (Nat.le_of_ble_eq_true rfl) hN) rfl ?_
  refine s_join (J := 19) (fun (t2 : Int32) (u2 : Unit) => [.ref 155, a_dead]) (fun t2 => [.int t2]) (fun t2 => t1) ?_ ?_
  · intro t2 u2
    refine i_istore_n (pc' := 20) (ls' := [.ref 155, .int t2]) (f_at inc_115 (j := 9) rfl) (Nat.le_of_ble_eq_true rfl) rfl rfl ?_
    refine i_aload_n (pc' := 21) (f_at inc_115 (j := 10) rfl) rfl rfl ?_
    refine i_iload_n (pc' := 22) (f_at inc_115 (j := 11) rfl) rfl rfl ?_
    refine i_iconst (pc' := 23) (f_at inc_115 (j := 12) rfl) ci_m1 rfl ?_
    refine s_join (J := 31) (fun (t5 : Bool) (u5 : Unit) => [.ref 155, .int t2]) (fun t5 => [.int (f_b t5), .ref 155]) (fun t5 => t1) ?_ ?_
    · intro t5 u5
      refine i_iconst (pc' := 32) (f_at inc_115 (j := 17) rfl) ci_3 rfl ?_
      refine c_wv (pc' := 35) (c' := 0) (n' := 0) (h_virt (ra := [.int (3 : Int32), .int (f_b t5), .ref 155]) (r := []) (as := [.int (f_b t5), .int (3 : Int32)]) (f_at inc_115 (j := 18) rfl) (by decide) MT_54 rfl rfl rfl ⟨Nat.le_of_ble_eq_true rfl, Nat.le_of_ble_eq_true rfl, Nat.le_of_ble_eq_true rfl⟩ sh_155 (f_lt (o := 155) (m := 166) (Nat.le_of_ble_eq_true rfl) hN)) MT_54 (G_54 hN t5 (3 : Int32) t1) ⟨rfl, rfl, rfl⟩ fun t7 => ?_
      refine i_aload_n (pc' := 36) (f_at inc_115 (j := 19) rfl) rfl rfl ?_
      refine c_wv (pc' := 39) (c' := 0) (n' := 0) (h_virt (ra := [.ref 155]) (r := []) (as := []) (f_at inc_115 (j := 20) rfl) (by decide) MT_51 rfl rfl rfl ⟨Nat.le_of_ble_eq_true rfl, Nat.le_of_ble_eq_true rfl, Nat.le_of_ble_eq_true rfl⟩ sh_155 (f_lt (o := 155) (m := 166) (Nat.le_of_ble_eq_true rfl) hN)) MT_51 (G_51 hN  t7) ⟨rfl, rfl, rfl⟩ fun t8 => ?_
      refine i_iconst (pc' := 40) (f_at inc_115 (j := 21) rfl) ci_0 rfl ?_
      refine i_iload_n (pc' := 41) (f_at inc_115 (j := 22) rfl) rfl rfl ?_
      refine i_max (pc' := 44) (f_at inc_115 (j := 23) rfl) (Nat.le_of_ble_eq_true rfl) rfl ?_
      exact i_iret (f_at inc_115 (j := 24) rfl) rfl n_int
    · intro k5 hj5
      refine i_if2 (pc' := 30) (nx := 26) c2_eq (f_at inc_115 (j := 13) rfl) ⟨by decide, rfl⟩ (fun b6 => ?_) (fun b6 => ?_)
      · refine i_iconst (pc' := 31) (f_at inc_115 (j := 16) rfl) ci_0 rfl ?_
        exact hj5 false ()
      · refine i_iconst (pc' := 27) (f_at inc_115 (j := 14) rfl) ci_1 rfl ?_
        refine i_goto (pc' := 31) (f_at inc_115 (j := 15) rfl) (by decide) ?_
        exact hj5 true ()
  · intro k2 hj2
    refine i_if0 (pc' := 18) (nx := 11) c0_ne (f_at inc_115 (j := 4) rfl) ⟨by decide, rfl⟩ (fun b4 => ?_) (fun b4 => ?_)
    · refine i_iconst (pc' := 19) (f_at inc_115 (j := 8) rfl) ci_0 rfl ?_
      exact hj2 (0 : Int32) ()
    · refine i_aload_n (pc' := 12) (f_at inc_115 (j := 5) rfl) rfl rfl ?_
      refine c_pi (pc' := 15) (c' := 0) (n' := 0) (h_virt (ra := [.ref 155]) (r := []) (as := []) (f_at inc_115 (j := 6) rfl) (by decide) MT_56 rfl rfl rfl ⟨Nat.le_of_ble_eq_true rfl, Nat.le_of_ble_eq_true rfl, Nat.le_of_ble_eq_true rfl⟩ sh_155 (f_lt (o := 155) (m := 166) (Nat.le_of_ble_eq_true rfl) hN)) MT_56 (G_56 hN  t1) ⟨rfl, rfl, rfl⟩ fun t3 => ?_
      refine i_goto (pc' := 19) (f_at inc_115 (j := 7) rfl) (by decide) ?_
      exact hj2 t3 ()
set_option maxRecDepth 4000 in
def g_116 (a1 : Int32) (σ : f_M) : Option (f_M) :=
  (g_115  σ).bind fun t1 =>
  (f_wr t1.2 162 210 (a1 + (1 : Int32)) t1.1).bind fun m2 =>
  (g_57 (0 : Int32) (1000 : Int32) m2).bind fun t3 =>
  (f_wr t3.2 162 210 (a1 + (2 : Int32)) t3.1).bind fun m4 =>
  (g_57 (1 : Int32) (24 : Int32) m4).bind fun t5 =>
  (f_wr t5.2 162 210 (a1 + (3 : Int32)) t5.1).bind fun m6 =>
  (g_57 (1 : Int32) (500 : Int32) m6).bind fun t7 =>
  (f_wr t7.2 162 210 (a1 + (4 : Int32)) t7.1).bind fun m8 =>
  (f_rd m8 162 210 a1).bind fun v9 =>
  (
   if ¬ v9 = (1 : Int32) then (
    (g_57 (0 : Int32) (50 : Int32) m8).bind fun t11 =>
    (f_wr t11.2 162 210 (a1 + (5 : Int32)) t11.1).bind fun m12 =>
    some m12
   ) else (
    (g_57 (0 : Int32) (150 : Int32) m8).bind fun t13 =>
    (f_wr t13.2 162 210 (a1 + (5 : Int32)) t13.1).bind fun m14 =>
    (f_rd m14 162 210 (a1 + (5 : Int32))).bind fun v15 =>
    (g_57 v15 (150 : Int32) m14).bind fun t16 =>
    (f_wr t16.2 162 210 (a1 + (6 : Int32)) t16.1).bind fun m17 =>
    some m17
   )
  ).bind fun (t10 : f_M) =>
  some t10
set_option maxRecDepth 4000 in
theorem G_116 {xs : Nat → Int32} {L N : Nat} (hN : 166 ≤ N) (a1 : Int32)  (σ : f_M) : f_Cal a_MT xs L N 116 [.ref 155, .int a1] σ ((g_116 a1 σ).bind fun t => some (e_wv t)) := by
  refine f_cal_of (ls := [.ref 155, .int a1]) MT_116 (Nat.le_of_ble_eq_true rfl) rfl ?_
  unfold g_116
  refine i_aload_n (pc' := 1) (f_at inc_116 (j := 0) rfl) rfl rfl ?_
  refine i_getR (pc' := 4) (f_at inc_116 (j := 1) rfl) sh_155 rfl (f_lt (o := 155) (m := 166) (Nat.le_of_ble_eq_true rfl) hN) rfl ?_
  refine i_iload_n (pc' := 5) (f_at inc_116 (j := 2) rfl) rfl rfl ?_
  refine i_iconst (pc' := 6) (f_at inc_116 (j := 3) rfl) ci_1 rfl ?_
  refine i_iadd (pc' := 7) (f_at inc_116 (j := 4) rfl) rfl ?_
  refine i_aload_n (pc' := 8) (f_at inc_116 (j := 5) rfl) rfl rfl ?_
  refine c_wi (pc' := 11) (c' := 0) (n' := 0) (h_virt (ra := [.ref 155]) (r := [.int (a1 + (1 : Int32)), .ref 162]) (as := []) (f_at inc_116 (j := 6) rfl) (by decide) MT_115 rfl rfl rfl ⟨Nat.le_of_ble_eq_true rfl, Nat.le_of_ble_eq_true rfl, Nat.le_of_ble_eq_true rfl⟩ sh_155 (f_lt (o := 155) (m := 166) (Nat.le_of_ble_eq_true rfl) hN)) MT_115 (G_115 hN  σ) ⟨rfl, rfl, rfl⟩ fun t1 => ?_
  refine i_iast (pc' := 12) (f_at inc_116 (j := 7) rfl) sh_162 (f_lt (o := 162) (m := 166) (Nat.le_of_ble_eq_true rfl) hN) rfl fun m2 => ?_
  refine i_aload_n (pc' := 13) (f_at inc_116 (j := 8) rfl) rfl rfl ?_
  refine i_getR (pc' := 16) (f_at inc_116 (j := 9) rfl) sh_155 rfl (f_lt (o := 155) (m := 166) (Nat.le_of_ble_eq_true rfl) hN) rfl ?_
  refine i_iload_n (pc' := 17) (f_at inc_116 (j := 10) rfl) rfl rfl ?_
  refine i_iconst (pc' := 18) (f_at inc_116 (j := 11) rfl) ci_2 rfl ?_
  refine i_iadd (pc' := 19) (f_at inc_116 (j := 12) rfl) rfl ?_
  refine i_aload_n (pc' := 20) (f_at inc_116 (j := 13) rfl) rfl rfl ?_
  refine i_iconst (pc' := 21) (f_at inc_116 (j := 14) rfl) ci_0 rfl ?_
  refine i_sipush (pc' := 24) (f_at inc_116 (j := 15) rfl) cs_1000 rfl ?_
  refine c_wi (pc' := 27) (c' := 0) (n' := 0) (h_virt (ra := [.int (1000 : Int32), .int (0 : Int32), .ref 155]) (r := [.int (a1 + (2 : Int32)), .ref 162]) (as := [.int (0 : Int32), .int (1000 : Int32)]) (f_at inc_116 (j := 16) rfl) (by decide) MT_57 rfl rfl rfl ⟨Nat.le_of_ble_eq_true rfl, Nat.le_of_ble_eq_true rfl, Nat.le_of_ble_eq_true rfl⟩ sh_155 (f_lt (o := 155) (m := 166) (Nat.le_of_ble_eq_true rfl) hN)) MT_57 (G_57 hN (0 : Int32) (1000 : Int32) m2) ⟨rfl, rfl, rfl⟩ fun t3 => ?_
  refine i_iast (pc' := 28) (f_at inc_116 (j := 17) rfl) sh_162 (f_lt (o := 162) (m := 166) (Nat.le_of_ble_eq_true rfl) hN) rfl fun m4 => ?_
  refine i_aload_n (pc' := 29) (f_at inc_116 (j := 18) rfl) rfl rfl ?_
  refine i_getR (pc' := 32) (f_at inc_116 (j := 19) rfl) sh_155 rfl (f_lt (o := 155) (m := 166) (Nat.le_of_ble_eq_true rfl) hN) rfl ?_
  refine i_iload_n (pc' := 33) (f_at inc_116 (j := 20) rfl) rfl rfl ?_
  refine i_iconst (pc' := 34) (f_at inc_116 (j := 21) rfl) ci_3 rfl ?_
  refine i_iadd (pc' := 35) (f_at inc_116 (j := 22) rfl) rfl ?_
  refine i_aload_n (pc' := 36) (f_at inc_116 (j := 23) rfl) rfl rfl ?_
  refine i_iconst (pc' := 37) (f_at inc_116 (j := 24) rfl) ci_1 rfl ?_
  refine i_bipush (pc' := 39) (f_at inc_116 (j := 25) rfl) cb_24 rfl ?_
  refine c_wi (pc' := 42) (c' := 0) (n' := 0) (h_virt (ra := [.int (24 : Int32), .int (1 : Int32), .ref 155]) (r := [.int (a1 + (3 : Int32)), .ref 162]) (as := [.int (1 : Int32), .int (24 : Int32)]) (f_at inc_116 (j := 26) rfl) (by decide) MT_57 rfl rfl rfl ⟨Nat.le_of_ble_eq_true rfl, Nat.le_of_ble_eq_true rfl, Nat.le_of_ble_eq_true rfl⟩ sh_155 (f_lt (o := 155) (m := 166) (Nat.le_of_ble_eq_true rfl) hN)) MT_57 (G_57 hN (1 : Int32) (24 : Int32) m4) ⟨rfl, rfl, rfl⟩ fun t5 => ?_
  refine i_iast (pc' := 43) (f_at inc_116 (j := 27) rfl) sh_162 (f_lt (o := 162) (m := 166) (Nat.le_of_ble_eq_true rfl) hN) rfl fun m6 => ?_
  refine i_aload_n (pc' := 44) (f_at inc_116 (j := 28) rfl) rfl rfl ?_
  refine i_getR (pc' := 47) (f_at inc_116 (j := 29) rfl) sh_155 rfl (f_lt (o := 155) (m := 166) (Nat.le_of_ble_eq_true rfl) hN) rfl ?_
  refine i_iload_n (pc' := 48) (f_at inc_116 (j := 30) rfl) rfl rfl ?_
  refine i_iconst (pc' := 49) (f_at inc_116 (j := 31) rfl) ci_4 rfl ?_
  refine i_iadd (pc' := 50) (f_at inc_116 (j := 32) rfl) rfl ?_
  refine i_aload_n (pc' := 51) (f_at inc_116 (j := 33) rfl) rfl rfl ?_
  refine i_iconst (pc' := 52) (f_at inc_116 (j := 34) rfl) ci_1 rfl ?_
  refine i_sipush (pc' := 55) (f_at inc_116 (j := 35) rfl) cs_500 rfl ?_
  refine c_wi (pc' := 58) (c' := 0) (n' := 0) (h_virt (ra := [.int (500 : Int32), .int (1 : Int32), .ref 155]) (r := [.int (a1 + (4 : Int32)), .ref 162]) (as := [.int (1 : Int32), .int (500 : Int32)]) (f_at inc_116 (j := 36) rfl) (by decide) MT_57 rfl rfl rfl ⟨Nat.le_of_ble_eq_true rfl, Nat.le_of_ble_eq_true rfl, Nat.le_of_ble_eq_true rfl⟩ sh_155 (f_lt (o := 155) (m := 166) (Nat.le_of_ble_eq_true rfl) hN)) MT_57 (G_57 hN (1 : Int32) (500 : Int32) m6) ⟨rfl, rfl, rfl⟩ fun t7 => ?_
  refine i_iast (pc' := 59) (f_at inc_116 (j := 37) rfl) sh_162 (f_lt (o := 162) (m := 166) (Nat.le_of_ble_eq_true rfl) hN) rfl fun m8 => ?_
  refine i_aload_n (pc' := 60) (f_at inc_116 (j := 38) rfl) rfl rfl ?_
  refine i_getR (pc' := 63) (f_at inc_116 (j := 39) rfl) sh_155 rfl (f_lt (o := 155) (m := 166) (Nat.le_of_ble_eq_true rfl) hN) rfl ?_
  refine i_iload_n (pc' := 64) (f_at inc_116 (j := 40) rfl) rfl rfl ?_
  refine i_iald (pc' := 65) (f_at inc_116 (j := 41) rfl) sh_162 (f_bg (Nat.le_of_ble_eq_true rfl)) (f_lt (o := 162) (m := 166) (Nat.le_of_ble_eq_true rfl) hN) rfl fun v9 => ?_
  refine i_iconst (pc' := 66) (f_at inc_116 (j := 42) rfl) ci_1 rfl ?_
  refine s_join (J := 127) (fun (t10 : f_M) (u10 : Unit) => [.ref 155, .int a1]) (fun t10 => []) (fun t10 => t10) ?_ ?_
  · intro t10 u10
    exact i_vret (f_at inc_116 (j := 80) rfl) rfl
  · intro k10 hj10
    refine i_if2 (pc' := 112) (nx := 69) c2_ne (f_at inc_116 (j := 43) rfl) ⟨by decide, rfl⟩ (fun b18 => ?_) (fun b18 => ?_)
    · refine i_aload_n (pc' := 113) (f_at inc_116 (j := 70) rfl) rfl rfl ?_
      refine i_getR (pc' := 116) (f_at inc_116 (j := 71) rfl) sh_155 rfl (f_lt (o := 155) (m := 166) (Nat.le_of_ble_eq_true rfl) hN) rfl ?_
      refine i_iload_n (pc' := 117) (f_at inc_116 (j := 72) rfl) rfl rfl ?_
      refine i_iconst (pc' := 118) (f_at inc_116 (j := 73) rfl) ci_5 rfl ?_
      refine i_iadd (pc' := 119) (f_at inc_116 (j := 74) rfl) rfl ?_
      refine i_aload_n (pc' := 120) (f_at inc_116 (j := 75) rfl) rfl rfl ?_
      refine i_iconst (pc' := 121) (f_at inc_116 (j := 76) rfl) ci_0 rfl ?_
      refine i_bipush (pc' := 123) (f_at inc_116 (j := 77) rfl) cb_50 rfl ?_
      refine c_wi (pc' := 126) (c' := 0) (n' := 0) (h_virt (ra := [.int (50 : Int32), .int (0 : Int32), .ref 155]) (r := [.int (a1 + (5 : Int32)), .ref 162]) (as := [.int (0 : Int32), .int (50 : Int32)]) (f_at inc_116 (j := 78) rfl) (by decide) MT_57 rfl rfl rfl ⟨Nat.le_of_ble_eq_true rfl, Nat.le_of_ble_eq_true rfl, Nat.le_of_ble_eq_true rfl⟩ sh_155 (f_lt (o := 155) (m := 166) (Nat.le_of_ble_eq_true rfl) hN)) MT_57 (G_57 hN (0 : Int32) (50 : Int32) m8) ⟨rfl, rfl, rfl⟩ fun t11 => ?_
      refine i_iast (pc' := 127) (f_at inc_116 (j := 79) rfl) sh_162 (f_lt (o := 162) (m := 166) (Nat.le_of_ble_eq_true rfl) hN) rfl fun m12 => ?_
      exact hj10 m12 ()
    · refine i_aload_n (pc' := 70) (f_at inc_116 (j := 44) rfl) rfl rfl ?_
      refine i_getR (pc' := 73) (f_at inc_116 (j := 45) rfl) sh_155 rfl (f_lt (o := 155) (m := 166) (Nat.le_of_ble_eq_true rfl) hN) rfl ?_
      refine i_iload_n (pc' := 74) (f_at inc_116 (j := 46) rfl) rfl rfl ?_
      refine i_iconst (pc' := 75) (f_at inc_116 (j := 47) rfl) ci_5 rfl ?_
      refine i_iadd (pc' := 76) (f_at inc_116 (j := 48) rfl) rfl ?_
      refine i_aload_n (pc' := 77) (f_at inc_116 (j := 49) rfl) rfl rfl ?_
      refine i_iconst (pc' := 78) (f_at inc_116 (j := 50) rfl) ci_0 rfl ?_
      refine i_sipush (pc' := 81) (f_at inc_116 (j := 51) rfl) cs_150 rfl ?_
      refine c_wi (pc' := 84) (c' := 0) (n' := 0) (h_virt (ra := [.int (150 : Int32), .int (0 : Int32), .ref 155]) (r := [.int (a1 + (5 : Int32)), .ref 162]) (as := [.int (0 : Int32), .int (150 : Int32)]) (f_at inc_116 (j := 52) rfl) (by decide) MT_57 rfl rfl rfl ⟨Nat.le_of_ble_eq_true rfl, Nat.le_of_ble_eq_true rfl, Nat.le_of_ble_eq_true rfl⟩ sh_155 (f_lt (o := 155) (m := 166) (Nat.le_of_ble_eq_true rfl) hN)) MT_57 (G_57 hN (0 : Int32) (150 : Int32) m8) ⟨rfl, rfl, rfl⟩ fun t13 => ?_
      refine i_iast (pc' := 85) (f_at inc_116 (j := 53) rfl) sh_162 (f_lt (o := 162) (m := 166) (Nat.le_of_ble_eq_true rfl) hN) rfl fun m14 => ?_
      refine i_aload_n (pc' := 86) (f_at inc_116 (j := 54) rfl) rfl rfl ?_
      refine i_getR (pc' := 89) (f_at inc_116 (j := 55) rfl) sh_155 rfl (f_lt (o := 155) (m := 166) (Nat.le_of_ble_eq_true rfl) hN) rfl ?_
      refine i_iload_n (pc' := 90) (f_at inc_116 (j := 56) rfl) rfl rfl ?_
      refine i_bipush (pc' := 92) (f_at inc_116 (j := 57) rfl) cb_6 rfl ?_
      refine i_iadd (pc' := 93) (f_at inc_116 (j := 58) rfl) rfl ?_
      refine i_aload_n (pc' := 94) (f_at inc_116 (j := 59) rfl) rfl rfl ?_
      refine i_aload_n (pc' := 95) (f_at inc_116 (j := 60) rfl) rfl rfl ?_
      refine i_getR (pc' := 98) (f_at inc_116 (j := 61) rfl) sh_155 rfl (f_lt (o := 155) (m := 166) (Nat.le_of_ble_eq_true rfl) hN) rfl ?_
      refine i_iload_n (pc' := 99) (f_at inc_116 (j := 62) rfl) rfl rfl ?_
      refine i_iconst (pc' := 100) (f_at inc_116 (j := 63) rfl) ci_5 rfl ?_
      refine i_iadd (pc' := 101) (f_at inc_116 (j := 64) rfl) rfl ?_
      refine i_iald (pc' := 102) (f_at inc_116 (j := 65) rfl) sh_162 (f_bg (Nat.le_of_ble_eq_true rfl)) (f_lt (o := 162) (m := 166) (Nat.le_of_ble_eq_true rfl) hN) rfl fun v15 => ?_
      refine i_sipush (pc' := 105) (f_at inc_116 (j := 66) rfl) cs_150 rfl ?_
      refine c_wi (pc' := 108) (c' := 0) (n' := 0) (h_virt (ra := [.int (150 : Int32), .int v15, .ref 155]) (r := [.int (a1 + (6 : Int32)), .ref 162]) (as := [.int v15, .int (150 : Int32)]) (f_at inc_116 (j := 67) rfl) (by decide) MT_57 rfl rfl rfl ⟨Nat.le_of_ble_eq_true rfl, Nat.le_of_ble_eq_true rfl, Nat.le_of_ble_eq_true rfl⟩ sh_155 (f_lt (o := 155) (m := 166) (Nat.le_of_ble_eq_true rfl) hN)) MT_57 (G_57 hN v15 (150 : Int32) m14) ⟨rfl, rfl, rfl⟩ fun t16 => ?_
      refine i_iast (pc' := 109) (f_at inc_116 (j := 68) rfl) sh_162 (f_lt (o := 162) (m := 166) (Nat.le_of_ble_eq_true rfl) hN) rfl fun m17 => ?_
      refine i_goto (pc' := 127) (f_at inc_116 (j := 69) rfl) (by decide) ?_
      exact hj10 m17 ()
set_option maxRecDepth 4000 in
def g_117  (σ : f_M) : Option (f_M) :=
  (g_114  σ).bind fun t1 =>
  (
   if t1 = (-1 : Int32) then (
    some false
   ) else (
    some true
   )
  ).bind fun (t2 : Bool) =>
  (g_54 t2 (1 : Int32) σ).bind fun t4 =>
  (
   if (30 : Int32) ≤ (t4 155 20) then (
    some false
   ) else (
    some true
   )
  ).bind fun (t5 : Bool) =>
  (g_54 t5 (4 : Int32) t4).bind fun t7 =>
  (g_51  t7).bind fun t8 =>
  if (t8 155 17) ≤ 0 then (
   (f_wr t8 162 210 ((7 : Int32) * (t8 155 20)) t1).bind fun m9 =>
   (
    if t1 = (0 : Int32) then (
     (g_57 (1 : Int32) (48 : Int32) m9).bind fun t11 =>
     (f_wr t11.2 162 210 (((7 : Int32) * (t8 155 20)) + (1 : Int32)) t11.1).bind fun m12 =>
     (g_57 (0 : Int32) (150 : Int32) m12).bind fun t13 =>
     (f_wr t13.2 162 210 (((7 : Int32) * (t8 155 20)) + (2 : Int32)) t13.1).bind fun m14 =>
     (g_57 (0 : Int32) (50 : Int32) m14).bind fun t15 =>
     (f_wr t15.2 162 210 (((7 : Int32) * (t8 155 20)) + (3 : Int32)) t15.1).bind fun m16 =>
     some m16
    ) else
    if t1 = (1 : Int32) then (
     (g_116 ((7 : Int32) * (t8 155 20)) m9).bind fun t18 =>
     some t18
    ) else
    if t1 = (2 : Int32) then (
     (g_116 ((7 : Int32) * (t8 155 20)) m9).bind fun t20 =>
     some t20
    ) else
    if t1 = (3 : Int32) then (
     (g_57 (0 : Int32) (19 : Int32) m9).bind fun t22 =>
     (f_wr t22.2 162 210 (((7 : Int32) * (t8 155 20)) + (1 : Int32)) t22.1).bind fun m23 =>
     some m23
    ) else
    if t1 = (4 : Int32) then (
     (g_115  m9).bind fun t25 =>
     (f_wr t25.2 162 210 (((7 : Int32) * (t8 155 20)) + (1 : Int32)) t25.1).bind fun m26 =>
     (g_57 (1 : Int32) (999 : Int32) m26).bind fun t27 =>
     (f_wr t27.2 162 210 (((7 : Int32) * (t8 155 20)) + (2 : Int32)) t27.1).bind fun m28 =>
     some m28
    ) else
    (
     (g_116 ((7 : Int32) * (t8 155 20)) m9).bind fun t30 =>
     some t30
    )
   ).bind fun (t10 : f_M) =>
   (g_61  t10).bind fun t31 =>
   some (f_up t31 155 20 ((t31 155 20) + (1 : Int32)))
  ) else (
   some t8
  )
set_option maxRecDepth 4000 in
theorem G_117 {xs : Nat → Int32} {L N : Nat} (hN : 166 ≤ N)   (σ : f_M) : f_Cal a_MT xs L N 117 [.ref 155] σ ((g_117  σ).bind fun t => some (e_wv t)) := by
  refine f_cal_of (ls := [.ref 155, a_dead, a_dead]) MT_117 (Nat.le_of_ble_eq_true rfl) rfl ?_
  unfold g_117
  refine i_aload_n (pc' := 1) (f_at inc_117 (j := 0) rfl) rfl rfl ?_
  refine c_pi (pc' := 4) (c' := 0) (n' := 0) (h_virt (ra := [.ref 155]) (r := []) (as := []) (f_at inc_117 (j := 1) rfl) (by decide) MT_114 rfl rfl rfl ⟨Nat.le_of_ble_eq_true rfl, Nat.le_of_ble_eq_true rfl, Nat.le_of_ble_eq_true rfl⟩ sh_155 (f_lt (o := 155) (m := 166) (Nat.le_of_ble_eq_true rfl) hN)) MT_114 (G_114 hN  σ) ⟨rfl, rfl, rfl⟩ fun t1 => ?_
  refine i_istore_n (pc' := 5) (ls' := [.ref 155, .int t1, a_dead]) (f_at inc_117 (j := 2) rfl) (Nat.le_of_ble_eq_true rfl) rfl rfl ?_
  refine i_aload_n (pc' := 6) (f_at inc_117 (j := 3) rfl) rfl rfl ?_
  refine i_iload_n (pc' := 7) (f_at inc_117 (j := 4) rfl) rfl rfl ?_
  refine i_iconst (pc' := 8) (f_at inc_117 (j := 5) rfl) ci_m1 rfl ?_
  refine s_join (J := 16) (fun (t2 : Bool) (u2 : Unit) => [.ref 155, .int t1, a_dead]) (fun t2 => [.int (f_b t2), .ref 155]) (fun t2 => σ) ?_ ?_
  · intro t2 u2
    refine i_iconst (pc' := 17) (f_at inc_117 (j := 10) rfl) ci_1 rfl ?_
    refine c_wv (pc' := 20) (c' := 0) (n' := 0) (h_virt (ra := [.int (1 : Int32), .int (f_b t2), .ref 155]) (r := []) (as := [.int (f_b t2), .int (1 : Int32)]) (f_at inc_117 (j := 11) rfl) (by decide) MT_54 rfl rfl rfl ⟨Nat.le_of_ble_eq_true rfl, Nat.le_of_ble_eq_true rfl, Nat.le_of_ble_eq_true rfl⟩ sh_155 (f_lt (o := 155) (m := 166) (Nat.le_of_ble_eq_true rfl) hN)) MT_54 (G_54 hN t2 (1 : Int32) σ) ⟨rfl, rfl, rfl⟩ fun t4 => ?_
    refine i_aload_n (pc' := 21) (f_at inc_117 (j := 12) rfl) rfl rfl ?_
    refine i_aload_n (pc' := 22) (f_at inc_117 (j := 13) rfl) rfl rfl ?_
    refine i_getI (pc' := 25) (f_at inc_117 (j := 14) rfl) sh_155 rfl (f_lt (o := 155) (m := 166) (Nat.le_of_ble_eq_true rfl) hN) rfl ?_
    refine i_bipush (pc' := 27) (f_at inc_117 (j := 15) rfl) cb_30 rfl ?_
    refine s_join (J := 35) (fun (t5 : Bool) (u5 : Unit) => [.ref 155, .int t1, a_dead]) (fun t5 => [.int (f_b t5), .ref 155]) (fun t5 => t4) ?_ ?_
    · intro t5 u5
      refine i_iconst (pc' := 36) (f_at inc_117 (j := 20) rfl) ci_4 rfl ?_
      refine c_wv (pc' := 39) (c' := 0) (n' := 0) (h_virt (ra := [.int (4 : Int32), .int (f_b t5), .ref 155]) (r := []) (as := [.int (f_b t5), .int (4 : Int32)]) (f_at inc_117 (j := 21) rfl) (by decide) MT_54 rfl rfl rfl ⟨Nat.le_of_ble_eq_true rfl, Nat.le_of_ble_eq_true rfl, Nat.le_of_ble_eq_true rfl⟩ sh_155 (f_lt (o := 155) (m := 166) (Nat.le_of_ble_eq_true rfl) hN)) MT_54 (G_54 hN t5 (4 : Int32) t4) ⟨rfl, rfl, rfl⟩ fun t7 => ?_
      refine i_aload_n (pc' := 40) (f_at inc_117 (j := 22) rfl) rfl rfl ?_
      refine c_wv (pc' := 43) (c' := 0) (n' := 0) (h_virt (ra := [.ref 155]) (r := []) (as := []) (f_at inc_117 (j := 23) rfl) (by decide) MT_51 rfl rfl rfl ⟨Nat.le_of_ble_eq_true rfl, Nat.le_of_ble_eq_true rfl, Nat.le_of_ble_eq_true rfl⟩ sh_155 (f_lt (o := 155) (m := 166) (Nat.le_of_ble_eq_true rfl) hN)) MT_51 (G_51 hN  t7) ⟨rfl, rfl, rfl⟩ fun t8 => ?_
      refine i_aload_n (pc' := 44) (f_at inc_117 (j := 24) rfl) rfl rfl ?_
      refine i_getI (pc' := 47) (f_at inc_117 (j := 25) rfl) sh_155 rfl (f_lt (o := 155) (m := 166) (Nat.le_of_ble_eq_true rfl) hN) rfl ?_
      refine i_if0 (pc' := 51) (nx := 50) c0_le (f_at inc_117 (j := 26) rfl) ⟨by decide, rfl⟩ (fun b32 => ?_) (fun b32 => ?_)
      · refine i_bipush (pc' := 53) (f_at inc_117 (j := 28) rfl) cb_7 rfl ?_
        refine i_aload_n (pc' := 54) (f_at inc_117 (j := 29) rfl) rfl rfl ?_
        refine i_getI (pc' := 57) (f_at inc_117 (j := 30) rfl) sh_155 rfl (f_lt (o := 155) (m := 166) (Nat.le_of_ble_eq_true rfl) hN) rfl ?_
        refine i_imul (pc' := 58) (f_at inc_117 (j := 31) rfl) rfl ?_
        refine i_istore_n (pc' := 59) (ls' := [.ref 155, .int t1, .int ((7 : Int32) * (t8 155 20))]) (f_at inc_117 (j := 32) rfl) (Nat.le_of_ble_eq_true rfl) rfl rfl ?_
        refine i_aload_n (pc' := 60) (f_at inc_117 (j := 33) rfl) rfl rfl ?_
        refine i_getR (pc' := 63) (f_at inc_117 (j := 34) rfl) sh_155 rfl (f_lt (o := 155) (m := 166) (Nat.le_of_ble_eq_true rfl) hN) rfl ?_
        refine i_iload_n (pc' := 64) (f_at inc_117 (j := 35) rfl) rfl rfl ?_
        refine i_iload_n (pc' := 65) (f_at inc_117 (j := 36) rfl) rfl rfl ?_
        refine i_iast (pc' := 66) (f_at inc_117 (j := 37) rfl) sh_162 (f_lt (o := 162) (m := 166) (Nat.le_of_ble_eq_true rfl) hN) rfl fun m9 => ?_
        refine i_iload_n (pc' := 67) (f_at inc_117 (j := 38) rfl) rfl rfl ?_
        refine s_join (J := 203) (fun (t10 : f_M) (u10 : Unit) => [.ref 155, .int t1, .int ((7 : Int32) * (t8 155 20))]) (fun t10 => []) (fun t10 => t10) ?_ ?_
        · intro t10 u10
          refine i_aload_n (pc' := 204) (f_at inc_117 (j := 104) rfl) rfl rfl ?_
          refine c_wv (pc' := 207) (c' := 0) (n' := 0) (h_virt (ra := [.ref 155]) (r := []) (as := []) (f_at inc_117 (j := 105) rfl) (by decide) MT_61 rfl rfl rfl ⟨Nat.le_of_ble_eq_true rfl, Nat.le_of_ble_eq_true rfl, Nat.le_of_ble_eq_true rfl⟩ sh_155 (f_lt (o := 155) (m := 166) (Nat.le_of_ble_eq_true rfl) hN)) MT_61 (G_61 hN  t10) ⟨rfl, rfl, rfl⟩ fun t31 => ?_
          refine i_aload_n (pc' := 208) (f_at inc_117 (j := 106) rfl) rfl rfl ?_
          refine i_dup (pc' := 209) (f_at inc_117 (j := 107) rfl) rfl rfl ?_
          refine i_getI (pc' := 212) (f_at inc_117 (j := 108) rfl) sh_155 rfl (f_lt (o := 155) (m := 166) (Nat.le_of_ble_eq_true rfl) hN) rfl ?_
          refine i_iconst (pc' := 213) (f_at inc_117 (j := 109) rfl) ci_1 rfl ?_
          refine i_iadd (pc' := 214) (f_at inc_117 (j := 110) rfl) rfl ?_
          refine i_putI (pc' := 217) (f_at inc_117 (j := 111) rfl) sh_155 rfl ⟨rfl, rfl⟩ (f_lt (o := 155) (m := 166) (Nat.le_of_ble_eq_true rfl) hN) rfl ?_
          exact i_vret (f_at inc_117 (j := 112) rfl) rfl
        · intro k10 hj10
          refine i_cas (fun b17 => ?_) (fun b17 => ?_)
          · refine i_sw (pc' := 100) (v := (0 : Int32)) (f_at inc_117 (j := 39) rfl) b17 ⟨by decide, rfl⟩ (by decide) ?_
            refine i_aload_n (pc' := 101) (f_at inc_117 (j := 40) rfl) rfl rfl ?_
            refine i_getR (pc' := 104) (f_at inc_117 (j := 41) rfl) sh_155 rfl (f_lt (o := 155) (m := 166) (Nat.le_of_ble_eq_true rfl) hN) rfl ?_
            refine i_iload_n (pc' := 105) (f_at inc_117 (j := 42) rfl) rfl rfl ?_
            refine i_iconst (pc' := 106) (f_at inc_117 (j := 43) rfl) ci_1 rfl ?_
            refine i_iadd (pc' := 107) (f_at inc_117 (j := 44) rfl) rfl ?_
            refine i_aload_n (pc' := 108) (f_at inc_117 (j := 45) rfl) rfl rfl ?_
            refine i_iconst (pc' := 109) (f_at inc_117 (j := 46) rfl) ci_1 rfl ?_
            refine i_bipush (pc' := 111) (f_at inc_117 (j := 47) rfl) cb_48 rfl ?_
            refine c_wi (pc' := 114) (c' := 0) (n' := 0) (h_virt (ra := [.int (48 : Int32), .int (1 : Int32), .ref 155]) (r := [.int (((7 : Int32) * (t8 155 20)) + (1 : Int32)), .ref 162]) (as := [.int (1 : Int32), .int (48 : Int32)]) (f_at inc_117 (j := 48) rfl) (by decide) MT_57 rfl rfl rfl ⟨Nat.le_of_ble_eq_true rfl, Nat.le_of_ble_eq_true rfl, Nat.le_of_ble_eq_true rfl⟩ sh_155 (f_lt (o := 155) (m := 166) (Nat.le_of_ble_eq_true rfl) hN)) MT_57 (G_57 hN (1 : Int32) (48 : Int32) m9) ⟨rfl, rfl, rfl⟩ fun t11 => ?_
            refine i_iast (pc' := 115) (f_at inc_117 (j := 49) rfl) sh_162 (f_lt (o := 162) (m := 166) (Nat.le_of_ble_eq_true rfl) hN) rfl fun m12 => ?_
            refine i_aload_n (pc' := 116) (f_at inc_117 (j := 50) rfl) rfl rfl ?_
            refine i_getR (pc' := 119) (f_at inc_117 (j := 51) rfl) sh_155 rfl (f_lt (o := 155) (m := 166) (Nat.le_of_ble_eq_true rfl) hN) rfl ?_
            refine i_iload_n (pc' := 120) (f_at inc_117 (j := 52) rfl) rfl rfl ?_
            refine i_iconst (pc' := 121) (f_at inc_117 (j := 53) rfl) ci_2 rfl ?_
            refine i_iadd (pc' := 122) (f_at inc_117 (j := 54) rfl) rfl ?_
            refine i_aload_n (pc' := 123) (f_at inc_117 (j := 55) rfl) rfl rfl ?_
            refine i_iconst (pc' := 124) (f_at inc_117 (j := 56) rfl) ci_0 rfl ?_
            refine i_sipush (pc' := 127) (f_at inc_117 (j := 57) rfl) cs_150 rfl ?_
            refine c_wi (pc' := 130) (c' := 0) (n' := 0) (h_virt (ra := [.int (150 : Int32), .int (0 : Int32), .ref 155]) (r := [.int (((7 : Int32) * (t8 155 20)) + (2 : Int32)), .ref 162]) (as := [.int (0 : Int32), .int (150 : Int32)]) (f_at inc_117 (j := 58) rfl) (by decide) MT_57 rfl rfl rfl ⟨Nat.le_of_ble_eq_true rfl, Nat.le_of_ble_eq_true rfl, Nat.le_of_ble_eq_true rfl⟩ sh_155 (f_lt (o := 155) (m := 166) (Nat.le_of_ble_eq_true rfl) hN)) MT_57 (G_57 hN (0 : Int32) (150 : Int32) m12) ⟨rfl, rfl, rfl⟩ fun t13 => ?_
            refine i_iast (pc' := 131) (f_at inc_117 (j := 59) rfl) sh_162 (f_lt (o := 162) (m := 166) (Nat.le_of_ble_eq_true rfl) hN) rfl fun m14 => ?_
            refine i_aload_n (pc' := 132) (f_at inc_117 (j := 60) rfl) rfl rfl ?_
            refine i_getR (pc' := 135) (f_at inc_117 (j := 61) rfl) sh_155 rfl (f_lt (o := 155) (m := 166) (Nat.le_of_ble_eq_true rfl) hN) rfl ?_
            refine i_iload_n (pc' := 136) (f_at inc_117 (j := 62) rfl) rfl rfl ?_
            refine i_iconst (pc' := 137) (f_at inc_117 (j := 63) rfl) ci_3 rfl ?_
            refine i_iadd (pc' := 138) (f_at inc_117 (j := 64) rfl) rfl ?_
            refine i_aload_n (pc' := 139) (f_at inc_117 (j := 65) rfl) rfl rfl ?_
            refine i_iconst (pc' := 140) (f_at inc_117 (j := 66) rfl) ci_0 rfl ?_
            refine i_bipush (pc' := 142) (f_at inc_117 (j := 67) rfl) cb_50 rfl ?_
            refine c_wi (pc' := 145) (c' := 0) (n' := 0) (h_virt (ra := [.int (50 : Int32), .int (0 : Int32), .ref 155]) (r := [.int (((7 : Int32) * (t8 155 20)) + (3 : Int32)), .ref 162]) (as := [.int (0 : Int32), .int (50 : Int32)]) (f_at inc_117 (j := 68) rfl) (by decide) MT_57 rfl rfl rfl ⟨Nat.le_of_ble_eq_true rfl, Nat.le_of_ble_eq_true rfl, Nat.le_of_ble_eq_true rfl⟩ sh_155 (f_lt (o := 155) (m := 166) (Nat.le_of_ble_eq_true rfl) hN)) MT_57 (G_57 hN (0 : Int32) (50 : Int32) m14) ⟨rfl, rfl, rfl⟩ fun t15 => ?_
            refine i_iast (pc' := 146) (f_at inc_117 (j := 69) rfl) sh_162 (f_lt (o := 162) (m := 166) (Nat.le_of_ble_eq_true rfl) hN) rfl fun m16 => ?_
            refine i_goto (pc' := 203) (f_at inc_117 (j := 70) rfl) (by decide) ?_
            exact hj10 m16 ()
          refine i_cas (fun b19 => ?_) (fun b19 => ?_)
          · refine i_sw (pc' := 198) (v := (1 : Int32)) (f_at inc_117 (j := 39) rfl) b19 ⟨by decide, rfl⟩ (by decide) ?_
            refine i_aload_n (pc' := 199) (f_at inc_117 (j := 101) rfl) rfl rfl ?_
            refine i_iload_n (pc' := 200) (f_at inc_117 (j := 102) rfl) rfl rfl ?_
            refine c_wv (pc' := 203) (c' := 0) (n' := 0) (h_virt (ra := [.int ((7 : Int32) * (t8 155 20)), .ref 155]) (r := []) (as := [.int ((7 : Int32) * (t8 155 20))]) (f_at inc_117 (j := 103) rfl) (by decide) MT_116 rfl rfl rfl ⟨Nat.le_of_ble_eq_true rfl, Nat.le_of_ble_eq_true rfl, Nat.le_of_ble_eq_true rfl⟩ sh_155 (f_lt (o := 155) (m := 166) (Nat.le_of_ble_eq_true rfl) hN)) MT_116 (G_116 hN ((7 : Int32) * (t8 155 20)) m9) ⟨rfl, rfl, rfl⟩ fun t18 => ?_
            exact hj10 t18 ()
          refine i_cas (fun b21 => ?_) (fun b21 => ?_)
          · refine i_sw (pc' := 198) (v := (2 : Int32)) (f_at inc_117 (j := 39) rfl) b21 ⟨by decide, rfl⟩ (by decide) ?_
            refine i_aload_n (pc' := 199) (f_at inc_117 (j := 101) rfl) rfl rfl ?_
            refine i_iload_n (pc' := 200) (f_at inc_117 (j := 102) rfl) rfl rfl ?_
            refine c_wv (pc' := 203) (c' := 0) (n' := 0) (h_virt (ra := [.int ((7 : Int32) * (t8 155 20)), .ref 155]) (r := []) (as := [.int ((7 : Int32) * (t8 155 20))]) (f_at inc_117 (j := 103) rfl) (by decide) MT_116 rfl rfl rfl ⟨Nat.le_of_ble_eq_true rfl, Nat.le_of_ble_eq_true rfl, Nat.le_of_ble_eq_true rfl⟩ sh_155 (f_lt (o := 155) (m := 166) (Nat.le_of_ble_eq_true rfl) hN)) MT_116 (G_116 hN ((7 : Int32) * (t8 155 20)) m9) ⟨rfl, rfl, rfl⟩ fun t20 => ?_
            exact hj10 t20 ()
          refine i_cas (fun b24 => ?_) (fun b24 => ?_)
          · refine i_sw (pc' := 149) (v := (3 : Int32)) (f_at inc_117 (j := 39) rfl) b24 ⟨by decide, rfl⟩ (by decide) ?_
            refine i_aload_n (pc' := 150) (f_at inc_117 (j := 71) rfl) rfl rfl ?_
            refine i_getR (pc' := 153) (f_at inc_117 (j := 72) rfl) sh_155 rfl (f_lt (o := 155) (m := 166) (Nat.le_of_ble_eq_true rfl) hN) rfl ?_
            refine i_iload_n (pc' := 154) (f_at inc_117 (j := 73) rfl) rfl rfl ?_
            refine i_iconst (pc' := 155) (f_at inc_117 (j := 74) rfl) ci_1 rfl ?_
            refine i_iadd (pc' := 156) (f_at inc_117 (j := 75) rfl) rfl ?_
            refine i_aload_n (pc' := 157) (f_at inc_117 (j := 76) rfl) rfl rfl ?_
            refine i_iconst (pc' := 158) (f_at inc_117 (j := 77) rfl) ci_0 rfl ?_
            refine i_bipush (pc' := 160) (f_at inc_117 (j := 78) rfl) cb_19 rfl ?_
            refine c_wi (pc' := 163) (c' := 0) (n' := 0) (h_virt (ra := [.int (19 : Int32), .int (0 : Int32), .ref 155]) (r := [.int (((7 : Int32) * (t8 155 20)) + (1 : Int32)), .ref 162]) (as := [.int (0 : Int32), .int (19 : Int32)]) (f_at inc_117 (j := 79) rfl) (by decide) MT_57 rfl rfl rfl ⟨Nat.le_of_ble_eq_true rfl, Nat.le_of_ble_eq_true rfl, Nat.le_of_ble_eq_true rfl⟩ sh_155 (f_lt (o := 155) (m := 166) (Nat.le_of_ble_eq_true rfl) hN)) MT_57 (G_57 hN (0 : Int32) (19 : Int32) m9) ⟨rfl, rfl, rfl⟩ fun t22 => ?_
            refine i_iast (pc' := 164) (f_at inc_117 (j := 80) rfl) sh_162 (f_lt (o := 162) (m := 166) (Nat.le_of_ble_eq_true rfl) hN) rfl fun m23 => ?_
            refine i_goto (pc' := 203) (f_at inc_117 (j := 81) rfl) (by decide) ?_
            exact hj10 m23 ()
          refine i_cas (fun b29 => ?_) (fun b29 => ?_)
          · refine i_sw (pc' := 167) (v := (4 : Int32)) (f_at inc_117 (j := 39) rfl) b29 ⟨by decide, rfl⟩ (by decide) ?_
            refine i_aload_n (pc' := 168) (f_at inc_117 (j := 82) rfl) rfl rfl ?_
            refine i_getR (pc' := 171) (f_at inc_117 (j := 83) rfl) sh_155 rfl (f_lt (o := 155) (m := 166) (Nat.le_of_ble_eq_true rfl) hN) rfl ?_
            refine i_iload_n (pc' := 172) (f_at inc_117 (j := 84) rfl) rfl rfl ?_
            refine i_iconst (pc' := 173) (f_at inc_117 (j := 85) rfl) ci_1 rfl ?_
            refine i_iadd (pc' := 174) (f_at inc_117 (j := 86) rfl) rfl ?_
            refine i_aload_n (pc' := 175) (f_at inc_117 (j := 87) rfl) rfl rfl ?_
            refine c_wi (pc' := 178) (c' := 0) (n' := 0) (h_virt (ra := [.ref 155]) (r := [.int (((7 : Int32) * (t8 155 20)) + (1 : Int32)), .ref 162]) (as := []) (f_at inc_117 (j := 88) rfl) (by decide) MT_115 rfl rfl rfl ⟨Nat.le_of_ble_eq_true rfl, Nat.le_of_ble_eq_true rfl, Nat.le_of_ble_eq_true rfl⟩ sh_155 (f_lt (o := 155) (m := 166) (Nat.le_of_ble_eq_true rfl) hN)) MT_115 (G_115 hN  m9) ⟨rfl, rfl, rfl⟩ fun t25 => ?_
            refine i_iast (pc' := 179) (f_at inc_117 (j := 89) rfl) sh_162 (f_lt (o := 162) (m := 166) (Nat.le_of_ble_eq_true rfl) hN) rfl fun m26 => ?_
            refine i_aload_n (pc' := 180) (f_at inc_117 (j := 90) rfl) rfl rfl ?_
            refine i_getR (pc' := 183) (f_at inc_117 (j := 91) rfl) sh_155 rfl (f_lt (o := 155) (m := 166) (Nat.le_of_ble_eq_true rfl) hN) rfl ?_
            refine i_iload_n (pc' := 184) (f_at inc_117 (j := 92) rfl) rfl rfl ?_
            refine i_iconst (pc' := 185) (f_at inc_117 (j := 93) rfl) ci_2 rfl ?_
            refine i_iadd (pc' := 186) (f_at inc_117 (j := 94) rfl) rfl ?_
            refine i_aload_n (pc' := 187) (f_at inc_117 (j := 95) rfl) rfl rfl ?_
            refine i_iconst (pc' := 188) (f_at inc_117 (j := 96) rfl) ci_1 rfl ?_
            refine i_sipush (pc' := 191) (f_at inc_117 (j := 97) rfl) cs_999 rfl ?_
            refine c_wi (pc' := 194) (c' := 0) (n' := 0) (h_virt (ra := [.int (999 : Int32), .int (1 : Int32), .ref 155]) (r := [.int (((7 : Int32) * (t8 155 20)) + (2 : Int32)), .ref 162]) (as := [.int (1 : Int32), .int (999 : Int32)]) (f_at inc_117 (j := 98) rfl) (by decide) MT_57 rfl rfl rfl ⟨Nat.le_of_ble_eq_true rfl, Nat.le_of_ble_eq_true rfl, Nat.le_of_ble_eq_true rfl⟩ sh_155 (f_lt (o := 155) (m := 166) (Nat.le_of_ble_eq_true rfl) hN)) MT_57 (G_57 hN (1 : Int32) (999 : Int32) m26) ⟨rfl, rfl, rfl⟩ fun t27 => ?_
            refine i_iast (pc' := 195) (f_at inc_117 (j := 99) rfl) sh_162 (f_lt (o := 162) (m := 166) (Nat.le_of_ble_eq_true rfl) hN) rfl fun m28 => ?_
            refine i_goto (pc' := 203) (f_at inc_117 (j := 100) rfl) (by decide) ?_
            exact hj10 m28 ()
          refine i_swd (pc' := 198) (f_at inc_117 (j := 39) rfl) (sw_out 5 (fun j hj => by match j, hj with | 0, _ => exact b17 | 1, _ => exact b19 | 2, _ => exact b21 | 3, _ => exact b24 | 4, _ => exact b29)) (by decide) ?_
          refine i_aload_n (pc' := 199) (f_at inc_117 (j := 101) rfl) rfl rfl ?_
          refine i_iload_n (pc' := 200) (f_at inc_117 (j := 102) rfl) rfl rfl ?_
          refine c_wv (pc' := 203) (c' := 0) (n' := 0) (h_virt (ra := [.int ((7 : Int32) * (t8 155 20)), .ref 155]) (r := []) (as := [.int ((7 : Int32) * (t8 155 20))]) (f_at inc_117 (j := 103) rfl) (by decide) MT_116 rfl rfl rfl ⟨Nat.le_of_ble_eq_true rfl, Nat.le_of_ble_eq_true rfl, Nat.le_of_ble_eq_true rfl⟩ sh_155 (f_lt (o := 155) (m := 166) (Nat.le_of_ble_eq_true rfl) hN)) MT_116 (G_116 hN ((7 : Int32) * (t8 155 20)) m9) ⟨rfl, rfl, rfl⟩ fun t30 => ?_
          exact hj10 t30 ()
      · exact i_vret (f_at inc_117 (j := 27) rfl) rfl
    · intro k5 hj5
      refine i_if2 (pc' := 34) (nx := 30) c2_ge (f_at inc_117 (j := 16) rfl) ⟨by decide, rfl⟩ (fun b6 => ?_) (fun b6 => ?_)
      · refine i_iconst (pc' := 35) (f_at inc_117 (j := 19) rfl) ci_0 rfl ?_
        exact hj5 false ()
      · refine i_iconst (pc' := 31) (f_at inc_117 (j := 17) rfl) ci_1 rfl ?_
        refine i_goto (pc' := 35) (f_at inc_117 (j := 18) rfl) (by decide) ?_
        exact hj5 true ()
  · intro k2 hj2
    refine i_if2 (pc' := 15) (nx := 11) c2_eq (f_at inc_117 (j := 6) rfl) ⟨by decide, rfl⟩ (fun b3 => ?_) (fun b3 => ?_)
    · refine i_iconst (pc' := 16) (f_at inc_117 (j := 9) rfl) ci_0 rfl ?_
      exact hj2 false ()
    · refine i_iconst (pc' := 12) (f_at inc_117 (j := 7) rfl) ci_1 rfl ?_
      refine i_goto (pc' := 16) (f_at inc_117 (j := 8) rfl) (by decide) ?_
      exact hj2 true ()
set_option maxRecDepth 4000 in
def g_118  (σ : f_M) : Option (f_M) :=
  (
   if ¬ (σ 155 4) = (8 : Int32) then (
    some σ
   ) else (
    (f_lp (fun (s2 : Int32 × f_M) =>
     if (19360 : Int32) ≤ s2.1 then (
      some (.inr s2.2)
     ) else (
      (f_rd s2.2 159 19360 s2.1).bind fun v3 =>
      (f_wr s2.2 159 19360 (s2.1 - (2420 : Int32)) v3).bind fun m4 =>
      some (.inl ((s2.1 + (1 : Int32)), m4))
     )
    ) f_F ((2420 : Int32), σ)).bind fun (x2 : f_M) =>
    some (f_up x2 155 4 ((x2 155 4) - (1 : Int32)))
   )
  ).bind fun (t1 : f_M) =>
  (f_lp (fun (s7 : Int32 × f_M) =>
   if (2420 : Int32) ≤ s7.1 then (
    some (.inr s7.2)
   ) else (
    (f_rd s7.2 156 2420 s7.1).bind fun v8 =>
    (f_wr s7.2 159 19360 (((2420 : Int32) * (s7.2 155 4)) + s7.1) v8).bind fun m9 =>
    some (.inl ((s7.1 + (1 : Int32)), m9))
   )
  ) f_F ((0 : Int32), t1)).bind fun (x7 : f_M) =>
  some (f_up x7 155 4 ((x7 155 4) + (1 : Int32)))
set_option maxRecDepth 4000 in
theorem G_118 {xs : Nat → Int32} {L N : Nat} (hN : 166 ≤ N)   (σ : f_M) : f_Cal a_MT xs L N 118 [.ref 155] σ ((g_118  σ).bind fun t => some (e_wv t)) := by
  refine f_cal_of (ls := [.ref 155, a_dead]) MT_118 (Nat.le_of_ble_eq_true rfl) rfl ?_
  unfold g_118
  refine i_aload_n (pc' := 1) (f_at inc_118 (j := 0) rfl) rfl rfl ?_
  refine i_getI (pc' := 4) (f_at inc_118 (j := 1) rfl) sh_155 rfl (f_lt (o := 155) (m := 166) (Nat.le_of_ble_eq_true rfl) hN) rfl ?_
  refine i_bipush (pc' := 6) (f_at inc_118 (j := 2) rfl) cb_8 rfl ?_
  refine s_join (J := 52) (fun (t1 : f_M) (u1 : Value) => [.ref 155, u1]) (fun t1 => []) (fun t1 => t1) ?_ ?_
  · intro t1 u1
    refine i_iconst (pc' := 53) (f_at inc_118 (j := 27) rfl) ci_0 rfl ?_
    refine i_istore_n (pc' := 54) (ls' := [.ref 155, .int (0 : Int32)]) (f_at inc_118 (j := 28) rfl) (Nat.le_of_ble_eq_true rfl) rfl rfl ?_
    refine s_lX (X := 88) ((0 : Int32), t1) () (fun (s7 : Int32 × f_M) (u7 : Unit) => [.ref 155, .int s7.1]) (fun (s7 : Int32 × f_M) => s7.2) (fun (x7 : f_M) (w7 : Value) => [.ref 155, w7]) (fun (x7 : f_M) => x7) ?_ ?_
    · intro x7 w7
      refine i_aload_n (pc' := 89) (f_at inc_118 (j := 47) rfl) rfl rfl ?_
      refine i_dup (pc' := 90) (f_at inc_118 (j := 48) rfl) rfl rfl ?_
      refine i_getI (pc' := 93) (f_at inc_118 (j := 49) rfl) sh_155 rfl (f_lt (o := 155) (m := 166) (Nat.le_of_ble_eq_true rfl) hN) rfl ?_
      refine i_iconst (pc' := 94) (f_at inc_118 (j := 50) rfl) ci_1 rfl ?_
      refine i_iadd (pc' := 95) (f_at inc_118 (j := 51) rfl) rfl ?_
      refine i_putI (pc' := 98) (f_at inc_118 (j := 52) rfl) sh_155 rfl ⟨rfl, rfl⟩ (f_lt (o := 155) (m := 166) (Nat.le_of_ble_eq_true rfl) hN) rfl ?_
      exact i_vret (f_at inc_118 (j := 53) rfl) rfl
    · intro s7 u7 k7 hb7 hx7
      refine i_iload_n (pc' := 55) (f_at inc_118 (j := 29) rfl) rfl rfl ?_
      refine i_sipush (pc' := 58) (f_at inc_118 (j := 30) rfl) cs_2420 rfl ?_
      refine i_if2 (pc' := 88) (nx := 61) c2_ge (f_at inc_118 (j := 31) rfl) ⟨by decide, rfl⟩ (fun b10 => ?_) (fun b10 => ?_)
      · exact hx7 s7.2 (.int s7.1)
      · refine i_aload_n (pc' := 62) (f_at inc_118 (j := 32) rfl) rfl rfl ?_
        refine i_getR (pc' := 65) (f_at inc_118 (j := 33) rfl) sh_155 rfl (f_lt (o := 155) (m := 166) (Nat.le_of_ble_eq_true rfl) hN) rfl ?_
        refine i_sipush (pc' := 68) (f_at inc_118 (j := 34) rfl) cs_2420 rfl ?_
        refine i_aload_n (pc' := 69) (f_at inc_118 (j := 35) rfl) rfl rfl ?_
        refine i_getI (pc' := 72) (f_at inc_118 (j := 36) rfl) sh_155 rfl (f_lt (o := 155) (m := 166) (Nat.le_of_ble_eq_true rfl) hN) rfl ?_
        refine i_imul (pc' := 73) (f_at inc_118 (j := 37) rfl) rfl ?_
        refine i_iload_n (pc' := 74) (f_at inc_118 (j := 38) rfl) rfl rfl ?_
        refine i_iadd (pc' := 75) (f_at inc_118 (j := 39) rfl) rfl ?_
        refine i_aload_n (pc' := 76) (f_at inc_118 (j := 40) rfl) rfl rfl ?_
        refine i_getR (pc' := 79) (f_at inc_118 (j := 41) rfl) sh_155 rfl (f_lt (o := 155) (m := 166) (Nat.le_of_ble_eq_true rfl) hN) rfl ?_
        refine i_iload_n (pc' := 80) (f_at inc_118 (j := 42) rfl) rfl rfl ?_
        refine i_iald (pc' := 81) (f_at inc_118 (j := 43) rfl) sh_156 (f_bg (Nat.le_of_ble_eq_true rfl)) (f_lt (o := 156) (m := 166) (Nat.le_of_ble_eq_true rfl) hN) rfl fun v8 => ?_
        refine i_iast (pc' := 82) (f_at inc_118 (j := 44) rfl) sh_159 (f_lt (o := 159) (m := 166) (Nat.le_of_ble_eq_true rfl) hN) rfl fun m9 => ?_
        refine i_iinc (pc' := 85) (ls' := [.ref 155, .int (s7.1 + (1 : Int32))]) (f_at inc_118 (j := 45) rfl) rfl ci_1 rfl rfl ?_
        refine i_goto (pc' := 54) (f_at inc_118 (j := 46) rfl) (by decide) ?_
        exact hb7 ((s7.1 + (1 : Int32)), m9) ()
  · intro k1 hj1
    refine i_if2 (pc' := 52) (nx := 9) c2_ne (f_at inc_118 (j := 3) rfl) ⟨by decide, rfl⟩ (fun b6 => ?_) (fun b6 => ?_)
    · exact hj1 σ (a_dead)
    · refine i_sipush (pc' := 12) (f_at inc_118 (j := 4) rfl) cs_2420 rfl ?_
      refine i_istore_n (pc' := 13) (ls' := [.ref 155, .int (2420 : Int32)]) (f_at inc_118 (j := 5) rfl) (Nat.le_of_ble_eq_true rfl) rfl rfl ?_
      refine s_lX (X := 42) ((2420 : Int32), σ) () (fun (s2 : Int32 × f_M) (u2 : Unit) => [.ref 155, .int s2.1]) (fun (s2 : Int32 × f_M) => s2.2) (fun (x2 : f_M) (w2 : Value) => [.ref 155, w2]) (fun (x2 : f_M) => x2) ?_ ?_
      · intro x2 w2
        refine i_aload_n (pc' := 43) (f_at inc_118 (j := 21) rfl) rfl rfl ?_
        refine i_dup (pc' := 44) (f_at inc_118 (j := 22) rfl) rfl rfl ?_
        refine i_getI (pc' := 47) (f_at inc_118 (j := 23) rfl) sh_155 rfl (f_lt (o := 155) (m := 166) (Nat.le_of_ble_eq_true rfl) hN) rfl ?_
        refine i_iconst (pc' := 48) (f_at inc_118 (j := 24) rfl) ci_1 rfl ?_
        refine i_isub (pc' := 49) (f_at inc_118 (j := 25) rfl) rfl ?_
        refine i_putI (pc' := 52) (f_at inc_118 (j := 26) rfl) sh_155 rfl ⟨rfl, rfl⟩ (f_lt (o := 155) (m := 166) (Nat.le_of_ble_eq_true rfl) hN) rfl ?_
        exact hj1 (f_up x2 155 4 ((x2 155 4) - (1 : Int32))) (w2)
      · intro s2 u2 k2 hb2 hx2
        refine i_iload_n (pc' := 14) (f_at inc_118 (j := 6) rfl) rfl rfl ?_
        refine i_sipush (pc' := 17) (f_at inc_118 (j := 7) rfl) cs_19360 rfl ?_
        refine i_if2 (pc' := 42) (nx := 20) c2_ge (f_at inc_118 (j := 8) rfl) ⟨by decide, rfl⟩ (fun b5 => ?_) (fun b5 => ?_)
        · exact hx2 s2.2 (.int s2.1)
        · refine i_aload_n (pc' := 21) (f_at inc_118 (j := 9) rfl) rfl rfl ?_
          refine i_getR (pc' := 24) (f_at inc_118 (j := 10) rfl) sh_155 rfl (f_lt (o := 155) (m := 166) (Nat.le_of_ble_eq_true rfl) hN) rfl ?_
          refine i_iload_n (pc' := 25) (f_at inc_118 (j := 11) rfl) rfl rfl ?_
          refine i_sipush (pc' := 28) (f_at inc_118 (j := 12) rfl) cs_2420 rfl ?_
          refine i_isub (pc' := 29) (f_at inc_118 (j := 13) rfl) rfl ?_
          refine i_aload_n (pc' := 30) (f_at inc_118 (j := 14) rfl) rfl rfl ?_
          refine i_getR (pc' := 33) (f_at inc_118 (j := 15) rfl) sh_155 rfl (f_lt (o := 155) (m := 166) (Nat.le_of_ble_eq_true rfl) hN) rfl ?_
          refine i_iload_n (pc' := 34) (f_at inc_118 (j := 16) rfl) rfl rfl ?_
          refine i_iald (pc' := 35) (f_at inc_118 (j := 17) rfl) sh_159 (f_bg (Nat.le_of_ble_eq_true rfl)) (f_lt (o := 159) (m := 166) (Nat.le_of_ble_eq_true rfl) hN) rfl fun v3 => ?_
          refine i_iast (pc' := 36) (f_at inc_118 (j := 18) rfl) sh_159 (f_lt (o := 159) (m := 166) (Nat.le_of_ble_eq_true rfl) hN) rfl fun m4 => ?_
          refine i_iinc (pc' := 39) (ls' := [.ref 155, .int (s2.1 + (1 : Int32))]) (f_at inc_118 (j := 19) rfl) rfl ci_1 rfl rfl ?_
          refine i_goto (pc' := 13) (f_at inc_118 (j := 20) rfl) (by decide) ?_
          exact hb2 ((s2.1 + (1 : Int32)), m4) ()
set_option maxRecDepth 4000 in
def g_119 (a0 : Int32) (σ : f_M) : Option (Int32) :=
  some ((100 : Int32) + ((10 : Int32) * a0))
set_option maxRecDepth 4000 in
theorem G_119 {xs : Nat → Int32} {L N : Nat} (hN : 166 ≤ N) (a0 : Int32)  (σ : f_M) : f_Cal a_MT xs L N 119 [.int a0] σ ((g_119 a0 σ).bind fun t => some (e_pi σ t)) := by
  refine f_cal_of (ls := [.int a0]) MT_119 (Nat.le_of_ble_eq_true rfl) rfl ?_
  unfold g_119
  refine i_bipush (pc' := 2) (f_at inc_119 (j := 0) rfl) cb_100 rfl ?_
  refine i_bipush (pc' := 4) (f_at inc_119 (j := 1) rfl) cb_10 rfl ?_
  refine i_iload_n (pc' := 5) (f_at inc_119 (j := 2) rfl) rfl rfl ?_
  refine i_imul (pc' := 6) (f_at inc_119 (j := 3) rfl) rfl ?_
  refine i_iadd (pc' := 7) (f_at inc_119 (j := 4) rfl) rfl ?_
  exact i_iret (f_at inc_119 (j := 5) rfl) rfl n_int
set_option maxRecDepth 4000 in
def g_120 (a1 : Int32) (σ : f_M) : Option (Bool) :=
  (g_119 a1 σ).bind fun t1 =>
  (f_rd σ 156 2420 (t1 + (8 : Int32))).bind fun v2 =>
  (
   if ¬ v2 = (1 : Int32) then (
    some false
   ) else (
    some true
   )
  ).bind fun (t3 : Bool) =>
  some t3
set_option maxRecDepth 4000 in
theorem G_120 {xs : Nat → Int32} {L N : Nat} (hN : 166 ≤ N) (a1 : Int32)  (σ : f_M) : f_Cal a_MT xs L N 120 [.ref 155, .int a1] σ ((g_120 a1 σ).bind fun t => some (e_pb σ t)) := by
  refine f_cal_of (ls := [.ref 155, .int a1]) MT_120 (Nat.le_of_ble_eq_true rfl) rfl ?_
  unfold g_120
  refine i_aload_n (pc' := 1) (f_at inc_120 (j := 0) rfl) rfl rfl ?_
  refine i_getR (pc' := 4) (f_at inc_120 (j := 1) rfl) sh_155 rfl (f_lt (o := 155) (m := 166) (Nat.le_of_ble_eq_true rfl) hN) rfl ?_
  refine i_iload_n (pc' := 5) (f_at inc_120 (j := 2) rfl) rfl rfl ?_
  refine c_pi (pc' := 8) (c' := 0) (n' := 0) (h_stat (ra := [.int a1]) (r := [.ref 156]) (as := [.int a1]) (f_at inc_120 (j := 3) rfl) (by decide) MT_119 rfl rfl rfl ⟨Nat.le_of_ble_eq_true rfl, Nat.le_of_ble_eq_true rfl, Nat.le_of_ble_eq_true rfl⟩) MT_119 (G_119 hN a1 σ) ⟨rfl, rfl, rfl⟩ fun t1 => ?_
  refine i_bipush (pc' := 10) (f_at inc_120 (j := 4) rfl) cb_8 rfl ?_
  refine i_iadd (pc' := 11) (f_at inc_120 (j := 5) rfl) rfl ?_
  refine i_iald (pc' := 12) (f_at inc_120 (j := 6) rfl) sh_156 (f_bg (Nat.le_of_ble_eq_true rfl)) (f_lt (o := 156) (m := 166) (Nat.le_of_ble_eq_true rfl) hN) rfl fun v2 => ?_
  refine i_iconst (pc' := 13) (f_at inc_120 (j := 7) rfl) ci_1 rfl ?_
  refine s_join (J := 21) (fun (t3 : Bool) (u3 : Unit) => [.ref 155, .int a1]) (fun t3 => [.int (f_b t3)]) (fun t3 => σ) ?_ ?_
  · intro t3 u3
    exact i_iret (v := f_b t3) (f_at inc_120 (j := 12) rfl) rfl n_bool
  · intro k3 hj3
    refine i_if2 (pc' := 20) (nx := 16) c2_ne (f_at inc_120 (j := 8) rfl) ⟨by decide, rfl⟩ (fun b4 => ?_) (fun b4 => ?_)
    · refine i_iconst (pc' := 21) (f_at inc_120 (j := 11) rfl) ci_0 rfl ?_
      exact hj3 false ()
    · refine i_iconst (pc' := 17) (f_at inc_120 (j := 9) rfl) ci_1 rfl ?_
      refine i_goto (pc' := 21) (f_at inc_120 (j := 10) rfl) (by decide) ?_
      exact hj3 true ()
set_option maxRecDepth 4000 in
def g_121 (a1 : Int32) (σ : f_M) : Option (Int32) :=
  (g_119 a1 σ).bind fun t1 =>
  (f_rd σ 156 2420 (t1 + (2 : Int32))).bind fun v2 =>
  (g_119 a1 σ).bind fun t3 =>
  (f_rd σ 156 2420 (t3 + (3 : Int32))).bind fun v4 =>
  some (v2 + v4)
set_option maxRecDepth 4000 in
theorem G_121 {xs : Nat → Int32} {L N : Nat} (hN : 166 ≤ N) (a1 : Int32)  (σ : f_M) : f_Cal a_MT xs L N 121 [.ref 155, .int a1] σ ((g_121 a1 σ).bind fun t => some (e_pi σ t)) := by
  refine f_cal_of (ls := [.ref 155, .int a1]) MT_121 (Nat.le_of_ble_eq_true rfl) rfl ?_
  unfold g_121
  refine i_aload_n (pc' := 1) (f_at inc_121 (j := 0) rfl) rfl rfl ?_
  refine i_getR (pc' := 4) (f_at inc_121 (j := 1) rfl) sh_155 rfl (f_lt (o := 155) (m := 166) (Nat.le_of_ble_eq_true rfl) hN) rfl ?_
  refine i_iload_n (pc' := 5) (f_at inc_121 (j := 2) rfl) rfl rfl ?_
  refine c_pi (pc' := 8) (c' := 0) (n' := 0) (h_stat (ra := [.int a1]) (r := [.ref 156]) (as := [.int a1]) (f_at inc_121 (j := 3) rfl) (by decide) MT_119 rfl rfl rfl ⟨Nat.le_of_ble_eq_true rfl, Nat.le_of_ble_eq_true rfl, Nat.le_of_ble_eq_true rfl⟩) MT_119 (G_119 hN a1 σ) ⟨rfl, rfl, rfl⟩ fun t1 => ?_
  refine i_iconst (pc' := 9) (f_at inc_121 (j := 4) rfl) ci_2 rfl ?_
  refine i_iadd (pc' := 10) (f_at inc_121 (j := 5) rfl) rfl ?_
  refine i_iald (pc' := 11) (f_at inc_121 (j := 6) rfl) sh_156 (f_bg (Nat.le_of_ble_eq_true rfl)) (f_lt (o := 156) (m := 166) (Nat.le_of_ble_eq_true rfl) hN) rfl fun v2 => ?_
  refine i_aload_n (pc' := 12) (f_at inc_121 (j := 7) rfl) rfl rfl ?_
  refine i_getR (pc' := 15) (f_at inc_121 (j := 8) rfl) sh_155 rfl (f_lt (o := 155) (m := 166) (Nat.le_of_ble_eq_true rfl) hN) rfl ?_
  refine i_iload_n (pc' := 16) (f_at inc_121 (j := 9) rfl) rfl rfl ?_
  refine c_pi (pc' := 19) (c' := 0) (n' := 0) (h_stat (ra := [.int a1]) (r := [.ref 156, .int v2]) (as := [.int a1]) (f_at inc_121 (j := 10) rfl) (by decide) MT_119 rfl rfl rfl ⟨Nat.le_of_ble_eq_true rfl, Nat.le_of_ble_eq_true rfl, Nat.le_of_ble_eq_true rfl⟩) MT_119 (G_119 hN a1 σ) ⟨rfl, rfl, rfl⟩ fun t3 => ?_
  refine i_iconst (pc' := 20) (f_at inc_121 (j := 11) rfl) ci_3 rfl ?_
  refine i_iadd (pc' := 21) (f_at inc_121 (j := 12) rfl) rfl ?_
  refine i_iald (pc' := 22) (f_at inc_121 (j := 13) rfl) sh_156 (f_bg (Nat.le_of_ble_eq_true rfl)) (f_lt (o := 156) (m := 166) (Nat.le_of_ble_eq_true rfl) hN) rfl fun v4 => ?_
  refine i_iadd (pc' := 23) (f_at inc_121 (j := 14) rfl) rfl ?_
  exact i_iret (f_at inc_121 (j := 15) rfl) rfl n_int
set_option maxRecDepth 4000 in
def g_122 (a1 : Int32) (a2 : Int32) (σ : f_M) : Option (Bool) :=
  (g_120 a1 σ).bind fun t1 =>
  (
   if t1 = true then (
    some false
   ) else (
    (g_121 a1 σ).bind fun t3 =>
    if t3 ≤ a2 then (
     some false
    ) else (
     some true
    )
   )
  ).bind fun (t2 : Bool) =>
  some t2
set_option maxRecDepth 4000 in
theorem G_122 {xs : Nat → Int32} {L N : Nat} (hN : 166 ≤ N) (a1 : Int32) (a2 : Int32)  (σ : f_M) : f_Cal a_MT xs L N 122 [.ref 155, .int a1, .int a2] σ ((g_122 a1 a2 σ).bind fun t => some (e_pb σ t)) := by
  refine f_cal_of (ls := [.ref 155, .int a1, .int a2]) MT_122 (Nat.le_of_ble_eq_true rfl) rfl ?_
  unfold g_122
  refine i_aload_n (pc' := 1) (f_at inc_122 (j := 0) rfl) rfl rfl ?_
  refine i_iload_n (pc' := 2) (f_at inc_122 (j := 1) rfl) rfl rfl ?_
  refine c_pb (pc' := 5) (c' := 0) (n' := 0) (h_virt (ra := [.int a1, .ref 155]) (r := []) (as := [.int a1]) (f_at inc_122 (j := 2) rfl) (by decide) MT_120 rfl rfl rfl ⟨Nat.le_of_ble_eq_true rfl, Nat.le_of_ble_eq_true rfl, Nat.le_of_ble_eq_true rfl⟩ sh_155 (f_lt (o := 155) (m := 166) (Nat.le_of_ble_eq_true rfl) hN)) MT_120 (G_120 hN a1 σ) ⟨rfl, rfl, rfl⟩ fun t1 => ?_
  refine s_join (J := 22) (fun (t2 : Bool) (u2 : Unit) => [.ref 155, .int a1, .int a2]) (fun t2 => [.int (f_b t2)]) (fun t2 => σ) ?_ ?_
  · intro t2 u2
    exact i_iret (v := f_b t2) (f_at inc_122 (j := 12) rfl) rfl n_bool
  · intro k2 hj2
    refine i_if0 (pc' := 21) (nx := 8) cb_ne (f_at inc_122 (j := 3) rfl) ⟨by decide, rfl⟩ (fun b5 => ?_) (fun b5 => ?_)
    · refine i_iconst (pc' := 22) (f_at inc_122 (j := 11) rfl) ci_0 rfl ?_
      exact hj2 false ()
    · refine i_iload_n (pc' := 9) (f_at inc_122 (j := 4) rfl) rfl rfl ?_
      refine i_aload_n (pc' := 10) (f_at inc_122 (j := 5) rfl) rfl rfl ?_
      refine i_iload_n (pc' := 11) (f_at inc_122 (j := 6) rfl) rfl rfl ?_
      refine c_pi (pc' := 14) (c' := 0) (n' := 0) (h_virt (ra := [.int a1, .ref 155]) (r := [.int a2]) (as := [.int a1]) (f_at inc_122 (j := 7) rfl) (by decide) MT_121 rfl rfl rfl ⟨Nat.le_of_ble_eq_true rfl, Nat.le_of_ble_eq_true rfl, Nat.le_of_ble_eq_true rfl⟩ sh_155 (f_lt (o := 155) (m := 166) (Nat.le_of_ble_eq_true rfl) hN)) MT_121 (G_121 hN a1 σ) ⟨rfl, rfl, rfl⟩ fun t3 => ?_
      refine i_if2 (pc' := 21) (nx := 17) c2_ge (f_at inc_122 (j := 8) rfl) ⟨by decide, rfl⟩ (fun b4 => ?_) (fun b4 => ?_)
      · refine i_iconst (pc' := 22) (f_at inc_122 (j := 11) rfl) ci_0 rfl ?_
        exact hj2 false ()
      · refine i_iconst (pc' := 18) (f_at inc_122 (j := 9) rfl) ci_1 rfl ?_
        refine i_goto (pc' := 22) (f_at inc_122 (j := 10) rfl) (by decide) ?_
        exact hj2 true ()
set_option maxRecDepth 4000 in
def g_123 (a1 : Int32) (σ : f_M) : Option (Bool) :=
  (g_119 a1 σ).bind fun t1 =>
  (f_rd σ 156 2420 (t1 + (1 : Int32))).bind fun v2 =>
  (g_36 v2 σ).bind fun t3 =>
  (f_rd σ 156 2420 (t3 + (7 : Int32))).bind fun v4 =>
  (g_119 a1 σ).bind fun t5 =>
  (f_rd σ 156 2420 (t5 + (7 : Int32))).bind fun v6 =>
  (
   if v4 < v6 then (
    some false
   ) else (
    some true
   )
  ).bind fun (t7 : Bool) =>
  some t7
set_option maxRecDepth 4000 in
theorem G_123 {xs : Nat → Int32} {L N : Nat} (hN : 166 ≤ N) (a1 : Int32)  (σ : f_M) : f_Cal a_MT xs L N 123 [.ref 155, .int a1] σ ((g_123 a1 σ).bind fun t => some (e_pb σ t)) := by
  refine f_cal_of (ls := [.ref 155, .int a1]) MT_123 (Nat.le_of_ble_eq_true rfl) rfl ?_
  unfold g_123
  refine i_aload_n (pc' := 1) (f_at inc_123 (j := 0) rfl) rfl rfl ?_
  refine i_getR (pc' := 4) (f_at inc_123 (j := 1) rfl) sh_155 rfl (f_lt (o := 155) (m := 166) (Nat.le_of_ble_eq_true rfl) hN) rfl ?_
  refine i_aload_n (pc' := 5) (f_at inc_123 (j := 2) rfl) rfl rfl ?_
  refine i_getR (pc' := 8) (f_at inc_123 (j := 3) rfl) sh_155 rfl (f_lt (o := 155) (m := 166) (Nat.le_of_ble_eq_true rfl) hN) rfl ?_
  refine i_iload_n (pc' := 9) (f_at inc_123 (j := 4) rfl) rfl rfl ?_
  refine c_pi (pc' := 12) (c' := 0) (n' := 0) (h_stat (ra := [.int a1]) (r := [.ref 156, .ref 156]) (as := [.int a1]) (f_at inc_123 (j := 5) rfl) (by decide) MT_119 rfl rfl rfl ⟨Nat.le_of_ble_eq_true rfl, Nat.le_of_ble_eq_true rfl, Nat.le_of_ble_eq_true rfl⟩) MT_119 (G_119 hN a1 σ) ⟨rfl, rfl, rfl⟩ fun t1 => ?_
  refine i_iconst (pc' := 13) (f_at inc_123 (j := 6) rfl) ci_1 rfl ?_
  refine i_iadd (pc' := 14) (f_at inc_123 (j := 7) rfl) rfl ?_
  refine i_iald (pc' := 15) (f_at inc_123 (j := 8) rfl) sh_156 (f_bg (Nat.le_of_ble_eq_true rfl)) (f_lt (o := 156) (m := 166) (Nat.le_of_ble_eq_true rfl) hN) rfl fun v2 => ?_
  refine c_pi (pc' := 18) (c' := 0) (n' := 0) (h_stat (ra := [.int v2]) (r := [.ref 156]) (as := [.int v2]) (f_at inc_123 (j := 9) rfl) (by decide) MT_36 rfl rfl rfl ⟨Nat.le_of_ble_eq_true rfl, Nat.le_of_ble_eq_true rfl, Nat.le_of_ble_eq_true rfl⟩) MT_36 (G_36 hN v2 σ) ⟨rfl, rfl, rfl⟩ fun t3 => ?_
  refine i_bipush (pc' := 20) (f_at inc_123 (j := 10) rfl) cb_7 rfl ?_
  refine i_iadd (pc' := 21) (f_at inc_123 (j := 11) rfl) rfl ?_
  refine i_iald (pc' := 22) (f_at inc_123 (j := 12) rfl) sh_156 (f_bg (Nat.le_of_ble_eq_true rfl)) (f_lt (o := 156) (m := 166) (Nat.le_of_ble_eq_true rfl) hN) rfl fun v4 => ?_
  refine i_aload_n (pc' := 23) (f_at inc_123 (j := 13) rfl) rfl rfl ?_
  refine i_getR (pc' := 26) (f_at inc_123 (j := 14) rfl) sh_155 rfl (f_lt (o := 155) (m := 166) (Nat.le_of_ble_eq_true rfl) hN) rfl ?_
  refine i_iload_n (pc' := 27) (f_at inc_123 (j := 15) rfl) rfl rfl ?_
  refine c_pi (pc' := 30) (c' := 0) (n' := 0) (h_stat (ra := [.int a1]) (r := [.ref 156, .int v4]) (as := [.int a1]) (f_at inc_123 (j := 16) rfl) (by decide) MT_119 rfl rfl rfl ⟨Nat.le_of_ble_eq_true rfl, Nat.le_of_ble_eq_true rfl, Nat.le_of_ble_eq_true rfl⟩) MT_119 (G_119 hN a1 σ) ⟨rfl, rfl, rfl⟩ fun t5 => ?_
  refine i_bipush (pc' := 32) (f_at inc_123 (j := 17) rfl) cb_7 rfl ?_
  refine i_iadd (pc' := 33) (f_at inc_123 (j := 18) rfl) rfl ?_
  refine i_iald (pc' := 34) (f_at inc_123 (j := 19) rfl) sh_156 (f_bg (Nat.le_of_ble_eq_true rfl)) (f_lt (o := 156) (m := 166) (Nat.le_of_ble_eq_true rfl) hN) rfl fun v6 => ?_
  refine s_join (J := 42) (fun (t7 : Bool) (u7 : Unit) => [.ref 155, .int a1]) (fun t7 => [.int (f_b t7)]) (fun t7 => σ) ?_ ?_
  · intro t7 u7
    exact i_iret (v := f_b t7) (f_at inc_123 (j := 24) rfl) rfl n_bool
  · intro k7 hj7
    refine i_if2 (pc' := 41) (nx := 37) c2_lt (f_at inc_123 (j := 20) rfl) ⟨by decide, rfl⟩ (fun b8 => ?_) (fun b8 => ?_)
    · refine i_iconst (pc' := 42) (f_at inc_123 (j := 23) rfl) ci_0 rfl ?_
      exact hj7 false ()
    · refine i_iconst (pc' := 38) (f_at inc_123 (j := 21) rfl) ci_1 rfl ?_
      refine i_goto (pc' := 42) (f_at inc_123 (j := 22) rfl) (by decide) ?_
      exact hj7 true ()
set_option maxRecDepth 4000 in
def g_124 (a1 : Int32) (σ : f_M) : Option (f_M) :=
  (g_119 a1 σ).bind fun t1 =>
  (f_rd σ 156 2420 (t1 + (7 : Int32))).bind fun v2 =>
  (g_119 a1 σ).bind fun t3 =>
  (f_rd σ 156 2420 (t3 + (1 : Int32))).bind fun v4 =>
  (g_36 v4 σ).bind fun t5 =>
  (f_rd σ 156 2420 (t5 + (7 : Int32))).bind fun v6 =>
  (f_wr σ 156 2420 (t5 + (7 : Int32)) (v6 - v2)).bind fun m7 =>
  (f_rd m7 156 2420 (1 : Int32)).bind fun v8 =>
  (f_wr m7 156 2420 (1 : Int32) (v8 + v2)).bind fun m9 =>
  (f_rd m9 156 2420 (6 : Int32)).bind fun v10 =>
  (f_wr m9 156 2420 (6 : Int32) (v10 + v2)).bind fun m11 =>
  some m11
set_option maxRecDepth 4000 in
theorem G_124 {xs : Nat → Int32} {L N : Nat} (hN : 166 ≤ N) (a1 : Int32)  (σ : f_M) : f_Cal a_MT xs L N 124 [.ref 155, .int a1] σ ((g_124 a1 σ).bind fun t => some (e_wv t)) := by
  refine f_cal_of (ls := [.ref 155, .int a1, a_dead]) MT_124 (Nat.le_of_ble_eq_true rfl) rfl ?_
  unfold g_124
  refine i_aload_n (pc' := 1) (f_at inc_124 (j := 0) rfl) rfl rfl ?_
  refine i_getR (pc' := 4) (f_at inc_124 (j := 1) rfl) sh_155 rfl (f_lt (o := 155) (m := 166) (Nat.le_of_ble_eq_true rfl) hN) rfl ?_
  refine i_iload_n (pc' := 5) (f_at inc_124 (j := 2) rfl) rfl rfl ?_
  refine c_pi (pc' := 8) (c' := 0) (n' := 0) (h_stat (ra := [.int a1]) (r := [.ref 156]) (as := [.int a1]) (f_at inc_124 (j := 3) rfl) (by decide) MT_119 rfl rfl rfl ⟨Nat.le_of_ble_eq_true rfl, Nat.le_of_ble_eq_true rfl, Nat.le_of_ble_eq_true rfl⟩) MT_119 (G_119 hN a1 σ) ⟨rfl, rfl, rfl⟩ fun t1 => ?_
  refine i_bipush (pc' := 10) (f_at inc_124 (j := 4) rfl) cb_7 rfl ?_
  refine i_iadd (pc' := 11) (f_at inc_124 (j := 5) rfl) rfl ?_
  refine i_iald (pc' := 12) (f_at inc_124 (j := 6) rfl) sh_156 (f_bg (Nat.le_of_ble_eq_true rfl)) (f_lt (o := 156) (m := 166) (Nat.le_of_ble_eq_true rfl) hN) rfl fun v2 => ?_
  refine i_istore_n (pc' := 13) (ls' := [.ref 155, .int a1, .int v2]) (f_at inc_124 (j := 7) rfl) (Nat.le_of_ble_eq_true rfl) rfl rfl ?_
  refine i_aload_n (pc' := 14) (f_at inc_124 (j := 8) rfl) rfl rfl ?_
  refine i_getR (pc' := 17) (f_at inc_124 (j := 9) rfl) sh_155 rfl (f_lt (o := 155) (m := 166) (Nat.le_of_ble_eq_true rfl) hN) rfl ?_
  refine i_aload_n (pc' := 18) (f_at inc_124 (j := 10) rfl) rfl rfl ?_
  refine i_getR (pc' := 21) (f_at inc_124 (j := 11) rfl) sh_155 rfl (f_lt (o := 155) (m := 166) (Nat.le_of_ble_eq_true rfl) hN) rfl ?_
  refine i_iload_n (pc' := 22) (f_at inc_124 (j := 12) rfl) rfl rfl ?_
  refine c_pi (pc' := 25) (c' := 0) (n' := 0) (h_stat (ra := [.int a1]) (r := [.ref 156, .ref 156]) (as := [.int a1]) (f_at inc_124 (j := 13) rfl) (by decide) MT_119 rfl rfl rfl ⟨Nat.le_of_ble_eq_true rfl, Nat.le_of_ble_eq_true rfl, Nat.le_of_ble_eq_true rfl⟩) MT_119 (G_119 hN a1 σ) ⟨rfl, rfl, rfl⟩ fun t3 => ?_
  refine i_iconst (pc' := 26) (f_at inc_124 (j := 14) rfl) ci_1 rfl ?_
  refine i_iadd (pc' := 27) (f_at inc_124 (j := 15) rfl) rfl ?_
  refine i_iald (pc' := 28) (f_at inc_124 (j := 16) rfl) sh_156 (f_bg (Nat.le_of_ble_eq_true rfl)) (f_lt (o := 156) (m := 166) (Nat.le_of_ble_eq_true rfl) hN) rfl fun v4 => ?_
  refine c_pi (pc' := 31) (c' := 0) (n' := 0) (h_stat (ra := [.int v4]) (r := [.ref 156]) (as := [.int v4]) (f_at inc_124 (j := 17) rfl) (by decide) MT_36 rfl rfl rfl ⟨Nat.le_of_ble_eq_true rfl, Nat.le_of_ble_eq_true rfl, Nat.le_of_ble_eq_true rfl⟩) MT_36 (G_36 hN v4 σ) ⟨rfl, rfl, rfl⟩ fun t5 => ?_
  refine i_bipush (pc' := 33) (f_at inc_124 (j := 18) rfl) cb_7 rfl ?_
  refine i_iadd (pc' := 34) (f_at inc_124 (j := 19) rfl) rfl ?_
  refine i_dup2 (pc' := 35) (f_at inc_124 (j := 20) rfl) ⟨rfl, rfl⟩ rfl ?_
  refine i_iald (pc' := 36) (f_at inc_124 (j := 21) rfl) sh_156 (f_bg (Nat.le_of_ble_eq_true rfl)) (f_lt (o := 156) (m := 166) (Nat.le_of_ble_eq_true rfl) hN) rfl fun v6 => ?_
  refine i_iload_n (pc' := 37) (f_at inc_124 (j := 22) rfl) rfl rfl ?_
  refine i_isub (pc' := 38) (f_at inc_124 (j := 23) rfl) rfl ?_
  refine i_iast (pc' := 39) (f_at inc_124 (j := 24) rfl) sh_156 (f_lt (o := 156) (m := 166) (Nat.le_of_ble_eq_true rfl) hN) rfl fun m7 => ?_
  refine i_aload_n (pc' := 40) (f_at inc_124 (j := 25) rfl) rfl rfl ?_
  refine i_getR (pc' := 43) (f_at inc_124 (j := 26) rfl) sh_155 rfl (f_lt (o := 155) (m := 166) (Nat.le_of_ble_eq_true rfl) hN) rfl ?_
  refine i_iconst (pc' := 44) (f_at inc_124 (j := 27) rfl) ci_1 rfl ?_
  refine i_dup2 (pc' := 45) (f_at inc_124 (j := 28) rfl) ⟨rfl, rfl⟩ rfl ?_
  refine i_iald (pc' := 46) (f_at inc_124 (j := 29) rfl) sh_156 (f_bg (Nat.le_of_ble_eq_true rfl)) (f_lt (o := 156) (m := 166) (Nat.le_of_ble_eq_true rfl) hN) rfl fun v8 => ?_
  refine i_iload_n (pc' := 47) (f_at inc_124 (j := 30) rfl) rfl rfl ?_
  refine i_iadd (pc' := 48) (f_at inc_124 (j := 31) rfl) rfl ?_
  refine i_iast (pc' := 49) (f_at inc_124 (j := 32) rfl) sh_156 (f_lt (o := 156) (m := 166) (Nat.le_of_ble_eq_true rfl) hN) rfl fun m9 => ?_
  refine i_aload_n (pc' := 50) (f_at inc_124 (j := 33) rfl) rfl rfl ?_
  refine i_getR (pc' := 53) (f_at inc_124 (j := 34) rfl) sh_155 rfl (f_lt (o := 155) (m := 166) (Nat.le_of_ble_eq_true rfl) hN) rfl ?_
  refine i_bipush (pc' := 55) (f_at inc_124 (j := 35) rfl) cb_6 rfl ?_
  refine i_dup2 (pc' := 56) (f_at inc_124 (j := 36) rfl) ⟨rfl, rfl⟩ rfl ?_
  refine i_iald (pc' := 57) (f_at inc_124 (j := 37) rfl) sh_156 (f_bg (Nat.le_of_ble_eq_true rfl)) (f_lt (o := 156) (m := 166) (Nat.le_of_ble_eq_true rfl) hN) rfl fun v10 => ?_
  refine i_iload_n (pc' := 58) (f_at inc_124 (j := 38) rfl) rfl rfl ?_
  refine i_iadd (pc' := 59) (f_at inc_124 (j := 39) rfl) rfl ?_
  refine i_iast (pc' := 60) (f_at inc_124 (j := 40) rfl) sh_156 (f_lt (o := 156) (m := 166) (Nat.le_of_ble_eq_true rfl) hN) rfl fun m11 => ?_
  exact i_vret (f_at inc_124 (j := 41) rfl) rfl
set_option maxRecDepth 4000 in
def g_125  (σ : f_M) : Option (f_M) :=
  (f_lp (fun (s1 : Int32 × f_M) =>
   (f_rd s1.2 156 2420 (4 : Int32)).bind fun v2 =>
   if v2 ≤ s1.1 then (
    some (.inr s1.2)
   ) else (
    (f_rd s1.2 156 2420 (0 : Int32)).bind fun v3 =>
    (g_122 s1.1 v3 s1.2).bind fun t4 =>
    (
     if t4 = true then (
      (g_123 s1.1 s1.2).bind fun t6 =>
      if t6 = false then (
       (g_119 s1.1 s1.2).bind fun t7 =>
       (f_wr s1.2 156 2420 (t7 + (8 : Int32)) (1 : Int32)).bind fun m8 =>
       some m8
      ) else (
       (g_124 s1.1 s1.2).bind fun t9 =>
       some t9
      )
     ) else (
      some s1.2
     )
    ).bind fun (t5 : f_M) =>
    some (.inl ((s1.1 + (1 : Int32)), t5))
   )
  ) f_F ((0 : Int32), σ)).bind fun (x1 : f_M) =>
  some x1
set_option maxRecDepth 4000 in
theorem G_125 {xs : Nat → Int32} {L N : Nat} (hN : 166 ≤ N)   (σ : f_M) : f_Cal a_MT xs L N 125 [.ref 155] σ ((g_125  σ).bind fun t => some (e_wv t)) := by
  refine f_cal_of (ls := [.ref 155, a_dead]) MT_125 (Nat.le_of_ble_eq_true rfl) rfl ?_
  unfold g_125
  refine i_iconst (pc' := 1) (f_at inc_125 (j := 0) rfl) ci_0 rfl ?_
  refine i_istore_n (pc' := 2) (ls' := [.ref 155, .int (0 : Int32)]) (f_at inc_125 (j := 1) rfl) (Nat.le_of_ble_eq_true rfl) rfl rfl ?_
  refine s_lX (X := 64) ((0 : Int32), σ) () (fun (s1 : Int32 × f_M) (u1 : Unit) => [.ref 155, .int s1.1]) (fun (s1 : Int32 × f_M) => s1.2) (fun (x1 : f_M) (w1 : Value) => [.ref 155, w1]) (fun (x1 : f_M) => x1) ?_ ?_
  · intro x1 w1
    exact i_vret (f_at inc_125 (j := 35) rfl) rfl
  · intro s1 u1 k1 hb1 hx1
    refine i_iload_n (pc' := 3) (f_at inc_125 (j := 2) rfl) rfl rfl ?_
    refine i_aload_n (pc' := 4) (f_at inc_125 (j := 3) rfl) rfl rfl ?_
    refine i_getR (pc' := 7) (f_at inc_125 (j := 4) rfl) sh_155 rfl (f_lt (o := 155) (m := 166) (Nat.le_of_ble_eq_true rfl) hN) rfl ?_
    refine i_iconst (pc' := 8) (f_at inc_125 (j := 5) rfl) ci_4 rfl ?_
    refine i_iald (pc' := 9) (f_at inc_125 (j := 6) rfl) sh_156 (f_bg (Nat.le_of_ble_eq_true rfl)) (f_lt (o := 156) (m := 166) (Nat.le_of_ble_eq_true rfl) hN) rfl fun v2 => ?_
    refine i_if2 (pc' := 64) (nx := 12) c2_ge (f_at inc_125 (j := 7) rfl) ⟨by decide, rfl⟩ (fun b12 => ?_) (fun b12 => ?_)
    · exact hx1 s1.2 (.int s1.1)
    · refine i_aload_n (pc' := 13) (f_at inc_125 (j := 8) rfl) rfl rfl ?_
      refine i_iload_n (pc' := 14) (f_at inc_125 (j := 9) rfl) rfl rfl ?_
      refine i_aload_n (pc' := 15) (f_at inc_125 (j := 10) rfl) rfl rfl ?_
      refine i_getR (pc' := 18) (f_at inc_125 (j := 11) rfl) sh_155 rfl (f_lt (o := 155) (m := 166) (Nat.le_of_ble_eq_true rfl) hN) rfl ?_
      refine i_iconst (pc' := 19) (f_at inc_125 (j := 12) rfl) ci_0 rfl ?_
      refine i_iald (pc' := 20) (f_at inc_125 (j := 13) rfl) sh_156 (f_bg (Nat.le_of_ble_eq_true rfl)) (f_lt (o := 156) (m := 166) (Nat.le_of_ble_eq_true rfl) hN) rfl fun v3 => ?_
      refine c_pb (pc' := 23) (c' := 0) (n' := 0) (h_virt (ra := [.int v3, .int s1.1, .ref 155]) (r := []) (as := [.int s1.1, .int v3]) (f_at inc_125 (j := 14) rfl) (by decide) MT_122 rfl rfl rfl ⟨Nat.le_of_ble_eq_true rfl, Nat.le_of_ble_eq_true rfl, Nat.le_of_ble_eq_true rfl⟩ sh_155 (f_lt (o := 155) (m := 166) (Nat.le_of_ble_eq_true rfl) hN)) MT_122 (G_122 hN s1.1 v3 s1.2) ⟨rfl, rfl, rfl⟩ fun t4 => ?_
      refine s_join (J := 58) (fun (t5 : f_M) (u5 : Unit) => [.ref 155, .int s1.1]) (fun t5 => []) (fun t5 => t5) ?_ ?_
      · intro t5 u5
        refine i_iinc (pc' := 61) (ls' := [.ref 155, .int (s1.1 + (1 : Int32))]) (f_at inc_125 (j := 33) rfl) rfl ci_1 rfl rfl ?_
        refine i_goto (pc' := 2) (f_at inc_125 (j := 34) rfl) (by decide) ?_
        exact hb1 ((s1.1 + (1 : Int32)), t5) ()
      · intro k5 hj5
        refine i_if0 (pc' := 29) (nx := 26) cb_ne (f_at inc_125 (j := 15) rfl) ⟨by decide, rfl⟩ (fun b11 => ?_) (fun b11 => ?_)
        · refine i_aload_n (pc' := 30) (f_at inc_125 (j := 17) rfl) rfl rfl ?_
          refine i_iload_n (pc' := 31) (f_at inc_125 (j := 18) rfl) rfl rfl ?_
          refine c_pb (pc' := 34) (c' := 0) (n' := 0) (h_virt (ra := [.int s1.1, .ref 155]) (r := []) (as := [.int s1.1]) (f_at inc_125 (j := 19) rfl) (by decide) MT_123 rfl rfl rfl ⟨Nat.le_of_ble_eq_true rfl, Nat.le_of_ble_eq_true rfl, Nat.le_of_ble_eq_true rfl⟩ sh_155 (f_lt (o := 155) (m := 166) (Nat.le_of_ble_eq_true rfl) hN)) MT_123 (G_123 hN s1.1 s1.2) ⟨rfl, rfl, rfl⟩ fun t6 => ?_
          refine i_if0 (pc' := 45) (nx := 37) cb_eq (f_at inc_125 (j := 20) rfl) ⟨by decide, rfl⟩ (fun b10 => ?_) (fun b10 => ?_)
          · refine i_aload_n (pc' := 46) (f_at inc_125 (j := 25) rfl) rfl rfl ?_
            refine i_getR (pc' := 49) (f_at inc_125 (j := 26) rfl) sh_155 rfl (f_lt (o := 155) (m := 166) (Nat.le_of_ble_eq_true rfl) hN) rfl ?_
            refine i_iload_n (pc' := 50) (f_at inc_125 (j := 27) rfl) rfl rfl ?_
            refine c_pi (pc' := 53) (c' := 0) (n' := 0) (h_stat (ra := [.int s1.1]) (r := [.ref 156]) (as := [.int s1.1]) (f_at inc_125 (j := 28) rfl) (by decide) MT_119 rfl rfl rfl ⟨Nat.le_of_ble_eq_true rfl, Nat.le_of_ble_eq_true rfl, Nat.le_of_ble_eq_true rfl⟩) MT_119 (G_119 hN s1.1 s1.2) ⟨rfl, rfl, rfl⟩ fun t7 => ?_
            refine i_bipush (pc' := 55) (f_at inc_125 (j := 29) rfl) cb_8 rfl ?_
            refine i_iadd (pc' := 56) (f_at inc_125 (j := 30) rfl) rfl ?_
            refine i_iconst (pc' := 57) (f_at inc_125 (j := 31) rfl) ci_1 rfl ?_
            refine i_iast (pc' := 58) (f_at inc_125 (j := 32) rfl) sh_156 (f_lt (o := 156) (m := 166) (Nat.le_of_ble_eq_true rfl) hN) rfl fun m8 => ?_
            exact hj5 m8 ()
          · refine i_aload_n (pc' := 38) (f_at inc_125 (j := 21) rfl) rfl rfl ?_
            refine i_iload_n (pc' := 39) (f_at inc_125 (j := 22) rfl) rfl rfl ?_
            refine c_wv (pc' := 42) (c' := 0) (n' := 0) (h_virt (ra := [.int s1.1, .ref 155]) (r := []) (as := [.int s1.1]) (f_at inc_125 (j := 23) rfl) (by decide) MT_124 rfl rfl rfl ⟨Nat.le_of_ble_eq_true rfl, Nat.le_of_ble_eq_true rfl, Nat.le_of_ble_eq_true rfl⟩ sh_155 (f_lt (o := 155) (m := 166) (Nat.le_of_ble_eq_true rfl) hN)) MT_124 (G_124 hN s1.1 s1.2) ⟨rfl, rfl, rfl⟩ fun t9 => ?_
            refine i_goto (pc' := 58) (f_at inc_125 (j := 24) rfl) (by decide) ?_
            exact hj5 t9 ()
        · refine i_goto (pc' := 58) (f_at inc_125 (j := 16) rfl) (by decide) ?_
          exact hj5 s1.2 ()
set_option maxRecDepth 4000 in
def g_126 (a0 : Int32) (σ : f_M) : Option (Int32) :=
  some ((300 : Int32) + ((6 : Int32) * a0))
set_option maxRecDepth 4000 in
theorem G_126 {xs : Nat → Int32} {L N : Nat} (hN : 166 ≤ N) (a0 : Int32)  (σ : f_M) : f_Cal a_MT xs L N 126 [.int a0] σ ((g_126 a0 σ).bind fun t => some (e_pi σ t)) := by
  refine f_cal_of (ls := [.int a0]) MT_126 (Nat.le_of_ble_eq_true rfl) rfl ?_
  unfold g_126
  refine i_sipush (pc' := 3) (f_at inc_126 (j := 0) rfl) cs_300 rfl ?_
  refine i_bipush (pc' := 5) (f_at inc_126 (j := 1) rfl) cb_6 rfl ?_
  refine i_iload_n (pc' := 6) (f_at inc_126 (j := 2) rfl) rfl rfl ?_
  refine i_imul (pc' := 7) (f_at inc_126 (j := 3) rfl) rfl ?_
  refine i_iadd (pc' := 8) (f_at inc_126 (j := 4) rfl) rfl ?_
  exact i_iret (f_at inc_126 (j := 5) rfl) rfl n_int
set_option maxRecDepth 4000 in
def g_127 (a1 : Int32) (a2 : Int32) (σ : f_M) : Option (Bool) :=
  (g_126 a1 σ).bind fun t1 =>
  (f_rd σ 156 2420 (t1 + (3 : Int32))).bind fun v2 =>
  (
   if ¬ v2 = 0 then (
    some false
   ) else (
    (g_126 a1 σ).bind fun t4 =>
    (f_rd σ 156 2420 (t4 + (1 : Int32))).bind fun v5 =>
    if ¬ v5 = a2 then (
     some false
    ) else (
     some true
    )
   )
  ).bind fun (t3 : Bool) =>
  some t3
set_option maxRecDepth 4000 in
theorem G_127 {xs : Nat → Int32} {L N : Nat} (hN : 166 ≤ N) (a1 : Int32) (a2 : Int32)  (σ : f_M) : f_Cal a_MT xs L N 127 [.ref 155, .int a1, .int a2] σ ((g_127 a1 a2 σ).bind fun t => some (e_pb σ t)) := by
  refine f_cal_of (ls := [.ref 155, .int a1, .int a2]) MT_127 (Nat.le_of_ble_eq_true rfl) rfl ?_
  unfold g_127
  refine i_aload_n (pc' := 1) (f_at inc_127 (j := 0) rfl) rfl rfl ?_
  refine i_getR (pc' := 4) (f_at inc_127 (j := 1) rfl) sh_155 rfl (f_lt (o := 155) (m := 166) (Nat.le_of_ble_eq_true rfl) hN) rfl ?_
  refine i_iload_n (pc' := 5) (f_at inc_127 (j := 2) rfl) rfl rfl ?_
  refine c_pi (pc' := 8) (c' := 0) (n' := 0) (h_stat (ra := [.int a1]) (r := [.ref 156]) (as := [.int a1]) (f_at inc_127 (j := 3) rfl) (by decide) MT_126 rfl rfl rfl ⟨Nat.le_of_ble_eq_true rfl, Nat.le_of_ble_eq_true rfl, Nat.le_of_ble_eq_true rfl⟩) MT_126 (G_126 hN a1 σ) ⟨rfl, rfl, rfl⟩ fun t1 => ?_
  refine i_iconst (pc' := 9) (f_at inc_127 (j := 4) rfl) ci_3 rfl ?_
  refine i_iadd (pc' := 10) (f_at inc_127 (j := 5) rfl) rfl ?_
  refine i_iald (pc' := 11) (f_at inc_127 (j := 6) rfl) sh_156 (f_bg (Nat.le_of_ble_eq_true rfl)) (f_lt (o := 156) (m := 166) (Nat.le_of_ble_eq_true rfl) hN) rfl fun v2 => ?_
  refine s_join (J := 34) (fun (t3 : Bool) (u3 : Unit) => [.ref 155, .int a1, .int a2]) (fun t3 => [.int (f_b t3)]) (fun t3 => σ) ?_ ?_
  · intro t3 u3
    exact i_iret (v := f_b t3) (f_at inc_127 (j := 20) rfl) rfl n_bool
  · intro k3 hj3
    refine i_if0 (pc' := 33) (nx := 14) c0_ne (f_at inc_127 (j := 7) rfl) ⟨by decide, rfl⟩ (fun b7 => ?_) (fun b7 => ?_)
    · refine i_iconst (pc' := 34) (f_at inc_127 (j := 19) rfl) ci_0 rfl ?_
      exact hj3 false ()
    · refine i_aload_n (pc' := 15) (f_at inc_127 (j := 8) rfl) rfl rfl ?_
      refine i_getR (pc' := 18) (f_at inc_127 (j := 9) rfl) sh_155 rfl (f_lt (o := 155) (m := 166) (Nat.le_of_ble_eq_true rfl) hN) rfl ?_
      refine i_iload_n (pc' := 19) (f_at inc_127 (j := 10) rfl) rfl rfl ?_
      refine c_pi (pc' := 22) (c' := 0) (n' := 0) (h_stat (ra := [.int a1]) (r := [.ref 156]) (as := [.int a1]) (f_at inc_127 (j := 11) rfl) (by decide) MT_126 rfl rfl rfl ⟨Nat.le_of_ble_eq_true rfl, Nat.le_of_ble_eq_true rfl, Nat.le_of_ble_eq_true rfl⟩) MT_126 (G_126 hN a1 σ) ⟨rfl, rfl, rfl⟩ fun t4 => ?_
      refine i_iconst (pc' := 23) (f_at inc_127 (j := 12) rfl) ci_1 rfl ?_
      refine i_iadd (pc' := 24) (f_at inc_127 (j := 13) rfl) rfl ?_
      refine i_iald (pc' := 25) (f_at inc_127 (j := 14) rfl) sh_156 (f_bg (Nat.le_of_ble_eq_true rfl)) (f_lt (o := 156) (m := 166) (Nat.le_of_ble_eq_true rfl) hN) rfl fun v5 => ?_
      refine i_iload_n (pc' := 26) (f_at inc_127 (j := 15) rfl) rfl rfl ?_
      refine i_if2 (pc' := 33) (nx := 29) c2_ne (f_at inc_127 (j := 16) rfl) ⟨by decide, rfl⟩ (fun b6 => ?_) (fun b6 => ?_)
      · refine i_iconst (pc' := 34) (f_at inc_127 (j := 19) rfl) ci_0 rfl ?_
        exact hj3 false ()
      · refine i_iconst (pc' := 30) (f_at inc_127 (j := 17) rfl) ci_1 rfl ?_
        refine i_goto (pc' := 34) (f_at inc_127 (j := 18) rfl) (by decide) ?_
        exact hj3 true ()
set_option maxRecDepth 4000 in
def g_128 (a1 : Int32) (σ : f_M) : Option (Int32) :=
  (f_lp (fun (s1 : Int32) =>
   (f_rd σ 156 2420 (5 : Int32)).bind fun v2 =>
   if v2 ≤ s1 then (
    some (.inr (-1 : Int32))
   ) else (
    (g_127 s1 a1 σ).bind fun t3 =>
    if t3 = false then (
     some (.inl (s1 + (1 : Int32)))
    ) else (
     some (.inr s1)
    )
   )
  ) f_F (0 : Int32)).bind fun (r1 : Int32) => some r1
set_option maxRecDepth 4000 in
theorem G_128 {xs : Nat → Int32} {L N : Nat} (hN : 166 ≤ N) (a1 : Int32)  (σ : f_M) : f_Cal a_MT xs L N 128 [.ref 155, .int a1] σ ((g_128 a1 σ).bind fun t => some (e_pi σ t)) := by
  refine f_cal_of (ls := [.ref 155, .int a1, a_dead]) MT_128 (Nat.le_of_ble_eq_true rfl) rfl ?_
  unfold g_128
  refine i_iconst (pc' := 1) (f_at inc_128 (j := 0) rfl) ci_0 rfl ?_
  refine i_istore_n (pc' := 2) (ls' := [.ref 155, .int a1, .int (0 : Int32)]) (f_at inc_128 (j := 1) rfl) (Nat.le_of_ble_eq_true rfl) rfl rfl ?_
  refine s_lR (0 : Int32) () (fun (s1 : Int32) (u1 : Unit) => [.ref 155, .int a1, .int s1]) (fun (s1 : Int32) => σ) ?_
  intro s1 u1 k1 hb1 hr1
  refine i_iload_n (pc' := 3) (f_at inc_128 (j := 2) rfl) rfl rfl ?_
  refine i_aload_n (pc' := 4) (f_at inc_128 (j := 3) rfl) rfl rfl ?_
  refine i_getR (pc' := 7) (f_at inc_128 (j := 4) rfl) sh_155 rfl (f_lt (o := 155) (m := 166) (Nat.le_of_ble_eq_true rfl) hN) rfl ?_
  refine i_iconst (pc' := 8) (f_at inc_128 (j := 5) rfl) ci_5 rfl ?_
  refine i_iald (pc' := 9) (f_at inc_128 (j := 6) rfl) sh_156 (f_bg (Nat.le_of_ble_eq_true rfl)) (f_lt (o := 156) (m := 166) (Nat.le_of_ble_eq_true rfl) hN) rfl fun v2 => ?_
  refine i_if2 (pc' := 29) (nx := 12) c2_ge (f_at inc_128 (j := 7) rfl) ⟨by decide, rfl⟩ (fun b5 => ?_) (fun b5 => ?_)
  · refine i_iconst (pc' := 30) (f_at inc_128 (j := 17) rfl) ci_m1 rfl ?_
    refine s_rt (hr1 _) ?_
    exact i_iret (f_at inc_128 (j := 18) rfl) rfl n_int
  · refine i_aload_n (pc' := 13) (f_at inc_128 (j := 8) rfl) rfl rfl ?_
    refine i_iload_n (pc' := 14) (f_at inc_128 (j := 9) rfl) rfl rfl ?_
    refine i_iload_n (pc' := 15) (f_at inc_128 (j := 10) rfl) rfl rfl ?_
    refine c_pb (pc' := 18) (c' := 0) (n' := 0) (h_virt (ra := [.int a1, .int s1, .ref 155]) (r := []) (as := [.int s1, .int a1]) (f_at inc_128 (j := 11) rfl) (by decide) MT_127 rfl rfl rfl ⟨Nat.le_of_ble_eq_true rfl, Nat.le_of_ble_eq_true rfl, Nat.le_of_ble_eq_true rfl⟩ sh_155 (f_lt (o := 155) (m := 166) (Nat.le_of_ble_eq_true rfl) hN)) MT_127 (G_127 hN s1 a1 σ) ⟨rfl, rfl, rfl⟩ fun t3 => ?_
    refine i_if0 (pc' := 23) (nx := 21) cb_eq (f_at inc_128 (j := 12) rfl) ⟨by decide, rfl⟩ (fun b4 => ?_) (fun b4 => ?_)
    · refine i_iinc (pc' := 26) (ls' := [.ref 155, .int a1, .int (s1 + (1 : Int32))]) (f_at inc_128 (j := 15) rfl) rfl ci_1 rfl rfl ?_
      refine i_goto (pc' := 2) (f_at inc_128 (j := 16) rfl) (by decide) ?_
      exact hb1 (s1 + (1 : Int32)) ()
    · refine i_iload_n (pc' := 22) (f_at inc_128 (j := 13) rfl) rfl rfl ?_
      refine s_rt (hr1 _) ?_
      exact i_iret (f_at inc_128 (j := 14) rfl) rfl n_int
set_option maxRecDepth 4000 in
def g_129 (a1 : Int32) (σ : f_M) : Option (Int32) :=
  (f_rd σ 156 2420 ((95 : Int32) + a1)).bind fun v1 =>
  some ((2 : Int32) + v1)
set_option maxRecDepth 4000 in
theorem G_129 {xs : Nat → Int32} {L N : Nat} (hN : 166 ≤ N) (a1 : Int32)  (σ : f_M) : f_Cal a_MT xs L N 129 [.ref 155, .int a1] σ ((g_129 a1 σ).bind fun t => some (e_pi σ t)) := by
  refine f_cal_of (ls := [.ref 155, .int a1]) MT_129 (Nat.le_of_ble_eq_true rfl) rfl ?_
  unfold g_129
  refine i_iconst (pc' := 1) (f_at inc_129 (j := 0) rfl) ci_2 rfl ?_
  refine i_aload_n (pc' := 2) (f_at inc_129 (j := 1) rfl) rfl rfl ?_
  refine i_getR (pc' := 5) (f_at inc_129 (j := 2) rfl) sh_155 rfl (f_lt (o := 155) (m := 166) (Nat.le_of_ble_eq_true rfl) hN) rfl ?_
  refine i_bipush (pc' := 7) (f_at inc_129 (j := 3) rfl) cb_95 rfl ?_
  refine i_iload_n (pc' := 8) (f_at inc_129 (j := 4) rfl) rfl rfl ?_
  refine i_iadd (pc' := 9) (f_at inc_129 (j := 5) rfl) rfl ?_
  refine i_iald (pc' := 10) (f_at inc_129 (j := 6) rfl) sh_156 (f_bg (Nat.le_of_ble_eq_true rfl)) (f_lt (o := 156) (m := 166) (Nat.le_of_ble_eq_true rfl) hN) rfl fun v1 => ?_
  refine i_iadd (pc' := 11) (f_at inc_129 (j := 7) rfl) rfl ?_
  exact i_iret (f_at inc_129 (j := 8) rfl) rfl n_int
set_option maxRecDepth 4000 in
def g_130 (a1 : Int32) (σ : f_M) : Option (Int32) :=
  (f_rd σ 156 2420 (0 : Int32)).bind fun v1 =>
  (g_121 a1 σ).bind fun t2 =>
  some (f_min v1 t2)
set_option maxRecDepth 4000 in
theorem G_130 {xs : Nat → Int32} {L N : Nat} (hN : 166 ≤ N) (a1 : Int32)  (σ : f_M) : f_Cal a_MT xs L N 130 [.ref 155, .int a1] σ ((g_130 a1 σ).bind fun t => some (e_pi σ t)) := by
  refine f_cal_of (ls := [.ref 155, .int a1]) MT_130 (Nat.le_of_ble_eq_true rfl) rfl ?_
  unfold g_130
  refine i_aload_n (pc' := 1) (f_at inc_130 (j := 0) rfl) rfl rfl ?_
  refine i_getR (pc' := 4) (f_at inc_130 (j := 1) rfl) sh_155 rfl (f_lt (o := 155) (m := 166) (Nat.le_of_ble_eq_true rfl) hN) rfl ?_
  refine i_iconst (pc' := 5) (f_at inc_130 (j := 2) rfl) ci_0 rfl ?_
  refine i_iald (pc' := 6) (f_at inc_130 (j := 3) rfl) sh_156 (f_bg (Nat.le_of_ble_eq_true rfl)) (f_lt (o := 156) (m := 166) (Nat.le_of_ble_eq_true rfl) hN) rfl fun v1 => ?_
  refine i_aload_n (pc' := 7) (f_at inc_130 (j := 4) rfl) rfl rfl ?_
  refine i_iload_n (pc' := 8) (f_at inc_130 (j := 5) rfl) rfl rfl ?_
  refine c_pi (pc' := 11) (c' := 0) (n' := 0) (h_virt (ra := [.int a1, .ref 155]) (r := [.int v1]) (as := [.int a1]) (f_at inc_130 (j := 6) rfl) (by decide) MT_121 rfl rfl rfl ⟨Nat.le_of_ble_eq_true rfl, Nat.le_of_ble_eq_true rfl, Nat.le_of_ble_eq_true rfl⟩ sh_155 (f_lt (o := 155) (m := 166) (Nat.le_of_ble_eq_true rfl) hN)) MT_121 (G_121 hN a1 σ) ⟨rfl, rfl, rfl⟩ fun t2 => ?_
  refine i_min (pc' := 14) (f_at inc_130 (j := 7) rfl) (Nat.le_of_ble_eq_true rfl) rfl ?_
  exact i_iret (f_at inc_130 (j := 8) rfl) rfl n_int
set_option maxRecDepth 4000 in
def g_131 (a0 : Bool) (σ : f_M) : Option (Int32) :=
  (
   if a0 = false then (
    some false
   ) else (
    some true
   )
  ).bind fun (t1 : Bool) =>
  some (f_b t1)
set_option maxRecDepth 4000 in
theorem G_131 {xs : Nat → Int32} {L N : Nat} (hN : 166 ≤ N) (a0 : Bool)  (σ : f_M) : f_Cal a_MT xs L N 131 [.int (f_b a0)] σ ((g_131 a0 σ).bind fun t => some (e_pi σ t)) := by
  refine f_cal_of (ls := [.int (f_b a0)]) MT_131 (Nat.le_of_ble_eq_true rfl) rfl ?_
  unfold g_131
  refine i_iload_n (pc' := 1) (f_at inc_131 (j := 0) rfl) rfl rfl ?_
  refine s_join (J := 9) (fun (t1 : Bool) (u1 : Unit) => [.int (f_b a0)]) (fun t1 => [.int (f_b t1)]) (fun t1 => σ) ?_ ?_
  · intro t1 u1
    exact i_iret (f_at inc_131 (j := 5) rfl) rfl n_int
  · intro k1 hj1
    refine i_if0 (pc' := 8) (nx := 4) cb_eq (f_at inc_131 (j := 1) rfl) ⟨by decide, rfl⟩ (fun b2 => ?_) (fun b2 => ?_)
    · refine i_iconst (pc' := 9) (f_at inc_131 (j := 4) rfl) ci_0 rfl ?_
      exact hj1 false ()
    · refine i_iconst (pc' := 5) (f_at inc_131 (j := 2) rfl) ci_1 rfl ?_
      refine i_goto (pc' := 9) (f_at inc_131 (j := 3) rfl) (by decide) ?_
      exact hj1 true ()
set_option maxRecDepth 4000 in
def g_132 (a1 : Int32) (σ : f_M) : Option (Int32) :=
  (g_119 a1 σ).bind fun t1 =>
  (f_rd σ 156 2420 (t1 + (2 : Int32))).bind fun v2 =>
  (f_lp (fun (s3 : Int32 × Int32) =>
   (g_130 a1 σ).bind fun t4 =>
   if t4 ≤ s3.2 then (
    some (.inr s3.1)
   ) else (
    (f_rd σ 156 2420 ((420 : Int32) + s3.2)).bind fun v5 =>
    (f_rd σ 156 2420 (t1 + (5 : Int32))).bind fun v6 =>
    (f_rd σ 156 2420 (t1 + (6 : Int32))).bind fun v7 =>
    (g_46 (v5).toInt64 (v6).toInt64 (v7).toInt64 σ).bind fun t8 =>
    (
     if t8 = true then (
      some false
     ) else (
      some true
     )
    ).bind fun (t9 : Bool) =>
    (g_131 t9 σ).bind fun t11 =>
    some (.inl ((s3.1 + t11), (s3.2 + (1 : Int32))))
   )
  ) f_F ((0 : Int32), v2)).bind fun (x3 : Int32) =>
  some x3
set_option maxRecDepth 4000 in
theorem G_132 {xs : Nat → Int32} {L N : Nat} (hN : 166 ≤ N) (a1 : Int32)  (σ : f_M) : f_Cal a_MT xs L N 132 [.ref 155, .int a1] σ ((g_132 a1 σ).bind fun t => some (e_pi σ t)) := by
  refine f_cal_of (ls := [.ref 155, .int a1, a_dead, a_dead, a_dead]) MT_132 (Nat.le_of_ble_eq_true rfl) rfl ?_
  unfold g_132
  refine i_iload_n (pc' := 1) (f_at inc_132 (j := 0) rfl) rfl rfl ?_
  refine c_pi (pc' := 4) (c' := 0) (n' := 0) (h_stat (ra := [.int a1]) (r := []) (as := [.int a1]) (f_at inc_132 (j := 1) rfl) (by decide) MT_119 rfl rfl rfl ⟨Nat.le_of_ble_eq_true rfl, Nat.le_of_ble_eq_true rfl, Nat.le_of_ble_eq_true rfl⟩) MT_119 (G_119 hN a1 σ) ⟨rfl, rfl, rfl⟩ fun t1 => ?_
  refine i_istore_n (pc' := 5) (ls' := [.ref 155, .int a1, .int t1, a_dead, a_dead]) (f_at inc_132 (j := 2) rfl) (Nat.le_of_ble_eq_true rfl) rfl rfl ?_
  refine i_iconst (pc' := 6) (f_at inc_132 (j := 3) rfl) ci_0 rfl ?_
  refine i_istore_n (pc' := 7) (ls' := [.ref 155, .int a1, .int t1, .int (0 : Int32), a_dead]) (f_at inc_132 (j := 4) rfl) (Nat.le_of_ble_eq_true rfl) rfl rfl ?_
  refine i_aload_n (pc' := 8) (f_at inc_132 (j := 5) rfl) rfl rfl ?_
  refine i_getR (pc' := 11) (f_at inc_132 (j := 6) rfl) sh_155 rfl (f_lt (o := 155) (m := 166) (Nat.le_of_ble_eq_true rfl) hN) rfl ?_
  refine i_iload_n (pc' := 12) (f_at inc_132 (j := 7) rfl) rfl rfl ?_
  refine i_iconst (pc' := 13) (f_at inc_132 (j := 8) rfl) ci_2 rfl ?_
  refine i_iadd (pc' := 14) (f_at inc_132 (j := 9) rfl) rfl ?_
  refine i_iald (pc' := 15) (f_at inc_132 (j := 10) rfl) sh_156 (f_bg (Nat.le_of_ble_eq_true rfl)) (f_lt (o := 156) (m := 166) (Nat.le_of_ble_eq_true rfl) hN) rfl fun v2 => ?_
  refine i_istore (pc' := 17) (ls' := [.ref 155, .int a1, .int t1, .int (0 : Int32), .int v2]) (f_at inc_132 (j := 11) rfl) (Nat.le_of_ble_eq_true rfl) rfl rfl ?_
  refine s_lX (X := 81) ((0 : Int32), v2) () (fun (s3 : Int32 × Int32) (u3 : Unit) => [.ref 155, .int a1, .int t1, .int s3.1, .int s3.2]) (fun (s3 : Int32 × Int32) => σ) (fun (x3 : Int32) (w3 : Value) => [.ref 155, .int a1, .int t1, .int x3, w3]) (fun (x3 : Int32) => σ) ?_ ?_
  · intro x3 w3
    refine i_iload_n (pc' := 82) (f_at inc_132 (j := 49) rfl) rfl rfl ?_
    exact i_iret (f_at inc_132 (j := 50) rfl) rfl n_int
  · intro s3 u3 k3 hb3 hx3
    refine i_iload (pc' := 19) (f_at inc_132 (j := 12) rfl) rfl rfl ?_
    refine i_aload_n (pc' := 20) (f_at inc_132 (j := 13) rfl) rfl rfl ?_
    refine i_iload_n (pc' := 21) (f_at inc_132 (j := 14) rfl) rfl rfl ?_
    refine c_pi (pc' := 24) (c' := 0) (n' := 0) (h_virt (ra := [.int a1, .ref 155]) (r := [.int s3.2]) (as := [.int a1]) (f_at inc_132 (j := 15) rfl) (by decide) MT_130 rfl rfl rfl ⟨Nat.le_of_ble_eq_true rfl, Nat.le_of_ble_eq_true rfl, Nat.le_of_ble_eq_true rfl⟩ sh_155 (f_lt (o := 155) (m := 166) (Nat.le_of_ble_eq_true rfl) hN)) MT_130 (G_130 hN a1 σ) ⟨rfl, rfl, rfl⟩ fun t4 => ?_
    refine i_if2 (pc' := 81) (nx := 27) c2_ge (f_at inc_132 (j := 16) rfl) ⟨by decide, rfl⟩ (fun b12 => ?_) (fun b12 => ?_)
    · exact hx3 s3.1 (.int s3.2)
    · refine i_iload_n (pc' := 28) (f_at inc_132 (j := 17) rfl) rfl rfl ?_
      refine i_aload_n (pc' := 29) (f_at inc_132 (j := 18) rfl) rfl rfl ?_
      refine i_getR (pc' := 32) (f_at inc_132 (j := 19) rfl) sh_155 rfl (f_lt (o := 155) (m := 166) (Nat.le_of_ble_eq_true rfl) hN) rfl ?_
      refine i_sipush (pc' := 35) (f_at inc_132 (j := 20) rfl) cs_420 rfl ?_
      refine i_iload (pc' := 37) (f_at inc_132 (j := 21) rfl) rfl rfl ?_
      refine i_iadd (pc' := 38) (f_at inc_132 (j := 22) rfl) rfl ?_
      refine i_iald (pc' := 39) (f_at inc_132 (j := 23) rfl) sh_156 (f_bg (Nat.le_of_ble_eq_true rfl)) (f_lt (o := 156) (m := 166) (Nat.le_of_ble_eq_true rfl) hN) rfl fun v5 => ?_
      refine i_i2l (pc' := 40) (f_at inc_132 (j := 24) rfl) rfl ?_
      refine i_aload_n (pc' := 41) (f_at inc_132 (j := 25) rfl) rfl rfl ?_
      refine i_getR (pc' := 44) (f_at inc_132 (j := 26) rfl) sh_155 rfl (f_lt (o := 155) (m := 166) (Nat.le_of_ble_eq_true rfl) hN) rfl ?_
      refine i_iload_n (pc' := 45) (f_at inc_132 (j := 27) rfl) rfl rfl ?_
      refine i_iconst (pc' := 46) (f_at inc_132 (j := 28) rfl) ci_5 rfl ?_
      refine i_iadd (pc' := 47) (f_at inc_132 (j := 29) rfl) rfl ?_
      refine i_iald (pc' := 48) (f_at inc_132 (j := 30) rfl) sh_156 (f_bg (Nat.le_of_ble_eq_true rfl)) (f_lt (o := 156) (m := 166) (Nat.le_of_ble_eq_true rfl) hN) rfl fun v6 => ?_
      refine i_i2l (pc' := 49) (f_at inc_132 (j := 31) rfl) rfl ?_
      refine i_aload_n (pc' := 50) (f_at inc_132 (j := 32) rfl) rfl rfl ?_
      refine i_getR (pc' := 53) (f_at inc_132 (j := 33) rfl) sh_155 rfl (f_lt (o := 155) (m := 166) (Nat.le_of_ble_eq_true rfl) hN) rfl ?_
      refine i_iload_n (pc' := 54) (f_at inc_132 (j := 34) rfl) rfl rfl ?_
      refine i_bipush (pc' := 56) (f_at inc_132 (j := 35) rfl) cb_6 rfl ?_
      refine i_iadd (pc' := 57) (f_at inc_132 (j := 36) rfl) rfl ?_
      refine i_iald (pc' := 58) (f_at inc_132 (j := 37) rfl) sh_156 (f_bg (Nat.le_of_ble_eq_true rfl)) (f_lt (o := 156) (m := 166) (Nat.le_of_ble_eq_true rfl) hN) rfl fun v7 => ?_
      refine i_i2l (pc' := 59) (f_at inc_132 (j := 38) rfl) rfl ?_
      refine c_pb (pc' := 62) (c' := 0) (n' := 0) (h_stat (ra := [.long (v7).toInt64, .long (v6).toInt64, .long (v5).toInt64]) (r := [.int s3.1]) (as := [.long (v5).toInt64, .long (v6).toInt64, .long (v7).toInt64]) (f_at inc_132 (j := 39) rfl) (by decide) MT_46 rfl rfl rfl ⟨Nat.le_of_ble_eq_true rfl, Nat.le_of_ble_eq_true rfl, Nat.le_of_ble_eq_true rfl⟩) MT_46 (G_46 hN (v5).toInt64 (v6).toInt64 (v7).toInt64 σ) ⟨rfl, rfl, rfl⟩ fun t8 => ?_
      refine s_join (J := 70) (fun (t9 : Bool) (u9 : Unit) => [.ref 155, .int a1, .int t1, .int s3.1, .int s3.2]) (fun t9 => [.int (f_b t9), .int s3.1]) (fun t9 => σ) ?_ ?_
      · intro t9 u9
        refine c_pi (pc' := 73) (c' := 0) (n' := 0) (h_stat (ra := [.int (f_b t9)]) (r := [.int s3.1]) (as := [.int (f_b t9)]) (f_at inc_132 (j := 44) rfl) (by decide) MT_131 rfl rfl rfl ⟨Nat.le_of_ble_eq_true rfl, Nat.le_of_ble_eq_true rfl, Nat.le_of_ble_eq_true rfl⟩) MT_131 (G_131 hN t9 σ) ⟨rfl, rfl, rfl⟩ fun t11 => ?_
        refine i_iadd (pc' := 74) (f_at inc_132 (j := 45) rfl) rfl ?_
        refine i_istore_n (pc' := 75) (ls' := [.ref 155, .int a1, .int t1, .int (s3.1 + t11), .int s3.2]) (f_at inc_132 (j := 46) rfl) (Nat.le_of_ble_eq_true rfl) rfl rfl ?_
        refine i_iinc (pc' := 78) (ls' := [.ref 155, .int a1, .int t1, .int (s3.1 + t11), .int (s3.2 + (1 : Int32))]) (f_at inc_132 (j := 47) rfl) rfl ci_1 rfl rfl ?_
        refine i_goto (pc' := 17) (f_at inc_132 (j := 48) rfl) (by decide) ?_
        exact hb3 ((s3.1 + t11), (s3.2 + (1 : Int32))) ()
      · intro k9 hj9
        refine i_if0 (pc' := 69) (nx := 65) cb_ne (f_at inc_132 (j := 40) rfl) ⟨by decide, rfl⟩ (fun b10 => ?_) (fun b10 => ?_)
        · refine i_iconst (pc' := 70) (f_at inc_132 (j := 43) rfl) ci_0 rfl ?_
          exact hj9 false ()
        · refine i_iconst (pc' := 66) (f_at inc_132 (j := 41) rfl) ci_1 rfl ?_
          refine i_goto (pc' := 70) (f_at inc_132 (j := 42) rfl) (by decide) ?_
          exact hj9 true ()
set_option maxRecDepth 4000 in
def g_133 (a1 : Int32) (σ : f_M) : Option (Int32) :=
  (g_119 a1 σ).bind fun t1 =>
  (f_rd σ 156 2420 (t1 + (2 : Int32))).bind fun v2 =>
  (f_lp (fun (s3 : Int32 × Int32) =>
   (g_130 a1 σ).bind fun t4 =>
   if t4 ≤ s3.2 then (
    some (.inr s3.1)
   ) else (
    (f_rd σ 156 2420 ((1420 : Int32) + s3.2)).bind fun v5 =>
    some (.inl ((s3.1 + v5), (s3.2 + (1 : Int32))))
   )
  ) f_F ((0 : Int32), v2)).bind fun (x3 : Int32) =>
  some x3
set_option maxRecDepth 4000 in
theorem G_133 {xs : Nat → Int32} {L N : Nat} (hN : 166 ≤ N) (a1 : Int32)  (σ : f_M) : f_Cal a_MT xs L N 133 [.ref 155, .int a1] σ ((g_133 a1 σ).bind fun t => some (e_pi σ t)) := by
  refine f_cal_of (ls := [.ref 155, .int a1, a_dead, a_dead]) MT_133 (Nat.le_of_ble_eq_true rfl) rfl ?_
  unfold g_133
  refine i_iconst (pc' := 1) (f_at inc_133 (j := 0) rfl) ci_0 rfl ?_
  refine i_istore_n (pc' := 2) (ls' := [.ref 155, .int a1, .int (0 : Int32), a_dead]) (f_at inc_133 (j := 1) rfl) (Nat.le_of_ble_eq_true rfl) rfl rfl ?_
  refine i_aload_n (pc' := 3) (f_at inc_133 (j := 2) rfl) rfl rfl ?_
  refine i_getR (pc' := 6) (f_at inc_133 (j := 3) rfl) sh_155 rfl (f_lt (o := 155) (m := 166) (Nat.le_of_ble_eq_true rfl) hN) rfl ?_
  refine i_iload_n (pc' := 7) (f_at inc_133 (j := 4) rfl) rfl rfl ?_
  refine c_pi (pc' := 10) (c' := 0) (n' := 0) (h_stat (ra := [.int a1]) (r := [.ref 156]) (as := [.int a1]) (f_at inc_133 (j := 5) rfl) (by decide) MT_119 rfl rfl rfl ⟨Nat.le_of_ble_eq_true rfl, Nat.le_of_ble_eq_true rfl, Nat.le_of_ble_eq_true rfl⟩) MT_119 (G_119 hN a1 σ) ⟨rfl, rfl, rfl⟩ fun t1 => ?_
  refine i_iconst (pc' := 11) (f_at inc_133 (j := 6) rfl) ci_2 rfl ?_
  refine i_iadd (pc' := 12) (f_at inc_133 (j := 7) rfl) rfl ?_
  refine i_iald (pc' := 13) (f_at inc_133 (j := 8) rfl) sh_156 (f_bg (Nat.le_of_ble_eq_true rfl)) (f_lt (o := 156) (m := 166) (Nat.le_of_ble_eq_true rfl) hN) rfl fun v2 => ?_
  refine i_istore_n (pc' := 14) (ls' := [.ref 155, .int a1, .int (0 : Int32), .int v2]) (f_at inc_133 (j := 9) rfl) (Nat.le_of_ble_eq_true rfl) rfl rfl ?_
  refine s_lX (X := 42) ((0 : Int32), v2) () (fun (s3 : Int32 × Int32) (u3 : Unit) => [.ref 155, .int a1, .int s3.1, .int s3.2]) (fun (s3 : Int32 × Int32) => σ) (fun (x3 : Int32) (w3 : Value) => [.ref 155, .int a1, .int x3, w3]) (fun (x3 : Int32) => σ) ?_ ?_
  · intro x3 w3
    refine i_iload_n (pc' := 43) (f_at inc_133 (j := 26) rfl) rfl rfl ?_
    exact i_iret (f_at inc_133 (j := 27) rfl) rfl n_int
  · intro s3 u3 k3 hb3 hx3
    refine i_iload_n (pc' := 15) (f_at inc_133 (j := 10) rfl) rfl rfl ?_
    refine i_aload_n (pc' := 16) (f_at inc_133 (j := 11) rfl) rfl rfl ?_
    refine i_iload_n (pc' := 17) (f_at inc_133 (j := 12) rfl) rfl rfl ?_
    refine c_pi (pc' := 20) (c' := 0) (n' := 0) (h_virt (ra := [.int a1, .ref 155]) (r := [.int s3.2]) (as := [.int a1]) (f_at inc_133 (j := 13) rfl) (by decide) MT_130 rfl rfl rfl ⟨Nat.le_of_ble_eq_true rfl, Nat.le_of_ble_eq_true rfl, Nat.le_of_ble_eq_true rfl⟩ sh_155 (f_lt (o := 155) (m := 166) (Nat.le_of_ble_eq_true rfl) hN)) MT_130 (G_130 hN a1 σ) ⟨rfl, rfl, rfl⟩ fun t4 => ?_
    refine i_if2 (pc' := 42) (nx := 23) c2_ge (f_at inc_133 (j := 14) rfl) ⟨by decide, rfl⟩ (fun b6 => ?_) (fun b6 => ?_)
    · exact hx3 s3.1 (.int s3.2)
    · refine i_iload_n (pc' := 24) (f_at inc_133 (j := 15) rfl) rfl rfl ?_
      refine i_aload_n (pc' := 25) (f_at inc_133 (j := 16) rfl) rfl rfl ?_
      refine i_getR (pc' := 28) (f_at inc_133 (j := 17) rfl) sh_155 rfl (f_lt (o := 155) (m := 166) (Nat.le_of_ble_eq_true rfl) hN) rfl ?_
      refine i_sipush (pc' := 31) (f_at inc_133 (j := 18) rfl) cs_1420 rfl ?_
      refine i_iload_n (pc' := 32) (f_at inc_133 (j := 19) rfl) rfl rfl ?_
      refine i_iadd (pc' := 33) (f_at inc_133 (j := 20) rfl) rfl ?_
      refine i_iald (pc' := 34) (f_at inc_133 (j := 21) rfl) sh_156 (f_bg (Nat.le_of_ble_eq_true rfl)) (f_lt (o := 156) (m := 166) (Nat.le_of_ble_eq_true rfl) hN) rfl fun v5 => ?_
      refine i_iadd (pc' := 35) (f_at inc_133 (j := 22) rfl) rfl ?_
      refine i_istore_n (pc' := 36) (ls' := [.ref 155, .int a1, .int (s3.1 + v5), .int s3.2]) (f_at inc_133 (j := 23) rfl) (Nat.le_of_ble_eq_true rfl) rfl rfl ?_
      refine i_iinc (pc' := 39) (ls' := [.ref 155, .int a1, .int (s3.1 + v5), .int (s3.2 + (1 : Int32))]) (f_at inc_133 (j := 24) rfl) rfl ci_1 rfl rfl ?_
      refine i_goto (pc' := 14) (f_at inc_133 (j := 25) rfl) (by decide) ?_
      exact hb3 ((s3.1 + v5), (s3.2 + (1 : Int32))) ()
set_option maxRecDepth 4000 in
def g_134 (a1 : Int32) (σ : f_M) : Option (Int32) :=
  (g_119 a1 σ).bind fun t1 =>
  (f_rd σ 156 2420 (t1 + (0 : Int32))).bind fun v2 =>
  if ¬ v2 = 0 then (
   (g_133 a1 σ).bind fun t3 =>
   (f_rd σ 156 2420 (t1 + (5 : Int32))).bind fun v4 =>
   (f_rd σ 156 2420 (t1 + (4 : Int32))).bind fun v5 =>
   (f_rd σ 156 2420 (t1 + (4 : Int32))).bind fun v6 =>
   some (f_min v5 ((v6 * (f_max (0 : Int32) (t3 - v4))) / (10 : Int32)))
  ) else (
   (f_rd σ 156 2420 (t1 + (4 : Int32))).bind fun v7 =>
   (g_132 a1 σ).bind fun t8 =>
   (f_rd σ 156 2420 (t1 + (3 : Int32))).bind fun v9 =>
   if v9 = 0 then none else
   some ((v7 * t8) / v9)
  )
set_option maxRecDepth 4000 in
theorem G_134 {xs : Nat → Int32} {L N : Nat} (hN : 166 ≤ N) (a1 : Int32)  (σ : f_M) : f_Cal a_MT xs L N 134 [.ref 155, .int a1] σ ((g_134 a1 σ).bind fun t => some (e_pi σ t)) := by
  refine f_cal_of (ls := [.ref 155, .int a1, a_dead, a_dead]) MT_134 (Nat.le_of_ble_eq_true rfl) rfl ?_
  unfold g_134
  refine i_iload_n (pc' := 1) (f_at inc_134 (j := 0) rfl) rfl rfl ?_
  refine c_pi (pc' := 4) (c' := 0) (n' := 0) (h_stat (ra := [.int a1]) (r := []) (as := [.int a1]) (f_at inc_134 (j := 1) rfl) (by decide) MT_119 rfl rfl rfl ⟨Nat.le_of_ble_eq_true rfl, Nat.le_of_ble_eq_true rfl, Nat.le_of_ble_eq_true rfl⟩) MT_119 (G_119 hN a1 σ) ⟨rfl, rfl, rfl⟩ fun t1 => ?_
  refine i_istore_n (pc' := 5) (ls' := [.ref 155, .int a1, .int t1, a_dead]) (f_at inc_134 (j := 2) rfl) (Nat.le_of_ble_eq_true rfl) rfl rfl ?_
  refine i_aload_n (pc' := 6) (f_at inc_134 (j := 3) rfl) rfl rfl ?_
  refine i_getR (pc' := 9) (f_at inc_134 (j := 4) rfl) sh_155 rfl (f_lt (o := 155) (m := 166) (Nat.le_of_ble_eq_true rfl) hN) rfl ?_
  refine i_iload_n (pc' := 10) (f_at inc_134 (j := 5) rfl) rfl rfl ?_
  refine i_iconst (pc' := 11) (f_at inc_134 (j := 6) rfl) ci_0 rfl ?_
  refine i_iadd (pc' := 12) (f_at inc_134 (j := 7) rfl) rfl ?_
  refine i_iald (pc' := 13) (f_at inc_134 (j := 8) rfl) sh_156 (f_bg (Nat.le_of_ble_eq_true rfl)) (f_lt (o := 156) (m := 166) (Nat.le_of_ble_eq_true rfl) hN) rfl fun v2 => ?_
  refine i_if0 (pc' := 40) (nx := 16) c0_ne (f_at inc_134 (j := 9) rfl) ⟨by decide, rfl⟩ (fun b11 => ?_) (fun b11 => ?_)
  · refine i_iconst (pc' := 41) (f_at inc_134 (j := 28) rfl) ci_0 rfl ?_
    refine i_aload_n (pc' := 42) (f_at inc_134 (j := 29) rfl) rfl rfl ?_
    refine i_iload_n (pc' := 43) (f_at inc_134 (j := 30) rfl) rfl rfl ?_
    refine c_pi (pc' := 46) (c' := 0) (n' := 0) (h_virt (ra := [.int a1, .ref 155]) (r := [.int (0 : Int32)]) (as := [.int a1]) (f_at inc_134 (j := 31) rfl) (by decide) MT_133 rfl rfl rfl ⟨Nat.le_of_ble_eq_true rfl, Nat.le_of_ble_eq_true rfl, Nat.le_of_ble_eq_true rfl⟩ sh_155 (f_lt (o := 155) (m := 166) (Nat.le_of_ble_eq_true rfl) hN)) MT_133 (G_133 hN a1 σ) ⟨rfl, rfl, rfl⟩ fun t3 => ?_
    refine i_aload_n (pc' := 47) (f_at inc_134 (j := 32) rfl) rfl rfl ?_
    refine i_getR (pc' := 50) (f_at inc_134 (j := 33) rfl) sh_155 rfl (f_lt (o := 155) (m := 166) (Nat.le_of_ble_eq_true rfl) hN) rfl ?_
    refine i_iload_n (pc' := 51) (f_at inc_134 (j := 34) rfl) rfl rfl ?_
    refine i_iconst (pc' := 52) (f_at inc_134 (j := 35) rfl) ci_5 rfl ?_
    refine i_iadd (pc' := 53) (f_at inc_134 (j := 36) rfl) rfl ?_
    refine i_iald (pc' := 54) (f_at inc_134 (j := 37) rfl) sh_156 (f_bg (Nat.le_of_ble_eq_true rfl)) (f_lt (o := 156) (m := 166) (Nat.le_of_ble_eq_true rfl) hN) rfl fun v4 => ?_
    refine i_isub (pc' := 55) (f_at inc_134 (j := 38) rfl) rfl ?_
    refine i_max (pc' := 58) (f_at inc_134 (j := 39) rfl) (Nat.le_of_ble_eq_true rfl) rfl ?_
    refine i_istore_n (pc' := 59) (ls' := [.ref 155, .int a1, .int t1, .int (f_max (0 : Int32) (t3 - v4))]) (f_at inc_134 (j := 40) rfl) (Nat.le_of_ble_eq_true rfl) rfl rfl ?_
    refine i_aload_n (pc' := 60) (f_at inc_134 (j := 41) rfl) rfl rfl ?_
    refine i_getR (pc' := 63) (f_at inc_134 (j := 42) rfl) sh_155 rfl (f_lt (o := 155) (m := 166) (Nat.le_of_ble_eq_true rfl) hN) rfl ?_
    refine i_iload_n (pc' := 64) (f_at inc_134 (j := 43) rfl) rfl rfl ?_
    refine i_iconst (pc' := 65) (f_at inc_134 (j := 44) rfl) ci_4 rfl ?_
    refine i_iadd (pc' := 66) (f_at inc_134 (j := 45) rfl) rfl ?_
    refine i_iald (pc' := 67) (f_at inc_134 (j := 46) rfl) sh_156 (f_bg (Nat.le_of_ble_eq_true rfl)) (f_lt (o := 156) (m := 166) (Nat.le_of_ble_eq_true rfl) hN) rfl fun v5 => ?_
    refine i_aload_n (pc' := 68) (f_at inc_134 (j := 47) rfl) rfl rfl ?_
    refine i_getR (pc' := 71) (f_at inc_134 (j := 48) rfl) sh_155 rfl (f_lt (o := 155) (m := 166) (Nat.le_of_ble_eq_true rfl) hN) rfl ?_
    refine i_iload_n (pc' := 72) (f_at inc_134 (j := 49) rfl) rfl rfl ?_
    refine i_iconst (pc' := 73) (f_at inc_134 (j := 50) rfl) ci_4 rfl ?_
    refine i_iadd (pc' := 74) (f_at inc_134 (j := 51) rfl) rfl ?_
    refine i_iald (pc' := 75) (f_at inc_134 (j := 52) rfl) sh_156 (f_bg (Nat.le_of_ble_eq_true rfl)) (f_lt (o := 156) (m := 166) (Nat.le_of_ble_eq_true rfl) hN) rfl fun v6 => ?_
    refine i_iload_n (pc' := 76) (f_at inc_134 (j := 53) rfl) rfl rfl ?_
    refine i_imul (pc' := 77) (f_at inc_134 (j := 54) rfl) rfl ?_
    refine i_bipush (pc' := 79) (f_at inc_134 (j := 55) rfl) cb_10 rfl ?_
    refine i_idiv (pc' := 80) (f_at inc_134 (j := 56) rfl) (by decide) rfl ?_
    refine i_min (pc' := 83) (f_at inc_134 (j := 57) rfl) (Nat.le_of_ble_eq_true rfl) rfl ?_
    exact i_iret (f_at inc_134 (j := 58) rfl) rfl n_int
  · refine i_aload_n (pc' := 17) (f_at inc_134 (j := 10) rfl) rfl rfl ?_
    refine i_getR (pc' := 20) (f_at inc_134 (j := 11) rfl) sh_155 rfl (f_lt (o := 155) (m := 166) (Nat.le_of_ble_eq_true rfl) hN) rfl ?_
    refine i_iload_n (pc' := 21) (f_at inc_134 (j := 12) rfl) rfl rfl ?_
    refine i_iconst (pc' := 22) (f_at inc_134 (j := 13) rfl) ci_4 rfl ?_
    refine i_iadd (pc' := 23) (f_at inc_134 (j := 14) rfl) rfl ?_
    refine i_iald (pc' := 24) (f_at inc_134 (j := 15) rfl) sh_156 (f_bg (Nat.le_of_ble_eq_true rfl)) (f_lt (o := 156) (m := 166) (Nat.le_of_ble_eq_true rfl) hN) rfl fun v7 => ?_
    refine i_aload_n (pc' := 25) (f_at inc_134 (j := 16) rfl) rfl rfl ?_
    refine i_iload_n (pc' := 26) (f_at inc_134 (j := 17) rfl) rfl rfl ?_
    refine c_pi (pc' := 29) (c' := 0) (n' := 0) (h_virt (ra := [.int a1, .ref 155]) (r := [.int v7]) (as := [.int a1]) (f_at inc_134 (j := 18) rfl) (by decide) MT_132 rfl rfl rfl ⟨Nat.le_of_ble_eq_true rfl, Nat.le_of_ble_eq_true rfl, Nat.le_of_ble_eq_true rfl⟩ sh_155 (f_lt (o := 155) (m := 166) (Nat.le_of_ble_eq_true rfl) hN)) MT_132 (G_132 hN a1 σ) ⟨rfl, rfl, rfl⟩ fun t8 => ?_
    refine i_imul (pc' := 30) (f_at inc_134 (j := 19) rfl) rfl ?_
    refine i_aload_n (pc' := 31) (f_at inc_134 (j := 20) rfl) rfl rfl ?_
    refine i_getR (pc' := 34) (f_at inc_134 (j := 21) rfl) sh_155 rfl (f_lt (o := 155) (m := 166) (Nat.le_of_ble_eq_true rfl) hN) rfl ?_
    refine i_iload_n (pc' := 35) (f_at inc_134 (j := 22) rfl) rfl rfl ?_
    refine i_iconst (pc' := 36) (f_at inc_134 (j := 23) rfl) ci_3 rfl ?_
    refine i_iadd (pc' := 37) (f_at inc_134 (j := 24) rfl) rfl ?_
    refine i_iald (pc' := 38) (f_at inc_134 (j := 25) rfl) sh_156 (f_bg (Nat.le_of_ble_eq_true rfl)) (f_lt (o := 156) (m := 166) (Nat.le_of_ble_eq_true rfl) hN) rfl fun v9 => ?_
    refine i_grn fun h10 => ?_
    refine i_idiv (pc' := 39) (f_at inc_134 (j := 26) rfl) h10 rfl ?_
    exact i_iret (f_at inc_134 (j := 27) rfl) rfl n_int
set_option maxRecDepth 4000 in
def g_135 (a1 : Int32) (σ : f_M) : Option (f_M) :=
  (g_126 a1 σ).bind fun t1 =>
  (f_rd σ 156 2420 (t1 + (0 : Int32))).bind fun v2 =>
  (g_134 v2 σ).bind fun t3 =>
  (g_126 a1 σ).bind fun t4 =>
  (f_rd σ 156 2420 (t4 + (1 : Int32))).bind fun v5 =>
  (f_rd σ 156 2420 ((95 : Int32) + v5)).bind fun v6 =>
  (f_rd σ 156 2420 (10 : Int32)).bind fun v7 =>
  (f_wr σ 156 2420 (10 : Int32) (v7 + (1 : Int32))).bind fun m8 =>
  (g_126 a1 m8).bind fun t9 =>
  (f_rd m8 156 2420 (10 : Int32)).bind fun v10 =>
  (f_wr m8 156 2420 (t9 + (5 : Int32)) v10).bind fun m11 =>
  (g_126 a1 m11).bind fun t12 =>
  (f_wr m11 156 2420 (t12 + (4 : Int32)) (t3 - (((t3 * (5 : Int32)) * v6) / (100 : Int32)))).bind fun m13 =>
  (g_126 a1 m13).bind fun t14 =>
  (
   if ¬ (t3 - (((t3 * (5 : Int32)) * v6) / (100 : Int32))) = 0 then (
    some (2 : Int32)
   ) else (
    some (1 : Int32)
   )
  ).bind fun (t15 : Int32) =>
  (f_wr m13 156 2420 (t14 + (3 : Int32)) t15).bind fun m17 =>
  some m17
set_option maxRecDepth 4000 in
theorem G_135 {xs : Nat → Int32} {L N : Nat} (hN : 166 ≤ N) (a1 : Int32)  (σ : f_M) : f_Cal a_MT xs L N 135 [.ref 155, .int a1] σ ((g_135 a1 σ).bind fun t => some (e_wv t)) := by
  refine f_cal_of (ls := [.ref 155, .int a1, a_dead, a_dead, a_dead]) MT_135 (Nat.le_of_ble_eq_true rfl) rfl ?_
  unfold g_135
  refine i_aload_n (pc' := 1) (f_at inc_135 (j := 0) rfl) rfl rfl ?_
  refine i_aload_n (pc' := 2) (f_at inc_135 (j := 1) rfl) rfl rfl ?_
  refine i_getR (pc' := 5) (f_at inc_135 (j := 2) rfl) sh_155 rfl (f_lt (o := 155) (m := 166) (Nat.le_of_ble_eq_true rfl) hN) rfl ?_
  refine i_iload_n (pc' := 6) (f_at inc_135 (j := 3) rfl) rfl rfl ?_
  refine c_pi (pc' := 9) (c' := 0) (n' := 0) (h_stat (ra := [.int a1]) (r := [.ref 156, .ref 155]) (as := [.int a1]) (f_at inc_135 (j := 4) rfl) (by decide) MT_126 rfl rfl rfl ⟨Nat.le_of_ble_eq_true rfl, Nat.le_of_ble_eq_true rfl, Nat.le_of_ble_eq_true rfl⟩) MT_126 (G_126 hN a1 σ) ⟨rfl, rfl, rfl⟩ fun t1 => ?_
  refine i_iconst (pc' := 10) (f_at inc_135 (j := 5) rfl) ci_0 rfl ?_
  refine i_iadd (pc' := 11) (f_at inc_135 (j := 6) rfl) rfl ?_
  refine i_iald (pc' := 12) (f_at inc_135 (j := 7) rfl) sh_156 (f_bg (Nat.le_of_ble_eq_true rfl)) (f_lt (o := 156) (m := 166) (Nat.le_of_ble_eq_true rfl) hN) rfl fun v2 => ?_
  refine c_pi (pc' := 15) (c' := 0) (n' := 0) (h_virt (ra := [.int v2, .ref 155]) (r := []) (as := [.int v2]) (f_at inc_135 (j := 8) rfl) (by decide) MT_134 rfl rfl rfl ⟨Nat.le_of_ble_eq_true rfl, Nat.le_of_ble_eq_true rfl, Nat.le_of_ble_eq_true rfl⟩ sh_155 (f_lt (o := 155) (m := 166) (Nat.le_of_ble_eq_true rfl) hN)) MT_134 (G_134 hN v2 σ) ⟨rfl, rfl, rfl⟩ fun t3 => ?_
  refine i_istore_n (pc' := 16) (ls' := [.ref 155, .int a1, .int t3, a_dead, a_dead]) (f_at inc_135 (j := 9) rfl) (Nat.le_of_ble_eq_true rfl) rfl rfl ?_
  refine i_aload_n (pc' := 17) (f_at inc_135 (j := 10) rfl) rfl rfl ?_
  refine i_getR (pc' := 20) (f_at inc_135 (j := 11) rfl) sh_155 rfl (f_lt (o := 155) (m := 166) (Nat.le_of_ble_eq_true rfl) hN) rfl ?_
  refine i_bipush (pc' := 22) (f_at inc_135 (j := 12) rfl) cb_95 rfl ?_
  refine i_aload_n (pc' := 23) (f_at inc_135 (j := 13) rfl) rfl rfl ?_
  refine i_getR (pc' := 26) (f_at inc_135 (j := 14) rfl) sh_155 rfl (f_lt (o := 155) (m := 166) (Nat.le_of_ble_eq_true rfl) hN) rfl ?_
  refine i_iload_n (pc' := 27) (f_at inc_135 (j := 15) rfl) rfl rfl ?_
  refine c_pi (pc' := 30) (c' := 0) (n' := 0) (h_stat (ra := [.int a1]) (r := [.ref 156, .int (95 : Int32), .ref 156]) (as := [.int a1]) (f_at inc_135 (j := 16) rfl) (by decide) MT_126 rfl rfl rfl ⟨Nat.le_of_ble_eq_true rfl, Nat.le_of_ble_eq_true rfl, Nat.le_of_ble_eq_true rfl⟩) MT_126 (G_126 hN a1 σ) ⟨rfl, rfl, rfl⟩ fun t4 => ?_
  refine i_iconst (pc' := 31) (f_at inc_135 (j := 17) rfl) ci_1 rfl ?_
  refine i_iadd (pc' := 32) (f_at inc_135 (j := 18) rfl) rfl ?_
  refine i_iald (pc' := 33) (f_at inc_135 (j := 19) rfl) sh_156 (f_bg (Nat.le_of_ble_eq_true rfl)) (f_lt (o := 156) (m := 166) (Nat.le_of_ble_eq_true rfl) hN) rfl fun v5 => ?_
  refine i_iadd (pc' := 34) (f_at inc_135 (j := 20) rfl) rfl ?_
  refine i_iald (pc' := 35) (f_at inc_135 (j := 21) rfl) sh_156 (f_bg (Nat.le_of_ble_eq_true rfl)) (f_lt (o := 156) (m := 166) (Nat.le_of_ble_eq_true rfl) hN) rfl fun v6 => ?_
  refine i_istore_n (pc' := 36) (ls' := [.ref 155, .int a1, .int t3, .int v6, a_dead]) (f_at inc_135 (j := 22) rfl) (Nat.le_of_ble_eq_true rfl) rfl rfl ?_
  refine i_iload_n (pc' := 37) (f_at inc_135 (j := 23) rfl) rfl rfl ?_
  refine i_iload_n (pc' := 38) (f_at inc_135 (j := 24) rfl) rfl rfl ?_
  refine i_iconst (pc' := 39) (f_at inc_135 (j := 25) rfl) ci_5 rfl ?_
  refine i_imul (pc' := 40) (f_at inc_135 (j := 26) rfl) rfl ?_
  refine i_iload_n (pc' := 41) (f_at inc_135 (j := 27) rfl) rfl rfl ?_
  refine i_imul (pc' := 42) (f_at inc_135 (j := 28) rfl) rfl ?_
  refine i_bipush (pc' := 44) (f_at inc_135 (j := 29) rfl) cb_100 rfl ?_
  refine i_idiv (pc' := 45) (f_at inc_135 (j := 30) rfl) (by decide) rfl ?_
  refine i_isub (pc' := 46) (f_at inc_135 (j := 31) rfl) rfl ?_
  refine i_istore (pc' := 48) (ls' := [.ref 155, .int a1, .int t3, .int v6, .int (t3 - (((t3 * (5 : Int32)) * v6) / (100 : Int32)))]) (f_at inc_135 (j := 32) rfl) (Nat.le_of_ble_eq_true rfl) rfl rfl ?_
  refine i_aload_n (pc' := 49) (f_at inc_135 (j := 33) rfl) rfl rfl ?_
  refine i_getR (pc' := 52) (f_at inc_135 (j := 34) rfl) sh_155 rfl (f_lt (o := 155) (m := 166) (Nat.le_of_ble_eq_true rfl) hN) rfl ?_
  refine i_bipush (pc' := 54) (f_at inc_135 (j := 35) rfl) cb_10 rfl ?_
  refine i_dup2 (pc' := 55) (f_at inc_135 (j := 36) rfl) ⟨rfl, rfl⟩ rfl ?_
  refine i_iald (pc' := 56) (f_at inc_135 (j := 37) rfl) sh_156 (f_bg (Nat.le_of_ble_eq_true rfl)) (f_lt (o := 156) (m := 166) (Nat.le_of_ble_eq_true rfl) hN) rfl fun v7 => ?_
  refine i_iconst (pc' := 57) (f_at inc_135 (j := 38) rfl) ci_1 rfl ?_
  refine i_iadd (pc' := 58) (f_at inc_135 (j := 39) rfl) rfl ?_
  refine i_iast (pc' := 59) (f_at inc_135 (j := 40) rfl) sh_156 (f_lt (o := 156) (m := 166) (Nat.le_of_ble_eq_true rfl) hN) rfl fun m8 => ?_
  refine i_aload_n (pc' := 60) (f_at inc_135 (j := 41) rfl) rfl rfl ?_
  refine i_getR (pc' := 63) (f_at inc_135 (j := 42) rfl) sh_155 rfl (f_lt (o := 155) (m := 166) (Nat.le_of_ble_eq_true rfl) hN) rfl ?_
  refine i_iload_n (pc' := 64) (f_at inc_135 (j := 43) rfl) rfl rfl ?_
  refine c_pi (pc' := 67) (c' := 0) (n' := 0) (h_stat (ra := [.int a1]) (r := [.ref 156]) (as := [.int a1]) (f_at inc_135 (j := 44) rfl) (by decide) MT_126 rfl rfl rfl ⟨Nat.le_of_ble_eq_true rfl, Nat.le_of_ble_eq_true rfl, Nat.le_of_ble_eq_true rfl⟩) MT_126 (G_126 hN a1 m8) ⟨rfl, rfl, rfl⟩ fun t9 => ?_
  refine i_iconst (pc' := 68) (f_at inc_135 (j := 45) rfl) ci_5 rfl ?_
  refine i_iadd (pc' := 69) (f_at inc_135 (j := 46) rfl) rfl ?_
  refine i_aload_n (pc' := 70) (f_at inc_135 (j := 47) rfl) rfl rfl ?_
  refine i_getR (pc' := 73) (f_at inc_135 (j := 48) rfl) sh_155 rfl (f_lt (o := 155) (m := 166) (Nat.le_of_ble_eq_true rfl) hN) rfl ?_
  refine i_bipush (pc' := 75) (f_at inc_135 (j := 49) rfl) cb_10 rfl ?_
  refine i_iald (pc' := 76) (f_at inc_135 (j := 50) rfl) sh_156 (f_bg (Nat.le_of_ble_eq_true rfl)) (f_lt (o := 156) (m := 166) (Nat.le_of_ble_eq_true rfl) hN) rfl fun v10 => ?_
  refine i_iast (pc' := 77) (f_at inc_135 (j := 51) rfl) sh_156 (f_lt (o := 156) (m := 166) (Nat.le_of_ble_eq_true rfl) hN) rfl fun m11 => ?_
  refine i_aload_n (pc' := 78) (f_at inc_135 (j := 52) rfl) rfl rfl ?_
  refine i_getR (pc' := 81) (f_at inc_135 (j := 53) rfl) sh_155 rfl (f_lt (o := 155) (m := 166) (Nat.le_of_ble_eq_true rfl) hN) rfl ?_
  refine i_iload_n (pc' := 82) (f_at inc_135 (j := 54) rfl) rfl rfl ?_
  refine c_pi (pc' := 85) (c' := 0) (n' := 0) (h_stat (ra := [.int a1]) (r := [.ref 156]) (as := [.int a1]) (f_at inc_135 (j := 55) rfl) (by decide) MT_126 rfl rfl rfl ⟨Nat.le_of_ble_eq_true rfl, Nat.le_of_ble_eq_true rfl, Nat.le_of_ble_eq_true rfl⟩) MT_126 (G_126 hN a1 m11) ⟨rfl, rfl, rfl⟩ fun t12 => ?_
  refine i_iconst (pc' := 86) (f_at inc_135 (j := 56) rfl) ci_4 rfl ?_
  refine i_iadd (pc' := 87) (f_at inc_135 (j := 57) rfl) rfl ?_
  refine i_iload (pc' := 89) (f_at inc_135 (j := 58) rfl) rfl rfl ?_
  refine i_iast (pc' := 90) (f_at inc_135 (j := 59) rfl) sh_156 (f_lt (o := 156) (m := 166) (Nat.le_of_ble_eq_true rfl) hN) rfl fun m13 => ?_
  refine i_aload_n (pc' := 91) (f_at inc_135 (j := 60) rfl) rfl rfl ?_
  refine i_getR (pc' := 94) (f_at inc_135 (j := 61) rfl) sh_155 rfl (f_lt (o := 155) (m := 166) (Nat.le_of_ble_eq_true rfl) hN) rfl ?_
  refine i_iload_n (pc' := 95) (f_at inc_135 (j := 62) rfl) rfl rfl ?_
  refine c_pi (pc' := 98) (c' := 0) (n' := 0) (h_stat (ra := [.int a1]) (r := [.ref 156]) (as := [.int a1]) (f_at inc_135 (j := 63) rfl) (by decide) MT_126 rfl rfl rfl ⟨Nat.le_of_ble_eq_true rfl, Nat.le_of_ble_eq_true rfl, Nat.le_of_ble_eq_true rfl⟩) MT_126 (G_126 hN a1 m13) ⟨rfl, rfl, rfl⟩ fun t14 => ?_
  refine i_iconst (pc' := 99) (f_at inc_135 (j := 64) rfl) ci_3 rfl ?_
  refine i_iadd (pc' := 100) (f_at inc_135 (j := 65) rfl) rfl ?_
  refine i_iload (pc' := 102) (f_at inc_135 (j := 66) rfl) rfl rfl ?_
  refine s_join (J := 110) (fun (t15 : Int32) (u15 : Unit) => [.ref 155, .int a1, .int t3, .int v6, .int (t3 - (((t3 * (5 : Int32)) * v6) / (100 : Int32)))]) (fun t15 => [.int t15, .int (t14 + (3 : Int32)), .ref 156]) (fun t15 => m13) ?_ ?_
  · intro t15 u15
    refine i_iast (pc' := 111) (f_at inc_135 (j := 71) rfl) sh_156 (f_lt (o := 156) (m := 166) (Nat.le_of_ble_eq_true rfl) hN) rfl fun m17 => ?_
    exact i_vret (f_at inc_135 (j := 72) rfl) rfl
  · intro k15 hj15
    refine i_if0 (pc' := 109) (nx := 105) c0_ne (f_at inc_135 (j := 67) rfl) ⟨by decide, rfl⟩ (fun b16 => ?_) (fun b16 => ?_)
    · refine i_iconst (pc' := 110) (f_at inc_135 (j := 70) rfl) ci_2 rfl ?_
      exact hj15 (2 : Int32) ()
    · refine i_iconst (pc' := 106) (f_at inc_135 (j := 68) rfl) ci_1 rfl ?_
      refine i_goto (pc' := 110) (f_at inc_135 (j := 69) rfl) (by decide) ?_
      exact hj15 (1 : Int32) ()
set_option maxRecDepth 4000 in
def g_136 (a1 : Int32) (σ : f_M) : Option (f_M) :=
  (g_128 a1 σ).bind fun t1 =>
  if ¬ t1 = (-1 : Int32) then (
   (g_126 t1 σ).bind fun t2 =>
   (f_rd σ 156 2420 (t2 + (2 : Int32))).bind fun v3 =>
   (f_wr σ 156 2420 (t2 + (2 : Int32)) (v3 + (1 : Int32))).bind fun m4 =>
   (g_126 t1 m4).bind fun t5 =>
   (f_rd m4 156 2420 (t5 + (2 : Int32))).bind fun v6 =>
   (g_129 a1 m4).bind fun t7 =>
   (
    if ¬ v6 = t7 then (
     some m4
    ) else (
     (g_135 t1 m4).bind fun t9 =>
     some t9
    )
   ).bind fun (t8 : f_M) =>
   some t8
  ) else (
   some σ
  )
set_option maxRecDepth 4000 in
theorem G_136 {xs : Nat → Int32} {L N : Nat} (hN : 166 ≤ N) (a1 : Int32)  (σ : f_M) : f_Cal a_MT xs L N 136 [.ref 155, .int a1] σ ((g_136 a1 σ).bind fun t => some (e_wv t)) := by
  refine f_cal_of (ls := [.ref 155, .int a1, a_dead]) MT_136 (Nat.le_of_ble_eq_true rfl) rfl ?_
  unfold g_136
  refine i_aload_n (pc' := 1) (f_at inc_136 (j := 0) rfl) rfl rfl ?_
  refine i_iload_n (pc' := 2) (f_at inc_136 (j := 1) rfl) rfl rfl ?_
  refine c_pi (pc' := 5) (c' := 0) (n' := 0) (h_virt (ra := [.int a1, .ref 155]) (r := []) (as := [.int a1]) (f_at inc_136 (j := 2) rfl) (by decide) MT_128 rfl rfl rfl ⟨Nat.le_of_ble_eq_true rfl, Nat.le_of_ble_eq_true rfl, Nat.le_of_ble_eq_true rfl⟩ sh_155 (f_lt (o := 155) (m := 166) (Nat.le_of_ble_eq_true rfl) hN)) MT_128 (G_128 hN a1 σ) ⟨rfl, rfl, rfl⟩ fun t1 => ?_
  refine i_istore_n (pc' := 6) (ls' := [.ref 155, .int a1, .int t1]) (f_at inc_136 (j := 3) rfl) (Nat.le_of_ble_eq_true rfl) rfl rfl ?_
  refine i_iload_n (pc' := 7) (f_at inc_136 (j := 4) rfl) rfl rfl ?_
  refine i_iconst (pc' := 8) (f_at inc_136 (j := 5) rfl) ci_m1 rfl ?_
  refine i_if2 (pc' := 12) (nx := 11) c2_ne (f_at inc_136 (j := 6) rfl) ⟨by decide, rfl⟩ (fun b11 => ?_) (fun b11 => ?_)
  · refine i_aload_n (pc' := 13) (f_at inc_136 (j := 8) rfl) rfl rfl ?_
    refine i_getR (pc' := 16) (f_at inc_136 (j := 9) rfl) sh_155 rfl (f_lt (o := 155) (m := 166) (Nat.le_of_ble_eq_true rfl) hN) rfl ?_
    refine i_iload_n (pc' := 17) (f_at inc_136 (j := 10) rfl) rfl rfl ?_
    refine c_pi (pc' := 20) (c' := 0) (n' := 0) (h_stat (ra := [.int t1]) (r := [.ref 156]) (as := [.int t1]) (f_at inc_136 (j := 11) rfl) (by decide) MT_126 rfl rfl rfl ⟨Nat.le_of_ble_eq_true rfl, Nat.le_of_ble_eq_true rfl, Nat.le_of_ble_eq_true rfl⟩) MT_126 (G_126 hN t1 σ) ⟨rfl, rfl, rfl⟩ fun t2 => ?_
    refine i_iconst (pc' := 21) (f_at inc_136 (j := 12) rfl) ci_2 rfl ?_
    refine i_iadd (pc' := 22) (f_at inc_136 (j := 13) rfl) rfl ?_
    refine i_dup2 (pc' := 23) (f_at inc_136 (j := 14) rfl) ⟨rfl, rfl⟩ rfl ?_
    refine i_iald (pc' := 24) (f_at inc_136 (j := 15) rfl) sh_156 (f_bg (Nat.le_of_ble_eq_true rfl)) (f_lt (o := 156) (m := 166) (Nat.le_of_ble_eq_true rfl) hN) rfl fun v3 => ?_
    refine i_iconst (pc' := 25) (f_at inc_136 (j := 16) rfl) ci_1 rfl ?_
    refine i_iadd (pc' := 26) (f_at inc_136 (j := 17) rfl) rfl ?_
    refine i_iast (pc' := 27) (f_at inc_136 (j := 18) rfl) sh_156 (f_lt (o := 156) (m := 166) (Nat.le_of_ble_eq_true rfl) hN) rfl fun m4 => ?_
    refine i_aload_n (pc' := 28) (f_at inc_136 (j := 19) rfl) rfl rfl ?_
    refine i_getR (pc' := 31) (f_at inc_136 (j := 20) rfl) sh_155 rfl (f_lt (o := 155) (m := 166) (Nat.le_of_ble_eq_true rfl) hN) rfl ?_
    refine i_iload_n (pc' := 32) (f_at inc_136 (j := 21) rfl) rfl rfl ?_
    refine c_pi (pc' := 35) (c' := 0) (n' := 0) (h_stat (ra := [.int t1]) (r := [.ref 156]) (as := [.int t1]) (f_at inc_136 (j := 22) rfl) (by decide) MT_126 rfl rfl rfl ⟨Nat.le_of_ble_eq_true rfl, Nat.le_of_ble_eq_true rfl, Nat.le_of_ble_eq_true rfl⟩) MT_126 (G_126 hN t1 m4) ⟨rfl, rfl, rfl⟩ fun t5 => ?_
    refine i_iconst (pc' := 36) (f_at inc_136 (j := 23) rfl) ci_2 rfl ?_
    refine i_iadd (pc' := 37) (f_at inc_136 (j := 24) rfl) rfl ?_
    refine i_iald (pc' := 38) (f_at inc_136 (j := 25) rfl) sh_156 (f_bg (Nat.le_of_ble_eq_true rfl)) (f_lt (o := 156) (m := 166) (Nat.le_of_ble_eq_true rfl) hN) rfl fun v6 => ?_
    refine i_aload_n (pc' := 39) (f_at inc_136 (j := 26) rfl) rfl rfl ?_
    refine i_iload_n (pc' := 40) (f_at inc_136 (j := 27) rfl) rfl rfl ?_
    refine c_pi (pc' := 43) (c' := 0) (n' := 0) (h_virt (ra := [.int a1, .ref 155]) (r := [.int v6]) (as := [.int a1]) (f_at inc_136 (j := 28) rfl) (by decide) MT_129 rfl rfl rfl ⟨Nat.le_of_ble_eq_true rfl, Nat.le_of_ble_eq_true rfl, Nat.le_of_ble_eq_true rfl⟩ sh_155 (f_lt (o := 155) (m := 166) (Nat.le_of_ble_eq_true rfl) hN)) MT_129 (G_129 hN a1 m4) ⟨rfl, rfl, rfl⟩ fun t7 => ?_
    refine s_join (J := 51) (fun (t8 : f_M) (u8 : Unit) => [.ref 155, .int a1, .int t1]) (fun t8 => []) (fun t8 => t8) ?_ ?_
    · intro t8 u8
      exact i_vret (f_at inc_136 (j := 33) rfl) rfl
    · intro k8 hj8
      refine i_if2 (pc' := 51) (nx := 46) c2_ne (f_at inc_136 (j := 29) rfl) ⟨by decide, rfl⟩ (fun b10 => ?_) (fun b10 => ?_)
      · exact hj8 m4 ()
      · refine i_aload_n (pc' := 47) (f_at inc_136 (j := 30) rfl) rfl rfl ?_
        refine i_iload_n (pc' := 48) (f_at inc_136 (j := 31) rfl) rfl rfl ?_
        refine c_wv (pc' := 51) (c' := 0) (n' := 0) (h_virt (ra := [.int t1, .ref 155]) (r := []) (as := [.int t1]) (f_at inc_136 (j := 32) rfl) (by decide) MT_135 rfl rfl rfl ⟨Nat.le_of_ble_eq_true rfl, Nat.le_of_ble_eq_true rfl, Nat.le_of_ble_eq_true rfl⟩ sh_155 (f_lt (o := 155) (m := 166) (Nat.le_of_ble_eq_true rfl) hN)) MT_135 (G_135 hN t1 m4) ⟨rfl, rfl, rfl⟩ fun t9 => ?_
        exact hj8 t9 ()
  · exact i_vret (f_at inc_136 (j := 7) rfl) rfl
set_option maxRecDepth 4000 in
def g_137  (σ : f_M) : Option (Int32) :=
  (f_lp (fun (s1 : Int32 × Int32) =>
   (f_rd σ 156 2420 (5 : Int32)).bind fun v2 =>
   if v2 ≤ s1.2 then (
    some (.inr s1.1)
   ) else (
    (g_126 s1.2 σ).bind fun t3 =>
    (f_rd σ 156 2420 (t3 + (3 : Int32))).bind fun v4 =>
    (
     if ¬ v4 = (2 : Int32) then (
      some false
     ) else (
      some true
     )
    ).bind fun (t5 : Bool) =>
    (
     if t5 = false then (
      some s1.1
     ) else (
      if s1.1 = (-1 : Int32) then (
       some s1.2
      ) else (
       (g_126 s1.2 σ).bind fun t8 =>
       (f_rd σ 156 2420 (t8 + (5 : Int32))).bind fun v9 =>
       (g_126 s1.1 σ).bind fun t10 =>
       (f_rd σ 156 2420 (t10 + (5 : Int32))).bind fun v11 =>
       if v11 ≤ v9 then (
        some s1.1
       ) else (
        some s1.2
       )
      )
     )
    ).bind fun (t7 : Int32) =>
    some (.inl (t7, (s1.2 + (1 : Int32))))
   )
  ) f_F ((-1 : Int32), (0 : Int32))).bind fun (x1 : Int32) =>
  some x1
set_option maxRecDepth 4000 in
theorem G_137 {xs : Nat → Int32} {L N : Nat} (hN : 166 ≤ N)   (σ : f_M) : f_Cal a_MT xs L N 137 [.ref 155] σ ((g_137  σ).bind fun t => some (e_pi σ t)) := by
  refine f_cal_of (ls := [.ref 155, a_dead, a_dead, a_dead]) MT_137 (Nat.le_of_ble_eq_true rfl) rfl ?_
  unfold g_137
  refine i_iconst (pc' := 1) (f_at inc_137 (j := 0) rfl) ci_m1 rfl ?_
  refine i_istore_n (pc' := 2) (ls' := [.ref 155, .int (-1 : Int32), a_dead, a_dead]) (f_at inc_137 (j := 1) rfl) (Nat.le_of_ble_eq_true rfl) rfl rfl ?_
  refine i_iconst (pc' := 3) (f_at inc_137 (j := 2) rfl) ci_0 rfl ?_
  refine i_istore_n (pc' := 4) (ls' := [.ref 155, .int (-1 : Int32), .int (0 : Int32), a_dead]) (f_at inc_137 (j := 3) rfl) (Nat.le_of_ble_eq_true rfl) rfl rfl ?_
  refine s_lX (X := 77) ((-1 : Int32), (0 : Int32)) (a_dead) (fun (s1 : Int32 × Int32) (u1 : Value) => [.ref 155, .int s1.1, .int s1.2, u1]) (fun (s1 : Int32 × Int32) => σ) (fun (x1 : Int32) (w1 : Value × Value) => [.ref 155, .int x1, w1.1, w1.2]) (fun (x1 : Int32) => σ) ?_ ?_
  · intro x1 w1
    refine i_iload_n (pc' := 78) (f_at inc_137 (j := 47) rfl) rfl rfl ?_
    exact i_iret (f_at inc_137 (j := 48) rfl) rfl n_int
  · intro s1 u1 k1 hb1 hx1
    refine i_iload_n (pc' := 5) (f_at inc_137 (j := 4) rfl) rfl rfl ?_
    refine i_aload_n (pc' := 6) (f_at inc_137 (j := 5) rfl) rfl rfl ?_
    refine i_getR (pc' := 9) (f_at inc_137 (j := 6) rfl) sh_155 rfl (f_lt (o := 155) (m := 166) (Nat.le_of_ble_eq_true rfl) hN) rfl ?_
    refine i_iconst (pc' := 10) (f_at inc_137 (j := 7) rfl) ci_5 rfl ?_
    refine i_iald (pc' := 11) (f_at inc_137 (j := 8) rfl) sh_156 (f_bg (Nat.le_of_ble_eq_true rfl)) (f_lt (o := 156) (m := 166) (Nat.le_of_ble_eq_true rfl) hN) rfl fun v2 => ?_
    refine i_if2 (pc' := 77) (nx := 14) c2_ge (f_at inc_137 (j := 9) rfl) ⟨by decide, rfl⟩ (fun b15 => ?_) (fun b15 => ?_)
    · exact hx1 s1.1 (.int s1.2, u1)
    · refine i_aload_n (pc' := 15) (f_at inc_137 (j := 10) rfl) rfl rfl ?_
      refine i_getR (pc' := 18) (f_at inc_137 (j := 11) rfl) sh_155 rfl (f_lt (o := 155) (m := 166) (Nat.le_of_ble_eq_true rfl) hN) rfl ?_
      refine i_iload_n (pc' := 19) (f_at inc_137 (j := 12) rfl) rfl rfl ?_
      refine c_pi (pc' := 22) (c' := 0) (n' := 0) (h_stat (ra := [.int s1.2]) (r := [.ref 156]) (as := [.int s1.2]) (f_at inc_137 (j := 13) rfl) (by decide) MT_126 rfl rfl rfl ⟨Nat.le_of_ble_eq_true rfl, Nat.le_of_ble_eq_true rfl, Nat.le_of_ble_eq_true rfl⟩) MT_126 (G_126 hN s1.2 σ) ⟨rfl, rfl, rfl⟩ fun t3 => ?_
      refine i_iconst (pc' := 23) (f_at inc_137 (j := 14) rfl) ci_3 rfl ?_
      refine i_iadd (pc' := 24) (f_at inc_137 (j := 15) rfl) rfl ?_
      refine i_iald (pc' := 25) (f_at inc_137 (j := 16) rfl) sh_156 (f_bg (Nat.le_of_ble_eq_true rfl)) (f_lt (o := 156) (m := 166) (Nat.le_of_ble_eq_true rfl) hN) rfl fun v4 => ?_
      refine i_iconst (pc' := 26) (f_at inc_137 (j := 17) rfl) ci_2 rfl ?_
      refine s_join (J := 34) (fun (t5 : Bool) (u5 : Unit) => [.ref 155, .int s1.1, .int s1.2, u1]) (fun t5 => [.int (f_b t5)]) (fun t5 => σ) ?_ ?_
      · intro t5 u5
        refine i_istore_n (pc' := 35) (ls' := [.ref 155, .int s1.1, .int s1.2, .int (f_b t5)]) (f_at inc_137 (j := 22) rfl) (Nat.le_of_ble_eq_true rfl) rfl rfl ?_
        refine i_iload_n (pc' := 36) (f_at inc_137 (j := 23) rfl) rfl rfl ?_
        refine s_join (J := 71) (fun (t7 : Int32) (u7 : Unit) => [.ref 155, .int t7, .int s1.2, .int (f_b t5)]) (fun t7 => []) (fun t7 => σ) ?_ ?_
        · intro t7 u7
          refine i_iinc (pc' := 74) (ls' := [.ref 155, .int t7, .int (s1.2 + (1 : Int32)), .int (f_b t5)]) (f_at inc_137 (j := 45) rfl) rfl ci_1 rfl rfl ?_
          refine i_goto (pc' := 4) (f_at inc_137 (j := 46) rfl) (by decide) ?_
          exact hb1 (t7, (s1.2 + (1 : Int32))) (.int (f_b t5))
        · intro k7 hj7
          refine i_if0 (pc' := 71) (nx := 39) cb_eq (f_at inc_137 (j := 24) rfl) ⟨by decide, rfl⟩ (fun b14 => ?_) (fun b14 => ?_)
          · exact hj7 s1.1 ()
          · refine i_iload_n (pc' := 40) (f_at inc_137 (j := 25) rfl) rfl rfl ?_
            refine i_iconst (pc' := 41) (f_at inc_137 (j := 26) rfl) ci_m1 rfl ?_
            refine i_if2 (pc' := 69) (nx := 44) c2_eq (f_at inc_137 (j := 27) rfl) ⟨by decide, rfl⟩ (fun b13 => ?_) (fun b13 => ?_)
            · refine i_iload_n (pc' := 70) (f_at inc_137 (j := 43) rfl) rfl rfl ?_
              refine i_istore_n (pc' := 71) (ls' := [.ref 155, .int s1.2, .int s1.2, .int (f_b t5)]) (f_at inc_137 (j := 44) rfl) (Nat.le_of_ble_eq_true rfl) rfl rfl ?_
              exact hj7 s1.2 ()
            · refine i_aload_n (pc' := 45) (f_at inc_137 (j := 28) rfl) rfl rfl ?_
              refine i_getR (pc' := 48) (f_at inc_137 (j := 29) rfl) sh_155 rfl (f_lt (o := 155) (m := 166) (Nat.le_of_ble_eq_true rfl) hN) rfl ?_
              refine i_iload_n (pc' := 49) (f_at inc_137 (j := 30) rfl) rfl rfl ?_
              refine c_pi (pc' := 52) (c' := 0) (n' := 0) (h_stat (ra := [.int s1.2]) (r := [.ref 156]) (as := [.int s1.2]) (f_at inc_137 (j := 31) rfl) (by decide) MT_126 rfl rfl rfl ⟨Nat.le_of_ble_eq_true rfl, Nat.le_of_ble_eq_true rfl, Nat.le_of_ble_eq_true rfl⟩) MT_126 (G_126 hN s1.2 σ) ⟨rfl, rfl, rfl⟩ fun t8 => ?_
              refine i_iconst (pc' := 53) (f_at inc_137 (j := 32) rfl) ci_5 rfl ?_
              refine i_iadd (pc' := 54) (f_at inc_137 (j := 33) rfl) rfl ?_
              refine i_iald (pc' := 55) (f_at inc_137 (j := 34) rfl) sh_156 (f_bg (Nat.le_of_ble_eq_true rfl)) (f_lt (o := 156) (m := 166) (Nat.le_of_ble_eq_true rfl) hN) rfl fun v9 => ?_
              refine i_aload_n (pc' := 56) (f_at inc_137 (j := 35) rfl) rfl rfl ?_
              refine i_getR (pc' := 59) (f_at inc_137 (j := 36) rfl) sh_155 rfl (f_lt (o := 155) (m := 166) (Nat.le_of_ble_eq_true rfl) hN) rfl ?_
              refine i_iload_n (pc' := 60) (f_at inc_137 (j := 37) rfl) rfl rfl ?_
              refine c_pi (pc' := 63) (c' := 0) (n' := 0) (h_stat (ra := [.int s1.1]) (r := [.ref 156, .int v9]) (as := [.int s1.1]) (f_at inc_137 (j := 38) rfl) (by decide) MT_126 rfl rfl rfl ⟨Nat.le_of_ble_eq_true rfl, Nat.le_of_ble_eq_true rfl, Nat.le_of_ble_eq_true rfl⟩) MT_126 (G_126 hN s1.1 σ) ⟨rfl, rfl, rfl⟩ fun t10 => ?_
              refine i_iconst (pc' := 64) (f_at inc_137 (j := 39) rfl) ci_5 rfl ?_
              refine i_iadd (pc' := 65) (f_at inc_137 (j := 40) rfl) rfl ?_
              refine i_iald (pc' := 66) (f_at inc_137 (j := 41) rfl) sh_156 (f_bg (Nat.le_of_ble_eq_true rfl)) (f_lt (o := 156) (m := 166) (Nat.le_of_ble_eq_true rfl) hN) rfl fun v11 => ?_
              refine i_if2 (pc' := 71) (nx := 69) c2_ge (f_at inc_137 (j := 42) rfl) ⟨by decide, rfl⟩ (fun b12 => ?_) (fun b12 => ?_)
              · exact hj7 s1.1 ()
              · refine i_iload_n (pc' := 70) (f_at inc_137 (j := 43) rfl) rfl rfl ?_
                refine i_istore_n (pc' := 71) (ls' := [.ref 155, .int s1.2, .int s1.2, .int (f_b t5)]) (f_at inc_137 (j := 44) rfl) (Nat.le_of_ble_eq_true rfl) rfl rfl ?_
                exact hj7 s1.2 ()
      · intro k5 hj5
        refine i_if2 (pc' := 33) (nx := 29) c2_ne (f_at inc_137 (j := 18) rfl) ⟨by decide, rfl⟩ (fun b6 => ?_) (fun b6 => ?_)
        · refine i_iconst (pc' := 34) (f_at inc_137 (j := 21) rfl) ci_0 rfl ?_
          exact hj5 false ()
        · refine i_iconst (pc' := 30) (f_at inc_137 (j := 19) rfl) ci_1 rfl ?_
          refine i_goto (pc' := 34) (f_at inc_137 (j := 20) rfl) (by decide) ?_
          exact hj5 true ()
set_option maxRecDepth 4000 in
def g_138 (a1 : Int32) (σ : f_M) : Option (f_M) :=
  (g_126 a1 σ).bind fun t1 =>
  (f_rd σ 156 2420 (t1 + (4 : Int32))).bind fun v2 =>
  (g_126 a1 σ).bind fun t3 =>
  (f_rd σ 156 2420 (t3 + (0 : Int32))).bind fun v4 =>
  (g_119 v4 σ).bind fun t5 =>
  (f_rd σ 156 2420 (t5 + (1 : Int32))).bind fun v6 =>
  (f_rd σ 156 2420 (1 : Int32)).bind fun v7 =>
  (f_wr σ 156 2420 (1 : Int32) (v7 - v2)).bind fun m8 =>
  (g_36 v6 m8).bind fun t9 =>
  (f_rd m8 156 2420 (t9 + (7 : Int32))).bind fun v10 =>
  (f_wr m8 156 2420 (t9 + (7 : Int32)) (v10 + v2)).bind fun m11 =>
  (g_36 v6 m11).bind fun t12 =>
  (f_rd m11 156 2420 (t12 + (8 : Int32))).bind fun v13 =>
  (f_wr m11 156 2420 (t12 + (8 : Int32)) (v13 + v2)).bind fun m14 =>
  (f_rd m14 156 2420 (7 : Int32)).bind fun v15 =>
  (f_wr m14 156 2420 (7 : Int32) (v15 + v2)).bind fun m16 =>
  (g_126 a1 m16).bind fun t17 =>
  (f_wr m16 156 2420 (t17 + (3 : Int32)) (3 : Int32)).bind fun m18 =>
  some m18
set_option maxRecDepth 4000 in
theorem G_138 {xs : Nat → Int32} {L N : Nat} (hN : 166 ≤ N) (a1 : Int32)  (σ : f_M) : f_Cal a_MT xs L N 138 [.ref 155, .int a1] σ ((g_138 a1 σ).bind fun t => some (e_wv t)) := by
  refine f_cal_of (ls := [.ref 155, .int a1, a_dead, a_dead]) MT_138 (Nat.le_of_ble_eq_true rfl) rfl ?_
  unfold g_138
  refine i_aload_n (pc' := 1) (f_at inc_138 (j := 0) rfl) rfl rfl ?_
  refine i_getR (pc' := 4) (f_at inc_138 (j := 1) rfl) sh_155 rfl (f_lt (o := 155) (m := 166) (Nat.le_of_ble_eq_true rfl) hN) rfl ?_
  refine i_iload_n (pc' := 5) (f_at inc_138 (j := 2) rfl) rfl rfl ?_
  refine c_pi (pc' := 8) (c' := 0) (n' := 0) (h_stat (ra := [.int a1]) (r := [.ref 156]) (as := [.int a1]) (f_at inc_138 (j := 3) rfl) (by decide) MT_126 rfl rfl rfl ⟨Nat.le_of_ble_eq_true rfl, Nat.le_of_ble_eq_true rfl, Nat.le_of_ble_eq_true rfl⟩) MT_126 (G_126 hN a1 σ) ⟨rfl, rfl, rfl⟩ fun t1 => ?_
  refine i_iconst (pc' := 9) (f_at inc_138 (j := 4) rfl) ci_4 rfl ?_
  refine i_iadd (pc' := 10) (f_at inc_138 (j := 5) rfl) rfl ?_
  refine i_iald (pc' := 11) (f_at inc_138 (j := 6) rfl) sh_156 (f_bg (Nat.le_of_ble_eq_true rfl)) (f_lt (o := 156) (m := 166) (Nat.le_of_ble_eq_true rfl) hN) rfl fun v2 => ?_
  refine i_istore_n (pc' := 12) (ls' := [.ref 155, .int a1, .int v2, a_dead]) (f_at inc_138 (j := 7) rfl) (Nat.le_of_ble_eq_true rfl) rfl rfl ?_
  refine i_aload_n (pc' := 13) (f_at inc_138 (j := 8) rfl) rfl rfl ?_
  refine i_getR (pc' := 16) (f_at inc_138 (j := 9) rfl) sh_155 rfl (f_lt (o := 155) (m := 166) (Nat.le_of_ble_eq_true rfl) hN) rfl ?_
  refine i_aload_n (pc' := 17) (f_at inc_138 (j := 10) rfl) rfl rfl ?_
  refine i_getR (pc' := 20) (f_at inc_138 (j := 11) rfl) sh_155 rfl (f_lt (o := 155) (m := 166) (Nat.le_of_ble_eq_true rfl) hN) rfl ?_
  refine i_iload_n (pc' := 21) (f_at inc_138 (j := 12) rfl) rfl rfl ?_
  refine c_pi (pc' := 24) (c' := 0) (n' := 0) (h_stat (ra := [.int a1]) (r := [.ref 156, .ref 156]) (as := [.int a1]) (f_at inc_138 (j := 13) rfl) (by decide) MT_126 rfl rfl rfl ⟨Nat.le_of_ble_eq_true rfl, Nat.le_of_ble_eq_true rfl, Nat.le_of_ble_eq_true rfl⟩) MT_126 (G_126 hN a1 σ) ⟨rfl, rfl, rfl⟩ fun t3 => ?_
  refine i_iconst (pc' := 25) (f_at inc_138 (j := 14) rfl) ci_0 rfl ?_
  refine i_iadd (pc' := 26) (f_at inc_138 (j := 15) rfl) rfl ?_
  refine i_iald (pc' := 27) (f_at inc_138 (j := 16) rfl) sh_156 (f_bg (Nat.le_of_ble_eq_true rfl)) (f_lt (o := 156) (m := 166) (Nat.le_of_ble_eq_true rfl) hN) rfl fun v4 => ?_
  refine c_pi (pc' := 30) (c' := 0) (n' := 0) (h_stat (ra := [.int v4]) (r := [.ref 156]) (as := [.int v4]) (f_at inc_138 (j := 17) rfl) (by decide) MT_119 rfl rfl rfl ⟨Nat.le_of_ble_eq_true rfl, Nat.le_of_ble_eq_true rfl, Nat.le_of_ble_eq_true rfl⟩) MT_119 (G_119 hN v4 σ) ⟨rfl, rfl, rfl⟩ fun t5 => ?_
  refine i_iconst (pc' := 31) (f_at inc_138 (j := 18) rfl) ci_1 rfl ?_
  refine i_iadd (pc' := 32) (f_at inc_138 (j := 19) rfl) rfl ?_
  refine i_iald (pc' := 33) (f_at inc_138 (j := 20) rfl) sh_156 (f_bg (Nat.le_of_ble_eq_true rfl)) (f_lt (o := 156) (m := 166) (Nat.le_of_ble_eq_true rfl) hN) rfl fun v6 => ?_
  refine i_istore_n (pc' := 34) (ls' := [.ref 155, .int a1, .int v2, .int v6]) (f_at inc_138 (j := 21) rfl) (Nat.le_of_ble_eq_true rfl) rfl rfl ?_
  refine i_aload_n (pc' := 35) (f_at inc_138 (j := 22) rfl) rfl rfl ?_
  refine i_getR (pc' := 38) (f_at inc_138 (j := 23) rfl) sh_155 rfl (f_lt (o := 155) (m := 166) (Nat.le_of_ble_eq_true rfl) hN) rfl ?_
  refine i_iconst (pc' := 39) (f_at inc_138 (j := 24) rfl) ci_1 rfl ?_
  refine i_dup2 (pc' := 40) (f_at inc_138 (j := 25) rfl) ⟨rfl, rfl⟩ rfl ?_
  refine i_iald (pc' := 41) (f_at inc_138 (j := 26) rfl) sh_156 (f_bg (Nat.le_of_ble_eq_true rfl)) (f_lt (o := 156) (m := 166) (Nat.le_of_ble_eq_true rfl) hN) rfl fun v7 => ?_
  refine i_iload_n (pc' := 42) (f_at inc_138 (j := 27) rfl) rfl rfl ?_
  refine i_isub (pc' := 43) (f_at inc_138 (j := 28) rfl) rfl ?_
  refine i_iast (pc' := 44) (f_at inc_138 (j := 29) rfl) sh_156 (f_lt (o := 156) (m := 166) (Nat.le_of_ble_eq_true rfl) hN) rfl fun m8 => ?_
  refine i_aload_n (pc' := 45) (f_at inc_138 (j := 30) rfl) rfl rfl ?_
  refine i_getR (pc' := 48) (f_at inc_138 (j := 31) rfl) sh_155 rfl (f_lt (o := 155) (m := 166) (Nat.le_of_ble_eq_true rfl) hN) rfl ?_
  refine i_iload_n (pc' := 49) (f_at inc_138 (j := 32) rfl) rfl rfl ?_
  refine c_pi (pc' := 52) (c' := 0) (n' := 0) (h_stat (ra := [.int v6]) (r := [.ref 156]) (as := [.int v6]) (f_at inc_138 (j := 33) rfl) (by decide) MT_36 rfl rfl rfl ⟨Nat.le_of_ble_eq_true rfl, Nat.le_of_ble_eq_true rfl, Nat.le_of_ble_eq_true rfl⟩) MT_36 (G_36 hN v6 m8) ⟨rfl, rfl, rfl⟩ fun t9 => ?_
  refine i_bipush (pc' := 54) (f_at inc_138 (j := 34) rfl) cb_7 rfl ?_
  refine i_iadd (pc' := 55) (f_at inc_138 (j := 35) rfl) rfl ?_
  refine i_dup2 (pc' := 56) (f_at inc_138 (j := 36) rfl) ⟨rfl, rfl⟩ rfl ?_
  refine i_iald (pc' := 57) (f_at inc_138 (j := 37) rfl) sh_156 (f_bg (Nat.le_of_ble_eq_true rfl)) (f_lt (o := 156) (m := 166) (Nat.le_of_ble_eq_true rfl) hN) rfl fun v10 => ?_
  refine i_iload_n (pc' := 58) (f_at inc_138 (j := 38) rfl) rfl rfl ?_
  refine i_iadd (pc' := 59) (f_at inc_138 (j := 39) rfl) rfl ?_
  refine i_iast (pc' := 60) (f_at inc_138 (j := 40) rfl) sh_156 (f_lt (o := 156) (m := 166) (Nat.le_of_ble_eq_true rfl) hN) rfl fun m11 => ?_
  refine i_aload_n (pc' := 61) (f_at inc_138 (j := 41) rfl) rfl rfl ?_
  refine i_getR (pc' := 64) (f_at inc_138 (j := 42) rfl) sh_155 rfl (f_lt (o := 155) (m := 166) (Nat.le_of_ble_eq_true rfl) hN) rfl ?_
  refine i_iload_n (pc' := 65) (f_at inc_138 (j := 43) rfl) rfl rfl ?_
  refine c_pi (pc' := 68) (c' := 0) (n' := 0) (h_stat (ra := [.int v6]) (r := [.ref 156]) (as := [.int v6]) (f_at inc_138 (j := 44) rfl) (by decide) MT_36 rfl rfl rfl ⟨Nat.le_of_ble_eq_true rfl, Nat.le_of_ble_eq_true rfl, Nat.le_of_ble_eq_true rfl⟩) MT_36 (G_36 hN v6 m11) ⟨rfl, rfl, rfl⟩ fun t12 => ?_
  refine i_bipush (pc' := 70) (f_at inc_138 (j := 45) rfl) cb_8 rfl ?_
  refine i_iadd (pc' := 71) (f_at inc_138 (j := 46) rfl) rfl ?_
  refine i_dup2 (pc' := 72) (f_at inc_138 (j := 47) rfl) ⟨rfl, rfl⟩ rfl ?_
  refine i_iald (pc' := 73) (f_at inc_138 (j := 48) rfl) sh_156 (f_bg (Nat.le_of_ble_eq_true rfl)) (f_lt (o := 156) (m := 166) (Nat.le_of_ble_eq_true rfl) hN) rfl fun v13 => ?_
  refine i_iload_n (pc' := 74) (f_at inc_138 (j := 49) rfl) rfl rfl ?_
  refine i_iadd (pc' := 75) (f_at inc_138 (j := 50) rfl) rfl ?_
  refine i_iast (pc' := 76) (f_at inc_138 (j := 51) rfl) sh_156 (f_lt (o := 156) (m := 166) (Nat.le_of_ble_eq_true rfl) hN) rfl fun m14 => ?_
  refine i_aload_n (pc' := 77) (f_at inc_138 (j := 52) rfl) rfl rfl ?_
  refine i_getR (pc' := 80) (f_at inc_138 (j := 53) rfl) sh_155 rfl (f_lt (o := 155) (m := 166) (Nat.le_of_ble_eq_true rfl) hN) rfl ?_
  refine i_bipush (pc' := 82) (f_at inc_138 (j := 54) rfl) cb_7 rfl ?_
  refine i_dup2 (pc' := 83) (f_at inc_138 (j := 55) rfl) ⟨rfl, rfl⟩ rfl ?_
  refine i_iald (pc' := 84) (f_at inc_138 (j := 56) rfl) sh_156 (f_bg (Nat.le_of_ble_eq_true rfl)) (f_lt (o := 156) (m := 166) (Nat.le_of_ble_eq_true rfl) hN) rfl fun v15 => ?_
  refine i_iload_n (pc' := 85) (f_at inc_138 (j := 57) rfl) rfl rfl ?_
  refine i_iadd (pc' := 86) (f_at inc_138 (j := 58) rfl) rfl ?_
  refine i_iast (pc' := 87) (f_at inc_138 (j := 59) rfl) sh_156 (f_lt (o := 156) (m := 166) (Nat.le_of_ble_eq_true rfl) hN) rfl fun m16 => ?_
  refine i_aload_n (pc' := 88) (f_at inc_138 (j := 60) rfl) rfl rfl ?_
  refine i_getR (pc' := 91) (f_at inc_138 (j := 61) rfl) sh_155 rfl (f_lt (o := 155) (m := 166) (Nat.le_of_ble_eq_true rfl) hN) rfl ?_
  refine i_iload_n (pc' := 92) (f_at inc_138 (j := 62) rfl) rfl rfl ?_
  refine c_pi (pc' := 95) (c' := 0) (n' := 0) (h_stat (ra := [.int a1]) (r := [.ref 156]) (as := [.int a1]) (f_at inc_138 (j := 63) rfl) (by decide) MT_126 rfl rfl rfl ⟨Nat.le_of_ble_eq_true rfl, Nat.le_of_ble_eq_true rfl, Nat.le_of_ble_eq_true rfl⟩) MT_126 (G_126 hN a1 m16) ⟨rfl, rfl, rfl⟩ fun t17 => ?_
  refine i_iconst (pc' := 96) (f_at inc_138 (j := 64) rfl) ci_3 rfl ?_
  refine i_iadd (pc' := 97) (f_at inc_138 (j := 65) rfl) rfl ?_
  refine i_iconst (pc' := 98) (f_at inc_138 (j := 66) rfl) ci_3 rfl ?_
  refine i_iast (pc' := 99) (f_at inc_138 (j := 67) rfl) sh_156 (f_lt (o := 156) (m := 166) (Nat.le_of_ble_eq_true rfl) hN) rfl fun m18 => ?_
  exact i_vret (f_at inc_138 (j := 68) rfl) rfl
set_option maxRecDepth 4000 in
def g_139  (σ : f_M) : Option (f_M) :=
  (g_137  σ).bind fun t1 =>
  (f_lp (fun (s2 : Int32 × f_M) =>
   if s2.1 = (-1 : Int32) then (
    some (.inr s2.2)
   ) else (
    (f_rd s2.2 156 2420 (1 : Int32)).bind fun v3 =>
    (g_126 s2.1 s2.2).bind fun t4 =>
    (f_rd s2.2 156 2420 (t4 + (4 : Int32))).bind fun v5 =>
    if v3 < v5 then (
     some (.inr s2.2)
    ) else (
     (g_138 s2.1 s2.2).bind fun t6 =>
     (g_137  t6).bind fun t7 =>
     some (.inl (t7, t6))
    )
   )
  ) f_F (t1, σ)).bind fun (x2 : f_M) =>
  some x2
set_option maxRecDepth 4000 in
theorem G_139 {xs : Nat → Int32} {L N : Nat} (hN : 166 ≤ N)   (σ : f_M) : f_Cal a_MT xs L N 139 [.ref 155] σ ((g_139  σ).bind fun t => some (e_wv t)) := by
  refine f_cal_of (ls := [.ref 155, a_dead]) MT_139 (Nat.le_of_ble_eq_true rfl) rfl ?_
  unfold g_139
  refine i_aload_n (pc' := 1) (f_at inc_139 (j := 0) rfl) rfl rfl ?_
  refine c_pi (pc' := 4) (c' := 0) (n' := 0) (h_virt (ra := [.ref 155]) (r := []) (as := []) (f_at inc_139 (j := 1) rfl) (by decide) MT_137 rfl rfl rfl ⟨Nat.le_of_ble_eq_true rfl, Nat.le_of_ble_eq_true rfl, Nat.le_of_ble_eq_true rfl⟩ sh_155 (f_lt (o := 155) (m := 166) (Nat.le_of_ble_eq_true rfl) hN)) MT_137 (G_137 hN  σ) ⟨rfl, rfl, rfl⟩ fun t1 => ?_
  refine i_istore_n (pc' := 5) (ls' := [.ref 155, .int t1]) (f_at inc_139 (j := 2) rfl) (Nat.le_of_ble_eq_true rfl) rfl rfl ?_
  refine s_lX (X := 43) (t1, σ) () (fun (s2 : Int32 × f_M) (u2 : Unit) => [.ref 155, .int s2.1]) (fun (s2 : Int32 × f_M) => s2.2) (fun (x2 : f_M) (w2 : Value) => [.ref 155, w2]) (fun (x2 : f_M) => x2) ?_ ?_
  · intro x2 w2
    exact i_vret (f_at inc_139 (j := 25) rfl) rfl
  · intro s2 u2 k2 hb2 hx2
    refine i_iload_n (pc' := 6) (f_at inc_139 (j := 3) rfl) rfl rfl ?_
    refine i_iconst (pc' := 7) (f_at inc_139 (j := 4) rfl) ci_m1 rfl ?_
    refine i_if2 (pc' := 43) (nx := 10) c2_eq (f_at inc_139 (j := 5) rfl) ⟨by decide, rfl⟩ (fun b9 => ?_) (fun b9 => ?_)
    · exact hx2 s2.2 (.int s2.1)
    · refine i_aload_n (pc' := 11) (f_at inc_139 (j := 6) rfl) rfl rfl ?_
      refine i_getR (pc' := 14) (f_at inc_139 (j := 7) rfl) sh_155 rfl (f_lt (o := 155) (m := 166) (Nat.le_of_ble_eq_true rfl) hN) rfl ?_
      refine i_iconst (pc' := 15) (f_at inc_139 (j := 8) rfl) ci_1 rfl ?_
      refine i_iald (pc' := 16) (f_at inc_139 (j := 9) rfl) sh_156 (f_bg (Nat.le_of_ble_eq_true rfl)) (f_lt (o := 156) (m := 166) (Nat.le_of_ble_eq_true rfl) hN) rfl fun v3 => ?_
      refine i_aload_n (pc' := 17) (f_at inc_139 (j := 10) rfl) rfl rfl ?_
      refine i_getR (pc' := 20) (f_at inc_139 (j := 11) rfl) sh_155 rfl (f_lt (o := 155) (m := 166) (Nat.le_of_ble_eq_true rfl) hN) rfl ?_
      refine i_iload_n (pc' := 21) (f_at inc_139 (j := 12) rfl) rfl rfl ?_
      refine c_pi (pc' := 24) (c' := 0) (n' := 0) (h_stat (ra := [.int s2.1]) (r := [.ref 156, .int v3]) (as := [.int s2.1]) (f_at inc_139 (j := 13) rfl) (by decide) MT_126 rfl rfl rfl ⟨Nat.le_of_ble_eq_true rfl, Nat.le_of_ble_eq_true rfl, Nat.le_of_ble_eq_true rfl⟩) MT_126 (G_126 hN s2.1 s2.2) ⟨rfl, rfl, rfl⟩ fun t4 => ?_
      refine i_iconst (pc' := 25) (f_at inc_139 (j := 14) rfl) ci_4 rfl ?_
      refine i_iadd (pc' := 26) (f_at inc_139 (j := 15) rfl) rfl ?_
      refine i_iald (pc' := 27) (f_at inc_139 (j := 16) rfl) sh_156 (f_bg (Nat.le_of_ble_eq_true rfl)) (f_lt (o := 156) (m := 166) (Nat.le_of_ble_eq_true rfl) hN) rfl fun v5 => ?_
      refine i_if2 (pc' := 43) (nx := 30) c2_lt (f_at inc_139 (j := 17) rfl) ⟨by decide, rfl⟩ (fun b8 => ?_) (fun b8 => ?_)
      · exact hx2 s2.2 (.int s2.1)
      · refine i_aload_n (pc' := 31) (f_at inc_139 (j := 18) rfl) rfl rfl ?_
        refine i_iload_n (pc' := 32) (f_at inc_139 (j := 19) rfl) rfl rfl ?_
        refine c_wv (pc' := 35) (c' := 0) (n' := 0) (h_virt (ra := [.int s2.1, .ref 155]) (r := []) (as := [.int s2.1]) (f_at inc_139 (j := 20) rfl) (by decide) MT_138 rfl rfl rfl ⟨Nat.le_of_ble_eq_true rfl, Nat.le_of_ble_eq_true rfl, Nat.le_of_ble_eq_true rfl⟩ sh_155 (f_lt (o := 155) (m := 166) (Nat.le_of_ble_eq_true rfl) hN)) MT_138 (G_138 hN s2.1 s2.2) ⟨rfl, rfl, rfl⟩ fun t6 => ?_
        refine i_aload_n (pc' := 36) (f_at inc_139 (j := 21) rfl) rfl rfl ?_
        refine c_pi (pc' := 39) (c' := 0) (n' := 0) (h_virt (ra := [.ref 155]) (r := []) (as := []) (f_at inc_139 (j := 22) rfl) (by decide) MT_137 rfl rfl rfl ⟨Nat.le_of_ble_eq_true rfl, Nat.le_of_ble_eq_true rfl, Nat.le_of_ble_eq_true rfl⟩ sh_155 (f_lt (o := 155) (m := 166) (Nat.le_of_ble_eq_true rfl) hN)) MT_137 (G_137 hN  t6) ⟨rfl, rfl, rfl⟩ fun t7 => ?_
        refine i_istore_n (pc' := 40) (ls' := [.ref 155, .int t7]) (f_at inc_139 (j := 23) rfl) (Nat.le_of_ble_eq_true rfl) rfl rfl ?_
        refine i_goto (pc' := 5) (f_at inc_139 (j := 24) rfl) (by decide) ?_
        exact hb2 (t7, t6) ()
set_option maxRecDepth 4000 in
def g_140 (a1 : Int32) (a2 : Int32) (σ : f_M) : Option (Int32 × f_M) :=
  (f_rd σ 156 2420 (0 : Int32)).bind fun v1 =>
  (
   if v1 ≤ 0 then (
    some σ
   ) else (
    (f_rd σ 156 2420 (0 : Int32)).bind fun v3 =>
    if ¬ (v3 - v3 / (24 : Int32) * (24 : Int32)) = 0 then (
     some σ
    ) else (
     (g_125  σ).bind fun t4 =>
     some t4
    )
   )
  ).bind fun (t2 : f_M) =>
  (f_rd t2 156 2420 (0 : Int32)).bind fun v7 =>
  (f_wr t2 156 2420 ((420 : Int32) + v7) a1).bind fun m8 =>
  (f_rd m8 156 2420 (0 : Int32)).bind fun v9 =>
  (f_wr m8 156 2420 ((1420 : Int32) + v9) a2).bind fun m10 =>
  (f_rd m10 156 2420 (0 : Int32)).bind fun v11 =>
  (f_wr m10 156 2420 (0 : Int32) (v11 + (1 : Int32))).bind fun m12 =>
  (f_rd m12 156 2420 (10 : Int32)).bind fun v13 =>
  (f_lp (fun (s14 : Int32 × f_M) =>
   (f_rd s14.2 156 2420 (3 : Int32)).bind fun v15 =>
   if v15 ≤ s14.1 then (
    some (.inr s14.2)
   ) else (
    (g_136 s14.1 s14.2).bind fun t16 =>
    some (.inl ((s14.1 + (1 : Int32)), t16))
   )
  ) f_F ((0 : Int32), m12)).bind fun (x14 : f_M) =>
  (g_139  x14).bind fun t18 =>
  (f_rd t18 156 2420 (10 : Int32)).bind fun v19 =>
  some ((v19 - v13), t18)
set_option maxRecDepth 4000 in
theorem G_140 {xs : Nat → Int32} {L N : Nat} (hN : 166 ≤ N) (a1 : Int32) (a2 : Int32)  (σ : f_M) : f_Cal a_MT xs L N 140 [.ref 155, .int a1, .int a2] σ ((g_140 a1 a2 σ).bind fun t => some (e_wi t)) := by
  refine f_cal_of (ls := [.ref 155, .int a1, .int a2, a_dead, a_dead]) MT_140 (Nat.le_of_ble_eq_true rfl) rfl ?_
  unfold g_140
  refine i_aload_n (pc' := 1) (f_at inc_140 (j := 0) rfl) rfl rfl ?_
  refine i_getR (pc' := 4) (f_at inc_140 (j := 1) rfl) sh_155 rfl (f_lt (o := 155) (m := 166) (Nat.le_of_ble_eq_true rfl) hN) rfl ?_
  refine i_iconst (pc' := 5) (f_at inc_140 (j := 2) rfl) ci_0 rfl ?_
  refine i_iald (pc' := 6) (f_at inc_140 (j := 3) rfl) sh_156 (f_bg (Nat.le_of_ble_eq_true rfl)) (f_lt (o := 156) (m := 166) (Nat.le_of_ble_eq_true rfl) hN) rfl fun v1 => ?_
  refine s_join (J := 25) (fun (t2 : f_M) (u2 : Unit) => [.ref 155, .int a1, .int a2, a_dead, a_dead]) (fun t2 => []) (fun t2 => t2) ?_ ?_
  · intro t2 u2
    refine i_aload_n (pc' := 26) (f_at inc_140 (j := 14) rfl) rfl rfl ?_
    refine i_getR (pc' := 29) (f_at inc_140 (j := 15) rfl) sh_155 rfl (f_lt (o := 155) (m := 166) (Nat.le_of_ble_eq_true rfl) hN) rfl ?_
    refine i_sipush (pc' := 32) (f_at inc_140 (j := 16) rfl) cs_420 rfl ?_
    refine i_aload_n (pc' := 33) (f_at inc_140 (j := 17) rfl) rfl rfl ?_
    refine i_getR (pc' := 36) (f_at inc_140 (j := 18) rfl) sh_155 rfl (f_lt (o := 155) (m := 166) (Nat.le_of_ble_eq_true rfl) hN) rfl ?_
    refine i_iconst (pc' := 37) (f_at inc_140 (j := 19) rfl) ci_0 rfl ?_
    refine i_iald (pc' := 38) (f_at inc_140 (j := 20) rfl) sh_156 (f_bg (Nat.le_of_ble_eq_true rfl)) (f_lt (o := 156) (m := 166) (Nat.le_of_ble_eq_true rfl) hN) rfl fun v7 => ?_
    refine i_iadd (pc' := 39) (f_at inc_140 (j := 21) rfl) rfl ?_
    refine i_iload_n (pc' := 40) (f_at inc_140 (j := 22) rfl) rfl rfl ?_
    refine i_iast (pc' := 41) (f_at inc_140 (j := 23) rfl) sh_156 (f_lt (o := 156) (m := 166) (Nat.le_of_ble_eq_true rfl) hN) rfl fun m8 => ?_
    refine i_aload_n (pc' := 42) (f_at inc_140 (j := 24) rfl) rfl rfl ?_
    refine i_getR (pc' := 45) (f_at inc_140 (j := 25) rfl) sh_155 rfl (f_lt (o := 155) (m := 166) (Nat.le_of_ble_eq_true rfl) hN) rfl ?_
    refine i_sipush (pc' := 48) (f_at inc_140 (j := 26) rfl) cs_1420 rfl ?_
    refine i_aload_n (pc' := 49) (f_at inc_140 (j := 27) rfl) rfl rfl ?_
    refine i_getR (pc' := 52) (f_at inc_140 (j := 28) rfl) sh_155 rfl (f_lt (o := 155) (m := 166) (Nat.le_of_ble_eq_true rfl) hN) rfl ?_
    refine i_iconst (pc' := 53) (f_at inc_140 (j := 29) rfl) ci_0 rfl ?_
    refine i_iald (pc' := 54) (f_at inc_140 (j := 30) rfl) sh_156 (f_bg (Nat.le_of_ble_eq_true rfl)) (f_lt (o := 156) (m := 166) (Nat.le_of_ble_eq_true rfl) hN) rfl fun v9 => ?_
    refine i_iadd (pc' := 55) (f_at inc_140 (j := 31) rfl) rfl ?_
    refine i_iload_n (pc' := 56) (f_at inc_140 (j := 32) rfl) rfl rfl ?_
    refine i_iast (pc' := 57) (f_at inc_140 (j := 33) rfl) sh_156 (f_lt (o := 156) (m := 166) (Nat.le_of_ble_eq_true rfl) hN) rfl fun m10 => ?_
    refine i_aload_n (pc' := 58) (f_at inc_140 (j := 34) rfl) rfl rfl ?_
    refine i_getR (pc' := 61) (f_at inc_140 (j := 35) rfl) sh_155 rfl (f_lt (o := 155) (m := 166) (Nat.le_of_ble_eq_true rfl) hN) rfl ?_
    refine i_iconst (pc' := 62) (f_at inc_140 (j := 36) rfl) ci_0 rfl ?_
    refine i_dup2 (pc' := 63) (f_at inc_140 (j := 37) rfl) ⟨rfl, rfl⟩ rfl ?_
    refine i_iald (pc' := 64) (f_at inc_140 (j := 38) rfl) sh_156 (f_bg (Nat.le_of_ble_eq_true rfl)) (f_lt (o := 156) (m := 166) (Nat.le_of_ble_eq_true rfl) hN) rfl fun v11 => ?_
    refine i_iconst (pc' := 65) (f_at inc_140 (j := 39) rfl) ci_1 rfl ?_
    refine i_iadd (pc' := 66) (f_at inc_140 (j := 40) rfl) rfl ?_
    refine i_iast (pc' := 67) (f_at inc_140 (j := 41) rfl) sh_156 (f_lt (o := 156) (m := 166) (Nat.le_of_ble_eq_true rfl) hN) rfl fun m12 => ?_
    refine i_aload_n (pc' := 68) (f_at inc_140 (j := 42) rfl) rfl rfl ?_
    refine i_getR (pc' := 71) (f_at inc_140 (j := 43) rfl) sh_155 rfl (f_lt (o := 155) (m := 166) (Nat.le_of_ble_eq_true rfl) hN) rfl ?_
    refine i_bipush (pc' := 73) (f_at inc_140 (j := 44) rfl) cb_10 rfl ?_
    refine i_iald (pc' := 74) (f_at inc_140 (j := 45) rfl) sh_156 (f_bg (Nat.le_of_ble_eq_true rfl)) (f_lt (o := 156) (m := 166) (Nat.le_of_ble_eq_true rfl) hN) rfl fun v13 => ?_
    refine i_istore_n (pc' := 75) (ls' := [.ref 155, .int a1, .int a2, .int v13, a_dead]) (f_at inc_140 (j := 46) rfl) (Nat.le_of_ble_eq_true rfl) rfl rfl ?_
    refine i_iconst (pc' := 76) (f_at inc_140 (j := 47) rfl) ci_0 rfl ?_
    refine i_istore (pc' := 78) (ls' := [.ref 155, .int a1, .int a2, .int v13, .int (0 : Int32)]) (f_at inc_140 (j := 48) rfl) (Nat.le_of_ble_eq_true rfl) rfl rfl ?_
    refine s_lX (X := 101) ((0 : Int32), m12) () (fun (s14 : Int32 × f_M) (u14 : Unit) => [.ref 155, .int a1, .int a2, .int v13, .int s14.1]) (fun (s14 : Int32 × f_M) => s14.2) (fun (x14 : f_M) (w14 : Value) => [.ref 155, .int a1, .int a2, .int v13, w14]) (fun (x14 : f_M) => x14) ?_ ?_
    · intro x14 w14
      refine i_aload_n (pc' := 102) (f_at inc_140 (j := 60) rfl) rfl rfl ?_
      refine c_wv (pc' := 105) (c' := 0) (n' := 0) (h_virt (ra := [.ref 155]) (r := []) (as := []) (f_at inc_140 (j := 61) rfl) (by decide) MT_139 rfl rfl rfl ⟨Nat.le_of_ble_eq_true rfl, Nat.le_of_ble_eq_true rfl, Nat.le_of_ble_eq_true rfl⟩ sh_155 (f_lt (o := 155) (m := 166) (Nat.le_of_ble_eq_true rfl) hN)) MT_139 (G_139 hN  x14) ⟨rfl, rfl, rfl⟩ fun t18 => ?_
      refine i_aload_n (pc' := 106) (f_at inc_140 (j := 62) rfl) rfl rfl ?_
      refine i_getR (pc' := 109) (f_at inc_140 (j := 63) rfl) sh_155 rfl (f_lt (o := 155) (m := 166) (Nat.le_of_ble_eq_true rfl) hN) rfl ?_
      refine i_bipush (pc' := 111) (f_at inc_140 (j := 64) rfl) cb_10 rfl ?_
      refine i_iald (pc' := 112) (f_at inc_140 (j := 65) rfl) sh_156 (f_bg (Nat.le_of_ble_eq_true rfl)) (f_lt (o := 156) (m := 166) (Nat.le_of_ble_eq_true rfl) hN) rfl fun v19 => ?_
      refine i_iload_n (pc' := 113) (f_at inc_140 (j := 66) rfl) rfl rfl ?_
      refine i_isub (pc' := 114) (f_at inc_140 (j := 67) rfl) rfl ?_
      exact i_iret (f_at inc_140 (j := 68) rfl) rfl n_int
    · intro s14 u14 k14 hb14 hx14
      refine i_iload (pc' := 80) (f_at inc_140 (j := 49) rfl) rfl rfl ?_
      refine i_aload_n (pc' := 81) (f_at inc_140 (j := 50) rfl) rfl rfl ?_
      refine i_getR (pc' := 84) (f_at inc_140 (j := 51) rfl) sh_155 rfl (f_lt (o := 155) (m := 166) (Nat.le_of_ble_eq_true rfl) hN) rfl ?_
      refine i_iconst (pc' := 85) (f_at inc_140 (j := 52) rfl) ci_3 rfl ?_
      refine i_iald (pc' := 86) (f_at inc_140 (j := 53) rfl) sh_156 (f_bg (Nat.le_of_ble_eq_true rfl)) (f_lt (o := 156) (m := 166) (Nat.le_of_ble_eq_true rfl) hN) rfl fun v15 => ?_
      refine i_if2 (pc' := 101) (nx := 89) c2_ge (f_at inc_140 (j := 54) rfl) ⟨by decide, rfl⟩ (fun b17 => ?_) (fun b17 => ?_)
      · exact hx14 s14.2 (.int s14.1)
      · refine i_aload_n (pc' := 90) (f_at inc_140 (j := 55) rfl) rfl rfl ?_
        refine i_iload (pc' := 92) (f_at inc_140 (j := 56) rfl) rfl rfl ?_
        refine c_wv (pc' := 95) (c' := 0) (n' := 0) (h_virt (ra := [.int s14.1, .ref 155]) (r := []) (as := [.int s14.1]) (f_at inc_140 (j := 57) rfl) (by decide) MT_136 rfl rfl rfl ⟨Nat.le_of_ble_eq_true rfl, Nat.le_of_ble_eq_true rfl, Nat.le_of_ble_eq_true rfl⟩ sh_155 (f_lt (o := 155) (m := 166) (Nat.le_of_ble_eq_true rfl) hN)) MT_136 (G_136 hN s14.1 s14.2) ⟨rfl, rfl, rfl⟩ fun t16 => ?_
        refine i_iinc (pc' := 98) (ls' := [.ref 155, .int a1, .int a2, .int v13, .int (s14.1 + (1 : Int32))]) (f_at inc_140 (j := 58) rfl) rfl ci_1 rfl rfl ?_
        refine i_goto (pc' := 78) (f_at inc_140 (j := 59) rfl) (by decide) ?_
        exact hb14 ((s14.1 + (1 : Int32)), t16) ()
  · intro k2 hj2
    refine i_if0 (pc' := 25) (nx := 9) c0_le (f_at inc_140 (j := 4) rfl) ⟨by decide, rfl⟩ (fun b6 => ?_) (fun b6 => ?_)
    · exact hj2 σ ()
    · refine i_aload_n (pc' := 10) (f_at inc_140 (j := 5) rfl) rfl rfl ?_
      refine i_getR (pc' := 13) (f_at inc_140 (j := 6) rfl) sh_155 rfl (f_lt (o := 155) (m := 166) (Nat.le_of_ble_eq_true rfl) hN) rfl ?_
      refine i_iconst (pc' := 14) (f_at inc_140 (j := 7) rfl) ci_0 rfl ?_
      refine i_iald (pc' := 15) (f_at inc_140 (j := 8) rfl) sh_156 (f_bg (Nat.le_of_ble_eq_true rfl)) (f_lt (o := 156) (m := 166) (Nat.le_of_ble_eq_true rfl) hN) rfl fun v3 => ?_
      refine i_bipush (pc' := 17) (f_at inc_140 (j := 9) rfl) cb_24 rfl ?_
      refine i_irem (pc' := 18) (f_at inc_140 (j := 10) rfl) (by decide) rfl ?_
      refine i_if0 (pc' := 25) (nx := 21) c0_ne (f_at inc_140 (j := 11) rfl) ⟨by decide, rfl⟩ (fun b5 => ?_) (fun b5 => ?_)
      · exact hj2 σ ()
      · refine i_aload_n (pc' := 22) (f_at inc_140 (j := 12) rfl) rfl rfl ?_
        refine c_wv (pc' := 25) (c' := 0) (n' := 0) (h_virt (ra := [.ref 155]) (r := []) (as := []) (f_at inc_140 (j := 13) rfl) (by decide) MT_125 rfl rfl rfl ⟨Nat.le_of_ble_eq_true rfl, Nat.le_of_ble_eq_true rfl, Nat.le_of_ble_eq_true rfl⟩ sh_155 (f_lt (o := 155) (m := 166) (Nat.le_of_ble_eq_true rfl) hN)) MT_125 (G_125 hN  σ) ⟨rfl, rfl, rfl⟩ fun t4 => ?_
        exact hj2 t4 ()
