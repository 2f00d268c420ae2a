/-! Flat programs. -/
set_option maxRecDepth 4000 in
def g_346 (a1 : Int32) (σ : f_M) : Option (Int32 × f_M) :=
  (g_345 a1 σ).bind (f_xe (fun v1 m1 =>
   (f_wr m1 167 1 (0 : Int32) v1).bind fun m2 =>
   some ((0 : Int32), m2)
  ) (fun k1 m1 => (f_hc [(0, 1)] k1).bind fun v => some (v, m1)))
set_option maxRecDepth 4000 in
theorem G_346 {xs : Nat → Int32} {L N : Nat} (hN : 168 ≤ N) (a1 : Int32)  (σ : f_M) : f_Cal a_MT xs L N 346 [.ref 0, .int a1, .ref 167] σ ((g_346 a1 σ).bind fun t => some (e_wi t)) := by
  refine f_cal_of (ls := [.ref 0, .int a1, .ref 167, a_dead]) MT_346 (Nat.le_of_ble_eq_true rfl) rfl ?_
  unfold g_346
  refine i_aload_n (pc' := 1) (f_at inc_346 (j := 0) rfl) rfl rfl ?_
  refine i_iconst (pc' := 2) (f_at inc_346 (j := 1) rfl) ci_0 rfl ?_
  refine i_aload_n (pc' := 3) (f_at inc_346 (j := 2) rfl) rfl rfl ?_
  refine i_iload_n (pc' := 4) (f_at inc_346 (j := 3) rfl) rfl rfl ?_
  refine c_xi (pc' := 7) (c' := 0) (n' := 0) (h_virt (ra := [.int a1, .ref 0]) (r := [.int (0 : Int32), .ref 167]) (as := [.int a1]) (f_at inc_346 (j := 4) rfl) (by decide) MT_345 rfl rfl rfl ⟨Nat.le_of_ble_eq_true rfl, Nat.le_of_ble_eq_true rfl, Nat.le_of_ble_eq_true rfl⟩ sh_0 (f_lt (o := 0) (m := 168) (Nat.le_of_ble_eq_true rfl) hN)) MT_345 (G_345 (Nat.le_trans (Nat.le_of_ble_eq_true rfl) hN) a1 σ) ⟨rfl, rfl, rfl⟩ (fun k s w h => x_hdl (l := [(0, 1)]) (by decide +kernel) h) fun v1 m1 => ?_
  refine i_i2l (pc' := 8) (f_at inc_346 (j := 5) rfl) rfl ?_
  refine i_last (pc' := 9) (f_at inc_346 (j := 6) rfl) sh_167 rfl (f_lt (o := 167) (m := 168) (Nat.le_of_ble_eq_true rfl) hN) rfl fun m2 => ?_
  refine i_goto (pc' := 15) (f_at inc_346 (j := 7) rfl) (by decide) ?_
  refine i_iconst (pc' := 16) (f_at inc_346 (j := 11) rfl) ci_0 rfl ?_
  exact i_iret (f_at inc_346 (j := 12) rfl) rfl n_int
set_option maxRecDepth 4000 in
def g_347 (a1 : Int32) (σ : f_M) : Option (f_M) :=
  (f_wr σ 165 40 (σ 155 24) ((a1).toInt8.toInt32).toInt8.toInt32).bind fun m1 =>
  some (f_up m1 155 24 ((m1 155 24) + (1 : Int32)))
set_option maxRecDepth 4000 in
theorem G_347 {xs : Nat → Int32} {L N : Nat} (hN : 166 ≤ N) (a1 : Int32)  (σ : f_M) : f_Cal a_MT xs L N 347 [.ref 155, .int a1] σ ((g_347 a1 σ).bind fun t => some (e_wv t)) := by
  refine f_cal_of (ls := [.ref 155, .int a1]) MT_347 (Nat.le_of_ble_eq_true rfl) rfl ?_
  unfold g_347
  refine i_aload_n (pc' := 1) (f_at inc_347 (j := 0) rfl) rfl rfl ?_
  refine i_getR (pc' := 4) (f_at inc_347 (j := 1) rfl) sh_155 rfl (f_lt (o := 155) (m := 166) (Nat.le_of_ble_eq_true rfl) hN) rfl ?_
  refine i_aload_n (pc' := 5) (f_at inc_347 (j := 2) rfl) rfl rfl ?_
  refine i_getI (pc' := 8) (f_at inc_347 (j := 3) rfl) sh_155 rfl (f_lt (o := 155) (m := 166) (Nat.le_of_ble_eq_true rfl) hN) rfl ?_
  refine i_iload_n (pc' := 9) (f_at inc_347 (j := 4) rfl) rfl rfl ?_
  refine i_i2b (pc' := 10) (f_at inc_347 (j := 5) rfl) rfl ?_
  refine i_bast (pc' := 11) (f_at inc_347 (j := 6) rfl) sh_165 (Or.inl rfl) rfl (f_lt (o := 165) (m := 166) (Nat.le_of_ble_eq_true rfl) hN) rfl fun m1 => ?_
  refine i_aload_n (pc' := 12) (f_at inc_347 (j := 7) rfl) rfl rfl ?_
  refine i_dup (pc' := 13) (f_at inc_347 (j := 8) rfl) rfl rfl ?_
  refine i_getI (pc' := 16) (f_at inc_347 (j := 9) rfl) sh_155 rfl (f_lt (o := 155) (m := 166) (Nat.le_of_ble_eq_true rfl) hN) rfl ?_
  refine i_iconst (pc' := 17) (f_at inc_347 (j := 10) rfl) ci_1 rfl ?_
  refine i_iadd (pc' := 18) (f_at inc_347 (j := 11) rfl) rfl ?_
  refine i_putI (pc' := 21) (f_at inc_347 (j := 12) rfl) sh_155 rfl ⟨rfl, rfl⟩ (f_lt (o := 155) (m := 166) (Nat.le_of_ble_eq_true rfl) hN) rfl ?_
  exact i_vret (f_at inc_347 (j := 13) rfl) rfl
set_option maxRecDepth 4000 in
def g_348 (a1 : Int32) (σ : f_M) : Option (f_M) :=
  (f_lp (fun (s1 : Int32) =>
   if s1 = 0 then none else
   if (a1 / s1) ≤ (9 : Int32) then (
    some (.inr s1)
   ) else (
    some (.inl (s1 * (10 : Int32)))
   )
  ) f_F (1 : Int32)).bind fun (x1 : Int32) =>
  (f_lp (fun (s4 : Int32 × f_M) =>
   if s4.1 ≤ 0 then (
    some (.inr s4.2)
   ) else (
    if s4.1 = 0 then none else
    (g_347 ((48 : Int32) + ((a1 / s4.1) - (a1 / s4.1) / (10 : Int32) * (10 : Int32))) s4.2).bind fun t6 =>
    some (.inl ((s4.1 / (10 : Int32)), t6))
   )
  ) f_F (x1, σ)).bind fun (x4 : f_M) =>
  some x4
set_option maxRecDepth 4000 in
theorem G_348 {xs : Nat → Int32} {L N : Nat} (hN : 166 ≤ N) (a1 : Int32)  (σ : f_M) : f_Cal a_MT xs L N 348 [.ref 155, .int a1] σ ((g_348 a1 σ).bind fun t => some (e_wv t)) := by
  refine f_cal_of (ls := [.ref 155, .int a1, a_dead]) MT_348 (Nat.le_of_ble_eq_true rfl) rfl ?_
  unfold g_348
  refine i_iconst (pc' := 1) (f_at inc_348 (j := 0) rfl) ci_1 rfl ?_
  refine i_istore_n (pc' := 2) (ls' := [.ref 155, .int a1, .int (1 : Int32)]) (f_at inc_348 (j := 1) rfl) (Nat.le_of_ble_eq_true rfl) rfl rfl ?_
  refine s_lX (X := 18) (1 : Int32) () (fun (s1 : Int32) (u1 : Unit) => [.ref 155, .int a1, .int s1]) (fun (s1 : Int32) => σ) (fun (x1 : Int32) (w1 : Unit) => [.ref 155, .int a1, .int x1]) (fun (x1 : Int32) => σ) ?_ ?_
  · intro x1 w1
    refine s_lX (X := 43) (x1, σ) () (fun (s4 : Int32 × f_M) (u4 : Unit) => [.ref 155, .int a1, .int s4.1]) (fun (s4 : Int32 × f_M) => s4.2) (fun (x4 : f_M) (w4 : Value) => [.ref 155, .int a1, w4]) (fun (x4 : f_M) => x4) ?_ ?_
    · intro x4 w4
      exact i_vret (f_at inc_348 (j := 28) rfl) rfl
    · intro s4 u4 k4 hb4 hx4
      refine i_iload_n (pc' := 19) (f_at inc_348 (j := 12) rfl) rfl rfl ?_
      refine i_if0 (pc' := 43) (nx := 22) c0_le (f_at inc_348 (j := 13) rfl) ⟨by decide, rfl⟩ (fun b7 => ?_) (fun b7 => ?_)
      · exact hx4 s4.2 (.int s4.1)
      · refine i_aload_n (pc' := 23) (f_at inc_348 (j := 14) rfl) rfl rfl ?_
        refine i_bipush (pc' := 25) (f_at inc_348 (j := 15) rfl) cb_48 rfl ?_
        refine i_iload_n (pc' := 26) (f_at inc_348 (j := 16) rfl) rfl rfl ?_
        refine i_iload_n (pc' := 27) (f_at inc_348 (j := 17) rfl) rfl rfl ?_
        refine i_grn fun h5 => ?_
        refine i_idiv (pc' := 28) (f_at inc_348 (j := 18) rfl) h5 rfl ?_
        refine i_bipush (pc' := 30) (f_at inc_348 (j := 19) rfl) cb_10 rfl ?_
        refine i_irem (pc' := 31) (f_at inc_348 (j := 20) rfl) (by decide) rfl ?_
        refine i_iadd (pc' := 32) (f_at inc_348 (j := 21) rfl) rfl ?_
        refine c_wv (pc' := 35) (c' := 0) (n' := 0) (h_virt (ra := [.int ((48 : Int32) + ((a1 / s4.1) - (a1 / s4.1) / (10 : Int32) * (10 : Int32))), .ref 155]) (r := []) (as := [.int ((48 : Int32) + ((a1 / s4.1) - (a1 / s4.1) / (10 : Int32) * (10 : Int32)))]) (f_at inc_348 (j := 22) rfl) (by decide) MT_347 rfl rfl rfl ⟨Nat.le_of_ble_eq_true rfl, Nat.le_of_ble_eq_true rfl, Nat.le_of_ble_eq_true rfl⟩ sh_155 (f_lt (o := 155) (m := 166) (Nat.le_of_ble_eq_true rfl) hN)) MT_347 (G_347 hN ((48 : Int32) + ((a1 / s4.1) - (a1 / s4.1) / (10 : Int32) * (10 : Int32))) s4.2) ⟨rfl, rfl, rfl⟩ fun t6 => ?_
        refine i_iload_n (pc' := 36) (f_at inc_348 (j := 23) rfl) rfl rfl ?_
        refine i_bipush (pc' := 38) (f_at inc_348 (j := 24) rfl) cb_10 rfl ?_
        refine i_idiv (pc' := 39) (f_at inc_348 (j := 25) rfl) (by decide) rfl ?_
        refine i_istore_n (pc' := 40) (ls' := [.ref 155, .int a1, .int (s4.1 / (10 : Int32))]) (f_at inc_348 (j := 26) rfl) (Nat.le_of_ble_eq_true rfl) rfl rfl ?_
        refine i_goto (pc' := 18) (f_at inc_348 (j := 27) rfl) (by decide) ?_
        exact hb4 ((s4.1 / (10 : Int32)), t6) ()
  · intro s1 u1 k1 hb1 hx1
    refine i_iload_n (pc' := 3) (f_at inc_348 (j := 2) rfl) rfl rfl ?_
    refine i_iload_n (pc' := 4) (f_at inc_348 (j := 3) rfl) rfl rfl ?_
    refine i_grn fun h2 => ?_
    refine i_idiv (pc' := 5) (f_at inc_348 (j := 4) rfl) h2 rfl ?_
    refine i_bipush (pc' := 7) (f_at inc_348 (j := 5) rfl) cb_9 rfl ?_
    refine i_if2 (pc' := 18) (nx := 10) c2_le (f_at inc_348 (j := 6) rfl) ⟨by decide, rfl⟩ (fun b3 => ?_) (fun b3 => ?_)
    · exact hx1 s1 ()
    · refine i_iload_n (pc' := 11) (f_at inc_348 (j := 7) rfl) rfl rfl ?_
      refine i_bipush (pc' := 13) (f_at inc_348 (j := 8) rfl) cb_10 rfl ?_
      refine i_imul (pc' := 14) (f_at inc_348 (j := 9) rfl) rfl ?_
      refine i_istore_n (pc' := 15) (ls' := [.ref 155, .int a1, .int (s1 * (10 : Int32))]) (f_at inc_348 (j := 10) rfl) (Nat.le_of_ble_eq_true rfl) rfl rfl ?_
      refine i_goto (pc' := 2) (f_at inc_348 (j := 11) rfl) (by decide) ?_
      exact hb1 (s1 * (10 : Int32)) ()
set_option maxRecDepth 4000 in
def g_349 (a1 : Int32) (σ : f_M) : Option (Int32 × f_M) :=
  (g_233 a1 σ).bind fun t1 =>
  (g_176 t1 true true σ).bind fun t2 =>
  if t2.1 = true then (
   (g_126 a1 (f_up t2.2 155 24 (0 : Int32))).bind fun t3 =>
   (f_rd (f_up t2.2 155 24 (0 : Int32)) 156 2420 (t3 + (0 : Int32))).bind fun v4 =>
   (g_119 v4 (f_up t2.2 155 24 (0 : Int32))).bind fun t5 =>
   (f_rd (f_up t2.2 155 24 (0 : Int32)) 156 2420 (t5 + (1 : Int32))).bind fun v6 =>
   (g_36 v6 (f_up t2.2 155 24 (0 : Int32))).bind fun t7 =>
   (f_lp (fun (s8 : Int32 × f_M) =>
    (f_rd s8.2 156 2420 t7).bind fun v9 =>
    if v9 ≤ s8.1 then (
     some (.inr s8.2)
    ) else (
     (f_rd s8.2 156 2420 ((t7 + (1 : Int32)) + s8.1)).bind fun v10 =>
     (g_347 v10 s8.2).bind fun t11 =>
     some (.inl ((s8.1 + (1 : Int32)), t11))
    )
   ) f_F ((0 : Int32), (f_up t2.2 155 24 (0 : Int32)))).bind fun (x8 : f_M) =>
   (g_347 (47 : Int32) x8).bind fun t13 =>
   (g_119 v4 t13).bind fun t14 =>
   (f_rd t13 156 2420 (t14 + (0 : Int32))).bind fun v15 =>
   (
    if ¬ v15 = 0 then (
     some (112 : Int32)
    ) else (
     some (107 : Int32)
    )
   ).bind fun (t16 : Int32) =>
   (g_347 t16 t13).bind fun t18 =>
   (g_126 a1 t18).bind fun t19 =>
   (f_rd t18 156 2420 (t19 + (3 : Int32))).bind fun v20 =>
   (f_ch 10 v20).bind fun v21 =>
   (g_347 v21 t18).bind fun t22 =>
   (
    if v20 = (2 : Int32) then (
     (g_126 a1 t22).bind fun t24 =>
     (f_rd t22 156 2420 (t24 + (4 : Int32))).bind fun v25 =>
     (g_348 v25 t22).bind fun t26 =>
     some t26
    ) else (
     if ¬ v20 = (3 : Int32) then (
      some t22
     ) else (
      (g_126 a1 t22).bind fun t27 =>
      (f_rd t22 156 2420 (t27 + (4 : Int32))).bind fun v28 =>
      (g_348 v28 t22).bind fun t29 =>
      some t29
     )
    )
   ).bind fun (t23 : f_M) =>
   some ((t23 155 24), t23)
  ) else (
   some ((0 : Int32), t2.2)
  )
set_option maxRecDepth 4000 in
theorem G_349 {xs : Nat → Int32} {L N : Nat} (hN : 166 ≤ N) (a1 : Int32)  (σ : f_M) : f_Cal a_MT xs L N 349 [.ref 155, .int a1] σ ((g_349 a1 σ).bind fun t => some (e_wi t)) := by
  refine f_cal_of (ls := [.ref 155, .int a1, a_dead, a_dead, a_dead]) MT_349 (Nat.le_of_ble_eq_true rfl) rfl ?_
  unfold g_349
  refine i_aload_n (pc' := 1) (f_at inc_349 (j := 0) rfl) rfl rfl ?_
  refine i_aload_n (pc' := 2) (f_at inc_349 (j := 1) rfl) rfl rfl ?_
  refine i_iload_n (pc' := 3) (f_at inc_349 (j := 2) rfl) rfl rfl ?_
  refine c_pb (pc' := 6) (c' := 0) (n' := 0) (h_virt (ra := [.int a1, .ref 155]) (r := [.ref 155]) (as := [.int a1]) (f_at inc_349 (j := 3) rfl) (by decide) MT_233 rfl rfl rfl ⟨Nat.le_of_ble_eq_true rfl, Nat.le_of_ble_eq_true rfl, Nat.le_of_ble_eq_true rfl⟩ sh_155 (f_lt (o := 155) (m := 166) (Nat.le_of_ble_eq_true rfl) hN)) MT_233 (G_233 hN a1 σ) ⟨rfl, rfl, rfl⟩ fun t1 => ?_
  refine i_iconst (pc' := 7) (f_at inc_349 (j := 4) rfl) ci_1 rfl ?_
  refine i_iconst (pc' := 8) (f_at inc_349 (j := 5) rfl) ci_1 rfl ?_
  refine c_wb (pc' := 11) (c' := 0) (n' := 0) (h_virt (ra := [.int (1 : Int32), .int (1 : Int32), .int (f_b t1), .ref 155]) (r := []) (as := [.int (f_b t1), .int (1 : Int32), .int (1 : Int32)]) (f_at inc_349 (j := 6) rfl) (by decide) MT_176 rfl rfl rfl ⟨Nat.le_of_ble_eq_true rfl, Nat.le_of_ble_eq_true rfl, Nat.le_of_ble_eq_true rfl⟩ sh_155 (f_lt (o := 155) (m := 166) (Nat.le_of_ble_eq_true rfl) hN)) MT_176 (G_176 hN t1 true true σ) ⟨rfl, rfl, rfl⟩ fun t2 => ?_
  refine i_if0 (pc' := 16) (nx := 14) cb_ne (f_at inc_349 (j := 7) rfl) ⟨by decide, rfl⟩ (fun b32 => ?_) (fun b32 => ?_)
  · refine i_aload_n (pc' := 17) (f_at inc_349 (j := 10) rfl) rfl rfl ?_
    refine i_iconst (pc' := 18) (f_at inc_349 (j := 11) rfl) ci_0 rfl ?_
    refine i_putI (pc' := 21) (f_at inc_349 (j := 12) rfl) sh_155 rfl ⟨rfl, rfl⟩ (f_lt (o := 155) (m := 166) (Nat.le_of_ble_eq_true rfl) hN) rfl ?_
    refine i_aload_n (pc' := 22) (f_at inc_349 (j := 13) rfl) rfl rfl ?_
    refine i_getR (pc' := 25) (f_at inc_349 (j := 14) rfl) sh_155 rfl (f_lt (o := 155) (m := 166) (Nat.le_of_ble_eq_true rfl) hN) rfl ?_
    refine i_iload_n (pc' := 26) (f_at inc_349 (j := 15) rfl) rfl rfl ?_
    refine c_pi (pc' := 29) (c' := 0) (n' := 0) (h_stat (ra := [.int a1]) (r := [.ref 156]) (as := [.int a1]) (f_at inc_349 (j := 16) rfl) (by decide) MT_126 rfl rfl rfl ⟨Nat.le_of_ble_eq_true rfl, Nat.le_of_ble_eq_true rfl, Nat.le_of_ble_eq_true rfl⟩) MT_126 (G_126 hN a1 (f_up t2.2 155 24 (0 : Int32))) ⟨rfl, rfl, rfl⟩ fun t3 => ?_
    refine i_iconst (pc' := 30) (f_at inc_349 (j := 17) rfl) ci_0 rfl ?_
    refine i_iadd (pc' := 31) (f_at inc_349 (j := 18) rfl) rfl ?_
    refine i_iald (pc' := 32) (f_at inc_349 (j := 19) rfl) sh_156 (f_bg (Nat.le_of_ble_eq_true rfl)) (f_lt (o := 156) (m := 166) (Nat.le_of_ble_eq_true rfl) hN) rfl fun v4 => ?_
    refine i_istore_n (pc' := 33) (ls' := [.ref 155, .int a1, .int v4, a_dead, a_dead]) (f_at inc_349 (j := 20) rfl) (Nat.le_of_ble_eq_true rfl) rfl rfl ?_
    refine i_aload_n (pc' := 34) (f_at inc_349 (j := 21) rfl) rfl rfl ?_
    refine i_getR (pc' := 37) (f_at inc_349 (j := 22) rfl) sh_155 rfl (f_lt (o := 155) (m := 166) (Nat.le_of_ble_eq_true rfl) hN) rfl ?_
    refine i_iload_n (pc' := 38) (f_at inc_349 (j := 23) rfl) rfl rfl ?_
    refine c_pi (pc' := 41) (c' := 0) (n' := 0) (h_stat (ra := [.int v4]) (r := [.ref 156]) (as := [.int v4]) (f_at inc_349 (j := 24) rfl) (by decide) MT_119 rfl rfl rfl ⟨Nat.le_of_ble_eq_true rfl, Nat.le_of_ble_eq_true rfl, Nat.le_of_ble_eq_true rfl⟩) MT_119 (G_119 hN v4 (f_up t2.2 155 24 (0 : Int32))) ⟨rfl, rfl, rfl⟩ fun t5 => ?_
    refine i_iconst (pc' := 42) (f_at inc_349 (j := 25) rfl) ci_1 rfl ?_
    refine i_iadd (pc' := 43) (f_at inc_349 (j := 26) rfl) rfl ?_
    refine i_iald (pc' := 44) (f_at inc_349 (j := 27) rfl) sh_156 (f_bg (Nat.le_of_ble_eq_true rfl)) (f_lt (o := 156) (m := 166) (Nat.le_of_ble_eq_true rfl) hN) rfl fun v6 => ?_
    refine c_pi (pc' := 47) (c' := 0) (n' := 0) (h_stat (ra := [.int v6]) (r := []) (as := [.int v6]) (f_at inc_349 (j := 28) rfl) (by decide) MT_36 rfl rfl rfl ⟨Nat.le_of_ble_eq_true rfl, Nat.le_of_ble_eq_true rfl, Nat.le_of_ble_eq_true rfl⟩) MT_36 (G_36 hN v6 (f_up t2.2 155 24 (0 : Int32))) ⟨rfl, rfl, rfl⟩ fun t7 => ?_
    refine i_istore_n (pc' := 48) (ls' := [.ref 155, .int a1, .int v4, .int t7, a_dead]) (f_at inc_349 (j := 29) rfl) (Nat.le_of_ble_eq_true rfl) rfl rfl ?_
    refine i_iconst (pc' := 49) (f_at inc_349 (j := 30) rfl) ci_0 rfl ?_
    refine i_istore (pc' := 51) (ls' := [.ref 155, .int a1, .int v4, .int t7, .int (0 : Int32)]) (f_at inc_349 (j := 31) rfl) (Nat.le_of_ble_eq_true rfl) rfl rfl ?_
    refine s_lX (X := 83) ((0 : Int32), (f_up t2.2 155 24 (0 : Int32))) () (fun (s8 : Int32 × f_M) (u8 : Unit) => [.ref 155, .int a1, .int v4, .int t7, .int s8.1]) (fun (s8 : Int32 × f_M) => s8.2) (fun (x8 : f_M) (w8 : Value) => [.ref 155, .int a1, .int v4, .int t7, w8]) (fun (x8 : f_M) => x8) ?_ ?_
    · intro x8 w8
      refine i_aload_n (pc' := 84) (f_at inc_349 (j := 50) rfl) rfl rfl ?_
      refine i_bipush (pc' := 86) (f_at inc_349 (j := 51) rfl) cb_47 rfl ?_
      refine c_wv (pc' := 89) (c' := 0) (n' := 0) (h_virt (ra := [.int (47 : Int32), .ref 155]) (r := []) (as := [.int (47 : Int32)]) (f_at inc_349 (j := 52) rfl) (by decide) MT_347 rfl rfl rfl ⟨Nat.le_of_ble_eq_true rfl, Nat.le_of_ble_eq_true rfl, Nat.le_of_ble_eq_true rfl⟩ sh_155 (f_lt (o := 155) (m := 166) (Nat.le_of_ble_eq_true rfl) hN)) MT_347 (G_347 hN (47 : Int32) x8) ⟨rfl, rfl, rfl⟩ fun t13 => ?_
      refine i_aload_n (pc' := 90) (f_at inc_349 (j := 53) rfl) rfl rfl ?_
      refine i_aload_n (pc' := 91) (f_at inc_349 (j := 54) rfl) rfl rfl ?_
      refine i_getR (pc' := 94) (f_at inc_349 (j := 55) rfl) sh_155 rfl (f_lt (o := 155) (m := 166) (Nat.le_of_ble_eq_true rfl) hN) rfl ?_
      refine i_iload_n (pc' := 95) (f_at inc_349 (j := 56) rfl) rfl rfl ?_
      refine c_pi (pc' := 98) (c' := 0) (n' := 0) (h_stat (ra := [.int v4]) (r := [.ref 156, .ref 155]) (as := [.int v4]) (f_at inc_349 (j := 57) rfl) (by decide) MT_119 rfl rfl rfl ⟨Nat.le_of_ble_eq_true rfl, Nat.le_of_ble_eq_true rfl, Nat.le_of_ble_eq_true rfl⟩) MT_119 (G_119 hN v4 t13) ⟨rfl, rfl, rfl⟩ fun t14 => ?_
      refine i_iconst (pc' := 99) (f_at inc_349 (j := 58) rfl) ci_0 rfl ?_
      refine i_iadd (pc' := 100) (f_at inc_349 (j := 59) rfl) rfl ?_
      refine i_iald (pc' := 101) (f_at inc_349 (j := 60) rfl) sh_156 (f_bg (Nat.le_of_ble_eq_true rfl)) (f_lt (o := 156) (m := 166) (Nat.le_of_ble_eq_true rfl) hN) rfl fun v15 => ?_
      refine s_join (J := 111) (fun (t16 : Int32) (u16 : Unit) => [.ref 155, .int a1, .int v4, .int t7, w8]) (fun t16 => [.int t16, .ref 155]) (fun t16 => t13) ?_ ?_
      · intro t16 u16
        refine c_wv (pc' := 114) (c' := 0) (n' := 0) (h_virt (ra := [.int t16, .ref 155]) (r := []) (as := [.int t16]) (f_at inc_349 (j := 65) rfl) (by decide) MT_347 rfl rfl rfl ⟨Nat.le_of_ble_eq_true rfl, Nat.le_of_ble_eq_true rfl, Nat.le_of_ble_eq_true rfl⟩ sh_155 (f_lt (o := 155) (m := 166) (Nat.le_of_ble_eq_true rfl) hN)) MT_347 (G_347 hN t16 t13) ⟨rfl, rfl, rfl⟩ fun t18 => ?_
        refine i_aload_n (pc' := 115) (f_at inc_349 (j := 66) rfl) rfl rfl ?_
        refine i_getR (pc' := 118) (f_at inc_349 (j := 67) rfl) sh_155 rfl (f_lt (o := 155) (m := 166) (Nat.le_of_ble_eq_true rfl) hN) rfl ?_
        refine i_iload_n (pc' := 119) (f_at inc_349 (j := 68) rfl) rfl rfl ?_
        refine c_pi (pc' := 122) (c' := 0) (n' := 0) (h_stat (ra := [.int a1]) (r := [.ref 156]) (as := [.int a1]) (f_at inc_349 (j := 69) rfl) (by decide) MT_126 rfl rfl rfl ⟨Nat.le_of_ble_eq_true rfl, Nat.le_of_ble_eq_true rfl, Nat.le_of_ble_eq_true rfl⟩) MT_126 (G_126 hN a1 t18) ⟨rfl, rfl, rfl⟩ fun t19 => ?_
        refine i_iconst (pc' := 123) (f_at inc_349 (j := 70) rfl) ci_3 rfl ?_
        refine i_iadd (pc' := 124) (f_at inc_349 (j := 71) rfl) rfl ?_
        refine i_iald (pc' := 125) (f_at inc_349 (j := 72) rfl) sh_156 (f_bg (Nat.le_of_ble_eq_true rfl)) (f_lt (o := 156) (m := 166) (Nat.le_of_ble_eq_true rfl) hN) rfl fun v20 => ?_
        refine i_istore (pc' := 127) (ls' := [.ref 155, .int a1, .int v4, .int t7, .int v20]) (f_at inc_349 (j := 73) rfl) (Nat.le_of_ble_eq_true rfl) rfl rfl ?_
        refine i_aload_n (pc' := 128) (f_at inc_349 (j := 74) rfl) rfl rfl ?_
        refine i_ldc_w (pc' := 131) (f_at inc_349 (j := 75) rfl) rfl ?_
        refine i_iload (pc' := 133) (f_at inc_349 (j := 76) rfl) rfl rfl ?_
        refine i_scha (pc' := 136) (f_at inc_349 (j := 77) rfl) (by decide) (Nat.le_of_ble_eq_true rfl) rfl fun v21 => ?_
        refine c_wv (pc' := 139) (c' := 0) (n' := 0) (h_virt (ra := [.int v21, .ref 155]) (r := []) (as := [.int v21]) (f_at inc_349 (j := 78) rfl) (by decide) MT_347 rfl rfl rfl ⟨Nat.le_of_ble_eq_true rfl, Nat.le_of_ble_eq_true rfl, Nat.le_of_ble_eq_true rfl⟩ sh_155 (f_lt (o := 155) (m := 166) (Nat.le_of_ble_eq_true rfl) hN)) MT_347 (G_347 hN v21 t18) ⟨rfl, rfl, rfl⟩ fun t22 => ?_
        refine i_iload (pc' := 141) (f_at inc_349 (j := 79) rfl) rfl rfl ?_
        refine i_iconst (pc' := 142) (f_at inc_349 (j := 80) rfl) ci_2 rfl ?_
        refine s_join (J := 166) (fun (t23 : f_M) (u23 : Unit) => [.ref 155, .int a1, .int v4, .int t7, .int v20]) (fun t23 => []) (fun t23 => t23) ?_ ?_
        · intro t23 u23
          refine i_aload_n (pc' := 167) (f_at inc_349 (j := 94) rfl) rfl rfl ?_
          refine i_getI (pc' := 170) (f_at inc_349 (j := 95) rfl) sh_155 rfl (f_lt (o := 155) (m := 166) (Nat.le_of_ble_eq_true rfl) hN) rfl ?_
          exact i_iret (f_at inc_349 (j := 96) rfl) rfl n_int
        · intro k23 hj23
          refine i_if2 (pc' := 151) (nx := 145) c2_eq (f_at inc_349 (j := 81) rfl) ⟨by decide, rfl⟩ (fun b31 => ?_) (fun b31 => ?_)
          · refine i_aload_n (pc' := 152) (f_at inc_349 (j := 85) rfl) rfl rfl ?_
            refine i_aload_n (pc' := 153) (f_at inc_349 (j := 86) rfl) rfl rfl ?_
            refine i_getR (pc' := 156) (f_at inc_349 (j := 87) rfl) sh_155 rfl (f_lt (o := 155) (m := 166) (Nat.le_of_ble_eq_true rfl) hN) rfl ?_
            refine i_iload_n (pc' := 157) (f_at inc_349 (j := 88) rfl) rfl rfl ?_
            refine c_pi (pc' := 160) (c' := 0) (n' := 0) (h_stat (ra := [.int a1]) (r := [.ref 156, .ref 155]) (as := [.int a1]) (f_at inc_349 (j := 89) rfl) (by decide) MT_126 rfl rfl rfl ⟨Nat.le_of_ble_eq_true rfl, Nat.le_of_ble_eq_true rfl, Nat.le_of_ble_eq_true rfl⟩) MT_126 (G_126 hN a1 t22) ⟨rfl, rfl, rfl⟩ fun t24 => ?_
            refine i_iconst (pc' := 161) (f_at inc_349 (j := 90) rfl) ci_4 rfl ?_
            refine i_iadd (pc' := 162) (f_at inc_349 (j := 91) rfl) rfl ?_
            refine i_iald (pc' := 163) (f_at inc_349 (j := 92) rfl) sh_156 (f_bg (Nat.le_of_ble_eq_true rfl)) (f_lt (o := 156) (m := 166) (Nat.le_of_ble_eq_true rfl) hN) rfl fun v25 => ?_
            refine c_wv (pc' := 166) (c' := 0) (n' := 0) (h_virt (ra := [.int v25, .ref 155]) (r := []) (as := [.int v25]) (f_at inc_349 (j := 93) rfl) (by decide) MT_348 rfl rfl rfl ⟨Nat.le_of_ble_eq_true rfl, Nat.le_of_ble_eq_true rfl, Nat.le_of_ble_eq_true rfl⟩ sh_155 (f_lt (o := 155) (m := 166) (Nat.le_of_ble_eq_true rfl) hN)) MT_348 (G_348 hN v25 t22) ⟨rfl, rfl, rfl⟩ fun t26 => ?_
            exact hj23 t26 ()
          · refine i_iload (pc' := 147) (f_at inc_349 (j := 82) rfl) rfl rfl ?_
            refine i_iconst (pc' := 148) (f_at inc_349 (j := 83) rfl) ci_3 rfl ?_
            refine i_if2 (pc' := 166) (nx := 151) c2_ne (f_at inc_349 (j := 84) rfl) ⟨by decide, rfl⟩ (fun b30 => ?_) (fun b30 => ?_)
            · exact hj23 t22 ()
            · refine i_aload_n (pc' := 152) (f_at inc_349 (j := 85) rfl) rfl rfl ?_
              refine i_aload_n (pc' := 153) (f_at inc_349 (j := 86) rfl) rfl rfl ?_
              refine i_getR (pc' := 156) (f_at inc_349 (j := 87) rfl) sh_155 rfl (f_lt (o := 155) (m := 166) (Nat.le_of_ble_eq_true rfl) hN) rfl ?_
              refine i_iload_n (pc' := 157) (f_at inc_349 (j := 88) rfl) rfl rfl ?_
              refine c_pi (pc' := 160) (c' := 0) (n' := 0) (h_stat (ra := [.int a1]) (r := [.ref 156, .ref 155]) (as := [.int a1]) (f_at inc_349 (j := 89) rfl) (by decide) MT_126 rfl rfl rfl ⟨Nat.le_of_ble_eq_true rfl, Nat.le_of_ble_eq_true rfl, Nat.le_of_ble_eq_true rfl⟩) MT_126 (G_126 hN a1 t22) ⟨rfl, rfl, rfl⟩ fun t27 => ?_
              refine i_iconst (pc' := 161) (f_at inc_349 (j := 90) rfl) ci_4 rfl ?_
              refine i_iadd (pc' := 162) (f_at inc_349 (j := 91) rfl) rfl ?_
              refine i_iald (pc' := 163) (f_at inc_349 (j := 92) rfl) sh_156 (f_bg (Nat.le_of_ble_eq_true rfl)) (f_lt (o := 156) (m := 166) (Nat.le_of_ble_eq_true rfl) hN) rfl fun v28 => ?_
              refine c_wv (pc' := 166) (c' := 0) (n' := 0) (h_virt (ra := [.int v28, .ref 155]) (r := []) (as := [.int v28]) (f_at inc_349 (j := 93) rfl) (by decide) MT_348 rfl rfl rfl ⟨Nat.le_of_ble_eq_true rfl, Nat.le_of_ble_eq_true rfl, Nat.le_of_ble_eq_true rfl⟩ sh_155 (f_lt (o := 155) (m := 166) (Nat.le_of_ble_eq_true rfl) hN)) MT_348 (G_348 hN v28 t22) ⟨rfl, rfl, rfl⟩ fun t29 => ?_
              exact hj23 t29 ()
      · intro k16 hj16
        refine i_if0 (pc' := 109) (nx := 104) c0_ne (f_at inc_349 (j := 61) rfl) ⟨by decide, rfl⟩ (fun b17 => ?_) (fun b17 => ?_)
        · refine i_bipush (pc' := 111) (f_at inc_349 (j := 64) rfl) cb_112 rfl ?_
          exact hj16 (112 : Int32) ()
        · refine i_bipush (pc' := 106) (f_at inc_349 (j := 62) rfl) cb_107 rfl ?_
          refine i_goto (pc' := 111) (f_at inc_349 (j := 63) rfl) (by decide) ?_
          exact hj16 (107 : Int32) ()
    · intro s8 u8 k8 hb8 hx8
      refine i_iload (pc' := 53) (f_at inc_349 (j := 32) rfl) rfl rfl ?_
      refine i_aload_n (pc' := 54) (f_at inc_349 (j := 33) rfl) rfl rfl ?_
      refine i_getR (pc' := 57) (f_at inc_349 (j := 34) rfl) sh_155 rfl (f_lt (o := 155) (m := 166) (Nat.le_of_ble_eq_true rfl) hN) rfl ?_
      refine i_iload_n (pc' := 58) (f_at inc_349 (j := 35) rfl) rfl rfl ?_
      refine i_iald (pc' := 59) (f_at inc_349 (j := 36) rfl) sh_156 (f_bg (Nat.le_of_ble_eq_true rfl)) (f_lt (o := 156) (m := 166) (Nat.le_of_ble_eq_true rfl) hN) rfl fun v9 => ?_
      refine i_if2 (pc' := 83) (nx := 62) c2_ge (f_at inc_349 (j := 37) rfl) ⟨by decide, rfl⟩ (fun b12 => ?_) (fun b12 => ?_)
      · exact hx8 s8.2 (.int s8.1)
      · refine i_aload_n (pc' := 63) (f_at inc_349 (j := 38) rfl) rfl rfl ?_
        refine i_aload_n (pc' := 64) (f_at inc_349 (j := 39) rfl) rfl rfl ?_
        refine i_getR (pc' := 67) (f_at inc_349 (j := 40) rfl) sh_155 rfl (f_lt (o := 155) (m := 166) (Nat.le_of_ble_eq_true rfl) hN) rfl ?_
        refine i_iload_n (pc' := 68) (f_at inc_349 (j := 41) rfl) rfl rfl ?_
        refine i_iconst (pc' := 69) (f_at inc_349 (j := 42) rfl) ci_1 rfl ?_
        refine i_iadd (pc' := 70) (f_at inc_349 (j := 43) rfl) rfl ?_
        refine i_iload (pc' := 72) (f_at inc_349 (j := 44) rfl) rfl rfl ?_
        refine i_iadd (pc' := 73) (f_at inc_349 (j := 45) rfl) rfl ?_
        refine i_iald (pc' := 74) (f_at inc_349 (j := 46) rfl) sh_156 (f_bg (Nat.le_of_ble_eq_true rfl)) (f_lt (o := 156) (m := 166) (Nat.le_of_ble_eq_true rfl) hN) rfl fun v10 => ?_
        refine c_wv (pc' := 77) (c' := 0) (n' := 0) (h_virt (ra := [.int v10, .ref 155]) (r := []) (as := [.int v10]) (f_at inc_349 (j := 47) rfl) (by decide) MT_347 rfl rfl rfl ⟨Nat.le_of_ble_eq_true rfl, Nat.le_of_ble_eq_true rfl, Nat.le_of_ble_eq_true rfl⟩ sh_155 (f_lt (o := 155) (m := 166) (Nat.le_of_ble_eq_true rfl) hN)) MT_347 (G_347 hN v10 s8.2) ⟨rfl, rfl, rfl⟩ fun t11 => ?_
        refine i_iinc (pc' := 80) (ls' := [.ref 155, .int a1, .int v4, .int t7, .int (s8.1 + (1 : Int32))]) (f_at inc_349 (j := 48) rfl) rfl ci_1 rfl rfl ?_
        refine i_goto (pc' := 51) (f_at inc_349 (j := 49) rfl) (by decide) ?_
        exact hb8 ((s8.1 + (1 : Int32)), t11) ()
  · refine i_iconst (pc' := 15) (f_at inc_349 (j := 8) rfl) ci_0 rfl ?_
    exact i_iret (f_at inc_349 (j := 9) rfl) rfl n_int
set_option maxRecDepth 4000 in
def g_350 (a1 : Int32) (σ : f_M) : Option (Int32) :=
  (
   if a1 < 0 then (
    some (-1 : Int32)
   ) else (
    if (σ 0 3) ≤ a1 then (
     some (-1 : Int32)
    ) else (
     (f_rd σ 2 16 a1).bind fun v2 =>
     some v2
    )
   )
  ).bind fun (t1 : Int32) =>
  some t1
set_option maxRecDepth 4000 in
theorem G_350 {xs : Nat → Int32} {L N : Nat} (hN : 155 ≤ N) (a1 : Int32)  (σ : f_M) : f_Cal a_MT xs L N 350 [.ref 0, .int a1] σ ((g_350 a1 σ).bind fun t => some (e_pi σ t)) := by
  refine f_cal_of (ls := [.ref 0, .int a1]) MT_350 (Nat.le_of_ble_eq_true rfl) rfl ?_
  unfold g_350
  refine i_iload_n (pc' := 1) (f_at inc_350 (j := 0) rfl) rfl rfl ?_
  refine s_join (J := 22) (fun (t1 : Int32) (u1 : Unit) => [.ref 0, .int a1]) (fun t1 => [.int t1]) (fun t1 => σ) ?_ ?_
  · intro t1 u1
    exact i_iret (f_at inc_350 (j := 12) rfl) rfl n_int
  · intro k1 hj1
    refine i_if0 (pc' := 21) (nx := 4) c0_lt (f_at inc_350 (j := 1) rfl) ⟨by decide, rfl⟩ (fun b4 => ?_) (fun b4 => ?_)
    · refine i_iconst (pc' := 22) (f_at inc_350 (j := 11) rfl) ci_m1 rfl ?_
      exact hj1 (-1 : Int32) ()
    · refine i_iload_n (pc' := 5) (f_at inc_350 (j := 2) rfl) rfl rfl ?_
      refine i_aload_n (pc' := 6) (f_at inc_350 (j := 3) rfl) rfl rfl ?_
      refine i_getI (pc' := 9) (f_at inc_350 (j := 4) rfl) sh_0 rfl (f_lt (o := 0) (m := 155) (Nat.le_of_ble_eq_true rfl) hN) rfl ?_
      refine i_if2 (pc' := 21) (nx := 12) c2_ge (f_at inc_350 (j := 5) rfl) ⟨by decide, rfl⟩ (fun b3 => ?_) (fun b3 => ?_)
      · refine i_iconst (pc' := 22) (f_at inc_350 (j := 11) rfl) ci_m1 rfl ?_
        exact hj1 (-1 : Int32) ()
      · refine i_aload_n (pc' := 13) (f_at inc_350 (j := 6) rfl) rfl rfl ?_
        refine i_getR (pc' := 16) (f_at inc_350 (j := 7) rfl) sh_0 rfl (f_lt (o := 0) (m := 155) (Nat.le_of_ble_eq_true rfl) hN) rfl ?_
        refine i_iload_n (pc' := 17) (f_at inc_350 (j := 8) rfl) rfl rfl ?_
        refine i_bald (pc' := 18) (f_at inc_350 (j := 9) rfl) sh_2 (Or.inl rfl) (f_bg (Nat.le_of_ble_eq_true rfl)) (f_lt (o := 2) (m := 155) (Nat.le_of_ble_eq_true rfl) hN) rfl fun v2 => ?_
        refine i_goto (pc' := 22) (f_at inc_350 (j := 10) rfl) (by decide) ?_
        exact hj1 v2 ()
set_option maxRecDepth 4000 in
def g_351 (a1 : Int32) (σ : f_M) : Option (Int32 × f_M) :=
  (g_46 (a1).toInt64 (0 : Int64) ((((f_up σ 155 6 (0 : Int32)) 155 24) - (1 : Int32))).toInt64 (f_up σ 155 6 (0 : Int32))).bind fun t1 =>
  (
   if t1 = false then (
    some (-1 : Int32)
   ) else (
    (f_rd (f_up σ 155 6 (0 : Int32)) 165 40 a1).bind fun v3 =>
    some v3
   )
  ).bind fun (t2 : Int32) =>
  some (t2, (f_up σ 155 6 (0 : Int32)))
set_option maxRecDepth 4000 in
theorem G_351 {xs : Nat → Int32} {L N : Nat} (hN : 166 ≤ N) (a1 : Int32)  (σ : f_M) : f_Cal a_MT xs L N 351 [.ref 155, .int a1] σ ((g_351 a1 σ).bind fun t => some (e_wi t)) := by
  refine f_cal_of (ls := [.ref 155, .int a1]) MT_351 (Nat.le_of_ble_eq_true rfl) rfl ?_
  unfold g_351
  refine i_aload_n (pc' := 1) (f_at inc_351 (j := 0) rfl) rfl rfl ?_
  refine i_iconst (pc' := 2) (f_at inc_351 (j := 1) rfl) ci_0 rfl ?_
  refine i_putI (pc' := 5) (f_at inc_351 (j := 2) rfl) sh_155 rfl ⟨rfl, rfl⟩ (f_lt (o := 155) (m := 166) (Nat.le_of_ble_eq_true rfl) hN) rfl ?_
  refine i_iload_n (pc' := 6) (f_at inc_351 (j := 3) rfl) rfl rfl ?_
  refine i_i2l (pc' := 7) (f_at inc_351 (j := 4) rfl) rfl ?_
  refine i_lconst (pc' := 8) (f_at inc_351 (j := 5) rfl) cl_0 rfl ?_
  refine i_aload_n (pc' := 9) (f_at inc_351 (j := 6) rfl) rfl rfl ?_
  refine i_getI (pc' := 12) (f_at inc_351 (j := 7) rfl) sh_155 rfl (f_lt (o := 155) (m := 166) (Nat.le_of_ble_eq_true rfl) hN) rfl ?_
  refine i_iconst (pc' := 13) (f_at inc_351 (j := 8) rfl) ci_1 rfl ?_
  refine i_isub (pc' := 14) (f_at inc_351 (j := 9) rfl) rfl ?_
  refine i_i2l (pc' := 15) (f_at inc_351 (j := 10) rfl) rfl ?_
  refine c_pb (pc' := 18) (c' := 0) (n' := 0) (h_stat (ra := [.long ((((f_up σ 155 6 (0 : Int32)) 155 24) - (1 : Int32))).toInt64, .long (0 : Int64), .long (a1).toInt64]) (r := []) (as := [.long (a1).toInt64, .long (0 : Int64), .long ((((f_up σ 155 6 (0 : Int32)) 155 24) - (1 : Int32))).toInt64]) (f_at inc_351 (j := 11) rfl) (by decide) MT_46 rfl rfl rfl ⟨Nat.le_of_ble_eq_true rfl, Nat.le_of_ble_eq_true rfl, Nat.le_of_ble_eq_true rfl⟩) MT_46 (G_46 hN (a1).toInt64 (0 : Int64) ((((f_up σ 155 6 (0 : Int32)) 155 24) - (1 : Int32))).toInt64 (f_up σ 155 6 (0 : Int32))) ⟨rfl, rfl, rfl⟩ fun t1 => ?_
  refine s_join (J := 31) (fun (t2 : Int32) (u2 : Unit) => [.ref 155, .int a1]) (fun t2 => [.int t2]) (fun t2 => (f_up σ 155 6 (0 : Int32))) ?_ ?_
  · intro t2 u2
    exact i_iret (f_at inc_351 (j := 19) rfl) rfl n_int
  · intro k2 hj2
    refine i_if0 (pc' := 30) (nx := 21) cb_eq (f_at inc_351 (j := 12) rfl) ⟨by decide, rfl⟩ (fun b4 => ?_) (fun b4 => ?_)
    · refine i_iconst (pc' := 31) (f_at inc_351 (j := 18) rfl) ci_m1 rfl ?_
      exact hj2 (-1 : Int32) ()
    · refine i_aload_n (pc' := 22) (f_at inc_351 (j := 13) rfl) rfl rfl ?_
      refine i_getR (pc' := 25) (f_at inc_351 (j := 14) rfl) sh_155 rfl (f_lt (o := 155) (m := 166) (Nat.le_of_ble_eq_true rfl) hN) rfl ?_
      refine i_iload_n (pc' := 26) (f_at inc_351 (j := 15) rfl) rfl rfl ?_
      refine i_bald (pc' := 27) (f_at inc_351 (j := 16) rfl) sh_165 (Or.inl rfl) (f_bg (Nat.le_of_ble_eq_true rfl)) (f_lt (o := 165) (m := 166) (Nat.le_of_ble_eq_true rfl) hN) rfl fun v3 => ?_
      refine i_goto (pc' := 31) (f_at inc_351 (j := 17) rfl) (by decide) ?_
      exact hj2 v3 ()
set_option maxRecDepth 4000 in
def g_352 (a0 : Nat) (a1 : Nat) (σ : f_M) : Option (f_M) :=
  (f_cp σ .int (a1 + 1) 1000 (a0 + 1) 1000 (0 : Int32) (0 : Int32) (1000 : Int32)).bind fun m1 =>
  (f_cp m1 .int (a1 + 2) 1000 (a0 + 2) 1000 (0 : Int32) (0 : Int32) (1000 : Int32)).bind fun m2 =>
  (f_lp (fun (s3 : Int32 × f_M) =>
   if (20 : Int32) ≤ s3.1 then (
    some (.inr s3.2)
   ) else (
    (f_rd s3.2 (a1 + 3) 20 s3.1).bind fun v4 =>
    (f_wr s3.2 (a0 + 3) 20 s3.1 (v4 &&& 1)).bind fun m5 =>
    some (.inl ((s3.1 + (1 : Int32)), m5))
   )
  ) f_F ((0 : Int32), m2)).bind fun (x3 : f_M) =>
  (f_cp x3 .int (a1 + 4) 20 (a0 + 4) 20 (0 : Int32) (0 : Int32) (20 : Int32)).bind fun m7 =>
  (f_cp m7 .int (a1 + 5) 20 (a0 + 5) 20 (0 : Int32) (0 : Int32) (20 : Int32)).bind fun m8 =>
  (f_cp m8 .int (a1 + 6) 20 (a0 + 6) 20 (0 : Int32) (0 : Int32) (20 : Int32)).bind fun m9 =>
  (f_cp m9 .int (a1 + 7) 20 (a0 + 7) 20 (0 : Int32) (0 : Int32) (20 : Int32)).bind fun m10 =>
  (f_cp m10 .int (a1 + 8) 20 (a0 + 8) 20 (0 : Int32) (0 : Int32) (20 : Int32)).bind fun m11 =>
  (f_cp m11 .int (a1 + 9) 20 (a0 + 9) 20 (0 : Int32) (0 : Int32) (20 : Int32)).bind fun m12 =>
  (f_cp m12 .int (a1 + 10) 20 (a0 + 10) 20 (0 : Int32) (0 : Int32) (20 : Int32)).bind fun m13 =>
  (f_cp m13 .int (a1 + 11) 20 (a0 + 11) 20 (0 : Int32) (0 : Int32) (20 : Int32)).bind fun m14 =>
  (f_cp m14 .int (a1 + 12) 20 (a0 + 12) 20 (0 : Int32) (0 : Int32) (20 : Int32)).bind fun m15 =>
  some m15
set_option maxRecDepth 4000 in
theorem G_352 {xs : Nat → Int32} {L N : Nat} (hN : 155 ≤ N) (a0 : Nat) (a1 : Nat) (ha0 : f_B a0) (ha1 : f_B a1) (σ : f_M) : f_Cal a_MT xs L N 352 [.ref a0, .ref a1] σ ((g_352 a0 a1 σ).bind fun t => some (e_wv t)) := by
  refine f_cal_of (ls := [.ref a0, .ref a1, a_dead]) MT_352 (Nat.le_of_ble_eq_true rfl) rfl ?_
  unfold g_352
  refine i_aload_n (pc' := 1) (f_at inc_352 (j := 0) rfl) rfl rfl ?_
  refine i_getR (pc' := 4) (f_at inc_352 (j := 1) rfl) ha1.1 rfl (f_ltB ha1 hN 0 (Nat.le_of_ble_eq_true rfl)) rfl ?_
  refine i_iconst (pc' := 5) (f_at inc_352 (j := 2) rfl) ci_0 rfl ?_
  refine i_aload_n (pc' := 6) (f_at inc_352 (j := 3) rfl) rfl rfl ?_
  refine i_getR (pc' := 9) (f_at inc_352 (j := 4) rfl) ha0.1 rfl (f_ltB ha0 hN 0 (Nat.le_of_ble_eq_true rfl)) rfl ?_
  refine i_iconst (pc' := 10) (f_at inc_352 (j := 5) rfl) ci_0 rfl ?_
  refine i_sipush (pc' := 13) (f_at inc_352 (j := 6) rfl) cs_1000 rfl ?_
  refine i_cpy (pc' := 16) (f_at inc_352 (j := 7) rfl) ha1.2.1 ha0.2.1 (Or.inl rfl) (Nat.le_of_ble_eq_true rfl) (f_ltB ha1 hN 1 (Nat.le_of_ble_eq_true rfl)) (f_ltB ha0 hN 1 (Nat.le_of_ble_eq_true rfl)) rfl fun m1 => ?_
  refine i_aload_n (pc' := 17) (f_at inc_352 (j := 8) rfl) rfl rfl ?_
  refine i_getR (pc' := 20) (f_at inc_352 (j := 9) rfl) ha1.1 rfl (f_ltB ha1 hN 0 (Nat.le_of_ble_eq_true rfl)) rfl ?_
  refine i_iconst (pc' := 21) (f_at inc_352 (j := 10) rfl) ci_0 rfl ?_
  refine i_aload_n (pc' := 22) (f_at inc_352 (j := 11) rfl) rfl rfl ?_
  refine i_getR (pc' := 25) (f_at inc_352 (j := 12) rfl) ha0.1 rfl (f_ltB ha0 hN 0 (Nat.le_of_ble_eq_true rfl)) rfl ?_
  refine i_iconst (pc' := 26) (f_at inc_352 (j := 13) rfl) ci_0 rfl ?_
  refine i_sipush (pc' := 29) (f_at inc_352 (j := 14) rfl) cs_1000 rfl ?_
  refine i_cpy (pc' := 32) (f_at inc_352 (j := 15) rfl) ha1.2.2.1 ha0.2.2.1 (Or.inl rfl) (Nat.le_of_ble_eq_true rfl) (f_ltB ha1 hN 2 (Nat.le_of_ble_eq_true rfl)) (f_ltB ha0 hN 2 (Nat.le_of_ble_eq_true rfl)) rfl fun m2 => ?_
  refine i_iconst (pc' := 33) (f_at inc_352 (j := 16) rfl) ci_0 rfl ?_
  refine i_istore_n (pc' := 34) (ls' := [.ref a0, .ref a1, .int (0 : Int32)]) (f_at inc_352 (j := 17) rfl) (Nat.le_of_ble_eq_true rfl) rfl rfl ?_
  refine s_lX (X := 58) ((0 : Int32), m2) () (fun (s3 : Int32 × f_M) (u3 : Unit) => [.ref a0, .ref a1, .int s3.1]) (fun (s3 : Int32 × f_M) => s3.2) (fun (x3 : f_M) (w3 : Value) => [.ref a0, .ref a1, w3]) (fun (x3 : f_M) => x3) ?_ ?_
  · intro x3 w3
    refine i_aload_n (pc' := 59) (f_at inc_352 (j := 31) rfl) rfl rfl ?_
    refine i_getR (pc' := 62) (f_at inc_352 (j := 32) rfl) ha1.1 rfl (f_ltB ha1 hN 0 (Nat.le_of_ble_eq_true rfl)) rfl ?_
    refine i_iconst (pc' := 63) (f_at inc_352 (j := 33) rfl) ci_0 rfl ?_
    refine i_aload_n (pc' := 64) (f_at inc_352 (j := 34) rfl) rfl rfl ?_
    refine i_getR (pc' := 67) (f_at inc_352 (j := 35) rfl) ha0.1 rfl (f_ltB ha0 hN 0 (Nat.le_of_ble_eq_true rfl)) rfl ?_
    refine i_iconst (pc' := 68) (f_at inc_352 (j := 36) rfl) ci_0 rfl ?_
    refine i_bipush (pc' := 70) (f_at inc_352 (j := 37) rfl) cb_20 rfl ?_
    refine i_cpy (pc' := 73) (f_at inc_352 (j := 38) rfl) ha1.2.2.2.2.1 ha0.2.2.2.2.1 (Or.inl rfl) (Nat.le_of_ble_eq_true rfl) (f_ltB ha1 hN 4 (Nat.le_of_ble_eq_true rfl)) (f_ltB ha0 hN 4 (Nat.le_of_ble_eq_true rfl)) rfl fun m7 => ?_
    refine i_aload_n (pc' := 74) (f_at inc_352 (j := 39) rfl) rfl rfl ?_
    refine i_getR (pc' := 77) (f_at inc_352 (j := 40) rfl) ha1.1 rfl (f_ltB ha1 hN 0 (Nat.le_of_ble_eq_true rfl)) rfl ?_
    refine i_iconst (pc' := 78) (f_at inc_352 (j := 41) rfl) ci_0 rfl ?_
    refine i_aload_n (pc' := 79) (f_at inc_352 (j := 42) rfl) rfl rfl ?_
    refine i_getR (pc' := 82) (f_at inc_352 (j := 43) rfl) ha0.1 rfl (f_ltB ha0 hN 0 (Nat.le_of_ble_eq_true rfl)) rfl ?_
    refine i_iconst (pc' := 83) (f_at inc_352 (j := 44) rfl) ci_0 rfl ?_
    refine i_bipush (pc' := 85) (f_at inc_352 (j := 45) rfl) cb_20 rfl ?_
    refine i_cpy (pc' := 88) (f_at inc_352 (j := 46) rfl) ha1.2.2.2.2.2.1 ha0.2.2.2.2.2.1 (Or.inl rfl) (Nat.le_of_ble_eq_true rfl) (f_ltB ha1 hN 5 (Nat.le_of_ble_eq_true rfl)) (f_ltB ha0 hN 5 (Nat.le_of_ble_eq_true rfl)) rfl fun m8 => ?_
    refine i_aload_n (pc' := 89) (f_at inc_352 (j := 47) rfl) rfl rfl ?_
    refine i_getR (pc' := 92) (f_at inc_352 (j := 48) rfl) ha1.1 rfl (f_ltB ha1 hN 0 (Nat.le_of_ble_eq_true rfl)) rfl ?_
    refine i_iconst (pc' := 93) (f_at inc_352 (j := 49) rfl) ci_0 rfl ?_
    refine i_aload_n (pc' := 94) (f_at inc_352 (j := 50) rfl) rfl rfl ?_
    refine i_getR (pc' := 97) (f_at inc_352 (j := 51) rfl) ha0.1 rfl (f_ltB ha0 hN 0 (Nat.le_of_ble_eq_true rfl)) rfl ?_
    refine i_iconst (pc' := 98) (f_at inc_352 (j := 52) rfl) ci_0 rfl ?_
    refine i_bipush (pc' := 100) (f_at inc_352 (j := 53) rfl) cb_20 rfl ?_
    refine i_cpy (pc' := 103) (f_at inc_352 (j := 54) rfl) ha1.2.2.2.2.2.2.1 ha0.2.2.2.2.2.2.1 (Or.inl rfl) (Nat.le_of_ble_eq_true rfl) (f_ltB ha1 hN 6 (Nat.le_of_ble_eq_true rfl)) (f_ltB ha0 hN 6 (Nat.le_of_ble_eq_true rfl)) rfl fun m9 => ?_
    refine i_aload_n (pc' := 104) (f_at inc_352 (j := 55) rfl) rfl rfl ?_
    refine i_getR (pc' := 107) (f_at inc_352 (j := 56) rfl) ha1.1 rfl (f_ltB ha1 hN 0 (Nat.le_of_ble_eq_true rfl)) rfl ?_
    refine i_iconst (pc' := 108) (f_at inc_352 (j := 57) rfl) ci_0 rfl ?_
    refine i_aload_n (pc' := 109) (f_at inc_352 (j := 58) rfl) rfl rfl ?_
    refine i_getR (pc' := 112) (f_at inc_352 (j := 59) rfl) ha0.1 rfl (f_ltB ha0 hN 0 (Nat.le_of_ble_eq_true rfl)) rfl ?_
    refine i_iconst (pc' := 113) (f_at inc_352 (j := 60) rfl) ci_0 rfl ?_
    refine i_bipush (pc' := 115) (f_at inc_352 (j := 61) rfl) cb_20 rfl ?_
    refine i_cpy (pc' := 118) (f_at inc_352 (j := 62) rfl) ha1.2.2.2.2.2.2.2.1 ha0.2.2.2.2.2.2.2.1 (Or.inl rfl) (Nat.le_of_ble_eq_true rfl) (f_ltB ha1 hN 7 (Nat.le_of_ble_eq_true rfl)) (f_ltB ha0 hN 7 (Nat.le_of_ble_eq_true rfl)) rfl fun m10 => ?_
    refine i_aload_n (pc' := 119) (f_at inc_352 (j := 63) rfl) rfl rfl ?_
    refine i_getR (pc' := 122) (f_at inc_352 (j := 64) rfl) ha1.1 rfl (f_ltB ha1 hN 0 (Nat.le_of_ble_eq_true rfl)) rfl ?_
    refine i_iconst (pc' := 123) (f_at inc_352 (j := 65) rfl) ci_0 rfl ?_
    refine i_aload_n (pc' := 124) (f_at inc_352 (j := 66) rfl) rfl rfl ?_
    refine i_getR (pc' := 127) (f_at inc_352 (j := 67) rfl) ha0.1 rfl (f_ltB ha0 hN 0 (Nat.le_of_ble_eq_true rfl)) rfl ?_
    refine i_iconst (pc' := 128) (f_at inc_352 (j := 68) rfl) ci_0 rfl ?_
    refine i_bipush (pc' := 130) (f_at inc_352 (j := 69) rfl) cb_20 rfl ?_
    refine i_cpy (pc' := 133) (f_at inc_352 (j := 70) rfl) ha1.2.2.2.2.2.2.2.2.1 ha0.2.2.2.2.2.2.2.2.1 (Or.inl rfl) (Nat.le_of_ble_eq_true rfl) (f_ltB ha1 hN 8 (Nat.le_of_ble_eq_true rfl)) (f_ltB ha0 hN 8 (Nat.le_of_ble_eq_true rfl)) rfl fun m11 => ?_
    refine i_aload_n (pc' := 134) (f_at inc_352 (j := 71) rfl) rfl rfl ?_
    refine i_getR (pc' := 137) (f_at inc_352 (j := 72) rfl) ha1.1 rfl (f_ltB ha1 hN 0 (Nat.le_of_ble_eq_true rfl)) rfl ?_
    refine i_iconst (pc' := 138) (f_at inc_352 (j := 73) rfl) ci_0 rfl ?_
    refine i_aload_n (pc' := 139) (f_at inc_352 (j := 74) rfl) rfl rfl ?_
    refine i_getR (pc' := 142) (f_at inc_352 (j := 75) rfl) ha0.1 rfl (f_ltB ha0 hN 0 (Nat.le_of_ble_eq_true rfl)) rfl ?_
    refine i_iconst (pc' := 143) (f_at inc_352 (j := 76) rfl) ci_0 rfl ?_
    refine i_bipush (pc' := 145) (f_at inc_352 (j := 77) rfl) cb_20 rfl ?_
    refine i_cpy (pc' := 148) (f_at inc_352 (j := 78) rfl) ha1.2.2.2.2.2.2.2.2.2.1 ha0.2.2.2.2.2.2.2.2.2.1 (Or.inl rfl) (Nat.le_of_ble_eq_true rfl) (f_ltB ha1 hN 9 (Nat.le_of_ble_eq_true rfl)) (f_ltB ha0 hN 9 (Nat.le_of_ble_eq_true rfl)) rfl fun m12 => ?_
    refine i_aload_n (pc' := 149) (f_at inc_352 (j := 79) rfl) rfl rfl ?_
    refine i_getR (pc' := 152) (f_at inc_352 (j := 80) rfl) ha1.1 rfl (f_ltB ha1 hN 0 (Nat.le_of_ble_eq_true rfl)) rfl ?_
    refine i_iconst (pc' := 153) (f_at inc_352 (j := 81) rfl) ci_0 rfl ?_
    refine i_aload_n (pc' := 154) (f_at inc_352 (j := 82) rfl) rfl rfl ?_
    refine i_getR (pc' := 157) (f_at inc_352 (j := 83) rfl) ha0.1 rfl (f_ltB ha0 hN 0 (Nat.le_of_ble_eq_true rfl)) rfl ?_
    refine i_iconst (pc' := 158) (f_at inc_352 (j := 84) rfl) ci_0 rfl ?_
    refine i_bipush (pc' := 160) (f_at inc_352 (j := 85) rfl) cb_20 rfl ?_
    refine i_cpy (pc' := 163) (f_at inc_352 (j := 86) rfl) ha1.2.2.2.2.2.2.2.2.2.2.1 ha0.2.2.2.2.2.2.2.2.2.2.1 (Or.inl rfl) (Nat.le_of_ble_eq_true rfl) (f_ltB ha1 hN 10 (Nat.le_of_ble_eq_true rfl)) (f_ltB ha0 hN 10 (Nat.le_of_ble_eq_true rfl)) rfl fun m13 => ?_
    refine i_aload_n (pc' := 164) (f_at inc_352 (j := 87) rfl) rfl rfl ?_
    refine i_getR (pc' := 167) (f_at inc_352 (j := 88) rfl) ha1.1 rfl (f_ltB ha1 hN 0 (Nat.le_of_ble_eq_true rfl)) rfl ?_
    refine i_iconst (pc' := 168) (f_at inc_352 (j := 89) rfl) ci_0 rfl ?_
    refine i_aload_n (pc' := 169) (f_at inc_352 (j := 90) rfl) rfl rfl ?_
    refine i_getR (pc' := 172) (f_at inc_352 (j := 91) rfl) ha0.1 rfl (f_ltB ha0 hN 0 (Nat.le_of_ble_eq_true rfl)) rfl ?_
    refine i_iconst (pc' := 173) (f_at inc_352 (j := 92) rfl) ci_0 rfl ?_
    refine i_bipush (pc' := 175) (f_at inc_352 (j := 93) rfl) cb_20 rfl ?_
    refine i_cpy (pc' := 178) (f_at inc_352 (j := 94) rfl) ha1.2.2.2.2.2.2.2.2.2.2.2.1 ha0.2.2.2.2.2.2.2.2.2.2.2.1 (Or.inl rfl) (Nat.le_of_ble_eq_true rfl) (f_ltB ha1 hN 11 (Nat.le_of_ble_eq_true rfl)) (f_ltB ha0 hN 11 (Nat.le_of_ble_eq_true rfl)) rfl fun m14 => ?_
    refine i_aload_n (pc' := 179) (f_at inc_352 (j := 95) rfl) rfl rfl ?_
    refine i_getR (pc' := 182) (f_at inc_352 (j := 96) rfl) ha1.1 rfl (f_ltB ha1 hN 0 (Nat.le_of_ble_eq_true rfl)) rfl ?_
    refine i_iconst (pc' := 183) (f_at inc_352 (j := 97) rfl) ci_0 rfl ?_
    refine i_aload_n (pc' := 184) (f_at inc_352 (j := 98) rfl) rfl rfl ?_
    refine i_getR (pc' := 187) (f_at inc_352 (j := 99) rfl) ha0.1 rfl (f_ltB ha0 hN 0 (Nat.le_of_ble_eq_true rfl)) rfl ?_
    refine i_iconst (pc' := 188) (f_at inc_352 (j := 100) rfl) ci_0 rfl ?_
    refine i_bipush (pc' := 190) (f_at inc_352 (j := 101) rfl) cb_20 rfl ?_
    refine i_cpy (pc' := 193) (f_at inc_352 (j := 102) rfl) ha1.2.2.2.2.2.2.2.2.2.2.2.2.1 ha0.2.2.2.2.2.2.2.2.2.2.2.2.1 (Or.inl rfl) (Nat.le_of_ble_eq_true rfl) (f_ltB ha1 hN 12 (Nat.le_of_ble_eq_true rfl)) (f_ltB ha0 hN 12 (Nat.le_of_ble_eq_true rfl)) rfl fun m15 => ?_
    exact i_vret (f_at inc_352 (j := 103) rfl) rfl
  · intro s3 u3 k3 hb3 hx3
    refine i_iload_n (pc' := 35) (f_at inc_352 (j := 18) rfl) rfl rfl ?_
    refine i_bipush (pc' := 37) (f_at inc_352 (j := 19) rfl) cb_20 rfl ?_
    refine i_if2 (pc' := 58) (nx := 40) c2_ge (f_at inc_352 (j := 20) rfl) ⟨by decide, rfl⟩ (fun b6 => ?_) (fun b6 => ?_)
    · exact hx3 s3.2 (.int s3.1)
    · refine i_aload_n (pc' := 41) (f_at inc_352 (j := 21) rfl) rfl rfl ?_
      refine i_getR (pc' := 44) (f_at inc_352 (j := 22) rfl) ha0.1 rfl (f_ltB ha0 hN 0 (Nat.le_of_ble_eq_true rfl)) rfl ?_
      refine i_iload_n (pc' := 45) (f_at inc_352 (j := 23) rfl) rfl rfl ?_
      refine i_aload_n (pc' := 46) (f_at inc_352 (j := 24) rfl) rfl rfl ?_
      refine i_getR (pc' := 49) (f_at inc_352 (j := 25) rfl) ha1.1 rfl (f_ltB ha1 hN 0 (Nat.le_of_ble_eq_true rfl)) rfl ?_
      refine i_iload_n (pc' := 50) (f_at inc_352 (j := 26) rfl) rfl rfl ?_
      refine i_bald (pc' := 51) (f_at inc_352 (j := 27) rfl) ha1.2.2.2.1 (Or.inr rfl) (f_bgB ha1 3 (Nat.le_of_ble_eq_true rfl)) (f_ltB ha1 hN 3 (Nat.le_of_ble_eq_true rfl)) rfl fun v4 => ?_
      refine i_bast (pc' := 52) (f_at inc_352 (j := 28) rfl) ha0.2.2.2.1 (Or.inr rfl) rfl (f_ltB ha0 hN 3 (Nat.le_of_ble_eq_true rfl)) rfl fun m5 => ?_
      refine i_iinc (pc' := 55) (ls' := [.ref a0, .ref a1, .int (s3.1 + (1 : Int32))]) (f_at inc_352 (j := 29) rfl) rfl ci_1 rfl rfl ?_
      refine i_goto (pc' := 34) (f_at inc_352 (j := 30) rfl) (by decide) ?_
      exact hb3 ((s3.1 + (1 : Int32)), m5) ()
set_option maxRecDepth 4000 in
def g_353  (σ : f_M) : Option (Int32 × f_M) :=
  (g_352 135 108 σ).bind fun t1 =>
  (g_72 148 121 t1).bind fun t2 =>
  some (((f_up t2 0 15 (1 : Int32)) 121 0), (f_up t2 0 15 (1 : Int32)))
set_option maxRecDepth 4000 in
theorem G_353 {xs : Nat → Int32} {L N : Nat} (hN : 155 ≤ N)   (σ : f_M) : f_Cal a_MT xs L N 353 [.ref 0] σ ((g_353  σ).bind fun t => some (e_wi t)) := by
  refine f_cal_of (ls := [.ref 0]) MT_353 (Nat.le_of_ble_eq_true rfl) rfl ?_
  unfold g_353
  refine i_aload_n (pc' := 1) (f_at inc_353 (j := 0) rfl) rfl rfl ?_
  refine i_getR (pc' := 4) (f_at inc_353 (j := 1) rfl) sh_0 rfl (f_lt (o := 0) (m := 155) (Nat.le_of_ble_eq_true rfl) hN) rfl ?_
  refine i_aload_n (pc' := 5) (f_at inc_353 (j := 2) rfl) rfl rfl ?_
  refine i_getR (pc' := 8) (f_at inc_353 (j := 3) rfl) sh_0 rfl (f_lt (o := 0) (m := 155) (Nat.le_of_ble_eq_true rfl) hN) rfl ?_
  refine c_wv (pc' := 11) (c' := 0) (n' := 0) (h_virt (ra := [.ref 108, .ref 135]) (r := []) (as := [.ref 108]) (f_at inc_353 (j := 4) rfl) (by decide) MT_352 rfl rfl rfl ⟨Nat.le_of_ble_eq_true rfl, Nat.le_of_ble_eq_true rfl, Nat.le_of_ble_eq_true rfl⟩ sh_135 (f_lt (o := 135) (m := 155) (Nat.le_of_ble_eq_true rfl) hN)) MT_352 (G_352 hN 135 108 f_B135 f_B108 σ) ⟨rfl, rfl, rfl⟩ fun t1 => ?_
  refine i_aload_n (pc' := 12) (f_at inc_353 (j := 5) rfl) rfl rfl ?_
  refine i_getR (pc' := 15) (f_at inc_353 (j := 6) rfl) sh_0 rfl (f_lt (o := 0) (m := 155) (Nat.le_of_ble_eq_true rfl) hN) rfl ?_
  refine i_aload_n (pc' := 16) (f_at inc_353 (j := 7) rfl) rfl rfl ?_
  refine i_getR (pc' := 19) (f_at inc_353 (j := 8) rfl) sh_0 rfl (f_lt (o := 0) (m := 155) (Nat.le_of_ble_eq_true rfl) hN) rfl ?_
  refine c_wv (pc' := 22) (c' := 0) (n' := 0) (h_virt (ra := [.ref 121, .ref 148]) (r := []) (as := [.ref 121]) (f_at inc_353 (j := 9) rfl) (by decide) MT_72 rfl rfl rfl ⟨Nat.le_of_ble_eq_true rfl, Nat.le_of_ble_eq_true rfl, Nat.le_of_ble_eq_true rfl⟩ sh_148 (f_lt (o := 148) (m := 155) (Nat.le_of_ble_eq_true rfl) hN)) MT_72 (G_72 hN 148 121 f_L148 f_L121 t1) ⟨rfl, rfl, rfl⟩ fun t2 => ?_
  refine i_aload_n (pc' := 23) (f_at inc_353 (j := 10) rfl) rfl rfl ?_
  refine i_iconst (pc' := 24) (f_at inc_353 (j := 11) rfl) ci_1 rfl ?_
  refine i_putI (pc' := 27) (f_at inc_353 (j := 12) rfl) sh_0 rfl (by decide) (f_lt (o := 0) (m := 155) (Nat.le_of_ble_eq_true rfl) hN) rfl ?_
  refine i_aload_n (pc' := 28) (f_at inc_353 (j := 13) rfl) rfl rfl ?_
  refine i_getR (pc' := 31) (f_at inc_353 (j := 14) rfl) sh_0 rfl (f_lt (o := 0) (m := 155) (Nat.le_of_ble_eq_true rfl) hN) rfl ?_
  refine i_getI (pc' := 34) (f_at inc_353 (j := 15) rfl) sh_121 rfl (f_lt (o := 121) (m := 155) (Nat.le_of_ble_eq_true rfl) hN) rfl ?_
  exact i_iret (f_at inc_353 (j := 16) rfl) rfl n_int
set_option maxRecDepth 4000 in
def g_354  (σ : f_M) : Option (Int32 × f_M) :=
  (g_48 158 (f_up σ 155 6 (0 : Int32))).bind fun t1 =>
  (f_rd (f_up t1 155 5 (1 : Int32)) 156 2420 (0 : Int32)).bind fun v2 =>
  some (v2, (f_up t1 155 5 (1 : Int32)))
set_option maxRecDepth 4000 in
theorem G_354 {xs : Nat → Int32} {L N : Nat} (hN : 166 ≤ N)   (σ : f_M) : f_Cal a_MT xs L N 354 [.ref 155] σ ((g_354  σ).bind fun t => some (e_wi t)) := by
  refine f_cal_of (ls := [.ref 155]) MT_354 (Nat.le_of_ble_eq_true rfl) rfl ?_
  unfold g_354
  refine i_aload_n (pc' := 1) (f_at inc_354 (j := 0) rfl) rfl rfl ?_
  refine i_iconst (pc' := 2) (f_at inc_354 (j := 1) rfl) ci_0 rfl ?_
  refine i_putI (pc' := 5) (f_at inc_354 (j := 2) rfl) sh_155 rfl ⟨rfl, rfl⟩ (f_lt (o := 155) (m := 166) (Nat.le_of_ble_eq_true rfl) hN) rfl ?_
  refine i_aload_n (pc' := 6) (f_at inc_354 (j := 3) rfl) rfl rfl ?_
  refine i_aload_n (pc' := 7) (f_at inc_354 (j := 4) rfl) rfl rfl ?_
  refine i_getR (pc' := 10) (f_at inc_354 (j := 5) rfl) sh_155 rfl (f_lt (o := 155) (m := 166) (Nat.le_of_ble_eq_true rfl) hN) rfl ?_
  refine c_wv (pc' := 13) (c' := 0) (n' := 0) (h_virt (ra := [.ref 158, .ref 155]) (r := []) (as := [.ref 158]) (f_at inc_354 (j := 6) rfl) (by decide) MT_48 rfl rfl rfl ⟨Nat.le_of_ble_eq_true rfl, Nat.le_of_ble_eq_true rfl, Nat.le_of_ble_eq_true rfl⟩ sh_155 (f_lt (o := 155) (m := 166) (Nat.le_of_ble_eq_true rfl) hN)) MT_48 (G_48 hN 158 f_T158 (f_up σ 155 6 (0 : Int32))) ⟨rfl, rfl, rfl⟩ fun t1 => ?_
  refine i_aload_n (pc' := 14) (f_at inc_354 (j := 7) rfl) rfl rfl ?_
  refine i_iconst (pc' := 15) (f_at inc_354 (j := 8) rfl) ci_1 rfl ?_
  refine i_putI (pc' := 18) (f_at inc_354 (j := 9) rfl) sh_155 rfl (by decide) (f_lt (o := 155) (m := 166) (Nat.le_of_ble_eq_true rfl) hN) rfl ?_
  refine i_aload_n (pc' := 19) (f_at inc_354 (j := 10) rfl) rfl rfl ?_
  refine i_getR (pc' := 22) (f_at inc_354 (j := 11) rfl) sh_155 rfl (f_lt (o := 155) (m := 166) (Nat.le_of_ble_eq_true rfl) hN) rfl ?_
  refine i_iconst (pc' := 23) (f_at inc_354 (j := 12) rfl) ci_0 rfl ?_
  refine i_iald (pc' := 24) (f_at inc_354 (j := 13) rfl) sh_156 (f_bg (Nat.le_of_ble_eq_true rfl)) (f_lt (o := 156) (m := 166) (Nat.le_of_ble_eq_true rfl) hN) rfl fun v2 => ?_
  exact i_iret (f_at inc_354 (j := 14) rfl) rfl n_int
set_option maxRecDepth 4000 in
def g_355  (σ : f_M) : Option ((Int32 ⊕ Fin 4) × f_M) :=
  (f_z (σ 0 15)).bind fun b1 =>
  if b1 = true then (
   (g_352 108 135 σ).bind fun t2 =>
   (g_72 121 148 t2).bind fun t3 =>
   (g_32  t3).bind fun t4 =>
   some (.inl (t4 121 0), t4)
  ) else (
   some (.inr 3, σ)
  )
set_option maxRecDepth 4000 in
theorem G_355 {xs : Nat → Int32} {L N : Nat} (hN : 155 ≤ N)   (σ : f_M) : f_Cal a_MT xs L N 355 [.ref 0] σ ((g_355  σ).bind fun t => some (e_xi t)) := by
  refine f_cal_of (ls := [.ref 0]) MT_355 (Nat.le_of_ble_eq_true rfl) rfl ?_
  unfold g_355
  refine i_aload_n (pc' := 1) (f_at inc_355 (j := 0) rfl) rfl rfl ?_
  refine i_getZ (pc' := 4) (f_at inc_355 (j := 1) rfl) sh_0 rfl (f_lt (o := 0) (m := 155) (Nat.le_of_ble_eq_true rfl) hN) rfl fun b1 => ?_
  refine i_if0 (pc' := 18) (nx := 7) cb_ne (f_at inc_355 (j := 2) rfl) ⟨by decide, rfl⟩ (fun b5 => ?_) (fun b5 => ?_)
  · refine i_aload_n (pc' := 19) (f_at inc_355 (j := 4) rfl) rfl rfl ?_
    refine i_getR (pc' := 22) (f_at inc_355 (j := 5) rfl) sh_0 rfl (f_lt (o := 0) (m := 155) (Nat.le_of_ble_eq_true rfl) hN) rfl ?_
    refine i_aload_n (pc' := 23) (f_at inc_355 (j := 6) rfl) rfl rfl ?_
    refine i_getR (pc' := 26) (f_at inc_355 (j := 7) rfl) sh_0 rfl (f_lt (o := 0) (m := 155) (Nat.le_of_ble_eq_true rfl) hN) rfl ?_
    refine c_wv (pc' := 29) (c' := 1) (n' := 6) (h_virt (ra := [.ref 135, .ref 108]) (r := []) (as := [.ref 135]) (f_at inc_355 (j := 8) rfl) (by decide) MT_352 rfl rfl rfl ⟨Nat.le_of_ble_eq_true rfl, Nat.le_of_ble_eq_true rfl, Nat.le_of_ble_eq_true rfl⟩ sh_108 (f_lt (o := 108) (m := 155) (Nat.le_of_ble_eq_true rfl) hN)) MT_352 (G_352 hN 108 135 f_B108 f_B135 σ) ⟨rfl, rfl, rfl⟩ fun t2 => ?_
    refine i_aload_n (pc' := 30) (f_at inc_355 (j := 9) rfl) rfl rfl ?_
    refine i_getR (pc' := 33) (f_at inc_355 (j := 10) rfl) sh_0 rfl (f_lt (o := 0) (m := 155) (Nat.le_of_ble_eq_true rfl) hN) rfl ?_
    refine i_aload_n (pc' := 34) (f_at inc_355 (j := 11) rfl) rfl rfl ?_
    refine i_getR (pc' := 37) (f_at inc_355 (j := 12) rfl) sh_0 rfl (f_lt (o := 0) (m := 155) (Nat.le_of_ble_eq_true rfl) hN) rfl ?_
    refine c_wv (pc' := 40) (c' := 1) (n' := 6) (h_virt (ra := [.ref 148, .ref 121]) (r := []) (as := [.ref 148]) (f_at inc_355 (j := 13) rfl) (by decide) MT_72 rfl rfl rfl ⟨Nat.le_of_ble_eq_true rfl, Nat.le_of_ble_eq_true rfl, Nat.le_of_ble_eq_true rfl⟩ sh_121 (f_lt (o := 121) (m := 155) (Nat.le_of_ble_eq_true rfl) hN)) MT_72 (G_72 hN 121 148 f_L121 f_L148 t2) ⟨rfl, rfl, rfl⟩ fun t3 => ?_
    refine i_aload_n (pc' := 41) (f_at inc_355 (j := 14) rfl) rfl rfl ?_
    refine i_getR (pc' := 44) (f_at inc_355 (j := 15) rfl) sh_0 rfl (f_lt (o := 0) (m := 155) (Nat.le_of_ble_eq_true rfl) hN) rfl ?_
    refine c_wv (pc' := 47) (c' := 1) (n' := 6) (h_virt (ra := [.ref 44]) (r := []) (as := []) (f_at inc_355 (j := 16) rfl) (by decide) MT_32 rfl rfl rfl ⟨Nat.le_of_ble_eq_true rfl, Nat.le_of_ble_eq_true rfl, Nat.le_of_ble_eq_true rfl⟩ sh_44 (f_lt (o := 44) (m := 155) (Nat.le_of_ble_eq_true rfl) hN)) MT_32 (G_32 hN  t3) ⟨rfl, rfl, rfl⟩ fun t4 => ?_
    refine i_aload_n (pc' := 48) (f_at inc_355 (j := 17) rfl) rfl rfl ?_
    refine i_getR (pc' := 51) (f_at inc_355 (j := 18) rfl) sh_0 rfl (f_lt (o := 0) (m := 155) (Nat.le_of_ble_eq_true rfl) hN) rfl ?_
    refine i_getI (pc' := 54) (f_at inc_355 (j := 19) rfl) sh_121 rfl (f_lt (o := 121) (m := 155) (Nat.le_of_ble_eq_true rfl) hN) rfl ?_
    exact i_iret (f_at inc_355 (j := 20) rfl) rfl n_int
  · exact i_thrw (a9 := 3) (f_at inc_355 (j := 3) rfl) ⟨rfl, by decide⟩ ⟨rfl, rfl⟩ ⟨Nat.le_of_ble_eq_true rfl, Nat.le_of_ble_eq_true rfl, Nat.le_of_ble_eq_true rfl⟩
set_option maxRecDepth 4000 in
def g_356  (σ : f_M) : Option (Int32 × f_M) :=
  (g_355  σ).bind (f_xe (fun v1 m1 =>
   (f_wr m1 167 1 (0 : Int32) v1).bind fun m2 =>
   some ((0 : Int32), m2)
  ) (fun k1 m1 => (f_hc [(3, 1)] k1).bind fun v => some (v, m1)))
set_option maxRecDepth 4000 in
theorem G_356 {xs : Nat → Int32} {L N : Nat} (hN : 168 ≤ N)   (σ : f_M) : f_Cal a_MT xs L N 356 [.ref 0, .ref 167] σ ((g_356  σ).bind fun t => some (e_wi t)) := by
  refine f_cal_of (ls := [.ref 0, .ref 167, a_dead]) MT_356 (Nat.le_of_ble_eq_true rfl) rfl ?_
  unfold g_356
  refine i_aload_n (pc' := 1) (f_at inc_356 (j := 0) rfl) rfl rfl ?_
  refine i_iconst (pc' := 2) (f_at inc_356 (j := 1) rfl) ci_0 rfl ?_
  refine i_aload_n (pc' := 3) (f_at inc_356 (j := 2) rfl) rfl rfl ?_
  refine c_xi (pc' := 6) (c' := 0) (n' := 0) (h_virt (ra := [.ref 0]) (r := [.int (0 : Int32), .ref 167]) (as := []) (f_at inc_356 (j := 3) rfl) (by decide) MT_355 rfl rfl rfl ⟨Nat.le_of_ble_eq_true rfl, Nat.le_of_ble_eq_true rfl, Nat.le_of_ble_eq_true rfl⟩ sh_0 (f_lt (o := 0) (m := 168) (Nat.le_of_ble_eq_true rfl) hN)) MT_355 (G_355 (Nat.le_trans (Nat.le_of_ble_eq_true rfl) hN)  σ) ⟨rfl, rfl, rfl⟩ (fun k s w h => x_hdl (l := [(3, 1)]) (by decide +kernel) h) fun v1 m1 => ?_
  refine i_i2l (pc' := 7) (f_at inc_356 (j := 4) rfl) rfl ?_
  refine i_last (pc' := 8) (f_at inc_356 (j := 5) rfl) sh_167 rfl (f_lt (o := 167) (m := 168) (Nat.le_of_ble_eq_true rfl) hN) rfl fun m2 => ?_
  refine i_goto (pc' := 14) (f_at inc_356 (j := 6) rfl) (by decide) ?_
  refine i_iconst (pc' := 15) (f_at inc_356 (j := 10) rfl) ci_0 rfl ?_
  exact i_iret (f_at inc_356 (j := 11) rfl) rfl n_int
set_option maxRecDepth 4000 in
def g_357  (σ : f_M) : Option (Int32 × f_M) :=
  (f_z (σ 155 5)).bind fun b1 =>
  (g_176 b1 true true σ).bind fun t2 =>
  if t2.1 = true then (
   (g_64 158 t2.2).bind fun t3 =>
   (f_rd (f_up t3 155 4 (0 : Int32)) 156 2420 (0 : Int32)).bind fun v4 =>
   some (v4, (f_up t3 155 4 (0 : Int32)))
  ) else (
   some ((0 : Int32), t2.2)
  )
set_option maxRecDepth 4000 in
theorem G_357 {xs : Nat → Int32} {L N : Nat} (hN : 166 ≤ N)   (σ : f_M) : f_Cal a_MT xs L N 357 [.ref 155] σ ((g_357  σ).bind fun t => some (e_wi t)) := by
  refine f_cal_of (ls := [.ref 155]) MT_357 (Nat.le_of_ble_eq_true rfl) rfl ?_
  unfold g_357
  refine i_aload_n (pc' := 1) (f_at inc_357 (j := 0) rfl) rfl rfl ?_
  refine i_aload_n (pc' := 2) (f_at inc_357 (j := 1) rfl) rfl rfl ?_
  refine i_getZ (pc' := 5) (f_at inc_357 (j := 2) rfl) sh_155 rfl (f_lt (o := 155) (m := 166) (Nat.le_of_ble_eq_true rfl) hN) rfl fun b1 => ?_
  refine i_iconst (pc' := 6) (f_at inc_357 (j := 3) rfl) ci_1 rfl ?_
  refine i_iconst (pc' := 7) (f_at inc_357 (j := 4) rfl) ci_1 rfl ?_
  refine c_wb (pc' := 10) (c' := 0) (n' := 0) (h_virt (ra := [.int (1 : Int32), .int (1 : Int32), .int (f_b b1), .ref 155]) (r := []) (as := [.int (f_b b1), .int (1 : Int32), .int (1 : Int32)]) (f_at inc_357 (j := 5) rfl) (by decide) MT_176 rfl rfl rfl ⟨Nat.le_of_ble_eq_true rfl, Nat.le_of_ble_eq_true rfl, Nat.le_of_ble_eq_true rfl⟩ sh_155 (f_lt (o := 155) (m := 166) (Nat.le_of_ble_eq_true rfl) hN)) MT_176 (G_176 hN b1 true true σ) ⟨rfl, rfl, rfl⟩ fun t2 => ?_
  refine i_if0 (pc' := 15) (nx := 13) cb_ne (f_at inc_357 (j := 6) rfl) ⟨by decide, rfl⟩ (fun b5 => ?_) (fun b5 => ?_)
  · refine i_aload_n (pc' := 16) (f_at inc_357 (j := 9) rfl) rfl rfl ?_
    refine i_aload_n (pc' := 17) (f_at inc_357 (j := 10) rfl) rfl rfl ?_
    refine i_getR (pc' := 20) (f_at inc_357 (j := 11) rfl) sh_155 rfl (f_lt (o := 155) (m := 166) (Nat.le_of_ble_eq_true rfl) hN) rfl ?_
    refine c_wv (pc' := 23) (c' := 0) (n' := 0) (h_virt (ra := [.ref 158, .ref 155]) (r := []) (as := [.ref 158]) (f_at inc_357 (j := 12) rfl) (by decide) MT_64 rfl rfl rfl ⟨Nat.le_of_ble_eq_true rfl, Nat.le_of_ble_eq_true rfl, Nat.le_of_ble_eq_true rfl⟩ sh_155 (f_lt (o := 155) (m := 166) (Nat.le_of_ble_eq_true rfl) hN)) MT_64 (G_64 hN 158 f_T158 t2.2) ⟨rfl, rfl, rfl⟩ fun t3 => ?_
    refine i_aload_n (pc' := 24) (f_at inc_357 (j := 13) rfl) rfl rfl ?_
    refine i_iconst (pc' := 25) (f_at inc_357 (j := 14) rfl) ci_0 rfl ?_
    refine i_putI (pc' := 28) (f_at inc_357 (j := 15) rfl) sh_155 rfl ⟨rfl, rfl⟩ (f_lt (o := 155) (m := 166) (Nat.le_of_ble_eq_true rfl) hN) rfl ?_
    refine i_aload_n (pc' := 29) (f_at inc_357 (j := 16) rfl) rfl rfl ?_
    refine i_getR (pc' := 32) (f_at inc_357 (j := 17) rfl) sh_155 rfl (f_lt (o := 155) (m := 166) (Nat.le_of_ble_eq_true rfl) hN) rfl ?_
    refine i_iconst (pc' := 33) (f_at inc_357 (j := 18) rfl) ci_0 rfl ?_
    refine i_iald (pc' := 34) (f_at inc_357 (j := 19) rfl) sh_156 (f_bg (Nat.le_of_ble_eq_true rfl)) (f_lt (o := 156) (m := 166) (Nat.le_of_ble_eq_true rfl) hN) rfl fun v4 => ?_
    exact i_iret (f_at inc_357 (j := 20) rfl) rfl n_int
  · refine i_iconst (pc' := 14) (f_at inc_357 (j := 7) rfl) ci_0 rfl ?_
    exact i_iret (f_at inc_357 (j := 8) rfl) rfl n_int
