/-! Flat programs. -/
set_option maxRecDepth 4000 in
def g_278  (σ : f_M) : Option (Int32) :=
  (f_lp (fun (s1 : Int32 × Int32) =>
   if (σ 121 3) ≤ s1.2 then (
    some (.inr s1.1)
   ) else (
    (f_rd σ 123 20 s1.2).bind fun v2 =>
    (
     if v2 = 0 then (
      some s1.1
     ) else (
      some (s1.1 + (1 : Int32))
     )
    ).bind fun (t3 : Int32) =>
    some (.inl (t3, (s1.2 + (1 : Int32))))
   )
  ) f_F ((0 : Int32), (0 : Int32))).bind fun (x1 : Int32) =>
  some x1
set_option maxRecDepth 4000 in
theorem G_278 {xs : Nat → Int32} {L N : Nat} (hN : 155 ≤ N)   (σ : f_M) : f_Cal a_MT xs L N 278 [.ref 0] σ ((g_278  σ).bind fun t => some (e_pi σ t)) := by
  refine f_cal_of (ls := [.ref 0, a_dead, a_dead]) MT_278 (Nat.le_of_ble_eq_true rfl) rfl ?_
  unfold g_278
  refine i_iconst (pc' := 1) (f_at inc_278 (j := 0) rfl) ci_0 rfl ?_
  refine i_istore_n (pc' := 2) (ls' := [.ref 0, .int (0 : Int32), a_dead]) (f_at inc_278 (j := 1) rfl) (Nat.le_of_ble_eq_true rfl) rfl rfl ?_
  refine i_iconst (pc' := 3) (f_at inc_278 (j := 2) rfl) ci_0 rfl ?_
  refine i_istore_n (pc' := 4) (ls' := [.ref 0, .int (0 : Int32), .int (0 : Int32)]) (f_at inc_278 (j := 3) rfl) (Nat.le_of_ble_eq_true rfl) rfl rfl ?_
  refine s_lX (X := 36) ((0 : Int32), (0 : Int32)) () (fun (s1 : Int32 × Int32) (u1 : Unit) => [.ref 0, .int s1.1, .int s1.2]) (fun (s1 : Int32 × Int32) => σ) (fun (x1 : Int32) (w1 : Value) => [.ref 0, .int x1, w1]) (fun (x1 : Int32) => σ) ?_ ?_
  · intro x1 w1
    refine i_iload_n (pc' := 37) (f_at inc_278 (j := 18) rfl) rfl rfl ?_
    exact i_iret (f_at inc_278 (j := 19) rfl) rfl n_int
  · intro s1 u1 k1 hb1 hx1
    refine i_iload_n (pc' := 5) (f_at inc_278 (j := 4) rfl) rfl rfl ?_
    refine i_aload_n (pc' := 6) (f_at inc_278 (j := 5) rfl) rfl rfl ?_
    refine i_getR (pc' := 9) (f_at inc_278 (j := 6) rfl) sh_0 rfl (f_lt (o := 0) (m := 155) (Nat.le_of_ble_eq_true rfl) hN) rfl ?_
    refine i_getI (pc' := 12) (f_at inc_278 (j := 7) rfl) sh_121 rfl (f_lt (o := 121) (m := 155) (Nat.le_of_ble_eq_true rfl) hN) rfl ?_
    refine i_if2 (pc' := 36) (nx := 15) c2_ge (f_at inc_278 (j := 8) rfl) ⟨by decide, rfl⟩ (fun b5 => ?_) (fun b5 => ?_)
    · exact hx1 s1.1 (.int s1.2)
    · refine i_aload_n (pc' := 16) (f_at inc_278 (j := 9) rfl) rfl rfl ?_
      refine i_getR (pc' := 19) (f_at inc_278 (j := 10) rfl) sh_0 rfl (f_lt (o := 0) (m := 155) (Nat.le_of_ble_eq_true rfl) hN) rfl ?_
      refine i_getR (pc' := 22) (f_at inc_278 (j := 11) rfl) sh_121 rfl (f_lt (o := 121) (m := 155) (Nat.le_of_ble_eq_true rfl) hN) rfl ?_
      refine i_iload_n (pc' := 23) (f_at inc_278 (j := 12) rfl) rfl rfl ?_
      refine i_bald (pc' := 24) (f_at inc_278 (j := 13) rfl) sh_123 (Or.inr rfl) (f_bg (Nat.le_of_ble_eq_true rfl)) (f_lt (o := 123) (m := 155) (Nat.le_of_ble_eq_true rfl) hN) rfl fun v2 => ?_
      refine s_join (J := 30) (fun (t3 : Int32) (u3 : Unit) => [.ref 0, .int t3, .int s1.2]) (fun t3 => []) (fun t3 => σ) ?_ ?_
      · intro t3 u3
        refine i_iinc (pc' := 33) (ls' := [.ref 0, .int t3, .int (s1.2 + (1 : Int32))]) (f_at inc_278 (j := 16) rfl) rfl ci_1 rfl rfl ?_
        refine i_goto (pc' := 4) (f_at inc_278 (j := 17) rfl) (by decide) ?_
        exact hb1 (t3, (s1.2 + (1 : Int32))) ()
      · intro k3 hj3
        refine i_if0 (pc' := 30) (nx := 27) c0_eq (f_at inc_278 (j := 14) rfl) ⟨by decide, rfl⟩ (fun b4 => ?_) (fun b4 => ?_)
        · exact hj3 s1.1 ()
        · refine i_iinc (pc' := 30) (ls' := [.ref 0, .int (s1.1 + (1 : Int32)), .int s1.2]) (f_at inc_278 (j := 15) rfl) rfl ci_1 rfl rfl ?_
          exact hj3 (s1.1 + (1 : Int32)) ()
set_option maxRecDepth 4000 in
def g_279  (σ : f_M) : Option (Int32 × f_M) :=
  (f_lp (fun (s1 : Int32 × Int32) =>
   (f_rd (f_up σ 155 6 (0 : Int32)) 156 2420 (4 : Int32)).bind fun v2 =>
   if v2 ≤ s1.2 then (
    some (.inr s1.1)
   ) else (
    (g_120 s1.2 (f_up σ 155 6 (0 : Int32))).bind fun t3 =>
    (g_131 t3 (f_up σ 155 6 (0 : Int32))).bind fun t4 =>
    some (.inl ((s1.1 + t4), (s1.2 + (1 : Int32))))
   )
  ) f_F ((0 : Int32), (0 : Int32))).bind fun (x1 : Int32) =>
  some (x1, (f_up σ 155 6 (0 : Int32)))
set_option maxRecDepth 4000 in
theorem G_279 {xs : Nat → Int32} {L N : Nat} (hN : 166 ≤ N)   (σ : f_M) : f_Cal a_MT xs L N 279 [.ref 155] σ ((g_279  σ).bind fun t => some (e_wi t)) := by
  refine f_cal_of (ls := [.ref 155, a_dead, a_dead]) MT_279 (Nat.le_of_ble_eq_true rfl) rfl ?_
  unfold g_279
  refine i_aload_n (pc' := 1) (f_at inc_279 (j := 0) rfl) rfl rfl ?_
  refine i_iconst (pc' := 2) (f_at inc_279 (j := 1) rfl) ci_0 rfl ?_
  refine i_putI (pc' := 5) (f_at inc_279 (j := 2) rfl) sh_155 rfl ⟨rfl, rfl⟩ (f_lt (o := 155) (m := 166) (Nat.le_of_ble_eq_true rfl) hN) rfl ?_
  refine i_iconst (pc' := 6) (f_at inc_279 (j := 3) rfl) ci_0 rfl ?_
  refine i_istore_n (pc' := 7) (ls' := [.ref 155, .int (0 : Int32), a_dead]) (f_at inc_279 (j := 4) rfl) (Nat.le_of_ble_eq_true rfl) rfl rfl ?_
  refine i_iconst (pc' := 8) (f_at inc_279 (j := 5) rfl) ci_0 rfl ?_
  refine i_istore_n (pc' := 9) (ls' := [.ref 155, .int (0 : Int32), .int (0 : Int32)]) (f_at inc_279 (j := 6) rfl) (Nat.le_of_ble_eq_true rfl) rfl rfl ?_
  refine s_lX (X := 36) ((0 : Int32), (0 : Int32)) () (fun (s1 : Int32 × Int32) (u1 : Unit) => [.ref 155, .int s1.1, .int s1.2]) (fun (s1 : Int32 × Int32) => (f_up σ 155 6 (0 : Int32))) (fun (x1 : Int32) (w1 : Value) => [.ref 155, .int x1, w1]) (fun (x1 : Int32) => (f_up σ 155 6 (0 : Int32))) ?_ ?_
  · intro x1 w1
    refine i_iload_n (pc' := 37) (f_at inc_279 (j := 22) rfl) rfl rfl ?_
    exact i_iret (f_at inc_279 (j := 23) rfl) rfl n_int
  · intro s1 u1 k1 hb1 hx1
    refine i_iload_n (pc' := 10) (f_at inc_279 (j := 7) rfl) rfl rfl ?_
    refine i_aload_n (pc' := 11) (f_at inc_279 (j := 8) rfl) rfl rfl ?_
    refine i_getR (pc' := 14) (f_at inc_279 (j := 9) rfl) sh_155 rfl (f_lt (o := 155) (m := 166) (Nat.le_of_ble_eq_true rfl) hN) rfl ?_
    refine i_iconst (pc' := 15) (f_at inc_279 (j := 10) rfl) ci_4 rfl ?_
    refine i_iald (pc' := 16) (f_at inc_279 (j := 11) rfl) sh_156 (f_bg (Nat.le_of_ble_eq_true rfl)) (f_lt (o := 156) (m := 166) (Nat.le_of_ble_eq_true rfl) hN) rfl fun v2 => ?_
    refine i_if2 (pc' := 36) (nx := 19) c2_ge (f_at inc_279 (j := 12) rfl) ⟨by decide, rfl⟩ (fun b5 => ?_) (fun b5 => ?_)
    · exact hx1 s1.1 (.int s1.2)
    · refine i_iload_n (pc' := 20) (f_at inc_279 (j := 13) rfl) rfl rfl ?_
      refine i_aload_n (pc' := 21) (f_at inc_279 (j := 14) rfl) rfl rfl ?_
      refine i_iload_n (pc' := 22) (f_at inc_279 (j := 15) rfl) rfl rfl ?_
      refine c_pb (pc' := 25) (c' := 0) (n' := 0) (h_virt (ra := [.int s1.2, .ref 155]) (r := [.int s1.1]) (as := [.int s1.2]) (f_at inc_279 (j := 16) rfl) (by decide) MT_120 rfl rfl rfl ⟨Nat.le_of_ble_eq_true rfl, Nat.le_of_ble_eq_true rfl, Nat.le_of_ble_eq_true rfl⟩ sh_155 (f_lt (o := 155) (m := 166) (Nat.le_of_ble_eq_true rfl) hN)) MT_120 (G_120 hN s1.2 (f_up σ 155 6 (0 : Int32))) ⟨rfl, rfl, rfl⟩ fun t3 => ?_
      refine c_pi (pc' := 28) (c' := 0) (n' := 0) (h_stat (ra := [.int (f_b t3)]) (r := [.int s1.1]) (as := [.int (f_b t3)]) (f_at inc_279 (j := 17) rfl) (by decide) MT_131 rfl rfl rfl ⟨Nat.le_of_ble_eq_true rfl, Nat.le_of_ble_eq_true rfl, Nat.le_of_ble_eq_true rfl⟩) MT_131 (G_131 hN t3 (f_up σ 155 6 (0 : Int32))) ⟨rfl, rfl, rfl⟩ fun t4 => ?_
      refine i_iadd (pc' := 29) (f_at inc_279 (j := 18) rfl) rfl ?_
      refine i_istore_n (pc' := 30) (ls' := [.ref 155, .int (s1.1 + t4), .int s1.2]) (f_at inc_279 (j := 19) rfl) (Nat.le_of_ble_eq_true rfl) rfl rfl ?_
      refine i_iinc (pc' := 33) (ls' := [.ref 155, .int (s1.1 + t4), .int (s1.2 + (1 : Int32))]) (f_at inc_279 (j := 20) rfl) rfl ci_1 rfl rfl ?_
      refine i_goto (pc' := 9) (f_at inc_279 (j := 21) rfl) (by decide) ?_
      exact hb1 ((s1.1 + t4), (s1.2 + (1 : Int32))) ()
set_option maxRecDepth 4000 in
def g_280  (σ : f_M) : Option (UInt64) :=
  if ¬ (σ 121 12) = 0 then (
   if FP.ddiv (FP.i2d (σ 121 13)) (FP.i2d (σ 121 12)) &&& 0x7fffffffffffffff ≤ 0x7ff0000000000000 then (
   some (FP.ddiv (FP.i2d (σ 121 13)) (FP.i2d (σ 121 12)))
   ) else none
  ) else (
   some FP.dconst0
  )
set_option maxRecDepth 4000 in
theorem G_280 {xs : Nat → Int32} {L N : Nat} (hN : 155 ≤ N)   (σ : f_M) : f_Cal a_MT xs L N 280 [.ref 0] σ ((g_280  σ).bind fun t => some (e_pd σ t)) := by
  refine f_cal_of (ls := [.ref 0]) MT_280 (Nat.le_of_ble_eq_true rfl) rfl ?_
  unfold g_280
  refine i_aload_n (pc' := 1) (f_at inc_280 (j := 0) rfl) rfl rfl ?_
  refine i_getR (pc' := 4) (f_at inc_280 (j := 1) rfl) sh_0 rfl (f_lt (o := 0) (m := 155) (Nat.le_of_ble_eq_true rfl) hN) rfl ?_
  refine i_getI (pc' := 7) (f_at inc_280 (j := 2) rfl) sh_121 rfl (f_lt (o := 121) (m := 155) (Nat.le_of_ble_eq_true rfl) hN) rfl ?_
  refine i_if0 (pc' := 12) (nx := 10) c0_ne (f_at inc_280 (j := 3) rfl) ⟨by decide, rfl⟩ (fun b1 => ?_) (fun b1 => ?_)
  · refine i_aload_n (pc' := 13) (f_at inc_280 (j := 6) rfl) rfl rfl ?_
    refine i_getR (pc' := 16) (f_at inc_280 (j := 7) rfl) sh_0 rfl (f_lt (o := 0) (m := 155) (Nat.le_of_ble_eq_true rfl) hN) rfl ?_
    refine i_getI (pc' := 19) (f_at inc_280 (j := 8) rfl) sh_121 rfl (f_lt (o := 121) (m := 155) (Nat.le_of_ble_eq_true rfl) hN) rfl ?_
    refine i_i2d (pc' := 20) (f_at inc_280 (j := 9) rfl) rfl ?_
    refine i_aload_n (pc' := 21) (f_at inc_280 (j := 10) rfl) rfl rfl ?_
    refine i_getR (pc' := 24) (f_at inc_280 (j := 11) rfl) sh_0 rfl (f_lt (o := 0) (m := 155) (Nat.le_of_ble_eq_true rfl) hN) rfl ?_
    refine i_getI (pc' := 27) (f_at inc_280 (j := 12) rfl) sh_121 rfl (f_lt (o := 121) (m := 155) (Nat.le_of_ble_eq_true rfl) hN) rfl ?_
    refine i_i2d (pc' := 28) (f_at inc_280 (j := 13) rfl) rfl ?_
    refine i_ddiv (pc' := 29) (f_at inc_280 (j := 14) rfl) rfl ?_
    exact i_dret (f_at inc_280 (j := 15) rfl) rfl
  · refine i_dconst (pc' := 11) (f_at inc_280 (j := 4) rfl) rfl ?_
    exact i_dret (f_at inc_280 (j := 5) rfl) rfl
set_option maxRecDepth 4000 in
def g_281  (σ : f_M) : Option (UInt64 × f_M) :=
  (f_rd (f_up σ 155 6 (0 : Int32)) 156 2420 (6 : Int32)).bind fun v1 =>
  (
   if ¬ v1 = 0 then (
    (f_rd (f_up σ 155 6 (0 : Int32)) 156 2420 (7 : Int32)).bind fun v3 =>
    (f_rd (f_up σ 155 6 (0 : Int32)) 156 2420 (6 : Int32)).bind fun v4 =>
    if FP.ddiv (FP.i2d v3) (FP.i2d v4) &&& 0x7fffffffffffffff ≤ 0x7ff0000000000000 then (
    some (FP.ddiv (FP.i2d v3) (FP.i2d v4))
    ) else none
   ) else (
    some FP.dconst0
   )
  ).bind fun (t2 : UInt64) =>
  some (t2, (f_up σ 155 6 (0 : Int32)))
set_option maxRecDepth 4000 in
theorem G_281 {xs : Nat → Int32} {L N : Nat} (hN : 166 ≤ N)   (σ : f_M) : f_Cal a_MT xs L N 281 [.ref 155] σ ((g_281  σ).bind fun t => some (e_wd t)) := by
  refine f_cal_of (ls := [.ref 155]) MT_281 (Nat.le_of_ble_eq_true rfl) rfl ?_
  unfold g_281
  refine i_aload_n (pc' := 1) (f_at inc_281 (j := 0) rfl) rfl rfl ?_
  refine i_iconst (pc' := 2) (f_at inc_281 (j := 1) rfl) ci_0 rfl ?_
  refine i_putI (pc' := 5) (f_at inc_281 (j := 2) rfl) sh_155 rfl ⟨rfl, rfl⟩ (f_lt (o := 155) (m := 166) (Nat.le_of_ble_eq_true rfl) hN) rfl ?_
  refine i_aload_n (pc' := 6) (f_at inc_281 (j := 3) rfl) rfl rfl ?_
  refine i_getR (pc' := 9) (f_at inc_281 (j := 4) rfl) sh_155 rfl (f_lt (o := 155) (m := 166) (Nat.le_of_ble_eq_true rfl) hN) rfl ?_
  refine i_bipush (pc' := 11) (f_at inc_281 (j := 5) rfl) cb_6 rfl ?_
  refine i_iald (pc' := 12) (f_at inc_281 (j := 6) rfl) sh_156 (f_bg (Nat.le_of_ble_eq_true rfl)) (f_lt (o := 156) (m := 166) (Nat.le_of_ble_eq_true rfl) hN) rfl fun v1 => ?_
  refine s_join (J := 36) (fun (t2 : UInt64) (u2 : Unit) => [.ref 155]) (fun t2 => [.double t2]) (fun t2 => (f_up σ 155 6 (0 : Int32))) ?_ ?_
  · intro t2 u2
    exact i_dret (f_at inc_281 (j := 21) rfl) rfl
  · intro k2 hj2
    refine i_if0 (pc' := 19) (nx := 15) c0_ne (f_at inc_281 (j := 7) rfl) ⟨by decide, rfl⟩ (fun b5 => ?_) (fun b5 => ?_)
    · refine i_aload_n (pc' := 20) (f_at inc_281 (j := 10) rfl) rfl rfl ?_
      refine i_getR (pc' := 23) (f_at inc_281 (j := 11) rfl) sh_155 rfl (f_lt (o := 155) (m := 166) (Nat.le_of_ble_eq_true rfl) hN) rfl ?_
      refine i_bipush (pc' := 25) (f_at inc_281 (j := 12) rfl) cb_7 rfl ?_
      refine i_iald (pc' := 26) (f_at inc_281 (j := 13) rfl) sh_156 (f_bg (Nat.le_of_ble_eq_true rfl)) (f_lt (o := 156) (m := 166) (Nat.le_of_ble_eq_true rfl) hN) rfl fun v3 => ?_
      refine i_i2d (pc' := 27) (f_at inc_281 (j := 14) rfl) rfl ?_
      refine i_aload_n (pc' := 28) (f_at inc_281 (j := 15) rfl) rfl rfl ?_
      refine i_getR (pc' := 31) (f_at inc_281 (j := 16) rfl) sh_155 rfl (f_lt (o := 155) (m := 166) (Nat.le_of_ble_eq_true rfl) hN) rfl ?_
      refine i_bipush (pc' := 33) (f_at inc_281 (j := 17) rfl) cb_6 rfl ?_
      refine i_iald (pc' := 34) (f_at inc_281 (j := 18) rfl) sh_156 (f_bg (Nat.le_of_ble_eq_true rfl)) (f_lt (o := 156) (m := 166) (Nat.le_of_ble_eq_true rfl) hN) rfl fun v4 => ?_
      refine i_i2d (pc' := 35) (f_at inc_281 (j := 19) rfl) rfl ?_
      refine i_ddiv (pc' := 36) (f_at inc_281 (j := 20) rfl) rfl ?_
      exact hj2 (FP.ddiv (FP.i2d v3) (FP.i2d v4)) ()
    · refine i_dconst (pc' := 16) (f_at inc_281 (j := 8) rfl) rfl ?_
      refine i_goto (pc' := 36) (f_at inc_281 (j := 9) rfl) (by decide) ?_
      exact hj2 FP.dconst0 ()
set_option maxRecDepth 4000 in
def g_282  (σ : f_M) : Option (UInt32) :=
  (f_lp (fun (s1 : Int32 × Int32) =>
   if (σ 121 5) ≤ s1.2 then (
    some (.inr s1.1)
   ) else (
    (f_rd σ 124 20 s1.2).bind fun v2 =>
    (
     if v2 = 0 then (
      some s1.1
     ) else (
      some (s1.1 + (1 : Int32))
     )
    ).bind fun (t3 : Int32) =>
    some (.inl (t3, (s1.2 + (1 : Int32))))
   )
  ) f_F ((0 : Int32), (0 : Int32))).bind fun (x1 : Int32) =>
  if ¬ x1 = 0 then (
   if FP.fdiv (FP.i2f (σ 121 10)) (FP.i2f x1) &&& 0x7fffffff ≤ 0x7f800000 then (
   some (FP.fdiv (FP.i2f (σ 121 10)) (FP.i2f x1))
   ) else none
  ) else (
   some FP.fconst0
  )
set_option maxRecDepth 4000 in
theorem G_282 {xs : Nat → Int32} {L N : Nat} (hN : 155 ≤ N)   (σ : f_M) : f_Cal a_MT xs L N 282 [.ref 0] σ ((g_282  σ).bind fun t => some (e_pf σ t)) := by
  refine f_cal_of (ls := [.ref 0, a_dead, a_dead]) MT_282 (Nat.le_of_ble_eq_true rfl) rfl ?_
  unfold g_282
  refine i_iconst (pc' := 1) (f_at inc_282 (j := 0) rfl) ci_0 rfl ?_
  refine i_istore_n (pc' := 2) (ls' := [.ref 0, .int (0 : Int32), a_dead]) (f_at inc_282 (j := 1) rfl) (Nat.le_of_ble_eq_true rfl) rfl rfl ?_
  refine i_iconst (pc' := 3) (f_at inc_282 (j := 2) rfl) ci_0 rfl ?_
  refine i_istore_n (pc' := 4) (ls' := [.ref 0, .int (0 : Int32), .int (0 : Int32)]) (f_at inc_282 (j := 3) rfl) (Nat.le_of_ble_eq_true rfl) rfl rfl ?_
  refine s_lX (X := 36) ((0 : Int32), (0 : Int32)) () (fun (s1 : Int32 × Int32) (u1 : Unit) => [.ref 0, .int s1.1, .int s1.2]) (fun (s1 : Int32 × Int32) => σ) (fun (x1 : Int32) (w1 : Value) => [.ref 0, .int x1, w1]) (fun (x1 : Int32) => σ) ?_ ?_
  · intro x1 w1
    refine i_iload_n (pc' := 37) (f_at inc_282 (j := 18) rfl) rfl rfl ?_
    refine i_if0 (pc' := 42) (nx := 40) c0_ne (f_at inc_282 (j := 19) rfl) ⟨by decide, rfl⟩ (fun b6 => ?_) (fun b6 => ?_)
    · refine i_aload_n (pc' := 43) (f_at inc_282 (j := 22) rfl) rfl rfl ?_
      refine i_getR (pc' := 46) (f_at inc_282 (j := 23) rfl) sh_0 rfl (f_lt (o := 0) (m := 155) (Nat.le_of_ble_eq_true rfl) hN) rfl ?_
      refine i_getI (pc' := 49) (f_at inc_282 (j := 24) rfl) sh_121 rfl (f_lt (o := 121) (m := 155) (Nat.le_of_ble_eq_true rfl) hN) rfl ?_
      refine i_i2f (pc' := 50) (f_at inc_282 (j := 25) rfl) rfl ?_
      refine i_iload_n (pc' := 51) (f_at inc_282 (j := 26) rfl) rfl rfl ?_
      refine i_i2f (pc' := 52) (f_at inc_282 (j := 27) rfl) rfl ?_
      refine i_fdiv (pc' := 53) (f_at inc_282 (j := 28) rfl) rfl ?_
      exact i_fret (f_at inc_282 (j := 29) rfl) rfl
    · refine i_fconst (pc' := 41) (f_at inc_282 (j := 20) rfl) rfl ?_
      exact i_fret (f_at inc_282 (j := 21) rfl) rfl
  · intro s1 u1 k1 hb1 hx1
    refine i_iload_n (pc' := 5) (f_at inc_282 (j := 4) rfl) rfl rfl ?_
    refine i_aload_n (pc' := 6) (f_at inc_282 (j := 5) rfl) rfl rfl ?_
    refine i_getR (pc' := 9) (f_at inc_282 (j := 6) rfl) sh_0 rfl (f_lt (o := 0) (m := 155) (Nat.le_of_ble_eq_true rfl) hN) rfl ?_
    refine i_getI (pc' := 12) (f_at inc_282 (j := 7) rfl) sh_121 rfl (f_lt (o := 121) (m := 155) (Nat.le_of_ble_eq_true rfl) hN) rfl ?_
    refine i_if2 (pc' := 36) (nx := 15) c2_ge (f_at inc_282 (j := 8) rfl) ⟨by decide, rfl⟩ (fun b5 => ?_) (fun b5 => ?_)
    · exact hx1 s1.1 (.int s1.2)
    · refine i_aload_n (pc' := 16) (f_at inc_282 (j := 9) rfl) rfl rfl ?_
      refine i_getR (pc' := 19) (f_at inc_282 (j := 10) rfl) sh_0 rfl (f_lt (o := 0) (m := 155) (Nat.le_of_ble_eq_true rfl) hN) rfl ?_
      refine i_getR (pc' := 22) (f_at inc_282 (j := 11) rfl) sh_121 rfl (f_lt (o := 121) (m := 155) (Nat.le_of_ble_eq_true rfl) hN) rfl ?_
      refine i_iload_n (pc' := 23) (f_at inc_282 (j := 12) rfl) rfl rfl ?_
      refine i_iald (pc' := 24) (f_at inc_282 (j := 13) rfl) sh_124 (f_bg (Nat.le_of_ble_eq_true rfl)) (f_lt (o := 124) (m := 155) (Nat.le_of_ble_eq_true rfl) hN) rfl fun v2 => ?_
      refine s_join (J := 30) (fun (t3 : Int32) (u3 : Unit) => [.ref 0, .int t3, .int s1.2]) (fun t3 => []) (fun t3 => σ) ?_ ?_
      · intro t3 u3
        refine i_iinc (pc' := 33) (ls' := [.ref 0, .int t3, .int (s1.2 + (1 : Int32))]) (f_at inc_282 (j := 16) rfl) rfl ci_1 rfl rfl ?_
        refine i_goto (pc' := 4) (f_at inc_282 (j := 17) rfl) (by decide) ?_
        exact hb1 (t3, (s1.2 + (1 : Int32))) ()
      · intro k3 hj3
        refine i_if0 (pc' := 30) (nx := 27) c0_eq (f_at inc_282 (j := 14) rfl) ⟨by decide, rfl⟩ (fun b4 => ?_) (fun b4 => ?_)
        · exact hj3 s1.1 ()
        · refine i_iinc (pc' := 30) (ls' := [.ref 0, .int (s1.1 + (1 : Int32)), .int s1.2]) (f_at inc_282 (j := 15) rfl) rfl ci_1 rfl rfl ?_
          exact hj3 (s1.1 + (1 : Int32)) ()
set_option maxRecDepth 4000 in
def g_283 (a1 : Int32) (σ : f_M) : Option (Int32) :=
  (f_lp (fun (s1 : Int32 × Int32) =>
   (f_rd σ 156 2420 (5 : Int32)).bind fun v2 =>
   if v2 ≤ s1.2 then (
    some (.inr s1.1)
   ) else (
    (g_126 s1.2 σ).bind fun t3 =>
    (f_rd σ 156 2420 (t3 + (3 : Int32))).bind fun v4 =>
    (
     if ¬ v4 = a1 then (
      some false
     ) else (
      some true
     )
    ).bind fun (t5 : Bool) =>
    (g_131 t5 σ).bind fun t7 =>
    some (.inl ((s1.1 + t7), (s1.2 + (1 : Int32))))
   )
  ) f_F ((0 : Int32), (0 : Int32))).bind fun (x1 : Int32) =>
  some x1
set_option maxRecDepth 4000 in
theorem G_283 {xs : Nat → Int32} {L N : Nat} (hN : 166 ≤ N) (a1 : Int32)  (σ : f_M) : f_Cal a_MT xs L N 283 [.ref 155, .int a1] σ ((g_283 a1 σ).bind fun t => some (e_pi σ t)) := by
  refine f_cal_of (ls := [.ref 155, .int a1, a_dead, a_dead]) MT_283 (Nat.le_of_ble_eq_true rfl) rfl ?_
  unfold g_283
  refine i_iconst (pc' := 1) (f_at inc_283 (j := 0) rfl) ci_0 rfl ?_
  refine i_istore_n (pc' := 2) (ls' := [.ref 155, .int a1, .int (0 : Int32), a_dead]) (f_at inc_283 (j := 1) rfl) (Nat.le_of_ble_eq_true rfl) rfl rfl ?_
  refine i_iconst (pc' := 3) (f_at inc_283 (j := 2) rfl) ci_0 rfl ?_
  refine i_istore_n (pc' := 4) (ls' := [.ref 155, .int a1, .int (0 : Int32), .int (0 : Int32)]) (f_at inc_283 (j := 3) rfl) (Nat.le_of_ble_eq_true rfl) rfl rfl ?_
  refine s_lX (X := 46) ((0 : Int32), (0 : Int32)) () (fun (s1 : Int32 × Int32) (u1 : Unit) => [.ref 155, .int a1, .int s1.1, .int s1.2]) (fun (s1 : Int32 × Int32) => σ) (fun (x1 : Int32) (w1 : Value) => [.ref 155, .int a1, .int x1, w1]) (fun (x1 : Int32) => σ) ?_ ?_
  · intro x1 w1
    refine i_iload_n (pc' := 47) (f_at inc_283 (j := 28) rfl) rfl rfl ?_
    exact i_iret (f_at inc_283 (j := 29) rfl) rfl n_int
  · intro s1 u1 k1 hb1 hx1
    refine i_iload_n (pc' := 5) (f_at inc_283 (j := 4) rfl) rfl rfl ?_
    refine i_aload_n (pc' := 6) (f_at inc_283 (j := 5) rfl) rfl rfl ?_
    refine i_getR (pc' := 9) (f_at inc_283 (j := 6) rfl) sh_155 rfl (f_lt (o := 155) (m := 166) (Nat.le_of_ble_eq_true rfl) hN) rfl ?_
    refine i_iconst (pc' := 10) (f_at inc_283 (j := 7) rfl) ci_5 rfl ?_
    refine i_iald (pc' := 11) (f_at inc_283 (j := 8) rfl) sh_156 (f_bg (Nat.le_of_ble_eq_true rfl)) (f_lt (o := 156) (m := 166) (Nat.le_of_ble_eq_true rfl) hN) rfl fun v2 => ?_
    refine i_if2 (pc' := 46) (nx := 14) c2_ge (f_at inc_283 (j := 9) rfl) ⟨by decide, rfl⟩ (fun b8 => ?_) (fun b8 => ?_)
    · exact hx1 s1.1 (.int s1.2)
    · refine i_iload_n (pc' := 15) (f_at inc_283 (j := 10) rfl) rfl rfl ?_
      refine i_aload_n (pc' := 16) (f_at inc_283 (j := 11) rfl) rfl rfl ?_
      refine i_getR (pc' := 19) (f_at inc_283 (j := 12) rfl) sh_155 rfl (f_lt (o := 155) (m := 166) (Nat.le_of_ble_eq_true rfl) hN) rfl ?_
      refine i_iload_n (pc' := 20) (f_at inc_283 (j := 13) rfl) rfl rfl ?_
      refine c_pi (pc' := 23) (c' := 0) (n' := 0) (h_stat (ra := [.int s1.2]) (r := [.ref 156, .int s1.1]) (as := [.int s1.2]) (f_at inc_283 (j := 14) rfl) (by decide) MT_126 rfl rfl rfl ⟨Nat.le_of_ble_eq_true rfl, Nat.le_of_ble_eq_true rfl, Nat.le_of_ble_eq_true rfl⟩) MT_126 (G_126 hN s1.2 σ) ⟨rfl, rfl, rfl⟩ fun t3 => ?_
      refine i_iconst (pc' := 24) (f_at inc_283 (j := 15) rfl) ci_3 rfl ?_
      refine i_iadd (pc' := 25) (f_at inc_283 (j := 16) rfl) rfl ?_
      refine i_iald (pc' := 26) (f_at inc_283 (j := 17) rfl) sh_156 (f_bg (Nat.le_of_ble_eq_true rfl)) (f_lt (o := 156) (m := 166) (Nat.le_of_ble_eq_true rfl) hN) rfl fun v4 => ?_
      refine i_iload_n (pc' := 27) (f_at inc_283 (j := 18) rfl) rfl rfl ?_
      refine s_join (J := 35) (fun (t5 : Bool) (u5 : Unit) => [.ref 155, .int a1, .int s1.1, .int s1.2]) (fun t5 => [.int (f_b t5), .int s1.1]) (fun t5 => σ) ?_ ?_
      · intro t5 u5
        refine c_pi (pc' := 38) (c' := 0) (n' := 0) (h_stat (ra := [.int (f_b t5)]) (r := [.int s1.1]) (as := [.int (f_b t5)]) (f_at inc_283 (j := 23) rfl) (by decide) MT_131 rfl rfl rfl ⟨Nat.le_of_ble_eq_true rfl, Nat.le_of_ble_eq_true rfl, Nat.le_of_ble_eq_true rfl⟩) MT_131 (G_131 hN t5 σ) ⟨rfl, rfl, rfl⟩ fun t7 => ?_
        refine i_iadd (pc' := 39) (f_at inc_283 (j := 24) rfl) rfl ?_
        refine i_istore_n (pc' := 40) (ls' := [.ref 155, .int a1, .int (s1.1 + t7), .int s1.2]) (f_at inc_283 (j := 25) rfl) (Nat.le_of_ble_eq_true rfl) rfl rfl ?_
        refine i_iinc (pc' := 43) (ls' := [.ref 155, .int a1, .int (s1.1 + t7), .int (s1.2 + (1 : Int32))]) (f_at inc_283 (j := 26) rfl) rfl ci_1 rfl rfl ?_
        refine i_goto (pc' := 4) (f_at inc_283 (j := 27) rfl) (by decide) ?_
        exact hb1 ((s1.1 + t7), (s1.2 + (1 : Int32))) ()
      · intro k5 hj5
        refine i_if2 (pc' := 34) (nx := 30) c2_ne (f_at inc_283 (j := 19) rfl) ⟨by decide, rfl⟩ (fun b6 => ?_) (fun b6 => ?_)
        · refine i_iconst (pc' := 35) (f_at inc_283 (j := 22) rfl) ci_0 rfl ?_
          exact hj5 false ()
        · refine i_iconst (pc' := 31) (f_at inc_283 (j := 20) rfl) ci_1 rfl ?_
          refine i_goto (pc' := 35) (f_at inc_283 (j := 21) rfl) (by decide) ?_
          exact hj5 true ()
set_option maxRecDepth 4000 in
def g_284  (σ : f_M) : Option (UInt32 × f_M) :=
  (g_283 (2 : Int32) (f_up σ 155 6 (0 : Int32))).bind fun t1 =>
  (g_283 (3 : Int32) (f_up σ 155 6 (0 : Int32))).bind fun t2 =>
  (f_rd (f_up σ 155 6 (0 : Int32)) 156 2420 (10 : Int32)).bind fun v3 =>
  (
   if ¬ v3 = 0 then (
    (f_rd (f_up σ 155 6 (0 : Int32)) 156 2420 (10 : Int32)).bind fun v5 =>
    if FP.fdiv (FP.i2f (t1 + t2)) (FP.i2f v5) &&& 0x7fffffff ≤ 0x7f800000 then (
    some (FP.fdiv (FP.i2f (t1 + t2)) (FP.i2f v5))
    ) else none
   ) else (
    some FP.fconst0
   )
  ).bind fun (t4 : UInt32) =>
  some (t4, (f_up σ 155 6 (0 : Int32)))
set_option maxRecDepth 4000 in
theorem G_284 {xs : Nat → Int32} {L N : Nat} (hN : 166 ≤ N)   (σ : f_M) : f_Cal a_MT xs L N 284 [.ref 155] σ ((g_284  σ).bind fun t => some (e_wf t)) := by
  refine f_cal_of (ls := [.ref 155, a_dead]) MT_284 (Nat.le_of_ble_eq_true rfl) rfl ?_
  unfold g_284
  refine i_aload_n (pc' := 1) (f_at inc_284 (j := 0) rfl) rfl rfl ?_
  refine i_iconst (pc' := 2) (f_at inc_284 (j := 1) rfl) ci_0 rfl ?_
  refine i_putI (pc' := 5) (f_at inc_284 (j := 2) rfl) sh_155 rfl ⟨rfl, rfl⟩ (f_lt (o := 155) (m := 166) (Nat.le_of_ble_eq_true rfl) hN) rfl ?_
  refine i_aload_n (pc' := 6) (f_at inc_284 (j := 3) rfl) rfl rfl ?_
  refine i_iconst (pc' := 7) (f_at inc_284 (j := 4) rfl) ci_2 rfl ?_
  refine c_pi (pc' := 10) (c' := 0) (n' := 0) (h_virt (ra := [.int (2 : Int32), .ref 155]) (r := []) (as := [.int (2 : Int32)]) (f_at inc_284 (j := 5) rfl) (by decide) MT_283 rfl rfl rfl ⟨Nat.le_of_ble_eq_true rfl, Nat.le_of_ble_eq_true rfl, Nat.le_of_ble_eq_true rfl⟩ sh_155 (f_lt (o := 155) (m := 166) (Nat.le_of_ble_eq_true rfl) hN)) MT_283 (G_283 hN (2 : Int32) (f_up σ 155 6 (0 : Int32))) ⟨rfl, rfl, rfl⟩ fun t1 => ?_
  refine i_aload_n (pc' := 11) (f_at inc_284 (j := 6) rfl) rfl rfl ?_
  refine i_iconst (pc' := 12) (f_at inc_284 (j := 7) rfl) ci_3 rfl ?_
  refine c_pi (pc' := 15) (c' := 0) (n' := 0) (h_virt (ra := [.int (3 : Int32), .ref 155]) (r := [.int t1]) (as := [.int (3 : Int32)]) (f_at inc_284 (j := 8) rfl) (by decide) MT_283 rfl rfl rfl ⟨Nat.le_of_ble_eq_true rfl, Nat.le_of_ble_eq_true rfl, Nat.le_of_ble_eq_true rfl⟩ sh_155 (f_lt (o := 155) (m := 166) (Nat.le_of_ble_eq_true rfl) hN)) MT_283 (G_283 hN (3 : Int32) (f_up σ 155 6 (0 : Int32))) ⟨rfl, rfl, rfl⟩ fun t2 => ?_
  refine i_iadd (pc' := 16) (f_at inc_284 (j := 9) rfl) rfl ?_
  refine i_istore_n (pc' := 17) (ls' := [.ref 155, .int (t1 + t2)]) (f_at inc_284 (j := 10) rfl) (Nat.le_of_ble_eq_true rfl) rfl rfl ?_
  refine i_aload_n (pc' := 18) (f_at inc_284 (j := 11) rfl) rfl rfl ?_
  refine i_getR (pc' := 21) (f_at inc_284 (j := 12) rfl) sh_155 rfl (f_lt (o := 155) (m := 166) (Nat.le_of_ble_eq_true rfl) hN) rfl ?_
  refine i_bipush (pc' := 23) (f_at inc_284 (j := 13) rfl) cb_10 rfl ?_
  refine i_iald (pc' := 24) (f_at inc_284 (j := 14) rfl) sh_156 (f_bg (Nat.le_of_ble_eq_true rfl)) (f_lt (o := 156) (m := 166) (Nat.le_of_ble_eq_true rfl) hN) rfl fun v3 => ?_
  refine s_join (J := 42) (fun (t4 : UInt32) (u4 : Unit) => [.ref 155, .int (t1 + t2)]) (fun t4 => [.float t4]) (fun t4 => (f_up σ 155 6 (0 : Int32))) ?_ ?_
  · intro t4 u4
    exact i_fret (f_at inc_284 (j := 26) rfl) rfl
  · intro k4 hj4
    refine i_if0 (pc' := 31) (nx := 27) c0_ne (f_at inc_284 (j := 15) rfl) ⟨by decide, rfl⟩ (fun b6 => ?_) (fun b6 => ?_)
    · refine i_iload_n (pc' := 32) (f_at inc_284 (j := 18) rfl) rfl rfl ?_
      refine i_i2f (pc' := 33) (f_at inc_284 (j := 19) rfl) rfl ?_
      refine i_aload_n (pc' := 34) (f_at inc_284 (j := 20) rfl) rfl rfl ?_
      refine i_getR (pc' := 37) (f_at inc_284 (j := 21) rfl) sh_155 rfl (f_lt (o := 155) (m := 166) (Nat.le_of_ble_eq_true rfl) hN) rfl ?_
      refine i_bipush (pc' := 39) (f_at inc_284 (j := 22) rfl) cb_10 rfl ?_
      refine i_iald (pc' := 40) (f_at inc_284 (j := 23) rfl) sh_156 (f_bg (Nat.le_of_ble_eq_true rfl)) (f_lt (o := 156) (m := 166) (Nat.le_of_ble_eq_true rfl) hN) rfl fun v5 => ?_
      refine i_i2f (pc' := 41) (f_at inc_284 (j := 24) rfl) rfl ?_
      refine i_fdiv (pc' := 42) (f_at inc_284 (j := 25) rfl) rfl ?_
      exact hj4 (FP.fdiv (FP.i2f (t1 + t2)) (FP.i2f v5)) ()
    · refine i_fconst (pc' := 28) (f_at inc_284 (j := 16) rfl) rfl ?_
      refine i_goto (pc' := 42) (f_at inc_284 (j := 17) rfl) (by decide) ?_
      exact hj4 FP.fconst0 ()
set_option maxRecDepth 4000 in
def g_285 (a0 : Int32) (a1 : Int32) (a2 : Int32) (σ : f_M) : Option (Unit ⊕ Fin 4) :=
  if a0 < a1 then (
   some (.inr 1)
  ) else (
   if a0 ≤ a2 then (
    some (.inl ())
   ) else (
    some (.inr 1)
   )
  )
set_option maxRecDepth 4000 in
theorem G_285 {xs : Nat → Int32} {L N : Nat} (hN : 155 ≤ N) (a0 : Int32) (a1 : Int32) (a2 : Int32)  (σ : f_M) : f_Cal a_MT xs L N 285 [.int a0, .int a1, .int a2] σ ((g_285 a0 a1 a2 σ).bind fun t => some (e_tv σ t)) := by
  refine f_cal_of (ls := [.int a0, .int a1, .int a2]) MT_285 (Nat.le_of_ble_eq_true rfl) rfl ?_
  unfold g_285
  refine i_iload_n (pc' := 1) (f_at inc_285 (j := 0) rfl) rfl rfl ?_
  refine i_iload_n (pc' := 2) (f_at inc_285 (j := 1) rfl) rfl rfl ?_
  refine i_if2 (pc' := 10) (nx := 5) c2_lt (f_at inc_285 (j := 2) rfl) ⟨by decide, rfl⟩ (fun b2 => ?_) (fun b2 => ?_)
  · exact i_thrw (a9 := 1) (f_at inc_285 (j := 6) rfl) ⟨rfl, by decide⟩ ⟨rfl, rfl⟩ ⟨Nat.le_of_ble_eq_true rfl, Nat.le_of_ble_eq_true rfl, Nat.le_of_ble_eq_true rfl⟩
  · refine i_iload_n (pc' := 6) (f_at inc_285 (j := 3) rfl) rfl rfl ?_
    refine i_iload_n (pc' := 7) (f_at inc_285 (j := 4) rfl) rfl rfl ?_
    refine i_if2 (pc' := 21) (nx := 10) c2_le (f_at inc_285 (j := 5) rfl) ⟨by decide, rfl⟩ (fun b1 => ?_) (fun b1 => ?_)
    · exact i_vret (f_at inc_285 (j := 7) rfl) rfl
    · exact i_thrw (a9 := 1) (f_at inc_285 (j := 6) rfl) ⟨rfl, by decide⟩ ⟨rfl, rfl⟩ ⟨Nat.le_of_ble_eq_true rfl, Nat.le_of_ble_eq_true rfl, Nat.le_of_ble_eq_true rfl⟩
set_option maxRecDepth 4000 in
def g_286 (a1 : Int32) (a2 : Int32) (σ : f_M) : Option (Int32 ⊕ Fin 4) :=
  (g_285 a1 (1 : Int32) (24 : Int32) σ).bind fun t1 => Sum.elim (fun _ =>
   (g_285 a2 (1 : Int32) (500 : Int32) σ).bind fun t2 => Sum.elim (fun _ =>
    (g_77 a1 a2 σ).bind fun t3 =>
    some (.inl t3)
   ) (fun k2 => some (.inr k2)) t2
  ) (fun k1 => some (.inr k1)) t1
set_option maxRecDepth 4000 in
theorem G_286 {xs : Nat → Int32} {L N : Nat} (hN : 155 ≤ N) (a1 : Int32) (a2 : Int32)  (σ : f_M) : f_Cal a_MT xs L N 286 [.ref 0, .int a1, .int a2] σ ((g_286 a1 a2 σ).bind fun t => some (e_ti σ t)) := by
  refine f_cal_of (ls := [.ref 0, .int a1, .int a2]) MT_286 (Nat.le_of_ble_eq_true rfl) rfl ?_
  unfold g_286
  refine i_iload_n (pc' := 1) (f_at inc_286 (j := 0) rfl) rfl rfl ?_
  refine i_iconst (pc' := 2) (f_at inc_286 (j := 1) rfl) ci_1 rfl ?_
  refine i_bipush (pc' := 4) (f_at inc_286 (j := 2) rfl) cb_24 rfl ?_
  refine c_tv (pc' := 7) (c' := 1) (n' := 6) (h_stat (ra := [.int (24 : Int32), .int (1 : Int32), .int a1]) (r := []) (as := [.int a1, .int (1 : Int32), .int (24 : Int32)]) (f_at inc_286 (j := 3) rfl) (by decide) MT_285 rfl rfl rfl ⟨Nat.le_of_ble_eq_true rfl, Nat.le_of_ble_eq_true rfl, Nat.le_of_ble_eq_true rfl⟩) MT_285 (G_285 hN a1 (1 : Int32) (24 : Int32) σ) ⟨rfl, rfl, rfl⟩ (fun k w h => x_thr ⟨rfl, rfl⟩ h) ?_
  refine i_iload_n (pc' := 8) (f_at inc_286 (j := 4) rfl) rfl rfl ?_
  refine i_iconst (pc' := 9) (f_at inc_286 (j := 5) rfl) ci_1 rfl ?_
  refine i_sipush (pc' := 12) (f_at inc_286 (j := 6) rfl) cs_500 rfl ?_
  refine c_tv (pc' := 15) (c' := 0) (n' := 0) (h_stat (ra := [.int (500 : Int32), .int (1 : Int32), .int a2]) (r := []) (as := [.int a2, .int (1 : Int32), .int (500 : Int32)]) (f_at inc_286 (j := 7) rfl) (by decide) MT_285 rfl rfl rfl ⟨Nat.le_of_ble_eq_true rfl, Nat.le_of_ble_eq_true rfl, Nat.le_of_ble_eq_true rfl⟩) MT_285 (G_285 hN a2 (1 : Int32) (500 : Int32) σ) ⟨rfl, rfl, rfl⟩ (fun k w h => x_thr ⟨rfl, rfl⟩ h) ?_
  refine i_iload_n (pc' := 16) (f_at inc_286 (j := 8) rfl) rfl rfl ?_
  refine i_iload_n (pc' := 17) (f_at inc_286 (j := 9) rfl) rfl rfl ?_
  refine c_pi (pc' := 20) (c' := 0) (n' := 0) (h_stat (ra := [.int a2, .int a1]) (r := []) (as := [.int a1, .int a2]) (f_at inc_286 (j := 10) rfl) (by decide) MT_77 rfl rfl rfl ⟨Nat.le_of_ble_eq_true rfl, Nat.le_of_ble_eq_true rfl, Nat.le_of_ble_eq_true rfl⟩) MT_77 (G_77 hN a1 a2 σ) ⟨rfl, rfl, rfl⟩ fun t3 => ?_
  exact i_iret (f_at inc_286 (j := 11) rfl) rfl n_int
set_option maxRecDepth 4000 in
def g_287 (a1 : Int32) (a2 : Int32) (σ : f_M) : Option (Int32 × f_M) :=
  (g_286 a1 a2 σ).bind fun t1 => Sum.elim (fun v1 =>
   (f_wr σ 167 1 (0 : Int32) v1).bind fun m2 =>
   some ((0 : Int32), m2)
  ) (fun k1 => (f_hc [(1, 1)] k1).bind fun v => some (v, σ)) t1
set_option maxRecDepth 4000 in
theorem G_287 {xs : Nat → Int32} {L N : Nat} (hN : 168 ≤ N) (a1 : Int32) (a2 : Int32)  (σ : f_M) : f_Cal a_MT xs L N 287 [.ref 0, .int a1, .int a2, .ref 167] σ ((g_287 a1 a2 σ).bind fun t => some (e_wi t)) := by
  refine f_cal_of (ls := [.ref 0, .int a1, .int a2, .ref 167, a_dead]) MT_287 (Nat.le_of_ble_eq_true rfl) rfl ?_
  unfold g_287
  refine i_aload_n (pc' := 1) (f_at inc_287 (j := 0) rfl) rfl rfl ?_
  refine i_iconst (pc' := 2) (f_at inc_287 (j := 1) rfl) ci_0 rfl ?_
  refine i_aload_n (pc' := 3) (f_at inc_287 (j := 2) rfl) rfl rfl ?_
  refine i_iload_n (pc' := 4) (f_at inc_287 (j := 3) rfl) rfl rfl ?_
  refine i_iload_n (pc' := 5) (f_at inc_287 (j := 4) rfl) rfl rfl ?_
  refine c_ti (pc' := 8) (c' := 0) (n' := 0) (h_virt (ra := [.int a2, .int a1, .ref 0]) (r := [.int (0 : Int32), .ref 167]) (as := [.int a1, .int a2]) (f_at inc_287 (j := 5) rfl) (by decide) MT_286 rfl rfl rfl ⟨Nat.le_of_ble_eq_true rfl, Nat.le_of_ble_eq_true rfl, Nat.le_of_ble_eq_true rfl⟩ sh_0 (f_lt (o := 0) (m := 168) (Nat.le_of_ble_eq_true rfl) hN)) MT_286 (G_286 (Nat.le_trans (Nat.le_of_ble_eq_true rfl) hN) a1 a2 σ) ⟨rfl, rfl, rfl⟩ (fun k w h => x_hdl (l := [(1, 1)]) (by decide +kernel) h) fun v1 => ?_
  refine i_i2l (pc' := 9) (f_at inc_287 (j := 6) rfl) rfl ?_
  refine i_last (pc' := 10) (f_at inc_287 (j := 7) rfl) sh_167 rfl (f_lt (o := 167) (m := 168) (Nat.le_of_ble_eq_true rfl) hN) rfl fun m2 => ?_
  refine i_goto (pc' := 17) (f_at inc_287 (j := 8) rfl) (by decide) ?_
  refine i_iconst (pc' := 18) (f_at inc_287 (j := 12) rfl) ci_0 rfl ?_
  exact i_iret (f_at inc_287 (j := 13) rfl) rfl n_int
set_option maxRecDepth 4000 in
def g_288 (a1 : Int32) (a2 : Int32) (σ : f_M) : Option (Int32 × f_M) :=
  (g_46 (a1).toInt64 (1 : Int64) (24 : Int64) σ).bind fun t1 =>
  (
   if t1 = false then (
    some false
   ) else (
    (g_46 (a2).toInt64 (1 : Int64) (500 : Int64) σ).bind fun t3 =>
    if t3 = false then (
     some false
    ) else (
     some true
    )
   )
  ).bind fun (t2 : Bool) =>
  (g_176 t2 true true σ).bind fun t6 =>
  (
   if t6.1 = false then (
    some (0 : Int32)
   ) else (
    (g_150 a1 a2 t6.2).bind fun t8 =>
    some t8
   )
  ).bind fun (t7 : Int32) =>
  some (t7, t6.2)
set_option maxRecDepth 4000 in
theorem G_288 {xs : Nat → Int32} {L N : Nat} (hN : 166 ≤ N) (a1 : Int32) (a2 : Int32)  (σ : f_M) : f_Cal a_MT xs L N 288 [.ref 155, .int a1, .int a2] σ ((g_288 a1 a2 σ).bind fun t => some (e_wi t)) := by
  refine f_cal_of (ls := [.ref 155, .int a1, .int a2, a_dead]) MT_288 (Nat.le_of_ble_eq_true rfl) rfl ?_
  unfold g_288
  refine i_iload_n (pc' := 1) (f_at inc_288 (j := 0) rfl) rfl rfl ?_
  refine i_i2l (pc' := 2) (f_at inc_288 (j := 1) rfl) rfl ?_
  refine i_lconst (pc' := 3) (f_at inc_288 (j := 2) rfl) cl_1 rfl ?_
  refine i_ldc2_w (pc' := 6) (f_at inc_288 (j := 3) rfl) cw_24 rfl ?_
  refine c_pb (pc' := 9) (c' := 0) (n' := 0) (h_stat (ra := [.long (24 : Int64), .long (1 : Int64), .long (a1).toInt64]) (r := []) (as := [.long (a1).toInt64, .long (1 : Int64), .long (24 : Int64)]) (f_at inc_288 (j := 4) rfl) (by decide) MT_46 rfl rfl rfl ⟨Nat.le_of_ble_eq_true rfl, Nat.le_of_ble_eq_true rfl, Nat.le_of_ble_eq_true rfl⟩) MT_46 (G_46 hN (a1).toInt64 (1 : Int64) (24 : Int64) σ) ⟨rfl, rfl, rfl⟩ fun t1 => ?_
  refine s_join (J := 29) (fun (t2 : Bool) (u2 : Unit) => [.ref 155, .int a1, .int a2, a_dead]) (fun t2 => [.int (f_b t2)]) (fun t2 => σ) ?_ ?_
  · intro t2 u2
    refine i_istore_n (pc' := 30) (ls' := [.ref 155, .int a1, .int a2, .int (f_b t2)]) (f_at inc_288 (j := 15) rfl) (Nat.le_of_ble_eq_true rfl) rfl rfl ?_
    refine i_aload_n (pc' := 31) (f_at inc_288 (j := 16) rfl) rfl rfl ?_
    refine i_iload_n (pc' := 32) (f_at inc_288 (j := 17) rfl) rfl rfl ?_
    refine i_iconst (pc' := 33) (f_at inc_288 (j := 18) rfl) ci_1 rfl ?_
    refine i_iconst (pc' := 34) (f_at inc_288 (j := 19) rfl) ci_1 rfl ?_
    refine c_wb (pc' := 37) (c' := 0) (n' := 0) (h_virt (ra := [.int (1 : Int32), .int (1 : Int32), .int (f_b t2), .ref 155]) (r := []) (as := [.int (f_b t2), .int (1 : Int32), .int (1 : Int32)]) (f_at inc_288 (j := 20) rfl) (by decide) MT_176 rfl rfl rfl ⟨Nat.le_of_ble_eq_true rfl, Nat.le_of_ble_eq_true rfl, Nat.le_of_ble_eq_true rfl⟩ sh_155 (f_lt (o := 155) (m := 166) (Nat.le_of_ble_eq_true rfl) hN)) MT_176 (G_176 hN t2 true true σ) ⟨rfl, rfl, rfl⟩ fun t6 => ?_
    refine s_join (J := 49) (fun (t7 : Int32) (u7 : Unit) => [.ref 155, .int a1, .int a2, .int (f_b t2)]) (fun t7 => [.int t7]) (fun t7 => t6.2) ?_ ?_
    · intro t7 u7
      exact i_iret (f_at inc_288 (j := 27) rfl) rfl n_int
    · intro k7 hj7
      refine i_if0 (pc' := 48) (nx := 40) cb_eq (f_at inc_288 (j := 21) rfl) ⟨by decide, rfl⟩ (fun b9 => ?_) (fun b9 => ?_)
      · refine i_iconst (pc' := 49) (f_at inc_288 (j := 26) rfl) ci_0 rfl ?_
        exact hj7 (0 : Int32) ()
      · refine i_iload_n (pc' := 41) (f_at inc_288 (j := 22) rfl) rfl rfl ?_
        refine i_iload_n (pc' := 42) (f_at inc_288 (j := 23) rfl) rfl rfl ?_
        refine c_pi (pc' := 45) (c' := 0) (n' := 0) (h_stat (ra := [.int a2, .int a1]) (r := []) (as := [.int a1, .int a2]) (f_at inc_288 (j := 24) rfl) (by decide) MT_150 rfl rfl rfl ⟨Nat.le_of_ble_eq_true rfl, Nat.le_of_ble_eq_true rfl, Nat.le_of_ble_eq_true rfl⟩) MT_150 (G_150 hN a1 a2 t6.2) ⟨rfl, rfl, rfl⟩ fun t8 => ?_
        refine i_goto (pc' := 49) (f_at inc_288 (j := 25) rfl) (by decide) ?_
        exact hj7 t8 ()
  · intro k2 hj2
    refine i_if0 (pc' := 28) (nx := 12) cb_eq (f_at inc_288 (j := 5) rfl) ⟨by decide, rfl⟩ (fun b5 => ?_) (fun b5 => ?_)
    · refine i_iconst (pc' := 29) (f_at inc_288 (j := 14) rfl) ci_0 rfl ?_
      exact hj2 false ()
    · refine i_iload_n (pc' := 13) (f_at inc_288 (j := 6) rfl) rfl rfl ?_
      refine i_i2l (pc' := 14) (f_at inc_288 (j := 7) rfl) rfl ?_
      refine i_lconst (pc' := 15) (f_at inc_288 (j := 8) rfl) cl_1 rfl ?_
      refine i_ldc2_w (pc' := 18) (f_at inc_288 (j := 9) rfl) cw_500 rfl ?_
      refine c_pb (pc' := 21) (c' := 0) (n' := 0) (h_stat (ra := [.long (500 : Int64), .long (1 : Int64), .long (a2).toInt64]) (r := []) (as := [.long (a2).toInt64, .long (1 : Int64), .long (500 : Int64)]) (f_at inc_288 (j := 10) rfl) (by decide) MT_46 rfl rfl rfl ⟨Nat.le_of_ble_eq_true rfl, Nat.le_of_ble_eq_true rfl, Nat.le_of_ble_eq_true rfl⟩) MT_46 (G_46 hN (a2).toInt64 (1 : Int64) (500 : Int64) σ) ⟨rfl, rfl, rfl⟩ fun t3 => ?_
      refine i_if0 (pc' := 28) (nx := 24) cb_eq (f_at inc_288 (j := 11) rfl) ⟨by decide, rfl⟩ (fun b4 => ?_) (fun b4 => ?_)
      · refine i_iconst (pc' := 29) (f_at inc_288 (j := 14) rfl) ci_0 rfl ?_
        exact hj2 false ()
      · refine i_iconst (pc' := 25) (f_at inc_288 (j := 12) rfl) ci_1 rfl ?_
        refine i_goto (pc' := 29) (f_at inc_288 (j := 13) rfl) (by decide) ?_
        exact hj2 true ()
set_option maxRecDepth 4000 in
def g_289 (a1 : Int32) (a2 : Int32) (a3 : Int32) (σ : f_M) : Option (Int32 ⊕ Fin 4) :=
  (g_285 a1 (1 : Int32) (24 : Int32) σ).bind fun t1 => Sum.elim (fun _ =>
   (g_285 a2 (1 : Int32) (500 : Int32) σ).bind fun t2 => Sum.elim (fun _ =>
    (g_285 a3 (0 : Int32) (50 : Int32) σ).bind fun t3 => Sum.elim (fun _ =>
     (g_78 a1 a2 a3 σ).bind fun t4 =>
     some (.inl t4)
    ) (fun k3 => some (.inr k3)) t3
   ) (fun k2 => some (.inr k2)) t2
  ) (fun k1 => some (.inr k1)) t1
set_option maxRecDepth 4000 in
theorem G_289 {xs : Nat → Int32} {L N : Nat} (hN : 155 ≤ N) (a1 : Int32) (a2 : Int32) (a3 : Int32)  (σ : f_M) : f_Cal a_MT xs L N 289 [.ref 0, .int a1, .int a2, .int a3] σ ((g_289 a1 a2 a3 σ).bind fun t => some (e_ti σ t)) := by
  refine f_cal_of (ls := [.ref 0, .int a1, .int a2, .int a3]) MT_289 (Nat.le_of_ble_eq_true rfl) rfl ?_
  unfold g_289
  refine i_iload_n (pc' := 1) (f_at inc_289 (j := 0) rfl) rfl rfl ?_
  refine i_iconst (pc' := 2) (f_at inc_289 (j := 1) rfl) ci_1 rfl ?_
  refine i_bipush (pc' := 4) (f_at inc_289 (j := 2) rfl) cb_24 rfl ?_
  refine c_tv (pc' := 7) (c' := 2) (n' := 12) (h_stat (ra := [.int (24 : Int32), .int (1 : Int32), .int a1]) (r := []) (as := [.int a1, .int (1 : Int32), .int (24 : Int32)]) (f_at inc_289 (j := 3) rfl) (by decide) MT_285 rfl rfl rfl ⟨Nat.le_of_ble_eq_true rfl, Nat.le_of_ble_eq_true rfl, Nat.le_of_ble_eq_true rfl⟩) MT_285 (G_285 hN a1 (1 : Int32) (24 : Int32) σ) ⟨rfl, rfl, rfl⟩ (fun k w h => x_thr ⟨rfl, rfl⟩ h) ?_
  refine i_iload_n (pc' := 8) (f_at inc_289 (j := 4) rfl) rfl rfl ?_
  refine i_iconst (pc' := 9) (f_at inc_289 (j := 5) rfl) ci_1 rfl ?_
  refine i_sipush (pc' := 12) (f_at inc_289 (j := 6) rfl) cs_500 rfl ?_
  refine c_tv (pc' := 15) (c' := 1) (n' := 6) (h_stat (ra := [.int (500 : Int32), .int (1 : Int32), .int a2]) (r := []) (as := [.int a2, .int (1 : Int32), .int (500 : Int32)]) (f_at inc_289 (j := 7) rfl) (by decide) MT_285 rfl rfl rfl ⟨Nat.le_of_ble_eq_true rfl, Nat.le_of_ble_eq_true rfl, Nat.le_of_ble_eq_true rfl⟩) MT_285 (G_285 hN a2 (1 : Int32) (500 : Int32) σ) ⟨rfl, rfl, rfl⟩ (fun k w h => x_thr ⟨rfl, rfl⟩ h) ?_
  refine i_iload_n (pc' := 16) (f_at inc_289 (j := 8) rfl) rfl rfl ?_
  refine i_iconst (pc' := 17) (f_at inc_289 (j := 9) rfl) ci_0 rfl ?_
  refine i_bipush (pc' := 19) (f_at inc_289 (j := 10) rfl) cb_50 rfl ?_
  refine c_tv (pc' := 22) (c' := 0) (n' := 0) (h_stat (ra := [.int (50 : Int32), .int (0 : Int32), .int a3]) (r := []) (as := [.int a3, .int (0 : Int32), .int (50 : Int32)]) (f_at inc_289 (j := 11) rfl) (by decide) MT_285 rfl rfl rfl ⟨Nat.le_of_ble_eq_true rfl, Nat.le_of_ble_eq_true rfl, Nat.le_of_ble_eq_true rfl⟩) MT_285 (G_285 hN a3 (0 : Int32) (50 : Int32) σ) ⟨rfl, rfl, rfl⟩ (fun k w h => x_thr ⟨rfl, rfl⟩ h) ?_
  refine i_iload_n (pc' := 23) (f_at inc_289 (j := 12) rfl) rfl rfl ?_
  refine i_iload_n (pc' := 24) (f_at inc_289 (j := 13) rfl) rfl rfl ?_
  refine i_iload_n (pc' := 25) (f_at inc_289 (j := 14) rfl) rfl rfl ?_
  refine c_pi (pc' := 28) (c' := 0) (n' := 0) (h_stat (ra := [.int a3, .int a2, .int a1]) (r := []) (as := [.int a1, .int a2, .int a3]) (f_at inc_289 (j := 15) rfl) (by decide) MT_78 rfl rfl rfl ⟨Nat.le_of_ble_eq_true rfl, Nat.le_of_ble_eq_true rfl, Nat.le_of_ble_eq_true rfl⟩) MT_78 (G_78 hN a1 a2 a3 σ) ⟨rfl, rfl, rfl⟩ fun t4 => ?_
  exact i_iret (f_at inc_289 (j := 16) rfl) rfl n_int
set_option maxRecDepth 4000 in
def g_290 (a1 : Int32) (a2 : Int32) (a3 : Int32) (σ : f_M) : Option (Int32 × f_M) :=
  (g_289 a1 a2 a3 σ).bind fun t1 => Sum.elim (fun v1 =>
   (f_wr σ 167 1 (0 : Int32) v1).bind fun m2 =>
   some ((0 : Int32), m2)
  ) (fun k1 => (f_hc [(1, 1)] k1).bind fun v => some (v, σ)) t1
set_option maxRecDepth 4000 in
theorem G_290 {xs : Nat → Int32} {L N : Nat} (hN : 168 ≤ N) (a1 : Int32) (a2 : Int32) (a3 : Int32)  (σ : f_M) : f_Cal a_MT xs L N 290 [.ref 0, .int a1, .int a2, .int a3, .ref 167] σ ((g_290 a1 a2 a3 σ).bind fun t => some (e_wi t)) := by
  refine f_cal_of (ls := [.ref 0, .int a1, .int a2, .int a3, .ref 167, a_dead]) MT_290 (Nat.le_of_ble_eq_true rfl) rfl ?_
  unfold g_290
  refine i_aload (pc' := 2) (f_at inc_290 (j := 0) rfl) rfl rfl ?_
  refine i_iconst (pc' := 3) (f_at inc_290 (j := 1) rfl) ci_0 rfl ?_
  refine i_aload_n (pc' := 4) (f_at inc_290 (j := 2) rfl) rfl rfl ?_
  refine i_iload_n (pc' := 5) (f_at inc_290 (j := 3) rfl) rfl rfl ?_
  refine i_iload_n (pc' := 6) (f_at inc_290 (j := 4) rfl) rfl rfl ?_
  refine i_iload_n (pc' := 7) (f_at inc_290 (j := 5) rfl) rfl rfl ?_
  refine c_ti (pc' := 10) (c' := 0) (n' := 0) (h_virt (ra := [.int a3, .int a2, .int a1, .ref 0]) (r := [.int (0 : Int32), .ref 167]) (as := [.int a1, .int a2, .int a3]) (f_at inc_290 (j := 6) rfl) (by decide) MT_289 rfl rfl rfl ⟨Nat.le_of_ble_eq_true rfl, Nat.le_of_ble_eq_true rfl, Nat.le_of_ble_eq_true rfl⟩ sh_0 (f_lt (o := 0) (m := 168) (Nat.le_of_ble_eq_true rfl) hN)) MT_289 (G_289 (Nat.le_trans (Nat.le_of_ble_eq_true rfl) hN) a1 a2 a3 σ) ⟨rfl, rfl, rfl⟩ (fun k w h => x_hdl (l := [(1, 1)]) (by decide +kernel) h) fun v1 => ?_
  refine i_i2l (pc' := 11) (f_at inc_290 (j := 7) rfl) rfl ?_
  refine i_last (pc' := 12) (f_at inc_290 (j := 8) rfl) sh_167 rfl (f_lt (o := 167) (m := 168) (Nat.le_of_ble_eq_true rfl) hN) rfl fun m2 => ?_
  refine i_goto (pc' := 19) (f_at inc_290 (j := 9) rfl) (by decide) ?_
  refine i_iconst (pc' := 20) (f_at inc_290 (j := 13) rfl) ci_0 rfl ?_
  exact i_iret (f_at inc_290 (j := 14) rfl) rfl n_int
set_option maxRecDepth 4000 in
def g_291 (a1 : Int32) (a2 : Int32) (a3 : Int32) (σ : f_M) : Option (Int32 × f_M) :=
  (g_46 (a1).toInt64 (1 : Int64) (24 : Int64) σ).bind fun t1 =>
  (
   if t1 = false then (
    some false
   ) else (
    (g_46 (a2).toInt64 (1 : Int64) (500 : Int64) σ).bind fun t3 =>
    if t3 = false then (
     some false
    ) else (
     (g_46 (a3).toInt64 (0 : Int64) (50 : Int64) σ).bind fun t4 =>
     if t4 = false then (
      some false
     ) else (
      some true
     )
    )
   )
  ).bind fun (t2 : Bool) =>
  (g_176 t2 true true σ).bind fun t8 =>
  (
   if t8.1 = false then (
    some (0 : Int32)
   ) else (
    (g_151 a1 a2 a3 t8.2).bind fun t10 =>
    some t10
   )
  ).bind fun (t9 : Int32) =>
  some (t9, t8.2)
set_option maxRecDepth 4000 in
theorem G_291 {xs : Nat → Int32} {L N : Nat} (hN : 166 ≤ N) (a1 : Int32) (a2 : Int32) (a3 : Int32)  (σ : f_M) : f_Cal a_MT xs L N 291 [.ref 155, .int a1, .int a2, .int a3] σ ((g_291 a1 a2 a3 σ).bind fun t => some (e_wi t)) := by
  refine f_cal_of (ls := [.ref 155, .int a1, .int a2, .int a3, a_dead]) MT_291 (Nat.le_of_ble_eq_true rfl) rfl ?_
  unfold g_291
  refine i_iload_n (pc' := 1) (f_at inc_291 (j := 0) rfl) rfl rfl ?_
  refine i_i2l (pc' := 2) (f_at inc_291 (j := 1) rfl) rfl ?_
  refine i_lconst (pc' := 3) (f_at inc_291 (j := 2) rfl) cl_1 rfl ?_
  refine i_ldc2_w (pc' := 6) (f_at inc_291 (j := 3) rfl) cw_24 rfl ?_
  refine c_pb (pc' := 9) (c' := 0) (n' := 0) (h_stat (ra := [.long (24 : Int64), .long (1 : Int64), .long (a1).toInt64]) (r := []) (as := [.long (a1).toInt64, .long (1 : Int64), .long (24 : Int64)]) (f_at inc_291 (j := 4) rfl) (by decide) MT_46 rfl rfl rfl ⟨Nat.le_of_ble_eq_true rfl, Nat.le_of_ble_eq_true rfl, Nat.le_of_ble_eq_true rfl⟩) MT_46 (G_46 hN (a1).toInt64 (1 : Int64) (24 : Int64) σ) ⟨rfl, rfl, rfl⟩ fun t1 => ?_
  refine s_join (J := 41) (fun (t2 : Bool) (u2 : Unit) => [.ref 155, .int a1, .int a2, .int a3, a_dead]) (fun t2 => [.int (f_b t2)]) (fun t2 => σ) ?_ ?_
  · intro t2 u2
    refine i_istore (pc' := 43) (ls' := [.ref 155, .int a1, .int a2, .int a3, .int (f_b t2)]) (f_at inc_291 (j := 21) rfl) (Nat.le_of_ble_eq_true rfl) rfl rfl ?_
    refine i_aload_n (pc' := 44) (f_at inc_291 (j := 22) rfl) rfl rfl ?_
    refine i_iload (pc' := 46) (f_at inc_291 (j := 23) rfl) rfl rfl ?_
    refine i_iconst (pc' := 47) (f_at inc_291 (j := 24) rfl) ci_1 rfl ?_
    refine i_iconst (pc' := 48) (f_at inc_291 (j := 25) rfl) ci_1 rfl ?_
    refine c_wb (pc' := 51) (c' := 0) (n' := 0) (h_virt (ra := [.int (1 : Int32), .int (1 : Int32), .int (f_b t2), .ref 155]) (r := []) (as := [.int (f_b t2), .int (1 : Int32), .int (1 : Int32)]) (f_at inc_291 (j := 26) rfl) (by decide) MT_176 rfl rfl rfl ⟨Nat.le_of_ble_eq_true rfl, Nat.le_of_ble_eq_true rfl, Nat.le_of_ble_eq_true rfl⟩ sh_155 (f_lt (o := 155) (m := 166) (Nat.le_of_ble_eq_true rfl) hN)) MT_176 (G_176 hN t2 true true σ) ⟨rfl, rfl, rfl⟩ fun t8 => ?_
    refine s_join (J := 64) (fun (t9 : Int32) (u9 : Unit) => [.ref 155, .int a1, .int a2, .int a3, .int (f_b t2)]) (fun t9 => [.int t9]) (fun t9 => t8.2) ?_ ?_
    · intro t9 u9
      exact i_iret (f_at inc_291 (j := 34) rfl) rfl n_int
    · intro k9 hj9
      refine i_if0 (pc' := 63) (nx := 54) cb_eq (f_at inc_291 (j := 27) rfl) ⟨by decide, rfl⟩ (fun b11 => ?_) (fun b11 => ?_)
      · refine i_iconst (pc' := 64) (f_at inc_291 (j := 33) rfl) ci_0 rfl ?_
        exact hj9 (0 : Int32) ()
      · refine i_iload_n (pc' := 55) (f_at inc_291 (j := 28) rfl) rfl rfl ?_
        refine i_iload_n (pc' := 56) (f_at inc_291 (j := 29) rfl) rfl rfl ?_
        refine i_iload_n (pc' := 57) (f_at inc_291 (j := 30) rfl) rfl rfl ?_
        refine c_pi (pc' := 60) (c' := 0) (n' := 0) (h_stat (ra := [.int a3, .int a2, .int a1]) (r := []) (as := [.int a1, .int a2, .int a3]) (f_at inc_291 (j := 31) rfl) (by decide) MT_151 rfl rfl rfl ⟨Nat.le_of_ble_eq_true rfl, Nat.le_of_ble_eq_true rfl, Nat.le_of_ble_eq_true rfl⟩) MT_151 (G_151 hN a1 a2 a3 t8.2) ⟨rfl, rfl, rfl⟩ fun t10 => ?_
        refine i_goto (pc' := 64) (f_at inc_291 (j := 32) rfl) (by decide) ?_
        exact hj9 t10 ()
  · intro k2 hj2
    refine i_if0 (pc' := 40) (nx := 12) cb_eq (f_at inc_291 (j := 5) rfl) ⟨by decide, rfl⟩ (fun b7 => ?_) (fun b7 => ?_)
    · refine i_iconst (pc' := 41) (f_at inc_291 (j := 20) rfl) ci_0 rfl ?_
      exact hj2 false ()
    · refine i_iload_n (pc' := 13) (f_at inc_291 (j := 6) rfl) rfl rfl ?_
      refine i_i2l (pc' := 14) (f_at inc_291 (j := 7) rfl) rfl ?_
      refine i_lconst (pc' := 15) (f_at inc_291 (j := 8) rfl) cl_1 rfl ?_
      refine i_ldc2_w (pc' := 18) (f_at inc_291 (j := 9) rfl) cw_500 rfl ?_
      refine c_pb (pc' := 21) (c' := 0) (n' := 0) (h_stat (ra := [.long (500 : Int64), .long (1 : Int64), .long (a2).toInt64]) (r := []) (as := [.long (a2).toInt64, .long (1 : Int64), .long (500 : Int64)]) (f_at inc_291 (j := 10) rfl) (by decide) MT_46 rfl rfl rfl ⟨Nat.le_of_ble_eq_true rfl, Nat.le_of_ble_eq_true rfl, Nat.le_of_ble_eq_true rfl⟩) MT_46 (G_46 hN (a2).toInt64 (1 : Int64) (500 : Int64) σ) ⟨rfl, rfl, rfl⟩ fun t3 => ?_
      refine i_if0 (pc' := 40) (nx := 24) cb_eq (f_at inc_291 (j := 11) rfl) ⟨by decide, rfl⟩ (fun b6 => ?_) (fun b6 => ?_)
      · refine i_iconst (pc' := 41) (f_at inc_291 (j := 20) rfl) ci_0 rfl ?_
        exact hj2 false ()
      · refine i_iload_n (pc' := 25) (f_at inc_291 (j := 12) rfl) rfl rfl ?_
        refine i_i2l (pc' := 26) (f_at inc_291 (j := 13) rfl) rfl ?_
        refine i_lconst (pc' := 27) (f_at inc_291 (j := 14) rfl) cl_0 rfl ?_
        refine i_ldc2_w (pc' := 30) (f_at inc_291 (j := 15) rfl) cw_50 rfl ?_
        refine c_pb (pc' := 33) (c' := 0) (n' := 0) (h_stat (ra := [.long (50 : Int64), .long (0 : Int64), .long (a3).toInt64]) (r := []) (as := [.long (a3).toInt64, .long (0 : Int64), .long (50 : Int64)]) (f_at inc_291 (j := 16) rfl) (by decide) MT_46 rfl rfl rfl ⟨Nat.le_of_ble_eq_true rfl, Nat.le_of_ble_eq_true rfl, Nat.le_of_ble_eq_true rfl⟩) MT_46 (G_46 hN (a3).toInt64 (0 : Int64) (50 : Int64) σ) ⟨rfl, rfl, rfl⟩ fun t4 => ?_
        refine i_if0 (pc' := 40) (nx := 36) cb_eq (f_at inc_291 (j := 17) rfl) ⟨by decide, rfl⟩ (fun b5 => ?_) (fun b5 => ?_)
        · refine i_iconst (pc' := 41) (f_at inc_291 (j := 20) rfl) ci_0 rfl ?_
          exact hj2 false ()
        · refine i_iconst (pc' := 37) (f_at inc_291 (j := 18) rfl) ci_1 rfl ?_
          refine i_goto (pc' := 41) (f_at inc_291 (j := 19) rfl) (by decide) ?_
          exact hj2 true ()
set_option maxRecDepth 4000 in
def g_292 (a1 : Int32) (σ : f_M) : Option (Int32) :=
  (f_rd σ 124 20 a1).bind fun v1 =>
  if v1 = 0 then (
   (f_rd σ 120 20 a1).bind fun v2 =>
   (f_rd σ 107 3 v2).bind fun v3 =>
   (g_85 v3 σ).bind fun t4 =>
   (f_lp (fun (s5 : Int32 × Int32) =>
    if a1 < s5.2 then (
     some (.inr s5.1)
    ) else (
     (g_83 s5.2 v2 σ).bind fun t6 =>
     (
      if t6 = false then (
       some s5.1
      ) else (
       (f_rd σ 125 20 s5.2).bind fun v8 =>
       some (s5.1 + (t4 - v8))
      )
     ).bind fun (t7 : Int32) =>
     some (.inl (t7, (s5.2 + (1 : Int32))))
    )
   ) f_F ((0 : Int32), (0 : Int32))).bind fun (x5 : Int32) =>
   some x5
  ) else (
   some (0 : Int32)
  )
set_option maxRecDepth 4000 in
theorem G_292 {xs : Nat → Int32} {L N : Nat} (hN : 155 ≤ N) (a1 : Int32)  (σ : f_M) : f_Cal a_MT xs L N 292 [.ref 102, .int a1] σ ((g_292 a1 σ).bind fun t => some (e_pi σ t)) := by
  refine f_cal_of (ls := [.ref 102, .int a1, a_dead, a_dead, a_dead, a_dead]) MT_292 (Nat.le_of_ble_eq_true rfl) rfl ?_
  unfold g_292
  refine i_aload_n (pc' := 1) (f_at inc_292 (j := 0) rfl) rfl rfl ?_
  refine i_getR (pc' := 4) (f_at inc_292 (j := 1) rfl) sh_102 rfl (f_lt (o := 102) (m := 155) (Nat.le_of_ble_eq_true rfl) hN) rfl ?_
  refine i_getR (pc' := 7) (f_at inc_292 (j := 2) rfl) sh_121 rfl (f_lt (o := 121) (m := 155) (Nat.le_of_ble_eq_true rfl) hN) rfl ?_
  refine i_iload_n (pc' := 8) (f_at inc_292 (j := 3) rfl) rfl rfl ?_
  refine i_iald (pc' := 9) (f_at inc_292 (j := 4) rfl) sh_124 (f_bg (Nat.le_of_ble_eq_true rfl)) (f_lt (o := 124) (m := 155) (Nat.le_of_ble_eq_true rfl) hN) rfl fun v1 => ?_
  refine i_if0 (pc' := 14) (nx := 12) c0_eq (f_at inc_292 (j := 5) rfl) ⟨by decide, rfl⟩ (fun b11 => ?_) (fun b11 => ?_)
  · refine i_aload_n (pc' := 15) (f_at inc_292 (j := 8) rfl) rfl rfl ?_
    refine i_getR (pc' := 18) (f_at inc_292 (j := 9) rfl) sh_102 rfl (f_lt (o := 102) (m := 155) (Nat.le_of_ble_eq_true rfl) hN) rfl ?_
    refine i_getR (pc' := 21) (f_at inc_292 (j := 10) rfl) sh_108 rfl (f_lt (o := 108) (m := 155) (Nat.le_of_ble_eq_true rfl) hN) rfl ?_
    refine i_iload_n (pc' := 22) (f_at inc_292 (j := 11) rfl) rfl rfl ?_
    refine i_iald (pc' := 23) (f_at inc_292 (j := 12) rfl) sh_120 (f_bg (Nat.le_of_ble_eq_true rfl)) (f_lt (o := 120) (m := 155) (Nat.le_of_ble_eq_true rfl) hN) rfl fun v2 => ?_
    refine i_istore_n (pc' := 24) (ls' := [.ref 102, .int a1, .int v2, a_dead, a_dead, a_dead]) (f_at inc_292 (j := 13) rfl) (Nat.le_of_ble_eq_true rfl) rfl rfl ?_
    refine i_aload_n (pc' := 25) (f_at inc_292 (j := 14) rfl) rfl rfl ?_
    refine i_getR (pc' := 28) (f_at inc_292 (j := 15) rfl) sh_102 rfl (f_lt (o := 102) (m := 155) (Nat.le_of_ble_eq_true rfl) hN) rfl ?_
    refine i_getR (pc' := 31) (f_at inc_292 (j := 16) rfl) sh_103 rfl (f_lt (o := 103) (m := 155) (Nat.le_of_ble_eq_true rfl) hN) rfl ?_
    refine i_iload_n (pc' := 32) (f_at inc_292 (j := 17) rfl) rfl rfl ?_
    refine i_iald (pc' := 33) (f_at inc_292 (j := 18) rfl) sh_107 (f_bg (Nat.le_of_ble_eq_true rfl)) (f_lt (o := 107) (m := 155) (Nat.le_of_ble_eq_true rfl) hN) rfl fun v3 => ?_
    refine c_pi (pc' := 36) (c' := 0) (n' := 0) (h_stat (ra := [.int v3]) (r := []) (as := [.int v3]) (f_at inc_292 (j := 19) rfl) (by decide) MT_85 rfl rfl rfl ⟨Nat.le_of_ble_eq_true rfl, Nat.le_of_ble_eq_true rfl, Nat.le_of_ble_eq_true rfl⟩) MT_85 (G_85 hN v3 σ) ⟨rfl, rfl, rfl⟩ fun t4 => ?_
    refine i_istore_n (pc' := 37) (ls' := [.ref 102, .int a1, .int v2, .int t4, a_dead, a_dead]) (f_at inc_292 (j := 20) rfl) (Nat.le_of_ble_eq_true rfl) rfl rfl ?_
    refine i_iconst (pc' := 38) (f_at inc_292 (j := 21) rfl) ci_0 rfl ?_
    refine i_istore (pc' := 40) (ls' := [.ref 102, .int a1, .int v2, .int t4, .int (0 : Int32), a_dead]) (f_at inc_292 (j := 22) rfl) (Nat.le_of_ble_eq_true rfl) rfl rfl ?_
    refine i_iconst (pc' := 41) (f_at inc_292 (j := 23) rfl) ci_0 rfl ?_
    refine i_istore (pc' := 43) (ls' := [.ref 102, .int a1, .int v2, .int t4, .int (0 : Int32), .int (0 : Int32)]) (f_at inc_292 (j := 24) rfl) (Nat.le_of_ble_eq_true rfl) rfl rfl ?_
    refine s_lX (X := 82) ((0 : Int32), (0 : Int32)) () (fun (s5 : Int32 × Int32) (u5 : Unit) => [.ref 102, .int a1, .int v2, .int t4, .int s5.1, .int s5.2]) (fun (s5 : Int32 × Int32) => σ) (fun (x5 : Int32) (w5 : Value) => [.ref 102, .int a1, .int v2, .int t4, .int x5, w5]) (fun (x5 : Int32) => σ) ?_ ?_
    · intro x5 w5
      refine i_iload (pc' := 84) (f_at inc_292 (j := 45) rfl) rfl rfl ?_
      exact i_iret (f_at inc_292 (j := 46) rfl) rfl n_int
    · intro s5 u5 k5 hb5 hx5
      refine i_iload (pc' := 45) (f_at inc_292 (j := 25) rfl) rfl rfl ?_
      refine i_iload_n (pc' := 46) (f_at inc_292 (j := 26) rfl) rfl rfl ?_
      refine i_if2 (pc' := 82) (nx := 49) c2_gt (f_at inc_292 (j := 27) rfl) ⟨by decide, rfl⟩ (fun b10 => ?_) (fun b10 => ?_)
      · exact hx5 s5.1 (.int s5.2)
      · refine i_aload_n (pc' := 50) (f_at inc_292 (j := 28) rfl) rfl rfl ?_
        refine i_iload (pc' := 52) (f_at inc_292 (j := 29) rfl) rfl rfl ?_
        refine i_iload_n (pc' := 53) (f_at inc_292 (j := 30) rfl) rfl rfl ?_
        refine c_pb (pc' := 56) (c' := 0) (n' := 0) (h_virt (ra := [.int v2, .int s5.2, .ref 102]) (r := []) (as := [.int s5.2, .int v2]) (f_at inc_292 (j := 31) rfl) (by decide) MT_83 rfl rfl rfl ⟨Nat.le_of_ble_eq_true rfl, Nat.le_of_ble_eq_true rfl, Nat.le_of_ble_eq_true rfl⟩ sh_102 (f_lt (o := 102) (m := 155) (Nat.le_of_ble_eq_true rfl) hN)) MT_83 (G_83 hN s5.2 v2 σ) ⟨rfl, rfl, rfl⟩ fun t6 => ?_
        refine s_join (J := 76) (fun (t7 : Int32) (u7 : Unit) => [.ref 102, .int a1, .int v2, .int t4, .int t7, .int s5.2]) (fun t7 => []) (fun t7 => σ) ?_ ?_
        · intro t7 u7
          refine i_iinc (pc' := 79) (ls' := [.ref 102, .int a1, .int v2, .int t4, .int t7, .int (s5.2 + (1 : Int32))]) (f_at inc_292 (j := 43) rfl) rfl ci_1 rfl rfl ?_
          refine i_goto (pc' := 43) (f_at inc_292 (j := 44) rfl) (by decide) ?_
          exact hb5 (t7, (s5.2 + (1 : Int32))) ()
        · intro k7 hj7
          refine i_if0 (pc' := 76) (nx := 59) cb_eq (f_at inc_292 (j := 32) rfl) ⟨by decide, rfl⟩ (fun b9 => ?_) (fun b9 => ?_)
          · exact hj7 s5.1 ()
          · refine i_iload (pc' := 61) (f_at inc_292 (j := 33) rfl) rfl rfl ?_
            refine i_iload_n (pc' := 62) (f_at inc_292 (j := 34) rfl) rfl rfl ?_
            refine i_aload_n (pc' := 63) (f_at inc_292 (j := 35) rfl) rfl rfl ?_
            refine i_getR (pc' := 66) (f_at inc_292 (j := 36) rfl) sh_102 rfl (f_lt (o := 102) (m := 155) (Nat.le_of_ble_eq_true rfl) hN) rfl ?_
            refine i_getR (pc' := 69) (f_at inc_292 (j := 37) rfl) sh_121 rfl (f_lt (o := 121) (m := 155) (Nat.le_of_ble_eq_true rfl) hN) rfl ?_
            refine i_iload (pc' := 71) (f_at inc_292 (j := 38) rfl) rfl rfl ?_
            refine i_iald (pc' := 72) (f_at inc_292 (j := 39) rfl) sh_125 (f_bg (Nat.le_of_ble_eq_true rfl)) (f_lt (o := 125) (m := 155) (Nat.le_of_ble_eq_true rfl) hN) rfl fun v8 => ?_
            refine i_isub (pc' := 73) (f_at inc_292 (j := 40) rfl) rfl ?_
            refine i_iadd (pc' := 74) (f_at inc_292 (j := 41) rfl) rfl ?_
            refine i_istore (pc' := 76) (ls' := [.ref 102, .int a1, .int v2, .int t4, .int (s5.1 + (t4 - v8)), .int s5.2]) (f_at inc_292 (j := 42) rfl) (Nat.le_of_ble_eq_true rfl) rfl rfl ?_
            exact hj7 (s5.1 + (t4 - v8)) ()
  · refine i_iconst (pc' := 13) (f_at inc_292 (j := 6) rfl) ci_0 rfl ?_
    exact i_iret (f_at inc_292 (j := 7) rfl) rfl n_int
set_option maxRecDepth 4000 in
def g_293 (a1 : Int32) (σ : f_M) : Option (Int32 ⊕ Fin 4) :=
  (g_230 a1 σ).bind fun t1 => Sum.elim (fun _ =>
   (g_292 a1 σ).bind fun t2 =>
   some (.inl t2)
  ) (fun k1 => some (.inr k1)) t1
set_option maxRecDepth 4000 in
theorem G_293 {xs : Nat → Int32} {L N : Nat} (hN : 155 ≤ N) (a1 : Int32)  (σ : f_M) : f_Cal a_MT xs L N 293 [.ref 0, .int a1] σ ((g_293 a1 σ).bind fun t => some (e_ti σ t)) := by
  refine f_cal_of (ls := [.ref 0, .int a1]) MT_293 (Nat.le_of_ble_eq_true rfl) rfl ?_
  unfold g_293
  refine i_aload_n (pc' := 1) (f_at inc_293 (j := 0) rfl) rfl rfl ?_
  refine i_iload_n (pc' := 2) (f_at inc_293 (j := 1) rfl) rfl rfl ?_
  refine c_tv (pc' := 5) (c' := 0) (n' := 0) (h_virt (ra := [.int a1, .ref 0]) (r := []) (as := [.int a1]) (f_at inc_293 (j := 2) rfl) (by decide) MT_230 rfl rfl rfl ⟨Nat.le_of_ble_eq_true rfl, Nat.le_of_ble_eq_true rfl, Nat.le_of_ble_eq_true rfl⟩ sh_0 (f_lt (o := 0) (m := 155) (Nat.le_of_ble_eq_true rfl) hN)) MT_230 (G_230 hN a1 σ) ⟨rfl, rfl, rfl⟩ (fun k w h => x_thr ⟨rfl, rfl⟩ h) ?_
  refine i_aload_n (pc' := 6) (f_at inc_293 (j := 3) rfl) rfl rfl ?_
  refine i_getR (pc' := 9) (f_at inc_293 (j := 4) rfl) sh_0 rfl (f_lt (o := 0) (m := 155) (Nat.le_of_ble_eq_true rfl) hN) rfl ?_
  refine i_iload_n (pc' := 10) (f_at inc_293 (j := 5) rfl) rfl rfl ?_
  refine c_pi (pc' := 13) (c' := 0) (n' := 0) (h_virt (ra := [.int a1, .ref 102]) (r := []) (as := [.int a1]) (f_at inc_293 (j := 6) rfl) (by decide) MT_292 rfl rfl rfl ⟨Nat.le_of_ble_eq_true rfl, Nat.le_of_ble_eq_true rfl, Nat.le_of_ble_eq_true rfl⟩ sh_102 (f_lt (o := 102) (m := 155) (Nat.le_of_ble_eq_true rfl) hN)) MT_292 (G_292 hN a1 σ) ⟨rfl, rfl, rfl⟩ fun t2 => ?_
  exact i_iret (f_at inc_293 (j := 7) rfl) rfl n_int
set_option maxRecDepth 4000 in
def g_294 (a1 : Int32) (σ : f_M) : Option (Int32 × f_M) :=
  (g_293 a1 σ).bind fun t1 => Sum.elim (fun v1 =>
   (f_wr σ 167 1 (0 : Int32) v1).bind fun m2 =>
   some ((0 : Int32), m2)
  ) (fun k1 => (f_hc [(0, 1)] k1).bind fun v => some (v, σ)) t1
set_option maxRecDepth 4000 in
theorem G_294 {xs : Nat → Int32} {L N : Nat} (hN : 168 ≤ N) (a1 : Int32)  (σ : f_M) : f_Cal a_MT xs L N 294 [.ref 0, .int a1, .ref 167] σ ((g_294 a1 σ).bind fun t => some (e_wi t)) := by
  refine f_cal_of (ls := [.ref 0, .int a1, .ref 167, a_dead]) MT_294 (Nat.le_of_ble_eq_true rfl) rfl ?_
  unfold g_294
  refine i_aload_n (pc' := 1) (f_at inc_294 (j := 0) rfl) rfl rfl ?_
  refine i_iconst (pc' := 2) (f_at inc_294 (j := 1) rfl) ci_0 rfl ?_
  refine i_aload_n (pc' := 3) (f_at inc_294 (j := 2) rfl) rfl rfl ?_
  refine i_iload_n (pc' := 4) (f_at inc_294 (j := 3) rfl) rfl rfl ?_
  refine c_ti (pc' := 7) (c' := 0) (n' := 0) (h_virt (ra := [.int a1, .ref 0]) (r := [.int (0 : Int32), .ref 167]) (as := [.int a1]) (f_at inc_294 (j := 4) rfl) (by decide) MT_293 rfl rfl rfl ⟨Nat.le_of_ble_eq_true rfl, Nat.le_of_ble_eq_true rfl, Nat.le_of_ble_eq_true rfl⟩ sh_0 (f_lt (o := 0) (m := 168) (Nat.le_of_ble_eq_true rfl) hN)) MT_293 (G_293 (Nat.le_trans (Nat.le_of_ble_eq_true rfl) hN) a1 σ) ⟨rfl, rfl, rfl⟩ (fun k w h => x_hdl (l := [(0, 1)]) (by decide +kernel) h) fun v1 => ?_
  refine i_i2l (pc' := 8) (f_at inc_294 (j := 5) rfl) rfl ?_
  refine i_last (pc' := 9) (f_at inc_294 (j := 6) rfl) sh_167 rfl (f_lt (o := 167) (m := 168) (Nat.le_of_ble_eq_true rfl) hN) rfl fun m2 => ?_
  refine i_goto (pc' := 15) (f_at inc_294 (j := 7) rfl) (by decide) ?_
  refine i_iconst (pc' := 16) (f_at inc_294 (j := 11) rfl) ci_0 rfl ?_
  exact i_iret (f_at inc_294 (j := 12) rfl) rfl n_int
set_option maxRecDepth 4000 in
def g_295 (a1 : Int32) (σ : f_M) : Option (Int32 × f_M) :=
  (g_233 a1 σ).bind fun t1 =>
  (g_176 t1 true true σ).bind fun t2 =>
  if t2.1 = true then (
   (g_126 a1 t2.2).bind fun t3 =>
   (f_rd t2.2 156 2420 (t3 + (3 : Int32))).bind fun v4 =>
   if v4 = 0 then (
    (g_126 a1 t2.2).bind fun t5 =>
    (f_rd t2.2 156 2420 (t5 + (1 : Int32))).bind fun v6 =>
    (f_lp (fun (s7 : Int32 × Int32) =>
     if a1 < s7.2 then (
      some (.inr s7.1)
     ) else (
      (g_127 s7.2 v6 t2.2).bind fun t8 =>
      (
       if t8 = false then (
        some (0 : Int32)
       ) else (
        (g_129 v6 t2.2).bind fun t10 =>
        (g_126 s7.2 t2.2).bind fun t11 =>
        (f_rd t2.2 156 2420 (t11 + (2 : Int32))).bind fun v12 =>
        some (t10 - v12)
       )
      ).bind fun (t9 : Int32) =>
      some (.inl ((s7.1 + t9), (s7.2 + (1 : Int32))))
     )
    ) f_F ((0 : Int32), (0 : Int32))).bind fun (x7 : Int32) =>
    some (x7, t2.2)
   ) else (
    some ((0 : Int32), t2.2)
   )
  ) else (
   some ((0 : Int32), t2.2)
  )
set_option maxRecDepth 4000 in
theorem G_295 {xs : Nat → Int32} {L N : Nat} (hN : 166 ≤ N) (a1 : Int32)  (σ : f_M) : f_Cal a_MT xs L N 295 [.ref 155, .int a1] σ ((g_295 a1 σ).bind fun t => some (e_wi t)) := by
  refine f_cal_of (ls := [.ref 155, .int a1, a_dead, a_dead, a_dead]) MT_295 (Nat.le_of_ble_eq_true rfl) rfl ?_
  unfold g_295
  refine i_aload_n (pc' := 1) (f_at inc_295 (j := 0) rfl) rfl rfl ?_
  refine i_aload_n (pc' := 2) (f_at inc_295 (j := 1) rfl) rfl rfl ?_
  refine i_iload_n (pc' := 3) (f_at inc_295 (j := 2) rfl) rfl rfl ?_
  refine c_pb (pc' := 6) (c' := 0) (n' := 0) (h_virt (ra := [.int a1, .ref 155]) (r := [.ref 155]) (as := [.int a1]) (f_at inc_295 (j := 3) rfl) (by decide) MT_233 rfl rfl rfl ⟨Nat.le_of_ble_eq_true rfl, Nat.le_of_ble_eq_true rfl, Nat.le_of_ble_eq_true rfl⟩ sh_155 (f_lt (o := 155) (m := 166) (Nat.le_of_ble_eq_true rfl) hN)) MT_233 (G_233 hN a1 σ) ⟨rfl, rfl, rfl⟩ fun t1 => ?_
  refine i_iconst (pc' := 7) (f_at inc_295 (j := 4) rfl) ci_1 rfl ?_
  refine i_iconst (pc' := 8) (f_at inc_295 (j := 5) rfl) ci_1 rfl ?_
  refine c_wb (pc' := 11) (c' := 0) (n' := 0) (h_virt (ra := [.int (1 : Int32), .int (1 : Int32), .int (f_b t1), .ref 155]) (r := []) (as := [.int (f_b t1), .int (1 : Int32), .int (1 : Int32)]) (f_at inc_295 (j := 6) rfl) (by decide) MT_176 rfl rfl rfl ⟨Nat.le_of_ble_eq_true rfl, Nat.le_of_ble_eq_true rfl, Nat.le_of_ble_eq_true rfl⟩ sh_155 (f_lt (o := 155) (m := 166) (Nat.le_of_ble_eq_true rfl) hN)) MT_176 (G_176 hN t1 true true σ) ⟨rfl, rfl, rfl⟩ fun t2 => ?_
  refine i_if0 (pc' := 16) (nx := 14) cb_ne (f_at inc_295 (j := 7) rfl) ⟨by decide, rfl⟩ (fun b16 => ?_) (fun b16 => ?_)
  · refine i_aload_n (pc' := 17) (f_at inc_295 (j := 10) rfl) rfl rfl ?_
    refine i_getR (pc' := 20) (f_at inc_295 (j := 11) rfl) sh_155 rfl (f_lt (o := 155) (m := 166) (Nat.le_of_ble_eq_true rfl) hN) rfl ?_
    refine i_iload_n (pc' := 21) (f_at inc_295 (j := 12) rfl) rfl rfl ?_
    refine c_pi (pc' := 24) (c' := 0) (n' := 0) (h_stat (ra := [.int a1]) (r := [.ref 156]) (as := [.int a1]) (f_at inc_295 (j := 13) rfl) (by decide) MT_126 rfl rfl rfl ⟨Nat.le_of_ble_eq_true rfl, Nat.le_of_ble_eq_true rfl, Nat.le_of_ble_eq_true rfl⟩) MT_126 (G_126 hN a1 t2.2) ⟨rfl, rfl, rfl⟩ fun t3 => ?_
    refine i_iconst (pc' := 25) (f_at inc_295 (j := 14) rfl) ci_3 rfl ?_
    refine i_iadd (pc' := 26) (f_at inc_295 (j := 15) rfl) rfl ?_
    refine i_iald (pc' := 27) (f_at inc_295 (j := 16) rfl) sh_156 (f_bg (Nat.le_of_ble_eq_true rfl)) (f_lt (o := 156) (m := 166) (Nat.le_of_ble_eq_true rfl) hN) rfl fun v4 => ?_
    refine i_if0 (pc' := 32) (nx := 30) c0_eq (f_at inc_295 (j := 17) rfl) ⟨by decide, rfl⟩ (fun b15 => ?_) (fun b15 => ?_)
    · refine i_aload_n (pc' := 33) (f_at inc_295 (j := 20) rfl) rfl rfl ?_
      refine i_getR (pc' := 36) (f_at inc_295 (j := 21) rfl) sh_155 rfl (f_lt (o := 155) (m := 166) (Nat.le_of_ble_eq_true rfl) hN) rfl ?_
      refine i_iload_n (pc' := 37) (f_at inc_295 (j := 22) rfl) rfl rfl ?_
      refine c_pi (pc' := 40) (c' := 0) (n' := 0) (h_stat (ra := [.int a1]) (r := [.ref 156]) (as := [.int a1]) (f_at inc_295 (j := 23) rfl) (by decide) MT_126 rfl rfl rfl ⟨Nat.le_of_ble_eq_true rfl, Nat.le_of_ble_eq_true rfl, Nat.le_of_ble_eq_true rfl⟩) MT_126 (G_126 hN a1 t2.2) ⟨rfl, rfl, rfl⟩ fun t5 => ?_
      refine i_iconst (pc' := 41) (f_at inc_295 (j := 24) rfl) ci_1 rfl ?_
      refine i_iadd (pc' := 42) (f_at inc_295 (j := 25) rfl) rfl ?_
      refine i_iald (pc' := 43) (f_at inc_295 (j := 26) rfl) sh_156 (f_bg (Nat.le_of_ble_eq_true rfl)) (f_lt (o := 156) (m := 166) (Nat.le_of_ble_eq_true rfl) hN) rfl fun v6 => ?_
      refine i_istore_n (pc' := 44) (ls' := [.ref 155, .int a1, .int v6, a_dead, a_dead]) (f_at inc_295 (j := 27) rfl) (Nat.le_of_ble_eq_true rfl) rfl rfl ?_
      refine i_iconst (pc' := 45) (f_at inc_295 (j := 28) rfl) ci_0 rfl ?_
      refine i_istore_n (pc' := 46) (ls' := [.ref 155, .int a1, .int v6, .int (0 : Int32), a_dead]) (f_at inc_295 (j := 29) rfl) (Nat.le_of_ble_eq_true rfl) rfl rfl ?_
      refine i_iconst (pc' := 47) (f_at inc_295 (j := 30) rfl) ci_0 rfl ?_
      refine i_istore (pc' := 49) (ls' := [.ref 155, .int a1, .int v6, .int (0 : Int32), .int (0 : Int32)]) (f_at inc_295 (j := 31) rfl) (Nat.le_of_ble_eq_true rfl) rfl rfl ?_
      refine s_lX (X := 96) ((0 : Int32), (0 : Int32)) () (fun (s7 : Int32 × Int32) (u7 : Unit) => [.ref 155, .int a1, .int v6, .int s7.1, .int s7.2]) (fun (s7 : Int32 × Int32) => t2.2) (fun (x7 : Int32) (w7 : Value) => [.ref 155, .int a1, .int v6, .int x7, w7]) (fun (x7 : Int32) => t2.2) ?_ ?_
      · intro x7 w7
        refine i_iload_n (pc' := 97) (f_at inc_295 (j := 58) rfl) rfl rfl ?_
        exact i_iret (f_at inc_295 (j := 59) rfl) rfl n_int
      · intro s7 u7 k7 hb7 hx7
        refine i_iload (pc' := 51) (f_at inc_295 (j := 32) rfl) rfl rfl ?_
        refine i_iload_n (pc' := 52) (f_at inc_295 (j := 33) rfl) rfl rfl ?_
        refine i_if2 (pc' := 96) (nx := 55) c2_gt (f_at inc_295 (j := 34) rfl) ⟨by decide, rfl⟩ (fun b14 => ?_) (fun b14 => ?_)
        · exact hx7 s7.1 (.int s7.2)
        · refine i_iload_n (pc' := 56) (f_at inc_295 (j := 35) rfl) rfl rfl ?_
          refine i_aload_n (pc' := 57) (f_at inc_295 (j := 36) rfl) rfl rfl ?_
          refine i_iload (pc' := 59) (f_at inc_295 (j := 37) rfl) rfl rfl ?_
          refine i_iload_n (pc' := 60) (f_at inc_295 (j := 38) rfl) rfl rfl ?_
          refine c_pb (pc' := 63) (c' := 0) (n' := 0) (h_virt (ra := [.int v6, .int s7.2, .ref 155]) (r := [.int s7.1]) (as := [.int s7.2, .int v6]) (f_at inc_295 (j := 39) rfl) (by decide) MT_127 rfl rfl rfl ⟨Nat.le_of_ble_eq_true rfl, Nat.le_of_ble_eq_true rfl, Nat.le_of_ble_eq_true rfl⟩ sh_155 (f_lt (o := 155) (m := 166) (Nat.le_of_ble_eq_true rfl) hN)) MT_127 (G_127 hN s7.2 v6 t2.2) ⟨rfl, rfl, rfl⟩ fun t8 => ?_
          refine s_join (J := 88) (fun (t9 : Int32) (u9 : Unit) => [.ref 155, .int a1, .int v6, .int s7.1, .int s7.2]) (fun t9 => [.int t9, .int s7.1]) (fun t9 => t2.2) ?_ ?_
          · intro t9 u9
            refine i_iadd (pc' := 89) (f_at inc_295 (j := 54) rfl) rfl ?_
            refine i_istore_n (pc' := 90) (ls' := [.ref 155, .int a1, .int v6, .int (s7.1 + t9), .int s7.2]) (f_at inc_295 (j := 55) rfl) (Nat.le_of_ble_eq_true rfl) rfl rfl ?_
            refine i_iinc (pc' := 93) (ls' := [.ref 155, .int a1, .int v6, .int (s7.1 + t9), .int (s7.2 + (1 : Int32))]) (f_at inc_295 (j := 56) rfl) rfl ci_1 rfl rfl ?_
            refine i_goto (pc' := 49) (f_at inc_295 (j := 57) rfl) (by decide) ?_
            exact hb7 ((s7.1 + t9), (s7.2 + (1 : Int32))) ()
          · intro k9 hj9
            refine i_if0 (pc' := 87) (nx := 66) cb_eq (f_at inc_295 (j := 40) rfl) ⟨by decide, rfl⟩ (fun b13 => ?_) (fun b13 => ?_)
            · refine i_iconst (pc' := 88) (f_at inc_295 (j := 53) rfl) ci_0 rfl ?_
              exact hj9 (0 : Int32) ()
            · refine i_aload_n (pc' := 67) (f_at inc_295 (j := 41) rfl) rfl rfl ?_
              refine i_iload_n (pc' := 68) (f_at inc_295 (j := 42) rfl) rfl rfl ?_
              refine c_pi (pc' := 71) (c' := 0) (n' := 0) (h_virt (ra := [.int v6, .ref 155]) (r := [.int s7.1]) (as := [.int v6]) (f_at inc_295 (j := 43) rfl) (by decide) MT_129 rfl rfl rfl ⟨Nat.le_of_ble_eq_true rfl, Nat.le_of_ble_eq_true rfl, Nat.le_of_ble_eq_true rfl⟩ sh_155 (f_lt (o := 155) (m := 166) (Nat.le_of_ble_eq_true rfl) hN)) MT_129 (G_129 hN v6 t2.2) ⟨rfl, rfl, rfl⟩ fun t10 => ?_
              refine i_aload_n (pc' := 72) (f_at inc_295 (j := 44) rfl) rfl rfl ?_
              refine i_getR (pc' := 75) (f_at inc_295 (j := 45) rfl) sh_155 rfl (f_lt (o := 155) (m := 166) (Nat.le_of_ble_eq_true rfl) hN) rfl ?_
              refine i_iload (pc' := 77) (f_at inc_295 (j := 46) rfl) rfl rfl ?_
              refine c_pi (pc' := 80) (c' := 0) (n' := 0) (h_stat (ra := [.int s7.2]) (r := [.ref 156, .int t10, .int s7.1]) (as := [.int s7.2]) (f_at inc_295 (j := 47) rfl) (by decide) MT_126 rfl rfl rfl ⟨Nat.le_of_ble_eq_true rfl, Nat.le_of_ble_eq_true rfl, Nat.le_of_ble_eq_true rfl⟩) MT_126 (G_126 hN s7.2 t2.2) ⟨rfl, rfl, rfl⟩ fun t11 => ?_
              refine i_iconst (pc' := 81) (f_at inc_295 (j := 48) rfl) ci_2 rfl ?_
              refine i_iadd (pc' := 82) (f_at inc_295 (j := 49) rfl) rfl ?_
              refine i_iald (pc' := 83) (f_at inc_295 (j := 50) rfl) sh_156 (f_bg (Nat.le_of_ble_eq_true rfl)) (f_lt (o := 156) (m := 166) (Nat.le_of_ble_eq_true rfl) hN) rfl fun v12 => ?_
              refine i_isub (pc' := 84) (f_at inc_295 (j := 51) rfl) rfl ?_
              refine i_goto (pc' := 88) (f_at inc_295 (j := 52) rfl) (by decide) ?_
              exact hj9 (t10 - v12) ()
    · refine i_iconst (pc' := 31) (f_at inc_295 (j := 18) rfl) ci_0 rfl ?_
      exact i_iret (f_at inc_295 (j := 19) rfl) rfl n_int
  · refine i_iconst (pc' := 15) (f_at inc_295 (j := 8) rfl) ci_0 rfl ?_
    exact i_iret (f_at inc_295 (j := 9) rfl) rfl n_int
set_option maxRecDepth 4000 in
def g_296 (a1 : Int32) (σ : f_M) : Option (Int32 × f_M) :=
  (f_rd σ 123 20 a1).bind fun v1 =>
  if v1 = 0 then (
   (g_72 128 121 σ).bind fun t2 =>
   (g_75 a1 t2).bind fun t3 =>
   (f_lp (fun (s4 : Int32 × f_M) =>
    if t3 ≤ s4.1 then (
     some (.inr ((-1 : Int32), s4.2))
    ) else (
     (g_82 128 (f_up s4.2 128 0 s4.1)).bind fun t5 =>
     (f_rd t5 130 20 a1).bind fun v6 =>
     if v6 = 0 then (
      some (.inl ((s4.1 + (1 : Int32)), t5))
     ) else (
      some (.inr (((s4.1 + (1 : Int32)) - (t5 121 0)), t5))
     )
    )
   ) f_F ((t2 121 0), t2)).bind fun (r4 : Int32 × f_M) => some r4
  ) else (
   some ((0 : Int32), σ)
  )
set_option maxRecDepth 4000 in
theorem G_296 {xs : Nat → Int32} {L N : Nat} (hN : 155 ≤ N) (a1 : Int32)  (σ : f_M) : f_Cal a_MT xs L N 296 [.ref 102, .int a1] σ ((g_296 a1 σ).bind fun t => some (e_wi t)) := by
  refine f_cal_of (ls := [.ref 102, .int a1, a_dead, a_dead]) MT_296 (Nat.le_of_ble_eq_true rfl) rfl ?_
  unfold g_296
  refine i_aload_n (pc' := 1) (f_at inc_296 (j := 0) rfl) rfl rfl ?_
  refine i_getR (pc' := 4) (f_at inc_296 (j := 1) rfl) sh_102 rfl (f_lt (o := 102) (m := 155) (Nat.le_of_ble_eq_true rfl) hN) rfl ?_
  refine i_getR (pc' := 7) (f_at inc_296 (j := 2) rfl) sh_121 rfl (f_lt (o := 121) (m := 155) (Nat.le_of_ble_eq_true rfl) hN) rfl ?_
  refine i_iload_n (pc' := 8) (f_at inc_296 (j := 3) rfl) rfl rfl ?_
  refine i_bald (pc' := 9) (f_at inc_296 (j := 4) rfl) sh_123 (Or.inr rfl) (f_bg (Nat.le_of_ble_eq_true rfl)) (f_lt (o := 123) (m := 155) (Nat.le_of_ble_eq_true rfl) hN) rfl fun v1 => ?_
  refine i_if0 (pc' := 14) (nx := 12) c0_eq (f_at inc_296 (j := 5) rfl) ⟨by decide, rfl⟩ (fun b9 => ?_) (fun b9 => ?_)
  · refine i_aload_n (pc' := 15) (f_at inc_296 (j := 8) rfl) rfl rfl ?_
    refine i_getR (pc' := 18) (f_at inc_296 (j := 9) rfl) sh_102 rfl (f_lt (o := 102) (m := 155) (Nat.le_of_ble_eq_true rfl) hN) rfl ?_
    refine i_aload_n (pc' := 19) (f_at inc_296 (j := 10) rfl) rfl rfl ?_
    refine i_getR (pc' := 22) (f_at inc_296 (j := 11) rfl) sh_102 rfl (f_lt (o := 102) (m := 155) (Nat.le_of_ble_eq_true rfl) hN) rfl ?_
    refine c_wv (pc' := 25) (c' := 0) (n' := 0) (h_virt (ra := [.ref 121, .ref 128]) (r := []) (as := [.ref 121]) (f_at inc_296 (j := 12) rfl) (by decide) MT_72 rfl rfl rfl ⟨Nat.le_of_ble_eq_true rfl, Nat.le_of_ble_eq_true rfl, Nat.le_of_ble_eq_true rfl⟩ sh_128 (f_lt (o := 128) (m := 155) (Nat.le_of_ble_eq_true rfl) hN)) MT_72 (G_72 hN 128 121 f_L128 f_L121 σ) ⟨rfl, rfl, rfl⟩ fun t2 => ?_
    refine i_aload_n (pc' := 26) (f_at inc_296 (j := 13) rfl) rfl rfl ?_
    refine i_getR (pc' := 29) (f_at inc_296 (j := 14) rfl) sh_102 rfl (f_lt (o := 102) (m := 155) (Nat.le_of_ble_eq_true rfl) hN) rfl ?_
    refine i_iload_n (pc' := 30) (f_at inc_296 (j := 15) rfl) rfl rfl ?_
    refine c_pi (pc' := 33) (c' := 0) (n' := 0) (h_virt (ra := [.int a1, .ref 108]) (r := []) (as := [.int a1]) (f_at inc_296 (j := 16) rfl) (by decide) MT_75 rfl rfl rfl ⟨Nat.le_of_ble_eq_true rfl, Nat.le_of_ble_eq_true rfl, Nat.le_of_ble_eq_true rfl⟩ sh_108 (f_lt (o := 108) (m := 155) (Nat.le_of_ble_eq_true rfl) hN)) MT_75 (G_75 hN a1 t2) ⟨rfl, rfl, rfl⟩ fun t3 => ?_
    refine i_istore_n (pc' := 34) (ls' := [.ref 102, .int a1, .int t3, a_dead]) (f_at inc_296 (j := 17) rfl) (Nat.le_of_ble_eq_true rfl) rfl rfl ?_
    refine i_aload_n (pc' := 35) (f_at inc_296 (j := 18) rfl) rfl rfl ?_
    refine i_getR (pc' := 38) (f_at inc_296 (j := 19) rfl) sh_102 rfl (f_lt (o := 102) (m := 155) (Nat.le_of_ble_eq_true rfl) hN) rfl ?_
    refine i_getI (pc' := 41) (f_at inc_296 (j := 20) rfl) sh_121 rfl (f_lt (o := 121) (m := 155) (Nat.le_of_ble_eq_true rfl) hN) rfl ?_
    refine i_istore_n (pc' := 42) (ls' := [.ref 102, .int a1, .int t3, .int (t2 121 0)]) (f_at inc_296 (j := 21) rfl) (Nat.le_of_ble_eq_true rfl) rfl rfl ?_
    refine s_lR ((t2 121 0), t2) () (fun (s4 : Int32 × f_M) (u4 : Unit) => [.ref 102, .int a1, .int t3, .int s4.1]) (fun (s4 : Int32 × f_M) => s4.2) ?_
    intro s4 u4 k4 hb4 hr4
    refine i_iload_n (pc' := 43) (f_at inc_296 (j := 22) rfl) rfl rfl ?_
    refine i_iload_n (pc' := 44) (f_at inc_296 (j := 23) rfl) rfl rfl ?_
    refine i_if2 (pc' := 93) (nx := 47) c2_ge (f_at inc_296 (j := 24) rfl) ⟨by decide, rfl⟩ (fun b8 => ?_) (fun b8 => ?_)
    · refine i_iconst (pc' := 94) (f_at inc_296 (j := 49) rfl) ci_m1 rfl ?_
      refine s_rt (hr4 _) ?_
      exact i_iret (f_at inc_296 (j := 50) rfl) rfl n_int
    · refine i_aload_n (pc' := 48) (f_at inc_296 (j := 25) rfl) rfl rfl ?_
      refine i_getR (pc' := 51) (f_at inc_296 (j := 26) rfl) sh_102 rfl (f_lt (o := 102) (m := 155) (Nat.le_of_ble_eq_true rfl) hN) rfl ?_
      refine i_iload_n (pc' := 52) (f_at inc_296 (j := 27) rfl) rfl rfl ?_
      refine i_putI (pc' := 55) (f_at inc_296 (j := 28) rfl) sh_128 rfl ⟨rfl, rfl⟩ (f_lt (o := 128) (m := 155) (Nat.le_of_ble_eq_true rfl) hN) rfl ?_
      refine i_aload_n (pc' := 56) (f_at inc_296 (j := 29) rfl) rfl rfl ?_
      refine i_aload_n (pc' := 57) (f_at inc_296 (j := 30) rfl) rfl rfl ?_
      refine i_getR (pc' := 60) (f_at inc_296 (j := 31) rfl) sh_102 rfl (f_lt (o := 102) (m := 155) (Nat.le_of_ble_eq_true rfl) hN) rfl ?_
      refine c_wv (pc' := 63) (c' := 0) (n' := 0) (h_virt (ra := [.ref 128, .ref 102]) (r := []) (as := [.ref 128]) (f_at inc_296 (j := 32) rfl) (by decide) MT_82 rfl rfl rfl ⟨Nat.le_of_ble_eq_true rfl, Nat.le_of_ble_eq_true rfl, Nat.le_of_ble_eq_true rfl⟩ sh_102 (f_lt (o := 102) (m := 155) (Nat.le_of_ble_eq_true rfl) hN)) MT_82 (G_82 hN 128 f_L128 (f_up s4.2 128 0 s4.1)) ⟨rfl, rfl, rfl⟩ fun t5 => ?_
      refine i_aload_n (pc' := 64) (f_at inc_296 (j := 33) rfl) rfl rfl ?_
      refine i_getR (pc' := 67) (f_at inc_296 (j := 34) rfl) sh_102 rfl (f_lt (o := 102) (m := 155) (Nat.le_of_ble_eq_true rfl) hN) rfl ?_
      refine i_getR (pc' := 70) (f_at inc_296 (j := 35) rfl) sh_128 rfl (f_lt (o := 128) (m := 155) (Nat.le_of_ble_eq_true rfl) hN) rfl ?_
      refine i_iload_n (pc' := 71) (f_at inc_296 (j := 36) rfl) rfl rfl ?_
      refine i_bald (pc' := 72) (f_at inc_296 (j := 37) rfl) sh_130 (Or.inr rfl) (f_bg (Nat.le_of_ble_eq_true rfl)) (f_lt (o := 130) (m := 155) (Nat.le_of_ble_eq_true rfl) hN) rfl fun v6 => ?_
      refine i_if0 (pc' := 87) (nx := 75) c0_eq (f_at inc_296 (j := 38) rfl) ⟨by decide, rfl⟩ (fun b7 => ?_) (fun b7 => ?_)
      · refine i_iinc (pc' := 90) (ls' := [.ref 102, .int a1, .int t3, .int (s4.1 + (1 : Int32))]) (f_at inc_296 (j := 47) rfl) rfl ci_1 rfl rfl ?_
        refine i_goto (pc' := 42) (f_at inc_296 (j := 48) rfl) (by decide) ?_
        exact hb4 ((s4.1 + (1 : Int32)), t5) ()
      · refine i_iload_n (pc' := 76) (f_at inc_296 (j := 39) rfl) rfl rfl ?_
        refine i_iconst (pc' := 77) (f_at inc_296 (j := 40) rfl) ci_1 rfl ?_
        refine i_iadd (pc' := 78) (f_at inc_296 (j := 41) rfl) rfl ?_
        refine i_aload_n (pc' := 79) (f_at inc_296 (j := 42) rfl) rfl rfl ?_
        refine i_getR (pc' := 82) (f_at inc_296 (j := 43) rfl) sh_102 rfl (f_lt (o := 102) (m := 155) (Nat.le_of_ble_eq_true rfl) hN) rfl ?_
        refine i_getI (pc' := 85) (f_at inc_296 (j := 44) rfl) sh_121 rfl (f_lt (o := 121) (m := 155) (Nat.le_of_ble_eq_true rfl) hN) rfl ?_
        refine i_isub (pc' := 86) (f_at inc_296 (j := 45) rfl) rfl ?_
        refine s_rt (hr4 _) ?_
        exact i_iret (f_at inc_296 (j := 46) rfl) rfl n_int
  · refine i_iconst (pc' := 13) (f_at inc_296 (j := 6) rfl) ci_0 rfl ?_
    exact i_iret (f_at inc_296 (j := 7) rfl) rfl n_int
set_option maxRecDepth 4000 in
def g_297 (a1 : Int32) (σ : f_M) : Option ((Int32 ⊕ Fin 4) × f_M) :=
  (g_196 a1 σ).bind fun t1 => Sum.elim (fun _ =>
   (g_296 a1 σ).bind fun t2 =>
   some (.inl t2.1, t2.2)
  ) (fun k1 => some (.inr k1, σ)) t1
set_option maxRecDepth 4000 in
theorem G_297 {xs : Nat → Int32} {L N : Nat} (hN : 155 ≤ N) (a1 : Int32)  (σ : f_M) : f_Cal a_MT xs L N 297 [.ref 0, .int a1] σ ((g_297 a1 σ).bind fun t => some (e_xi t)) := by
  refine f_cal_of (ls := [.ref 0, .int a1]) MT_297 (Nat.le_of_ble_eq_true rfl) rfl ?_
  unfold g_297
  refine i_aload_n (pc' := 1) (f_at inc_297 (j := 0) rfl) rfl rfl ?_
  refine i_iload_n (pc' := 2) (f_at inc_297 (j := 1) rfl) rfl rfl ?_
  refine c_tv (pc' := 5) (c' := 0) (n' := 0) (h_virt (ra := [.int a1, .ref 0]) (r := []) (as := [.int a1]) (f_at inc_297 (j := 2) rfl) (by decide) MT_196 rfl rfl rfl ⟨Nat.le_of_ble_eq_true rfl, Nat.le_of_ble_eq_true rfl, Nat.le_of_ble_eq_true rfl⟩ sh_0 (f_lt (o := 0) (m := 155) (Nat.le_of_ble_eq_true rfl) hN)) MT_196 (G_196 hN a1 σ) ⟨rfl, rfl, rfl⟩ (fun k w h => x_thr ⟨rfl, rfl⟩ h) ?_
  refine i_aload_n (pc' := 6) (f_at inc_297 (j := 3) rfl) rfl rfl ?_
  refine i_getR (pc' := 9) (f_at inc_297 (j := 4) rfl) sh_0 rfl (f_lt (o := 0) (m := 155) (Nat.le_of_ble_eq_true rfl) hN) rfl ?_
  refine i_iload_n (pc' := 10) (f_at inc_297 (j := 5) rfl) rfl rfl ?_
  refine c_wi (pc' := 13) (c' := 0) (n' := 0) (h_virt (ra := [.int a1, .ref 102]) (r := []) (as := [.int a1]) (f_at inc_297 (j := 6) rfl) (by decide) MT_296 rfl rfl rfl ⟨Nat.le_of_ble_eq_true rfl, Nat.le_of_ble_eq_true rfl, Nat.le_of_ble_eq_true rfl⟩ sh_102 (f_lt (o := 102) (m := 155) (Nat.le_of_ble_eq_true rfl) hN)) MT_296 (G_296 hN a1 σ) ⟨rfl, rfl, rfl⟩ fun t2 => ?_
  exact i_iret (f_at inc_297 (j := 7) rfl) rfl n_int
set_option maxRecDepth 4000 in
def g_298 (a1 : Int32) (σ : f_M) : Option (Int32 × f_M) :=
  (g_297 a1 σ).bind (f_xe (fun v1 m1 =>
   (f_wr m1 167 1 (0 : Int32) v1).bind fun m2 =>
   some ((0 : Int32), m2)
  ) (fun k1 m1 => (f_hc [(0, 1)] k1).bind fun v => some (v, m1)))
set_option maxRecDepth 4000 in
theorem G_298 {xs : Nat → Int32} {L N : Nat} (hN : 168 ≤ N) (a1 : Int32)  (σ : f_M) : f_Cal a_MT xs L N 298 [.ref 0, .int a1, .ref 167] σ ((g_298 a1 σ).bind fun t => some (e_wi t)) := by
  refine f_cal_of (ls := [.ref 0, .int a1, .ref 167, a_dead]) MT_298 (Nat.le_of_ble_eq_true rfl) rfl ?_
  unfold g_298
  refine i_aload_n (pc' := 1) (f_at inc_298 (j := 0) rfl) rfl rfl ?_
  refine i_iconst (pc' := 2) (f_at inc_298 (j := 1) rfl) ci_0 rfl ?_
  refine i_aload_n (pc' := 3) (f_at inc_298 (j := 2) rfl) rfl rfl ?_
  refine i_iload_n (pc' := 4) (f_at inc_298 (j := 3) rfl) rfl rfl ?_
  refine c_xi (pc' := 7) (c' := 0) (n' := 0) (h_virt (ra := [.int a1, .ref 0]) (r := [.int (0 : Int32), .ref 167]) (as := [.int a1]) (f_at inc_298 (j := 4) rfl) (by decide) MT_297 rfl rfl rfl ⟨Nat.le_of_ble_eq_true rfl, Nat.le_of_ble_eq_true rfl, Nat.le_of_ble_eq_true rfl⟩ sh_0 (f_lt (o := 0) (m := 168) (Nat.le_of_ble_eq_true rfl) hN)) MT_297 (G_297 (Nat.le_trans (Nat.le_of_ble_eq_true rfl) hN) a1 σ) ⟨rfl, rfl, rfl⟩ (fun k s w h => x_hdl (l := [(0, 1)]) (by decide +kernel) h) fun v1 m1 => ?_
  refine i_i2l (pc' := 8) (f_at inc_298 (j := 5) rfl) rfl ?_
  refine i_last (pc' := 9) (f_at inc_298 (j := 6) rfl) sh_167 rfl (f_lt (o := 167) (m := 168) (Nat.le_of_ble_eq_true rfl) hN) rfl fun m2 => ?_
  refine i_goto (pc' := 15) (f_at inc_298 (j := 7) rfl) (by decide) ?_
  refine i_iconst (pc' := 16) (f_at inc_298 (j := 11) rfl) ci_0 rfl ?_
  exact i_iret (f_at inc_298 (j := 12) rfl) rfl n_int
set_option maxRecDepth 4000 in
def g_299 (a1 : Int32) (a2 : Int32) (a3 : Int32) (σ : f_M) : Option (Int32 × f_M) :=
  (f_lp (fun (s1 : Int32 × Int32 × f_M) =>
   (f_rd s1.2.2 156 2420 (4 : Int32)).bind fun v2 =>
   if v2 ≤ s1.2.1 then (
    some (.inr (s1.1, s1.2.2))
   ) else (
    (g_184 s1.2.1 a1 s1.2.2).bind fun t3 =>
    (
     if t3 = false then (
      some (s1.1, s1.2.2)
     ) else (
      (f_rd s1.2.2 163 20 s1.2.1).bind fun v5 =>
      if ¬ v5 = 0 then (
       some (s1.1, s1.2.2)
      ) else (
       (g_122 s1.2.1 a2 s1.2.2).bind fun t6 =>
       if t6 = true then (
        (g_119 s1.2.1 s1.2.2).bind fun t7 =>
        (f_rd s1.2.2 156 2420 (t7 + (7 : Int32))).bind fun v8 =>
        if s1.1 < v8 then (
         (f_wr s1.2.2 163 20 s1.2.1 (1 : Int32)).bind fun m9 =>
         some (s1.1, m9)
        ) else (
         some ((s1.1 - v8), s1.2.2)
        )
       ) else (
        some (s1.1, s1.2.2)
       )
      )
     )
    ).bind fun (t4 : Int32 × f_M) =>
    some (.inl (t4.1, (s1.2.1 + (1 : Int32)), t4.2))
   )
  ) f_F (a3, (0 : Int32), σ)).bind fun (x1 : Int32 × f_M) =>
  some (x1.1, x1.2)
set_option maxRecDepth 4000 in
theorem G_299 {xs : Nat → Int32} {L N : Nat} (hN : 166 ≤ N) (a1 : Int32) (a2 : Int32) (a3 : Int32)  (σ : f_M) : f_Cal a_MT xs L N 299 [.ref 155, .int a1, .int a2, .int a3] σ ((g_299 a1 a2 a3 σ).bind fun t => some (e_wi t)) := by
  refine f_cal_of (ls := [.ref 155, .int a1, .int a2, .int a3, a_dead, a_dead, a_dead]) MT_299 (Nat.le_of_ble_eq_true rfl) rfl ?_
  unfold g_299
  refine i_iload_n (pc' := 1) (f_at inc_299 (j := 0) rfl) rfl rfl ?_
  refine i_istore (pc' := 3) (ls' := [.ref 155, .int a1, .int a2, .int a3, .int a3, a_dead, a_dead]) (f_at inc_299 (j := 1) rfl) (Nat.le_of_ble_eq_true rfl) rfl rfl ?_
  refine i_iconst (pc' := 4) (f_at inc_299 (j := 2) rfl) ci_0 rfl ?_
  refine i_istore (pc' := 6) (ls' := [.ref 155, .int a1, .int a2, .int a3, .int a3, .int (0 : Int32), a_dead]) (f_at inc_299 (j := 3) rfl) (Nat.le_of_ble_eq_true rfl) rfl rfl ?_
  refine s_lX (X := 96) (a3, (0 : Int32), σ) (a_dead) (fun (s1 : Int32 × Int32 × f_M) (u1 : Value) => [.ref 155, .int a1, .int a2, .int a3, .int s1.1, .int s1.2.1, u1]) (fun (s1 : Int32 × Int32 × f_M) => s1.2.2) (fun (x1 : Int32 × f_M) (w1 : Value × Value) => [.ref 155, .int a1, .int a2, .int a3, .int x1.1, w1.1, w1.2]) (fun (x1 : Int32 × f_M) => x1.2) ?_ ?_
  · intro x1 w1
    refine i_iload (pc' := 98) (f_at inc_299 (j := 49) rfl) rfl rfl ?_
    exact i_iret (f_at inc_299 (j := 50) rfl) rfl n_int
  · intro s1 u1 k1 hb1 hx1
    refine i_iload (pc' := 8) (f_at inc_299 (j := 4) rfl) rfl rfl ?_
    refine i_aload_n (pc' := 9) (f_at inc_299 (j := 5) rfl) rfl rfl ?_
    refine i_getR (pc' := 12) (f_at inc_299 (j := 6) rfl) sh_155 rfl (f_lt (o := 155) (m := 166) (Nat.le_of_ble_eq_true rfl) hN) rfl ?_
    refine i_iconst (pc' := 13) (f_at inc_299 (j := 7) rfl) ci_4 rfl ?_
    refine i_iald (pc' := 14) (f_at inc_299 (j := 8) rfl) sh_156 (f_bg (Nat.le_of_ble_eq_true rfl)) (f_lt (o := 156) (m := 166) (Nat.le_of_ble_eq_true rfl) hN) rfl fun v2 => ?_
    refine i_if2 (pc' := 96) (nx := 17) c2_ge (f_at inc_299 (j := 9) rfl) ⟨by decide, rfl⟩ (fun b14 => ?_) (fun b14 => ?_)
    · exact hx1 (s1.1, s1.2.2) (.int s1.2.1, u1)
    · refine i_aload_n (pc' := 18) (f_at inc_299 (j := 10) rfl) rfl rfl ?_
      refine i_iload (pc' := 20) (f_at inc_299 (j := 11) rfl) rfl rfl ?_
      refine i_iload_n (pc' := 21) (f_at inc_299 (j := 12) rfl) rfl rfl ?_
      refine c_pb (pc' := 24) (c' := 0) (n' := 0) (h_virt (ra := [.int a1, .int s1.2.1, .ref 155]) (r := []) (as := [.int s1.2.1, .int a1]) (f_at inc_299 (j := 13) rfl) (by decide) MT_184 rfl rfl rfl ⟨Nat.le_of_ble_eq_true rfl, Nat.le_of_ble_eq_true rfl, Nat.le_of_ble_eq_true rfl⟩ sh_155 (f_lt (o := 155) (m := 166) (Nat.le_of_ble_eq_true rfl) hN)) MT_184 (G_184 hN s1.2.1 a1 s1.2.2) ⟨rfl, rfl, rfl⟩ fun t3 => ?_
      refine s_join (J := 90) (fun (t4 : Int32 × f_M) (u4 : Value) => [.ref 155, .int a1, .int a2, .int a3, .int t4.1, .int s1.2.1, u4]) (fun t4 => []) (fun t4 => t4.2) ?_ ?_
      · intro t4 u4
        refine i_iinc (pc' := 93) (ls' := [.ref 155, .int a1, .int a2, .int a3, .int t4.1, .int (s1.2.1 + (1 : Int32)), u4]) (f_at inc_299 (j := 47) rfl) rfl ci_1 rfl rfl ?_
        refine i_goto (pc' := 6) (f_at inc_299 (j := 48) rfl) (by decide) ?_
        exact hb1 (t4.1, (s1.2.1 + (1 : Int32)), t4.2) (u4)
      · intro k4 hj4
        refine i_if0 (pc' := 90) (nx := 27) cb_eq (f_at inc_299 (j := 14) rfl) ⟨by decide, rfl⟩ (fun b13 => ?_) (fun b13 => ?_)
        · exact hj4 (s1.1, s1.2.2) (u1)
        · refine i_aload_n (pc' := 28) (f_at inc_299 (j := 15) rfl) rfl rfl ?_
          refine i_getR (pc' := 31) (f_at inc_299 (j := 16) rfl) sh_155 rfl (f_lt (o := 155) (m := 166) (Nat.le_of_ble_eq_true rfl) hN) rfl ?_
          refine i_iload (pc' := 33) (f_at inc_299 (j := 17) rfl) rfl rfl ?_
          refine i_bald (pc' := 34) (f_at inc_299 (j := 18) rfl) sh_163 (Or.inr rfl) (f_bg (Nat.le_of_ble_eq_true rfl)) (f_lt (o := 163) (m := 166) (Nat.le_of_ble_eq_true rfl) hN) rfl fun v5 => ?_
          refine i_if0 (pc' := 90) (nx := 37) c0_ne (f_at inc_299 (j := 19) rfl) ⟨by decide, rfl⟩ (fun b12 => ?_) (fun b12 => ?_)
          · exact hj4 (s1.1, s1.2.2) (u1)
          · refine i_aload_n (pc' := 38) (f_at inc_299 (j := 20) rfl) rfl rfl ?_
            refine i_iload (pc' := 40) (f_at inc_299 (j := 21) rfl) rfl rfl ?_
            refine i_iload_n (pc' := 41) (f_at inc_299 (j := 22) rfl) rfl rfl ?_
            refine c_pb (pc' := 44) (c' := 0) (n' := 0) (h_virt (ra := [.int a2, .int s1.2.1, .ref 155]) (r := []) (as := [.int s1.2.1, .int a2]) (f_at inc_299 (j := 23) rfl) (by decide) MT_122 rfl rfl rfl ⟨Nat.le_of_ble_eq_true rfl, Nat.le_of_ble_eq_true rfl, Nat.le_of_ble_eq_true rfl⟩ sh_155 (f_lt (o := 155) (m := 166) (Nat.le_of_ble_eq_true rfl) hN)) MT_122 (G_122 hN s1.2.1 a2 s1.2.2) ⟨rfl, rfl, rfl⟩ fun t6 => ?_
            refine i_if0 (pc' := 50) (nx := 47) cb_ne (f_at inc_299 (j := 24) rfl) ⟨by decide, rfl⟩ (fun b11 => ?_) (fun b11 => ?_)
            · refine i_aload_n (pc' := 51) (f_at inc_299 (j := 26) rfl) rfl rfl ?_
              refine i_getR (pc' := 54) (f_at inc_299 (j := 27) rfl) sh_155 rfl (f_lt (o := 155) (m := 166) (Nat.le_of_ble_eq_true rfl) hN) rfl ?_
              refine i_iload (pc' := 56) (f_at inc_299 (j := 28) rfl) rfl rfl ?_
              refine c_pi (pc' := 59) (c' := 0) (n' := 0) (h_stat (ra := [.int s1.2.1]) (r := [.ref 156]) (as := [.int s1.2.1]) (f_at inc_299 (j := 29) rfl) (by decide) MT_119 rfl rfl rfl ⟨Nat.le_of_ble_eq_true rfl, Nat.le_of_ble_eq_true rfl, Nat.le_of_ble_eq_true rfl⟩) MT_119 (G_119 hN s1.2.1 s1.2.2) ⟨rfl, rfl, rfl⟩ fun t7 => ?_
              refine i_bipush (pc' := 61) (f_at inc_299 (j := 30) rfl) cb_7 rfl ?_
              refine i_iadd (pc' := 62) (f_at inc_299 (j := 31) rfl) rfl ?_
              refine i_iald (pc' := 63) (f_at inc_299 (j := 32) rfl) sh_156 (f_bg (Nat.le_of_ble_eq_true rfl)) (f_lt (o := 156) (m := 166) (Nat.le_of_ble_eq_true rfl) hN) rfl fun v8 => ?_
              refine i_istore (pc' := 65) (ls' := [.ref 155, .int a1, .int a2, .int a3, .int s1.1, .int s1.2.1, .int v8]) (f_at inc_299 (j := 33) rfl) (Nat.le_of_ble_eq_true rfl) rfl rfl ?_
              refine i_iload (pc' := 67) (f_at inc_299 (j := 34) rfl) rfl rfl ?_
              refine i_iload (pc' := 69) (f_at inc_299 (j := 35) rfl) rfl rfl ?_
              refine i_if2 (pc' := 82) (nx := 72) c2_lt (f_at inc_299 (j := 36) rfl) ⟨by decide, rfl⟩ (fun b10 => ?_) (fun b10 => ?_)
              · refine i_aload_n (pc' := 83) (f_at inc_299 (j := 42) rfl) rfl rfl ?_
                refine i_getR (pc' := 86) (f_at inc_299 (j := 43) rfl) sh_155 rfl (f_lt (o := 155) (m := 166) (Nat.le_of_ble_eq_true rfl) hN) rfl ?_
                refine i_iload (pc' := 88) (f_at inc_299 (j := 44) rfl) rfl rfl ?_
                refine i_iconst (pc' := 89) (f_at inc_299 (j := 45) rfl) ci_1 rfl ?_
                refine i_bast (pc' := 90) (f_at inc_299 (j := 46) rfl) sh_163 (Or.inr rfl) (by decide) (f_lt (o := 163) (m := 166) (Nat.le_of_ble_eq_true rfl) hN) rfl fun m9 => ?_
                exact hj4 (s1.1, m9) (.int v8)
              · refine i_iload (pc' := 74) (f_at inc_299 (j := 37) rfl) rfl rfl ?_
                refine i_iload (pc' := 76) (f_at inc_299 (j := 38) rfl) rfl rfl ?_
                refine i_isub (pc' := 77) (f_at inc_299 (j := 39) rfl) rfl ?_
                refine i_istore (pc' := 79) (ls' := [.ref 155, .int a1, .int a2, .int a3, .int (s1.1 - v8), .int s1.2.1, .int v8]) (f_at inc_299 (j := 40) rfl) (Nat.le_of_ble_eq_true rfl) rfl rfl ?_
                refine i_goto (pc' := 90) (f_at inc_299 (j := 41) rfl) (by decide) ?_
                exact hj4 ((s1.1 - v8), s1.2.2) (.int v8)
            · refine i_goto (pc' := 90) (f_at inc_299 (j := 25) rfl) (by decide) ?_
              exact hj4 (s1.1, s1.2.2) (u1)
set_option maxRecDepth 4000 in
def g_300 (a1 : Int32) (σ : f_M) : Option (Int32 × f_M) :=
  (g_119 a1 σ).bind fun t1 =>
  (f_rd σ 156 2420 (t1 + (1 : Int32))).bind fun v2 =>
  (g_36 v2 σ).bind fun t3 =>
  (f_rd σ 156 2420 (t3 + (7 : Int32))).bind fun v4 =>
  (f_lp (fun (s5 : Int32 × f_M) =>
   if (20 : Int32) ≤ s5.1 then (
    some (.inr s5.2)
   ) else (
    (f_wr s5.2 163 20 s5.1 (0 : Int32)).bind fun m6 =>
    some (.inl ((s5.1 + (1 : Int32)), m6))
   )
  ) f_F ((0 : Int32), σ)).bind fun (x5 : f_M) =>
  (f_rd x5 156 2420 (0 : Int32)).bind fun v8 =>
  (f_lp (fun (s9 : Int32 × Int32 × f_M) =>
   (g_121 a1 s9.2.2).bind fun t10 =>
   if t10 ≤ s9.2.1 then (
    some (.inr ((-1 : Int32), s9.2.2))
   ) else (
    if s9.2.1 = 0 then (
     some (.inl (s9.1, (s9.2.1 + (1 : Int32)), s9.2.2))
    ) else (
     if (s9.2.1 - s9.2.1 / (24 : Int32) * (24 : Int32)) = 0 then (
      (g_299 v2 s9.2.1 s9.1 s9.2.2).bind fun t11 =>
      (f_rd t11.2 163 20 a1).bind fun v12 =>
      if v12 = 0 then (
       some (.inl (t11.1, (s9.2.1 + (1 : Int32)), t11.2))
      ) else (
       (f_rd t11.2 156 2420 (0 : Int32)).bind fun v13 =>
       some (.inr (((s9.2.1 + (1 : Int32)) - v13), t11.2))
      )
     ) else (
      some (.inl (s9.1, (s9.2.1 + (1 : Int32)), s9.2.2))
     )
    )
   )
  ) f_F (v4, v8, x5)).bind fun (r9 : Int32 × f_M) => some r9
set_option maxRecDepth 4000 in
theorem G_300 {xs : Nat → Int32} {L N : Nat} (hN : 166 ≤ N) (a1 : Int32)  (σ : f_M) : f_Cal a_MT xs L N 300 [.ref 155, .int a1] σ ((g_300 a1 σ).bind fun t => some (e_wi t)) := by
  refine f_cal_of (ls := [.ref 155, .int a1, a_dead, a_dead, a_dead]) MT_300 (Nat.le_of_ble_eq_true rfl) rfl ?_
  unfold g_300
  refine i_aload_n (pc' := 1) (f_at inc_300 (j := 0) rfl) rfl rfl ?_
  refine i_getR (pc' := 4) (f_at inc_300 (j := 1) rfl) sh_155 rfl (f_lt (o := 155) (m := 166) (Nat.le_of_ble_eq_true rfl) hN) rfl ?_
  refine i_iload_n (pc' := 5) (f_at inc_300 (j := 2) rfl) rfl rfl ?_
  refine c_pi (pc' := 8) (c' := 0) (n' := 0) (h_stat (ra := [.int a1]) (r := [.ref 156]) (as := [.int a1]) (f_at inc_300 (j := 3) rfl) (by decide) MT_119 rfl rfl rfl ⟨Nat.le_of_ble_eq_true rfl, Nat.le_of_ble_eq_true rfl, Nat.le_of_ble_eq_true rfl⟩) MT_119 (G_119 hN a1 σ) ⟨rfl, rfl, rfl⟩ fun t1 => ?_
  refine i_iconst (pc' := 9) (f_at inc_300 (j := 4) rfl) ci_1 rfl ?_
  refine i_iadd (pc' := 10) (f_at inc_300 (j := 5) rfl) rfl ?_
  refine i_iald (pc' := 11) (f_at inc_300 (j := 6) rfl) sh_156 (f_bg (Nat.le_of_ble_eq_true rfl)) (f_lt (o := 156) (m := 166) (Nat.le_of_ble_eq_true rfl) hN) rfl fun v2 => ?_
  refine i_istore_n (pc' := 12) (ls' := [.ref 155, .int a1, .int v2, a_dead, a_dead]) (f_at inc_300 (j := 7) rfl) (Nat.le_of_ble_eq_true rfl) rfl rfl ?_
  refine i_aload_n (pc' := 13) (f_at inc_300 (j := 8) rfl) rfl rfl ?_
  refine i_getR (pc' := 16) (f_at inc_300 (j := 9) rfl) sh_155 rfl (f_lt (o := 155) (m := 166) (Nat.le_of_ble_eq_true rfl) hN) rfl ?_
  refine i_iload_n (pc' := 17) (f_at inc_300 (j := 10) rfl) rfl rfl ?_
  refine c_pi (pc' := 20) (c' := 0) (n' := 0) (h_stat (ra := [.int v2]) (r := [.ref 156]) (as := [.int v2]) (f_at inc_300 (j := 11) rfl) (by decide) MT_36 rfl rfl rfl ⟨Nat.le_of_ble_eq_true rfl, Nat.le_of_ble_eq_true rfl, Nat.le_of_ble_eq_true rfl⟩) MT_36 (G_36 hN v2 σ) ⟨rfl, rfl, rfl⟩ fun t3 => ?_
  refine i_bipush (pc' := 22) (f_at inc_300 (j := 12) rfl) cb_7 rfl ?_
  refine i_iadd (pc' := 23) (f_at inc_300 (j := 13) rfl) rfl ?_
  refine i_iald (pc' := 24) (f_at inc_300 (j := 14) rfl) sh_156 (f_bg (Nat.le_of_ble_eq_true rfl)) (f_lt (o := 156) (m := 166) (Nat.le_of_ble_eq_true rfl) hN) rfl fun v4 => ?_
  refine i_istore_n (pc' := 25) (ls' := [.ref 155, .int a1, .int v2, .int v4, a_dead]) (f_at inc_300 (j := 15) rfl) (Nat.le_of_ble_eq_true rfl) rfl rfl ?_
  refine i_iconst (pc' := 26) (f_at inc_300 (j := 16) rfl) ci_0 rfl ?_
  refine i_istore (pc' := 28) (ls' := [.ref 155, .int a1, .int v2, .int v4, .int (0 : Int32)]) (f_at inc_300 (j := 17) rfl) (Nat.le_of_ble_eq_true rfl) rfl rfl ?_
  refine s_lX (X := 49) ((0 : Int32), σ) () (fun (s5 : Int32 × f_M) (u5 : Unit) => [.ref 155, .int a1, .int v2, .int v4, .int s5.1]) (fun (s5 : Int32 × f_M) => s5.2) (fun (x5 : f_M) (w5 : Value) => [.ref 155, .int a1, .int v2, .int v4, w5]) (fun (x5 : f_M) => x5) ?_ ?_
  · intro x5 w5
    refine i_aload_n (pc' := 50) (f_at inc_300 (j := 28) rfl) rfl rfl ?_
    refine i_getR (pc' := 53) (f_at inc_300 (j := 29) rfl) sh_155 rfl (f_lt (o := 155) (m := 166) (Nat.le_of_ble_eq_true rfl) hN) rfl ?_
    refine i_iconst (pc' := 54) (f_at inc_300 (j := 30) rfl) ci_0 rfl ?_
    refine i_iald (pc' := 55) (f_at inc_300 (j := 31) rfl) sh_156 (f_bg (Nat.le_of_ble_eq_true rfl)) (f_lt (o := 156) (m := 166) (Nat.le_of_ble_eq_true rfl) hN) rfl fun v8 => ?_
    refine i_istore (pc' := 57) (ls' := [.ref 155, .int a1, .int v2, .int v4, .int v8]) (f_at inc_300 (j := 32) rfl) (Nat.le_of_ble_eq_true rfl) rfl rfl ?_
    refine s_lR (v4, v8, x5) () (fun (s9 : Int32 × Int32 × f_M) (u9 : Unit) => [.ref 155, .int a1, .int v2, .int s9.1, .int s9.2.1]) (fun (s9 : Int32 × Int32 × f_M) => s9.2.2) ?_
    intro s9 u9 k9 hb9 hr9
    refine i_iload (pc' := 59) (f_at inc_300 (j := 33) rfl) rfl rfl ?_
    refine i_aload_n (pc' := 60) (f_at inc_300 (j := 34) rfl) rfl rfl ?_
    refine i_iload_n (pc' := 61) (f_at inc_300 (j := 35) rfl) rfl rfl ?_
    refine c_pi (pc' := 64) (c' := 0) (n' := 0) (h_virt (ra := [.int a1, .ref 155]) (r := [.int s9.2.1]) (as := [.int a1]) (f_at inc_300 (j := 36) rfl) (by decide) MT_121 rfl rfl rfl ⟨Nat.le_of_ble_eq_true rfl, Nat.le_of_ble_eq_true rfl, Nat.le_of_ble_eq_true rfl⟩ sh_155 (f_lt (o := 155) (m := 166) (Nat.le_of_ble_eq_true rfl) hN)) MT_121 (G_121 hN a1 s9.2.2) ⟨rfl, rfl, rfl⟩ fun t10 => ?_
    refine i_if2 (pc' := 119) (nx := 67) c2_ge (f_at inc_300 (j := 37) rfl) ⟨by decide, rfl⟩ (fun b17 => ?_) (fun b17 => ?_)
    · refine i_iconst (pc' := 120) (f_at inc_300 (j := 67) rfl) ci_m1 rfl ?_
      refine s_rt (hr9 _) ?_
      exact i_iret (f_at inc_300 (j := 68) rfl) rfl n_int
    · refine i_iload (pc' := 69) (f_at inc_300 (j := 38) rfl) rfl rfl ?_
      refine i_if0 (pc' := 113) (nx := 72) c0_eq (f_at inc_300 (j := 39) rfl) ⟨by decide, rfl⟩ (fun b16 => ?_) (fun b16 => ?_)
      · refine i_iinc (pc' := 116) (ls' := [.ref 155, .int a1, .int v2, .int s9.1, .int (s9.2.1 + (1 : Int32))]) (f_at inc_300 (j := 65) rfl) rfl ci_1 rfl rfl ?_
        refine i_goto (pc' := 57) (f_at inc_300 (j := 66) rfl) (by decide) ?_
        exact hb9 (s9.1, (s9.2.1 + (1 : Int32)), s9.2.2) ()
      · refine i_iload (pc' := 74) (f_at inc_300 (j := 40) rfl) rfl rfl ?_
        refine i_bipush (pc' := 76) (f_at inc_300 (j := 41) rfl) cb_24 rfl ?_
        refine i_irem (pc' := 77) (f_at inc_300 (j := 42) rfl) (by decide) rfl ?_
        refine i_if0 (pc' := 83) (nx := 80) c0_eq (f_at inc_300 (j := 43) rfl) ⟨by decide, rfl⟩ (fun b15 => ?_) (fun b15 => ?_)
        · refine i_aload_n (pc' := 84) (f_at inc_300 (j := 45) rfl) rfl rfl ?_
          refine i_iload_n (pc' := 85) (f_at inc_300 (j := 46) rfl) rfl rfl ?_
          refine i_iload (pc' := 87) (f_at inc_300 (j := 47) rfl) rfl rfl ?_
          refine i_iload_n (pc' := 88) (f_at inc_300 (j := 48) rfl) rfl rfl ?_
          refine c_wi (pc' := 91) (c' := 0) (n' := 0) (h_virt (ra := [.int s9.1, .int s9.2.1, .int v2, .ref 155]) (r := []) (as := [.int v2, .int s9.2.1, .int s9.1]) (f_at inc_300 (j := 49) rfl) (by decide) MT_299 rfl rfl rfl ⟨Nat.le_of_ble_eq_true rfl, Nat.le_of_ble_eq_true rfl, Nat.le_of_ble_eq_true rfl⟩ sh_155 (f_lt (o := 155) (m := 166) (Nat.le_of_ble_eq_true rfl) hN)) MT_299 (G_299 hN v2 s9.2.1 s9.1 s9.2.2) ⟨rfl, rfl, rfl⟩ fun t11 => ?_
          refine i_istore_n (pc' := 92) (ls' := [.ref 155, .int a1, .int v2, .int t11.1, .int s9.2.1]) (f_at inc_300 (j := 50) rfl) (Nat.le_of_ble_eq_true rfl) rfl rfl ?_
          refine i_aload_n (pc' := 93) (f_at inc_300 (j := 51) rfl) rfl rfl ?_
          refine i_getR (pc' := 96) (f_at inc_300 (j := 52) rfl) sh_155 rfl (f_lt (o := 155) (m := 166) (Nat.le_of_ble_eq_true rfl) hN) rfl ?_
          refine i_iload_n (pc' := 97) (f_at inc_300 (j := 53) rfl) rfl rfl ?_
          refine i_bald (pc' := 98) (f_at inc_300 (j := 54) rfl) sh_163 (Or.inr rfl) (f_bg (Nat.le_of_ble_eq_true rfl)) (f_lt (o := 163) (m := 166) (Nat.le_of_ble_eq_true rfl) hN) rfl fun v12 => ?_
          refine i_if0 (pc' := 113) (nx := 101) c0_eq (f_at inc_300 (j := 55) rfl) ⟨by decide, rfl⟩ (fun b14 => ?_) (fun b14 => ?_)
          · refine i_iinc (pc' := 116) (ls' := [.ref 155, .int a1, .int v2, .int t11.1, .int (s9.2.1 + (1 : Int32))]) (f_at inc_300 (j := 65) rfl) rfl ci_1 rfl rfl ?_
            refine i_goto (pc' := 57) (f_at inc_300 (j := 66) rfl) (by decide) ?_
            exact hb9 (t11.1, (s9.2.1 + (1 : Int32)), t11.2) ()
          · refine i_iload (pc' := 103) (f_at inc_300 (j := 56) rfl) rfl rfl ?_
            refine i_iconst (pc' := 104) (f_at inc_300 (j := 57) rfl) ci_1 rfl ?_
            refine i_iadd (pc' := 105) (f_at inc_300 (j := 58) rfl) rfl ?_
            refine i_aload_n (pc' := 106) (f_at inc_300 (j := 59) rfl) rfl rfl ?_
            refine i_getR (pc' := 109) (f_at inc_300 (j := 60) rfl) sh_155 rfl (f_lt (o := 155) (m := 166) (Nat.le_of_ble_eq_true rfl) hN) rfl ?_
            refine i_iconst (pc' := 110) (f_at inc_300 (j := 61) rfl) ci_0 rfl ?_
            refine i_iald (pc' := 111) (f_at inc_300 (j := 62) rfl) sh_156 (f_bg (Nat.le_of_ble_eq_true rfl)) (f_lt (o := 156) (m := 166) (Nat.le_of_ble_eq_true rfl) hN) rfl fun v13 => ?_
            refine i_isub (pc' := 112) (f_at inc_300 (j := 63) rfl) rfl ?_
            refine s_rt (hr9 _) ?_
            exact i_iret (f_at inc_300 (j := 64) rfl) rfl n_int
        · refine i_goto (pc' := 113) (f_at inc_300 (j := 44) rfl) (by decide) ?_
          refine i_iinc (pc' := 116) (ls' := [.ref 155, .int a1, .int v2, .int s9.1, .int (s9.2.1 + (1 : Int32))]) (f_at inc_300 (j := 65) rfl) rfl ci_1 rfl rfl ?_
          refine i_goto (pc' := 57) (f_at inc_300 (j := 66) rfl) (by decide) ?_
          exact hb9 (s9.1, (s9.2.1 + (1 : Int32)), s9.2.2) ()
  · intro s5 u5 k5 hb5 hx5
    refine i_iload (pc' := 30) (f_at inc_300 (j := 18) rfl) rfl rfl ?_
    refine i_bipush (pc' := 32) (f_at inc_300 (j := 19) rfl) cb_20 rfl ?_
    refine i_if2 (pc' := 49) (nx := 35) c2_ge (f_at inc_300 (j := 20) rfl) ⟨by decide, rfl⟩ (fun b7 => ?_) (fun b7 => ?_)
    · exact hx5 s5.2 (.int s5.1)
    · refine i_aload_n (pc' := 36) (f_at inc_300 (j := 21) rfl) rfl rfl ?_
      refine i_getR (pc' := 39) (f_at inc_300 (j := 22) rfl) sh_155 rfl (f_lt (o := 155) (m := 166) (Nat.le_of_ble_eq_true rfl) hN) rfl ?_
      refine i_iload (pc' := 41) (f_at inc_300 (j := 23) rfl) rfl rfl ?_
      refine i_iconst (pc' := 42) (f_at inc_300 (j := 24) rfl) ci_0 rfl ?_
      refine i_bast (pc' := 43) (f_at inc_300 (j := 25) rfl) sh_163 (Or.inr rfl) (by decide) (f_lt (o := 163) (m := 166) (Nat.le_of_ble_eq_true rfl) hN) rfl fun m6 => ?_
      refine i_iinc (pc' := 46) (ls' := [.ref 155, .int a1, .int v2, .int v4, .int (s5.1 + (1 : Int32))]) (f_at inc_300 (j := 26) rfl) rfl ci_1 rfl rfl ?_
      refine i_goto (pc' := 28) (f_at inc_300 (j := 27) rfl) (by decide) ?_
      exact hb5 ((s5.1 + (1 : Int32)), m6) ()
set_option maxRecDepth 4000 in
def g_301 (a1 : Int32) (σ : f_M) : Option (Int32 × f_M) :=
  (g_142 a1 σ).bind fun t1 =>
  (g_176 t1 true true σ).bind fun t2 =>
  if t2.1 = true then (
   (g_120 a1 t2.2).bind fun t3 =>
   (
    if t3 = false then (
     (g_300 a1 t2.2).bind fun t5 =>
     some (t5.1, t5.2)
    ) else (
     some ((0 : Int32), t2.2)
    )
   ).bind fun (t4 : Int32 × f_M) =>
   some (t4.1, t4.2)
  ) else (
   some ((0 : Int32), t2.2)
  )
set_option maxRecDepth 4000 in
theorem G_301 {xs : Nat → Int32} {L N : Nat} (hN : 166 ≤ N) (a1 : Int32)  (σ : f_M) : f_Cal a_MT xs L N 301 [.ref 155, .int a1] σ ((g_301 a1 σ).bind fun t => some (e_wi t)) := by
  refine f_cal_of (ls := [.ref 155, .int a1]) MT_301 (Nat.le_of_ble_eq_true rfl) rfl ?_
  unfold g_301
  refine i_aload_n (pc' := 1) (f_at inc_301 (j := 0) rfl) rfl rfl ?_
  refine i_aload_n (pc' := 2) (f_at inc_301 (j := 1) rfl) rfl rfl ?_
  refine i_iload_n (pc' := 3) (f_at inc_301 (j := 2) rfl) rfl rfl ?_
  refine c_pb (pc' := 6) (c' := 0) (n' := 0) (h_virt (ra := [.int a1, .ref 155]) (r := [.ref 155]) (as := [.int a1]) (f_at inc_301 (j := 3) rfl) (by decide) MT_142 rfl rfl rfl ⟨Nat.le_of_ble_eq_true rfl, Nat.le_of_ble_eq_true rfl, Nat.le_of_ble_eq_true rfl⟩ sh_155 (f_lt (o := 155) (m := 166) (Nat.le_of_ble_eq_true rfl) hN)) MT_142 (G_142 hN a1 σ) ⟨rfl, rfl, rfl⟩ fun t1 => ?_
  refine i_iconst (pc' := 7) (f_at inc_301 (j := 4) rfl) ci_1 rfl ?_
  refine i_iconst (pc' := 8) (f_at inc_301 (j := 5) rfl) ci_1 rfl ?_
  refine c_wb (pc' := 11) (c' := 0) (n' := 0) (h_virt (ra := [.int (1 : Int32), .int (1 : Int32), .int (f_b t1), .ref 155]) (r := []) (as := [.int (f_b t1), .int (1 : Int32), .int (1 : Int32)]) (f_at inc_301 (j := 6) rfl) (by decide) MT_176 rfl rfl rfl ⟨Nat.le_of_ble_eq_true rfl, Nat.le_of_ble_eq_true rfl, Nat.le_of_ble_eq_true rfl⟩ sh_155 (f_lt (o := 155) (m := 166) (Nat.le_of_ble_eq_true rfl) hN)) MT_176 (G_176 hN t1 true true σ) ⟨rfl, rfl, rfl⟩ fun t2 => ?_
  refine i_if0 (pc' := 16) (nx := 14) cb_ne (f_at inc_301 (j := 7) rfl) ⟨by decide, rfl⟩ (fun b7 => ?_) (fun b7 => ?_)
  · refine i_aload_n (pc' := 17) (f_at inc_301 (j := 10) rfl) rfl rfl ?_
    refine i_iload_n (pc' := 18) (f_at inc_301 (j := 11) rfl) rfl rfl ?_
    refine c_pb (pc' := 21) (c' := 0) (n' := 0) (h_virt (ra := [.int a1, .ref 155]) (r := []) (as := [.int a1]) (f_at inc_301 (j := 12) rfl) (by decide) MT_120 rfl rfl rfl ⟨Nat.le_of_ble_eq_true rfl, Nat.le_of_ble_eq_true rfl, Nat.le_of_ble_eq_true rfl⟩ sh_155 (f_lt (o := 155) (m := 166) (Nat.le_of_ble_eq_true rfl) hN)) MT_120 (G_120 hN a1 t2.2) ⟨rfl, rfl, rfl⟩ fun t3 => ?_
    refine s_join (J := 33) (fun (t4 : Int32 × f_M) (u4 : Unit) => [.ref 155, .int a1]) (fun t4 => [.int t4.1]) (fun t4 => t4.2) ?_ ?_
    · intro t4 u4
      exact i_iret (f_at inc_301 (j := 19) rfl) rfl n_int
    · intro k4 hj4
      refine i_if0 (pc' := 28) (nx := 24) cb_eq (f_at inc_301 (j := 13) rfl) ⟨by decide, rfl⟩ (fun b6 => ?_) (fun b6 => ?_)
      · refine i_aload_n (pc' := 29) (f_at inc_301 (j := 16) rfl) rfl rfl ?_
        refine i_iload_n (pc' := 30) (f_at inc_301 (j := 17) rfl) rfl rfl ?_
        refine c_wi (pc' := 33) (c' := 0) (n' := 0) (h_virt (ra := [.int a1, .ref 155]) (r := []) (as := [.int a1]) (f_at inc_301 (j := 18) rfl) (by decide) MT_300 rfl rfl rfl ⟨Nat.le_of_ble_eq_true rfl, Nat.le_of_ble_eq_true rfl, Nat.le_of_ble_eq_true rfl⟩ sh_155 (f_lt (o := 155) (m := 166) (Nat.le_of_ble_eq_true rfl) hN)) MT_300 (G_300 hN a1 t2.2) ⟨rfl, rfl, rfl⟩ fun t5 => ?_
        exact hj4 (t5.1, t5.2) ()
      · refine i_iconst (pc' := 25) (f_at inc_301 (j := 14) rfl) ci_0 rfl ?_
        refine i_goto (pc' := 33) (f_at inc_301 (j := 15) rfl) (by decide) ?_
        exact hj4 ((0 : Int32), t2.2) ()
  · refine i_iconst (pc' := 15) (f_at inc_301 (j := 8) rfl) ci_0 rfl ?_
    exact i_iret (f_at inc_301 (j := 9) rfl) rfl n_int
set_option maxRecDepth 4000 in
def g_302  (σ : f_M) : Option (Int32) :=
  (f_lp (fun (s1 : Int32 × Int32) =>
   if (σ 103 0) ≤ s1.2 then (
    some (.inr s1.1)
   ) else (
    (f_rd σ 106 8 s1.2).bind fun v2 =>
    some (.inl ((s1.1 + v2), (s1.2 + (1 : Int32))))
   )
  ) f_F ((σ 103 6), (0 : Int32))).bind fun (x1 : Int32) =>
  some x1
set_option maxRecDepth 4000 in
theorem G_302 {xs : Nat → Int32} {L N : Nat} (hN : 155 ≤ N)   (σ : f_M) : f_Cal a_MT xs L N 302 [.ref 103] σ ((g_302  σ).bind fun t => some (e_pi σ t)) := by
  refine f_cal_of (ls := [.ref 103, a_dead, a_dead]) MT_302 (Nat.le_of_ble_eq_true rfl) rfl ?_
  unfold g_302
  refine i_aload_n (pc' := 1) (f_at inc_302 (j := 0) rfl) rfl rfl ?_
  refine i_getI (pc' := 4) (f_at inc_302 (j := 1) rfl) sh_103 rfl (f_lt (o := 103) (m := 155) (Nat.le_of_ble_eq_true rfl) hN) rfl ?_
  refine i_istore_n (pc' := 5) (ls' := [.ref 103, .int (σ 103 6), a_dead]) (f_at inc_302 (j := 2) rfl) (Nat.le_of_ble_eq_true rfl) rfl rfl ?_
  refine i_iconst (pc' := 6) (f_at inc_302 (j := 3) rfl) ci_0 rfl ?_
  refine i_istore_n (pc' := 7) (ls' := [.ref 103, .int (σ 103 6), .int (0 : Int32)]) (f_at inc_302 (j := 4) rfl) (Nat.le_of_ble_eq_true rfl) rfl rfl ?_
  refine s_lX (X := 30) ((σ 103 6), (0 : Int32)) () (fun (s1 : Int32 × Int32) (u1 : Unit) => [.ref 103, .int s1.1, .int s1.2]) (fun (s1 : Int32 × Int32) => σ) (fun (x1 : Int32) (w1 : Value) => [.ref 103, .int x1, w1]) (fun (x1 : Int32) => σ) ?_ ?_
  · intro x1 w1
    refine i_iload_n (pc' := 31) (f_at inc_302 (j := 18) rfl) rfl rfl ?_
    exact i_iret (f_at inc_302 (j := 19) rfl) rfl n_int
  · intro s1 u1 k1 hb1 hx1
    refine i_iload_n (pc' := 8) (f_at inc_302 (j := 5) rfl) rfl rfl ?_
    refine i_aload_n (pc' := 9) (f_at inc_302 (j := 6) rfl) rfl rfl ?_
    refine i_getI (pc' := 12) (f_at inc_302 (j := 7) rfl) sh_103 rfl (f_lt (o := 103) (m := 155) (Nat.le_of_ble_eq_true rfl) hN) rfl ?_
    refine i_if2 (pc' := 30) (nx := 15) c2_ge (f_at inc_302 (j := 8) rfl) ⟨by decide, rfl⟩ (fun b3 => ?_) (fun b3 => ?_)
    · exact hx1 s1.1 (.int s1.2)
    · refine i_iload_n (pc' := 16) (f_at inc_302 (j := 9) rfl) rfl rfl ?_
      refine i_aload_n (pc' := 17) (f_at inc_302 (j := 10) rfl) rfl rfl ?_
      refine i_getR (pc' := 20) (f_at inc_302 (j := 11) rfl) sh_103 rfl (f_lt (o := 103) (m := 155) (Nat.le_of_ble_eq_true rfl) hN) rfl ?_
      refine i_iload_n (pc' := 21) (f_at inc_302 (j := 12) rfl) rfl rfl ?_
      refine i_iald (pc' := 22) (f_at inc_302 (j := 13) rfl) sh_106 (f_bg (Nat.le_of_ble_eq_true rfl)) (f_lt (o := 106) (m := 155) (Nat.le_of_ble_eq_true rfl) hN) rfl fun v2 => ?_
      refine i_iadd (pc' := 23) (f_at inc_302 (j := 14) rfl) rfl ?_
      refine i_istore_n (pc' := 24) (ls' := [.ref 103, .int (s1.1 + v2), .int s1.2]) (f_at inc_302 (j := 15) rfl) (Nat.le_of_ble_eq_true rfl) rfl rfl ?_
      refine i_iinc (pc' := 27) (ls' := [.ref 103, .int (s1.1 + v2), .int (s1.2 + (1 : Int32))]) (f_at inc_302 (j := 16) rfl) rfl ci_1 rfl rfl ?_
      refine i_goto (pc' := 7) (f_at inc_302 (j := 17) rfl) (by decide) ?_
      exact hb1 ((s1.1 + v2), (s1.2 + (1 : Int32))) ()
set_option maxRecDepth 4000 in
def g_303  (σ : f_M) : Option (Bool) :=
  (f_lp (fun (s1 : Int32 × Int32) =>
   if (σ 103 0) ≤ s1.2 then (
    some (.inr s1.1)
   ) else (
    (f_rd σ 122 8 s1.2).bind fun v2 =>
    some (.inl ((s1.1 + v2), (s1.2 + (1 : Int32))))
   )
  ) f_F ((σ 121 1), (0 : Int32))).bind fun (x1 : Int32) =>
  (g_302  σ).bind fun t4 =>
  (
   if ¬ x1 = (t4 + (σ 121 14)) then (
    some false
   ) else (
    some true
   )
  ).bind fun (t5 : Bool) =>
  some t5
set_option maxRecDepth 4000 in
theorem G_303 {xs : Nat → Int32} {L N : Nat} (hN : 155 ≤ N)   (σ : f_M) : f_Cal a_MT xs L N 303 [.ref 103, .ref 121] σ ((g_303  σ).bind fun t => some (e_pb σ t)) := by
  refine f_cal_of (ls := [.ref 103, .ref 121, a_dead, a_dead]) MT_303 (Nat.le_of_ble_eq_true rfl) rfl ?_
  unfold g_303
  refine i_aload_n (pc' := 1) (f_at inc_303 (j := 0) rfl) rfl rfl ?_
  refine i_getI (pc' := 4) (f_at inc_303 (j := 1) rfl) sh_121 rfl (f_lt (o := 121) (m := 155) (Nat.le_of_ble_eq_true rfl) hN) rfl ?_
  refine i_istore_n (pc' := 5) (ls' := [.ref 103, .ref 121, .int (σ 121 1), a_dead]) (f_at inc_303 (j := 2) rfl) (Nat.le_of_ble_eq_true rfl) rfl rfl ?_
  refine i_iconst (pc' := 6) (f_at inc_303 (j := 3) rfl) ci_0 rfl ?_
  refine i_istore_n (pc' := 7) (ls' := [.ref 103, .ref 121, .int (σ 121 1), .int (0 : Int32)]) (f_at inc_303 (j := 4) rfl) (Nat.le_of_ble_eq_true rfl) rfl rfl ?_
  refine s_lX (X := 30) ((σ 121 1), (0 : Int32)) () (fun (s1 : Int32 × Int32) (u1 : Unit) => [.ref 103, .ref 121, .int s1.1, .int s1.2]) (fun (s1 : Int32 × Int32) => σ) (fun (x1 : Int32) (w1 : Value) => [.ref 103, .ref 121, .int x1, w1]) (fun (x1 : Int32) => σ) ?_ ?_
  · intro x1 w1
    refine i_iload_n (pc' := 31) (f_at inc_303 (j := 18) rfl) rfl rfl ?_
    refine i_aload_n (pc' := 32) (f_at inc_303 (j := 19) rfl) rfl rfl ?_
    refine c_pi (pc' := 35) (c' := 0) (n' := 0) (h_virt (ra := [.ref 103]) (r := [.int x1]) (as := []) (f_at inc_303 (j := 20) rfl) (by decide) MT_302 rfl rfl rfl ⟨Nat.le_of_ble_eq_true rfl, Nat.le_of_ble_eq_true rfl, Nat.le_of_ble_eq_true rfl⟩ sh_103 (f_lt (o := 103) (m := 155) (Nat.le_of_ble_eq_true rfl) hN)) MT_302 (G_302 hN  σ) ⟨rfl, rfl, rfl⟩ fun t4 => ?_
    refine i_aload_n (pc' := 36) (f_at inc_303 (j := 21) rfl) rfl rfl ?_
    refine i_getI (pc' := 39) (f_at inc_303 (j := 22) rfl) sh_121 rfl (f_lt (o := 121) (m := 155) (Nat.le_of_ble_eq_true rfl) hN) rfl ?_
    refine i_iadd (pc' := 40) (f_at inc_303 (j := 23) rfl) rfl ?_
    refine s_join (J := 48) (fun (t5 : Bool) (u5 : Unit) => [.ref 103, .ref 121, .int x1, w1]) (fun t5 => [.int (f_b t5)]) (fun t5 => σ) ?_ ?_
    · intro t5 u5
      exact i_iret (v := f_b t5) (f_at inc_303 (j := 28) rfl) rfl n_bool
    · intro k5 hj5
      refine i_if2 (pc' := 47) (nx := 43) c2_ne (f_at inc_303 (j := 24) rfl) ⟨by decide, rfl⟩ (fun b6 => ?_) (fun b6 => ?_)
      · refine i_iconst (pc' := 48) (f_at inc_303 (j := 27) rfl) ci_0 rfl ?_
        exact hj5 false ()
      · refine i_iconst (pc' := 44) (f_at inc_303 (j := 25) rfl) ci_1 rfl ?_
        refine i_goto (pc' := 48) (f_at inc_303 (j := 26) rfl) (by decide) ?_
        exact hj5 true ()
  · intro s1 u1 k1 hb1 hx1
    refine i_iload_n (pc' := 8) (f_at inc_303 (j := 5) rfl) rfl rfl ?_
    refine i_aload_n (pc' := 9) (f_at inc_303 (j := 6) rfl) rfl rfl ?_
    refine i_getI (pc' := 12) (f_at inc_303 (j := 7) rfl) sh_103 rfl (f_lt (o := 103) (m := 155) (Nat.le_of_ble_eq_true rfl) hN) rfl ?_
    refine i_if2 (pc' := 30) (nx := 15) c2_ge (f_at inc_303 (j := 8) rfl) ⟨by decide, rfl⟩ (fun b3 => ?_) (fun b3 => ?_)
    · exact hx1 s1.1 (.int s1.2)
    · refine i_iload_n (pc' := 16) (f_at inc_303 (j := 9) rfl) rfl rfl ?_
      refine i_aload_n (pc' := 17) (f_at inc_303 (j := 10) rfl) rfl rfl ?_
      refine i_getR (pc' := 20) (f_at inc_303 (j := 11) rfl) sh_121 rfl (f_lt (o := 121) (m := 155) (Nat.le_of_ble_eq_true rfl) hN) rfl ?_
      refine i_iload_n (pc' := 21) (f_at inc_303 (j := 12) rfl) rfl rfl ?_
      refine i_iald (pc' := 22) (f_at inc_303 (j := 13) rfl) sh_122 (f_bg (Nat.le_of_ble_eq_true rfl)) (f_lt (o := 122) (m := 155) (Nat.le_of_ble_eq_true rfl) hN) rfl fun v2 => ?_
      refine i_iadd (pc' := 23) (f_at inc_303 (j := 14) rfl) rfl ?_
      refine i_istore_n (pc' := 24) (ls' := [.ref 103, .ref 121, .int (s1.1 + v2), .int s1.2]) (f_at inc_303 (j := 15) rfl) (Nat.le_of_ble_eq_true rfl) rfl rfl ?_
      refine i_iinc (pc' := 27) (ls' := [.ref 103, .ref 121, .int (s1.1 + v2), .int (s1.2 + (1 : Int32))]) (f_at inc_303 (j := 16) rfl) rfl ci_1 rfl rfl ?_
      refine i_goto (pc' := 7) (f_at inc_303 (j := 17) rfl) (by decide) ?_
      exact hb1 ((s1.1 + v2), (s1.2 + (1 : Int32))) ()
set_option maxRecDepth 4000 in
def g_304  (σ : f_M) : Option (Bool) :=
  (f_lp (fun (s1 : Int32 × Int32 × Int32) =>
   if (σ 121 5) ≤ s1.2.2 then (
    if ¬ s1.1 = (σ 121 10) then (
     some (.inr false)
    ) else (
     if ¬ s1.2.1 = (σ 121 11) then (
      some (.inr false)
     ) else (
      some (.inr true)
     )
    )
   ) else (
    (f_rd σ 124 20 s1.2.2).bind fun v4 =>
    (
     if v4 = (2 : Int32) then (
      some true
     ) else (
      if ¬ v4 = (3 : Int32) then (
       some false
      ) else (
       some true
      )
     )
    ).bind fun (t5 : Bool) =>
    if t5 = true then (
     (f_rd σ 126 20 s1.2.2).bind fun v8 =>
     (
      if v8 ≤ 0 then (
       some false
      ) else (
       some true
      )
     ).bind fun (t9 : Bool) =>
     if (f_b t5) = (f_b t9) then (
      (
       if t5 = false then (
        some false
       ) else (
        some true
       )
      ).bind fun (t11 : Bool) =>
      (
       if ¬ v4 = (3 : Int32) then (
        some false
       ) else (
        some true
       )
      ).bind fun (t13 : Bool) =>
      some (.inl ((s1.1 + (f_b t11)), (s1.2.1 + (f_b t13)), (s1.2.2 + (1 : Int32))))
     ) else (
      some (.inr false)
     )
    ) else (
     if v4 = 0 then (
      (f_rd σ 126 20 s1.2.2).bind fun v16 =>
      (
       if v16 ≤ 0 then (
        some false
       ) else (
        some true
       )
      ).bind fun (t17 : Bool) =>
      if (f_b t5) = (f_b t17) then (
       (
        if t5 = false then (
         some false
        ) else (
         some true
        )
       ).bind fun (t19 : Bool) =>
       (
        if ¬ v4 = (3 : Int32) then (
         some false
        ) else (
         some true
        )
       ).bind fun (t21 : Bool) =>
       some (.inl ((s1.1 + (f_b t19)), (s1.2.1 + (f_b t21)), (s1.2.2 + (1 : Int32))))
      ) else (
       some (.inr false)
      )
     ) else (
      if v4 = (1 : Int32) then (
       (f_rd σ 126 20 s1.2.2).bind fun v24 =>
       (
        if v24 ≤ 0 then (
         some false
        ) else (
         some true
        )
       ).bind fun (t25 : Bool) =>
       if (f_b t5) = (f_b t25) then (
        (
         if t5 = false then (
          some false
         ) else (
          some true
         )
        ).bind fun (t27 : Bool) =>
        (
         if ¬ v4 = (3 : Int32) then (
          some false
         ) else (
          some true
         )
        ).bind fun (t29 : Bool) =>
        some (.inl ((s1.1 + (f_b t27)), (s1.2.1 + (f_b t29)), (s1.2.2 + (1 : Int32))))
       ) else (
        some (.inr false)
       )
      ) else (
       some (.inr false)
      )
     )
    )
   )
  ) f_F ((0 : Int32), (0 : Int32), (0 : Int32))).bind fun (r1 : Bool) => some r1
set_option maxRecDepth 4000 in
theorem G_304 {xs : Nat → Int32} {L N : Nat} (hN : 155 ≤ N)   (σ : f_M) : f_Cal a_MT xs L N 304 [.ref 121] σ ((g_304  σ).bind fun t => some (e_pb σ t)) := by
  refine f_cal_of (ls := [.ref 121, a_dead, a_dead, a_dead, a_dead, a_dead]) MT_304 (Nat.le_of_ble_eq_true rfl) rfl ?_
  unfold g_304
  refine i_iconst (pc' := 1) (f_at inc_304 (j := 0) rfl) ci_0 rfl ?_
  refine i_istore_n (pc' := 2) (ls' := [.ref 121, .int (0 : Int32), a_dead, a_dead, a_dead, a_dead]) (f_at inc_304 (j := 1) rfl) (Nat.le_of_ble_eq_true rfl) rfl rfl ?_
  refine i_iconst (pc' := 3) (f_at inc_304 (j := 2) rfl) ci_0 rfl ?_
  refine i_istore_n (pc' := 4) (ls' := [.ref 121, .int (0 : Int32), .int (0 : Int32), a_dead, a_dead, a_dead]) (f_at inc_304 (j := 3) rfl) (Nat.le_of_ble_eq_true rfl) rfl rfl ?_
  refine i_iconst (pc' := 5) (f_at inc_304 (j := 4) rfl) ci_0 rfl ?_
  refine i_istore_n (pc' := 6) (ls' := [.ref 121, .int (0 : Int32), .int (0 : Int32), .int (0 : Int32), a_dead, a_dead]) (f_at inc_304 (j := 5) rfl) (Nat.le_of_ble_eq_true rfl) rfl rfl ?_
  refine s_lR ((0 : Int32), (0 : Int32), (0 : Int32)) (a_dead, a_dead) (fun (s1 : Int32 × Int32 × Int32) (u1 : Value × Value) => [.ref 121, .int s1.1, .int s1.2.1, .int s1.2.2, u1.1, u1.2]) (fun (s1 : Int32 × Int32 × Int32) => σ) ?_
  intro s1 u1 k1 hb1 hr1
  refine i_iload_n (pc' := 7) (f_at inc_304 (j := 6) rfl) rfl rfl ?_
  refine i_aload_n (pc' := 8) (f_at inc_304 (j := 7) rfl) rfl rfl ?_
  refine i_getI (pc' := 11) (f_at inc_304 (j := 8) rfl) sh_121 rfl (f_lt (o := 121) (m := 155) (Nat.le_of_ble_eq_true rfl) hN) rfl ?_
  refine i_if2 (pc' := 113) (nx := 14) c2_ge (f_at inc_304 (j := 9) rfl) ⟨by decide, rfl⟩ (fun b35 => ?_) (fun b35 => ?_)
  · refine i_iload_n (pc' := 114) (f_at inc_304 (j := 65) rfl) rfl rfl ?_
    refine i_aload_n (pc' := 115) (f_at inc_304 (j := 66) rfl) rfl rfl ?_
    refine i_getI (pc' := 118) (f_at inc_304 (j := 67) rfl) sh_121 rfl (f_lt (o := 121) (m := 155) (Nat.le_of_ble_eq_true rfl) hN) rfl ?_
    refine i_if2 (pc' := 133) (nx := 121) c2_ne (f_at inc_304 (j := 68) rfl) ⟨by decide, rfl⟩ (fun b3 => ?_) (fun b3 => ?_)
    · refine i_iconst (pc' := 134) (f_at inc_304 (j := 75) rfl) ci_0 rfl ?_
      refine s_rt (hr1 _) ?_
      exact i_iret (v := f_b false) (f_at inc_304 (j := 76) rfl) rfl n_bool
    · refine i_iload_n (pc' := 122) (f_at inc_304 (j := 69) rfl) rfl rfl ?_
      refine i_aload_n (pc' := 123) (f_at inc_304 (j := 70) rfl) rfl rfl ?_
      refine i_getI (pc' := 126) (f_at inc_304 (j := 71) rfl) sh_121 rfl (f_lt (o := 121) (m := 155) (Nat.le_of_ble_eq_true rfl) hN) rfl ?_
      refine i_if2 (pc' := 133) (nx := 129) c2_ne (f_at inc_304 (j := 72) rfl) ⟨by decide, rfl⟩ (fun b2 => ?_) (fun b2 => ?_)
      · refine i_iconst (pc' := 134) (f_at inc_304 (j := 75) rfl) ci_0 rfl ?_
        refine s_rt (hr1 _) ?_
        exact i_iret (v := f_b false) (f_at inc_304 (j := 76) rfl) rfl n_bool
      · refine i_iconst (pc' := 130) (f_at inc_304 (j := 73) rfl) ci_1 rfl ?_
        refine i_goto (pc' := 134) (f_at inc_304 (j := 74) rfl) (by decide) ?_
        refine s_rt (hr1 _) ?_
        exact i_iret (v := f_b true) (f_at inc_304 (j := 76) rfl) rfl n_bool
  · refine i_aload_n (pc' := 15) (f_at inc_304 (j := 10) rfl) rfl rfl ?_
    refine i_getR (pc' := 18) (f_at inc_304 (j := 11) rfl) sh_121 rfl (f_lt (o := 121) (m := 155) (Nat.le_of_ble_eq_true rfl) hN) rfl ?_
    refine i_iload_n (pc' := 19) (f_at inc_304 (j := 12) rfl) rfl rfl ?_
    refine i_iald (pc' := 20) (f_at inc_304 (j := 13) rfl) sh_124 (f_bg (Nat.le_of_ble_eq_true rfl)) (f_lt (o := 124) (m := 155) (Nat.le_of_ble_eq_true rfl) hN) rfl fun v4 => ?_
    refine i_istore (pc' := 22) (ls' := [.ref 121, .int s1.1, .int s1.2.1, .int s1.2.2, .int v4, u1.2]) (f_at inc_304 (j := 14) rfl) (Nat.le_of_ble_eq_true rfl) rfl rfl ?_
    refine i_iload (pc' := 24) (f_at inc_304 (j := 15) rfl) rfl rfl ?_
    refine i_iconst (pc' := 25) (f_at inc_304 (j := 16) rfl) ci_2 rfl ?_
    refine s_join (J := 39) (fun (t5 : Bool) (u5 : Unit) => [.ref 121, .int s1.1, .int s1.2.1, .int s1.2.2, .int v4, u1.2]) (fun t5 => [.int (f_b t5)]) (fun t5 => σ) ?_ ?_
    · intro t5 u5
      refine i_istore (pc' := 41) (ls' := [.ref 121, .int s1.1, .int s1.2.1, .int s1.2.2, .int v4, .int (f_b t5)]) (f_at inc_304 (j := 24) rfl) (Nat.le_of_ble_eq_true rfl) rfl rfl ?_
      refine i_iload (pc' := 43) (f_at inc_304 (j := 25) rfl) rfl rfl ?_
      refine i_if0 (pc' := 59) (nx := 46) cb_ne (f_at inc_304 (j := 26) rfl) ⟨by decide, rfl⟩ (fun b34 => ?_) (fun b34 => ?_)
      · refine i_iload (pc' := 61) (f_at inc_304 (j := 34) rfl) rfl rfl ?_
        refine i_aload_n (pc' := 62) (f_at inc_304 (j := 35) rfl) rfl rfl ?_
        refine i_getR (pc' := 65) (f_at inc_304 (j := 36) rfl) sh_121 rfl (f_lt (o := 121) (m := 155) (Nat.le_of_ble_eq_true rfl) hN) rfl ?_
        refine i_iload_n (pc' := 66) (f_at inc_304 (j := 37) rfl) rfl rfl ?_
        refine i_iald (pc' := 67) (f_at inc_304 (j := 38) rfl) sh_126 (f_bg (Nat.le_of_ble_eq_true rfl)) (f_lt (o := 126) (m := 155) (Nat.le_of_ble_eq_true rfl) hN) rfl fun v8 => ?_
        refine s_join (J := 75) (fun (t9 : Bool) (u9 : Unit) => [.ref 121, .int s1.1, .int s1.2.1, .int s1.2.2, .int v4, .int (f_b t5)]) (fun t9 => [.int (f_b t9), .int (f_b t5)]) (fun t9 => σ) ?_ ?_
        · intro t9 u9
          refine i_if2 (pc' := 80) (nx := 78) c2_eq (f_at inc_304 (j := 43) rfl) ⟨by decide, rfl⟩ (fun b15 => ?_) (fun b15 => ?_)
          · refine i_iload_n (pc' := 81) (f_at inc_304 (j := 46) rfl) rfl rfl ?_
            refine i_iload (pc' := 83) (f_at inc_304 (j := 47) rfl) rfl rfl ?_
            refine s_join (J := 91) (fun (t11 : Bool) (u11 : Unit) => [.ref 121, .int s1.1, .int s1.2.1, .int s1.2.2, .int v4, .int (f_b t5)]) (fun t11 => [.int (f_b t11), .int s1.1]) (fun t11 => σ) ?_ ?_
            · intro t11 u11
              refine i_iadd (pc' := 92) (f_at inc_304 (j := 52) rfl) rfl ?_
              refine i_istore_n (pc' := 93) (ls' := [.ref 121, .int (s1.1 + (f_b t11)), .int s1.2.1, .int s1.2.2, .int v4, .int (f_b t5)]) (f_at inc_304 (j := 53) rfl) (Nat.le_of_ble_eq_true rfl) rfl rfl ?_
              refine i_iload_n (pc' := 94) (f_at inc_304 (j := 54) rfl) rfl rfl ?_
              refine i_iload (pc' := 96) (f_at inc_304 (j := 55) rfl) rfl rfl ?_
              refine i_iconst (pc' := 97) (f_at inc_304 (j := 56) rfl) ci_3 rfl ?_
              refine s_join (J := 105) (fun (t13 : Bool) (u13 : Unit) => [.ref 121, .int (s1.1 + (f_b t11)), .int s1.2.1, .int s1.2.2, .int v4, .int (f_b t5)]) (fun t13 => [.int (f_b t13), .int s1.2.1]) (fun t13 => σ) ?_ ?_
              · intro t13 u13
                refine i_iadd (pc' := 106) (f_at inc_304 (j := 61) rfl) rfl ?_
                refine i_istore_n (pc' := 107) (ls' := [.ref 121, .int (s1.1 + (f_b t11)), .int (s1.2.1 + (f_b t13)), .int s1.2.2, .int v4, .int (f_b t5)]) (f_at inc_304 (j := 62) rfl) (Nat.le_of_ble_eq_true rfl) rfl rfl ?_
                refine i_iinc (pc' := 110) (ls' := [.ref 121, .int (s1.1 + (f_b t11)), .int (s1.2.1 + (f_b t13)), .int (s1.2.2 + (1 : Int32)), .int v4, .int (f_b t5)]) (f_at inc_304 (j := 63) rfl) rfl ci_1 rfl rfl ?_
                refine i_goto (pc' := 6) (f_at inc_304 (j := 64) rfl) (by decide) ?_
                exact hb1 ((s1.1 + (f_b t11)), (s1.2.1 + (f_b t13)), (s1.2.2 + (1 : Int32))) (.int v4, .int (f_b t5))
              · intro k13 hj13
                refine i_if2 (pc' := 104) (nx := 100) c2_ne (f_at inc_304 (j := 57) rfl) ⟨by decide, rfl⟩ (fun b14 => ?_) (fun b14 => ?_)
                · refine i_iconst (pc' := 105) (f_at inc_304 (j := 60) rfl) ci_0 rfl ?_
                  exact hj13 false ()
                · refine i_iconst (pc' := 101) (f_at inc_304 (j := 58) rfl) ci_1 rfl ?_
                  refine i_goto (pc' := 105) (f_at inc_304 (j := 59) rfl) (by decide) ?_
                  exact hj13 true ()
            · intro k11 hj11
              refine i_if0 (pc' := 90) (nx := 86) cb_eq (f_at inc_304 (j := 48) rfl) ⟨by decide, rfl⟩ (fun b12 => ?_) (fun b12 => ?_)
              · refine i_iconst (pc' := 91) (f_at inc_304 (j := 51) rfl) ci_0 rfl ?_
                exact hj11 false ()
              · refine i_iconst (pc' := 87) (f_at inc_304 (j := 49) rfl) ci_1 rfl ?_
                refine i_goto (pc' := 91) (f_at inc_304 (j := 50) rfl) (by decide) ?_
                exact hj11 true ()
          · refine i_iconst (pc' := 79) (f_at inc_304 (j := 44) rfl) ci_0 rfl ?_
            refine s_rt (hr1 _) ?_
            exact i_iret (v := f_b false) (f_at inc_304 (j := 45) rfl) rfl n_bool
        · intro k9 hj9
          refine i_if0 (pc' := 74) (nx := 70) c0_le (f_at inc_304 (j := 39) rfl) ⟨by decide, rfl⟩ (fun b10 => ?_) (fun b10 => ?_)
          · refine i_iconst (pc' := 75) (f_at inc_304 (j := 42) rfl) ci_0 rfl ?_
            exact hj9 false ()
          · refine i_iconst (pc' := 71) (f_at inc_304 (j := 40) rfl) ci_1 rfl ?_
            refine i_goto (pc' := 75) (f_at inc_304 (j := 41) rfl) (by decide) ?_
            exact hj9 true ()
      · refine i_iload (pc' := 48) (f_at inc_304 (j := 27) rfl) rfl rfl ?_
        refine i_if0 (pc' := 59) (nx := 51) c0_eq (f_at inc_304 (j := 28) rfl) ⟨by decide, rfl⟩ (fun b33 => ?_) (fun b33 => ?_)
        · refine i_iload (pc' := 61) (f_at inc_304 (j := 34) rfl) rfl rfl ?_
          refine i_aload_n (pc' := 62) (f_at inc_304 (j := 35) rfl) rfl rfl ?_
          refine i_getR (pc' := 65) (f_at inc_304 (j := 36) rfl) sh_121 rfl (f_lt (o := 121) (m := 155) (Nat.le_of_ble_eq_true rfl) hN) rfl ?_
          refine i_iload_n (pc' := 66) (f_at inc_304 (j := 37) rfl) rfl rfl ?_
          refine i_iald (pc' := 67) (f_at inc_304 (j := 38) rfl) sh_126 (f_bg (Nat.le_of_ble_eq_true rfl)) (f_lt (o := 126) (m := 155) (Nat.le_of_ble_eq_true rfl) hN) rfl fun v16 => ?_
          refine s_join (J := 75) (fun (t17 : Bool) (u17 : Unit) => [.ref 121, .int s1.1, .int s1.2.1, .int s1.2.2, .int v4, .int (f_b t5)]) (fun t17 => [.int (f_b t17), .int (f_b t5)]) (fun t17 => σ) ?_ ?_
          · intro t17 u17
            refine i_if2 (pc' := 80) (nx := 78) c2_eq (f_at inc_304 (j := 43) rfl) ⟨by decide, rfl⟩ (fun b23 => ?_) (fun b23 => ?_)
            · refine i_iload_n (pc' := 81) (f_at inc_304 (j := 46) rfl) rfl rfl ?_
              refine i_iload (pc' := 83) (f_at inc_304 (j := 47) rfl) rfl rfl ?_
              refine s_join (J := 91) (fun (t19 : Bool) (u19 : Unit) => [.ref 121, .int s1.1, .int s1.2.1, .int s1.2.2, .int v4, .int (f_b t5)]) (fun t19 => [.int (f_b t19), .int s1.1]) (fun t19 => σ) ?_ ?_
              · intro t19 u19
                refine i_iadd (pc' := 92) (f_at inc_304 (j := 52) rfl) rfl ?_
                refine i_istore_n (pc' := 93) (ls' := [.ref 121, .int (s1.1 + (f_b t19)), .int s1.2.1, .int s1.2.2, .int v4, .int (f_b t5)]) (f_at inc_304 (j := 53) rfl) (Nat.le_of_ble_eq_true rfl) rfl rfl ?_
                refine i_iload_n (pc' := 94) (f_at inc_304 (j := 54) rfl) rfl rfl ?_
                refine i_iload (pc' := 96) (f_at inc_304 (j := 55) rfl) rfl rfl ?_
                refine i_iconst (pc' := 97) (f_at inc_304 (j := 56) rfl) ci_3 rfl ?_
                refine s_join (J := 105) (fun (t21 : Bool) (u21 : Unit) => [.ref 121, .int (s1.1 + (f_b t19)), .int s1.2.1, .int s1.2.2, .int v4, .int (f_b t5)]) (fun t21 => [.int (f_b t21), .int s1.2.1]) (fun t21 => σ) ?_ ?_
                · intro t21 u21
                  refine i_iadd (pc' := 106) (f_at inc_304 (j := 61) rfl) rfl ?_
                  refine i_istore_n (pc' := 107) (ls' := [.ref 121, .int (s1.1 + (f_b t19)), .int (s1.2.1 + (f_b t21)), .int s1.2.2, .int v4, .int (f_b t5)]) (f_at inc_304 (j := 62) rfl) (Nat.le_of_ble_eq_true rfl) rfl rfl ?_
                  refine i_iinc (pc' := 110) (ls' := [.ref 121, .int (s1.1 + (f_b t19)), .int (s1.2.1 + (f_b t21)), .int (s1.2.2 + (1 : Int32)), .int v4, .int (f_b t5)]) (f_at inc_304 (j := 63) rfl) rfl ci_1 rfl rfl ?_
                  refine i_goto (pc' := 6) (f_at inc_304 (j := 64) rfl) (by decide) ?_
                  exact hb1 ((s1.1 + (f_b t19)), (s1.2.1 + (f_b t21)), (s1.2.2 + (1 : Int32))) (.int v4, .int (f_b t5))
                · intro k21 hj21
                  refine i_if2 (pc' := 104) (nx := 100) c2_ne (f_at inc_304 (j := 57) rfl) ⟨by decide, rfl⟩ (fun b22 => ?_) (fun b22 => ?_)
                  · refine i_iconst (pc' := 105) (f_at inc_304 (j := 60) rfl) ci_0 rfl ?_
                    exact hj21 false ()
                  · refine i_iconst (pc' := 101) (f_at inc_304 (j := 58) rfl) ci_1 rfl ?_
                    refine i_goto (pc' := 105) (f_at inc_304 (j := 59) rfl) (by decide) ?_
                    exact hj21 true ()
              · intro k19 hj19
                refine i_if0 (pc' := 90) (nx := 86) cb_eq (f_at inc_304 (j := 48) rfl) ⟨by decide, rfl⟩ (fun b20 => ?_) (fun b20 => ?_)
                · refine i_iconst (pc' := 91) (f_at inc_304 (j := 51) rfl) ci_0 rfl ?_
                  exact hj19 false ()
                · refine i_iconst (pc' := 87) (f_at inc_304 (j := 49) rfl) ci_1 rfl ?_
                  refine i_goto (pc' := 91) (f_at inc_304 (j := 50) rfl) (by decide) ?_
                  exact hj19 true ()
            · refine i_iconst (pc' := 79) (f_at inc_304 (j := 44) rfl) ci_0 rfl ?_
              refine s_rt (hr1 _) ?_
              exact i_iret (v := f_b false) (f_at inc_304 (j := 45) rfl) rfl n_bool
          · intro k17 hj17
            refine i_if0 (pc' := 74) (nx := 70) c0_le (f_at inc_304 (j := 39) rfl) ⟨by decide, rfl⟩ (fun b18 => ?_) (fun b18 => ?_)
            · refine i_iconst (pc' := 75) (f_at inc_304 (j := 42) rfl) ci_0 rfl ?_
              exact hj17 false ()
            · refine i_iconst (pc' := 71) (f_at inc_304 (j := 40) rfl) ci_1 rfl ?_
              refine i_goto (pc' := 75) (f_at inc_304 (j := 41) rfl) (by decide) ?_
              exact hj17 true ()
        · refine i_iload (pc' := 53) (f_at inc_304 (j := 29) rfl) rfl rfl ?_
          refine i_iconst (pc' := 54) (f_at inc_304 (j := 30) rfl) ci_1 rfl ?_
          refine i_if2 (pc' := 59) (nx := 57) c2_eq (f_at inc_304 (j := 31) rfl) ⟨by decide, rfl⟩ (fun b32 => ?_) (fun b32 => ?_)
          · refine i_iload (pc' := 61) (f_at inc_304 (j := 34) rfl) rfl rfl ?_
            refine i_aload_n (pc' := 62) (f_at inc_304 (j := 35) rfl) rfl rfl ?_
            refine i_getR (pc' := 65) (f_at inc_304 (j := 36) rfl) sh_121 rfl (f_lt (o := 121) (m := 155) (Nat.le_of_ble_eq_true rfl) hN) rfl ?_
            refine i_iload_n (pc' := 66) (f_at inc_304 (j := 37) rfl) rfl rfl ?_
            refine i_iald (pc' := 67) (f_at inc_304 (j := 38) rfl) sh_126 (f_bg (Nat.le_of_ble_eq_true rfl)) (f_lt (o := 126) (m := 155) (Nat.le_of_ble_eq_true rfl) hN) rfl fun v24 => ?_
            refine s_join (J := 75) (fun (t25 : Bool) (u25 : Unit) => [.ref 121, .int s1.1, .int s1.2.1, .int s1.2.2, .int v4, .int (f_b t5)]) (fun t25 => [.int (f_b t25), .int (f_b t5)]) (fun t25 => σ) ?_ ?_
            · intro t25 u25
              refine i_if2 (pc' := 80) (nx := 78) c2_eq (f_at inc_304 (j := 43) rfl) ⟨by decide, rfl⟩ (fun b31 => ?_) (fun b31 => ?_)
              · refine i_iload_n (pc' := 81) (f_at inc_304 (j := 46) rfl) rfl rfl ?_
                refine i_iload (pc' := 83) (f_at inc_304 (j := 47) rfl) rfl rfl ?_
                refine s_join (J := 91) (fun (t27 : Bool) (u27 : Unit) => [.ref 121, .int s1.1, .int s1.2.1, .int s1.2.2, .int v4, .int (f_b t5)]) (fun t27 => [.int (f_b t27), .int s1.1]) (fun t27 => σ) ?_ ?_
                · intro t27 u27
                  refine i_iadd (pc' := 92) (f_at inc_304 (j := 52) rfl) rfl ?_
                  refine i_istore_n (pc' := 93) (ls' := [.ref 121, .int (s1.1 + (f_b t27)), .int s1.2.1, .int s1.2.2, .int v4, .int (f_b t5)]) (f_at inc_304 (j := 53) rfl) (Nat.le_of_ble_eq_true rfl) rfl rfl ?_
                  refine i_iload_n (pc' := 94) (f_at inc_304 (j := 54) rfl) rfl rfl ?_
                  refine i_iload (pc' := 96) (f_at inc_304 (j := 55) rfl) rfl rfl ?_
                  refine i_iconst (pc' := 97) (f_at inc_304 (j := 56) rfl) ci_3 rfl ?_
                  refine s_join (J := 105) (fun (t29 : Bool) (u29 : Unit) => [.ref 121, .int (s1.1 + (f_b t27)), .int s1.2.1, .int s1.2.2, .int v4, .int (f_b t5)]) (fun t29 => [.int (f_b t29), .int s1.2.1]) (fun t29 => σ) ?_ ?_
                  · intro t29 u29
                    refine i_iadd (pc' := 106) (f_at inc_304 (j := 61) rfl) rfl ?_
                    refine i_istore_n (pc' := 107) (ls' := [.ref 121, .int (s1.1 + (f_b t27)), .int (s1.2.1 + (f_b t29)), .int s1.2.2, .int v4, .int (f_b t5)]) (f_at inc_304 (j := 62) rfl) (Nat.le_of_ble_eq_true rfl) rfl rfl ?_
                    refine i_iinc (pc' := 110) (ls' := [.ref 121, .int (s1.1 + (f_b t27)), .int (s1.2.1 + (f_b t29)), .int (s1.2.2 + (1 : Int32)), .int v4, .int (f_b t5)]) (f_at inc_304 (j := 63) rfl) rfl ci_1 rfl rfl ?_
                    refine i_goto (pc' := 6) (f_at inc_304 (j := 64) rfl) (by decide) ?_
                    exact hb1 ((s1.1 + (f_b t27)), (s1.2.1 + (f_b t29)), (s1.2.2 + (1 : Int32))) (.int v4, .int (f_b t5))
                  · intro k29 hj29
                    refine i_if2 (pc' := 104) (nx := 100) c2_ne (f_at inc_304 (j := 57) rfl) ⟨by decide, rfl⟩ (fun b30 => ?_) (fun b30 => ?_)
                    · refine i_iconst (pc' := 105) (f_at inc_304 (j := 60) rfl) ci_0 rfl ?_
                      exact hj29 false ()
                    · refine i_iconst (pc' := 101) (f_at inc_304 (j := 58) rfl) ci_1 rfl ?_
                      refine i_goto (pc' := 105) (f_at inc_304 (j := 59) rfl) (by decide) ?_
                      exact hj29 true ()
                · intro k27 hj27
                  refine i_if0 (pc' := 90) (nx := 86) cb_eq (f_at inc_304 (j := 48) rfl) ⟨by decide, rfl⟩ (fun b28 => ?_) (fun b28 => ?_)
                  · refine i_iconst (pc' := 91) (f_at inc_304 (j := 51) rfl) ci_0 rfl ?_
                    exact hj27 false ()
                  · refine i_iconst (pc' := 87) (f_at inc_304 (j := 49) rfl) ci_1 rfl ?_
                    refine i_goto (pc' := 91) (f_at inc_304 (j := 50) rfl) (by decide) ?_
                    exact hj27 true ()
              · refine i_iconst (pc' := 79) (f_at inc_304 (j := 44) rfl) ci_0 rfl ?_
                refine s_rt (hr1 _) ?_
                exact i_iret (v := f_b false) (f_at inc_304 (j := 45) rfl) rfl n_bool
            · intro k25 hj25
              refine i_if0 (pc' := 74) (nx := 70) c0_le (f_at inc_304 (j := 39) rfl) ⟨by decide, rfl⟩ (fun b26 => ?_) (fun b26 => ?_)
              · refine i_iconst (pc' := 75) (f_at inc_304 (j := 42) rfl) ci_0 rfl ?_
                exact hj25 false ()
              · refine i_iconst (pc' := 71) (f_at inc_304 (j := 40) rfl) ci_1 rfl ?_
                refine i_goto (pc' := 75) (f_at inc_304 (j := 41) rfl) (by decide) ?_
                exact hj25 true ()
          · refine i_iconst (pc' := 58) (f_at inc_304 (j := 32) rfl) ci_0 rfl ?_
            refine s_rt (hr1 _) ?_
            exact i_iret (v := f_b false) (f_at inc_304 (j := 33) rfl) rfl n_bool
    · intro k5 hj5
      refine i_if2 (pc' := 34) (nx := 28) c2_eq (f_at inc_304 (j := 17) rfl) ⟨by decide, rfl⟩ (fun b7 => ?_) (fun b7 => ?_)
      · refine i_iconst (pc' := 35) (f_at inc_304 (j := 21) rfl) ci_1 rfl ?_
        refine i_goto (pc' := 39) (f_at inc_304 (j := 22) rfl) (by decide) ?_
        exact hj5 true ()
      · refine i_iload (pc' := 30) (f_at inc_304 (j := 18) rfl) rfl rfl ?_
        refine i_iconst (pc' := 31) (f_at inc_304 (j := 19) rfl) ci_3 rfl ?_
        refine i_if2 (pc' := 38) (nx := 34) c2_ne (f_at inc_304 (j := 20) rfl) ⟨by decide, rfl⟩ (fun b6 => ?_) (fun b6 => ?_)
        · refine i_iconst (pc' := 39) (f_at inc_304 (j := 23) rfl) ci_0 rfl ?_
          exact hj5 false ()
        · refine i_iconst (pc' := 35) (f_at inc_304 (j := 21) rfl) ci_1 rfl ?_
          refine i_goto (pc' := 39) (f_at inc_304 (j := 22) rfl) (by decide) ?_
          exact hj5 true ()
set_option maxRecDepth 4000 in
def g_305  (σ : f_M) : Option (Bool) :=
  (f_lp (fun (s1 : Int32) =>
   if (σ 121 5) ≤ s1 then (
    some (.inr true)
   ) else (
    (f_lp (fun (s2 : Int32) =>
     if s1 ≤ s2 then (
      some (.inr (.inl ()))
     ) else (
      (f_rd σ 119 20 s2).bind fun v3 =>
      (f_rd σ 119 20 s1).bind fun v4 =>
      (g_103 v3 v4 σ).bind fun t5 =>
      if t5 = false then (
       some (.inl (s2 + (1 : Int32)))
      ) else (
       some (.inr (.inr false))
      )
     )
    ) f_F (0 : Int32)).bind fun (y2 : (Unit) ⊕ (Bool)) => Sum.elim (fun x2 =>
     some (.inl (s1 + (1 : Int32)))
    ) (fun r2 => some (.inr r2)) y2
   )
  ) f_F (1 : Int32)).bind fun (r1 : Bool) => some r1
set_option maxRecDepth 4000 in
theorem G_305 {xs : Nat → Int32} {L N : Nat} (hN : 155 ≤ N)   (σ : f_M) : f_Cal a_MT xs L N 305 [.ref 102] σ ((g_305  σ).bind fun t => some (e_pb σ t)) := by
  refine f_cal_of (ls := [.ref 102, a_dead, a_dead]) MT_305 (Nat.le_of_ble_eq_true rfl) rfl ?_
  unfold g_305
  refine i_iconst (pc' := 1) (f_at inc_305 (j := 0) rfl) ci_1 rfl ?_
  refine i_istore_n (pc' := 2) (ls' := [.ref 102, .int (1 : Int32), a_dead]) (f_at inc_305 (j := 1) rfl) (Nat.le_of_ble_eq_true rfl) rfl rfl ?_
  refine s_lR (1 : Int32) (a_dead) (fun (s1 : Int32) (u1 : Value) => [.ref 102, .int s1, u1]) (fun (s1 : Int32) => σ) ?_
  intro s1 u1 k1 hb1 hr1
  refine i_iload_n (pc' := 3) (f_at inc_305 (j := 2) rfl) rfl rfl ?_
  refine i_aload_n (pc' := 4) (f_at inc_305 (j := 3) rfl) rfl rfl ?_
  refine i_getR (pc' := 7) (f_at inc_305 (j := 4) rfl) sh_102 rfl (f_lt (o := 102) (m := 155) (Nat.le_of_ble_eq_true rfl) hN) rfl ?_
  refine i_getI (pc' := 10) (f_at inc_305 (j := 5) rfl) sh_121 rfl (f_lt (o := 121) (m := 155) (Nat.le_of_ble_eq_true rfl) hN) rfl ?_
  refine i_if2 (pc' := 59) (nx := 13) c2_ge (f_at inc_305 (j := 6) rfl) ⟨by decide, rfl⟩ (fun b8 => ?_) (fun b8 => ?_)
  · refine i_iconst (pc' := 60) (f_at inc_305 (j := 31) rfl) ci_1 rfl ?_
    refine s_rt (hr1 _) ?_
    exact i_iret (v := f_b true) (f_at inc_305 (j := 32) rfl) rfl n_bool
  · refine i_iconst (pc' := 14) (f_at inc_305 (j := 7) rfl) ci_0 rfl ?_
    refine i_istore_n (pc' := 15) (ls' := [.ref 102, .int s1, .int (0 : Int32)]) (f_at inc_305 (j := 8) rfl) (Nat.le_of_ble_eq_true rfl) rfl rfl ?_
    refine s_lB (X := 53) (0 : Int32) () (fun (s2 : Int32) (u2 : Unit) => [.ref 102, .int s1, .int s2]) (fun (s2 : Int32) => σ) (fun (x2 : Unit) (w2 : Value) => [.ref 102, .int s1, w2]) (fun (x2 : Unit) => σ) ?_ ?_
    · intro x2 w2
      refine i_iinc (pc' := 56) (ls' := [.ref 102, .int (s1 + (1 : Int32)), w2]) (f_at inc_305 (j := 29) rfl) rfl ci_1 rfl rfl ?_
      refine i_goto (pc' := 2) (f_at inc_305 (j := 30) rfl) (by decide) ?_
      exact hb1 (s1 + (1 : Int32)) (w2)
    · intro s2 u2 k2 hb2 hx2 hr2
      refine i_iload_n (pc' := 16) (f_at inc_305 (j := 9) rfl) rfl rfl ?_
      refine i_iload_n (pc' := 17) (f_at inc_305 (j := 10) rfl) rfl rfl ?_
      refine i_if2 (pc' := 53) (nx := 20) c2_ge (f_at inc_305 (j := 11) rfl) ⟨by decide, rfl⟩ (fun b7 => ?_) (fun b7 => ?_)
      · exact hx2 () (.int s2)
      · refine i_aload_n (pc' := 21) (f_at inc_305 (j := 12) rfl) rfl rfl ?_
        refine i_aload_n (pc' := 22) (f_at inc_305 (j := 13) rfl) rfl rfl ?_
        refine i_getR (pc' := 25) (f_at inc_305 (j := 14) rfl) sh_102 rfl (f_lt (o := 102) (m := 155) (Nat.le_of_ble_eq_true rfl) hN) rfl ?_
        refine i_getR (pc' := 28) (f_at inc_305 (j := 15) rfl) sh_108 rfl (f_lt (o := 108) (m := 155) (Nat.le_of_ble_eq_true rfl) hN) rfl ?_
        refine i_iload_n (pc' := 29) (f_at inc_305 (j := 16) rfl) rfl rfl ?_
        refine i_iald (pc' := 30) (f_at inc_305 (j := 17) rfl) sh_119 (f_bg (Nat.le_of_ble_eq_true rfl)) (f_lt (o := 119) (m := 155) (Nat.le_of_ble_eq_true rfl) hN) rfl fun v3 => ?_
        refine i_aload_n (pc' := 31) (f_at inc_305 (j := 18) rfl) rfl rfl ?_
        refine i_getR (pc' := 34) (f_at inc_305 (j := 19) rfl) sh_102 rfl (f_lt (o := 102) (m := 155) (Nat.le_of_ble_eq_true rfl) hN) rfl ?_
        refine i_getR (pc' := 37) (f_at inc_305 (j := 20) rfl) sh_108 rfl (f_lt (o := 108) (m := 155) (Nat.le_of_ble_eq_true rfl) hN) rfl ?_
        refine i_iload_n (pc' := 38) (f_at inc_305 (j := 21) rfl) rfl rfl ?_
        refine i_iald (pc' := 39) (f_at inc_305 (j := 22) rfl) sh_119 (f_bg (Nat.le_of_ble_eq_true rfl)) (f_lt (o := 119) (m := 155) (Nat.le_of_ble_eq_true rfl) hN) rfl fun v4 => ?_
        refine c_pb (pc' := 42) (c' := 0) (n' := 0) (h_virt (ra := [.int v4, .int v3, .ref 102]) (r := []) (as := [.int v3, .int v4]) (f_at inc_305 (j := 23) rfl) (by decide) MT_103 rfl rfl rfl ⟨Nat.le_of_ble_eq_true rfl, Nat.le_of_ble_eq_true rfl, Nat.le_of_ble_eq_true rfl⟩ sh_102 (f_lt (o := 102) (m := 155) (Nat.le_of_ble_eq_true rfl) hN)) MT_103 (G_103 hN v3 v4 σ) ⟨rfl, rfl, rfl⟩ fun t5 => ?_
        refine i_if0 (pc' := 47) (nx := 45) cb_eq (f_at inc_305 (j := 24) rfl) ⟨by decide, rfl⟩ (fun b6 => ?_) (fun b6 => ?_)
        · refine i_iinc (pc' := 50) (ls' := [.ref 102, .int s1, .int (s2 + (1 : Int32))]) (f_at inc_305 (j := 27) rfl) rfl ci_1 rfl rfl ?_
          refine i_goto (pc' := 15) (f_at inc_305 (j := 28) rfl) (by decide) ?_
          exact hb2 (s2 + (1 : Int32)) ()
        · refine i_iconst (pc' := 46) (f_at inc_305 (j := 25) rfl) ci_0 rfl ?_
          refine s_rt (hr2 _) ?_
          refine s_rt (hr1 _) ?_
          exact i_iret (v := f_b false) (f_at inc_305 (j := 26) rfl) rfl n_bool
set_option maxRecDepth 4000 in
def g_306 (a1 : Int32) (σ : f_M) : Option (f_M) :=
  (f_lp (fun (s1 : Int32 × f_M) =>
   if s1.1 ≤ 0 then (
    some (.inr (s1.1, s1.2))
   ) else (
    (f_rd s1.2 43 24 (s1.1 - (1 : Int32))).bind fun v2 =>
    if v2 ≤ a1 then (
     some (.inr (s1.1, s1.2))
    ) else (
     (f_rd s1.2 43 24 (s1.1 - (1 : Int32))).bind fun v3 =>
     (f_wr s1.2 43 24 s1.1 v3).bind fun m4 =>
     some (.inl ((s1.1 + (-1 : Int32)), m4))
    )
   )
  ) f_F ((σ 42 1), σ)).bind fun (x1 : Int32 × f_M) =>
  (f_wr x1.2 43 24 x1.1 a1).bind fun m7 =>
  some (f_up m7 42 1 ((m7 42 1) + (1 : Int32)))
set_option maxRecDepth 4000 in
theorem G_306 {xs : Nat → Int32} {L N : Nat} (hN : 155 ≤ N) (a1 : Int32)  (σ : f_M) : f_Cal a_MT xs L N 306 [.ref 42, .int a1] σ ((g_306 a1 σ).bind fun t => some (e_wv t)) := by
  refine f_cal_of (ls := [.ref 42, .int a1, a_dead]) MT_306 (Nat.le_of_ble_eq_true rfl) rfl ?_
  unfold g_306
  refine i_aload_n (pc' := 1) (f_at inc_306 (j := 0) rfl) rfl rfl ?_
  refine i_getI (pc' := 4) (f_at inc_306 (j := 1) rfl) sh_42 rfl (f_lt (o := 42) (m := 155) (Nat.le_of_ble_eq_true rfl) hN) rfl ?_
  refine i_istore_n (pc' := 5) (ls' := [.ref 42, .int a1, .int (σ 42 1)]) (f_at inc_306 (j := 2) rfl) (Nat.le_of_ble_eq_true rfl) rfl rfl ?_
  refine s_lX (X := 41) ((σ 42 1), σ) () (fun (s1 : Int32 × f_M) (u1 : Unit) => [.ref 42, .int a1, .int s1.1]) (fun (s1 : Int32 × f_M) => s1.2) (fun (x1 : Int32 × f_M) (w1 : Unit) => [.ref 42, .int a1, .int x1.1]) (fun (x1 : Int32 × f_M) => x1.2) ?_ ?_
  · intro x1 w1
    refine i_aload_n (pc' := 42) (f_at inc_306 (j := 25) rfl) rfl rfl ?_
    refine i_getR (pc' := 45) (f_at inc_306 (j := 26) rfl) sh_42 rfl (f_lt (o := 42) (m := 155) (Nat.le_of_ble_eq_true rfl) hN) rfl ?_
    refine i_iload_n (pc' := 46) (f_at inc_306 (j := 27) rfl) rfl rfl ?_
    refine i_iload_n (pc' := 47) (f_at inc_306 (j := 28) rfl) rfl rfl ?_
    refine i_iast (pc' := 48) (f_at inc_306 (j := 29) rfl) sh_43 (f_lt (o := 43) (m := 155) (Nat.le_of_ble_eq_true rfl) hN) rfl fun m7 => ?_
    refine i_aload_n (pc' := 49) (f_at inc_306 (j := 30) rfl) rfl rfl ?_
    refine i_dup (pc' := 50) (f_at inc_306 (j := 31) rfl) rfl rfl ?_
    refine i_getI (pc' := 53) (f_at inc_306 (j := 32) rfl) sh_42 rfl (f_lt (o := 42) (m := 155) (Nat.le_of_ble_eq_true rfl) hN) rfl ?_
    refine i_iconst (pc' := 54) (f_at inc_306 (j := 33) rfl) ci_1 rfl ?_
    refine i_iadd (pc' := 55) (f_at inc_306 (j := 34) rfl) rfl ?_
    refine i_putI (pc' := 58) (f_at inc_306 (j := 35) rfl) sh_42 rfl ⟨rfl, rfl⟩ (f_lt (o := 42) (m := 155) (Nat.le_of_ble_eq_true rfl) hN) rfl ?_
    exact i_vret (f_at inc_306 (j := 36) rfl) rfl
  · intro s1 u1 k1 hb1 hx1
    refine i_iload_n (pc' := 6) (f_at inc_306 (j := 3) rfl) rfl rfl ?_
    refine i_if0 (pc' := 41) (nx := 9) c0_le (f_at inc_306 (j := 4) rfl) ⟨by decide, rfl⟩ (fun b6 => ?_) (fun b6 => ?_)
    · exact hx1 (s1.1, s1.2) ()
    · refine i_aload_n (pc' := 10) (f_at inc_306 (j := 5) rfl) rfl rfl ?_
      refine i_getR (pc' := 13) (f_at inc_306 (j := 6) rfl) sh_42 rfl (f_lt (o := 42) (m := 155) (Nat.le_of_ble_eq_true rfl) hN) rfl ?_
      refine i_iload_n (pc' := 14) (f_at inc_306 (j := 7) rfl) rfl rfl ?_
      refine i_iconst (pc' := 15) (f_at inc_306 (j := 8) rfl) ci_1 rfl ?_
      refine i_isub (pc' := 16) (f_at inc_306 (j := 9) rfl) rfl ?_
      refine i_iald (pc' := 17) (f_at inc_306 (j := 10) rfl) sh_43 (f_bg (Nat.le_of_ble_eq_true rfl)) (f_lt (o := 43) (m := 155) (Nat.le_of_ble_eq_true rfl) hN) rfl fun v2 => ?_
      refine i_iload_n (pc' := 18) (f_at inc_306 (j := 11) rfl) rfl rfl ?_
      refine i_if2 (pc' := 41) (nx := 21) c2_le (f_at inc_306 (j := 12) rfl) ⟨by decide, rfl⟩ (fun b5 => ?_) (fun b5 => ?_)
      · exact hx1 (s1.1, s1.2) ()
      · refine i_aload_n (pc' := 22) (f_at inc_306 (j := 13) rfl) rfl rfl ?_
        refine i_getR (pc' := 25) (f_at inc_306 (j := 14) rfl) sh_42 rfl (f_lt (o := 42) (m := 155) (Nat.le_of_ble_eq_true rfl) hN) rfl ?_
        refine i_iload_n (pc' := 26) (f_at inc_306 (j := 15) rfl) rfl rfl ?_
        refine i_aload_n (pc' := 27) (f_at inc_306 (j := 16) rfl) rfl rfl ?_
        refine i_getR (pc' := 30) (f_at inc_306 (j := 17) rfl) sh_42 rfl (f_lt (o := 42) (m := 155) (Nat.le_of_ble_eq_true rfl) hN) rfl ?_
        refine i_iload_n (pc' := 31) (f_at inc_306 (j := 18) rfl) rfl rfl ?_
        refine i_iconst (pc' := 32) (f_at inc_306 (j := 19) rfl) ci_1 rfl ?_
        refine i_isub (pc' := 33) (f_at inc_306 (j := 20) rfl) rfl ?_
        refine i_iald (pc' := 34) (f_at inc_306 (j := 21) rfl) sh_43 (f_bg (Nat.le_of_ble_eq_true rfl)) (f_lt (o := 43) (m := 155) (Nat.le_of_ble_eq_true rfl) hN) rfl fun v3 => ?_
        refine i_iast (pc' := 35) (f_at inc_306 (j := 22) rfl) sh_43 (f_lt (o := 43) (m := 155) (Nat.le_of_ble_eq_true rfl) hN) rfl fun m4 => ?_
        refine i_iinc (pc' := 38) (ls' := [.ref 42, .int a1, .int (s1.1 + (-1 : Int32))]) (f_at inc_306 (j := 23) rfl) rfl ci_m1 rfl rfl ?_
        refine i_goto (pc' := 5) (f_at inc_306 (j := 24) rfl) (by decide) ?_
        exact hb1 ((s1.1 + (-1 : Int32)), m4) ()
set_option maxRecDepth 4000 in
def g_307  (σ : f_M) : Option (Int32) :=
  (f_lp (fun (s1 : Int32 × Int32) =>
   if (σ 42 1) ≤ s1.2 then (
    some (.inr s1.1)
   ) else (
    (f_rd σ 43 24 s1.2).bind fun v2 =>
    some (.inl ((s1.1 + v2), (s1.2 + (1 : Int32))))
   )
  ) f_F ((0 : Int32), (0 : Int32))).bind fun (x1 : Int32) =>
  some x1
set_option maxRecDepth 4000 in
theorem G_307 {xs : Nat → Int32} {L N : Nat} (hN : 155 ≤ N)   (σ : f_M) : f_Cal a_MT xs L N 307 [.ref 42] σ ((g_307  σ).bind fun t => some (e_pi σ t)) := by
  refine f_cal_of (ls := [.ref 42, a_dead, a_dead]) MT_307 (Nat.le_of_ble_eq_true rfl) rfl ?_
  unfold g_307
  refine i_iconst (pc' := 1) (f_at inc_307 (j := 0) rfl) ci_0 rfl ?_
  refine i_istore_n (pc' := 2) (ls' := [.ref 42, .int (0 : Int32), a_dead]) (f_at inc_307 (j := 1) rfl) (Nat.le_of_ble_eq_true rfl) rfl rfl ?_
  refine i_iconst (pc' := 3) (f_at inc_307 (j := 2) rfl) ci_0 rfl ?_
  refine i_istore_n (pc' := 4) (ls' := [.ref 42, .int (0 : Int32), .int (0 : Int32)]) (f_at inc_307 (j := 3) rfl) (Nat.le_of_ble_eq_true rfl) rfl rfl ?_
  refine s_lX (X := 27) ((0 : Int32), (0 : Int32)) () (fun (s1 : Int32 × Int32) (u1 : Unit) => [.ref 42, .int s1.1, .int s1.2]) (fun (s1 : Int32 × Int32) => σ) (fun (x1 : Int32) (w1 : Value) => [.ref 42, .int x1, w1]) (fun (x1 : Int32) => σ) ?_ ?_
  · intro x1 w1
    refine i_iload_n (pc' := 28) (f_at inc_307 (j := 17) rfl) rfl rfl ?_
    exact i_iret (f_at inc_307 (j := 18) rfl) rfl n_int
  · intro s1 u1 k1 hb1 hx1
    refine i_iload_n (pc' := 5) (f_at inc_307 (j := 4) rfl) rfl rfl ?_
    refine i_aload_n (pc' := 6) (f_at inc_307 (j := 5) rfl) rfl rfl ?_
    refine i_getI (pc' := 9) (f_at inc_307 (j := 6) rfl) sh_42 rfl (f_lt (o := 42) (m := 155) (Nat.le_of_ble_eq_true rfl) hN) rfl ?_
    refine i_if2 (pc' := 27) (nx := 12) c2_ge (f_at inc_307 (j := 7) rfl) ⟨by decide, rfl⟩ (fun b3 => ?_) (fun b3 => ?_)
    · exact hx1 s1.1 (.int s1.2)
    · refine i_iload_n (pc' := 13) (f_at inc_307 (j := 8) rfl) rfl rfl ?_
      refine i_aload_n (pc' := 14) (f_at inc_307 (j := 9) rfl) rfl rfl ?_
      refine i_getR (pc' := 17) (f_at inc_307 (j := 10) rfl) sh_42 rfl (f_lt (o := 42) (m := 155) (Nat.le_of_ble_eq_true rfl) hN) rfl ?_
      refine i_iload_n (pc' := 18) (f_at inc_307 (j := 11) rfl) rfl rfl ?_
      refine i_iald (pc' := 19) (f_at inc_307 (j := 12) rfl) sh_43 (f_bg (Nat.le_of_ble_eq_true rfl)) (f_lt (o := 43) (m := 155) (Nat.le_of_ble_eq_true rfl) hN) rfl fun v2 => ?_
      refine i_iadd (pc' := 20) (f_at inc_307 (j := 13) rfl) rfl ?_
      refine i_istore_n (pc' := 21) (ls' := [.ref 42, .int (s1.1 + v2), .int s1.2]) (f_at inc_307 (j := 14) rfl) (Nat.le_of_ble_eq_true rfl) rfl rfl ?_
      refine i_iinc (pc' := 24) (ls' := [.ref 42, .int (s1.1 + v2), .int (s1.2 + (1 : Int32))]) (f_at inc_307 (j := 15) rfl) rfl ci_1 rfl rfl ?_
      refine i_goto (pc' := 4) (f_at inc_307 (j := 16) rfl) (by decide) ?_
      exact hb1 ((s1.1 + v2), (s1.2 + (1 : Int32))) ()
set_option maxRecDepth 4000 in
def g_308 (a1 : Int32) (σ : f_M) : Option (Int32) :=
  (f_lp (fun (s1 : Int32) =>
   if (σ 42 1) ≤ s1 then (
    some (.inr s1)
   ) else (
    (f_rd σ 43 24 s1).bind fun v2 =>
    if a1 ≤ v2 then (
     some (.inr s1)
    ) else (
     some (.inl (s1 + (1 : Int32)))
    )
   )
  ) f_F (0 : Int32)).bind fun (x1 : Int32) =>
  some x1
set_option maxRecDepth 4000 in
theorem G_308 {xs : Nat → Int32} {L N : Nat} (hN : 155 ≤ N) (a1 : Int32)  (σ : f_M) : f_Cal a_MT xs L N 308 [.ref 42, .int a1] σ ((g_308 a1 σ).bind fun t => some (e_pi σ t)) := by
  refine f_cal_of (ls := [.ref 42, .int a1, a_dead]) MT_308 (Nat.le_of_ble_eq_true rfl) rfl ?_
  unfold g_308
  refine i_iconst (pc' := 1) (f_at inc_308 (j := 0) rfl) ci_0 rfl ?_
  refine i_istore_n (pc' := 2) (ls' := [.ref 42, .int a1, .int (0 : Int32)]) (f_at inc_308 (j := 1) rfl) (Nat.le_of_ble_eq_true rfl) rfl rfl ?_
  refine s_lX (X := 26) (0 : Int32) () (fun (s1 : Int32) (u1 : Unit) => [.ref 42, .int a1, .int s1]) (fun (s1 : Int32) => σ) (fun (x1 : Int32) (w1 : Unit) => [.ref 42, .int a1, .int x1]) (fun (x1 : Int32) => σ) ?_ ?_
  · intro x1 w1
    refine i_iload_n (pc' := 27) (f_at inc_308 (j := 14) rfl) rfl rfl ?_
    exact i_iret (f_at inc_308 (j := 15) rfl) rfl n_int
  · intro s1 u1 k1 hb1 hx1
    refine i_iload_n (pc' := 3) (f_at inc_308 (j := 2) rfl) rfl rfl ?_
    refine i_aload_n (pc' := 4) (f_at inc_308 (j := 3) rfl) rfl rfl ?_
    refine i_getI (pc' := 7) (f_at inc_308 (j := 4) rfl) sh_42 rfl (f_lt (o := 42) (m := 155) (Nat.le_of_ble_eq_true rfl) hN) rfl ?_
    refine i_if2 (pc' := 26) (nx := 10) c2_ge (f_at inc_308 (j := 5) rfl) ⟨by decide, rfl⟩ (fun b4 => ?_) (fun b4 => ?_)
    · exact hx1 s1 ()
    · refine i_aload_n (pc' := 11) (f_at inc_308 (j := 6) rfl) rfl rfl ?_
      refine i_getR (pc' := 14) (f_at inc_308 (j := 7) rfl) sh_42 rfl (f_lt (o := 42) (m := 155) (Nat.le_of_ble_eq_true rfl) hN) rfl ?_
      refine i_iload_n (pc' := 15) (f_at inc_308 (j := 8) rfl) rfl rfl ?_
      refine i_iald (pc' := 16) (f_at inc_308 (j := 9) rfl) sh_43 (f_bg (Nat.le_of_ble_eq_true rfl)) (f_lt (o := 43) (m := 155) (Nat.le_of_ble_eq_true rfl) hN) rfl fun v2 => ?_
      refine i_iload_n (pc' := 17) (f_at inc_308 (j := 10) rfl) rfl rfl ?_
      refine i_if2 (pc' := 26) (nx := 20) c2_ge (f_at inc_308 (j := 11) rfl) ⟨by decide, rfl⟩ (fun b3 => ?_) (fun b3 => ?_)
      · exact hx1 s1 ()
      · refine i_iinc (pc' := 23) (ls' := [.ref 42, .int a1, .int (s1 + (1 : Int32))]) (f_at inc_308 (j := 12) rfl) rfl ci_1 rfl rfl ?_
        refine i_goto (pc' := 2) (f_at inc_308 (j := 13) rfl) (by decide) ?_
        exact hb1 (s1 + (1 : Int32)) ()
set_option maxRecDepth 4000 in
def g_309 (a2 : Int32) (a3 : Int32) (σ : f_M) : Option (Int32 × f_M) :=
  (g_75 a2 (f_up σ 42 1 (0 : Int32))).bind fun t1 =>
  (f_rd (f_up σ 42 1 (0 : Int32)) 113 20 a2).bind fun v2 =>
  (f_lp (fun (s3 : Int32 × f_M) =>
   if (f_min a3 t1) ≤ s3.1 then (
    some (.inr s3.2)
   ) else (
    if (24 : Int32) ≤ (s3.2 42 1) then (
     some (.inr s3.2)
    ) else (
     (f_rd s3.2 111 20 a2).bind fun v4 =>
     (
      if v4 = 0 then (
       (f_rd s3.2 110 1000 s3.1).bind fun v6 =>
       some v6
      ) else (
       (f_rd s3.2 109 1000 s3.1).bind fun v7 =>
       some v7
      )
     ).bind fun (t5 : Int32) =>
     (g_306 t5 s3.2).bind fun t9 =>
     some (.inl ((s3.1 + (1 : Int32)), t9))
    )
   )
  ) f_F (v2, (f_up σ 42 1 (0 : Int32)))).bind fun (x3 : f_M) =>
  (f_rd x3 111 20 a2).bind fun v12 =>
  if ¬ v12 = 0 then (
   (f_rd x3 116 20 a2).bind fun v13 =>
   (g_308 v13 x3).bind fun t14 =>
   (f_rd x3 117 20 a2).bind fun v15 =>
   (g_308 (v15 + (1 : Int32)) x3).bind fun t16 =>
   (g_86 a2 (t14 + ((x3 42 1) - t16)) x3).bind fun t17 =>
   some (t17, x3)
  ) else (
   (g_307  x3).bind fun t18 =>
   (g_87 a2 t18 x3).bind fun t19 =>
   some (t19, x3)
  )
set_option maxRecDepth 4000 in
theorem G_309 {xs : Nat → Int32} {L N : Nat} (hN : 155 ≤ N) (a2 : Int32) (a3 : Int32)  (σ : f_M) : f_Cal a_MT xs L N 309 [.ref 42, .ref 108, .int a2, .int a3] σ ((g_309 a2 a3 σ).bind fun t => some (e_wi t)) := by
  refine f_cal_of (ls := [.ref 42, .ref 108, .int a2, .int a3, a_dead, a_dead, a_dead]) MT_309 (Nat.le_of_ble_eq_true rfl) rfl ?_
  unfold g_309
  refine i_aload_n (pc' := 1) (f_at inc_309 (j := 0) rfl) rfl rfl ?_
  refine i_iconst (pc' := 2) (f_at inc_309 (j := 1) rfl) ci_0 rfl ?_
  refine i_putI (pc' := 5) (f_at inc_309 (j := 2) rfl) sh_42 rfl ⟨rfl, rfl⟩ (f_lt (o := 42) (m := 155) (Nat.le_of_ble_eq_true rfl) hN) rfl ?_
  refine i_iload_n (pc' := 6) (f_at inc_309 (j := 3) rfl) rfl rfl ?_
  refine i_aload_n (pc' := 7) (f_at inc_309 (j := 4) rfl) rfl rfl ?_
  refine i_iload_n (pc' := 8) (f_at inc_309 (j := 5) rfl) rfl rfl ?_
  refine c_pi (pc' := 11) (c' := 0) (n' := 0) (h_virt (ra := [.int a2, .ref 108]) (r := [.int a3]) (as := [.int a2]) (f_at inc_309 (j := 6) rfl) (by decide) MT_75 rfl rfl rfl ⟨Nat.le_of_ble_eq_true rfl, Nat.le_of_ble_eq_true rfl, Nat.le_of_ble_eq_true rfl⟩ sh_108 (f_lt (o := 108) (m := 155) (Nat.le_of_ble_eq_true rfl) hN)) MT_75 (G_75 hN a2 (f_up σ 42 1 (0 : Int32))) ⟨rfl, rfl, rfl⟩ fun t1 => ?_
  refine i_min (pc' := 14) (f_at inc_309 (j := 7) rfl) (Nat.le_of_ble_eq_true rfl) rfl ?_
  refine i_istore (pc' := 16) (ls' := [.ref 42, .ref 108, .int a2, .int a3, .int (f_min a3 t1), a_dead, a_dead]) (f_at inc_309 (j := 8) rfl) (Nat.le_of_ble_eq_true rfl) rfl rfl ?_
  refine i_aload_n (pc' := 17) (f_at inc_309 (j := 9) rfl) rfl rfl ?_
  refine i_getR (pc' := 20) (f_at inc_309 (j := 10) rfl) sh_108 rfl (f_lt (o := 108) (m := 155) (Nat.le_of_ble_eq_true rfl) hN) rfl ?_
  refine i_iload_n (pc' := 21) (f_at inc_309 (j := 11) rfl) rfl rfl ?_
  refine i_iald (pc' := 22) (f_at inc_309 (j := 12) rfl) sh_113 (f_bg (Nat.le_of_ble_eq_true rfl)) (f_lt (o := 113) (m := 155) (Nat.le_of_ble_eq_true rfl) hN) rfl fun v2 => ?_
  refine i_istore (pc' := 24) (ls' := [.ref 42, .ref 108, .int a2, .int a3, .int (f_min a3 t1), .int v2, a_dead]) (f_at inc_309 (j := 13) rfl) (Nat.le_of_ble_eq_true rfl) rfl rfl ?_
  refine s_lX (X := 76) (v2, (f_up σ 42 1 (0 : Int32))) () (fun (s3 : Int32 × f_M) (u3 : Unit) => [.ref 42, .ref 108, .int a2, .int a3, .int (f_min a3 t1), .int s3.1, a_dead]) (fun (s3 : Int32 × f_M) => s3.2) (fun (x3 : f_M) (w3 : Value) => [.ref 42, .ref 108, .int a2, .int a3, .int (f_min a3 t1), w3, a_dead]) (fun (x3 : f_M) => x3) ?_ ?_
  · intro x3 w3
    refine i_aload_n (pc' := 77) (f_at inc_309 (j := 39) rfl) rfl rfl ?_
    refine i_getR (pc' := 80) (f_at inc_309 (j := 40) rfl) sh_108 rfl (f_lt (o := 108) (m := 155) (Nat.le_of_ble_eq_true rfl) hN) rfl ?_
    refine i_iload_n (pc' := 81) (f_at inc_309 (j := 41) rfl) rfl rfl ?_
    refine i_bald (pc' := 82) (f_at inc_309 (j := 42) rfl) sh_111 (Or.inr rfl) (f_bg (Nat.le_of_ble_eq_true rfl)) (f_lt (o := 111) (m := 155) (Nat.le_of_ble_eq_true rfl) hN) rfl fun v12 => ?_
    refine i_if0 (pc' := 95) (nx := 85) c0_ne (f_at inc_309 (j := 43) rfl) ⟨by decide, rfl⟩ (fun b20 => ?_) (fun b20 => ?_)
    · refine i_aload_n (pc' := 96) (f_at inc_309 (j := 50) rfl) rfl rfl ?_
      refine i_aload_n (pc' := 97) (f_at inc_309 (j := 51) rfl) rfl rfl ?_
      refine i_getR (pc' := 100) (f_at inc_309 (j := 52) rfl) sh_108 rfl (f_lt (o := 108) (m := 155) (Nat.le_of_ble_eq_true rfl) hN) rfl ?_
      refine i_iload_n (pc' := 101) (f_at inc_309 (j := 53) rfl) rfl rfl ?_
      refine i_iald (pc' := 102) (f_at inc_309 (j := 54) rfl) sh_116 (f_bg (Nat.le_of_ble_eq_true rfl)) (f_lt (o := 116) (m := 155) (Nat.le_of_ble_eq_true rfl) hN) rfl fun v13 => ?_
      refine c_pi (pc' := 105) (c' := 0) (n' := 0) (h_virt (ra := [.int v13, .ref 42]) (r := []) (as := [.int v13]) (f_at inc_309 (j := 55) rfl) (by decide) MT_308 rfl rfl rfl ⟨Nat.le_of_ble_eq_true rfl, Nat.le_of_ble_eq_true rfl, Nat.le_of_ble_eq_true rfl⟩ sh_42 (f_lt (o := 42) (m := 155) (Nat.le_of_ble_eq_true rfl) hN)) MT_308 (G_308 hN v13 x3) ⟨rfl, rfl, rfl⟩ fun t14 => ?_
      refine i_istore (pc' := 107) (ls' := [.ref 42, .ref 108, .int a2, .int a3, .int (f_min a3 t1), .int t14, a_dead]) (f_at inc_309 (j := 56) rfl) (Nat.le_of_ble_eq_true rfl) rfl rfl ?_
      refine i_aload_n (pc' := 108) (f_at inc_309 (j := 57) rfl) rfl rfl ?_
      refine i_getI (pc' := 111) (f_at inc_309 (j := 58) rfl) sh_42 rfl (f_lt (o := 42) (m := 155) (Nat.le_of_ble_eq_true rfl) hN) rfl ?_
      refine i_aload_n (pc' := 112) (f_at inc_309 (j := 59) rfl) rfl rfl ?_
      refine i_aload_n (pc' := 113) (f_at inc_309 (j := 60) rfl) rfl rfl ?_
      refine i_getR (pc' := 116) (f_at inc_309 (j := 61) rfl) sh_108 rfl (f_lt (o := 108) (m := 155) (Nat.le_of_ble_eq_true rfl) hN) rfl ?_
      refine i_iload_n (pc' := 117) (f_at inc_309 (j := 62) rfl) rfl rfl ?_
      refine i_iald (pc' := 118) (f_at inc_309 (j := 63) rfl) sh_117 (f_bg (Nat.le_of_ble_eq_true rfl)) (f_lt (o := 117) (m := 155) (Nat.le_of_ble_eq_true rfl) hN) rfl fun v15 => ?_
      refine i_iconst (pc' := 119) (f_at inc_309 (j := 64) rfl) ci_1 rfl ?_
      refine i_iadd (pc' := 120) (f_at inc_309 (j := 65) rfl) rfl ?_
      refine c_pi (pc' := 123) (c' := 0) (n' := 0) (h_virt (ra := [.int (v15 + (1 : Int32)), .ref 42]) (r := [.int (x3 42 1)]) (as := [.int (v15 + (1 : Int32))]) (f_at inc_309 (j := 66) rfl) (by decide) MT_308 rfl rfl rfl ⟨Nat.le_of_ble_eq_true rfl, Nat.le_of_ble_eq_true rfl, Nat.le_of_ble_eq_true rfl⟩ sh_42 (f_lt (o := 42) (m := 155) (Nat.le_of_ble_eq_true rfl) hN)) MT_308 (G_308 hN (v15 + (1 : Int32)) x3) ⟨rfl, rfl, rfl⟩ fun t16 => ?_
      refine i_isub (pc' := 124) (f_at inc_309 (j := 67) rfl) rfl ?_
      refine i_istore (pc' := 126) (ls' := [.ref 42, .ref 108, .int a2, .int a3, .int (f_min a3 t1), .int t14, .int ((x3 42 1) - t16)]) (f_at inc_309 (j := 68) rfl) (Nat.le_of_ble_eq_true rfl) rfl rfl ?_
      refine i_aload_n (pc' := 127) (f_at inc_309 (j := 69) rfl) rfl rfl ?_
      refine i_iload_n (pc' := 128) (f_at inc_309 (j := 70) rfl) rfl rfl ?_
      refine i_iload (pc' := 130) (f_at inc_309 (j := 71) rfl) rfl rfl ?_
      refine i_iload (pc' := 132) (f_at inc_309 (j := 72) rfl) rfl rfl ?_
      refine i_iadd (pc' := 133) (f_at inc_309 (j := 73) rfl) rfl ?_
      refine c_pi (pc' := 136) (c' := 0) (n' := 0) (h_virt (ra := [.int (t14 + ((x3 42 1) - t16)), .int a2, .ref 108]) (r := []) (as := [.int a2, .int (t14 + ((x3 42 1) - t16))]) (f_at inc_309 (j := 74) rfl) (by decide) MT_86 rfl rfl rfl ⟨Nat.le_of_ble_eq_true rfl, Nat.le_of_ble_eq_true rfl, Nat.le_of_ble_eq_true rfl⟩ sh_108 (f_lt (o := 108) (m := 155) (Nat.le_of_ble_eq_true rfl) hN)) MT_86 (G_86 hN a2 (t14 + ((x3 42 1) - t16)) x3) ⟨rfl, rfl, rfl⟩ fun t17 => ?_
      exact i_iret (f_at inc_309 (j := 75) rfl) rfl n_int
    · refine i_aload_n (pc' := 86) (f_at inc_309 (j := 44) rfl) rfl rfl ?_
      refine i_iload_n (pc' := 87) (f_at inc_309 (j := 45) rfl) rfl rfl ?_
      refine i_aload_n (pc' := 88) (f_at inc_309 (j := 46) rfl) rfl rfl ?_
      refine c_pi (pc' := 91) (c' := 0) (n' := 0) (h_virt (ra := [.ref 42]) (r := [.int a2, .ref 108]) (as := []) (f_at inc_309 (j := 47) rfl) (by decide) MT_307 rfl rfl rfl ⟨Nat.le_of_ble_eq_true rfl, Nat.le_of_ble_eq_true rfl, Nat.le_of_ble_eq_true rfl⟩ sh_42 (f_lt (o := 42) (m := 155) (Nat.le_of_ble_eq_true rfl) hN)) MT_307 (G_307 hN  x3) ⟨rfl, rfl, rfl⟩ fun t18 => ?_
      refine c_pi (pc' := 94) (c' := 0) (n' := 0) (h_virt (ra := [.int t18, .int a2, .ref 108]) (r := []) (as := [.int a2, .int t18]) (f_at inc_309 (j := 48) rfl) (by decide) MT_87 rfl rfl rfl ⟨Nat.le_of_ble_eq_true rfl, Nat.le_of_ble_eq_true rfl, Nat.le_of_ble_eq_true rfl⟩ sh_108 (f_lt (o := 108) (m := 155) (Nat.le_of_ble_eq_true rfl) hN)) MT_87 (G_87 hN a2 t18 x3) ⟨rfl, rfl, rfl⟩ fun t19 => ?_
      exact i_iret (f_at inc_309 (j := 49) rfl) rfl n_int
  · intro s3 u3 k3 hb3 hx3
    refine i_iload (pc' := 26) (f_at inc_309 (j := 14) rfl) rfl rfl ?_
    refine i_iload (pc' := 28) (f_at inc_309 (j := 15) rfl) rfl rfl ?_
    refine i_if2 (pc' := 76) (nx := 31) c2_ge (f_at inc_309 (j := 16) rfl) ⟨by decide, rfl⟩ (fun b11 => ?_) (fun b11 => ?_)
    · exact hx3 s3.2 (.int s3.1)
    · refine i_aload_n (pc' := 32) (f_at inc_309 (j := 17) rfl) rfl rfl ?_
      refine i_getI (pc' := 35) (f_at inc_309 (j := 18) rfl) sh_42 rfl (f_lt (o := 42) (m := 155) (Nat.le_of_ble_eq_true rfl) hN) rfl ?_
      refine i_bipush (pc' := 37) (f_at inc_309 (j := 19) rfl) cb_24 rfl ?_
      refine i_if2 (pc' := 76) (nx := 40) c2_ge (f_at inc_309 (j := 20) rfl) ⟨by decide, rfl⟩ (fun b10 => ?_) (fun b10 => ?_)
      · exact hx3 s3.2 (.int s3.1)
      · refine i_aload_n (pc' := 41) (f_at inc_309 (j := 21) rfl) rfl rfl ?_
        refine i_aload_n (pc' := 42) (f_at inc_309 (j := 22) rfl) rfl rfl ?_
        refine i_getR (pc' := 45) (f_at inc_309 (j := 23) rfl) sh_108 rfl (f_lt (o := 108) (m := 155) (Nat.le_of_ble_eq_true rfl) hN) rfl ?_
        refine i_iload_n (pc' := 46) (f_at inc_309 (j := 24) rfl) rfl rfl ?_
        refine i_bald (pc' := 47) (f_at inc_309 (j := 25) rfl) sh_111 (Or.inr rfl) (f_bg (Nat.le_of_ble_eq_true rfl)) (f_lt (o := 111) (m := 155) (Nat.le_of_ble_eq_true rfl) hN) rfl fun v4 => ?_
        refine s_join (J := 67) (fun (t5 : Int32) (u5 : Unit) => [.ref 42, .ref 108, .int a2, .int a3, .int (f_min a3 t1), .int s3.1, a_dead]) (fun t5 => [.int t5, .ref 42]) (fun t5 => s3.2) ?_ ?_
        · intro t5 u5
          refine c_wv (pc' := 70) (c' := 0) (n' := 0) (h_virt (ra := [.int t5, .ref 42]) (r := []) (as := [.int t5]) (f_at inc_309 (j := 36) rfl) (by decide) MT_306 rfl rfl rfl ⟨Nat.le_of_ble_eq_true rfl, Nat.le_of_ble_eq_true rfl, Nat.le_of_ble_eq_true rfl⟩ sh_42 (f_lt (o := 42) (m := 155) (Nat.le_of_ble_eq_true rfl) hN)) MT_306 (G_306 hN t5 s3.2) ⟨rfl, rfl, rfl⟩ fun t9 => ?_
          refine i_iinc (pc' := 73) (ls' := [.ref 42, .ref 108, .int a2, .int a3, .int (f_min a3 t1), .int (s3.1 + (1 : Int32)), a_dead]) (f_at inc_309 (j := 37) rfl) rfl ci_1 rfl rfl ?_
          refine i_goto (pc' := 24) (f_at inc_309 (j := 38) rfl) (by decide) ?_
          exact hb3 ((s3.1 + (1 : Int32)), t9) ()
        · intro k5 hj5
          refine i_if0 (pc' := 60) (nx := 50) c0_eq (f_at inc_309 (j := 26) rfl) ⟨by decide, rfl⟩ (fun b8 => ?_) (fun b8 => ?_)
          · refine i_aload_n (pc' := 61) (f_at inc_309 (j := 32) rfl) rfl rfl ?_
            refine i_getR (pc' := 64) (f_at inc_309 (j := 33) rfl) sh_108 rfl (f_lt (o := 108) (m := 155) (Nat.le_of_ble_eq_true rfl) hN) rfl ?_
            refine i_iload (pc' := 66) (f_at inc_309 (j := 34) rfl) rfl rfl ?_
            refine i_iald (pc' := 67) (f_at inc_309 (j := 35) rfl) sh_110 (f_bg (Nat.le_of_ble_eq_true rfl)) (f_lt (o := 110) (m := 155) (Nat.le_of_ble_eq_true rfl) hN) rfl fun v6 => ?_
            exact hj5 v6 ()
          · refine i_aload_n (pc' := 51) (f_at inc_309 (j := 27) rfl) rfl rfl ?_
            refine i_getR (pc' := 54) (f_at inc_309 (j := 28) rfl) sh_108 rfl (f_lt (o := 108) (m := 155) (Nat.le_of_ble_eq_true rfl) hN) rfl ?_
            refine i_iload (pc' := 56) (f_at inc_309 (j := 29) rfl) rfl rfl ?_
            refine i_iald (pc' := 57) (f_at inc_309 (j := 30) rfl) sh_109 (f_bg (Nat.le_of_ble_eq_true rfl)) (f_lt (o := 109) (m := 155) (Nat.le_of_ble_eq_true rfl) hN) rfl fun v7 => ?_
            refine i_goto (pc' := 67) (f_at inc_309 (j := 31) rfl) (by decide) ?_
            exact hj5 v7 ()
set_option maxRecDepth 4000 in
def g_310  (σ : f_M) : Option (Bool × f_M) :=
  (f_lp (fun (s1 : Int32 × f_M) =>
   if (s1.2 121 3) ≤ s1.1 then (
    some (.inr (true, s1.2))
   ) else (
    (g_309 s1.1 (s1.2 121 0) s1.2).bind fun t2 =>
    (g_88 s1.1 (t2.2 121 0) t2.2).bind fun t3 =>
    if t2.1 = t3 then (
     some (.inl ((s1.1 + (1 : Int32)), t2.2))
    ) else (
     some (.inr (false, t2.2))
    )
   )
  ) f_F ((0 : Int32), σ)).bind fun (r1 : Bool × f_M) => some r1
set_option maxRecDepth 4000 in
theorem G_310 {xs : Nat → Int32} {L N : Nat} (hN : 155 ≤ N)   (σ : f_M) : f_Cal a_MT xs L N 310 [.ref 42, .ref 108, .ref 121] σ ((g_310  σ).bind fun t => some (e_wb t)) := by
  refine f_cal_of (ls := [.ref 42, .ref 108, .ref 121, a_dead]) MT_310 (Nat.le_of_ble_eq_true rfl) rfl ?_
  unfold g_310
  refine i_iconst (pc' := 1) (f_at inc_310 (j := 0) rfl) ci_0 rfl ?_
  refine i_istore_n (pc' := 2) (ls' := [.ref 42, .ref 108, .ref 121, .int (0 : Int32)]) (f_at inc_310 (j := 1) rfl) (Nat.le_of_ble_eq_true rfl) rfl rfl ?_
  refine s_lR ((0 : Int32), σ) () (fun (s1 : Int32 × f_M) (u1 : Unit) => [.ref 42, .ref 108, .ref 121, .int s1.1]) (fun (s1 : Int32 × f_M) => s1.2) ?_
  intro s1 u1 k1 hb1 hr1
  refine i_iload_n (pc' := 3) (f_at inc_310 (j := 2) rfl) rfl rfl ?_
  refine i_aload_n (pc' := 4) (f_at inc_310 (j := 3) rfl) rfl rfl ?_
  refine i_getI (pc' := 7) (f_at inc_310 (j := 4) rfl) sh_121 rfl (f_lt (o := 121) (m := 155) (Nat.le_of_ble_eq_true rfl) hN) rfl ?_
  refine i_if2 (pc' := 40) (nx := 10) c2_ge (f_at inc_310 (j := 5) rfl) ⟨by decide, rfl⟩ (fun b5 => ?_) (fun b5 => ?_)
  · refine i_iconst (pc' := 41) (f_at inc_310 (j := 22) rfl) ci_1 rfl ?_
    refine s_rt (hr1 _) ?_
    exact i_iret (v := f_b true) (f_at inc_310 (j := 23) rfl) rfl n_bool
  · refine i_aload_n (pc' := 11) (f_at inc_310 (j := 6) rfl) rfl rfl ?_
    refine i_aload_n (pc' := 12) (f_at inc_310 (j := 7) rfl) rfl rfl ?_
    refine i_iload_n (pc' := 13) (f_at inc_310 (j := 8) rfl) rfl rfl ?_
    refine i_aload_n (pc' := 14) (f_at inc_310 (j := 9) rfl) rfl rfl ?_
    refine i_getI (pc' := 17) (f_at inc_310 (j := 10) rfl) sh_121 rfl (f_lt (o := 121) (m := 155) (Nat.le_of_ble_eq_true rfl) hN) rfl ?_
    refine c_wi (pc' := 20) (c' := 0) (n' := 0) (h_virt (ra := [.int (s1.2 121 0), .int s1.1, .ref 108, .ref 42]) (r := []) (as := [.ref 108, .int s1.1, .int (s1.2 121 0)]) (f_at inc_310 (j := 11) rfl) (by decide) MT_309 rfl rfl rfl ⟨Nat.le_of_ble_eq_true rfl, Nat.le_of_ble_eq_true rfl, Nat.le_of_ble_eq_true rfl⟩ sh_42 (f_lt (o := 42) (m := 155) (Nat.le_of_ble_eq_true rfl) hN)) MT_309 (G_309 hN s1.1 (s1.2 121 0) s1.2) ⟨rfl, rfl, rfl⟩ fun t2 => ?_
    refine i_aload_n (pc' := 21) (f_at inc_310 (j := 12) rfl) rfl rfl ?_
    refine i_iload_n (pc' := 22) (f_at inc_310 (j := 13) rfl) rfl rfl ?_
    refine i_aload_n (pc' := 23) (f_at inc_310 (j := 14) rfl) rfl rfl ?_
    refine i_getI (pc' := 26) (f_at inc_310 (j := 15) rfl) sh_121 rfl (f_lt (o := 121) (m := 155) (Nat.le_of_ble_eq_true rfl) hN) rfl ?_
    refine c_pi (pc' := 29) (c' := 0) (n' := 0) (h_virt (ra := [.int (t2.2 121 0), .int s1.1, .ref 108]) (r := [.int t2.1]) (as := [.int s1.1, .int (t2.2 121 0)]) (f_at inc_310 (j := 16) rfl) (by decide) MT_88 rfl rfl rfl ⟨Nat.le_of_ble_eq_true rfl, Nat.le_of_ble_eq_true rfl, Nat.le_of_ble_eq_true rfl⟩ sh_108 (f_lt (o := 108) (m := 155) (Nat.le_of_ble_eq_true rfl) hN)) MT_88 (G_88 hN s1.1 (t2.2 121 0) t2.2) ⟨rfl, rfl, rfl⟩ fun t3 => ?_
    refine i_if2 (pc' := 34) (nx := 32) c2_eq (f_at inc_310 (j := 17) rfl) ⟨by decide, rfl⟩ (fun b4 => ?_) (fun b4 => ?_)
    · refine i_iinc (pc' := 37) (ls' := [.ref 42, .ref 108, .ref 121, .int (s1.1 + (1 : Int32))]) (f_at inc_310 (j := 20) rfl) rfl ci_1 rfl rfl ?_
      refine i_goto (pc' := 2) (f_at inc_310 (j := 21) rfl) (by decide) ?_
      exact hb1 ((s1.1 + (1 : Int32)), t2.2) ()
    · refine i_iconst (pc' := 33) (f_at inc_310 (j := 18) rfl) ci_0 rfl ?_
      refine s_rt (hr1 _) ?_
      exact i_iret (v := f_b false) (f_at inc_310 (j := 19) rfl) rfl n_bool
set_option maxRecDepth 4000 in
def g_311  (σ : f_M) : Option (Bool) :=
  (f_lp (fun (s1 : Int32 × Int32) =>
   if (σ 103 0) ≤ s1.2 then (
    some (.inr s1.1)
   ) else (
    (g_275 s1.2 σ).bind fun t2 =>
    some (.inl ((s1.1 + t2), (s1.2 + (1 : Int32))))
   )
  ) f_F ((0 : Int32), (0 : Int32))).bind fun (x1 : Int32) =>
  (
   if ¬ x1 = (σ 121 13) then (
    some false
   ) else (
    some true
   )
  ).bind fun (t4 : Bool) =>
  some t4
set_option maxRecDepth 4000 in
theorem G_311 {xs : Nat → Int32} {L N : Nat} (hN : 155 ≤ N)   (σ : f_M) : f_Cal a_MT xs L N 311 [.ref 102] σ ((g_311  σ).bind fun t => some (e_pb σ t)) := by
  refine f_cal_of (ls := [.ref 102, a_dead, a_dead]) MT_311 (Nat.le_of_ble_eq_true rfl) rfl ?_
  unfold g_311
  refine i_iconst (pc' := 1) (f_at inc_311 (j := 0) rfl) ci_0 rfl ?_
  refine i_istore_n (pc' := 2) (ls' := [.ref 102, .int (0 : Int32), a_dead]) (f_at inc_311 (j := 1) rfl) (Nat.le_of_ble_eq_true rfl) rfl rfl ?_
  refine i_iconst (pc' := 3) (f_at inc_311 (j := 2) rfl) ci_0 rfl ?_
  refine i_istore_n (pc' := 4) (ls' := [.ref 102, .int (0 : Int32), .int (0 : Int32)]) (f_at inc_311 (j := 3) rfl) (Nat.le_of_ble_eq_true rfl) rfl rfl ?_
  refine s_lX (X := 29) ((0 : Int32), (0 : Int32)) () (fun (s1 : Int32 × Int32) (u1 : Unit) => [.ref 102, .int s1.1, .int s1.2]) (fun (s1 : Int32 × Int32) => σ) (fun (x1 : Int32) (w1 : Value) => [.ref 102, .int x1, w1]) (fun (x1 : Int32) => σ) ?_ ?_
  · intro x1 w1
    refine i_iload_n (pc' := 30) (f_at inc_311 (j := 17) rfl) rfl rfl ?_
    refine i_aload_n (pc' := 31) (f_at inc_311 (j := 18) rfl) rfl rfl ?_
    refine i_getR (pc' := 34) (f_at inc_311 (j := 19) rfl) sh_102 rfl (f_lt (o := 102) (m := 155) (Nat.le_of_ble_eq_true rfl) hN) rfl ?_
    refine i_getI (pc' := 37) (f_at inc_311 (j := 20) rfl) sh_121 rfl (f_lt (o := 121) (m := 155) (Nat.le_of_ble_eq_true rfl) hN) rfl ?_
    refine s_join (J := 45) (fun (t4 : Bool) (u4 : Unit) => [.ref 102, .int x1, w1]) (fun t4 => [.int (f_b t4)]) (fun t4 => σ) ?_ ?_
    · intro t4 u4
      exact i_iret (v := f_b t4) (f_at inc_311 (j := 25) rfl) rfl n_bool
    · intro k4 hj4
      refine i_if2 (pc' := 44) (nx := 40) c2_ne (f_at inc_311 (j := 21) rfl) ⟨by decide, rfl⟩ (fun b5 => ?_) (fun b5 => ?_)
      · refine i_iconst (pc' := 45) (f_at inc_311 (j := 24) rfl) ci_0 rfl ?_
        exact hj4 false ()
      · refine i_iconst (pc' := 41) (f_at inc_311 (j := 22) rfl) ci_1 rfl ?_
        refine i_goto (pc' := 45) (f_at inc_311 (j := 23) rfl) (by decide) ?_
        exact hj4 true ()
  · intro s1 u1 k1 hb1 hx1
    refine i_iload_n (pc' := 5) (f_at inc_311 (j := 4) rfl) rfl rfl ?_
    refine i_aload_n (pc' := 6) (f_at inc_311 (j := 5) rfl) rfl rfl ?_
    refine i_getR (pc' := 9) (f_at inc_311 (j := 6) rfl) sh_102 rfl (f_lt (o := 102) (m := 155) (Nat.le_of_ble_eq_true rfl) hN) rfl ?_
    refine i_getI (pc' := 12) (f_at inc_311 (j := 7) rfl) sh_103 rfl (f_lt (o := 103) (m := 155) (Nat.le_of_ble_eq_true rfl) hN) rfl ?_
    refine i_if2 (pc' := 29) (nx := 15) c2_ge (f_at inc_311 (j := 8) rfl) ⟨by decide, rfl⟩ (fun b3 => ?_) (fun b3 => ?_)
    · exact hx1 s1.1 (.int s1.2)
    · refine i_iload_n (pc' := 16) (f_at inc_311 (j := 9) rfl) rfl rfl ?_
      refine i_aload_n (pc' := 17) (f_at inc_311 (j := 10) rfl) rfl rfl ?_
      refine i_iload_n (pc' := 18) (f_at inc_311 (j := 11) rfl) rfl rfl ?_
      refine c_pi (pc' := 21) (c' := 0) (n' := 0) (h_virt (ra := [.int s1.2, .ref 102]) (r := [.int s1.1]) (as := [.int s1.2]) (f_at inc_311 (j := 12) rfl) (by decide) MT_275 rfl rfl rfl ⟨Nat.le_of_ble_eq_true rfl, Nat.le_of_ble_eq_true rfl, Nat.le_of_ble_eq_true rfl⟩ sh_102 (f_lt (o := 102) (m := 155) (Nat.le_of_ble_eq_true rfl) hN)) MT_275 (G_275 hN s1.2 σ) ⟨rfl, rfl, rfl⟩ fun t2 => ?_
      refine i_iadd (pc' := 22) (f_at inc_311 (j := 13) rfl) rfl ?_
      refine i_istore_n (pc' := 23) (ls' := [.ref 102, .int (s1.1 + t2), .int s1.2]) (f_at inc_311 (j := 14) rfl) (Nat.le_of_ble_eq_true rfl) rfl rfl ?_
      refine i_iinc (pc' := 26) (ls' := [.ref 102, .int (s1.1 + t2), .int (s1.2 + (1 : Int32))]) (f_at inc_311 (j := 15) rfl) rfl ci_1 rfl rfl ?_
      refine i_goto (pc' := 4) (f_at inc_311 (j := 16) rfl) (by decide) ?_
      exact hb1 ((s1.1 + t2), (s1.2 + (1 : Int32))) ()
set_option maxRecDepth 4000 in
def g_312  (σ : f_M) : Option (Bool × f_M) :=
  (g_303  σ).bind fun t1 =>
  (
   if t1 = false then (
    some (false, σ)
   ) else (
    (g_304  σ).bind fun t3 =>
    if t3 = false then (
     some (false, σ)
    ) else (
     (g_305  σ).bind fun t4 =>
     if t4 = false then (
      some (false, σ)
     ) else (
      (g_310  σ).bind fun t5 =>
      if t5.1 = false then (
       some (false, t5.2)
      ) else (
       (g_311  t5.2).bind fun t6 =>
       if t6 = false then (
        some (false, t5.2)
       ) else (
        some (true, t5.2)
       )
      )
     )
    )
   )
  ).bind fun (t2 : Bool × f_M) =>
  some (t2.1, t2.2)
set_option maxRecDepth 4000 in
theorem G_312 {xs : Nat → Int32} {L N : Nat} (hN : 155 ≤ N)   (σ : f_M) : f_Cal a_MT xs L N 312 [.ref 42, .ref 102] σ ((g_312  σ).bind fun t => some (e_wb t)) := by
  refine f_cal_of (ls := [.ref 42, .ref 102]) MT_312 (Nat.le_of_ble_eq_true rfl) rfl ?_
  unfold g_312
  refine i_aload_n (pc' := 1) (f_at inc_312 (j := 0) rfl) rfl rfl ?_
  refine i_getR (pc' := 4) (f_at inc_312 (j := 1) rfl) sh_102 rfl (f_lt (o := 102) (m := 155) (Nat.le_of_ble_eq_true rfl) hN) rfl ?_
  refine i_aload_n (pc' := 5) (f_at inc_312 (j := 2) rfl) rfl rfl ?_
  refine i_getR (pc' := 8) (f_at inc_312 (j := 3) rfl) sh_102 rfl (f_lt (o := 102) (m := 155) (Nat.le_of_ble_eq_true rfl) hN) rfl ?_
  refine c_pb (pc' := 11) (c' := 0) (n' := 0) (h_stat (ra := [.ref 121, .ref 103]) (r := []) (as := [.ref 103, .ref 121]) (f_at inc_312 (j := 4) rfl) (by decide) MT_303 rfl rfl rfl ⟨Nat.le_of_ble_eq_true rfl, Nat.le_of_ble_eq_true rfl, Nat.le_of_ble_eq_true rfl⟩) MT_303 (G_303 hN  σ) ⟨rfl, rfl, rfl⟩ fun t1 => ?_
  refine s_join (J := 58) (fun (t2 : Bool × f_M) (u2 : Unit) => [.ref 42, .ref 102]) (fun t2 => [.int (f_b t2.1)]) (fun t2 => t2.2) ?_ ?_
  · intro t2 u2
    exact i_iret (v := f_b t2.1) (f_at inc_312 (j := 26) rfl) rfl n_bool
  · intro k2 hj2
    refine i_if0 (pc' := 57) (nx := 14) cb_eq (f_at inc_312 (j := 5) rfl) ⟨by decide, rfl⟩ (fun b11 => ?_) (fun b11 => ?_)
    · refine i_iconst (pc' := 58) (f_at inc_312 (j := 25) rfl) ci_0 rfl ?_
      exact hj2 (false, σ) ()
    · refine i_aload_n (pc' := 15) (f_at inc_312 (j := 6) rfl) rfl rfl ?_
      refine i_getR (pc' := 18) (f_at inc_312 (j := 7) rfl) sh_102 rfl (f_lt (o := 102) (m := 155) (Nat.le_of_ble_eq_true rfl) hN) rfl ?_
      refine c_pb (pc' := 21) (c' := 0) (n' := 0) (h_stat (ra := [.ref 121]) (r := []) (as := [.ref 121]) (f_at inc_312 (j := 8) rfl) (by decide) MT_304 rfl rfl rfl ⟨Nat.le_of_ble_eq_true rfl, Nat.le_of_ble_eq_true rfl, Nat.le_of_ble_eq_true rfl⟩) MT_304 (G_304 hN  σ) ⟨rfl, rfl, rfl⟩ fun t3 => ?_
      refine i_if0 (pc' := 57) (nx := 24) cb_eq (f_at inc_312 (j := 9) rfl) ⟨by decide, rfl⟩ (fun b10 => ?_) (fun b10 => ?_)
      · refine i_iconst (pc' := 58) (f_at inc_312 (j := 25) rfl) ci_0 rfl ?_
        exact hj2 (false, σ) ()
      · refine i_aload_n (pc' := 25) (f_at inc_312 (j := 10) rfl) rfl rfl ?_
        refine c_pb (pc' := 28) (c' := 0) (n' := 0) (h_stat (ra := [.ref 102]) (r := []) (as := [.ref 102]) (f_at inc_312 (j := 11) rfl) (by decide) MT_305 rfl rfl rfl ⟨Nat.le_of_ble_eq_true rfl, Nat.le_of_ble_eq_true rfl, Nat.le_of_ble_eq_true rfl⟩) MT_305 (G_305 hN  σ) ⟨rfl, rfl, rfl⟩ fun t4 => ?_
        refine i_if0 (pc' := 57) (nx := 31) cb_eq (f_at inc_312 (j := 12) rfl) ⟨by decide, rfl⟩ (fun b9 => ?_) (fun b9 => ?_)
        · refine i_iconst (pc' := 58) (f_at inc_312 (j := 25) rfl) ci_0 rfl ?_
          exact hj2 (false, σ) ()
        · refine i_aload_n (pc' := 32) (f_at inc_312 (j := 13) rfl) rfl rfl ?_
          refine i_aload_n (pc' := 33) (f_at inc_312 (j := 14) rfl) rfl rfl ?_
          refine i_getR (pc' := 36) (f_at inc_312 (j := 15) rfl) sh_102 rfl (f_lt (o := 102) (m := 155) (Nat.le_of_ble_eq_true rfl) hN) rfl ?_
          refine i_aload_n (pc' := 37) (f_at inc_312 (j := 16) rfl) rfl rfl ?_
          refine i_getR (pc' := 40) (f_at inc_312 (j := 17) rfl) sh_102 rfl (f_lt (o := 102) (m := 155) (Nat.le_of_ble_eq_true rfl) hN) rfl ?_
          refine c_wb (pc' := 43) (c' := 0) (n' := 0) (h_virt (ra := [.ref 121, .ref 108, .ref 42]) (r := []) (as := [.ref 108, .ref 121]) (f_at inc_312 (j := 18) rfl) (by decide) MT_310 rfl rfl rfl ⟨Nat.le_of_ble_eq_true rfl, Nat.le_of_ble_eq_true rfl, Nat.le_of_ble_eq_true rfl⟩ sh_42 (f_lt (o := 42) (m := 155) (Nat.le_of_ble_eq_true rfl) hN)) MT_310 (G_310 hN  σ) ⟨rfl, rfl, rfl⟩ fun t5 => ?_
          refine i_if0 (pc' := 57) (nx := 46) cb_eq (f_at inc_312 (j := 19) rfl) ⟨by decide, rfl⟩ (fun b8 => ?_) (fun b8 => ?_)
          · refine i_iconst (pc' := 58) (f_at inc_312 (j := 25) rfl) ci_0 rfl ?_
            exact hj2 (false, t5.2) ()
          · refine i_aload_n (pc' := 47) (f_at inc_312 (j := 20) rfl) rfl rfl ?_
            refine c_pb (pc' := 50) (c' := 0) (n' := 0) (h_stat (ra := [.ref 102]) (r := []) (as := [.ref 102]) (f_at inc_312 (j := 21) rfl) (by decide) MT_311 rfl rfl rfl ⟨Nat.le_of_ble_eq_true rfl, Nat.le_of_ble_eq_true rfl, Nat.le_of_ble_eq_true rfl⟩) MT_311 (G_311 hN  t5.2) ⟨rfl, rfl, rfl⟩ fun t6 => ?_
            refine i_if0 (pc' := 57) (nx := 53) cb_eq (f_at inc_312 (j := 22) rfl) ⟨by decide, rfl⟩ (fun b7 => ?_) (fun b7 => ?_)
            · refine i_iconst (pc' := 58) (f_at inc_312 (j := 25) rfl) ci_0 rfl ?_
              exact hj2 (false, t5.2) ()
            · refine i_iconst (pc' := 54) (f_at inc_312 (j := 23) rfl) ci_1 rfl ?_
              refine i_goto (pc' := 58) (f_at inc_312 (j := 24) rfl) (by decide) ?_
              exact hj2 (true, t5.2) ()
