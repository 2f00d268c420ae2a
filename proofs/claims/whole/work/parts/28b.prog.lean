/-! Flat programs. -/
set_option maxRecDepth 4000 in
def g_50 (a1 : Int32) (σ : f_M) : Option (Bool) :=
  (
   if (σ 155 10) ≤ a1 then (
    some false
   ) else (
    (f_rd σ 161 600 a1).bind fun v2 =>
    (g_46 (v2).toInt64 (48 : Int64) (57 : Int64) σ).bind fun t3 =>
    if t3 = false then (
     some false
    ) else (
     some true
    )
   )
  ).bind fun (t1 : Bool) =>
  some t1
set_option maxRecDepth 4000 in
theorem G_50 {xs : Nat → Int32} {L N : Nat} (hN : 166 ≤ N) (a1 : Int32)  (σ : f_M) : f_Cal a_MT xs L N 50 [.ref 155, .int a1] σ ((g_50 a1 σ).bind fun t => some (e_pb σ t)) := by
  refine f_cal_of (ls := [.ref 155, .int a1]) MT_50 (Nat.le_of_ble_eq_true rfl) rfl ?_
  unfold g_50
  refine i_iload_n (pc' := 1) (f_at inc_50 (j := 0) rfl) rfl rfl ?_
  refine i_aload_n (pc' := 2) (f_at inc_50 (j := 1) rfl) rfl rfl ?_
  refine i_getI (pc' := 5) (f_at inc_50 (j := 2) rfl) sh_155 rfl (f_lt (o := 155) (m := 166) (Nat.le_of_ble_eq_true rfl) hN) rfl ?_
  refine s_join (J := 32) (fun (t1 : Bool) (u1 : Unit) => [.ref 155, .int a1]) (fun t1 => [.int (f_b t1)]) (fun t1 => σ) ?_ ?_
  · intro t1 u1
    exact i_iret (v := f_b t1) (f_at inc_50 (j := 16) rfl) rfl n_bool
  · intro k1 hj1
    refine i_if2 (pc' := 31) (nx := 8) c2_ge (f_at inc_50 (j := 3) rfl) ⟨by decide, rfl⟩ (fun b5 => ?_) (fun b5 => ?_)
    · refine i_iconst (pc' := 32) (f_at inc_50 (j := 15) rfl) ci_0 rfl ?_
      exact hj1 false ()
    · refine i_aload_n (pc' := 9) (f_at inc_50 (j := 4) rfl) rfl rfl ?_
      refine i_getR (pc' := 12) (f_at inc_50 (j := 5) rfl) sh_155 rfl (f_lt (o := 155) (m := 166) (Nat.le_of_ble_eq_true rfl) hN) rfl ?_
      refine i_iload_n (pc' := 13) (f_at inc_50 (j := 6) rfl) rfl rfl ?_
      refine i_bald (pc' := 14) (f_at inc_50 (j := 7) rfl) sh_161 (Or.inl rfl) (f_bg (Nat.le_of_ble_eq_true rfl)) (f_lt (o := 161) (m := 166) (Nat.le_of_ble_eq_true rfl) hN) rfl fun v2 => ?_
      refine i_i2l (pc' := 15) (f_at inc_50 (j := 8) rfl) rfl ?_
      refine i_ldc2_w (pc' := 18) (f_at inc_50 (j := 9) rfl) cw_48 rfl ?_
      refine i_ldc2_w (pc' := 21) (f_at inc_50 (j := 10) rfl) cw_57 rfl ?_
      refine c_pb (pc' := 24) (c' := 0) (n' := 0) (h_stat (ra := [.long (57 : Int64), .long (48 : Int64), .long (v2).toInt64]) (r := []) (as := [.long (v2).toInt64, .long (48 : Int64), .long (57 : Int64)]) (f_at inc_50 (j := 11) rfl) (by decide) MT_46 rfl rfl rfl ⟨Nat.le_of_ble_eq_true rfl, Nat.le_of_ble_eq_true rfl, Nat.le_of_ble_eq_true rfl⟩) MT_46 (G_46 hN (v2).toInt64 (48 : Int64) (57 : Int64) σ) ⟨rfl, rfl, rfl⟩ fun t3 => ?_
      refine i_if0 (pc' := 31) (nx := 27) cb_eq (f_at inc_50 (j := 12) rfl) ⟨by decide, rfl⟩ (fun b4 => ?_) (fun b4 => ?_)
      · refine i_iconst (pc' := 32) (f_at inc_50 (j := 15) rfl) ci_0 rfl ?_
        exact hj1 false ()
      · refine i_iconst (pc' := 28) (f_at inc_50 (j := 13) rfl) ci_1 rfl ?_
        refine i_goto (pc' := 32) (f_at inc_50 (j := 14) rfl) (by decide) ?_
        exact hj1 true ()
set_option maxRecDepth 4000 in
def g_51  (σ : f_M) : Option (f_M) :=
  if (σ 155 17) ≤ 0 then (
   (f_lp (fun (s1 : f_M) =>
    if (s1 155 10) ≤ (s1 155 13) then (
     some (.inr s1)
    ) else (
     (f_rd s1 161 600 (s1 155 13)).bind fun v2 =>
     if v2 = (32 : Int32) then (
      some (.inl (f_up s1 155 13 ((s1 155 13) + (1 : Int32))))
     ) else (
      (f_rd s1 161 600 (s1 155 13)).bind fun v3 =>
      if ¬ v3 = (10 : Int32) then (
       some (.inr s1)
      ) else (
       some (.inl (f_up s1 155 13 ((s1 155 13) + (1 : Int32))))
      )
     )
    )
   ) f_F (f_up σ 155 13 (σ 155 14))).bind fun (x1 : f_M) =>
   (
    if ¬ ((f_up x1 155 14 (x1 155 13)) 155 13) = ((f_up x1 155 14 (x1 155 13)) 155 10) then (
     (g_49 ((f_up x1 155 14 (x1 155 13)) 155 13) (f_up x1 155 14 (x1 155 13))).bind fun t8 =>
     if t8 = false then (
      (g_50 ((f_up x1 155 14 (x1 155 13)) 155 13) (f_up x1 155 14 (x1 155 13))).bind fun t9 =>
      if t9 = false then (
       (f_rd (f_up x1 155 14 (x1 155 13)) 161 600 ((f_up x1 155 14 (x1 155 13)) 155 13)).bind fun v10 =>
       (
        if ¬ v10 = (59 : Int32) then (
         some (4 : Int32)
        ) else (
         some (3 : Int32)
        )
       ).bind fun (t11 : Int32) =>
       some (f_up (f_up (f_up x1 155 14 (x1 155 13)) 155 15 t11) 155 14 (((f_up (f_up x1 155 14 (x1 155 13)) 155 15 t11) 155 14) + (1 : Int32)))
      ) else (
       (f_lp (fun (s13 : f_M) =>
        (g_50 (s13 155 14) s13).bind fun t14 =>
        if t14 = false then (
         some (.inr s13)
        ) else (
         (
          if (4 : Int32) ≤ ((s13 155 14) - (s13 155 13)) then (
           some (s13 155 16)
          ) else (
           (f_rd s13 161 600 (s13 155 14)).bind fun v16 =>
           some ((((10 : Int32) * (s13 155 16)) + v16) - (48 : Int32))
          )
         ).bind fun (t15 : Int32) =>
         some (.inl (f_up (f_up s13 155 16 t15) 155 14 (((f_up s13 155 16 t15) 155 14) + (1 : Int32))))
        )
       ) f_F (f_up (f_up x1 155 14 (x1 155 13)) 155 16 (0 : Int32))).bind fun (x13 : f_M) =>
       (
        if ((x13 155 14) - (x13 155 13)) ≤ (4 : Int32) then (
         some (2 : Int32)
        ) else (
         some (4 : Int32)
        )
       ).bind fun (t19 : Int32) =>
       some (f_up x13 155 15 t19)
      )
     ) else (
      (f_lp (fun (s22 : f_M) =>
       (g_49 (s22 155 14) s22).bind fun t23 =>
       if t23 = false then (
        some (.inr s22)
       ) else (
        some (.inl (f_up s22 155 14 ((s22 155 14) + (1 : Int32))))
       )
      ) f_F (f_up x1 155 14 (x1 155 13))).bind fun (x22 : f_M) =>
      (
       if ((x22 155 14) - (x22 155 13)) ≤ (8 : Int32) then (
        some (1 : Int32)
       ) else (
        some (4 : Int32)
       )
      ).bind fun (t25 : Int32) =>
      some (f_up x22 155 15 t25)
     )
    ) else (
     some (f_up (f_up x1 155 14 (x1 155 13)) 155 15 (0 : Int32))
    )
   ).bind fun (t7 : f_M) =>
   some t7
  ) else (
   some σ
  )
set_option maxRecDepth 4000 in
theorem G_51 {xs : Nat → Int32} {L N : Nat} (hN : 166 ≤ N)   (σ : f_M) : f_Cal a_MT xs L N 51 [.ref 155] σ ((g_51  σ).bind fun t => some (e_wv t)) := by
  refine f_cal_of (ls := [.ref 155]) MT_51 (Nat.le_of_ble_eq_true rfl) rfl ?_
  unfold g_51
  refine i_aload_n (pc' := 1) (f_at inc_51 (j := 0) rfl) rfl rfl ?_
  refine i_getI (pc' := 4) (f_at inc_51 (j := 1) rfl) sh_155 rfl (f_lt (o := 155) (m := 166) (Nat.le_of_ble_eq_true rfl) hN) rfl ?_
  refine i_if0 (pc' := 8) (nx := 7) c0_le (f_at inc_51 (j := 2) rfl) ⟨by decide, rfl⟩ (fun b29 => ?_) (fun b29 => ?_)
  · refine i_aload_n (pc' := 9) (f_at inc_51 (j := 4) rfl) rfl rfl ?_
    refine i_aload_n (pc' := 10) (f_at inc_51 (j := 5) rfl) rfl rfl ?_
    refine i_getI (pc' := 13) (f_at inc_51 (j := 6) rfl) sh_155 rfl (f_lt (o := 155) (m := 166) (Nat.le_of_ble_eq_true rfl) hN) rfl ?_
    refine i_putI (pc' := 16) (f_at inc_51 (j := 7) rfl) sh_155 rfl ⟨rfl, rfl⟩ (f_lt (o := 155) (m := 166) (Nat.le_of_ble_eq_true rfl) hN) rfl ?_
    refine s_lX (X := 68) (f_up σ 155 13 (σ 155 14)) () (fun (s1 : f_M) (u1 : Unit) => [.ref 155]) (fun (s1 : f_M) => s1) (fun (x1 : f_M) (w1 : Unit) => [.ref 155]) (fun (x1 : f_M) => x1) ?_ ?_
    · intro x1 w1
      refine i_aload_n (pc' := 69) (f_at inc_51 (j := 34) rfl) rfl rfl ?_
      refine i_aload_n (pc' := 70) (f_at inc_51 (j := 35) rfl) rfl rfl ?_
      refine i_getI (pc' := 73) (f_at inc_51 (j := 36) rfl) sh_155 rfl (f_lt (o := 155) (m := 166) (Nat.le_of_ble_eq_true rfl) hN) rfl ?_
      refine i_putI (pc' := 76) (f_at inc_51 (j := 37) rfl) sh_155 rfl ⟨rfl, rfl⟩ (f_lt (o := 155) (m := 166) (Nat.le_of_ble_eq_true rfl) hN) rfl ?_
      refine i_aload_n (pc' := 77) (f_at inc_51 (j := 38) rfl) rfl rfl ?_
      refine i_getI (pc' := 80) (f_at inc_51 (j := 39) rfl) sh_155 rfl (f_lt (o := 155) (m := 166) (Nat.le_of_ble_eq_true rfl) hN) rfl ?_
      refine i_aload_n (pc' := 81) (f_at inc_51 (j := 40) rfl) rfl rfl ?_
      refine i_getI (pc' := 84) (f_at inc_51 (j := 41) rfl) sh_155 rfl (f_lt (o := 155) (m := 166) (Nat.le_of_ble_eq_true rfl) hN) rfl ?_
      refine s_join (J := 298) (fun (t7 : f_M) (u7 : Unit) => [.ref 155]) (fun t7 => []) (fun t7 => t7) ?_ ?_
      · intro t7 u7
        exact i_vret (f_at inc_51 (j := 152) rfl) rfl
      · intro k7 hj7
        refine i_if2 (pc' := 95) (nx := 87) c2_ne (f_at inc_51 (j := 42) rfl) ⟨by decide, rfl⟩ (fun b28 => ?_) (fun b28 => ?_)
        · refine i_aload_n (pc' := 96) (f_at inc_51 (j := 47) rfl) rfl rfl ?_
          refine i_aload_n (pc' := 97) (f_at inc_51 (j := 48) rfl) rfl rfl ?_
          refine i_getI (pc' := 100) (f_at inc_51 (j := 49) rfl) sh_155 rfl (f_lt (o := 155) (m := 166) (Nat.le_of_ble_eq_true rfl) hN) rfl ?_
          refine c_pb (pc' := 103) (c' := 0) (n' := 0) (h_virt (ra := [.int ((f_up x1 155 14 (x1 155 13)) 155 13), .ref 155]) (r := []) (as := [.int ((f_up x1 155 14 (x1 155 13)) 155 13)]) (f_at inc_51 (j := 50) rfl) (by decide) MT_49 rfl rfl rfl ⟨Nat.le_of_ble_eq_true rfl, Nat.le_of_ble_eq_true rfl, Nat.le_of_ble_eq_true rfl⟩ sh_155 (f_lt (o := 155) (m := 166) (Nat.le_of_ble_eq_true rfl) hN)) MT_49 (G_49 hN ((f_up x1 155 14 (x1 155 13)) 155 13) (f_up x1 155 14 (x1 155 13))) ⟨rfl, rfl, rfl⟩ fun t8 => ?_
          refine i_if0 (pc' := 156) (nx := 106) cb_eq (f_at inc_51 (j := 51) rfl) ⟨by decide, rfl⟩ (fun b27 => ?_) (fun b27 => ?_)
          · refine i_aload_n (pc' := 157) (f_at inc_51 (j := 77) rfl) rfl rfl ?_
            refine i_aload_n (pc' := 158) (f_at inc_51 (j := 78) rfl) rfl rfl ?_
            refine i_getI (pc' := 161) (f_at inc_51 (j := 79) rfl) sh_155 rfl (f_lt (o := 155) (m := 166) (Nat.le_of_ble_eq_true rfl) hN) rfl ?_
            refine c_pb (pc' := 164) (c' := 0) (n' := 0) (h_virt (ra := [.int ((f_up x1 155 14 (x1 155 13)) 155 13), .ref 155]) (r := []) (as := [.int ((f_up x1 155 14 (x1 155 13)) 155 13)]) (f_at inc_51 (j := 80) rfl) (by decide) MT_50 rfl rfl rfl ⟨Nat.le_of_ble_eq_true rfl, Nat.le_of_ble_eq_true rfl, Nat.le_of_ble_eq_true rfl⟩ sh_155 (f_lt (o := 155) (m := 166) (Nat.le_of_ble_eq_true rfl) hN)) MT_50 (G_50 hN ((f_up x1 155 14 (x1 155 13)) 155 13) (f_up x1 155 14 (x1 155 13))) ⟨rfl, rfl, rfl⟩ fun t9 => ?_
            refine i_if0 (pc' := 265) (nx := 167) cb_eq (f_at inc_51 (j := 81) rfl) ⟨by decide, rfl⟩ (fun b21 => ?_) (fun b21 => ?_)
            · refine i_aload_n (pc' := 266) (f_at inc_51 (j := 134) rfl) rfl rfl ?_
              refine i_aload_n (pc' := 267) (f_at inc_51 (j := 135) rfl) rfl rfl ?_
              refine i_getR (pc' := 270) (f_at inc_51 (j := 136) rfl) sh_155 rfl (f_lt (o := 155) (m := 166) (Nat.le_of_ble_eq_true rfl) hN) rfl ?_
              refine i_aload_n (pc' := 271) (f_at inc_51 (j := 137) rfl) rfl rfl ?_
              refine i_getI (pc' := 274) (f_at inc_51 (j := 138) rfl) sh_155 rfl (f_lt (o := 155) (m := 166) (Nat.le_of_ble_eq_true rfl) hN) rfl ?_
              refine i_bald (pc' := 275) (f_at inc_51 (j := 139) rfl) sh_161 (Or.inl rfl) (f_bg (Nat.le_of_ble_eq_true rfl)) (f_lt (o := 161) (m := 166) (Nat.le_of_ble_eq_true rfl) hN) rfl fun v10 => ?_
              refine i_bipush (pc' := 277) (f_at inc_51 (j := 140) rfl) cb_59 rfl ?_
              refine s_join (J := 285) (fun (t11 : Int32) (u11 : Unit) => [.ref 155]) (fun t11 => [.int t11, .ref 155]) (fun t11 => (f_up x1 155 14 (x1 155 13))) ?_ ?_
              · intro t11 u11
                refine i_putI (pc' := 288) (f_at inc_51 (j := 145) rfl) sh_155 rfl ⟨rfl, rfl⟩ (f_lt (o := 155) (m := 166) (Nat.le_of_ble_eq_true rfl) hN) rfl ?_
                refine i_aload_n (pc' := 289) (f_at inc_51 (j := 146) rfl) rfl rfl ?_
                refine i_dup (pc' := 290) (f_at inc_51 (j := 147) rfl) rfl rfl ?_
                refine i_getI (pc' := 293) (f_at inc_51 (j := 148) rfl) sh_155 rfl (f_lt (o := 155) (m := 166) (Nat.le_of_ble_eq_true rfl) hN) rfl ?_
                refine i_iconst (pc' := 294) (f_at inc_51 (j := 149) rfl) ci_1 rfl ?_
                refine i_iadd (pc' := 295) (f_at inc_51 (j := 150) rfl) rfl ?_
                refine i_putI (pc' := 298) (f_at inc_51 (j := 151) rfl) sh_155 rfl ⟨rfl, rfl⟩ (f_lt (o := 155) (m := 166) (Nat.le_of_ble_eq_true rfl) hN) rfl ?_
                exact hj7 (f_up (f_up (f_up x1 155 14 (x1 155 13)) 155 15 t11) 155 14 (((f_up (f_up x1 155 14 (x1 155 13)) 155 15 t11) 155 14) + (1 : Int32))) ()
              · intro k11 hj11
                refine i_if2 (pc' := 284) (nx := 280) c2_ne (f_at inc_51 (j := 141) rfl) ⟨by decide, rfl⟩ (fun b12 => ?_) (fun b12 => ?_)
                · refine i_iconst (pc' := 285) (f_at inc_51 (j := 144) rfl) ci_4 rfl ?_
                  exact hj11 (4 : Int32) ()
                · refine i_iconst (pc' := 281) (f_at inc_51 (j := 142) rfl) ci_3 rfl ?_
                  refine i_goto (pc' := 285) (f_at inc_51 (j := 143) rfl) (by decide) ?_
                  exact hj11 (3 : Int32) ()
            · refine i_aload_n (pc' := 168) (f_at inc_51 (j := 82) rfl) rfl rfl ?_
              refine i_iconst (pc' := 169) (f_at inc_51 (j := 83) rfl) ci_0 rfl ?_
              refine i_putI (pc' := 172) (f_at inc_51 (j := 84) rfl) sh_155 rfl ⟨rfl, rfl⟩ (f_lt (o := 155) (m := 166) (Nat.le_of_ble_eq_true rfl) hN) rfl ?_
              refine s_lX (X := 240) (f_up (f_up x1 155 14 (x1 155 13)) 155 16 (0 : Int32)) () (fun (s13 : f_M) (u13 : Unit) => [.ref 155]) (fun (s13 : f_M) => s13) (fun (x13 : f_M) (w13 : Unit) => [.ref 155]) (fun (x13 : f_M) => x13) ?_ ?_
              · intro x13 w13
                refine i_aload_n (pc' := 241) (f_at inc_51 (j := 121) rfl) rfl rfl ?_
                refine i_aload_n (pc' := 242) (f_at inc_51 (j := 122) rfl) rfl rfl ?_
                refine i_getI (pc' := 245) (f_at inc_51 (j := 123) rfl) sh_155 rfl (f_lt (o := 155) (m := 166) (Nat.le_of_ble_eq_true rfl) hN) rfl ?_
                refine i_aload_n (pc' := 246) (f_at inc_51 (j := 124) rfl) rfl rfl ?_
                refine i_getI (pc' := 249) (f_at inc_51 (j := 125) rfl) sh_155 rfl (f_lt (o := 155) (m := 166) (Nat.le_of_ble_eq_true rfl) hN) rfl ?_
                refine i_isub (pc' := 250) (f_at inc_51 (j := 126) rfl) rfl ?_
                refine i_iconst (pc' := 251) (f_at inc_51 (j := 127) rfl) ci_4 rfl ?_
                refine s_join (J := 259) (fun (t19 : Int32) (u19 : Unit) => [.ref 155]) (fun t19 => [.int t19, .ref 155]) (fun t19 => x13) ?_ ?_
                · intro t19 u19
                  refine i_putI (pc' := 262) (f_at inc_51 (j := 132) rfl) sh_155 rfl ⟨rfl, rfl⟩ (f_lt (o := 155) (m := 166) (Nat.le_of_ble_eq_true rfl) hN) rfl ?_
                  refine i_goto (pc' := 298) (f_at inc_51 (j := 133) rfl) (by decide) ?_
                  exact hj7 (f_up x13 155 15 t19) ()
                · intro k19 hj19
                  refine i_if2 (pc' := 258) (nx := 254) c2_le (f_at inc_51 (j := 128) rfl) ⟨by decide, rfl⟩ (fun b20 => ?_) (fun b20 => ?_)
                  · refine i_iconst (pc' := 259) (f_at inc_51 (j := 131) rfl) ci_2 rfl ?_
                    exact hj19 (2 : Int32) ()
                  · refine i_iconst (pc' := 255) (f_at inc_51 (j := 129) rfl) ci_4 rfl ?_
                    refine i_goto (pc' := 259) (f_at inc_51 (j := 130) rfl) (by decide) ?_
                    exact hj19 (4 : Int32) ()
              · intro s13 u13 k13 hb13 hx13
                refine i_aload_n (pc' := 173) (f_at inc_51 (j := 85) rfl) rfl rfl ?_
                refine i_aload_n (pc' := 174) (f_at inc_51 (j := 86) rfl) rfl rfl ?_
                refine i_getI (pc' := 177) (f_at inc_51 (j := 87) rfl) sh_155 rfl (f_lt (o := 155) (m := 166) (Nat.le_of_ble_eq_true rfl) hN) rfl ?_
                refine c_pb (pc' := 180) (c' := 0) (n' := 0) (h_virt (ra := [.int (s13 155 14), .ref 155]) (r := []) (as := [.int (s13 155 14)]) (f_at inc_51 (j := 88) rfl) (by decide) MT_50 rfl rfl rfl ⟨Nat.le_of_ble_eq_true rfl, Nat.le_of_ble_eq_true rfl, Nat.le_of_ble_eq_true rfl⟩ sh_155 (f_lt (o := 155) (m := 166) (Nat.le_of_ble_eq_true rfl) hN)) MT_50 (G_50 hN (s13 155 14) s13) ⟨rfl, rfl, rfl⟩ fun t14 => ?_
                refine i_if0 (pc' := 240) (nx := 183) cb_eq (f_at inc_51 (j := 89) rfl) ⟨by decide, rfl⟩ (fun b18 => ?_) (fun b18 => ?_)
                · exact hx13 s13 ()
                · refine i_aload_n (pc' := 184) (f_at inc_51 (j := 90) rfl) rfl rfl ?_
                  refine i_aload_n (pc' := 185) (f_at inc_51 (j := 91) rfl) rfl rfl ?_
                  refine i_getI (pc' := 188) (f_at inc_51 (j := 92) rfl) sh_155 rfl (f_lt (o := 155) (m := 166) (Nat.le_of_ble_eq_true rfl) hN) rfl ?_
                  refine i_aload_n (pc' := 189) (f_at inc_51 (j := 93) rfl) rfl rfl ?_
                  refine i_getI (pc' := 192) (f_at inc_51 (j := 94) rfl) sh_155 rfl (f_lt (o := 155) (m := 166) (Nat.le_of_ble_eq_true rfl) hN) rfl ?_
                  refine i_isub (pc' := 193) (f_at inc_51 (j := 95) rfl) rfl ?_
                  refine i_iconst (pc' := 194) (f_at inc_51 (j := 96) rfl) ci_4 rfl ?_
                  refine s_join (J := 224) (fun (t15 : Int32) (u15 : Unit) => [.ref 155]) (fun t15 => [.int t15, .ref 155]) (fun t15 => s13) ?_ ?_
                  · intro t15 u15
                    refine i_putI (pc' := 227) (f_at inc_51 (j := 113) rfl) sh_155 rfl ⟨rfl, rfl⟩ (f_lt (o := 155) (m := 166) (Nat.le_of_ble_eq_true rfl) hN) rfl ?_
                    refine i_aload_n (pc' := 228) (f_at inc_51 (j := 114) rfl) rfl rfl ?_
                    refine i_dup (pc' := 229) (f_at inc_51 (j := 115) rfl) rfl rfl ?_
                    refine i_getI (pc' := 232) (f_at inc_51 (j := 116) rfl) sh_155 rfl (f_lt (o := 155) (m := 166) (Nat.le_of_ble_eq_true rfl) hN) rfl ?_
                    refine i_iconst (pc' := 233) (f_at inc_51 (j := 117) rfl) ci_1 rfl ?_
                    refine i_iadd (pc' := 234) (f_at inc_51 (j := 118) rfl) rfl ?_
                    refine i_putI (pc' := 237) (f_at inc_51 (j := 119) rfl) sh_155 rfl ⟨rfl, rfl⟩ (f_lt (o := 155) (m := 166) (Nat.le_of_ble_eq_true rfl) hN) rfl ?_
                    refine i_goto (pc' := 172) (f_at inc_51 (j := 120) rfl) (by decide) ?_
                    exact hb13 (f_up (f_up s13 155 16 t15) 155 14 (((f_up s13 155 16 t15) 155 14) + (1 : Int32))) ()
                  · intro k15 hj15
                    refine i_if2 (pc' := 220) (nx := 197) c2_ge (f_at inc_51 (j := 97) rfl) ⟨by decide, rfl⟩ (fun b17 => ?_) (fun b17 => ?_)
                    · refine i_aload_n (pc' := 221) (f_at inc_51 (j := 111) rfl) rfl rfl ?_
                      refine i_getI (pc' := 224) (f_at inc_51 (j := 112) rfl) sh_155 rfl (f_lt (o := 155) (m := 166) (Nat.le_of_ble_eq_true rfl) hN) rfl ?_
                      exact hj15 (s13 155 16) ()
                    · refine i_bipush (pc' := 199) (f_at inc_51 (j := 98) rfl) cb_10 rfl ?_
                      refine i_aload_n (pc' := 200) (f_at inc_51 (j := 99) rfl) rfl rfl ?_
                      refine i_getI (pc' := 203) (f_at inc_51 (j := 100) rfl) sh_155 rfl (f_lt (o := 155) (m := 166) (Nat.le_of_ble_eq_true rfl) hN) rfl ?_
                      refine i_imul (pc' := 204) (f_at inc_51 (j := 101) rfl) rfl ?_
                      refine i_aload_n (pc' := 205) (f_at inc_51 (j := 102) rfl) rfl rfl ?_
                      refine i_getR (pc' := 208) (f_at inc_51 (j := 103) rfl) sh_155 rfl (f_lt (o := 155) (m := 166) (Nat.le_of_ble_eq_true rfl) hN) rfl ?_
                      refine i_aload_n (pc' := 209) (f_at inc_51 (j := 104) rfl) rfl rfl ?_
                      refine i_getI (pc' := 212) (f_at inc_51 (j := 105) rfl) sh_155 rfl (f_lt (o := 155) (m := 166) (Nat.le_of_ble_eq_true rfl) hN) rfl ?_
                      refine i_bald (pc' := 213) (f_at inc_51 (j := 106) rfl) sh_161 (Or.inl rfl) (f_bg (Nat.le_of_ble_eq_true rfl)) (f_lt (o := 161) (m := 166) (Nat.le_of_ble_eq_true rfl) hN) rfl fun v16 => ?_
                      refine i_iadd (pc' := 214) (f_at inc_51 (j := 107) rfl) rfl ?_
                      refine i_bipush (pc' := 216) (f_at inc_51 (j := 108) rfl) cb_48 rfl ?_
                      refine i_isub (pc' := 217) (f_at inc_51 (j := 109) rfl) rfl ?_
                      refine i_goto (pc' := 224) (f_at inc_51 (j := 110) rfl) (by decide) ?_
                      exact hj15 ((((10 : Int32) * (s13 155 16)) + v16) - (48 : Int32)) ()
          · refine s_lX (X := 130) (f_up x1 155 14 (x1 155 13)) () (fun (s22 : f_M) (u22 : Unit) => [.ref 155]) (fun (s22 : f_M) => s22) (fun (x22 : f_M) (w22 : Unit) => [.ref 155]) (fun (x22 : f_M) => x22) ?_ ?_
            · intro x22 w22
              refine i_aload_n (pc' := 131) (f_at inc_51 (j := 64) rfl) rfl rfl ?_
              refine i_aload_n (pc' := 132) (f_at inc_51 (j := 65) rfl) rfl rfl ?_
              refine i_getI (pc' := 135) (f_at inc_51 (j := 66) rfl) sh_155 rfl (f_lt (o := 155) (m := 166) (Nat.le_of_ble_eq_true rfl) hN) rfl ?_
              refine i_aload_n (pc' := 136) (f_at inc_51 (j := 67) rfl) rfl rfl ?_
              refine i_getI (pc' := 139) (f_at inc_51 (j := 68) rfl) sh_155 rfl (f_lt (o := 155) (m := 166) (Nat.le_of_ble_eq_true rfl) hN) rfl ?_
              refine i_isub (pc' := 140) (f_at inc_51 (j := 69) rfl) rfl ?_
              refine i_bipush (pc' := 142) (f_at inc_51 (j := 70) rfl) cb_8 rfl ?_
              refine s_join (J := 150) (fun (t25 : Int32) (u25 : Unit) => [.ref 155]) (fun t25 => [.int t25, .ref 155]) (fun t25 => x22) ?_ ?_
              · intro t25 u25
                refine i_putI (pc' := 153) (f_at inc_51 (j := 75) rfl) sh_155 rfl ⟨rfl, rfl⟩ (f_lt (o := 155) (m := 166) (Nat.le_of_ble_eq_true rfl) hN) rfl ?_
                refine i_goto (pc' := 298) (f_at inc_51 (j := 76) rfl) (by decide) ?_
                exact hj7 (f_up x22 155 15 t25) ()
              · intro k25 hj25
                refine i_if2 (pc' := 149) (nx := 145) c2_le (f_at inc_51 (j := 71) rfl) ⟨by decide, rfl⟩ (fun b26 => ?_) (fun b26 => ?_)
                · refine i_iconst (pc' := 150) (f_at inc_51 (j := 74) rfl) ci_1 rfl ?_
                  exact hj25 (1 : Int32) ()
                · refine i_iconst (pc' := 146) (f_at inc_51 (j := 72) rfl) ci_4 rfl ?_
                  refine i_goto (pc' := 150) (f_at inc_51 (j := 73) rfl) (by decide) ?_
                  exact hj25 (4 : Int32) ()
            · intro s22 u22 k22 hb22 hx22
              refine i_aload_n (pc' := 107) (f_at inc_51 (j := 52) rfl) rfl rfl ?_
              refine i_aload_n (pc' := 108) (f_at inc_51 (j := 53) rfl) rfl rfl ?_
              refine i_getI (pc' := 111) (f_at inc_51 (j := 54) rfl) sh_155 rfl (f_lt (o := 155) (m := 166) (Nat.le_of_ble_eq_true rfl) hN) rfl ?_
              refine c_pb (pc' := 114) (c' := 0) (n' := 0) (h_virt (ra := [.int (s22 155 14), .ref 155]) (r := []) (as := [.int (s22 155 14)]) (f_at inc_51 (j := 55) rfl) (by decide) MT_49 rfl rfl rfl ⟨Nat.le_of_ble_eq_true rfl, Nat.le_of_ble_eq_true rfl, Nat.le_of_ble_eq_true rfl⟩ sh_155 (f_lt (o := 155) (m := 166) (Nat.le_of_ble_eq_true rfl) hN)) MT_49 (G_49 hN (s22 155 14) s22) ⟨rfl, rfl, rfl⟩ fun t23 => ?_
              refine i_if0 (pc' := 130) (nx := 117) cb_eq (f_at inc_51 (j := 56) rfl) ⟨by decide, rfl⟩ (fun b24 => ?_) (fun b24 => ?_)
              · exact hx22 s22 ()
              · refine i_aload_n (pc' := 118) (f_at inc_51 (j := 57) rfl) rfl rfl ?_
                refine i_dup (pc' := 119) (f_at inc_51 (j := 58) rfl) rfl rfl ?_
                refine i_getI (pc' := 122) (f_at inc_51 (j := 59) rfl) sh_155 rfl (f_lt (o := 155) (m := 166) (Nat.le_of_ble_eq_true rfl) hN) rfl ?_
                refine i_iconst (pc' := 123) (f_at inc_51 (j := 60) rfl) ci_1 rfl ?_
                refine i_iadd (pc' := 124) (f_at inc_51 (j := 61) rfl) rfl ?_
                refine i_putI (pc' := 127) (f_at inc_51 (j := 62) rfl) sh_155 rfl ⟨rfl, rfl⟩ (f_lt (o := 155) (m := 166) (Nat.le_of_ble_eq_true rfl) hN) rfl ?_
                refine i_goto (pc' := 106) (f_at inc_51 (j := 63) rfl) (by decide) ?_
                exact hb22 (f_up s22 155 14 ((s22 155 14) + (1 : Int32))) ()
        · refine i_aload_n (pc' := 88) (f_at inc_51 (j := 43) rfl) rfl rfl ?_
          refine i_iconst (pc' := 89) (f_at inc_51 (j := 44) rfl) ci_0 rfl ?_
          refine i_putI (pc' := 92) (f_at inc_51 (j := 45) rfl) sh_155 rfl ⟨rfl, rfl⟩ (f_lt (o := 155) (m := 166) (Nat.le_of_ble_eq_true rfl) hN) rfl ?_
          refine i_goto (pc' := 298) (f_at inc_51 (j := 46) rfl) (by decide) ?_
          exact hj7 (f_up (f_up x1 155 14 (x1 155 13)) 155 15 (0 : Int32)) ()
    · intro s1 u1 k1 hb1 hx1
      refine i_aload_n (pc' := 17) (f_at inc_51 (j := 8) rfl) rfl rfl ?_
      refine i_getI (pc' := 20) (f_at inc_51 (j := 9) rfl) sh_155 rfl (f_lt (o := 155) (m := 166) (Nat.le_of_ble_eq_true rfl) hN) rfl ?_
      refine i_aload_n (pc' := 21) (f_at inc_51 (j := 10) rfl) rfl rfl ?_
      refine i_getI (pc' := 24) (f_at inc_51 (j := 11) rfl) sh_155 rfl (f_lt (o := 155) (m := 166) (Nat.le_of_ble_eq_true rfl) hN) rfl ?_
      refine i_if2 (pc' := 68) (nx := 27) c2_ge (f_at inc_51 (j := 12) rfl) ⟨by decide, rfl⟩ (fun b6 => ?_) (fun b6 => ?_)
      · exact hx1 s1 ()
      · refine i_aload_n (pc' := 28) (f_at inc_51 (j := 13) rfl) rfl rfl ?_
        refine i_getR (pc' := 31) (f_at inc_51 (j := 14) rfl) sh_155 rfl (f_lt (o := 155) (m := 166) (Nat.le_of_ble_eq_true rfl) hN) rfl ?_
        refine i_aload_n (pc' := 32) (f_at inc_51 (j := 15) rfl) rfl rfl ?_
        refine i_getI (pc' := 35) (f_at inc_51 (j := 16) rfl) sh_155 rfl (f_lt (o := 155) (m := 166) (Nat.le_of_ble_eq_true rfl) hN) rfl ?_
        refine i_bald (pc' := 36) (f_at inc_51 (j := 17) rfl) sh_161 (Or.inl rfl) (f_bg (Nat.le_of_ble_eq_true rfl)) (f_lt (o := 161) (m := 166) (Nat.le_of_ble_eq_true rfl) hN) rfl fun v2 => ?_
        refine i_bipush (pc' := 38) (f_at inc_51 (j := 18) rfl) cb_32 rfl ?_
        refine i_if2 (pc' := 55) (nx := 41) c2_eq (f_at inc_51 (j := 19) rfl) ⟨by decide, rfl⟩ (fun b5 => ?_) (fun b5 => ?_)
        · refine i_aload_n (pc' := 56) (f_at inc_51 (j := 27) rfl) rfl rfl ?_
          refine i_dup (pc' := 57) (f_at inc_51 (j := 28) rfl) rfl rfl ?_
          refine i_getI (pc' := 60) (f_at inc_51 (j := 29) rfl) sh_155 rfl (f_lt (o := 155) (m := 166) (Nat.le_of_ble_eq_true rfl) hN) rfl ?_
          refine i_iconst (pc' := 61) (f_at inc_51 (j := 30) rfl) ci_1 rfl ?_
          refine i_iadd (pc' := 62) (f_at inc_51 (j := 31) rfl) rfl ?_
          refine i_putI (pc' := 65) (f_at inc_51 (j := 32) rfl) sh_155 rfl ⟨rfl, rfl⟩ (f_lt (o := 155) (m := 166) (Nat.le_of_ble_eq_true rfl) hN) rfl ?_
          refine i_goto (pc' := 16) (f_at inc_51 (j := 33) rfl) (by decide) ?_
          exact hb1 (f_up s1 155 13 ((s1 155 13) + (1 : Int32))) ()
        · refine i_aload_n (pc' := 42) (f_at inc_51 (j := 20) rfl) rfl rfl ?_
          refine i_getR (pc' := 45) (f_at inc_51 (j := 21) rfl) sh_155 rfl (f_lt (o := 155) (m := 166) (Nat.le_of_ble_eq_true rfl) hN) rfl ?_
          refine i_aload_n (pc' := 46) (f_at inc_51 (j := 22) rfl) rfl rfl ?_
          refine i_getI (pc' := 49) (f_at inc_51 (j := 23) rfl) sh_155 rfl (f_lt (o := 155) (m := 166) (Nat.le_of_ble_eq_true rfl) hN) rfl ?_
          refine i_bald (pc' := 50) (f_at inc_51 (j := 24) rfl) sh_161 (Or.inl rfl) (f_bg (Nat.le_of_ble_eq_true rfl)) (f_lt (o := 161) (m := 166) (Nat.le_of_ble_eq_true rfl) hN) rfl fun v3 => ?_
          refine i_bipush (pc' := 52) (f_at inc_51 (j := 25) rfl) cb_10 rfl ?_
          refine i_if2 (pc' := 68) (nx := 55) c2_ne (f_at inc_51 (j := 26) rfl) ⟨by decide, rfl⟩ (fun b4 => ?_) (fun b4 => ?_)
          · exact hx1 s1 ()
          · refine i_aload_n (pc' := 56) (f_at inc_51 (j := 27) rfl) rfl rfl ?_
            refine i_dup (pc' := 57) (f_at inc_51 (j := 28) rfl) rfl rfl ?_
            refine i_getI (pc' := 60) (f_at inc_51 (j := 29) rfl) sh_155 rfl (f_lt (o := 155) (m := 166) (Nat.le_of_ble_eq_true rfl) hN) rfl ?_
            refine i_iconst (pc' := 61) (f_at inc_51 (j := 30) rfl) ci_1 rfl ?_
            refine i_iadd (pc' := 62) (f_at inc_51 (j := 31) rfl) rfl ?_
            refine i_putI (pc' := 65) (f_at inc_51 (j := 32) rfl) sh_155 rfl ⟨rfl, rfl⟩ (f_lt (o := 155) (m := 166) (Nat.le_of_ble_eq_true rfl) hN) rfl ?_
            refine i_goto (pc' := 16) (f_at inc_51 (j := 33) rfl) (by decide) ?_
            exact hb1 (f_up s1 155 13 ((s1 155 13) + (1 : Int32))) ()
  · exact i_vret (f_at inc_51 (j := 3) rfl) rfl
set_option maxRecDepth 4000 in
def g_52  (σ : f_M) : Option (f_M) :=
  (g_51  (f_up (f_up σ 155 17 (0 : Int32)) 155 14 (0 : Int32))).bind fun t1 =>
  some t1
set_option maxRecDepth 4000 in
theorem G_52 {xs : Nat → Int32} {L N : Nat} (hN : 166 ≤ N)   (σ : f_M) : f_Cal a_MT xs L N 52 [.ref 155] σ ((g_52  σ).bind fun t => some (e_wv t)) := by
  refine f_cal_of (ls := [.ref 155]) MT_52 (Nat.le_of_ble_eq_true rfl) rfl ?_
  unfold g_52
  refine i_aload_n (pc' := 1) (f_at inc_52 (j := 0) rfl) rfl rfl ?_
  refine i_iconst (pc' := 2) (f_at inc_52 (j := 1) rfl) ci_0 rfl ?_
  refine i_putI (pc' := 5) (f_at inc_52 (j := 2) rfl) sh_155 rfl ⟨rfl, rfl⟩ (f_lt (o := 155) (m := 166) (Nat.le_of_ble_eq_true rfl) hN) rfl ?_
  refine i_aload_n (pc' := 6) (f_at inc_52 (j := 3) rfl) rfl rfl ?_
  refine i_iconst (pc' := 7) (f_at inc_52 (j := 4) rfl) ci_0 rfl ?_
  refine i_putI (pc' := 10) (f_at inc_52 (j := 5) rfl) sh_155 rfl ⟨rfl, rfl⟩ (f_lt (o := 155) (m := 166) (Nat.le_of_ble_eq_true rfl) hN) rfl ?_
  refine i_aload_n (pc' := 11) (f_at inc_52 (j := 6) rfl) rfl rfl ?_
  refine c_wv (pc' := 14) (c' := 0) (n' := 0) (h_virt (ra := [.ref 155]) (r := []) (as := []) (f_at inc_52 (j := 7) rfl) (by decide) MT_51 rfl rfl rfl ⟨Nat.le_of_ble_eq_true rfl, Nat.le_of_ble_eq_true rfl, Nat.le_of_ble_eq_true rfl⟩ sh_155 (f_lt (o := 155) (m := 166) (Nat.le_of_ble_eq_true rfl) hN)) MT_51 (G_51 hN  (f_up (f_up σ 155 17 (0 : Int32)) 155 14 (0 : Int32))) ⟨rfl, rfl, rfl⟩ fun t1 => ?_
  exact i_vret (f_at inc_52 (j := 8) rfl) rfl
set_option maxRecDepth 4000 in
def g_53 (a1 : Nat) (σ : f_M) : Option (Bool) :=
  if 0 < (σ 155 17) then (
   some false
  ) else (
   if ¬ (σ 155 15) = (1 : Int32) then (
    some false
   ) else (
    if ((σ 155 14) - (σ 155 13)) = (f_sl a1) then (
     (f_lp (fun (s1 : Int32) =>
      if (f_sl a1) ≤ s1 then (
       some (.inr true)
      ) else (
       (f_rd σ 161 600 ((σ 155 13) + s1)).bind fun v2 =>
       (f_ch a1 s1).bind fun v3 =>
       if v2 = v3 then (
        some (.inl (s1 + (1 : Int32)))
       ) else (
        some (.inr false)
       )
      )
     ) f_F (0 : Int32)).bind fun (r1 : Bool) => some r1
    ) else (
     some false
    )
   )
  )
set_option maxRecDepth 4000 in
theorem G_53 {xs : Nat → Int32} {L N : Nat} (hN : 166 ≤ N) (a1 : Nat) (ha1 : a1 < 11) (σ : f_M) : f_Cal a_MT xs L N 53 [.ref 155, .ref (a_big + 1 + a1)] σ ((g_53 a1 σ).bind fun t => some (e_pb σ t)) := by
  refine f_cal_of (ls := [.ref 155, .ref (a_big + 1 + a1), a_dead]) MT_53 (Nat.le_of_ble_eq_true rfl) rfl ?_
  unfold g_53
  refine i_aload_n (pc' := 1) (f_at inc_53 (j := 0) rfl) rfl rfl ?_
  refine i_getI (pc' := 4) (f_at inc_53 (j := 1) rfl) sh_155 rfl (f_lt (o := 155) (m := 166) (Nat.le_of_ble_eq_true rfl) hN) rfl ?_
  refine i_if0 (pc' := 31) (nx := 7) c0_gt (f_at inc_53 (j := 2) rfl) ⟨by decide, rfl⟩ (fun b8 => ?_) (fun b8 => ?_)
  · refine i_iconst (pc' := 32) (f_at inc_53 (j := 15) rfl) ci_0 rfl ?_
    exact i_iret (v := f_b false) (f_at inc_53 (j := 16) rfl) rfl n_bool
  · refine i_aload_n (pc' := 8) (f_at inc_53 (j := 3) rfl) rfl rfl ?_
    refine i_getI (pc' := 11) (f_at inc_53 (j := 4) rfl) sh_155 rfl (f_lt (o := 155) (m := 166) (Nat.le_of_ble_eq_true rfl) hN) rfl ?_
    refine i_iconst (pc' := 12) (f_at inc_53 (j := 5) rfl) ci_1 rfl ?_
    refine i_if2 (pc' := 31) (nx := 15) c2_ne (f_at inc_53 (j := 6) rfl) ⟨by decide, rfl⟩ (fun b7 => ?_) (fun b7 => ?_)
    · refine i_iconst (pc' := 32) (f_at inc_53 (j := 15) rfl) ci_0 rfl ?_
      exact i_iret (v := f_b false) (f_at inc_53 (j := 16) rfl) rfl n_bool
    · refine i_aload_n (pc' := 16) (f_at inc_53 (j := 7) rfl) rfl rfl ?_
      refine i_getI (pc' := 19) (f_at inc_53 (j := 8) rfl) sh_155 rfl (f_lt (o := 155) (m := 166) (Nat.le_of_ble_eq_true rfl) hN) rfl ?_
      refine i_aload_n (pc' := 20) (f_at inc_53 (j := 9) rfl) rfl rfl ?_
      refine i_getI (pc' := 23) (f_at inc_53 (j := 10) rfl) sh_155 rfl (f_lt (o := 155) (m := 166) (Nat.le_of_ble_eq_true rfl) hN) rfl ?_
      refine i_isub (pc' := 24) (f_at inc_53 (j := 11) rfl) rfl ?_
      refine i_aload_n (pc' := 25) (f_at inc_53 (j := 12) rfl) rfl rfl ?_
      refine i_slen (pc' := 28) (f_at inc_53 (j := 13) rfl) ha1 (Nat.le_of_ble_eq_true rfl) rfl ?_
      refine i_if2 (pc' := 33) (nx := 31) c2_eq (f_at inc_53 (j := 14) rfl) ⟨by decide, rfl⟩ (fun b6 => ?_) (fun b6 => ?_)
      · refine i_iconst (pc' := 34) (f_at inc_53 (j := 17) rfl) ci_0 rfl ?_
        refine i_istore_n (pc' := 35) (ls' := [.ref 155, .ref (a_big + 1 + a1), .int (0 : Int32)]) (f_at inc_53 (j := 18) rfl) (Nat.le_of_ble_eq_true rfl) rfl rfl ?_
        refine s_lR (0 : Int32) () (fun (s1 : Int32) (u1 : Unit) => [.ref 155, .ref (a_big + 1 + a1), .int s1]) (fun (s1 : Int32) => σ) ?_
        intro s1 u1 k1 hb1 hr1
        refine i_iload_n (pc' := 36) (f_at inc_53 (j := 19) rfl) rfl rfl ?_
        refine i_aload_n (pc' := 37) (f_at inc_53 (j := 20) rfl) rfl rfl ?_
        refine i_slen (pc' := 40) (f_at inc_53 (j := 21) rfl) ha1 (Nat.le_of_ble_eq_true rfl) rfl ?_
        refine i_if2 (pc' := 70) (nx := 43) c2_ge (f_at inc_53 (j := 22) rfl) ⟨by decide, rfl⟩ (fun b5 => ?_) (fun b5 => ?_)
        · refine i_iconst (pc' := 71) (f_at inc_53 (j := 38) rfl) ci_1 rfl ?_
          refine s_rt (hr1 _) ?_
          exact i_iret (v := f_b true) (f_at inc_53 (j := 39) rfl) rfl n_bool
        · refine i_aload_n (pc' := 44) (f_at inc_53 (j := 23) rfl) rfl rfl ?_
          refine i_getR (pc' := 47) (f_at inc_53 (j := 24) rfl) sh_155 rfl (f_lt (o := 155) (m := 166) (Nat.le_of_ble_eq_true rfl) hN) rfl ?_
          refine i_aload_n (pc' := 48) (f_at inc_53 (j := 25) rfl) rfl rfl ?_
          refine i_getI (pc' := 51) (f_at inc_53 (j := 26) rfl) sh_155 rfl (f_lt (o := 155) (m := 166) (Nat.le_of_ble_eq_true rfl) hN) rfl ?_
          refine i_iload_n (pc' := 52) (f_at inc_53 (j := 27) rfl) rfl rfl ?_
          refine i_iadd (pc' := 53) (f_at inc_53 (j := 28) rfl) rfl ?_
          refine i_bald (pc' := 54) (f_at inc_53 (j := 29) rfl) sh_161 (Or.inl rfl) (f_bg (Nat.le_of_ble_eq_true rfl)) (f_lt (o := 161) (m := 166) (Nat.le_of_ble_eq_true rfl) hN) rfl fun v2 => ?_
          refine i_aload_n (pc' := 55) (f_at inc_53 (j := 30) rfl) rfl rfl ?_
          refine i_iload_n (pc' := 56) (f_at inc_53 (j := 31) rfl) rfl rfl ?_
          refine i_scha (pc' := 59) (f_at inc_53 (j := 32) rfl) ha1 (Nat.le_of_ble_eq_true rfl) rfl fun v3 => ?_
          refine i_if2 (pc' := 64) (nx := 62) c2_eq (f_at inc_53 (j := 33) rfl) ⟨by decide, rfl⟩ (fun b4 => ?_) (fun b4 => ?_)
          · refine i_iinc (pc' := 67) (ls' := [.ref 155, .ref (a_big + 1 + a1), .int (s1 + (1 : Int32))]) (f_at inc_53 (j := 36) rfl) rfl ci_1 rfl rfl ?_
            refine i_goto (pc' := 35) (f_at inc_53 (j := 37) rfl) (by decide) ?_
            exact hb1 (s1 + (1 : Int32)) ()
          · refine i_iconst (pc' := 63) (f_at inc_53 (j := 34) rfl) ci_0 rfl ?_
            refine s_rt (hr1 _) ?_
            exact i_iret (v := f_b false) (f_at inc_53 (j := 35) rfl) rfl n_bool
      · refine i_iconst (pc' := 32) (f_at inc_53 (j := 15) rfl) ci_0 rfl ?_
        exact i_iret (v := f_b false) (f_at inc_53 (j := 16) rfl) rfl n_bool
set_option maxRecDepth 4000 in
def g_54 (a1 : Bool) (a2 : Int32) (σ : f_M) : Option (f_M) :=
  (
   if ¬ (σ 155 17) = 0 then (
    some σ
   ) else (
    if a1 = true then (
     some σ
    ) else (
     some (f_up (f_up σ 155 17 a2) 155 18 ((f_up σ 155 17 a2) 155 13))
    )
   )
  ).bind fun (t1 : f_M) =>
  some t1
set_option maxRecDepth 4000 in
theorem G_54 {xs : Nat → Int32} {L N : Nat} (hN : 166 ≤ N) (a1 : Bool) (a2 : Int32)  (σ : f_M) : f_Cal a_MT xs L N 54 [.ref 155, .int (f_b a1), .int a2] σ ((g_54 a1 a2 σ).bind fun t => some (e_wv t)) := by
  refine f_cal_of (ls := [.ref 155, .int (f_b a1), .int a2]) MT_54 (Nat.le_of_ble_eq_true rfl) rfl ?_
  unfold g_54
  refine i_aload_n (pc' := 1) (f_at inc_54 (j := 0) rfl) rfl rfl ?_
  refine i_getI (pc' := 4) (f_at inc_54 (j := 1) rfl) sh_155 rfl (f_lt (o := 155) (m := 166) (Nat.le_of_ble_eq_true rfl) hN) rfl ?_
  refine s_join (J := 24) (fun (t1 : f_M) (u1 : Unit) => [.ref 155, .int (f_b a1), .int a2]) (fun t1 => []) (fun t1 => t1) ?_ ?_
  · intro t1 u1
    exact i_vret (f_at inc_54 (j := 12) rfl) rfl
  · intro k1 hj1
    refine i_if0 (pc' := 24) (nx := 7) c0_ne (f_at inc_54 (j := 2) rfl) ⟨by decide, rfl⟩ (fun b3 => ?_) (fun b3 => ?_)
    · exact hj1 σ ()
    · refine i_iload_n (pc' := 8) (f_at inc_54 (j := 3) rfl) rfl rfl ?_
      refine i_if0 (pc' := 24) (nx := 11) cb_ne (f_at inc_54 (j := 4) rfl) ⟨by decide, rfl⟩ (fun b2 => ?_) (fun b2 => ?_)
      · exact hj1 σ ()
      · refine i_aload_n (pc' := 12) (f_at inc_54 (j := 5) rfl) rfl rfl ?_
        refine i_iload_n (pc' := 13) (f_at inc_54 (j := 6) rfl) rfl rfl ?_
        refine i_putI (pc' := 16) (f_at inc_54 (j := 7) rfl) sh_155 rfl ⟨rfl, rfl⟩ (f_lt (o := 155) (m := 166) (Nat.le_of_ble_eq_true rfl) hN) rfl ?_
        refine i_aload_n (pc' := 17) (f_at inc_54 (j := 8) rfl) rfl rfl ?_
        refine i_aload_n (pc' := 18) (f_at inc_54 (j := 9) rfl) rfl rfl ?_
        refine i_getI (pc' := 21) (f_at inc_54 (j := 10) rfl) sh_155 rfl (f_lt (o := 155) (m := 166) (Nat.le_of_ble_eq_true rfl) hN) rfl ?_
        refine i_putI (pc' := 24) (f_at inc_54 (j := 11) rfl) sh_155 rfl ⟨rfl, rfl⟩ (f_lt (o := 155) (m := 166) (Nat.le_of_ble_eq_true rfl) hN) rfl ?_
        exact hj1 (f_up (f_up σ 155 17 a2) 155 18 ((f_up σ 155 17 a2) 155 13)) ()
set_option maxRecDepth 4000 in
def g_55  (σ : f_M) : Option (f_M) :=
  (
   if ¬ (σ 155 15) = (1 : Int32) then (
    some false
   ) else (
    if (6 : Int32) < ((σ 155 14) - (σ 155 13)) then (
     some false
    ) else (
     some true
    )
   )
  ).bind fun (t1 : Bool) =>
  (g_54 t1 (1 : Int32) σ).bind fun t4 =>
  (
   if ¬ (t4 155 17) = 0 then (
    some (0 : Int32)
   ) else (
    some ((t4 155 14) - (t4 155 13))
   )
  ).bind fun (t5 : Int32) =>
  (f_lp (fun (s7 : Int32 × f_M) =>
   if (s7.2 155 8) ≤ s7.1 then (
    some (.inr s7.2)
   ) else (
    (f_rd s7.2 161 600 ((s7.2 155 13) + s7.1)).bind fun v8 =>
    (f_wr s7.2 160 6 s7.1 v8).bind fun m9 =>
    some (.inl ((s7.1 + (1 : Int32)), m9))
   )
  ) f_F ((0 : Int32), (f_up t4 155 8 t5))).bind fun (x7 : f_M) =>
  some x7
set_option maxRecDepth 4000 in
theorem G_55 {xs : Nat → Int32} {L N : Nat} (hN : 166 ≤ N)   (σ : f_M) : f_Cal a_MT xs L N 55 [.ref 155] σ ((g_55  σ).bind fun t => some (e_wv t)) := by
  refine f_cal_of (ls := [.ref 155, a_dead]) MT_55 (Nat.le_of_ble_eq_true rfl) rfl ?_
  unfold g_55
  refine i_aload_n (pc' := 1) (f_at inc_55 (j := 0) rfl) rfl rfl ?_
  refine i_aload_n (pc' := 2) (f_at inc_55 (j := 1) rfl) rfl rfl ?_
  refine i_getI (pc' := 5) (f_at inc_55 (j := 2) rfl) sh_155 rfl (f_lt (o := 155) (m := 166) (Nat.le_of_ble_eq_true rfl) hN) rfl ?_
  refine i_iconst (pc' := 6) (f_at inc_55 (j := 3) rfl) ci_1 rfl ?_
  refine s_join (J := 28) (fun (t1 : Bool) (u1 : Unit) => [.ref 155, a_dead]) (fun t1 => [.int (f_b t1), .ref 155]) (fun t1 => σ) ?_ ?_
  · intro t1 u1
    refine i_iconst (pc' := 29) (f_at inc_55 (j := 15) rfl) ci_1 rfl ?_
    refine c_wv (pc' := 32) (c' := 0) (n' := 0) (h_virt (ra := [.int (1 : Int32), .int (f_b t1), .ref 155]) (r := []) (as := [.int (f_b t1), .int (1 : Int32)]) (f_at inc_55 (j := 16) rfl) (by decide) MT_54 rfl rfl rfl ⟨Nat.le_of_ble_eq_true rfl, Nat.le_of_ble_eq_true rfl, Nat.le_of_ble_eq_true rfl⟩ sh_155 (f_lt (o := 155) (m := 166) (Nat.le_of_ble_eq_true rfl) hN)) MT_54 (G_54 hN t1 (1 : Int32) σ) ⟨rfl, rfl, rfl⟩ fun t4 => ?_
    refine i_aload_n (pc' := 33) (f_at inc_55 (j := 17) rfl) rfl rfl ?_
    refine i_aload_n (pc' := 34) (f_at inc_55 (j := 18) rfl) rfl rfl ?_
    refine i_getI (pc' := 37) (f_at inc_55 (j := 19) rfl) sh_155 rfl (f_lt (o := 155) (m := 166) (Nat.le_of_ble_eq_true rfl) hN) rfl ?_
    refine s_join (J := 53) (fun (t5 : Int32) (u5 : Unit) => [.ref 155, a_dead]) (fun t5 => [.int t5, .ref 155]) (fun t5 => t4) ?_ ?_
    · intro t5 u5
      refine i_putI (pc' := 56) (f_at inc_55 (j := 28) rfl) sh_155 rfl ⟨rfl, rfl⟩ (f_lt (o := 155) (m := 166) (Nat.le_of_ble_eq_true rfl) hN) rfl ?_
      refine i_iconst (pc' := 57) (f_at inc_55 (j := 29) rfl) ci_0 rfl ?_
      refine i_istore_n (pc' := 58) (ls' := [.ref 155, .int (0 : Int32)]) (f_at inc_55 (j := 30) rfl) (Nat.le_of_ble_eq_true rfl) rfl rfl ?_
      refine s_lX (X := 89) ((0 : Int32), (f_up t4 155 8 t5)) () (fun (s7 : Int32 × f_M) (u7 : Unit) => [.ref 155, .int s7.1]) (fun (s7 : Int32 × f_M) => s7.2) (fun (x7 : f_M) (w7 : Value) => [.ref 155, w7]) (fun (x7 : f_M) => x7) ?_ ?_
      · intro x7 w7
        exact i_vret (f_at inc_55 (j := 48) rfl) rfl
      · intro s7 u7 k7 hb7 hx7
        refine i_iload_n (pc' := 59) (f_at inc_55 (j := 31) rfl) rfl rfl ?_
        refine i_aload_n (pc' := 60) (f_at inc_55 (j := 32) rfl) rfl rfl ?_
        refine i_getI (pc' := 63) (f_at inc_55 (j := 33) rfl) sh_155 rfl (f_lt (o := 155) (m := 166) (Nat.le_of_ble_eq_true rfl) hN) rfl ?_
        refine i_if2 (pc' := 89) (nx := 66) c2_ge (f_at inc_55 (j := 34) rfl) ⟨by decide, rfl⟩ (fun b10 => ?_) (fun b10 => ?_)
        · exact hx7 s7.2 (.int s7.1)
        · refine i_aload_n (pc' := 67) (f_at inc_55 (j := 35) rfl) rfl rfl ?_
          refine i_getR (pc' := 70) (f_at inc_55 (j := 36) rfl) sh_155 rfl (f_lt (o := 155) (m := 166) (Nat.le_of_ble_eq_true rfl) hN) rfl ?_
          refine i_iload_n (pc' := 71) (f_at inc_55 (j := 37) rfl) rfl rfl ?_
          refine i_aload_n (pc' := 72) (f_at inc_55 (j := 38) rfl) rfl rfl ?_
          refine i_getR (pc' := 75) (f_at inc_55 (j := 39) rfl) sh_155 rfl (f_lt (o := 155) (m := 166) (Nat.le_of_ble_eq_true rfl) hN) rfl ?_
          refine i_aload_n (pc' := 76) (f_at inc_55 (j := 40) rfl) rfl rfl ?_
          refine i_getI (pc' := 79) (f_at inc_55 (j := 41) rfl) sh_155 rfl (f_lt (o := 155) (m := 166) (Nat.le_of_ble_eq_true rfl) hN) rfl ?_
          refine i_iload_n (pc' := 80) (f_at inc_55 (j := 42) rfl) rfl rfl ?_
          refine i_iadd (pc' := 81) (f_at inc_55 (j := 43) rfl) rfl ?_
          refine i_bald (pc' := 82) (f_at inc_55 (j := 44) rfl) sh_161 (Or.inl rfl) (f_bg (Nat.le_of_ble_eq_true rfl)) (f_lt (o := 161) (m := 166) (Nat.le_of_ble_eq_true rfl) hN) rfl fun v8 => ?_
          refine i_iast (pc' := 83) (f_at inc_55 (j := 45) rfl) sh_160 (f_lt (o := 160) (m := 166) (Nat.le_of_ble_eq_true rfl) hN) rfl fun m9 => ?_
          refine i_iinc (pc' := 86) (ls' := [.ref 155, .int (s7.1 + (1 : Int32))]) (f_at inc_55 (j := 46) rfl) rfl ci_1 rfl rfl ?_
          refine i_goto (pc' := 58) (f_at inc_55 (j := 47) rfl) (by decide) ?_
          exact hb7 ((s7.1 + (1 : Int32)), m9) ()
    · intro k5 hj5
      refine i_if0 (pc' := 52) (nx := 40) c0_ne (f_at inc_55 (j := 20) rfl) ⟨by decide, rfl⟩ (fun b6 => ?_) (fun b6 => ?_)
      · refine i_iconst (pc' := 53) (f_at inc_55 (j := 27) rfl) ci_0 rfl ?_
        exact hj5 (0 : Int32) ()
      · refine i_aload_n (pc' := 41) (f_at inc_55 (j := 21) rfl) rfl rfl ?_
        refine i_getI (pc' := 44) (f_at inc_55 (j := 22) rfl) sh_155 rfl (f_lt (o := 155) (m := 166) (Nat.le_of_ble_eq_true rfl) hN) rfl ?_
        refine i_aload_n (pc' := 45) (f_at inc_55 (j := 23) rfl) rfl rfl ?_
        refine i_getI (pc' := 48) (f_at inc_55 (j := 24) rfl) sh_155 rfl (f_lt (o := 155) (m := 166) (Nat.le_of_ble_eq_true rfl) hN) rfl ?_
        refine i_isub (pc' := 49) (f_at inc_55 (j := 25) rfl) rfl ?_
        refine i_goto (pc' := 53) (f_at inc_55 (j := 26) rfl) (by decide) ?_
        exact hj5 ((t4 155 14) - (t4 155 13)) ()
  · intro k1 hj1
    refine i_if2 (pc' := 27) (nx := 9) c2_ne (f_at inc_55 (j := 4) rfl) ⟨by decide, rfl⟩ (fun b3 => ?_) (fun b3 => ?_)
    · refine i_iconst (pc' := 28) (f_at inc_55 (j := 14) rfl) ci_0 rfl ?_
      exact hj1 false ()
    · refine i_aload_n (pc' := 10) (f_at inc_55 (j := 5) rfl) rfl rfl ?_
      refine i_getI (pc' := 13) (f_at inc_55 (j := 6) rfl) sh_155 rfl (f_lt (o := 155) (m := 166) (Nat.le_of_ble_eq_true rfl) hN) rfl ?_
      refine i_aload_n (pc' := 14) (f_at inc_55 (j := 7) rfl) rfl rfl ?_
      refine i_getI (pc' := 17) (f_at inc_55 (j := 8) rfl) sh_155 rfl (f_lt (o := 155) (m := 166) (Nat.le_of_ble_eq_true rfl) hN) rfl ?_
      refine i_isub (pc' := 18) (f_at inc_55 (j := 9) rfl) rfl ?_
      refine i_bipush (pc' := 20) (f_at inc_55 (j := 10) rfl) cb_6 rfl ?_
      refine i_if2 (pc' := 27) (nx := 23) c2_gt (f_at inc_55 (j := 11) rfl) ⟨by decide, rfl⟩ (fun b2 => ?_) (fun b2 => ?_)
      · refine i_iconst (pc' := 28) (f_at inc_55 (j := 14) rfl) ci_0 rfl ?_
        exact hj1 false ()
      · refine i_iconst (pc' := 24) (f_at inc_55 (j := 12) rfl) ci_1 rfl ?_
        refine i_goto (pc' := 28) (f_at inc_55 (j := 13) rfl) (by decide) ?_
        exact hj1 true ()
set_option maxRecDepth 4000 in
def g_56  (σ : f_M) : Option (Int32) :=
  (f_lp (fun (s1 : Int32) =>
   (f_rd σ 156 2420 (2 : Int32)).bind fun v2 =>
   if v2 ≤ s1 then (
    some (.inr (-1 : Int32))
   ) else (
    (g_36 s1 σ).bind fun t3 =>
    (f_rd σ 156 2420 t3).bind fun v4 =>
    (
     if ¬ v4 = (σ 155 8) then (
      some false
     ) else (
      some true
     )
    ).bind fun (t5 : Bool) =>
    (f_lp (fun (s7 : Bool × Int32) =>
     if (σ 155 8) ≤ s7.2 then (
      some (.inr s7.1)
     ) else (
      if s7.1 = false then (
       some (.inr s7.1)
      ) else (
       (g_36 s1 σ).bind fun t8 =>
       (f_rd σ 156 2420 ((t8 + (1 : Int32)) + s7.2)).bind fun v9 =>
       (f_rd σ 160 6 s7.2).bind fun v10 =>
       (
        if ¬ v9 = v10 then (
         some false
        ) else (
         some true
        )
       ).bind fun (t11 : Bool) =>
       some (.inl (t11, (s7.2 + (1 : Int32))))
      )
     )
    ) f_F (t5, (0 : Int32))).bind fun (x7 : Bool) =>
    if x7 = false then (
     some (.inl (s1 + (1 : Int32)))
    ) else (
     some (.inr s1)
    )
   )
  ) f_F (0 : Int32)).bind fun (r1 : Int32) => some r1
set_option maxRecDepth 4000 in
theorem G_56 {xs : Nat → Int32} {L N : Nat} (hN : 166 ≤ N)   (σ : f_M) : f_Cal a_MT xs L N 56 [.ref 155] σ ((g_56  σ).bind fun t => some (e_pi σ t)) := by
  refine f_cal_of (ls := [.ref 155, a_dead, a_dead, a_dead]) MT_56 (Nat.le_of_ble_eq_true rfl) rfl ?_
  unfold g_56
  refine i_iconst (pc' := 1) (f_at inc_56 (j := 0) rfl) ci_0 rfl ?_
  refine i_istore_n (pc' := 2) (ls' := [.ref 155, .int (0 : Int32), a_dead, a_dead]) (f_at inc_56 (j := 1) rfl) (Nat.le_of_ble_eq_true rfl) rfl rfl ?_
  refine s_lR (0 : Int32) (a_dead, a_dead) (fun (s1 : Int32) (u1 : Value × Value) => [.ref 155, .int s1, u1.1, u1.2]) (fun (s1 : Int32) => σ) ?_
  intro s1 u1 k1 hb1 hr1
  refine i_iload_n (pc' := 3) (f_at inc_56 (j := 2) rfl) rfl rfl ?_
  refine i_aload_n (pc' := 4) (f_at inc_56 (j := 3) rfl) rfl rfl ?_
  refine i_getR (pc' := 7) (f_at inc_56 (j := 4) rfl) sh_155 rfl (f_lt (o := 155) (m := 166) (Nat.le_of_ble_eq_true rfl) hN) rfl ?_
  refine i_iconst (pc' := 8) (f_at inc_56 (j := 5) rfl) ci_2 rfl ?_
  refine i_iald (pc' := 9) (f_at inc_56 (j := 6) rfl) sh_156 (f_bg (Nat.le_of_ble_eq_true rfl)) (f_lt (o := 156) (m := 166) (Nat.le_of_ble_eq_true rfl) hN) rfl fun v2 => ?_
  refine i_if2 (pc' := 94) (nx := 12) c2_ge (f_at inc_56 (j := 7) rfl) ⟨by decide, rfl⟩ (fun b16 => ?_) (fun b16 => ?_)
  · refine i_iconst (pc' := 95) (f_at inc_56 (j := 54) rfl) ci_m1 rfl ?_
    refine s_rt (hr1 _) ?_
    exact i_iret (f_at inc_56 (j := 55) rfl) rfl n_int
  · refine i_aload_n (pc' := 13) (f_at inc_56 (j := 8) rfl) rfl rfl ?_
    refine i_getR (pc' := 16) (f_at inc_56 (j := 9) rfl) sh_155 rfl (f_lt (o := 155) (m := 166) (Nat.le_of_ble_eq_true rfl) hN) rfl ?_
    refine i_iload_n (pc' := 17) (f_at inc_56 (j := 10) rfl) rfl rfl ?_
    refine c_pi (pc' := 20) (c' := 0) (n' := 0) (h_stat (ra := [.int s1]) (r := [.ref 156]) (as := [.int s1]) (f_at inc_56 (j := 11) rfl) (by decide) MT_36 rfl rfl rfl ⟨Nat.le_of_ble_eq_true rfl, Nat.le_of_ble_eq_true rfl, Nat.le_of_ble_eq_true rfl⟩) MT_36 (G_36 hN s1 σ) ⟨rfl, rfl, rfl⟩ fun t3 => ?_
    refine i_iald (pc' := 21) (f_at inc_56 (j := 12) rfl) sh_156 (f_bg (Nat.le_of_ble_eq_true rfl)) (f_lt (o := 156) (m := 166) (Nat.le_of_ble_eq_true rfl) hN) rfl fun v4 => ?_
    refine i_aload_n (pc' := 22) (f_at inc_56 (j := 13) rfl) rfl rfl ?_
    refine i_getI (pc' := 25) (f_at inc_56 (j := 14) rfl) sh_155 rfl (f_lt (o := 155) (m := 166) (Nat.le_of_ble_eq_true rfl) hN) rfl ?_
    refine s_join (J := 33) (fun (t5 : Bool) (u5 : Unit) => [.ref 155, .int s1, u1.1, u1.2]) (fun t5 => [.int (f_b t5)]) (fun t5 => σ) ?_ ?_
    · intro t5 u5
      refine i_istore_n (pc' := 34) (ls' := [.ref 155, .int s1, .int (f_b t5), u1.2]) (f_at inc_56 (j := 19) rfl) (Nat.le_of_ble_eq_true rfl) rfl rfl ?_
      refine i_iconst (pc' := 35) (f_at inc_56 (j := 20) rfl) ci_0 rfl ?_
      refine i_istore_n (pc' := 36) (ls' := [.ref 155, .int s1, .int (f_b t5), .int (0 : Int32)]) (f_at inc_56 (j := 21) rfl) (Nat.le_of_ble_eq_true rfl) rfl rfl ?_
      refine s_lX (X := 82) (t5, (0 : Int32)) () (fun (s7 : Bool × Int32) (u7 : Unit) => [.ref 155, .int s1, .int (f_b s7.1), .int s7.2]) (fun (s7 : Bool × Int32) => σ) (fun (x7 : Bool) (w7 : Value) => [.ref 155, .int s1, .int (f_b x7), w7]) (fun (x7 : Bool) => σ) ?_ ?_
      · intro x7 w7
        refine i_iload_n (pc' := 83) (f_at inc_56 (j := 48) rfl) rfl rfl ?_
        refine i_if0 (pc' := 88) (nx := 86) cb_eq (f_at inc_56 (j := 49) rfl) ⟨by decide, rfl⟩ (fun b15 => ?_) (fun b15 => ?_)
        · refine i_iinc (pc' := 91) (ls' := [.ref 155, .int (s1 + (1 : Int32)), .int (f_b x7), w7]) (f_at inc_56 (j := 52) rfl) rfl ci_1 rfl rfl ?_
          refine i_goto (pc' := 2) (f_at inc_56 (j := 53) rfl) (by decide) ?_
          exact hb1 (s1 + (1 : Int32)) (.int (f_b x7), w7)
        · refine i_iload_n (pc' := 87) (f_at inc_56 (j := 50) rfl) rfl rfl ?_
          refine s_rt (hr1 _) ?_
          exact i_iret (f_at inc_56 (j := 51) rfl) rfl n_int
      · intro s7 u7 k7 hb7 hx7
        refine i_iload_n (pc' := 37) (f_at inc_56 (j := 22) rfl) rfl rfl ?_
        refine i_aload_n (pc' := 38) (f_at inc_56 (j := 23) rfl) rfl rfl ?_
        refine i_getI (pc' := 41) (f_at inc_56 (j := 24) rfl) sh_155 rfl (f_lt (o := 155) (m := 166) (Nat.le_of_ble_eq_true rfl) hN) rfl ?_
        refine i_if2 (pc' := 82) (nx := 44) c2_ge (f_at inc_56 (j := 25) rfl) ⟨by decide, rfl⟩ (fun b14 => ?_) (fun b14 => ?_)
        · exact hx7 s7.1 (.int s7.2)
        · refine i_iload_n (pc' := 45) (f_at inc_56 (j := 26) rfl) rfl rfl ?_
          refine i_if0 (pc' := 82) (nx := 48) cb_eq (f_at inc_56 (j := 27) rfl) ⟨by decide, rfl⟩ (fun b13 => ?_) (fun b13 => ?_)
          · exact hx7 s7.1 (.int s7.2)
          · refine i_aload_n (pc' := 49) (f_at inc_56 (j := 28) rfl) rfl rfl ?_
            refine i_getR (pc' := 52) (f_at inc_56 (j := 29) rfl) sh_155 rfl (f_lt (o := 155) (m := 166) (Nat.le_of_ble_eq_true rfl) hN) rfl ?_
            refine i_iload_n (pc' := 53) (f_at inc_56 (j := 30) rfl) rfl rfl ?_
            refine c_pi (pc' := 56) (c' := 0) (n' := 0) (h_stat (ra := [.int s1]) (r := [.ref 156]) (as := [.int s1]) (f_at inc_56 (j := 31) rfl) (by decide) MT_36 rfl rfl rfl ⟨Nat.le_of_ble_eq_true rfl, Nat.le_of_ble_eq_true rfl, Nat.le_of_ble_eq_true rfl⟩) MT_36 (G_36 hN s1 σ) ⟨rfl, rfl, rfl⟩ fun t8 => ?_
            refine i_iconst (pc' := 57) (f_at inc_56 (j := 32) rfl) ci_1 rfl ?_
            refine i_iadd (pc' := 58) (f_at inc_56 (j := 33) rfl) rfl ?_
            refine i_iload_n (pc' := 59) (f_at inc_56 (j := 34) rfl) rfl rfl ?_
            refine i_iadd (pc' := 60) (f_at inc_56 (j := 35) rfl) rfl ?_
            refine i_iald (pc' := 61) (f_at inc_56 (j := 36) rfl) sh_156 (f_bg (Nat.le_of_ble_eq_true rfl)) (f_lt (o := 156) (m := 166) (Nat.le_of_ble_eq_true rfl) hN) rfl fun v9 => ?_
            refine i_aload_n (pc' := 62) (f_at inc_56 (j := 37) rfl) rfl rfl ?_
            refine i_getR (pc' := 65) (f_at inc_56 (j := 38) rfl) sh_155 rfl (f_lt (o := 155) (m := 166) (Nat.le_of_ble_eq_true rfl) hN) rfl ?_
            refine i_iload_n (pc' := 66) (f_at inc_56 (j := 39) rfl) rfl rfl ?_
            refine i_iald (pc' := 67) (f_at inc_56 (j := 40) rfl) sh_160 (f_bg (Nat.le_of_ble_eq_true rfl)) (f_lt (o := 160) (m := 166) (Nat.le_of_ble_eq_true rfl) hN) rfl fun v10 => ?_
            refine s_join (J := 75) (fun (t11 : Bool) (u11 : Unit) => [.ref 155, .int s1, .int (f_b s7.1), .int s7.2]) (fun t11 => [.int (f_b t11)]) (fun t11 => σ) ?_ ?_
            · intro t11 u11
              refine i_istore_n (pc' := 76) (ls' := [.ref 155, .int s1, .int (f_b t11), .int s7.2]) (f_at inc_56 (j := 45) rfl) (Nat.le_of_ble_eq_true rfl) rfl rfl ?_
              refine i_iinc (pc' := 79) (ls' := [.ref 155, .int s1, .int (f_b t11), .int (s7.2 + (1 : Int32))]) (f_at inc_56 (j := 46) rfl) rfl ci_1 rfl rfl ?_
              refine i_goto (pc' := 36) (f_at inc_56 (j := 47) rfl) (by decide) ?_
              exact hb7 (t11, (s7.2 + (1 : Int32))) ()
            · intro k11 hj11
              refine i_if2 (pc' := 74) (nx := 70) c2_ne (f_at inc_56 (j := 41) rfl) ⟨by decide, rfl⟩ (fun b12 => ?_) (fun b12 => ?_)
              · refine i_iconst (pc' := 75) (f_at inc_56 (j := 44) rfl) ci_0 rfl ?_
                exact hj11 false ()
              · refine i_iconst (pc' := 71) (f_at inc_56 (j := 42) rfl) ci_1 rfl ?_
                refine i_goto (pc' := 75) (f_at inc_56 (j := 43) rfl) (by decide) ?_
                exact hj11 true ()
    · intro k5 hj5
      refine i_if2 (pc' := 32) (nx := 28) c2_ne (f_at inc_56 (j := 15) rfl) ⟨by decide, rfl⟩ (fun b6 => ?_) (fun b6 => ?_)
      · refine i_iconst (pc' := 33) (f_at inc_56 (j := 18) rfl) ci_0 rfl ?_
        exact hj5 false ()
      · refine i_iconst (pc' := 29) (f_at inc_56 (j := 16) rfl) ci_1 rfl ?_
        refine i_goto (pc' := 33) (f_at inc_56 (j := 17) rfl) (by decide) ?_
        exact hj5 true ()
set_option maxRecDepth 4000 in
def g_57 (a1 : Int32) (a2 : Int32) (σ : f_M) : Option (Int32 × f_M) :=
  (
   if ¬ (σ 155 15) = (2 : Int32) then (
    some false
   ) else (
    some true
   )
  ).bind fun (t1 : Bool) =>
  (g_54 t1 (1 : Int32) σ).bind fun t3 =>
  (g_46 ((t3 155 16)).toInt64 (a1).toInt64 (a2).toInt64 t3).bind fun t4 =>
  (g_54 t4 (2 : Int32) t3).bind fun t5 =>
  (
   if ¬ (t5 155 17) = 0 then (
    some a1
   ) else (
    some (t5 155 16)
   )
  ).bind fun (t6 : Int32) =>
  (g_51  t5).bind fun t8 =>
  some (t6, t8)
set_option maxRecDepth 4000 in
theorem G_57 {xs : Nat → Int32} {L N : Nat} (hN : 166 ≤ N) (a1 : Int32) (a2 : Int32)  (σ : f_M) : f_Cal a_MT xs L N 57 [.ref 155, .int a1, .int a2] σ ((g_57 a1 a2 σ).bind fun t => some (e_wi t)) := by
  refine f_cal_of (ls := [.ref 155, .int a1, .int a2, a_dead]) MT_57 (Nat.le_of_ble_eq_true rfl) rfl ?_
  unfold g_57
  refine i_aload_n (pc' := 1) (f_at inc_57 (j := 0) rfl) rfl rfl ?_
  refine i_aload_n (pc' := 2) (f_at inc_57 (j := 1) rfl) rfl rfl ?_
  refine i_getI (pc' := 5) (f_at inc_57 (j := 2) rfl) sh_155 rfl (f_lt (o := 155) (m := 166) (Nat.le_of_ble_eq_true rfl) hN) rfl ?_
  refine i_iconst (pc' := 6) (f_at inc_57 (j := 3) rfl) ci_2 rfl ?_
  refine s_join (J := 14) (fun (t1 : Bool) (u1 : Unit) => [.ref 155, .int a1, .int a2, a_dead]) (fun t1 => [.int (f_b t1), .ref 155]) (fun t1 => σ) ?_ ?_
  · intro t1 u1
    refine i_iconst (pc' := 15) (f_at inc_57 (j := 8) rfl) ci_1 rfl ?_
    refine c_wv (pc' := 18) (c' := 0) (n' := 0) (h_virt (ra := [.int (1 : Int32), .int (f_b t1), .ref 155]) (r := []) (as := [.int (f_b t1), .int (1 : Int32)]) (f_at inc_57 (j := 9) rfl) (by decide) MT_54 rfl rfl rfl ⟨Nat.le_of_ble_eq_true rfl, Nat.le_of_ble_eq_true rfl, Nat.le_of_ble_eq_true rfl⟩ sh_155 (f_lt (o := 155) (m := 166) (Nat.le_of_ble_eq_true rfl) hN)) MT_54 (G_54 hN t1 (1 : Int32) σ) ⟨rfl, rfl, rfl⟩ fun t3 => ?_
    refine i_aload_n (pc' := 19) (f_at inc_57 (j := 10) rfl) rfl rfl ?_
    refine i_aload_n (pc' := 20) (f_at inc_57 (j := 11) rfl) rfl rfl ?_
    refine i_getI (pc' := 23) (f_at inc_57 (j := 12) rfl) sh_155 rfl (f_lt (o := 155) (m := 166) (Nat.le_of_ble_eq_true rfl) hN) rfl ?_
    refine i_i2l (pc' := 24) (f_at inc_57 (j := 13) rfl) rfl ?_
    refine i_iload_n (pc' := 25) (f_at inc_57 (j := 14) rfl) rfl rfl ?_
    refine i_i2l (pc' := 26) (f_at inc_57 (j := 15) rfl) rfl ?_
    refine i_iload_n (pc' := 27) (f_at inc_57 (j := 16) rfl) rfl rfl ?_
    refine i_i2l (pc' := 28) (f_at inc_57 (j := 17) rfl) rfl ?_
    refine c_pb (pc' := 31) (c' := 0) (n' := 0) (h_stat (ra := [.long (a2).toInt64, .long (a1).toInt64, .long ((t3 155 16)).toInt64]) (r := [.ref 155]) (as := [.long ((t3 155 16)).toInt64, .long (a1).toInt64, .long (a2).toInt64]) (f_at inc_57 (j := 18) rfl) (by decide) MT_46 rfl rfl rfl ⟨Nat.le_of_ble_eq_true rfl, Nat.le_of_ble_eq_true rfl, Nat.le_of_ble_eq_true rfl⟩) MT_46 (G_46 hN ((t3 155 16)).toInt64 (a1).toInt64 (a2).toInt64 t3) ⟨rfl, rfl, rfl⟩ fun t4 => ?_
    refine i_iconst (pc' := 32) (f_at inc_57 (j := 19) rfl) ci_2 rfl ?_
    refine c_wv (pc' := 35) (c' := 0) (n' := 0) (h_virt (ra := [.int (2 : Int32), .int (f_b t4), .ref 155]) (r := []) (as := [.int (f_b t4), .int (2 : Int32)]) (f_at inc_57 (j := 20) rfl) (by decide) MT_54 rfl rfl rfl ⟨Nat.le_of_ble_eq_true rfl, Nat.le_of_ble_eq_true rfl, Nat.le_of_ble_eq_true rfl⟩ sh_155 (f_lt (o := 155) (m := 166) (Nat.le_of_ble_eq_true rfl) hN)) MT_54 (G_54 hN t4 (2 : Int32) t3) ⟨rfl, rfl, rfl⟩ fun t5 => ?_
    refine i_aload_n (pc' := 36) (f_at inc_57 (j := 21) rfl) rfl rfl ?_
    refine i_getI (pc' := 39) (f_at inc_57 (j := 22) rfl) sh_155 rfl (f_lt (o := 155) (m := 166) (Nat.le_of_ble_eq_true rfl) hN) rfl ?_
    refine s_join (J := 50) (fun (t6 : Int32) (u6 : Unit) => [.ref 155, .int a1, .int a2, a_dead]) (fun t6 => [.int t6]) (fun t6 => t5) ?_ ?_
    · intro t6 u6
      refine i_istore_n (pc' := 51) (ls' := [.ref 155, .int a1, .int a2, .int t6]) (f_at inc_57 (j := 28) rfl) (Nat.le_of_ble_eq_true rfl) rfl rfl ?_
      refine i_aload_n (pc' := 52) (f_at inc_57 (j := 29) rfl) rfl rfl ?_
      refine c_wv (pc' := 55) (c' := 0) (n' := 0) (h_virt (ra := [.ref 155]) (r := []) (as := []) (f_at inc_57 (j := 30) rfl) (by decide) MT_51 rfl rfl rfl ⟨Nat.le_of_ble_eq_true rfl, Nat.le_of_ble_eq_true rfl, Nat.le_of_ble_eq_true rfl⟩ sh_155 (f_lt (o := 155) (m := 166) (Nat.le_of_ble_eq_true rfl) hN)) MT_51 (G_51 hN  t5) ⟨rfl, rfl, rfl⟩ fun t8 => ?_
      refine i_iload_n (pc' := 56) (f_at inc_57 (j := 31) rfl) rfl rfl ?_
      exact i_iret (f_at inc_57 (j := 32) rfl) rfl n_int
    · intro k6 hj6
      refine i_if0 (pc' := 49) (nx := 42) c0_ne (f_at inc_57 (j := 23) rfl) ⟨by decide, rfl⟩ (fun b7 => ?_) (fun b7 => ?_)
      · refine i_iload_n (pc' := 50) (f_at inc_57 (j := 27) rfl) rfl rfl ?_
        exact hj6 a1 ()
      · refine i_aload_n (pc' := 43) (f_at inc_57 (j := 24) rfl) rfl rfl ?_
        refine i_getI (pc' := 46) (f_at inc_57 (j := 25) rfl) sh_155 rfl (f_lt (o := 155) (m := 166) (Nat.le_of_ble_eq_true rfl) hN) rfl ?_
        refine i_goto (pc' := 50) (f_at inc_57 (j := 26) rfl) (by decide) ?_
        exact hj6 (t5 155 16) ()
  · intro k1 hj1
    refine i_if2 (pc' := 13) (nx := 9) c2_ne (f_at inc_57 (j := 4) rfl) ⟨by decide, rfl⟩ (fun b2 => ?_) (fun b2 => ?_)
    · refine i_iconst (pc' := 14) (f_at inc_57 (j := 7) rfl) ci_0 rfl ?_
      exact hj1 false ()
    · refine i_iconst (pc' := 10) (f_at inc_57 (j := 5) rfl) ci_1 rfl ?_
      refine i_goto (pc' := 14) (f_at inc_57 (j := 6) rfl) (by decide) ?_
      exact hj1 true ()
set_option maxRecDepth 4000 in
def g_58  (σ : f_M) : Option (f_M) :=
  (f_rd σ 156 2420 (2 : Int32)).bind fun v1 =>
  (
   if (8 : Int32) ≤ v1 then (
    some false
   ) else (
    some true
   )
  ).bind fun (t2 : Bool) =>
  (g_54 t2 (4 : Int32) σ).bind fun t4 =>
  (g_51  t4).bind fun t5 =>
  (g_55  t5).bind fun t6 =>
  (
   if 0 < (t6 155 17) then (
    some true
   ) else (
    (g_56  t6).bind fun t8 =>
    if ¬ t8 = (-1 : Int32) then (
     some false
    ) else (
     some true
    )
   )
  ).bind fun (t7 : Bool) =>
  (g_54 t7 (3 : Int32) t6).bind fun t11 =>
  (g_51  t11).bind fun t12 =>
  (g_57 (0 : Int32) (9999 : Int32) t12).bind fun t13 =>
  (
   if ¬ (t13.2 155 17) = 0 then (
    some t13.2
   ) else (
    (g_37 t13.1 t13.2).bind fun t15 =>
    some t15
   )
  ).bind fun (t14 : f_M) =>
  some t14
set_option maxRecDepth 4000 in
theorem G_58 {xs : Nat → Int32} {L N : Nat} (hN : 166 ≤ N)   (σ : f_M) : f_Cal a_MT xs L N 58 [.ref 155] σ ((g_58  σ).bind fun t => some (e_wv t)) := by
  refine f_cal_of (ls := [.ref 155, a_dead]) MT_58 (Nat.le_of_ble_eq_true rfl) rfl ?_
  unfold g_58
  refine i_aload_n (pc' := 1) (f_at inc_58 (j := 0) rfl) rfl rfl ?_
  refine i_aload_n (pc' := 2) (f_at inc_58 (j := 1) rfl) rfl rfl ?_
  refine i_getR (pc' := 5) (f_at inc_58 (j := 2) rfl) sh_155 rfl (f_lt (o := 155) (m := 166) (Nat.le_of_ble_eq_true rfl) hN) rfl ?_
  refine i_iconst (pc' := 6) (f_at inc_58 (j := 3) rfl) ci_2 rfl ?_
  refine i_iald (pc' := 7) (f_at inc_58 (j := 4) rfl) sh_156 (f_bg (Nat.le_of_ble_eq_true rfl)) (f_lt (o := 156) (m := 166) (Nat.le_of_ble_eq_true rfl) hN) rfl fun v1 => ?_
  refine i_bipush (pc' := 9) (f_at inc_58 (j := 5) rfl) cb_8 rfl ?_
  refine s_join (J := 17) (fun (t2 : Bool) (u2 : Unit) => [.ref 155, a_dead]) (fun t2 => [.int (f_b t2), .ref 155]) (fun t2 => σ) ?_ ?_
  · intro t2 u2
    refine i_iconst (pc' := 18) (f_at inc_58 (j := 10) rfl) ci_4 rfl ?_
    refine c_wv (pc' := 21) (c' := 0) (n' := 0) (h_virt (ra := [.int (4 : Int32), .int (f_b t2), .ref 155]) (r := []) (as := [.int (f_b t2), .int (4 : Int32)]) (f_at inc_58 (j := 11) rfl) (by decide) MT_54 rfl rfl rfl ⟨Nat.le_of_ble_eq_true rfl, Nat.le_of_ble_eq_true rfl, Nat.le_of_ble_eq_true rfl⟩ sh_155 (f_lt (o := 155) (m := 166) (Nat.le_of_ble_eq_true rfl) hN)) MT_54 (G_54 hN t2 (4 : Int32) σ) ⟨rfl, rfl, rfl⟩ fun t4 => ?_
    refine i_aload_n (pc' := 22) (f_at inc_58 (j := 12) rfl) rfl rfl ?_
    refine c_wv (pc' := 25) (c' := 0) (n' := 0) (h_virt (ra := [.ref 155]) (r := []) (as := []) (f_at inc_58 (j := 13) rfl) (by decide) MT_51 rfl rfl rfl ⟨Nat.le_of_ble_eq_true rfl, Nat.le_of_ble_eq_true rfl, Nat.le_of_ble_eq_true rfl⟩ sh_155 (f_lt (o := 155) (m := 166) (Nat.le_of_ble_eq_true rfl) hN)) MT_51 (G_51 hN  t4) ⟨rfl, rfl, rfl⟩ fun t5 => ?_
    refine i_aload_n (pc' := 26) (f_at inc_58 (j := 14) rfl) rfl rfl ?_
    refine c_wv (pc' := 29) (c' := 0) (n' := 0) (h_virt (ra := [.ref 155]) (r := []) (as := []) (f_at inc_58 (j := 15) rfl) (by decide) MT_55 rfl rfl rfl ⟨Nat.le_of_ble_eq_true rfl, Nat.le_of_ble_eq_true rfl, Nat.le_of_ble_eq_true rfl⟩ sh_155 (f_lt (o := 155) (m := 166) (Nat.le_of_ble_eq_true rfl) hN)) MT_55 (G_55 hN  t5) ⟨rfl, rfl, rfl⟩ fun t6 => ?_
    refine i_aload_n (pc' := 30) (f_at inc_58 (j := 16) rfl) rfl rfl ?_
    refine i_aload_n (pc' := 31) (f_at inc_58 (j := 17) rfl) rfl rfl ?_
    refine i_getI (pc' := 34) (f_at inc_58 (j := 18) rfl) sh_155 rfl (f_lt (o := 155) (m := 166) (Nat.le_of_ble_eq_true rfl) hN) rfl ?_
    refine s_join (J := 50) (fun (t7 : Bool) (u7 : Unit) => [.ref 155, a_dead]) (fun t7 => [.int (f_b t7), .ref 155]) (fun t7 => t6) ?_ ?_
    · intro t7 u7
      refine i_iconst (pc' := 51) (f_at inc_58 (j := 27) rfl) ci_3 rfl ?_
      refine c_wv (pc' := 54) (c' := 0) (n' := 0) (h_virt (ra := [.int (3 : Int32), .int (f_b t7), .ref 155]) (r := []) (as := [.int (f_b t7), .int (3 : Int32)]) (f_at inc_58 (j := 28) rfl) (by decide) MT_54 rfl rfl rfl ⟨Nat.le_of_ble_eq_true rfl, Nat.le_of_ble_eq_true rfl, Nat.le_of_ble_eq_true rfl⟩ sh_155 (f_lt (o := 155) (m := 166) (Nat.le_of_ble_eq_true rfl) hN)) MT_54 (G_54 hN t7 (3 : Int32) t6) ⟨rfl, rfl, rfl⟩ fun t11 => ?_
      refine i_aload_n (pc' := 55) (f_at inc_58 (j := 29) rfl) rfl rfl ?_
      refine c_wv (pc' := 58) (c' := 0) (n' := 0) (h_virt (ra := [.ref 155]) (r := []) (as := []) (f_at inc_58 (j := 30) rfl) (by decide) MT_51 rfl rfl rfl ⟨Nat.le_of_ble_eq_true rfl, Nat.le_of_ble_eq_true rfl, Nat.le_of_ble_eq_true rfl⟩ sh_155 (f_lt (o := 155) (m := 166) (Nat.le_of_ble_eq_true rfl) hN)) MT_51 (G_51 hN  t11) ⟨rfl, rfl, rfl⟩ fun t12 => ?_
      refine i_aload_n (pc' := 59) (f_at inc_58 (j := 31) rfl) rfl rfl ?_
      refine i_iconst (pc' := 60) (f_at inc_58 (j := 32) rfl) ci_0 rfl ?_
      refine i_sipush (pc' := 63) (f_at inc_58 (j := 33) rfl) cs_9999 rfl ?_
      refine c_wi (pc' := 66) (c' := 0) (n' := 0) (h_virt (ra := [.int (9999 : Int32), .int (0 : Int32), .ref 155]) (r := []) (as := [.int (0 : Int32), .int (9999 : Int32)]) (f_at inc_58 (j := 34) rfl) (by decide) MT_57 rfl rfl rfl ⟨Nat.le_of_ble_eq_true rfl, Nat.le_of_ble_eq_true rfl, Nat.le_of_ble_eq_true rfl⟩ sh_155 (f_lt (o := 155) (m := 166) (Nat.le_of_ble_eq_true rfl) hN)) MT_57 (G_57 hN (0 : Int32) (9999 : Int32) t12) ⟨rfl, rfl, rfl⟩ fun t13 => ?_
      refine i_istore_n (pc' := 67) (ls' := [.ref 155, .int t13.1]) (f_at inc_58 (j := 35) rfl) (Nat.le_of_ble_eq_true rfl) rfl rfl ?_
      refine i_aload_n (pc' := 68) (f_at inc_58 (j := 36) rfl) rfl rfl ?_
      refine i_getI (pc' := 71) (f_at inc_58 (j := 37) rfl) sh_155 rfl (f_lt (o := 155) (m := 166) (Nat.le_of_ble_eq_true rfl) hN) rfl ?_
      refine s_join (J := 79) (fun (t14 : f_M) (u14 : Unit) => [.ref 155, .int t13.1]) (fun t14 => []) (fun t14 => t14) ?_ ?_
      · intro t14 u14
        exact i_vret (f_at inc_58 (j := 42) rfl) rfl
      · intro k14 hj14
        refine i_if0 (pc' := 79) (nx := 74) c0_ne (f_at inc_58 (j := 38) rfl) ⟨by decide, rfl⟩ (fun b16 => ?_) (fun b16 => ?_)
        · exact hj14 t13.2 ()
        · refine i_aload_n (pc' := 75) (f_at inc_58 (j := 39) rfl) rfl rfl ?_
          refine i_iload_n (pc' := 76) (f_at inc_58 (j := 40) rfl) rfl rfl ?_
          refine c_wv (pc' := 79) (c' := 0) (n' := 0) (h_virt (ra := [.int t13.1, .ref 155]) (r := []) (as := [.int t13.1]) (f_at inc_58 (j := 41) rfl) (by decide) MT_37 rfl rfl rfl ⟨Nat.le_of_ble_eq_true rfl, Nat.le_of_ble_eq_true rfl, Nat.le_of_ble_eq_true rfl⟩ sh_155 (f_lt (o := 155) (m := 166) (Nat.le_of_ble_eq_true rfl) hN)) MT_37 (G_37 hN t13.1 t13.2) ⟨rfl, rfl, rfl⟩ fun t15 => ?_
          exact hj14 t15 ()
    · intro k7 hj7
      refine i_if0 (pc' := 45) (nx := 37) c0_gt (f_at inc_58 (j := 19) rfl) ⟨by decide, rfl⟩ (fun b10 => ?_) (fun b10 => ?_)
      · refine i_iconst (pc' := 46) (f_at inc_58 (j := 24) rfl) ci_1 rfl ?_
        refine i_goto (pc' := 50) (f_at inc_58 (j := 25) rfl) (by decide) ?_
        exact hj7 true ()
      · refine i_aload_n (pc' := 38) (f_at inc_58 (j := 20) rfl) rfl rfl ?_
        refine c_pi (pc' := 41) (c' := 0) (n' := 0) (h_virt (ra := [.ref 155]) (r := [.ref 155]) (as := []) (f_at inc_58 (j := 21) rfl) (by decide) MT_56 rfl rfl rfl ⟨Nat.le_of_ble_eq_true rfl, Nat.le_of_ble_eq_true rfl, Nat.le_of_ble_eq_true rfl⟩ sh_155 (f_lt (o := 155) (m := 166) (Nat.le_of_ble_eq_true rfl) hN)) MT_56 (G_56 hN  t6) ⟨rfl, rfl, rfl⟩ fun t8 => ?_
        refine i_iconst (pc' := 42) (f_at inc_58 (j := 22) rfl) ci_m1 rfl ?_
        refine i_if2 (pc' := 49) (nx := 45) c2_ne (f_at inc_58 (j := 23) rfl) ⟨by decide, rfl⟩ (fun b9 => ?_) (fun b9 => ?_)
        · refine i_iconst (pc' := 50) (f_at inc_58 (j := 26) rfl) ci_0 rfl ?_
          exact hj7 false ()
        · refine i_iconst (pc' := 46) (f_at inc_58 (j := 24) rfl) ci_1 rfl ?_
          refine i_goto (pc' := 50) (f_at inc_58 (j := 25) rfl) (by decide) ?_
          exact hj7 true ()
  · intro k2 hj2
    refine i_if2 (pc' := 16) (nx := 12) c2_ge (f_at inc_58 (j := 6) rfl) ⟨by decide, rfl⟩ (fun b3 => ?_) (fun b3 => ?_)
    · refine i_iconst (pc' := 17) (f_at inc_58 (j := 9) rfl) ci_0 rfl ?_
      exact hj2 false ()
    · refine i_iconst (pc' := 13) (f_at inc_58 (j := 7) rfl) ci_1 rfl ?_
      refine i_goto (pc' := 17) (f_at inc_58 (j := 8) rfl) (by decide) ?_
      exact hj2 true ()
set_option maxRecDepth 4000 in
def g_59  (σ : f_M) : Option (f_M) :=
  (f_rd σ 156 2420 (3 : Int32)).bind fun v1 =>
  (
   if (3 : Int32) ≤ v1 then (
    some false
   ) else (
    some true
   )
  ).bind fun (t2 : Bool) =>
  (g_54 t2 (4 : Int32) σ).bind fun t4 =>
  (g_51  t4).bind fun t5 =>
  (g_57 (0 : Int32) (9 : Int32) t5).bind fun t6 =>
  (
   if ¬ (t6.2 155 17) = 0 then (
    some t6.2
   ) else (
    (g_38 t6.1 t6.2).bind fun t8 =>
    some t8
   )
  ).bind fun (t7 : f_M) =>
  some t7
set_option maxRecDepth 4000 in
theorem G_59 {xs : Nat → Int32} {L N : Nat} (hN : 166 ≤ N)   (σ : f_M) : f_Cal a_MT xs L N 59 [.ref 155] σ ((g_59  σ).bind fun t => some (e_wv t)) := by
  refine f_cal_of (ls := [.ref 155, a_dead]) MT_59 (Nat.le_of_ble_eq_true rfl) rfl ?_
  unfold g_59
  refine i_aload_n (pc' := 1) (f_at inc_59 (j := 0) rfl) rfl rfl ?_
  refine i_aload_n (pc' := 2) (f_at inc_59 (j := 1) rfl) rfl rfl ?_
  refine i_getR (pc' := 5) (f_at inc_59 (j := 2) rfl) sh_155 rfl (f_lt (o := 155) (m := 166) (Nat.le_of_ble_eq_true rfl) hN) rfl ?_
  refine i_iconst (pc' := 6) (f_at inc_59 (j := 3) rfl) ci_3 rfl ?_
  refine i_iald (pc' := 7) (f_at inc_59 (j := 4) rfl) sh_156 (f_bg (Nat.le_of_ble_eq_true rfl)) (f_lt (o := 156) (m := 166) (Nat.le_of_ble_eq_true rfl) hN) rfl fun v1 => ?_
  refine i_iconst (pc' := 8) (f_at inc_59 (j := 5) rfl) ci_3 rfl ?_
  refine s_join (J := 16) (fun (t2 : Bool) (u2 : Unit) => [.ref 155, a_dead]) (fun t2 => [.int (f_b t2), .ref 155]) (fun t2 => σ) ?_ ?_
  · intro t2 u2
    refine i_iconst (pc' := 17) (f_at inc_59 (j := 10) rfl) ci_4 rfl ?_
    refine c_wv (pc' := 20) (c' := 0) (n' := 0) (h_virt (ra := [.int (4 : Int32), .int (f_b t2), .ref 155]) (r := []) (as := [.int (f_b t2), .int (4 : Int32)]) (f_at inc_59 (j := 11) rfl) (by decide) MT_54 rfl rfl rfl ⟨Nat.le_of_ble_eq_true rfl, Nat.le_of_ble_eq_true rfl, Nat.le_of_ble_eq_true rfl⟩ sh_155 (f_lt (o := 155) (m := 166) (Nat.le_of_ble_eq_true rfl) hN)) MT_54 (G_54 hN t2 (4 : Int32) σ) ⟨rfl, rfl, rfl⟩ fun t4 => ?_
    refine i_aload_n (pc' := 21) (f_at inc_59 (j := 12) rfl) rfl rfl ?_
    refine c_wv (pc' := 24) (c' := 0) (n' := 0) (h_virt (ra := [.ref 155]) (r := []) (as := []) (f_at inc_59 (j := 13) rfl) (by decide) MT_51 rfl rfl rfl ⟨Nat.le_of_ble_eq_true rfl, Nat.le_of_ble_eq_true rfl, Nat.le_of_ble_eq_true rfl⟩ sh_155 (f_lt (o := 155) (m := 166) (Nat.le_of_ble_eq_true rfl) hN)) MT_51 (G_51 hN  t4) ⟨rfl, rfl, rfl⟩ fun t5 => ?_
    refine i_aload_n (pc' := 25) (f_at inc_59 (j := 14) rfl) rfl rfl ?_
    refine i_iconst (pc' := 26) (f_at inc_59 (j := 15) rfl) ci_0 rfl ?_
    refine i_bipush (pc' := 28) (f_at inc_59 (j := 16) rfl) cb_9 rfl ?_
    refine c_wi (pc' := 31) (c' := 0) (n' := 0) (h_virt (ra := [.int (9 : Int32), .int (0 : Int32), .ref 155]) (r := []) (as := [.int (0 : Int32), .int (9 : Int32)]) (f_at inc_59 (j := 17) rfl) (by decide) MT_57 rfl rfl rfl ⟨Nat.le_of_ble_eq_true rfl, Nat.le_of_ble_eq_true rfl, Nat.le_of_ble_eq_true rfl⟩ sh_155 (f_lt (o := 155) (m := 166) (Nat.le_of_ble_eq_true rfl) hN)) MT_57 (G_57 hN (0 : Int32) (9 : Int32) t5) ⟨rfl, rfl, rfl⟩ fun t6 => ?_
    refine i_istore_n (pc' := 32) (ls' := [.ref 155, .int t6.1]) (f_at inc_59 (j := 18) rfl) (Nat.le_of_ble_eq_true rfl) rfl rfl ?_
    refine i_aload_n (pc' := 33) (f_at inc_59 (j := 19) rfl) rfl rfl ?_
    refine i_getI (pc' := 36) (f_at inc_59 (j := 20) rfl) sh_155 rfl (f_lt (o := 155) (m := 166) (Nat.le_of_ble_eq_true rfl) hN) rfl ?_
    refine s_join (J := 44) (fun (t7 : f_M) (u7 : Unit) => [.ref 155, .int t6.1]) (fun t7 => []) (fun t7 => t7) ?_ ?_
    · intro t7 u7
      exact i_vret (f_at inc_59 (j := 25) rfl) rfl
    · intro k7 hj7
      refine i_if0 (pc' := 44) (nx := 39) c0_ne (f_at inc_59 (j := 21) rfl) ⟨by decide, rfl⟩ (fun b9 => ?_) (fun b9 => ?_)
      · exact hj7 t6.2 ()
      · refine i_aload_n (pc' := 40) (f_at inc_59 (j := 22) rfl) rfl rfl ?_
        refine i_iload_n (pc' := 41) (f_at inc_59 (j := 23) rfl) rfl rfl ?_
        refine c_wv (pc' := 44) (c' := 0) (n' := 0) (h_virt (ra := [.int t6.1, .ref 155]) (r := []) (as := [.int t6.1]) (f_at inc_59 (j := 24) rfl) (by decide) MT_38 rfl rfl rfl ⟨Nat.le_of_ble_eq_true rfl, Nat.le_of_ble_eq_true rfl, Nat.le_of_ble_eq_true rfl⟩ sh_155 (f_lt (o := 155) (m := 166) (Nat.le_of_ble_eq_true rfl) hN)) MT_38 (G_38 hN t6.1 t6.2) ⟨rfl, rfl, rfl⟩ fun t8 => ?_
        exact hj7 t8 ()
  · intro k2 hj2
    refine i_if2 (pc' := 15) (nx := 11) c2_ge (f_at inc_59 (j := 6) rfl) ⟨by decide, rfl⟩ (fun b3 => ?_) (fun b3 => ?_)
    · refine i_iconst (pc' := 16) (f_at inc_59 (j := 9) rfl) ci_0 rfl ?_
      exact hj2 false ()
    · refine i_iconst (pc' := 12) (f_at inc_59 (j := 7) rfl) ci_1 rfl ?_
      refine i_goto (pc' := 16) (f_at inc_59 (j := 8) rfl) (by decide) ?_
      exact hj2 true ()
set_option maxRecDepth 4000 in
def g_60  (σ : f_M) : Option (f_M) :=
  (g_51  σ).bind fun t1 =>
  (g_57 (0 : Int32) (9999 : Int32) t1).bind fun t2 =>
  (
   if ¬ (t2.2 155 17) = 0 then (
    some t2.2
   ) else (
    (f_wr t2.2 156 2420 (1 : Int32) t2.1).bind fun m4 =>
    some m4
   )
  ).bind fun (t3 : f_M) =>
  some t3
set_option maxRecDepth 4000 in
theorem G_60 {xs : Nat → Int32} {L N : Nat} (hN : 166 ≤ N)   (σ : f_M) : f_Cal a_MT xs L N 60 [.ref 155] σ ((g_60  σ).bind fun t => some (e_wv t)) := by
  refine f_cal_of (ls := [.ref 155, a_dead]) MT_60 (Nat.le_of_ble_eq_true rfl) rfl ?_
  unfold g_60
  refine i_aload_n (pc' := 1) (f_at inc_60 (j := 0) rfl) rfl rfl ?_
  refine c_wv (pc' := 4) (c' := 0) (n' := 0) (h_virt (ra := [.ref 155]) (r := []) (as := []) (f_at inc_60 (j := 1) rfl) (by decide) MT_51 rfl rfl rfl ⟨Nat.le_of_ble_eq_true rfl, Nat.le_of_ble_eq_true rfl, Nat.le_of_ble_eq_true rfl⟩ sh_155 (f_lt (o := 155) (m := 166) (Nat.le_of_ble_eq_true rfl) hN)) MT_51 (G_51 hN  σ) ⟨rfl, rfl, rfl⟩ fun t1 => ?_
  refine i_aload_n (pc' := 5) (f_at inc_60 (j := 2) rfl) rfl rfl ?_
  refine i_iconst (pc' := 6) (f_at inc_60 (j := 3) rfl) ci_0 rfl ?_
  refine i_sipush (pc' := 9) (f_at inc_60 (j := 4) rfl) cs_9999 rfl ?_
  refine c_wi (pc' := 12) (c' := 0) (n' := 0) (h_virt (ra := [.int (9999 : Int32), .int (0 : Int32), .ref 155]) (r := []) (as := [.int (0 : Int32), .int (9999 : Int32)]) (f_at inc_60 (j := 5) rfl) (by decide) MT_57 rfl rfl rfl ⟨Nat.le_of_ble_eq_true rfl, Nat.le_of_ble_eq_true rfl, Nat.le_of_ble_eq_true rfl⟩ sh_155 (f_lt (o := 155) (m := 166) (Nat.le_of_ble_eq_true rfl) hN)) MT_57 (G_57 hN (0 : Int32) (9999 : Int32) t1) ⟨rfl, rfl, rfl⟩ fun t2 => ?_
  refine i_istore_n (pc' := 13) (ls' := [.ref 155, .int t2.1]) (f_at inc_60 (j := 6) rfl) (Nat.le_of_ble_eq_true rfl) rfl rfl ?_
  refine i_aload_n (pc' := 14) (f_at inc_60 (j := 7) rfl) rfl rfl ?_
  refine i_getI (pc' := 17) (f_at inc_60 (j := 8) rfl) sh_155 rfl (f_lt (o := 155) (m := 166) (Nat.le_of_ble_eq_true rfl) hN) rfl ?_
  refine s_join (J := 27) (fun (t3 : f_M) (u3 : Unit) => [.ref 155, .int t2.1]) (fun t3 => []) (fun t3 => t3) ?_ ?_
  · intro t3 u3
    exact i_vret (f_at inc_60 (j := 15) rfl) rfl
  · intro k3 hj3
    refine i_if0 (pc' := 27) (nx := 20) c0_ne (f_at inc_60 (j := 9) rfl) ⟨by decide, rfl⟩ (fun b5 => ?_) (fun b5 => ?_)
    · exact hj3 t2.2 ()
    · refine i_aload_n (pc' := 21) (f_at inc_60 (j := 10) rfl) rfl rfl ?_
      refine i_getR (pc' := 24) (f_at inc_60 (j := 11) rfl) sh_155 rfl (f_lt (o := 155) (m := 166) (Nat.le_of_ble_eq_true rfl) hN) rfl ?_
      refine i_iconst (pc' := 25) (f_at inc_60 (j := 12) rfl) ci_1 rfl ?_
      refine i_iload_n (pc' := 26) (f_at inc_60 (j := 13) rfl) rfl rfl ?_
      refine i_iast (pc' := 27) (f_at inc_60 (j := 14) rfl) sh_156 (f_lt (o := 156) (m := 166) (Nat.le_of_ble_eq_true rfl) hN) rfl fun m4 => ?_
      exact hj3 m4 ()
set_option maxRecDepth 4000 in
def g_61  (σ : f_M) : Option (f_M) :=
  (
   if ¬ (σ 155 15) = (3 : Int32) then (
    some false
   ) else (
    some true
   )
  ).bind fun (t1 : Bool) =>
  (g_54 t1 (1 : Int32) σ).bind fun t3 =>
  (g_51  t3).bind fun t4 =>
  some t4
set_option maxRecDepth 4000 in
theorem G_61 {xs : Nat → Int32} {L N : Nat} (hN : 166 ≤ N)   (σ : f_M) : f_Cal a_MT xs L N 61 [.ref 155] σ ((g_61  σ).bind fun t => some (e_wv t)) := by
  refine f_cal_of (ls := [.ref 155]) MT_61 (Nat.le_of_ble_eq_true rfl) rfl ?_
  unfold g_61
  refine i_aload_n (pc' := 1) (f_at inc_61 (j := 0) rfl) rfl rfl ?_
  refine i_aload_n (pc' := 2) (f_at inc_61 (j := 1) rfl) rfl rfl ?_
  refine i_getI (pc' := 5) (f_at inc_61 (j := 2) rfl) sh_155 rfl (f_lt (o := 155) (m := 166) (Nat.le_of_ble_eq_true rfl) hN) rfl ?_
  refine i_iconst (pc' := 6) (f_at inc_61 (j := 3) rfl) ci_3 rfl ?_
  refine s_join (J := 14) (fun (t1 : Bool) (u1 : Unit) => [.ref 155]) (fun t1 => [.int (f_b t1), .ref 155]) (fun t1 => σ) ?_ ?_
  · intro t1 u1
    refine i_iconst (pc' := 15) (f_at inc_61 (j := 8) rfl) ci_1 rfl ?_
    refine c_wv (pc' := 18) (c' := 0) (n' := 0) (h_virt (ra := [.int (1 : Int32), .int (f_b t1), .ref 155]) (r := []) (as := [.int (f_b t1), .int (1 : Int32)]) (f_at inc_61 (j := 9) rfl) (by decide) MT_54 rfl rfl rfl ⟨Nat.le_of_ble_eq_true rfl, Nat.le_of_ble_eq_true rfl, Nat.le_of_ble_eq_true rfl⟩ sh_155 (f_lt (o := 155) (m := 166) (Nat.le_of_ble_eq_true rfl) hN)) MT_54 (G_54 hN t1 (1 : Int32) σ) ⟨rfl, rfl, rfl⟩ fun t3 => ?_
    refine i_aload_n (pc' := 19) (f_at inc_61 (j := 10) rfl) rfl rfl ?_
    refine c_wv (pc' := 22) (c' := 0) (n' := 0) (h_virt (ra := [.ref 155]) (r := []) (as := []) (f_at inc_61 (j := 11) rfl) (by decide) MT_51 rfl rfl rfl ⟨Nat.le_of_ble_eq_true rfl, Nat.le_of_ble_eq_true rfl, Nat.le_of_ble_eq_true rfl⟩ sh_155 (f_lt (o := 155) (m := 166) (Nat.le_of_ble_eq_true rfl) hN)) MT_51 (G_51 hN  t3) ⟨rfl, rfl, rfl⟩ fun t4 => ?_
    exact i_vret (f_at inc_61 (j := 12) rfl) rfl
  · intro k1 hj1
    refine i_if2 (pc' := 13) (nx := 9) c2_ne (f_at inc_61 (j := 4) rfl) ⟨by decide, rfl⟩ (fun b2 => ?_) (fun b2 => ?_)
    · refine i_iconst (pc' := 14) (f_at inc_61 (j := 7) rfl) ci_0 rfl ?_
      exact hj1 false ()
    · refine i_iconst (pc' := 10) (f_at inc_61 (j := 5) rfl) ci_1 rfl ?_
      refine i_goto (pc' := 14) (f_at inc_61 (j := 6) rfl) (by decide) ?_
      exact hj1 true ()
set_option maxRecDepth 4000 in
def g_62  (σ : f_M) : Option (f_M) :=
  (g_53 2 σ).bind fun t1 =>
  (
   if t1 = false then (
    (g_53 3 σ).bind fun t3 =>
    if t3 = false then (
     (g_53 4 σ).bind fun t4 =>
     if t4 = false then (
      (g_54 false (1 : Int32) σ).bind fun t5 =>
      some t5
     ) else (
      (g_60  σ).bind fun t6 =>
      some t6
     )
    ) else (
     (g_59  σ).bind fun t8 =>
     some t8
    )
   ) else (
    (g_58  σ).bind fun t10 =>
    some t10
   )
  ).bind fun (t2 : f_M) =>
  (g_61  t2).bind fun t12 =>
  some t12
set_option maxRecDepth 4000 in
theorem G_62 {xs : Nat → Int32} {L N : Nat} (hN : 166 ≤ N)   (σ : f_M) : f_Cal a_MT xs L N 62 [.ref 155] σ ((g_62  σ).bind fun t => some (e_wv t)) := by
  refine f_cal_of (ls := [.ref 155]) MT_62 (Nat.le_of_ble_eq_true rfl) rfl ?_
  unfold g_62
  refine i_aload_n (pc' := 1) (f_at inc_62 (j := 0) rfl) rfl rfl ?_
  refine i_ldc (pc' := 3) (f_at inc_62 (j := 1) rfl) rfl ?_
  refine c_pb (pc' := 6) (c' := 0) (n' := 0) (h_virt (ra := [.ref (a_big + 1 + 2), .ref 155]) (r := []) (as := [.ref (a_big + 1 + 2)]) (f_at inc_62 (j := 2) rfl) (by decide) MT_53 rfl rfl rfl ⟨Nat.le_of_ble_eq_true rfl, Nat.le_of_ble_eq_true rfl, Nat.le_of_ble_eq_true rfl⟩ sh_155 (f_lt (o := 155) (m := 166) (Nat.le_of_ble_eq_true rfl) hN)) MT_53 (G_53 hN 2 (by decide) σ) ⟨rfl, rfl, rfl⟩ fun t1 => ?_
  refine s_join (J := 55) (fun (t2 : f_M) (u2 : Unit) => [.ref 155]) (fun t2 => []) (fun t2 => t2) ?_ ?_
  · intro t2 u2
    refine i_aload_n (pc' := 56) (f_at inc_62 (j := 25) rfl) rfl rfl ?_
    refine c_wv (pc' := 59) (c' := 0) (n' := 0) (h_virt (ra := [.ref 155]) (r := []) (as := []) (f_at inc_62 (j := 26) rfl) (by decide) MT_61 rfl rfl rfl ⟨Nat.le_of_ble_eq_true rfl, Nat.le_of_ble_eq_true rfl, Nat.le_of_ble_eq_true rfl⟩ sh_155 (f_lt (o := 155) (m := 166) (Nat.le_of_ble_eq_true rfl) hN)) MT_61 (G_61 hN  t2) ⟨rfl, rfl, rfl⟩ fun t12 => ?_
    exact i_vret (f_at inc_62 (j := 27) rfl) rfl
  · intro k2 hj2
    refine i_if0 (pc' := 16) (nx := 9) cb_eq (f_at inc_62 (j := 3) rfl) ⟨by decide, rfl⟩ (fun b11 => ?_) (fun b11 => ?_)
    · refine i_aload_n (pc' := 17) (f_at inc_62 (j := 7) rfl) rfl rfl ?_
      refine i_ldc (pc' := 19) (f_at inc_62 (j := 8) rfl) rfl ?_
      refine c_pb (pc' := 22) (c' := 0) (n' := 0) (h_virt (ra := [.ref (a_big + 1 + 3), .ref 155]) (r := []) (as := [.ref (a_big + 1 + 3)]) (f_at inc_62 (j := 9) rfl) (by decide) MT_53 rfl rfl rfl ⟨Nat.le_of_ble_eq_true rfl, Nat.le_of_ble_eq_true rfl, Nat.le_of_ble_eq_true rfl⟩ sh_155 (f_lt (o := 155) (m := 166) (Nat.le_of_ble_eq_true rfl) hN)) MT_53 (G_53 hN 3 (by decide) σ) ⟨rfl, rfl, rfl⟩ fun t3 => ?_
      refine i_if0 (pc' := 32) (nx := 25) cb_eq (f_at inc_62 (j := 10) rfl) ⟨by decide, rfl⟩ (fun b9 => ?_) (fun b9 => ?_)
      · refine i_aload_n (pc' := 33) (f_at inc_62 (j := 14) rfl) rfl rfl ?_
        refine i_ldc_w (pc' := 36) (f_at inc_62 (j := 15) rfl) rfl ?_
        refine c_pb (pc' := 39) (c' := 0) (n' := 0) (h_virt (ra := [.ref (a_big + 1 + 4), .ref 155]) (r := []) (as := [.ref (a_big + 1 + 4)]) (f_at inc_62 (j := 16) rfl) (by decide) MT_53 rfl rfl rfl ⟨Nat.le_of_ble_eq_true rfl, Nat.le_of_ble_eq_true rfl, Nat.le_of_ble_eq_true rfl⟩ sh_155 (f_lt (o := 155) (m := 166) (Nat.le_of_ble_eq_true rfl) hN)) MT_53 (G_53 hN 4 (by decide) σ) ⟨rfl, rfl, rfl⟩ fun t4 => ?_
        refine i_if0 (pc' := 49) (nx := 42) cb_eq (f_at inc_62 (j := 17) rfl) ⟨by decide, rfl⟩ (fun b7 => ?_) (fun b7 => ?_)
        · refine i_aload_n (pc' := 50) (f_at inc_62 (j := 21) rfl) rfl rfl ?_
          refine i_iconst (pc' := 51) (f_at inc_62 (j := 22) rfl) ci_0 rfl ?_
          refine i_iconst (pc' := 52) (f_at inc_62 (j := 23) rfl) ci_1 rfl ?_
          refine c_wv (pc' := 55) (c' := 0) (n' := 0) (h_virt (ra := [.int (1 : Int32), .int (0 : Int32), .ref 155]) (r := []) (as := [.int (0 : Int32), .int (1 : Int32)]) (f_at inc_62 (j := 24) rfl) (by decide) MT_54 rfl rfl rfl ⟨Nat.le_of_ble_eq_true rfl, Nat.le_of_ble_eq_true rfl, Nat.le_of_ble_eq_true rfl⟩ sh_155 (f_lt (o := 155) (m := 166) (Nat.le_of_ble_eq_true rfl) hN)) MT_54 (G_54 hN false (1 : Int32) σ) ⟨rfl, rfl, rfl⟩ fun t5 => ?_
          exact hj2 t5 ()
        · refine i_aload_n (pc' := 43) (f_at inc_62 (j := 18) rfl) rfl rfl ?_
          refine c_wv (pc' := 46) (c' := 0) (n' := 0) (h_virt (ra := [.ref 155]) (r := []) (as := []) (f_at inc_62 (j := 19) rfl) (by decide) MT_60 rfl rfl rfl ⟨Nat.le_of_ble_eq_true rfl, Nat.le_of_ble_eq_true rfl, Nat.le_of_ble_eq_true rfl⟩ sh_155 (f_lt (o := 155) (m := 166) (Nat.le_of_ble_eq_true rfl) hN)) MT_60 (G_60 hN  σ) ⟨rfl, rfl, rfl⟩ fun t6 => ?_
          refine i_goto (pc' := 55) (f_at inc_62 (j := 20) rfl) (by decide) ?_
          exact hj2 t6 ()
      · refine i_aload_n (pc' := 26) (f_at inc_62 (j := 11) rfl) rfl rfl ?_
        refine c_wv (pc' := 29) (c' := 0) (n' := 0) (h_virt (ra := [.ref 155]) (r := []) (as := []) (f_at inc_62 (j := 12) rfl) (by decide) MT_59 rfl rfl rfl ⟨Nat.le_of_ble_eq_true rfl, Nat.le_of_ble_eq_true rfl, Nat.le_of_ble_eq_true rfl⟩ sh_155 (f_lt (o := 155) (m := 166) (Nat.le_of_ble_eq_true rfl) hN)) MT_59 (G_59 hN  σ) ⟨rfl, rfl, rfl⟩ fun t8 => ?_
        refine i_goto (pc' := 55) (f_at inc_62 (j := 13) rfl) (by decide) ?_
        exact hj2 t8 ()
    · refine i_aload_n (pc' := 10) (f_at inc_62 (j := 4) rfl) rfl rfl ?_
      refine c_wv (pc' := 13) (c' := 0) (n' := 0) (h_virt (ra := [.ref 155]) (r := []) (as := []) (f_at inc_62 (j := 5) rfl) (by decide) MT_58 rfl rfl rfl ⟨Nat.le_of_ble_eq_true rfl, Nat.le_of_ble_eq_true rfl, Nat.le_of_ble_eq_true rfl⟩ sh_155 (f_lt (o := 155) (m := 166) (Nat.le_of_ble_eq_true rfl) hN)) MT_58 (G_58 hN  σ) ⟨rfl, rfl, rfl⟩ fun t10 => ?_
      refine i_goto (pc' := 55) (f_at inc_62 (j := 6) rfl) (by decide) ?_
      exact hj2 t10 ()
set_option maxRecDepth 4000 in
def g_63  (σ : f_M) : Option (f_M) :=
  (
   if ¬ ((f_up σ 155 11 (σ 155 17)) 155 17) = 0 then (
    some ((f_up σ 155 11 (σ 155 17)) 155 18)
   ) else (
    some (-1 : Int32)
   )
  ).bind fun (t1 : Int32) =>
  some (f_up (f_up (f_up σ 155 11 (σ 155 17)) 155 12 t1) 155 10 (0 : Int32))
set_option maxRecDepth 4000 in
theorem G_63 {xs : Nat → Int32} {L N : Nat} (hN : 166 ≤ N)   (σ : f_M) : f_Cal a_MT xs L N 63 [.ref 155] σ ((g_63  σ).bind fun t => some (e_wv t)) := by
  refine f_cal_of (ls := [.ref 155]) MT_63 (Nat.le_of_ble_eq_true rfl) rfl ?_
  unfold g_63
  refine i_aload_n (pc' := 1) (f_at inc_63 (j := 0) rfl) rfl rfl ?_
  refine i_aload_n (pc' := 2) (f_at inc_63 (j := 1) rfl) rfl rfl ?_
  refine i_getI (pc' := 5) (f_at inc_63 (j := 2) rfl) sh_155 rfl (f_lt (o := 155) (m := 166) (Nat.le_of_ble_eq_true rfl) hN) rfl ?_
  refine i_putI (pc' := 8) (f_at inc_63 (j := 3) rfl) sh_155 rfl ⟨rfl, rfl⟩ (f_lt (o := 155) (m := 166) (Nat.le_of_ble_eq_true rfl) hN) rfl ?_
  refine i_aload_n (pc' := 9) (f_at inc_63 (j := 4) rfl) rfl rfl ?_
  refine i_aload_n (pc' := 10) (f_at inc_63 (j := 5) rfl) rfl rfl ?_
  refine i_getI (pc' := 13) (f_at inc_63 (j := 6) rfl) sh_155 rfl (f_lt (o := 155) (m := 166) (Nat.le_of_ble_eq_true rfl) hN) rfl ?_
  refine s_join (J := 24) (fun (t1 : Int32) (u1 : Unit) => [.ref 155]) (fun t1 => [.int t1, .ref 155]) (fun t1 => (f_up σ 155 11 (σ 155 17))) ?_ ?_
  · intro t1 u1
    refine i_putI (pc' := 27) (f_at inc_63 (j := 12) rfl) sh_155 rfl ⟨rfl, rfl⟩ (f_lt (o := 155) (m := 166) (Nat.le_of_ble_eq_true rfl) hN) rfl ?_
    refine i_aload_n (pc' := 28) (f_at inc_63 (j := 13) rfl) rfl rfl ?_
    refine i_iconst (pc' := 29) (f_at inc_63 (j := 14) rfl) ci_0 rfl ?_
    refine i_putI (pc' := 32) (f_at inc_63 (j := 15) rfl) sh_155 rfl ⟨rfl, rfl⟩ (f_lt (o := 155) (m := 166) (Nat.le_of_ble_eq_true rfl) hN) rfl ?_
    exact i_vret (f_at inc_63 (j := 16) rfl) rfl
  · intro k1 hj1
    refine i_if0 (pc' := 20) (nx := 16) c0_ne (f_at inc_63 (j := 7) rfl) ⟨by decide, rfl⟩ (fun b2 => ?_) (fun b2 => ?_)
    · refine i_aload_n (pc' := 21) (f_at inc_63 (j := 10) rfl) rfl rfl ?_
      refine i_getI (pc' := 24) (f_at inc_63 (j := 11) rfl) sh_155 rfl (f_lt (o := 155) (m := 166) (Nat.le_of_ble_eq_true rfl) hN) rfl ?_
      exact hj1 ((f_up σ 155 11 (σ 155 17)) 155 18) ()
    · refine i_iconst (pc' := 17) (f_at inc_63 (j := 8) rfl) ci_m1 rfl ?_
      refine i_goto (pc' := 24) (f_at inc_63 (j := 9) rfl) (by decide) ?_
      exact hj1 (-1 : Int32) ()
set_option maxRecDepth 4000 in
def g_64 (a1 : Nat) (σ : f_M) : Option (f_M) :=
  (f_lp (fun (s1 : Int32 × f_M) =>
   if (2420 : Int32) ≤ s1.1 then (
    some (.inr s1.2)
   ) else (
    (f_rd s1.2 a1 2420 s1.1).bind fun v2 =>
    (f_wr s1.2 156 2420 s1.1 v2).bind fun m3 =>
    some (.inl ((s1.1 + (1 : Int32)), m3))
   )
  ) f_F ((0 : Int32), σ)).bind fun (x1 : f_M) =>
  some x1
set_option maxRecDepth 4000 in
theorem G_64 {xs : Nat → Int32} {L N : Nat} (hN : 166 ≤ N) (a1 : Nat) (ha1 : f_T a1) (σ : f_M) : f_Cal a_MT xs L N 64 [.ref 155, .ref a1] σ ((g_64 a1 σ).bind fun t => some (e_wv t)) := by
  refine f_cal_of (ls := [.ref 155, .ref a1, a_dead]) MT_64 (Nat.le_of_ble_eq_true rfl) rfl ?_
  unfold g_64
  refine i_iconst (pc' := 1) (f_at inc_64 (j := 0) rfl) ci_0 rfl ?_
  refine i_istore_n (pc' := 2) (ls' := [.ref 155, .ref a1, .int (0 : Int32)]) (f_at inc_64 (j := 1) rfl) (Nat.le_of_ble_eq_true rfl) rfl rfl ?_
  refine s_lX (X := 24) ((0 : Int32), σ) () (fun (s1 : Int32 × f_M) (u1 : Unit) => [.ref 155, .ref a1, .int s1.1]) (fun (s1 : Int32 × f_M) => s1.2) (fun (x1 : f_M) (w1 : Value) => [.ref 155, .ref a1, w1]) (fun (x1 : f_M) => x1) ?_ ?_
  · intro x1 w1
    exact i_vret (f_at inc_64 (j := 14) rfl) rfl
  · intro s1 u1 k1 hb1 hx1
    refine i_iload_n (pc' := 3) (f_at inc_64 (j := 2) rfl) rfl rfl ?_
    refine i_sipush (pc' := 6) (f_at inc_64 (j := 3) rfl) cs_2420 rfl ?_
    refine i_if2 (pc' := 24) (nx := 9) c2_ge (f_at inc_64 (j := 4) rfl) ⟨by decide, rfl⟩ (fun b4 => ?_) (fun b4 => ?_)
    · exact hx1 s1.2 (.int s1.1)
    · refine i_aload_n (pc' := 10) (f_at inc_64 (j := 5) rfl) rfl rfl ?_
      refine i_getR (pc' := 13) (f_at inc_64 (j := 6) rfl) sh_155 rfl (f_lt (o := 155) (m := 166) (Nat.le_of_ble_eq_true rfl) hN) rfl ?_
      refine i_iload_n (pc' := 14) (f_at inc_64 (j := 7) rfl) rfl rfl ?_
      refine i_aload_n (pc' := 15) (f_at inc_64 (j := 8) rfl) rfl rfl ?_
      refine i_iload_n (pc' := 16) (f_at inc_64 (j := 9) rfl) rfl rfl ?_
      refine i_iald (pc' := 17) (f_at inc_64 (j := 10) rfl) ha1.1 (f_bgT ha1) (f_ltT ha1 hN) rfl fun v2 => ?_
      refine i_iast (pc' := 18) (f_at inc_64 (j := 11) rfl) sh_156 (f_lt (o := 156) (m := 166) (Nat.le_of_ble_eq_true rfl) hN) rfl fun m3 => ?_
      refine i_iinc (pc' := 21) (ls' := [.ref 155, .ref a1, .int (s1.1 + (1 : Int32))]) (f_at inc_64 (j := 12) rfl) rfl ci_1 rfl rfl ?_
      refine i_goto (pc' := 2) (f_at inc_64 (j := 13) rfl) (by decide) ?_
      exact hb1 ((s1.1 + (1 : Int32)), m3) ()
set_option maxRecDepth 4000 in
def g_65  (σ : f_M) : Option (Int32 × f_M) :=
  (g_48 157 (f_up σ 155 6 (0 : Int32))).bind fun t1 =>
  (g_35  t1).bind fun t2 =>
  (g_52  t2).bind fun t3 =>
  (f_lp (fun (s4 : f_M) =>
   if ¬ (s4 155 17) = 0 then (
    some (.inr s4)
   ) else (
    if (s4 155 15) = 0 then (
     some (.inr s4)
    ) else (
     (g_62  s4).bind fun t5 =>
     some (.inl t5)
    )
   )
  ) f_F t3).bind fun (x4 : f_M) =>
  (f_rd x4 156 2420 (2 : Int32)).bind fun v8 =>
  (
   if v8 ≤ 0 then (
    some false
   ) else (
    (f_rd x4 156 2420 (3 : Int32)).bind fun v10 =>
    if v10 ≤ 0 then (
     some false
    ) else (
     some true
    )
   )
  ).bind fun (t9 : Bool) =>
  (g_54 t9 (5 : Int32) x4).bind fun t13 =>
  (g_63  t13).bind fun t14 =>
  if (t14 155 17) ≤ 0 then (
   (g_39  t14).bind fun t15 =>
   (f_wr t14 156 2420 (9 : Int32) t15).bind fun m16 =>
   (f_rd (f_up (f_up m16 155 4 (0 : Int32)) 155 5 (0 : Int32)) 156 2420 (2 : Int32)).bind fun v17 =>
   some (v17, (f_up (f_up m16 155 4 (0 : Int32)) 155 5 (0 : Int32)))
  ) else (
   (g_64 157 t14).bind fun t18 =>
   some ((-1 : Int32), t18)
  )
set_option maxRecDepth 4000 in
theorem G_65 {xs : Nat → Int32} {L N : Nat} (hN : 166 ≤ N)   (σ : f_M) : f_Cal a_MT xs L N 65 [.ref 155] σ ((g_65  σ).bind fun t => some (e_wi t)) := by
  refine f_cal_of (ls := [.ref 155]) MT_65 (Nat.le_of_ble_eq_true rfl) rfl ?_
  unfold g_65
  refine i_aload_n (pc' := 1) (f_at inc_65 (j := 0) rfl) rfl rfl ?_
  refine i_iconst (pc' := 2) (f_at inc_65 (j := 1) rfl) ci_0 rfl ?_
  refine i_putI (pc' := 5) (f_at inc_65 (j := 2) rfl) sh_155 rfl ⟨rfl, rfl⟩ (f_lt (o := 155) (m := 166) (Nat.le_of_ble_eq_true rfl) hN) rfl ?_
  refine i_aload_n (pc' := 6) (f_at inc_65 (j := 3) rfl) rfl rfl ?_
  refine i_aload_n (pc' := 7) (f_at inc_65 (j := 4) rfl) rfl rfl ?_
  refine i_getR (pc' := 10) (f_at inc_65 (j := 5) rfl) sh_155 rfl (f_lt (o := 155) (m := 166) (Nat.le_of_ble_eq_true rfl) hN) rfl ?_
  refine c_wv (pc' := 13) (c' := 0) (n' := 0) (h_virt (ra := [.ref 157, .ref 155]) (r := []) (as := [.ref 157]) (f_at inc_65 (j := 6) rfl) (by decide) MT_48 rfl rfl rfl ⟨Nat.le_of_ble_eq_true rfl, Nat.le_of_ble_eq_true rfl, Nat.le_of_ble_eq_true rfl⟩ sh_155 (f_lt (o := 155) (m := 166) (Nat.le_of_ble_eq_true rfl) hN)) MT_48 (G_48 hN 157 f_T157 (f_up σ 155 6 (0 : Int32))) ⟨rfl, rfl, rfl⟩ fun t1 => ?_
  refine i_aload_n (pc' := 14) (f_at inc_65 (j := 7) rfl) rfl rfl ?_
  refine c_wv (pc' := 17) (c' := 0) (n' := 0) (h_virt (ra := [.ref 155]) (r := []) (as := []) (f_at inc_65 (j := 8) rfl) (by decide) MT_35 rfl rfl rfl ⟨Nat.le_of_ble_eq_true rfl, Nat.le_of_ble_eq_true rfl, Nat.le_of_ble_eq_true rfl⟩ sh_155 (f_lt (o := 155) (m := 166) (Nat.le_of_ble_eq_true rfl) hN)) MT_35 (G_35 hN  t1) ⟨rfl, rfl, rfl⟩ fun t2 => ?_
  refine i_aload_n (pc' := 18) (f_at inc_65 (j := 9) rfl) rfl rfl ?_
  refine c_wv (pc' := 21) (c' := 0) (n' := 0) (h_virt (ra := [.ref 155]) (r := []) (as := []) (f_at inc_65 (j := 10) rfl) (by decide) MT_52 rfl rfl rfl ⟨Nat.le_of_ble_eq_true rfl, Nat.le_of_ble_eq_true rfl, Nat.le_of_ble_eq_true rfl⟩ sh_155 (f_lt (o := 155) (m := 166) (Nat.le_of_ble_eq_true rfl) hN)) MT_52 (G_52 hN  t2) ⟨rfl, rfl, rfl⟩ fun t3 => ?_
  refine s_lX (X := 42) t3 () (fun (s4 : f_M) (u4 : Unit) => [.ref 155]) (fun (s4 : f_M) => s4) (fun (x4 : f_M) (w4 : Unit) => [.ref 155]) (fun (x4 : f_M) => x4) ?_ ?_
  · intro x4 w4
    refine i_aload_n (pc' := 43) (f_at inc_65 (j := 20) rfl) rfl rfl ?_
    refine i_aload_n (pc' := 44) (f_at inc_65 (j := 21) rfl) rfl rfl ?_
    refine i_getR (pc' := 47) (f_at inc_65 (j := 22) rfl) sh_155 rfl (f_lt (o := 155) (m := 166) (Nat.le_of_ble_eq_true rfl) hN) rfl ?_
    refine i_iconst (pc' := 48) (f_at inc_65 (j := 23) rfl) ci_2 rfl ?_
    refine i_iald (pc' := 49) (f_at inc_65 (j := 24) rfl) sh_156 (f_bg (Nat.le_of_ble_eq_true rfl)) (f_lt (o := 156) (m := 166) (Nat.le_of_ble_eq_true rfl) hN) rfl fun v8 => ?_
    refine s_join (J := 66) (fun (t9 : Bool) (u9 : Unit) => [.ref 155]) (fun t9 => [.int (f_b t9), .ref 155]) (fun t9 => x4) ?_ ?_
    · intro t9 u9
      refine i_iconst (pc' := 67) (f_at inc_65 (j := 34) rfl) ci_5 rfl ?_
      refine c_wv (pc' := 70) (c' := 0) (n' := 0) (h_virt (ra := [.int (5 : Int32), .int (f_b t9), .ref 155]) (r := []) (as := [.int (f_b t9), .int (5 : Int32)]) (f_at inc_65 (j := 35) rfl) (by decide) MT_54 rfl rfl rfl ⟨Nat.le_of_ble_eq_true rfl, Nat.le_of_ble_eq_true rfl, Nat.le_of_ble_eq_true rfl⟩ sh_155 (f_lt (o := 155) (m := 166) (Nat.le_of_ble_eq_true rfl) hN)) MT_54 (G_54 hN t9 (5 : Int32) x4) ⟨rfl, rfl, rfl⟩ fun t13 => ?_
      refine i_aload_n (pc' := 71) (f_at inc_65 (j := 36) rfl) rfl rfl ?_
      refine c_wv (pc' := 74) (c' := 0) (n' := 0) (h_virt (ra := [.ref 155]) (r := []) (as := []) (f_at inc_65 (j := 37) rfl) (by decide) MT_63 rfl rfl rfl ⟨Nat.le_of_ble_eq_true rfl, Nat.le_of_ble_eq_true rfl, Nat.le_of_ble_eq_true rfl⟩ sh_155 (f_lt (o := 155) (m := 166) (Nat.le_of_ble_eq_true rfl) hN)) MT_63 (G_63 hN  t13) ⟨rfl, rfl, rfl⟩ fun t14 => ?_
      refine i_aload_n (pc' := 75) (f_at inc_65 (j := 38) rfl) rfl rfl ?_
      refine i_getI (pc' := 78) (f_at inc_65 (j := 39) rfl) sh_155 rfl (f_lt (o := 155) (m := 166) (Nat.le_of_ble_eq_true rfl) hN) rfl ?_
      refine i_if0 (pc' := 91) (nx := 81) c0_le (f_at inc_65 (j := 40) rfl) ⟨by decide, rfl⟩ (fun b19 => ?_) (fun b19 => ?_)
      · refine i_aload_n (pc' := 92) (f_at inc_65 (j := 47) rfl) rfl rfl ?_
        refine i_getR (pc' := 95) (f_at inc_65 (j := 48) rfl) sh_155 rfl (f_lt (o := 155) (m := 166) (Nat.le_of_ble_eq_true rfl) hN) rfl ?_
        refine i_bipush (pc' := 97) (f_at inc_65 (j := 49) rfl) cb_9 rfl ?_
        refine i_aload_n (pc' := 98) (f_at inc_65 (j := 50) rfl) rfl rfl ?_
        refine c_pi (pc' := 101) (c' := 0) (n' := 0) (h_virt (ra := [.ref 155]) (r := [.int (9 : Int32), .ref 156]) (as := []) (f_at inc_65 (j := 51) rfl) (by decide) MT_39 rfl rfl rfl ⟨Nat.le_of_ble_eq_true rfl, Nat.le_of_ble_eq_true rfl, Nat.le_of_ble_eq_true rfl⟩ sh_155 (f_lt (o := 155) (m := 166) (Nat.le_of_ble_eq_true rfl) hN)) MT_39 (G_39 hN  t14) ⟨rfl, rfl, rfl⟩ fun t15 => ?_
        refine i_iast (pc' := 102) (f_at inc_65 (j := 52) rfl) sh_156 (f_lt (o := 156) (m := 166) (Nat.le_of_ble_eq_true rfl) hN) rfl fun m16 => ?_
        refine i_aload_n (pc' := 103) (f_at inc_65 (j := 53) rfl) rfl rfl ?_
        refine i_iconst (pc' := 104) (f_at inc_65 (j := 54) rfl) ci_0 rfl ?_
        refine i_putI (pc' := 107) (f_at inc_65 (j := 55) rfl) sh_155 rfl ⟨rfl, rfl⟩ (f_lt (o := 155) (m := 166) (Nat.le_of_ble_eq_true rfl) hN) rfl ?_
        refine i_aload_n (pc' := 108) (f_at inc_65 (j := 56) rfl) rfl rfl ?_
        refine i_iconst (pc' := 109) (f_at inc_65 (j := 57) rfl) ci_0 rfl ?_
        refine i_putI (pc' := 112) (f_at inc_65 (j := 58) rfl) sh_155 rfl (by decide) (f_lt (o := 155) (m := 166) (Nat.le_of_ble_eq_true rfl) hN) rfl ?_
        refine i_aload_n (pc' := 113) (f_at inc_65 (j := 59) rfl) rfl rfl ?_
        refine i_getR (pc' := 116) (f_at inc_65 (j := 60) rfl) sh_155 rfl (f_lt (o := 155) (m := 166) (Nat.le_of_ble_eq_true rfl) hN) rfl ?_
        refine i_iconst (pc' := 117) (f_at inc_65 (j := 61) rfl) ci_2 rfl ?_
        refine i_iald (pc' := 118) (f_at inc_65 (j := 62) rfl) sh_156 (f_bg (Nat.le_of_ble_eq_true rfl)) (f_lt (o := 156) (m := 166) (Nat.le_of_ble_eq_true rfl) hN) rfl fun v17 => ?_
        exact i_iret (f_at inc_65 (j := 63) rfl) rfl n_int
      · refine i_aload_n (pc' := 82) (f_at inc_65 (j := 41) rfl) rfl rfl ?_
        refine i_aload_n (pc' := 83) (f_at inc_65 (j := 42) rfl) rfl rfl ?_
        refine i_getR (pc' := 86) (f_at inc_65 (j := 43) rfl) sh_155 rfl (f_lt (o := 155) (m := 166) (Nat.le_of_ble_eq_true rfl) hN) rfl ?_
        refine c_wv (pc' := 89) (c' := 0) (n' := 0) (h_virt (ra := [.ref 157, .ref 155]) (r := []) (as := [.ref 157]) (f_at inc_65 (j := 44) rfl) (by decide) MT_64 rfl rfl rfl ⟨Nat.le_of_ble_eq_true rfl, Nat.le_of_ble_eq_true rfl, Nat.le_of_ble_eq_true rfl⟩ sh_155 (f_lt (o := 155) (m := 166) (Nat.le_of_ble_eq_true rfl) hN)) MT_64 (G_64 hN 157 f_T157 t14) ⟨rfl, rfl, rfl⟩ fun t18 => ?_
        refine i_iconst (pc' := 90) (f_at inc_65 (j := 45) rfl) ci_m1 rfl ?_
        exact i_iret (f_at inc_65 (j := 46) rfl) rfl n_int
    · intro k9 hj9
      refine i_if0 (pc' := 65) (nx := 52) c0_le (f_at inc_65 (j := 25) rfl) ⟨by decide, rfl⟩ (fun b12 => ?_) (fun b12 => ?_)
      · refine i_iconst (pc' := 66) (f_at inc_65 (j := 33) rfl) ci_0 rfl ?_
        exact hj9 false ()
      · refine i_aload_n (pc' := 53) (f_at inc_65 (j := 26) rfl) rfl rfl ?_
        refine i_getR (pc' := 56) (f_at inc_65 (j := 27) rfl) sh_155 rfl (f_lt (o := 155) (m := 166) (Nat.le_of_ble_eq_true rfl) hN) rfl ?_
        refine i_iconst (pc' := 57) (f_at inc_65 (j := 28) rfl) ci_3 rfl ?_
        refine i_iald (pc' := 58) (f_at inc_65 (j := 29) rfl) sh_156 (f_bg (Nat.le_of_ble_eq_true rfl)) (f_lt (o := 156) (m := 166) (Nat.le_of_ble_eq_true rfl) hN) rfl fun v10 => ?_
        refine i_if0 (pc' := 65) (nx := 61) c0_le (f_at inc_65 (j := 30) rfl) ⟨by decide, rfl⟩ (fun b11 => ?_) (fun b11 => ?_)
        · refine i_iconst (pc' := 66) (f_at inc_65 (j := 33) rfl) ci_0 rfl ?_
          exact hj9 false ()
        · refine i_iconst (pc' := 62) (f_at inc_65 (j := 31) rfl) ci_1 rfl ?_
          refine i_goto (pc' := 66) (f_at inc_65 (j := 32) rfl) (by decide) ?_
          exact hj9 true ()
  · intro s4 u4 k4 hb4 hx4
    refine i_aload_n (pc' := 22) (f_at inc_65 (j := 11) rfl) rfl rfl ?_
    refine i_getI (pc' := 25) (f_at inc_65 (j := 12) rfl) sh_155 rfl (f_lt (o := 155) (m := 166) (Nat.le_of_ble_eq_true rfl) hN) rfl ?_
    refine i_if0 (pc' := 42) (nx := 28) c0_ne (f_at inc_65 (j := 13) rfl) ⟨by decide, rfl⟩ (fun b7 => ?_) (fun b7 => ?_)
    · exact hx4 s4 ()
    · refine i_aload_n (pc' := 29) (f_at inc_65 (j := 14) rfl) rfl rfl ?_
      refine i_getI (pc' := 32) (f_at inc_65 (j := 15) rfl) sh_155 rfl (f_lt (o := 155) (m := 166) (Nat.le_of_ble_eq_true rfl) hN) rfl ?_
      refine i_if0 (pc' := 42) (nx := 35) c0_eq (f_at inc_65 (j := 16) rfl) ⟨by decide, rfl⟩ (fun b6 => ?_) (fun b6 => ?_)
      · exact hx4 s4 ()
      · refine i_aload_n (pc' := 36) (f_at inc_65 (j := 17) rfl) rfl rfl ?_
        refine c_wv (pc' := 39) (c' := 0) (n' := 0) (h_virt (ra := [.ref 155]) (r := []) (as := []) (f_at inc_65 (j := 18) rfl) (by decide) MT_62 rfl rfl rfl ⟨Nat.le_of_ble_eq_true rfl, Nat.le_of_ble_eq_true rfl, Nat.le_of_ble_eq_true rfl⟩ sh_155 (f_lt (o := 155) (m := 166) (Nat.le_of_ble_eq_true rfl) hN)) MT_62 (G_62 hN  s4) ⟨rfl, rfl, rfl⟩ fun t5 => ?_
        refine i_goto (pc' := 21) (f_at inc_65 (j := 19) rfl) (by decide) ?_
        exact hb4 t5 ()
set_option maxRecDepth 4000 in
def g_66  (σ : f_M) : Option (Int32) :=
  (g_14 5 σ).bind fun t1 =>
  if t1 = false then (
   (g_14 6 σ).bind fun t2 =>
   if t2 = false then (
    (g_14 7 σ).bind fun t3 =>
    if t3 = false then (
     (g_14 8 σ).bind fun t4 =>
     if t4 = false then (
      (g_14 9 σ).bind fun t5 =>
      (
       if t5 = false then (
        some (-1 : Int32)
       ) else (
        some (4 : Int32)
       )
      ).bind fun (t6 : Int32) =>
      some t6
     ) else (
      some (3 : Int32)
     )
    ) else (
     some (2 : Int32)
    )
   ) else (
    some (1 : Int32)
   )
  ) else (
   some (0 : Int32)
  )
set_option maxRecDepth 4000 in
theorem G_66 {xs : Nat → Int32} {L N : Nat} (hN : 155 ≤ N)   (σ : f_M) : f_Cal a_MT xs L N 66 [.ref 3] σ ((g_66  σ).bind fun t => some (e_pi σ t)) := by
  refine f_cal_of (ls := [.ref 3]) MT_66 (Nat.le_of_ble_eq_true rfl) rfl ?_
  unfold g_66
  refine i_aload_n (pc' := 1) (f_at inc_66 (j := 0) rfl) rfl rfl ?_
  refine i_ldc (pc' := 3) (f_at inc_66 (j := 1) rfl) rfl ?_
  refine c_pb (pc' := 6) (c' := 0) (n' := 0) (h_virt (ra := [.ref (a_big + 1 + 5), .ref 3]) (r := []) (as := [.ref (a_big + 1 + 5)]) (f_at inc_66 (j := 2) rfl) (by decide) MT_14 rfl rfl rfl ⟨Nat.le_of_ble_eq_true rfl, Nat.le_of_ble_eq_true rfl, Nat.le_of_ble_eq_true rfl⟩ sh_3 (f_lt (o := 3) (m := 155) (Nat.le_of_ble_eq_true rfl) hN)) MT_14 (G_14 hN 5 (by decide) σ) ⟨rfl, rfl, rfl⟩ fun t1 => ?_
  refine i_if0 (pc' := 11) (nx := 9) cb_eq (f_at inc_66 (j := 3) rfl) ⟨by decide, rfl⟩ (fun b11 => ?_) (fun b11 => ?_)
  · refine i_aload_n (pc' := 12) (f_at inc_66 (j := 6) rfl) rfl rfl ?_
    refine i_ldc (pc' := 14) (f_at inc_66 (j := 7) rfl) rfl ?_
    refine c_pb (pc' := 17) (c' := 0) (n' := 0) (h_virt (ra := [.ref (a_big + 1 + 6), .ref 3]) (r := []) (as := [.ref (a_big + 1 + 6)]) (f_at inc_66 (j := 8) rfl) (by decide) MT_14 rfl rfl rfl ⟨Nat.le_of_ble_eq_true rfl, Nat.le_of_ble_eq_true rfl, Nat.le_of_ble_eq_true rfl⟩ sh_3 (f_lt (o := 3) (m := 155) (Nat.le_of_ble_eq_true rfl) hN)) MT_14 (G_14 hN 6 (by decide) σ) ⟨rfl, rfl, rfl⟩ fun t2 => ?_
    refine i_if0 (pc' := 22) (nx := 20) cb_eq (f_at inc_66 (j := 9) rfl) ⟨by decide, rfl⟩ (fun b10 => ?_) (fun b10 => ?_)
    · refine i_aload_n (pc' := 23) (f_at inc_66 (j := 12) rfl) rfl rfl ?_
      refine i_ldc (pc' := 25) (f_at inc_66 (j := 13) rfl) rfl ?_
      refine c_pb (pc' := 28) (c' := 0) (n' := 0) (h_virt (ra := [.ref (a_big + 1 + 7), .ref 3]) (r := []) (as := [.ref (a_big + 1 + 7)]) (f_at inc_66 (j := 14) rfl) (by decide) MT_14 rfl rfl rfl ⟨Nat.le_of_ble_eq_true rfl, Nat.le_of_ble_eq_true rfl, Nat.le_of_ble_eq_true rfl⟩ sh_3 (f_lt (o := 3) (m := 155) (Nat.le_of_ble_eq_true rfl) hN)) MT_14 (G_14 hN 7 (by decide) σ) ⟨rfl, rfl, rfl⟩ fun t3 => ?_
      refine i_if0 (pc' := 33) (nx := 31) cb_eq (f_at inc_66 (j := 15) rfl) ⟨by decide, rfl⟩ (fun b9 => ?_) (fun b9 => ?_)
      · refine i_aload_n (pc' := 34) (f_at inc_66 (j := 18) rfl) rfl rfl ?_
        refine i_ldc (pc' := 36) (f_at inc_66 (j := 19) rfl) rfl ?_
        refine c_pb (pc' := 39) (c' := 0) (n' := 0) (h_virt (ra := [.ref (a_big + 1 + 8), .ref 3]) (r := []) (as := [.ref (a_big + 1 + 8)]) (f_at inc_66 (j := 20) rfl) (by decide) MT_14 rfl rfl rfl ⟨Nat.le_of_ble_eq_true rfl, Nat.le_of_ble_eq_true rfl, Nat.le_of_ble_eq_true rfl⟩ sh_3 (f_lt (o := 3) (m := 155) (Nat.le_of_ble_eq_true rfl) hN)) MT_14 (G_14 hN 8 (by decide) σ) ⟨rfl, rfl, rfl⟩ fun t4 => ?_
        refine i_if0 (pc' := 44) (nx := 42) cb_eq (f_at inc_66 (j := 21) rfl) ⟨by decide, rfl⟩ (fun b8 => ?_) (fun b8 => ?_)
        · refine i_aload_n (pc' := 45) (f_at inc_66 (j := 24) rfl) rfl rfl ?_
          refine i_ldc (pc' := 47) (f_at inc_66 (j := 25) rfl) rfl ?_
          refine c_pb (pc' := 50) (c' := 0) (n' := 0) (h_virt (ra := [.ref (a_big + 1 + 9), .ref 3]) (r := []) (as := [.ref (a_big + 1 + 9)]) (f_at inc_66 (j := 26) rfl) (by decide) MT_14 rfl rfl rfl ⟨Nat.le_of_ble_eq_true rfl, Nat.le_of_ble_eq_true rfl, Nat.le_of_ble_eq_true rfl⟩ sh_3 (f_lt (o := 3) (m := 155) (Nat.le_of_ble_eq_true rfl) hN)) MT_14 (G_14 hN 9 (by decide) σ) ⟨rfl, rfl, rfl⟩ fun t5 => ?_
          refine s_join (J := 58) (fun (t6 : Int32) (u6 : Unit) => [.ref 3]) (fun t6 => [.int t6]) (fun t6 => σ) ?_ ?_
          · intro t6 u6
            exact i_iret (f_at inc_66 (j := 31) rfl) rfl n_int
          · intro k6 hj6
            refine i_if0 (pc' := 57) (nx := 53) cb_eq (f_at inc_66 (j := 27) rfl) ⟨by decide, rfl⟩ (fun b7 => ?_) (fun b7 => ?_)
            · refine i_iconst (pc' := 58) (f_at inc_66 (j := 30) rfl) ci_m1 rfl ?_
              exact hj6 (-1 : Int32) ()
            · refine i_iconst (pc' := 54) (f_at inc_66 (j := 28) rfl) ci_4 rfl ?_
              refine i_goto (pc' := 58) (f_at inc_66 (j := 29) rfl) (by decide) ?_
              exact hj6 (4 : Int32) ()
        · refine i_iconst (pc' := 43) (f_at inc_66 (j := 22) rfl) ci_3 rfl ?_
          exact i_iret (f_at inc_66 (j := 23) rfl) rfl n_int
      · refine i_iconst (pc' := 32) (f_at inc_66 (j := 16) rfl) ci_2 rfl ?_
        exact i_iret (f_at inc_66 (j := 17) rfl) rfl n_int
    · refine i_iconst (pc' := 21) (f_at inc_66 (j := 10) rfl) ci_1 rfl ?_
      exact i_iret (f_at inc_66 (j := 11) rfl) rfl n_int
  · refine i_iconst (pc' := 10) (f_at inc_66 (j := 4) rfl) ci_0 rfl ?_
    exact i_iret (f_at inc_66 (j := 5) rfl) rfl n_int
set_option maxRecDepth 4000 in
def g_67 (a1 : Nat) (a2 : Int32) (a3 : Int32) (a4 : Int32) (σ : f_M) : Option (Bool × f_M) :=
  (g_22 a3 a4 σ).bind fun t1 =>
  if t1.1 = true then (
   (f_wr t1.2 a1 7 a2 (t1.2 3 5)).bind fun m2 =>
   some (true, m2)
  ) else (
   some (false, t1.2)
  )
set_option maxRecDepth 4000 in
theorem G_67 {xs : Nat → Int32} {L N : Nat} (hN : 155 ≤ N) (a1 : Nat) (a2 : Int32) (a3 : Int32) (a4 : Int32) (ha1 : f_R a1) (σ : f_M) : f_Cal a_MT xs L N 67 [.ref 3, .ref a1, .int a2, .int a3, .int a4] σ ((g_67 a1 a2 a3 a4 σ).bind fun t => some (e_wb t)) := by
  refine f_cal_of (ls := [.ref 3, .ref a1, .int a2, .int a3, .int a4]) MT_67 (Nat.le_of_ble_eq_true rfl) rfl ?_
  unfold g_67
  refine i_aload_n (pc' := 1) (f_at inc_67 (j := 0) rfl) rfl rfl ?_
  refine i_iload_n (pc' := 2) (f_at inc_67 (j := 1) rfl) rfl rfl ?_
  refine i_iload (pc' := 4) (f_at inc_67 (j := 2) rfl) rfl rfl ?_
  refine c_wb (pc' := 7) (c' := 0) (n' := 0) (h_virt (ra := [.int a4, .int a3, .ref 3]) (r := []) (as := [.int a3, .int a4]) (f_at inc_67 (j := 3) rfl) (by decide) MT_22 rfl rfl rfl ⟨Nat.le_of_ble_eq_true rfl, Nat.le_of_ble_eq_true rfl, Nat.le_of_ble_eq_true rfl⟩ sh_3 (f_lt (o := 3) (m := 155) (Nat.le_of_ble_eq_true rfl) hN)) MT_22 (G_22 hN a3 a4 σ) ⟨rfl, rfl, rfl⟩ fun t1 => ?_
  refine i_if0 (pc' := 12) (nx := 10) cb_ne (f_at inc_67 (j := 4) rfl) ⟨by decide, rfl⟩ (fun b3 => ?_) (fun b3 => ?_)
  · refine i_aload_n (pc' := 13) (f_at inc_67 (j := 7) rfl) rfl rfl ?_
    refine i_iload_n (pc' := 14) (f_at inc_67 (j := 8) rfl) rfl rfl ?_
    refine i_aload_n (pc' := 15) (f_at inc_67 (j := 9) rfl) rfl rfl ?_
    refine i_getI (pc' := 18) (f_at inc_67 (j := 10) rfl) sh_3 rfl (f_lt (o := 3) (m := 155) (Nat.le_of_ble_eq_true rfl) hN) rfl ?_
    refine i_iast (pc' := 19) (f_at inc_67 (j := 11) rfl) ha1.1 (f_ltR ha1 hN) rfl fun m2 => ?_
    refine i_iconst (pc' := 20) (f_at inc_67 (j := 12) rfl) ci_1 rfl ?_
    exact i_iret (v := f_b true) (f_at inc_67 (j := 13) rfl) rfl n_bool
  · refine i_iconst (pc' := 11) (f_at inc_67 (j := 5) rfl) ci_0 rfl ?_
    exact i_iret (v := f_b false) (f_at inc_67 (j := 6) rfl) rfl n_bool
set_option maxRecDepth 4000 in
def g_68 (a2 : Nat) (σ : f_M) : Option (Bool × f_M) :=
  (g_16  σ).bind fun t1 =>
  if t1.1 = true then (
   (g_20 103 t1.2).bind fun t2 =>
   (f_wr t1.2 a2 7 (1 : Int32) t2).bind fun m3 =>
   (f_rd m3 a2 7 (1 : Int32)).bind fun v4 =>
   (
    if ¬ v4 = (-1 : Int32) then (
     some (true, m3)
    ) else (
     (g_15 (3 : Int32) m3).bind fun t6 =>
     if t6.1 = false then (
      some (false, t6.2)
     ) else (
      some (true, t6.2)
     )
    )
   ).bind fun (t5 : Bool × f_M) =>
   some (t5.1, t5.2)
  ) else (
   some (false, t1.2)
  )
set_option maxRecDepth 4000 in
theorem G_68 {xs : Nat → Int32} {L N : Nat} (hN : 155 ≤ N) (a2 : Nat) (ha2 : f_R a2) (σ : f_M) : f_Cal a_MT xs L N 68 [.ref 3, .ref 103, .ref a2] σ ((g_68 a2 σ).bind fun t => some (e_wb t)) := by
  refine f_cal_of (ls := [.ref 3, .ref 103, .ref a2]) MT_68 (Nat.le_of_ble_eq_true rfl) rfl ?_
  unfold g_68
  refine i_aload_n (pc' := 1) (f_at inc_68 (j := 0) rfl) rfl rfl ?_
  refine c_wb (pc' := 4) (c' := 0) (n' := 0) (h_virt (ra := [.ref 3]) (r := []) (as := []) (f_at inc_68 (j := 1) rfl) (by decide) MT_16 rfl rfl rfl ⟨Nat.le_of_ble_eq_true rfl, Nat.le_of_ble_eq_true rfl, Nat.le_of_ble_eq_true rfl⟩ sh_3 (f_lt (o := 3) (m := 155) (Nat.le_of_ble_eq_true rfl) hN)) MT_16 (G_16 hN  σ) ⟨rfl, rfl, rfl⟩ fun t1 => ?_
  refine i_if0 (pc' := 9) (nx := 7) cb_ne (f_at inc_68 (j := 2) rfl) ⟨by decide, rfl⟩ (fun b9 => ?_) (fun b9 => ?_)
  · refine i_aload_n (pc' := 10) (f_at inc_68 (j := 5) rfl) rfl rfl ?_
    refine i_iconst (pc' := 11) (f_at inc_68 (j := 6) rfl) ci_1 rfl ?_
    refine i_aload_n (pc' := 12) (f_at inc_68 (j := 7) rfl) rfl rfl ?_
    refine i_aload_n (pc' := 13) (f_at inc_68 (j := 8) rfl) rfl rfl ?_
    refine c_pi (pc' := 16) (c' := 0) (n' := 0) (h_virt (ra := [.ref 3, .ref 103]) (r := [.int (1 : Int32), .ref a2]) (as := [.ref 3]) (f_at inc_68 (j := 9) rfl) (by decide) MT_20 rfl rfl rfl ⟨Nat.le_of_ble_eq_true rfl, Nat.le_of_ble_eq_true rfl, Nat.le_of_ble_eq_true rfl⟩ sh_103 (f_lt (o := 103) (m := 155) (Nat.le_of_ble_eq_true rfl) hN)) MT_20 (G_20 hN 103 f_S103 t1.2) ⟨rfl, rfl, rfl⟩ fun t2 => ?_
    refine i_iast (pc' := 17) (f_at inc_68 (j := 10) rfl) ha2.1 (f_ltR ha2 hN) rfl fun m3 => ?_
    refine i_aload_n (pc' := 18) (f_at inc_68 (j := 11) rfl) rfl rfl ?_
    refine i_iconst (pc' := 19) (f_at inc_68 (j := 12) rfl) ci_1 rfl ?_
    refine i_iald (pc' := 20) (f_at inc_68 (j := 13) rfl) ha2.1 (f_bgR ha2) (f_ltR ha2 hN) rfl fun v4 => ?_
    refine i_iconst (pc' := 21) (f_at inc_68 (j := 14) rfl) ci_m1 rfl ?_
    refine s_join (J := 37) (fun (t5 : Bool × f_M) (u5 : Unit) => [.ref 3, .ref 103, .ref a2]) (fun t5 => [.int (f_b t5.1)]) (fun t5 => t5.2) ?_ ?_
    · intro t5 u5
      exact i_iret (v := f_b t5.1) (f_at inc_68 (j := 23) rfl) rfl n_bool
    · intro k5 hj5
      refine i_if2 (pc' := 32) (nx := 24) c2_ne (f_at inc_68 (j := 15) rfl) ⟨by decide, rfl⟩ (fun b8 => ?_) (fun b8 => ?_)
      · refine i_iconst (pc' := 33) (f_at inc_68 (j := 20) rfl) ci_1 rfl ?_
        refine i_goto (pc' := 37) (f_at inc_68 (j := 21) rfl) (by decide) ?_
        exact hj5 (true, m3) ()
      · refine i_aload_n (pc' := 25) (f_at inc_68 (j := 16) rfl) rfl rfl ?_
        refine i_iconst (pc' := 26) (f_at inc_68 (j := 17) rfl) ci_3 rfl ?_
        refine c_wb (pc' := 29) (c' := 0) (n' := 0) (h_virt (ra := [.int (3 : Int32), .ref 3]) (r := []) (as := [.int (3 : Int32)]) (f_at inc_68 (j := 18) rfl) (by decide) MT_15 rfl rfl rfl ⟨Nat.le_of_ble_eq_true rfl, Nat.le_of_ble_eq_true rfl, Nat.le_of_ble_eq_true rfl⟩ sh_3 (f_lt (o := 3) (m := 155) (Nat.le_of_ble_eq_true rfl) hN)) MT_15 (G_15 hN (3 : Int32) m3) ⟨rfl, rfl, rfl⟩ fun t6 => ?_
        refine i_if0 (pc' := 36) (nx := 32) cb_eq (f_at inc_68 (j := 19) rfl) ⟨by decide, rfl⟩ (fun b7 => ?_) (fun b7 => ?_)
        · refine i_iconst (pc' := 37) (f_at inc_68 (j := 22) rfl) ci_0 rfl ?_
          exact hj5 (false, t6.2) ()
        · refine i_iconst (pc' := 33) (f_at inc_68 (j := 20) rfl) ci_1 rfl ?_
          refine i_goto (pc' := 37) (f_at inc_68 (j := 21) rfl) (by decide) ?_
          exact hj5 (true, t6.2) ()
  · refine i_iconst (pc' := 8) (f_at inc_68 (j := 3) rfl) ci_0 rfl ?_
    exact i_iret (v := f_b false) (f_at inc_68 (j := 4) rfl) rfl n_bool
set_option maxRecDepth 4000 in
def g_69 (a2 : Nat) (σ : f_M) : Option (Bool × f_M) :=
  (f_rd σ a2 7 (0 : Int32)).bind fun v1 =>
  if v1 = (0 : Int32) then (
   (g_67 a2 (1 : Int32) (1 : Int32) (48 : Int32) σ).bind fun t2 =>
   (
    if t2.1 = false then (
     some (false, t2.2)
    ) else (
     (g_67 a2 (2 : Int32) (0 : Int32) (150 : Int32) t2.2).bind fun t4 =>
     if t4.1 = false then (
      some (false, t4.2)
     ) else (
      (g_67 a2 (3 : Int32) (0 : Int32) (50 : Int32) t4.2).bind fun t5 =>
      if t5.1 = false then (
       some (false, t5.2)
      ) else (
       some (true, t5.2)
      )
     )
    )
   ).bind fun (t3 : Bool × f_M) =>
   some (t3.1, t3.2)
  ) else
  if v1 = (1 : Int32) then (
   (g_68 a2 σ).bind fun t10 =>
   (
    if t10.1 = false then (
     some (false, t10.2)
    ) else (
     (g_67 a2 (2 : Int32) (0 : Int32) (1000 : Int32) t10.2).bind fun t12 =>
     if t12.1 = false then (
      some (false, t12.2)
     ) else (
      (g_67 a2 (3 : Int32) (1 : Int32) (24 : Int32) t12.2).bind fun t13 =>
      if t13.1 = false then (
       some (false, t13.2)
      ) else (
       (g_67 a2 (4 : Int32) (1 : Int32) (500 : Int32) t13.2).bind fun t14 =>
       if t14.1 = false then (
        some (false, t14.2)
       ) else (
        (g_67 a2 (5 : Int32) (0 : Int32) (150 : Int32) t14.2).bind fun t15 =>
        if t15.1 = false then (
         some (false, t15.2)
        ) else (
         (f_rd t15.2 a2 7 (5 : Int32)).bind fun v16 =>
         (g_67 a2 (6 : Int32) v16 (150 : Int32) t15.2).bind fun t17 =>
         if t17.1 = false then (
          some (false, t17.2)
         ) else (
          some (true, t17.2)
         )
        )
       )
      )
     )
    )
   ).bind fun (t11 : Bool × f_M) =>
   some (t11.1, t11.2)
  ) else
  if v1 = (2 : Int32) then (
   (g_68 a2 σ).bind fun t25 =>
   (
    if t25.1 = false then (
     some (false, t25.2)
    ) else (
     (g_67 a2 (2 : Int32) (0 : Int32) (1000 : Int32) t25.2).bind fun t27 =>
     if t27.1 = false then (
      some (false, t27.2)
     ) else (
      (g_67 a2 (3 : Int32) (1 : Int32) (24 : Int32) t27.2).bind fun t28 =>
      if t28.1 = false then (
       some (false, t28.2)
      ) else (
       (g_67 a2 (4 : Int32) (1 : Int32) (500 : Int32) t28.2).bind fun t29 =>
       if t29.1 = false then (
        some (false, t29.2)
       ) else (
        (g_67 a2 (5 : Int32) (0 : Int32) (50 : Int32) t29.2).bind fun t30 =>
        if t30.1 = false then (
         some (false, t30.2)
        ) else (
         some (true, t30.2)
        )
       )
      )
     )
    )
   ).bind fun (t26 : Bool × f_M) =>
   some (t26.1, t26.2)
  ) else
  if v1 = (3 : Int32) then (
   (g_67 a2 (1 : Int32) (0 : Int32) (19 : Int32) σ).bind fun t37 =>
   some (t37.1, t37.2)
  ) else
  (
   (g_68 a2 σ).bind fun t39 =>
   (
    if t39.1 = false then (
     some (false, t39.2)
    ) else (
     (g_67 a2 (2 : Int32) (1 : Int32) (999 : Int32) t39.2).bind fun t41 =>
     if t41.1 = false then (
      some (false, t41.2)
     ) else (
      some (true, t41.2)
     )
    )
   ).bind fun (t40 : Bool × f_M) =>
   some (t40.1, t40.2)
  )
set_option maxRecDepth 4000 in
theorem G_69 {xs : Nat → Int32} {L N : Nat} (hN : 155 ≤ N) (a2 : Nat) (ha2 : f_R a2) (σ : f_M) : f_Cal a_MT xs L N 69 [.ref 3, .ref 103, .ref a2] σ ((g_69 a2 σ).bind fun t => some (e_wb t)) := by
  refine f_cal_of (ls := [.ref 3, .ref 103, .ref a2]) MT_69 (Nat.le_of_ble_eq_true rfl) rfl ?_
  unfold g_69
  refine i_aload_n (pc' := 1) (f_at inc_69 (j := 0) rfl) rfl rfl ?_
  refine i_iconst (pc' := 2) (f_at inc_69 (j := 1) rfl) ci_0 rfl ?_
  refine i_iald (pc' := 3) (f_at inc_69 (j := 2) rfl) ha2.1 (f_bgR ha2) (f_ltR ha2 hN) rfl fun v1 => ?_
  refine i_cas (fun b9 => ?_) (fun b9 => ?_)
  · refine i_sw (pc' := 32) (v := (0 : Int32)) (f_at inc_69 (j := 3) rfl) b9 ⟨by decide, rfl⟩ (by decide) ?_
    refine i_aload_n (pc' := 33) (f_at inc_69 (j := 4) rfl) rfl rfl ?_
    refine i_aload_n (pc' := 34) (f_at inc_69 (j := 5) rfl) rfl rfl ?_
    refine i_iconst (pc' := 35) (f_at inc_69 (j := 6) rfl) ci_1 rfl ?_
    refine i_iconst (pc' := 36) (f_at inc_69 (j := 7) rfl) ci_1 rfl ?_
    refine i_bipush (pc' := 38) (f_at inc_69 (j := 8) rfl) cb_48 rfl ?_
    refine c_wb (pc' := 41) (c' := 0) (n' := 0) (h_stat (ra := [.int (48 : Int32), .int (1 : Int32), .int (1 : Int32), .ref a2, .ref 3]) (r := []) (as := [.ref 3, .ref a2, .int (1 : Int32), .int (1 : Int32), .int (48 : Int32)]) (f_at inc_69 (j := 9) rfl) (by decide) MT_67 rfl rfl rfl ⟨Nat.le_of_ble_eq_true rfl, Nat.le_of_ble_eq_true rfl, Nat.le_of_ble_eq_true rfl⟩) MT_67 (G_67 hN a2 (1 : Int32) (1 : Int32) (48 : Int32) ha2 σ) ⟨rfl, rfl, rfl⟩ fun t2 => ?_
    refine s_join (J := 74) (fun (t3 : Bool × f_M) (u3 : Unit) => [.ref 3, .ref 103, .ref a2]) (fun t3 => [.int (f_b t3.1)]) (fun t3 => t3.2) ?_ ?_
    · intro t3 u3
      exact i_iret (v := f_b t3.1) (f_at inc_69 (j := 28) rfl) rfl n_bool
    · intro k3 hj3
      refine i_if0 (pc' := 73) (nx := 44) cb_eq (f_at inc_69 (j := 10) rfl) ⟨by decide, rfl⟩ (fun b8 => ?_) (fun b8 => ?_)
      · refine i_iconst (pc' := 74) (f_at inc_69 (j := 27) rfl) ci_0 rfl ?_
        exact hj3 (false, t2.2) ()
      · refine i_aload_n (pc' := 45) (f_at inc_69 (j := 11) rfl) rfl rfl ?_
        refine i_aload_n (pc' := 46) (f_at inc_69 (j := 12) rfl) rfl rfl ?_
        refine i_iconst (pc' := 47) (f_at inc_69 (j := 13) rfl) ci_2 rfl ?_
        refine i_iconst (pc' := 48) (f_at inc_69 (j := 14) rfl) ci_0 rfl ?_
        refine i_sipush (pc' := 51) (f_at inc_69 (j := 15) rfl) cs_150 rfl ?_
        refine c_wb (pc' := 54) (c' := 0) (n' := 0) (h_stat (ra := [.int (150 : Int32), .int (0 : Int32), .int (2 : Int32), .ref a2, .ref 3]) (r := []) (as := [.ref 3, .ref a2, .int (2 : Int32), .int (0 : Int32), .int (150 : Int32)]) (f_at inc_69 (j := 16) rfl) (by decide) MT_67 rfl rfl rfl ⟨Nat.le_of_ble_eq_true rfl, Nat.le_of_ble_eq_true rfl, Nat.le_of_ble_eq_true rfl⟩) MT_67 (G_67 hN a2 (2 : Int32) (0 : Int32) (150 : Int32) ha2 t2.2) ⟨rfl, rfl, rfl⟩ fun t4 => ?_
        refine i_if0 (pc' := 73) (nx := 57) cb_eq (f_at inc_69 (j := 17) rfl) ⟨by decide, rfl⟩ (fun b7 => ?_) (fun b7 => ?_)
        · refine i_iconst (pc' := 74) (f_at inc_69 (j := 27) rfl) ci_0 rfl ?_
          exact hj3 (false, t4.2) ()
        · refine i_aload_n (pc' := 58) (f_at inc_69 (j := 18) rfl) rfl rfl ?_
          refine i_aload_n (pc' := 59) (f_at inc_69 (j := 19) rfl) rfl rfl ?_
          refine i_iconst (pc' := 60) (f_at inc_69 (j := 20) rfl) ci_3 rfl ?_
          refine i_iconst (pc' := 61) (f_at inc_69 (j := 21) rfl) ci_0 rfl ?_
          refine i_bipush (pc' := 63) (f_at inc_69 (j := 22) rfl) cb_50 rfl ?_
          refine c_wb (pc' := 66) (c' := 0) (n' := 0) (h_stat (ra := [.int (50 : Int32), .int (0 : Int32), .int (3 : Int32), .ref a2, .ref 3]) (r := []) (as := [.ref 3, .ref a2, .int (3 : Int32), .int (0 : Int32), .int (50 : Int32)]) (f_at inc_69 (j := 23) rfl) (by decide) MT_67 rfl rfl rfl ⟨Nat.le_of_ble_eq_true rfl, Nat.le_of_ble_eq_true rfl, Nat.le_of_ble_eq_true rfl⟩) MT_67 (G_67 hN a2 (3 : Int32) (0 : Int32) (50 : Int32) ha2 t4.2) ⟨rfl, rfl, rfl⟩ fun t5 => ?_
          refine i_if0 (pc' := 73) (nx := 69) cb_eq (f_at inc_69 (j := 24) rfl) ⟨by decide, rfl⟩ (fun b6 => ?_) (fun b6 => ?_)
          · refine i_iconst (pc' := 74) (f_at inc_69 (j := 27) rfl) ci_0 rfl ?_
            exact hj3 (false, t5.2) ()
          · refine i_iconst (pc' := 70) (f_at inc_69 (j := 25) rfl) ci_1 rfl ?_
            refine i_goto (pc' := 74) (f_at inc_69 (j := 26) rfl) (by decide) ?_
            exact hj3 (true, t5.2) ()
  refine i_cas (fun b24 => ?_) (fun b24 => ?_)
  · refine i_sw (pc' := 75) (v := (1 : Int32)) (f_at inc_69 (j := 3) rfl) b24 ⟨by decide, rfl⟩ (by decide) ?_
    refine i_aload_n (pc' := 76) (f_at inc_69 (j := 29) rfl) rfl rfl ?_
    refine i_aload_n (pc' := 77) (f_at inc_69 (j := 30) rfl) rfl rfl ?_
    refine i_aload_n (pc' := 78) (f_at inc_69 (j := 31) rfl) rfl rfl ?_
    refine c_wb (pc' := 81) (c' := 0) (n' := 0) (h_stat (ra := [.ref a2, .ref 103, .ref 3]) (r := []) (as := [.ref 3, .ref 103, .ref a2]) (f_at inc_69 (j := 32) rfl) (by decide) MT_68 rfl rfl rfl ⟨Nat.le_of_ble_eq_true rfl, Nat.le_of_ble_eq_true rfl, Nat.le_of_ble_eq_true rfl⟩) MT_68 (G_68 hN a2 ha2 σ) ⟨rfl, rfl, rfl⟩ fun t10 => ?_
    refine s_join (J := 156) (fun (t11 : Bool × f_M) (u11 : Unit) => [.ref 3, .ref 103, .ref a2]) (fun t11 => [.int (f_b t11.1)]) (fun t11 => t11.2) ?_ ?_
    · intro t11 u11
      exact i_iret (v := f_b t11.1) (f_at inc_69 (j := 74) rfl) rfl n_bool
    · intro k11 hj11
      refine i_if0 (pc' := 155) (nx := 84) cb_eq (f_at inc_69 (j := 33) rfl) ⟨by decide, rfl⟩ (fun b23 => ?_) (fun b23 => ?_)
      · refine i_iconst (pc' := 156) (f_at inc_69 (j := 73) rfl) ci_0 rfl ?_
        exact hj11 (false, t10.2) ()
      · refine i_aload_n (pc' := 85) (f_at inc_69 (j := 34) rfl) rfl rfl ?_
        refine i_aload_n (pc' := 86) (f_at inc_69 (j := 35) rfl) rfl rfl ?_
        refine i_iconst (pc' := 87) (f_at inc_69 (j := 36) rfl) ci_2 rfl ?_
        refine i_iconst (pc' := 88) (f_at inc_69 (j := 37) rfl) ci_0 rfl ?_
        refine i_sipush (pc' := 91) (f_at inc_69 (j := 38) rfl) cs_1000 rfl ?_
        refine c_wb (pc' := 94) (c' := 0) (n' := 0) (h_stat (ra := [.int (1000 : Int32), .int (0 : Int32), .int (2 : Int32), .ref a2, .ref 3]) (r := []) (as := [.ref 3, .ref a2, .int (2 : Int32), .int (0 : Int32), .int (1000 : Int32)]) (f_at inc_69 (j := 39) rfl) (by decide) MT_67 rfl rfl rfl ⟨Nat.le_of_ble_eq_true rfl, Nat.le_of_ble_eq_true rfl, Nat.le_of_ble_eq_true rfl⟩) MT_67 (G_67 hN a2 (2 : Int32) (0 : Int32) (1000 : Int32) ha2 t10.2) ⟨rfl, rfl, rfl⟩ fun t12 => ?_
        refine i_if0 (pc' := 155) (nx := 97) cb_eq (f_at inc_69 (j := 40) rfl) ⟨by decide, rfl⟩ (fun b22 => ?_) (fun b22 => ?_)
        · refine i_iconst (pc' := 156) (f_at inc_69 (j := 73) rfl) ci_0 rfl ?_
          exact hj11 (false, t12.2) ()
        · refine i_aload_n (pc' := 98) (f_at inc_69 (j := 41) rfl) rfl rfl ?_
          refine i_aload_n (pc' := 99) (f_at inc_69 (j := 42) rfl) rfl rfl ?_
          refine i_iconst (pc' := 100) (f_at inc_69 (j := 43) rfl) ci_3 rfl ?_
          refine i_iconst (pc' := 101) (f_at inc_69 (j := 44) rfl) ci_1 rfl ?_
          refine i_bipush (pc' := 103) (f_at inc_69 (j := 45) rfl) cb_24 rfl ?_
          refine c_wb (pc' := 106) (c' := 0) (n' := 0) (h_stat (ra := [.int (24 : Int32), .int (1 : Int32), .int (3 : Int32), .ref a2, .ref 3]) (r := []) (as := [.ref 3, .ref a2, .int (3 : Int32), .int (1 : Int32), .int (24 : Int32)]) (f_at inc_69 (j := 46) rfl) (by decide) MT_67 rfl rfl rfl ⟨Nat.le_of_ble_eq_true rfl, Nat.le_of_ble_eq_true rfl, Nat.le_of_ble_eq_true rfl⟩) MT_67 (G_67 hN a2 (3 : Int32) (1 : Int32) (24 : Int32) ha2 t12.2) ⟨rfl, rfl, rfl⟩ fun t13 => ?_
          refine i_if0 (pc' := 155) (nx := 109) cb_eq (f_at inc_69 (j := 47) rfl) ⟨by decide, rfl⟩ (fun b21 => ?_) (fun b21 => ?_)
          · refine i_iconst (pc' := 156) (f_at inc_69 (j := 73) rfl) ci_0 rfl ?_
            exact hj11 (false, t13.2) ()
          · refine i_aload_n (pc' := 110) (f_at inc_69 (j := 48) rfl) rfl rfl ?_
            refine i_aload_n (pc' := 111) (f_at inc_69 (j := 49) rfl) rfl rfl ?_
            refine i_iconst (pc' := 112) (f_at inc_69 (j := 50) rfl) ci_4 rfl ?_
            refine i_iconst (pc' := 113) (f_at inc_69 (j := 51) rfl) ci_1 rfl ?_
            refine i_sipush (pc' := 116) (f_at inc_69 (j := 52) rfl) cs_500 rfl ?_
            refine c_wb (pc' := 119) (c' := 0) (n' := 0) (h_stat (ra := [.int (500 : Int32), .int (1 : Int32), .int (4 : Int32), .ref a2, .ref 3]) (r := []) (as := [.ref 3, .ref a2, .int (4 : Int32), .int (1 : Int32), .int (500 : Int32)]) (f_at inc_69 (j := 53) rfl) (by decide) MT_67 rfl rfl rfl ⟨Nat.le_of_ble_eq_true rfl, Nat.le_of_ble_eq_true rfl, Nat.le_of_ble_eq_true rfl⟩) MT_67 (G_67 hN a2 (4 : Int32) (1 : Int32) (500 : Int32) ha2 t13.2) ⟨rfl, rfl, rfl⟩ fun t14 => ?_
            refine i_if0 (pc' := 155) (nx := 122) cb_eq (f_at inc_69 (j := 54) rfl) ⟨by decide, rfl⟩ (fun b20 => ?_) (fun b20 => ?_)
            · refine i_iconst (pc' := 156) (f_at inc_69 (j := 73) rfl) ci_0 rfl ?_
              exact hj11 (false, t14.2) ()
            · refine i_aload_n (pc' := 123) (f_at inc_69 (j := 55) rfl) rfl rfl ?_
              refine i_aload_n (pc' := 124) (f_at inc_69 (j := 56) rfl) rfl rfl ?_
              refine i_iconst (pc' := 125) (f_at inc_69 (j := 57) rfl) ci_5 rfl ?_
              refine i_iconst (pc' := 126) (f_at inc_69 (j := 58) rfl) ci_0 rfl ?_
              refine i_sipush (pc' := 129) (f_at inc_69 (j := 59) rfl) cs_150 rfl ?_
              refine c_wb (pc' := 132) (c' := 0) (n' := 0) (h_stat (ra := [.int (150 : Int32), .int (0 : Int32), .int (5 : Int32), .ref a2, .ref 3]) (r := []) (as := [.ref 3, .ref a2, .int (5 : Int32), .int (0 : Int32), .int (150 : Int32)]) (f_at inc_69 (j := 60) rfl) (by decide) MT_67 rfl rfl rfl ⟨Nat.le_of_ble_eq_true rfl, Nat.le_of_ble_eq_true rfl, Nat.le_of_ble_eq_true rfl⟩) MT_67 (G_67 hN a2 (5 : Int32) (0 : Int32) (150 : Int32) ha2 t14.2) ⟨rfl, rfl, rfl⟩ fun t15 => ?_
              refine i_if0 (pc' := 155) (nx := 135) cb_eq (f_at inc_69 (j := 61) rfl) ⟨by decide, rfl⟩ (fun b19 => ?_) (fun b19 => ?_)
              · refine i_iconst (pc' := 156) (f_at inc_69 (j := 73) rfl) ci_0 rfl ?_
                exact hj11 (false, t15.2) ()
              · refine i_aload_n (pc' := 136) (f_at inc_69 (j := 62) rfl) rfl rfl ?_
                refine i_aload_n (pc' := 137) (f_at inc_69 (j := 63) rfl) rfl rfl ?_
                refine i_bipush (pc' := 139) (f_at inc_69 (j := 64) rfl) cb_6 rfl ?_
                refine i_aload_n (pc' := 140) (f_at inc_69 (j := 65) rfl) rfl rfl ?_
                refine i_iconst (pc' := 141) (f_at inc_69 (j := 66) rfl) ci_5 rfl ?_
                refine i_iald (pc' := 142) (f_at inc_69 (j := 67) rfl) ha2.1 (f_bgR ha2) (f_ltR ha2 hN) rfl fun v16 => ?_
                refine i_sipush (pc' := 145) (f_at inc_69 (j := 68) rfl) cs_150 rfl ?_
                refine c_wb (pc' := 148) (c' := 0) (n' := 0) (h_stat (ra := [.int (150 : Int32), .int v16, .int (6 : Int32), .ref a2, .ref 3]) (r := []) (as := [.ref 3, .ref a2, .int (6 : Int32), .int v16, .int (150 : Int32)]) (f_at inc_69 (j := 69) rfl) (by decide) MT_67 rfl rfl rfl ⟨Nat.le_of_ble_eq_true rfl, Nat.le_of_ble_eq_true rfl, Nat.le_of_ble_eq_true rfl⟩) MT_67 (G_67 hN a2 (6 : Int32) v16 (150 : Int32) ha2 t15.2) ⟨rfl, rfl, rfl⟩ fun t17 => ?_
                refine i_if0 (pc' := 155) (nx := 151) cb_eq (f_at inc_69 (j := 70) rfl) ⟨by decide, rfl⟩ (fun b18 => ?_) (fun b18 => ?_)
                · refine i_iconst (pc' := 156) (f_at inc_69 (j := 73) rfl) ci_0 rfl ?_
                  exact hj11 (false, t17.2) ()
                · refine i_iconst (pc' := 152) (f_at inc_69 (j := 71) rfl) ci_1 rfl ?_
                  refine i_goto (pc' := 156) (f_at inc_69 (j := 72) rfl) (by decide) ?_
                  exact hj11 (true, t17.2) ()
  refine i_cas (fun b36 => ?_) (fun b36 => ?_)
  · refine i_sw (pc' := 157) (v := (2 : Int32)) (f_at inc_69 (j := 3) rfl) b36 ⟨by decide, rfl⟩ (by decide) ?_
    refine i_aload_n (pc' := 158) (f_at inc_69 (j := 75) rfl) rfl rfl ?_
    refine i_aload_n (pc' := 159) (f_at inc_69 (j := 76) rfl) rfl rfl ?_
    refine i_aload_n (pc' := 160) (f_at inc_69 (j := 77) rfl) rfl rfl ?_
    refine c_wb (pc' := 163) (c' := 0) (n' := 0) (h_stat (ra := [.ref a2, .ref 103, .ref 3]) (r := []) (as := [.ref 3, .ref 103, .ref a2]) (f_at inc_69 (j := 78) rfl) (by decide) MT_68 rfl rfl rfl ⟨Nat.le_of_ble_eq_true rfl, Nat.le_of_ble_eq_true rfl, Nat.le_of_ble_eq_true rfl⟩) MT_68 (G_68 hN a2 ha2 σ) ⟨rfl, rfl, rfl⟩ fun t25 => ?_
    refine s_join (J := 221) (fun (t26 : Bool × f_M) (u26 : Unit) => [.ref 3, .ref 103, .ref a2]) (fun t26 => [.int (f_b t26.1)]) (fun t26 => t26.2) ?_ ?_
    · intro t26 u26
      exact i_iret (v := f_b t26.1) (f_at inc_69 (j := 111) rfl) rfl n_bool
    · intro k26 hj26
      refine i_if0 (pc' := 220) (nx := 166) cb_eq (f_at inc_69 (j := 79) rfl) ⟨by decide, rfl⟩ (fun b35 => ?_) (fun b35 => ?_)
      · refine i_iconst (pc' := 221) (f_at inc_69 (j := 110) rfl) ci_0 rfl ?_
        exact hj26 (false, t25.2) ()
      · refine i_aload_n (pc' := 167) (f_at inc_69 (j := 80) rfl) rfl rfl ?_
        refine i_aload_n (pc' := 168) (f_at inc_69 (j := 81) rfl) rfl rfl ?_
        refine i_iconst (pc' := 169) (f_at inc_69 (j := 82) rfl) ci_2 rfl ?_
        refine i_iconst (pc' := 170) (f_at inc_69 (j := 83) rfl) ci_0 rfl ?_
        refine i_sipush (pc' := 173) (f_at inc_69 (j := 84) rfl) cs_1000 rfl ?_
        refine c_wb (pc' := 176) (c' := 0) (n' := 0) (h_stat (ra := [.int (1000 : Int32), .int (0 : Int32), .int (2 : Int32), .ref a2, .ref 3]) (r := []) (as := [.ref 3, .ref a2, .int (2 : Int32), .int (0 : Int32), .int (1000 : Int32)]) (f_at inc_69 (j := 85) rfl) (by decide) MT_67 rfl rfl rfl ⟨Nat.le_of_ble_eq_true rfl, Nat.le_of_ble_eq_true rfl, Nat.le_of_ble_eq_true rfl⟩) MT_67 (G_67 hN a2 (2 : Int32) (0 : Int32) (1000 : Int32) ha2 t25.2) ⟨rfl, rfl, rfl⟩ fun t27 => ?_
        refine i_if0 (pc' := 220) (nx := 179) cb_eq (f_at inc_69 (j := 86) rfl) ⟨by decide, rfl⟩ (fun b34 => ?_) (fun b34 => ?_)
        · refine i_iconst (pc' := 221) (f_at inc_69 (j := 110) rfl) ci_0 rfl ?_
          exact hj26 (false, t27.2) ()
        · refine i_aload_n (pc' := 180) (f_at inc_69 (j := 87) rfl) rfl rfl ?_
          refine i_aload_n (pc' := 181) (f_at inc_69 (j := 88) rfl) rfl rfl ?_
          refine i_iconst (pc' := 182) (f_at inc_69 (j := 89) rfl) ci_3 rfl ?_
          refine i_iconst (pc' := 183) (f_at inc_69 (j := 90) rfl) ci_1 rfl ?_
          refine i_bipush (pc' := 185) (f_at inc_69 (j := 91) rfl) cb_24 rfl ?_
          refine c_wb (pc' := 188) (c' := 0) (n' := 0) (h_stat (ra := [.int (24 : Int32), .int (1 : Int32), .int (3 : Int32), .ref a2, .ref 3]) (r := []) (as := [.ref 3, .ref a2, .int (3 : Int32), .int (1 : Int32), .int (24 : Int32)]) (f_at inc_69 (j := 92) rfl) (by decide) MT_67 rfl rfl rfl ⟨Nat.le_of_ble_eq_true rfl, Nat.le_of_ble_eq_true rfl, Nat.le_of_ble_eq_true rfl⟩) MT_67 (G_67 hN a2 (3 : Int32) (1 : Int32) (24 : Int32) ha2 t27.2) ⟨rfl, rfl, rfl⟩ fun t28 => ?_
          refine i_if0 (pc' := 220) (nx := 191) cb_eq (f_at inc_69 (j := 93) rfl) ⟨by decide, rfl⟩ (fun b33 => ?_) (fun b33 => ?_)
          · refine i_iconst (pc' := 221) (f_at inc_69 (j := 110) rfl) ci_0 rfl ?_
            exact hj26 (false, t28.2) ()
          · refine i_aload_n (pc' := 192) (f_at inc_69 (j := 94) rfl) rfl rfl ?_
            refine i_aload_n (pc' := 193) (f_at inc_69 (j := 95) rfl) rfl rfl ?_
            refine i_iconst (pc' := 194) (f_at inc_69 (j := 96) rfl) ci_4 rfl ?_
            refine i_iconst (pc' := 195) (f_at inc_69 (j := 97) rfl) ci_1 rfl ?_
            refine i_sipush (pc' := 198) (f_at inc_69 (j := 98) rfl) cs_500 rfl ?_
            refine c_wb (pc' := 201) (c' := 0) (n' := 0) (h_stat (ra := [.int (500 : Int32), .int (1 : Int32), .int (4 : Int32), .ref a2, .ref 3]) (r := []) (as := [.ref 3, .ref a2, .int (4 : Int32), .int (1 : Int32), .int (500 : Int32)]) (f_at inc_69 (j := 99) rfl) (by decide) MT_67 rfl rfl rfl ⟨Nat.le_of_ble_eq_true rfl, Nat.le_of_ble_eq_true rfl, Nat.le_of_ble_eq_true rfl⟩) MT_67 (G_67 hN a2 (4 : Int32) (1 : Int32) (500 : Int32) ha2 t28.2) ⟨rfl, rfl, rfl⟩ fun t29 => ?_
            refine i_if0 (pc' := 220) (nx := 204) cb_eq (f_at inc_69 (j := 100) rfl) ⟨by decide, rfl⟩ (fun b32 => ?_) (fun b32 => ?_)
            · refine i_iconst (pc' := 221) (f_at inc_69 (j := 110) rfl) ci_0 rfl ?_
              exact hj26 (false, t29.2) ()
            · refine i_aload_n (pc' := 205) (f_at inc_69 (j := 101) rfl) rfl rfl ?_
              refine i_aload_n (pc' := 206) (f_at inc_69 (j := 102) rfl) rfl rfl ?_
              refine i_iconst (pc' := 207) (f_at inc_69 (j := 103) rfl) ci_5 rfl ?_
              refine i_iconst (pc' := 208) (f_at inc_69 (j := 104) rfl) ci_0 rfl ?_
              refine i_bipush (pc' := 210) (f_at inc_69 (j := 105) rfl) cb_50 rfl ?_
              refine c_wb (pc' := 213) (c' := 0) (n' := 0) (h_stat (ra := [.int (50 : Int32), .int (0 : Int32), .int (5 : Int32), .ref a2, .ref 3]) (r := []) (as := [.ref 3, .ref a2, .int (5 : Int32), .int (0 : Int32), .int (50 : Int32)]) (f_at inc_69 (j := 106) rfl) (by decide) MT_67 rfl rfl rfl ⟨Nat.le_of_ble_eq_true rfl, Nat.le_of_ble_eq_true rfl, Nat.le_of_ble_eq_true rfl⟩) MT_67 (G_67 hN a2 (5 : Int32) (0 : Int32) (50 : Int32) ha2 t29.2) ⟨rfl, rfl, rfl⟩ fun t30 => ?_
              refine i_if0 (pc' := 220) (nx := 216) cb_eq (f_at inc_69 (j := 107) rfl) ⟨by decide, rfl⟩ (fun b31 => ?_) (fun b31 => ?_)
              · refine i_iconst (pc' := 221) (f_at inc_69 (j := 110) rfl) ci_0 rfl ?_
                exact hj26 (false, t30.2) ()
              · refine i_iconst (pc' := 217) (f_at inc_69 (j := 108) rfl) ci_1 rfl ?_
                refine i_goto (pc' := 221) (f_at inc_69 (j := 109) rfl) (by decide) ?_
                exact hj26 (true, t30.2) ()
  refine i_cas (fun b38 => ?_) (fun b38 => ?_)
  · refine i_sw (pc' := 222) (v := (3 : Int32)) (f_at inc_69 (j := 3) rfl) b38 ⟨by decide, rfl⟩ (by decide) ?_
    refine i_aload_n (pc' := 223) (f_at inc_69 (j := 112) rfl) rfl rfl ?_
    refine i_aload_n (pc' := 224) (f_at inc_69 (j := 113) rfl) rfl rfl ?_
    refine i_iconst (pc' := 225) (f_at inc_69 (j := 114) rfl) ci_1 rfl ?_
    refine i_iconst (pc' := 226) (f_at inc_69 (j := 115) rfl) ci_0 rfl ?_
    refine i_bipush (pc' := 228) (f_at inc_69 (j := 116) rfl) cb_19 rfl ?_
    refine c_wb (pc' := 231) (c' := 0) (n' := 0) (h_stat (ra := [.int (19 : Int32), .int (0 : Int32), .int (1 : Int32), .ref a2, .ref 3]) (r := []) (as := [.ref 3, .ref a2, .int (1 : Int32), .int (0 : Int32), .int (19 : Int32)]) (f_at inc_69 (j := 117) rfl) (by decide) MT_67 rfl rfl rfl ⟨Nat.le_of_ble_eq_true rfl, Nat.le_of_ble_eq_true rfl, Nat.le_of_ble_eq_true rfl⟩) MT_67 (G_67 hN a2 (1 : Int32) (0 : Int32) (19 : Int32) ha2 σ) ⟨rfl, rfl, rfl⟩ fun t37 => ?_
    exact i_iret (v := f_b t37.1) (f_at inc_69 (j := 118) rfl) rfl n_bool
  refine i_swd (pc' := 232) (f_at inc_69 (j := 3) rfl) (sw_out 4 (fun j hj => by match j, hj with | 0, _ => exact b9 | 1, _ => exact b24 | 2, _ => exact b36 | 3, _ => exact b38)) (by decide) ?_
  refine i_aload_n (pc' := 233) (f_at inc_69 (j := 119) rfl) rfl rfl ?_
  refine i_aload_n (pc' := 234) (f_at inc_69 (j := 120) rfl) rfl rfl ?_
  refine i_aload_n (pc' := 235) (f_at inc_69 (j := 121) rfl) rfl rfl ?_
  refine c_wb (pc' := 238) (c' := 0) (n' := 0) (h_stat (ra := [.ref a2, .ref 103, .ref 3]) (r := []) (as := [.ref 3, .ref 103, .ref a2]) (f_at inc_69 (j := 122) rfl) (by decide) MT_68 rfl rfl rfl ⟨Nat.le_of_ble_eq_true rfl, Nat.le_of_ble_eq_true rfl, Nat.le_of_ble_eq_true rfl⟩) MT_68 (G_68 hN a2 ha2 σ) ⟨rfl, rfl, rfl⟩ fun t39 => ?_
  refine s_join (J := 259) (fun (t40 : Bool × f_M) (u40 : Unit) => [.ref 3, .ref 103, .ref a2]) (fun t40 => [.int (f_b t40.1)]) (fun t40 => t40.2) ?_ ?_
  · intro t40 u40
    exact i_iret (v := f_b t40.1) (f_at inc_69 (j := 134) rfl) rfl n_bool
  · intro k40 hj40
    refine i_if0 (pc' := 258) (nx := 241) cb_eq (f_at inc_69 (j := 123) rfl) ⟨by decide, rfl⟩ (fun b43 => ?_) (fun b43 => ?_)
    · refine i_iconst (pc' := 259) (f_at inc_69 (j := 133) rfl) ci_0 rfl ?_
      exact hj40 (false, t39.2) ()
    · refine i_aload_n (pc' := 242) (f_at inc_69 (j := 124) rfl) rfl rfl ?_
      refine i_aload_n (pc' := 243) (f_at inc_69 (j := 125) rfl) rfl rfl ?_
      refine i_iconst (pc' := 244) (f_at inc_69 (j := 126) rfl) ci_2 rfl ?_
      refine i_iconst (pc' := 245) (f_at inc_69 (j := 127) rfl) ci_1 rfl ?_
      refine i_sipush (pc' := 248) (f_at inc_69 (j := 128) rfl) cs_999 rfl ?_
      refine c_wb (pc' := 251) (c' := 0) (n' := 0) (h_stat (ra := [.int (999 : Int32), .int (1 : Int32), .int (2 : Int32), .ref a2, .ref 3]) (r := []) (as := [.ref 3, .ref a2, .int (2 : Int32), .int (1 : Int32), .int (999 : Int32)]) (f_at inc_69 (j := 129) rfl) (by decide) MT_67 rfl rfl rfl ⟨Nat.le_of_ble_eq_true rfl, Nat.le_of_ble_eq_true rfl, Nat.le_of_ble_eq_true rfl⟩) MT_67 (G_67 hN a2 (2 : Int32) (1 : Int32) (999 : Int32) ha2 t39.2) ⟨rfl, rfl, rfl⟩ fun t41 => ?_
      refine i_if0 (pc' := 258) (nx := 254) cb_eq (f_at inc_69 (j := 130) rfl) ⟨by decide, rfl⟩ (fun b42 => ?_) (fun b42 => ?_)
      · refine i_iconst (pc' := 259) (f_at inc_69 (j := 133) rfl) ci_0 rfl ?_
        exact hj40 (false, t41.2) ()
      · refine i_iconst (pc' := 255) (f_at inc_69 (j := 131) rfl) ci_1 rfl ?_
        refine i_goto (pc' := 259) (f_at inc_69 (j := 132) rfl) (by decide) ?_
        exact hj40 (true, t41.2) ()
set_option maxRecDepth 4000 in
def g_70  (σ : f_M) : Option (Bool × f_M) :=
  (g_66  σ).bind fun t1 =>
  if ¬ t1 = (-1 : Int32) then (
   if ¬ (σ 10 1) = (30 : Int32) then (
    (f_ix 30 (σ 10 1)).bind fun v2 =>
    (f_wr σ (12 + v2) 7 (0 : Int32) t1).bind fun m3 =>
    (g_69 (12 + v2) m3).bind fun t4 =>
    if t4.1 = true then (
     (g_23  (f_up t4.2 10 1 ((t4.2 10 1) + (1 : Int32)))).bind fun t5 =>
     some (t5.1, t5.2)
    ) else (
     some (false, t4.2)
    )
   ) else (
    (g_15 (4 : Int32) σ).bind fun t7 =>
    some (t7.1, t7.2)
   )
  ) else (
   (g_15 (1 : Int32) σ).bind fun t9 =>
   some (t9.1, t9.2)
  )
set_option maxRecDepth 4000 in
theorem G_70 {xs : Nat → Int32} {L N : Nat} (hN : 155 ≤ N)   (σ : f_M) : f_Cal a_MT xs L N 70 [.ref 10, .ref 3, .ref 103] σ ((g_70  σ).bind fun t => some (e_wb t)) := by
  refine f_cal_of (ls := [.ref 10, .ref 3, .ref 103, a_dead, a_dead]) MT_70 (Nat.le_of_ble_eq_true rfl) rfl ?_
  unfold g_70
  refine i_aload_n (pc' := 1) (f_at inc_70 (j := 0) rfl) rfl rfl ?_
  refine c_pi (pc' := 4) (c' := 0) (n' := 0) (h_stat (ra := [.ref 3]) (r := []) (as := [.ref 3]) (f_at inc_70 (j := 1) rfl) (by decide) MT_66 rfl rfl rfl ⟨Nat.le_of_ble_eq_true rfl, Nat.le_of_ble_eq_true rfl, Nat.le_of_ble_eq_true rfl⟩) MT_66 (G_66 hN  σ) ⟨rfl, rfl, rfl⟩ fun t1 => ?_
  refine i_istore_n (pc' := 5) (ls' := [.ref 10, .ref 3, .ref 103, .int t1, a_dead]) (f_at inc_70 (j := 2) rfl) (Nat.le_of_ble_eq_true rfl) rfl rfl ?_
  refine i_iload_n (pc' := 6) (f_at inc_70 (j := 3) rfl) rfl rfl ?_
  refine i_iconst (pc' := 7) (f_at inc_70 (j := 4) rfl) ci_m1 rfl ?_
  refine i_if2 (pc' := 16) (nx := 10) c2_ne (f_at inc_70 (j := 5) rfl) ⟨by decide, rfl⟩ (fun b10 => ?_) (fun b10 => ?_)
  · refine i_aload_n (pc' := 17) (f_at inc_70 (j := 10) rfl) rfl rfl ?_
    refine i_getI (pc' := 20) (f_at inc_70 (j := 11) rfl) sh_10 rfl (f_lt (o := 10) (m := 155) (Nat.le_of_ble_eq_true rfl) hN) rfl ?_
    refine i_bipush (pc' := 22) (f_at inc_70 (j := 12) rfl) cb_30 rfl ?_
    refine i_if2 (pc' := 31) (nx := 25) c2_ne (f_at inc_70 (j := 13) rfl) ⟨by decide, rfl⟩ (fun b8 => ?_) (fun b8 => ?_)
    · refine i_aload_n (pc' := 32) (f_at inc_70 (j := 18) rfl) rfl rfl ?_
      refine i_getR (pc' := 35) (f_at inc_70 (j := 19) rfl) sh_10 rfl (f_lt (o := 10) (m := 155) (Nat.le_of_ble_eq_true rfl) hN) rfl ?_
      refine i_aload_n (pc' := 36) (f_at inc_70 (j := 20) rfl) rfl rfl ?_
      refine i_getI (pc' := 39) (f_at inc_70 (j := 21) rfl) sh_10 rfl (f_lt (o := 10) (m := 155) (Nat.le_of_ble_eq_true rfl) hN) rfl ?_
      refine i_kald (pc' := 40) (f_at inc_70 (j := 22) rfl) sh_11 rfl f_gR (f_bg (Nat.le_of_ble_eq_true rfl)) (f_lt (o := 11) (m := 155) (Nat.le_of_ble_eq_true rfl) hN) rfl fun v2 hv2 => ?_
      refine i_astore (pc' := 42) (ls' := [.ref 10, .ref 3, .ref 103, .int t1, .ref (12 + v2)]) (f_at inc_70 (j := 23) rfl) (Nat.le_of_ble_eq_true rfl) rfl rfl ?_
      refine i_aload (pc' := 44) (f_at inc_70 (j := 24) rfl) rfl rfl ?_
      refine i_iconst (pc' := 45) (f_at inc_70 (j := 25) rfl) ci_0 rfl ?_
      refine i_iload_n (pc' := 46) (f_at inc_70 (j := 26) rfl) rfl rfl ?_
      refine i_iast (pc' := 47) (f_at inc_70 (j := 27) rfl) (f_Rk _ hv2).1 (f_ltR (f_Rk _ hv2) hN) rfl fun m3 => ?_
      refine i_aload_n (pc' := 48) (f_at inc_70 (j := 28) rfl) rfl rfl ?_
      refine i_aload_n (pc' := 49) (f_at inc_70 (j := 29) rfl) rfl rfl ?_
      refine i_aload (pc' := 51) (f_at inc_70 (j := 30) rfl) rfl rfl ?_
      refine c_wb (pc' := 54) (c' := 0) (n' := 0) (h_stat (ra := [.ref (12 + v2), .ref 103, .ref 3]) (r := []) (as := [.ref 3, .ref 103, .ref (12 + v2)]) (f_at inc_70 (j := 31) rfl) (by decide) MT_69 rfl rfl rfl ⟨Nat.le_of_ble_eq_true rfl, Nat.le_of_ble_eq_true rfl, Nat.le_of_ble_eq_true rfl⟩) MT_69 (G_69 hN (12 + v2) (f_Rk _ hv2) m3) ⟨rfl, rfl, rfl⟩ fun t4 => ?_
      refine i_if0 (pc' := 59) (nx := 57) cb_ne (f_at inc_70 (j := 32) rfl) ⟨by decide, rfl⟩ (fun b6 => ?_) (fun b6 => ?_)
      · refine i_aload_n (pc' := 60) (f_at inc_70 (j := 35) rfl) rfl rfl ?_
        refine i_dup (pc' := 61) (f_at inc_70 (j := 36) rfl) rfl rfl ?_
        refine i_getI (pc' := 64) (f_at inc_70 (j := 37) rfl) sh_10 rfl (f_lt (o := 10) (m := 155) (Nat.le_of_ble_eq_true rfl) hN) rfl ?_
        refine i_iconst (pc' := 65) (f_at inc_70 (j := 38) rfl) ci_1 rfl ?_
        refine i_iadd (pc' := 66) (f_at inc_70 (j := 39) rfl) rfl ?_
        refine i_putI (pc' := 69) (f_at inc_70 (j := 40) rfl) sh_10 rfl ⟨rfl, rfl⟩ (f_lt (o := 10) (m := 155) (Nat.le_of_ble_eq_true rfl) hN) rfl ?_
        refine i_aload_n (pc' := 70) (f_at inc_70 (j := 41) rfl) rfl rfl ?_
        refine c_wb (pc' := 73) (c' := 0) (n' := 0) (h_virt (ra := [.ref 3]) (r := []) (as := []) (f_at inc_70 (j := 42) rfl) (by decide) MT_23 rfl rfl rfl ⟨Nat.le_of_ble_eq_true rfl, Nat.le_of_ble_eq_true rfl, Nat.le_of_ble_eq_true rfl⟩ sh_3 (f_lt (o := 3) (m := 155) (Nat.le_of_ble_eq_true rfl) hN)) MT_23 (G_23 hN  (f_up t4.2 10 1 ((t4.2 10 1) + (1 : Int32)))) ⟨rfl, rfl, rfl⟩ fun t5 => ?_
        exact i_iret (v := f_b t5.1) (f_at inc_70 (j := 43) rfl) rfl n_bool
      · refine i_iconst (pc' := 58) (f_at inc_70 (j := 33) rfl) ci_0 rfl ?_
        exact i_iret (v := f_b false) (f_at inc_70 (j := 34) rfl) rfl n_bool
    · refine i_aload_n (pc' := 26) (f_at inc_70 (j := 14) rfl) rfl rfl ?_
      refine i_iconst (pc' := 27) (f_at inc_70 (j := 15) rfl) ci_4 rfl ?_
      refine c_wb (pc' := 30) (c' := 0) (n' := 0) (h_virt (ra := [.int (4 : Int32), .ref 3]) (r := []) (as := [.int (4 : Int32)]) (f_at inc_70 (j := 16) rfl) (by decide) MT_15 rfl rfl rfl ⟨Nat.le_of_ble_eq_true rfl, Nat.le_of_ble_eq_true rfl, Nat.le_of_ble_eq_true rfl⟩ sh_3 (f_lt (o := 3) (m := 155) (Nat.le_of_ble_eq_true rfl) hN)) MT_15 (G_15 hN (4 : Int32) σ) ⟨rfl, rfl, rfl⟩ fun t7 => ?_
      exact i_iret (v := f_b t7.1) (f_at inc_70 (j := 17) rfl) rfl n_bool
  · refine i_aload_n (pc' := 11) (f_at inc_70 (j := 6) rfl) rfl rfl ?_
    refine i_iconst (pc' := 12) (f_at inc_70 (j := 7) rfl) ci_1 rfl ?_
    refine c_wb (pc' := 15) (c' := 0) (n' := 0) (h_virt (ra := [.int (1 : Int32), .ref 3]) (r := []) (as := [.int (1 : Int32)]) (f_at inc_70 (j := 8) rfl) (by decide) MT_15 rfl rfl rfl ⟨Nat.le_of_ble_eq_true rfl, Nat.le_of_ble_eq_true rfl, Nat.le_of_ble_eq_true rfl⟩ sh_3 (f_lt (o := 3) (m := 155) (Nat.le_of_ble_eq_true rfl) hN)) MT_15 (G_15 hN (1 : Int32) σ) ⟨rfl, rfl, rfl⟩ fun t9 => ?_
    exact i_iret (v := f_b t9.1) (f_at inc_70 (j := 9) rfl) rfl n_bool
set_option maxRecDepth 4000 in
def g_71  (σ : f_M) : Option (Bool × f_M) :=
  (g_12  (f_up σ 10 1 (0 : Int32))).bind fun t1 =>
  (f_lp (fun (s2 : Int32 × f_M) =>
   if (30 : Int32) < s2.1 then (
    some (.inr (.inl s2.2))
   ) else (
    (g_13  s2.2).bind fun t3 =>
    if t3 = true then (
     some (.inr (.inl s2.2))
    ) else (
     (g_70  s2.2).bind fun t4 =>
     if t4.1 = true then (
      (g_12  t4.2).bind fun t5 =>
      some (.inl ((s2.1 + (1 : Int32)), t5))
     ) else (
      some (.inr (.inr (false, t4.2)))
     )
    )
   )
  ) f_F ((0 : Int32), t1)).bind fun (y2 : (f_M) ⊕ (Bool × f_M)) => Sum.elim (fun x2 =>
   some (true, x2)
  ) (fun r2 => some r2) y2
set_option maxRecDepth 4000 in
theorem G_71 {xs : Nat → Int32} {L N : Nat} (hN : 155 ≤ N)   (σ : f_M) : f_Cal a_MT xs L N 71 [.ref 10, .ref 3, .ref 103] σ ((g_71  σ).bind fun t => some (e_wb t)) := by
  refine f_cal_of (ls := [.ref 10, .ref 3, .ref 103, a_dead]) MT_71 (Nat.le_of_ble_eq_true rfl) rfl ?_
  unfold g_71
  refine i_aload_n (pc' := 1) (f_at inc_71 (j := 0) rfl) rfl rfl ?_
  refine i_iconst (pc' := 2) (f_at inc_71 (j := 1) rfl) ci_0 rfl ?_
  refine i_putI (pc' := 5) (f_at inc_71 (j := 2) rfl) sh_10 rfl ⟨rfl, rfl⟩ (f_lt (o := 10) (m := 155) (Nat.le_of_ble_eq_true rfl) hN) rfl ?_
  refine i_aload_n (pc' := 6) (f_at inc_71 (j := 3) rfl) rfl rfl ?_
  refine c_wv (pc' := 9) (c' := 0) (n' := 0) (h_virt (ra := [.ref 3]) (r := []) (as := []) (f_at inc_71 (j := 4) rfl) (by decide) MT_12 rfl rfl rfl ⟨Nat.le_of_ble_eq_true rfl, Nat.le_of_ble_eq_true rfl, Nat.le_of_ble_eq_true rfl⟩ sh_3 (f_lt (o := 3) (m := 155) (Nat.le_of_ble_eq_true rfl) hN)) MT_12 (G_12 hN  (f_up σ 10 1 (0 : Int32))) ⟨rfl, rfl, rfl⟩ fun t1 => ?_
  refine i_iconst (pc' := 10) (f_at inc_71 (j := 5) rfl) ci_0 rfl ?_
  refine i_istore_n (pc' := 11) (ls' := [.ref 10, .ref 3, .ref 103, .int (0 : Int32)]) (f_at inc_71 (j := 6) rfl) (Nat.le_of_ble_eq_true rfl) rfl rfl ?_
  refine s_lB (X := 45) ((0 : Int32), t1) () (fun (s2 : Int32 × f_M) (u2 : Unit) => [.ref 10, .ref 3, .ref 103, .int s2.1]) (fun (s2 : Int32 × f_M) => s2.2) (fun (x2 : f_M) (w2 : Value) => [.ref 10, .ref 3, .ref 103, w2]) (fun (x2 : f_M) => x2) ?_ ?_
  · intro x2 w2
    refine i_iconst (pc' := 46) (f_at inc_71 (j := 24) rfl) ci_1 rfl ?_
    exact i_iret (v := f_b true) (f_at inc_71 (j := 25) rfl) rfl n_bool
  · intro s2 u2 k2 hb2 hx2 hr2
    refine i_iload_n (pc' := 12) (f_at inc_71 (j := 7) rfl) rfl rfl ?_
    refine i_bipush (pc' := 14) (f_at inc_71 (j := 8) rfl) cb_30 rfl ?_
    refine i_if2 (pc' := 45) (nx := 17) c2_gt (f_at inc_71 (j := 9) rfl) ⟨by decide, rfl⟩ (fun b8 => ?_) (fun b8 => ?_)
    · exact hx2 s2.2 (.int s2.1)
    · refine i_aload_n (pc' := 18) (f_at inc_71 (j := 10) rfl) rfl rfl ?_
      refine c_pb (pc' := 21) (c' := 0) (n' := 0) (h_virt (ra := [.ref 3]) (r := []) (as := []) (f_at inc_71 (j := 11) rfl) (by decide) MT_13 rfl rfl rfl ⟨Nat.le_of_ble_eq_true rfl, Nat.le_of_ble_eq_true rfl, Nat.le_of_ble_eq_true rfl⟩ sh_3 (f_lt (o := 3) (m := 155) (Nat.le_of_ble_eq_true rfl) hN)) MT_13 (G_13 hN  s2.2) ⟨rfl, rfl, rfl⟩ fun t3 => ?_
      refine i_if0 (pc' := 45) (nx := 24) cb_ne (f_at inc_71 (j := 12) rfl) ⟨by decide, rfl⟩ (fun b7 => ?_) (fun b7 => ?_)
      · exact hx2 s2.2 (.int s2.1)
      · refine i_aload_n (pc' := 25) (f_at inc_71 (j := 13) rfl) rfl rfl ?_
        refine i_aload_n (pc' := 26) (f_at inc_71 (j := 14) rfl) rfl rfl ?_
        refine i_aload_n (pc' := 27) (f_at inc_71 (j := 15) rfl) rfl rfl ?_
        refine c_wb (pc' := 30) (c' := 0) (n' := 0) (h_virt (ra := [.ref 103, .ref 3, .ref 10]) (r := []) (as := [.ref 3, .ref 103]) (f_at inc_71 (j := 16) rfl) (by decide) MT_70 rfl rfl rfl ⟨Nat.le_of_ble_eq_true rfl, Nat.le_of_ble_eq_true rfl, Nat.le_of_ble_eq_true rfl⟩ sh_10 (f_lt (o := 10) (m := 155) (Nat.le_of_ble_eq_true rfl) hN)) MT_70 (G_70 hN  s2.2) ⟨rfl, rfl, rfl⟩ fun t4 => ?_
        refine i_if0 (pc' := 35) (nx := 33) cb_ne (f_at inc_71 (j := 17) rfl) ⟨by decide, rfl⟩ (fun b6 => ?_) (fun b6 => ?_)
        · refine i_aload_n (pc' := 36) (f_at inc_71 (j := 20) rfl) rfl rfl ?_
          refine c_wv (pc' := 39) (c' := 0) (n' := 0) (h_virt (ra := [.ref 3]) (r := []) (as := []) (f_at inc_71 (j := 21) rfl) (by decide) MT_12 rfl rfl rfl ⟨Nat.le_of_ble_eq_true rfl, Nat.le_of_ble_eq_true rfl, Nat.le_of_ble_eq_true rfl⟩ sh_3 (f_lt (o := 3) (m := 155) (Nat.le_of_ble_eq_true rfl) hN)) MT_12 (G_12 hN  t4.2) ⟨rfl, rfl, rfl⟩ fun t5 => ?_
          refine i_iinc (pc' := 42) (ls' := [.ref 10, .ref 3, .ref 103, .int (s2.1 + (1 : Int32))]) (f_at inc_71 (j := 22) rfl) rfl ci_1 rfl rfl ?_
          refine i_goto (pc' := 11) (f_at inc_71 (j := 23) rfl) (by decide) ?_
          exact hb2 ((s2.1 + (1 : Int32)), t5) ()
        · refine i_iconst (pc' := 34) (f_at inc_71 (j := 18) rfl) ci_0 rfl ?_
          refine s_rt (hr2 _) ?_
          exact i_iret (v := f_b false) (f_at inc_71 (j := 19) rfl) rfl n_bool
set_option maxRecDepth 4000 in
def g_72 (a0 : Nat) (a1 : Nat) (σ : f_M) : Option (f_M) :=
  (f_cp (f_up (f_up σ a0 0 (σ a1 0)) a0 1 ((f_up σ a0 0 (σ a1 0)) a1 1)) .int (a1 + 1) 8 (a0 + 1) 8 (0 : Int32) (0 : Int32) (8 : Int32)).bind fun m1 =>
  (f_lp (fun (s2 : Int32 × f_M) =>
   if (20 : Int32) ≤ s2.1 then (
    some (.inr s2.2)
   ) else (
    (f_rd s2.2 (a1 + 2) 20 s2.1).bind fun v3 =>
    (f_wr s2.2 (a0 + 2) 20 s2.1 (v3 &&& 1)).bind fun m4 =>
    some (.inl ((s2.1 + (1 : Int32)), m4))
   )
  ) f_F ((0 : Int32), (f_up m1 a0 3 (m1 a1 3)))).bind fun (x2 : f_M) =>
  (f_cp (f_up x2 a0 5 (x2 a1 5)) .int (a1 + 3) 20 (a0 + 3) 20 (0 : Int32) (0 : Int32) (20 : Int32)).bind fun m6 =>
  (f_cp m6 .int (a1 + 4) 20 (a0 + 4) 20 (0 : Int32) (0 : Int32) (20 : Int32)).bind fun m7 =>
  (f_cp m7 .int (a1 + 5) 20 (a0 + 5) 20 (0 : Int32) (0 : Int32) (20 : Int32)).bind fun m8 =>
  (f_cp m8 .int (a1 + 6) 20 (a0 + 6) 20 (0 : Int32) (0 : Int32) (20 : Int32)).bind fun m9 =>
  some (f_up (f_up (f_up (f_up (f_up m9 a0 10 (m9 a1 10)) a0 11 ((f_up m9 a0 10 (m9 a1 10)) a1 11)) a0 12 ((f_up (f_up m9 a0 10 (m9 a1 10)) a0 11 ((f_up m9 a0 10 (m9 a1 10)) a1 11)) a1 12)) a0 13 ((f_up (f_up (f_up m9 a0 10 (m9 a1 10)) a0 11 ((f_up m9 a0 10 (m9 a1 10)) a1 11)) a0 12 ((f_up (f_up m9 a0 10 (m9 a1 10)) a0 11 ((f_up m9 a0 10 (m9 a1 10)) a1 11)) a1 12)) a1 13)) a0 14 ((f_up (f_up (f_up (f_up m9 a0 10 (m9 a1 10)) a0 11 ((f_up m9 a0 10 (m9 a1 10)) a1 11)) a0 12 ((f_up (f_up m9 a0 10 (m9 a1 10)) a0 11 ((f_up m9 a0 10 (m9 a1 10)) a1 11)) a1 12)) a0 13 ((f_up (f_up (f_up m9 a0 10 (m9 a1 10)) a0 11 ((f_up m9 a0 10 (m9 a1 10)) a1 11)) a0 12 ((f_up (f_up m9 a0 10 (m9 a1 10)) a0 11 ((f_up m9 a0 10 (m9 a1 10)) a1 11)) a1 12)) a1 13)) a1 14))
set_option maxRecDepth 4000 in
theorem G_72 {xs : Nat → Int32} {L N : Nat} (hN : 155 ≤ N) (a0 : Nat) (a1 : Nat) (ha0 : f_L a0) (ha1 : f_L a1) (σ : f_M) : f_Cal a_MT xs L N 72 [.ref a0, .ref a1] σ ((g_72 a0 a1 σ).bind fun t => some (e_wv t)) := by
  refine f_cal_of (ls := [.ref a0, .ref a1, a_dead]) MT_72 (Nat.le_of_ble_eq_true rfl) rfl ?_
  unfold g_72
  refine i_aload_n (pc' := 1) (f_at inc_72 (j := 0) rfl) rfl rfl ?_
  refine i_aload_n (pc' := 2) (f_at inc_72 (j := 1) rfl) rfl rfl ?_
  refine i_getI (pc' := 5) (f_at inc_72 (j := 2) rfl) ha1.1 rfl (f_ltL ha1 hN 0 (Nat.le_of_ble_eq_true rfl)) rfl ?_
  refine i_putI (pc' := 8) (f_at inc_72 (j := 3) rfl) ha0.1 rfl ⟨rfl, rfl⟩ (f_ltL ha0 hN 0 (Nat.le_of_ble_eq_true rfl)) rfl ?_
  refine i_aload_n (pc' := 9) (f_at inc_72 (j := 4) rfl) rfl rfl ?_
  refine i_aload_n (pc' := 10) (f_at inc_72 (j := 5) rfl) rfl rfl ?_
  refine i_getI (pc' := 13) (f_at inc_72 (j := 6) rfl) ha1.1 rfl (f_ltL ha1 hN 0 (Nat.le_of_ble_eq_true rfl)) rfl ?_
  refine i_putI (pc' := 16) (f_at inc_72 (j := 7) rfl) ha0.1 rfl ⟨rfl, rfl⟩ (f_ltL ha0 hN 0 (Nat.le_of_ble_eq_true rfl)) rfl ?_
  refine i_aload_n (pc' := 17) (f_at inc_72 (j := 8) rfl) rfl rfl ?_
  refine i_getR (pc' := 20) (f_at inc_72 (j := 9) rfl) ha1.1 rfl (f_ltL ha1 hN 0 (Nat.le_of_ble_eq_true rfl)) rfl ?_
  refine i_iconst (pc' := 21) (f_at inc_72 (j := 10) rfl) ci_0 rfl ?_
  refine i_aload_n (pc' := 22) (f_at inc_72 (j := 11) rfl) rfl rfl ?_
  refine i_getR (pc' := 25) (f_at inc_72 (j := 12) rfl) ha0.1 rfl (f_ltL ha0 hN 0 (Nat.le_of_ble_eq_true rfl)) rfl ?_
  refine i_iconst (pc' := 26) (f_at inc_72 (j := 13) rfl) ci_0 rfl ?_
  refine i_bipush (pc' := 28) (f_at inc_72 (j := 14) rfl) cb_8 rfl ?_
  refine i_cpy (pc' := 31) (f_at inc_72 (j := 15) rfl) ha1.2.1 ha0.2.1 (Or.inl rfl) (Nat.le_of_ble_eq_true rfl) (f_ltL ha1 hN 1 (Nat.le_of_ble_eq_true rfl)) (f_ltL ha0 hN 1 (Nat.le_of_ble_eq_true rfl)) rfl fun m1 => ?_
  refine i_aload_n (pc' := 32) (f_at inc_72 (j := 16) rfl) rfl rfl ?_
  refine i_aload_n (pc' := 33) (f_at inc_72 (j := 17) rfl) rfl rfl ?_
  refine i_getI (pc' := 36) (f_at inc_72 (j := 18) rfl) ha1.1 rfl (f_ltL ha1 hN 0 (Nat.le_of_ble_eq_true rfl)) rfl ?_
  refine i_putI (pc' := 39) (f_at inc_72 (j := 19) rfl) ha0.1 rfl ⟨rfl, rfl⟩ (f_ltL ha0 hN 0 (Nat.le_of_ble_eq_true rfl)) rfl ?_
  refine i_iconst (pc' := 40) (f_at inc_72 (j := 20) rfl) ci_0 rfl ?_
  refine i_istore_n (pc' := 41) (ls' := [.ref a0, .ref a1, .int (0 : Int32)]) (f_at inc_72 (j := 21) rfl) (Nat.le_of_ble_eq_true rfl) rfl rfl ?_
  refine s_lX (X := 65) ((0 : Int32), (f_up m1 a0 3 (m1 a1 3))) () (fun (s2 : Int32 × f_M) (u2 : Unit) => [.ref a0, .ref a1, .int s2.1]) (fun (s2 : Int32 × f_M) => s2.2) (fun (x2 : f_M) (w2 : Value) => [.ref a0, .ref a1, w2]) (fun (x2 : f_M) => x2) ?_ ?_
  · intro x2 w2
    refine i_aload_n (pc' := 66) (f_at inc_72 (j := 35) rfl) rfl rfl ?_
    refine i_aload_n (pc' := 67) (f_at inc_72 (j := 36) rfl) rfl rfl ?_
    refine i_getI (pc' := 70) (f_at inc_72 (j := 37) rfl) ha1.1 rfl (f_ltL ha1 hN 0 (Nat.le_of_ble_eq_true rfl)) rfl ?_
    refine i_putI (pc' := 73) (f_at inc_72 (j := 38) rfl) ha0.1 rfl ⟨rfl, rfl⟩ (f_ltL ha0 hN 0 (Nat.le_of_ble_eq_true rfl)) rfl ?_
    refine i_aload_n (pc' := 74) (f_at inc_72 (j := 39) rfl) rfl rfl ?_
    refine i_getR (pc' := 77) (f_at inc_72 (j := 40) rfl) ha1.1 rfl (f_ltL ha1 hN 0 (Nat.le_of_ble_eq_true rfl)) rfl ?_
    refine i_iconst (pc' := 78) (f_at inc_72 (j := 41) rfl) ci_0 rfl ?_
    refine i_aload_n (pc' := 79) (f_at inc_72 (j := 42) rfl) rfl rfl ?_
    refine i_getR (pc' := 82) (f_at inc_72 (j := 43) rfl) ha0.1 rfl (f_ltL ha0 hN 0 (Nat.le_of_ble_eq_true rfl)) rfl ?_
    refine i_iconst (pc' := 83) (f_at inc_72 (j := 44) rfl) ci_0 rfl ?_
    refine i_bipush (pc' := 85) (f_at inc_72 (j := 45) rfl) cb_20 rfl ?_
    refine i_cpy (pc' := 88) (f_at inc_72 (j := 46) rfl) ha1.2.2.2.1 ha0.2.2.2.1 (Or.inl rfl) (Nat.le_of_ble_eq_true rfl) (f_ltL ha1 hN 3 (Nat.le_of_ble_eq_true rfl)) (f_ltL ha0 hN 3 (Nat.le_of_ble_eq_true rfl)) rfl fun m6 => ?_
    refine i_aload_n (pc' := 89) (f_at inc_72 (j := 47) rfl) rfl rfl ?_
    refine i_getR (pc' := 92) (f_at inc_72 (j := 48) rfl) ha1.1 rfl (f_ltL ha1 hN 0 (Nat.le_of_ble_eq_true rfl)) rfl ?_
    refine i_iconst (pc' := 93) (f_at inc_72 (j := 49) rfl) ci_0 rfl ?_
    refine i_aload_n (pc' := 94) (f_at inc_72 (j := 50) rfl) rfl rfl ?_
    refine i_getR (pc' := 97) (f_at inc_72 (j := 51) rfl) ha0.1 rfl (f_ltL ha0 hN 0 (Nat.le_of_ble_eq_true rfl)) rfl ?_
    refine i_iconst (pc' := 98) (f_at inc_72 (j := 52) rfl) ci_0 rfl ?_
    refine i_bipush (pc' := 100) (f_at inc_72 (j := 53) rfl) cb_20 rfl ?_
    refine i_cpy (pc' := 103) (f_at inc_72 (j := 54) rfl) ha1.2.2.2.2.1 ha0.2.2.2.2.1 (Or.inl rfl) (Nat.le_of_ble_eq_true rfl) (f_ltL ha1 hN 4 (Nat.le_of_ble_eq_true rfl)) (f_ltL ha0 hN 4 (Nat.le_of_ble_eq_true rfl)) rfl fun m7 => ?_
    refine i_aload_n (pc' := 104) (f_at inc_72 (j := 55) rfl) rfl rfl ?_
    refine i_getR (pc' := 107) (f_at inc_72 (j := 56) rfl) ha1.1 rfl (f_ltL ha1 hN 0 (Nat.le_of_ble_eq_true rfl)) rfl ?_
    refine i_iconst (pc' := 108) (f_at inc_72 (j := 57) rfl) ci_0 rfl ?_
    refine i_aload_n (pc' := 109) (f_at inc_72 (j := 58) rfl) rfl rfl ?_
    refine i_getR (pc' := 112) (f_at inc_72 (j := 59) rfl) ha0.1 rfl (f_ltL ha0 hN 0 (Nat.le_of_ble_eq_true rfl)) rfl ?_
    refine i_iconst (pc' := 113) (f_at inc_72 (j := 60) rfl) ci_0 rfl ?_
    refine i_bipush (pc' := 115) (f_at inc_72 (j := 61) rfl) cb_20 rfl ?_
    refine i_cpy (pc' := 118) (f_at inc_72 (j := 62) rfl) ha1.2.2.2.2.2.1 ha0.2.2.2.2.2.1 (Or.inl rfl) (Nat.le_of_ble_eq_true rfl) (f_ltL ha1 hN 5 (Nat.le_of_ble_eq_true rfl)) (f_ltL ha0 hN 5 (Nat.le_of_ble_eq_true rfl)) rfl fun m8 => ?_
    refine i_aload_n (pc' := 119) (f_at inc_72 (j := 63) rfl) rfl rfl ?_
    refine i_getR (pc' := 122) (f_at inc_72 (j := 64) rfl) ha1.1 rfl (f_ltL ha1 hN 0 (Nat.le_of_ble_eq_true rfl)) rfl ?_
    refine i_iconst (pc' := 123) (f_at inc_72 (j := 65) rfl) ci_0 rfl ?_
    refine i_aload_n (pc' := 124) (f_at inc_72 (j := 66) rfl) rfl rfl ?_
    refine i_getR (pc' := 127) (f_at inc_72 (j := 67) rfl) ha0.1 rfl (f_ltL ha0 hN 0 (Nat.le_of_ble_eq_true rfl)) rfl ?_
    refine i_iconst (pc' := 128) (f_at inc_72 (j := 68) rfl) ci_0 rfl ?_
    refine i_bipush (pc' := 130) (f_at inc_72 (j := 69) rfl) cb_20 rfl ?_
    refine i_cpy (pc' := 133) (f_at inc_72 (j := 70) rfl) ha1.2.2.2.2.2.2.1 ha0.2.2.2.2.2.2.1 (Or.inl rfl) (Nat.le_of_ble_eq_true rfl) (f_ltL ha1 hN 6 (Nat.le_of_ble_eq_true rfl)) (f_ltL ha0 hN 6 (Nat.le_of_ble_eq_true rfl)) rfl fun m9 => ?_
    refine i_aload_n (pc' := 134) (f_at inc_72 (j := 71) rfl) rfl rfl ?_
    refine i_aload_n (pc' := 135) (f_at inc_72 (j := 72) rfl) rfl rfl ?_
    refine i_getI (pc' := 138) (f_at inc_72 (j := 73) rfl) ha1.1 rfl (f_ltL ha1 hN 0 (Nat.le_of_ble_eq_true rfl)) rfl ?_
    refine i_putI (pc' := 141) (f_at inc_72 (j := 74) rfl) ha0.1 rfl ⟨rfl, rfl⟩ (f_ltL ha0 hN 0 (Nat.le_of_ble_eq_true rfl)) rfl ?_
    refine i_aload_n (pc' := 142) (f_at inc_72 (j := 75) rfl) rfl rfl ?_
    refine i_aload_n (pc' := 143) (f_at inc_72 (j := 76) rfl) rfl rfl ?_
    refine i_getI (pc' := 146) (f_at inc_72 (j := 77) rfl) ha1.1 rfl (f_ltL ha1 hN 0 (Nat.le_of_ble_eq_true rfl)) rfl ?_
    refine i_putI (pc' := 149) (f_at inc_72 (j := 78) rfl) ha0.1 rfl ⟨rfl, rfl⟩ (f_ltL ha0 hN 0 (Nat.le_of_ble_eq_true rfl)) rfl ?_
    refine i_aload_n (pc' := 150) (f_at inc_72 (j := 79) rfl) rfl rfl ?_
    refine i_aload_n (pc' := 151) (f_at inc_72 (j := 80) rfl) rfl rfl ?_
    refine i_getI (pc' := 154) (f_at inc_72 (j := 81) rfl) ha1.1 rfl (f_ltL ha1 hN 0 (Nat.le_of_ble_eq_true rfl)) rfl ?_
    refine i_putI (pc' := 157) (f_at inc_72 (j := 82) rfl) ha0.1 rfl ⟨rfl, rfl⟩ (f_ltL ha0 hN 0 (Nat.le_of_ble_eq_true rfl)) rfl ?_
    refine i_aload_n (pc' := 158) (f_at inc_72 (j := 83) rfl) rfl rfl ?_
    refine i_aload_n (pc' := 159) (f_at inc_72 (j := 84) rfl) rfl rfl ?_
    refine i_getI (pc' := 162) (f_at inc_72 (j := 85) rfl) ha1.1 rfl (f_ltL ha1 hN 0 (Nat.le_of_ble_eq_true rfl)) rfl ?_
    refine i_putI (pc' := 165) (f_at inc_72 (j := 86) rfl) ha0.1 rfl ⟨rfl, rfl⟩ (f_ltL ha0 hN 0 (Nat.le_of_ble_eq_true rfl)) rfl ?_
    refine i_aload_n (pc' := 166) (f_at inc_72 (j := 87) rfl) rfl rfl ?_
    refine i_aload_n (pc' := 167) (f_at inc_72 (j := 88) rfl) rfl rfl ?_
    refine i_getI (pc' := 170) (f_at inc_72 (j := 89) rfl) ha1.1 rfl (f_ltL ha1 hN 0 (Nat.le_of_ble_eq_true rfl)) rfl ?_
    refine i_putI (pc' := 173) (f_at inc_72 (j := 90) rfl) ha0.1 rfl ⟨rfl, rfl⟩ (f_ltL ha0 hN 0 (Nat.le_of_ble_eq_true rfl)) rfl ?_
    exact i_vret (f_at inc_72 (j := 91) rfl) rfl
  · intro s2 u2 k2 hb2 hx2
    refine i_iload_n (pc' := 42) (f_at inc_72 (j := 22) rfl) rfl rfl ?_
    refine i_bipush (pc' := 44) (f_at inc_72 (j := 23) rfl) cb_20 rfl ?_
    refine i_if2 (pc' := 65) (nx := 47) c2_ge (f_at inc_72 (j := 24) rfl) ⟨by decide, rfl⟩ (fun b5 => ?_) (fun b5 => ?_)
    · exact hx2 s2.2 (.int s2.1)
    · refine i_aload_n (pc' := 48) (f_at inc_72 (j := 25) rfl) rfl rfl ?_
      refine i_getR (pc' := 51) (f_at inc_72 (j := 26) rfl) ha0.1 rfl (f_ltL ha0 hN 0 (Nat.le_of_ble_eq_true rfl)) rfl ?_
      refine i_iload_n (pc' := 52) (f_at inc_72 (j := 27) rfl) rfl rfl ?_
      refine i_aload_n (pc' := 53) (f_at inc_72 (j := 28) rfl) rfl rfl ?_
      refine i_getR (pc' := 56) (f_at inc_72 (j := 29) rfl) ha1.1 rfl (f_ltL ha1 hN 0 (Nat.le_of_ble_eq_true rfl)) rfl ?_
      refine i_iload_n (pc' := 57) (f_at inc_72 (j := 30) rfl) rfl rfl ?_
      refine i_bald (pc' := 58) (f_at inc_72 (j := 31) rfl) ha1.2.2.1 (Or.inr rfl) (f_bgL ha1 2 (Nat.le_of_ble_eq_true rfl)) (f_ltL ha1 hN 2 (Nat.le_of_ble_eq_true rfl)) rfl fun v3 => ?_
      refine i_bast (pc' := 59) (f_at inc_72 (j := 32) rfl) ha0.2.2.1 (Or.inr rfl) rfl (f_ltL ha0 hN 2 (Nat.le_of_ble_eq_true rfl)) rfl fun m4 => ?_
      refine i_iinc (pc' := 62) (ls' := [.ref a0, .ref a1, .int (s2.1 + (1 : Int32))]) (f_at inc_72 (j := 33) rfl) rfl ci_1 rfl rfl ?_
      refine i_goto (pc' := 41) (f_at inc_72 (j := 34) rfl) (by decide) ?_
      exact hb2 ((s2.1 + (1 : Int32)), m4) ()
set_option maxRecDepth 4000 in
def g_73  (σ : f_M) : Option (f_M) :=
  (f_ix 8 (((σ 44 1) + (σ 44 2)) - ((σ 44 1) + (σ 44 2)) / (8 : Int32) * (8 : Int32))).bind fun v1 =>
  (g_72 (46 + 7 * v1) 121 σ).bind fun t2 =>
  (
   if (8 : Int32) ≤ (t2 44 2) then (
    some (f_up t2 44 1 (((t2 44 1) + (1 : Int32)) - ((t2 44 1) + (1 : Int32)) / (8 : Int32) * (8 : Int32)))
   ) else (
    some (f_up t2 44 2 ((t2 44 2) + (1 : Int32)))
   )
  ).bind fun (t3 : f_M) =>
  some t3
set_option maxRecDepth 4000 in
theorem G_73 {xs : Nat → Int32} {L N : Nat} (hN : 155 ≤ N)   (σ : f_M) : f_Cal a_MT xs L N 73 [.ref 44, .ref 121] σ ((g_73  σ).bind fun t => some (e_wv t)) := by
  refine f_cal_of (ls := [.ref 44, .ref 121]) MT_73 (Nat.le_of_ble_eq_true rfl) rfl ?_
  unfold g_73
  refine i_aload_n (pc' := 1) (f_at inc_73 (j := 0) rfl) rfl rfl ?_
  refine i_getR (pc' := 4) (f_at inc_73 (j := 1) rfl) sh_44 rfl (f_lt (o := 44) (m := 155) (Nat.le_of_ble_eq_true rfl) hN) rfl ?_
  refine i_aload_n (pc' := 5) (f_at inc_73 (j := 2) rfl) rfl rfl ?_
  refine i_getI (pc' := 8) (f_at inc_73 (j := 3) rfl) sh_44 rfl (f_lt (o := 44) (m := 155) (Nat.le_of_ble_eq_true rfl) hN) rfl ?_
  refine i_aload_n (pc' := 9) (f_at inc_73 (j := 4) rfl) rfl rfl ?_
  refine i_getI (pc' := 12) (f_at inc_73 (j := 5) rfl) sh_44 rfl (f_lt (o := 44) (m := 155) (Nat.le_of_ble_eq_true rfl) hN) rfl ?_
  refine i_iadd (pc' := 13) (f_at inc_73 (j := 6) rfl) rfl ?_
  refine i_bipush (pc' := 15) (f_at inc_73 (j := 7) rfl) cb_8 rfl ?_
  refine i_irem (pc' := 16) (f_at inc_73 (j := 8) rfl) (by decide) rfl ?_
  refine i_kald (pc' := 17) (f_at inc_73 (j := 9) rfl) sh_45 rfl f_gK (f_bg (Nat.le_of_ble_eq_true rfl)) (f_lt (o := 45) (m := 155) (Nat.le_of_ble_eq_true rfl) hN) rfl fun v1 hv1 => ?_
  refine i_aload_n (pc' := 18) (f_at inc_73 (j := 10) rfl) rfl rfl ?_
  refine c_wv (pc' := 21) (c' := 0) (n' := 0) (h_virt (ra := [.ref 121, .ref (46 + 7 * v1)]) (r := []) (as := [.ref 121]) (f_at inc_73 (j := 11) rfl) (by decide) MT_72 rfl rfl rfl ⟨Nat.le_of_ble_eq_true rfl, Nat.le_of_ble_eq_true rfl, Nat.le_of_ble_eq_true rfl⟩ (f_Lk _ hv1).1 (f_ltL (f_Lk _ hv1) hN 0 (Nat.le_of_ble_eq_true rfl))) MT_72 (G_72 hN (46 + 7 * v1) 121 (f_Lk _ hv1) f_L121 σ) ⟨rfl, rfl, rfl⟩ fun t2 => ?_
  refine i_aload_n (pc' := 22) (f_at inc_73 (j := 12) rfl) rfl rfl ?_
  refine i_getI (pc' := 25) (f_at inc_73 (j := 13) rfl) sh_44 rfl (f_lt (o := 44) (m := 155) (Nat.le_of_ble_eq_true rfl) hN) rfl ?_
  refine i_bipush (pc' := 27) (f_at inc_73 (j := 14) rfl) cb_8 rfl ?_
  refine s_join (J := 56) (fun (t3 : f_M) (u3 : Unit) => [.ref 44, .ref 121]) (fun t3 => []) (fun t3 => t3) ?_ ?_
  · intro t3 u3
    exact i_vret (f_at inc_73 (j := 31) rfl) rfl
  · intro k3 hj3
    refine i_if2 (pc' := 43) (nx := 30) c2_ge (f_at inc_73 (j := 15) rfl) ⟨by decide, rfl⟩ (fun b4 => ?_) (fun b4 => ?_)
    · refine i_aload_n (pc' := 44) (f_at inc_73 (j := 23) rfl) rfl rfl ?_
      refine i_aload_n (pc' := 45) (f_at inc_73 (j := 24) rfl) rfl rfl ?_
      refine i_getI (pc' := 48) (f_at inc_73 (j := 25) rfl) sh_44 rfl (f_lt (o := 44) (m := 155) (Nat.le_of_ble_eq_true rfl) hN) rfl ?_
      refine i_iconst (pc' := 49) (f_at inc_73 (j := 26) rfl) ci_1 rfl ?_
      refine i_iadd (pc' := 50) (f_at inc_73 (j := 27) rfl) rfl ?_
      refine i_bipush (pc' := 52) (f_at inc_73 (j := 28) rfl) cb_8 rfl ?_
      refine i_irem (pc' := 53) (f_at inc_73 (j := 29) rfl) (by decide) rfl ?_
      refine i_putI (pc' := 56) (f_at inc_73 (j := 30) rfl) sh_44 rfl ⟨rfl, rfl⟩ (f_lt (o := 44) (m := 155) (Nat.le_of_ble_eq_true rfl) hN) rfl ?_
      exact hj3 (f_up t2 44 1 (((t2 44 1) + (1 : Int32)) - ((t2 44 1) + (1 : Int32)) / (8 : Int32) * (8 : Int32))) ()
    · refine i_aload_n (pc' := 31) (f_at inc_73 (j := 16) rfl) rfl rfl ?_
      refine i_dup (pc' := 32) (f_at inc_73 (j := 17) rfl) rfl rfl ?_
      refine i_getI (pc' := 35) (f_at inc_73 (j := 18) rfl) sh_44 rfl (f_lt (o := 44) (m := 155) (Nat.le_of_ble_eq_true rfl) hN) rfl ?_
      refine i_iconst (pc' := 36) (f_at inc_73 (j := 19) rfl) ci_1 rfl ?_
      refine i_iadd (pc' := 37) (f_at inc_73 (j := 20) rfl) rfl ?_
      refine i_putI (pc' := 40) (f_at inc_73 (j := 21) rfl) sh_44 rfl ⟨rfl, rfl⟩ (f_lt (o := 44) (m := 155) (Nat.le_of_ble_eq_true rfl) hN) rfl ?_
      refine i_goto (pc' := 56) (f_at inc_73 (j := 22) rfl) (by decide) ?_
      exact hj3 (f_up t2 44 2 ((t2 44 2) + (1 : Int32))) ()
set_option maxRecDepth 4000 in
def g_74 (a1 : Int32) (σ : f_M) : Option (Bool) :=
  (
   if (1000 : Int32) < ((σ 121 0) + a1) then (
    some false
   ) else (
    some true
   )
  ).bind fun (t1 : Bool) =>
  some t1
set_option maxRecDepth 4000 in
theorem G_74 {xs : Nat → Int32} {L N : Nat} (hN : 155 ≤ N) (a1 : Int32)  (σ : f_M) : f_Cal a_MT xs L N 74 [.ref 102, .int a1] σ ((g_74 a1 σ).bind fun t => some (e_pb σ t)) := by
  refine f_cal_of (ls := [.ref 102, .int a1]) MT_74 (Nat.le_of_ble_eq_true rfl) rfl ?_
  unfold g_74
  refine i_aload_n (pc' := 1) (f_at inc_74 (j := 0) rfl) rfl rfl ?_
  refine i_getR (pc' := 4) (f_at inc_74 (j := 1) rfl) sh_102 rfl (f_lt (o := 102) (m := 155) (Nat.le_of_ble_eq_true rfl) hN) rfl ?_
  refine i_getI (pc' := 7) (f_at inc_74 (j := 2) rfl) sh_121 rfl (f_lt (o := 121) (m := 155) (Nat.le_of_ble_eq_true rfl) hN) rfl ?_
  refine i_iload_n (pc' := 8) (f_at inc_74 (j := 3) rfl) rfl rfl ?_
  refine i_iadd (pc' := 9) (f_at inc_74 (j := 4) rfl) rfl ?_
  refine i_sipush (pc' := 12) (f_at inc_74 (j := 5) rfl) cs_1000 rfl ?_
  refine s_join (J := 20) (fun (t1 : Bool) (u1 : Unit) => [.ref 102, .int a1]) (fun t1 => [.int (f_b t1)]) (fun t1 => σ) ?_ ?_
  · intro t1 u1
    exact i_iret (v := f_b t1) (f_at inc_74 (j := 10) rfl) rfl n_bool
  · intro k1 hj1
    refine i_if2 (pc' := 19) (nx := 15) c2_gt (f_at inc_74 (j := 6) rfl) ⟨by decide, rfl⟩ (fun b2 => ?_) (fun b2 => ?_)
    · refine i_iconst (pc' := 20) (f_at inc_74 (j := 9) rfl) ci_0 rfl ?_
      exact hj1 false ()
    · refine i_iconst (pc' := 16) (f_at inc_74 (j := 7) rfl) ci_1 rfl ?_
      refine i_goto (pc' := 20) (f_at inc_74 (j := 8) rfl) (by decide) ?_
      exact hj1 true ()
