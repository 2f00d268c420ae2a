/-! Flat programs and their proofs. -/
set_option maxRecDepth 4000 in
def p_319 (a1 : Int32) (a2 : Int32) (σ : f_M) : Option (Int32 × f_M) :=
  (p_285 a1 (0 : Int32) (150 : Int32) σ).bind fun _ =>
  (p_285 a2 (0 : Int32) (50 : Int32) σ).bind fun _ =>
  (g_74 (1 : Int32) σ).bind fun t3 =>
  if t3 = true then (
   (g_73  σ).bind fun t4 =>
   (g_94 a1 a2 t4).bind fun t5 =>
   some (t5.1, t5.2)
  ) else (
   none
  )
set_option maxRecDepth 4000 in
theorem P_319 {xs : Nat → Int32} {L N : Nat} (hN : 155 ≤ N) (a1 : Int32) (a2 : Int32)  (σ : f_M) : f_Cal a_MT xs L N 117 [.ref 0, .int a1, .int a2] σ ((p_319 a1 a2 σ).bind fun t => some (e_wi t)) := by
  refine f_cal_of (ls := [.ref 0, .int a1, .int a2]) MT_117 (Nat.le_of_ble_eq_true rfl) rfl ?_
  unfold p_319
  refine i_iload_n (pc' := 1) (f_at inc_117 (j := 0) rfl) rfl rfl ?_
  refine i_iconst (pc' := 2) (f_at inc_117 (j := 1) rfl) ci_0 rfl ?_
  refine i_sipush (pc' := 5) (f_at inc_117 (j := 2) rfl) cs_150 rfl ?_
  refine c_pv (pc' := 8) (c' := 0) (n' := 0) (h_stat (ra := [.int (150 : Int32), .int (0 : Int32), .int a1]) (r := []) (as := [.int a1, .int (0 : Int32), .int (150 : Int32)]) (f_at inc_117 (j := 3) rfl) (by decide) MT_104 rfl rfl rfl ⟨Nat.le_of_ble_eq_true rfl, Nat.le_of_ble_eq_true rfl, Nat.le_of_ble_eq_true rfl⟩) MT_104 (P_285 hN a1 (0 : Int32) (150 : Int32) σ) ⟨rfl, rfl, rfl⟩ ?_
  refine i_iload_n (pc' := 9) (f_at inc_117 (j := 4) rfl) rfl rfl ?_
  refine i_iconst (pc' := 10) (f_at inc_117 (j := 5) rfl) ci_0 rfl ?_
  refine i_bipush (pc' := 12) (f_at inc_117 (j := 6) rfl) cb_50 rfl ?_
  refine c_pv (pc' := 15) (c' := 0) (n' := 0) (h_stat (ra := [.int (50 : Int32), .int (0 : Int32), .int a2]) (r := []) (as := [.int a2, .int (0 : Int32), .int (50 : Int32)]) (f_at inc_117 (j := 7) rfl) (by decide) MT_104 rfl rfl rfl ⟨Nat.le_of_ble_eq_true rfl, Nat.le_of_ble_eq_true rfl, Nat.le_of_ble_eq_true rfl⟩) MT_104 (P_285 hN a2 (0 : Int32) (50 : Int32) σ) ⟨rfl, rfl, rfl⟩ ?_
  refine i_aload_n (pc' := 16) (f_at inc_117 (j := 8) rfl) rfl rfl ?_
  refine i_getR (pc' := 19) (f_at inc_117 (j := 9) rfl) sh_0 rfl (f_lt (o := 0) (m := 155) (Nat.le_of_ble_eq_true rfl) hN) rfl ?_
  refine i_iconst (pc' := 20) (f_at inc_117 (j := 10) rfl) ci_1 rfl ?_
  refine c_pb (pc' := 23) (c' := 0) (n' := 0) (h_virt (ra := [.int (1 : Int32), .ref 102]) (r := []) (as := [.int (1 : Int32)]) (f_at inc_117 (j := 11) rfl) (by decide) MT_105 rfl rfl rfl ⟨Nat.le_of_ble_eq_true rfl, Nat.le_of_ble_eq_true rfl, Nat.le_of_ble_eq_true rfl⟩ sh_102 (f_lt (o := 102) (m := 155) (Nat.le_of_ble_eq_true rfl) hN)) MT_105 (G_74 hN (1 : Int32) σ) ⟨rfl, rfl, rfl⟩ fun t3 => ?_
  refine i_if0 (pc' := 37) (nx := 26) cb_ne (f_at inc_117 (j := 12) rfl) ⟨by decide, rfl⟩ (fun b6 => ?_) (fun b6 => ?_)
  · refine i_aload_n (pc' := 38) (f_at inc_117 (j := 13) rfl) rfl rfl ?_
    refine i_getR (pc' := 41) (f_at inc_117 (j := 14) rfl) sh_0 rfl (f_lt (o := 0) (m := 155) (Nat.le_of_ble_eq_true rfl) hN) rfl ?_
    refine i_aload_n (pc' := 42) (f_at inc_117 (j := 15) rfl) rfl rfl ?_
    refine i_getR (pc' := 45) (f_at inc_117 (j := 16) rfl) sh_0 rfl (f_lt (o := 0) (m := 155) (Nat.le_of_ble_eq_true rfl) hN) rfl ?_
    refine c_wv (pc' := 48) (c' := 0) (n' := 0) (h_virt (ra := [.ref 121, .ref 44]) (r := []) (as := [.ref 121]) (f_at inc_117 (j := 17) rfl) (by decide) MT_107 rfl rfl rfl ⟨Nat.le_of_ble_eq_true rfl, Nat.le_of_ble_eq_true rfl, Nat.le_of_ble_eq_true rfl⟩ sh_44 (f_lt (o := 44) (m := 155) (Nat.le_of_ble_eq_true rfl) hN)) MT_107 (G_73 hN  σ) ⟨rfl, rfl, rfl⟩ fun t4 => ?_
    refine i_aload_n (pc' := 49) (f_at inc_117 (j := 18) rfl) rfl rfl ?_
    refine i_getR (pc' := 52) (f_at inc_117 (j := 19) rfl) sh_0 rfl (f_lt (o := 0) (m := 155) (Nat.le_of_ble_eq_true rfl) hN) rfl ?_
    refine i_iload_n (pc' := 53) (f_at inc_117 (j := 20) rfl) rfl rfl ?_
    refine i_iload_n (pc' := 54) (f_at inc_117 (j := 21) rfl) rfl rfl ?_
    refine c_wi (pc' := 57) (c' := 0) (n' := 0) (h_virt (ra := [.int a2, .int a1, .ref 102]) (r := []) (as := [.int a1, .int a2]) (f_at inc_117 (j := 22) rfl) (by decide) MT_116 rfl rfl rfl ⟨Nat.le_of_ble_eq_true rfl, Nat.le_of_ble_eq_true rfl, Nat.le_of_ble_eq_true rfl⟩ sh_102 (f_lt (o := 102) (m := 155) (Nat.le_of_ble_eq_true rfl) hN)) MT_116 (G_94 hN a1 a2 t4) ⟨rfl, rfl, rfl⟩ fun t5 => ?_
    exact i_iret (f_at inc_117 (j := 23) rfl) rfl n_int
  · exact f_none
set_option maxRecDepth 4000 in
def l_passes (a1 : Int32) (a2 : Int32) (σ : f_M) : Option (Int32 × f_M) :=
  (
   if (σ 155 26) ≤ 0 then (
    some σ
   ) else (
    if ¬ ((σ 155 26) - (σ 155 26) / (24 : Int32) * (24 : Int32)) = 0 then (
     some σ
    ) else (
     (f_lp (fun (s2 : Int32 × f_M) =>
      if (s2.2 155 24) ≤ s2.1 then (
       some (.inr s2.2)
      ) else (
       (l_isActive s2.1 s2.2).bind fun t3 =>
       (
        if t3 = true then (
         (f_rd s2.2 160 20 s2.1).bind fun v5 =>
         (f_rd s2.2 156 4 v5).bind fun v6 =>
         (f_rd s2.2 166 20 s2.1).bind fun v7 =>
         if v7 ≤ v6 then (
          (f_rd s2.2 160 20 s2.1).bind fun v8 =>
          (f_rd s2.2 156 4 v8).bind fun v9 =>
          (f_rd s2.2 166 20 s2.1).bind fun v10 =>
          (f_wr s2.2 156 4 v8 (v9 - v10)).bind fun m11 =>
          (f_rd m11 166 20 s2.1).bind fun v12 =>
          (f_rd (f_up m11 155 27 ((m11 155 27) + v12)) 166 20 s2.1).bind fun v13 =>
          some (f_up (f_up m11 155 27 ((m11 155 27) + v12)) 155 28 (((f_up m11 155 27 ((m11 155 27) + v12)) 155 28) + v13))
         ) else (
          (f_wr s2.2 168 20 s2.1 (1 : Int32)).bind fun m14 =>
          some m14
         )
        ) else (
         some s2.2
        )
       ).bind fun (t4 : f_M) =>
       some (.inl ((s2.1 + (1 : Int32)), t4))
      )
     ) f_F ((0 : Int32), σ)).bind fun (x2 : f_M) =>
     some x2
    )
   )
  ).bind fun (t1 : f_M) =>
  (f_lp (fun (s20 : Int32 × f_M) =>
   if (s20.2 155 24) ≤ s20.1 then (
    some (.inr s20.2)
   ) else (
    (f_rd s20.2 161 20 s20.1).bind fun v21 =>
    (
     if (s20.2 155 26) < v21 then (
      some s20.2
     ) else (
      (f_rd s20.2 161 20 s20.1).bind fun v23 =>
      (f_rd s20.2 162 20 s20.1).bind fun v24 =>
      if (s20.2 155 26) < (v23 + v24) then (
       (f_rd s20.2 159 20 s20.1).bind fun v25 =>
       if ¬ v25 = (1 : Int32) then (
        (f_rd s20.2 164 20 s20.1).bind fun v26 =>
        if a1 < v26 then (
         (f_rd s20.2 167 20 s20.1).bind fun v27 =>
         (f_wr s20.2 167 20 s20.1 (v27 + (1 : Int32))).bind fun m28 =>
         some m28
        ) else (
         (f_rd s20.2 165 20 s20.1).bind fun v29 =>
         if a1 ≤ v29 then (
          some s20.2
         ) else (
          (f_rd s20.2 167 20 s20.1).bind fun v30 =>
          (f_wr s20.2 167 20 s20.1 (v30 + (1 : Int32))).bind fun m31 =>
          some m31
         )
        )
       ) else (
        (f_rd s20.2 167 20 s20.1).bind fun v34 =>
        (f_wr s20.2 167 20 s20.1 (v34 + a2)).bind fun m35 =>
        some m35
       )
      ) else (
       some s20.2
      )
     )
    ).bind fun (t22 : f_M) =>
    some (.inl ((s20.1 + (1 : Int32)), t22))
   )
  ) f_F ((0 : Int32), t1)).bind fun (x20 : f_M) =>
  (f_lp (fun (s40 : Int32 × f_M) =>
   if (s40.2 155 23) ≤ s40.1 then (
    some (.inr s40.2)
   ) else (
    (f_rd s40.2 178 3 s40.1).bind fun v41 =>
    (
     if ¬ v41 = 0 then (
      (f_rd s40.2 179 3 s40.1).bind fun v43 =>
      (f_wr s40.2 179 3 s40.1 (v43 + (1 : Int32))).bind fun m44 =>
      (f_rd m44 179 3 s40.1).bind fun v45 =>
      (f_rd m44 158 3 s40.1).bind fun v46 =>
      if ((2 : Int32) + v46) ≤ v45 then (
       (f_ix 3 s40.1).bind fun v47 =>
       (f_rd m44 (175 + v47) 20 (0 : Int32)).bind fun v48 =>
       (f_wr m44 179 3 s40.1 (0 : Int32)).bind fun m49 =>
       (f_rd m49 178 3 s40.1).bind fun v50 =>
       (f_wr m49 178 3 s40.1 (v50 - (1 : Int32))).bind fun m51 =>
       (f_lp (fun (s52 : Int32 × f_M) =>
        (f_rd s52.2 178 3 s40.1).bind fun v53 =>
        if v53 ≤ s52.1 then (
         some (.inr s52.2)
        ) else (
         (f_ix 3 s40.1).bind fun v54 =>
         (f_ix 3 s40.1).bind fun v55 =>
         (f_rd s52.2 (175 + v55) 20 (s52.1 + (1 : Int32))).bind fun v56 =>
         (f_wr s52.2 (175 + v54) 20 s52.1 v56).bind fun m57 =>
         some (.inl ((s52.1 + (1 : Int32)), m57))
        )
       ) f_F ((0 : Int32), m51)).bind fun (x52 : f_M) =>
       (f_rd x52 170 20 v48).bind fun v59 =>
       (l_damage v59 x52).bind fun t60 =>
       (f_rd x52 158 3 s40.1).bind fun v61 =>
       (f_wr x52 173 20 v48 (t60 - ((((5 : Int32) * v61) * t60) / (100 : Int32)))).bind fun m62 =>
       (f_rd m62 173 20 v48).bind fun v63 =>
       (
        if v63 ≤ 0 then (
         some (1 : Int32)
        ) else (
         some (2 : Int32)
        )
       ).bind fun (t64 : Int32) =>
       (f_wr m62 172 20 v48 t64).bind fun m66 =>
       (f_rd (f_up m66 155 32 ((m66 155 32) + (1 : Int32))) 172 20 v48).bind fun v67 =>
       if ¬ v67 = (2 : Int32) then (
        some (f_up m66 155 32 ((m66 155 32) + (1 : Int32)))
       ) else (
        (f_wr (f_up m66 155 32 ((m66 155 32) + (1 : Int32))) 180 20 ((f_up m66 155 32 ((m66 155 32) + (1 : Int32))) 155 31) v48).bind fun m68 =>
        some (f_up m68 155 31 ((m68 155 31) + (1 : Int32)))
       )
      ) else (
       some m44
      )
     ) else (
      some s40.2
     )
    ).bind fun (t42 : f_M) =>
    some (.inl ((s40.1 + (1 : Int32)), t42))
   )
  ) f_F ((0 : Int32), (f_up x20 155 26 ((x20 155 26) + (1 : Int32))))).bind fun (x40 : f_M) =>
  (f_lp (fun (s73 : f_M) =>
   if (s73 155 31) ≤ 0 then (
    some (.inr s73)
   ) else (
    (f_rd s73 180 20 (0 : Int32)).bind fun v74 =>
    (f_rd s73 173 20 v74).bind fun v75 =>
    if (s73 155 27) < v75 then (
     some (.inr s73)
    ) else (
     (f_rd s73 180 20 (0 : Int32)).bind fun v76 =>
     (f_lp (fun (s77 : Int32 × f_M) =>
      if (s77.2 155 31) ≤ s77.1 then (
       some (.inr s77.2)
      ) else (
       (f_rd s77.2 180 20 (s77.1 + (1 : Int32))).bind fun v78 =>
       (f_wr s77.2 180 20 s77.1 v78).bind fun m79 =>
       some (.inl ((s77.1 + (1 : Int32)), m79))
      )
     ) f_F ((0 : Int32), (f_up s73 155 31 ((s73 155 31) - (1 : Int32))))).bind fun (x77 : f_M) =>
     (f_wr x77 172 20 v76 (3 : Int32)).bind fun m81 =>
     (f_rd m81 173 20 v76).bind fun v82 =>
     (f_rd (f_up m81 155 27 ((m81 155 27) - v82)) 170 20 v76).bind fun v83 =>
     (f_rd (f_up m81 155 27 ((m81 155 27) - v82)) 160 20 v83).bind fun v84 =>
     (f_rd (f_up m81 155 27 ((m81 155 27) - v82)) 156 4 v84).bind fun v85 =>
     (f_rd (f_up m81 155 27 ((m81 155 27) - v82)) 173 20 v76).bind fun v86 =>
     (f_wr (f_up m81 155 27 ((m81 155 27) - v82)) 156 4 v84 (v85 + v86)).bind fun m87 =>
     (f_rd m87 170 20 v76).bind fun v88 =>
     (f_rd m87 160 20 v88).bind fun v89 =>
     (f_rd m87 157 4 v89).bind fun v90 =>
     (f_rd m87 173 20 v76).bind fun v91 =>
     (f_wr m87 157 4 v89 (v90 + v91)).bind fun m92 =>
     (f_rd m92 173 20 v76).bind fun v93 =>
     some (.inl (f_up m92 155 29 ((m92 155 29) + v93)))
    )
   )
  ) f_F x40).bind fun (x73 : f_M) =>
  some (((x73 155 32) - ((f_up x20 155 26 ((x20 155 26) + (1 : Int32))) 155 32)), x73)
set_option maxRecDepth 4000 in
theorem L_passes {xs : Nat → Int32} {L N : Nat} (hN : 181 ≤ N) (a1 : Int32) (a2 : Int32)  (σ : f_M) : f_Cal a_MT xs L N 118 [.ref 155, .int a1, .int a2] σ ((l_passes a1 a2 σ).bind fun t => some (e_wi t)) := by
  refine f_cal_of (ls := [.ref 155, .int a1, .int a2, a_dead, a_dead, a_dead, a_dead]) MT_118 (Nat.le_of_ble_eq_true rfl) rfl ?_
  unfold l_passes
  refine i_aload_n (pc' := 1) (f_at inc_118 (j := 0) rfl) rfl rfl ?_
  refine i_getI (pc' := 4) (f_at inc_118 (j := 1) rfl) sh_155 rfl (f_lt (o := 155) (m := 181) (Nat.le_of_ble_eq_true rfl) hN) rfl ?_
  refine s_join (J := 124) (fun (t1 : f_M) (u1 : Value) => [.ref 155, .int a1, .int a2, u1, a_dead, a_dead, a_dead]) (fun t1 => []) (fun t1 => t1) ?_ ?_
  · intro t1 u1
    refine i_iconst (pc' := 125) (f_at inc_118 (j := 71) rfl) ci_0 rfl ?_
    refine i_istore_n (pc' := 126) (ls' := [.ref 155, .int a1, .int a2, .int (0 : Int32), a_dead, a_dead, a_dead]) (f_at inc_118 (j := 72) rfl) (Nat.le_of_ble_eq_true rfl) rfl rfl ?_
    refine s_lX (X := 229) ((0 : Int32), t1) () (fun (s20 : Int32 × f_M) (u20 : Unit) => [.ref 155, .int a1, .int a2, .int s20.1, a_dead, a_dead, a_dead]) (fun (s20 : Int32 × f_M) => s20.2) (fun (x20 : f_M) (w20 : Value) => [.ref 155, .int a1, .int a2, w20, a_dead, a_dead, a_dead]) (fun (x20 : f_M) => x20) ?_ ?_
    · intro x20 w20
      refine i_aload_n (pc' := 230) (f_at inc_118 (j := 134) rfl) rfl rfl ?_
      refine i_dup (pc' := 231) (f_at inc_118 (j := 135) rfl) rfl rfl ?_
      refine i_getI (pc' := 234) (f_at inc_118 (j := 136) rfl) sh_155 rfl (f_lt (o := 155) (m := 181) (Nat.le_of_ble_eq_true rfl) hN) rfl ?_
      refine i_iconst (pc' := 235) (f_at inc_118 (j := 137) rfl) ci_1 rfl ?_
      refine i_iadd (pc' := 236) (f_at inc_118 (j := 138) rfl) rfl ?_
      refine i_putI (pc' := 239) (f_at inc_118 (j := 139) rfl) sh_155 rfl ⟨rfl, rfl⟩ (f_lt (o := 155) (m := 181) (Nat.le_of_ble_eq_true rfl) hN) rfl ?_
      refine i_aload_n (pc' := 240) (f_at inc_118 (j := 140) rfl) rfl rfl ?_
      refine i_getI (pc' := 243) (f_at inc_118 (j := 141) rfl) sh_155 rfl (f_lt (o := 155) (m := 181) (Nat.le_of_ble_eq_true rfl) hN) rfl ?_
      refine i_istore_n (pc' := 244) (ls' := [.ref 155, .int a1, .int a2, .int ((f_up x20 155 26 ((x20 155 26) + (1 : Int32))) 155 32), a_dead, a_dead, a_dead]) (f_at inc_118 (j := 142) rfl) (Nat.le_of_ble_eq_true rfl) rfl rfl ?_
      refine i_iconst (pc' := 245) (f_at inc_118 (j := 143) rfl) ci_0 rfl ?_
      refine i_istore (pc' := 247) (ls' := [.ref 155, .int a1, .int a2, .int ((f_up x20 155 26 ((x20 155 26) + (1 : Int32))) 155 32), .int (0 : Int32), a_dead, a_dead]) (f_at inc_118 (j := 144) rfl) (Nat.le_of_ble_eq_true rfl) rfl rfl ?_
      refine s_lX (X := 483) ((0 : Int32), (f_up x20 155 26 ((x20 155 26) + (1 : Int32)))) (a_dead, a_dead) (fun (s40 : Int32 × f_M) (u40 : Value × Value) => [.ref 155, .int a1, .int a2, .int ((f_up x20 155 26 ((x20 155 26) + (1 : Int32))) 155 32), .int s40.1, u40.1, u40.2]) (fun (s40 : Int32 × f_M) => s40.2) (fun (x40 : f_M) (w40 : Value × Value × Value) => [.ref 155, .int a1, .int a2, .int ((f_up x20 155 26 ((x20 155 26) + (1 : Int32))) 155 32), w40.1, w40.2.1, w40.2.2]) (fun (x40 : f_M) => x40) ?_ ?_
      · intro x40 w40
        refine s_lX (X := 657) x40 (w40.1, w40.2.1) (fun (s73 : f_M) (u73 : Value × Value) => [.ref 155, .int a1, .int a2, .int ((f_up x20 155 26 ((x20 155 26) + (1 : Int32))) 155 32), u73.1, u73.2, w40.2.2]) (fun (s73 : f_M) => s73) (fun (x73 : f_M) (w73 : Value × Value) => [.ref 155, .int a1, .int a2, .int ((f_up x20 155 26 ((x20 155 26) + (1 : Int32))) 155 32), w73.1, w73.2, w40.2.2]) (fun (x73 : f_M) => x73) ?_ ?_
        · intro x73 w73
          refine i_aload_n (pc' := 658) (f_at inc_118 (j := 380) rfl) rfl rfl ?_
          refine i_getI (pc' := 661) (f_at inc_118 (j := 381) rfl) sh_155 rfl (f_lt (o := 155) (m := 181) (Nat.le_of_ble_eq_true rfl) hN) rfl ?_
          refine i_iload_n (pc' := 662) (f_at inc_118 (j := 382) rfl) rfl rfl ?_
          refine i_isub (pc' := 663) (f_at inc_118 (j := 383) rfl) rfl ?_
          exact i_iret (f_at inc_118 (j := 384) rfl) rfl n_int
        · intro s73 u73 k73 hb73 hx73
          refine i_aload_n (pc' := 484) (f_at inc_118 (j := 280) rfl) rfl rfl ?_
          refine i_getI (pc' := 487) (f_at inc_118 (j := 281) rfl) sh_155 rfl (f_lt (o := 155) (m := 181) (Nat.le_of_ble_eq_true rfl) hN) rfl ?_
          refine i_if0 (pc' := 657) (nx := 490) c0_le (f_at inc_118 (j := 282) rfl) ⟨by decide, rfl⟩ (fun b95 => ?_) (fun b95 => ?_)
          · exact hx73 s73 (u73.1, u73.2)
          · refine i_aload_n (pc' := 491) (f_at inc_118 (j := 283) rfl) rfl rfl ?_
            refine i_getI (pc' := 494) (f_at inc_118 (j := 284) rfl) sh_155 rfl (f_lt (o := 155) (m := 181) (Nat.le_of_ble_eq_true rfl) hN) rfl ?_
            refine i_aload_n (pc' := 495) (f_at inc_118 (j := 285) rfl) rfl rfl ?_
            refine i_getR (pc' := 498) (f_at inc_118 (j := 286) rfl) sh_155 rfl (f_lt (o := 155) (m := 181) (Nat.le_of_ble_eq_true rfl) hN) rfl ?_
            refine i_aload_n (pc' := 499) (f_at inc_118 (j := 287) rfl) rfl rfl ?_
            refine i_getR (pc' := 502) (f_at inc_118 (j := 288) rfl) sh_155 rfl (f_lt (o := 155) (m := 181) (Nat.le_of_ble_eq_true rfl) hN) rfl ?_
            refine i_iconst (pc' := 503) (f_at inc_118 (j := 289) rfl) ci_0 rfl ?_
            refine i_iald (pc' := 504) (f_at inc_118 (j := 290) rfl) sh_180 (f_bg (Nat.le_of_ble_eq_true rfl)) (f_lt (o := 180) (m := 181) (Nat.le_of_ble_eq_true rfl) hN) rfl fun v74 => ?_
            refine i_iald (pc' := 505) (f_at inc_118 (j := 291) rfl) sh_173 (f_bg (Nat.le_of_ble_eq_true rfl)) (f_lt (o := 173) (m := 181) (Nat.le_of_ble_eq_true rfl) hN) rfl fun v75 => ?_
            refine i_if2 (pc' := 657) (nx := 508) c2_lt (f_at inc_118 (j := 292) rfl) ⟨by decide, rfl⟩ (fun b94 => ?_) (fun b94 => ?_)
            · exact hx73 s73 (u73.1, u73.2)
            · refine i_aload_n (pc' := 509) (f_at inc_118 (j := 293) rfl) rfl rfl ?_
              refine i_getR (pc' := 512) (f_at inc_118 (j := 294) rfl) sh_155 rfl (f_lt (o := 155) (m := 181) (Nat.le_of_ble_eq_true rfl) hN) rfl ?_
              refine i_iconst (pc' := 513) (f_at inc_118 (j := 295) rfl) ci_0 rfl ?_
              refine i_iald (pc' := 514) (f_at inc_118 (j := 296) rfl) sh_180 (f_bg (Nat.le_of_ble_eq_true rfl)) (f_lt (o := 180) (m := 181) (Nat.le_of_ble_eq_true rfl) hN) rfl fun v76 => ?_
              refine i_istore (pc' := 516) (ls' := [.ref 155, .int a1, .int a2, .int ((f_up x20 155 26 ((x20 155 26) + (1 : Int32))) 155 32), .int v76, u73.2, w40.2.2]) (f_at inc_118 (j := 297) rfl) (Nat.le_of_ble_eq_true rfl) rfl rfl ?_
              refine i_aload_n (pc' := 517) (f_at inc_118 (j := 298) rfl) rfl rfl ?_
              refine i_dup (pc' := 518) (f_at inc_118 (j := 299) rfl) rfl rfl ?_
              refine i_getI (pc' := 521) (f_at inc_118 (j := 300) rfl) sh_155 rfl (f_lt (o := 155) (m := 181) (Nat.le_of_ble_eq_true rfl) hN) rfl ?_
              refine i_iconst (pc' := 522) (f_at inc_118 (j := 301) rfl) ci_1 rfl ?_
              refine i_isub (pc' := 523) (f_at inc_118 (j := 302) rfl) rfl ?_
              refine i_putI (pc' := 526) (f_at inc_118 (j := 303) rfl) sh_155 rfl ⟨rfl, rfl⟩ (f_lt (o := 155) (m := 181) (Nat.le_of_ble_eq_true rfl) hN) rfl ?_
              refine i_iconst (pc' := 527) (f_at inc_118 (j := 304) rfl) ci_0 rfl ?_
              refine i_istore (pc' := 529) (ls' := [.ref 155, .int a1, .int a2, .int ((f_up x20 155 26 ((x20 155 26) + (1 : Int32))) 155 32), .int v76, .int (0 : Int32), w40.2.2]) (f_at inc_118 (j := 305) rfl) (Nat.le_of_ble_eq_true rfl) rfl rfl ?_
              refine s_lX (X := 560) ((0 : Int32), (f_up s73 155 31 ((s73 155 31) - (1 : Int32)))) () (fun (s77 : Int32 × f_M) (u77 : Unit) => [.ref 155, .int a1, .int a2, .int ((f_up x20 155 26 ((x20 155 26) + (1 : Int32))) 155 32), .int v76, .int s77.1, w40.2.2]) (fun (s77 : Int32 × f_M) => s77.2) (fun (x77 : f_M) (w77 : Value) => [.ref 155, .int a1, .int a2, .int ((f_up x20 155 26 ((x20 155 26) + (1 : Int32))) 155 32), .int v76, w77, w40.2.2]) (fun (x77 : f_M) => x77) ?_ ?_
              · intro x77 w77
                refine i_aload_n (pc' := 561) (f_at inc_118 (j := 322) rfl) rfl rfl ?_
                refine i_getR (pc' := 564) (f_at inc_118 (j := 323) rfl) sh_155 rfl (f_lt (o := 155) (m := 181) (Nat.le_of_ble_eq_true rfl) hN) rfl ?_
                refine i_iload (pc' := 566) (f_at inc_118 (j := 324) rfl) rfl rfl ?_
                refine i_iconst (pc' := 567) (f_at inc_118 (j := 325) rfl) ci_3 rfl ?_
                refine i_iast (pc' := 568) (f_at inc_118 (j := 326) rfl) sh_172 (f_lt (o := 172) (m := 181) (Nat.le_of_ble_eq_true rfl) hN) rfl fun m81 => ?_
                refine i_aload_n (pc' := 569) (f_at inc_118 (j := 327) rfl) rfl rfl ?_
                refine i_dup (pc' := 570) (f_at inc_118 (j := 328) rfl) rfl rfl ?_
                refine i_getI (pc' := 573) (f_at inc_118 (j := 329) rfl) sh_155 rfl (f_lt (o := 155) (m := 181) (Nat.le_of_ble_eq_true rfl) hN) rfl ?_
                refine i_aload_n (pc' := 574) (f_at inc_118 (j := 330) rfl) rfl rfl ?_
                refine i_getR (pc' := 577) (f_at inc_118 (j := 331) rfl) sh_155 rfl (f_lt (o := 155) (m := 181) (Nat.le_of_ble_eq_true rfl) hN) rfl ?_
                refine i_iload (pc' := 579) (f_at inc_118 (j := 332) rfl) rfl rfl ?_
                refine i_iald (pc' := 580) (f_at inc_118 (j := 333) rfl) sh_173 (f_bg (Nat.le_of_ble_eq_true rfl)) (f_lt (o := 173) (m := 181) (Nat.le_of_ble_eq_true rfl) hN) rfl fun v82 => ?_
                refine i_isub (pc' := 581) (f_at inc_118 (j := 334) rfl) rfl ?_
                refine i_putI (pc' := 584) (f_at inc_118 (j := 335) rfl) sh_155 rfl ⟨rfl, rfl⟩ (f_lt (o := 155) (m := 181) (Nat.le_of_ble_eq_true rfl) hN) rfl ?_
                refine i_aload_n (pc' := 585) (f_at inc_118 (j := 336) rfl) rfl rfl ?_
                refine i_getR (pc' := 588) (f_at inc_118 (j := 337) rfl) sh_155 rfl (f_lt (o := 155) (m := 181) (Nat.le_of_ble_eq_true rfl) hN) rfl ?_
                refine i_aload_n (pc' := 589) (f_at inc_118 (j := 338) rfl) rfl rfl ?_
                refine i_getR (pc' := 592) (f_at inc_118 (j := 339) rfl) sh_155 rfl (f_lt (o := 155) (m := 181) (Nat.le_of_ble_eq_true rfl) hN) rfl ?_
                refine i_aload_n (pc' := 593) (f_at inc_118 (j := 340) rfl) rfl rfl ?_
                refine i_getR (pc' := 596) (f_at inc_118 (j := 341) rfl) sh_155 rfl (f_lt (o := 155) (m := 181) (Nat.le_of_ble_eq_true rfl) hN) rfl ?_
                refine i_iload (pc' := 598) (f_at inc_118 (j := 342) rfl) rfl rfl ?_
                refine i_iald (pc' := 599) (f_at inc_118 (j := 343) rfl) sh_170 (f_bg (Nat.le_of_ble_eq_true rfl)) (f_lt (o := 170) (m := 181) (Nat.le_of_ble_eq_true rfl) hN) rfl fun v83 => ?_
                refine i_iald (pc' := 600) (f_at inc_118 (j := 344) rfl) sh_160 (f_bg (Nat.le_of_ble_eq_true rfl)) (f_lt (o := 160) (m := 181) (Nat.le_of_ble_eq_true rfl) hN) rfl fun v84 => ?_
                refine i_dup2 (pc' := 601) (f_at inc_118 (j := 345) rfl) ⟨rfl, rfl⟩ rfl ?_
                refine i_iald (pc' := 602) (f_at inc_118 (j := 346) rfl) sh_156 (f_bg (Nat.le_of_ble_eq_true rfl)) (f_lt (o := 156) (m := 181) (Nat.le_of_ble_eq_true rfl) hN) rfl fun v85 => ?_
                refine i_aload_n (pc' := 603) (f_at inc_118 (j := 347) rfl) rfl rfl ?_
                refine i_getR (pc' := 606) (f_at inc_118 (j := 348) rfl) sh_155 rfl (f_lt (o := 155) (m := 181) (Nat.le_of_ble_eq_true rfl) hN) rfl ?_
                refine i_iload (pc' := 608) (f_at inc_118 (j := 349) rfl) rfl rfl ?_
                refine i_iald (pc' := 609) (f_at inc_118 (j := 350) rfl) sh_173 (f_bg (Nat.le_of_ble_eq_true rfl)) (f_lt (o := 173) (m := 181) (Nat.le_of_ble_eq_true rfl) hN) rfl fun v86 => ?_
                refine i_iadd (pc' := 610) (f_at inc_118 (j := 351) rfl) rfl ?_
                refine i_iast (pc' := 611) (f_at inc_118 (j := 352) rfl) sh_156 (f_lt (o := 156) (m := 181) (Nat.le_of_ble_eq_true rfl) hN) rfl fun m87 => ?_
                refine i_aload_n (pc' := 612) (f_at inc_118 (j := 353) rfl) rfl rfl ?_
                refine i_getR (pc' := 615) (f_at inc_118 (j := 354) rfl) sh_155 rfl (f_lt (o := 155) (m := 181) (Nat.le_of_ble_eq_true rfl) hN) rfl ?_
                refine i_aload_n (pc' := 616) (f_at inc_118 (j := 355) rfl) rfl rfl ?_
                refine i_getR (pc' := 619) (f_at inc_118 (j := 356) rfl) sh_155 rfl (f_lt (o := 155) (m := 181) (Nat.le_of_ble_eq_true rfl) hN) rfl ?_
                refine i_aload_n (pc' := 620) (f_at inc_118 (j := 357) rfl) rfl rfl ?_
                refine i_getR (pc' := 623) (f_at inc_118 (j := 358) rfl) sh_155 rfl (f_lt (o := 155) (m := 181) (Nat.le_of_ble_eq_true rfl) hN) rfl ?_
                refine i_iload (pc' := 625) (f_at inc_118 (j := 359) rfl) rfl rfl ?_
                refine i_iald (pc' := 626) (f_at inc_118 (j := 360) rfl) sh_170 (f_bg (Nat.le_of_ble_eq_true rfl)) (f_lt (o := 170) (m := 181) (Nat.le_of_ble_eq_true rfl) hN) rfl fun v88 => ?_
                refine i_iald (pc' := 627) (f_at inc_118 (j := 361) rfl) sh_160 (f_bg (Nat.le_of_ble_eq_true rfl)) (f_lt (o := 160) (m := 181) (Nat.le_of_ble_eq_true rfl) hN) rfl fun v89 => ?_
                refine i_dup2 (pc' := 628) (f_at inc_118 (j := 362) rfl) ⟨rfl, rfl⟩ rfl ?_
                refine i_iald (pc' := 629) (f_at inc_118 (j := 363) rfl) sh_157 (f_bg (Nat.le_of_ble_eq_true rfl)) (f_lt (o := 157) (m := 181) (Nat.le_of_ble_eq_true rfl) hN) rfl fun v90 => ?_
                refine i_aload_n (pc' := 630) (f_at inc_118 (j := 364) rfl) rfl rfl ?_
                refine i_getR (pc' := 633) (f_at inc_118 (j := 365) rfl) sh_155 rfl (f_lt (o := 155) (m := 181) (Nat.le_of_ble_eq_true rfl) hN) rfl ?_
                refine i_iload (pc' := 635) (f_at inc_118 (j := 366) rfl) rfl rfl ?_
                refine i_iald (pc' := 636) (f_at inc_118 (j := 367) rfl) sh_173 (f_bg (Nat.le_of_ble_eq_true rfl)) (f_lt (o := 173) (m := 181) (Nat.le_of_ble_eq_true rfl) hN) rfl fun v91 => ?_
                refine i_iadd (pc' := 637) (f_at inc_118 (j := 368) rfl) rfl ?_
                refine i_iast (pc' := 638) (f_at inc_118 (j := 369) rfl) sh_157 (f_lt (o := 157) (m := 181) (Nat.le_of_ble_eq_true rfl) hN) rfl fun m92 => ?_
                refine i_aload_n (pc' := 639) (f_at inc_118 (j := 370) rfl) rfl rfl ?_
                refine i_dup (pc' := 640) (f_at inc_118 (j := 371) rfl) rfl rfl ?_
                refine i_getI (pc' := 643) (f_at inc_118 (j := 372) rfl) sh_155 rfl (f_lt (o := 155) (m := 181) (Nat.le_of_ble_eq_true rfl) hN) rfl ?_
                refine i_aload_n (pc' := 644) (f_at inc_118 (j := 373) rfl) rfl rfl ?_
                refine i_getR (pc' := 647) (f_at inc_118 (j := 374) rfl) sh_155 rfl (f_lt (o := 155) (m := 181) (Nat.le_of_ble_eq_true rfl) hN) rfl ?_
                refine i_iload (pc' := 649) (f_at inc_118 (j := 375) rfl) rfl rfl ?_
                refine i_iald (pc' := 650) (f_at inc_118 (j := 376) rfl) sh_173 (f_bg (Nat.le_of_ble_eq_true rfl)) (f_lt (o := 173) (m := 181) (Nat.le_of_ble_eq_true rfl) hN) rfl fun v93 => ?_
                refine i_iadd (pc' := 651) (f_at inc_118 (j := 377) rfl) rfl ?_
                refine i_putI (pc' := 654) (f_at inc_118 (j := 378) rfl) sh_155 rfl ⟨rfl, rfl⟩ (f_lt (o := 155) (m := 181) (Nat.le_of_ble_eq_true rfl) hN) rfl ?_
                refine i_goto (pc' := 483) (f_at inc_118 (j := 379) rfl) (by decide) ?_
                exact hb73 (f_up m92 155 29 ((m92 155 29) + v93)) (.int v76, w77)
              · intro s77 u77 k77 hb77 hx77
                refine i_iload (pc' := 531) (f_at inc_118 (j := 306) rfl) rfl rfl ?_
                refine i_aload_n (pc' := 532) (f_at inc_118 (j := 307) rfl) rfl rfl ?_
                refine i_getI (pc' := 535) (f_at inc_118 (j := 308) rfl) sh_155 rfl (f_lt (o := 155) (m := 181) (Nat.le_of_ble_eq_true rfl) hN) rfl ?_
                refine i_if2 (pc' := 560) (nx := 538) c2_ge (f_at inc_118 (j := 309) rfl) ⟨by decide, rfl⟩ (fun b80 => ?_) (fun b80 => ?_)
                · exact hx77 s77.2 (.int s77.1)
                · refine i_aload_n (pc' := 539) (f_at inc_118 (j := 310) rfl) rfl rfl ?_
                  refine i_getR (pc' := 542) (f_at inc_118 (j := 311) rfl) sh_155 rfl (f_lt (o := 155) (m := 181) (Nat.le_of_ble_eq_true rfl) hN) rfl ?_
                  refine i_iload (pc' := 544) (f_at inc_118 (j := 312) rfl) rfl rfl ?_
                  refine i_aload_n (pc' := 545) (f_at inc_118 (j := 313) rfl) rfl rfl ?_
                  refine i_getR (pc' := 548) (f_at inc_118 (j := 314) rfl) sh_155 rfl (f_lt (o := 155) (m := 181) (Nat.le_of_ble_eq_true rfl) hN) rfl ?_
                  refine i_iload (pc' := 550) (f_at inc_118 (j := 315) rfl) rfl rfl ?_
                  refine i_iconst (pc' := 551) (f_at inc_118 (j := 316) rfl) ci_1 rfl ?_
                  refine i_iadd (pc' := 552) (f_at inc_118 (j := 317) rfl) rfl ?_
                  refine i_iald (pc' := 553) (f_at inc_118 (j := 318) rfl) sh_180 (f_bg (Nat.le_of_ble_eq_true rfl)) (f_lt (o := 180) (m := 181) (Nat.le_of_ble_eq_true rfl) hN) rfl fun v78 => ?_
                  refine i_iast (pc' := 554) (f_at inc_118 (j := 319) rfl) sh_180 (f_lt (o := 180) (m := 181) (Nat.le_of_ble_eq_true rfl) hN) rfl fun m79 => ?_
                  refine i_iinc (pc' := 557) (ls' := [.ref 155, .int a1, .int a2, .int ((f_up x20 155 26 ((x20 155 26) + (1 : Int32))) 155 32), .int v76, .int (s77.1 + (1 : Int32)), w40.2.2]) (f_at inc_118 (j := 320) rfl) rfl ci_1 rfl rfl ?_
                  refine i_goto (pc' := 529) (f_at inc_118 (j := 321) rfl) (by decide) ?_
                  exact hb77 ((s77.1 + (1 : Int32)), m79) ()
      · intro s40 u40 k40 hb40 hx40
        refine i_iload (pc' := 249) (f_at inc_118 (j := 145) rfl) rfl rfl ?_
        refine i_aload_n (pc' := 250) (f_at inc_118 (j := 146) rfl) rfl rfl ?_
        refine i_getI (pc' := 253) (f_at inc_118 (j := 147) rfl) sh_155 rfl (f_lt (o := 155) (m := 181) (Nat.le_of_ble_eq_true rfl) hN) rfl ?_
        refine i_if2 (pc' := 483) (nx := 256) c2_ge (f_at inc_118 (j := 148) rfl) ⟨by decide, rfl⟩ (fun b72 => ?_) (fun b72 => ?_)
        · exact hx40 s40.2 (.int s40.1, u40.1, u40.2)
        · refine i_aload_n (pc' := 257) (f_at inc_118 (j := 149) rfl) rfl rfl ?_
          refine i_getR (pc' := 260) (f_at inc_118 (j := 150) rfl) sh_155 rfl (f_lt (o := 155) (m := 181) (Nat.le_of_ble_eq_true rfl) hN) rfl ?_
          refine i_iload (pc' := 262) (f_at inc_118 (j := 151) rfl) rfl rfl ?_
          refine i_iald (pc' := 263) (f_at inc_118 (j := 152) rfl) sh_178 (f_bg (Nat.le_of_ble_eq_true rfl)) (f_lt (o := 178) (m := 181) (Nat.le_of_ble_eq_true rfl) hN) rfl fun v41 => ?_
          refine s_join (J := 477) (fun (t42 : f_M) (u42 : Value × Value) => [.ref 155, .int a1, .int a2, .int ((f_up x20 155 26 ((x20 155 26) + (1 : Int32))) 155 32), .int s40.1, u42.1, u42.2]) (fun t42 => []) (fun t42 => t42) ?_ ?_
          · intro t42 u42
            refine i_iinc (pc' := 480) (ls' := [.ref 155, .int a1, .int a2, .int ((f_up x20 155 26 ((x20 155 26) + (1 : Int32))) 155 32), .int (s40.1 + (1 : Int32)), u42.1, u42.2]) (f_at inc_118 (j := 278) rfl) rfl ci_1 rfl rfl ?_
            refine i_goto (pc' := 247) (f_at inc_118 (j := 279) rfl) (by decide) ?_
            exact hb40 ((s40.1 + (1 : Int32)), t42) (u42.1, u42.2)
          · intro k42 hj42
            refine i_if0 (pc' := 269) (nx := 266) c0_ne (f_at inc_118 (j := 153) rfl) ⟨by decide, rfl⟩ (fun b71 => ?_) (fun b71 => ?_)
            · refine i_aload_n (pc' := 270) (f_at inc_118 (j := 155) rfl) rfl rfl ?_
              refine i_getR (pc' := 273) (f_at inc_118 (j := 156) rfl) sh_155 rfl (f_lt (o := 155) (m := 181) (Nat.le_of_ble_eq_true rfl) hN) rfl ?_
              refine i_iload (pc' := 275) (f_at inc_118 (j := 157) rfl) rfl rfl ?_
              refine i_dup2 (pc' := 276) (f_at inc_118 (j := 158) rfl) ⟨rfl, rfl⟩ rfl ?_
              refine i_iald (pc' := 277) (f_at inc_118 (j := 159) rfl) sh_179 (f_bg (Nat.le_of_ble_eq_true rfl)) (f_lt (o := 179) (m := 181) (Nat.le_of_ble_eq_true rfl) hN) rfl fun v43 => ?_
              refine i_iconst (pc' := 278) (f_at inc_118 (j := 160) rfl) ci_1 rfl ?_
              refine i_iadd (pc' := 279) (f_at inc_118 (j := 161) rfl) rfl ?_
              refine i_iast (pc' := 280) (f_at inc_118 (j := 162) rfl) sh_179 (f_lt (o := 179) (m := 181) (Nat.le_of_ble_eq_true rfl) hN) rfl fun m44 => ?_
              refine i_aload_n (pc' := 281) (f_at inc_118 (j := 163) rfl) rfl rfl ?_
              refine i_getR (pc' := 284) (f_at inc_118 (j := 164) rfl) sh_155 rfl (f_lt (o := 155) (m := 181) (Nat.le_of_ble_eq_true rfl) hN) rfl ?_
              refine i_iload (pc' := 286) (f_at inc_118 (j := 165) rfl) rfl rfl ?_
              refine i_iald (pc' := 287) (f_at inc_118 (j := 166) rfl) sh_179 (f_bg (Nat.le_of_ble_eq_true rfl)) (f_lt (o := 179) (m := 181) (Nat.le_of_ble_eq_true rfl) hN) rfl fun v45 => ?_
              refine i_iconst (pc' := 288) (f_at inc_118 (j := 167) rfl) ci_2 rfl ?_
              refine i_aload_n (pc' := 289) (f_at inc_118 (j := 168) rfl) rfl rfl ?_
              refine i_getR (pc' := 292) (f_at inc_118 (j := 169) rfl) sh_155 rfl (f_lt (o := 155) (m := 181) (Nat.le_of_ble_eq_true rfl) hN) rfl ?_
              refine i_iload (pc' := 294) (f_at inc_118 (j := 170) rfl) rfl rfl ?_
              refine i_iald (pc' := 295) (f_at inc_118 (j := 171) rfl) sh_158 (f_bg (Nat.le_of_ble_eq_true rfl)) (f_lt (o := 158) (m := 181) (Nat.le_of_ble_eq_true rfl) hN) rfl fun v46 => ?_
              refine i_iadd (pc' := 296) (f_at inc_118 (j := 172) rfl) rfl ?_
              refine i_if2 (pc' := 302) (nx := 299) c2_ge (f_at inc_118 (j := 173) rfl) ⟨by decide, rfl⟩ (fun b70 => ?_) (fun b70 => ?_)
              · refine i_aload_n (pc' := 303) (f_at inc_118 (j := 175) rfl) rfl rfl ?_
                refine i_getR (pc' := 306) (f_at inc_118 (j := 176) rfl) sh_155 rfl (f_lt (o := 155) (m := 181) (Nat.le_of_ble_eq_true rfl) hN) rfl ?_
                refine i_iload (pc' := 308) (f_at inc_118 (j := 177) rfl) rfl rfl ?_
                refine i_kald (pc' := 309) (f_at inc_118 (j := 178) rfl) sh_174 rfl f_gD (f_bg (Nat.le_of_ble_eq_true rfl)) (f_lt (o := 174) (m := 181) (Nat.le_of_ble_eq_true rfl) hN) rfl fun v47 hv47 => ?_
                refine i_iconst (pc' := 310) (f_at inc_118 (j := 179) rfl) ci_0 rfl ?_
                refine i_iald (pc' := 311) (f_at inc_118 (j := 180) rfl) (f_Dk _ hv47).1 (f_bgD (f_Dk _ hv47)) (f_ltD (f_Dk _ hv47) hN) rfl fun v48 => ?_
                refine i_istore (pc' := 313) (ls' := [.ref 155, .int a1, .int a2, .int ((f_up x20 155 26 ((x20 155 26) + (1 : Int32))) 155 32), .int s40.1, .int v48, u40.2]) (f_at inc_118 (j := 181) rfl) (Nat.le_of_ble_eq_true rfl) rfl rfl ?_
                refine i_aload_n (pc' := 314) (f_at inc_118 (j := 182) rfl) rfl rfl ?_
                refine i_getR (pc' := 317) (f_at inc_118 (j := 183) rfl) sh_155 rfl (f_lt (o := 155) (m := 181) (Nat.le_of_ble_eq_true rfl) hN) rfl ?_
                refine i_iload (pc' := 319) (f_at inc_118 (j := 184) rfl) rfl rfl ?_
                refine i_iconst (pc' := 320) (f_at inc_118 (j := 185) rfl) ci_0 rfl ?_
                refine i_iast (pc' := 321) (f_at inc_118 (j := 186) rfl) sh_179 (f_lt (o := 179) (m := 181) (Nat.le_of_ble_eq_true rfl) hN) rfl fun m49 => ?_
                refine i_aload_n (pc' := 322) (f_at inc_118 (j := 187) rfl) rfl rfl ?_
                refine i_getR (pc' := 325) (f_at inc_118 (j := 188) rfl) sh_155 rfl (f_lt (o := 155) (m := 181) (Nat.le_of_ble_eq_true rfl) hN) rfl ?_
                refine i_iload (pc' := 327) (f_at inc_118 (j := 189) rfl) rfl rfl ?_
                refine i_dup2 (pc' := 328) (f_at inc_118 (j := 190) rfl) ⟨rfl, rfl⟩ rfl ?_
                refine i_iald (pc' := 329) (f_at inc_118 (j := 191) rfl) sh_178 (f_bg (Nat.le_of_ble_eq_true rfl)) (f_lt (o := 178) (m := 181) (Nat.le_of_ble_eq_true rfl) hN) rfl fun v50 => ?_
                refine i_iconst (pc' := 330) (f_at inc_118 (j := 192) rfl) ci_1 rfl ?_
                refine i_isub (pc' := 331) (f_at inc_118 (j := 193) rfl) rfl ?_
                refine i_iast (pc' := 332) (f_at inc_118 (j := 194) rfl) sh_178 (f_lt (o := 178) (m := 181) (Nat.le_of_ble_eq_true rfl) hN) rfl fun m51 => ?_
                refine i_iconst (pc' := 333) (f_at inc_118 (j := 195) rfl) ci_0 rfl ?_
                refine i_istore (pc' := 335) (ls' := [.ref 155, .int a1, .int a2, .int ((f_up x20 155 26 ((x20 155 26) + (1 : Int32))) 155 32), .int s40.1, .int v48, .int (0 : Int32)]) (f_at inc_118 (j := 196) rfl) (Nat.le_of_ble_eq_true rfl) rfl rfl ?_
                refine s_lX (X := 375) ((0 : Int32), m51) () (fun (s52 : Int32 × f_M) (u52 : Unit) => [.ref 155, .int a1, .int a2, .int ((f_up x20 155 26 ((x20 155 26) + (1 : Int32))) 155 32), .int s40.1, .int v48, .int s52.1]) (fun (s52 : Int32 × f_M) => s52.2) (fun (x52 : f_M) (w52 : Value) => [.ref 155, .int a1, .int a2, .int ((f_up x20 155 26 ((x20 155 26) + (1 : Int32))) 155 32), .int s40.1, .int v48, w52]) (fun (x52 : f_M) => x52) ?_ ?_
                · intro x52 w52
                  refine i_aload_n (pc' := 376) (f_at inc_118 (j := 219) rfl) rfl rfl ?_
                  refine i_aload_n (pc' := 377) (f_at inc_118 (j := 220) rfl) rfl rfl ?_
                  refine i_getR (pc' := 380) (f_at inc_118 (j := 221) rfl) sh_155 rfl (f_lt (o := 155) (m := 181) (Nat.le_of_ble_eq_true rfl) hN) rfl ?_
                  refine i_iload (pc' := 382) (f_at inc_118 (j := 222) rfl) rfl rfl ?_
                  refine i_iald (pc' := 383) (f_at inc_118 (j := 223) rfl) sh_170 (f_bg (Nat.le_of_ble_eq_true rfl)) (f_lt (o := 170) (m := 181) (Nat.le_of_ble_eq_true rfl) hN) rfl fun v59 => ?_
                  refine c_pi (pc' := 386) (c' := 0) (n' := 0) (h_virt (ra := [.int v59, .ref 155]) (r := []) (as := [.int v59]) (f_at inc_118 (j := 224) rfl) (by decide) MT_67 rfl rfl rfl ⟨Nat.le_of_ble_eq_true rfl, Nat.le_of_ble_eq_true rfl, Nat.le_of_ble_eq_true rfl⟩ sh_155 (f_lt (o := 155) (m := 181) (Nat.le_of_ble_eq_true rfl) hN)) MT_67 (L_damage hN v59 x52) ⟨rfl, rfl, rfl⟩ fun t60 => ?_
                  refine i_istore (pc' := 388) (ls' := [.ref 155, .int a1, .int a2, .int ((f_up x20 155 26 ((x20 155 26) + (1 : Int32))) 155 32), .int s40.1, .int v48, .int t60]) (f_at inc_118 (j := 225) rfl) (Nat.le_of_ble_eq_true rfl) rfl rfl ?_
                  refine i_aload_n (pc' := 389) (f_at inc_118 (j := 226) rfl) rfl rfl ?_
                  refine i_getR (pc' := 392) (f_at inc_118 (j := 227) rfl) sh_155 rfl (f_lt (o := 155) (m := 181) (Nat.le_of_ble_eq_true rfl) hN) rfl ?_
                  refine i_iload (pc' := 394) (f_at inc_118 (j := 228) rfl) rfl rfl ?_
                  refine i_iload (pc' := 396) (f_at inc_118 (j := 229) rfl) rfl rfl ?_
                  refine i_iconst (pc' := 397) (f_at inc_118 (j := 230) rfl) ci_5 rfl ?_
                  refine i_aload_n (pc' := 398) (f_at inc_118 (j := 231) rfl) rfl rfl ?_
                  refine i_getR (pc' := 401) (f_at inc_118 (j := 232) rfl) sh_155 rfl (f_lt (o := 155) (m := 181) (Nat.le_of_ble_eq_true rfl) hN) rfl ?_
                  refine i_iload (pc' := 403) (f_at inc_118 (j := 233) rfl) rfl rfl ?_
                  refine i_iald (pc' := 404) (f_at inc_118 (j := 234) rfl) sh_158 (f_bg (Nat.le_of_ble_eq_true rfl)) (f_lt (o := 158) (m := 181) (Nat.le_of_ble_eq_true rfl) hN) rfl fun v61 => ?_
                  refine i_imul (pc' := 405) (f_at inc_118 (j := 235) rfl) rfl ?_
                  refine i_iload (pc' := 407) (f_at inc_118 (j := 236) rfl) rfl rfl ?_
                  refine i_imul (pc' := 408) (f_at inc_118 (j := 237) rfl) rfl ?_
                  refine i_bipush (pc' := 410) (f_at inc_118 (j := 238) rfl) cb_100 rfl ?_
                  refine i_idiv (pc' := 411) (f_at inc_118 (j := 239) rfl) (by decide) rfl ?_
                  refine i_isub (pc' := 412) (f_at inc_118 (j := 240) rfl) rfl ?_
                  refine i_iast (pc' := 413) (f_at inc_118 (j := 241) rfl) sh_173 (f_lt (o := 173) (m := 181) (Nat.le_of_ble_eq_true rfl) hN) rfl fun m62 => ?_
                  refine i_aload_n (pc' := 414) (f_at inc_118 (j := 242) rfl) rfl rfl ?_
                  refine i_getR (pc' := 417) (f_at inc_118 (j := 243) rfl) sh_155 rfl (f_lt (o := 155) (m := 181) (Nat.le_of_ble_eq_true rfl) hN) rfl ?_
                  refine i_iload (pc' := 419) (f_at inc_118 (j := 244) rfl) rfl rfl ?_
                  refine i_aload_n (pc' := 420) (f_at inc_118 (j := 245) rfl) rfl rfl ?_
                  refine i_getR (pc' := 423) (f_at inc_118 (j := 246) rfl) sh_155 rfl (f_lt (o := 155) (m := 181) (Nat.le_of_ble_eq_true rfl) hN) rfl ?_
                  refine i_iload (pc' := 425) (f_at inc_118 (j := 247) rfl) rfl rfl ?_
                  refine i_iald (pc' := 426) (f_at inc_118 (j := 248) rfl) sh_173 (f_bg (Nat.le_of_ble_eq_true rfl)) (f_lt (o := 173) (m := 181) (Nat.le_of_ble_eq_true rfl) hN) rfl fun v63 => ?_
                  refine s_join (J := 434) (fun (t64 : Int32) (u64 : Unit) => [.ref 155, .int a1, .int a2, .int ((f_up x20 155 26 ((x20 155 26) + (1 : Int32))) 155 32), .int s40.1, .int v48, .int t60]) (fun t64 => [.int t64, .int v48, .ref 172]) (fun t64 => m62) ?_ ?_
                  · intro t64 u64
                    refine i_iast (pc' := 435) (f_at inc_118 (j := 253) rfl) sh_172 (f_lt (o := 172) (m := 181) (Nat.le_of_ble_eq_true rfl) hN) rfl fun m66 => ?_
                    refine i_aload_n (pc' := 436) (f_at inc_118 (j := 254) rfl) rfl rfl ?_
                    refine i_dup (pc' := 437) (f_at inc_118 (j := 255) rfl) rfl rfl ?_
                    refine i_getI (pc' := 440) (f_at inc_118 (j := 256) rfl) sh_155 rfl (f_lt (o := 155) (m := 181) (Nat.le_of_ble_eq_true rfl) hN) rfl ?_
                    refine i_iconst (pc' := 441) (f_at inc_118 (j := 257) rfl) ci_1 rfl ?_
                    refine i_iadd (pc' := 442) (f_at inc_118 (j := 258) rfl) rfl ?_
                    refine i_putI (pc' := 445) (f_at inc_118 (j := 259) rfl) sh_155 rfl ⟨rfl, rfl⟩ (f_lt (o := 155) (m := 181) (Nat.le_of_ble_eq_true rfl) hN) rfl ?_
                    refine i_aload_n (pc' := 446) (f_at inc_118 (j := 260) rfl) rfl rfl ?_
                    refine i_getR (pc' := 449) (f_at inc_118 (j := 261) rfl) sh_155 rfl (f_lt (o := 155) (m := 181) (Nat.le_of_ble_eq_true rfl) hN) rfl ?_
                    refine i_iload (pc' := 451) (f_at inc_118 (j := 262) rfl) rfl rfl ?_
                    refine i_iald (pc' := 452) (f_at inc_118 (j := 263) rfl) sh_172 (f_bg (Nat.le_of_ble_eq_true rfl)) (f_lt (o := 172) (m := 181) (Nat.le_of_ble_eq_true rfl) hN) rfl fun v67 => ?_
                    refine i_iconst (pc' := 453) (f_at inc_118 (j := 264) rfl) ci_2 rfl ?_
                    refine i_if2 (pc' := 477) (nx := 456) c2_ne (f_at inc_118 (j := 265) rfl) ⟨by decide, rfl⟩ (fun b69 => ?_) (fun b69 => ?_)
                    · exact hj42 (f_up m66 155 32 ((m66 155 32) + (1 : Int32))) (.int v48, .int t60)
                    · refine i_aload_n (pc' := 457) (f_at inc_118 (j := 266) rfl) rfl rfl ?_
                      refine i_getR (pc' := 460) (f_at inc_118 (j := 267) rfl) sh_155 rfl (f_lt (o := 155) (m := 181) (Nat.le_of_ble_eq_true rfl) hN) rfl ?_
                      refine i_aload_n (pc' := 461) (f_at inc_118 (j := 268) rfl) rfl rfl ?_
                      refine i_getI (pc' := 464) (f_at inc_118 (j := 269) rfl) sh_155 rfl (f_lt (o := 155) (m := 181) (Nat.le_of_ble_eq_true rfl) hN) rfl ?_
                      refine i_iload (pc' := 466) (f_at inc_118 (j := 270) rfl) rfl rfl ?_
                      refine i_iast (pc' := 467) (f_at inc_118 (j := 271) rfl) sh_180 (f_lt (o := 180) (m := 181) (Nat.le_of_ble_eq_true rfl) hN) rfl fun m68 => ?_
                      refine i_aload_n (pc' := 468) (f_at inc_118 (j := 272) rfl) rfl rfl ?_
                      refine i_dup (pc' := 469) (f_at inc_118 (j := 273) rfl) rfl rfl ?_
                      refine i_getI (pc' := 472) (f_at inc_118 (j := 274) rfl) sh_155 rfl (f_lt (o := 155) (m := 181) (Nat.le_of_ble_eq_true rfl) hN) rfl ?_
                      refine i_iconst (pc' := 473) (f_at inc_118 (j := 275) rfl) ci_1 rfl ?_
                      refine i_iadd (pc' := 474) (f_at inc_118 (j := 276) rfl) rfl ?_
                      refine i_putI (pc' := 477) (f_at inc_118 (j := 277) rfl) sh_155 rfl ⟨rfl, rfl⟩ (f_lt (o := 155) (m := 181) (Nat.le_of_ble_eq_true rfl) hN) rfl ?_
                      exact hj42 (f_up m68 155 31 ((m68 155 31) + (1 : Int32))) (.int v48, .int t60)
                  · intro k64 hj64
                    refine i_if0 (pc' := 433) (nx := 429) c0_le (f_at inc_118 (j := 249) rfl) ⟨by decide, rfl⟩ (fun b65 => ?_) (fun b65 => ?_)
                    · refine i_iconst (pc' := 434) (f_at inc_118 (j := 252) rfl) ci_1 rfl ?_
                      exact hj64 (1 : Int32) ()
                    · refine i_iconst (pc' := 430) (f_at inc_118 (j := 250) rfl) ci_2 rfl ?_
                      refine i_goto (pc' := 434) (f_at inc_118 (j := 251) rfl) (by decide) ?_
                      exact hj64 (2 : Int32) ()
                · intro s52 u52 k52 hb52 hx52
                  refine i_iload (pc' := 337) (f_at inc_118 (j := 197) rfl) rfl rfl ?_
                  refine i_aload_n (pc' := 338) (f_at inc_118 (j := 198) rfl) rfl rfl ?_
                  refine i_getR (pc' := 341) (f_at inc_118 (j := 199) rfl) sh_155 rfl (f_lt (o := 155) (m := 181) (Nat.le_of_ble_eq_true rfl) hN) rfl ?_
                  refine i_iload (pc' := 343) (f_at inc_118 (j := 200) rfl) rfl rfl ?_
                  refine i_iald (pc' := 344) (f_at inc_118 (j := 201) rfl) sh_178 (f_bg (Nat.le_of_ble_eq_true rfl)) (f_lt (o := 178) (m := 181) (Nat.le_of_ble_eq_true rfl) hN) rfl fun v53 => ?_
                  refine i_if2 (pc' := 375) (nx := 347) c2_ge (f_at inc_118 (j := 202) rfl) ⟨by decide, rfl⟩ (fun b58 => ?_) (fun b58 => ?_)
                  · exact hx52 s52.2 (.int s52.1)
                  · refine i_aload_n (pc' := 348) (f_at inc_118 (j := 203) rfl) rfl rfl ?_
                    refine i_getR (pc' := 351) (f_at inc_118 (j := 204) rfl) sh_155 rfl (f_lt (o := 155) (m := 181) (Nat.le_of_ble_eq_true rfl) hN) rfl ?_
                    refine i_iload (pc' := 353) (f_at inc_118 (j := 205) rfl) rfl rfl ?_
                    refine i_kald (pc' := 354) (f_at inc_118 (j := 206) rfl) sh_174 rfl f_gD (f_bg (Nat.le_of_ble_eq_true rfl)) (f_lt (o := 174) (m := 181) (Nat.le_of_ble_eq_true rfl) hN) rfl fun v54 hv54 => ?_
                    refine i_iload (pc' := 356) (f_at inc_118 (j := 207) rfl) rfl rfl ?_
                    refine i_aload_n (pc' := 357) (f_at inc_118 (j := 208) rfl) rfl rfl ?_
                    refine i_getR (pc' := 360) (f_at inc_118 (j := 209) rfl) sh_155 rfl (f_lt (o := 155) (m := 181) (Nat.le_of_ble_eq_true rfl) hN) rfl ?_
                    refine i_iload (pc' := 362) (f_at inc_118 (j := 210) rfl) rfl rfl ?_
                    refine i_kald (pc' := 363) (f_at inc_118 (j := 211) rfl) sh_174 rfl f_gD (f_bg (Nat.le_of_ble_eq_true rfl)) (f_lt (o := 174) (m := 181) (Nat.le_of_ble_eq_true rfl) hN) rfl fun v55 hv55 => ?_
                    refine i_iload (pc' := 365) (f_at inc_118 (j := 212) rfl) rfl rfl ?_
                    refine i_iconst (pc' := 366) (f_at inc_118 (j := 213) rfl) ci_1 rfl ?_
                    refine i_iadd (pc' := 367) (f_at inc_118 (j := 214) rfl) rfl ?_
                    refine i_iald (pc' := 368) (f_at inc_118 (j := 215) rfl) (f_Dk _ hv55).1 (f_bgD (f_Dk _ hv55)) (f_ltD (f_Dk _ hv55) hN) rfl fun v56 => ?_
                    refine i_iast (pc' := 369) (f_at inc_118 (j := 216) rfl) (f_Dk _ hv54).1 (f_ltD (f_Dk _ hv54) hN) rfl fun m57 => ?_
                    refine i_iinc (pc' := 372) (ls' := [.ref 155, .int a1, .int a2, .int ((f_up x20 155 26 ((x20 155 26) + (1 : Int32))) 155 32), .int s40.1, .int v48, .int (s52.1 + (1 : Int32))]) (f_at inc_118 (j := 217) rfl) rfl ci_1 rfl rfl ?_
                    refine i_goto (pc' := 335) (f_at inc_118 (j := 218) rfl) (by decide) ?_
                    exact hb52 ((s52.1 + (1 : Int32)), m57) ()
              · refine i_goto (pc' := 477) (f_at inc_118 (j := 174) rfl) (by decide) ?_
                exact hj42 m44 (u40.1, u40.2)
            · refine i_goto (pc' := 477) (f_at inc_118 (j := 154) rfl) (by decide) ?_
              exact hj42 s40.2 (u40.1, u40.2)
    · intro s20 u20 k20 hb20 hx20
      refine i_iload_n (pc' := 127) (f_at inc_118 (j := 73) rfl) rfl rfl ?_
      refine i_aload_n (pc' := 128) (f_at inc_118 (j := 74) rfl) rfl rfl ?_
      refine i_getI (pc' := 131) (f_at inc_118 (j := 75) rfl) sh_155 rfl (f_lt (o := 155) (m := 181) (Nat.le_of_ble_eq_true rfl) hN) rfl ?_
      refine i_if2 (pc' := 229) (nx := 134) c2_ge (f_at inc_118 (j := 76) rfl) ⟨by decide, rfl⟩ (fun b39 => ?_) (fun b39 => ?_)
      · exact hx20 s20.2 (.int s20.1)
      · refine i_aload_n (pc' := 135) (f_at inc_118 (j := 77) rfl) rfl rfl ?_
        refine i_getI (pc' := 138) (f_at inc_118 (j := 78) rfl) sh_155 rfl (f_lt (o := 155) (m := 181) (Nat.le_of_ble_eq_true rfl) hN) rfl ?_
        refine i_aload_n (pc' := 139) (f_at inc_118 (j := 79) rfl) rfl rfl ?_
        refine i_getR (pc' := 142) (f_at inc_118 (j := 80) rfl) sh_155 rfl (f_lt (o := 155) (m := 181) (Nat.le_of_ble_eq_true rfl) hN) rfl ?_
        refine i_iload_n (pc' := 143) (f_at inc_118 (j := 81) rfl) rfl rfl ?_
        refine i_iald (pc' := 144) (f_at inc_118 (j := 82) rfl) sh_161 (f_bg (Nat.le_of_ble_eq_true rfl)) (f_lt (o := 161) (m := 181) (Nat.le_of_ble_eq_true rfl) hN) rfl fun v21 => ?_
        refine s_join (J := 223) (fun (t22 : f_M) (u22 : Unit) => [.ref 155, .int a1, .int a2, .int s20.1, a_dead, a_dead, a_dead]) (fun t22 => []) (fun t22 => t22) ?_ ?_
        · intro t22 u22
          refine i_iinc (pc' := 226) (ls' := [.ref 155, .int a1, .int a2, .int (s20.1 + (1 : Int32)), a_dead, a_dead, a_dead]) (f_at inc_118 (j := 132) rfl) rfl ci_1 rfl rfl ?_
          refine i_goto (pc' := 126) (f_at inc_118 (j := 133) rfl) (by decide) ?_
          exact hb20 ((s20.1 + (1 : Int32)), t22) ()
        · intro k22 hj22
          refine i_if2 (pc' := 223) (nx := 147) c2_lt (f_at inc_118 (j := 83) rfl) ⟨by decide, rfl⟩ (fun b38 => ?_) (fun b38 => ?_)
          · exact hj22 s20.2 ()
          · refine i_aload_n (pc' := 148) (f_at inc_118 (j := 84) rfl) rfl rfl ?_
            refine i_getI (pc' := 151) (f_at inc_118 (j := 85) rfl) sh_155 rfl (f_lt (o := 155) (m := 181) (Nat.le_of_ble_eq_true rfl) hN) rfl ?_
            refine i_aload_n (pc' := 152) (f_at inc_118 (j := 86) rfl) rfl rfl ?_
            refine i_getR (pc' := 155) (f_at inc_118 (j := 87) rfl) sh_155 rfl (f_lt (o := 155) (m := 181) (Nat.le_of_ble_eq_true rfl) hN) rfl ?_
            refine i_iload_n (pc' := 156) (f_at inc_118 (j := 88) rfl) rfl rfl ?_
            refine i_iald (pc' := 157) (f_at inc_118 (j := 89) rfl) sh_161 (f_bg (Nat.le_of_ble_eq_true rfl)) (f_lt (o := 161) (m := 181) (Nat.le_of_ble_eq_true rfl) hN) rfl fun v23 => ?_
            refine i_aload_n (pc' := 158) (f_at inc_118 (j := 90) rfl) rfl rfl ?_
            refine i_getR (pc' := 161) (f_at inc_118 (j := 91) rfl) sh_155 rfl (f_lt (o := 155) (m := 181) (Nat.le_of_ble_eq_true rfl) hN) rfl ?_
            refine i_iload_n (pc' := 162) (f_at inc_118 (j := 92) rfl) rfl rfl ?_
            refine i_iald (pc' := 163) (f_at inc_118 (j := 93) rfl) sh_162 (f_bg (Nat.le_of_ble_eq_true rfl)) (f_lt (o := 162) (m := 181) (Nat.le_of_ble_eq_true rfl) hN) rfl fun v24 => ?_
            refine i_iadd (pc' := 164) (f_at inc_118 (j := 94) rfl) rfl ?_
            refine i_if2 (pc' := 170) (nx := 167) c2_lt (f_at inc_118 (j := 95) rfl) ⟨by decide, rfl⟩ (fun b37 => ?_) (fun b37 => ?_)
            · refine i_aload_n (pc' := 171) (f_at inc_118 (j := 97) rfl) rfl rfl ?_
              refine i_getR (pc' := 174) (f_at inc_118 (j := 98) rfl) sh_155 rfl (f_lt (o := 155) (m := 181) (Nat.le_of_ble_eq_true rfl) hN) rfl ?_
              refine i_iload_n (pc' := 175) (f_at inc_118 (j := 99) rfl) rfl rfl ?_
              refine i_iald (pc' := 176) (f_at inc_118 (j := 100) rfl) sh_159 (f_bg (Nat.le_of_ble_eq_true rfl)) (f_lt (o := 159) (m := 181) (Nat.le_of_ble_eq_true rfl) hN) rfl fun v25 => ?_
              refine i_iconst (pc' := 177) (f_at inc_118 (j := 101) rfl) ci_1 rfl ?_
              refine i_if2 (pc' := 193) (nx := 180) c2_ne (f_at inc_118 (j := 102) rfl) ⟨by decide, rfl⟩ (fun b36 => ?_) (fun b36 => ?_)
              · refine i_iload_n (pc' := 194) (f_at inc_118 (j := 112) rfl) rfl rfl ?_
                refine i_aload_n (pc' := 195) (f_at inc_118 (j := 113) rfl) rfl rfl ?_
                refine i_getR (pc' := 198) (f_at inc_118 (j := 114) rfl) sh_155 rfl (f_lt (o := 155) (m := 181) (Nat.le_of_ble_eq_true rfl) hN) rfl ?_
                refine i_iload_n (pc' := 199) (f_at inc_118 (j := 115) rfl) rfl rfl ?_
                refine i_iald (pc' := 200) (f_at inc_118 (j := 116) rfl) sh_164 (f_bg (Nat.le_of_ble_eq_true rfl)) (f_lt (o := 164) (m := 181) (Nat.le_of_ble_eq_true rfl) hN) rfl fun v26 => ?_
                refine i_if2 (pc' := 213) (nx := 203) c2_lt (f_at inc_118 (j := 117) rfl) ⟨by decide, rfl⟩ (fun b33 => ?_) (fun b33 => ?_)
                · refine i_aload_n (pc' := 214) (f_at inc_118 (j := 124) rfl) rfl rfl ?_
                  refine i_getR (pc' := 217) (f_at inc_118 (j := 125) rfl) sh_155 rfl (f_lt (o := 155) (m := 181) (Nat.le_of_ble_eq_true rfl) hN) rfl ?_
                  refine i_iload_n (pc' := 218) (f_at inc_118 (j := 126) rfl) rfl rfl ?_
                  refine i_dup2 (pc' := 219) (f_at inc_118 (j := 127) rfl) ⟨rfl, rfl⟩ rfl ?_
                  refine i_iald (pc' := 220) (f_at inc_118 (j := 128) rfl) sh_167 (f_bg (Nat.le_of_ble_eq_true rfl)) (f_lt (o := 167) (m := 181) (Nat.le_of_ble_eq_true rfl) hN) rfl fun v27 => ?_
                  refine i_iconst (pc' := 221) (f_at inc_118 (j := 129) rfl) ci_1 rfl ?_
                  refine i_iadd (pc' := 222) (f_at inc_118 (j := 130) rfl) rfl ?_
                  refine i_iast (pc' := 223) (f_at inc_118 (j := 131) rfl) sh_167 (f_lt (o := 167) (m := 181) (Nat.le_of_ble_eq_true rfl) hN) rfl fun m28 => ?_
                  exact hj22 m28 ()
                · refine i_iload_n (pc' := 204) (f_at inc_118 (j := 118) rfl) rfl rfl ?_
                  refine i_aload_n (pc' := 205) (f_at inc_118 (j := 119) rfl) rfl rfl ?_
                  refine i_getR (pc' := 208) (f_at inc_118 (j := 120) rfl) sh_155 rfl (f_lt (o := 155) (m := 181) (Nat.le_of_ble_eq_true rfl) hN) rfl ?_
                  refine i_iload_n (pc' := 209) (f_at inc_118 (j := 121) rfl) rfl rfl ?_
                  refine i_iald (pc' := 210) (f_at inc_118 (j := 122) rfl) sh_165 (f_bg (Nat.le_of_ble_eq_true rfl)) (f_lt (o := 165) (m := 181) (Nat.le_of_ble_eq_true rfl) hN) rfl fun v29 => ?_
                  refine i_if2 (pc' := 223) (nx := 213) c2_le (f_at inc_118 (j := 123) rfl) ⟨by decide, rfl⟩ (fun b32 => ?_) (fun b32 => ?_)
                  · exact hj22 s20.2 ()
                  · refine i_aload_n (pc' := 214) (f_at inc_118 (j := 124) rfl) rfl rfl ?_
                    refine i_getR (pc' := 217) (f_at inc_118 (j := 125) rfl) sh_155 rfl (f_lt (o := 155) (m := 181) (Nat.le_of_ble_eq_true rfl) hN) rfl ?_
                    refine i_iload_n (pc' := 218) (f_at inc_118 (j := 126) rfl) rfl rfl ?_
                    refine i_dup2 (pc' := 219) (f_at inc_118 (j := 127) rfl) ⟨rfl, rfl⟩ rfl ?_
                    refine i_iald (pc' := 220) (f_at inc_118 (j := 128) rfl) sh_167 (f_bg (Nat.le_of_ble_eq_true rfl)) (f_lt (o := 167) (m := 181) (Nat.le_of_ble_eq_true rfl) hN) rfl fun v30 => ?_
                    refine i_iconst (pc' := 221) (f_at inc_118 (j := 129) rfl) ci_1 rfl ?_
                    refine i_iadd (pc' := 222) (f_at inc_118 (j := 130) rfl) rfl ?_
                    refine i_iast (pc' := 223) (f_at inc_118 (j := 131) rfl) sh_167 (f_lt (o := 167) (m := 181) (Nat.le_of_ble_eq_true rfl) hN) rfl fun m31 => ?_
                    exact hj22 m31 ()
              · refine i_aload_n (pc' := 181) (f_at inc_118 (j := 103) rfl) rfl rfl ?_
                refine i_getR (pc' := 184) (f_at inc_118 (j := 104) rfl) sh_155 rfl (f_lt (o := 155) (m := 181) (Nat.le_of_ble_eq_true rfl) hN) rfl ?_
                refine i_iload_n (pc' := 185) (f_at inc_118 (j := 105) rfl) rfl rfl ?_
                refine i_dup2 (pc' := 186) (f_at inc_118 (j := 106) rfl) ⟨rfl, rfl⟩ rfl ?_
                refine i_iald (pc' := 187) (f_at inc_118 (j := 107) rfl) sh_167 (f_bg (Nat.le_of_ble_eq_true rfl)) (f_lt (o := 167) (m := 181) (Nat.le_of_ble_eq_true rfl) hN) rfl fun v34 => ?_
                refine i_iload_n (pc' := 188) (f_at inc_118 (j := 108) rfl) rfl rfl ?_
                refine i_iadd (pc' := 189) (f_at inc_118 (j := 109) rfl) rfl ?_
                refine i_iast (pc' := 190) (f_at inc_118 (j := 110) rfl) sh_167 (f_lt (o := 167) (m := 181) (Nat.le_of_ble_eq_true rfl) hN) rfl fun m35 => ?_
                refine i_goto (pc' := 223) (f_at inc_118 (j := 111) rfl) (by decide) ?_
                exact hj22 m35 ()
            · refine i_goto (pc' := 223) (f_at inc_118 (j := 96) rfl) (by decide) ?_
              exact hj22 s20.2 ()
  · intro k1 hj1
    refine i_if0 (pc' := 124) (nx := 7) c0_le (f_at inc_118 (j := 2) rfl) ⟨by decide, rfl⟩ (fun b19 => ?_) (fun b19 => ?_)
    · exact hj1 σ (a_dead)
    · refine i_aload_n (pc' := 8) (f_at inc_118 (j := 3) rfl) rfl rfl ?_
      refine i_getI (pc' := 11) (f_at inc_118 (j := 4) rfl) sh_155 rfl (f_lt (o := 155) (m := 181) (Nat.le_of_ble_eq_true rfl) hN) rfl ?_
      refine i_bipush (pc' := 13) (f_at inc_118 (j := 5) rfl) cb_24 rfl ?_
      refine i_irem (pc' := 14) (f_at inc_118 (j := 6) rfl) (by decide) rfl ?_
      refine i_if0 (pc' := 124) (nx := 17) c0_ne (f_at inc_118 (j := 7) rfl) ⟨by decide, rfl⟩ (fun b18 => ?_) (fun b18 => ?_)
      · exact hj1 σ (a_dead)
      · refine i_iconst (pc' := 18) (f_at inc_118 (j := 8) rfl) ci_0 rfl ?_
        refine i_istore_n (pc' := 19) (ls' := [.ref 155, .int a1, .int a2, .int (0 : Int32), a_dead, a_dead, a_dead]) (f_at inc_118 (j := 9) rfl) (Nat.le_of_ble_eq_true rfl) rfl rfl ?_
        refine s_lX (X := 124) ((0 : Int32), σ) () (fun (s2 : Int32 × f_M) (u2 : Unit) => [.ref 155, .int a1, .int a2, .int s2.1, a_dead, a_dead, a_dead]) (fun (s2 : Int32 × f_M) => s2.2) (fun (x2 : f_M) (w2 : Value) => [.ref 155, .int a1, .int a2, w2, a_dead, a_dead, a_dead]) (fun (x2 : f_M) => x2) ?_ ?_
        · intro x2 w2
          exact hj1 x2 (w2)
        · intro s2 u2 k2 hb2 hx2
          refine i_iload_n (pc' := 20) (f_at inc_118 (j := 10) rfl) rfl rfl ?_
          refine i_aload_n (pc' := 21) (f_at inc_118 (j := 11) rfl) rfl rfl ?_
          refine i_getI (pc' := 24) (f_at inc_118 (j := 12) rfl) sh_155 rfl (f_lt (o := 155) (m := 181) (Nat.le_of_ble_eq_true rfl) hN) rfl ?_
          refine i_if2 (pc' := 124) (nx := 27) c2_ge (f_at inc_118 (j := 13) rfl) ⟨by decide, rfl⟩ (fun b17 => ?_) (fun b17 => ?_)
          · exact hx2 s2.2 (.int s2.1)
          · refine i_aload_n (pc' := 28) (f_at inc_118 (j := 14) rfl) rfl rfl ?_
            refine i_iload_n (pc' := 29) (f_at inc_118 (j := 15) rfl) rfl rfl ?_
            refine c_pb (pc' := 32) (c' := 0) (n' := 0) (h_virt (ra := [.int s2.1, .ref 155]) (r := []) (as := [.int s2.1]) (f_at inc_118 (j := 16) rfl) (by decide) MT_61 rfl rfl rfl ⟨Nat.le_of_ble_eq_true rfl, Nat.le_of_ble_eq_true rfl, Nat.le_of_ble_eq_true rfl⟩ sh_155 (f_lt (o := 155) (m := 181) (Nat.le_of_ble_eq_true rfl) hN)) MT_61 (L_isActive hN s2.1 s2.2) ⟨rfl, rfl, rfl⟩ fun t3 => ?_
            refine s_join (J := 118) (fun (t4 : f_M) (u4 : Unit) => [.ref 155, .int a1, .int a2, .int s2.1, a_dead, a_dead, a_dead]) (fun t4 => []) (fun t4 => t4) ?_ ?_
            · intro t4 u4
              refine i_iinc (pc' := 121) (ls' := [.ref 155, .int a1, .int a2, .int (s2.1 + (1 : Int32)), a_dead, a_dead, a_dead]) (f_at inc_118 (j := 69) rfl) rfl ci_1 rfl rfl ?_
              refine i_goto (pc' := 19) (f_at inc_118 (j := 70) rfl) (by decide) ?_
              exact hb2 ((s2.1 + (1 : Int32)), t4) ()
            · intro k4 hj4
              refine i_if0 (pc' := 38) (nx := 35) cb_ne (f_at inc_118 (j := 17) rfl) ⟨by decide, rfl⟩ (fun b16 => ?_) (fun b16 => ?_)
              · refine i_aload_n (pc' := 39) (f_at inc_118 (j := 19) rfl) rfl rfl ?_
                refine i_getR (pc' := 42) (f_at inc_118 (j := 20) rfl) sh_155 rfl (f_lt (o := 155) (m := 181) (Nat.le_of_ble_eq_true rfl) hN) rfl ?_
                refine i_aload_n (pc' := 43) (f_at inc_118 (j := 21) rfl) rfl rfl ?_
                refine i_getR (pc' := 46) (f_at inc_118 (j := 22) rfl) sh_155 rfl (f_lt (o := 155) (m := 181) (Nat.le_of_ble_eq_true rfl) hN) rfl ?_
                refine i_iload_n (pc' := 47) (f_at inc_118 (j := 23) rfl) rfl rfl ?_
                refine i_iald (pc' := 48) (f_at inc_118 (j := 24) rfl) sh_160 (f_bg (Nat.le_of_ble_eq_true rfl)) (f_lt (o := 160) (m := 181) (Nat.le_of_ble_eq_true rfl) hN) rfl fun v5 => ?_
                refine i_iald (pc' := 49) (f_at inc_118 (j := 25) rfl) sh_156 (f_bg (Nat.le_of_ble_eq_true rfl)) (f_lt (o := 156) (m := 181) (Nat.le_of_ble_eq_true rfl) hN) rfl fun v6 => ?_
                refine i_aload_n (pc' := 50) (f_at inc_118 (j := 26) rfl) rfl rfl ?_
                refine i_getR (pc' := 53) (f_at inc_118 (j := 27) rfl) sh_155 rfl (f_lt (o := 155) (m := 181) (Nat.le_of_ble_eq_true rfl) hN) rfl ?_
                refine i_iload_n (pc' := 54) (f_at inc_118 (j := 28) rfl) rfl rfl ?_
                refine i_iald (pc' := 55) (f_at inc_118 (j := 29) rfl) sh_166 (f_bg (Nat.le_of_ble_eq_true rfl)) (f_lt (o := 166) (m := 181) (Nat.le_of_ble_eq_true rfl) hN) rfl fun v7 => ?_
                refine i_if2 (pc' := 68) (nx := 58) c2_ge (f_at inc_118 (j := 30) rfl) ⟨by decide, rfl⟩ (fun b15 => ?_) (fun b15 => ?_)
                · refine i_aload_n (pc' := 69) (f_at inc_118 (j := 37) rfl) rfl rfl ?_
                  refine i_getR (pc' := 72) (f_at inc_118 (j := 38) rfl) sh_155 rfl (f_lt (o := 155) (m := 181) (Nat.le_of_ble_eq_true rfl) hN) rfl ?_
                  refine i_aload_n (pc' := 73) (f_at inc_118 (j := 39) rfl) rfl rfl ?_
                  refine i_getR (pc' := 76) (f_at inc_118 (j := 40) rfl) sh_155 rfl (f_lt (o := 155) (m := 181) (Nat.le_of_ble_eq_true rfl) hN) rfl ?_
                  refine i_iload_n (pc' := 77) (f_at inc_118 (j := 41) rfl) rfl rfl ?_
                  refine i_iald (pc' := 78) (f_at inc_118 (j := 42) rfl) sh_160 (f_bg (Nat.le_of_ble_eq_true rfl)) (f_lt (o := 160) (m := 181) (Nat.le_of_ble_eq_true rfl) hN) rfl fun v8 => ?_
                  refine i_dup2 (pc' := 79) (f_at inc_118 (j := 43) rfl) ⟨rfl, rfl⟩ rfl ?_
                  refine i_iald (pc' := 80) (f_at inc_118 (j := 44) rfl) sh_156 (f_bg (Nat.le_of_ble_eq_true rfl)) (f_lt (o := 156) (m := 181) (Nat.le_of_ble_eq_true rfl) hN) rfl fun v9 => ?_
                  refine i_aload_n (pc' := 81) (f_at inc_118 (j := 45) rfl) rfl rfl ?_
                  refine i_getR (pc' := 84) (f_at inc_118 (j := 46) rfl) sh_155 rfl (f_lt (o := 155) (m := 181) (Nat.le_of_ble_eq_true rfl) hN) rfl ?_
                  refine i_iload_n (pc' := 85) (f_at inc_118 (j := 47) rfl) rfl rfl ?_
                  refine i_iald (pc' := 86) (f_at inc_118 (j := 48) rfl) sh_166 (f_bg (Nat.le_of_ble_eq_true rfl)) (f_lt (o := 166) (m := 181) (Nat.le_of_ble_eq_true rfl) hN) rfl fun v10 => ?_
                  refine i_isub (pc' := 87) (f_at inc_118 (j := 49) rfl) rfl ?_
                  refine i_iast (pc' := 88) (f_at inc_118 (j := 50) rfl) sh_156 (f_lt (o := 156) (m := 181) (Nat.le_of_ble_eq_true rfl) hN) rfl fun m11 => ?_
                  refine i_aload_n (pc' := 89) (f_at inc_118 (j := 51) rfl) rfl rfl ?_
                  refine i_dup (pc' := 90) (f_at inc_118 (j := 52) rfl) rfl rfl ?_
                  refine i_getI (pc' := 93) (f_at inc_118 (j := 53) rfl) sh_155 rfl (f_lt (o := 155) (m := 181) (Nat.le_of_ble_eq_true rfl) hN) rfl ?_
                  refine i_aload_n (pc' := 94) (f_at inc_118 (j := 54) rfl) rfl rfl ?_
                  refine i_getR (pc' := 97) (f_at inc_118 (j := 55) rfl) sh_155 rfl (f_lt (o := 155) (m := 181) (Nat.le_of_ble_eq_true rfl) hN) rfl ?_
                  refine i_iload_n (pc' := 98) (f_at inc_118 (j := 56) rfl) rfl rfl ?_
                  refine i_iald (pc' := 99) (f_at inc_118 (j := 57) rfl) sh_166 (f_bg (Nat.le_of_ble_eq_true rfl)) (f_lt (o := 166) (m := 181) (Nat.le_of_ble_eq_true rfl) hN) rfl fun v12 => ?_
                  refine i_iadd (pc' := 100) (f_at inc_118 (j := 58) rfl) rfl ?_
                  refine i_putI (pc' := 103) (f_at inc_118 (j := 59) rfl) sh_155 rfl ⟨rfl, rfl⟩ (f_lt (o := 155) (m := 181) (Nat.le_of_ble_eq_true rfl) hN) rfl ?_
                  refine i_aload_n (pc' := 104) (f_at inc_118 (j := 60) rfl) rfl rfl ?_
                  refine i_dup (pc' := 105) (f_at inc_118 (j := 61) rfl) rfl rfl ?_
                  refine i_getI (pc' := 108) (f_at inc_118 (j := 62) rfl) sh_155 rfl (f_lt (o := 155) (m := 181) (Nat.le_of_ble_eq_true rfl) hN) rfl ?_
                  refine i_aload_n (pc' := 109) (f_at inc_118 (j := 63) rfl) rfl rfl ?_
                  refine i_getR (pc' := 112) (f_at inc_118 (j := 64) rfl) sh_155 rfl (f_lt (o := 155) (m := 181) (Nat.le_of_ble_eq_true rfl) hN) rfl ?_
                  refine i_iload_n (pc' := 113) (f_at inc_118 (j := 65) rfl) rfl rfl ?_
                  refine i_iald (pc' := 114) (f_at inc_118 (j := 66) rfl) sh_166 (f_bg (Nat.le_of_ble_eq_true rfl)) (f_lt (o := 166) (m := 181) (Nat.le_of_ble_eq_true rfl) hN) rfl fun v13 => ?_
                  refine i_iadd (pc' := 115) (f_at inc_118 (j := 67) rfl) rfl ?_
                  refine i_putI (pc' := 118) (f_at inc_118 (j := 68) rfl) sh_155 rfl ⟨rfl, rfl⟩ (f_lt (o := 155) (m := 181) (Nat.le_of_ble_eq_true rfl) hN) rfl ?_
                  exact hj4 (f_up (f_up m11 155 27 ((m11 155 27) + v12)) 155 28 (((f_up m11 155 27 ((m11 155 27) + v12)) 155 28) + v13)) ()
                · refine i_aload_n (pc' := 59) (f_at inc_118 (j := 31) rfl) rfl rfl ?_
                  refine i_getR (pc' := 62) (f_at inc_118 (j := 32) rfl) sh_155 rfl (f_lt (o := 155) (m := 181) (Nat.le_of_ble_eq_true rfl) hN) rfl ?_
                  refine i_iload_n (pc' := 63) (f_at inc_118 (j := 33) rfl) rfl rfl ?_
                  refine i_iconst (pc' := 64) (f_at inc_118 (j := 34) rfl) ci_1 rfl ?_
                  refine i_bast (pc' := 65) (f_at inc_118 (j := 35) rfl) sh_168 (Or.inr rfl) (by decide) (f_lt (o := 168) (m := 181) (Nat.le_of_ble_eq_true rfl) hN) rfl fun m14 => ?_
                  refine i_goto (pc' := 118) (f_at inc_118 (j := 36) rfl) (by decide) ?_
                  exact hj4 m14 ()
              · refine i_goto (pc' := 118) (f_at inc_118 (j := 18) rfl) (by decide) ?_
                exact hj4 s2.2 ()
set_option maxRecDepth 4000 in
theorem G_107 {xs : Nat → Int32} {L N : Nat} (hN : 155 ≤ N)   (σ : f_M) : f_Cal a_MT xs L N 119 [.ref 102] σ ((g_107  σ).bind fun t => some (e_pi σ t)) := by
  refine f_cal_of (ls := [.ref 102, a_dead, a_dead]) MT_119 (Nat.le_of_ble_eq_true rfl) rfl ?_
  unfold g_107
  refine i_iconst (pc' := 1) (f_at inc_119 (j := 0) rfl) ci_0 rfl ?_
  refine i_istore_n (pc' := 2) (ls' := [.ref 102, .int (0 : Int32), a_dead]) (f_at inc_119 (j := 1) rfl) (Nat.le_of_ble_eq_true rfl) rfl rfl ?_
  refine i_iconst (pc' := 3) (f_at inc_119 (j := 2) rfl) ci_1 rfl ?_
  refine i_istore_n (pc' := 4) (ls' := [.ref 102, .int (0 : Int32), .int (1 : Int32)]) (f_at inc_119 (j := 3) rfl) (Nat.le_of_ble_eq_true rfl) rfl rfl ?_
  refine s_lX (X := 36) ((0 : Int32), (1 : Int32)) () (fun (s1 : Int32 × Int32) (u1 : Unit) => [.ref 102, .int s1.1, .int s1.2]) (fun (s1 : Int32 × Int32) => σ) (fun (x1 : Int32) (w1 : Value) => [.ref 102, .int x1, w1]) (fun (x1 : Int32) => σ) ?_ ?_
  · intro x1 w1
    refine i_iload_n (pc' := 37) (f_at inc_119 (j := 20) rfl) rfl rfl ?_
    exact i_iret (f_at inc_119 (j := 21) rfl) rfl n_int
  · intro s1 u1 k1 hb1 hx1
    refine i_iload_n (pc' := 5) (f_at inc_119 (j := 4) rfl) rfl rfl ?_
    refine i_aload_n (pc' := 6) (f_at inc_119 (j := 5) rfl) rfl rfl ?_
    refine i_getR (pc' := 9) (f_at inc_119 (j := 6) rfl) sh_102 rfl (f_lt (o := 102) (m := 155) (Nat.le_of_ble_eq_true rfl) hN) rfl ?_
    refine i_getI (pc' := 12) (f_at inc_119 (j := 7) rfl) sh_103 rfl (f_lt (o := 103) (m := 155) (Nat.le_of_ble_eq_true rfl) hN) rfl ?_
    refine i_if2 (pc' := 36) (nx := 15) c2_ge (f_at inc_119 (j := 8) rfl) ⟨by decide, rfl⟩ (fun b6 => ?_) (fun b6 => ?_)
    · exact hx1 s1.1 (.int s1.2)
    · refine i_aload_n (pc' := 16) (f_at inc_119 (j := 9) rfl) rfl rfl ?_
      refine i_iload_n (pc' := 17) (f_at inc_119 (j := 10) rfl) rfl rfl ?_
      refine c_pi (pc' := 20) (c' := 0) (n' := 0) (h_virt (ra := [.int s1.2, .ref 102]) (r := []) (as := [.int s1.2]) (f_at inc_119 (j := 11) rfl) (by decide) MT_82 rfl rfl rfl ⟨Nat.le_of_ble_eq_true rfl, Nat.le_of_ble_eq_true rfl, Nat.le_of_ble_eq_true rfl⟩ sh_102 (f_lt (o := 102) (m := 155) (Nat.le_of_ble_eq_true rfl) hN)) MT_82 (G_106 hN s1.2 σ) ⟨rfl, rfl, rfl⟩ fun t2 => ?_
      refine i_aload_n (pc' := 21) (f_at inc_119 (j := 12) rfl) rfl rfl ?_
      refine i_iload_n (pc' := 22) (f_at inc_119 (j := 13) rfl) rfl rfl ?_
      refine c_pi (pc' := 25) (c' := 0) (n' := 0) (h_virt (ra := [.int s1.1, .ref 102]) (r := [.int t2]) (as := [.int s1.1]) (f_at inc_119 (j := 14) rfl) (by decide) MT_82 rfl rfl rfl ⟨Nat.le_of_ble_eq_true rfl, Nat.le_of_ble_eq_true rfl, Nat.le_of_ble_eq_true rfl⟩ sh_102 (f_lt (o := 102) (m := 155) (Nat.le_of_ble_eq_true rfl) hN)) MT_82 (G_106 hN s1.1 σ) ⟨rfl, rfl, rfl⟩ fun t3 => ?_
      refine s_join (J := 30) (fun (t4 : Int32) (u4 : Unit) => [.ref 102, .int t4, .int s1.2]) (fun t4 => []) (fun t4 => σ) ?_ ?_
      · intro t4 u4
        refine i_iinc (pc' := 33) (ls' := [.ref 102, .int t4, .int (s1.2 + (1 : Int32))]) (f_at inc_119 (j := 18) rfl) rfl ci_1 rfl rfl ?_
        refine i_goto (pc' := 4) (f_at inc_119 (j := 19) rfl) (by decide) ?_
        exact hb1 (t4, (s1.2 + (1 : Int32))) ()
      · intro k4 hj4
        refine i_if2 (pc' := 30) (nx := 28) c2_ge (f_at inc_119 (j := 15) rfl) ⟨by decide, rfl⟩ (fun b5 => ?_) (fun b5 => ?_)
        · exact hj4 s1.1 ()
        · refine i_iload_n (pc' := 29) (f_at inc_119 (j := 16) rfl) rfl rfl ?_
          refine i_istore_n (pc' := 30) (ls' := [.ref 102, .int s1.2, .int s1.2]) (f_at inc_119 (j := 17) rfl) (Nat.le_of_ble_eq_true rfl) rfl rfl ?_
          exact hj4 s1.2 ()
set_option maxRecDepth 4000 in
theorem G_108 {xs : Nat → Int32} {L N : Nat} (hN : 155 ≤ N)   (σ : f_M) : f_Cal a_MT xs L N 120 [.ref 121] σ ((g_108  σ).bind fun t => some (e_wi t)) := by
  refine f_cal_of (ls := [.ref 121]) MT_120 (Nat.le_of_ble_eq_true rfl) rfl ?_
  unfold g_108
  refine i_aload_n (pc' := 1) (f_at inc_120 (j := 0) rfl) rfl rfl ?_
  refine i_getR (pc' := 4) (f_at inc_120 (j := 1) rfl) sh_121 rfl (f_lt (o := 121) (m := 155) (Nat.le_of_ble_eq_true rfl) hN) rfl ?_
  refine i_aload_n (pc' := 5) (f_at inc_120 (j := 2) rfl) rfl rfl ?_
  refine i_getI (pc' := 8) (f_at inc_120 (j := 3) rfl) sh_121 rfl (f_lt (o := 121) (m := 155) (Nat.le_of_ble_eq_true rfl) hN) rfl ?_
  refine i_iconst (pc' := 9) (f_at inc_120 (j := 4) rfl) ci_0 rfl ?_
  refine i_iast (pc' := 10) (f_at inc_120 (j := 5) rfl) sh_124 (f_lt (o := 124) (m := 155) (Nat.le_of_ble_eq_true rfl) hN) rfl fun m1 => ?_
  refine i_aload_n (pc' := 11) (f_at inc_120 (j := 6) rfl) rfl rfl ?_
  refine i_getR (pc' := 14) (f_at inc_120 (j := 7) rfl) sh_121 rfl (f_lt (o := 121) (m := 155) (Nat.le_of_ble_eq_true rfl) hN) rfl ?_
  refine i_aload_n (pc' := 15) (f_at inc_120 (j := 8) rfl) rfl rfl ?_
  refine i_getI (pc' := 18) (f_at inc_120 (j := 9) rfl) sh_121 rfl (f_lt (o := 121) (m := 155) (Nat.le_of_ble_eq_true rfl) hN) rfl ?_
  refine i_iconst (pc' := 19) (f_at inc_120 (j := 10) rfl) ci_0 rfl ?_
  refine i_iast (pc' := 20) (f_at inc_120 (j := 11) rfl) sh_125 (f_lt (o := 125) (m := 155) (Nat.le_of_ble_eq_true rfl) hN) rfl fun m2 => ?_
  refine i_aload_n (pc' := 21) (f_at inc_120 (j := 12) rfl) rfl rfl ?_
  refine i_getR (pc' := 24) (f_at inc_120 (j := 13) rfl) sh_121 rfl (f_lt (o := 121) (m := 155) (Nat.le_of_ble_eq_true rfl) hN) rfl ?_
  refine i_aload_n (pc' := 25) (f_at inc_120 (j := 14) rfl) rfl rfl ?_
  refine i_getI (pc' := 28) (f_at inc_120 (j := 15) rfl) sh_121 rfl (f_lt (o := 121) (m := 155) (Nat.le_of_ble_eq_true rfl) hN) rfl ?_
  refine i_iconst (pc' := 29) (f_at inc_120 (j := 16) rfl) ci_0 rfl ?_
  refine i_iast (pc' := 30) (f_at inc_120 (j := 17) rfl) sh_126 (f_lt (o := 126) (m := 155) (Nat.le_of_ble_eq_true rfl) hN) rfl fun m3 => ?_
  refine i_aload_n (pc' := 31) (f_at inc_120 (j := 18) rfl) rfl rfl ?_
  refine i_dup (pc' := 32) (f_at inc_120 (j := 19) rfl) rfl rfl ?_
  refine i_getI (pc' := 35) (f_at inc_120 (j := 20) rfl) sh_121 rfl (f_lt (o := 121) (m := 155) (Nat.le_of_ble_eq_true rfl) hN) rfl ?_
  refine i_iconst (pc' := 36) (f_at inc_120 (j := 21) rfl) ci_1 rfl ?_
  refine i_iadd (pc' := 37) (f_at inc_120 (j := 22) rfl) rfl ?_
  refine i_putI (pc' := 40) (f_at inc_120 (j := 23) rfl) sh_121 rfl ⟨rfl, rfl⟩ (f_lt (o := 121) (m := 155) (Nat.le_of_ble_eq_true rfl) hN) rfl ?_
  refine i_aload_n (pc' := 41) (f_at inc_120 (j := 24) rfl) rfl rfl ?_
  refine i_getI (pc' := 44) (f_at inc_120 (j := 25) rfl) sh_121 rfl (f_lt (o := 121) (m := 155) (Nat.le_of_ble_eq_true rfl) hN) rfl ?_
  refine i_iconst (pc' := 45) (f_at inc_120 (j := 26) rfl) ci_1 rfl ?_
  refine i_isub (pc' := 46) (f_at inc_120 (j := 27) rfl) rfl ?_
  exact i_iret (f_at inc_120 (j := 28) rfl) rfl n_int
set_option maxRecDepth 4000 in
theorem G_109 {xs : Nat → Int32} {L N : Nat} (hN : 155 ≤ N) (a1 : Int32)  (σ : f_M) : f_Cal a_MT xs L N 121 [.ref 102, .int a1] σ ((g_109 a1 σ).bind fun t => some (e_wi t)) := by
  refine f_cal_of (ls := [.ref 102, .int a1, a_dead, a_dead]) MT_121 (Nat.le_of_ble_eq_true rfl) rfl ?_
  unfold g_109
  refine i_aload_n (pc' := 1) (f_at inc_121 (j := 0) rfl) rfl rfl ?_
  refine c_pi (pc' := 4) (c' := 0) (n' := 0) (h_virt (ra := [.ref 102]) (r := []) (as := []) (f_at inc_121 (j := 1) rfl) (by decide) MT_119 rfl rfl rfl ⟨Nat.le_of_ble_eq_true rfl, Nat.le_of_ble_eq_true rfl, Nat.le_of_ble_eq_true rfl⟩ sh_102 (f_lt (o := 102) (m := 155) (Nat.le_of_ble_eq_true rfl) hN)) MT_119 (G_107 hN  σ) ⟨rfl, rfl, rfl⟩ fun t1 => ?_
  refine i_istore_n (pc' := 5) (ls' := [.ref 102, .int a1, .int t1, a_dead]) (f_at inc_121 (j := 2) rfl) (Nat.le_of_ble_eq_true rfl) rfl rfl ?_
  refine i_aload_n (pc' := 6) (f_at inc_121 (j := 3) rfl) rfl rfl ?_
  refine i_getR (pc' := 9) (f_at inc_121 (j := 4) rfl) sh_102 rfl (f_lt (o := 102) (m := 155) (Nat.le_of_ble_eq_true rfl) hN) rfl ?_
  refine c_wi (pc' := 12) (c' := 0) (n' := 0) (h_virt (ra := [.ref 121]) (r := []) (as := []) (f_at inc_121 (j := 5) rfl) (by decide) MT_120 rfl rfl rfl ⟨Nat.le_of_ble_eq_true rfl, Nat.le_of_ble_eq_true rfl, Nat.le_of_ble_eq_true rfl⟩ sh_121 (f_lt (o := 121) (m := 155) (Nat.le_of_ble_eq_true rfl) hN)) MT_120 (G_108 hN  σ) ⟨rfl, rfl, rfl⟩ fun t2 => ?_
  refine i_istore_n (pc' := 13) (ls' := [.ref 102, .int a1, .int t1, .int t2.1]) (f_at inc_121 (j := 6) rfl) (Nat.le_of_ble_eq_true rfl) rfl rfl ?_
  refine i_aload_n (pc' := 14) (f_at inc_121 (j := 7) rfl) rfl rfl ?_
  refine i_getR (pc' := 17) (f_at inc_121 (j := 8) rfl) sh_102 rfl (f_lt (o := 102) (m := 155) (Nat.le_of_ble_eq_true rfl) hN) rfl ?_
  refine i_getR (pc' := 20) (f_at inc_121 (j := 9) rfl) sh_108 rfl (f_lt (o := 108) (m := 155) (Nat.le_of_ble_eq_true rfl) hN) rfl ?_
  refine i_iload_n (pc' := 21) (f_at inc_121 (j := 10) rfl) rfl rfl ?_
  refine i_iload_n (pc' := 22) (f_at inc_121 (j := 11) rfl) rfl rfl ?_
  refine i_iast (pc' := 23) (f_at inc_121 (j := 12) rfl) sh_119 (f_lt (o := 119) (m := 155) (Nat.le_of_ble_eq_true rfl) hN) rfl fun m3 => ?_
  refine i_aload_n (pc' := 24) (f_at inc_121 (j := 13) rfl) rfl rfl ?_
  refine i_getR (pc' := 27) (f_at inc_121 (j := 14) rfl) sh_102 rfl (f_lt (o := 102) (m := 155) (Nat.le_of_ble_eq_true rfl) hN) rfl ?_
  refine i_getR (pc' := 30) (f_at inc_121 (j := 15) rfl) sh_108 rfl (f_lt (o := 108) (m := 155) (Nat.le_of_ble_eq_true rfl) hN) rfl ?_
  refine i_iload_n (pc' := 31) (f_at inc_121 (j := 16) rfl) rfl rfl ?_
  refine i_iload_n (pc' := 32) (f_at inc_121 (j := 17) rfl) rfl rfl ?_
  refine i_iast (pc' := 33) (f_at inc_121 (j := 18) rfl) sh_120 (f_lt (o := 120) (m := 155) (Nat.le_of_ble_eq_true rfl) hN) rfl fun m4 => ?_
  refine i_iload_n (pc' := 34) (f_at inc_121 (j := 19) rfl) rfl rfl ?_
  exact i_iret (f_at inc_121 (j := 20) rfl) rfl n_int
set_option maxRecDepth 4000 in
def p_331 (a1 : Int32) (σ : f_M) : Option ((Int32 ⊕ Fin 4) × f_M) :=
  (p_196 a1 σ).bind fun _ =>
  (g_105 a1 σ).bind fun t2 =>
  if t2 = 0 then (
   (g_73  σ).bind fun t3 =>
   (g_109 a1 t3).bind fun t4 =>
   some (.inl t4.1, t4.2)
  ) else (
   some (.inr 2, σ)
  )
set_option maxRecDepth 4000 in
theorem P_331 {xs : Nat → Int32} {L N : Nat} (hN : 155 ≤ N) (a1 : Int32)  (σ : f_M) : f_Cal a_MT xs L N 122 [.ref 0, .int a1] σ ((p_331 a1 σ).bind fun t => some (e_xi t)) := by
  refine f_cal_of (ls := [.ref 0, .int a1]) MT_122 (Nat.le_of_ble_eq_true rfl) rfl ?_
  unfold p_331
  refine i_aload_n (pc' := 1) (f_at inc_122 (j := 0) rfl) rfl rfl ?_
  refine i_iload_n (pc' := 2) (f_at inc_122 (j := 1) rfl) rfl rfl ?_
  refine c_pv (pc' := 5) (c' := 1) (n' := 6) (h_virt (ra := [.int a1, .ref 0]) (r := []) (as := [.int a1]) (f_at inc_122 (j := 2) rfl) (by decide) MT_53 rfl rfl rfl ⟨Nat.le_of_ble_eq_true rfl, Nat.le_of_ble_eq_true rfl, Nat.le_of_ble_eq_true rfl⟩ sh_0 (f_lt (o := 0) (m := 155) (Nat.le_of_ble_eq_true rfl) hN)) MT_53 (P_196 hN a1 σ) ⟨rfl, rfl, rfl⟩ ?_
  refine i_aload_n (pc' := 6) (f_at inc_122 (j := 3) rfl) rfl rfl ?_
  refine i_getR (pc' := 9) (f_at inc_122 (j := 4) rfl) sh_0 rfl (f_lt (o := 0) (m := 155) (Nat.le_of_ble_eq_true rfl) hN) rfl ?_
  refine i_iload_n (pc' := 10) (f_at inc_122 (j := 5) rfl) rfl rfl ?_
  refine c_pi (pc' := 13) (c' := 1) (n' := 6) (h_virt (ra := [.int a1, .ref 102]) (r := []) (as := [.int a1]) (f_at inc_122 (j := 6) rfl) (by decide) MT_70 rfl rfl rfl ⟨Nat.le_of_ble_eq_true rfl, Nat.le_of_ble_eq_true rfl, Nat.le_of_ble_eq_true rfl⟩ sh_102 (f_lt (o := 102) (m := 155) (Nat.le_of_ble_eq_true rfl) hN)) MT_70 (G_105 hN a1 σ) ⟨rfl, rfl, rfl⟩ fun t2 => ?_
  refine i_if0 (pc' := 27) (nx := 16) c0_eq (f_at inc_122 (j := 7) rfl) ⟨by decide, rfl⟩ (fun b5 => ?_) (fun b5 => ?_)
  · refine i_aload_n (pc' := 28) (f_at inc_122 (j := 9) rfl) rfl rfl ?_
    refine i_getR (pc' := 31) (f_at inc_122 (j := 10) rfl) sh_0 rfl (f_lt (o := 0) (m := 155) (Nat.le_of_ble_eq_true rfl) hN) rfl ?_
    refine i_aload_n (pc' := 32) (f_at inc_122 (j := 11) rfl) rfl rfl ?_
    refine i_getR (pc' := 35) (f_at inc_122 (j := 12) rfl) sh_0 rfl (f_lt (o := 0) (m := 155) (Nat.le_of_ble_eq_true rfl) hN) rfl ?_
    refine c_wv (pc' := 38) (c' := 1) (n' := 6) (h_virt (ra := [.ref 121, .ref 44]) (r := []) (as := [.ref 121]) (f_at inc_122 (j := 13) rfl) (by decide) MT_107 rfl rfl rfl ⟨Nat.le_of_ble_eq_true rfl, Nat.le_of_ble_eq_true rfl, Nat.le_of_ble_eq_true rfl⟩ sh_44 (f_lt (o := 44) (m := 155) (Nat.le_of_ble_eq_true rfl) hN)) MT_107 (G_73 hN  σ) ⟨rfl, rfl, rfl⟩ fun t3 => ?_
    refine i_aload_n (pc' := 39) (f_at inc_122 (j := 14) rfl) rfl rfl ?_
    refine i_getR (pc' := 42) (f_at inc_122 (j := 15) rfl) sh_0 rfl (f_lt (o := 0) (m := 155) (Nat.le_of_ble_eq_true rfl) hN) rfl ?_
    refine i_iload_n (pc' := 43) (f_at inc_122 (j := 16) rfl) rfl rfl ?_
    refine c_wi (pc' := 46) (c' := 1) (n' := 6) (h_virt (ra := [.int a1, .ref 102]) (r := []) (as := [.int a1]) (f_at inc_122 (j := 17) rfl) (by decide) MT_121 rfl rfl rfl ⟨Nat.le_of_ble_eq_true rfl, Nat.le_of_ble_eq_true rfl, Nat.le_of_ble_eq_true rfl⟩ sh_102 (f_lt (o := 102) (m := 155) (Nat.le_of_ble_eq_true rfl) hN)) MT_121 (G_109 hN a1 t3) ⟨rfl, rfl, rfl⟩ fun t4 => ?_
    exact i_iret (f_at inc_122 (j := 18) rfl) rfl n_int
  · exact i_thrw (a9 := 2) (f_at inc_122 (j := 8) rfl) ⟨rfl, by decide⟩ ⟨rfl, rfl⟩ ⟨Nat.le_of_ble_eq_true rfl, Nat.le_of_ble_eq_true rfl, Nat.le_of_ble_eq_true rfl⟩
set_option maxRecDepth 4000 in
def p_322 (a1 : Int32) (a2 : Int32) (a3 : Int32) (σ : f_M) : Option (Unit) :=
  (p_285 a1 (σ 121 0) (1000 : Int32) σ).bind fun _ =>
  (p_285 a2 (1 : Int32) (24 : Int32) σ).bind fun _ =>
  (p_285 a3 (1 : Int32) (500 : Int32) σ).bind fun _ =>
  some ()
set_option maxRecDepth 4000 in
theorem P_322 {xs : Nat → Int32} {L N : Nat} (hN : 155 ≤ N) (a1 : Int32) (a2 : Int32) (a3 : Int32)  (σ : f_M) : f_Cal a_MT xs L N 123 [.ref 0, .int a1, .int a2, .int a3] σ ((p_322 a1 a2 a3 σ).bind fun t => some (e_pv σ t)) := by
  refine f_cal_of (ls := [.ref 0, .int a1, .int a2, .int a3]) MT_123 (Nat.le_of_ble_eq_true rfl) rfl ?_
  unfold p_322
  refine i_iload_n (pc' := 1) (f_at inc_123 (j := 0) rfl) rfl rfl ?_
  refine i_aload_n (pc' := 2) (f_at inc_123 (j := 1) rfl) rfl rfl ?_
  refine i_getR (pc' := 5) (f_at inc_123 (j := 2) rfl) sh_0 rfl (f_lt (o := 0) (m := 155) (Nat.le_of_ble_eq_true rfl) hN) rfl ?_
  refine i_getI (pc' := 8) (f_at inc_123 (j := 3) rfl) sh_121 rfl (f_lt (o := 121) (m := 155) (Nat.le_of_ble_eq_true rfl) hN) rfl ?_
  refine i_sipush (pc' := 11) (f_at inc_123 (j := 4) rfl) cs_1000 rfl ?_
  refine c_pv (pc' := 14) (c' := 0) (n' := 0) (h_stat (ra := [.int (1000 : Int32), .int (σ 121 0), .int a1]) (r := []) (as := [.int a1, .int (σ 121 0), .int (1000 : Int32)]) (f_at inc_123 (j := 5) rfl) (by decide) MT_104 rfl rfl rfl ⟨Nat.le_of_ble_eq_true rfl, Nat.le_of_ble_eq_true rfl, Nat.le_of_ble_eq_true rfl⟩) MT_104 (P_285 hN a1 (σ 121 0) (1000 : Int32) σ) ⟨rfl, rfl, rfl⟩ ?_
  refine i_iload_n (pc' := 15) (f_at inc_123 (j := 6) rfl) rfl rfl ?_
  refine i_iconst (pc' := 16) (f_at inc_123 (j := 7) rfl) ci_1 rfl ?_
  refine i_bipush (pc' := 18) (f_at inc_123 (j := 8) rfl) cb_24 rfl ?_
  refine c_pv (pc' := 21) (c' := 0) (n' := 0) (h_stat (ra := [.int (24 : Int32), .int (1 : Int32), .int a2]) (r := []) (as := [.int a2, .int (1 : Int32), .int (24 : Int32)]) (f_at inc_123 (j := 9) rfl) (by decide) MT_104 rfl rfl rfl ⟨Nat.le_of_ble_eq_true rfl, Nat.le_of_ble_eq_true rfl, Nat.le_of_ble_eq_true rfl⟩) MT_104 (P_285 hN a2 (1 : Int32) (24 : Int32) σ) ⟨rfl, rfl, rfl⟩ ?_
  refine i_iload_n (pc' := 22) (f_at inc_123 (j := 10) rfl) rfl rfl ?_
  refine i_iconst (pc' := 23) (f_at inc_123 (j := 11) rfl) ci_1 rfl ?_
  refine i_sipush (pc' := 26) (f_at inc_123 (j := 12) rfl) cs_500 rfl ?_
  refine c_pv (pc' := 29) (c' := 0) (n' := 0) (h_stat (ra := [.int (500 : Int32), .int (1 : Int32), .int a3]) (r := []) (as := [.int a3, .int (1 : Int32), .int (500 : Int32)]) (f_at inc_123 (j := 13) rfl) (by decide) MT_104 rfl rfl rfl ⟨Nat.le_of_ble_eq_true rfl, Nat.le_of_ble_eq_true rfl, Nat.le_of_ble_eq_true rfl⟩) MT_104 (P_285 hN a3 (1 : Int32) (500 : Int32) σ) ⟨rfl, rfl, rfl⟩ ?_
  exact i_vret (f_at inc_123 (j := 14) rfl) rfl
set_option maxRecDepth 4000 in
theorem G_96 {xs : Nat → Int32} {L N : Nat} (hN : 155 ≤ N) (a1 : Int32) (a2 : Int32)  (σ : f_M) : f_Cal a_MT xs L N 124 [.ref 102, .int a1, .int a2] σ ((g_96 a1 a2 σ).bind fun t => some (e_pb σ t)) := by
  refine f_cal_of (ls := [.ref 102, .int a1, .int a2]) MT_124 (Nat.le_of_ble_eq_true rfl) rfl ?_
  unfold g_96
  refine i_aload_n (pc' := 1) (f_at inc_124 (j := 0) rfl) rfl rfl ?_
  refine i_getR (pc' := 4) (f_at inc_124 (j := 1) rfl) sh_102 rfl (f_lt (o := 102) (m := 155) (Nat.le_of_ble_eq_true rfl) hN) rfl ?_
  refine i_getI (pc' := 7) (f_at inc_124 (j := 2) rfl) sh_121 rfl (f_lt (o := 121) (m := 155) (Nat.le_of_ble_eq_true rfl) hN) rfl ?_
  refine i_bipush (pc' := 9) (f_at inc_124 (j := 3) rfl) cb_20 rfl ?_
  refine s_join (J := 30) (fun (t1 : Bool) (u1 : Unit) => [.ref 102, .int a1, .int a2]) (fun t1 => [.int (f_b t1)]) (fun t1 => σ) ?_ ?_
  · intro t1 u1
    exact i_iret (v := f_b t1) (f_at inc_124 (j := 15) rfl) rfl n_bool
  · intro k1 hj1
    refine i_if2 (pc' := 29) (nx := 12) c2_ge (f_at inc_124 (j := 4) rfl) ⟨by decide, rfl⟩ (fun b4 => ?_) (fun b4 => ?_)
    · refine i_iconst (pc' := 30) (f_at inc_124 (j := 14) rfl) ci_0 rfl ?_
      exact hj1 false ()
    · refine i_aload_n (pc' := 13) (f_at inc_124 (j := 5) rfl) rfl rfl ?_
      refine i_getR (pc' := 16) (f_at inc_124 (j := 6) rfl) sh_102 rfl (f_lt (o := 102) (m := 155) (Nat.le_of_ble_eq_true rfl) hN) rfl ?_
      refine i_getR (pc' := 19) (f_at inc_124 (j := 7) rfl) sh_121 rfl (f_lt (o := 121) (m := 155) (Nat.le_of_ble_eq_true rfl) hN) rfl ?_
      refine i_iload_n (pc' := 20) (f_at inc_124 (j := 8) rfl) rfl rfl ?_
      refine i_iald (pc' := 21) (f_at inc_124 (j := 9) rfl) sh_122 (f_bg (Nat.le_of_ble_eq_true rfl)) (f_lt (o := 122) (m := 155) (Nat.le_of_ble_eq_true rfl) hN) rfl fun v2 => ?_
      refine i_iload_n (pc' := 22) (f_at inc_124 (j := 10) rfl) rfl rfl ?_
      refine i_if2 (pc' := 29) (nx := 25) c2_lt (f_at inc_124 (j := 11) rfl) ⟨by decide, rfl⟩ (fun b3 => ?_) (fun b3 => ?_)
      · refine i_iconst (pc' := 30) (f_at inc_124 (j := 14) rfl) ci_0 rfl ?_
        exact hj1 false ()
      · refine i_iconst (pc' := 26) (f_at inc_124 (j := 12) rfl) ci_1 rfl ?_
        refine i_goto (pc' := 30) (f_at inc_124 (j := 13) rfl) (by decide) ?_
        exact hj1 true ()
set_option maxRecDepth 4000 in
theorem G_323 {xs : Nat → Int32} {L N : Nat} (hN : 155 ≤ N) (a1 : Int32) (a2 : Int32)  (σ : f_M) : f_Cal a_MT xs L N 125 [.ref 0, .int a1, .int a2] σ ((g_323 a1 a2 σ).bind fun t => some (e_tv σ t)) := by
  refine f_cal_of (ls := [.ref 0, .int a1, .int a2]) MT_125 (Nat.le_of_ble_eq_true rfl) rfl ?_
  unfold g_323
  refine i_aload_n (pc' := 1) (f_at inc_125 (j := 0) rfl) rfl rfl ?_
  refine i_getR (pc' := 4) (f_at inc_125 (j := 1) rfl) sh_0 rfl (f_lt (o := 0) (m := 155) (Nat.le_of_ble_eq_true rfl) hN) rfl ?_
  refine i_iload_n (pc' := 5) (f_at inc_125 (j := 2) rfl) rfl rfl ?_
  refine i_iload_n (pc' := 6) (f_at inc_125 (j := 3) rfl) rfl rfl ?_
  refine c_pb (pc' := 9) (c' := 1) (n' := 6) (h_virt (ra := [.int a2, .int a1, .ref 102]) (r := []) (as := [.int a1, .int a2]) (f_at inc_125 (j := 4) rfl) (by decide) MT_124 rfl rfl rfl ⟨Nat.le_of_ble_eq_true rfl, Nat.le_of_ble_eq_true rfl, Nat.le_of_ble_eq_true rfl⟩ sh_102 (f_lt (o := 102) (m := 155) (Nat.le_of_ble_eq_true rfl) hN)) MT_124 (G_96 hN a1 a2 σ) ⟨rfl, rfl, rfl⟩ fun t1 => ?_
  refine i_if0 (pc' := 23) (nx := 12) cb_ne (f_at inc_125 (j := 5) rfl) ⟨by decide, rfl⟩ (fun b2 => ?_) (fun b2 => ?_)
  · exact i_vret (f_at inc_125 (j := 7) rfl) rfl
  · exact i_thrw (a9 := 2) (f_at inc_125 (j := 6) rfl) ⟨rfl, by decide⟩ ⟨rfl, rfl⟩ ⟨Nat.le_of_ble_eq_true rfl, Nat.le_of_ble_eq_true rfl, Nat.le_of_ble_eq_true rfl⟩
set_option maxRecDepth 4000 in
theorem G_97 {xs : Nat → Int32} {L N : Nat} (hN : 155 ≤ N)   (σ : f_M) : f_Cal a_MT xs L N 126 [.ref 121] σ ((g_97  σ).bind fun t => some (e_wi t)) := by
  refine f_cal_of (ls := [.ref 121]) MT_126 (Nat.le_of_ble_eq_true rfl) rfl ?_
  unfold g_97
  refine i_aload_n (pc' := 1) (f_at inc_126 (j := 0) rfl) rfl rfl ?_
  refine i_getR (pc' := 4) (f_at inc_126 (j := 1) rfl) sh_121 rfl (f_lt (o := 121) (m := 155) (Nat.le_of_ble_eq_true rfl) hN) rfl ?_
  refine i_aload_n (pc' := 5) (f_at inc_126 (j := 2) rfl) rfl rfl ?_
  refine i_getI (pc' := 8) (f_at inc_126 (j := 3) rfl) sh_121 rfl (f_lt (o := 121) (m := 155) (Nat.le_of_ble_eq_true rfl) hN) rfl ?_
  refine i_iconst (pc' := 9) (f_at inc_126 (j := 4) rfl) ci_0 rfl ?_
  refine i_bast (pc' := 10) (f_at inc_126 (j := 5) rfl) sh_123 (Or.inr rfl) (by decide) (f_lt (o := 123) (m := 155) (Nat.le_of_ble_eq_true rfl) hN) rfl fun m1 => ?_
  refine i_aload_n (pc' := 11) (f_at inc_126 (j := 6) rfl) rfl rfl ?_
  refine i_dup (pc' := 12) (f_at inc_126 (j := 7) rfl) rfl rfl ?_
  refine i_getI (pc' := 15) (f_at inc_126 (j := 8) rfl) sh_121 rfl (f_lt (o := 121) (m := 155) (Nat.le_of_ble_eq_true rfl) hN) rfl ?_
  refine i_iconst (pc' := 16) (f_at inc_126 (j := 9) rfl) ci_1 rfl ?_
  refine i_iadd (pc' := 17) (f_at inc_126 (j := 10) rfl) rfl ?_
  refine i_putI (pc' := 20) (f_at inc_126 (j := 11) rfl) sh_121 rfl ⟨rfl, rfl⟩ (f_lt (o := 121) (m := 155) (Nat.le_of_ble_eq_true rfl) hN) rfl ?_
  refine i_aload_n (pc' := 21) (f_at inc_126 (j := 12) rfl) rfl rfl ?_
  refine i_getI (pc' := 24) (f_at inc_126 (j := 13) rfl) sh_121 rfl (f_lt (o := 121) (m := 155) (Nat.le_of_ble_eq_true rfl) hN) rfl ?_
  refine i_iconst (pc' := 25) (f_at inc_126 (j := 14) rfl) ci_1 rfl ?_
  refine i_isub (pc' := 26) (f_at inc_126 (j := 15) rfl) rfl ?_
  exact i_iret (f_at inc_126 (j := 16) rfl) rfl n_int
set_option maxRecDepth 4000 in
theorem G_98 {xs : Nat → Int32} {L N : Nat} (hN : 155 ≤ N) (a1 : Int32) (a2 : Int32) (a3 : Int32) (a4 : Int32) (a5 : Int32)  (σ : f_M) : f_Cal a_MT xs L N 127 [.ref 102, .int a1, .int a2, .int a3, .int a4, .int a5] σ ((g_98 a1 a2 a3 a4 a5 σ).bind fun t => some (e_wi t)) := by
  refine f_cal_of (ls := [.ref 102, .int a1, .int a2, .int a3, .int a4, .int a5]) MT_127 (Nat.le_of_ble_eq_true rfl) rfl ?_
  unfold g_98
  refine i_aload_n (pc' := 1) (f_at inc_127 (j := 0) rfl) rfl rfl ?_
  refine i_getR (pc' := 4) (f_at inc_127 (j := 1) rfl) sh_102 rfl (f_lt (o := 102) (m := 155) (Nat.le_of_ble_eq_true rfl) hN) rfl ?_
  refine i_getR (pc' := 7) (f_at inc_127 (j := 2) rfl) sh_108 rfl (f_lt (o := 108) (m := 155) (Nat.le_of_ble_eq_true rfl) hN) rfl ?_
  refine i_iload_n (pc' := 8) (f_at inc_127 (j := 3) rfl) rfl rfl ?_
  refine i_iload_n (pc' := 9) (f_at inc_127 (j := 4) rfl) rfl rfl ?_
  refine i_iast (pc' := 10) (f_at inc_127 (j := 5) rfl) sh_112 (f_lt (o := 112) (m := 155) (Nat.le_of_ble_eq_true rfl) hN) rfl fun m1 => ?_
  refine i_aload_n (pc' := 11) (f_at inc_127 (j := 6) rfl) rfl rfl ?_
  refine i_getR (pc' := 14) (f_at inc_127 (j := 7) rfl) sh_102 rfl (f_lt (o := 102) (m := 155) (Nat.le_of_ble_eq_true rfl) hN) rfl ?_
  refine i_getR (pc' := 17) (f_at inc_127 (j := 8) rfl) sh_108 rfl (f_lt (o := 108) (m := 155) (Nat.le_of_ble_eq_true rfl) hN) rfl ?_
  refine i_iload_n (pc' := 18) (f_at inc_127 (j := 9) rfl) rfl rfl ?_
  refine i_iload_n (pc' := 19) (f_at inc_127 (j := 10) rfl) rfl rfl ?_
  refine i_iast (pc' := 20) (f_at inc_127 (j := 11) rfl) sh_113 (f_lt (o := 113) (m := 155) (Nat.le_of_ble_eq_true rfl) hN) rfl fun m2 => ?_
  refine i_aload_n (pc' := 21) (f_at inc_127 (j := 12) rfl) rfl rfl ?_
  refine i_getR (pc' := 24) (f_at inc_127 (j := 13) rfl) sh_102 rfl (f_lt (o := 102) (m := 155) (Nat.le_of_ble_eq_true rfl) hN) rfl ?_
  refine i_getR (pc' := 27) (f_at inc_127 (j := 14) rfl) sh_108 rfl (f_lt (o := 108) (m := 155) (Nat.le_of_ble_eq_true rfl) hN) rfl ?_
  refine i_iload_n (pc' := 28) (f_at inc_127 (j := 15) rfl) rfl rfl ?_
  refine i_iload (pc' := 30) (f_at inc_127 (j := 16) rfl) rfl rfl ?_
  refine i_iast (pc' := 31) (f_at inc_127 (j := 17) rfl) sh_114 (f_lt (o := 114) (m := 155) (Nat.le_of_ble_eq_true rfl) hN) rfl fun m3 => ?_
  refine i_aload_n (pc' := 32) (f_at inc_127 (j := 18) rfl) rfl rfl ?_
  refine i_getR (pc' := 35) (f_at inc_127 (j := 19) rfl) sh_102 rfl (f_lt (o := 102) (m := 155) (Nat.le_of_ble_eq_true rfl) hN) rfl ?_
  refine i_getR (pc' := 38) (f_at inc_127 (j := 20) rfl) sh_108 rfl (f_lt (o := 108) (m := 155) (Nat.le_of_ble_eq_true rfl) hN) rfl ?_
  refine i_iload_n (pc' := 39) (f_at inc_127 (j := 21) rfl) rfl rfl ?_
  refine i_iload (pc' := 41) (f_at inc_127 (j := 22) rfl) rfl rfl ?_
  refine i_iast (pc' := 42) (f_at inc_127 (j := 23) rfl) sh_115 (f_lt (o := 115) (m := 155) (Nat.le_of_ble_eq_true rfl) hN) rfl fun m4 => ?_
  refine i_aload_n (pc' := 43) (f_at inc_127 (j := 24) rfl) rfl rfl ?_
  refine i_getR (pc' := 46) (f_at inc_127 (j := 25) rfl) sh_102 rfl (f_lt (o := 102) (m := 155) (Nat.le_of_ble_eq_true rfl) hN) rfl ?_
  refine i_iload_n (pc' := 47) (f_at inc_127 (j := 26) rfl) rfl rfl ?_
  refine i_aload_n (pc' := 48) (f_at inc_127 (j := 27) rfl) rfl rfl ?_
  refine i_getR (pc' := 51) (f_at inc_127 (j := 28) rfl) sh_102 rfl (f_lt (o := 102) (m := 155) (Nat.le_of_ble_eq_true rfl) hN) rfl ?_
  refine i_iload_n (pc' := 52) (f_at inc_127 (j := 29) rfl) rfl rfl ?_
  refine c_pi (pc' := 55) (c' := 0) (n' := 0) (h_virt (ra := [.int a1, .ref 108]) (r := [.int a2, .ref 121]) (as := [.int a1]) (f_at inc_127 (j := 30) rfl) (by decide) MT_56 rfl rfl rfl ⟨Nat.le_of_ble_eq_true rfl, Nat.le_of_ble_eq_true rfl, Nat.le_of_ble_eq_true rfl⟩ sh_108 (f_lt (o := 108) (m := 155) (Nat.le_of_ble_eq_true rfl) hN)) MT_56 (G_79 hN a1 m4) ⟨rfl, rfl, rfl⟩ fun t5 => ?_
  refine c_wv (pc' := 58) (c' := 0) (n' := 0) (h_virt (ra := [.int t5, .int a2, .ref 121]) (r := []) (as := [.int a2, .int t5]) (f_at inc_127 (j := 31) rfl) (by decide) MT_108 rfl rfl rfl ⟨Nat.le_of_ble_eq_true rfl, Nat.le_of_ble_eq_true rfl, Nat.le_of_ble_eq_true rfl⟩ sh_121 (f_lt (o := 121) (m := 155) (Nat.le_of_ble_eq_true rfl) hN)) MT_108 (G_80 hN 121 a2 t5 f_L121 m4) ⟨rfl, rfl, rfl⟩ fun t6 => ?_
  refine i_iload_n (pc' := 59) (f_at inc_127 (j := 32) rfl) rfl rfl ?_
  exact i_iret (f_at inc_127 (j := 33) rfl) rfl n_int
set_option maxRecDepth 4000 in
theorem G_99 {xs : Nat → Int32} {L N : Nat} (hN : 155 ≤ N) (a1 : Int32) (a2 : Int32) (a3 : Int32) (a4 : Int32) (a5 : Int32) (a6 : Int32)  (σ : f_M) : f_Cal a_MT xs L N 128 [.ref 102, .int a1, .int a2, .int a3, .int a4, .int a5, .int a6] σ ((g_99 a1 a2 a3 a4 a5 a6 σ).bind fun t => some (e_wi t)) := by
  refine f_cal_of (ls := [.ref 102, .int a1, .int a2, .int a3, .int a4, .int a5, .int a6, a_dead]) MT_128 (Nat.le_of_ble_eq_true rfl) rfl ?_
  unfold g_99
  refine i_aload_n (pc' := 1) (f_at inc_128 (j := 0) rfl) rfl rfl ?_
  refine i_getR (pc' := 4) (f_at inc_128 (j := 1) rfl) sh_102 rfl (f_lt (o := 102) (m := 155) (Nat.le_of_ble_eq_true rfl) hN) rfl ?_
  refine c_wi (pc' := 7) (c' := 0) (n' := 0) (h_virt (ra := [.ref 121]) (r := []) (as := []) (f_at inc_128 (j := 2) rfl) (by decide) MT_126 rfl rfl rfl ⟨Nat.le_of_ble_eq_true rfl, Nat.le_of_ble_eq_true rfl, Nat.le_of_ble_eq_true rfl⟩ sh_121 (f_lt (o := 121) (m := 155) (Nat.le_of_ble_eq_true rfl) hN)) MT_126 (G_97 hN  σ) ⟨rfl, rfl, rfl⟩ fun t1 => ?_
  refine i_istore (pc' := 9) (ls' := [.ref 102, .int a1, .int a2, .int a3, .int a4, .int a5, .int a6, .int t1.1]) (f_at inc_128 (j := 3) rfl) (Nat.le_of_ble_eq_true rfl) rfl rfl ?_
  refine i_aload_n (pc' := 10) (f_at inc_128 (j := 4) rfl) rfl rfl ?_
  refine i_getR (pc' := 13) (f_at inc_128 (j := 5) rfl) sh_102 rfl (f_lt (o := 102) (m := 155) (Nat.le_of_ble_eq_true rfl) hN) rfl ?_
  refine i_getR (pc' := 16) (f_at inc_128 (j := 6) rfl) sh_108 rfl (f_lt (o := 108) (m := 155) (Nat.le_of_ble_eq_true rfl) hN) rfl ?_
  refine i_iload (pc' := 18) (f_at inc_128 (j := 7) rfl) rfl rfl ?_
  refine i_iconst (pc' := 19) (f_at inc_128 (j := 8) rfl) ci_1 rfl ?_
  refine i_bast (pc' := 20) (f_at inc_128 (j := 9) rfl) sh_111 (Or.inr rfl) (by decide) (f_lt (o := 111) (m := 155) (Nat.le_of_ble_eq_true rfl) hN) rfl fun m2 => ?_
  refine i_aload_n (pc' := 21) (f_at inc_128 (j := 10) rfl) rfl rfl ?_
  refine i_getR (pc' := 24) (f_at inc_128 (j := 11) rfl) sh_102 rfl (f_lt (o := 102) (m := 155) (Nat.le_of_ble_eq_true rfl) hN) rfl ?_
  refine i_getR (pc' := 27) (f_at inc_128 (j := 12) rfl) sh_108 rfl (f_lt (o := 108) (m := 155) (Nat.le_of_ble_eq_true rfl) hN) rfl ?_
  refine i_iload (pc' := 29) (f_at inc_128 (j := 13) rfl) rfl rfl ?_
  refine i_iload (pc' := 31) (f_at inc_128 (j := 14) rfl) rfl rfl ?_
  refine i_iast (pc' := 32) (f_at inc_128 (j := 15) rfl) sh_116 (f_lt (o := 116) (m := 155) (Nat.le_of_ble_eq_true rfl) hN) rfl fun m3 => ?_
  refine i_aload_n (pc' := 33) (f_at inc_128 (j := 16) rfl) rfl rfl ?_
  refine i_getR (pc' := 36) (f_at inc_128 (j := 17) rfl) sh_102 rfl (f_lt (o := 102) (m := 155) (Nat.le_of_ble_eq_true rfl) hN) rfl ?_
  refine i_getR (pc' := 39) (f_at inc_128 (j := 18) rfl) sh_108 rfl (f_lt (o := 108) (m := 155) (Nat.le_of_ble_eq_true rfl) hN) rfl ?_
  refine i_iload (pc' := 41) (f_at inc_128 (j := 19) rfl) rfl rfl ?_
  refine i_iload (pc' := 43) (f_at inc_128 (j := 20) rfl) rfl rfl ?_
  refine i_iast (pc' := 44) (f_at inc_128 (j := 21) rfl) sh_117 (f_lt (o := 117) (m := 155) (Nat.le_of_ble_eq_true rfl) hN) rfl fun m4 => ?_
  refine i_aload_n (pc' := 45) (f_at inc_128 (j := 22) rfl) rfl rfl ?_
  refine i_iload (pc' := 47) (f_at inc_128 (j := 23) rfl) rfl rfl ?_
  refine i_iload_n (pc' := 48) (f_at inc_128 (j := 24) rfl) rfl rfl ?_
  refine i_iload_n (pc' := 49) (f_at inc_128 (j := 25) rfl) rfl rfl ?_
  refine i_iload_n (pc' := 50) (f_at inc_128 (j := 26) rfl) rfl rfl ?_
  refine i_iload (pc' := 52) (f_at inc_128 (j := 27) rfl) rfl rfl ?_
  refine c_wi (pc' := 55) (c' := 0) (n' := 0) (h_virt (ra := [.int a4, .int a3, .int a2, .int a1, .int t1.1, .ref 102]) (r := []) (as := [.int t1.1, .int a1, .int a2, .int a3, .int a4]) (f_at inc_128 (j := 28) rfl) (by decide) MT_127 rfl rfl rfl ⟨Nat.le_of_ble_eq_true rfl, Nat.le_of_ble_eq_true rfl, Nat.le_of_ble_eq_true rfl⟩ sh_102 (f_lt (o := 102) (m := 155) (Nat.le_of_ble_eq_true rfl) hN)) MT_127 (G_98 hN t1.1 a1 a2 a3 a4 m4) ⟨rfl, rfl, rfl⟩ fun t5 => ?_
  exact i_iret (f_at inc_128 (j := 29) rfl) rfl n_int
set_option maxRecDepth 4000 in
def p_324 (a1 : Int32) (a2 : Int32) (a3 : Int32) (a4 : Int32) (a5 : Int32) (a6 : Int32) (σ : f_M) : Option ((Int32 ⊕ Fin 4) × f_M) :=
  (p_172 a1 σ).bind fun _ =>
  (p_322 a2 a3 a4 σ).bind fun _ =>
  (p_285 a5 (0 : Int32) (150 : Int32) σ).bind fun _ =>
  (p_285 a6 a5 (150 : Int32) σ).bind fun _ =>
  (g_77 a3 a4 σ).bind fun t5 =>
  (g_323 a1 t5 σ).bind fun t6 => Sum.elim (fun _ =>
   (g_73  σ).bind fun t7 =>
   (g_99 a1 a2 a3 a4 a5 a6 t7).bind fun t8 =>
   some (.inl t8.1, t8.2)
  ) (fun k6 => some (.inr k6, σ)) t6
set_option maxRecDepth 4000 in
theorem P_324 {xs : Nat → Int32} {L N : Nat} (hN : 155 ≤ N) (a1 : Int32) (a2 : Int32) (a3 : Int32) (a4 : Int32) (a5 : Int32) (a6 : Int32)  (σ : f_M) : f_Cal a_MT xs L N 129 [.ref 0, .int a1, .int a2, .int a3, .int a4, .int a5, .int a6] σ ((p_324 a1 a2 a3 a4 a5 a6 σ).bind fun t => some (e_xi t)) := by
  refine f_cal_of (ls := [.ref 0, .int a1, .int a2, .int a3, .int a4, .int a5, .int a6]) MT_129 (Nat.le_of_ble_eq_true rfl) rfl ?_
  unfold p_324
  refine i_aload_n (pc' := 1) (f_at inc_129 (j := 0) rfl) rfl rfl ?_
  refine i_iload_n (pc' := 2) (f_at inc_129 (j := 1) rfl) rfl rfl ?_
  refine c_pv (pc' := 5) (c' := 1) (n' := 6) (h_virt (ra := [.int a1, .ref 0]) (r := []) (as := [.int a1]) (f_at inc_129 (j := 2) rfl) (by decide) MT_51 rfl rfl rfl ⟨Nat.le_of_ble_eq_true rfl, Nat.le_of_ble_eq_true rfl, Nat.le_of_ble_eq_true rfl⟩ sh_0 (f_lt (o := 0) (m := 155) (Nat.le_of_ble_eq_true rfl) hN)) MT_51 (P_172 hN a1 σ) ⟨rfl, rfl, rfl⟩ ?_
  refine i_aload_n (pc' := 6) (f_at inc_129 (j := 3) rfl) rfl rfl ?_
  refine i_iload_n (pc' := 7) (f_at inc_129 (j := 4) rfl) rfl rfl ?_
  refine i_iload_n (pc' := 8) (f_at inc_129 (j := 5) rfl) rfl rfl ?_
  refine i_iload (pc' := 10) (f_at inc_129 (j := 6) rfl) rfl rfl ?_
  refine c_pv (pc' := 13) (c' := 1) (n' := 6) (h_virt (ra := [.int a4, .int a3, .int a2, .ref 0]) (r := []) (as := [.int a2, .int a3, .int a4]) (f_at inc_129 (j := 7) rfl) (by decide) MT_123 rfl rfl rfl ⟨Nat.le_of_ble_eq_true rfl, Nat.le_of_ble_eq_true rfl, Nat.le_of_ble_eq_true rfl⟩ sh_0 (f_lt (o := 0) (m := 155) (Nat.le_of_ble_eq_true rfl) hN)) MT_123 (P_322 hN a2 a3 a4 σ) ⟨rfl, rfl, rfl⟩ ?_
  refine i_iload (pc' := 15) (f_at inc_129 (j := 8) rfl) rfl rfl ?_
  refine i_iconst (pc' := 16) (f_at inc_129 (j := 9) rfl) ci_0 rfl ?_
  refine i_sipush (pc' := 19) (f_at inc_129 (j := 10) rfl) cs_150 rfl ?_
  refine c_pv (pc' := 22) (c' := 1) (n' := 6) (h_stat (ra := [.int (150 : Int32), .int (0 : Int32), .int a5]) (r := []) (as := [.int a5, .int (0 : Int32), .int (150 : Int32)]) (f_at inc_129 (j := 11) rfl) (by decide) MT_104 rfl rfl rfl ⟨Nat.le_of_ble_eq_true rfl, Nat.le_of_ble_eq_true rfl, Nat.le_of_ble_eq_true rfl⟩) MT_104 (P_285 hN a5 (0 : Int32) (150 : Int32) σ) ⟨rfl, rfl, rfl⟩ ?_
  refine i_iload (pc' := 24) (f_at inc_129 (j := 12) rfl) rfl rfl ?_
  refine i_iload (pc' := 26) (f_at inc_129 (j := 13) rfl) rfl rfl ?_
  refine i_sipush (pc' := 29) (f_at inc_129 (j := 14) rfl) cs_150 rfl ?_
  refine c_pv (pc' := 32) (c' := 1) (n' := 6) (h_stat (ra := [.int (150 : Int32), .int a5, .int a6]) (r := []) (as := [.int a6, .int a5, .int (150 : Int32)]) (f_at inc_129 (j := 15) rfl) (by decide) MT_104 rfl rfl rfl ⟨Nat.le_of_ble_eq_true rfl, Nat.le_of_ble_eq_true rfl, Nat.le_of_ble_eq_true rfl⟩) MT_104 (P_285 hN a6 a5 (150 : Int32) σ) ⟨rfl, rfl, rfl⟩ ?_
  refine i_aload_n (pc' := 33) (f_at inc_129 (j := 16) rfl) rfl rfl ?_
  refine i_iload_n (pc' := 34) (f_at inc_129 (j := 17) rfl) rfl rfl ?_
  refine i_iload_n (pc' := 35) (f_at inc_129 (j := 18) rfl) rfl rfl ?_
  refine i_iload (pc' := 37) (f_at inc_129 (j := 19) rfl) rfl rfl ?_
  refine c_pi (pc' := 40) (c' := 1) (n' := 6) (h_stat (ra := [.int a4, .int a3]) (r := [.int a1, .ref 0]) (as := [.int a3, .int a4]) (f_at inc_129 (j := 20) rfl) (by decide) MT_54 rfl rfl rfl ⟨Nat.le_of_ble_eq_true rfl, Nat.le_of_ble_eq_true rfl, Nat.le_of_ble_eq_true rfl⟩) MT_54 (G_77 hN a3 a4 σ) ⟨rfl, rfl, rfl⟩ fun t5 => ?_
  refine c_tv (pc' := 43) (c' := 0) (n' := 0) (h_virt (ra := [.int t5, .int a1, .ref 0]) (r := []) (as := [.int a1, .int t5]) (f_at inc_129 (j := 21) rfl) (by decide) MT_125 rfl rfl rfl ⟨Nat.le_of_ble_eq_true rfl, Nat.le_of_ble_eq_true rfl, Nat.le_of_ble_eq_true rfl⟩ sh_0 (f_lt (o := 0) (m := 155) (Nat.le_of_ble_eq_true rfl) hN)) MT_125 (G_323 hN a1 t5 σ) ⟨rfl, rfl, rfl⟩ (fun k w h => x_thr ⟨rfl, rfl⟩ h) ?_
  refine i_aload_n (pc' := 44) (f_at inc_129 (j := 22) rfl) rfl rfl ?_
  refine i_getR (pc' := 47) (f_at inc_129 (j := 23) rfl) sh_0 rfl (f_lt (o := 0) (m := 155) (Nat.le_of_ble_eq_true rfl) hN) rfl ?_
  refine i_aload_n (pc' := 48) (f_at inc_129 (j := 24) rfl) rfl rfl ?_
  refine i_getR (pc' := 51) (f_at inc_129 (j := 25) rfl) sh_0 rfl (f_lt (o := 0) (m := 155) (Nat.le_of_ble_eq_true rfl) hN) rfl ?_
  refine c_wv (pc' := 54) (c' := 0) (n' := 0) (h_virt (ra := [.ref 121, .ref 44]) (r := []) (as := [.ref 121]) (f_at inc_129 (j := 26) rfl) (by decide) MT_107 rfl rfl rfl ⟨Nat.le_of_ble_eq_true rfl, Nat.le_of_ble_eq_true rfl, Nat.le_of_ble_eq_true rfl⟩ sh_44 (f_lt (o := 44) (m := 155) (Nat.le_of_ble_eq_true rfl) hN)) MT_107 (G_73 hN  σ) ⟨rfl, rfl, rfl⟩ fun t7 => ?_
  refine i_aload_n (pc' := 55) (f_at inc_129 (j := 27) rfl) rfl rfl ?_
  refine i_getR (pc' := 58) (f_at inc_129 (j := 28) rfl) sh_0 rfl (f_lt (o := 0) (m := 155) (Nat.le_of_ble_eq_true rfl) hN) rfl ?_
  refine i_iload_n (pc' := 59) (f_at inc_129 (j := 29) rfl) rfl rfl ?_
  refine i_iload_n (pc' := 60) (f_at inc_129 (j := 30) rfl) rfl rfl ?_
  refine i_iload_n (pc' := 61) (f_at inc_129 (j := 31) rfl) rfl rfl ?_
  refine i_iload (pc' := 63) (f_at inc_129 (j := 32) rfl) rfl rfl ?_
  refine i_iload (pc' := 65) (f_at inc_129 (j := 33) rfl) rfl rfl ?_
  refine i_iload (pc' := 67) (f_at inc_129 (j := 34) rfl) rfl rfl ?_
  refine c_wi (pc' := 70) (c' := 0) (n' := 0) (h_virt (ra := [.int a6, .int a5, .int a4, .int a3, .int a2, .int a1, .ref 102]) (r := []) (as := [.int a1, .int a2, .int a3, .int a4, .int a5, .int a6]) (f_at inc_129 (j := 35) rfl) (by decide) MT_128 rfl rfl rfl ⟨Nat.le_of_ble_eq_true rfl, Nat.le_of_ble_eq_true rfl, Nat.le_of_ble_eq_true rfl⟩ sh_102 (f_lt (o := 102) (m := 155) (Nat.le_of_ble_eq_true rfl) hN)) MT_128 (G_99 hN a1 a2 a3 a4 a5 a6 t7) ⟨rfl, rfl, rfl⟩ fun t8 => ?_
  exact i_iret (f_at inc_129 (j := 36) rfl) rfl n_int
set_option maxRecDepth 4000 in
theorem G_101 {xs : Nat → Int32} {L N : Nat} (hN : 155 ≤ N) (a1 : Int32) (a2 : Int32) (a3 : Int32) (a4 : Int32) (a5 : Int32)  (σ : f_M) : f_Cal a_MT xs L N 130 [.ref 102, .int a1, .int a2, .int a3, .int a4, .int a5] σ ((g_101 a1 a2 a3 a4 a5 σ).bind fun t => some (e_wi t)) := by
  refine f_cal_of (ls := [.ref 102, .int a1, .int a2, .int a3, .int a4, .int a5, a_dead]) MT_130 (Nat.le_of_ble_eq_true rfl) rfl ?_
  unfold g_101
  refine i_aload_n (pc' := 1) (f_at inc_130 (j := 0) rfl) rfl rfl ?_
  refine i_getR (pc' := 4) (f_at inc_130 (j := 1) rfl) sh_102 rfl (f_lt (o := 102) (m := 155) (Nat.le_of_ble_eq_true rfl) hN) rfl ?_
  refine c_wi (pc' := 7) (c' := 0) (n' := 0) (h_virt (ra := [.ref 121]) (r := []) (as := []) (f_at inc_130 (j := 2) rfl) (by decide) MT_126 rfl rfl rfl ⟨Nat.le_of_ble_eq_true rfl, Nat.le_of_ble_eq_true rfl, Nat.le_of_ble_eq_true rfl⟩ sh_121 (f_lt (o := 121) (m := 155) (Nat.le_of_ble_eq_true rfl) hN)) MT_126 (G_97 hN  σ) ⟨rfl, rfl, rfl⟩ fun t1 => ?_
  refine i_istore (pc' := 9) (ls' := [.ref 102, .int a1, .int a2, .int a3, .int a4, .int a5, .int t1.1]) (f_at inc_130 (j := 3) rfl) (Nat.le_of_ble_eq_true rfl) rfl rfl ?_
  refine i_aload_n (pc' := 10) (f_at inc_130 (j := 4) rfl) rfl rfl ?_
  refine i_getR (pc' := 13) (f_at inc_130 (j := 5) rfl) sh_102 rfl (f_lt (o := 102) (m := 155) (Nat.le_of_ble_eq_true rfl) hN) rfl ?_
  refine i_getR (pc' := 16) (f_at inc_130 (j := 6) rfl) sh_108 rfl (f_lt (o := 108) (m := 155) (Nat.le_of_ble_eq_true rfl) hN) rfl ?_
  refine i_iload (pc' := 18) (f_at inc_130 (j := 7) rfl) rfl rfl ?_
  refine i_iconst (pc' := 19) (f_at inc_130 (j := 8) rfl) ci_0 rfl ?_
  refine i_bast (pc' := 20) (f_at inc_130 (j := 9) rfl) sh_111 (Or.inr rfl) (by decide) (f_lt (o := 111) (m := 155) (Nat.le_of_ble_eq_true rfl) hN) rfl fun m2 => ?_
  refine i_aload_n (pc' := 21) (f_at inc_130 (j := 10) rfl) rfl rfl ?_
  refine i_getR (pc' := 24) (f_at inc_130 (j := 11) rfl) sh_102 rfl (f_lt (o := 102) (m := 155) (Nat.le_of_ble_eq_true rfl) hN) rfl ?_
  refine i_getR (pc' := 27) (f_at inc_130 (j := 12) rfl) sh_108 rfl (f_lt (o := 108) (m := 155) (Nat.le_of_ble_eq_true rfl) hN) rfl ?_
  refine i_iload (pc' := 29) (f_at inc_130 (j := 13) rfl) rfl rfl ?_
  refine i_iload (pc' := 31) (f_at inc_130 (j := 14) rfl) rfl rfl ?_
  refine i_iast (pc' := 32) (f_at inc_130 (j := 15) rfl) sh_118 (f_lt (o := 118) (m := 155) (Nat.le_of_ble_eq_true rfl) hN) rfl fun m3 => ?_
  refine i_aload_n (pc' := 33) (f_at inc_130 (j := 16) rfl) rfl rfl ?_
  refine i_iload (pc' := 35) (f_at inc_130 (j := 17) rfl) rfl rfl ?_
  refine i_iload_n (pc' := 36) (f_at inc_130 (j := 18) rfl) rfl rfl ?_
  refine i_iload_n (pc' := 37) (f_at inc_130 (j := 19) rfl) rfl rfl ?_
  refine i_iload_n (pc' := 38) (f_at inc_130 (j := 20) rfl) rfl rfl ?_
  refine i_iload (pc' := 40) (f_at inc_130 (j := 21) rfl) rfl rfl ?_
  refine c_wi (pc' := 43) (c' := 0) (n' := 0) (h_virt (ra := [.int a4, .int a3, .int a2, .int a1, .int t1.1, .ref 102]) (r := []) (as := [.int t1.1, .int a1, .int a2, .int a3, .int a4]) (f_at inc_130 (j := 22) rfl) (by decide) MT_127 rfl rfl rfl ⟨Nat.le_of_ble_eq_true rfl, Nat.le_of_ble_eq_true rfl, Nat.le_of_ble_eq_true rfl⟩ sh_102 (f_lt (o := 102) (m := 155) (Nat.le_of_ble_eq_true rfl) hN)) MT_127 (G_98 hN t1.1 a1 a2 a3 a4 m3) ⟨rfl, rfl, rfl⟩ fun t4 => ?_
  exact i_iret (f_at inc_130 (j := 23) rfl) rfl n_int
set_option maxRecDepth 4000 in
def p_328 (a1 : Int32) (a2 : Int32) (a3 : Int32) (a4 : Int32) (a5 : Int32) (σ : f_M) : Option ((Int32 ⊕ Fin 4) × f_M) :=
  (p_172 a1 σ).bind fun _ =>
  (p_322 a2 a3 a4 σ).bind fun _ =>
  (p_285 a5 (0 : Int32) (50 : Int32) σ).bind fun _ =>
  (g_78 a3 a4 a5 σ).bind fun t4 =>
  (g_323 a1 t4 σ).bind fun t5 => Sum.elim (fun _ =>
   (g_73  σ).bind fun t6 =>
   (g_101 a1 a2 a3 a4 a5 t6).bind fun t7 =>
   some (.inl t7.1, t7.2)
  ) (fun k5 => some (.inr k5, σ)) t5
set_option maxRecDepth 4000 in
theorem P_328 {xs : Nat → Int32} {L N : Nat} (hN : 155 ≤ N) (a1 : Int32) (a2 : Int32) (a3 : Int32) (a4 : Int32) (a5 : Int32)  (σ : f_M) : f_Cal a_MT xs L N 131 [.ref 0, .int a1, .int a2, .int a3, .int a4, .int a5] σ ((p_328 a1 a2 a3 a4 a5 σ).bind fun t => some (e_xi t)) := by
  refine f_cal_of (ls := [.ref 0, .int a1, .int a2, .int a3, .int a4, .int a5]) MT_131 (Nat.le_of_ble_eq_true rfl) rfl ?_
  unfold p_328
  refine i_aload_n (pc' := 1) (f_at inc_131 (j := 0) rfl) rfl rfl ?_
  refine i_iload_n (pc' := 2) (f_at inc_131 (j := 1) rfl) rfl rfl ?_
  refine c_pv (pc' := 5) (c' := 1) (n' := 6) (h_virt (ra := [.int a1, .ref 0]) (r := []) (as := [.int a1]) (f_at inc_131 (j := 2) rfl) (by decide) MT_51 rfl rfl rfl ⟨Nat.le_of_ble_eq_true rfl, Nat.le_of_ble_eq_true rfl, Nat.le_of_ble_eq_true rfl⟩ sh_0 (f_lt (o := 0) (m := 155) (Nat.le_of_ble_eq_true rfl) hN)) MT_51 (P_172 hN a1 σ) ⟨rfl, rfl, rfl⟩ ?_
  refine i_aload_n (pc' := 6) (f_at inc_131 (j := 3) rfl) rfl rfl ?_
  refine i_iload_n (pc' := 7) (f_at inc_131 (j := 4) rfl) rfl rfl ?_
  refine i_iload_n (pc' := 8) (f_at inc_131 (j := 5) rfl) rfl rfl ?_
  refine i_iload (pc' := 10) (f_at inc_131 (j := 6) rfl) rfl rfl ?_
  refine c_pv (pc' := 13) (c' := 1) (n' := 6) (h_virt (ra := [.int a4, .int a3, .int a2, .ref 0]) (r := []) (as := [.int a2, .int a3, .int a4]) (f_at inc_131 (j := 7) rfl) (by decide) MT_123 rfl rfl rfl ⟨Nat.le_of_ble_eq_true rfl, Nat.le_of_ble_eq_true rfl, Nat.le_of_ble_eq_true rfl⟩ sh_0 (f_lt (o := 0) (m := 155) (Nat.le_of_ble_eq_true rfl) hN)) MT_123 (P_322 hN a2 a3 a4 σ) ⟨rfl, rfl, rfl⟩ ?_
  refine i_iload (pc' := 15) (f_at inc_131 (j := 8) rfl) rfl rfl ?_
  refine i_iconst (pc' := 16) (f_at inc_131 (j := 9) rfl) ci_0 rfl ?_
  refine i_bipush (pc' := 18) (f_at inc_131 (j := 10) rfl) cb_50 rfl ?_
  refine c_pv (pc' := 21) (c' := 1) (n' := 6) (h_stat (ra := [.int (50 : Int32), .int (0 : Int32), .int a5]) (r := []) (as := [.int a5, .int (0 : Int32), .int (50 : Int32)]) (f_at inc_131 (j := 11) rfl) (by decide) MT_104 rfl rfl rfl ⟨Nat.le_of_ble_eq_true rfl, Nat.le_of_ble_eq_true rfl, Nat.le_of_ble_eq_true rfl⟩) MT_104 (P_285 hN a5 (0 : Int32) (50 : Int32) σ) ⟨rfl, rfl, rfl⟩ ?_
  refine i_aload_n (pc' := 22) (f_at inc_131 (j := 12) rfl) rfl rfl ?_
  refine i_iload_n (pc' := 23) (f_at inc_131 (j := 13) rfl) rfl rfl ?_
  refine i_iload_n (pc' := 24) (f_at inc_131 (j := 14) rfl) rfl rfl ?_
  refine i_iload (pc' := 26) (f_at inc_131 (j := 15) rfl) rfl rfl ?_
  refine i_iload (pc' := 28) (f_at inc_131 (j := 16) rfl) rfl rfl ?_
  refine c_pi (pc' := 31) (c' := 1) (n' := 6) (h_stat (ra := [.int a5, .int a4, .int a3]) (r := [.int a1, .ref 0]) (as := [.int a3, .int a4, .int a5]) (f_at inc_131 (j := 17) rfl) (by decide) MT_55 rfl rfl rfl ⟨Nat.le_of_ble_eq_true rfl, Nat.le_of_ble_eq_true rfl, Nat.le_of_ble_eq_true rfl⟩) MT_55 (G_78 hN a3 a4 a5 σ) ⟨rfl, rfl, rfl⟩ fun t4 => ?_
  refine c_tv (pc' := 34) (c' := 0) (n' := 0) (h_virt (ra := [.int t4, .int a1, .ref 0]) (r := []) (as := [.int a1, .int t4]) (f_at inc_131 (j := 18) rfl) (by decide) MT_125 rfl rfl rfl ⟨Nat.le_of_ble_eq_true rfl, Nat.le_of_ble_eq_true rfl, Nat.le_of_ble_eq_true rfl⟩ sh_0 (f_lt (o := 0) (m := 155) (Nat.le_of_ble_eq_true rfl) hN)) MT_125 (G_323 hN a1 t4 σ) ⟨rfl, rfl, rfl⟩ (fun k w h => x_thr ⟨rfl, rfl⟩ h) ?_
  refine i_aload_n (pc' := 35) (f_at inc_131 (j := 19) rfl) rfl rfl ?_
  refine i_getR (pc' := 38) (f_at inc_131 (j := 20) rfl) sh_0 rfl (f_lt (o := 0) (m := 155) (Nat.le_of_ble_eq_true rfl) hN) rfl ?_
  refine i_aload_n (pc' := 39) (f_at inc_131 (j := 21) rfl) rfl rfl ?_
  refine i_getR (pc' := 42) (f_at inc_131 (j := 22) rfl) sh_0 rfl (f_lt (o := 0) (m := 155) (Nat.le_of_ble_eq_true rfl) hN) rfl ?_
  refine c_wv (pc' := 45) (c' := 0) (n' := 0) (h_virt (ra := [.ref 121, .ref 44]) (r := []) (as := [.ref 121]) (f_at inc_131 (j := 23) rfl) (by decide) MT_107 rfl rfl rfl ⟨Nat.le_of_ble_eq_true rfl, Nat.le_of_ble_eq_true rfl, Nat.le_of_ble_eq_true rfl⟩ sh_44 (f_lt (o := 44) (m := 155) (Nat.le_of_ble_eq_true rfl) hN)) MT_107 (G_73 hN  σ) ⟨rfl, rfl, rfl⟩ fun t6 => ?_
  refine i_aload_n (pc' := 46) (f_at inc_131 (j := 24) rfl) rfl rfl ?_
  refine i_getR (pc' := 49) (f_at inc_131 (j := 25) rfl) sh_0 rfl (f_lt (o := 0) (m := 155) (Nat.le_of_ble_eq_true rfl) hN) rfl ?_
  refine i_iload_n (pc' := 50) (f_at inc_131 (j := 26) rfl) rfl rfl ?_
  refine i_iload_n (pc' := 51) (f_at inc_131 (j := 27) rfl) rfl rfl ?_
  refine i_iload_n (pc' := 52) (f_at inc_131 (j := 28) rfl) rfl rfl ?_
  refine i_iload (pc' := 54) (f_at inc_131 (j := 29) rfl) rfl rfl ?_
  refine i_iload (pc' := 56) (f_at inc_131 (j := 30) rfl) rfl rfl ?_
  refine c_wi (pc' := 59) (c' := 0) (n' := 0) (h_virt (ra := [.int a5, .int a4, .int a3, .int a2, .int a1, .ref 102]) (r := []) (as := [.int a1, .int a2, .int a3, .int a4, .int a5]) (f_at inc_131 (j := 31) rfl) (by decide) MT_130 rfl rfl rfl ⟨Nat.le_of_ble_eq_true rfl, Nat.le_of_ble_eq_true rfl, Nat.le_of_ble_eq_true rfl⟩ sh_102 (f_lt (o := 102) (m := 155) (Nat.le_of_ble_eq_true rfl) hN)) MT_130 (G_101 hN a1 a2 a3 a4 a5 t6) ⟨rfl, rfl, rfl⟩ fun t7 => ?_
  exact i_iret (f_at inc_131 (j := 32) rfl) rfl n_int
set_option maxRecDepth 4000 in
def l_isRefused (a1 : Int32) (a2 : Int32) (a3 : Int32) (a4 : Int32) (a5 : Int32) (a6 : Int32) (σ : f_M) : Option (Bool × f_M) :=
  if ¬ a1 = 0 then (
   if ¬ a1 = (1 : Int32) then (
    (p_328 a2 a3 a4 a5 a6 σ).bind (f_xe (fun v1 m1 =>
     some (false, m1)
    ) (fun k1 m1 => (f_hc [(2, 1)] k1).bind fun v => some (v == 1, m1)))
   ) else (
    (p_324 a2 a3 a4 a5 a6 (150 : Int32) σ).bind (f_xe (fun v2 m2 =>
     some (false, m2)
    ) (fun k2 m2 => (f_hc [(2, 1)] k2).bind fun v => some (v == 1, m2)))
   )
  ) else (
   (p_331 a2 σ).bind (f_xe (fun v4 m4 =>
    some (false, m4)
   ) (fun k4 m4 => (f_hc [(2, 1)] k4).bind fun v => some (v == 1, m4)))
  )
set_option maxRecDepth 4000 in
theorem L_isRefused {xs : Nat → Int32} {L N : Nat} (hN : 181 ≤ N) (a1 : Int32) (a2 : Int32) (a3 : Int32) (a4 : Int32) (a5 : Int32) (a6 : Int32)  (σ : f_M) : f_Cal a_MT xs L N 132 [.ref 0, .int a1, .int a2, .int a3, .int a4, .int a5, .int a6] σ ((l_isRefused a1 a2 a3 a4 a5 a6 σ).bind fun t => some (e_wb t)) := by
  refine f_cal_of (ls := [.ref 0, .int a1, .int a2, .int a3, .int a4, .int a5, .int a6, a_dead]) MT_132 (Nat.le_of_ble_eq_true rfl) rfl ?_
  unfold l_isRefused
  refine i_iload_n (pc' := 1) (f_at inc_132 (j := 0) rfl) rfl rfl ?_
  refine i_if0 (pc' := 12) (nx := 4) c0_ne (f_at inc_132 (j := 1) rfl) ⟨by decide, rfl⟩ (fun b5 => ?_) (fun b5 => ?_)
  · refine i_iload_n (pc' := 13) (f_at inc_132 (j := 6) rfl) rfl rfl ?_
    refine i_iconst (pc' := 14) (f_at inc_132 (j := 7) rfl) ci_1 rfl ?_
    refine i_if2 (pc' := 35) (nx := 17) c2_ne (f_at inc_132 (j := 8) rfl) ⟨by decide, rfl⟩ (fun b3 => ?_) (fun b3 => ?_)
    · refine i_aload_n (pc' := 36) (f_at inc_132 (j := 18) rfl) rfl rfl ?_
      refine i_iload_n (pc' := 37) (f_at inc_132 (j := 19) rfl) rfl rfl ?_
      refine i_iload_n (pc' := 38) (f_at inc_132 (j := 20) rfl) rfl rfl ?_
      refine i_iload (pc' := 40) (f_at inc_132 (j := 21) rfl) rfl rfl ?_
      refine i_iload (pc' := 42) (f_at inc_132 (j := 22) rfl) rfl rfl ?_
      refine i_iload (pc' := 44) (f_at inc_132 (j := 23) rfl) rfl rfl ?_
      refine c_xi (pc' := 47) (c' := 0) (n' := 0) (h_virt (ra := [.int a6, .int a5, .int a4, .int a3, .int a2, .ref 0]) (r := []) (as := [.int a2, .int a3, .int a4, .int a5, .int a6]) (f_at inc_132 (j := 24) rfl) (by decide) MT_131 rfl rfl rfl ⟨Nat.le_of_ble_eq_true rfl, Nat.le_of_ble_eq_true rfl, Nat.le_of_ble_eq_true rfl⟩ sh_0 (f_lt (o := 0) (m := 181) (Nat.le_of_ble_eq_true rfl) hN)) MT_131 (P_328 (Nat.le_trans (Nat.le_of_ble_eq_true rfl) hN) a2 a3 a4 a5 a6 σ) ⟨rfl, rfl, rfl⟩ (fun k s w h => x_hdlb (l := [(2, 1)]) (by decide +kernel) (by decide +kernel) h) fun v1 m1 => ?_
      refine i_istore (pc' := 49) (ls' := [.ref 0, .int a1, .int a2, .int a3, .int a4, .int a5, .int a6, .int v1]) (f_at inc_132 (j := 25) rfl) (Nat.le_of_ble_eq_true rfl) rfl rfl ?_
      refine i_iconst (pc' := 50) (f_at inc_132 (j := 26) rfl) ci_0 rfl ?_
      exact i_iret (v := f_b false) (f_at inc_132 (j := 27) rfl) rfl n_bool
    · refine i_aload_n (pc' := 18) (f_at inc_132 (j := 9) rfl) rfl rfl ?_
      refine i_iload_n (pc' := 19) (f_at inc_132 (j := 10) rfl) rfl rfl ?_
      refine i_iload_n (pc' := 20) (f_at inc_132 (j := 11) rfl) rfl rfl ?_
      refine i_iload (pc' := 22) (f_at inc_132 (j := 12) rfl) rfl rfl ?_
      refine i_iload (pc' := 24) (f_at inc_132 (j := 13) rfl) rfl rfl ?_
      refine i_iload (pc' := 26) (f_at inc_132 (j := 14) rfl) rfl rfl ?_
      refine i_sipush (pc' := 29) (f_at inc_132 (j := 15) rfl) cs_150 rfl ?_
      refine c_xi (pc' := 32) (c' := 0) (n' := 0) (h_virt (ra := [.int (150 : Int32), .int a6, .int a5, .int a4, .int a3, .int a2, .ref 0]) (r := []) (as := [.int a2, .int a3, .int a4, .int a5, .int a6, .int (150 : Int32)]) (f_at inc_132 (j := 16) rfl) (by decide) MT_129 rfl rfl rfl ⟨Nat.le_of_ble_eq_true rfl, Nat.le_of_ble_eq_true rfl, Nat.le_of_ble_eq_true rfl⟩ sh_0 (f_lt (o := 0) (m := 181) (Nat.le_of_ble_eq_true rfl) hN)) MT_129 (P_324 (Nat.le_trans (Nat.le_of_ble_eq_true rfl) hN) a2 a3 a4 a5 a6 (150 : Int32) σ) ⟨rfl, rfl, rfl⟩ (fun k s w h => x_hdlb (l := [(2, 1)]) (by decide +kernel) (by decide +kernel) h) fun v2 m2 => ?_
      refine i_goto (pc' := 47) (f_at inc_132 (j := 17) rfl) (by decide) ?_
      refine i_istore (pc' := 49) (ls' := [.ref 0, .int a1, .int a2, .int a3, .int a4, .int a5, .int a6, .int v2]) (f_at inc_132 (j := 25) rfl) (Nat.le_of_ble_eq_true rfl) rfl rfl ?_
      refine i_iconst (pc' := 50) (f_at inc_132 (j := 26) rfl) ci_0 rfl ?_
      exact i_iret (v := f_b false) (f_at inc_132 (j := 27) rfl) rfl n_bool
  · refine i_aload_n (pc' := 5) (f_at inc_132 (j := 2) rfl) rfl rfl ?_
    refine i_iload_n (pc' := 6) (f_at inc_132 (j := 3) rfl) rfl rfl ?_
    refine c_xi (pc' := 9) (c' := 0) (n' := 0) (h_virt (ra := [.int a2, .ref 0]) (r := []) (as := [.int a2]) (f_at inc_132 (j := 4) rfl) (by decide) MT_122 rfl rfl rfl ⟨Nat.le_of_ble_eq_true rfl, Nat.le_of_ble_eq_true rfl, Nat.le_of_ble_eq_true rfl⟩ sh_0 (f_lt (o := 0) (m := 181) (Nat.le_of_ble_eq_true rfl) hN)) MT_122 (P_331 (Nat.le_trans (Nat.le_of_ble_eq_true rfl) hN) a2 σ) ⟨rfl, rfl, rfl⟩ (fun k s w h => x_hdlb (l := [(2, 1)]) (by decide +kernel) (by decide +kernel) h) fun v4 m4 => ?_
    refine i_goto (pc' := 47) (f_at inc_132 (j := 5) rfl) (by decide) ?_
    refine i_istore (pc' := 49) (ls' := [.ref 0, .int a1, .int a2, .int a3, .int a4, .int a5, .int a6, .int v4]) (f_at inc_132 (j := 25) rfl) (Nat.le_of_ble_eq_true rfl) rfl rfl ?_
    refine i_iconst (pc' := 50) (f_at inc_132 (j := 26) rfl) ci_0 rfl ?_
    exact i_iret (v := f_b false) (f_at inc_132 (j := 27) rfl) rfl n_bool
set_option maxRecDepth 4000 in
def l_files (a1 : Int32) (σ : f_M) : Option (Int32 × f_M) :=
  (f_lp (fun (s1 : Int32 × Int32) =>
   if (σ 155 23) ≤ s1.2 then (
    some (.inr s1.1)
   ) else (
    (f_rd σ 178 3 s1.2).bind fun v2 =>
    (f_rd σ 178 3 s1.1).bind fun v3 =>
    (
     if v3 ≤ v2 then (
      some s1.1
     ) else (
      some s1.2
     )
    ).bind fun (t4 : Int32) =>
    some (.inl (t4, (s1.2 + (1 : Int32))))
   )
  ) f_F ((0 : Int32), (1 : Int32))).bind fun (x1 : Int32) =>
  (f_wr σ 169 20 a1 (1 : Int32)).bind fun m7 =>
  (f_wr m7 170 20 (m7 155 25) a1).bind fun m8 =>
  (f_wr m8 171 20 (m8 155 25) x1).bind fun m9 =>
  (f_ix 3 x1).bind fun v10 =>
  (f_rd m9 178 3 x1).bind fun v11 =>
  (f_wr m9 (175 + v10) 20 v11 (m9 155 25)).bind fun m12 =>
  (f_rd m12 178 3 x1).bind fun v13 =>
  (f_wr m12 178 3 x1 (v13 + (1 : Int32))).bind fun m14 =>
  some ((((f_up m14 155 25 ((m14 155 25) + (1 : Int32))) 155 25) - (1 : Int32)), (f_up m14 155 25 ((m14 155 25) + (1 : Int32))))
set_option maxRecDepth 4000 in
theorem L_files {xs : Nat → Int32} {L N : Nat} (hN : 181 ≤ N) (a1 : Int32)  (σ : f_M) : f_Cal a_MT xs L N 133 [.ref 155, .int a1] σ ((l_files a1 σ).bind fun t => some (e_wi t)) := by
  refine f_cal_of (ls := [.ref 155, .int a1, a_dead, a_dead]) MT_133 (Nat.le_of_ble_eq_true rfl) rfl ?_
  unfold l_files
  refine i_iconst (pc' := 1) (f_at inc_133 (j := 0) rfl) ci_0 rfl ?_
  refine i_istore_n (pc' := 2) (ls' := [.ref 155, .int a1, .int (0 : Int32), a_dead]) (f_at inc_133 (j := 1) rfl) (Nat.le_of_ble_eq_true rfl) rfl rfl ?_
  refine i_iconst (pc' := 3) (f_at inc_133 (j := 2) rfl) ci_1 rfl ?_
  refine i_istore_n (pc' := 4) (ls' := [.ref 155, .int a1, .int (0 : Int32), .int (1 : Int32)]) (f_at inc_133 (j := 3) rfl) (Nat.le_of_ble_eq_true rfl) rfl rfl ?_
  refine s_lX (X := 35) ((0 : Int32), (1 : Int32)) () (fun (s1 : Int32 × Int32) (u1 : Unit) => [.ref 155, .int a1, .int s1.1, .int s1.2]) (fun (s1 : Int32 × Int32) => σ) (fun (x1 : Int32) (w1 : Value) => [.ref 155, .int a1, .int x1, w1]) (fun (x1 : Int32) => σ) ?_ ?_
  · intro x1 w1
    refine i_aload_n (pc' := 36) (f_at inc_133 (j := 21) rfl) rfl rfl ?_
    refine i_getR (pc' := 39) (f_at inc_133 (j := 22) rfl) sh_155 rfl (f_lt (o := 155) (m := 181) (Nat.le_of_ble_eq_true rfl) hN) rfl ?_
    refine i_iload_n (pc' := 40) (f_at inc_133 (j := 23) rfl) rfl rfl ?_
    refine i_iconst (pc' := 41) (f_at inc_133 (j := 24) rfl) ci_1 rfl ?_
    refine i_bast (pc' := 42) (f_at inc_133 (j := 25) rfl) sh_169 (Or.inr rfl) (by decide) (f_lt (o := 169) (m := 181) (Nat.le_of_ble_eq_true rfl) hN) rfl fun m7 => ?_
    refine i_aload_n (pc' := 43) (f_at inc_133 (j := 26) rfl) rfl rfl ?_
    refine i_getR (pc' := 46) (f_at inc_133 (j := 27) rfl) sh_155 rfl (f_lt (o := 155) (m := 181) (Nat.le_of_ble_eq_true rfl) hN) rfl ?_
    refine i_aload_n (pc' := 47) (f_at inc_133 (j := 28) rfl) rfl rfl ?_
    refine i_getI (pc' := 50) (f_at inc_133 (j := 29) rfl) sh_155 rfl (f_lt (o := 155) (m := 181) (Nat.le_of_ble_eq_true rfl) hN) rfl ?_
    refine i_iload_n (pc' := 51) (f_at inc_133 (j := 30) rfl) rfl rfl ?_
    refine i_iast (pc' := 52) (f_at inc_133 (j := 31) rfl) sh_170 (f_lt (o := 170) (m := 181) (Nat.le_of_ble_eq_true rfl) hN) rfl fun m8 => ?_
    refine i_aload_n (pc' := 53) (f_at inc_133 (j := 32) rfl) rfl rfl ?_
    refine i_getR (pc' := 56) (f_at inc_133 (j := 33) rfl) sh_155 rfl (f_lt (o := 155) (m := 181) (Nat.le_of_ble_eq_true rfl) hN) rfl ?_
    refine i_aload_n (pc' := 57) (f_at inc_133 (j := 34) rfl) rfl rfl ?_
    refine i_getI (pc' := 60) (f_at inc_133 (j := 35) rfl) sh_155 rfl (f_lt (o := 155) (m := 181) (Nat.le_of_ble_eq_true rfl) hN) rfl ?_
    refine i_iload_n (pc' := 61) (f_at inc_133 (j := 36) rfl) rfl rfl ?_
    refine i_iast (pc' := 62) (f_at inc_133 (j := 37) rfl) sh_171 (f_lt (o := 171) (m := 181) (Nat.le_of_ble_eq_true rfl) hN) rfl fun m9 => ?_
    refine i_aload_n (pc' := 63) (f_at inc_133 (j := 38) rfl) rfl rfl ?_
    refine i_getR (pc' := 66) (f_at inc_133 (j := 39) rfl) sh_155 rfl (f_lt (o := 155) (m := 181) (Nat.le_of_ble_eq_true rfl) hN) rfl ?_
    refine i_iload_n (pc' := 67) (f_at inc_133 (j := 40) rfl) rfl rfl ?_
    refine i_kald (pc' := 68) (f_at inc_133 (j := 41) rfl) sh_174 rfl f_gD (f_bg (Nat.le_of_ble_eq_true rfl)) (f_lt (o := 174) (m := 181) (Nat.le_of_ble_eq_true rfl) hN) rfl fun v10 hv10 => ?_
    refine i_aload_n (pc' := 69) (f_at inc_133 (j := 42) rfl) rfl rfl ?_
    refine i_getR (pc' := 72) (f_at inc_133 (j := 43) rfl) sh_155 rfl (f_lt (o := 155) (m := 181) (Nat.le_of_ble_eq_true rfl) hN) rfl ?_
    refine i_iload_n (pc' := 73) (f_at inc_133 (j := 44) rfl) rfl rfl ?_
    refine i_iald (pc' := 74) (f_at inc_133 (j := 45) rfl) sh_178 (f_bg (Nat.le_of_ble_eq_true rfl)) (f_lt (o := 178) (m := 181) (Nat.le_of_ble_eq_true rfl) hN) rfl fun v11 => ?_
    refine i_aload_n (pc' := 75) (f_at inc_133 (j := 46) rfl) rfl rfl ?_
    refine i_getI (pc' := 78) (f_at inc_133 (j := 47) rfl) sh_155 rfl (f_lt (o := 155) (m := 181) (Nat.le_of_ble_eq_true rfl) hN) rfl ?_
    refine i_iast (pc' := 79) (f_at inc_133 (j := 48) rfl) (f_Dk _ hv10).1 (f_ltD (f_Dk _ hv10) hN) rfl fun m12 => ?_
    refine i_aload_n (pc' := 80) (f_at inc_133 (j := 49) rfl) rfl rfl ?_
    refine i_getR (pc' := 83) (f_at inc_133 (j := 50) rfl) sh_155 rfl (f_lt (o := 155) (m := 181) (Nat.le_of_ble_eq_true rfl) hN) rfl ?_
    refine i_iload_n (pc' := 84) (f_at inc_133 (j := 51) rfl) rfl rfl ?_
    refine i_dup2 (pc' := 85) (f_at inc_133 (j := 52) rfl) ⟨rfl, rfl⟩ rfl ?_
    refine i_iald (pc' := 86) (f_at inc_133 (j := 53) rfl) sh_178 (f_bg (Nat.le_of_ble_eq_true rfl)) (f_lt (o := 178) (m := 181) (Nat.le_of_ble_eq_true rfl) hN) rfl fun v13 => ?_
    refine i_iconst (pc' := 87) (f_at inc_133 (j := 54) rfl) ci_1 rfl ?_
    refine i_iadd (pc' := 88) (f_at inc_133 (j := 55) rfl) rfl ?_
    refine i_iast (pc' := 89) (f_at inc_133 (j := 56) rfl) sh_178 (f_lt (o := 178) (m := 181) (Nat.le_of_ble_eq_true rfl) hN) rfl fun m14 => ?_
    refine i_aload_n (pc' := 90) (f_at inc_133 (j := 57) rfl) rfl rfl ?_
    refine i_dup (pc' := 91) (f_at inc_133 (j := 58) rfl) rfl rfl ?_
    refine i_getI (pc' := 94) (f_at inc_133 (j := 59) rfl) sh_155 rfl (f_lt (o := 155) (m := 181) (Nat.le_of_ble_eq_true rfl) hN) rfl ?_
    refine i_iconst (pc' := 95) (f_at inc_133 (j := 60) rfl) ci_1 rfl ?_
    refine i_iadd (pc' := 96) (f_at inc_133 (j := 61) rfl) rfl ?_
    refine i_putI (pc' := 99) (f_at inc_133 (j := 62) rfl) sh_155 rfl ⟨rfl, rfl⟩ (f_lt (o := 155) (m := 181) (Nat.le_of_ble_eq_true rfl) hN) rfl ?_
    refine i_aload_n (pc' := 100) (f_at inc_133 (j := 63) rfl) rfl rfl ?_
    refine i_getI (pc' := 103) (f_at inc_133 (j := 64) rfl) sh_155 rfl (f_lt (o := 155) (m := 181) (Nat.le_of_ble_eq_true rfl) hN) rfl ?_
    refine i_iconst (pc' := 104) (f_at inc_133 (j := 65) rfl) ci_1 rfl ?_
    refine i_isub (pc' := 105) (f_at inc_133 (j := 66) rfl) rfl ?_
    exact i_iret (f_at inc_133 (j := 67) rfl) rfl n_int
  · intro s1 u1 k1 hb1 hx1
    refine i_iload_n (pc' := 5) (f_at inc_133 (j := 4) rfl) rfl rfl ?_
    refine i_aload_n (pc' := 6) (f_at inc_133 (j := 5) rfl) rfl rfl ?_
    refine i_getI (pc' := 9) (f_at inc_133 (j := 6) rfl) sh_155 rfl (f_lt (o := 155) (m := 181) (Nat.le_of_ble_eq_true rfl) hN) rfl ?_
    refine i_if2 (pc' := 35) (nx := 12) c2_ge (f_at inc_133 (j := 7) rfl) ⟨by decide, rfl⟩ (fun b6 => ?_) (fun b6 => ?_)
    · exact hx1 s1.1 (.int s1.2)
    · refine i_aload_n (pc' := 13) (f_at inc_133 (j := 8) rfl) rfl rfl ?_
      refine i_getR (pc' := 16) (f_at inc_133 (j := 9) rfl) sh_155 rfl (f_lt (o := 155) (m := 181) (Nat.le_of_ble_eq_true rfl) hN) rfl ?_
      refine i_iload_n (pc' := 17) (f_at inc_133 (j := 10) rfl) rfl rfl ?_
      refine i_iald (pc' := 18) (f_at inc_133 (j := 11) rfl) sh_178 (f_bg (Nat.le_of_ble_eq_true rfl)) (f_lt (o := 178) (m := 181) (Nat.le_of_ble_eq_true rfl) hN) rfl fun v2 => ?_
      refine i_aload_n (pc' := 19) (f_at inc_133 (j := 12) rfl) rfl rfl ?_
      refine i_getR (pc' := 22) (f_at inc_133 (j := 13) rfl) sh_155 rfl (f_lt (o := 155) (m := 181) (Nat.le_of_ble_eq_true rfl) hN) rfl ?_
      refine i_iload_n (pc' := 23) (f_at inc_133 (j := 14) rfl) rfl rfl ?_
      refine i_iald (pc' := 24) (f_at inc_133 (j := 15) rfl) sh_178 (f_bg (Nat.le_of_ble_eq_true rfl)) (f_lt (o := 178) (m := 181) (Nat.le_of_ble_eq_true rfl) hN) rfl fun v3 => ?_
      refine s_join (J := 29) (fun (t4 : Int32) (u4 : Unit) => [.ref 155, .int a1, .int t4, .int s1.2]) (fun t4 => []) (fun t4 => σ) ?_ ?_
      · intro t4 u4
        refine i_iinc (pc' := 32) (ls' := [.ref 155, .int a1, .int t4, .int (s1.2 + (1 : Int32))]) (f_at inc_133 (j := 19) rfl) rfl ci_1 rfl rfl ?_
        refine i_goto (pc' := 4) (f_at inc_133 (j := 20) rfl) (by decide) ?_
        exact hb1 (t4, (s1.2 + (1 : Int32))) ()
      · intro k4 hj4
        refine i_if2 (pc' := 29) (nx := 27) c2_ge (f_at inc_133 (j := 16) rfl) ⟨by decide, rfl⟩ (fun b5 => ?_) (fun b5 => ?_)
        · exact hj4 s1.1 ()
        · refine i_iload_n (pc' := 28) (f_at inc_133 (j := 17) rfl) rfl rfl ?_
          refine i_istore_n (pc' := 29) (ls' := [.ref 155, .int a1, .int s1.2, .int s1.2]) (f_at inc_133 (j := 18) rfl) (Nat.le_of_ble_eq_true rfl) rfl rfl ?_
          exact hj4 s1.2 ()
set_option maxRecDepth 4000 in
theorem G_111 {xs : Nat → Int32} {L N : Nat} (hN : 155 ≤ N) (a1 : Int32) (a2 : Int32)  (σ : f_M) : f_Cal a_MT xs L N 134 [.ref 121, .int a1, .int a2] σ ((g_111 a1 a2 σ).bind fun t => some (e_wi t)) := by
  refine f_cal_of (ls := [.ref 121, .int a1, .int a2]) MT_134 (Nat.le_of_ble_eq_true rfl) rfl ?_
  unfold g_111
  refine i_aload_n (pc' := 1) (f_at inc_134 (j := 0) rfl) rfl rfl ?_
  refine i_getR (pc' := 4) (f_at inc_134 (j := 1) rfl) sh_121 rfl (f_lt (o := 121) (m := 155) (Nat.le_of_ble_eq_true rfl) hN) rfl ?_
  refine i_iload_n (pc' := 5) (f_at inc_134 (j := 2) rfl) rfl rfl ?_
  refine i_dup2 (pc' := 6) (f_at inc_134 (j := 3) rfl) ⟨rfl, rfl⟩ rfl ?_
  refine i_iald (pc' := 7) (f_at inc_134 (j := 4) rfl) sh_122 (f_bg (Nat.le_of_ble_eq_true rfl)) (f_lt (o := 122) (m := 155) (Nat.le_of_ble_eq_true rfl) hN) rfl fun v1 => ?_
  refine i_iload_n (pc' := 8) (f_at inc_134 (j := 5) rfl) rfl rfl ?_
  refine i_iadd (pc' := 9) (f_at inc_134 (j := 6) rfl) rfl ?_
  refine i_iast (pc' := 10) (f_at inc_134 (j := 7) rfl) sh_122 (f_lt (o := 122) (m := 155) (Nat.le_of_ble_eq_true rfl) hN) rfl fun m2 => ?_
  refine i_aload_n (pc' := 11) (f_at inc_134 (j := 8) rfl) rfl rfl ?_
  refine i_dup (pc' := 12) (f_at inc_134 (j := 9) rfl) rfl rfl ?_
  refine i_getI (pc' := 15) (f_at inc_134 (j := 10) rfl) sh_121 rfl (f_lt (o := 121) (m := 155) (Nat.le_of_ble_eq_true rfl) hN) rfl ?_
  refine i_iload_n (pc' := 16) (f_at inc_134 (j := 11) rfl) rfl rfl ?_
  refine i_iadd (pc' := 17) (f_at inc_134 (j := 12) rfl) rfl ?_
  refine i_putI (pc' := 20) (f_at inc_134 (j := 13) rfl) sh_121 rfl ⟨rfl, rfl⟩ (f_lt (o := 121) (m := 155) (Nat.le_of_ble_eq_true rfl) hN) rfl ?_
  refine i_aload_n (pc' := 21) (f_at inc_134 (j := 14) rfl) rfl rfl ?_
  refine i_getR (pc' := 24) (f_at inc_134 (j := 15) rfl) sh_121 rfl (f_lt (o := 121) (m := 155) (Nat.le_of_ble_eq_true rfl) hN) rfl ?_
  refine i_iload_n (pc' := 25) (f_at inc_134 (j := 16) rfl) rfl rfl ?_
  refine i_iald (pc' := 26) (f_at inc_134 (j := 17) rfl) sh_122 (f_bg (Nat.le_of_ble_eq_true rfl)) (f_lt (o := 122) (m := 155) (Nat.le_of_ble_eq_true rfl) hN) rfl fun v3 => ?_
  exact i_iret (f_at inc_134 (j := 18) rfl) rfl n_int
set_option maxRecDepth 4000 in
def p_334 (a1 : Int32) (a2 : Int32) (σ : f_M) : Option (Int32 × f_M) :=
  (p_172 a1 σ).bind fun _ =>
  (p_285 a2 (1 : Int32) (999 : Int32) σ).bind fun _ =>
  (g_73  σ).bind fun t3 =>
  (g_111 a1 a2 t3).bind fun t4 =>
  some (t4.1, t4.2)
set_option maxRecDepth 4000 in
theorem P_334 {xs : Nat → Int32} {L N : Nat} (hN : 155 ≤ N) (a1 : Int32) (a2 : Int32)  (σ : f_M) : f_Cal a_MT xs L N 135 [.ref 0, .int a1, .int a2] σ ((p_334 a1 a2 σ).bind fun t => some (e_wi t)) := by
  refine f_cal_of (ls := [.ref 0, .int a1, .int a2]) MT_135 (Nat.le_of_ble_eq_true rfl) rfl ?_
  unfold p_334
  refine i_aload_n (pc' := 1) (f_at inc_135 (j := 0) rfl) rfl rfl ?_
  refine i_iload_n (pc' := 2) (f_at inc_135 (j := 1) rfl) rfl rfl ?_
  refine c_pv (pc' := 5) (c' := 0) (n' := 0) (h_virt (ra := [.int a1, .ref 0]) (r := []) (as := [.int a1]) (f_at inc_135 (j := 2) rfl) (by decide) MT_51 rfl rfl rfl ⟨Nat.le_of_ble_eq_true rfl, Nat.le_of_ble_eq_true rfl, Nat.le_of_ble_eq_true rfl⟩ sh_0 (f_lt (o := 0) (m := 155) (Nat.le_of_ble_eq_true rfl) hN)) MT_51 (P_172 hN a1 σ) ⟨rfl, rfl, rfl⟩ ?_
  refine i_iload_n (pc' := 6) (f_at inc_135 (j := 3) rfl) rfl rfl ?_
  refine i_iconst (pc' := 7) (f_at inc_135 (j := 4) rfl) ci_1 rfl ?_
  refine i_sipush (pc' := 10) (f_at inc_135 (j := 5) rfl) cs_999 rfl ?_
  refine c_pv (pc' := 13) (c' := 0) (n' := 0) (h_stat (ra := [.int (999 : Int32), .int (1 : Int32), .int a2]) (r := []) (as := [.int a2, .int (1 : Int32), .int (999 : Int32)]) (f_at inc_135 (j := 6) rfl) (by decide) MT_104 rfl rfl rfl ⟨Nat.le_of_ble_eq_true rfl, Nat.le_of_ble_eq_true rfl, Nat.le_of_ble_eq_true rfl⟩) MT_104 (P_285 hN a2 (1 : Int32) (999 : Int32) σ) ⟨rfl, rfl, rfl⟩ ?_
  refine i_aload_n (pc' := 14) (f_at inc_135 (j := 7) rfl) rfl rfl ?_
  refine i_getR (pc' := 17) (f_at inc_135 (j := 8) rfl) sh_0 rfl (f_lt (o := 0) (m := 155) (Nat.le_of_ble_eq_true rfl) hN) rfl ?_
  refine i_aload_n (pc' := 18) (f_at inc_135 (j := 9) rfl) rfl rfl ?_
  refine i_getR (pc' := 21) (f_at inc_135 (j := 10) rfl) sh_0 rfl (f_lt (o := 0) (m := 155) (Nat.le_of_ble_eq_true rfl) hN) rfl ?_
  refine c_wv (pc' := 24) (c' := 0) (n' := 0) (h_virt (ra := [.ref 121, .ref 44]) (r := []) (as := [.ref 121]) (f_at inc_135 (j := 11) rfl) (by decide) MT_107 rfl rfl rfl ⟨Nat.le_of_ble_eq_true rfl, Nat.le_of_ble_eq_true rfl, Nat.le_of_ble_eq_true rfl⟩ sh_44 (f_lt (o := 44) (m := 155) (Nat.le_of_ble_eq_true rfl) hN)) MT_107 (G_73 hN  σ) ⟨rfl, rfl, rfl⟩ fun t3 => ?_
  refine i_aload_n (pc' := 25) (f_at inc_135 (j := 12) rfl) rfl rfl ?_
  refine i_getR (pc' := 28) (f_at inc_135 (j := 13) rfl) sh_0 rfl (f_lt (o := 0) (m := 155) (Nat.le_of_ble_eq_true rfl) hN) rfl ?_
  refine i_iload_n (pc' := 29) (f_at inc_135 (j := 14) rfl) rfl rfl ?_
  refine i_iload_n (pc' := 30) (f_at inc_135 (j := 15) rfl) rfl rfl ?_
  refine c_wi (pc' := 33) (c' := 0) (n' := 0) (h_virt (ra := [.int a2, .int a1, .ref 121]) (r := []) (as := [.int a1, .int a2]) (f_at inc_135 (j := 16) rfl) (by decide) MT_134 rfl rfl rfl ⟨Nat.le_of_ble_eq_true rfl, Nat.le_of_ble_eq_true rfl, Nat.le_of_ble_eq_true rfl⟩ sh_121 (f_lt (o := 121) (m := 155) (Nat.le_of_ble_eq_true rfl) hN)) MT_134 (G_111 hN a1 a2 t3) ⟨rfl, rfl, rfl⟩ fun t4 => ?_
  exact i_iret (f_at inc_135 (j := 17) rfl) rfl n_int
set_option maxRecDepth 4000 in
def l_acts (a2 : Int32) (a3 : Int32) (σ : f_M) : Option (Bool × f_M) :=
  (l_bits a2 (4 : Int32) (4 : Int32) σ).bind fun t1 =>
  if (σ 155 22) = 0 then none else
  (l_bits a2 (0 : Int32) (4 : Int32) σ).bind fun t3 =>
  if t3 = (0 : Int32) then (
   (f_lp (fun (s4 : Int32 × f_M) =>
    (l_bits a2 (4 : Int32) (2 : Int32) s4.2).bind fun t5 =>
    if t5 < s4.1 then (
     some (.inr (true, s4.2))
    ) else (
     (l_bits a3 ((4 : Int32) * s4.1) (6 : Int32) s4.2).bind fun t6 =>
     (l_bits a3 ((3 : Int32) + ((4 : Int32) * s4.1)) (3 : Int32) s4.2).bind fun t7 =>
     (p_319 t6 t7 s4.2).bind fun t8 =>
     (l_passes t6 t7 t8.2).bind fun t9 =>
     if t8.1 = t9.1 then (
      some (.inl ((s4.1 + (1 : Int32)), t9.2))
     ) else (
      some (.inr (false, t9.2))
     )
    )
   ) f_F ((0 : Int32), σ)).bind fun (r4 : Bool × f_M) => some r4
  ) else
  if t3 = (1 : Int32) then (
   (f_lp (fun (s13 : Int32 × f_M) =>
    (l_bits a2 (4 : Int32) (2 : Int32) s13.2).bind fun t14 =>
    if t14 < s13.1 then (
     some (.inr (true, s13.2))
    ) else (
     (l_bits a3 ((4 : Int32) * s13.1) (6 : Int32) s13.2).bind fun t15 =>
     (l_bits a3 ((3 : Int32) + ((4 : Int32) * s13.1)) (3 : Int32) s13.2).bind fun t16 =>
     (p_319 t15 t16 s13.2).bind fun t17 =>
     (l_passes t15 t16 t17.2).bind fun t18 =>
     if t17.1 = t18.1 then (
      some (.inl ((s13.1 + (1 : Int32)), t18.2))
     ) else (
      some (.inr (false, t18.2))
     )
    )
   ) f_F ((0 : Int32), σ)).bind fun (r13 : Bool × f_M) => some r13
  ) else
  if t3 = (2 : Int32) then (
   (f_lp (fun (s22 : Int32 × f_M) =>
    (l_bits a2 (4 : Int32) (2 : Int32) s22.2).bind fun t23 =>
    if t23 < s22.1 then (
     some (.inr (true, s22.2))
    ) else (
     (l_bits a3 ((4 : Int32) * s22.1) (6 : Int32) s22.2).bind fun t24 =>
     (l_bits a3 ((3 : Int32) + ((4 : Int32) * s22.1)) (3 : Int32) s22.2).bind fun t25 =>
     (p_319 t24 t25 s22.2).bind fun t26 =>
     (l_passes t24 t25 t26.2).bind fun t27 =>
     if t26.1 = t27.1 then (
      some (.inl ((s22.1 + (1 : Int32)), t27.2))
     ) else (
      some (.inr (false, t27.2))
     )
    )
   ) f_F ((0 : Int32), σ)).bind fun (r22 : Bool × f_M) => some r22
  ) else
  if t3 = (3 : Int32) then (
   (f_lp (fun (s31 : Int32 × f_M) =>
    (l_bits a2 (4 : Int32) (2 : Int32) s31.2).bind fun t32 =>
    if t32 < s31.1 then (
     some (.inr (true, s31.2))
    ) else (
     (l_bits a3 ((4 : Int32) * s31.1) (6 : Int32) s31.2).bind fun t33 =>
     (l_bits a3 ((3 : Int32) + ((4 : Int32) * s31.1)) (3 : Int32) s31.2).bind fun t34 =>
     (p_319 t33 t34 s31.2).bind fun t35 =>
     (l_passes t33 t34 t35.2).bind fun t36 =>
     if t35.1 = t36.1 then (
      some (.inl ((s31.1 + (1 : Int32)), t36.2))
     ) else (
      some (.inr (false, t36.2))
     )
    )
   ) f_F ((0 : Int32), σ)).bind fun (r31 : Bool × f_M) => some r31
  ) else
  if t3 = (4 : Int32) then (
   (f_lp (fun (s40 : Int32 × f_M) =>
    (l_bits a2 (4 : Int32) (2 : Int32) s40.2).bind fun t41 =>
    if t41 < s40.1 then (
     some (.inr (true, s40.2))
    ) else (
     (l_bits a3 ((4 : Int32) * s40.1) (6 : Int32) s40.2).bind fun t42 =>
     (l_bits a3 ((3 : Int32) + ((4 : Int32) * s40.1)) (3 : Int32) s40.2).bind fun t43 =>
     (p_319 t42 t43 s40.2).bind fun t44 =>
     (l_passes t42 t43 t44.2).bind fun t45 =>
     if t44.1 = t45.1 then (
      some (.inl ((s40.1 + (1 : Int32)), t45.2))
     ) else (
      some (.inr (false, t45.2))
     )
    )
   ) f_F ((0 : Int32), σ)).bind fun (r40 : Bool × f_M) => some r40
  ) else
  if t3 = (5 : Int32) then (
   (f_lp (fun (s49 : Int32 × f_M) =>
    (l_bits a2 (4 : Int32) (2 : Int32) s49.2).bind fun t50 =>
    if t50 < s49.1 then (
     some (.inr (true, s49.2))
    ) else (
     (l_bits a3 ((4 : Int32) * s49.1) (6 : Int32) s49.2).bind fun t51 =>
     (l_bits a3 ((3 : Int32) + ((4 : Int32) * s49.1)) (3 : Int32) s49.2).bind fun t52 =>
     (p_319 t51 t52 s49.2).bind fun t53 =>
     (l_passes t51 t52 t53.2).bind fun t54 =>
     if t53.1 = t54.1 then (
      some (.inl ((s49.1 + (1 : Int32)), t54.2))
     ) else (
      some (.inr (false, t54.2))
     )
    )
   ) f_F ((0 : Int32), σ)).bind fun (r49 : Bool × f_M) => some r49
  ) else
  if t3 = (6 : Int32) then (
   (f_lp (fun (s58 : Int32 × f_M) =>
    (l_bits a2 (4 : Int32) (2 : Int32) s58.2).bind fun t59 =>
    if t59 < s58.1 then (
     some (.inr (true, s58.2))
    ) else (
     (l_bits a3 ((4 : Int32) * s58.1) (6 : Int32) s58.2).bind fun t60 =>
     (l_bits a3 ((3 : Int32) + ((4 : Int32) * s58.1)) (3 : Int32) s58.2).bind fun t61 =>
     (p_319 t60 t61 s58.2).bind fun t62 =>
     (l_passes t60 t61 t62.2).bind fun t63 =>
     if t62.1 = t63.1 then (
      some (.inl ((s58.1 + (1 : Int32)), t63.2))
     ) else (
      some (.inr (false, t63.2))
     )
    )
   ) f_F ((0 : Int32), σ)).bind fun (r58 : Bool × f_M) => some r58
  ) else
  if t3 = (7 : Int32) then (
   (l_bits a2 (8 : Int32) (1 : Int32) σ).bind fun t67 =>
   (l_bits a2 (9 : Int32) (2 : Int32) σ).bind fun t68 =>
   (l_bits a2 (11 : Int32) (3 : Int32) σ).bind fun t69 =>
   (l_bits a2 (14 : Int32) (7 : Int32) σ).bind fun t70 =>
   (l_bits a3 (0 : Int32) (5 : Int32) σ).bind fun t71 =>
   (
    if ¬ t67 = 0 then (
     if ((20 : Int32) + ((2 : Int32) * t71)) = 0 then none else
     some (((((1 : Int32) + t70) * ((1 : Int32) + t69)) / ((20 : Int32) + ((2 : Int32) * t71))) + (1 : Int32))
    ) else (
     some (((((1 : Int32) + t70) * ((1 : Int32) + t69)) / (40 : Int32)) + (1 : Int32))
    )
   ).bind fun (t72 : Int32) =>
   if (σ 155 24) = (20 : Int32) then (
    (l_isRefused ((1 : Int32) + t67) (t1 - t1 / (σ 155 22) * (σ 155 22)) ((σ 155 26) + t68) ((1 : Int32) + t69) ((1 : Int32) + t70) t71 σ).bind fun t75 =>
    some (t75.1, t75.2)
   ) else (
    (f_rd σ 156 4 (t1 - t1 / (σ 155 22) * (σ 155 22))).bind fun v76 =>
    if t72 ≤ v76 then (
     (f_wr σ 159 20 (σ 155 24) t67).bind fun m77 =>
     (f_wr m77 160 20 (σ 155 24) (t1 - t1 / (σ 155 22) * (σ 155 22))).bind fun m78 =>
     (f_wr m78 161 20 (σ 155 24) ((σ 155 26) + t68)).bind fun m79 =>
     (f_wr m79 162 20 (σ 155 24) ((1 : Int32) + t69)).bind fun m80 =>
     (f_wr m80 163 20 (σ 155 24) ((1 : Int32) + t70)).bind fun m81 =>
     (f_wr m81 164 20 (σ 155 24) t71).bind fun m82 =>
     (l_bits a3 (5 : Int32) (5 : Int32) m82).bind fun t83 =>
     (f_wr m82 165 20 (σ 155 24) (t71 + t83)).bind fun m84 =>
     (f_wr m84 166 20 (σ 155 24) t72).bind fun m85 =>
     (f_rd m85 156 4 (t1 - t1 / (σ 155 22) * (σ 155 22))).bind fun v86 =>
     (f_wr m85 156 4 (t1 - t1 / (σ 155 22) * (σ 155 22)) (v86 - t72)).bind fun m87 =>
     (
      if ¬ t67 = 0 then (
       (f_nt (p_328 (t1 - t1 / (σ 155 22) * (σ 155 22)) ((σ 155 26) + t68) ((1 : Int32) + t69) ((1 : Int32) + t70) t71 (f_up (f_up (f_up m87 155 27 ((m87 155 27) + t72)) 155 28 (((f_up m87 155 27 ((m87 155 27) + t72)) 155 28) + t72)) 155 24 (((f_up (f_up m87 155 27 ((m87 155 27) + t72)) 155 28 (((f_up m87 155 27 ((m87 155 27) + t72)) 155 28) + t72)) 155 24) + (1 : Int32))))).bind fun t89 =>
       some (t89.1, t89.2)
      ) else (
       (f_rd (f_up (f_up (f_up m87 155 27 ((m87 155 27) + t72)) 155 28 (((f_up m87 155 27 ((m87 155 27) + t72)) 155 28) + t72)) 155 24 (((f_up (f_up m87 155 27 ((m87 155 27) + t72)) 155 28 (((f_up m87 155 27 ((m87 155 27) + t72)) 155 28) + t72)) 155 24) + (1 : Int32))) 165 20 (σ 155 24)).bind fun v90 =>
       (f_nt (p_324 (t1 - t1 / (σ 155 22) * (σ 155 22)) ((σ 155 26) + t68) ((1 : Int32) + t69) ((1 : Int32) + t70) t71 v90 (f_up (f_up (f_up m87 155 27 ((m87 155 27) + t72)) 155 28 (((f_up m87 155 27 ((m87 155 27) + t72)) 155 28) + t72)) 155 24 (((f_up (f_up m87 155 27 ((m87 155 27) + t72)) 155 28 (((f_up m87 155 27 ((m87 155 27) + t72)) 155 28) + t72)) 155 24) + (1 : Int32))))).bind fun t91 =>
       some (t91.1, t91.2)
      )
     ).bind fun (t88 : Int32 × f_M) =>
     (
      if ¬ t88.1 = (σ 155 24) then (
       some false
      ) else (
       some true
      )
     ).bind fun (t93 : Bool) =>
     some (t93, t88.2)
    ) else (
     (l_isRefused ((1 : Int32) + t67) (t1 - t1 / (σ 155 22) * (σ 155 22)) ((σ 155 26) + t68) ((1 : Int32) + t69) ((1 : Int32) + t70) t71 σ).bind fun t95 =>
     some (t95.1, t95.2)
    )
   )
  ) else
  if t3 = (8 : Int32) then (
   (l_bits a2 (8 : Int32) (1 : Int32) σ).bind fun t99 =>
   (l_bits a2 (9 : Int32) (2 : Int32) σ).bind fun t100 =>
   (l_bits a2 (11 : Int32) (3 : Int32) σ).bind fun t101 =>
   (l_bits a2 (14 : Int32) (7 : Int32) σ).bind fun t102 =>
   (l_bits a3 (0 : Int32) (5 : Int32) σ).bind fun t103 =>
   (
    if ¬ t99 = 0 then (
     if ((20 : Int32) + ((2 : Int32) * t103)) = 0 then none else
     some (((((1 : Int32) + t102) * ((1 : Int32) + t101)) / ((20 : Int32) + ((2 : Int32) * t103))) + (1 : Int32))
    ) else (
     some (((((1 : Int32) + t102) * ((1 : Int32) + t101)) / (40 : Int32)) + (1 : Int32))
    )
   ).bind fun (t104 : Int32) =>
   if (σ 155 24) = (20 : Int32) then (
    (l_isRefused ((1 : Int32) + t99) (t1 - t1 / (σ 155 22) * (σ 155 22)) ((σ 155 26) + t100) ((1 : Int32) + t101) ((1 : Int32) + t102) t103 σ).bind fun t107 =>
    some (t107.1, t107.2)
   ) else (
    (f_rd σ 156 4 (t1 - t1 / (σ 155 22) * (σ 155 22))).bind fun v108 =>
    if t104 ≤ v108 then (
     (f_wr σ 159 20 (σ 155 24) t99).bind fun m109 =>
     (f_wr m109 160 20 (σ 155 24) (t1 - t1 / (σ 155 22) * (σ 155 22))).bind fun m110 =>
     (f_wr m110 161 20 (σ 155 24) ((σ 155 26) + t100)).bind fun m111 =>
     (f_wr m111 162 20 (σ 155 24) ((1 : Int32) + t101)).bind fun m112 =>
     (f_wr m112 163 20 (σ 155 24) ((1 : Int32) + t102)).bind fun m113 =>
     (f_wr m113 164 20 (σ 155 24) t103).bind fun m114 =>
     (l_bits a3 (5 : Int32) (5 : Int32) m114).bind fun t115 =>
     (f_wr m114 165 20 (σ 155 24) (t103 + t115)).bind fun m116 =>
     (f_wr m116 166 20 (σ 155 24) t104).bind fun m117 =>
     (f_rd m117 156 4 (t1 - t1 / (σ 155 22) * (σ 155 22))).bind fun v118 =>
     (f_wr m117 156 4 (t1 - t1 / (σ 155 22) * (σ 155 22)) (v118 - t104)).bind fun m119 =>
     (
      if ¬ t99 = 0 then (
       (f_nt (p_328 (t1 - t1 / (σ 155 22) * (σ 155 22)) ((σ 155 26) + t100) ((1 : Int32) + t101) ((1 : Int32) + t102) t103 (f_up (f_up (f_up m119 155 27 ((m119 155 27) + t104)) 155 28 (((f_up m119 155 27 ((m119 155 27) + t104)) 155 28) + t104)) 155 24 (((f_up (f_up m119 155 27 ((m119 155 27) + t104)) 155 28 (((f_up m119 155 27 ((m119 155 27) + t104)) 155 28) + t104)) 155 24) + (1 : Int32))))).bind fun t121 =>
       some (t121.1, t121.2)
      ) else (
       (f_rd (f_up (f_up (f_up m119 155 27 ((m119 155 27) + t104)) 155 28 (((f_up m119 155 27 ((m119 155 27) + t104)) 155 28) + t104)) 155 24 (((f_up (f_up m119 155 27 ((m119 155 27) + t104)) 155 28 (((f_up m119 155 27 ((m119 155 27) + t104)) 155 28) + t104)) 155 24) + (1 : Int32))) 165 20 (σ 155 24)).bind fun v122 =>
       (f_nt (p_324 (t1 - t1 / (σ 155 22) * (σ 155 22)) ((σ 155 26) + t100) ((1 : Int32) + t101) ((1 : Int32) + t102) t103 v122 (f_up (f_up (f_up m119 155 27 ((m119 155 27) + t104)) 155 28 (((f_up m119 155 27 ((m119 155 27) + t104)) 155 28) + t104)) 155 24 (((f_up (f_up m119 155 27 ((m119 155 27) + t104)) 155 28 (((f_up m119 155 27 ((m119 155 27) + t104)) 155 28) + t104)) 155 24) + (1 : Int32))))).bind fun t123 =>
       some (t123.1, t123.2)
      )
     ).bind fun (t120 : Int32 × f_M) =>
     (
      if ¬ t120.1 = (σ 155 24) then (
       some false
      ) else (
       some true
      )
     ).bind fun (t125 : Bool) =>
     some (t125, t120.2)
    ) else (
     (l_isRefused ((1 : Int32) + t99) (t1 - t1 / (σ 155 22) * (σ 155 22)) ((σ 155 26) + t100) ((1 : Int32) + t101) ((1 : Int32) + t102) t103 σ).bind fun t127 =>
     some (t127.1, t127.2)
    )
   )
  ) else
  if t3 = (9 : Int32) then (
   (l_bits a2 (8 : Int32) (1 : Int32) σ).bind fun t131 =>
   (l_bits a2 (9 : Int32) (2 : Int32) σ).bind fun t132 =>
   (l_bits a2 (11 : Int32) (3 : Int32) σ).bind fun t133 =>
   (l_bits a2 (14 : Int32) (7 : Int32) σ).bind fun t134 =>
   (l_bits a3 (0 : Int32) (5 : Int32) σ).bind fun t135 =>
   (
    if ¬ t131 = 0 then (
     if ((20 : Int32) + ((2 : Int32) * t135)) = 0 then none else
     some (((((1 : Int32) + t134) * ((1 : Int32) + t133)) / ((20 : Int32) + ((2 : Int32) * t135))) + (1 : Int32))
    ) else (
     some (((((1 : Int32) + t134) * ((1 : Int32) + t133)) / (40 : Int32)) + (1 : Int32))
    )
   ).bind fun (t136 : Int32) =>
   if (σ 155 24) = (20 : Int32) then (
    (l_isRefused ((1 : Int32) + t131) (t1 - t1 / (σ 155 22) * (σ 155 22)) ((σ 155 26) + t132) ((1 : Int32) + t133) ((1 : Int32) + t134) t135 σ).bind fun t139 =>
    some (t139.1, t139.2)
   ) else (
    (f_rd σ 156 4 (t1 - t1 / (σ 155 22) * (σ 155 22))).bind fun v140 =>
    if t136 ≤ v140 then (
     (f_wr σ 159 20 (σ 155 24) t131).bind fun m141 =>
     (f_wr m141 160 20 (σ 155 24) (t1 - t1 / (σ 155 22) * (σ 155 22))).bind fun m142 =>
     (f_wr m142 161 20 (σ 155 24) ((σ 155 26) + t132)).bind fun m143 =>
     (f_wr m143 162 20 (σ 155 24) ((1 : Int32) + t133)).bind fun m144 =>
     (f_wr m144 163 20 (σ 155 24) ((1 : Int32) + t134)).bind fun m145 =>
     (f_wr m145 164 20 (σ 155 24) t135).bind fun m146 =>
     (l_bits a3 (5 : Int32) (5 : Int32) m146).bind fun t147 =>
     (f_wr m146 165 20 (σ 155 24) (t135 + t147)).bind fun m148 =>
     (f_wr m148 166 20 (σ 155 24) t136).bind fun m149 =>
     (f_rd m149 156 4 (t1 - t1 / (σ 155 22) * (σ 155 22))).bind fun v150 =>
     (f_wr m149 156 4 (t1 - t1 / (σ 155 22) * (σ 155 22)) (v150 - t136)).bind fun m151 =>
     (
      if ¬ t131 = 0 then (
       (f_nt (p_328 (t1 - t1 / (σ 155 22) * (σ 155 22)) ((σ 155 26) + t132) ((1 : Int32) + t133) ((1 : Int32) + t134) t135 (f_up (f_up (f_up m151 155 27 ((m151 155 27) + t136)) 155 28 (((f_up m151 155 27 ((m151 155 27) + t136)) 155 28) + t136)) 155 24 (((f_up (f_up m151 155 27 ((m151 155 27) + t136)) 155 28 (((f_up m151 155 27 ((m151 155 27) + t136)) 155 28) + t136)) 155 24) + (1 : Int32))))).bind fun t153 =>
       some (t153.1, t153.2)
      ) else (
       (f_rd (f_up (f_up (f_up m151 155 27 ((m151 155 27) + t136)) 155 28 (((f_up m151 155 27 ((m151 155 27) + t136)) 155 28) + t136)) 155 24 (((f_up (f_up m151 155 27 ((m151 155 27) + t136)) 155 28 (((f_up m151 155 27 ((m151 155 27) + t136)) 155 28) + t136)) 155 24) + (1 : Int32))) 165 20 (σ 155 24)).bind fun v154 =>
       (f_nt (p_324 (t1 - t1 / (σ 155 22) * (σ 155 22)) ((σ 155 26) + t132) ((1 : Int32) + t133) ((1 : Int32) + t134) t135 v154 (f_up (f_up (f_up m151 155 27 ((m151 155 27) + t136)) 155 28 (((f_up m151 155 27 ((m151 155 27) + t136)) 155 28) + t136)) 155 24 (((f_up (f_up m151 155 27 ((m151 155 27) + t136)) 155 28 (((f_up m151 155 27 ((m151 155 27) + t136)) 155 28) + t136)) 155 24) + (1 : Int32))))).bind fun t155 =>
       some (t155.1, t155.2)
      )
     ).bind fun (t152 : Int32 × f_M) =>
     (
      if ¬ t152.1 = (σ 155 24) then (
       some false
      ) else (
       some true
      )
     ).bind fun (t157 : Bool) =>
     some (t157, t152.2)
    ) else (
     (l_isRefused ((1 : Int32) + t131) (t1 - t1 / (σ 155 22) * (σ 155 22)) ((σ 155 26) + t132) ((1 : Int32) + t133) ((1 : Int32) + t134) t135 σ).bind fun t159 =>
     some (t159.1, t159.2)
    )
   )
  ) else
  if t3 = (10 : Int32) then (
   (l_bits a2 (8 : Int32) (1 : Int32) σ).bind fun t163 =>
   (l_bits a2 (9 : Int32) (2 : Int32) σ).bind fun t164 =>
   (l_bits a2 (11 : Int32) (3 : Int32) σ).bind fun t165 =>
   (l_bits a2 (14 : Int32) (7 : Int32) σ).bind fun t166 =>
   (l_bits a3 (0 : Int32) (5 : Int32) σ).bind fun t167 =>
   (
    if ¬ t163 = 0 then (
     if ((20 : Int32) + ((2 : Int32) * t167)) = 0 then none else
     some (((((1 : Int32) + t166) * ((1 : Int32) + t165)) / ((20 : Int32) + ((2 : Int32) * t167))) + (1 : Int32))
    ) else (
     some (((((1 : Int32) + t166) * ((1 : Int32) + t165)) / (40 : Int32)) + (1 : Int32))
    )
   ).bind fun (t168 : Int32) =>
   if (σ 155 24) = (20 : Int32) then (
    (l_isRefused ((1 : Int32) + t163) (t1 - t1 / (σ 155 22) * (σ 155 22)) ((σ 155 26) + t164) ((1 : Int32) + t165) ((1 : Int32) + t166) t167 σ).bind fun t171 =>
    some (t171.1, t171.2)
   ) else (
    (f_rd σ 156 4 (t1 - t1 / (σ 155 22) * (σ 155 22))).bind fun v172 =>
    if t168 ≤ v172 then (
     (f_wr σ 159 20 (σ 155 24) t163).bind fun m173 =>
     (f_wr m173 160 20 (σ 155 24) (t1 - t1 / (σ 155 22) * (σ 155 22))).bind fun m174 =>
     (f_wr m174 161 20 (σ 155 24) ((σ 155 26) + t164)).bind fun m175 =>
     (f_wr m175 162 20 (σ 155 24) ((1 : Int32) + t165)).bind fun m176 =>
     (f_wr m176 163 20 (σ 155 24) ((1 : Int32) + t166)).bind fun m177 =>
     (f_wr m177 164 20 (σ 155 24) t167).bind fun m178 =>
     (l_bits a3 (5 : Int32) (5 : Int32) m178).bind fun t179 =>
     (f_wr m178 165 20 (σ 155 24) (t167 + t179)).bind fun m180 =>
     (f_wr m180 166 20 (σ 155 24) t168).bind fun m181 =>
     (f_rd m181 156 4 (t1 - t1 / (σ 155 22) * (σ 155 22))).bind fun v182 =>
     (f_wr m181 156 4 (t1 - t1 / (σ 155 22) * (σ 155 22)) (v182 - t168)).bind fun m183 =>
     (
      if ¬ t163 = 0 then (
       (f_nt (p_328 (t1 - t1 / (σ 155 22) * (σ 155 22)) ((σ 155 26) + t164) ((1 : Int32) + t165) ((1 : Int32) + t166) t167 (f_up (f_up (f_up m183 155 27 ((m183 155 27) + t168)) 155 28 (((f_up m183 155 27 ((m183 155 27) + t168)) 155 28) + t168)) 155 24 (((f_up (f_up m183 155 27 ((m183 155 27) + t168)) 155 28 (((f_up m183 155 27 ((m183 155 27) + t168)) 155 28) + t168)) 155 24) + (1 : Int32))))).bind fun t185 =>
       some (t185.1, t185.2)
      ) else (
       (f_rd (f_up (f_up (f_up m183 155 27 ((m183 155 27) + t168)) 155 28 (((f_up m183 155 27 ((m183 155 27) + t168)) 155 28) + t168)) 155 24 (((f_up (f_up m183 155 27 ((m183 155 27) + t168)) 155 28 (((f_up m183 155 27 ((m183 155 27) + t168)) 155 28) + t168)) 155 24) + (1 : Int32))) 165 20 (σ 155 24)).bind fun v186 =>
       (f_nt (p_324 (t1 - t1 / (σ 155 22) * (σ 155 22)) ((σ 155 26) + t164) ((1 : Int32) + t165) ((1 : Int32) + t166) t167 v186 (f_up (f_up (f_up m183 155 27 ((m183 155 27) + t168)) 155 28 (((f_up m183 155 27 ((m183 155 27) + t168)) 155 28) + t168)) 155 24 (((f_up (f_up m183 155 27 ((m183 155 27) + t168)) 155 28 (((f_up m183 155 27 ((m183 155 27) + t168)) 155 28) + t168)) 155 24) + (1 : Int32))))).bind fun t187 =>
       some (t187.1, t187.2)
      )
     ).bind fun (t184 : Int32 × f_M) =>
     (
      if ¬ t184.1 = (σ 155 24) then (
       some false
      ) else (
       some true
      )
     ).bind fun (t189 : Bool) =>
     some (t189, t184.2)
    ) else (
     (l_isRefused ((1 : Int32) + t163) (t1 - t1 / (σ 155 22) * (σ 155 22)) ((σ 155 26) + t164) ((1 : Int32) + t165) ((1 : Int32) + t166) t167 σ).bind fun t191 =>
     some (t191.1, t191.2)
    )
   )
  ) else
  if t3 = (11 : Int32) then (
   if ¬ (σ 155 24) = 0 then (
    (l_bits a2 (8 : Int32) (5 : Int32) σ).bind fun t195 =>
    if (σ 155 24) = 0 then none else
    (p_225 (t195 - t195 / (σ 155 24) * (σ 155 24)) σ).bind fun t197 =>
    (l_obstacle (t195 - t195 / (σ 155 24) * (σ 155 24)) σ).bind fun t198 =>
    if t197 = t198 then (
     (l_obstacle (t195 - t195 / (σ 155 24) * (σ 155 24)) σ).bind fun t199 =>
     if t199 ≤ 0 then (
      (l_files (t195 - t195 / (σ 155 24) * (σ 155 24)) σ).bind fun t200 =>
      (f_nt (p_331 (t195 - t195 / (σ 155 24) * (σ 155 24)) t200.2)).bind fun t201 =>
      (
       if ¬ t201.1 = t200.1 then (
        some false
       ) else (
        some true
       )
      ).bind fun (t202 : Bool) =>
      some (t202, t201.2)
     ) else (
      (l_isRefused (0 : Int32) (t195 - t195 / (σ 155 24) * (σ 155 24)) (0 : Int32) (0 : Int32) (0 : Int32) (0 : Int32) σ).bind fun t204 =>
      some (t204.1, t204.2)
     )
    ) else (
     some (false, σ)
    )
   ) else (
    (g_194  σ).bind fun t207 =>
    (
     if ¬ t207 = 0 then (
      some false
     ) else (
      some true
     )
    ).bind fun (t208 : Bool) =>
    some (t208, σ)
   )
  ) else
  if t3 = (12 : Int32) then (
   if ¬ (σ 155 24) = 0 then (
    (l_bits a2 (8 : Int32) (5 : Int32) σ).bind fun t212 =>
    if (σ 155 24) = 0 then none else
    (p_225 (t212 - t212 / (σ 155 24) * (σ 155 24)) σ).bind fun t214 =>
    (l_obstacle (t212 - t212 / (σ 155 24) * (σ 155 24)) σ).bind fun t215 =>
    if t214 = t215 then (
     (l_obstacle (t212 - t212 / (σ 155 24) * (σ 155 24)) σ).bind fun t216 =>
     if t216 ≤ 0 then (
      (l_files (t212 - t212 / (σ 155 24) * (σ 155 24)) σ).bind fun t217 =>
      (f_nt (p_331 (t212 - t212 / (σ 155 24) * (σ 155 24)) t217.2)).bind fun t218 =>
      (
       if ¬ t218.1 = t217.1 then (
        some false
       ) else (
        some true
       )
      ).bind fun (t219 : Bool) =>
      some (t219, t218.2)
     ) else (
      (l_isRefused (0 : Int32) (t212 - t212 / (σ 155 24) * (σ 155 24)) (0 : Int32) (0 : Int32) (0 : Int32) (0 : Int32) σ).bind fun t221 =>
      some (t221.1, t221.2)
     )
    ) else (
     some (false, σ)
    )
   ) else (
    (g_194  σ).bind fun t224 =>
    (
     if ¬ t224 = 0 then (
      some false
     ) else (
      some true
     )
    ).bind fun (t225 : Bool) =>
    some (t225, σ)
   )
  ) else
  if t3 = (13 : Int32) then (
   if ¬ (σ 155 24) = 0 then (
    (l_bits a2 (8 : Int32) (5 : Int32) σ).bind fun t229 =>
    if (σ 155 24) = 0 then none else
    (p_225 (t229 - t229 / (σ 155 24) * (σ 155 24)) σ).bind fun t231 =>
    (l_obstacle (t229 - t229 / (σ 155 24) * (σ 155 24)) σ).bind fun t232 =>
    if t231 = t232 then (
     (l_obstacle (t229 - t229 / (σ 155 24) * (σ 155 24)) σ).bind fun t233 =>
     if t233 ≤ 0 then (
      (l_files (t229 - t229 / (σ 155 24) * (σ 155 24)) σ).bind fun t234 =>
      (f_nt (p_331 (t229 - t229 / (σ 155 24) * (σ 155 24)) t234.2)).bind fun t235 =>
      (
       if ¬ t235.1 = t234.1 then (
        some false
       ) else (
        some true
       )
      ).bind fun (t236 : Bool) =>
      some (t236, t235.2)
     ) else (
      (l_isRefused (0 : Int32) (t229 - t229 / (σ 155 24) * (σ 155 24)) (0 : Int32) (0 : Int32) (0 : Int32) (0 : Int32) σ).bind fun t238 =>
      some (t238.1, t238.2)
     )
    ) else (
     some (false, σ)
    )
   ) else (
    (g_194  σ).bind fun t241 =>
    (
     if ¬ t241 = 0 then (
      some false
     ) else (
      some true
     )
    ).bind fun (t242 : Bool) =>
    some (t242, σ)
   )
  ) else
  if t3 = (14 : Int32) then (
   if ¬ (σ 155 24) = 0 then (
    (l_bits a2 (8 : Int32) (5 : Int32) σ).bind fun t246 =>
    if (σ 155 24) = 0 then none else
    (p_225 (t246 - t246 / (σ 155 24) * (σ 155 24)) σ).bind fun t248 =>
    (l_obstacle (t246 - t246 / (σ 155 24) * (σ 155 24)) σ).bind fun t249 =>
    if t248 = t249 then (
     (l_obstacle (t246 - t246 / (σ 155 24) * (σ 155 24)) σ).bind fun t250 =>
     if t250 ≤ 0 then (
      (l_files (t246 - t246 / (σ 155 24) * (σ 155 24)) σ).bind fun t251 =>
      (f_nt (p_331 (t246 - t246 / (σ 155 24) * (σ 155 24)) t251.2)).bind fun t252 =>
      (
       if ¬ t252.1 = t251.1 then (
        some false
       ) else (
        some true
       )
      ).bind fun (t253 : Bool) =>
      some (t253, t252.2)
     ) else (
      (l_isRefused (0 : Int32) (t246 - t246 / (σ 155 24) * (σ 155 24)) (0 : Int32) (0 : Int32) (0 : Int32) (0 : Int32) σ).bind fun t255 =>
      some (t255.1, t255.2)
     )
    ) else (
     some (false, σ)
    )
   ) else (
    (g_194  σ).bind fun t258 =>
    (
     if ¬ t258 = 0 then (
      some false
     ) else (
      some true
     )
    ).bind fun (t259 : Bool) =>
    some (t259, σ)
   )
  ) else
  (
   (l_bits a2 (8 : Int32) (5 : Int32) σ).bind fun t263 =>
   (f_rd σ 156 4 (t1 - t1 / (σ 155 22) * (σ 155 22))).bind fun v264 =>
   (f_wr σ 156 4 (t1 - t1 / (σ 155 22) * (σ 155 22)) (v264 + ((1 : Int32) + t263))).bind fun m265 =>
   (p_334 (t1 - t1 / (σ 155 22) * (σ 155 22)) ((1 : Int32) + t263) (f_up m265 155 30 ((m265 155 30) + ((1 : Int32) + t263)))).bind fun t266 =>
   (f_rd t266.2 156 4 (t1 - t1 / (σ 155 22) * (σ 155 22))).bind fun v267 =>
   (
    if ¬ t266.1 = v267 then (
     some false
    ) else (
     some true
    )
   ).bind fun (t268 : Bool) =>
   some (t268, t266.2)
  )
set_option maxRecDepth 4000 in
set_option maxHeartbeats 1000000 in
theorem L_acts {xs : Nat → Int32} {L N : Nat} (hN : 181 ≤ N) (a2 : Int32) (a3 : Int32)  (σ : f_M) : f_Cal a_MT xs L N 136 [.ref 155, .ref 0, .int a2, .int a3] σ ((l_acts a2 a3 σ).bind fun t => some (e_wb t)) := by
  refine f_cal_of (ls := [.ref 155, .ref 0, .int a2, .int a3, a_dead, a_dead, a_dead, a_dead, a_dead, a_dead, a_dead, a_dead]) MT_136 (Nat.le_of_ble_eq_true rfl) rfl ?_
  unfold l_acts
  refine i_iload_n (pc' := 1) (f_at inc_136 (j := 0) rfl) rfl rfl ?_
  refine i_iconst (pc' := 2) (f_at inc_136 (j := 1) rfl) ci_4 rfl ?_
  refine i_iconst (pc' := 3) (f_at inc_136 (j := 2) rfl) ci_4 rfl ?_
  refine c_pi (pc' := 6) (c' := 1) (n' := 6) (h_stat (ra := [.int (4 : Int32), .int (4 : Int32), .int a2]) (r := []) (as := [.int a2, .int (4 : Int32), .int (4 : Int32)]) (f_at inc_136 (j := 3) rfl) (by decide) MT_37 rfl rfl rfl ⟨Nat.le_of_ble_eq_true rfl, Nat.le_of_ble_eq_true rfl, Nat.le_of_ble_eq_true rfl⟩) MT_37 (L_bits hN a2 (4 : Int32) (4 : Int32) σ) ⟨rfl, rfl, rfl⟩ fun t1 => ?_
  refine i_aload_n (pc' := 7) (f_at inc_136 (j := 4) rfl) rfl rfl ?_
  refine i_getI (pc' := 10) (f_at inc_136 (j := 5) rfl) sh_155 rfl (f_lt (o := 155) (m := 181) (Nat.le_of_ble_eq_true rfl) hN) rfl ?_
  refine i_grn fun h2 => ?_
  refine i_irem (pc' := 11) (f_at inc_136 (j := 6) rfl) h2 rfl ?_
  refine i_istore (pc' := 13) (ls' := [.ref 155, .ref 0, .int a2, .int a3, .int (t1 - t1 / (σ 155 22) * (σ 155 22)), a_dead, a_dead, a_dead, a_dead, a_dead, a_dead, a_dead]) (f_at inc_136 (j := 7) rfl) (Nat.le_of_ble_eq_true rfl) rfl rfl ?_
  refine i_iload_n (pc' := 14) (f_at inc_136 (j := 8) rfl) rfl rfl ?_
  refine i_iconst (pc' := 15) (f_at inc_136 (j := 9) rfl) ci_0 rfl ?_
  refine i_iconst (pc' := 16) (f_at inc_136 (j := 10) rfl) ci_4 rfl ?_
  refine c_pi (pc' := 19) (c' := 1) (n' := 6) (h_stat (ra := [.int (4 : Int32), .int (0 : Int32), .int a2]) (r := []) (as := [.int a2, .int (0 : Int32), .int (4 : Int32)]) (f_at inc_136 (j := 11) rfl) (by decide) MT_37 rfl rfl rfl ⟨Nat.le_of_ble_eq_true rfl, Nat.le_of_ble_eq_true rfl, Nat.le_of_ble_eq_true rfl⟩) MT_37 (L_bits hN a2 (0 : Int32) (4 : Int32) σ) ⟨rfl, rfl, rfl⟩ fun t3 => ?_
  refine i_cas (fun b12 => ?_) (fun b12 => ?_)
  · refine i_sw (pc' := 92) (v := (0 : Int32)) (f_at inc_136 (j := 12) rfl) b12 ⟨by decide, rfl⟩ (by decide) ?_
    refine i_iconst (pc' := 93) (f_at inc_136 (j := 13) rfl) ci_0 rfl ?_
    refine i_istore (pc' := 95) (ls' := [.ref 155, .ref 0, .int a2, .int a3, .int (t1 - t1 / (σ 155 22) * (σ 155 22)), .int (0 : Int32), a_dead, a_dead, a_dead, a_dead, a_dead, a_dead]) (f_at inc_136 (j := 14) rfl) (Nat.le_of_ble_eq_true rfl) rfl rfl ?_
    refine s_lR ((0 : Int32), σ) (a_dead, a_dead) (fun (s4 : Int32 × f_M) (u4 : Value × Value) => [.ref 155, .ref 0, .int a2, .int a3, .int (t1 - t1 / (σ 155 22) * (σ 155 22)), .int s4.1, u4.1, u4.2, a_dead, a_dead, a_dead, a_dead]) (fun (s4 : Int32 × f_M) => s4.2) ?_
    intro s4 u4 k4 hb4 hr4
    refine i_iload (pc' := 97) (f_at inc_136 (j := 15) rfl) rfl rfl ?_
    refine i_iload_n (pc' := 98) (f_at inc_136 (j := 16) rfl) rfl rfl ?_
    refine i_iconst (pc' := 99) (f_at inc_136 (j := 17) rfl) ci_4 rfl ?_
    refine i_iconst (pc' := 100) (f_at inc_136 (j := 18) rfl) ci_2 rfl ?_
    refine c_pi (pc' := 103) (c' := 1) (n' := 6) (h_stat (ra := [.int (2 : Int32), .int (4 : Int32), .int a2]) (r := [.int s4.1]) (as := [.int a2, .int (4 : Int32), .int (2 : Int32)]) (f_at inc_136 (j := 19) rfl) (by decide) MT_37 rfl rfl rfl ⟨Nat.le_of_ble_eq_true rfl, Nat.le_of_ble_eq_true rfl, Nat.le_of_ble_eq_true rfl⟩) MT_37 (L_bits hN a2 (4 : Int32) (2 : Int32) s4.2) ⟨rfl, rfl, rfl⟩ fun t5 => ?_
    refine i_if2 (pc' := 158) (nx := 106) c2_gt (f_at inc_136 (j := 20) rfl) ⟨by decide, rfl⟩ (fun b11 => ?_) (fun b11 => ?_)
    · refine i_iconst (pc' := 159) (f_at inc_136 (j := 50) rfl) ci_1 rfl ?_
      refine s_rt (hr4 _) ?_
      exact i_iret (v := f_b true) (f_at inc_136 (j := 51) rfl) rfl n_bool
    · refine i_iload_n (pc' := 107) (f_at inc_136 (j := 21) rfl) rfl rfl ?_
      refine i_iconst (pc' := 108) (f_at inc_136 (j := 22) rfl) ci_4 rfl ?_
      refine i_iload (pc' := 110) (f_at inc_136 (j := 23) rfl) rfl rfl ?_
      refine i_imul (pc' := 111) (f_at inc_136 (j := 24) rfl) rfl ?_
      refine i_bipush (pc' := 113) (f_at inc_136 (j := 25) rfl) cb_6 rfl ?_
      refine c_pi (pc' := 116) (c' := 1) (n' := 6) (h_stat (ra := [.int (6 : Int32), .int ((4 : Int32) * s4.1), .int a3]) (r := []) (as := [.int a3, .int ((4 : Int32) * s4.1), .int (6 : Int32)]) (f_at inc_136 (j := 26) rfl) (by decide) MT_37 rfl rfl rfl ⟨Nat.le_of_ble_eq_true rfl, Nat.le_of_ble_eq_true rfl, Nat.le_of_ble_eq_true rfl⟩) MT_37 (L_bits hN a3 ((4 : Int32) * s4.1) (6 : Int32) s4.2) ⟨rfl, rfl, rfl⟩ fun t6 => ?_
      refine i_istore (pc' := 118) (ls' := [.ref 155, .ref 0, .int a2, .int a3, .int (t1 - t1 / (σ 155 22) * (σ 155 22)), .int s4.1, .int t6, u4.2, a_dead, a_dead, a_dead, a_dead]) (f_at inc_136 (j := 27) rfl) (Nat.le_of_ble_eq_true rfl) rfl rfl ?_
      refine i_iload_n (pc' := 119) (f_at inc_136 (j := 28) rfl) rfl rfl ?_
      refine i_iconst (pc' := 120) (f_at inc_136 (j := 29) rfl) ci_3 rfl ?_
      refine i_iconst (pc' := 121) (f_at inc_136 (j := 30) rfl) ci_4 rfl ?_
      refine i_iload (pc' := 123) (f_at inc_136 (j := 31) rfl) rfl rfl ?_
      refine i_imul (pc' := 124) (f_at inc_136 (j := 32) rfl) rfl ?_
      refine i_iadd (pc' := 125) (f_at inc_136 (j := 33) rfl) rfl ?_
      refine i_iconst (pc' := 126) (f_at inc_136 (j := 34) rfl) ci_3 rfl ?_
      refine c_pi (pc' := 129) (c' := 1) (n' := 6) (h_stat (ra := [.int (3 : Int32), .int ((3 : Int32) + ((4 : Int32) * s4.1)), .int a3]) (r := []) (as := [.int a3, .int ((3 : Int32) + ((4 : Int32) * s4.1)), .int (3 : Int32)]) (f_at inc_136 (j := 35) rfl) (by decide) MT_37 rfl rfl rfl ⟨Nat.le_of_ble_eq_true rfl, Nat.le_of_ble_eq_true rfl, Nat.le_of_ble_eq_true rfl⟩) MT_37 (L_bits hN a3 ((3 : Int32) + ((4 : Int32) * s4.1)) (3 : Int32) s4.2) ⟨rfl, rfl, rfl⟩ fun t7 => ?_
      refine i_istore (pc' := 131) (ls' := [.ref 155, .ref 0, .int a2, .int a3, .int (t1 - t1 / (σ 155 22) * (σ 155 22)), .int s4.1, .int t6, .int t7, a_dead, a_dead, a_dead, a_dead]) (f_at inc_136 (j := 36) rfl) (Nat.le_of_ble_eq_true rfl) rfl rfl ?_
      refine i_aload_n (pc' := 132) (f_at inc_136 (j := 37) rfl) rfl rfl ?_
      refine i_iload (pc' := 134) (f_at inc_136 (j := 38) rfl) rfl rfl ?_
      refine i_iload (pc' := 136) (f_at inc_136 (j := 39) rfl) rfl rfl ?_
      refine c_wi (pc' := 139) (c' := 1) (n' := 6) (h_virt (ra := [.int t7, .int t6, .ref 0]) (r := []) (as := [.int t6, .int t7]) (f_at inc_136 (j := 40) rfl) (by decide) MT_117 rfl rfl rfl ⟨Nat.le_of_ble_eq_true rfl, Nat.le_of_ble_eq_true rfl, Nat.le_of_ble_eq_true rfl⟩ sh_0 (f_lt (o := 0) (m := 181) (Nat.le_of_ble_eq_true rfl) hN)) MT_117 (P_319 (Nat.le_trans (Nat.le_of_ble_eq_true rfl) hN) t6 t7 s4.2) ⟨rfl, rfl, rfl⟩ fun t8 => ?_
      refine i_aload_n (pc' := 140) (f_at inc_136 (j := 41) rfl) rfl rfl ?_
      refine i_iload (pc' := 142) (f_at inc_136 (j := 42) rfl) rfl rfl ?_
      refine i_iload (pc' := 144) (f_at inc_136 (j := 43) rfl) rfl rfl ?_
      refine c_wi (pc' := 147) (c' := 1) (n' := 6) (h_virt (ra := [.int t7, .int t6, .ref 155]) (r := [.int t8.1]) (as := [.int t6, .int t7]) (f_at inc_136 (j := 44) rfl) (by decide) MT_118 rfl rfl rfl ⟨Nat.le_of_ble_eq_true rfl, Nat.le_of_ble_eq_true rfl, Nat.le_of_ble_eq_true rfl⟩ sh_155 (f_lt (o := 155) (m := 181) (Nat.le_of_ble_eq_true rfl) hN)) MT_118 (L_passes hN t6 t7 t8.2) ⟨rfl, rfl, rfl⟩ fun t9 => ?_
      refine i_if2 (pc' := 152) (nx := 150) c2_eq (f_at inc_136 (j := 45) rfl) ⟨by decide, rfl⟩ (fun b10 => ?_) (fun b10 => ?_)
      · refine i_iinc (pc' := 155) (ls' := [.ref 155, .ref 0, .int a2, .int a3, .int (t1 - t1 / (σ 155 22) * (σ 155 22)), .int (s4.1 + (1 : Int32)), .int t6, .int t7, a_dead, a_dead, a_dead, a_dead]) (f_at inc_136 (j := 48) rfl) rfl ci_1 rfl rfl ?_
        refine i_goto (pc' := 95) (f_at inc_136 (j := 49) rfl) (by decide) ?_
        exact hb4 ((s4.1 + (1 : Int32)), t9.2) (.int t6, .int t7)
      · refine i_iconst (pc' := 151) (f_at inc_136 (j := 46) rfl) ci_0 rfl ?_
        refine s_rt (hr4 _) ?_
        exact i_iret (v := f_b false) (f_at inc_136 (j := 47) rfl) rfl n_bool
  refine i_cas (fun b21 => ?_) (fun b21 => ?_)
  · refine i_sw (pc' := 92) (v := (1 : Int32)) (f_at inc_136 (j := 12) rfl) b21 ⟨by decide, rfl⟩ (by decide) ?_
    refine i_iconst (pc' := 93) (f_at inc_136 (j := 13) rfl) ci_0 rfl ?_
    refine i_istore (pc' := 95) (ls' := [.ref 155, .ref 0, .int a2, .int a3, .int (t1 - t1 / (σ 155 22) * (σ 155 22)), .int (0 : Int32), a_dead, a_dead, a_dead, a_dead, a_dead, a_dead]) (f_at inc_136 (j := 14) rfl) (Nat.le_of_ble_eq_true rfl) rfl rfl ?_
    refine s_lR ((0 : Int32), σ) (a_dead, a_dead) (fun (s13 : Int32 × f_M) (u13 : Value × Value) => [.ref 155, .ref 0, .int a2, .int a3, .int (t1 - t1 / (σ 155 22) * (σ 155 22)), .int s13.1, u13.1, u13.2, a_dead, a_dead, a_dead, a_dead]) (fun (s13 : Int32 × f_M) => s13.2) ?_
    intro s13 u13 k13 hb13 hr13
    refine i_iload (pc' := 97) (f_at inc_136 (j := 15) rfl) rfl rfl ?_
    refine i_iload_n (pc' := 98) (f_at inc_136 (j := 16) rfl) rfl rfl ?_
    refine i_iconst (pc' := 99) (f_at inc_136 (j := 17) rfl) ci_4 rfl ?_
    refine i_iconst (pc' := 100) (f_at inc_136 (j := 18) rfl) ci_2 rfl ?_
    refine c_pi (pc' := 103) (c' := 1) (n' := 6) (h_stat (ra := [.int (2 : Int32), .int (4 : Int32), .int a2]) (r := [.int s13.1]) (as := [.int a2, .int (4 : Int32), .int (2 : Int32)]) (f_at inc_136 (j := 19) rfl) (by decide) MT_37 rfl rfl rfl ⟨Nat.le_of_ble_eq_true rfl, Nat.le_of_ble_eq_true rfl, Nat.le_of_ble_eq_true rfl⟩) MT_37 (L_bits hN a2 (4 : Int32) (2 : Int32) s13.2) ⟨rfl, rfl, rfl⟩ fun t14 => ?_
    refine i_if2 (pc' := 158) (nx := 106) c2_gt (f_at inc_136 (j := 20) rfl) ⟨by decide, rfl⟩ (fun b20 => ?_) (fun b20 => ?_)
    · refine i_iconst (pc' := 159) (f_at inc_136 (j := 50) rfl) ci_1 rfl ?_
      refine s_rt (hr13 _) ?_
      exact i_iret (v := f_b true) (f_at inc_136 (j := 51) rfl) rfl n_bool
    · refine i_iload_n (pc' := 107) (f_at inc_136 (j := 21) rfl) rfl rfl ?_
      refine i_iconst (pc' := 108) (f_at inc_136 (j := 22) rfl) ci_4 rfl ?_
      refine i_iload (pc' := 110) (f_at inc_136 (j := 23) rfl) rfl rfl ?_
      refine i_imul (pc' := 111) (f_at inc_136 (j := 24) rfl) rfl ?_
      refine i_bipush (pc' := 113) (f_at inc_136 (j := 25) rfl) cb_6 rfl ?_
      refine c_pi (pc' := 116) (c' := 1) (n' := 6) (h_stat (ra := [.int (6 : Int32), .int ((4 : Int32) * s13.1), .int a3]) (r := []) (as := [.int a3, .int ((4 : Int32) * s13.1), .int (6 : Int32)]) (f_at inc_136 (j := 26) rfl) (by decide) MT_37 rfl rfl rfl ⟨Nat.le_of_ble_eq_true rfl, Nat.le_of_ble_eq_true rfl, Nat.le_of_ble_eq_true rfl⟩) MT_37 (L_bits hN a3 ((4 : Int32) * s13.1) (6 : Int32) s13.2) ⟨rfl, rfl, rfl⟩ fun t15 => ?_
      refine i_istore (pc' := 118) (ls' := [.ref 155, .ref 0, .int a2, .int a3, .int (t1 - t1 / (σ 155 22) * (σ 155 22)), .int s13.1, .int t15, u13.2, a_dead, a_dead, a_dead, a_dead]) (f_at inc_136 (j := 27) rfl) (Nat.le_of_ble_eq_true rfl) rfl rfl ?_
      refine i_iload_n (pc' := 119) (f_at inc_136 (j := 28) rfl) rfl rfl ?_
      refine i_iconst (pc' := 120) (f_at inc_136 (j := 29) rfl) ci_3 rfl ?_
      refine i_iconst (pc' := 121) (f_at inc_136 (j := 30) rfl) ci_4 rfl ?_
      refine i_iload (pc' := 123) (f_at inc_136 (j := 31) rfl) rfl rfl ?_
      refine i_imul (pc' := 124) (f_at inc_136 (j := 32) rfl) rfl ?_
      refine i_iadd (pc' := 125) (f_at inc_136 (j := 33) rfl) rfl ?_
      refine i_iconst (pc' := 126) (f_at inc_136 (j := 34) rfl) ci_3 rfl ?_
      refine c_pi (pc' := 129) (c' := 1) (n' := 6) (h_stat (ra := [.int (3 : Int32), .int ((3 : Int32) + ((4 : Int32) * s13.1)), .int a3]) (r := []) (as := [.int a3, .int ((3 : Int32) + ((4 : Int32) * s13.1)), .int (3 : Int32)]) (f_at inc_136 (j := 35) rfl) (by decide) MT_37 rfl rfl rfl ⟨Nat.le_of_ble_eq_true rfl, Nat.le_of_ble_eq_true rfl, Nat.le_of_ble_eq_true rfl⟩) MT_37 (L_bits hN a3 ((3 : Int32) + ((4 : Int32) * s13.1)) (3 : Int32) s13.2) ⟨rfl, rfl, rfl⟩ fun t16 => ?_
      refine i_istore (pc' := 131) (ls' := [.ref 155, .ref 0, .int a2, .int a3, .int (t1 - t1 / (σ 155 22) * (σ 155 22)), .int s13.1, .int t15, .int t16, a_dead, a_dead, a_dead, a_dead]) (f_at inc_136 (j := 36) rfl) (Nat.le_of_ble_eq_true rfl) rfl rfl ?_
      refine i_aload_n (pc' := 132) (f_at inc_136 (j := 37) rfl) rfl rfl ?_
      refine i_iload (pc' := 134) (f_at inc_136 (j := 38) rfl) rfl rfl ?_
      refine i_iload (pc' := 136) (f_at inc_136 (j := 39) rfl) rfl rfl ?_
      refine c_wi (pc' := 139) (c' := 1) (n' := 6) (h_virt (ra := [.int t16, .int t15, .ref 0]) (r := []) (as := [.int t15, .int t16]) (f_at inc_136 (j := 40) rfl) (by decide) MT_117 rfl rfl rfl ⟨Nat.le_of_ble_eq_true rfl, Nat.le_of_ble_eq_true rfl, Nat.le_of_ble_eq_true rfl⟩ sh_0 (f_lt (o := 0) (m := 181) (Nat.le_of_ble_eq_true rfl) hN)) MT_117 (P_319 (Nat.le_trans (Nat.le_of_ble_eq_true rfl) hN) t15 t16 s13.2) ⟨rfl, rfl, rfl⟩ fun t17 => ?_
      refine i_aload_n (pc' := 140) (f_at inc_136 (j := 41) rfl) rfl rfl ?_
      refine i_iload (pc' := 142) (f_at inc_136 (j := 42) rfl) rfl rfl ?_
      refine i_iload (pc' := 144) (f_at inc_136 (j := 43) rfl) rfl rfl ?_
      refine c_wi (pc' := 147) (c' := 1) (n' := 6) (h_virt (ra := [.int t16, .int t15, .ref 155]) (r := [.int t17.1]) (as := [.int t15, .int t16]) (f_at inc_136 (j := 44) rfl) (by decide) MT_118 rfl rfl rfl ⟨Nat.le_of_ble_eq_true rfl, Nat.le_of_ble_eq_true rfl, Nat.le_of_ble_eq_true rfl⟩ sh_155 (f_lt (o := 155) (m := 181) (Nat.le_of_ble_eq_true rfl) hN)) MT_118 (L_passes hN t15 t16 t17.2) ⟨rfl, rfl, rfl⟩ fun t18 => ?_
      refine i_if2 (pc' := 152) (nx := 150) c2_eq (f_at inc_136 (j := 45) rfl) ⟨by decide, rfl⟩ (fun b19 => ?_) (fun b19 => ?_)
      · refine i_iinc (pc' := 155) (ls' := [.ref 155, .ref 0, .int a2, .int a3, .int (t1 - t1 / (σ 155 22) * (σ 155 22)), .int (s13.1 + (1 : Int32)), .int t15, .int t16, a_dead, a_dead, a_dead, a_dead]) (f_at inc_136 (j := 48) rfl) rfl ci_1 rfl rfl ?_
        refine i_goto (pc' := 95) (f_at inc_136 (j := 49) rfl) (by decide) ?_
        exact hb13 ((s13.1 + (1 : Int32)), t18.2) (.int t15, .int t16)
      · refine i_iconst (pc' := 151) (f_at inc_136 (j := 46) rfl) ci_0 rfl ?_
        refine s_rt (hr13 _) ?_
        exact i_iret (v := f_b false) (f_at inc_136 (j := 47) rfl) rfl n_bool
  refine i_cas (fun b30 => ?_) (fun b30 => ?_)
  · refine i_sw (pc' := 92) (v := (2 : Int32)) (f_at inc_136 (j := 12) rfl) b30 ⟨by decide, rfl⟩ (by decide) ?_
    refine i_iconst (pc' := 93) (f_at inc_136 (j := 13) rfl) ci_0 rfl ?_
    refine i_istore (pc' := 95) (ls' := [.ref 155, .ref 0, .int a2, .int a3, .int (t1 - t1 / (σ 155 22) * (σ 155 22)), .int (0 : Int32), a_dead, a_dead, a_dead, a_dead, a_dead, a_dead]) (f_at inc_136 (j := 14) rfl) (Nat.le_of_ble_eq_true rfl) rfl rfl ?_
    refine s_lR ((0 : Int32), σ) (a_dead, a_dead) (fun (s22 : Int32 × f_M) (u22 : Value × Value) => [.ref 155, .ref 0, .int a2, .int a3, .int (t1 - t1 / (σ 155 22) * (σ 155 22)), .int s22.1, u22.1, u22.2, a_dead, a_dead, a_dead, a_dead]) (fun (s22 : Int32 × f_M) => s22.2) ?_
    intro s22 u22 k22 hb22 hr22
    refine i_iload (pc' := 97) (f_at inc_136 (j := 15) rfl) rfl rfl ?_
    refine i_iload_n (pc' := 98) (f_at inc_136 (j := 16) rfl) rfl rfl ?_
    refine i_iconst (pc' := 99) (f_at inc_136 (j := 17) rfl) ci_4 rfl ?_
    refine i_iconst (pc' := 100) (f_at inc_136 (j := 18) rfl) ci_2 rfl ?_
    refine c_pi (pc' := 103) (c' := 1) (n' := 6) (h_stat (ra := [.int (2 : Int32), .int (4 : Int32), .int a2]) (r := [.int s22.1]) (as := [.int a2, .int (4 : Int32), .int (2 : Int32)]) (f_at inc_136 (j := 19) rfl) (by decide) MT_37 rfl rfl rfl ⟨Nat.le_of_ble_eq_true rfl, Nat.le_of_ble_eq_true rfl, Nat.le_of_ble_eq_true rfl⟩) MT_37 (L_bits hN a2 (4 : Int32) (2 : Int32) s22.2) ⟨rfl, rfl, rfl⟩ fun t23 => ?_
    refine i_if2 (pc' := 158) (nx := 106) c2_gt (f_at inc_136 (j := 20) rfl) ⟨by decide, rfl⟩ (fun b29 => ?_) (fun b29 => ?_)
    · refine i_iconst (pc' := 159) (f_at inc_136 (j := 50) rfl) ci_1 rfl ?_
      refine s_rt (hr22 _) ?_
      exact i_iret (v := f_b true) (f_at inc_136 (j := 51) rfl) rfl n_bool
    · refine i_iload_n (pc' := 107) (f_at inc_136 (j := 21) rfl) rfl rfl ?_
      refine i_iconst (pc' := 108) (f_at inc_136 (j := 22) rfl) ci_4 rfl ?_
      refine i_iload (pc' := 110) (f_at inc_136 (j := 23) rfl) rfl rfl ?_
      refine i_imul (pc' := 111) (f_at inc_136 (j := 24) rfl) rfl ?_
      refine i_bipush (pc' := 113) (f_at inc_136 (j := 25) rfl) cb_6 rfl ?_
      refine c_pi (pc' := 116) (c' := 1) (n' := 6) (h_stat (ra := [.int (6 : Int32), .int ((4 : Int32) * s22.1), .int a3]) (r := []) (as := [.int a3, .int ((4 : Int32) * s22.1), .int (6 : Int32)]) (f_at inc_136 (j := 26) rfl) (by decide) MT_37 rfl rfl rfl ⟨Nat.le_of_ble_eq_true rfl, Nat.le_of_ble_eq_true rfl, Nat.le_of_ble_eq_true rfl⟩) MT_37 (L_bits hN a3 ((4 : Int32) * s22.1) (6 : Int32) s22.2) ⟨rfl, rfl, rfl⟩ fun t24 => ?_
      refine i_istore (pc' := 118) (ls' := [.ref 155, .ref 0, .int a2, .int a3, .int (t1 - t1 / (σ 155 22) * (σ 155 22)), .int s22.1, .int t24, u22.2, a_dead, a_dead, a_dead, a_dead]) (f_at inc_136 (j := 27) rfl) (Nat.le_of_ble_eq_true rfl) rfl rfl ?_
      refine i_iload_n (pc' := 119) (f_at inc_136 (j := 28) rfl) rfl rfl ?_
      refine i_iconst (pc' := 120) (f_at inc_136 (j := 29) rfl) ci_3 rfl ?_
      refine i_iconst (pc' := 121) (f_at inc_136 (j := 30) rfl) ci_4 rfl ?_
      refine i_iload (pc' := 123) (f_at inc_136 (j := 31) rfl) rfl rfl ?_
      refine i_imul (pc' := 124) (f_at inc_136 (j := 32) rfl) rfl ?_
      refine i_iadd (pc' := 125) (f_at inc_136 (j := 33) rfl) rfl ?_
      refine i_iconst (pc' := 126) (f_at inc_136 (j := 34) rfl) ci_3 rfl ?_
      refine c_pi (pc' := 129) (c' := 1) (n' := 6) (h_stat (ra := [.int (3 : Int32), .int ((3 : Int32) + ((4 : Int32) * s22.1)), .int a3]) (r := []) (as := [.int a3, .int ((3 : Int32) + ((4 : Int32) * s22.1)), .int (3 : Int32)]) (f_at inc_136 (j := 35) rfl) (by decide) MT_37 rfl rfl rfl ⟨Nat.le_of_ble_eq_true rfl, Nat.le_of_ble_eq_true rfl, Nat.le_of_ble_eq_true rfl⟩) MT_37 (L_bits hN a3 ((3 : Int32) + ((4 : Int32) * s22.1)) (3 : Int32) s22.2) ⟨rfl, rfl, rfl⟩ fun t25 => ?_
      refine i_istore (pc' := 131) (ls' := [.ref 155, .ref 0, .int a2, .int a3, .int (t1 - t1 / (σ 155 22) * (σ 155 22)), .int s22.1, .int t24, .int t25, a_dead, a_dead, a_dead, a_dead]) (f_at inc_136 (j := 36) rfl) (Nat.le_of_ble_eq_true rfl) rfl rfl ?_
      refine i_aload_n (pc' := 132) (f_at inc_136 (j := 37) rfl) rfl rfl ?_
      refine i_iload (pc' := 134) (f_at inc_136 (j := 38) rfl) rfl rfl ?_
      refine i_iload (pc' := 136) (f_at inc_136 (j := 39) rfl) rfl rfl ?_
      refine c_wi (pc' := 139) (c' := 1) (n' := 6) (h_virt (ra := [.int t25, .int t24, .ref 0]) (r := []) (as := [.int t24, .int t25]) (f_at inc_136 (j := 40) rfl) (by decide) MT_117 rfl rfl rfl ⟨Nat.le_of_ble_eq_true rfl, Nat.le_of_ble_eq_true rfl, Nat.le_of_ble_eq_true rfl⟩ sh_0 (f_lt (o := 0) (m := 181) (Nat.le_of_ble_eq_true rfl) hN)) MT_117 (P_319 (Nat.le_trans (Nat.le_of_ble_eq_true rfl) hN) t24 t25 s22.2) ⟨rfl, rfl, rfl⟩ fun t26 => ?_
      refine i_aload_n (pc' := 140) (f_at inc_136 (j := 41) rfl) rfl rfl ?_
      refine i_iload (pc' := 142) (f_at inc_136 (j := 42) rfl) rfl rfl ?_
      refine i_iload (pc' := 144) (f_at inc_136 (j := 43) rfl) rfl rfl ?_
      refine c_wi (pc' := 147) (c' := 1) (n' := 6) (h_virt (ra := [.int t25, .int t24, .ref 155]) (r := [.int t26.1]) (as := [.int t24, .int t25]) (f_at inc_136 (j := 44) rfl) (by decide) MT_118 rfl rfl rfl ⟨Nat.le_of_ble_eq_true rfl, Nat.le_of_ble_eq_true rfl, Nat.le_of_ble_eq_true rfl⟩ sh_155 (f_lt (o := 155) (m := 181) (Nat.le_of_ble_eq_true rfl) hN)) MT_118 (L_passes hN t24 t25 t26.2) ⟨rfl, rfl, rfl⟩ fun t27 => ?_
      refine i_if2 (pc' := 152) (nx := 150) c2_eq (f_at inc_136 (j := 45) rfl) ⟨by decide, rfl⟩ (fun b28 => ?_) (fun b28 => ?_)
      · refine i_iinc (pc' := 155) (ls' := [.ref 155, .ref 0, .int a2, .int a3, .int (t1 - t1 / (σ 155 22) * (σ 155 22)), .int (s22.1 + (1 : Int32)), .int t24, .int t25, a_dead, a_dead, a_dead, a_dead]) (f_at inc_136 (j := 48) rfl) rfl ci_1 rfl rfl ?_
        refine i_goto (pc' := 95) (f_at inc_136 (j := 49) rfl) (by decide) ?_
        exact hb22 ((s22.1 + (1 : Int32)), t27.2) (.int t24, .int t25)
      · refine i_iconst (pc' := 151) (f_at inc_136 (j := 46) rfl) ci_0 rfl ?_
        refine s_rt (hr22 _) ?_
        exact i_iret (v := f_b false) (f_at inc_136 (j := 47) rfl) rfl n_bool
  refine i_cas (fun b39 => ?_) (fun b39 => ?_)
  · refine i_sw (pc' := 92) (v := (3 : Int32)) (f_at inc_136 (j := 12) rfl) b39 ⟨by decide, rfl⟩ (by decide) ?_
    refine i_iconst (pc' := 93) (f_at inc_136 (j := 13) rfl) ci_0 rfl ?_
    refine i_istore (pc' := 95) (ls' := [.ref 155, .ref 0, .int a2, .int a3, .int (t1 - t1 / (σ 155 22) * (σ 155 22)), .int (0 : Int32), a_dead, a_dead, a_dead, a_dead, a_dead, a_dead]) (f_at inc_136 (j := 14) rfl) (Nat.le_of_ble_eq_true rfl) rfl rfl ?_
    refine s_lR ((0 : Int32), σ) (a_dead, a_dead) (fun (s31 : Int32 × f_M) (u31 : Value × Value) => [.ref 155, .ref 0, .int a2, .int a3, .int (t1 - t1 / (σ 155 22) * (σ 155 22)), .int s31.1, u31.1, u31.2, a_dead, a_dead, a_dead, a_dead]) (fun (s31 : Int32 × f_M) => s31.2) ?_
    intro s31 u31 k31 hb31 hr31
    refine i_iload (pc' := 97) (f_at inc_136 (j := 15) rfl) rfl rfl ?_
    refine i_iload_n (pc' := 98) (f_at inc_136 (j := 16) rfl) rfl rfl ?_
    refine i_iconst (pc' := 99) (f_at inc_136 (j := 17) rfl) ci_4 rfl ?_
    refine i_iconst (pc' := 100) (f_at inc_136 (j := 18) rfl) ci_2 rfl ?_
    refine c_pi (pc' := 103) (c' := 1) (n' := 6) (h_stat (ra := [.int (2 : Int32), .int (4 : Int32), .int a2]) (r := [.int s31.1]) (as := [.int a2, .int (4 : Int32), .int (2 : Int32)]) (f_at inc_136 (j := 19) rfl) (by decide) MT_37 rfl rfl rfl ⟨Nat.le_of_ble_eq_true rfl, Nat.le_of_ble_eq_true rfl, Nat.le_of_ble_eq_true rfl⟩) MT_37 (L_bits hN a2 (4 : Int32) (2 : Int32) s31.2) ⟨rfl, rfl, rfl⟩ fun t32 => ?_
    refine i_if2 (pc' := 158) (nx := 106) c2_gt (f_at inc_136 (j := 20) rfl) ⟨by decide, rfl⟩ (fun b38 => ?_) (fun b38 => ?_)
    · refine i_iconst (pc' := 159) (f_at inc_136 (j := 50) rfl) ci_1 rfl ?_
      refine s_rt (hr31 _) ?_
      exact i_iret (v := f_b true) (f_at inc_136 (j := 51) rfl) rfl n_bool
    · refine i_iload_n (pc' := 107) (f_at inc_136 (j := 21) rfl) rfl rfl ?_
      refine i_iconst (pc' := 108) (f_at inc_136 (j := 22) rfl) ci_4 rfl ?_
      refine i_iload (pc' := 110) (f_at inc_136 (j := 23) rfl) rfl rfl ?_
      refine i_imul (pc' := 111) (f_at inc_136 (j := 24) rfl) rfl ?_
      refine i_bipush (pc' := 113) (f_at inc_136 (j := 25) rfl) cb_6 rfl ?_
      refine c_pi (pc' := 116) (c' := 1) (n' := 6) (h_stat (ra := [.int (6 : Int32), .int ((4 : Int32) * s31.1), .int a3]) (r := []) (as := [.int a3, .int ((4 : Int32) * s31.1), .int (6 : Int32)]) (f_at inc_136 (j := 26) rfl) (by decide) MT_37 rfl rfl rfl ⟨Nat.le_of_ble_eq_true rfl, Nat.le_of_ble_eq_true rfl, Nat.le_of_ble_eq_true rfl⟩) MT_37 (L_bits hN a3 ((4 : Int32) * s31.1) (6 : Int32) s31.2) ⟨rfl, rfl, rfl⟩ fun t33 => ?_
      refine i_istore (pc' := 118) (ls' := [.ref 155, .ref 0, .int a2, .int a3, .int (t1 - t1 / (σ 155 22) * (σ 155 22)), .int s31.1, .int t33, u31.2, a_dead, a_dead, a_dead, a_dead]) (f_at inc_136 (j := 27) rfl) (Nat.le_of_ble_eq_true rfl) rfl rfl ?_
      refine i_iload_n (pc' := 119) (f_at inc_136 (j := 28) rfl) rfl rfl ?_
      refine i_iconst (pc' := 120) (f_at inc_136 (j := 29) rfl) ci_3 rfl ?_
      refine i_iconst (pc' := 121) (f_at inc_136 (j := 30) rfl) ci_4 rfl ?_
      refine i_iload (pc' := 123) (f_at inc_136 (j := 31) rfl) rfl rfl ?_
      refine i_imul (pc' := 124) (f_at inc_136 (j := 32) rfl) rfl ?_
      refine i_iadd (pc' := 125) (f_at inc_136 (j := 33) rfl) rfl ?_
      refine i_iconst (pc' := 126) (f_at inc_136 (j := 34) rfl) ci_3 rfl ?_
      refine c_pi (pc' := 129) (c' := 1) (n' := 6) (h_stat (ra := [.int (3 : Int32), .int ((3 : Int32) + ((4 : Int32) * s31.1)), .int a3]) (r := []) (as := [.int a3, .int ((3 : Int32) + ((4 : Int32) * s31.1)), .int (3 : Int32)]) (f_at inc_136 (j := 35) rfl) (by decide) MT_37 rfl rfl rfl ⟨Nat.le_of_ble_eq_true rfl, Nat.le_of_ble_eq_true rfl, Nat.le_of_ble_eq_true rfl⟩) MT_37 (L_bits hN a3 ((3 : Int32) + ((4 : Int32) * s31.1)) (3 : Int32) s31.2) ⟨rfl, rfl, rfl⟩ fun t34 => ?_
      refine i_istore (pc' := 131) (ls' := [.ref 155, .ref 0, .int a2, .int a3, .int (t1 - t1 / (σ 155 22) * (σ 155 22)), .int s31.1, .int t33, .int t34, a_dead, a_dead, a_dead, a_dead]) (f_at inc_136 (j := 36) rfl) (Nat.le_of_ble_eq_true rfl) rfl rfl ?_
      refine i_aload_n (pc' := 132) (f_at inc_136 (j := 37) rfl) rfl rfl ?_
      refine i_iload (pc' := 134) (f_at inc_136 (j := 38) rfl) rfl rfl ?_
      refine i_iload (pc' := 136) (f_at inc_136 (j := 39) rfl) rfl rfl ?_
      refine c_wi (pc' := 139) (c' := 1) (n' := 6) (h_virt (ra := [.int t34, .int t33, .ref 0]) (r := []) (as := [.int t33, .int t34]) (f_at inc_136 (j := 40) rfl) (by decide) MT_117 rfl rfl rfl ⟨Nat.le_of_ble_eq_true rfl, Nat.le_of_ble_eq_true rfl, Nat.le_of_ble_eq_true rfl⟩ sh_0 (f_lt (o := 0) (m := 181) (Nat.le_of_ble_eq_true rfl) hN)) MT_117 (P_319 (Nat.le_trans (Nat.le_of_ble_eq_true rfl) hN) t33 t34 s31.2) ⟨rfl, rfl, rfl⟩ fun t35 => ?_
      refine i_aload_n (pc' := 140) (f_at inc_136 (j := 41) rfl) rfl rfl ?_
      refine i_iload (pc' := 142) (f_at inc_136 (j := 42) rfl) rfl rfl ?_
      refine i_iload (pc' := 144) (f_at inc_136 (j := 43) rfl) rfl rfl ?_
      refine c_wi (pc' := 147) (c' := 1) (n' := 6) (h_virt (ra := [.int t34, .int t33, .ref 155]) (r := [.int t35.1]) (as := [.int t33, .int t34]) (f_at inc_136 (j := 44) rfl) (by decide) MT_118 rfl rfl rfl ⟨Nat.le_of_ble_eq_true rfl, Nat.le_of_ble_eq_true rfl, Nat.le_of_ble_eq_true rfl⟩ sh_155 (f_lt (o := 155) (m := 181) (Nat.le_of_ble_eq_true rfl) hN)) MT_118 (L_passes hN t33 t34 t35.2) ⟨rfl, rfl, rfl⟩ fun t36 => ?_
      refine i_if2 (pc' := 152) (nx := 150) c2_eq (f_at inc_136 (j := 45) rfl) ⟨by decide, rfl⟩ (fun b37 => ?_) (fun b37 => ?_)
      · refine i_iinc (pc' := 155) (ls' := [.ref 155, .ref 0, .int a2, .int a3, .int (t1 - t1 / (σ 155 22) * (σ 155 22)), .int (s31.1 + (1 : Int32)), .int t33, .int t34, a_dead, a_dead, a_dead, a_dead]) (f_at inc_136 (j := 48) rfl) rfl ci_1 rfl rfl ?_
        refine i_goto (pc' := 95) (f_at inc_136 (j := 49) rfl) (by decide) ?_
        exact hb31 ((s31.1 + (1 : Int32)), t36.2) (.int t33, .int t34)
      · refine i_iconst (pc' := 151) (f_at inc_136 (j := 46) rfl) ci_0 rfl ?_
        refine s_rt (hr31 _) ?_
        exact i_iret (v := f_b false) (f_at inc_136 (j := 47) rfl) rfl n_bool
  refine i_cas (fun b48 => ?_) (fun b48 => ?_)
  · refine i_sw (pc' := 92) (v := (4 : Int32)) (f_at inc_136 (j := 12) rfl) b48 ⟨by decide, rfl⟩ (by decide) ?_
    refine i_iconst (pc' := 93) (f_at inc_136 (j := 13) rfl) ci_0 rfl ?_
    refine i_istore (pc' := 95) (ls' := [.ref 155, .ref 0, .int a2, .int a3, .int (t1 - t1 / (σ 155 22) * (σ 155 22)), .int (0 : Int32), a_dead, a_dead, a_dead, a_dead, a_dead, a_dead]) (f_at inc_136 (j := 14) rfl) (Nat.le_of_ble_eq_true rfl) rfl rfl ?_
    refine s_lR ((0 : Int32), σ) (a_dead, a_dead) (fun (s40 : Int32 × f_M) (u40 : Value × Value) => [.ref 155, .ref 0, .int a2, .int a3, .int (t1 - t1 / (σ 155 22) * (σ 155 22)), .int s40.1, u40.1, u40.2, a_dead, a_dead, a_dead, a_dead]) (fun (s40 : Int32 × f_M) => s40.2) ?_
    intro s40 u40 k40 hb40 hr40
    refine i_iload (pc' := 97) (f_at inc_136 (j := 15) rfl) rfl rfl ?_
    refine i_iload_n (pc' := 98) (f_at inc_136 (j := 16) rfl) rfl rfl ?_
    refine i_iconst (pc' := 99) (f_at inc_136 (j := 17) rfl) ci_4 rfl ?_
    refine i_iconst (pc' := 100) (f_at inc_136 (j := 18) rfl) ci_2 rfl ?_
    refine c_pi (pc' := 103) (c' := 1) (n' := 6) (h_stat (ra := [.int (2 : Int32), .int (4 : Int32), .int a2]) (r := [.int s40.1]) (as := [.int a2, .int (4 : Int32), .int (2 : Int32)]) (f_at inc_136 (j := 19) rfl) (by decide) MT_37 rfl rfl rfl ⟨Nat.le_of_ble_eq_true rfl, Nat.le_of_ble_eq_true rfl, Nat.le_of_ble_eq_true rfl⟩) MT_37 (L_bits hN a2 (4 : Int32) (2 : Int32) s40.2) ⟨rfl, rfl, rfl⟩ fun t41 => ?_
    refine i_if2 (pc' := 158) (nx := 106) c2_gt (f_at inc_136 (j := 20) rfl) ⟨by decide, rfl⟩ (fun b47 => ?_) (fun b47 => ?_)
    · refine i_iconst (pc' := 159) (f_at inc_136 (j := 50) rfl) ci_1 rfl ?_
      refine s_rt (hr40 _) ?_
      exact i_iret (v := f_b true) (f_at inc_136 (j := 51) rfl) rfl n_bool
    · refine i_iload_n (pc' := 107) (f_at inc_136 (j := 21) rfl) rfl rfl ?_
      refine i_iconst (pc' := 108) (f_at inc_136 (j := 22) rfl) ci_4 rfl ?_
      refine i_iload (pc' := 110) (f_at inc_136 (j := 23) rfl) rfl rfl ?_
      refine i_imul (pc' := 111) (f_at inc_136 (j := 24) rfl) rfl ?_
      refine i_bipush (pc' := 113) (f_at inc_136 (j := 25) rfl) cb_6 rfl ?_
      refine c_pi (pc' := 116) (c' := 1) (n' := 6) (h_stat (ra := [.int (6 : Int32), .int ((4 : Int32) * s40.1), .int a3]) (r := []) (as := [.int a3, .int ((4 : Int32) * s40.1), .int (6 : Int32)]) (f_at inc_136 (j := 26) rfl) (by decide) MT_37 rfl rfl rfl ⟨Nat.le_of_ble_eq_true rfl, Nat.le_of_ble_eq_true rfl, Nat.le_of_ble_eq_true rfl⟩) MT_37 (L_bits hN a3 ((4 : Int32) * s40.1) (6 : Int32) s40.2) ⟨rfl, rfl, rfl⟩ fun t42 => ?_
      refine i_istore (pc' := 118) (ls' := [.ref 155, .ref 0, .int a2, .int a3, .int (t1 - t1 / (σ 155 22) * (σ 155 22)), .int s40.1, .int t42, u40.2, a_dead, a_dead, a_dead, a_dead]) (f_at inc_136 (j := 27) rfl) (Nat.le_of_ble_eq_true rfl) rfl rfl ?_
      refine i_iload_n (pc' := 119) (f_at inc_136 (j := 28) rfl) rfl rfl ?_
      refine i_iconst (pc' := 120) (f_at inc_136 (j := 29) rfl) ci_3 rfl ?_
      refine i_iconst (pc' := 121) (f_at inc_136 (j := 30) rfl) ci_4 rfl ?_
      refine i_iload (pc' := 123) (f_at inc_136 (j := 31) rfl) rfl rfl ?_
      refine i_imul (pc' := 124) (f_at inc_136 (j := 32) rfl) rfl ?_
      refine i_iadd (pc' := 125) (f_at inc_136 (j := 33) rfl) rfl ?_
      refine i_iconst (pc' := 126) (f_at inc_136 (j := 34) rfl) ci_3 rfl ?_
      refine c_pi (pc' := 129) (c' := 1) (n' := 6) (h_stat (ra := [.int (3 : Int32), .int ((3 : Int32) + ((4 : Int32) * s40.1)), .int a3]) (r := []) (as := [.int a3, .int ((3 : Int32) + ((4 : Int32) * s40.1)), .int (3 : Int32)]) (f_at inc_136 (j := 35) rfl) (by decide) MT_37 rfl rfl rfl ⟨Nat.le_of_ble_eq_true rfl, Nat.le_of_ble_eq_true rfl, Nat.le_of_ble_eq_true rfl⟩) MT_37 (L_bits hN a3 ((3 : Int32) + ((4 : Int32) * s40.1)) (3 : Int32) s40.2) ⟨rfl, rfl, rfl⟩ fun t43 => ?_
      refine i_istore (pc' := 131) (ls' := [.ref 155, .ref 0, .int a2, .int a3, .int (t1 - t1 / (σ 155 22) * (σ 155 22)), .int s40.1, .int t42, .int t43, a_dead, a_dead, a_dead, a_dead]) (f_at inc_136 (j := 36) rfl) (Nat.le_of_ble_eq_true rfl) rfl rfl ?_
      refine i_aload_n (pc' := 132) (f_at inc_136 (j := 37) rfl) rfl rfl ?_
      refine i_iload (pc' := 134) (f_at inc_136 (j := 38) rfl) rfl rfl ?_
      refine i_iload (pc' := 136) (f_at inc_136 (j := 39) rfl) rfl rfl ?_
      refine c_wi (pc' := 139) (c' := 1) (n' := 6) (h_virt (ra := [.int t43, .int t42, .ref 0]) (r := []) (as := [.int t42, .int t43]) (f_at inc_136 (j := 40) rfl) (by decide) MT_117 rfl rfl rfl ⟨Nat.le_of_ble_eq_true rfl, Nat.le_of_ble_eq_true rfl, Nat.le_of_ble_eq_true rfl⟩ sh_0 (f_lt (o := 0) (m := 181) (Nat.le_of_ble_eq_true rfl) hN)) MT_117 (P_319 (Nat.le_trans (Nat.le_of_ble_eq_true rfl) hN) t42 t43 s40.2) ⟨rfl, rfl, rfl⟩ fun t44 => ?_
      refine i_aload_n (pc' := 140) (f_at inc_136 (j := 41) rfl) rfl rfl ?_
      refine i_iload (pc' := 142) (f_at inc_136 (j := 42) rfl) rfl rfl ?_
      refine i_iload (pc' := 144) (f_at inc_136 (j := 43) rfl) rfl rfl ?_
      refine c_wi (pc' := 147) (c' := 1) (n' := 6) (h_virt (ra := [.int t43, .int t42, .ref 155]) (r := [.int t44.1]) (as := [.int t42, .int t43]) (f_at inc_136 (j := 44) rfl) (by decide) MT_118 rfl rfl rfl ⟨Nat.le_of_ble_eq_true rfl, Nat.le_of_ble_eq_true rfl, Nat.le_of_ble_eq_true rfl⟩ sh_155 (f_lt (o := 155) (m := 181) (Nat.le_of_ble_eq_true rfl) hN)) MT_118 (L_passes hN t42 t43 t44.2) ⟨rfl, rfl, rfl⟩ fun t45 => ?_
      refine i_if2 (pc' := 152) (nx := 150) c2_eq (f_at inc_136 (j := 45) rfl) ⟨by decide, rfl⟩ (fun b46 => ?_) (fun b46 => ?_)
      · refine i_iinc (pc' := 155) (ls' := [.ref 155, .ref 0, .int a2, .int a3, .int (t1 - t1 / (σ 155 22) * (σ 155 22)), .int (s40.1 + (1 : Int32)), .int t42, .int t43, a_dead, a_dead, a_dead, a_dead]) (f_at inc_136 (j := 48) rfl) rfl ci_1 rfl rfl ?_
        refine i_goto (pc' := 95) (f_at inc_136 (j := 49) rfl) (by decide) ?_
        exact hb40 ((s40.1 + (1 : Int32)), t45.2) (.int t42, .int t43)
      · refine i_iconst (pc' := 151) (f_at inc_136 (j := 46) rfl) ci_0 rfl ?_
        refine s_rt (hr40 _) ?_
        exact i_iret (v := f_b false) (f_at inc_136 (j := 47) rfl) rfl n_bool
  refine i_cas (fun b57 => ?_) (fun b57 => ?_)
  · refine i_sw (pc' := 92) (v := (5 : Int32)) (f_at inc_136 (j := 12) rfl) b57 ⟨by decide, rfl⟩ (by decide) ?_
    refine i_iconst (pc' := 93) (f_at inc_136 (j := 13) rfl) ci_0 rfl ?_
    refine i_istore (pc' := 95) (ls' := [.ref 155, .ref 0, .int a2, .int a3, .int (t1 - t1 / (σ 155 22) * (σ 155 22)), .int (0 : Int32), a_dead, a_dead, a_dead, a_dead, a_dead, a_dead]) (f_at inc_136 (j := 14) rfl) (Nat.le_of_ble_eq_true rfl) rfl rfl ?_
    refine s_lR ((0 : Int32), σ) (a_dead, a_dead) (fun (s49 : Int32 × f_M) (u49 : Value × Value) => [.ref 155, .ref 0, .int a2, .int a3, .int (t1 - t1 / (σ 155 22) * (σ 155 22)), .int s49.1, u49.1, u49.2, a_dead, a_dead, a_dead, a_dead]) (fun (s49 : Int32 × f_M) => s49.2) ?_
    intro s49 u49 k49 hb49 hr49
    refine i_iload (pc' := 97) (f_at inc_136 (j := 15) rfl) rfl rfl ?_
    refine i_iload_n (pc' := 98) (f_at inc_136 (j := 16) rfl) rfl rfl ?_
    refine i_iconst (pc' := 99) (f_at inc_136 (j := 17) rfl) ci_4 rfl ?_
    refine i_iconst (pc' := 100) (f_at inc_136 (j := 18) rfl) ci_2 rfl ?_
    refine c_pi (pc' := 103) (c' := 1) (n' := 6) (h_stat (ra := [.int (2 : Int32), .int (4 : Int32), .int a2]) (r := [.int s49.1]) (as := [.int a2, .int (4 : Int32), .int (2 : Int32)]) (f_at inc_136 (j := 19) rfl) (by decide) MT_37 rfl rfl rfl ⟨Nat.le_of_ble_eq_true rfl, Nat.le_of_ble_eq_true rfl, Nat.le_of_ble_eq_true rfl⟩) MT_37 (L_bits hN a2 (4 : Int32) (2 : Int32) s49.2) ⟨rfl, rfl, rfl⟩ fun t50 => ?_
    refine i_if2 (pc' := 158) (nx := 106) c2_gt (f_at inc_136 (j := 20) rfl) ⟨by decide, rfl⟩ (fun b56 => ?_) (fun b56 => ?_)
    · refine i_iconst (pc' := 159) (f_at inc_136 (j := 50) rfl) ci_1 rfl ?_
      refine s_rt (hr49 _) ?_
      exact i_iret (v := f_b true) (f_at inc_136 (j := 51) rfl) rfl n_bool
    · refine i_iload_n (pc' := 107) (f_at inc_136 (j := 21) rfl) rfl rfl ?_
      refine i_iconst (pc' := 108) (f_at inc_136 (j := 22) rfl) ci_4 rfl ?_
      refine i_iload (pc' := 110) (f_at inc_136 (j := 23) rfl) rfl rfl ?_
      refine i_imul (pc' := 111) (f_at inc_136 (j := 24) rfl) rfl ?_
      refine i_bipush (pc' := 113) (f_at inc_136 (j := 25) rfl) cb_6 rfl ?_
      refine c_pi (pc' := 116) (c' := 1) (n' := 6) (h_stat (ra := [.int (6 : Int32), .int ((4 : Int32) * s49.1), .int a3]) (r := []) (as := [.int a3, .int ((4 : Int32) * s49.1), .int (6 : Int32)]) (f_at inc_136 (j := 26) rfl) (by decide) MT_37 rfl rfl rfl ⟨Nat.le_of_ble_eq_true rfl, Nat.le_of_ble_eq_true rfl, Nat.le_of_ble_eq_true rfl⟩) MT_37 (L_bits hN a3 ((4 : Int32) * s49.1) (6 : Int32) s49.2) ⟨rfl, rfl, rfl⟩ fun t51 => ?_
      refine i_istore (pc' := 118) (ls' := [.ref 155, .ref 0, .int a2, .int a3, .int (t1 - t1 / (σ 155 22) * (σ 155 22)), .int s49.1, .int t51, u49.2, a_dead, a_dead, a_dead, a_dead]) (f_at inc_136 (j := 27) rfl) (Nat.le_of_ble_eq_true rfl) rfl rfl ?_
      refine i_iload_n (pc' := 119) (f_at inc_136 (j := 28) rfl) rfl rfl ?_
      refine i_iconst (pc' := 120) (f_at inc_136 (j := 29) rfl) ci_3 rfl ?_
      refine i_iconst (pc' := 121) (f_at inc_136 (j := 30) rfl) ci_4 rfl ?_
      refine i_iload (pc' := 123) (f_at inc_136 (j := 31) rfl) rfl rfl ?_
      refine i_imul (pc' := 124) (f_at inc_136 (j := 32) rfl) rfl ?_
      refine i_iadd (pc' := 125) (f_at inc_136 (j := 33) rfl) rfl ?_
      refine i_iconst (pc' := 126) (f_at inc_136 (j := 34) rfl) ci_3 rfl ?_
      refine c_pi (pc' := 129) (c' := 1) (n' := 6) (h_stat (ra := [.int (3 : Int32), .int ((3 : Int32) + ((4 : Int32) * s49.1)), .int a3]) (r := []) (as := [.int a3, .int ((3 : Int32) + ((4 : Int32) * s49.1)), .int (3 : Int32)]) (f_at inc_136 (j := 35) rfl) (by decide) MT_37 rfl rfl rfl ⟨Nat.le_of_ble_eq_true rfl, Nat.le_of_ble_eq_true rfl, Nat.le_of_ble_eq_true rfl⟩) MT_37 (L_bits hN a3 ((3 : Int32) + ((4 : Int32) * s49.1)) (3 : Int32) s49.2) ⟨rfl, rfl, rfl⟩ fun t52 => ?_
      refine i_istore (pc' := 131) (ls' := [.ref 155, .ref 0, .int a2, .int a3, .int (t1 - t1 / (σ 155 22) * (σ 155 22)), .int s49.1, .int t51, .int t52, a_dead, a_dead, a_dead, a_dead]) (f_at inc_136 (j := 36) rfl) (Nat.le_of_ble_eq_true rfl) rfl rfl ?_
      refine i_aload_n (pc' := 132) (f_at inc_136 (j := 37) rfl) rfl rfl ?_
      refine i_iload (pc' := 134) (f_at inc_136 (j := 38) rfl) rfl rfl ?_
      refine i_iload (pc' := 136) (f_at inc_136 (j := 39) rfl) rfl rfl ?_
      refine c_wi (pc' := 139) (c' := 1) (n' := 6) (h_virt (ra := [.int t52, .int t51, .ref 0]) (r := []) (as := [.int t51, .int t52]) (f_at inc_136 (j := 40) rfl) (by decide) MT_117 rfl rfl rfl ⟨Nat.le_of_ble_eq_true rfl, Nat.le_of_ble_eq_true rfl, Nat.le_of_ble_eq_true rfl⟩ sh_0 (f_lt (o := 0) (m := 181) (Nat.le_of_ble_eq_true rfl) hN)) MT_117 (P_319 (Nat.le_trans (Nat.le_of_ble_eq_true rfl) hN) t51 t52 s49.2) ⟨rfl, rfl, rfl⟩ fun t53 => ?_
      refine i_aload_n (pc' := 140) (f_at inc_136 (j := 41) rfl) rfl rfl ?_
      refine i_iload (pc' := 142) (f_at inc_136 (j := 42) rfl) rfl rfl ?_
      refine i_iload (pc' := 144) (f_at inc_136 (j := 43) rfl) rfl rfl ?_
      refine c_wi (pc' := 147) (c' := 1) (n' := 6) (h_virt (ra := [.int t52, .int t51, .ref 155]) (r := [.int t53.1]) (as := [.int t51, .int t52]) (f_at inc_136 (j := 44) rfl) (by decide) MT_118 rfl rfl rfl ⟨Nat.le_of_ble_eq_true rfl, Nat.le_of_ble_eq_true rfl, Nat.le_of_ble_eq_true rfl⟩ sh_155 (f_lt (o := 155) (m := 181) (Nat.le_of_ble_eq_true rfl) hN)) MT_118 (L_passes hN t51 t52 t53.2) ⟨rfl, rfl, rfl⟩ fun t54 => ?_
      refine i_if2 (pc' := 152) (nx := 150) c2_eq (f_at inc_136 (j := 45) rfl) ⟨by decide, rfl⟩ (fun b55 => ?_) (fun b55 => ?_)
      · refine i_iinc (pc' := 155) (ls' := [.ref 155, .ref 0, .int a2, .int a3, .int (t1 - t1 / (σ 155 22) * (σ 155 22)), .int (s49.1 + (1 : Int32)), .int t51, .int t52, a_dead, a_dead, a_dead, a_dead]) (f_at inc_136 (j := 48) rfl) rfl ci_1 rfl rfl ?_
        refine i_goto (pc' := 95) (f_at inc_136 (j := 49) rfl) (by decide) ?_
        exact hb49 ((s49.1 + (1 : Int32)), t54.2) (.int t51, .int t52)
      · refine i_iconst (pc' := 151) (f_at inc_136 (j := 46) rfl) ci_0 rfl ?_
        refine s_rt (hr49 _) ?_
        exact i_iret (v := f_b false) (f_at inc_136 (j := 47) rfl) rfl n_bool
  refine i_cas (fun b66 => ?_) (fun b66 => ?_)
  · refine i_sw (pc' := 92) (v := (6 : Int32)) (f_at inc_136 (j := 12) rfl) b66 ⟨by decide, rfl⟩ (by decide) ?_
    refine i_iconst (pc' := 93) (f_at inc_136 (j := 13) rfl) ci_0 rfl ?_
    refine i_istore (pc' := 95) (ls' := [.ref 155, .ref 0, .int a2, .int a3, .int (t1 - t1 / (σ 155 22) * (σ 155 22)), .int (0 : Int32), a_dead, a_dead, a_dead, a_dead, a_dead, a_dead]) (f_at inc_136 (j := 14) rfl) (Nat.le_of_ble_eq_true rfl) rfl rfl ?_
    refine s_lR ((0 : Int32), σ) (a_dead, a_dead) (fun (s58 : Int32 × f_M) (u58 : Value × Value) => [.ref 155, .ref 0, .int a2, .int a3, .int (t1 - t1 / (σ 155 22) * (σ 155 22)), .int s58.1, u58.1, u58.2, a_dead, a_dead, a_dead, a_dead]) (fun (s58 : Int32 × f_M) => s58.2) ?_
    intro s58 u58 k58 hb58 hr58
    refine i_iload (pc' := 97) (f_at inc_136 (j := 15) rfl) rfl rfl ?_
    refine i_iload_n (pc' := 98) (f_at inc_136 (j := 16) rfl) rfl rfl ?_
    refine i_iconst (pc' := 99) (f_at inc_136 (j := 17) rfl) ci_4 rfl ?_
    refine i_iconst (pc' := 100) (f_at inc_136 (j := 18) rfl) ci_2 rfl ?_
    refine c_pi (pc' := 103) (c' := 1) (n' := 6) (h_stat (ra := [.int (2 : Int32), .int (4 : Int32), .int a2]) (r := [.int s58.1]) (as := [.int a2, .int (4 : Int32), .int (2 : Int32)]) (f_at inc_136 (j := 19) rfl) (by decide) MT_37 rfl rfl rfl ⟨Nat.le_of_ble_eq_true rfl, Nat.le_of_ble_eq_true rfl, Nat.le_of_ble_eq_true rfl⟩) MT_37 (L_bits hN a2 (4 : Int32) (2 : Int32) s58.2) ⟨rfl, rfl, rfl⟩ fun t59 => ?_
    refine i_if2 (pc' := 158) (nx := 106) c2_gt (f_at inc_136 (j := 20) rfl) ⟨by decide, rfl⟩ (fun b65 => ?_) (fun b65 => ?_)
    · refine i_iconst (pc' := 159) (f_at inc_136 (j := 50) rfl) ci_1 rfl ?_
      refine s_rt (hr58 _) ?_
      exact i_iret (v := f_b true) (f_at inc_136 (j := 51) rfl) rfl n_bool
    · refine i_iload_n (pc' := 107) (f_at inc_136 (j := 21) rfl) rfl rfl ?_
      refine i_iconst (pc' := 108) (f_at inc_136 (j := 22) rfl) ci_4 rfl ?_
      refine i_iload (pc' := 110) (f_at inc_136 (j := 23) rfl) rfl rfl ?_
      refine i_imul (pc' := 111) (f_at inc_136 (j := 24) rfl) rfl ?_
      refine i_bipush (pc' := 113) (f_at inc_136 (j := 25) rfl) cb_6 rfl ?_
      refine c_pi (pc' := 116) (c' := 1) (n' := 6) (h_stat (ra := [.int (6 : Int32), .int ((4 : Int32) * s58.1), .int a3]) (r := []) (as := [.int a3, .int ((4 : Int32) * s58.1), .int (6 : Int32)]) (f_at inc_136 (j := 26) rfl) (by decide) MT_37 rfl rfl rfl ⟨Nat.le_of_ble_eq_true rfl, Nat.le_of_ble_eq_true rfl, Nat.le_of_ble_eq_true rfl⟩) MT_37 (L_bits hN a3 ((4 : Int32) * s58.1) (6 : Int32) s58.2) ⟨rfl, rfl, rfl⟩ fun t60 => ?_
      refine i_istore (pc' := 118) (ls' := [.ref 155, .ref 0, .int a2, .int a3, .int (t1 - t1 / (σ 155 22) * (σ 155 22)), .int s58.1, .int t60, u58.2, a_dead, a_dead, a_dead, a_dead]) (f_at inc_136 (j := 27) rfl) (Nat.le_of_ble_eq_true rfl) rfl rfl ?_
      refine i_iload_n (pc' := 119) (f_at inc_136 (j := 28) rfl) rfl rfl ?_
      refine i_iconst (pc' := 120) (f_at inc_136 (j := 29) rfl) ci_3 rfl ?_
      refine i_iconst (pc' := 121) (f_at inc_136 (j := 30) rfl) ci_4 rfl ?_
      refine i_iload (pc' := 123) (f_at inc_136 (j := 31) rfl) rfl rfl ?_
      refine i_imul (pc' := 124) (f_at inc_136 (j := 32) rfl) rfl ?_
      refine i_iadd (pc' := 125) (f_at inc_136 (j := 33) rfl) rfl ?_
      refine i_iconst (pc' := 126) (f_at inc_136 (j := 34) rfl) ci_3 rfl ?_
      refine c_pi (pc' := 129) (c' := 1) (n' := 6) (h_stat (ra := [.int (3 : Int32), .int ((3 : Int32) + ((4 : Int32) * s58.1)), .int a3]) (r := []) (as := [.int a3, .int ((3 : Int32) + ((4 : Int32) * s58.1)), .int (3 : Int32)]) (f_at inc_136 (j := 35) rfl) (by decide) MT_37 rfl rfl rfl ⟨Nat.le_of_ble_eq_true rfl, Nat.le_of_ble_eq_true rfl, Nat.le_of_ble_eq_true rfl⟩) MT_37 (L_bits hN a3 ((3 : Int32) + ((4 : Int32) * s58.1)) (3 : Int32) s58.2) ⟨rfl, rfl, rfl⟩ fun t61 => ?_
      refine i_istore (pc' := 131) (ls' := [.ref 155, .ref 0, .int a2, .int a3, .int (t1 - t1 / (σ 155 22) * (σ 155 22)), .int s58.1, .int t60, .int t61, a_dead, a_dead, a_dead, a_dead]) (f_at inc_136 (j := 36) rfl) (Nat.le_of_ble_eq_true rfl) rfl rfl ?_
      refine i_aload_n (pc' := 132) (f_at inc_136 (j := 37) rfl) rfl rfl ?_
      refine i_iload (pc' := 134) (f_at inc_136 (j := 38) rfl) rfl rfl ?_
      refine i_iload (pc' := 136) (f_at inc_136 (j := 39) rfl) rfl rfl ?_
      refine c_wi (pc' := 139) (c' := 1) (n' := 6) (h_virt (ra := [.int t61, .int t60, .ref 0]) (r := []) (as := [.int t60, .int t61]) (f_at inc_136 (j := 40) rfl) (by decide) MT_117 rfl rfl rfl ⟨Nat.le_of_ble_eq_true rfl, Nat.le_of_ble_eq_true rfl, Nat.le_of_ble_eq_true rfl⟩ sh_0 (f_lt (o := 0) (m := 181) (Nat.le_of_ble_eq_true rfl) hN)) MT_117 (P_319 (Nat.le_trans (Nat.le_of_ble_eq_true rfl) hN) t60 t61 s58.2) ⟨rfl, rfl, rfl⟩ fun t62 => ?_
      refine i_aload_n (pc' := 140) (f_at inc_136 (j := 41) rfl) rfl rfl ?_
      refine i_iload (pc' := 142) (f_at inc_136 (j := 42) rfl) rfl rfl ?_
      refine i_iload (pc' := 144) (f_at inc_136 (j := 43) rfl) rfl rfl ?_
      refine c_wi (pc' := 147) (c' := 1) (n' := 6) (h_virt (ra := [.int t61, .int t60, .ref 155]) (r := [.int t62.1]) (as := [.int t60, .int t61]) (f_at inc_136 (j := 44) rfl) (by decide) MT_118 rfl rfl rfl ⟨Nat.le_of_ble_eq_true rfl, Nat.le_of_ble_eq_true rfl, Nat.le_of_ble_eq_true rfl⟩ sh_155 (f_lt (o := 155) (m := 181) (Nat.le_of_ble_eq_true rfl) hN)) MT_118 (L_passes hN t60 t61 t62.2) ⟨rfl, rfl, rfl⟩ fun t63 => ?_
      refine i_if2 (pc' := 152) (nx := 150) c2_eq (f_at inc_136 (j := 45) rfl) ⟨by decide, rfl⟩ (fun b64 => ?_) (fun b64 => ?_)
      · refine i_iinc (pc' := 155) (ls' := [.ref 155, .ref 0, .int a2, .int a3, .int (t1 - t1 / (σ 155 22) * (σ 155 22)), .int (s58.1 + (1 : Int32)), .int t60, .int t61, a_dead, a_dead, a_dead, a_dead]) (f_at inc_136 (j := 48) rfl) rfl ci_1 rfl rfl ?_
        refine i_goto (pc' := 95) (f_at inc_136 (j := 49) rfl) (by decide) ?_
        exact hb58 ((s58.1 + (1 : Int32)), t63.2) (.int t60, .int t61)
      · refine i_iconst (pc' := 151) (f_at inc_136 (j := 46) rfl) ci_0 rfl ?_
        refine s_rt (hr58 _) ?_
        exact i_iret (v := f_b false) (f_at inc_136 (j := 47) rfl) rfl n_bool
  refine i_cas (fun b98 => ?_) (fun b98 => ?_)
  · refine i_sw (pc' := 160) (v := (7 : Int32)) (f_at inc_136 (j := 12) rfl) b98 ⟨by decide, rfl⟩ (by decide) ?_
    refine i_aload_n (pc' := 161) (f_at inc_136 (j := 52) rfl) rfl rfl ?_
    refine i_getI (pc' := 164) (f_at inc_136 (j := 53) rfl) sh_155 rfl (f_lt (o := 155) (m := 181) (Nat.le_of_ble_eq_true rfl) hN) rfl ?_
    refine i_istore (pc' := 166) (ls' := [.ref 155, .ref 0, .int a2, .int a3, .int (t1 - t1 / (σ 155 22) * (σ 155 22)), .int (σ 155 24), a_dead, a_dead, a_dead, a_dead, a_dead, a_dead]) (f_at inc_136 (j := 54) rfl) (Nat.le_of_ble_eq_true rfl) rfl rfl ?_
    refine i_iload_n (pc' := 167) (f_at inc_136 (j := 55) rfl) rfl rfl ?_
    refine i_bipush (pc' := 169) (f_at inc_136 (j := 56) rfl) cb_8 rfl ?_
    refine i_iconst (pc' := 170) (f_at inc_136 (j := 57) rfl) ci_1 rfl ?_
    refine c_pi (pc' := 173) (c' := 1) (n' := 6) (h_stat (ra := [.int (1 : Int32), .int (8 : Int32), .int a2]) (r := []) (as := [.int a2, .int (8 : Int32), .int (1 : Int32)]) (f_at inc_136 (j := 58) rfl) (by decide) MT_37 rfl rfl rfl ⟨Nat.le_of_ble_eq_true rfl, Nat.le_of_ble_eq_true rfl, Nat.le_of_ble_eq_true rfl⟩) MT_37 (L_bits hN a2 (8 : Int32) (1 : Int32) σ) ⟨rfl, rfl, rfl⟩ fun t67 => ?_
    refine i_istore (pc' := 175) (ls' := [.ref 155, .ref 0, .int a2, .int a3, .int (t1 - t1 / (σ 155 22) * (σ 155 22)), .int (σ 155 24), .int t67, a_dead, a_dead, a_dead, a_dead, a_dead]) (f_at inc_136 (j := 59) rfl) (Nat.le_of_ble_eq_true rfl) rfl rfl ?_
    refine i_aload_n (pc' := 176) (f_at inc_136 (j := 60) rfl) rfl rfl ?_
    refine i_getI (pc' := 179) (f_at inc_136 (j := 61) rfl) sh_155 rfl (f_lt (o := 155) (m := 181) (Nat.le_of_ble_eq_true rfl) hN) rfl ?_
    refine i_iload_n (pc' := 180) (f_at inc_136 (j := 62) rfl) rfl rfl ?_
    refine i_bipush (pc' := 182) (f_at inc_136 (j := 63) rfl) cb_9 rfl ?_
    refine i_iconst (pc' := 183) (f_at inc_136 (j := 64) rfl) ci_2 rfl ?_
    refine c_pi (pc' := 186) (c' := 1) (n' := 6) (h_stat (ra := [.int (2 : Int32), .int (9 : Int32), .int a2]) (r := [.int (σ 155 26)]) (as := [.int a2, .int (9 : Int32), .int (2 : Int32)]) (f_at inc_136 (j := 65) rfl) (by decide) MT_37 rfl rfl rfl ⟨Nat.le_of_ble_eq_true rfl, Nat.le_of_ble_eq_true rfl, Nat.le_of_ble_eq_true rfl⟩) MT_37 (L_bits hN a2 (9 : Int32) (2 : Int32) σ) ⟨rfl, rfl, rfl⟩ fun t68 => ?_
    refine i_iadd (pc' := 187) (f_at inc_136 (j := 66) rfl) rfl ?_
    refine i_istore (pc' := 189) (ls' := [.ref 155, .ref 0, .int a2, .int a3, .int (t1 - t1 / (σ 155 22) * (σ 155 22)), .int (σ 155 24), .int t67, .int ((σ 155 26) + t68), a_dead, a_dead, a_dead, a_dead]) (f_at inc_136 (j := 67) rfl) (Nat.le_of_ble_eq_true rfl) rfl rfl ?_
    refine i_iconst (pc' := 190) (f_at inc_136 (j := 68) rfl) ci_1 rfl ?_
    refine i_iload_n (pc' := 191) (f_at inc_136 (j := 69) rfl) rfl rfl ?_
    refine i_bipush (pc' := 193) (f_at inc_136 (j := 70) rfl) cb_11 rfl ?_
    refine i_iconst (pc' := 194) (f_at inc_136 (j := 71) rfl) ci_3 rfl ?_
    refine c_pi (pc' := 197) (c' := 1) (n' := 6) (h_stat (ra := [.int (3 : Int32), .int (11 : Int32), .int a2]) (r := [.int (1 : Int32)]) (as := [.int a2, .int (11 : Int32), .int (3 : Int32)]) (f_at inc_136 (j := 72) rfl) (by decide) MT_37 rfl rfl rfl ⟨Nat.le_of_ble_eq_true rfl, Nat.le_of_ble_eq_true rfl, Nat.le_of_ble_eq_true rfl⟩) MT_37 (L_bits hN a2 (11 : Int32) (3 : Int32) σ) ⟨rfl, rfl, rfl⟩ fun t69 => ?_
    refine i_iadd (pc' := 198) (f_at inc_136 (j := 73) rfl) rfl ?_
    refine i_istore (pc' := 200) (ls' := [.ref 155, .ref 0, .int a2, .int a3, .int (t1 - t1 / (σ 155 22) * (σ 155 22)), .int (σ 155 24), .int t67, .int ((σ 155 26) + t68), .int ((1 : Int32) + t69), a_dead, a_dead, a_dead]) (f_at inc_136 (j := 74) rfl) (Nat.le_of_ble_eq_true rfl) rfl rfl ?_
    refine i_iconst (pc' := 201) (f_at inc_136 (j := 75) rfl) ci_1 rfl ?_
    refine i_iload_n (pc' := 202) (f_at inc_136 (j := 76) rfl) rfl rfl ?_
    refine i_bipush (pc' := 204) (f_at inc_136 (j := 77) rfl) cb_14 rfl ?_
    refine i_bipush (pc' := 206) (f_at inc_136 (j := 78) rfl) cb_7 rfl ?_
    refine c_pi (pc' := 209) (c' := 1) (n' := 6) (h_stat (ra := [.int (7 : Int32), .int (14 : Int32), .int a2]) (r := [.int (1 : Int32)]) (as := [.int a2, .int (14 : Int32), .int (7 : Int32)]) (f_at inc_136 (j := 79) rfl) (by decide) MT_37 rfl rfl rfl ⟨Nat.le_of_ble_eq_true rfl, Nat.le_of_ble_eq_true rfl, Nat.le_of_ble_eq_true rfl⟩) MT_37 (L_bits hN a2 (14 : Int32) (7 : Int32) σ) ⟨rfl, rfl, rfl⟩ fun t70 => ?_
    refine i_iadd (pc' := 210) (f_at inc_136 (j := 80) rfl) rfl ?_
    refine i_istore (pc' := 212) (ls' := [.ref 155, .ref 0, .int a2, .int a3, .int (t1 - t1 / (σ 155 22) * (σ 155 22)), .int (σ 155 24), .int t67, .int ((σ 155 26) + t68), .int ((1 : Int32) + t69), .int ((1 : Int32) + t70), a_dead, a_dead]) (f_at inc_136 (j := 81) rfl) (Nat.le_of_ble_eq_true rfl) rfl rfl ?_
    refine i_iload_n (pc' := 213) (f_at inc_136 (j := 82) rfl) rfl rfl ?_
    refine i_iconst (pc' := 214) (f_at inc_136 (j := 83) rfl) ci_0 rfl ?_
    refine i_iconst (pc' := 215) (f_at inc_136 (j := 84) rfl) ci_5 rfl ?_
    refine c_pi (pc' := 218) (c' := 1) (n' := 6) (h_stat (ra := [.int (5 : Int32), .int (0 : Int32), .int a3]) (r := []) (as := [.int a3, .int (0 : Int32), .int (5 : Int32)]) (f_at inc_136 (j := 85) rfl) (by decide) MT_37 rfl rfl rfl ⟨Nat.le_of_ble_eq_true rfl, Nat.le_of_ble_eq_true rfl, Nat.le_of_ble_eq_true rfl⟩) MT_37 (L_bits hN a3 (0 : Int32) (5 : Int32) σ) ⟨rfl, rfl, rfl⟩ fun t71 => ?_
    refine i_istore (pc' := 220) (ls' := [.ref 155, .ref 0, .int a2, .int a3, .int (t1 - t1 / (σ 155 22) * (σ 155 22)), .int (σ 155 24), .int t67, .int ((σ 155 26) + t68), .int ((1 : Int32) + t69), .int ((1 : Int32) + t70), .int t71, a_dead]) (f_at inc_136 (j := 86) rfl) (Nat.le_of_ble_eq_true rfl) rfl rfl ?_
    refine i_iload (pc' := 222) (f_at inc_136 (j := 87) rfl) rfl rfl ?_
    refine s_join (J := 253) (fun (t72 : Int32) (u72 : Unit) => [.ref 155, .ref 0, .int a2, .int a3, .int (t1 - t1 / (σ 155 22) * (σ 155 22)), .int (σ 155 24), .int t67, .int ((σ 155 26) + t68), .int ((1 : Int32) + t69), .int ((1 : Int32) + t70), .int t71, a_dead]) (fun t72 => [.int t72]) (fun t72 => σ) ?_ ?_
    · intro t72 u72
      refine i_istore (pc' := 255) (ls' := [.ref 155, .ref 0, .int a2, .int a3, .int (t1 - t1 / (σ 155 22) * (σ 155 22)), .int (σ 155 24), .int t67, .int ((σ 155 26) + t68), .int ((1 : Int32) + t69), .int ((1 : Int32) + t70), .int t71, .int t72]) (f_at inc_136 (j := 108) rfl) (Nat.le_of_ble_eq_true rfl) rfl rfl ?_
      refine i_iload (pc' := 257) (f_at inc_136 (j := 109) rfl) rfl rfl ?_
      refine i_bipush (pc' := 259) (f_at inc_136 (j := 110) rfl) cb_20 rfl ?_
      refine i_if2 (pc' := 274) (nx := 262) c2_eq (f_at inc_136 (j := 111) rfl) ⟨by decide, rfl⟩ (fun b97 => ?_) (fun b97 => ?_)
      · refine i_aload_n (pc' := 275) (f_at inc_136 (j := 118) rfl) rfl rfl ?_
        refine i_iconst (pc' := 276) (f_at inc_136 (j := 119) rfl) ci_1 rfl ?_
        refine i_iload (pc' := 278) (f_at inc_136 (j := 120) rfl) rfl rfl ?_
        refine i_iadd (pc' := 279) (f_at inc_136 (j := 121) rfl) rfl ?_
        refine i_iload (pc' := 281) (f_at inc_136 (j := 122) rfl) rfl rfl ?_
        refine i_iload (pc' := 283) (f_at inc_136 (j := 123) rfl) rfl rfl ?_
        refine i_iload (pc' := 285) (f_at inc_136 (j := 124) rfl) rfl rfl ?_
        refine i_iload (pc' := 287) (f_at inc_136 (j := 125) rfl) rfl rfl ?_
        refine i_iload (pc' := 289) (f_at inc_136 (j := 126) rfl) rfl rfl ?_
        refine c_wb (pc' := 292) (c' := 0) (n' := 0) (h_stat (ra := [.int t71, .int ((1 : Int32) + t70), .int ((1 : Int32) + t69), .int ((σ 155 26) + t68), .int (t1 - t1 / (σ 155 22) * (σ 155 22)), .int ((1 : Int32) + t67), .ref 0]) (r := []) (as := [.ref 0, .int ((1 : Int32) + t67), .int (t1 - t1 / (σ 155 22) * (σ 155 22)), .int ((σ 155 26) + t68), .int ((1 : Int32) + t69), .int ((1 : Int32) + t70), .int t71]) (f_at inc_136 (j := 127) rfl) (by decide) MT_132 rfl rfl rfl ⟨Nat.le_of_ble_eq_true rfl, Nat.le_of_ble_eq_true rfl, Nat.le_of_ble_eq_true rfl⟩) MT_132 (L_isRefused hN ((1 : Int32) + t67) (t1 - t1 / (σ 155 22) * (σ 155 22)) ((σ 155 26) + t68) ((1 : Int32) + t69) ((1 : Int32) + t70) t71 σ) ⟨rfl, rfl, rfl⟩ fun t75 => ?_
        exact i_iret (v := f_b t75.1) (f_at inc_136 (j := 128) rfl) rfl n_bool
      · refine i_aload_n (pc' := 263) (f_at inc_136 (j := 112) rfl) rfl rfl ?_
        refine i_getR (pc' := 266) (f_at inc_136 (j := 113) rfl) sh_155 rfl (f_lt (o := 155) (m := 181) (Nat.le_of_ble_eq_true rfl) hN) rfl ?_
        refine i_iload (pc' := 268) (f_at inc_136 (j := 114) rfl) rfl rfl ?_
        refine i_iald (pc' := 269) (f_at inc_136 (j := 115) rfl) sh_156 (f_bg (Nat.le_of_ble_eq_true rfl)) (f_lt (o := 156) (m := 181) (Nat.le_of_ble_eq_true rfl) hN) rfl fun v76 => ?_
        refine i_iload (pc' := 271) (f_at inc_136 (j := 116) rfl) rfl rfl ?_
        refine i_if2 (pc' := 293) (nx := 274) c2_ge (f_at inc_136 (j := 117) rfl) ⟨by decide, rfl⟩ (fun b96 => ?_) (fun b96 => ?_)
        · refine i_aload_n (pc' := 294) (f_at inc_136 (j := 129) rfl) rfl rfl ?_
          refine i_getR (pc' := 297) (f_at inc_136 (j := 130) rfl) sh_155 rfl (f_lt (o := 155) (m := 181) (Nat.le_of_ble_eq_true rfl) hN) rfl ?_
          refine i_iload (pc' := 299) (f_at inc_136 (j := 131) rfl) rfl rfl ?_
          refine i_iload (pc' := 301) (f_at inc_136 (j := 132) rfl) rfl rfl ?_
          refine i_iast (pc' := 302) (f_at inc_136 (j := 133) rfl) sh_159 (f_lt (o := 159) (m := 181) (Nat.le_of_ble_eq_true rfl) hN) rfl fun m77 => ?_
          refine i_aload_n (pc' := 303) (f_at inc_136 (j := 134) rfl) rfl rfl ?_
          refine i_getR (pc' := 306) (f_at inc_136 (j := 135) rfl) sh_155 rfl (f_lt (o := 155) (m := 181) (Nat.le_of_ble_eq_true rfl) hN) rfl ?_
          refine i_iload (pc' := 308) (f_at inc_136 (j := 136) rfl) rfl rfl ?_
          refine i_iload (pc' := 310) (f_at inc_136 (j := 137) rfl) rfl rfl ?_
          refine i_iast (pc' := 311) (f_at inc_136 (j := 138) rfl) sh_160 (f_lt (o := 160) (m := 181) (Nat.le_of_ble_eq_true rfl) hN) rfl fun m78 => ?_
          refine i_aload_n (pc' := 312) (f_at inc_136 (j := 139) rfl) rfl rfl ?_
          refine i_getR (pc' := 315) (f_at inc_136 (j := 140) rfl) sh_155 rfl (f_lt (o := 155) (m := 181) (Nat.le_of_ble_eq_true rfl) hN) rfl ?_
          refine i_iload (pc' := 317) (f_at inc_136 (j := 141) rfl) rfl rfl ?_
          refine i_iload (pc' := 319) (f_at inc_136 (j := 142) rfl) rfl rfl ?_
          refine i_iast (pc' := 320) (f_at inc_136 (j := 143) rfl) sh_161 (f_lt (o := 161) (m := 181) (Nat.le_of_ble_eq_true rfl) hN) rfl fun m79 => ?_
          refine i_aload_n (pc' := 321) (f_at inc_136 (j := 144) rfl) rfl rfl ?_
          refine i_getR (pc' := 324) (f_at inc_136 (j := 145) rfl) sh_155 rfl (f_lt (o := 155) (m := 181) (Nat.le_of_ble_eq_true rfl) hN) rfl ?_
          refine i_iload (pc' := 326) (f_at inc_136 (j := 146) rfl) rfl rfl ?_
          refine i_iload (pc' := 328) (f_at inc_136 (j := 147) rfl) rfl rfl ?_
          refine i_iast (pc' := 329) (f_at inc_136 (j := 148) rfl) sh_162 (f_lt (o := 162) (m := 181) (Nat.le_of_ble_eq_true rfl) hN) rfl fun m80 => ?_
          refine i_aload_n (pc' := 330) (f_at inc_136 (j := 149) rfl) rfl rfl ?_
          refine i_getR (pc' := 333) (f_at inc_136 (j := 150) rfl) sh_155 rfl (f_lt (o := 155) (m := 181) (Nat.le_of_ble_eq_true rfl) hN) rfl ?_
          refine i_iload (pc' := 335) (f_at inc_136 (j := 151) rfl) rfl rfl ?_
          refine i_iload (pc' := 337) (f_at inc_136 (j := 152) rfl) rfl rfl ?_
          refine i_iast (pc' := 338) (f_at inc_136 (j := 153) rfl) sh_163 (f_lt (o := 163) (m := 181) (Nat.le_of_ble_eq_true rfl) hN) rfl fun m81 => ?_
          refine i_aload_n (pc' := 339) (f_at inc_136 (j := 154) rfl) rfl rfl ?_
          refine i_getR (pc' := 342) (f_at inc_136 (j := 155) rfl) sh_155 rfl (f_lt (o := 155) (m := 181) (Nat.le_of_ble_eq_true rfl) hN) rfl ?_
          refine i_iload (pc' := 344) (f_at inc_136 (j := 156) rfl) rfl rfl ?_
          refine i_iload (pc' := 346) (f_at inc_136 (j := 157) rfl) rfl rfl ?_
          refine i_iast (pc' := 347) (f_at inc_136 (j := 158) rfl) sh_164 (f_lt (o := 164) (m := 181) (Nat.le_of_ble_eq_true rfl) hN) rfl fun m82 => ?_
          refine i_aload_n (pc' := 348) (f_at inc_136 (j := 159) rfl) rfl rfl ?_
          refine i_getR (pc' := 351) (f_at inc_136 (j := 160) rfl) sh_155 rfl (f_lt (o := 155) (m := 181) (Nat.le_of_ble_eq_true rfl) hN) rfl ?_
          refine i_iload (pc' := 353) (f_at inc_136 (j := 161) rfl) rfl rfl ?_
          refine i_iload (pc' := 355) (f_at inc_136 (j := 162) rfl) rfl rfl ?_
          refine i_iload_n (pc' := 356) (f_at inc_136 (j := 163) rfl) rfl rfl ?_
          refine i_iconst (pc' := 357) (f_at inc_136 (j := 164) rfl) ci_5 rfl ?_
          refine i_iconst (pc' := 358) (f_at inc_136 (j := 165) rfl) ci_5 rfl ?_
          refine c_pi (pc' := 361) (c' := 1) (n' := 6) (h_stat (ra := [.int (5 : Int32), .int (5 : Int32), .int a3]) (r := [.int t71, .int (σ 155 24), .ref 165]) (as := [.int a3, .int (5 : Int32), .int (5 : Int32)]) (f_at inc_136 (j := 166) rfl) (by decide) MT_37 rfl rfl rfl ⟨Nat.le_of_ble_eq_true rfl, Nat.le_of_ble_eq_true rfl, Nat.le_of_ble_eq_true rfl⟩) MT_37 (L_bits hN a3 (5 : Int32) (5 : Int32) m82) ⟨rfl, rfl, rfl⟩ fun t83 => ?_
          refine i_iadd (pc' := 362) (f_at inc_136 (j := 167) rfl) rfl ?_
          refine i_iast (pc' := 363) (f_at inc_136 (j := 168) rfl) sh_165 (f_lt (o := 165) (m := 181) (Nat.le_of_ble_eq_true rfl) hN) rfl fun m84 => ?_
          refine i_aload_n (pc' := 364) (f_at inc_136 (j := 169) rfl) rfl rfl ?_
          refine i_getR (pc' := 367) (f_at inc_136 (j := 170) rfl) sh_155 rfl (f_lt (o := 155) (m := 181) (Nat.le_of_ble_eq_true rfl) hN) rfl ?_
          refine i_iload (pc' := 369) (f_at inc_136 (j := 171) rfl) rfl rfl ?_
          refine i_iload (pc' := 371) (f_at inc_136 (j := 172) rfl) rfl rfl ?_
          refine i_iast (pc' := 372) (f_at inc_136 (j := 173) rfl) sh_166 (f_lt (o := 166) (m := 181) (Nat.le_of_ble_eq_true rfl) hN) rfl fun m85 => ?_
          refine i_aload_n (pc' := 373) (f_at inc_136 (j := 174) rfl) rfl rfl ?_
          refine i_getR (pc' := 376) (f_at inc_136 (j := 175) rfl) sh_155 rfl (f_lt (o := 155) (m := 181) (Nat.le_of_ble_eq_true rfl) hN) rfl ?_
          refine i_iload (pc' := 378) (f_at inc_136 (j := 176) rfl) rfl rfl ?_
          refine i_dup2 (pc' := 379) (f_at inc_136 (j := 177) rfl) ⟨rfl, rfl⟩ rfl ?_
          refine i_iald (pc' := 380) (f_at inc_136 (j := 178) rfl) sh_156 (f_bg (Nat.le_of_ble_eq_true rfl)) (f_lt (o := 156) (m := 181) (Nat.le_of_ble_eq_true rfl) hN) rfl fun v86 => ?_
          refine i_iload (pc' := 382) (f_at inc_136 (j := 179) rfl) rfl rfl ?_
          refine i_isub (pc' := 383) (f_at inc_136 (j := 180) rfl) rfl ?_
          refine i_iast (pc' := 384) (f_at inc_136 (j := 181) rfl) sh_156 (f_lt (o := 156) (m := 181) (Nat.le_of_ble_eq_true rfl) hN) rfl fun m87 => ?_
          refine i_aload_n (pc' := 385) (f_at inc_136 (j := 182) rfl) rfl rfl ?_
          refine i_dup (pc' := 386) (f_at inc_136 (j := 183) rfl) rfl rfl ?_
          refine i_getI (pc' := 389) (f_at inc_136 (j := 184) rfl) sh_155 rfl (f_lt (o := 155) (m := 181) (Nat.le_of_ble_eq_true rfl) hN) rfl ?_
          refine i_iload (pc' := 391) (f_at inc_136 (j := 185) rfl) rfl rfl ?_
          refine i_iadd (pc' := 392) (f_at inc_136 (j := 186) rfl) rfl ?_
          refine i_putI (pc' := 395) (f_at inc_136 (j := 187) rfl) sh_155 rfl ⟨rfl, rfl⟩ (f_lt (o := 155) (m := 181) (Nat.le_of_ble_eq_true rfl) hN) rfl ?_
          refine i_aload_n (pc' := 396) (f_at inc_136 (j := 188) rfl) rfl rfl ?_
          refine i_dup (pc' := 397) (f_at inc_136 (j := 189) rfl) rfl rfl ?_
          refine i_getI (pc' := 400) (f_at inc_136 (j := 190) rfl) sh_155 rfl (f_lt (o := 155) (m := 181) (Nat.le_of_ble_eq_true rfl) hN) rfl ?_
          refine i_iload (pc' := 402) (f_at inc_136 (j := 191) rfl) rfl rfl ?_
          refine i_iadd (pc' := 403) (f_at inc_136 (j := 192) rfl) rfl ?_
          refine i_putI (pc' := 406) (f_at inc_136 (j := 193) rfl) sh_155 rfl ⟨rfl, rfl⟩ (f_lt (o := 155) (m := 181) (Nat.le_of_ble_eq_true rfl) hN) rfl ?_
          refine i_aload_n (pc' := 407) (f_at inc_136 (j := 194) rfl) rfl rfl ?_
          refine i_dup (pc' := 408) (f_at inc_136 (j := 195) rfl) rfl rfl ?_
          refine i_getI (pc' := 411) (f_at inc_136 (j := 196) rfl) sh_155 rfl (f_lt (o := 155) (m := 181) (Nat.le_of_ble_eq_true rfl) hN) rfl ?_
          refine i_iconst (pc' := 412) (f_at inc_136 (j := 197) rfl) ci_1 rfl ?_
          refine i_iadd (pc' := 413) (f_at inc_136 (j := 198) rfl) rfl ?_
          refine i_putI (pc' := 416) (f_at inc_136 (j := 199) rfl) sh_155 rfl ⟨rfl, rfl⟩ (f_lt (o := 155) (m := 181) (Nat.le_of_ble_eq_true rfl) hN) rfl ?_
          refine i_iload (pc' := 418) (f_at inc_136 (j := 200) rfl) rfl rfl ?_
          refine s_joinc 0 0 (J := 459) (fun (t88 : Int32 × f_M) (u88 : Unit) => [.ref 155, .ref 0, .int a2, .int a3, .int (t1 - t1 / (σ 155 22) * (σ 155 22)), .int (σ 155 24), .int t67, .int ((σ 155 26) + t68), .int ((1 : Int32) + t69), .int ((1 : Int32) + t70), .int t71, .int t72]) (fun t88 => [.int t88.1]) (fun t88 => t88.2) ?_ ?_
          · intro t88 u88
            refine i_iload (pc' := 461) (f_at inc_136 (j := 221) rfl) rfl rfl ?_
            refine s_join (J := 469) (fun (t93 : Bool) (u93 : Unit) => [.ref 155, .ref 0, .int a2, .int a3, .int (t1 - t1 / (σ 155 22) * (σ 155 22)), .int (σ 155 24), .int t67, .int ((σ 155 26) + t68), .int ((1 : Int32) + t69), .int ((1 : Int32) + t70), .int t71, .int t72]) (fun t93 => [.int (f_b t93)]) (fun t93 => t88.2) ?_ ?_
            · intro t93 u93
              exact i_iret (v := f_b t93) (f_at inc_136 (j := 226) rfl) rfl n_bool
            · intro k93 hj93
              refine i_if2 (pc' := 468) (nx := 464) c2_ne (f_at inc_136 (j := 222) rfl) ⟨by decide, rfl⟩ (fun b94 => ?_) (fun b94 => ?_)
              · refine i_iconst (pc' := 469) (f_at inc_136 (j := 225) rfl) ci_0 rfl ?_
                exact hj93 false ()
              · refine i_iconst (pc' := 465) (f_at inc_136 (j := 223) rfl) ci_1 rfl ?_
                refine i_goto (pc' := 469) (f_at inc_136 (j := 224) rfl) (by decide) ?_
                exact hj93 true ()
          · intro k88 hj88
            refine i_if0 (pc' := 445) (nx := 421) c0_ne (f_at inc_136 (j := 201) rfl) ⟨by decide, rfl⟩ (fun b92 => ?_) (fun b92 => ?_)
            · refine i_aload_n (pc' := 446) (f_at inc_136 (j := 214) rfl) rfl rfl ?_
              refine i_iload (pc' := 448) (f_at inc_136 (j := 215) rfl) rfl rfl ?_
              refine i_iload (pc' := 450) (f_at inc_136 (j := 216) rfl) rfl rfl ?_
              refine i_iload (pc' := 452) (f_at inc_136 (j := 217) rfl) rfl rfl ?_
              refine i_iload (pc' := 454) (f_at inc_136 (j := 218) rfl) rfl rfl ?_
              refine i_iload (pc' := 456) (f_at inc_136 (j := 219) rfl) rfl rfl ?_
              refine c_wi (pc' := 459) (c' := 0) (n' := 0) (h_virt (ra := [.int t71, .int ((1 : Int32) + t70), .int ((1 : Int32) + t69), .int ((σ 155 26) + t68), .int (t1 - t1 / (σ 155 22) * (σ 155 22)), .ref 0]) (r := []) (as := [.int (t1 - t1 / (σ 155 22) * (σ 155 22)), .int ((σ 155 26) + t68), .int ((1 : Int32) + t69), .int ((1 : Int32) + t70), .int t71]) (f_at inc_136 (j := 220) rfl) (by decide) MT_131 rfl rfl rfl ⟨Nat.le_of_ble_eq_true rfl, Nat.le_of_ble_eq_true rfl, Nat.le_of_ble_eq_true rfl⟩ sh_0 (f_lt (o := 0) (m := 181) (Nat.le_of_ble_eq_true rfl) hN)) MT_131 (f_cal_nt (P_328 (Nat.le_trans (Nat.le_of_ble_eq_true rfl) hN) (t1 - t1 / (σ 155 22) * (σ 155 22)) ((σ 155 26) + t68) ((1 : Int32) + t69) ((1 : Int32) + t70) t71 (f_up (f_up (f_up m87 155 27 ((m87 155 27) + t72)) 155 28 (((f_up m87 155 27 ((m87 155 27) + t72)) 155 28) + t72)) 155 24 (((f_up (f_up m87 155 27 ((m87 155 27) + t72)) 155 28 (((f_up m87 155 27 ((m87 155 27) + t72)) 155 28) + t72)) 155 24) + (1 : Int32))))) ⟨rfl, rfl, rfl⟩ fun t89 => ?_
              exact hj88 (t89.1, t89.2) ()
            · refine i_aload_n (pc' := 422) (f_at inc_136 (j := 202) rfl) rfl rfl ?_
              refine i_iload (pc' := 424) (f_at inc_136 (j := 203) rfl) rfl rfl ?_
              refine i_iload (pc' := 426) (f_at inc_136 (j := 204) rfl) rfl rfl ?_
              refine i_iload (pc' := 428) (f_at inc_136 (j := 205) rfl) rfl rfl ?_
              refine i_iload (pc' := 430) (f_at inc_136 (j := 206) rfl) rfl rfl ?_
              refine i_iload (pc' := 432) (f_at inc_136 (j := 207) rfl) rfl rfl ?_
              refine i_aload_n (pc' := 433) (f_at inc_136 (j := 208) rfl) rfl rfl ?_
              refine i_getR (pc' := 436) (f_at inc_136 (j := 209) rfl) sh_155 rfl (f_lt (o := 155) (m := 181) (Nat.le_of_ble_eq_true rfl) hN) rfl ?_
              refine i_iload (pc' := 438) (f_at inc_136 (j := 210) rfl) rfl rfl ?_
              refine i_iald (pc' := 439) (f_at inc_136 (j := 211) rfl) sh_165 (f_bg (Nat.le_of_ble_eq_true rfl)) (f_lt (o := 165) (m := 181) (Nat.le_of_ble_eq_true rfl) hN) rfl fun v90 => ?_
              refine c_wi (pc' := 442) (c' := 0) (n' := 0) (h_virt (ra := [.int v90, .int t71, .int ((1 : Int32) + t70), .int ((1 : Int32) + t69), .int ((σ 155 26) + t68), .int (t1 - t1 / (σ 155 22) * (σ 155 22)), .ref 0]) (r := []) (as := [.int (t1 - t1 / (σ 155 22) * (σ 155 22)), .int ((σ 155 26) + t68), .int ((1 : Int32) + t69), .int ((1 : Int32) + t70), .int t71, .int v90]) (f_at inc_136 (j := 212) rfl) (by decide) MT_129 rfl rfl rfl ⟨Nat.le_of_ble_eq_true rfl, Nat.le_of_ble_eq_true rfl, Nat.le_of_ble_eq_true rfl⟩ sh_0 (f_lt (o := 0) (m := 181) (Nat.le_of_ble_eq_true rfl) hN)) MT_129 (f_cal_nt (P_324 (Nat.le_trans (Nat.le_of_ble_eq_true rfl) hN) (t1 - t1 / (σ 155 22) * (σ 155 22)) ((σ 155 26) + t68) ((1 : Int32) + t69) ((1 : Int32) + t70) t71 v90 (f_up (f_up (f_up m87 155 27 ((m87 155 27) + t72)) 155 28 (((f_up m87 155 27 ((m87 155 27) + t72)) 155 28) + t72)) 155 24 (((f_up (f_up m87 155 27 ((m87 155 27) + t72)) 155 28 (((f_up m87 155 27 ((m87 155 27) + t72)) 155 28) + t72)) 155 24) + (1 : Int32))))) ⟨rfl, rfl, rfl⟩ fun t91 => ?_
              refine i_goto (pc' := 459) (f_at inc_136 (j := 213) rfl) (by decide) ?_
              exact hj88 (t91.1, t91.2) ()
        · refine i_aload_n (pc' := 275) (f_at inc_136 (j := 118) rfl) rfl rfl ?_
          refine i_iconst (pc' := 276) (f_at inc_136 (j := 119) rfl) ci_1 rfl ?_
          refine i_iload (pc' := 278) (f_at inc_136 (j := 120) rfl) rfl rfl ?_
          refine i_iadd (pc' := 279) (f_at inc_136 (j := 121) rfl) rfl ?_
          refine i_iload (pc' := 281) (f_at inc_136 (j := 122) rfl) rfl rfl ?_
          refine i_iload (pc' := 283) (f_at inc_136 (j := 123) rfl) rfl rfl ?_
          refine i_iload (pc' := 285) (f_at inc_136 (j := 124) rfl) rfl rfl ?_
          refine i_iload (pc' := 287) (f_at inc_136 (j := 125) rfl) rfl rfl ?_
          refine i_iload (pc' := 289) (f_at inc_136 (j := 126) rfl) rfl rfl ?_
          refine c_wb (pc' := 292) (c' := 0) (n' := 0) (h_stat (ra := [.int t71, .int ((1 : Int32) + t70), .int ((1 : Int32) + t69), .int ((σ 155 26) + t68), .int (t1 - t1 / (σ 155 22) * (σ 155 22)), .int ((1 : Int32) + t67), .ref 0]) (r := []) (as := [.ref 0, .int ((1 : Int32) + t67), .int (t1 - t1 / (σ 155 22) * (σ 155 22)), .int ((σ 155 26) + t68), .int ((1 : Int32) + t69), .int ((1 : Int32) + t70), .int t71]) (f_at inc_136 (j := 127) rfl) (by decide) MT_132 rfl rfl rfl ⟨Nat.le_of_ble_eq_true rfl, Nat.le_of_ble_eq_true rfl, Nat.le_of_ble_eq_true rfl⟩) MT_132 (L_isRefused hN ((1 : Int32) + t67) (t1 - t1 / (σ 155 22) * (σ 155 22)) ((σ 155 26) + t68) ((1 : Int32) + t69) ((1 : Int32) + t70) t71 σ) ⟨rfl, rfl, rfl⟩ fun t95 => ?_
          exact i_iret (v := f_b t95.1) (f_at inc_136 (j := 128) rfl) rfl n_bool
    · intro k72 hj72
      refine i_if0 (pc' := 238) (nx := 225) c0_ne (f_at inc_136 (j := 88) rfl) ⟨by decide, rfl⟩ (fun b74 => ?_) (fun b74 => ?_)
      · refine i_iload (pc' := 240) (f_at inc_136 (j := 97) rfl) rfl rfl ?_
        refine i_iload (pc' := 242) (f_at inc_136 (j := 98) rfl) rfl rfl ?_
        refine i_imul (pc' := 243) (f_at inc_136 (j := 99) rfl) rfl ?_
        refine i_bipush (pc' := 245) (f_at inc_136 (j := 100) rfl) cb_20 rfl ?_
        refine i_iconst (pc' := 246) (f_at inc_136 (j := 101) rfl) ci_2 rfl ?_
        refine i_iload (pc' := 248) (f_at inc_136 (j := 102) rfl) rfl rfl ?_
        refine i_imul (pc' := 249) (f_at inc_136 (j := 103) rfl) rfl ?_
        refine i_iadd (pc' := 250) (f_at inc_136 (j := 104) rfl) rfl ?_
        refine i_grn fun h73 => ?_
        refine i_idiv (pc' := 251) (f_at inc_136 (j := 105) rfl) h73 rfl ?_
        refine i_iconst (pc' := 252) (f_at inc_136 (j := 106) rfl) ci_1 rfl ?_
        refine i_iadd (pc' := 253) (f_at inc_136 (j := 107) rfl) rfl ?_
        exact hj72 (((((1 : Int32) + t70) * ((1 : Int32) + t69)) / ((20 : Int32) + ((2 : Int32) * t71))) + (1 : Int32)) ()
      · refine i_iload (pc' := 227) (f_at inc_136 (j := 89) rfl) rfl rfl ?_
        refine i_iload (pc' := 229) (f_at inc_136 (j := 90) rfl) rfl rfl ?_
        refine i_imul (pc' := 230) (f_at inc_136 (j := 91) rfl) rfl ?_
        refine i_bipush (pc' := 232) (f_at inc_136 (j := 92) rfl) cb_40 rfl ?_
        refine i_idiv (pc' := 233) (f_at inc_136 (j := 93) rfl) (by decide) rfl ?_
        refine i_iconst (pc' := 234) (f_at inc_136 (j := 94) rfl) ci_1 rfl ?_
        refine i_iadd (pc' := 235) (f_at inc_136 (j := 95) rfl) rfl ?_
        refine i_goto (pc' := 253) (f_at inc_136 (j := 96) rfl) (by decide) ?_
        exact hj72 (((((1 : Int32) + t70) * ((1 : Int32) + t69)) / (40 : Int32)) + (1 : Int32)) ()
  refine i_cas (fun b130 => ?_) (fun b130 => ?_)
  · refine i_sw (pc' := 160) (v := (8 : Int32)) (f_at inc_136 (j := 12) rfl) b130 ⟨by decide, rfl⟩ (by decide) ?_
    refine i_aload_n (pc' := 161) (f_at inc_136 (j := 52) rfl) rfl rfl ?_
    refine i_getI (pc' := 164) (f_at inc_136 (j := 53) rfl) sh_155 rfl (f_lt (o := 155) (m := 181) (Nat.le_of_ble_eq_true rfl) hN) rfl ?_
    refine i_istore (pc' := 166) (ls' := [.ref 155, .ref 0, .int a2, .int a3, .int (t1 - t1 / (σ 155 22) * (σ 155 22)), .int (σ 155 24), a_dead, a_dead, a_dead, a_dead, a_dead, a_dead]) (f_at inc_136 (j := 54) rfl) (Nat.le_of_ble_eq_true rfl) rfl rfl ?_
    refine i_iload_n (pc' := 167) (f_at inc_136 (j := 55) rfl) rfl rfl ?_
    refine i_bipush (pc' := 169) (f_at inc_136 (j := 56) rfl) cb_8 rfl ?_
    refine i_iconst (pc' := 170) (f_at inc_136 (j := 57) rfl) ci_1 rfl ?_
    refine c_pi (pc' := 173) (c' := 1) (n' := 6) (h_stat (ra := [.int (1 : Int32), .int (8 : Int32), .int a2]) (r := []) (as := [.int a2, .int (8 : Int32), .int (1 : Int32)]) (f_at inc_136 (j := 58) rfl) (by decide) MT_37 rfl rfl rfl ⟨Nat.le_of_ble_eq_true rfl, Nat.le_of_ble_eq_true rfl, Nat.le_of_ble_eq_true rfl⟩) MT_37 (L_bits hN a2 (8 : Int32) (1 : Int32) σ) ⟨rfl, rfl, rfl⟩ fun t99 => ?_
    refine i_istore (pc' := 175) (ls' := [.ref 155, .ref 0, .int a2, .int a3, .int (t1 - t1 / (σ 155 22) * (σ 155 22)), .int (σ 155 24), .int t99, a_dead, a_dead, a_dead, a_dead, a_dead]) (f_at inc_136 (j := 59) rfl) (Nat.le_of_ble_eq_true rfl) rfl rfl ?_
    refine i_aload_n (pc' := 176) (f_at inc_136 (j := 60) rfl) rfl rfl ?_
    refine i_getI (pc' := 179) (f_at inc_136 (j := 61) rfl) sh_155 rfl (f_lt (o := 155) (m := 181) (Nat.le_of_ble_eq_true rfl) hN) rfl ?_
    refine i_iload_n (pc' := 180) (f_at inc_136 (j := 62) rfl) rfl rfl ?_
    refine i_bipush (pc' := 182) (f_at inc_136 (j := 63) rfl) cb_9 rfl ?_
    refine i_iconst (pc' := 183) (f_at inc_136 (j := 64) rfl) ci_2 rfl ?_
    refine c_pi (pc' := 186) (c' := 1) (n' := 6) (h_stat (ra := [.int (2 : Int32), .int (9 : Int32), .int a2]) (r := [.int (σ 155 26)]) (as := [.int a2, .int (9 : Int32), .int (2 : Int32)]) (f_at inc_136 (j := 65) rfl) (by decide) MT_37 rfl rfl rfl ⟨Nat.le_of_ble_eq_true rfl, Nat.le_of_ble_eq_true rfl, Nat.le_of_ble_eq_true rfl⟩) MT_37 (L_bits hN a2 (9 : Int32) (2 : Int32) σ) ⟨rfl, rfl, rfl⟩ fun t100 => ?_
    refine i_iadd (pc' := 187) (f_at inc_136 (j := 66) rfl) rfl ?_
    refine i_istore (pc' := 189) (ls' := [.ref 155, .ref 0, .int a2, .int a3, .int (t1 - t1 / (σ 155 22) * (σ 155 22)), .int (σ 155 24), .int t99, .int ((σ 155 26) + t100), a_dead, a_dead, a_dead, a_dead]) (f_at inc_136 (j := 67) rfl) (Nat.le_of_ble_eq_true rfl) rfl rfl ?_
    refine i_iconst (pc' := 190) (f_at inc_136 (j := 68) rfl) ci_1 rfl ?_
    refine i_iload_n (pc' := 191) (f_at inc_136 (j := 69) rfl) rfl rfl ?_
    refine i_bipush (pc' := 193) (f_at inc_136 (j := 70) rfl) cb_11 rfl ?_
    refine i_iconst (pc' := 194) (f_at inc_136 (j := 71) rfl) ci_3 rfl ?_
    refine c_pi (pc' := 197) (c' := 1) (n' := 6) (h_stat (ra := [.int (3 : Int32), .int (11 : Int32), .int a2]) (r := [.int (1 : Int32)]) (as := [.int a2, .int (11 : Int32), .int (3 : Int32)]) (f_at inc_136 (j := 72) rfl) (by decide) MT_37 rfl rfl rfl ⟨Nat.le_of_ble_eq_true rfl, Nat.le_of_ble_eq_true rfl, Nat.le_of_ble_eq_true rfl⟩) MT_37 (L_bits hN a2 (11 : Int32) (3 : Int32) σ) ⟨rfl, rfl, rfl⟩ fun t101 => ?_
    refine i_iadd (pc' := 198) (f_at inc_136 (j := 73) rfl) rfl ?_
    refine i_istore (pc' := 200) (ls' := [.ref 155, .ref 0, .int a2, .int a3, .int (t1 - t1 / (σ 155 22) * (σ 155 22)), .int (σ 155 24), .int t99, .int ((σ 155 26) + t100), .int ((1 : Int32) + t101), a_dead, a_dead, a_dead]) (f_at inc_136 (j := 74) rfl) (Nat.le_of_ble_eq_true rfl) rfl rfl ?_
    refine i_iconst (pc' := 201) (f_at inc_136 (j := 75) rfl) ci_1 rfl ?_
    refine i_iload_n (pc' := 202) (f_at inc_136 (j := 76) rfl) rfl rfl ?_
    refine i_bipush (pc' := 204) (f_at inc_136 (j := 77) rfl) cb_14 rfl ?_
    refine i_bipush (pc' := 206) (f_at inc_136 (j := 78) rfl) cb_7 rfl ?_
    refine c_pi (pc' := 209) (c' := 1) (n' := 6) (h_stat (ra := [.int (7 : Int32), .int (14 : Int32), .int a2]) (r := [.int (1 : Int32)]) (as := [.int a2, .int (14 : Int32), .int (7 : Int32)]) (f_at inc_136 (j := 79) rfl) (by decide) MT_37 rfl rfl rfl ⟨Nat.le_of_ble_eq_true rfl, Nat.le_of_ble_eq_true rfl, Nat.le_of_ble_eq_true rfl⟩) MT_37 (L_bits hN a2 (14 : Int32) (7 : Int32) σ) ⟨rfl, rfl, rfl⟩ fun t102 => ?_
    refine i_iadd (pc' := 210) (f_at inc_136 (j := 80) rfl) rfl ?_
    refine i_istore (pc' := 212) (ls' := [.ref 155, .ref 0, .int a2, .int a3, .int (t1 - t1 / (σ 155 22) * (σ 155 22)), .int (σ 155 24), .int t99, .int ((σ 155 26) + t100), .int ((1 : Int32) + t101), .int ((1 : Int32) + t102), a_dead, a_dead]) (f_at inc_136 (j := 81) rfl) (Nat.le_of_ble_eq_true rfl) rfl rfl ?_
    refine i_iload_n (pc' := 213) (f_at inc_136 (j := 82) rfl) rfl rfl ?_
    refine i_iconst (pc' := 214) (f_at inc_136 (j := 83) rfl) ci_0 rfl ?_
    refine i_iconst (pc' := 215) (f_at inc_136 (j := 84) rfl) ci_5 rfl ?_
    refine c_pi (pc' := 218) (c' := 1) (n' := 6) (h_stat (ra := [.int (5 : Int32), .int (0 : Int32), .int a3]) (r := []) (as := [.int a3, .int (0 : Int32), .int (5 : Int32)]) (f_at inc_136 (j := 85) rfl) (by decide) MT_37 rfl rfl rfl ⟨Nat.le_of_ble_eq_true rfl, Nat.le_of_ble_eq_true rfl, Nat.le_of_ble_eq_true rfl⟩) MT_37 (L_bits hN a3 (0 : Int32) (5 : Int32) σ) ⟨rfl, rfl, rfl⟩ fun t103 => ?_
    refine i_istore (pc' := 220) (ls' := [.ref 155, .ref 0, .int a2, .int a3, .int (t1 - t1 / (σ 155 22) * (σ 155 22)), .int (σ 155 24), .int t99, .int ((σ 155 26) + t100), .int ((1 : Int32) + t101), .int ((1 : Int32) + t102), .int t103, a_dead]) (f_at inc_136 (j := 86) rfl) (Nat.le_of_ble_eq_true rfl) rfl rfl ?_
    refine i_iload (pc' := 222) (f_at inc_136 (j := 87) rfl) rfl rfl ?_
    refine s_join (J := 253) (fun (t104 : Int32) (u104 : Unit) => [.ref 155, .ref 0, .int a2, .int a3, .int (t1 - t1 / (σ 155 22) * (σ 155 22)), .int (σ 155 24), .int t99, .int ((σ 155 26) + t100), .int ((1 : Int32) + t101), .int ((1 : Int32) + t102), .int t103, a_dead]) (fun t104 => [.int t104]) (fun t104 => σ) ?_ ?_
    · intro t104 u104
      refine i_istore (pc' := 255) (ls' := [.ref 155, .ref 0, .int a2, .int a3, .int (t1 - t1 / (σ 155 22) * (σ 155 22)), .int (σ 155 24), .int t99, .int ((σ 155 26) + t100), .int ((1 : Int32) + t101), .int ((1 : Int32) + t102), .int t103, .int t104]) (f_at inc_136 (j := 108) rfl) (Nat.le_of_ble_eq_true rfl) rfl rfl ?_
      refine i_iload (pc' := 257) (f_at inc_136 (j := 109) rfl) rfl rfl ?_
      refine i_bipush (pc' := 259) (f_at inc_136 (j := 110) rfl) cb_20 rfl ?_
      refine i_if2 (pc' := 274) (nx := 262) c2_eq (f_at inc_136 (j := 111) rfl) ⟨by decide, rfl⟩ (fun b129 => ?_) (fun b129 => ?_)
      · refine i_aload_n (pc' := 275) (f_at inc_136 (j := 118) rfl) rfl rfl ?_
        refine i_iconst (pc' := 276) (f_at inc_136 (j := 119) rfl) ci_1 rfl ?_
        refine i_iload (pc' := 278) (f_at inc_136 (j := 120) rfl) rfl rfl ?_
        refine i_iadd (pc' := 279) (f_at inc_136 (j := 121) rfl) rfl ?_
        refine i_iload (pc' := 281) (f_at inc_136 (j := 122) rfl) rfl rfl ?_
        refine i_iload (pc' := 283) (f_at inc_136 (j := 123) rfl) rfl rfl ?_
        refine i_iload (pc' := 285) (f_at inc_136 (j := 124) rfl) rfl rfl ?_
        refine i_iload (pc' := 287) (f_at inc_136 (j := 125) rfl) rfl rfl ?_
        refine i_iload (pc' := 289) (f_at inc_136 (j := 126) rfl) rfl rfl ?_
        refine c_wb (pc' := 292) (c' := 0) (n' := 0) (h_stat (ra := [.int t103, .int ((1 : Int32) + t102), .int ((1 : Int32) + t101), .int ((σ 155 26) + t100), .int (t1 - t1 / (σ 155 22) * (σ 155 22)), .int ((1 : Int32) + t99), .ref 0]) (r := []) (as := [.ref 0, .int ((1 : Int32) + t99), .int (t1 - t1 / (σ 155 22) * (σ 155 22)), .int ((σ 155 26) + t100), .int ((1 : Int32) + t101), .int ((1 : Int32) + t102), .int t103]) (f_at inc_136 (j := 127) rfl) (by decide) MT_132 rfl rfl rfl ⟨Nat.le_of_ble_eq_true rfl, Nat.le_of_ble_eq_true rfl, Nat.le_of_ble_eq_true rfl⟩) MT_132 (L_isRefused hN ((1 : Int32) + t99) (t1 - t1 / (σ 155 22) * (σ 155 22)) ((σ 155 26) + t100) ((1 : Int32) + t101) ((1 : Int32) + t102) t103 σ) ⟨rfl, rfl, rfl⟩ fun t107 => ?_
        exact i_iret (v := f_b t107.1) (f_at inc_136 (j := 128) rfl) rfl n_bool
      · refine i_aload_n (pc' := 263) (f_at inc_136 (j := 112) rfl) rfl rfl ?_
        refine i_getR (pc' := 266) (f_at inc_136 (j := 113) rfl) sh_155 rfl (f_lt (o := 155) (m := 181) (Nat.le_of_ble_eq_true rfl) hN) rfl ?_
        refine i_iload (pc' := 268) (f_at inc_136 (j := 114) rfl) rfl rfl ?_
        refine i_iald (pc' := 269) (f_at inc_136 (j := 115) rfl) sh_156 (f_bg (Nat.le_of_ble_eq_true rfl)) (f_lt (o := 156) (m := 181) (Nat.le_of_ble_eq_true rfl) hN) rfl fun v108 => ?_
        refine i_iload (pc' := 271) (f_at inc_136 (j := 116) rfl) rfl rfl ?_
        refine i_if2 (pc' := 293) (nx := 274) c2_ge (f_at inc_136 (j := 117) rfl) ⟨by decide, rfl⟩ (fun b128 => ?_) (fun b128 => ?_)
        · refine i_aload_n (pc' := 294) (f_at inc_136 (j := 129) rfl) rfl rfl ?_
          refine i_getR (pc' := 297) (f_at inc_136 (j := 130) rfl) sh_155 rfl (f_lt (o := 155) (m := 181) (Nat.le_of_ble_eq_true rfl) hN) rfl ?_
          refine i_iload (pc' := 299) (f_at inc_136 (j := 131) rfl) rfl rfl ?_
          refine i_iload (pc' := 301) (f_at inc_136 (j := 132) rfl) rfl rfl ?_
          refine i_iast (pc' := 302) (f_at inc_136 (j := 133) rfl) sh_159 (f_lt (o := 159) (m := 181) (Nat.le_of_ble_eq_true rfl) hN) rfl fun m109 => ?_
          refine i_aload_n (pc' := 303) (f_at inc_136 (j := 134) rfl) rfl rfl ?_
          refine i_getR (pc' := 306) (f_at inc_136 (j := 135) rfl) sh_155 rfl (f_lt (o := 155) (m := 181) (Nat.le_of_ble_eq_true rfl) hN) rfl ?_
          refine i_iload (pc' := 308) (f_at inc_136 (j := 136) rfl) rfl rfl ?_
          refine i_iload (pc' := 310) (f_at inc_136 (j := 137) rfl) rfl rfl ?_
          refine i_iast (pc' := 311) (f_at inc_136 (j := 138) rfl) sh_160 (f_lt (o := 160) (m := 181) (Nat.le_of_ble_eq_true rfl) hN) rfl fun m110 => ?_
          refine i_aload_n (pc' := 312) (f_at inc_136 (j := 139) rfl) rfl rfl ?_
          refine i_getR (pc' := 315) (f_at inc_136 (j := 140) rfl) sh_155 rfl (f_lt (o := 155) (m := 181) (Nat.le_of_ble_eq_true rfl) hN) rfl ?_
          refine i_iload (pc' := 317) (f_at inc_136 (j := 141) rfl) rfl rfl ?_
          refine i_iload (pc' := 319) (f_at inc_136 (j := 142) rfl) rfl rfl ?_
          refine i_iast (pc' := 320) (f_at inc_136 (j := 143) rfl) sh_161 (f_lt (o := 161) (m := 181) (Nat.le_of_ble_eq_true rfl) hN) rfl fun m111 => ?_
          refine i_aload_n (pc' := 321) (f_at inc_136 (j := 144) rfl) rfl rfl ?_
          refine i_getR (pc' := 324) (f_at inc_136 (j := 145) rfl) sh_155 rfl (f_lt (o := 155) (m := 181) (Nat.le_of_ble_eq_true rfl) hN) rfl ?_
          refine i_iload (pc' := 326) (f_at inc_136 (j := 146) rfl) rfl rfl ?_
          refine i_iload (pc' := 328) (f_at inc_136 (j := 147) rfl) rfl rfl ?_
          refine i_iast (pc' := 329) (f_at inc_136 (j := 148) rfl) sh_162 (f_lt (o := 162) (m := 181) (Nat.le_of_ble_eq_true rfl) hN) rfl fun m112 => ?_
          refine i_aload_n (pc' := 330) (f_at inc_136 (j := 149) rfl) rfl rfl ?_
          refine i_getR (pc' := 333) (f_at inc_136 (j := 150) rfl) sh_155 rfl (f_lt (o := 155) (m := 181) (Nat.le_of_ble_eq_true rfl) hN) rfl ?_
          refine i_iload (pc' := 335) (f_at inc_136 (j := 151) rfl) rfl rfl ?_
          refine i_iload (pc' := 337) (f_at inc_136 (j := 152) rfl) rfl rfl ?_
          refine i_iast (pc' := 338) (f_at inc_136 (j := 153) rfl) sh_163 (f_lt (o := 163) (m := 181) (Nat.le_of_ble_eq_true rfl) hN) rfl fun m113 => ?_
          refine i_aload_n (pc' := 339) (f_at inc_136 (j := 154) rfl) rfl rfl ?_
          refine i_getR (pc' := 342) (f_at inc_136 (j := 155) rfl) sh_155 rfl (f_lt (o := 155) (m := 181) (Nat.le_of_ble_eq_true rfl) hN) rfl ?_
          refine i_iload (pc' := 344) (f_at inc_136 (j := 156) rfl) rfl rfl ?_
          refine i_iload (pc' := 346) (f_at inc_136 (j := 157) rfl) rfl rfl ?_
          refine i_iast (pc' := 347) (f_at inc_136 (j := 158) rfl) sh_164 (f_lt (o := 164) (m := 181) (Nat.le_of_ble_eq_true rfl) hN) rfl fun m114 => ?_
          refine i_aload_n (pc' := 348) (f_at inc_136 (j := 159) rfl) rfl rfl ?_
          refine i_getR (pc' := 351) (f_at inc_136 (j := 160) rfl) sh_155 rfl (f_lt (o := 155) (m := 181) (Nat.le_of_ble_eq_true rfl) hN) rfl ?_
          refine i_iload (pc' := 353) (f_at inc_136 (j := 161) rfl) rfl rfl ?_
          refine i_iload (pc' := 355) (f_at inc_136 (j := 162) rfl) rfl rfl ?_
          refine i_iload_n (pc' := 356) (f_at inc_136 (j := 163) rfl) rfl rfl ?_
          refine i_iconst (pc' := 357) (f_at inc_136 (j := 164) rfl) ci_5 rfl ?_
          refine i_iconst (pc' := 358) (f_at inc_136 (j := 165) rfl) ci_5 rfl ?_
          refine c_pi (pc' := 361) (c' := 1) (n' := 6) (h_stat (ra := [.int (5 : Int32), .int (5 : Int32), .int a3]) (r := [.int t103, .int (σ 155 24), .ref 165]) (as := [.int a3, .int (5 : Int32), .int (5 : Int32)]) (f_at inc_136 (j := 166) rfl) (by decide) MT_37 rfl rfl rfl ⟨Nat.le_of_ble_eq_true rfl, Nat.le_of_ble_eq_true rfl, Nat.le_of_ble_eq_true rfl⟩) MT_37 (L_bits hN a3 (5 : Int32) (5 : Int32) m114) ⟨rfl, rfl, rfl⟩ fun t115 => ?_
          refine i_iadd (pc' := 362) (f_at inc_136 (j := 167) rfl) rfl ?_
          refine i_iast (pc' := 363) (f_at inc_136 (j := 168) rfl) sh_165 (f_lt (o := 165) (m := 181) (Nat.le_of_ble_eq_true rfl) hN) rfl fun m116 => ?_
          refine i_aload_n (pc' := 364) (f_at inc_136 (j := 169) rfl) rfl rfl ?_
          refine i_getR (pc' := 367) (f_at inc_136 (j := 170) rfl) sh_155 rfl (f_lt (o := 155) (m := 181) (Nat.le_of_ble_eq_true rfl) hN) rfl ?_
          refine i_iload (pc' := 369) (f_at inc_136 (j := 171) rfl) rfl rfl ?_
          refine i_iload (pc' := 371) (f_at inc_136 (j := 172) rfl) rfl rfl ?_
          refine i_iast (pc' := 372) (f_at inc_136 (j := 173) rfl) sh_166 (f_lt (o := 166) (m := 181) (Nat.le_of_ble_eq_true rfl) hN) rfl fun m117 => ?_
          refine i_aload_n (pc' := 373) (f_at inc_136 (j := 174) rfl) rfl rfl ?_
          refine i_getR (pc' := 376) (f_at inc_136 (j := 175) rfl) sh_155 rfl (f_lt (o := 155) (m := 181) (Nat.le_of_ble_eq_true rfl) hN) rfl ?_
          refine i_iload (pc' := 378) (f_at inc_136 (j := 176) rfl) rfl rfl ?_
          refine i_dup2 (pc' := 379) (f_at inc_136 (j := 177) rfl) ⟨rfl, rfl⟩ rfl ?_
          refine i_iald (pc' := 380) (f_at inc_136 (j := 178) rfl) sh_156 (f_bg (Nat.le_of_ble_eq_true rfl)) (f_lt (o := 156) (m := 181) (Nat.le_of_ble_eq_true rfl) hN) rfl fun v118 => ?_
          refine i_iload (pc' := 382) (f_at inc_136 (j := 179) rfl) rfl rfl ?_
          refine i_isub (pc' := 383) (f_at inc_136 (j := 180) rfl) rfl ?_
          refine i_iast (pc' := 384) (f_at inc_136 (j := 181) rfl) sh_156 (f_lt (o := 156) (m := 181) (Nat.le_of_ble_eq_true rfl) hN) rfl fun m119 => ?_
          refine i_aload_n (pc' := 385) (f_at inc_136 (j := 182) rfl) rfl rfl ?_
          refine i_dup (pc' := 386) (f_at inc_136 (j := 183) rfl) rfl rfl ?_
          refine i_getI (pc' := 389) (f_at inc_136 (j := 184) rfl) sh_155 rfl (f_lt (o := 155) (m := 181) (Nat.le_of_ble_eq_true rfl) hN) rfl ?_
          refine i_iload (pc' := 391) (f_at inc_136 (j := 185) rfl) rfl rfl ?_
          refine i_iadd (pc' := 392) (f_at inc_136 (j := 186) rfl) rfl ?_
          refine i_putI (pc' := 395) (f_at inc_136 (j := 187) rfl) sh_155 rfl ⟨rfl, rfl⟩ (f_lt (o := 155) (m := 181) (Nat.le_of_ble_eq_true rfl) hN) rfl ?_
          refine i_aload_n (pc' := 396) (f_at inc_136 (j := 188) rfl) rfl rfl ?_
          refine i_dup (pc' := 397) (f_at inc_136 (j := 189) rfl) rfl rfl ?_
          refine i_getI (pc' := 400) (f_at inc_136 (j := 190) rfl) sh_155 rfl (f_lt (o := 155) (m := 181) (Nat.le_of_ble_eq_true rfl) hN) rfl ?_
          refine i_iload (pc' := 402) (f_at inc_136 (j := 191) rfl) rfl rfl ?_
          refine i_iadd (pc' := 403) (f_at inc_136 (j := 192) rfl) rfl ?_
          refine i_putI (pc' := 406) (f_at inc_136 (j := 193) rfl) sh_155 rfl ⟨rfl, rfl⟩ (f_lt (o := 155) (m := 181) (Nat.le_of_ble_eq_true rfl) hN) rfl ?_
          refine i_aload_n (pc' := 407) (f_at inc_136 (j := 194) rfl) rfl rfl ?_
          refine i_dup (pc' := 408) (f_at inc_136 (j := 195) rfl) rfl rfl ?_
          refine i_getI (pc' := 411) (f_at inc_136 (j := 196) rfl) sh_155 rfl (f_lt (o := 155) (m := 181) (Nat.le_of_ble_eq_true rfl) hN) rfl ?_
          refine i_iconst (pc' := 412) (f_at inc_136 (j := 197) rfl) ci_1 rfl ?_
          refine i_iadd (pc' := 413) (f_at inc_136 (j := 198) rfl) rfl ?_
          refine i_putI (pc' := 416) (f_at inc_136 (j := 199) rfl) sh_155 rfl ⟨rfl, rfl⟩ (f_lt (o := 155) (m := 181) (Nat.le_of_ble_eq_true rfl) hN) rfl ?_
          refine i_iload (pc' := 418) (f_at inc_136 (j := 200) rfl) rfl rfl ?_
          refine s_joinc 0 0 (J := 459) (fun (t120 : Int32 × f_M) (u120 : Unit) => [.ref 155, .ref 0, .int a2, .int a3, .int (t1 - t1 / (σ 155 22) * (σ 155 22)), .int (σ 155 24), .int t99, .int ((σ 155 26) + t100), .int ((1 : Int32) + t101), .int ((1 : Int32) + t102), .int t103, .int t104]) (fun t120 => [.int t120.1]) (fun t120 => t120.2) ?_ ?_
          · intro t120 u120
            refine i_iload (pc' := 461) (f_at inc_136 (j := 221) rfl) rfl rfl ?_
            refine s_join (J := 469) (fun (t125 : Bool) (u125 : Unit) => [.ref 155, .ref 0, .int a2, .int a3, .int (t1 - t1 / (σ 155 22) * (σ 155 22)), .int (σ 155 24), .int t99, .int ((σ 155 26) + t100), .int ((1 : Int32) + t101), .int ((1 : Int32) + t102), .int t103, .int t104]) (fun t125 => [.int (f_b t125)]) (fun t125 => t120.2) ?_ ?_
            · intro t125 u125
              exact i_iret (v := f_b t125) (f_at inc_136 (j := 226) rfl) rfl n_bool
            · intro k125 hj125
              refine i_if2 (pc' := 468) (nx := 464) c2_ne (f_at inc_136 (j := 222) rfl) ⟨by decide, rfl⟩ (fun b126 => ?_) (fun b126 => ?_)
              · refine i_iconst (pc' := 469) (f_at inc_136 (j := 225) rfl) ci_0 rfl ?_
                exact hj125 false ()
              · refine i_iconst (pc' := 465) (f_at inc_136 (j := 223) rfl) ci_1 rfl ?_
                refine i_goto (pc' := 469) (f_at inc_136 (j := 224) rfl) (by decide) ?_
                exact hj125 true ()
          · intro k120 hj120
            refine i_if0 (pc' := 445) (nx := 421) c0_ne (f_at inc_136 (j := 201) rfl) ⟨by decide, rfl⟩ (fun b124 => ?_) (fun b124 => ?_)
            · refine i_aload_n (pc' := 446) (f_at inc_136 (j := 214) rfl) rfl rfl ?_
              refine i_iload (pc' := 448) (f_at inc_136 (j := 215) rfl) rfl rfl ?_
              refine i_iload (pc' := 450) (f_at inc_136 (j := 216) rfl) rfl rfl ?_
              refine i_iload (pc' := 452) (f_at inc_136 (j := 217) rfl) rfl rfl ?_
              refine i_iload (pc' := 454) (f_at inc_136 (j := 218) rfl) rfl rfl ?_
              refine i_iload (pc' := 456) (f_at inc_136 (j := 219) rfl) rfl rfl ?_
              refine c_wi (pc' := 459) (c' := 0) (n' := 0) (h_virt (ra := [.int t103, .int ((1 : Int32) + t102), .int ((1 : Int32) + t101), .int ((σ 155 26) + t100), .int (t1 - t1 / (σ 155 22) * (σ 155 22)), .ref 0]) (r := []) (as := [.int (t1 - t1 / (σ 155 22) * (σ 155 22)), .int ((σ 155 26) + t100), .int ((1 : Int32) + t101), .int ((1 : Int32) + t102), .int t103]) (f_at inc_136 (j := 220) rfl) (by decide) MT_131 rfl rfl rfl ⟨Nat.le_of_ble_eq_true rfl, Nat.le_of_ble_eq_true rfl, Nat.le_of_ble_eq_true rfl⟩ sh_0 (f_lt (o := 0) (m := 181) (Nat.le_of_ble_eq_true rfl) hN)) MT_131 (f_cal_nt (P_328 (Nat.le_trans (Nat.le_of_ble_eq_true rfl) hN) (t1 - t1 / (σ 155 22) * (σ 155 22)) ((σ 155 26) + t100) ((1 : Int32) + t101) ((1 : Int32) + t102) t103 (f_up (f_up (f_up m119 155 27 ((m119 155 27) + t104)) 155 28 (((f_up m119 155 27 ((m119 155 27) + t104)) 155 28) + t104)) 155 24 (((f_up (f_up m119 155 27 ((m119 155 27) + t104)) 155 28 (((f_up m119 155 27 ((m119 155 27) + t104)) 155 28) + t104)) 155 24) + (1 : Int32))))) ⟨rfl, rfl, rfl⟩ fun t121 => ?_
              exact hj120 (t121.1, t121.2) ()
            · refine i_aload_n (pc' := 422) (f_at inc_136 (j := 202) rfl) rfl rfl ?_
              refine i_iload (pc' := 424) (f_at inc_136 (j := 203) rfl) rfl rfl ?_
              refine i_iload (pc' := 426) (f_at inc_136 (j := 204) rfl) rfl rfl ?_
              refine i_iload (pc' := 428) (f_at inc_136 (j := 205) rfl) rfl rfl ?_
              refine i_iload (pc' := 430) (f_at inc_136 (j := 206) rfl) rfl rfl ?_
              refine i_iload (pc' := 432) (f_at inc_136 (j := 207) rfl) rfl rfl ?_
              refine i_aload_n (pc' := 433) (f_at inc_136 (j := 208) rfl) rfl rfl ?_
              refine i_getR (pc' := 436) (f_at inc_136 (j := 209) rfl) sh_155 rfl (f_lt (o := 155) (m := 181) (Nat.le_of_ble_eq_true rfl) hN) rfl ?_
              refine i_iload (pc' := 438) (f_at inc_136 (j := 210) rfl) rfl rfl ?_
              refine i_iald (pc' := 439) (f_at inc_136 (j := 211) rfl) sh_165 (f_bg (Nat.le_of_ble_eq_true rfl)) (f_lt (o := 165) (m := 181) (Nat.le_of_ble_eq_true rfl) hN) rfl fun v122 => ?_
              refine c_wi (pc' := 442) (c' := 0) (n' := 0) (h_virt (ra := [.int v122, .int t103, .int ((1 : Int32) + t102), .int ((1 : Int32) + t101), .int ((σ 155 26) + t100), .int (t1 - t1 / (σ 155 22) * (σ 155 22)), .ref 0]) (r := []) (as := [.int (t1 - t1 / (σ 155 22) * (σ 155 22)), .int ((σ 155 26) + t100), .int ((1 : Int32) + t101), .int ((1 : Int32) + t102), .int t103, .int v122]) (f_at inc_136 (j := 212) rfl) (by decide) MT_129 rfl rfl rfl ⟨Nat.le_of_ble_eq_true rfl, Nat.le_of_ble_eq_true rfl, Nat.le_of_ble_eq_true rfl⟩ sh_0 (f_lt (o := 0) (m := 181) (Nat.le_of_ble_eq_true rfl) hN)) MT_129 (f_cal_nt (P_324 (Nat.le_trans (Nat.le_of_ble_eq_true rfl) hN) (t1 - t1 / (σ 155 22) * (σ 155 22)) ((σ 155 26) + t100) ((1 : Int32) + t101) ((1 : Int32) + t102) t103 v122 (f_up (f_up (f_up m119 155 27 ((m119 155 27) + t104)) 155 28 (((f_up m119 155 27 ((m119 155 27) + t104)) 155 28) + t104)) 155 24 (((f_up (f_up m119 155 27 ((m119 155 27) + t104)) 155 28 (((f_up m119 155 27 ((m119 155 27) + t104)) 155 28) + t104)) 155 24) + (1 : Int32))))) ⟨rfl, rfl, rfl⟩ fun t123 => ?_
              refine i_goto (pc' := 459) (f_at inc_136 (j := 213) rfl) (by decide) ?_
              exact hj120 (t123.1, t123.2) ()
        · refine i_aload_n (pc' := 275) (f_at inc_136 (j := 118) rfl) rfl rfl ?_
          refine i_iconst (pc' := 276) (f_at inc_136 (j := 119) rfl) ci_1 rfl ?_
          refine i_iload (pc' := 278) (f_at inc_136 (j := 120) rfl) rfl rfl ?_
          refine i_iadd (pc' := 279) (f_at inc_136 (j := 121) rfl) rfl ?_
          refine i_iload (pc' := 281) (f_at inc_136 (j := 122) rfl) rfl rfl ?_
          refine i_iload (pc' := 283) (f_at inc_136 (j := 123) rfl) rfl rfl ?_
          refine i_iload (pc' := 285) (f_at inc_136 (j := 124) rfl) rfl rfl ?_
          refine i_iload (pc' := 287) (f_at inc_136 (j := 125) rfl) rfl rfl ?_
          refine i_iload (pc' := 289) (f_at inc_136 (j := 126) rfl) rfl rfl ?_
          refine c_wb (pc' := 292) (c' := 0) (n' := 0) (h_stat (ra := [.int t103, .int ((1 : Int32) + t102), .int ((1 : Int32) + t101), .int ((σ 155 26) + t100), .int (t1 - t1 / (σ 155 22) * (σ 155 22)), .int ((1 : Int32) + t99), .ref 0]) (r := []) (as := [.ref 0, .int ((1 : Int32) + t99), .int (t1 - t1 / (σ 155 22) * (σ 155 22)), .int ((σ 155 26) + t100), .int ((1 : Int32) + t101), .int ((1 : Int32) + t102), .int t103]) (f_at inc_136 (j := 127) rfl) (by decide) MT_132 rfl rfl rfl ⟨Nat.le_of_ble_eq_true rfl, Nat.le_of_ble_eq_true rfl, Nat.le_of_ble_eq_true rfl⟩) MT_132 (L_isRefused hN ((1 : Int32) + t99) (t1 - t1 / (σ 155 22) * (σ 155 22)) ((σ 155 26) + t100) ((1 : Int32) + t101) ((1 : Int32) + t102) t103 σ) ⟨rfl, rfl, rfl⟩ fun t127 => ?_
          exact i_iret (v := f_b t127.1) (f_at inc_136 (j := 128) rfl) rfl n_bool
    · intro k104 hj104
      refine i_if0 (pc' := 238) (nx := 225) c0_ne (f_at inc_136 (j := 88) rfl) ⟨by decide, rfl⟩ (fun b106 => ?_) (fun b106 => ?_)
      · refine i_iload (pc' := 240) (f_at inc_136 (j := 97) rfl) rfl rfl ?_
        refine i_iload (pc' := 242) (f_at inc_136 (j := 98) rfl) rfl rfl ?_
        refine i_imul (pc' := 243) (f_at inc_136 (j := 99) rfl) rfl ?_
        refine i_bipush (pc' := 245) (f_at inc_136 (j := 100) rfl) cb_20 rfl ?_
        refine i_iconst (pc' := 246) (f_at inc_136 (j := 101) rfl) ci_2 rfl ?_
        refine i_iload (pc' := 248) (f_at inc_136 (j := 102) rfl) rfl rfl ?_
        refine i_imul (pc' := 249) (f_at inc_136 (j := 103) rfl) rfl ?_
        refine i_iadd (pc' := 250) (f_at inc_136 (j := 104) rfl) rfl ?_
        refine i_grn fun h105 => ?_
        refine i_idiv (pc' := 251) (f_at inc_136 (j := 105) rfl) h105 rfl ?_
        refine i_iconst (pc' := 252) (f_at inc_136 (j := 106) rfl) ci_1 rfl ?_
        refine i_iadd (pc' := 253) (f_at inc_136 (j := 107) rfl) rfl ?_
        exact hj104 (((((1 : Int32) + t102) * ((1 : Int32) + t101)) / ((20 : Int32) + ((2 : Int32) * t103))) + (1 : Int32)) ()
      · refine i_iload (pc' := 227) (f_at inc_136 (j := 89) rfl) rfl rfl ?_
        refine i_iload (pc' := 229) (f_at inc_136 (j := 90) rfl) rfl rfl ?_
        refine i_imul (pc' := 230) (f_at inc_136 (j := 91) rfl) rfl ?_
        refine i_bipush (pc' := 232) (f_at inc_136 (j := 92) rfl) cb_40 rfl ?_
        refine i_idiv (pc' := 233) (f_at inc_136 (j := 93) rfl) (by decide) rfl ?_
        refine i_iconst (pc' := 234) (f_at inc_136 (j := 94) rfl) ci_1 rfl ?_
        refine i_iadd (pc' := 235) (f_at inc_136 (j := 95) rfl) rfl ?_
        refine i_goto (pc' := 253) (f_at inc_136 (j := 96) rfl) (by decide) ?_
        exact hj104 (((((1 : Int32) + t102) * ((1 : Int32) + t101)) / (40 : Int32)) + (1 : Int32)) ()
  refine i_cas (fun b162 => ?_) (fun b162 => ?_)
  · refine i_sw (pc' := 160) (v := (9 : Int32)) (f_at inc_136 (j := 12) rfl) b162 ⟨by decide, rfl⟩ (by decide) ?_
    refine i_aload_n (pc' := 161) (f_at inc_136 (j := 52) rfl) rfl rfl ?_
    refine i_getI (pc' := 164) (f_at inc_136 (j := 53) rfl) sh_155 rfl (f_lt (o := 155) (m := 181) (Nat.le_of_ble_eq_true rfl) hN) rfl ?_
    refine i_istore (pc' := 166) (ls' := [.ref 155, .ref 0, .int a2, .int a3, .int (t1 - t1 / (σ 155 22) * (σ 155 22)), .int (σ 155 24), a_dead, a_dead, a_dead, a_dead, a_dead, a_dead]) (f_at inc_136 (j := 54) rfl) (Nat.le_of_ble_eq_true rfl) rfl rfl ?_
    refine i_iload_n (pc' := 167) (f_at inc_136 (j := 55) rfl) rfl rfl ?_
    refine i_bipush (pc' := 169) (f_at inc_136 (j := 56) rfl) cb_8 rfl ?_
    refine i_iconst (pc' := 170) (f_at inc_136 (j := 57) rfl) ci_1 rfl ?_
    refine c_pi (pc' := 173) (c' := 1) (n' := 6) (h_stat (ra := [.int (1 : Int32), .int (8 : Int32), .int a2]) (r := []) (as := [.int a2, .int (8 : Int32), .int (1 : Int32)]) (f_at inc_136 (j := 58) rfl) (by decide) MT_37 rfl rfl rfl ⟨Nat.le_of_ble_eq_true rfl, Nat.le_of_ble_eq_true rfl, Nat.le_of_ble_eq_true rfl⟩) MT_37 (L_bits hN a2 (8 : Int32) (1 : Int32) σ) ⟨rfl, rfl, rfl⟩ fun t131 => ?_
    refine i_istore (pc' := 175) (ls' := [.ref 155, .ref 0, .int a2, .int a3, .int (t1 - t1 / (σ 155 22) * (σ 155 22)), .int (σ 155 24), .int t131, a_dead, a_dead, a_dead, a_dead, a_dead]) (f_at inc_136 (j := 59) rfl) (Nat.le_of_ble_eq_true rfl) rfl rfl ?_
    refine i_aload_n (pc' := 176) (f_at inc_136 (j := 60) rfl) rfl rfl ?_
    refine i_getI (pc' := 179) (f_at inc_136 (j := 61) rfl) sh_155 rfl (f_lt (o := 155) (m := 181) (Nat.le_of_ble_eq_true rfl) hN) rfl ?_
    refine i_iload_n (pc' := 180) (f_at inc_136 (j := 62) rfl) rfl rfl ?_
    refine i_bipush (pc' := 182) (f_at inc_136 (j := 63) rfl) cb_9 rfl ?_
    refine i_iconst (pc' := 183) (f_at inc_136 (j := 64) rfl) ci_2 rfl ?_
    refine c_pi (pc' := 186) (c' := 1) (n' := 6) (h_stat (ra := [.int (2 : Int32), .int (9 : Int32), .int a2]) (r := [.int (σ 155 26)]) (as := [.int a2, .int (9 : Int32), .int (2 : Int32)]) (f_at inc_136 (j := 65) rfl) (by decide) MT_37 rfl rfl rfl ⟨Nat.le_of_ble_eq_true rfl, Nat.le_of_ble_eq_true rfl, Nat.le_of_ble_eq_true rfl⟩) MT_37 (L_bits hN a2 (9 : Int32) (2 : Int32) σ) ⟨rfl, rfl, rfl⟩ fun t132 => ?_
    refine i_iadd (pc' := 187) (f_at inc_136 (j := 66) rfl) rfl ?_
    refine i_istore (pc' := 189) (ls' := [.ref 155, .ref 0, .int a2, .int a3, .int (t1 - t1 / (σ 155 22) * (σ 155 22)), .int (σ 155 24), .int t131, .int ((σ 155 26) + t132), a_dead, a_dead, a_dead, a_dead]) (f_at inc_136 (j := 67) rfl) (Nat.le_of_ble_eq_true rfl) rfl rfl ?_
    refine i_iconst (pc' := 190) (f_at inc_136 (j := 68) rfl) ci_1 rfl ?_
    refine i_iload_n (pc' := 191) (f_at inc_136 (j := 69) rfl) rfl rfl ?_
    refine i_bipush (pc' := 193) (f_at inc_136 (j := 70) rfl) cb_11 rfl ?_
    refine i_iconst (pc' := 194) (f_at inc_136 (j := 71) rfl) ci_3 rfl ?_
    refine c_pi (pc' := 197) (c' := 1) (n' := 6) (h_stat (ra := [.int (3 : Int32), .int (11 : Int32), .int a2]) (r := [.int (1 : Int32)]) (as := [.int a2, .int (11 : Int32), .int (3 : Int32)]) (f_at inc_136 (j := 72) rfl) (by decide) MT_37 rfl rfl rfl ⟨Nat.le_of_ble_eq_true rfl, Nat.le_of_ble_eq_true rfl, Nat.le_of_ble_eq_true rfl⟩) MT_37 (L_bits hN a2 (11 : Int32) (3 : Int32) σ) ⟨rfl, rfl, rfl⟩ fun t133 => ?_
    refine i_iadd (pc' := 198) (f_at inc_136 (j := 73) rfl) rfl ?_
    refine i_istore (pc' := 200) (ls' := [.ref 155, .ref 0, .int a2, .int a3, .int (t1 - t1 / (σ 155 22) * (σ 155 22)), .int (σ 155 24), .int t131, .int ((σ 155 26) + t132), .int ((1 : Int32) + t133), a_dead, a_dead, a_dead]) (f_at inc_136 (j := 74) rfl) (Nat.le_of_ble_eq_true rfl) rfl rfl ?_
    refine i_iconst (pc' := 201) (f_at inc_136 (j := 75) rfl) ci_1 rfl ?_
    refine i_iload_n (pc' := 202) (f_at inc_136 (j := 76) rfl) rfl rfl ?_
    refine i_bipush (pc' := 204) (f_at inc_136 (j := 77) rfl) cb_14 rfl ?_
    refine i_bipush (pc' := 206) (f_at inc_136 (j := 78) rfl) cb_7 rfl ?_
    refine c_pi (pc' := 209) (c' := 1) (n' := 6) (h_stat (ra := [.int (7 : Int32), .int (14 : Int32), .int a2]) (r := [.int (1 : Int32)]) (as := [.int a2, .int (14 : Int32), .int (7 : Int32)]) (f_at inc_136 (j := 79) rfl) (by decide) MT_37 rfl rfl rfl ⟨Nat.le_of_ble_eq_true rfl, Nat.le_of_ble_eq_true rfl, Nat.le_of_ble_eq_true rfl⟩) MT_37 (L_bits hN a2 (14 : Int32) (7 : Int32) σ) ⟨rfl, rfl, rfl⟩ fun t134 => ?_
    refine i_iadd (pc' := 210) (f_at inc_136 (j := 80) rfl) rfl ?_
    refine i_istore (pc' := 212) (ls' := [.ref 155, .ref 0, .int a2, .int a3, .int (t1 - t1 / (σ 155 22) * (σ 155 22)), .int (σ 155 24), .int t131, .int ((σ 155 26) + t132), .int ((1 : Int32) + t133), .int ((1 : Int32) + t134), a_dead, a_dead]) (f_at inc_136 (j := 81) rfl) (Nat.le_of_ble_eq_true rfl) rfl rfl ?_
    refine i_iload_n (pc' := 213) (f_at inc_136 (j := 82) rfl) rfl rfl ?_
    refine i_iconst (pc' := 214) (f_at inc_136 (j := 83) rfl) ci_0 rfl ?_
    refine i_iconst (pc' := 215) (f_at inc_136 (j := 84) rfl) ci_5 rfl ?_
    refine c_pi (pc' := 218) (c' := 1) (n' := 6) (h_stat (ra := [.int (5 : Int32), .int (0 : Int32), .int a3]) (r := []) (as := [.int a3, .int (0 : Int32), .int (5 : Int32)]) (f_at inc_136 (j := 85) rfl) (by decide) MT_37 rfl rfl rfl ⟨Nat.le_of_ble_eq_true rfl, Nat.le_of_ble_eq_true rfl, Nat.le_of_ble_eq_true rfl⟩) MT_37 (L_bits hN a3 (0 : Int32) (5 : Int32) σ) ⟨rfl, rfl, rfl⟩ fun t135 => ?_
    refine i_istore (pc' := 220) (ls' := [.ref 155, .ref 0, .int a2, .int a3, .int (t1 - t1 / (σ 155 22) * (σ 155 22)), .int (σ 155 24), .int t131, .int ((σ 155 26) + t132), .int ((1 : Int32) + t133), .int ((1 : Int32) + t134), .int t135, a_dead]) (f_at inc_136 (j := 86) rfl) (Nat.le_of_ble_eq_true rfl) rfl rfl ?_
    refine i_iload (pc' := 222) (f_at inc_136 (j := 87) rfl) rfl rfl ?_
    refine s_join (J := 253) (fun (t136 : Int32) (u136 : Unit) => [.ref 155, .ref 0, .int a2, .int a3, .int (t1 - t1 / (σ 155 22) * (σ 155 22)), .int (σ 155 24), .int t131, .int ((σ 155 26) + t132), .int ((1 : Int32) + t133), .int ((1 : Int32) + t134), .int t135, a_dead]) (fun t136 => [.int t136]) (fun t136 => σ) ?_ ?_
    · intro t136 u136
      refine i_istore (pc' := 255) (ls' := [.ref 155, .ref 0, .int a2, .int a3, .int (t1 - t1 / (σ 155 22) * (σ 155 22)), .int (σ 155 24), .int t131, .int ((σ 155 26) + t132), .int ((1 : Int32) + t133), .int ((1 : Int32) + t134), .int t135, .int t136]) (f_at inc_136 (j := 108) rfl) (Nat.le_of_ble_eq_true rfl) rfl rfl ?_
      refine i_iload (pc' := 257) (f_at inc_136 (j := 109) rfl) rfl rfl ?_
      refine i_bipush (pc' := 259) (f_at inc_136 (j := 110) rfl) cb_20 rfl ?_
      refine i_if2 (pc' := 274) (nx := 262) c2_eq (f_at inc_136 (j := 111) rfl) ⟨by decide, rfl⟩ (fun b161 => ?_) (fun b161 => ?_)
      · refine i_aload_n (pc' := 275) (f_at inc_136 (j := 118) rfl) rfl rfl ?_
        refine i_iconst (pc' := 276) (f_at inc_136 (j := 119) rfl) ci_1 rfl ?_
        refine i_iload (pc' := 278) (f_at inc_136 (j := 120) rfl) rfl rfl ?_
        refine i_iadd (pc' := 279) (f_at inc_136 (j := 121) rfl) rfl ?_
        refine i_iload (pc' := 281) (f_at inc_136 (j := 122) rfl) rfl rfl ?_
        refine i_iload (pc' := 283) (f_at inc_136 (j := 123) rfl) rfl rfl ?_
        refine i_iload (pc' := 285) (f_at inc_136 (j := 124) rfl) rfl rfl ?_
        refine i_iload (pc' := 287) (f_at inc_136 (j := 125) rfl) rfl rfl ?_
        refine i_iload (pc' := 289) (f_at inc_136 (j := 126) rfl) rfl rfl ?_
        refine c_wb (pc' := 292) (c' := 0) (n' := 0) (h_stat (ra := [.int t135, .int ((1 : Int32) + t134), .int ((1 : Int32) + t133), .int ((σ 155 26) + t132), .int (t1 - t1 / (σ 155 22) * (σ 155 22)), .int ((1 : Int32) + t131), .ref 0]) (r := []) (as := [.ref 0, .int ((1 : Int32) + t131), .int (t1 - t1 / (σ 155 22) * (σ 155 22)), .int ((σ 155 26) + t132), .int ((1 : Int32) + t133), .int ((1 : Int32) + t134), .int t135]) (f_at inc_136 (j := 127) rfl) (by decide) MT_132 rfl rfl rfl ⟨Nat.le_of_ble_eq_true rfl, Nat.le_of_ble_eq_true rfl, Nat.le_of_ble_eq_true rfl⟩) MT_132 (L_isRefused hN ((1 : Int32) + t131) (t1 - t1 / (σ 155 22) * (σ 155 22)) ((σ 155 26) + t132) ((1 : Int32) + t133) ((1 : Int32) + t134) t135 σ) ⟨rfl, rfl, rfl⟩ fun t139 => ?_
        exact i_iret (v := f_b t139.1) (f_at inc_136 (j := 128) rfl) rfl n_bool
      · refine i_aload_n (pc' := 263) (f_at inc_136 (j := 112) rfl) rfl rfl ?_
        refine i_getR (pc' := 266) (f_at inc_136 (j := 113) rfl) sh_155 rfl (f_lt (o := 155) (m := 181) (Nat.le_of_ble_eq_true rfl) hN) rfl ?_
        refine i_iload (pc' := 268) (f_at inc_136 (j := 114) rfl) rfl rfl ?_
        refine i_iald (pc' := 269) (f_at inc_136 (j := 115) rfl) sh_156 (f_bg (Nat.le_of_ble_eq_true rfl)) (f_lt (o := 156) (m := 181) (Nat.le_of_ble_eq_true rfl) hN) rfl fun v140 => ?_
        refine i_iload (pc' := 271) (f_at inc_136 (j := 116) rfl) rfl rfl ?_
        refine i_if2 (pc' := 293) (nx := 274) c2_ge (f_at inc_136 (j := 117) rfl) ⟨by decide, rfl⟩ (fun b160 => ?_) (fun b160 => ?_)
        · refine i_aload_n (pc' := 294) (f_at inc_136 (j := 129) rfl) rfl rfl ?_
          refine i_getR (pc' := 297) (f_at inc_136 (j := 130) rfl) sh_155 rfl (f_lt (o := 155) (m := 181) (Nat.le_of_ble_eq_true rfl) hN) rfl ?_
          refine i_iload (pc' := 299) (f_at inc_136 (j := 131) rfl) rfl rfl ?_
          refine i_iload (pc' := 301) (f_at inc_136 (j := 132) rfl) rfl rfl ?_
          refine i_iast (pc' := 302) (f_at inc_136 (j := 133) rfl) sh_159 (f_lt (o := 159) (m := 181) (Nat.le_of_ble_eq_true rfl) hN) rfl fun m141 => ?_
          refine i_aload_n (pc' := 303) (f_at inc_136 (j := 134) rfl) rfl rfl ?_
          refine i_getR (pc' := 306) (f_at inc_136 (j := 135) rfl) sh_155 rfl (f_lt (o := 155) (m := 181) (Nat.le_of_ble_eq_true rfl) hN) rfl ?_
          refine i_iload (pc' := 308) (f_at inc_136 (j := 136) rfl) rfl rfl ?_
          refine i_iload (pc' := 310) (f_at inc_136 (j := 137) rfl) rfl rfl ?_
          refine i_iast (pc' := 311) (f_at inc_136 (j := 138) rfl) sh_160 (f_lt (o := 160) (m := 181) (Nat.le_of_ble_eq_true rfl) hN) rfl fun m142 => ?_
          refine i_aload_n (pc' := 312) (f_at inc_136 (j := 139) rfl) rfl rfl ?_
          refine i_getR (pc' := 315) (f_at inc_136 (j := 140) rfl) sh_155 rfl (f_lt (o := 155) (m := 181) (Nat.le_of_ble_eq_true rfl) hN) rfl ?_
          refine i_iload (pc' := 317) (f_at inc_136 (j := 141) rfl) rfl rfl ?_
          refine i_iload (pc' := 319) (f_at inc_136 (j := 142) rfl) rfl rfl ?_
          refine i_iast (pc' := 320) (f_at inc_136 (j := 143) rfl) sh_161 (f_lt (o := 161) (m := 181) (Nat.le_of_ble_eq_true rfl) hN) rfl fun m143 => ?_
          refine i_aload_n (pc' := 321) (f_at inc_136 (j := 144) rfl) rfl rfl ?_
          refine i_getR (pc' := 324) (f_at inc_136 (j := 145) rfl) sh_155 rfl (f_lt (o := 155) (m := 181) (Nat.le_of_ble_eq_true rfl) hN) rfl ?_
          refine i_iload (pc' := 326) (f_at inc_136 (j := 146) rfl) rfl rfl ?_
          refine i_iload (pc' := 328) (f_at inc_136 (j := 147) rfl) rfl rfl ?_
          refine i_iast (pc' := 329) (f_at inc_136 (j := 148) rfl) sh_162 (f_lt (o := 162) (m := 181) (Nat.le_of_ble_eq_true rfl) hN) rfl fun m144 => ?_
          refine i_aload_n (pc' := 330) (f_at inc_136 (j := 149) rfl) rfl rfl ?_
          refine i_getR (pc' := 333) (f_at inc_136 (j := 150) rfl) sh_155 rfl (f_lt (o := 155) (m := 181) (Nat.le_of_ble_eq_true rfl) hN) rfl ?_
          refine i_iload (pc' := 335) (f_at inc_136 (j := 151) rfl) rfl rfl ?_
          refine i_iload (pc' := 337) (f_at inc_136 (j := 152) rfl) rfl rfl ?_
          refine i_iast (pc' := 338) (f_at inc_136 (j := 153) rfl) sh_163 (f_lt (o := 163) (m := 181) (Nat.le_of_ble_eq_true rfl) hN) rfl fun m145 => ?_
          refine i_aload_n (pc' := 339) (f_at inc_136 (j := 154) rfl) rfl rfl ?_
          refine i_getR (pc' := 342) (f_at inc_136 (j := 155) rfl) sh_155 rfl (f_lt (o := 155) (m := 181) (Nat.le_of_ble_eq_true rfl) hN) rfl ?_
          refine i_iload (pc' := 344) (f_at inc_136 (j := 156) rfl) rfl rfl ?_
          refine i_iload (pc' := 346) (f_at inc_136 (j := 157) rfl) rfl rfl ?_
          refine i_iast (pc' := 347) (f_at inc_136 (j := 158) rfl) sh_164 (f_lt (o := 164) (m := 181) (Nat.le_of_ble_eq_true rfl) hN) rfl fun m146 => ?_
          refine i_aload_n (pc' := 348) (f_at inc_136 (j := 159) rfl) rfl rfl ?_
          refine i_getR (pc' := 351) (f_at inc_136 (j := 160) rfl) sh_155 rfl (f_lt (o := 155) (m := 181) (Nat.le_of_ble_eq_true rfl) hN) rfl ?_
          refine i_iload (pc' := 353) (f_at inc_136 (j := 161) rfl) rfl rfl ?_
          refine i_iload (pc' := 355) (f_at inc_136 (j := 162) rfl) rfl rfl ?_
          refine i_iload_n (pc' := 356) (f_at inc_136 (j := 163) rfl) rfl rfl ?_
          refine i_iconst (pc' := 357) (f_at inc_136 (j := 164) rfl) ci_5 rfl ?_
          refine i_iconst (pc' := 358) (f_at inc_136 (j := 165) rfl) ci_5 rfl ?_
          refine c_pi (pc' := 361) (c' := 1) (n' := 6) (h_stat (ra := [.int (5 : Int32), .int (5 : Int32), .int a3]) (r := [.int t135, .int (σ 155 24), .ref 165]) (as := [.int a3, .int (5 : Int32), .int (5 : Int32)]) (f_at inc_136 (j := 166) rfl) (by decide) MT_37 rfl rfl rfl ⟨Nat.le_of_ble_eq_true rfl, Nat.le_of_ble_eq_true rfl, Nat.le_of_ble_eq_true rfl⟩) MT_37 (L_bits hN a3 (5 : Int32) (5 : Int32) m146) ⟨rfl, rfl, rfl⟩ fun t147 => ?_
          refine i_iadd (pc' := 362) (f_at inc_136 (j := 167) rfl) rfl ?_
          refine i_iast (pc' := 363) (f_at inc_136 (j := 168) rfl) sh_165 (f_lt (o := 165) (m := 181) (Nat.le_of_ble_eq_true rfl) hN) rfl fun m148 => ?_
          refine i_aload_n (pc' := 364) (f_at inc_136 (j := 169) rfl) rfl rfl ?_
          refine i_getR (pc' := 367) (f_at inc_136 (j := 170) rfl) sh_155 rfl (f_lt (o := 155) (m := 181) (Nat.le_of_ble_eq_true rfl) hN) rfl ?_
          refine i_iload (pc' := 369) (f_at inc_136 (j := 171) rfl) rfl rfl ?_
          refine i_iload (pc' := 371) (f_at inc_136 (j := 172) rfl) rfl rfl ?_
          refine i_iast (pc' := 372) (f_at inc_136 (j := 173) rfl) sh_166 (f_lt (o := 166) (m := 181) (Nat.le_of_ble_eq_true rfl) hN) rfl fun m149 => ?_
          refine i_aload_n (pc' := 373) (f_at inc_136 (j := 174) rfl) rfl rfl ?_
          refine i_getR (pc' := 376) (f_at inc_136 (j := 175) rfl) sh_155 rfl (f_lt (o := 155) (m := 181) (Nat.le_of_ble_eq_true rfl) hN) rfl ?_
          refine i_iload (pc' := 378) (f_at inc_136 (j := 176) rfl) rfl rfl ?_
          refine i_dup2 (pc' := 379) (f_at inc_136 (j := 177) rfl) ⟨rfl, rfl⟩ rfl ?_
          refine i_iald (pc' := 380) (f_at inc_136 (j := 178) rfl) sh_156 (f_bg (Nat.le_of_ble_eq_true rfl)) (f_lt (o := 156) (m := 181) (Nat.le_of_ble_eq_true rfl) hN) rfl fun v150 => ?_
          refine i_iload (pc' := 382) (f_at inc_136 (j := 179) rfl) rfl rfl ?_
          refine i_isub (pc' := 383) (f_at inc_136 (j := 180) rfl) rfl ?_
          refine i_iast (pc' := 384) (f_at inc_136 (j := 181) rfl) sh_156 (f_lt (o := 156) (m := 181) (Nat.le_of_ble_eq_true rfl) hN) rfl fun m151 => ?_
          refine i_aload_n (pc' := 385) (f_at inc_136 (j := 182) rfl) rfl rfl ?_
          refine i_dup (pc' := 386) (f_at inc_136 (j := 183) rfl) rfl rfl ?_
          refine i_getI (pc' := 389) (f_at inc_136 (j := 184) rfl) sh_155 rfl (f_lt (o := 155) (m := 181) (Nat.le_of_ble_eq_true rfl) hN) rfl ?_
          refine i_iload (pc' := 391) (f_at inc_136 (j := 185) rfl) rfl rfl ?_
          refine i_iadd (pc' := 392) (f_at inc_136 (j := 186) rfl) rfl ?_
          refine i_putI (pc' := 395) (f_at inc_136 (j := 187) rfl) sh_155 rfl ⟨rfl, rfl⟩ (f_lt (o := 155) (m := 181) (Nat.le_of_ble_eq_true rfl) hN) rfl ?_
          refine i_aload_n (pc' := 396) (f_at inc_136 (j := 188) rfl) rfl rfl ?_
          refine i_dup (pc' := 397) (f_at inc_136 (j := 189) rfl) rfl rfl ?_
          refine i_getI (pc' := 400) (f_at inc_136 (j := 190) rfl) sh_155 rfl (f_lt (o := 155) (m := 181) (Nat.le_of_ble_eq_true rfl) hN) rfl ?_
          refine i_iload (pc' := 402) (f_at inc_136 (j := 191) rfl) rfl rfl ?_
          refine i_iadd (pc' := 403) (f_at inc_136 (j := 192) rfl) rfl ?_
          refine i_putI (pc' := 406) (f_at inc_136 (j := 193) rfl) sh_155 rfl ⟨rfl, rfl⟩ (f_lt (o := 155) (m := 181) (Nat.le_of_ble_eq_true rfl) hN) rfl ?_
          refine i_aload_n (pc' := 407) (f_at inc_136 (j := 194) rfl) rfl rfl ?_
          refine i_dup (pc' := 408) (f_at inc_136 (j := 195) rfl) rfl rfl ?_
          refine i_getI (pc' := 411) (f_at inc_136 (j := 196) rfl) sh_155 rfl (f_lt (o := 155) (m := 181) (Nat.le_of_ble_eq_true rfl) hN) rfl ?_
          refine i_iconst (pc' := 412) (f_at inc_136 (j := 197) rfl) ci_1 rfl ?_
          refine i_iadd (pc' := 413) (f_at inc_136 (j := 198) rfl) rfl ?_
          refine i_putI (pc' := 416) (f_at inc_136 (j := 199) rfl) sh_155 rfl ⟨rfl, rfl⟩ (f_lt (o := 155) (m := 181) (Nat.le_of_ble_eq_true rfl) hN) rfl ?_
          refine i_iload (pc' := 418) (f_at inc_136 (j := 200) rfl) rfl rfl ?_
          refine s_joinc 0 0 (J := 459) (fun (t152 : Int32 × f_M) (u152 : Unit) => [.ref 155, .ref 0, .int a2, .int a3, .int (t1 - t1 / (σ 155 22) * (σ 155 22)), .int (σ 155 24), .int t131, .int ((σ 155 26) + t132), .int ((1 : Int32) + t133), .int ((1 : Int32) + t134), .int t135, .int t136]) (fun t152 => [.int t152.1]) (fun t152 => t152.2) ?_ ?_
          · intro t152 u152
            refine i_iload (pc' := 461) (f_at inc_136 (j := 221) rfl) rfl rfl ?_
            refine s_join (J := 469) (fun (t157 : Bool) (u157 : Unit) => [.ref 155, .ref 0, .int a2, .int a3, .int (t1 - t1 / (σ 155 22) * (σ 155 22)), .int (σ 155 24), .int t131, .int ((σ 155 26) + t132), .int ((1 : Int32) + t133), .int ((1 : Int32) + t134), .int t135, .int t136]) (fun t157 => [.int (f_b t157)]) (fun t157 => t152.2) ?_ ?_
            · intro t157 u157
              exact i_iret (v := f_b t157) (f_at inc_136 (j := 226) rfl) rfl n_bool
            · intro k157 hj157
              refine i_if2 (pc' := 468) (nx := 464) c2_ne (f_at inc_136 (j := 222) rfl) ⟨by decide, rfl⟩ (fun b158 => ?_) (fun b158 => ?_)
              · refine i_iconst (pc' := 469) (f_at inc_136 (j := 225) rfl) ci_0 rfl ?_
                exact hj157 false ()
              · refine i_iconst (pc' := 465) (f_at inc_136 (j := 223) rfl) ci_1 rfl ?_
                refine i_goto (pc' := 469) (f_at inc_136 (j := 224) rfl) (by decide) ?_
                exact hj157 true ()
          · intro k152 hj152
            refine i_if0 (pc' := 445) (nx := 421) c0_ne (f_at inc_136 (j := 201) rfl) ⟨by decide, rfl⟩ (fun b156 => ?_) (fun b156 => ?_)
            · refine i_aload_n (pc' := 446) (f_at inc_136 (j := 214) rfl) rfl rfl ?_
              refine i_iload (pc' := 448) (f_at inc_136 (j := 215) rfl) rfl rfl ?_
              refine i_iload (pc' := 450) (f_at inc_136 (j := 216) rfl) rfl rfl ?_
              refine i_iload (pc' := 452) (f_at inc_136 (j := 217) rfl) rfl rfl ?_
              refine i_iload (pc' := 454) (f_at inc_136 (j := 218) rfl) rfl rfl ?_
              refine i_iload (pc' := 456) (f_at inc_136 (j := 219) rfl) rfl rfl ?_
              refine c_wi (pc' := 459) (c' := 0) (n' := 0) (h_virt (ra := [.int t135, .int ((1 : Int32) + t134), .int ((1 : Int32) + t133), .int ((σ 155 26) + t132), .int (t1 - t1 / (σ 155 22) * (σ 155 22)), .ref 0]) (r := []) (as := [.int (t1 - t1 / (σ 155 22) * (σ 155 22)), .int ((σ 155 26) + t132), .int ((1 : Int32) + t133), .int ((1 : Int32) + t134), .int t135]) (f_at inc_136 (j := 220) rfl) (by decide) MT_131 rfl rfl rfl ⟨Nat.le_of_ble_eq_true rfl, Nat.le_of_ble_eq_true rfl, Nat.le_of_ble_eq_true rfl⟩ sh_0 (f_lt (o := 0) (m := 181) (Nat.le_of_ble_eq_true rfl) hN)) MT_131 (f_cal_nt (P_328 (Nat.le_trans (Nat.le_of_ble_eq_true rfl) hN) (t1 - t1 / (σ 155 22) * (σ 155 22)) ((σ 155 26) + t132) ((1 : Int32) + t133) ((1 : Int32) + t134) t135 (f_up (f_up (f_up m151 155 27 ((m151 155 27) + t136)) 155 28 (((f_up m151 155 27 ((m151 155 27) + t136)) 155 28) + t136)) 155 24 (((f_up (f_up m151 155 27 ((m151 155 27) + t136)) 155 28 (((f_up m151 155 27 ((m151 155 27) + t136)) 155 28) + t136)) 155 24) + (1 : Int32))))) ⟨rfl, rfl, rfl⟩ fun t153 => ?_
              exact hj152 (t153.1, t153.2) ()
            · refine i_aload_n (pc' := 422) (f_at inc_136 (j := 202) rfl) rfl rfl ?_
              refine i_iload (pc' := 424) (f_at inc_136 (j := 203) rfl) rfl rfl ?_
              refine i_iload (pc' := 426) (f_at inc_136 (j := 204) rfl) rfl rfl ?_
              refine i_iload (pc' := 428) (f_at inc_136 (j := 205) rfl) rfl rfl ?_
              refine i_iload (pc' := 430) (f_at inc_136 (j := 206) rfl) rfl rfl ?_
              refine i_iload (pc' := 432) (f_at inc_136 (j := 207) rfl) rfl rfl ?_
              refine i_aload_n (pc' := 433) (f_at inc_136 (j := 208) rfl) rfl rfl ?_
              refine i_getR (pc' := 436) (f_at inc_136 (j := 209) rfl) sh_155 rfl (f_lt (o := 155) (m := 181) (Nat.le_of_ble_eq_true rfl) hN) rfl ?_
              refine i_iload (pc' := 438) (f_at inc_136 (j := 210) rfl) rfl rfl ?_
              refine i_iald (pc' := 439) (f_at inc_136 (j := 211) rfl) sh_165 (f_bg (Nat.le_of_ble_eq_true rfl)) (f_lt (o := 165) (m := 181) (Nat.le_of_ble_eq_true rfl) hN) rfl fun v154 => ?_
              refine c_wi (pc' := 442) (c' := 0) (n' := 0) (h_virt (ra := [.int v154, .int t135, .int ((1 : Int32) + t134), .int ((1 : Int32) + t133), .int ((σ 155 26) + t132), .int (t1 - t1 / (σ 155 22) * (σ 155 22)), .ref 0]) (r := []) (as := [.int (t1 - t1 / (σ 155 22) * (σ 155 22)), .int ((σ 155 26) + t132), .int ((1 : Int32) + t133), .int ((1 : Int32) + t134), .int t135, .int v154]) (f_at inc_136 (j := 212) rfl) (by decide) MT_129 rfl rfl rfl ⟨Nat.le_of_ble_eq_true rfl, Nat.le_of_ble_eq_true rfl, Nat.le_of_ble_eq_true rfl⟩ sh_0 (f_lt (o := 0) (m := 181) (Nat.le_of_ble_eq_true rfl) hN)) MT_129 (f_cal_nt (P_324 (Nat.le_trans (Nat.le_of_ble_eq_true rfl) hN) (t1 - t1 / (σ 155 22) * (σ 155 22)) ((σ 155 26) + t132) ((1 : Int32) + t133) ((1 : Int32) + t134) t135 v154 (f_up (f_up (f_up m151 155 27 ((m151 155 27) + t136)) 155 28 (((f_up m151 155 27 ((m151 155 27) + t136)) 155 28) + t136)) 155 24 (((f_up (f_up m151 155 27 ((m151 155 27) + t136)) 155 28 (((f_up m151 155 27 ((m151 155 27) + t136)) 155 28) + t136)) 155 24) + (1 : Int32))))) ⟨rfl, rfl, rfl⟩ fun t155 => ?_
              refine i_goto (pc' := 459) (f_at inc_136 (j := 213) rfl) (by decide) ?_
              exact hj152 (t155.1, t155.2) ()
        · refine i_aload_n (pc' := 275) (f_at inc_136 (j := 118) rfl) rfl rfl ?_
          refine i_iconst (pc' := 276) (f_at inc_136 (j := 119) rfl) ci_1 rfl ?_
          refine i_iload (pc' := 278) (f_at inc_136 (j := 120) rfl) rfl rfl ?_
          refine i_iadd (pc' := 279) (f_at inc_136 (j := 121) rfl) rfl ?_
          refine i_iload (pc' := 281) (f_at inc_136 (j := 122) rfl) rfl rfl ?_
          refine i_iload (pc' := 283) (f_at inc_136 (j := 123) rfl) rfl rfl ?_
          refine i_iload (pc' := 285) (f_at inc_136 (j := 124) rfl) rfl rfl ?_
          refine i_iload (pc' := 287) (f_at inc_136 (j := 125) rfl) rfl rfl ?_
          refine i_iload (pc' := 289) (f_at inc_136 (j := 126) rfl) rfl rfl ?_
          refine c_wb (pc' := 292) (c' := 0) (n' := 0) (h_stat (ra := [.int t135, .int ((1 : Int32) + t134), .int ((1 : Int32) + t133), .int ((σ 155 26) + t132), .int (t1 - t1 / (σ 155 22) * (σ 155 22)), .int ((1 : Int32) + t131), .ref 0]) (r := []) (as := [.ref 0, .int ((1 : Int32) + t131), .int (t1 - t1 / (σ 155 22) * (σ 155 22)), .int ((σ 155 26) + t132), .int ((1 : Int32) + t133), .int ((1 : Int32) + t134), .int t135]) (f_at inc_136 (j := 127) rfl) (by decide) MT_132 rfl rfl rfl ⟨Nat.le_of_ble_eq_true rfl, Nat.le_of_ble_eq_true rfl, Nat.le_of_ble_eq_true rfl⟩) MT_132 (L_isRefused hN ((1 : Int32) + t131) (t1 - t1 / (σ 155 22) * (σ 155 22)) ((σ 155 26) + t132) ((1 : Int32) + t133) ((1 : Int32) + t134) t135 σ) ⟨rfl, rfl, rfl⟩ fun t159 => ?_
          exact i_iret (v := f_b t159.1) (f_at inc_136 (j := 128) rfl) rfl n_bool
    · intro k136 hj136
      refine i_if0 (pc' := 238) (nx := 225) c0_ne (f_at inc_136 (j := 88) rfl) ⟨by decide, rfl⟩ (fun b138 => ?_) (fun b138 => ?_)
      · refine i_iload (pc' := 240) (f_at inc_136 (j := 97) rfl) rfl rfl ?_
        refine i_iload (pc' := 242) (f_at inc_136 (j := 98) rfl) rfl rfl ?_
        refine i_imul (pc' := 243) (f_at inc_136 (j := 99) rfl) rfl ?_
        refine i_bipush (pc' := 245) (f_at inc_136 (j := 100) rfl) cb_20 rfl ?_
        refine i_iconst (pc' := 246) (f_at inc_136 (j := 101) rfl) ci_2 rfl ?_
        refine i_iload (pc' := 248) (f_at inc_136 (j := 102) rfl) rfl rfl ?_
        refine i_imul (pc' := 249) (f_at inc_136 (j := 103) rfl) rfl ?_
        refine i_iadd (pc' := 250) (f_at inc_136 (j := 104) rfl) rfl ?_
        refine i_grn fun h137 => ?_
        refine i_idiv (pc' := 251) (f_at inc_136 (j := 105) rfl) h137 rfl ?_
        refine i_iconst (pc' := 252) (f_at inc_136 (j := 106) rfl) ci_1 rfl ?_
        refine i_iadd (pc' := 253) (f_at inc_136 (j := 107) rfl) rfl ?_
        exact hj136 (((((1 : Int32) + t134) * ((1 : Int32) + t133)) / ((20 : Int32) + ((2 : Int32) * t135))) + (1 : Int32)) ()
      · refine i_iload (pc' := 227) (f_at inc_136 (j := 89) rfl) rfl rfl ?_
        refine i_iload (pc' := 229) (f_at inc_136 (j := 90) rfl) rfl rfl ?_
        refine i_imul (pc' := 230) (f_at inc_136 (j := 91) rfl) rfl ?_
        refine i_bipush (pc' := 232) (f_at inc_136 (j := 92) rfl) cb_40 rfl ?_
        refine i_idiv (pc' := 233) (f_at inc_136 (j := 93) rfl) (by decide) rfl ?_
        refine i_iconst (pc' := 234) (f_at inc_136 (j := 94) rfl) ci_1 rfl ?_
        refine i_iadd (pc' := 235) (f_at inc_136 (j := 95) rfl) rfl ?_
        refine i_goto (pc' := 253) (f_at inc_136 (j := 96) rfl) (by decide) ?_
        exact hj136 (((((1 : Int32) + t134) * ((1 : Int32) + t133)) / (40 : Int32)) + (1 : Int32)) ()
  refine i_cas (fun b194 => ?_) (fun b194 => ?_)
  · refine i_sw (pc' := 160) (v := (10 : Int32)) (f_at inc_136 (j := 12) rfl) b194 ⟨by decide, rfl⟩ (by decide) ?_
    refine i_aload_n (pc' := 161) (f_at inc_136 (j := 52) rfl) rfl rfl ?_
    refine i_getI (pc' := 164) (f_at inc_136 (j := 53) rfl) sh_155 rfl (f_lt (o := 155) (m := 181) (Nat.le_of_ble_eq_true rfl) hN) rfl ?_
    refine i_istore (pc' := 166) (ls' := [.ref 155, .ref 0, .int a2, .int a3, .int (t1 - t1 / (σ 155 22) * (σ 155 22)), .int (σ 155 24), a_dead, a_dead, a_dead, a_dead, a_dead, a_dead]) (f_at inc_136 (j := 54) rfl) (Nat.le_of_ble_eq_true rfl) rfl rfl ?_
    refine i_iload_n (pc' := 167) (f_at inc_136 (j := 55) rfl) rfl rfl ?_
    refine i_bipush (pc' := 169) (f_at inc_136 (j := 56) rfl) cb_8 rfl ?_
    refine i_iconst (pc' := 170) (f_at inc_136 (j := 57) rfl) ci_1 rfl ?_
    refine c_pi (pc' := 173) (c' := 1) (n' := 6) (h_stat (ra := [.int (1 : Int32), .int (8 : Int32), .int a2]) (r := []) (as := [.int a2, .int (8 : Int32), .int (1 : Int32)]) (f_at inc_136 (j := 58) rfl) (by decide) MT_37 rfl rfl rfl ⟨Nat.le_of_ble_eq_true rfl, Nat.le_of_ble_eq_true rfl, Nat.le_of_ble_eq_true rfl⟩) MT_37 (L_bits hN a2 (8 : Int32) (1 : Int32) σ) ⟨rfl, rfl, rfl⟩ fun t163 => ?_
    refine i_istore (pc' := 175) (ls' := [.ref 155, .ref 0, .int a2, .int a3, .int (t1 - t1 / (σ 155 22) * (σ 155 22)), .int (σ 155 24), .int t163, a_dead, a_dead, a_dead, a_dead, a_dead]) (f_at inc_136 (j := 59) rfl) (Nat.le_of_ble_eq_true rfl) rfl rfl ?_
    refine i_aload_n (pc' := 176) (f_at inc_136 (j := 60) rfl) rfl rfl ?_
    refine i_getI (pc' := 179) (f_at inc_136 (j := 61) rfl) sh_155 rfl (f_lt (o := 155) (m := 181) (Nat.le_of_ble_eq_true rfl) hN) rfl ?_
    refine i_iload_n (pc' := 180) (f_at inc_136 (j := 62) rfl) rfl rfl ?_
    refine i_bipush (pc' := 182) (f_at inc_136 (j := 63) rfl) cb_9 rfl ?_
    refine i_iconst (pc' := 183) (f_at inc_136 (j := 64) rfl) ci_2 rfl ?_
    refine c_pi (pc' := 186) (c' := 1) (n' := 6) (h_stat (ra := [.int (2 : Int32), .int (9 : Int32), .int a2]) (r := [.int (σ 155 26)]) (as := [.int a2, .int (9 : Int32), .int (2 : Int32)]) (f_at inc_136 (j := 65) rfl) (by decide) MT_37 rfl rfl rfl ⟨Nat.le_of_ble_eq_true rfl, Nat.le_of_ble_eq_true rfl, Nat.le_of_ble_eq_true rfl⟩) MT_37 (L_bits hN a2 (9 : Int32) (2 : Int32) σ) ⟨rfl, rfl, rfl⟩ fun t164 => ?_
    refine i_iadd (pc' := 187) (f_at inc_136 (j := 66) rfl) rfl ?_
    refine i_istore (pc' := 189) (ls' := [.ref 155, .ref 0, .int a2, .int a3, .int (t1 - t1 / (σ 155 22) * (σ 155 22)), .int (σ 155 24), .int t163, .int ((σ 155 26) + t164), a_dead, a_dead, a_dead, a_dead]) (f_at inc_136 (j := 67) rfl) (Nat.le_of_ble_eq_true rfl) rfl rfl ?_
    refine i_iconst (pc' := 190) (f_at inc_136 (j := 68) rfl) ci_1 rfl ?_
    refine i_iload_n (pc' := 191) (f_at inc_136 (j := 69) rfl) rfl rfl ?_
    refine i_bipush (pc' := 193) (f_at inc_136 (j := 70) rfl) cb_11 rfl ?_
    refine i_iconst (pc' := 194) (f_at inc_136 (j := 71) rfl) ci_3 rfl ?_
    refine c_pi (pc' := 197) (c' := 1) (n' := 6) (h_stat (ra := [.int (3 : Int32), .int (11 : Int32), .int a2]) (r := [.int (1 : Int32)]) (as := [.int a2, .int (11 : Int32), .int (3 : Int32)]) (f_at inc_136 (j := 72) rfl) (by decide) MT_37 rfl rfl rfl ⟨Nat.le_of_ble_eq_true rfl, Nat.le_of_ble_eq_true rfl, Nat.le_of_ble_eq_true rfl⟩) MT_37 (L_bits hN a2 (11 : Int32) (3 : Int32) σ) ⟨rfl, rfl, rfl⟩ fun t165 => ?_
    refine i_iadd (pc' := 198) (f_at inc_136 (j := 73) rfl) rfl ?_
    refine i_istore (pc' := 200) (ls' := [.ref 155, .ref 0, .int a2, .int a3, .int (t1 - t1 / (σ 155 22) * (σ 155 22)), .int (σ 155 24), .int t163, .int ((σ 155 26) + t164), .int ((1 : Int32) + t165), a_dead, a_dead, a_dead]) (f_at inc_136 (j := 74) rfl) (Nat.le_of_ble_eq_true rfl) rfl rfl ?_
    refine i_iconst (pc' := 201) (f_at inc_136 (j := 75) rfl) ci_1 rfl ?_
    refine i_iload_n (pc' := 202) (f_at inc_136 (j := 76) rfl) rfl rfl ?_
    refine i_bipush (pc' := 204) (f_at inc_136 (j := 77) rfl) cb_14 rfl ?_
    refine i_bipush (pc' := 206) (f_at inc_136 (j := 78) rfl) cb_7 rfl ?_
    refine c_pi (pc' := 209) (c' := 1) (n' := 6) (h_stat (ra := [.int (7 : Int32), .int (14 : Int32), .int a2]) (r := [.int (1 : Int32)]) (as := [.int a2, .int (14 : Int32), .int (7 : Int32)]) (f_at inc_136 (j := 79) rfl) (by decide) MT_37 rfl rfl rfl ⟨Nat.le_of_ble_eq_true rfl, Nat.le_of_ble_eq_true rfl, Nat.le_of_ble_eq_true rfl⟩) MT_37 (L_bits hN a2 (14 : Int32) (7 : Int32) σ) ⟨rfl, rfl, rfl⟩ fun t166 => ?_
    refine i_iadd (pc' := 210) (f_at inc_136 (j := 80) rfl) rfl ?_
    refine i_istore (pc' := 212) (ls' := [.ref 155, .ref 0, .int a2, .int a3, .int (t1 - t1 / (σ 155 22) * (σ 155 22)), .int (σ 155 24), .int t163, .int ((σ 155 26) + t164), .int ((1 : Int32) + t165), .int ((1 : Int32) + t166), a_dead, a_dead]) (f_at inc_136 (j := 81) rfl) (Nat.le_of_ble_eq_true rfl) rfl rfl ?_
    refine i_iload_n (pc' := 213) (f_at inc_136 (j := 82) rfl) rfl rfl ?_
    refine i_iconst (pc' := 214) (f_at inc_136 (j := 83) rfl) ci_0 rfl ?_
    refine i_iconst (pc' := 215) (f_at inc_136 (j := 84) rfl) ci_5 rfl ?_
    refine c_pi (pc' := 218) (c' := 1) (n' := 6) (h_stat (ra := [.int (5 : Int32), .int (0 : Int32), .int a3]) (r := []) (as := [.int a3, .int (0 : Int32), .int (5 : Int32)]) (f_at inc_136 (j := 85) rfl) (by decide) MT_37 rfl rfl rfl ⟨Nat.le_of_ble_eq_true rfl, Nat.le_of_ble_eq_true rfl, Nat.le_of_ble_eq_true rfl⟩) MT_37 (L_bits hN a3 (0 : Int32) (5 : Int32) σ) ⟨rfl, rfl, rfl⟩ fun t167 => ?_
    refine i_istore (pc' := 220) (ls' := [.ref 155, .ref 0, .int a2, .int a3, .int (t1 - t1 / (σ 155 22) * (σ 155 22)), .int (σ 155 24), .int t163, .int ((σ 155 26) + t164), .int ((1 : Int32) + t165), .int ((1 : Int32) + t166), .int t167, a_dead]) (f_at inc_136 (j := 86) rfl) (Nat.le_of_ble_eq_true rfl) rfl rfl ?_
    refine i_iload (pc' := 222) (f_at inc_136 (j := 87) rfl) rfl rfl ?_
    refine s_join (J := 253) (fun (t168 : Int32) (u168 : Unit) => [.ref 155, .ref 0, .int a2, .int a3, .int (t1 - t1 / (σ 155 22) * (σ 155 22)), .int (σ 155 24), .int t163, .int ((σ 155 26) + t164), .int ((1 : Int32) + t165), .int ((1 : Int32) + t166), .int t167, a_dead]) (fun t168 => [.int t168]) (fun t168 => σ) ?_ ?_
    · intro t168 u168
      refine i_istore (pc' := 255) (ls' := [.ref 155, .ref 0, .int a2, .int a3, .int (t1 - t1 / (σ 155 22) * (σ 155 22)), .int (σ 155 24), .int t163, .int ((σ 155 26) + t164), .int ((1 : Int32) + t165), .int ((1 : Int32) + t166), .int t167, .int t168]) (f_at inc_136 (j := 108) rfl) (Nat.le_of_ble_eq_true rfl) rfl rfl ?_
      refine i_iload (pc' := 257) (f_at inc_136 (j := 109) rfl) rfl rfl ?_
      refine i_bipush (pc' := 259) (f_at inc_136 (j := 110) rfl) cb_20 rfl ?_
      refine i_if2 (pc' := 274) (nx := 262) c2_eq (f_at inc_136 (j := 111) rfl) ⟨by decide, rfl⟩ (fun b193 => ?_) (fun b193 => ?_)
      · refine i_aload_n (pc' := 275) (f_at inc_136 (j := 118) rfl) rfl rfl ?_
        refine i_iconst (pc' := 276) (f_at inc_136 (j := 119) rfl) ci_1 rfl ?_
        refine i_iload (pc' := 278) (f_at inc_136 (j := 120) rfl) rfl rfl ?_
        refine i_iadd (pc' := 279) (f_at inc_136 (j := 121) rfl) rfl ?_
        refine i_iload (pc' := 281) (f_at inc_136 (j := 122) rfl) rfl rfl ?_
        refine i_iload (pc' := 283) (f_at inc_136 (j := 123) rfl) rfl rfl ?_
        refine i_iload (pc' := 285) (f_at inc_136 (j := 124) rfl) rfl rfl ?_
        refine i_iload (pc' := 287) (f_at inc_136 (j := 125) rfl) rfl rfl ?_
        refine i_iload (pc' := 289) (f_at inc_136 (j := 126) rfl) rfl rfl ?_
        refine c_wb (pc' := 292) (c' := 0) (n' := 0) (h_stat (ra := [.int t167, .int ((1 : Int32) + t166), .int ((1 : Int32) + t165), .int ((σ 155 26) + t164), .int (t1 - t1 / (σ 155 22) * (σ 155 22)), .int ((1 : Int32) + t163), .ref 0]) (r := []) (as := [.ref 0, .int ((1 : Int32) + t163), .int (t1 - t1 / (σ 155 22) * (σ 155 22)), .int ((σ 155 26) + t164), .int ((1 : Int32) + t165), .int ((1 : Int32) + t166), .int t167]) (f_at inc_136 (j := 127) rfl) (by decide) MT_132 rfl rfl rfl ⟨Nat.le_of_ble_eq_true rfl, Nat.le_of_ble_eq_true rfl, Nat.le_of_ble_eq_true rfl⟩) MT_132 (L_isRefused hN ((1 : Int32) + t163) (t1 - t1 / (σ 155 22) * (σ 155 22)) ((σ 155 26) + t164) ((1 : Int32) + t165) ((1 : Int32) + t166) t167 σ) ⟨rfl, rfl, rfl⟩ fun t171 => ?_
        exact i_iret (v := f_b t171.1) (f_at inc_136 (j := 128) rfl) rfl n_bool
      · refine i_aload_n (pc' := 263) (f_at inc_136 (j := 112) rfl) rfl rfl ?_
        refine i_getR (pc' := 266) (f_at inc_136 (j := 113) rfl) sh_155 rfl (f_lt (o := 155) (m := 181) (Nat.le_of_ble_eq_true rfl) hN) rfl ?_
        refine i_iload (pc' := 268) (f_at inc_136 (j := 114) rfl) rfl rfl ?_
        refine i_iald (pc' := 269) (f_at inc_136 (j := 115) rfl) sh_156 (f_bg (Nat.le_of_ble_eq_true rfl)) (f_lt (o := 156) (m := 181) (Nat.le_of_ble_eq_true rfl) hN) rfl fun v172 => ?_
        refine i_iload (pc' := 271) (f_at inc_136 (j := 116) rfl) rfl rfl ?_
        refine i_if2 (pc' := 293) (nx := 274) c2_ge (f_at inc_136 (j := 117) rfl) ⟨by decide, rfl⟩ (fun b192 => ?_) (fun b192 => ?_)
        · refine i_aload_n (pc' := 294) (f_at inc_136 (j := 129) rfl) rfl rfl ?_
          refine i_getR (pc' := 297) (f_at inc_136 (j := 130) rfl) sh_155 rfl (f_lt (o := 155) (m := 181) (Nat.le_of_ble_eq_true rfl) hN) rfl ?_
          refine i_iload (pc' := 299) (f_at inc_136 (j := 131) rfl) rfl rfl ?_
          refine i_iload (pc' := 301) (f_at inc_136 (j := 132) rfl) rfl rfl ?_
          refine i_iast (pc' := 302) (f_at inc_136 (j := 133) rfl) sh_159 (f_lt (o := 159) (m := 181) (Nat.le_of_ble_eq_true rfl) hN) rfl fun m173 => ?_
          refine i_aload_n (pc' := 303) (f_at inc_136 (j := 134) rfl) rfl rfl ?_
          refine i_getR (pc' := 306) (f_at inc_136 (j := 135) rfl) sh_155 rfl (f_lt (o := 155) (m := 181) (Nat.le_of_ble_eq_true rfl) hN) rfl ?_
          refine i_iload (pc' := 308) (f_at inc_136 (j := 136) rfl) rfl rfl ?_
          refine i_iload (pc' := 310) (f_at inc_136 (j := 137) rfl) rfl rfl ?_
          refine i_iast (pc' := 311) (f_at inc_136 (j := 138) rfl) sh_160 (f_lt (o := 160) (m := 181) (Nat.le_of_ble_eq_true rfl) hN) rfl fun m174 => ?_
          refine i_aload_n (pc' := 312) (f_at inc_136 (j := 139) rfl) rfl rfl ?_
          refine i_getR (pc' := 315) (f_at inc_136 (j := 140) rfl) sh_155 rfl (f_lt (o := 155) (m := 181) (Nat.le_of_ble_eq_true rfl) hN) rfl ?_
          refine i_iload (pc' := 317) (f_at inc_136 (j := 141) rfl) rfl rfl ?_
          refine i_iload (pc' := 319) (f_at inc_136 (j := 142) rfl) rfl rfl ?_
          refine i_iast (pc' := 320) (f_at inc_136 (j := 143) rfl) sh_161 (f_lt (o := 161) (m := 181) (Nat.le_of_ble_eq_true rfl) hN) rfl fun m175 => ?_
          refine i_aload_n (pc' := 321) (f_at inc_136 (j := 144) rfl) rfl rfl ?_
          refine i_getR (pc' := 324) (f_at inc_136 (j := 145) rfl) sh_155 rfl (f_lt (o := 155) (m := 181) (Nat.le_of_ble_eq_true rfl) hN) rfl ?_
          refine i_iload (pc' := 326) (f_at inc_136 (j := 146) rfl) rfl rfl ?_
          refine i_iload (pc' := 328) (f_at inc_136 (j := 147) rfl) rfl rfl ?_
          refine i_iast (pc' := 329) (f_at inc_136 (j := 148) rfl) sh_162 (f_lt (o := 162) (m := 181) (Nat.le_of_ble_eq_true rfl) hN) rfl fun m176 => ?_
          refine i_aload_n (pc' := 330) (f_at inc_136 (j := 149) rfl) rfl rfl ?_
          refine i_getR (pc' := 333) (f_at inc_136 (j := 150) rfl) sh_155 rfl (f_lt (o := 155) (m := 181) (Nat.le_of_ble_eq_true rfl) hN) rfl ?_
          refine i_iload (pc' := 335) (f_at inc_136 (j := 151) rfl) rfl rfl ?_
          refine i_iload (pc' := 337) (f_at inc_136 (j := 152) rfl) rfl rfl ?_
          refine i_iast (pc' := 338) (f_at inc_136 (j := 153) rfl) sh_163 (f_lt (o := 163) (m := 181) (Nat.le_of_ble_eq_true rfl) hN) rfl fun m177 => ?_
          refine i_aload_n (pc' := 339) (f_at inc_136 (j := 154) rfl) rfl rfl ?_
          refine i_getR (pc' := 342) (f_at inc_136 (j := 155) rfl) sh_155 rfl (f_lt (o := 155) (m := 181) (Nat.le_of_ble_eq_true rfl) hN) rfl ?_
          refine i_iload (pc' := 344) (f_at inc_136 (j := 156) rfl) rfl rfl ?_
          refine i_iload (pc' := 346) (f_at inc_136 (j := 157) rfl) rfl rfl ?_
          refine i_iast (pc' := 347) (f_at inc_136 (j := 158) rfl) sh_164 (f_lt (o := 164) (m := 181) (Nat.le_of_ble_eq_true rfl) hN) rfl fun m178 => ?_
          refine i_aload_n (pc' := 348) (f_at inc_136 (j := 159) rfl) rfl rfl ?_
          refine i_getR (pc' := 351) (f_at inc_136 (j := 160) rfl) sh_155 rfl (f_lt (o := 155) (m := 181) (Nat.le_of_ble_eq_true rfl) hN) rfl ?_
          refine i_iload (pc' := 353) (f_at inc_136 (j := 161) rfl) rfl rfl ?_
          refine i_iload (pc' := 355) (f_at inc_136 (j := 162) rfl) rfl rfl ?_
          refine i_iload_n (pc' := 356) (f_at inc_136 (j := 163) rfl) rfl rfl ?_
          refine i_iconst (pc' := 357) (f_at inc_136 (j := 164) rfl) ci_5 rfl ?_
          refine i_iconst (pc' := 358) (f_at inc_136 (j := 165) rfl) ci_5 rfl ?_
          refine c_pi (pc' := 361) (c' := 1) (n' := 6) (h_stat (ra := [.int (5 : Int32), .int (5 : Int32), .int a3]) (r := [.int t167, .int (σ 155 24), .ref 165]) (as := [.int a3, .int (5 : Int32), .int (5 : Int32)]) (f_at inc_136 (j := 166) rfl) (by decide) MT_37 rfl rfl rfl ⟨Nat.le_of_ble_eq_true rfl, Nat.le_of_ble_eq_true rfl, Nat.le_of_ble_eq_true rfl⟩) MT_37 (L_bits hN a3 (5 : Int32) (5 : Int32) m178) ⟨rfl, rfl, rfl⟩ fun t179 => ?_
          refine i_iadd (pc' := 362) (f_at inc_136 (j := 167) rfl) rfl ?_
          refine i_iast (pc' := 363) (f_at inc_136 (j := 168) rfl) sh_165 (f_lt (o := 165) (m := 181) (Nat.le_of_ble_eq_true rfl) hN) rfl fun m180 => ?_
          refine i_aload_n (pc' := 364) (f_at inc_136 (j := 169) rfl) rfl rfl ?_
          refine i_getR (pc' := 367) (f_at inc_136 (j := 170) rfl) sh_155 rfl (f_lt (o := 155) (m := 181) (Nat.le_of_ble_eq_true rfl) hN) rfl ?_
          refine i_iload (pc' := 369) (f_at inc_136 (j := 171) rfl) rfl rfl ?_
          refine i_iload (pc' := 371) (f_at inc_136 (j := 172) rfl) rfl rfl ?_
          refine i_iast (pc' := 372) (f_at inc_136 (j := 173) rfl) sh_166 (f_lt (o := 166) (m := 181) (Nat.le_of_ble_eq_true rfl) hN) rfl fun m181 => ?_
          refine i_aload_n (pc' := 373) (f_at inc_136 (j := 174) rfl) rfl rfl ?_
          refine i_getR (pc' := 376) (f_at inc_136 (j := 175) rfl) sh_155 rfl (f_lt (o := 155) (m := 181) (Nat.le_of_ble_eq_true rfl) hN) rfl ?_
          refine i_iload (pc' := 378) (f_at inc_136 (j := 176) rfl) rfl rfl ?_
          refine i_dup2 (pc' := 379) (f_at inc_136 (j := 177) rfl) ⟨rfl, rfl⟩ rfl ?_
          refine i_iald (pc' := 380) (f_at inc_136 (j := 178) rfl) sh_156 (f_bg (Nat.le_of_ble_eq_true rfl)) (f_lt (o := 156) (m := 181) (Nat.le_of_ble_eq_true rfl) hN) rfl fun v182 => ?_
          refine i_iload (pc' := 382) (f_at inc_136 (j := 179) rfl) rfl rfl ?_
          refine i_isub (pc' := 383) (f_at inc_136 (j := 180) rfl) rfl ?_
          refine i_iast (pc' := 384) (f_at inc_136 (j := 181) rfl) sh_156 (f_lt (o := 156) (m := 181) (Nat.le_of_ble_eq_true rfl) hN) rfl fun m183 => ?_
          refine i_aload_n (pc' := 385) (f_at inc_136 (j := 182) rfl) rfl rfl ?_
          refine i_dup (pc' := 386) (f_at inc_136 (j := 183) rfl) rfl rfl ?_
          refine i_getI (pc' := 389) (f_at inc_136 (j := 184) rfl) sh_155 rfl (f_lt (o := 155) (m := 181) (Nat.le_of_ble_eq_true rfl) hN) rfl ?_
          refine i_iload (pc' := 391) (f_at inc_136 (j := 185) rfl) rfl rfl ?_
          refine i_iadd (pc' := 392) (f_at inc_136 (j := 186) rfl) rfl ?_
          refine i_putI (pc' := 395) (f_at inc_136 (j := 187) rfl) sh_155 rfl ⟨rfl, rfl⟩ (f_lt (o := 155) (m := 181) (Nat.le_of_ble_eq_true rfl) hN) rfl ?_
          refine i_aload_n (pc' := 396) (f_at inc_136 (j := 188) rfl) rfl rfl ?_
          refine i_dup (pc' := 397) (f_at inc_136 (j := 189) rfl) rfl rfl ?_
          refine i_getI (pc' := 400) (f_at inc_136 (j := 190) rfl) sh_155 rfl (f_lt (o := 155) (m := 181) (Nat.le_of_ble_eq_true rfl) hN) rfl ?_
          refine i_iload (pc' := 402) (f_at inc_136 (j := 191) rfl) rfl rfl ?_
          refine i_iadd (pc' := 403) (f_at inc_136 (j := 192) rfl) rfl ?_
          refine i_putI (pc' := 406) (f_at inc_136 (j := 193) rfl) sh_155 rfl ⟨rfl, rfl⟩ (f_lt (o := 155) (m := 181) (Nat.le_of_ble_eq_true rfl) hN) rfl ?_
          refine i_aload_n (pc' := 407) (f_at inc_136 (j := 194) rfl) rfl rfl ?_
          refine i_dup (pc' := 408) (f_at inc_136 (j := 195) rfl) rfl rfl ?_
          refine i_getI (pc' := 411) (f_at inc_136 (j := 196) rfl) sh_155 rfl (f_lt (o := 155) (m := 181) (Nat.le_of_ble_eq_true rfl) hN) rfl ?_
          refine i_iconst (pc' := 412) (f_at inc_136 (j := 197) rfl) ci_1 rfl ?_
          refine i_iadd (pc' := 413) (f_at inc_136 (j := 198) rfl) rfl ?_
          refine i_putI (pc' := 416) (f_at inc_136 (j := 199) rfl) sh_155 rfl ⟨rfl, rfl⟩ (f_lt (o := 155) (m := 181) (Nat.le_of_ble_eq_true rfl) hN) rfl ?_
          refine i_iload (pc' := 418) (f_at inc_136 (j := 200) rfl) rfl rfl ?_
          refine s_joinc 0 0 (J := 459) (fun (t184 : Int32 × f_M) (u184 : Unit) => [.ref 155, .ref 0, .int a2, .int a3, .int (t1 - t1 / (σ 155 22) * (σ 155 22)), .int (σ 155 24), .int t163, .int ((σ 155 26) + t164), .int ((1 : Int32) + t165), .int ((1 : Int32) + t166), .int t167, .int t168]) (fun t184 => [.int t184.1]) (fun t184 => t184.2) ?_ ?_
          · intro t184 u184
            refine i_iload (pc' := 461) (f_at inc_136 (j := 221) rfl) rfl rfl ?_
            refine s_join (J := 469) (fun (t189 : Bool) (u189 : Unit) => [.ref 155, .ref 0, .int a2, .int a3, .int (t1 - t1 / (σ 155 22) * (σ 155 22)), .int (σ 155 24), .int t163, .int ((σ 155 26) + t164), .int ((1 : Int32) + t165), .int ((1 : Int32) + t166), .int t167, .int t168]) (fun t189 => [.int (f_b t189)]) (fun t189 => t184.2) ?_ ?_
            · intro t189 u189
              exact i_iret (v := f_b t189) (f_at inc_136 (j := 226) rfl) rfl n_bool
            · intro k189 hj189
              refine i_if2 (pc' := 468) (nx := 464) c2_ne (f_at inc_136 (j := 222) rfl) ⟨by decide, rfl⟩ (fun b190 => ?_) (fun b190 => ?_)
              · refine i_iconst (pc' := 469) (f_at inc_136 (j := 225) rfl) ci_0 rfl ?_
                exact hj189 false ()
              · refine i_iconst (pc' := 465) (f_at inc_136 (j := 223) rfl) ci_1 rfl ?_
                refine i_goto (pc' := 469) (f_at inc_136 (j := 224) rfl) (by decide) ?_
                exact hj189 true ()
          · intro k184 hj184
            refine i_if0 (pc' := 445) (nx := 421) c0_ne (f_at inc_136 (j := 201) rfl) ⟨by decide, rfl⟩ (fun b188 => ?_) (fun b188 => ?_)
            · refine i_aload_n (pc' := 446) (f_at inc_136 (j := 214) rfl) rfl rfl ?_
              refine i_iload (pc' := 448) (f_at inc_136 (j := 215) rfl) rfl rfl ?_
              refine i_iload (pc' := 450) (f_at inc_136 (j := 216) rfl) rfl rfl ?_
              refine i_iload (pc' := 452) (f_at inc_136 (j := 217) rfl) rfl rfl ?_
              refine i_iload (pc' := 454) (f_at inc_136 (j := 218) rfl) rfl rfl ?_
              refine i_iload (pc' := 456) (f_at inc_136 (j := 219) rfl) rfl rfl ?_
              refine c_wi (pc' := 459) (c' := 0) (n' := 0) (h_virt (ra := [.int t167, .int ((1 : Int32) + t166), .int ((1 : Int32) + t165), .int ((σ 155 26) + t164), .int (t1 - t1 / (σ 155 22) * (σ 155 22)), .ref 0]) (r := []) (as := [.int (t1 - t1 / (σ 155 22) * (σ 155 22)), .int ((σ 155 26) + t164), .int ((1 : Int32) + t165), .int ((1 : Int32) + t166), .int t167]) (f_at inc_136 (j := 220) rfl) (by decide) MT_131 rfl rfl rfl ⟨Nat.le_of_ble_eq_true rfl, Nat.le_of_ble_eq_true rfl, Nat.le_of_ble_eq_true rfl⟩ sh_0 (f_lt (o := 0) (m := 181) (Nat.le_of_ble_eq_true rfl) hN)) MT_131 (f_cal_nt (P_328 (Nat.le_trans (Nat.le_of_ble_eq_true rfl) hN) (t1 - t1 / (σ 155 22) * (σ 155 22)) ((σ 155 26) + t164) ((1 : Int32) + t165) ((1 : Int32) + t166) t167 (f_up (f_up (f_up m183 155 27 ((m183 155 27) + t168)) 155 28 (((f_up m183 155 27 ((m183 155 27) + t168)) 155 28) + t168)) 155 24 (((f_up (f_up m183 155 27 ((m183 155 27) + t168)) 155 28 (((f_up m183 155 27 ((m183 155 27) + t168)) 155 28) + t168)) 155 24) + (1 : Int32))))) ⟨rfl, rfl, rfl⟩ fun t185 => ?_
              exact hj184 (t185.1, t185.2) ()
            · refine i_aload_n (pc' := 422) (f_at inc_136 (j := 202) rfl) rfl rfl ?_
              refine i_iload (pc' := 424) (f_at inc_136 (j := 203) rfl) rfl rfl ?_
              refine i_iload (pc' := 426) (f_at inc_136 (j := 204) rfl) rfl rfl ?_
              refine i_iload (pc' := 428) (f_at inc_136 (j := 205) rfl) rfl rfl ?_
              refine i_iload (pc' := 430) (f_at inc_136 (j := 206) rfl) rfl rfl ?_
              refine i_iload (pc' := 432) (f_at inc_136 (j := 207) rfl) rfl rfl ?_
              refine i_aload_n (pc' := 433) (f_at inc_136 (j := 208) rfl) rfl rfl ?_
              refine i_getR (pc' := 436) (f_at inc_136 (j := 209) rfl) sh_155 rfl (f_lt (o := 155) (m := 181) (Nat.le_of_ble_eq_true rfl) hN) rfl ?_
              refine i_iload (pc' := 438) (f_at inc_136 (j := 210) rfl) rfl rfl ?_
              refine i_iald (pc' := 439) (f_at inc_136 (j := 211) rfl) sh_165 (f_bg (Nat.le_of_ble_eq_true rfl)) (f_lt (o := 165) (m := 181) (Nat.le_of_ble_eq_true rfl) hN) rfl fun v186 => ?_
              refine c_wi (pc' := 442) (c' := 0) (n' := 0) (h_virt (ra := [.int v186, .int t167, .int ((1 : Int32) + t166), .int ((1 : Int32) + t165), .int ((σ 155 26) + t164), .int (t1 - t1 / (σ 155 22) * (σ 155 22)), .ref 0]) (r := []) (as := [.int (t1 - t1 / (σ 155 22) * (σ 155 22)), .int ((σ 155 26) + t164), .int ((1 : Int32) + t165), .int ((1 : Int32) + t166), .int t167, .int v186]) (f_at inc_136 (j := 212) rfl) (by decide) MT_129 rfl rfl rfl ⟨Nat.le_of_ble_eq_true rfl, Nat.le_of_ble_eq_true rfl, Nat.le_of_ble_eq_true rfl⟩ sh_0 (f_lt (o := 0) (m := 181) (Nat.le_of_ble_eq_true rfl) hN)) MT_129 (f_cal_nt (P_324 (Nat.le_trans (Nat.le_of_ble_eq_true rfl) hN) (t1 - t1 / (σ 155 22) * (σ 155 22)) ((σ 155 26) + t164) ((1 : Int32) + t165) ((1 : Int32) + t166) t167 v186 (f_up (f_up (f_up m183 155 27 ((m183 155 27) + t168)) 155 28 (((f_up m183 155 27 ((m183 155 27) + t168)) 155 28) + t168)) 155 24 (((f_up (f_up m183 155 27 ((m183 155 27) + t168)) 155 28 (((f_up m183 155 27 ((m183 155 27) + t168)) 155 28) + t168)) 155 24) + (1 : Int32))))) ⟨rfl, rfl, rfl⟩ fun t187 => ?_
              refine i_goto (pc' := 459) (f_at inc_136 (j := 213) rfl) (by decide) ?_
              exact hj184 (t187.1, t187.2) ()
        · refine i_aload_n (pc' := 275) (f_at inc_136 (j := 118) rfl) rfl rfl ?_
          refine i_iconst (pc' := 276) (f_at inc_136 (j := 119) rfl) ci_1 rfl ?_
          refine i_iload (pc' := 278) (f_at inc_136 (j := 120) rfl) rfl rfl ?_
          refine i_iadd (pc' := 279) (f_at inc_136 (j := 121) rfl) rfl ?_
          refine i_iload (pc' := 281) (f_at inc_136 (j := 122) rfl) rfl rfl ?_
          refine i_iload (pc' := 283) (f_at inc_136 (j := 123) rfl) rfl rfl ?_
          refine i_iload (pc' := 285) (f_at inc_136 (j := 124) rfl) rfl rfl ?_
          refine i_iload (pc' := 287) (f_at inc_136 (j := 125) rfl) rfl rfl ?_
          refine i_iload (pc' := 289) (f_at inc_136 (j := 126) rfl) rfl rfl ?_
          refine c_wb (pc' := 292) (c' := 0) (n' := 0) (h_stat (ra := [.int t167, .int ((1 : Int32) + t166), .int ((1 : Int32) + t165), .int ((σ 155 26) + t164), .int (t1 - t1 / (σ 155 22) * (σ 155 22)), .int ((1 : Int32) + t163), .ref 0]) (r := []) (as := [.ref 0, .int ((1 : Int32) + t163), .int (t1 - t1 / (σ 155 22) * (σ 155 22)), .int ((σ 155 26) + t164), .int ((1 : Int32) + t165), .int ((1 : Int32) + t166), .int t167]) (f_at inc_136 (j := 127) rfl) (by decide) MT_132 rfl rfl rfl ⟨Nat.le_of_ble_eq_true rfl, Nat.le_of_ble_eq_true rfl, Nat.le_of_ble_eq_true rfl⟩) MT_132 (L_isRefused hN ((1 : Int32) + t163) (t1 - t1 / (σ 155 22) * (σ 155 22)) ((σ 155 26) + t164) ((1 : Int32) + t165) ((1 : Int32) + t166) t167 σ) ⟨rfl, rfl, rfl⟩ fun t191 => ?_
          exact i_iret (v := f_b t191.1) (f_at inc_136 (j := 128) rfl) rfl n_bool
    · intro k168 hj168
      refine i_if0 (pc' := 238) (nx := 225) c0_ne (f_at inc_136 (j := 88) rfl) ⟨by decide, rfl⟩ (fun b170 => ?_) (fun b170 => ?_)
      · refine i_iload (pc' := 240) (f_at inc_136 (j := 97) rfl) rfl rfl ?_
        refine i_iload (pc' := 242) (f_at inc_136 (j := 98) rfl) rfl rfl ?_
        refine i_imul (pc' := 243) (f_at inc_136 (j := 99) rfl) rfl ?_
        refine i_bipush (pc' := 245) (f_at inc_136 (j := 100) rfl) cb_20 rfl ?_
        refine i_iconst (pc' := 246) (f_at inc_136 (j := 101) rfl) ci_2 rfl ?_
        refine i_iload (pc' := 248) (f_at inc_136 (j := 102) rfl) rfl rfl ?_
        refine i_imul (pc' := 249) (f_at inc_136 (j := 103) rfl) rfl ?_
        refine i_iadd (pc' := 250) (f_at inc_136 (j := 104) rfl) rfl ?_
        refine i_grn fun h169 => ?_
        refine i_idiv (pc' := 251) (f_at inc_136 (j := 105) rfl) h169 rfl ?_
        refine i_iconst (pc' := 252) (f_at inc_136 (j := 106) rfl) ci_1 rfl ?_
        refine i_iadd (pc' := 253) (f_at inc_136 (j := 107) rfl) rfl ?_
        exact hj168 (((((1 : Int32) + t166) * ((1 : Int32) + t165)) / ((20 : Int32) + ((2 : Int32) * t167))) + (1 : Int32)) ()
      · refine i_iload (pc' := 227) (f_at inc_136 (j := 89) rfl) rfl rfl ?_
        refine i_iload (pc' := 229) (f_at inc_136 (j := 90) rfl) rfl rfl ?_
        refine i_imul (pc' := 230) (f_at inc_136 (j := 91) rfl) rfl ?_
        refine i_bipush (pc' := 232) (f_at inc_136 (j := 92) rfl) cb_40 rfl ?_
        refine i_idiv (pc' := 233) (f_at inc_136 (j := 93) rfl) (by decide) rfl ?_
        refine i_iconst (pc' := 234) (f_at inc_136 (j := 94) rfl) ci_1 rfl ?_
        refine i_iadd (pc' := 235) (f_at inc_136 (j := 95) rfl) rfl ?_
        refine i_goto (pc' := 253) (f_at inc_136 (j := 96) rfl) (by decide) ?_
        exact hj168 (((((1 : Int32) + t166) * ((1 : Int32) + t165)) / (40 : Int32)) + (1 : Int32)) ()
  refine i_cas (fun b211 => ?_) (fun b211 => ?_)
  · refine i_sw (pc' := 470) (v := (11 : Int32)) (f_at inc_136 (j := 12) rfl) b211 ⟨by decide, rfl⟩ (by decide) ?_
    refine i_aload_n (pc' := 471) (f_at inc_136 (j := 227) rfl) rfl rfl ?_
    refine i_getI (pc' := 474) (f_at inc_136 (j := 228) rfl) sh_155 rfl (f_lt (o := 155) (m := 181) (Nat.le_of_ble_eq_true rfl) hN) rfl ?_
    refine i_if0 (pc' := 490) (nx := 477) c0_ne (f_at inc_136 (j := 229) rfl) ⟨by decide, rfl⟩ (fun b210 => ?_) (fun b210 => ?_)
    · refine i_iload_n (pc' := 491) (f_at inc_136 (j := 237) rfl) rfl rfl ?_
      refine i_bipush (pc' := 493) (f_at inc_136 (j := 238) rfl) cb_8 rfl ?_
      refine i_iconst (pc' := 494) (f_at inc_136 (j := 239) rfl) ci_5 rfl ?_
      refine c_pi (pc' := 497) (c' := 1) (n' := 6) (h_stat (ra := [.int (5 : Int32), .int (8 : Int32), .int a2]) (r := []) (as := [.int a2, .int (8 : Int32), .int (5 : Int32)]) (f_at inc_136 (j := 240) rfl) (by decide) MT_37 rfl rfl rfl ⟨Nat.le_of_ble_eq_true rfl, Nat.le_of_ble_eq_true rfl, Nat.le_of_ble_eq_true rfl⟩) MT_37 (L_bits hN a2 (8 : Int32) (5 : Int32) σ) ⟨rfl, rfl, rfl⟩ fun t195 => ?_
      refine i_aload_n (pc' := 498) (f_at inc_136 (j := 241) rfl) rfl rfl ?_
      refine i_getI (pc' := 501) (f_at inc_136 (j := 242) rfl) sh_155 rfl (f_lt (o := 155) (m := 181) (Nat.le_of_ble_eq_true rfl) hN) rfl ?_
      refine i_grn fun h196 => ?_
      refine i_irem (pc' := 502) (f_at inc_136 (j := 243) rfl) h196 rfl ?_
      refine i_istore (pc' := 504) (ls' := [.ref 155, .ref 0, .int a2, .int a3, .int (t1 - t1 / (σ 155 22) * (σ 155 22)), .int (t195 - t195 / (σ 155 24) * (σ 155 24)), a_dead, a_dead, a_dead, a_dead, a_dead, a_dead]) (f_at inc_136 (j := 244) rfl) (Nat.le_of_ble_eq_true rfl) rfl rfl ?_
      refine i_aload_n (pc' := 505) (f_at inc_136 (j := 245) rfl) rfl rfl ?_
      refine i_iload (pc' := 507) (f_at inc_136 (j := 246) rfl) rfl rfl ?_
      refine c_pi (pc' := 510) (c' := 1) (n' := 6) (h_virt (ra := [.int (t195 - t195 / (σ 155 24) * (σ 155 24)), .ref 0]) (r := []) (as := [.int (t195 - t195 / (σ 155 24) * (σ 155 24))]) (f_at inc_136 (j := 247) rfl) (by decide) MT_71 rfl rfl rfl ⟨Nat.le_of_ble_eq_true rfl, Nat.le_of_ble_eq_true rfl, Nat.le_of_ble_eq_true rfl⟩ sh_0 (f_lt (o := 0) (m := 181) (Nat.le_of_ble_eq_true rfl) hN)) MT_71 (P_225 (Nat.le_trans (Nat.le_of_ble_eq_true rfl) hN) (t195 - t195 / (σ 155 24) * (σ 155 24)) σ) ⟨rfl, rfl, rfl⟩ fun t197 => ?_
      refine i_aload_n (pc' := 511) (f_at inc_136 (j := 248) rfl) rfl rfl ?_
      refine i_iload (pc' := 513) (f_at inc_136 (j := 249) rfl) rfl rfl ?_
      refine c_pi (pc' := 516) (c' := 1) (n' := 6) (h_virt (ra := [.int (t195 - t195 / (σ 155 24) * (σ 155 24)), .ref 155]) (r := [.int t197]) (as := [.int (t195 - t195 / (σ 155 24) * (σ 155 24))]) (f_at inc_136 (j := 250) rfl) (by decide) MT_72 rfl rfl rfl ⟨Nat.le_of_ble_eq_true rfl, Nat.le_of_ble_eq_true rfl, Nat.le_of_ble_eq_true rfl⟩ sh_155 (f_lt (o := 155) (m := 181) (Nat.le_of_ble_eq_true rfl) hN)) MT_72 (L_obstacle hN (t195 - t195 / (σ 155 24) * (σ 155 24)) σ) ⟨rfl, rfl, rfl⟩ fun t198 => ?_
      refine i_if2 (pc' := 521) (nx := 519) c2_eq (f_at inc_136 (j := 251) rfl) ⟨by decide, rfl⟩ (fun b206 => ?_) (fun b206 => ?_)
      · refine i_aload_n (pc' := 522) (f_at inc_136 (j := 254) rfl) rfl rfl ?_
        refine i_iload (pc' := 524) (f_at inc_136 (j := 255) rfl) rfl rfl ?_
        refine c_pi (pc' := 527) (c' := 1) (n' := 6) (h_virt (ra := [.int (t195 - t195 / (σ 155 24) * (σ 155 24)), .ref 155]) (r := []) (as := [.int (t195 - t195 / (σ 155 24) * (σ 155 24))]) (f_at inc_136 (j := 256) rfl) (by decide) MT_72 rfl rfl rfl ⟨Nat.le_of_ble_eq_true rfl, Nat.le_of_ble_eq_true rfl, Nat.le_of_ble_eq_true rfl⟩ sh_155 (f_lt (o := 155) (m := 181) (Nat.le_of_ble_eq_true rfl) hN)) MT_72 (L_obstacle hN (t195 - t195 / (σ 155 24) * (σ 155 24)) σ) ⟨rfl, rfl, rfl⟩ fun t199 => ?_
        refine i_if0 (pc' := 542) (nx := 530) c0_le (f_at inc_136 (j := 257) rfl) ⟨by decide, rfl⟩ (fun b205 => ?_) (fun b205 => ?_)
        · refine i_aload_n (pc' := 543) (f_at inc_136 (j := 267) rfl) rfl rfl ?_
          refine i_iload (pc' := 545) (f_at inc_136 (j := 268) rfl) rfl rfl ?_
          refine c_wi (pc' := 548) (c' := 1) (n' := 6) (h_virt (ra := [.int (t195 - t195 / (σ 155 24) * (σ 155 24)), .ref 155]) (r := []) (as := [.int (t195 - t195 / (σ 155 24) * (σ 155 24))]) (f_at inc_136 (j := 269) rfl) (by decide) MT_133 rfl rfl rfl ⟨Nat.le_of_ble_eq_true rfl, Nat.le_of_ble_eq_true rfl, Nat.le_of_ble_eq_true rfl⟩ sh_155 (f_lt (o := 155) (m := 181) (Nat.le_of_ble_eq_true rfl) hN)) MT_133 (L_files hN (t195 - t195 / (σ 155 24) * (σ 155 24)) σ) ⟨rfl, rfl, rfl⟩ fun t200 => ?_
          refine i_istore (pc' := 550) (ls' := [.ref 155, .ref 0, .int a2, .int a3, .int (t1 - t1 / (σ 155 22) * (σ 155 22)), .int (t195 - t195 / (σ 155 24) * (σ 155 24)), .int t200.1, a_dead, a_dead, a_dead, a_dead, a_dead]) (f_at inc_136 (j := 270) rfl) (Nat.le_of_ble_eq_true rfl) rfl rfl ?_
          refine i_aload_n (pc' := 551) (f_at inc_136 (j := 271) rfl) rfl rfl ?_
          refine i_iload (pc' := 553) (f_at inc_136 (j := 272) rfl) rfl rfl ?_
          refine c_wi (pc' := 556) (c' := 0) (n' := 0) (h_virt (ra := [.int (t195 - t195 / (σ 155 24) * (σ 155 24)), .ref 0]) (r := []) (as := [.int (t195 - t195 / (σ 155 24) * (σ 155 24))]) (f_at inc_136 (j := 273) rfl) (by decide) MT_122 rfl rfl rfl ⟨Nat.le_of_ble_eq_true rfl, Nat.le_of_ble_eq_true rfl, Nat.le_of_ble_eq_true rfl⟩ sh_0 (f_lt (o := 0) (m := 181) (Nat.le_of_ble_eq_true rfl) hN)) MT_122 (f_cal_nt (P_331 (Nat.le_trans (Nat.le_of_ble_eq_true rfl) hN) (t195 - t195 / (σ 155 24) * (σ 155 24)) t200.2)) ⟨rfl, rfl, rfl⟩ fun t201 => ?_
          refine i_iload (pc' := 558) (f_at inc_136 (j := 274) rfl) rfl rfl ?_
          refine s_join (J := 566) (fun (t202 : Bool) (u202 : Unit) => [.ref 155, .ref 0, .int a2, .int a3, .int (t1 - t1 / (σ 155 22) * (σ 155 22)), .int (t195 - t195 / (σ 155 24) * (σ 155 24)), .int t200.1, a_dead, a_dead, a_dead, a_dead, a_dead]) (fun t202 => [.int (f_b t202)]) (fun t202 => t201.2) ?_ ?_
          · intro t202 u202
            exact i_iret (v := f_b t202) (f_at inc_136 (j := 279) rfl) rfl n_bool
          · intro k202 hj202
            refine i_if2 (pc' := 565) (nx := 561) c2_ne (f_at inc_136 (j := 275) rfl) ⟨by decide, rfl⟩ (fun b203 => ?_) (fun b203 => ?_)
            · refine i_iconst (pc' := 566) (f_at inc_136 (j := 278) rfl) ci_0 rfl ?_
              exact hj202 false ()
            · refine i_iconst (pc' := 562) (f_at inc_136 (j := 276) rfl) ci_1 rfl ?_
              refine i_goto (pc' := 566) (f_at inc_136 (j := 277) rfl) (by decide) ?_
              exact hj202 true ()
        · refine i_aload_n (pc' := 531) (f_at inc_136 (j := 258) rfl) rfl rfl ?_
          refine i_iconst (pc' := 532) (f_at inc_136 (j := 259) rfl) ci_0 rfl ?_
          refine i_iload (pc' := 534) (f_at inc_136 (j := 260) rfl) rfl rfl ?_
          refine i_iconst (pc' := 535) (f_at inc_136 (j := 261) rfl) ci_0 rfl ?_
          refine i_iconst (pc' := 536) (f_at inc_136 (j := 262) rfl) ci_0 rfl ?_
          refine i_iconst (pc' := 537) (f_at inc_136 (j := 263) rfl) ci_0 rfl ?_
          refine i_iconst (pc' := 538) (f_at inc_136 (j := 264) rfl) ci_0 rfl ?_
          refine c_wb (pc' := 541) (c' := 0) (n' := 0) (h_stat (ra := [.int (0 : Int32), .int (0 : Int32), .int (0 : Int32), .int (0 : Int32), .int (t195 - t195 / (σ 155 24) * (σ 155 24)), .int (0 : Int32), .ref 0]) (r := []) (as := [.ref 0, .int (0 : Int32), .int (t195 - t195 / (σ 155 24) * (σ 155 24)), .int (0 : Int32), .int (0 : Int32), .int (0 : Int32), .int (0 : Int32)]) (f_at inc_136 (j := 265) rfl) (by decide) MT_132 rfl rfl rfl ⟨Nat.le_of_ble_eq_true rfl, Nat.le_of_ble_eq_true rfl, Nat.le_of_ble_eq_true rfl⟩) MT_132 (L_isRefused hN (0 : Int32) (t195 - t195 / (σ 155 24) * (σ 155 24)) (0 : Int32) (0 : Int32) (0 : Int32) (0 : Int32) σ) ⟨rfl, rfl, rfl⟩ fun t204 => ?_
          exact i_iret (v := f_b t204.1) (f_at inc_136 (j := 266) rfl) rfl n_bool
      · refine i_iconst (pc' := 520) (f_at inc_136 (j := 252) rfl) ci_0 rfl ?_
        exact i_iret (v := f_b false) (f_at inc_136 (j := 253) rfl) rfl n_bool
    · refine i_aload_n (pc' := 478) (f_at inc_136 (j := 230) rfl) rfl rfl ?_
      refine c_pi (pc' := 481) (c' := 1) (n' := 6) (h_virt (ra := [.ref 0]) (r := []) (as := []) (f_at inc_136 (j := 231) rfl) (by decide) MT_44 rfl rfl rfl ⟨Nat.le_of_ble_eq_true rfl, Nat.le_of_ble_eq_true rfl, Nat.le_of_ble_eq_true rfl⟩ sh_0 (f_lt (o := 0) (m := 181) (Nat.le_of_ble_eq_true rfl) hN)) MT_44 (G_194 (Nat.le_trans (Nat.le_of_ble_eq_true rfl) hN)  σ) ⟨rfl, rfl, rfl⟩ fun t207 => ?_
      refine s_join (J := 489) (fun (t208 : Bool) (u208 : Unit) => [.ref 155, .ref 0, .int a2, .int a3, .int (t1 - t1 / (σ 155 22) * (σ 155 22)), a_dead, a_dead, a_dead, a_dead, a_dead, a_dead, a_dead]) (fun t208 => [.int (f_b t208)]) (fun t208 => σ) ?_ ?_
      · intro t208 u208
        exact i_iret (v := f_b t208) (f_at inc_136 (j := 236) rfl) rfl n_bool
      · intro k208 hj208
        refine i_if0 (pc' := 488) (nx := 484) c0_ne (f_at inc_136 (j := 232) rfl) ⟨by decide, rfl⟩ (fun b209 => ?_) (fun b209 => ?_)
        · refine i_iconst (pc' := 489) (f_at inc_136 (j := 235) rfl) ci_0 rfl ?_
          exact hj208 false ()
        · refine i_iconst (pc' := 485) (f_at inc_136 (j := 233) rfl) ci_1 rfl ?_
          refine i_goto (pc' := 489) (f_at inc_136 (j := 234) rfl) (by decide) ?_
          exact hj208 true ()
  refine i_cas (fun b228 => ?_) (fun b228 => ?_)
  · refine i_sw (pc' := 470) (v := (12 : Int32)) (f_at inc_136 (j := 12) rfl) b228 ⟨by decide, rfl⟩ (by decide) ?_
    refine i_aload_n (pc' := 471) (f_at inc_136 (j := 227) rfl) rfl rfl ?_
    refine i_getI (pc' := 474) (f_at inc_136 (j := 228) rfl) sh_155 rfl (f_lt (o := 155) (m := 181) (Nat.le_of_ble_eq_true rfl) hN) rfl ?_
    refine i_if0 (pc' := 490) (nx := 477) c0_ne (f_at inc_136 (j := 229) rfl) ⟨by decide, rfl⟩ (fun b227 => ?_) (fun b227 => ?_)
    · refine i_iload_n (pc' := 491) (f_at inc_136 (j := 237) rfl) rfl rfl ?_
      refine i_bipush (pc' := 493) (f_at inc_136 (j := 238) rfl) cb_8 rfl ?_
      refine i_iconst (pc' := 494) (f_at inc_136 (j := 239) rfl) ci_5 rfl ?_
      refine c_pi (pc' := 497) (c' := 1) (n' := 6) (h_stat (ra := [.int (5 : Int32), .int (8 : Int32), .int a2]) (r := []) (as := [.int a2, .int (8 : Int32), .int (5 : Int32)]) (f_at inc_136 (j := 240) rfl) (by decide) MT_37 rfl rfl rfl ⟨Nat.le_of_ble_eq_true rfl, Nat.le_of_ble_eq_true rfl, Nat.le_of_ble_eq_true rfl⟩) MT_37 (L_bits hN a2 (8 : Int32) (5 : Int32) σ) ⟨rfl, rfl, rfl⟩ fun t212 => ?_
      refine i_aload_n (pc' := 498) (f_at inc_136 (j := 241) rfl) rfl rfl ?_
      refine i_getI (pc' := 501) (f_at inc_136 (j := 242) rfl) sh_155 rfl (f_lt (o := 155) (m := 181) (Nat.le_of_ble_eq_true rfl) hN) rfl ?_
      refine i_grn fun h213 => ?_
      refine i_irem (pc' := 502) (f_at inc_136 (j := 243) rfl) h213 rfl ?_
      refine i_istore (pc' := 504) (ls' := [.ref 155, .ref 0, .int a2, .int a3, .int (t1 - t1 / (σ 155 22) * (σ 155 22)), .int (t212 - t212 / (σ 155 24) * (σ 155 24)), a_dead, a_dead, a_dead, a_dead, a_dead, a_dead]) (f_at inc_136 (j := 244) rfl) (Nat.le_of_ble_eq_true rfl) rfl rfl ?_
      refine i_aload_n (pc' := 505) (f_at inc_136 (j := 245) rfl) rfl rfl ?_
      refine i_iload (pc' := 507) (f_at inc_136 (j := 246) rfl) rfl rfl ?_
      refine c_pi (pc' := 510) (c' := 1) (n' := 6) (h_virt (ra := [.int (t212 - t212 / (σ 155 24) * (σ 155 24)), .ref 0]) (r := []) (as := [.int (t212 - t212 / (σ 155 24) * (σ 155 24))]) (f_at inc_136 (j := 247) rfl) (by decide) MT_71 rfl rfl rfl ⟨Nat.le_of_ble_eq_true rfl, Nat.le_of_ble_eq_true rfl, Nat.le_of_ble_eq_true rfl⟩ sh_0 (f_lt (o := 0) (m := 181) (Nat.le_of_ble_eq_true rfl) hN)) MT_71 (P_225 (Nat.le_trans (Nat.le_of_ble_eq_true rfl) hN) (t212 - t212 / (σ 155 24) * (σ 155 24)) σ) ⟨rfl, rfl, rfl⟩ fun t214 => ?_
      refine i_aload_n (pc' := 511) (f_at inc_136 (j := 248) rfl) rfl rfl ?_
      refine i_iload (pc' := 513) (f_at inc_136 (j := 249) rfl) rfl rfl ?_
      refine c_pi (pc' := 516) (c' := 1) (n' := 6) (h_virt (ra := [.int (t212 - t212 / (σ 155 24) * (σ 155 24)), .ref 155]) (r := [.int t214]) (as := [.int (t212 - t212 / (σ 155 24) * (σ 155 24))]) (f_at inc_136 (j := 250) rfl) (by decide) MT_72 rfl rfl rfl ⟨Nat.le_of_ble_eq_true rfl, Nat.le_of_ble_eq_true rfl, Nat.le_of_ble_eq_true rfl⟩ sh_155 (f_lt (o := 155) (m := 181) (Nat.le_of_ble_eq_true rfl) hN)) MT_72 (L_obstacle hN (t212 - t212 / (σ 155 24) * (σ 155 24)) σ) ⟨rfl, rfl, rfl⟩ fun t215 => ?_
      refine i_if2 (pc' := 521) (nx := 519) c2_eq (f_at inc_136 (j := 251) rfl) ⟨by decide, rfl⟩ (fun b223 => ?_) (fun b223 => ?_)
      · refine i_aload_n (pc' := 522) (f_at inc_136 (j := 254) rfl) rfl rfl ?_
        refine i_iload (pc' := 524) (f_at inc_136 (j := 255) rfl) rfl rfl ?_
        refine c_pi (pc' := 527) (c' := 1) (n' := 6) (h_virt (ra := [.int (t212 - t212 / (σ 155 24) * (σ 155 24)), .ref 155]) (r := []) (as := [.int (t212 - t212 / (σ 155 24) * (σ 155 24))]) (f_at inc_136 (j := 256) rfl) (by decide) MT_72 rfl rfl rfl ⟨Nat.le_of_ble_eq_true rfl, Nat.le_of_ble_eq_true rfl, Nat.le_of_ble_eq_true rfl⟩ sh_155 (f_lt (o := 155) (m := 181) (Nat.le_of_ble_eq_true rfl) hN)) MT_72 (L_obstacle hN (t212 - t212 / (σ 155 24) * (σ 155 24)) σ) ⟨rfl, rfl, rfl⟩ fun t216 => ?_
        refine i_if0 (pc' := 542) (nx := 530) c0_le (f_at inc_136 (j := 257) rfl) ⟨by decide, rfl⟩ (fun b222 => ?_) (fun b222 => ?_)
        · refine i_aload_n (pc' := 543) (f_at inc_136 (j := 267) rfl) rfl rfl ?_
          refine i_iload (pc' := 545) (f_at inc_136 (j := 268) rfl) rfl rfl ?_
          refine c_wi (pc' := 548) (c' := 1) (n' := 6) (h_virt (ra := [.int (t212 - t212 / (σ 155 24) * (σ 155 24)), .ref 155]) (r := []) (as := [.int (t212 - t212 / (σ 155 24) * (σ 155 24))]) (f_at inc_136 (j := 269) rfl) (by decide) MT_133 rfl rfl rfl ⟨Nat.le_of_ble_eq_true rfl, Nat.le_of_ble_eq_true rfl, Nat.le_of_ble_eq_true rfl⟩ sh_155 (f_lt (o := 155) (m := 181) (Nat.le_of_ble_eq_true rfl) hN)) MT_133 (L_files hN (t212 - t212 / (σ 155 24) * (σ 155 24)) σ) ⟨rfl, rfl, rfl⟩ fun t217 => ?_
          refine i_istore (pc' := 550) (ls' := [.ref 155, .ref 0, .int a2, .int a3, .int (t1 - t1 / (σ 155 22) * (σ 155 22)), .int (t212 - t212 / (σ 155 24) * (σ 155 24)), .int t217.1, a_dead, a_dead, a_dead, a_dead, a_dead]) (f_at inc_136 (j := 270) rfl) (Nat.le_of_ble_eq_true rfl) rfl rfl ?_
          refine i_aload_n (pc' := 551) (f_at inc_136 (j := 271) rfl) rfl rfl ?_
          refine i_iload (pc' := 553) (f_at inc_136 (j := 272) rfl) rfl rfl ?_
          refine c_wi (pc' := 556) (c' := 0) (n' := 0) (h_virt (ra := [.int (t212 - t212 / (σ 155 24) * (σ 155 24)), .ref 0]) (r := []) (as := [.int (t212 - t212 / (σ 155 24) * (σ 155 24))]) (f_at inc_136 (j := 273) rfl) (by decide) MT_122 rfl rfl rfl ⟨Nat.le_of_ble_eq_true rfl, Nat.le_of_ble_eq_true rfl, Nat.le_of_ble_eq_true rfl⟩ sh_0 (f_lt (o := 0) (m := 181) (Nat.le_of_ble_eq_true rfl) hN)) MT_122 (f_cal_nt (P_331 (Nat.le_trans (Nat.le_of_ble_eq_true rfl) hN) (t212 - t212 / (σ 155 24) * (σ 155 24)) t217.2)) ⟨rfl, rfl, rfl⟩ fun t218 => ?_
          refine i_iload (pc' := 558) (f_at inc_136 (j := 274) rfl) rfl rfl ?_
          refine s_join (J := 566) (fun (t219 : Bool) (u219 : Unit) => [.ref 155, .ref 0, .int a2, .int a3, .int (t1 - t1 / (σ 155 22) * (σ 155 22)), .int (t212 - t212 / (σ 155 24) * (σ 155 24)), .int t217.1, a_dead, a_dead, a_dead, a_dead, a_dead]) (fun t219 => [.int (f_b t219)]) (fun t219 => t218.2) ?_ ?_
          · intro t219 u219
            exact i_iret (v := f_b t219) (f_at inc_136 (j := 279) rfl) rfl n_bool
          · intro k219 hj219
            refine i_if2 (pc' := 565) (nx := 561) c2_ne (f_at inc_136 (j := 275) rfl) ⟨by decide, rfl⟩ (fun b220 => ?_) (fun b220 => ?_)
            · refine i_iconst (pc' := 566) (f_at inc_136 (j := 278) rfl) ci_0 rfl ?_
              exact hj219 false ()
            · refine i_iconst (pc' := 562) (f_at inc_136 (j := 276) rfl) ci_1 rfl ?_
              refine i_goto (pc' := 566) (f_at inc_136 (j := 277) rfl) (by decide) ?_
              exact hj219 true ()
        · refine i_aload_n (pc' := 531) (f_at inc_136 (j := 258) rfl) rfl rfl ?_
          refine i_iconst (pc' := 532) (f_at inc_136 (j := 259) rfl) ci_0 rfl ?_
          refine i_iload (pc' := 534) (f_at inc_136 (j := 260) rfl) rfl rfl ?_
          refine i_iconst (pc' := 535) (f_at inc_136 (j := 261) rfl) ci_0 rfl ?_
          refine i_iconst (pc' := 536) (f_at inc_136 (j := 262) rfl) ci_0 rfl ?_
          refine i_iconst (pc' := 537) (f_at inc_136 (j := 263) rfl) ci_0 rfl ?_
          refine i_iconst (pc' := 538) (f_at inc_136 (j := 264) rfl) ci_0 rfl ?_
          refine c_wb (pc' := 541) (c' := 0) (n' := 0) (h_stat (ra := [.int (0 : Int32), .int (0 : Int32), .int (0 : Int32), .int (0 : Int32), .int (t212 - t212 / (σ 155 24) * (σ 155 24)), .int (0 : Int32), .ref 0]) (r := []) (as := [.ref 0, .int (0 : Int32), .int (t212 - t212 / (σ 155 24) * (σ 155 24)), .int (0 : Int32), .int (0 : Int32), .int (0 : Int32), .int (0 : Int32)]) (f_at inc_136 (j := 265) rfl) (by decide) MT_132 rfl rfl rfl ⟨Nat.le_of_ble_eq_true rfl, Nat.le_of_ble_eq_true rfl, Nat.le_of_ble_eq_true rfl⟩) MT_132 (L_isRefused hN (0 : Int32) (t212 - t212 / (σ 155 24) * (σ 155 24)) (0 : Int32) (0 : Int32) (0 : Int32) (0 : Int32) σ) ⟨rfl, rfl, rfl⟩ fun t221 => ?_
          exact i_iret (v := f_b t221.1) (f_at inc_136 (j := 266) rfl) rfl n_bool
      · refine i_iconst (pc' := 520) (f_at inc_136 (j := 252) rfl) ci_0 rfl ?_
        exact i_iret (v := f_b false) (f_at inc_136 (j := 253) rfl) rfl n_bool
    · refine i_aload_n (pc' := 478) (f_at inc_136 (j := 230) rfl) rfl rfl ?_
      refine c_pi (pc' := 481) (c' := 1) (n' := 6) (h_virt (ra := [.ref 0]) (r := []) (as := []) (f_at inc_136 (j := 231) rfl) (by decide) MT_44 rfl rfl rfl ⟨Nat.le_of_ble_eq_true rfl, Nat.le_of_ble_eq_true rfl, Nat.le_of_ble_eq_true rfl⟩ sh_0 (f_lt (o := 0) (m := 181) (Nat.le_of_ble_eq_true rfl) hN)) MT_44 (G_194 (Nat.le_trans (Nat.le_of_ble_eq_true rfl) hN)  σ) ⟨rfl, rfl, rfl⟩ fun t224 => ?_
      refine s_join (J := 489) (fun (t225 : Bool) (u225 : Unit) => [.ref 155, .ref 0, .int a2, .int a3, .int (t1 - t1 / (σ 155 22) * (σ 155 22)), a_dead, a_dead, a_dead, a_dead, a_dead, a_dead, a_dead]) (fun t225 => [.int (f_b t225)]) (fun t225 => σ) ?_ ?_
      · intro t225 u225
        exact i_iret (v := f_b t225) (f_at inc_136 (j := 236) rfl) rfl n_bool
      · intro k225 hj225
        refine i_if0 (pc' := 488) (nx := 484) c0_ne (f_at inc_136 (j := 232) rfl) ⟨by decide, rfl⟩ (fun b226 => ?_) (fun b226 => ?_)
        · refine i_iconst (pc' := 489) (f_at inc_136 (j := 235) rfl) ci_0 rfl ?_
          exact hj225 false ()
        · refine i_iconst (pc' := 485) (f_at inc_136 (j := 233) rfl) ci_1 rfl ?_
          refine i_goto (pc' := 489) (f_at inc_136 (j := 234) rfl) (by decide) ?_
          exact hj225 true ()
  refine i_cas (fun b245 => ?_) (fun b245 => ?_)
  · refine i_sw (pc' := 470) (v := (13 : Int32)) (f_at inc_136 (j := 12) rfl) b245 ⟨by decide, rfl⟩ (by decide) ?_
    refine i_aload_n (pc' := 471) (f_at inc_136 (j := 227) rfl) rfl rfl ?_
    refine i_getI (pc' := 474) (f_at inc_136 (j := 228) rfl) sh_155 rfl (f_lt (o := 155) (m := 181) (Nat.le_of_ble_eq_true rfl) hN) rfl ?_
    refine i_if0 (pc' := 490) (nx := 477) c0_ne (f_at inc_136 (j := 229) rfl) ⟨by decide, rfl⟩ (fun b244 => ?_) (fun b244 => ?_)
    · refine i_iload_n (pc' := 491) (f_at inc_136 (j := 237) rfl) rfl rfl ?_
      refine i_bipush (pc' := 493) (f_at inc_136 (j := 238) rfl) cb_8 rfl ?_
      refine i_iconst (pc' := 494) (f_at inc_136 (j := 239) rfl) ci_5 rfl ?_
      refine c_pi (pc' := 497) (c' := 1) (n' := 6) (h_stat (ra := [.int (5 : Int32), .int (8 : Int32), .int a2]) (r := []) (as := [.int a2, .int (8 : Int32), .int (5 : Int32)]) (f_at inc_136 (j := 240) rfl) (by decide) MT_37 rfl rfl rfl ⟨Nat.le_of_ble_eq_true rfl, Nat.le_of_ble_eq_true rfl, Nat.le_of_ble_eq_true rfl⟩) MT_37 (L_bits hN a2 (8 : Int32) (5 : Int32) σ) ⟨rfl, rfl, rfl⟩ fun t229 => ?_
      refine i_aload_n (pc' := 498) (f_at inc_136 (j := 241) rfl) rfl rfl ?_
      refine i_getI (pc' := 501) (f_at inc_136 (j := 242) rfl) sh_155 rfl (f_lt (o := 155) (m := 181) (Nat.le_of_ble_eq_true rfl) hN) rfl ?_
      refine i_grn fun h230 => ?_
      refine i_irem (pc' := 502) (f_at inc_136 (j := 243) rfl) h230 rfl ?_
      refine i_istore (pc' := 504) (ls' := [.ref 155, .ref 0, .int a2, .int a3, .int (t1 - t1 / (σ 155 22) * (σ 155 22)), .int (t229 - t229 / (σ 155 24) * (σ 155 24)), a_dead, a_dead, a_dead, a_dead, a_dead, a_dead]) (f_at inc_136 (j := 244) rfl) (Nat.le_of_ble_eq_true rfl) rfl rfl ?_
      refine i_aload_n (pc' := 505) (f_at inc_136 (j := 245) rfl) rfl rfl ?_
      refine i_iload (pc' := 507) (f_at inc_136 (j := 246) rfl) rfl rfl ?_
      refine c_pi (pc' := 510) (c' := 1) (n' := 6) (h_virt (ra := [.int (t229 - t229 / (σ 155 24) * (σ 155 24)), .ref 0]) (r := []) (as := [.int (t229 - t229 / (σ 155 24) * (σ 155 24))]) (f_at inc_136 (j := 247) rfl) (by decide) MT_71 rfl rfl rfl ⟨Nat.le_of_ble_eq_true rfl, Nat.le_of_ble_eq_true rfl, Nat.le_of_ble_eq_true rfl⟩ sh_0 (f_lt (o := 0) (m := 181) (Nat.le_of_ble_eq_true rfl) hN)) MT_71 (P_225 (Nat.le_trans (Nat.le_of_ble_eq_true rfl) hN) (t229 - t229 / (σ 155 24) * (σ 155 24)) σ) ⟨rfl, rfl, rfl⟩ fun t231 => ?_
      refine i_aload_n (pc' := 511) (f_at inc_136 (j := 248) rfl) rfl rfl ?_
      refine i_iload (pc' := 513) (f_at inc_136 (j := 249) rfl) rfl rfl ?_
      refine c_pi (pc' := 516) (c' := 1) (n' := 6) (h_virt (ra := [.int (t229 - t229 / (σ 155 24) * (σ 155 24)), .ref 155]) (r := [.int t231]) (as := [.int (t229 - t229 / (σ 155 24) * (σ 155 24))]) (f_at inc_136 (j := 250) rfl) (by decide) MT_72 rfl rfl rfl ⟨Nat.le_of_ble_eq_true rfl, Nat.le_of_ble_eq_true rfl, Nat.le_of_ble_eq_true rfl⟩ sh_155 (f_lt (o := 155) (m := 181) (Nat.le_of_ble_eq_true rfl) hN)) MT_72 (L_obstacle hN (t229 - t229 / (σ 155 24) * (σ 155 24)) σ) ⟨rfl, rfl, rfl⟩ fun t232 => ?_
      refine i_if2 (pc' := 521) (nx := 519) c2_eq (f_at inc_136 (j := 251) rfl) ⟨by decide, rfl⟩ (fun b240 => ?_) (fun b240 => ?_)
      · refine i_aload_n (pc' := 522) (f_at inc_136 (j := 254) rfl) rfl rfl ?_
        refine i_iload (pc' := 524) (f_at inc_136 (j := 255) rfl) rfl rfl ?_
        refine c_pi (pc' := 527) (c' := 1) (n' := 6) (h_virt (ra := [.int (t229 - t229 / (σ 155 24) * (σ 155 24)), .ref 155]) (r := []) (as := [.int (t229 - t229 / (σ 155 24) * (σ 155 24))]) (f_at inc_136 (j := 256) rfl) (by decide) MT_72 rfl rfl rfl ⟨Nat.le_of_ble_eq_true rfl, Nat.le_of_ble_eq_true rfl, Nat.le_of_ble_eq_true rfl⟩ sh_155 (f_lt (o := 155) (m := 181) (Nat.le_of_ble_eq_true rfl) hN)) MT_72 (L_obstacle hN (t229 - t229 / (σ 155 24) * (σ 155 24)) σ) ⟨rfl, rfl, rfl⟩ fun t233 => ?_
        refine i_if0 (pc' := 542) (nx := 530) c0_le (f_at inc_136 (j := 257) rfl) ⟨by decide, rfl⟩ (fun b239 => ?_) (fun b239 => ?_)
        · refine i_aload_n (pc' := 543) (f_at inc_136 (j := 267) rfl) rfl rfl ?_
          refine i_iload (pc' := 545) (f_at inc_136 (j := 268) rfl) rfl rfl ?_
          refine c_wi (pc' := 548) (c' := 1) (n' := 6) (h_virt (ra := [.int (t229 - t229 / (σ 155 24) * (σ 155 24)), .ref 155]) (r := []) (as := [.int (t229 - t229 / (σ 155 24) * (σ 155 24))]) (f_at inc_136 (j := 269) rfl) (by decide) MT_133 rfl rfl rfl ⟨Nat.le_of_ble_eq_true rfl, Nat.le_of_ble_eq_true rfl, Nat.le_of_ble_eq_true rfl⟩ sh_155 (f_lt (o := 155) (m := 181) (Nat.le_of_ble_eq_true rfl) hN)) MT_133 (L_files hN (t229 - t229 / (σ 155 24) * (σ 155 24)) σ) ⟨rfl, rfl, rfl⟩ fun t234 => ?_
          refine i_istore (pc' := 550) (ls' := [.ref 155, .ref 0, .int a2, .int a3, .int (t1 - t1 / (σ 155 22) * (σ 155 22)), .int (t229 - t229 / (σ 155 24) * (σ 155 24)), .int t234.1, a_dead, a_dead, a_dead, a_dead, a_dead]) (f_at inc_136 (j := 270) rfl) (Nat.le_of_ble_eq_true rfl) rfl rfl ?_
          refine i_aload_n (pc' := 551) (f_at inc_136 (j := 271) rfl) rfl rfl ?_
          refine i_iload (pc' := 553) (f_at inc_136 (j := 272) rfl) rfl rfl ?_
          refine c_wi (pc' := 556) (c' := 0) (n' := 0) (h_virt (ra := [.int (t229 - t229 / (σ 155 24) * (σ 155 24)), .ref 0]) (r := []) (as := [.int (t229 - t229 / (σ 155 24) * (σ 155 24))]) (f_at inc_136 (j := 273) rfl) (by decide) MT_122 rfl rfl rfl ⟨Nat.le_of_ble_eq_true rfl, Nat.le_of_ble_eq_true rfl, Nat.le_of_ble_eq_true rfl⟩ sh_0 (f_lt (o := 0) (m := 181) (Nat.le_of_ble_eq_true rfl) hN)) MT_122 (f_cal_nt (P_331 (Nat.le_trans (Nat.le_of_ble_eq_true rfl) hN) (t229 - t229 / (σ 155 24) * (σ 155 24)) t234.2)) ⟨rfl, rfl, rfl⟩ fun t235 => ?_
          refine i_iload (pc' := 558) (f_at inc_136 (j := 274) rfl) rfl rfl ?_
          refine s_join (J := 566) (fun (t236 : Bool) (u236 : Unit) => [.ref 155, .ref 0, .int a2, .int a3, .int (t1 - t1 / (σ 155 22) * (σ 155 22)), .int (t229 - t229 / (σ 155 24) * (σ 155 24)), .int t234.1, a_dead, a_dead, a_dead, a_dead, a_dead]) (fun t236 => [.int (f_b t236)]) (fun t236 => t235.2) ?_ ?_
          · intro t236 u236
            exact i_iret (v := f_b t236) (f_at inc_136 (j := 279) rfl) rfl n_bool
          · intro k236 hj236
            refine i_if2 (pc' := 565) (nx := 561) c2_ne (f_at inc_136 (j := 275) rfl) ⟨by decide, rfl⟩ (fun b237 => ?_) (fun b237 => ?_)
            · refine i_iconst (pc' := 566) (f_at inc_136 (j := 278) rfl) ci_0 rfl ?_
              exact hj236 false ()
            · refine i_iconst (pc' := 562) (f_at inc_136 (j := 276) rfl) ci_1 rfl ?_
              refine i_goto (pc' := 566) (f_at inc_136 (j := 277) rfl) (by decide) ?_
              exact hj236 true ()
        · refine i_aload_n (pc' := 531) (f_at inc_136 (j := 258) rfl) rfl rfl ?_
          refine i_iconst (pc' := 532) (f_at inc_136 (j := 259) rfl) ci_0 rfl ?_
          refine i_iload (pc' := 534) (f_at inc_136 (j := 260) rfl) rfl rfl ?_
          refine i_iconst (pc' := 535) (f_at inc_136 (j := 261) rfl) ci_0 rfl ?_
          refine i_iconst (pc' := 536) (f_at inc_136 (j := 262) rfl) ci_0 rfl ?_
          refine i_iconst (pc' := 537) (f_at inc_136 (j := 263) rfl) ci_0 rfl ?_
          refine i_iconst (pc' := 538) (f_at inc_136 (j := 264) rfl) ci_0 rfl ?_
          refine c_wb (pc' := 541) (c' := 0) (n' := 0) (h_stat (ra := [.int (0 : Int32), .int (0 : Int32), .int (0 : Int32), .int (0 : Int32), .int (t229 - t229 / (σ 155 24) * (σ 155 24)), .int (0 : Int32), .ref 0]) (r := []) (as := [.ref 0, .int (0 : Int32), .int (t229 - t229 / (σ 155 24) * (σ 155 24)), .int (0 : Int32), .int (0 : Int32), .int (0 : Int32), .int (0 : Int32)]) (f_at inc_136 (j := 265) rfl) (by decide) MT_132 rfl rfl rfl ⟨Nat.le_of_ble_eq_true rfl, Nat.le_of_ble_eq_true rfl, Nat.le_of_ble_eq_true rfl⟩) MT_132 (L_isRefused hN (0 : Int32) (t229 - t229 / (σ 155 24) * (σ 155 24)) (0 : Int32) (0 : Int32) (0 : Int32) (0 : Int32) σ) ⟨rfl, rfl, rfl⟩ fun t238 => ?_
          exact i_iret (v := f_b t238.1) (f_at inc_136 (j := 266) rfl) rfl n_bool
      · refine i_iconst (pc' := 520) (f_at inc_136 (j := 252) rfl) ci_0 rfl ?_
        exact i_iret (v := f_b false) (f_at inc_136 (j := 253) rfl) rfl n_bool
    · refine i_aload_n (pc' := 478) (f_at inc_136 (j := 230) rfl) rfl rfl ?_
      refine c_pi (pc' := 481) (c' := 1) (n' := 6) (h_virt (ra := [.ref 0]) (r := []) (as := []) (f_at inc_136 (j := 231) rfl) (by decide) MT_44 rfl rfl rfl ⟨Nat.le_of_ble_eq_true rfl, Nat.le_of_ble_eq_true rfl, Nat.le_of_ble_eq_true rfl⟩ sh_0 (f_lt (o := 0) (m := 181) (Nat.le_of_ble_eq_true rfl) hN)) MT_44 (G_194 (Nat.le_trans (Nat.le_of_ble_eq_true rfl) hN)  σ) ⟨rfl, rfl, rfl⟩ fun t241 => ?_
      refine s_join (J := 489) (fun (t242 : Bool) (u242 : Unit) => [.ref 155, .ref 0, .int a2, .int a3, .int (t1 - t1 / (σ 155 22) * (σ 155 22)), a_dead, a_dead, a_dead, a_dead, a_dead, a_dead, a_dead]) (fun t242 => [.int (f_b t242)]) (fun t242 => σ) ?_ ?_
      · intro t242 u242
        exact i_iret (v := f_b t242) (f_at inc_136 (j := 236) rfl) rfl n_bool
      · intro k242 hj242
        refine i_if0 (pc' := 488) (nx := 484) c0_ne (f_at inc_136 (j := 232) rfl) ⟨by decide, rfl⟩ (fun b243 => ?_) (fun b243 => ?_)
        · refine i_iconst (pc' := 489) (f_at inc_136 (j := 235) rfl) ci_0 rfl ?_
          exact hj242 false ()
        · refine i_iconst (pc' := 485) (f_at inc_136 (j := 233) rfl) ci_1 rfl ?_
          refine i_goto (pc' := 489) (f_at inc_136 (j := 234) rfl) (by decide) ?_
          exact hj242 true ()
  refine i_cas (fun b262 => ?_) (fun b262 => ?_)
  · refine i_sw (pc' := 470) (v := (14 : Int32)) (f_at inc_136 (j := 12) rfl) b262 ⟨by decide, rfl⟩ (by decide) ?_
    refine i_aload_n (pc' := 471) (f_at inc_136 (j := 227) rfl) rfl rfl ?_
    refine i_getI (pc' := 474) (f_at inc_136 (j := 228) rfl) sh_155 rfl (f_lt (o := 155) (m := 181) (Nat.le_of_ble_eq_true rfl) hN) rfl ?_
    refine i_if0 (pc' := 490) (nx := 477) c0_ne (f_at inc_136 (j := 229) rfl) ⟨by decide, rfl⟩ (fun b261 => ?_) (fun b261 => ?_)
    · refine i_iload_n (pc' := 491) (f_at inc_136 (j := 237) rfl) rfl rfl ?_
      refine i_bipush (pc' := 493) (f_at inc_136 (j := 238) rfl) cb_8 rfl ?_
      refine i_iconst (pc' := 494) (f_at inc_136 (j := 239) rfl) ci_5 rfl ?_
      refine c_pi (pc' := 497) (c' := 1) (n' := 6) (h_stat (ra := [.int (5 : Int32), .int (8 : Int32), .int a2]) (r := []) (as := [.int a2, .int (8 : Int32), .int (5 : Int32)]) (f_at inc_136 (j := 240) rfl) (by decide) MT_37 rfl rfl rfl ⟨Nat.le_of_ble_eq_true rfl, Nat.le_of_ble_eq_true rfl, Nat.le_of_ble_eq_true rfl⟩) MT_37 (L_bits hN a2 (8 : Int32) (5 : Int32) σ) ⟨rfl, rfl, rfl⟩ fun t246 => ?_
      refine i_aload_n (pc' := 498) (f_at inc_136 (j := 241) rfl) rfl rfl ?_
      refine i_getI (pc' := 501) (f_at inc_136 (j := 242) rfl) sh_155 rfl (f_lt (o := 155) (m := 181) (Nat.le_of_ble_eq_true rfl) hN) rfl ?_
      refine i_grn fun h247 => ?_
      refine i_irem (pc' := 502) (f_at inc_136 (j := 243) rfl) h247 rfl ?_
      refine i_istore (pc' := 504) (ls' := [.ref 155, .ref 0, .int a2, .int a3, .int (t1 - t1 / (σ 155 22) * (σ 155 22)), .int (t246 - t246 / (σ 155 24) * (σ 155 24)), a_dead, a_dead, a_dead, a_dead, a_dead, a_dead]) (f_at inc_136 (j := 244) rfl) (Nat.le_of_ble_eq_true rfl) rfl rfl ?_
      refine i_aload_n (pc' := 505) (f_at inc_136 (j := 245) rfl) rfl rfl ?_
      refine i_iload (pc' := 507) (f_at inc_136 (j := 246) rfl) rfl rfl ?_
      refine c_pi (pc' := 510) (c' := 1) (n' := 6) (h_virt (ra := [.int (t246 - t246 / (σ 155 24) * (σ 155 24)), .ref 0]) (r := []) (as := [.int (t246 - t246 / (σ 155 24) * (σ 155 24))]) (f_at inc_136 (j := 247) rfl) (by decide) MT_71 rfl rfl rfl ⟨Nat.le_of_ble_eq_true rfl, Nat.le_of_ble_eq_true rfl, Nat.le_of_ble_eq_true rfl⟩ sh_0 (f_lt (o := 0) (m := 181) (Nat.le_of_ble_eq_true rfl) hN)) MT_71 (P_225 (Nat.le_trans (Nat.le_of_ble_eq_true rfl) hN) (t246 - t246 / (σ 155 24) * (σ 155 24)) σ) ⟨rfl, rfl, rfl⟩ fun t248 => ?_
      refine i_aload_n (pc' := 511) (f_at inc_136 (j := 248) rfl) rfl rfl ?_
      refine i_iload (pc' := 513) (f_at inc_136 (j := 249) rfl) rfl rfl ?_
      refine c_pi (pc' := 516) (c' := 1) (n' := 6) (h_virt (ra := [.int (t246 - t246 / (σ 155 24) * (σ 155 24)), .ref 155]) (r := [.int t248]) (as := [.int (t246 - t246 / (σ 155 24) * (σ 155 24))]) (f_at inc_136 (j := 250) rfl) (by decide) MT_72 rfl rfl rfl ⟨Nat.le_of_ble_eq_true rfl, Nat.le_of_ble_eq_true rfl, Nat.le_of_ble_eq_true rfl⟩ sh_155 (f_lt (o := 155) (m := 181) (Nat.le_of_ble_eq_true rfl) hN)) MT_72 (L_obstacle hN (t246 - t246 / (σ 155 24) * (σ 155 24)) σ) ⟨rfl, rfl, rfl⟩ fun t249 => ?_
      refine i_if2 (pc' := 521) (nx := 519) c2_eq (f_at inc_136 (j := 251) rfl) ⟨by decide, rfl⟩ (fun b257 => ?_) (fun b257 => ?_)
      · refine i_aload_n (pc' := 522) (f_at inc_136 (j := 254) rfl) rfl rfl ?_
        refine i_iload (pc' := 524) (f_at inc_136 (j := 255) rfl) rfl rfl ?_
        refine c_pi (pc' := 527) (c' := 1) (n' := 6) (h_virt (ra := [.int (t246 - t246 / (σ 155 24) * (σ 155 24)), .ref 155]) (r := []) (as := [.int (t246 - t246 / (σ 155 24) * (σ 155 24))]) (f_at inc_136 (j := 256) rfl) (by decide) MT_72 rfl rfl rfl ⟨Nat.le_of_ble_eq_true rfl, Nat.le_of_ble_eq_true rfl, Nat.le_of_ble_eq_true rfl⟩ sh_155 (f_lt (o := 155) (m := 181) (Nat.le_of_ble_eq_true rfl) hN)) MT_72 (L_obstacle hN (t246 - t246 / (σ 155 24) * (σ 155 24)) σ) ⟨rfl, rfl, rfl⟩ fun t250 => ?_
        refine i_if0 (pc' := 542) (nx := 530) c0_le (f_at inc_136 (j := 257) rfl) ⟨by decide, rfl⟩ (fun b256 => ?_) (fun b256 => ?_)
        · refine i_aload_n (pc' := 543) (f_at inc_136 (j := 267) rfl) rfl rfl ?_
          refine i_iload (pc' := 545) (f_at inc_136 (j := 268) rfl) rfl rfl ?_
          refine c_wi (pc' := 548) (c' := 1) (n' := 6) (h_virt (ra := [.int (t246 - t246 / (σ 155 24) * (σ 155 24)), .ref 155]) (r := []) (as := [.int (t246 - t246 / (σ 155 24) * (σ 155 24))]) (f_at inc_136 (j := 269) rfl) (by decide) MT_133 rfl rfl rfl ⟨Nat.le_of_ble_eq_true rfl, Nat.le_of_ble_eq_true rfl, Nat.le_of_ble_eq_true rfl⟩ sh_155 (f_lt (o := 155) (m := 181) (Nat.le_of_ble_eq_true rfl) hN)) MT_133 (L_files hN (t246 - t246 / (σ 155 24) * (σ 155 24)) σ) ⟨rfl, rfl, rfl⟩ fun t251 => ?_
          refine i_istore (pc' := 550) (ls' := [.ref 155, .ref 0, .int a2, .int a3, .int (t1 - t1 / (σ 155 22) * (σ 155 22)), .int (t246 - t246 / (σ 155 24) * (σ 155 24)), .int t251.1, a_dead, a_dead, a_dead, a_dead, a_dead]) (f_at inc_136 (j := 270) rfl) (Nat.le_of_ble_eq_true rfl) rfl rfl ?_
          refine i_aload_n (pc' := 551) (f_at inc_136 (j := 271) rfl) rfl rfl ?_
          refine i_iload (pc' := 553) (f_at inc_136 (j := 272) rfl) rfl rfl ?_
          refine c_wi (pc' := 556) (c' := 0) (n' := 0) (h_virt (ra := [.int (t246 - t246 / (σ 155 24) * (σ 155 24)), .ref 0]) (r := []) (as := [.int (t246 - t246 / (σ 155 24) * (σ 155 24))]) (f_at inc_136 (j := 273) rfl) (by decide) MT_122 rfl rfl rfl ⟨Nat.le_of_ble_eq_true rfl, Nat.le_of_ble_eq_true rfl, Nat.le_of_ble_eq_true rfl⟩ sh_0 (f_lt (o := 0) (m := 181) (Nat.le_of_ble_eq_true rfl) hN)) MT_122 (f_cal_nt (P_331 (Nat.le_trans (Nat.le_of_ble_eq_true rfl) hN) (t246 - t246 / (σ 155 24) * (σ 155 24)) t251.2)) ⟨rfl, rfl, rfl⟩ fun t252 => ?_
          refine i_iload (pc' := 558) (f_at inc_136 (j := 274) rfl) rfl rfl ?_
          refine s_join (J := 566) (fun (t253 : Bool) (u253 : Unit) => [.ref 155, .ref 0, .int a2, .int a3, .int (t1 - t1 / (σ 155 22) * (σ 155 22)), .int (t246 - t246 / (σ 155 24) * (σ 155 24)), .int t251.1, a_dead, a_dead, a_dead, a_dead, a_dead]) (fun t253 => [.int (f_b t253)]) (fun t253 => t252.2) ?_ ?_
          · intro t253 u253
            exact i_iret (v := f_b t253) (f_at inc_136 (j := 279) rfl) rfl n_bool
          · intro k253 hj253
            refine i_if2 (pc' := 565) (nx := 561) c2_ne (f_at inc_136 (j := 275) rfl) ⟨by decide, rfl⟩ (fun b254 => ?_) (fun b254 => ?_)
            · refine i_iconst (pc' := 566) (f_at inc_136 (j := 278) rfl) ci_0 rfl ?_
              exact hj253 false ()
            · refine i_iconst (pc' := 562) (f_at inc_136 (j := 276) rfl) ci_1 rfl ?_
              refine i_goto (pc' := 566) (f_at inc_136 (j := 277) rfl) (by decide) ?_
              exact hj253 true ()
        · refine i_aload_n (pc' := 531) (f_at inc_136 (j := 258) rfl) rfl rfl ?_
          refine i_iconst (pc' := 532) (f_at inc_136 (j := 259) rfl) ci_0 rfl ?_
          refine i_iload (pc' := 534) (f_at inc_136 (j := 260) rfl) rfl rfl ?_
          refine i_iconst (pc' := 535) (f_at inc_136 (j := 261) rfl) ci_0 rfl ?_
          refine i_iconst (pc' := 536) (f_at inc_136 (j := 262) rfl) ci_0 rfl ?_
          refine i_iconst (pc' := 537) (f_at inc_136 (j := 263) rfl) ci_0 rfl ?_
          refine i_iconst (pc' := 538) (f_at inc_136 (j := 264) rfl) ci_0 rfl ?_
          refine c_wb (pc' := 541) (c' := 0) (n' := 0) (h_stat (ra := [.int (0 : Int32), .int (0 : Int32), .int (0 : Int32), .int (0 : Int32), .int (t246 - t246 / (σ 155 24) * (σ 155 24)), .int (0 : Int32), .ref 0]) (r := []) (as := [.ref 0, .int (0 : Int32), .int (t246 - t246 / (σ 155 24) * (σ 155 24)), .int (0 : Int32), .int (0 : Int32), .int (0 : Int32), .int (0 : Int32)]) (f_at inc_136 (j := 265) rfl) (by decide) MT_132 rfl rfl rfl ⟨Nat.le_of_ble_eq_true rfl, Nat.le_of_ble_eq_true rfl, Nat.le_of_ble_eq_true rfl⟩) MT_132 (L_isRefused hN (0 : Int32) (t246 - t246 / (σ 155 24) * (σ 155 24)) (0 : Int32) (0 : Int32) (0 : Int32) (0 : Int32) σ) ⟨rfl, rfl, rfl⟩ fun t255 => ?_
          exact i_iret (v := f_b t255.1) (f_at inc_136 (j := 266) rfl) rfl n_bool
      · refine i_iconst (pc' := 520) (f_at inc_136 (j := 252) rfl) ci_0 rfl ?_
        exact i_iret (v := f_b false) (f_at inc_136 (j := 253) rfl) rfl n_bool
    · refine i_aload_n (pc' := 478) (f_at inc_136 (j := 230) rfl) rfl rfl ?_
      refine c_pi (pc' := 481) (c' := 1) (n' := 6) (h_virt (ra := [.ref 0]) (r := []) (as := []) (f_at inc_136 (j := 231) rfl) (by decide) MT_44 rfl rfl rfl ⟨Nat.le_of_ble_eq_true rfl, Nat.le_of_ble_eq_true rfl, Nat.le_of_ble_eq_true rfl⟩ sh_0 (f_lt (o := 0) (m := 181) (Nat.le_of_ble_eq_true rfl) hN)) MT_44 (G_194 (Nat.le_trans (Nat.le_of_ble_eq_true rfl) hN)  σ) ⟨rfl, rfl, rfl⟩ fun t258 => ?_
      refine s_join (J := 489) (fun (t259 : Bool) (u259 : Unit) => [.ref 155, .ref 0, .int a2, .int a3, .int (t1 - t1 / (σ 155 22) * (σ 155 22)), a_dead, a_dead, a_dead, a_dead, a_dead, a_dead, a_dead]) (fun t259 => [.int (f_b t259)]) (fun t259 => σ) ?_ ?_
      · intro t259 u259
        exact i_iret (v := f_b t259) (f_at inc_136 (j := 236) rfl) rfl n_bool
      · intro k259 hj259
        refine i_if0 (pc' := 488) (nx := 484) c0_ne (f_at inc_136 (j := 232) rfl) ⟨by decide, rfl⟩ (fun b260 => ?_) (fun b260 => ?_)
        · refine i_iconst (pc' := 489) (f_at inc_136 (j := 235) rfl) ci_0 rfl ?_
          exact hj259 false ()
        · refine i_iconst (pc' := 485) (f_at inc_136 (j := 233) rfl) ci_1 rfl ?_
          refine i_goto (pc' := 489) (f_at inc_136 (j := 234) rfl) (by decide) ?_
          exact hj259 true ()
  refine i_swd (pc' := 567) (f_at inc_136 (j := 12) rfl) (sw_out 15 (sw_s 14 (sw_s 13 (sw_s 12 (sw_s 11 (sw_s 10 (sw_s 9 (sw_s 8 (sw_s 7 (sw_s 6 (sw_s 5 (sw_s 4 (sw_s 3 (sw_s 2 (sw_s 1 (sw_s 0 (fun j hj => absurd hj (Nat.not_lt_zero j)) b12) b21) b30) b39) b48) b57) b66) b98) b130) b162) b194) b211) b228) b245) b262)) (by decide) ?_
  refine i_iconst (pc' := 568) (f_at inc_136 (j := 280) rfl) ci_1 rfl ?_
  refine i_iload_n (pc' := 569) (f_at inc_136 (j := 281) rfl) rfl rfl ?_
  refine i_bipush (pc' := 571) (f_at inc_136 (j := 282) rfl) cb_8 rfl ?_
  refine i_iconst (pc' := 572) (f_at inc_136 (j := 283) rfl) ci_5 rfl ?_
  refine c_pi (pc' := 575) (c' := 1) (n' := 6) (h_stat (ra := [.int (5 : Int32), .int (8 : Int32), .int a2]) (r := [.int (1 : Int32)]) (as := [.int a2, .int (8 : Int32), .int (5 : Int32)]) (f_at inc_136 (j := 284) rfl) (by decide) MT_37 rfl rfl rfl ⟨Nat.le_of_ble_eq_true rfl, Nat.le_of_ble_eq_true rfl, Nat.le_of_ble_eq_true rfl⟩) MT_37 (L_bits hN a2 (8 : Int32) (5 : Int32) σ) ⟨rfl, rfl, rfl⟩ fun t263 => ?_
  refine i_iadd (pc' := 576) (f_at inc_136 (j := 285) rfl) rfl ?_
  refine i_istore (pc' := 578) (ls' := [.ref 155, .ref 0, .int a2, .int a3, .int (t1 - t1 / (σ 155 22) * (σ 155 22)), .int ((1 : Int32) + t263), a_dead, a_dead, a_dead, a_dead, a_dead, a_dead]) (f_at inc_136 (j := 286) rfl) (Nat.le_of_ble_eq_true rfl) rfl rfl ?_
  refine i_aload_n (pc' := 579) (f_at inc_136 (j := 287) rfl) rfl rfl ?_
  refine i_getR (pc' := 582) (f_at inc_136 (j := 288) rfl) sh_155 rfl (f_lt (o := 155) (m := 181) (Nat.le_of_ble_eq_true rfl) hN) rfl ?_
  refine i_iload (pc' := 584) (f_at inc_136 (j := 289) rfl) rfl rfl ?_
  refine i_dup2 (pc' := 585) (f_at inc_136 (j := 290) rfl) ⟨rfl, rfl⟩ rfl ?_
  refine i_iald (pc' := 586) (f_at inc_136 (j := 291) rfl) sh_156 (f_bg (Nat.le_of_ble_eq_true rfl)) (f_lt (o := 156) (m := 181) (Nat.le_of_ble_eq_true rfl) hN) rfl fun v264 => ?_
  refine i_iload (pc' := 588) (f_at inc_136 (j := 292) rfl) rfl rfl ?_
  refine i_iadd (pc' := 589) (f_at inc_136 (j := 293) rfl) rfl ?_
  refine i_iast (pc' := 590) (f_at inc_136 (j := 294) rfl) sh_156 (f_lt (o := 156) (m := 181) (Nat.le_of_ble_eq_true rfl) hN) rfl fun m265 => ?_
  refine i_aload_n (pc' := 591) (f_at inc_136 (j := 295) rfl) rfl rfl ?_
  refine i_dup (pc' := 592) (f_at inc_136 (j := 296) rfl) rfl rfl ?_
  refine i_getI (pc' := 595) (f_at inc_136 (j := 297) rfl) sh_155 rfl (f_lt (o := 155) (m := 181) (Nat.le_of_ble_eq_true rfl) hN) rfl ?_
  refine i_iload (pc' := 597) (f_at inc_136 (j := 298) rfl) rfl rfl ?_
  refine i_iadd (pc' := 598) (f_at inc_136 (j := 299) rfl) rfl ?_
  refine i_putI (pc' := 601) (f_at inc_136 (j := 300) rfl) sh_155 rfl ⟨rfl, rfl⟩ (f_lt (o := 155) (m := 181) (Nat.le_of_ble_eq_true rfl) hN) rfl ?_
  refine i_aload_n (pc' := 602) (f_at inc_136 (j := 301) rfl) rfl rfl ?_
  refine i_iload (pc' := 604) (f_at inc_136 (j := 302) rfl) rfl rfl ?_
  refine i_iload (pc' := 606) (f_at inc_136 (j := 303) rfl) rfl rfl ?_
  refine c_wi (pc' := 609) (c' := 1) (n' := 6) (h_virt (ra := [.int ((1 : Int32) + t263), .int (t1 - t1 / (σ 155 22) * (σ 155 22)), .ref 0]) (r := []) (as := [.int (t1 - t1 / (σ 155 22) * (σ 155 22)), .int ((1 : Int32) + t263)]) (f_at inc_136 (j := 304) rfl) (by decide) MT_135 rfl rfl rfl ⟨Nat.le_of_ble_eq_true rfl, Nat.le_of_ble_eq_true rfl, Nat.le_of_ble_eq_true rfl⟩ sh_0 (f_lt (o := 0) (m := 181) (Nat.le_of_ble_eq_true rfl) hN)) MT_135 (P_334 (Nat.le_trans (Nat.le_of_ble_eq_true rfl) hN) (t1 - t1 / (σ 155 22) * (σ 155 22)) ((1 : Int32) + t263) (f_up m265 155 30 ((m265 155 30) + ((1 : Int32) + t263)))) ⟨rfl, rfl, rfl⟩ fun t266 => ?_
  refine i_aload_n (pc' := 610) (f_at inc_136 (j := 305) rfl) rfl rfl ?_
  refine i_getR (pc' := 613) (f_at inc_136 (j := 306) rfl) sh_155 rfl (f_lt (o := 155) (m := 181) (Nat.le_of_ble_eq_true rfl) hN) rfl ?_
  refine i_iload (pc' := 615) (f_at inc_136 (j := 307) rfl) rfl rfl ?_
  refine i_iald (pc' := 616) (f_at inc_136 (j := 308) rfl) sh_156 (f_bg (Nat.le_of_ble_eq_true rfl)) (f_lt (o := 156) (m := 181) (Nat.le_of_ble_eq_true rfl) hN) rfl fun v267 => ?_
  refine s_join (J := 624) (fun (t268 : Bool) (u268 : Unit) => [.ref 155, .ref 0, .int a2, .int a3, .int (t1 - t1 / (σ 155 22) * (σ 155 22)), .int ((1 : Int32) + t263), a_dead, a_dead, a_dead, a_dead, a_dead, a_dead]) (fun t268 => [.int (f_b t268)]) (fun t268 => t266.2) ?_ ?_
  · intro t268 u268
    exact i_iret (v := f_b t268) (f_at inc_136 (j := 313) rfl) rfl n_bool
  · intro k268 hj268
    refine i_if2 (pc' := 623) (nx := 619) c2_ne (f_at inc_136 (j := 309) rfl) ⟨by decide, rfl⟩ (fun b269 => ?_) (fun b269 => ?_)
    · refine i_iconst (pc' := 624) (f_at inc_136 (j := 312) rfl) ci_0 rfl ?_
      exact hj268 false ()
    · refine i_iconst (pc' := 620) (f_at inc_136 (j := 310) rfl) ci_1 rfl ?_
      refine i_goto (pc' := 624) (f_at inc_136 (j := 311) rfl) (by decide) ?_
      exact hj268 true ()
