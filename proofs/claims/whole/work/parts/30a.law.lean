/-! The law as a flat program. -/
set_option maxRecDepth 100000 in
def lw_0 (xs : Nat → Int32) (L : Nat) (i : Int32) (σ : f_M) : Option f_M :=
  (if (i + (1 : Int32)) < 0 ∨ L ≤ ((i + (1 : Int32))).toNatClampNeg then none else some (xs ((i + (1 : Int32))).toNatClampNeg)).bind fun v1 =>
  (if (i + (2 : Int32)) < 0 ∨ L ≤ ((i + (2 : Int32))).toNatClampNeg then none else some (xs ((i + (2 : Int32))).toNatClampNeg)).bind fun v2 =>
  (if (i + (3 : Int32)) < 0 ∨ L ≤ ((i + (3 : Int32))).toNatClampNeg then none else some (xs ((i + (3 : Int32))).toNatClampNeg)).bind fun v3 =>
  (if (i + (4 : Int32)) < 0 ∨ L ≤ ((i + (4 : Int32))).toNatClampNeg then none else some (xs ((i + (4 : Int32))).toNatClampNeg)).bind fun v4 =>
  (if (i + (5 : Int32)) < 0 ∨ L ≤ ((i + (5 : Int32))).toNatClampNeg then none else some (xs ((i + (5 : Int32))).toNatClampNeg)).bind fun v5 =>
  (g_42 v1 v2 v3 v4 v5 σ).bind fun t6 =>
  (if (i + (1 : Int32)) < 0 ∨ L ≤ ((i + (1 : Int32))).toNatClampNeg then none else some (xs ((i + (1 : Int32))).toNatClampNeg)).bind fun v7 =>
  (if (i + (2 : Int32)) < 0 ∨ L ≤ ((i + (2 : Int32))).toNatClampNeg then none else some (xs ((i + (2 : Int32))).toNatClampNeg)).bind fun v8 =>
  (if (i + (3 : Int32)) < 0 ∨ L ≤ ((i + (3 : Int32))).toNatClampNeg then none else some (xs ((i + (3 : Int32))).toNatClampNeg)).bind fun v9 =>
  (if (i + (4 : Int32)) < 0 ∨ L ≤ ((i + (4 : Int32))).toNatClampNeg then none else some (xs ((i + (4 : Int32))).toNatClampNeg)).bind fun v10 =>
  (if (i + (5 : Int32)) < 0 ∨ L ≤ ((i + (5 : Int32))).toNatClampNeg then none else some (xs ((i + (5 : Int32))).toNatClampNeg)).bind fun v11 =>
  (g_44 v7 v8 v9 v10 v11 t6.2).bind fun t12 =>
  if t6.1 = t12.1 then (
   some t12.2
  ) else (
   none
  )
set_option maxRecDepth 100000 in
theorem LW_0 {xs : Nat → Int32} {L c n : Nat} (i : Int32) (σ : f_M) (u : Value × Value × Value × Value) (hc : 7 ≤ c ∧ 42 ≤ n) (k9 : f_M → Option f_W) (hk : ∀ (σ' : f_M) (u' : Value × Value × Value × Value) (c' n' : Nat), c ≤ c' + 7 → n ≤ n' + 42 → f_Sim a_MT xs L 168 md_358 2923 [.ref a_big, .ref 0, .ref 155, .ref 167, .int i, u'.1, u'.2.1, u'.2.2.1, u'.2.2.2] [] σ' c' n' (k9 σ')) : f_Sim a_MT xs L 168 md_358 296 [.ref a_big, .ref 0, .ref 155, .ref 167, .int i, u.1, u.2.1, u.2.2.1, u.2.2.2] [] σ c n ((lw_0 xs L i σ).bind k9) := by
  have hN : 168 ≤ 168 := Nat.le_refl _
  unfold lw_0
  refine i_aload_n (pc' := 297) (f_at inc_358 (j := 25) rfl) rfl rfl ?_
  refine i_aload_n (pc' := 298) (f_at inc_358 (j := 26) rfl) rfl rfl ?_
  refine i_iload (pc' := 300) (f_at inc_358 (j := 27) rfl) rfl rfl ?_
  refine i_iconst (pc' := 301) (f_at inc_358 (j := 28) rfl) ci_1 rfl ?_
  refine i_iadd (pc' := 302) (f_at inc_358 (j := 29) rfl) rfl ?_
  refine i_xald (pc' := 303) (f_at inc_358 (j := 30) rfl) rfl fun v1 ev1 => ?_
  refine i_aload_n (pc' := 304) (f_at inc_358 (j := 31) rfl) rfl rfl ?_
  refine i_iload (pc' := 306) (f_at inc_358 (j := 32) rfl) rfl rfl ?_
  refine i_iconst (pc' := 307) (f_at inc_358 (j := 33) rfl) ci_2 rfl ?_
  refine i_iadd (pc' := 308) (f_at inc_358 (j := 34) rfl) rfl ?_
  refine i_xald (pc' := 309) (f_at inc_358 (j := 35) rfl) rfl fun v2 ev2 => ?_
  refine i_aload_n (pc' := 310) (f_at inc_358 (j := 36) rfl) rfl rfl ?_
  refine i_iload (pc' := 312) (f_at inc_358 (j := 37) rfl) rfl rfl ?_
  refine i_iconst (pc' := 313) (f_at inc_358 (j := 38) rfl) ci_3 rfl ?_
  refine i_iadd (pc' := 314) (f_at inc_358 (j := 39) rfl) rfl ?_
  refine i_xald (pc' := 315) (f_at inc_358 (j := 40) rfl) rfl fun v3 ev3 => ?_
  refine i_aload_n (pc' := 316) (f_at inc_358 (j := 41) rfl) rfl rfl ?_
  refine i_iload (pc' := 318) (f_at inc_358 (j := 42) rfl) rfl rfl ?_
  refine i_iconst (pc' := 319) (f_at inc_358 (j := 43) rfl) ci_4 rfl ?_
  refine i_iadd (pc' := 320) (f_at inc_358 (j := 44) rfl) rfl ?_
  refine i_xald (pc' := 321) (f_at inc_358 (j := 45) rfl) rfl fun v4 ev4 => ?_
  refine i_aload_n (pc' := 322) (f_at inc_358 (j := 46) rfl) rfl rfl ?_
  refine i_iload (pc' := 324) (f_at inc_358 (j := 47) rfl) rfl rfl ?_
  refine i_iconst (pc' := 325) (f_at inc_358 (j := 48) rfl) ci_5 rfl ?_
  refine i_iadd (pc' := 326) (f_at inc_358 (j := 49) rfl) rfl ?_
  refine i_xald (pc' := 327) (f_at inc_358 (j := 50) rfl) rfl fun v5 ev5 => ?_
  refine c_wi (pc' := 330) (c' := c) (n' := n) (h_virt (ra := [.int v5, .int v4, .int v3, .int v2, .int v1, .ref 0]) (r := []) (as := [.int v1, .int v2, .int v3, .int v4, .int v5]) (f_at inc_358 (j := 51) rfl) (by decide) MT_42 rfl rfl rfl ⟨(show 0 ≤ c from by omega), (show 0 ≤ n from by omega), Nat.le_of_ble_eq_true rfl⟩ sh_0 (f_lt (o := 0) (m := 168) (Nat.le_of_ble_eq_true rfl) hN)) MT_42 (G_42 (Nat.le_trans (Nat.le_of_ble_eq_true rfl) hN) v1 v2 v3 v4 v5 σ) ⟨rfl, rfl, rfl⟩ fun t6 => ?_
  refine i_aload_n (pc' := 331) (f_at inc_358 (j := 52) rfl) rfl rfl ?_
  refine i_aload_n (pc' := 332) (f_at inc_358 (j := 53) rfl) rfl rfl ?_
  refine i_iload (pc' := 334) (f_at inc_358 (j := 54) rfl) rfl rfl ?_
  refine i_iconst (pc' := 335) (f_at inc_358 (j := 55) rfl) ci_1 rfl ?_
  refine i_iadd (pc' := 336) (f_at inc_358 (j := 56) rfl) rfl ?_
  refine i_xald (pc' := 337) (f_at inc_358 (j := 57) rfl) rfl fun v7 ev7 => ?_
  refine i_aload_n (pc' := 338) (f_at inc_358 (j := 58) rfl) rfl rfl ?_
  refine i_iload (pc' := 340) (f_at inc_358 (j := 59) rfl) rfl rfl ?_
  refine i_iconst (pc' := 341) (f_at inc_358 (j := 60) rfl) ci_2 rfl ?_
  refine i_iadd (pc' := 342) (f_at inc_358 (j := 61) rfl) rfl ?_
  refine i_xald (pc' := 343) (f_at inc_358 (j := 62) rfl) rfl fun v8 ev8 => ?_
  refine i_aload_n (pc' := 344) (f_at inc_358 (j := 63) rfl) rfl rfl ?_
  refine i_iload (pc' := 346) (f_at inc_358 (j := 64) rfl) rfl rfl ?_
  refine i_iconst (pc' := 347) (f_at inc_358 (j := 65) rfl) ci_3 rfl ?_
  refine i_iadd (pc' := 348) (f_at inc_358 (j := 66) rfl) rfl ?_
  refine i_xald (pc' := 349) (f_at inc_358 (j := 67) rfl) rfl fun v9 ev9 => ?_
  refine i_aload_n (pc' := 350) (f_at inc_358 (j := 68) rfl) rfl rfl ?_
  refine i_iload (pc' := 352) (f_at inc_358 (j := 69) rfl) rfl rfl ?_
  refine i_iconst (pc' := 353) (f_at inc_358 (j := 70) rfl) ci_4 rfl ?_
  refine i_iadd (pc' := 354) (f_at inc_358 (j := 71) rfl) rfl ?_
  refine i_xald (pc' := 355) (f_at inc_358 (j := 72) rfl) rfl fun v10 ev10 => ?_
  refine i_aload_n (pc' := 356) (f_at inc_358 (j := 73) rfl) rfl rfl ?_
  refine i_iload (pc' := 358) (f_at inc_358 (j := 74) rfl) rfl rfl ?_
  refine i_iconst (pc' := 359) (f_at inc_358 (j := 75) rfl) ci_5 rfl ?_
  refine i_iadd (pc' := 360) (f_at inc_358 (j := 76) rfl) rfl ?_
  refine i_xald (pc' := 361) (f_at inc_358 (j := 77) rfl) rfl fun v11 ev11 => ?_
  refine c_wi (pc' := 364) (c' := c) (n' := n) (h_virt (ra := [.int v11, .int v10, .int v9, .int v8, .int v7, .ref 155]) (r := [.int t6.1]) (as := [.int v7, .int v8, .int v9, .int v10, .int v11]) (f_at inc_358 (j := 78) rfl) (by decide) MT_44 rfl rfl rfl ⟨(show 0 ≤ c from by omega), (show 0 ≤ n from by omega), Nat.le_of_ble_eq_true rfl⟩ sh_155 (f_lt (o := 155) (m := 168) (Nat.le_of_ble_eq_true rfl) hN)) MT_44 (G_44 (Nat.le_trans (Nat.le_of_ble_eq_true rfl) hN) v7 v8 v9 v10 v11 t6.2) ⟨rfl, rfl, rfl⟩ fun t12 => ?_
  refine i_if2 (pc' := 2923) (nx := 367) c2_eq (f_at inc_358 (j := 79) rfl) ⟨by decide, rfl⟩ (fun b13 => ?_) (fun b13 => ?_)
  · exact hk t12.2 (u.1, u.2.1, u.2.2.1, u.2.2.2) c n (by omega) (by omega)
  · refine i_iconst (pc' := 368) (f_at inc_358 (j := 80) rfl) ci_0 rfl ?_
    exact f_none
set_option maxRecDepth 100000 in
def lw_1 (xs : Nat → Int32) (L : Nat) (i : Int32) (σ : f_M) : Option f_M :=
  (if (i + (1 : Int32)) < 0 ∨ L ≤ ((i + (1 : Int32))).toNatClampNeg then none else some (xs ((i + (1 : Int32))).toNatClampNeg)).bind fun v14 =>
  (g_45 v14 σ).bind fun t15 =>
  (if (i + (1 : Int32)) < 0 ∨ L ≤ ((i + (1 : Int32))).toNatClampNeg then none else some (xs ((i + (1 : Int32))).toNatClampNeg)).bind fun v16 =>
  (g_47 v16 t15.2).bind fun t17 =>
  if (f_b t15.1) = (f_b t17.1) then (
   some t17.2
  ) else (
   none
  )
set_option maxRecDepth 100000 in
theorem LW_1 {xs : Nat → Int32} {L c n : Nat} (i : Int32) (σ : f_M) (u : Value × Value × Value × Value) (hc : 7 ≤ c ∧ 42 ≤ n) (k9 : f_M → Option f_W) (hk : ∀ (σ' : f_M) (u' : Value × Value × Value × Value) (c' n' : Nat), c ≤ c' + 7 → n ≤ n' + 42 → f_Sim a_MT xs L 168 md_358 2923 [.ref a_big, .ref 0, .ref 155, .ref 167, .int i, u'.1, u'.2.1, u'.2.2.1, u'.2.2.2] [] σ' c' n' (k9 σ')) : f_Sim a_MT xs L 168 md_358 369 [.ref a_big, .ref 0, .ref 155, .ref 167, .int i, u.1, u.2.1, u.2.2.1, u.2.2.2] [] σ c n ((lw_1 xs L i σ).bind k9) := by
  have hN : 168 ≤ 168 := Nat.le_refl _
  unfold lw_1
  refine i_aload_n (pc' := 370) (f_at inc_358 (j := 82) rfl) rfl rfl ?_
  refine i_aload_n (pc' := 371) (f_at inc_358 (j := 83) rfl) rfl rfl ?_
  refine i_iload (pc' := 373) (f_at inc_358 (j := 84) rfl) rfl rfl ?_
  refine i_iconst (pc' := 374) (f_at inc_358 (j := 85) rfl) ci_1 rfl ?_
  refine i_iadd (pc' := 375) (f_at inc_358 (j := 86) rfl) rfl ?_
  refine i_xald (pc' := 376) (f_at inc_358 (j := 87) rfl) rfl fun v14 ev14 => ?_
  refine c_wb (pc' := 379) (c' := c) (n' := n) (h_virt (ra := [.int v14, .ref 0]) (r := []) (as := [.int v14]) (f_at inc_358 (j := 88) rfl) (by decide) MT_45 rfl rfl rfl ⟨(show 0 ≤ c from by omega), (show 0 ≤ n from by omega), Nat.le_of_ble_eq_true rfl⟩ sh_0 (f_lt (o := 0) (m := 168) (Nat.le_of_ble_eq_true rfl) hN)) MT_45 (G_45 (Nat.le_trans (Nat.le_of_ble_eq_true rfl) hN) v14 σ) ⟨rfl, rfl, rfl⟩ fun t15 => ?_
  refine i_aload_n (pc' := 380) (f_at inc_358 (j := 89) rfl) rfl rfl ?_
  refine i_aload_n (pc' := 381) (f_at inc_358 (j := 90) rfl) rfl rfl ?_
  refine i_iload (pc' := 383) (f_at inc_358 (j := 91) rfl) rfl rfl ?_
  refine i_iconst (pc' := 384) (f_at inc_358 (j := 92) rfl) ci_1 rfl ?_
  refine i_iadd (pc' := 385) (f_at inc_358 (j := 93) rfl) rfl ?_
  refine i_xald (pc' := 386) (f_at inc_358 (j := 94) rfl) rfl fun v16 ev16 => ?_
  refine c_wb (pc' := 389) (c' := c) (n' := n) (h_virt (ra := [.int v16, .ref 155]) (r := [.int (f_b t15.1)]) (as := [.int v16]) (f_at inc_358 (j := 95) rfl) (by decide) MT_47 rfl rfl rfl ⟨(show 0 ≤ c from by omega), (show 0 ≤ n from by omega), Nat.le_of_ble_eq_true rfl⟩ sh_155 (f_lt (o := 155) (m := 168) (Nat.le_of_ble_eq_true rfl) hN)) MT_47 (G_47 (Nat.le_trans (Nat.le_of_ble_eq_true rfl) hN) v16 t15.2) ⟨rfl, rfl, rfl⟩ fun t17 => ?_
  refine i_if2 (pc' := 2923) (nx := 392) c2_eq (f_at inc_358 (j := 96) rfl) ⟨by decide, rfl⟩ (fun b18 => ?_) (fun b18 => ?_)
  · exact hk t17.2 (u.1, u.2.1, u.2.2.1, u.2.2.2) c n (by omega) (by omega)
  · refine i_iconst (pc' := 393) (f_at inc_358 (j := 97) rfl) ci_0 rfl ?_
    exact f_none
set_option maxRecDepth 100000 in
def lw_2 (xs : Nat → Int32) (L : Nat) (i : Int32) (σ : f_M) : Option f_M :=
  (g_33  σ).bind fun t19 =>
  (g_65  t19.2).bind fun t20 =>
  if t19.1 = t20.1 then (
   some t20.2
  ) else (
   none
  )
set_option maxRecDepth 100000 in
theorem LW_2 {xs : Nat → Int32} {L c n : Nat} (i : Int32) (σ : f_M) (u : Value × Value × Value × Value) (hc : 7 ≤ c ∧ 42 ≤ n) (k9 : f_M → Option f_W) (hk : ∀ (σ' : f_M) (u' : Value × Value × Value × Value) (c' n' : Nat), c ≤ c' + 7 → n ≤ n' + 42 → f_Sim a_MT xs L 168 md_358 2923 [.ref a_big, .ref 0, .ref 155, .ref 167, .int i, u'.1, u'.2.1, u'.2.2.1, u'.2.2.2] [] σ' c' n' (k9 σ')) : f_Sim a_MT xs L 168 md_358 394 [.ref a_big, .ref 0, .ref 155, .ref 167, .int i, u.1, u.2.1, u.2.2.1, u.2.2.2] [] σ c n ((lw_2 xs L i σ).bind k9) := by
  have hN : 168 ≤ 168 := Nat.le_refl _
  unfold lw_2
  refine i_aload_n (pc' := 395) (f_at inc_358 (j := 99) rfl) rfl rfl ?_
  refine c_wi (pc' := 398) (c' := c) (n' := n) (h_virt (ra := [.ref 0]) (r := []) (as := []) (f_at inc_358 (j := 100) rfl) (by decide) MT_33 rfl rfl rfl ⟨(show 0 ≤ c from by omega), (show 0 ≤ n from by omega), Nat.le_of_ble_eq_true rfl⟩ sh_0 (f_lt (o := 0) (m := 168) (Nat.le_of_ble_eq_true rfl) hN)) MT_33 (G_33 (Nat.le_trans (Nat.le_of_ble_eq_true rfl) hN)  σ) ⟨rfl, rfl, rfl⟩ fun t19 => ?_
  refine i_aload_n (pc' := 399) (f_at inc_358 (j := 101) rfl) rfl rfl ?_
  refine c_wi (pc' := 402) (c' := c) (n' := n) (h_virt (ra := [.ref 155]) (r := [.int t19.1]) (as := []) (f_at inc_358 (j := 102) rfl) (by decide) MT_65 rfl rfl rfl ⟨(show 0 ≤ c from by omega), (show 0 ≤ n from by omega), Nat.le_of_ble_eq_true rfl⟩ sh_155 (f_lt (o := 155) (m := 168) (Nat.le_of_ble_eq_true rfl) hN)) MT_65 (G_65 (Nat.le_trans (Nat.le_of_ble_eq_true rfl) hN)  t19.2) ⟨rfl, rfl, rfl⟩ fun t20 => ?_
  refine i_if2 (pc' := 2923) (nx := 405) c2_eq (f_at inc_358 (j := 103) rfl) ⟨by decide, rfl⟩ (fun b21 => ?_) (fun b21 => ?_)
  · exact hk t20.2 (u.1, u.2.1, u.2.2.1, u.2.2.2) c n (by omega) (by omega)
  · refine i_iconst (pc' := 406) (f_at inc_358 (j := 104) rfl) ci_0 rfl ?_
    exact f_none
set_option maxRecDepth 100000 in
def lw_3 (xs : Nat → Int32) (L : Nat) (i : Int32) (σ : f_M) : Option f_M :=
  (g_113  σ).bind fun t22 =>
  (g_159  t22.2).bind fun t23 =>
  if t22.1 = t23.1 then (
   some t23.2
  ) else (
   none
  )
set_option maxRecDepth 100000 in
theorem LW_3 {xs : Nat → Int32} {L c n : Nat} (i : Int32) (σ : f_M) (u : Value × Value × Value × Value) (hc : 7 ≤ c ∧ 42 ≤ n) (k9 : f_M → Option f_W) (hk : ∀ (σ' : f_M) (u' : Value × Value × Value × Value) (c' n' : Nat), c ≤ c' + 7 → n ≤ n' + 42 → f_Sim a_MT xs L 168 md_358 2923 [.ref a_big, .ref 0, .ref 155, .ref 167, .int i, u'.1, u'.2.1, u'.2.2.1, u'.2.2.2] [] σ' c' n' (k9 σ')) : f_Sim a_MT xs L 168 md_358 407 [.ref a_big, .ref 0, .ref 155, .ref 167, .int i, u.1, u.2.1, u.2.2.1, u.2.2.2] [] σ c n ((lw_3 xs L i σ).bind k9) := by
  have hN : 168 ≤ 168 := Nat.le_refl _
  unfold lw_3
  refine i_aload_n (pc' := 408) (f_at inc_358 (j := 106) rfl) rfl rfl ?_
  refine c_wi (pc' := 411) (c' := c) (n' := n) (h_virt (ra := [.ref 0]) (r := []) (as := []) (f_at inc_358 (j := 107) rfl) (by decide) MT_113 rfl rfl rfl ⟨(show 0 ≤ c from by omega), (show 0 ≤ n from by omega), Nat.le_of_ble_eq_true rfl⟩ sh_0 (f_lt (o := 0) (m := 168) (Nat.le_of_ble_eq_true rfl) hN)) MT_113 (G_113 (Nat.le_trans (Nat.le_of_ble_eq_true rfl) hN)  σ) ⟨rfl, rfl, rfl⟩ fun t22 => ?_
  refine i_aload_n (pc' := 412) (f_at inc_358 (j := 108) rfl) rfl rfl ?_
  refine c_wi (pc' := 415) (c' := c) (n' := n) (h_virt (ra := [.ref 155]) (r := [.int t22.1]) (as := []) (f_at inc_358 (j := 109) rfl) (by decide) MT_159 rfl rfl rfl ⟨(show 0 ≤ c from by omega), (show 0 ≤ n from by omega), Nat.le_of_ble_eq_true rfl⟩ sh_155 (f_lt (o := 155) (m := 168) (Nat.le_of_ble_eq_true rfl) hN)) MT_159 (G_159 (Nat.le_trans (Nat.le_of_ble_eq_true rfl) hN)  t22.2) ⟨rfl, rfl, rfl⟩ fun t23 => ?_
  refine i_if2 (pc' := 2923) (nx := 418) c2_eq (f_at inc_358 (j := 110) rfl) ⟨by decide, rfl⟩ (fun b24 => ?_) (fun b24 => ?_)
  · exact hk t23.2 (u.1, u.2.1, u.2.2.1, u.2.2.2) c n (by omega) (by omega)
  · refine i_iconst (pc' := 419) (f_at inc_358 (j := 111) rfl) ci_0 rfl ?_
    exact f_none
set_option maxRecDepth 100000 in
def lw_4 (xs : Nat → Int32) (L : Nat) (i : Int32) (σ : f_M) : Option f_M :=
  (g_160  σ).bind fun t25 =>
  (g_161  σ).bind fun t26 =>
  if t25 = t26.1 then (
   some t26.2
  ) else (
   none
  )
set_option maxRecDepth 100000 in
theorem LW_4 {xs : Nat → Int32} {L c n : Nat} (i : Int32) (σ : f_M) (u : Value × Value × Value × Value) (hc : 7 ≤ c ∧ 42 ≤ n) (k9 : f_M → Option f_W) (hk : ∀ (σ' : f_M) (u' : Value × Value × Value × Value) (c' n' : Nat), c ≤ c' + 7 → n ≤ n' + 42 → f_Sim a_MT xs L 168 md_358 2923 [.ref a_big, .ref 0, .ref 155, .ref 167, .int i, u'.1, u'.2.1, u'.2.2.1, u'.2.2.2] [] σ' c' n' (k9 σ')) : f_Sim a_MT xs L 168 md_358 420 [.ref a_big, .ref 0, .ref 155, .ref 167, .int i, u.1, u.2.1, u.2.2.1, u.2.2.2] [] σ c n ((lw_4 xs L i σ).bind k9) := by
  have hN : 168 ≤ 168 := Nat.le_refl _
  unfold lw_4
  refine i_aload_n (pc' := 421) (f_at inc_358 (j := 113) rfl) rfl rfl ?_
  refine c_pi (pc' := 424) (c' := c) (n' := n) (h_virt (ra := [.ref 0]) (r := []) (as := []) (f_at inc_358 (j := 114) rfl) (by decide) MT_160 rfl rfl rfl ⟨(show 0 ≤ c from by omega), (show 0 ≤ n from by omega), Nat.le_of_ble_eq_true rfl⟩ sh_0 (f_lt (o := 0) (m := 168) (Nat.le_of_ble_eq_true rfl) hN)) MT_160 (G_160 (Nat.le_trans (Nat.le_of_ble_eq_true rfl) hN)  σ) ⟨rfl, rfl, rfl⟩ fun t25 => ?_
  refine i_aload_n (pc' := 425) (f_at inc_358 (j := 115) rfl) rfl rfl ?_
  refine c_wi (pc' := 428) (c' := c) (n' := n) (h_virt (ra := [.ref 155]) (r := [.int t25]) (as := []) (f_at inc_358 (j := 116) rfl) (by decide) MT_161 rfl rfl rfl ⟨(show 0 ≤ c from by omega), (show 0 ≤ n from by omega), Nat.le_of_ble_eq_true rfl⟩ sh_155 (f_lt (o := 155) (m := 168) (Nat.le_of_ble_eq_true rfl) hN)) MT_161 (G_161 (Nat.le_trans (Nat.le_of_ble_eq_true rfl) hN)  σ) ⟨rfl, rfl, rfl⟩ fun t26 => ?_
  refine i_if2 (pc' := 2923) (nx := 431) c2_eq (f_at inc_358 (j := 117) rfl) ⟨by decide, rfl⟩ (fun b27 => ?_) (fun b27 => ?_)
  · exact hk t26.2 (u.1, u.2.1, u.2.2.1, u.2.2.2) c n (by omega) (by omega)
  · refine i_iconst (pc' := 432) (f_at inc_358 (j := 118) rfl) ci_0 rfl ?_
    exact f_none
set_option maxRecDepth 100000 in
def lw_5 (xs : Nat → Int32) (L : Nat) (i : Int32) (σ : f_M) : Option f_M :=
  (g_162  σ).bind fun t28 =>
  (g_163  σ).bind fun t29 =>
  if t28 = t29.1 then (
   some t29.2
  ) else (
   none
  )
set_option maxRecDepth 100000 in
theorem LW_5 {xs : Nat → Int32} {L c n : Nat} (i : Int32) (σ : f_M) (u : Value × Value × Value × Value) (hc : 7 ≤ c ∧ 42 ≤ n) (k9 : f_M → Option f_W) (hk : ∀ (σ' : f_M) (u' : Value × Value × Value × Value) (c' n' : Nat), c ≤ c' + 7 → n ≤ n' + 42 → f_Sim a_MT xs L 168 md_358 2923 [.ref a_big, .ref 0, .ref 155, .ref 167, .int i, u'.1, u'.2.1, u'.2.2.1, u'.2.2.2] [] σ' c' n' (k9 σ')) : f_Sim a_MT xs L 168 md_358 433 [.ref a_big, .ref 0, .ref 155, .ref 167, .int i, u.1, u.2.1, u.2.2.1, u.2.2.2] [] σ c n ((lw_5 xs L i σ).bind k9) := by
  have hN : 168 ≤ 168 := Nat.le_refl _
  unfold lw_5
  refine i_aload_n (pc' := 434) (f_at inc_358 (j := 120) rfl) rfl rfl ?_
  refine c_pi (pc' := 437) (c' := c) (n' := n) (h_virt (ra := [.ref 0]) (r := []) (as := []) (f_at inc_358 (j := 121) rfl) (by decide) MT_162 rfl rfl rfl ⟨(show 0 ≤ c from by omega), (show 0 ≤ n from by omega), Nat.le_of_ble_eq_true rfl⟩ sh_0 (f_lt (o := 0) (m := 168) (Nat.le_of_ble_eq_true rfl) hN)) MT_162 (G_162 (Nat.le_trans (Nat.le_of_ble_eq_true rfl) hN)  σ) ⟨rfl, rfl, rfl⟩ fun t28 => ?_
  refine i_aload_n (pc' := 438) (f_at inc_358 (j := 122) rfl) rfl rfl ?_
  refine c_wi (pc' := 441) (c' := c) (n' := n) (h_virt (ra := [.ref 155]) (r := [.int t28]) (as := []) (f_at inc_358 (j := 123) rfl) (by decide) MT_163 rfl rfl rfl ⟨(show 0 ≤ c from by omega), (show 0 ≤ n from by omega), Nat.le_of_ble_eq_true rfl⟩ sh_155 (f_lt (o := 155) (m := 168) (Nat.le_of_ble_eq_true rfl) hN)) MT_163 (G_163 (Nat.le_trans (Nat.le_of_ble_eq_true rfl) hN)  σ) ⟨rfl, rfl, rfl⟩ fun t29 => ?_
  refine i_if2 (pc' := 2923) (nx := 444) c2_eq (f_at inc_358 (j := 124) rfl) ⟨by decide, rfl⟩ (fun b30 => ?_) (fun b30 => ?_)
  · exact hk t29.2 (u.1, u.2.1, u.2.2.1, u.2.2.2) c n (by omega) (by omega)
  · refine i_iconst (pc' := 445) (f_at inc_358 (j := 125) rfl) ci_0 rfl ?_
    exact f_none
set_option maxRecDepth 100000 in
def lw_6 (xs : Nat → Int32) (L : Nat) (i : Int32) (σ : f_M) : Option f_M :=
  (g_164  σ).bind fun t31 =>
  (g_166  σ).bind fun t32 =>
  if t31 = t32.1 then (
   some t32.2
  ) else (
   none
  )
set_option maxRecDepth 100000 in
theorem LW_6 {xs : Nat → Int32} {L c n : Nat} (i : Int32) (σ : f_M) (u : Value × Value × Value × Value) (hc : 7 ≤ c ∧ 42 ≤ n) (k9 : f_M → Option f_W) (hk : ∀ (σ' : f_M) (u' : Value × Value × Value × Value) (c' n' : Nat), c ≤ c' + 7 → n ≤ n' + 42 → f_Sim a_MT xs L 168 md_358 2923 [.ref a_big, .ref 0, .ref 155, .ref 167, .int i, u'.1, u'.2.1, u'.2.2.1, u'.2.2.2] [] σ' c' n' (k9 σ')) : f_Sim a_MT xs L 168 md_358 446 [.ref a_big, .ref 0, .ref 155, .ref 167, .int i, u.1, u.2.1, u.2.2.1, u.2.2.2] [] σ c n ((lw_6 xs L i σ).bind k9) := by
  have hN : 168 ≤ 168 := Nat.le_refl _
  unfold lw_6
  refine i_aload_n (pc' := 447) (f_at inc_358 (j := 127) rfl) rfl rfl ?_
  refine c_pi (pc' := 450) (c' := c) (n' := n) (h_virt (ra := [.ref 0]) (r := []) (as := []) (f_at inc_358 (j := 128) rfl) (by decide) MT_164 rfl rfl rfl ⟨(show 0 ≤ c from by omega), (show 0 ≤ n from by omega), Nat.le_of_ble_eq_true rfl⟩ sh_0 (f_lt (o := 0) (m := 168) (Nat.le_of_ble_eq_true rfl) hN)) MT_164 (G_164 (Nat.le_trans (Nat.le_of_ble_eq_true rfl) hN)  σ) ⟨rfl, rfl, rfl⟩ fun t31 => ?_
  refine i_aload_n (pc' := 451) (f_at inc_358 (j := 129) rfl) rfl rfl ?_
  refine c_wi (pc' := 454) (c' := c) (n' := n) (h_virt (ra := [.ref 155]) (r := [.int t31]) (as := []) (f_at inc_358 (j := 130) rfl) (by decide) MT_166 rfl rfl rfl ⟨(show 0 ≤ c from by omega), (show 0 ≤ n from by omega), Nat.le_of_ble_eq_true rfl⟩ sh_155 (f_lt (o := 155) (m := 168) (Nat.le_of_ble_eq_true rfl) hN)) MT_166 (G_166 (Nat.le_trans (Nat.le_of_ble_eq_true rfl) hN)  σ) ⟨rfl, rfl, rfl⟩ fun t32 => ?_
  refine i_if2 (pc' := 2923) (nx := 457) c2_eq (f_at inc_358 (j := 131) rfl) ⟨by decide, rfl⟩ (fun b33 => ?_) (fun b33 => ?_)
  · exact hk t32.2 (u.1, u.2.1, u.2.2.1, u.2.2.2) c n (by omega) (by omega)
  · refine i_iconst (pc' := 458) (f_at inc_358 (j := 132) rfl) ci_0 rfl ?_
    exact f_none
set_option maxRecDepth 100000 in
def lw_7 (xs : Nat → Int32) (L : Nat) (i : Int32) (σ : f_M) : Option f_M :=
  (g_167  σ).bind fun t34 =>
  (g_168  σ).bind fun t35 =>
  if t34 = t35.1 then (
   some t35.2
  ) else (
   none
  )
set_option maxRecDepth 100000 in
theorem LW_7 {xs : Nat → Int32} {L c n : Nat} (i : Int32) (σ : f_M) (u : Value × Value × Value × Value) (hc : 7 ≤ c ∧ 42 ≤ n) (k9 : f_M → Option f_W) (hk : ∀ (σ' : f_M) (u' : Value × Value × Value × Value) (c' n' : Nat), c ≤ c' + 7 → n ≤ n' + 42 → f_Sim a_MT xs L 168 md_358 2923 [.ref a_big, .ref 0, .ref 155, .ref 167, .int i, u'.1, u'.2.1, u'.2.2.1, u'.2.2.2] [] σ' c' n' (k9 σ')) : f_Sim a_MT xs L 168 md_358 459 [.ref a_big, .ref 0, .ref 155, .ref 167, .int i, u.1, u.2.1, u.2.2.1, u.2.2.2] [] σ c n ((lw_7 xs L i σ).bind k9) := by
  have hN : 168 ≤ 168 := Nat.le_refl _
  unfold lw_7
  refine i_aload_n (pc' := 460) (f_at inc_358 (j := 134) rfl) rfl rfl ?_
  refine c_pi (pc' := 463) (c' := c) (n' := n) (h_virt (ra := [.ref 0]) (r := []) (as := []) (f_at inc_358 (j := 135) rfl) (by decide) MT_167 rfl rfl rfl ⟨(show 0 ≤ c from by omega), (show 0 ≤ n from by omega), Nat.le_of_ble_eq_true rfl⟩ sh_0 (f_lt (o := 0) (m := 168) (Nat.le_of_ble_eq_true rfl) hN)) MT_167 (G_167 (Nat.le_trans (Nat.le_of_ble_eq_true rfl) hN)  σ) ⟨rfl, rfl, rfl⟩ fun t34 => ?_
  refine i_aload_n (pc' := 464) (f_at inc_358 (j := 136) rfl) rfl rfl ?_
  refine c_wi (pc' := 467) (c' := c) (n' := n) (h_virt (ra := [.ref 155]) (r := [.int t34]) (as := []) (f_at inc_358 (j := 137) rfl) (by decide) MT_168 rfl rfl rfl ⟨(show 0 ≤ c from by omega), (show 0 ≤ n from by omega), Nat.le_of_ble_eq_true rfl⟩ sh_155 (f_lt (o := 155) (m := 168) (Nat.le_of_ble_eq_true rfl) hN)) MT_168 (G_168 (Nat.le_trans (Nat.le_of_ble_eq_true rfl) hN)  σ) ⟨rfl, rfl, rfl⟩ fun t35 => ?_
  refine i_if2 (pc' := 2923) (nx := 470) c2_eq (f_at inc_358 (j := 138) rfl) ⟨by decide, rfl⟩ (fun b36 => ?_) (fun b36 => ?_)
  · exact hk t35.2 (u.1, u.2.1, u.2.2.1, u.2.2.2) c n (by omega) (by omega)
  · refine i_iconst (pc' := 471) (f_at inc_358 (j := 139) rfl) ci_0 rfl ?_
    exact f_none
set_option maxRecDepth 100000 in
def lw_8 (xs : Nat → Int32) (L : Nat) (i : Int32) (σ : f_M) : Option f_M :=
  (g_169  σ).bind fun t37 =>
  (g_170  σ).bind fun t38 =>
  if t37 = t38.1 then (
   some t38.2
  ) else (
   none
  )
set_option maxRecDepth 100000 in
theorem LW_8 {xs : Nat → Int32} {L c n : Nat} (i : Int32) (σ : f_M) (u : Value × Value × Value × Value) (hc : 7 ≤ c ∧ 42 ≤ n) (k9 : f_M → Option f_W) (hk : ∀ (σ' : f_M) (u' : Value × Value × Value × Value) (c' n' : Nat), c ≤ c' + 7 → n ≤ n' + 42 → f_Sim a_MT xs L 168 md_358 2923 [.ref a_big, .ref 0, .ref 155, .ref 167, .int i, u'.1, u'.2.1, u'.2.2.1, u'.2.2.2] [] σ' c' n' (k9 σ')) : f_Sim a_MT xs L 168 md_358 472 [.ref a_big, .ref 0, .ref 155, .ref 167, .int i, u.1, u.2.1, u.2.2.1, u.2.2.2] [] σ c n ((lw_8 xs L i σ).bind k9) := by
  have hN : 168 ≤ 168 := Nat.le_refl _
  unfold lw_8
  refine i_aload_n (pc' := 473) (f_at inc_358 (j := 141) rfl) rfl rfl ?_
  refine c_pi (pc' := 476) (c' := c) (n' := n) (h_virt (ra := [.ref 0]) (r := []) (as := []) (f_at inc_358 (j := 142) rfl) (by decide) MT_169 rfl rfl rfl ⟨(show 0 ≤ c from by omega), (show 0 ≤ n from by omega), Nat.le_of_ble_eq_true rfl⟩ sh_0 (f_lt (o := 0) (m := 168) (Nat.le_of_ble_eq_true rfl) hN)) MT_169 (G_169 (Nat.le_trans (Nat.le_of_ble_eq_true rfl) hN)  σ) ⟨rfl, rfl, rfl⟩ fun t37 => ?_
  refine i_aload_n (pc' := 477) (f_at inc_358 (j := 143) rfl) rfl rfl ?_
  refine c_wi (pc' := 480) (c' := c) (n' := n) (h_virt (ra := [.ref 155]) (r := [.int t37]) (as := []) (f_at inc_358 (j := 144) rfl) (by decide) MT_170 rfl rfl rfl ⟨(show 0 ≤ c from by omega), (show 0 ≤ n from by omega), Nat.le_of_ble_eq_true rfl⟩ sh_155 (f_lt (o := 155) (m := 168) (Nat.le_of_ble_eq_true rfl) hN)) MT_170 (G_170 (Nat.le_trans (Nat.le_of_ble_eq_true rfl) hN)  σ) ⟨rfl, rfl, rfl⟩ fun t38 => ?_
  refine i_if2 (pc' := 2923) (nx := 483) c2_eq (f_at inc_358 (j := 145) rfl) ⟨by decide, rfl⟩ (fun b39 => ?_) (fun b39 => ?_)
  · exact hk t38.2 (u.1, u.2.1, u.2.2.1, u.2.2.2) c n (by omega) (by omega)
  · refine i_iconst (pc' := 484) (f_at inc_358 (j := 146) rfl) ci_0 rfl ?_
    exact f_none
set_option maxRecDepth 100000 in
def lw_9 (xs : Nat → Int32) (L : Nat) (i : Int32) (σ : f_M) : Option f_M :=
  (if (i + (1 : Int32)) < 0 ∨ L ≤ ((i + (1 : Int32))).toNatClampNeg then none else some (xs ((i + (1 : Int32))).toNatClampNeg)).bind fun v40 =>
  (if (i + (2 : Int32)) < 0 ∨ L ≤ ((i + (2 : Int32))).toNatClampNeg then none else some (xs ((i + (2 : Int32))).toNatClampNeg)).bind fun v41 =>
  (g_174 v40 v41 σ).bind fun t42 =>
  (if (i + (1 : Int32)) < 0 ∨ L ≤ ((i + (1 : Int32))).toNatClampNeg then none else some (xs ((i + (1 : Int32))).toNatClampNeg)).bind fun v43 =>
  (if (i + (2 : Int32)) < 0 ∨ L ≤ ((i + (2 : Int32))).toNatClampNeg then none else some (xs ((i + (2 : Int32))).toNatClampNeg)).bind fun v44 =>
  (g_177 v43 v44 t42.2).bind fun t45 =>
  (g_178  t45.2).bind fun t46 =>
  if t46 = t42.1 then (
   if ¬ t42.1 = 0 then (
    some t45.2
   ) else (
    (f_rd t45.2 167 1 (0 : Int32)).bind fun v47 =>
    if (lg_cmp (v47).toInt64 (t45.1).toInt64) = 0 then (
     some t45.2
    ) else (
     none
    )
   )
  ) else (
   none
  )
set_option maxRecDepth 100000 in
theorem LW_9 {xs : Nat → Int32} {L c n : Nat} (i : Int32) (σ : f_M) (u : Value × Value × Value × Value) (hc : 7 ≤ c ∧ 42 ≤ n) (k9 : f_M → Option f_W) (hk : ∀ (σ' : f_M) (u' : Value × Value × Value × Value) (c' n' : Nat), c ≤ c' + 7 → n ≤ n' + 42 → f_Sim a_MT xs L 168 md_358 2923 [.ref a_big, .ref 0, .ref 155, .ref 167, .int i, u'.1, u'.2.1, u'.2.2.1, u'.2.2.2] [] σ' c' n' (k9 σ')) : f_Sim a_MT xs L 168 md_358 485 [.ref a_big, .ref 0, .ref 155, .ref 167, .int i, u.1, u.2.1, u.2.2.1, u.2.2.2] [] σ c n ((lw_9 xs L i σ).bind k9) := by
  have hN : 168 ≤ 168 := Nat.le_refl _
  unfold lw_9
  refine i_aload_n (pc' := 486) (f_at inc_358 (j := 148) rfl) rfl rfl ?_
  refine i_aload_n (pc' := 487) (f_at inc_358 (j := 149) rfl) rfl rfl ?_
  refine i_iload (pc' := 489) (f_at inc_358 (j := 150) rfl) rfl rfl ?_
  refine i_iconst (pc' := 490) (f_at inc_358 (j := 151) rfl) ci_1 rfl ?_
  refine i_iadd (pc' := 491) (f_at inc_358 (j := 152) rfl) rfl ?_
  refine i_xald (pc' := 492) (f_at inc_358 (j := 153) rfl) rfl fun v40 ev40 => ?_
  refine i_aload_n (pc' := 493) (f_at inc_358 (j := 154) rfl) rfl rfl ?_
  refine i_iload (pc' := 495) (f_at inc_358 (j := 155) rfl) rfl rfl ?_
  refine i_iconst (pc' := 496) (f_at inc_358 (j := 156) rfl) ci_2 rfl ?_
  refine i_iadd (pc' := 497) (f_at inc_358 (j := 157) rfl) rfl ?_
  refine i_xald (pc' := 498) (f_at inc_358 (j := 158) rfl) rfl fun v41 ev41 => ?_
  refine i_aload_n (pc' := 499) (f_at inc_358 (j := 159) rfl) rfl rfl ?_
  refine c_wi (pc' := 502) (c' := (c - 1)) (n' := (n - 6)) (h_stat (ra := [.ref 167, .int v41, .int v40, .ref 0]) (r := []) (as := [.ref 0, .int v40, .int v41, .ref 167]) (f_at inc_358 (j := 160) rfl) (by decide) MT_174 rfl rfl rfl ⟨(show 1 ≤ c from by omega), (show 6 ≤ n from by omega), Nat.le_of_ble_eq_true rfl⟩) MT_174 (G_174 hN v40 v41 σ) ⟨rfl, rfl, rfl⟩ fun t42 => ?_
  refine i_istore (pc' := 504) (ls' := [.ref a_big, .ref 0, .ref 155, .ref 167, .int i, .int t42.1, u.2.1, u.2.2.1, u.2.2.2]) (f_at inc_358 (j := 161) rfl) (Nat.le_of_ble_eq_true rfl) rfl rfl ?_
  refine i_aload_n (pc' := 505) (f_at inc_358 (j := 162) rfl) rfl rfl ?_
  refine i_aload_n (pc' := 506) (f_at inc_358 (j := 163) rfl) rfl rfl ?_
  refine i_iload (pc' := 508) (f_at inc_358 (j := 164) rfl) rfl rfl ?_
  refine i_iconst (pc' := 509) (f_at inc_358 (j := 165) rfl) ci_1 rfl ?_
  refine i_iadd (pc' := 510) (f_at inc_358 (j := 166) rfl) rfl ?_
  refine i_xald (pc' := 511) (f_at inc_358 (j := 167) rfl) rfl fun v43 ev43 => ?_
  refine i_aload_n (pc' := 512) (f_at inc_358 (j := 168) rfl) rfl rfl ?_
  refine i_iload (pc' := 514) (f_at inc_358 (j := 169) rfl) rfl rfl ?_
  refine i_iconst (pc' := 515) (f_at inc_358 (j := 170) rfl) ci_2 rfl ?_
  refine i_iadd (pc' := 516) (f_at inc_358 (j := 171) rfl) rfl ?_
  refine i_xald (pc' := 517) (f_at inc_358 (j := 172) rfl) rfl fun v44 ev44 => ?_
  refine c_wi (pc' := 520) (c' := (c - 1)) (n' := (n - 6)) (h_virt (ra := [.int v44, .int v43, .ref 155]) (r := []) (as := [.int v43, .int v44]) (f_at inc_358 (j := 173) rfl) (by decide) MT_177 rfl rfl rfl ⟨(show 0 ≤ (c - 1) from by omega), (show 0 ≤ (n - 6) from by omega), Nat.le_of_ble_eq_true rfl⟩ sh_155 (f_lt (o := 155) (m := 168) (Nat.le_of_ble_eq_true rfl) hN)) MT_177 (G_177 (Nat.le_trans (Nat.le_of_ble_eq_true rfl) hN) v43 v44 t42.2) ⟨rfl, rfl, rfl⟩ fun t45 => ?_
  refine i_istore (pc' := 522) (ls' := [.ref a_big, .ref 0, .ref 155, .ref 167, .int i, .int t42.1, .int t45.1, u.2.2.1, u.2.2.2]) (f_at inc_358 (j := 174) rfl) (Nat.le_of_ble_eq_true rfl) rfl rfl ?_
  refine i_aload_n (pc' := 523) (f_at inc_358 (j := 175) rfl) rfl rfl ?_
  refine c_pi (pc' := 526) (c' := (c - 1)) (n' := (n - 6)) (h_virt (ra := [.ref 155]) (r := []) (as := []) (f_at inc_358 (j := 176) rfl) (by decide) MT_178 rfl rfl rfl ⟨(show 0 ≤ (c - 1) from by omega), (show 0 ≤ (n - 6) from by omega), Nat.le_of_ble_eq_true rfl⟩ sh_155 (f_lt (o := 155) (m := 168) (Nat.le_of_ble_eq_true rfl) hN)) MT_178 (G_178 (Nat.le_trans (Nat.le_of_ble_eq_true rfl) hN)  t45.2) ⟨rfl, rfl, rfl⟩ fun t46 => ?_
  refine i_iload (pc' := 528) (f_at inc_358 (j := 177) rfl) rfl rfl ?_
  refine i_if2 (pc' := 533) (nx := 531) c2_eq (f_at inc_358 (j := 178) rfl) ⟨by decide, rfl⟩ (fun b50 => ?_) (fun b50 => ?_)
  · refine i_iload (pc' := 535) (f_at inc_358 (j := 181) rfl) rfl rfl ?_
    refine i_if0 (pc' := 550) (nx := 538) c0_ne (f_at inc_358 (j := 182) rfl) ⟨by decide, rfl⟩ (fun b49 => ?_) (fun b49 => ?_)
    · refine i_goto (pc' := 2923) (f_at inc_358 (j := 192) rfl) (by decide) ?_
      exact hk t45.2 (.int t42.1, .int t45.1, u.2.2.1, u.2.2.2) (c - 1) (n - 6) (by omega) (by omega)
    · refine i_aload_n (pc' := 539) (f_at inc_358 (j := 183) rfl) rfl rfl ?_
      refine i_iconst (pc' := 540) (f_at inc_358 (j := 184) rfl) ci_0 rfl ?_
      refine i_lald (pc' := 541) (f_at inc_358 (j := 185) rfl) sh_167 (f_bg (Nat.le_of_ble_eq_true rfl)) (f_lt (o := 167) (m := 168) (Nat.le_of_ble_eq_true rfl) hN) rfl fun v47 => ?_
      refine i_iload (pc' := 543) (f_at inc_358 (j := 186) rfl) rfl rfl ?_
      refine i_i2l (pc' := 544) (f_at inc_358 (j := 187) rfl) rfl ?_
      refine i_lcmp (pc' := 545) (f_at inc_358 (j := 188) rfl) rfl ?_
      refine i_if0 (pc' := 550) (nx := 548) c0_eq (f_at inc_358 (j := 189) rfl) ⟨by decide, rfl⟩ (fun b48 => ?_) (fun b48 => ?_)
      · refine i_goto (pc' := 2923) (f_at inc_358 (j := 192) rfl) (by decide) ?_
        exact hk t45.2 (.int t42.1, .int t45.1, u.2.2.1, u.2.2.2) (c - 1) (n - 6) (by omega) (by omega)
      · refine i_iconst (pc' := 549) (f_at inc_358 (j := 190) rfl) ci_0 rfl ?_
        exact f_none
  · refine i_iconst (pc' := 532) (f_at inc_358 (j := 179) rfl) ci_0 rfl ?_
    exact f_none
set_option maxRecDepth 100000 in
def lw_10 (xs : Nat → Int32) (L : Nat) (i : Int32) (σ : f_M) : Option f_M :=
  (if (i + (1 : Int32)) < 0 ∨ L ≤ ((i + (1 : Int32))).toNatClampNeg then none else some (xs ((i + (1 : Int32))).toNatClampNeg)).bind fun v51 =>
  (g_180 v51 σ).bind fun t52 =>
  (if (i + (1 : Int32)) < 0 ∨ L ≤ ((i + (1 : Int32))).toNatClampNeg then none else some (xs ((i + (1 : Int32))).toNatClampNeg)).bind fun v53 =>
  (g_181 v53 t52.2).bind fun t54 =>
  (g_178  t54.2).bind fun t55 =>
  if t55 = t52.1 then (
   if ¬ t52.1 = 0 then (
    some t54.2
   ) else (
    (f_rd t54.2 167 1 (0 : Int32)).bind fun v56 =>
    if (lg_cmp (v56).toInt64 (t54.1).toInt64) = 0 then (
     some t54.2
    ) else (
     none
    )
   )
  ) else (
   none
  )
set_option maxRecDepth 100000 in
theorem LW_10 {xs : Nat → Int32} {L c n : Nat} (i : Int32) (σ : f_M) (u : Value × Value × Value × Value) (hc : 7 ≤ c ∧ 42 ≤ n) (k9 : f_M → Option f_W) (hk : ∀ (σ' : f_M) (u' : Value × Value × Value × Value) (c' n' : Nat), c ≤ c' + 7 → n ≤ n' + 42 → f_Sim a_MT xs L 168 md_358 2923 [.ref a_big, .ref 0, .ref 155, .ref 167, .int i, u'.1, u'.2.1, u'.2.2.1, u'.2.2.2] [] σ' c' n' (k9 σ')) : f_Sim a_MT xs L 168 md_358 553 [.ref a_big, .ref 0, .ref 155, .ref 167, .int i, u.1, u.2.1, u.2.2.1, u.2.2.2] [] σ c n ((lw_10 xs L i σ).bind k9) := by
  have hN : 168 ≤ 168 := Nat.le_refl _
  unfold lw_10
  refine i_aload_n (pc' := 554) (f_at inc_358 (j := 193) rfl) rfl rfl ?_
  refine i_aload_n (pc' := 555) (f_at inc_358 (j := 194) rfl) rfl rfl ?_
  refine i_iload (pc' := 557) (f_at inc_358 (j := 195) rfl) rfl rfl ?_
  refine i_iconst (pc' := 558) (f_at inc_358 (j := 196) rfl) ci_1 rfl ?_
  refine i_iadd (pc' := 559) (f_at inc_358 (j := 197) rfl) rfl ?_
  refine i_xald (pc' := 560) (f_at inc_358 (j := 198) rfl) rfl fun v51 ev51 => ?_
  refine i_aload_n (pc' := 561) (f_at inc_358 (j := 199) rfl) rfl rfl ?_
  refine c_wi (pc' := 564) (c' := (c - 1)) (n' := (n - 6)) (h_stat (ra := [.ref 167, .int v51, .ref 0]) (r := []) (as := [.ref 0, .int v51, .ref 167]) (f_at inc_358 (j := 200) rfl) (by decide) MT_180 rfl rfl rfl ⟨(show 1 ≤ c from by omega), (show 6 ≤ n from by omega), Nat.le_of_ble_eq_true rfl⟩) MT_180 (G_180 hN v51 σ) ⟨rfl, rfl, rfl⟩ fun t52 => ?_
  refine i_istore (pc' := 566) (ls' := [.ref a_big, .ref 0, .ref 155, .ref 167, .int i, .int t52.1, u.2.1, u.2.2.1, u.2.2.2]) (f_at inc_358 (j := 201) rfl) (Nat.le_of_ble_eq_true rfl) rfl rfl ?_
  refine i_aload_n (pc' := 567) (f_at inc_358 (j := 202) rfl) rfl rfl ?_
  refine i_aload_n (pc' := 568) (f_at inc_358 (j := 203) rfl) rfl rfl ?_
  refine i_iload (pc' := 570) (f_at inc_358 (j := 204) rfl) rfl rfl ?_
  refine i_iconst (pc' := 571) (f_at inc_358 (j := 205) rfl) ci_1 rfl ?_
  refine i_iadd (pc' := 572) (f_at inc_358 (j := 206) rfl) rfl ?_
  refine i_xald (pc' := 573) (f_at inc_358 (j := 207) rfl) rfl fun v53 ev53 => ?_
  refine c_wi (pc' := 576) (c' := (c - 1)) (n' := (n - 6)) (h_virt (ra := [.int v53, .ref 155]) (r := []) (as := [.int v53]) (f_at inc_358 (j := 208) rfl) (by decide) MT_181 rfl rfl rfl ⟨(show 0 ≤ (c - 1) from by omega), (show 0 ≤ (n - 6) from by omega), Nat.le_of_ble_eq_true rfl⟩ sh_155 (f_lt (o := 155) (m := 168) (Nat.le_of_ble_eq_true rfl) hN)) MT_181 (G_181 (Nat.le_trans (Nat.le_of_ble_eq_true rfl) hN) v53 t52.2) ⟨rfl, rfl, rfl⟩ fun t54 => ?_
  refine i_istore (pc' := 578) (ls' := [.ref a_big, .ref 0, .ref 155, .ref 167, .int i, .int t52.1, .int t54.1, u.2.2.1, u.2.2.2]) (f_at inc_358 (j := 209) rfl) (Nat.le_of_ble_eq_true rfl) rfl rfl ?_
  refine i_aload_n (pc' := 579) (f_at inc_358 (j := 210) rfl) rfl rfl ?_
  refine c_pi (pc' := 582) (c' := (c - 1)) (n' := (n - 6)) (h_virt (ra := [.ref 155]) (r := []) (as := []) (f_at inc_358 (j := 211) rfl) (by decide) MT_178 rfl rfl rfl ⟨(show 0 ≤ (c - 1) from by omega), (show 0 ≤ (n - 6) from by omega), Nat.le_of_ble_eq_true rfl⟩ sh_155 (f_lt (o := 155) (m := 168) (Nat.le_of_ble_eq_true rfl) hN)) MT_178 (G_178 (Nat.le_trans (Nat.le_of_ble_eq_true rfl) hN)  t54.2) ⟨rfl, rfl, rfl⟩ fun t55 => ?_
  refine i_iload (pc' := 584) (f_at inc_358 (j := 212) rfl) rfl rfl ?_
  refine i_if2 (pc' := 589) (nx := 587) c2_eq (f_at inc_358 (j := 213) rfl) ⟨by decide, rfl⟩ (fun b59 => ?_) (fun b59 => ?_)
  · refine i_iload (pc' := 591) (f_at inc_358 (j := 216) rfl) rfl rfl ?_
    refine i_if0 (pc' := 606) (nx := 594) c0_ne (f_at inc_358 (j := 217) rfl) ⟨by decide, rfl⟩ (fun b58 => ?_) (fun b58 => ?_)
    · refine i_goto (pc' := 2923) (f_at inc_358 (j := 227) rfl) (by decide) ?_
      exact hk t54.2 (.int t52.1, .int t54.1, u.2.2.1, u.2.2.2) (c - 1) (n - 6) (by omega) (by omega)
    · refine i_aload_n (pc' := 595) (f_at inc_358 (j := 218) rfl) rfl rfl ?_
      refine i_iconst (pc' := 596) (f_at inc_358 (j := 219) rfl) ci_0 rfl ?_
      refine i_lald (pc' := 597) (f_at inc_358 (j := 220) rfl) sh_167 (f_bg (Nat.le_of_ble_eq_true rfl)) (f_lt (o := 167) (m := 168) (Nat.le_of_ble_eq_true rfl) hN) rfl fun v56 => ?_
      refine i_iload (pc' := 599) (f_at inc_358 (j := 221) rfl) rfl rfl ?_
      refine i_i2l (pc' := 600) (f_at inc_358 (j := 222) rfl) rfl ?_
      refine i_lcmp (pc' := 601) (f_at inc_358 (j := 223) rfl) rfl ?_
      refine i_if0 (pc' := 606) (nx := 604) c0_eq (f_at inc_358 (j := 224) rfl) ⟨by decide, rfl⟩ (fun b57 => ?_) (fun b57 => ?_)
      · refine i_goto (pc' := 2923) (f_at inc_358 (j := 227) rfl) (by decide) ?_
        exact hk t54.2 (.int t52.1, .int t54.1, u.2.2.1, u.2.2.2) (c - 1) (n - 6) (by omega) (by omega)
      · refine i_iconst (pc' := 605) (f_at inc_358 (j := 225) rfl) ci_0 rfl ?_
        exact f_none
  · refine i_iconst (pc' := 588) (f_at inc_358 (j := 214) rfl) ci_0 rfl ?_
    exact f_none
set_option maxRecDepth 100000 in
def lw_11 (xs : Nat → Int32) (L : Nat) (i : Int32) (σ : f_M) : Option f_M :=
  (if (i + (1 : Int32)) < 0 ∨ L ≤ ((i + (1 : Int32))).toNatClampNeg then none else some (xs ((i + (1 : Int32))).toNatClampNeg)).bind fun v60 =>
  (g_183 v60 σ).bind fun t61 =>
  (if (i + (1 : Int32)) < 0 ∨ L ≤ ((i + (1 : Int32))).toNatClampNeg then none else some (xs ((i + (1 : Int32))).toNatClampNeg)).bind fun v62 =>
  (g_185 v62 t61.2).bind fun t63 =>
  (g_178  t63.2).bind fun t64 =>
  if t64 = t61.1 then (
   if ¬ t61.1 = 0 then (
    some t63.2
   ) else (
    (f_rd t63.2 167 1 (0 : Int32)).bind fun v65 =>
    if (lg_cmp (v65).toInt64 (t63.1).toInt64) = 0 then (
     some t63.2
    ) else (
     none
    )
   )
  ) else (
   none
  )
set_option maxRecDepth 100000 in
theorem LW_11 {xs : Nat → Int32} {L c n : Nat} (i : Int32) (σ : f_M) (u : Value × Value × Value × Value) (hc : 7 ≤ c ∧ 42 ≤ n) (k9 : f_M → Option f_W) (hk : ∀ (σ' : f_M) (u' : Value × Value × Value × Value) (c' n' : Nat), c ≤ c' + 7 → n ≤ n' + 42 → f_Sim a_MT xs L 168 md_358 2923 [.ref a_big, .ref 0, .ref 155, .ref 167, .int i, u'.1, u'.2.1, u'.2.2.1, u'.2.2.2] [] σ' c' n' (k9 σ')) : f_Sim a_MT xs L 168 md_358 609 [.ref a_big, .ref 0, .ref 155, .ref 167, .int i, u.1, u.2.1, u.2.2.1, u.2.2.2] [] σ c n ((lw_11 xs L i σ).bind k9) := by
  have hN : 168 ≤ 168 := Nat.le_refl _
  unfold lw_11
  refine i_aload_n (pc' := 610) (f_at inc_358 (j := 228) rfl) rfl rfl ?_
  refine i_aload_n (pc' := 611) (f_at inc_358 (j := 229) rfl) rfl rfl ?_
  refine i_iload (pc' := 613) (f_at inc_358 (j := 230) rfl) rfl rfl ?_
  refine i_iconst (pc' := 614) (f_at inc_358 (j := 231) rfl) ci_1 rfl ?_
  refine i_iadd (pc' := 615) (f_at inc_358 (j := 232) rfl) rfl ?_
  refine i_xald (pc' := 616) (f_at inc_358 (j := 233) rfl) rfl fun v60 ev60 => ?_
  refine i_aload_n (pc' := 617) (f_at inc_358 (j := 234) rfl) rfl rfl ?_
  refine c_wi (pc' := 620) (c' := (c - 1)) (n' := (n - 6)) (h_stat (ra := [.ref 167, .int v60, .ref 0]) (r := []) (as := [.ref 0, .int v60, .ref 167]) (f_at inc_358 (j := 235) rfl) (by decide) MT_183 rfl rfl rfl ⟨(show 1 ≤ c from by omega), (show 6 ≤ n from by omega), Nat.le_of_ble_eq_true rfl⟩) MT_183 (G_183 hN v60 σ) ⟨rfl, rfl, rfl⟩ fun t61 => ?_
  refine i_istore (pc' := 622) (ls' := [.ref a_big, .ref 0, .ref 155, .ref 167, .int i, .int t61.1, u.2.1, u.2.2.1, u.2.2.2]) (f_at inc_358 (j := 236) rfl) (Nat.le_of_ble_eq_true rfl) rfl rfl ?_
  refine i_aload_n (pc' := 623) (f_at inc_358 (j := 237) rfl) rfl rfl ?_
  refine i_aload_n (pc' := 624) (f_at inc_358 (j := 238) rfl) rfl rfl ?_
  refine i_iload (pc' := 626) (f_at inc_358 (j := 239) rfl) rfl rfl ?_
  refine i_iconst (pc' := 627) (f_at inc_358 (j := 240) rfl) ci_1 rfl ?_
  refine i_iadd (pc' := 628) (f_at inc_358 (j := 241) rfl) rfl ?_
  refine i_xald (pc' := 629) (f_at inc_358 (j := 242) rfl) rfl fun v62 ev62 => ?_
  refine c_wi (pc' := 632) (c' := (c - 1)) (n' := (n - 6)) (h_virt (ra := [.int v62, .ref 155]) (r := []) (as := [.int v62]) (f_at inc_358 (j := 243) rfl) (by decide) MT_185 rfl rfl rfl ⟨(show 0 ≤ (c - 1) from by omega), (show 0 ≤ (n - 6) from by omega), Nat.le_of_ble_eq_true rfl⟩ sh_155 (f_lt (o := 155) (m := 168) (Nat.le_of_ble_eq_true rfl) hN)) MT_185 (G_185 (Nat.le_trans (Nat.le_of_ble_eq_true rfl) hN) v62 t61.2) ⟨rfl, rfl, rfl⟩ fun t63 => ?_
  refine i_istore (pc' := 634) (ls' := [.ref a_big, .ref 0, .ref 155, .ref 167, .int i, .int t61.1, .int t63.1, u.2.2.1, u.2.2.2]) (f_at inc_358 (j := 244) rfl) (Nat.le_of_ble_eq_true rfl) rfl rfl ?_
  refine i_aload_n (pc' := 635) (f_at inc_358 (j := 245) rfl) rfl rfl ?_
  refine c_pi (pc' := 638) (c' := (c - 1)) (n' := (n - 6)) (h_virt (ra := [.ref 155]) (r := []) (as := []) (f_at inc_358 (j := 246) rfl) (by decide) MT_178 rfl rfl rfl ⟨(show 0 ≤ (c - 1) from by omega), (show 0 ≤ (n - 6) from by omega), Nat.le_of_ble_eq_true rfl⟩ sh_155 (f_lt (o := 155) (m := 168) (Nat.le_of_ble_eq_true rfl) hN)) MT_178 (G_178 (Nat.le_trans (Nat.le_of_ble_eq_true rfl) hN)  t63.2) ⟨rfl, rfl, rfl⟩ fun t64 => ?_
  refine i_iload (pc' := 640) (f_at inc_358 (j := 247) rfl) rfl rfl ?_
  refine i_if2 (pc' := 645) (nx := 643) c2_eq (f_at inc_358 (j := 248) rfl) ⟨by decide, rfl⟩ (fun b68 => ?_) (fun b68 => ?_)
  · refine i_iload (pc' := 647) (f_at inc_358 (j := 251) rfl) rfl rfl ?_
    refine i_if0 (pc' := 662) (nx := 650) c0_ne (f_at inc_358 (j := 252) rfl) ⟨by decide, rfl⟩ (fun b67 => ?_) (fun b67 => ?_)
    · refine i_goto (pc' := 2923) (f_at inc_358 (j := 262) rfl) (by decide) ?_
      exact hk t63.2 (.int t61.1, .int t63.1, u.2.2.1, u.2.2.2) (c - 1) (n - 6) (by omega) (by omega)
    · refine i_aload_n (pc' := 651) (f_at inc_358 (j := 253) rfl) rfl rfl ?_
      refine i_iconst (pc' := 652) (f_at inc_358 (j := 254) rfl) ci_0 rfl ?_
      refine i_lald (pc' := 653) (f_at inc_358 (j := 255) rfl) sh_167 (f_bg (Nat.le_of_ble_eq_true rfl)) (f_lt (o := 167) (m := 168) (Nat.le_of_ble_eq_true rfl) hN) rfl fun v65 => ?_
      refine i_iload (pc' := 655) (f_at inc_358 (j := 256) rfl) rfl rfl ?_
      refine i_i2l (pc' := 656) (f_at inc_358 (j := 257) rfl) rfl ?_
      refine i_lcmp (pc' := 657) (f_at inc_358 (j := 258) rfl) rfl ?_
      refine i_if0 (pc' := 662) (nx := 660) c0_eq (f_at inc_358 (j := 259) rfl) ⟨by decide, rfl⟩ (fun b66 => ?_) (fun b66 => ?_)
      · refine i_goto (pc' := 2923) (f_at inc_358 (j := 262) rfl) (by decide) ?_
        exact hk t63.2 (.int t61.1, .int t63.1, u.2.2.1, u.2.2.2) (c - 1) (n - 6) (by omega) (by omega)
      · refine i_iconst (pc' := 661) (f_at inc_358 (j := 260) rfl) ci_0 rfl ?_
        exact f_none
  · refine i_iconst (pc' := 644) (f_at inc_358 (j := 249) rfl) ci_0 rfl ?_
    exact f_none
set_option maxRecDepth 100000 in
def lw_12 (xs : Nat → Int32) (L : Nat) (i : Int32) (σ : f_M) : Option f_M :=
  (if (i + (1 : Int32)) < 0 ∨ L ≤ ((i + (1 : Int32))).toNatClampNeg then none else some (xs ((i + (1 : Int32))).toNatClampNeg)).bind fun v69 =>
  (g_188 v69 σ).bind fun t70 =>
  (if (i + (1 : Int32)) < 0 ∨ L ≤ ((i + (1 : Int32))).toNatClampNeg then none else some (xs ((i + (1 : Int32))).toNatClampNeg)).bind fun v71 =>
  (g_190 v71 t70.2).bind fun t72 =>
  (g_178  t72.2).bind fun t73 =>
  if t73 = t70.1 then (
   if ¬ t70.1 = 0 then (
    some t72.2
   ) else (
    (f_rd t72.2 167 1 (0 : Int32)).bind fun v74 =>
    if (lg_cmp (v74).toInt64 (t72.1).toInt64) = 0 then (
     some t72.2
    ) else (
     none
    )
   )
  ) else (
   none
  )
set_option maxRecDepth 100000 in
theorem LW_12 {xs : Nat → Int32} {L c n : Nat} (i : Int32) (σ : f_M) (u : Value × Value × Value × Value) (hc : 7 ≤ c ∧ 42 ≤ n) (k9 : f_M → Option f_W) (hk : ∀ (σ' : f_M) (u' : Value × Value × Value × Value) (c' n' : Nat), c ≤ c' + 7 → n ≤ n' + 42 → f_Sim a_MT xs L 168 md_358 2923 [.ref a_big, .ref 0, .ref 155, .ref 167, .int i, u'.1, u'.2.1, u'.2.2.1, u'.2.2.2] [] σ' c' n' (k9 σ')) : f_Sim a_MT xs L 168 md_358 665 [.ref a_big, .ref 0, .ref 155, .ref 167, .int i, u.1, u.2.1, u.2.2.1, u.2.2.2] [] σ c n ((lw_12 xs L i σ).bind k9) := by
  have hN : 168 ≤ 168 := Nat.le_refl _
  unfold lw_12
  refine i_aload_n (pc' := 666) (f_at inc_358 (j := 263) rfl) rfl rfl ?_
  refine i_aload_n (pc' := 667) (f_at inc_358 (j := 264) rfl) rfl rfl ?_
  refine i_iload (pc' := 669) (f_at inc_358 (j := 265) rfl) rfl rfl ?_
  refine i_iconst (pc' := 670) (f_at inc_358 (j := 266) rfl) ci_1 rfl ?_
  refine i_iadd (pc' := 671) (f_at inc_358 (j := 267) rfl) rfl ?_
  refine i_xald (pc' := 672) (f_at inc_358 (j := 268) rfl) rfl fun v69 ev69 => ?_
  refine i_aload_n (pc' := 673) (f_at inc_358 (j := 269) rfl) rfl rfl ?_
  refine c_wi (pc' := 676) (c' := (c - 1)) (n' := (n - 6)) (h_stat (ra := [.ref 167, .int v69, .ref 0]) (r := []) (as := [.ref 0, .int v69, .ref 167]) (f_at inc_358 (j := 270) rfl) (by decide) MT_188 rfl rfl rfl ⟨(show 1 ≤ c from by omega), (show 6 ≤ n from by omega), Nat.le_of_ble_eq_true rfl⟩) MT_188 (G_188 hN v69 σ) ⟨rfl, rfl, rfl⟩ fun t70 => ?_
  refine i_istore (pc' := 678) (ls' := [.ref a_big, .ref 0, .ref 155, .ref 167, .int i, .int t70.1, u.2.1, u.2.2.1, u.2.2.2]) (f_at inc_358 (j := 271) rfl) (Nat.le_of_ble_eq_true rfl) rfl rfl ?_
  refine i_aload_n (pc' := 679) (f_at inc_358 (j := 272) rfl) rfl rfl ?_
  refine i_aload_n (pc' := 680) (f_at inc_358 (j := 273) rfl) rfl rfl ?_
  refine i_iload (pc' := 682) (f_at inc_358 (j := 274) rfl) rfl rfl ?_
  refine i_iconst (pc' := 683) (f_at inc_358 (j := 275) rfl) ci_1 rfl ?_
  refine i_iadd (pc' := 684) (f_at inc_358 (j := 276) rfl) rfl ?_
  refine i_xald (pc' := 685) (f_at inc_358 (j := 277) rfl) rfl fun v71 ev71 => ?_
  refine c_wi (pc' := 688) (c' := (c - 1)) (n' := (n - 6)) (h_virt (ra := [.int v71, .ref 155]) (r := []) (as := [.int v71]) (f_at inc_358 (j := 278) rfl) (by decide) MT_190 rfl rfl rfl ⟨(show 0 ≤ (c - 1) from by omega), (show 0 ≤ (n - 6) from by omega), Nat.le_of_ble_eq_true rfl⟩ sh_155 (f_lt (o := 155) (m := 168) (Nat.le_of_ble_eq_true rfl) hN)) MT_190 (G_190 (Nat.le_trans (Nat.le_of_ble_eq_true rfl) hN) v71 t70.2) ⟨rfl, rfl, rfl⟩ fun t72 => ?_
  refine i_istore (pc' := 690) (ls' := [.ref a_big, .ref 0, .ref 155, .ref 167, .int i, .int t70.1, .int t72.1, u.2.2.1, u.2.2.2]) (f_at inc_358 (j := 279) rfl) (Nat.le_of_ble_eq_true rfl) rfl rfl ?_
  refine i_aload_n (pc' := 691) (f_at inc_358 (j := 280) rfl) rfl rfl ?_
  refine c_pi (pc' := 694) (c' := (c - 1)) (n' := (n - 6)) (h_virt (ra := [.ref 155]) (r := []) (as := []) (f_at inc_358 (j := 281) rfl) (by decide) MT_178 rfl rfl rfl ⟨(show 0 ≤ (c - 1) from by omega), (show 0 ≤ (n - 6) from by omega), Nat.le_of_ble_eq_true rfl⟩ sh_155 (f_lt (o := 155) (m := 168) (Nat.le_of_ble_eq_true rfl) hN)) MT_178 (G_178 (Nat.le_trans (Nat.le_of_ble_eq_true rfl) hN)  t72.2) ⟨rfl, rfl, rfl⟩ fun t73 => ?_
  refine i_iload (pc' := 696) (f_at inc_358 (j := 282) rfl) rfl rfl ?_
  refine i_if2 (pc' := 701) (nx := 699) c2_eq (f_at inc_358 (j := 283) rfl) ⟨by decide, rfl⟩ (fun b77 => ?_) (fun b77 => ?_)
  · refine i_iload (pc' := 703) (f_at inc_358 (j := 286) rfl) rfl rfl ?_
    refine i_if0 (pc' := 718) (nx := 706) c0_ne (f_at inc_358 (j := 287) rfl) ⟨by decide, rfl⟩ (fun b76 => ?_) (fun b76 => ?_)
    · refine i_goto (pc' := 2923) (f_at inc_358 (j := 297) rfl) (by decide) ?_
      exact hk t72.2 (.int t70.1, .int t72.1, u.2.2.1, u.2.2.2) (c - 1) (n - 6) (by omega) (by omega)
    · refine i_aload_n (pc' := 707) (f_at inc_358 (j := 288) rfl) rfl rfl ?_
      refine i_iconst (pc' := 708) (f_at inc_358 (j := 289) rfl) ci_0 rfl ?_
      refine i_lald (pc' := 709) (f_at inc_358 (j := 290) rfl) sh_167 (f_bg (Nat.le_of_ble_eq_true rfl)) (f_lt (o := 167) (m := 168) (Nat.le_of_ble_eq_true rfl) hN) rfl fun v74 => ?_
      refine i_iload (pc' := 711) (f_at inc_358 (j := 291) rfl) rfl rfl ?_
      refine i_i2l (pc' := 712) (f_at inc_358 (j := 292) rfl) rfl ?_
      refine i_lcmp (pc' := 713) (f_at inc_358 (j := 293) rfl) rfl ?_
      refine i_if0 (pc' := 718) (nx := 716) c0_eq (f_at inc_358 (j := 294) rfl) ⟨by decide, rfl⟩ (fun b75 => ?_) (fun b75 => ?_)
      · refine i_goto (pc' := 2923) (f_at inc_358 (j := 297) rfl) (by decide) ?_
        exact hk t72.2 (.int t70.1, .int t72.1, u.2.2.1, u.2.2.2) (c - 1) (n - 6) (by omega) (by omega)
      · refine i_iconst (pc' := 717) (f_at inc_358 (j := 295) rfl) ci_0 rfl ?_
        exact f_none
  · refine i_iconst (pc' := 700) (f_at inc_358 (j := 284) rfl) ci_0 rfl ?_
    exact f_none
set_option maxRecDepth 100000 in
def lw_13 (xs : Nat → Int32) (L : Nat) (i : Int32) (σ : f_M) : Option f_M :=
  (if (i + (1 : Int32)) < 0 ∨ L ≤ ((i + (1 : Int32))).toNatClampNeg then none else some (xs ((i + (1 : Int32))).toNatClampNeg)).bind fun v78 =>
  (g_192 v78 σ).bind fun t79 =>
  (if (i + (1 : Int32)) < 0 ∨ L ≤ ((i + (1 : Int32))).toNatClampNeg then none else some (xs ((i + (1 : Int32))).toNatClampNeg)).bind fun v80 =>
  (g_193 v80 t79.2).bind fun t81 =>
  (g_178  t81.2).bind fun t82 =>
  if t82 = t79.1 then (
   if ¬ t79.1 = 0 then (
    some t81.2
   ) else (
    (f_rd t81.2 167 1 (0 : Int32)).bind fun v83 =>
    if (lg_cmp (v83).toInt64 (t81.1).toInt64) = 0 then (
     some t81.2
    ) else (
     none
    )
   )
  ) else (
   none
  )
set_option maxRecDepth 100000 in
theorem LW_13 {xs : Nat → Int32} {L c n : Nat} (i : Int32) (σ : f_M) (u : Value × Value × Value × Value) (hc : 7 ≤ c ∧ 42 ≤ n) (k9 : f_M → Option f_W) (hk : ∀ (σ' : f_M) (u' : Value × Value × Value × Value) (c' n' : Nat), c ≤ c' + 7 → n ≤ n' + 42 → f_Sim a_MT xs L 168 md_358 2923 [.ref a_big, .ref 0, .ref 155, .ref 167, .int i, u'.1, u'.2.1, u'.2.2.1, u'.2.2.2] [] σ' c' n' (k9 σ')) : f_Sim a_MT xs L 168 md_358 721 [.ref a_big, .ref 0, .ref 155, .ref 167, .int i, u.1, u.2.1, u.2.2.1, u.2.2.2] [] σ c n ((lw_13 xs L i σ).bind k9) := by
  have hN : 168 ≤ 168 := Nat.le_refl _
  unfold lw_13
  refine i_aload_n (pc' := 722) (f_at inc_358 (j := 298) rfl) rfl rfl ?_
  refine i_aload_n (pc' := 723) (f_at inc_358 (j := 299) rfl) rfl rfl ?_
  refine i_iload (pc' := 725) (f_at inc_358 (j := 300) rfl) rfl rfl ?_
  refine i_iconst (pc' := 726) (f_at inc_358 (j := 301) rfl) ci_1 rfl ?_
  refine i_iadd (pc' := 727) (f_at inc_358 (j := 302) rfl) rfl ?_
  refine i_xald (pc' := 728) (f_at inc_358 (j := 303) rfl) rfl fun v78 ev78 => ?_
  refine i_aload_n (pc' := 729) (f_at inc_358 (j := 304) rfl) rfl rfl ?_
  refine c_wi (pc' := 732) (c' := (c - 1)) (n' := (n - 6)) (h_stat (ra := [.ref 167, .int v78, .ref 0]) (r := []) (as := [.ref 0, .int v78, .ref 167]) (f_at inc_358 (j := 305) rfl) (by decide) MT_192 rfl rfl rfl ⟨(show 1 ≤ c from by omega), (show 6 ≤ n from by omega), Nat.le_of_ble_eq_true rfl⟩) MT_192 (G_192 hN v78 σ) ⟨rfl, rfl, rfl⟩ fun t79 => ?_
  refine i_istore (pc' := 734) (ls' := [.ref a_big, .ref 0, .ref 155, .ref 167, .int i, .int t79.1, u.2.1, u.2.2.1, u.2.2.2]) (f_at inc_358 (j := 306) rfl) (Nat.le_of_ble_eq_true rfl) rfl rfl ?_
  refine i_aload_n (pc' := 735) (f_at inc_358 (j := 307) rfl) rfl rfl ?_
  refine i_aload_n (pc' := 736) (f_at inc_358 (j := 308) rfl) rfl rfl ?_
  refine i_iload (pc' := 738) (f_at inc_358 (j := 309) rfl) rfl rfl ?_
  refine i_iconst (pc' := 739) (f_at inc_358 (j := 310) rfl) ci_1 rfl ?_
  refine i_iadd (pc' := 740) (f_at inc_358 (j := 311) rfl) rfl ?_
  refine i_xald (pc' := 741) (f_at inc_358 (j := 312) rfl) rfl fun v80 ev80 => ?_
  refine c_wi (pc' := 744) (c' := (c - 1)) (n' := (n - 6)) (h_virt (ra := [.int v80, .ref 155]) (r := []) (as := [.int v80]) (f_at inc_358 (j := 313) rfl) (by decide) MT_193 rfl rfl rfl ⟨(show 0 ≤ (c - 1) from by omega), (show 0 ≤ (n - 6) from by omega), Nat.le_of_ble_eq_true rfl⟩ sh_155 (f_lt (o := 155) (m := 168) (Nat.le_of_ble_eq_true rfl) hN)) MT_193 (G_193 (Nat.le_trans (Nat.le_of_ble_eq_true rfl) hN) v80 t79.2) ⟨rfl, rfl, rfl⟩ fun t81 => ?_
  refine i_istore (pc' := 746) (ls' := [.ref a_big, .ref 0, .ref 155, .ref 167, .int i, .int t79.1, .int t81.1, u.2.2.1, u.2.2.2]) (f_at inc_358 (j := 314) rfl) (Nat.le_of_ble_eq_true rfl) rfl rfl ?_
  refine i_aload_n (pc' := 747) (f_at inc_358 (j := 315) rfl) rfl rfl ?_
  refine c_pi (pc' := 750) (c' := (c - 1)) (n' := (n - 6)) (h_virt (ra := [.ref 155]) (r := []) (as := []) (f_at inc_358 (j := 316) rfl) (by decide) MT_178 rfl rfl rfl ⟨(show 0 ≤ (c - 1) from by omega), (show 0 ≤ (n - 6) from by omega), Nat.le_of_ble_eq_true rfl⟩ sh_155 (f_lt (o := 155) (m := 168) (Nat.le_of_ble_eq_true rfl) hN)) MT_178 (G_178 (Nat.le_trans (Nat.le_of_ble_eq_true rfl) hN)  t81.2) ⟨rfl, rfl, rfl⟩ fun t82 => ?_
  refine i_iload (pc' := 752) (f_at inc_358 (j := 317) rfl) rfl rfl ?_
  refine i_if2 (pc' := 757) (nx := 755) c2_eq (f_at inc_358 (j := 318) rfl) ⟨by decide, rfl⟩ (fun b86 => ?_) (fun b86 => ?_)
  · refine i_iload (pc' := 759) (f_at inc_358 (j := 321) rfl) rfl rfl ?_
    refine i_if0 (pc' := 774) (nx := 762) c0_ne (f_at inc_358 (j := 322) rfl) ⟨by decide, rfl⟩ (fun b85 => ?_) (fun b85 => ?_)
    · refine i_goto (pc' := 2923) (f_at inc_358 (j := 332) rfl) (by decide) ?_
      exact hk t81.2 (.int t79.1, .int t81.1, u.2.2.1, u.2.2.2) (c - 1) (n - 6) (by omega) (by omega)
    · refine i_aload_n (pc' := 763) (f_at inc_358 (j := 323) rfl) rfl rfl ?_
      refine i_iconst (pc' := 764) (f_at inc_358 (j := 324) rfl) ci_0 rfl ?_
      refine i_lald (pc' := 765) (f_at inc_358 (j := 325) rfl) sh_167 (f_bg (Nat.le_of_ble_eq_true rfl)) (f_lt (o := 167) (m := 168) (Nat.le_of_ble_eq_true rfl) hN) rfl fun v83 => ?_
      refine i_iload (pc' := 767) (f_at inc_358 (j := 326) rfl) rfl rfl ?_
      refine i_i2l (pc' := 768) (f_at inc_358 (j := 327) rfl) rfl ?_
      refine i_lcmp (pc' := 769) (f_at inc_358 (j := 328) rfl) rfl ?_
      refine i_if0 (pc' := 774) (nx := 772) c0_eq (f_at inc_358 (j := 329) rfl) ⟨by decide, rfl⟩ (fun b84 => ?_) (fun b84 => ?_)
      · refine i_goto (pc' := 2923) (f_at inc_358 (j := 332) rfl) (by decide) ?_
        exact hk t81.2 (.int t79.1, .int t81.1, u.2.2.1, u.2.2.2) (c - 1) (n - 6) (by omega) (by omega)
      · refine i_iconst (pc' := 773) (f_at inc_358 (j := 330) rfl) ci_0 rfl ?_
        exact f_none
  · refine i_iconst (pc' := 756) (f_at inc_358 (j := 319) rfl) ci_0 rfl ?_
    exact f_none
set_option maxRecDepth 100000 in
def lw_14 (xs : Nat → Int32) (L : Nat) (i : Int32) (σ : f_M) : Option f_M :=
  (g_194  σ).bind fun t87 =>
  (g_195  σ).bind fun t88 =>
  if t87 = t88.1 then (
   some t88.2
  ) else (
   none
  )
set_option maxRecDepth 100000 in
theorem LW_14 {xs : Nat → Int32} {L c n : Nat} (i : Int32) (σ : f_M) (u : Value × Value × Value × Value) (hc : 7 ≤ c ∧ 42 ≤ n) (k9 : f_M → Option f_W) (hk : ∀ (σ' : f_M) (u' : Value × Value × Value × Value) (c' n' : Nat), c ≤ c' + 7 → n ≤ n' + 42 → f_Sim a_MT xs L 168 md_358 2923 [.ref a_big, .ref 0, .ref 155, .ref 167, .int i, u'.1, u'.2.1, u'.2.2.1, u'.2.2.2] [] σ' c' n' (k9 σ')) : f_Sim a_MT xs L 168 md_358 777 [.ref a_big, .ref 0, .ref 155, .ref 167, .int i, u.1, u.2.1, u.2.2.1, u.2.2.2] [] σ c n ((lw_14 xs L i σ).bind k9) := by
  have hN : 168 ≤ 168 := Nat.le_refl _
  unfold lw_14
  refine i_aload_n (pc' := 778) (f_at inc_358 (j := 333) rfl) rfl rfl ?_
  refine c_pi (pc' := 781) (c' := c) (n' := n) (h_virt (ra := [.ref 0]) (r := []) (as := []) (f_at inc_358 (j := 334) rfl) (by decide) MT_194 rfl rfl rfl ⟨(show 0 ≤ c from by omega), (show 0 ≤ n from by omega), Nat.le_of_ble_eq_true rfl⟩ sh_0 (f_lt (o := 0) (m := 168) (Nat.le_of_ble_eq_true rfl) hN)) MT_194 (G_194 (Nat.le_trans (Nat.le_of_ble_eq_true rfl) hN)  σ) ⟨rfl, rfl, rfl⟩ fun t87 => ?_
  refine i_aload_n (pc' := 782) (f_at inc_358 (j := 335) rfl) rfl rfl ?_
  refine c_wi (pc' := 785) (c' := c) (n' := n) (h_virt (ra := [.ref 155]) (r := [.int t87]) (as := []) (f_at inc_358 (j := 336) rfl) (by decide) MT_195 rfl rfl rfl ⟨(show 0 ≤ c from by omega), (show 0 ≤ n from by omega), Nat.le_of_ble_eq_true rfl⟩ sh_155 (f_lt (o := 155) (m := 168) (Nat.le_of_ble_eq_true rfl) hN)) MT_195 (G_195 (Nat.le_trans (Nat.le_of_ble_eq_true rfl) hN)  σ) ⟨rfl, rfl, rfl⟩ fun t88 => ?_
  refine i_if2 (pc' := 2923) (nx := 788) c2_eq (f_at inc_358 (j := 337) rfl) ⟨by decide, rfl⟩ (fun b89 => ?_) (fun b89 => ?_)
  · exact hk t88.2 (u.1, u.2.1, u.2.2.1, u.2.2.2) c n (by omega) (by omega)
  · refine i_iconst (pc' := 789) (f_at inc_358 (j := 338) rfl) ci_0 rfl ?_
    exact f_none
set_option maxRecDepth 100000 in
def lw_15 (xs : Nat → Int32) (L : Nat) (i : Int32) (σ : f_M) : Option f_M :=
  (if (i + (1 : Int32)) < 0 ∨ L ≤ ((i + (1 : Int32))).toNatClampNeg then none else some (xs ((i + (1 : Int32))).toNatClampNeg)).bind fun v90 =>
  (g_198 v90 σ).bind fun t91 =>
  (if (i + (1 : Int32)) < 0 ∨ L ≤ ((i + (1 : Int32))).toNatClampNeg then none else some (xs ((i + (1 : Int32))).toNatClampNeg)).bind fun v92 =>
  (g_199 v92 t91.2).bind fun t93 =>
  (g_178  t93.2).bind fun t94 =>
  if t94 = t91.1 then (
   if ¬ t91.1 = 0 then (
    some t93.2
   ) else (
    (f_rd t93.2 167 1 (0 : Int32)).bind fun v95 =>
    (
     if t93.1 = false then (
      some (0 : Int32)
     ) else (
      some (1 : Int32)
     )
    ).bind fun (t96 : Int32) =>
    if (lg_cmp (v95).toInt64 (t96).toInt64) = 0 then (
     some t93.2
    ) else (
     none
    )
   )
  ) else (
   none
  )
set_option maxRecDepth 100000 in
theorem LW_15 {xs : Nat → Int32} {L c n : Nat} (i : Int32) (σ : f_M) (u : Value × Value × Value × Value) (hc : 7 ≤ c ∧ 42 ≤ n) (k9 : f_M → Option f_W) (hk : ∀ (σ' : f_M) (u' : Value × Value × Value × Value) (c' n' : Nat), c ≤ c' + 7 → n ≤ n' + 42 → f_Sim a_MT xs L 168 md_358 2923 [.ref a_big, .ref 0, .ref 155, .ref 167, .int i, u'.1, u'.2.1, u'.2.2.1, u'.2.2.2] [] σ' c' n' (k9 σ')) : f_Sim a_MT xs L 168 md_358 790 [.ref a_big, .ref 0, .ref 155, .ref 167, .int i, u.1, u.2.1, u.2.2.1, u.2.2.2] [] σ c n ((lw_15 xs L i σ).bind k9) := by
  have hN : 168 ≤ 168 := Nat.le_refl _
  unfold lw_15
  refine i_aload_n (pc' := 791) (f_at inc_358 (j := 340) rfl) rfl rfl ?_
  refine i_aload_n (pc' := 792) (f_at inc_358 (j := 341) rfl) rfl rfl ?_
  refine i_iload (pc' := 794) (f_at inc_358 (j := 342) rfl) rfl rfl ?_
  refine i_iconst (pc' := 795) (f_at inc_358 (j := 343) rfl) ci_1 rfl ?_
  refine i_iadd (pc' := 796) (f_at inc_358 (j := 344) rfl) rfl ?_
  refine i_xald (pc' := 797) (f_at inc_358 (j := 345) rfl) rfl fun v90 ev90 => ?_
  refine i_aload_n (pc' := 798) (f_at inc_358 (j := 346) rfl) rfl rfl ?_
  refine c_wi (pc' := 801) (c' := (c - 1)) (n' := (n - 6)) (h_stat (ra := [.ref 167, .int v90, .ref 0]) (r := []) (as := [.ref 0, .int v90, .ref 167]) (f_at inc_358 (j := 347) rfl) (by decide) MT_198 rfl rfl rfl ⟨(show 1 ≤ c from by omega), (show 6 ≤ n from by omega), Nat.le_of_ble_eq_true rfl⟩) MT_198 (G_198 hN v90 σ) ⟨rfl, rfl, rfl⟩ fun t91 => ?_
  refine i_istore (pc' := 803) (ls' := [.ref a_big, .ref 0, .ref 155, .ref 167, .int i, .int t91.1, u.2.1, u.2.2.1, u.2.2.2]) (f_at inc_358 (j := 348) rfl) (Nat.le_of_ble_eq_true rfl) rfl rfl ?_
  refine i_aload_n (pc' := 804) (f_at inc_358 (j := 349) rfl) rfl rfl ?_
  refine i_aload_n (pc' := 805) (f_at inc_358 (j := 350) rfl) rfl rfl ?_
  refine i_iload (pc' := 807) (f_at inc_358 (j := 351) rfl) rfl rfl ?_
  refine i_iconst (pc' := 808) (f_at inc_358 (j := 352) rfl) ci_1 rfl ?_
  refine i_iadd (pc' := 809) (f_at inc_358 (j := 353) rfl) rfl ?_
  refine i_xald (pc' := 810) (f_at inc_358 (j := 354) rfl) rfl fun v92 ev92 => ?_
  refine c_wb (pc' := 813) (c' := (c - 1)) (n' := (n - 6)) (h_virt (ra := [.int v92, .ref 155]) (r := []) (as := [.int v92]) (f_at inc_358 (j := 355) rfl) (by decide) MT_199 rfl rfl rfl ⟨(show 0 ≤ (c - 1) from by omega), (show 0 ≤ (n - 6) from by omega), Nat.le_of_ble_eq_true rfl⟩ sh_155 (f_lt (o := 155) (m := 168) (Nat.le_of_ble_eq_true rfl) hN)) MT_199 (G_199 (Nat.le_trans (Nat.le_of_ble_eq_true rfl) hN) v92 t91.2) ⟨rfl, rfl, rfl⟩ fun t93 => ?_
  refine i_istore (pc' := 815) (ls' := [.ref a_big, .ref 0, .ref 155, .ref 167, .int i, .int t91.1, .int (f_b t93.1), u.2.2.1, u.2.2.2]) (f_at inc_358 (j := 356) rfl) (Nat.le_of_ble_eq_true rfl) rfl rfl ?_
  refine i_aload_n (pc' := 816) (f_at inc_358 (j := 357) rfl) rfl rfl ?_
  refine c_pi (pc' := 819) (c' := (c - 1)) (n' := (n - 6)) (h_virt (ra := [.ref 155]) (r := []) (as := []) (f_at inc_358 (j := 358) rfl) (by decide) MT_178 rfl rfl rfl ⟨(show 0 ≤ (c - 1) from by omega), (show 0 ≤ (n - 6) from by omega), Nat.le_of_ble_eq_true rfl⟩ sh_155 (f_lt (o := 155) (m := 168) (Nat.le_of_ble_eq_true rfl) hN)) MT_178 (G_178 (Nat.le_trans (Nat.le_of_ble_eq_true rfl) hN)  t93.2) ⟨rfl, rfl, rfl⟩ fun t94 => ?_
  refine i_iload (pc' := 821) (f_at inc_358 (j := 359) rfl) rfl rfl ?_
  refine i_if2 (pc' := 826) (nx := 824) c2_eq (f_at inc_358 (j := 360) rfl) ⟨by decide, rfl⟩ (fun b100 => ?_) (fun b100 => ?_)
  · refine i_iload (pc' := 828) (f_at inc_358 (j := 363) rfl) rfl rfl ?_
    refine i_if0 (pc' := 850) (nx := 831) c0_ne (f_at inc_358 (j := 364) rfl) ⟨by decide, rfl⟩ (fun b99 => ?_) (fun b99 => ?_)
    · refine i_goto (pc' := 2923) (f_at inc_358 (j := 377) rfl) (by decide) ?_
      exact hk t93.2 (.int t91.1, .int (f_b t93.1), u.2.2.1, u.2.2.2) (c - 1) (n - 6) (by omega) (by omega)
    · refine i_aload_n (pc' := 832) (f_at inc_358 (j := 365) rfl) rfl rfl ?_
      refine i_iconst (pc' := 833) (f_at inc_358 (j := 366) rfl) ci_0 rfl ?_
      refine i_lald (pc' := 834) (f_at inc_358 (j := 367) rfl) sh_167 (f_bg (Nat.le_of_ble_eq_true rfl)) (f_lt (o := 167) (m := 168) (Nat.le_of_ble_eq_true rfl) hN) rfl fun v95 => ?_
      refine i_iload (pc' := 836) (f_at inc_358 (j := 368) rfl) rfl rfl ?_
      refine s_join (J := 844) (fun (t96 : Int32) (u96 : Unit) => [.ref a_big, .ref 0, .ref 155, .ref 167, .int i, .int t91.1, .int (f_b t93.1), u.2.2.1, u.2.2.2]) (fun t96 => [.long (t96).toInt64, .long (v95).toInt64]) (fun t96 => t93.2) ?_ ?_
      · intro t96 u96
        refine i_lcmp (pc' := 845) (f_at inc_358 (j := 373) rfl) rfl ?_
        refine i_if0 (pc' := 850) (nx := 848) c0_eq (f_at inc_358 (j := 374) rfl) ⟨by decide, rfl⟩ (fun b98 => ?_) (fun b98 => ?_)
        · refine i_goto (pc' := 2923) (f_at inc_358 (j := 377) rfl) (by decide) ?_
          exact hk t93.2 (.int t91.1, .int (f_b t93.1), u.2.2.1, u.2.2.2) (c - 1) (n - 6) (by omega) (by omega)
        · refine i_iconst (pc' := 849) (f_at inc_358 (j := 375) rfl) ci_0 rfl ?_
          exact f_none
      · intro k96 hj96
        refine i_if0 (pc' := 843) (nx := 839) cb_eq (f_at inc_358 (j := 369) rfl) ⟨by decide, rfl⟩ (fun b97 => ?_) (fun b97 => ?_)
        · refine i_lconst (pc' := 844) (f_at inc_358 (j := 372) rfl) cl_0 rfl ?_
          exact hj96 (0 : Int32) ()
        · refine i_lconst (pc' := 840) (f_at inc_358 (j := 370) rfl) cl_1 rfl ?_
          refine i_goto (pc' := 844) (f_at inc_358 (j := 371) rfl) (by decide) ?_
          exact hj96 (1 : Int32) ()
  · refine i_iconst (pc' := 825) (f_at inc_358 (j := 361) rfl) ci_0 rfl ?_
    exact f_none
set_option maxRecDepth 100000 in
def lw_16 (xs : Nat → Int32) (L : Nat) (i : Int32) (σ : f_M) : Option f_M :=
  (if (i + (1 : Int32)) < 0 ∨ L ≤ ((i + (1 : Int32))).toNatClampNeg then none else some (xs ((i + (1 : Int32))).toNatClampNeg)).bind fun v101 =>
  (g_201 v101 σ).bind fun t102 =>
  (if (i + (1 : Int32)) < 0 ∨ L ≤ ((i + (1 : Int32))).toNatClampNeg then none else some (xs ((i + (1 : Int32))).toNatClampNeg)).bind fun v103 =>
  (g_203 v103 t102.2).bind fun t104 =>
  (g_178  t104.2).bind fun t105 =>
  if t105 = t102.1 then (
   if ¬ t102.1 = 0 then (
    some t104.2
   ) else (
    (f_rd t104.2 167 1 (0 : Int32)).bind fun v106 =>
    if (lg_cmp (v106).toInt64 (t104.1).toInt64) = 0 then (
     some t104.2
    ) else (
     none
    )
   )
  ) else (
   none
  )
set_option maxRecDepth 100000 in
theorem LW_16 {xs : Nat → Int32} {L c n : Nat} (i : Int32) (σ : f_M) (u : Value × Value × Value × Value) (hc : 7 ≤ c ∧ 42 ≤ n) (k9 : f_M → Option f_W) (hk : ∀ (σ' : f_M) (u' : Value × Value × Value × Value) (c' n' : Nat), c ≤ c' + 7 → n ≤ n' + 42 → f_Sim a_MT xs L 168 md_358 2923 [.ref a_big, .ref 0, .ref 155, .ref 167, .int i, u'.1, u'.2.1, u'.2.2.1, u'.2.2.2] [] σ' c' n' (k9 σ')) : f_Sim a_MT xs L 168 md_358 853 [.ref a_big, .ref 0, .ref 155, .ref 167, .int i, u.1, u.2.1, u.2.2.1, u.2.2.2] [] σ c n ((lw_16 xs L i σ).bind k9) := by
  have hN : 168 ≤ 168 := Nat.le_refl _
  unfold lw_16
  refine i_aload_n (pc' := 854) (f_at inc_358 (j := 378) rfl) rfl rfl ?_
  refine i_aload_n (pc' := 855) (f_at inc_358 (j := 379) rfl) rfl rfl ?_
  refine i_iload (pc' := 857) (f_at inc_358 (j := 380) rfl) rfl rfl ?_
  refine i_iconst (pc' := 858) (f_at inc_358 (j := 381) rfl) ci_1 rfl ?_
  refine i_iadd (pc' := 859) (f_at inc_358 (j := 382) rfl) rfl ?_
  refine i_xald (pc' := 860) (f_at inc_358 (j := 383) rfl) rfl fun v101 ev101 => ?_
  refine i_aload_n (pc' := 861) (f_at inc_358 (j := 384) rfl) rfl rfl ?_
  refine c_wi (pc' := 864) (c' := (c - 1)) (n' := (n - 6)) (h_stat (ra := [.ref 167, .int v101, .ref 0]) (r := []) (as := [.ref 0, .int v101, .ref 167]) (f_at inc_358 (j := 385) rfl) (by decide) MT_201 rfl rfl rfl ⟨(show 1 ≤ c from by omega), (show 6 ≤ n from by omega), Nat.le_of_ble_eq_true rfl⟩) MT_201 (G_201 hN v101 σ) ⟨rfl, rfl, rfl⟩ fun t102 => ?_
  refine i_istore (pc' := 866) (ls' := [.ref a_big, .ref 0, .ref 155, .ref 167, .int i, .int t102.1, u.2.1, u.2.2.1, u.2.2.2]) (f_at inc_358 (j := 386) rfl) (Nat.le_of_ble_eq_true rfl) rfl rfl ?_
  refine i_aload_n (pc' := 867) (f_at inc_358 (j := 387) rfl) rfl rfl ?_
  refine i_aload_n (pc' := 868) (f_at inc_358 (j := 388) rfl) rfl rfl ?_
  refine i_iload (pc' := 870) (f_at inc_358 (j := 389) rfl) rfl rfl ?_
  refine i_iconst (pc' := 871) (f_at inc_358 (j := 390) rfl) ci_1 rfl ?_
  refine i_iadd (pc' := 872) (f_at inc_358 (j := 391) rfl) rfl ?_
  refine i_xald (pc' := 873) (f_at inc_358 (j := 392) rfl) rfl fun v103 ev103 => ?_
  refine c_wi (pc' := 876) (c' := (c - 1)) (n' := (n - 6)) (h_virt (ra := [.int v103, .ref 155]) (r := []) (as := [.int v103]) (f_at inc_358 (j := 393) rfl) (by decide) MT_203 rfl rfl rfl ⟨(show 0 ≤ (c - 1) from by omega), (show 0 ≤ (n - 6) from by omega), Nat.le_of_ble_eq_true rfl⟩ sh_155 (f_lt (o := 155) (m := 168) (Nat.le_of_ble_eq_true rfl) hN)) MT_203 (G_203 (Nat.le_trans (Nat.le_of_ble_eq_true rfl) hN) v103 t102.2) ⟨rfl, rfl, rfl⟩ fun t104 => ?_
  refine i_istore (pc' := 878) (ls' := [.ref a_big, .ref 0, .ref 155, .ref 167, .int i, .int t102.1, .int t104.1, u.2.2.1, u.2.2.2]) (f_at inc_358 (j := 394) rfl) (Nat.le_of_ble_eq_true rfl) rfl rfl ?_
  refine i_aload_n (pc' := 879) (f_at inc_358 (j := 395) rfl) rfl rfl ?_
  refine c_pi (pc' := 882) (c' := (c - 1)) (n' := (n - 6)) (h_virt (ra := [.ref 155]) (r := []) (as := []) (f_at inc_358 (j := 396) rfl) (by decide) MT_178 rfl rfl rfl ⟨(show 0 ≤ (c - 1) from by omega), (show 0 ≤ (n - 6) from by omega), Nat.le_of_ble_eq_true rfl⟩ sh_155 (f_lt (o := 155) (m := 168) (Nat.le_of_ble_eq_true rfl) hN)) MT_178 (G_178 (Nat.le_trans (Nat.le_of_ble_eq_true rfl) hN)  t104.2) ⟨rfl, rfl, rfl⟩ fun t105 => ?_
  refine i_iload (pc' := 884) (f_at inc_358 (j := 397) rfl) rfl rfl ?_
  refine i_if2 (pc' := 889) (nx := 887) c2_eq (f_at inc_358 (j := 398) rfl) ⟨by decide, rfl⟩ (fun b109 => ?_) (fun b109 => ?_)
  · refine i_iload (pc' := 891) (f_at inc_358 (j := 401) rfl) rfl rfl ?_
    refine i_if0 (pc' := 906) (nx := 894) c0_ne (f_at inc_358 (j := 402) rfl) ⟨by decide, rfl⟩ (fun b108 => ?_) (fun b108 => ?_)
    · refine i_goto (pc' := 2923) (f_at inc_358 (j := 412) rfl) (by decide) ?_
      exact hk t104.2 (.int t102.1, .int t104.1, u.2.2.1, u.2.2.2) (c - 1) (n - 6) (by omega) (by omega)
    · refine i_aload_n (pc' := 895) (f_at inc_358 (j := 403) rfl) rfl rfl ?_
      refine i_iconst (pc' := 896) (f_at inc_358 (j := 404) rfl) ci_0 rfl ?_
      refine i_lald (pc' := 897) (f_at inc_358 (j := 405) rfl) sh_167 (f_bg (Nat.le_of_ble_eq_true rfl)) (f_lt (o := 167) (m := 168) (Nat.le_of_ble_eq_true rfl) hN) rfl fun v106 => ?_
      refine i_iload (pc' := 899) (f_at inc_358 (j := 406) rfl) rfl rfl ?_
      refine i_i2l (pc' := 900) (f_at inc_358 (j := 407) rfl) rfl ?_
      refine i_lcmp (pc' := 901) (f_at inc_358 (j := 408) rfl) rfl ?_
      refine i_if0 (pc' := 906) (nx := 904) c0_eq (f_at inc_358 (j := 409) rfl) ⟨by decide, rfl⟩ (fun b107 => ?_) (fun b107 => ?_)
      · refine i_goto (pc' := 2923) (f_at inc_358 (j := 412) rfl) (by decide) ?_
        exact hk t104.2 (.int t102.1, .int t104.1, u.2.2.1, u.2.2.2) (c - 1) (n - 6) (by omega) (by omega)
      · refine i_iconst (pc' := 905) (f_at inc_358 (j := 410) rfl) ci_0 rfl ?_
        exact f_none
  · refine i_iconst (pc' := 888) (f_at inc_358 (j := 399) rfl) ci_0 rfl ?_
    exact f_none
set_option maxRecDepth 100000 in
def lw_17 (xs : Nat → Int32) (L : Nat) (i : Int32) (σ : f_M) : Option f_M :=
  (if (i + (1 : Int32)) < 0 ∨ L ≤ ((i + (1 : Int32))).toNatClampNeg then none else some (xs ((i + (1 : Int32))).toNatClampNeg)).bind fun v110 =>
  (g_205 v110 σ).bind fun t111 =>
  (if (i + (1 : Int32)) < 0 ∨ L ≤ ((i + (1 : Int32))).toNatClampNeg then none else some (xs ((i + (1 : Int32))).toNatClampNeg)).bind fun v112 =>
  (g_206 v112 t111.2).bind fun t113 =>
  (g_178  t113.2).bind fun t114 =>
  if t114 = t111.1 then (
   if ¬ t111.1 = 0 then (
    some t113.2
   ) else (
    (f_rd t113.2 167 1 (0 : Int32)).bind fun v115 =>
    if (lg_cmp (v115).toInt64 (t113.1).toInt64) = 0 then (
     some t113.2
    ) else (
     none
    )
   )
  ) else (
   none
  )
set_option maxRecDepth 100000 in
theorem LW_17 {xs : Nat → Int32} {L c n : Nat} (i : Int32) (σ : f_M) (u : Value × Value × Value × Value) (hc : 7 ≤ c ∧ 42 ≤ n) (k9 : f_M → Option f_W) (hk : ∀ (σ' : f_M) (u' : Value × Value × Value × Value) (c' n' : Nat), c ≤ c' + 7 → n ≤ n' + 42 → f_Sim a_MT xs L 168 md_358 2923 [.ref a_big, .ref 0, .ref 155, .ref 167, .int i, u'.1, u'.2.1, u'.2.2.1, u'.2.2.2] [] σ' c' n' (k9 σ')) : f_Sim a_MT xs L 168 md_358 909 [.ref a_big, .ref 0, .ref 155, .ref 167, .int i, u.1, u.2.1, u.2.2.1, u.2.2.2] [] σ c n ((lw_17 xs L i σ).bind k9) := by
  have hN : 168 ≤ 168 := Nat.le_refl _
  unfold lw_17
  refine i_aload_n (pc' := 910) (f_at inc_358 (j := 413) rfl) rfl rfl ?_
  refine i_aload_n (pc' := 911) (f_at inc_358 (j := 414) rfl) rfl rfl ?_
  refine i_iload (pc' := 913) (f_at inc_358 (j := 415) rfl) rfl rfl ?_
  refine i_iconst (pc' := 914) (f_at inc_358 (j := 416) rfl) ci_1 rfl ?_
  refine i_iadd (pc' := 915) (f_at inc_358 (j := 417) rfl) rfl ?_
  refine i_xald (pc' := 916) (f_at inc_358 (j := 418) rfl) rfl fun v110 ev110 => ?_
  refine i_aload_n (pc' := 917) (f_at inc_358 (j := 419) rfl) rfl rfl ?_
  refine c_wi (pc' := 920) (c' := (c - 1)) (n' := (n - 6)) (h_stat (ra := [.ref 167, .int v110, .ref 0]) (r := []) (as := [.ref 0, .int v110, .ref 167]) (f_at inc_358 (j := 420) rfl) (by decide) MT_205 rfl rfl rfl ⟨(show 1 ≤ c from by omega), (show 6 ≤ n from by omega), Nat.le_of_ble_eq_true rfl⟩) MT_205 (G_205 hN v110 σ) ⟨rfl, rfl, rfl⟩ fun t111 => ?_
  refine i_istore (pc' := 922) (ls' := [.ref a_big, .ref 0, .ref 155, .ref 167, .int i, .int t111.1, u.2.1, u.2.2.1, u.2.2.2]) (f_at inc_358 (j := 421) rfl) (Nat.le_of_ble_eq_true rfl) rfl rfl ?_
  refine i_aload_n (pc' := 923) (f_at inc_358 (j := 422) rfl) rfl rfl ?_
  refine i_aload_n (pc' := 924) (f_at inc_358 (j := 423) rfl) rfl rfl ?_
  refine i_iload (pc' := 926) (f_at inc_358 (j := 424) rfl) rfl rfl ?_
  refine i_iconst (pc' := 927) (f_at inc_358 (j := 425) rfl) ci_1 rfl ?_
  refine i_iadd (pc' := 928) (f_at inc_358 (j := 426) rfl) rfl ?_
  refine i_xald (pc' := 929) (f_at inc_358 (j := 427) rfl) rfl fun v112 ev112 => ?_
  refine c_wi (pc' := 932) (c' := (c - 1)) (n' := (n - 6)) (h_virt (ra := [.int v112, .ref 155]) (r := []) (as := [.int v112]) (f_at inc_358 (j := 428) rfl) (by decide) MT_206 rfl rfl rfl ⟨(show 0 ≤ (c - 1) from by omega), (show 0 ≤ (n - 6) from by omega), Nat.le_of_ble_eq_true rfl⟩ sh_155 (f_lt (o := 155) (m := 168) (Nat.le_of_ble_eq_true rfl) hN)) MT_206 (G_206 (Nat.le_trans (Nat.le_of_ble_eq_true rfl) hN) v112 t111.2) ⟨rfl, rfl, rfl⟩ fun t113 => ?_
  refine i_istore (pc' := 934) (ls' := [.ref a_big, .ref 0, .ref 155, .ref 167, .int i, .int t111.1, .int t113.1, u.2.2.1, u.2.2.2]) (f_at inc_358 (j := 429) rfl) (Nat.le_of_ble_eq_true rfl) rfl rfl ?_
  refine i_aload_n (pc' := 935) (f_at inc_358 (j := 430) rfl) rfl rfl ?_
  refine c_pi (pc' := 938) (c' := (c - 1)) (n' := (n - 6)) (h_virt (ra := [.ref 155]) (r := []) (as := []) (f_at inc_358 (j := 431) rfl) (by decide) MT_178 rfl rfl rfl ⟨(show 0 ≤ (c - 1) from by omega), (show 0 ≤ (n - 6) from by omega), Nat.le_of_ble_eq_true rfl⟩ sh_155 (f_lt (o := 155) (m := 168) (Nat.le_of_ble_eq_true rfl) hN)) MT_178 (G_178 (Nat.le_trans (Nat.le_of_ble_eq_true rfl) hN)  t113.2) ⟨rfl, rfl, rfl⟩ fun t114 => ?_
  refine i_iload (pc' := 940) (f_at inc_358 (j := 432) rfl) rfl rfl ?_
  refine i_if2 (pc' := 945) (nx := 943) c2_eq (f_at inc_358 (j := 433) rfl) ⟨by decide, rfl⟩ (fun b118 => ?_) (fun b118 => ?_)
  · refine i_iload (pc' := 947) (f_at inc_358 (j := 436) rfl) rfl rfl ?_
    refine i_if0 (pc' := 962) (nx := 950) c0_ne (f_at inc_358 (j := 437) rfl) ⟨by decide, rfl⟩ (fun b117 => ?_) (fun b117 => ?_)
    · refine i_goto (pc' := 2923) (f_at inc_358 (j := 447) rfl) (by decide) ?_
      exact hk t113.2 (.int t111.1, .int t113.1, u.2.2.1, u.2.2.2) (c - 1) (n - 6) (by omega) (by omega)
    · refine i_aload_n (pc' := 951) (f_at inc_358 (j := 438) rfl) rfl rfl ?_
      refine i_iconst (pc' := 952) (f_at inc_358 (j := 439) rfl) ci_0 rfl ?_
      refine i_lald (pc' := 953) (f_at inc_358 (j := 440) rfl) sh_167 (f_bg (Nat.le_of_ble_eq_true rfl)) (f_lt (o := 167) (m := 168) (Nat.le_of_ble_eq_true rfl) hN) rfl fun v115 => ?_
      refine i_iload (pc' := 955) (f_at inc_358 (j := 441) rfl) rfl rfl ?_
      refine i_i2l (pc' := 956) (f_at inc_358 (j := 442) rfl) rfl ?_
      refine i_lcmp (pc' := 957) (f_at inc_358 (j := 443) rfl) rfl ?_
      refine i_if0 (pc' := 962) (nx := 960) c0_eq (f_at inc_358 (j := 444) rfl) ⟨by decide, rfl⟩ (fun b116 => ?_) (fun b116 => ?_)
      · refine i_goto (pc' := 2923) (f_at inc_358 (j := 447) rfl) (by decide) ?_
        exact hk t113.2 (.int t111.1, .int t113.1, u.2.2.1, u.2.2.2) (c - 1) (n - 6) (by omega) (by omega)
      · refine i_iconst (pc' := 961) (f_at inc_358 (j := 445) rfl) ci_0 rfl ?_
        exact f_none
  · refine i_iconst (pc' := 944) (f_at inc_358 (j := 434) rfl) ci_0 rfl ?_
    exact f_none
set_option maxRecDepth 100000 in
def lw_18 (xs : Nat → Int32) (L : Nat) (i : Int32) (σ : f_M) : Option f_M :=
  (if (i + (1 : Int32)) < 0 ∨ L ≤ ((i + (1 : Int32))).toNatClampNeg then none else some (xs ((i + (1 : Int32))).toNatClampNeg)).bind fun v119 =>
  (g_208 v119 σ).bind fun t120 =>
  (if (i + (1 : Int32)) < 0 ∨ L ≤ ((i + (1 : Int32))).toNatClampNeg then none else some (xs ((i + (1 : Int32))).toNatClampNeg)).bind fun v121 =>
  (g_209 v121 t120.2).bind fun t122 =>
  (g_178  t122.2).bind fun t123 =>
  if t123 = t120.1 then (
   if ¬ t120.1 = 0 then (
    some t122.2
   ) else (
    (f_rd t122.2 167 1 (0 : Int32)).bind fun v124 =>
    if (lg_cmp (v124).toInt64 (t122.1).toInt64) = 0 then (
     some t122.2
    ) else (
     none
    )
   )
  ) else (
   none
  )
set_option maxRecDepth 100000 in
theorem LW_18 {xs : Nat → Int32} {L c n : Nat} (i : Int32) (σ : f_M) (u : Value × Value × Value × Value) (hc : 7 ≤ c ∧ 42 ≤ n) (k9 : f_M → Option f_W) (hk : ∀ (σ' : f_M) (u' : Value × Value × Value × Value) (c' n' : Nat), c ≤ c' + 7 → n ≤ n' + 42 → f_Sim a_MT xs L 168 md_358 2923 [.ref a_big, .ref 0, .ref 155, .ref 167, .int i, u'.1, u'.2.1, u'.2.2.1, u'.2.2.2] [] σ' c' n' (k9 σ')) : f_Sim a_MT xs L 168 md_358 965 [.ref a_big, .ref 0, .ref 155, .ref 167, .int i, u.1, u.2.1, u.2.2.1, u.2.2.2] [] σ c n ((lw_18 xs L i σ).bind k9) := by
  have hN : 168 ≤ 168 := Nat.le_refl _
  unfold lw_18
  refine i_aload_n (pc' := 966) (f_at inc_358 (j := 448) rfl) rfl rfl ?_
  refine i_aload_n (pc' := 967) (f_at inc_358 (j := 449) rfl) rfl rfl ?_
  refine i_iload (pc' := 969) (f_at inc_358 (j := 450) rfl) rfl rfl ?_
  refine i_iconst (pc' := 970) (f_at inc_358 (j := 451) rfl) ci_1 rfl ?_
  refine i_iadd (pc' := 971) (f_at inc_358 (j := 452) rfl) rfl ?_
  refine i_xald (pc' := 972) (f_at inc_358 (j := 453) rfl) rfl fun v119 ev119 => ?_
  refine i_aload_n (pc' := 973) (f_at inc_358 (j := 454) rfl) rfl rfl ?_
  refine c_wi (pc' := 976) (c' := (c - 1)) (n' := (n - 6)) (h_stat (ra := [.ref 167, .int v119, .ref 0]) (r := []) (as := [.ref 0, .int v119, .ref 167]) (f_at inc_358 (j := 455) rfl) (by decide) MT_208 rfl rfl rfl ⟨(show 1 ≤ c from by omega), (show 6 ≤ n from by omega), Nat.le_of_ble_eq_true rfl⟩) MT_208 (G_208 hN v119 σ) ⟨rfl, rfl, rfl⟩ fun t120 => ?_
  refine i_istore (pc' := 978) (ls' := [.ref a_big, .ref 0, .ref 155, .ref 167, .int i, .int t120.1, u.2.1, u.2.2.1, u.2.2.2]) (f_at inc_358 (j := 456) rfl) (Nat.le_of_ble_eq_true rfl) rfl rfl ?_
  refine i_aload_n (pc' := 979) (f_at inc_358 (j := 457) rfl) rfl rfl ?_
  refine i_aload_n (pc' := 980) (f_at inc_358 (j := 458) rfl) rfl rfl ?_
  refine i_iload (pc' := 982) (f_at inc_358 (j := 459) rfl) rfl rfl ?_
  refine i_iconst (pc' := 983) (f_at inc_358 (j := 460) rfl) ci_1 rfl ?_
  refine i_iadd (pc' := 984) (f_at inc_358 (j := 461) rfl) rfl ?_
  refine i_xald (pc' := 985) (f_at inc_358 (j := 462) rfl) rfl fun v121 ev121 => ?_
  refine c_wi (pc' := 988) (c' := (c - 1)) (n' := (n - 6)) (h_virt (ra := [.int v121, .ref 155]) (r := []) (as := [.int v121]) (f_at inc_358 (j := 463) rfl) (by decide) MT_209 rfl rfl rfl ⟨(show 0 ≤ (c - 1) from by omega), (show 0 ≤ (n - 6) from by omega), Nat.le_of_ble_eq_true rfl⟩ sh_155 (f_lt (o := 155) (m := 168) (Nat.le_of_ble_eq_true rfl) hN)) MT_209 (G_209 (Nat.le_trans (Nat.le_of_ble_eq_true rfl) hN) v121 t120.2) ⟨rfl, rfl, rfl⟩ fun t122 => ?_
  refine i_istore (pc' := 990) (ls' := [.ref a_big, .ref 0, .ref 155, .ref 167, .int i, .int t120.1, .int t122.1, u.2.2.1, u.2.2.2]) (f_at inc_358 (j := 464) rfl) (Nat.le_of_ble_eq_true rfl) rfl rfl ?_
  refine i_aload_n (pc' := 991) (f_at inc_358 (j := 465) rfl) rfl rfl ?_
  refine c_pi (pc' := 994) (c' := (c - 1)) (n' := (n - 6)) (h_virt (ra := [.ref 155]) (r := []) (as := []) (f_at inc_358 (j := 466) rfl) (by decide) MT_178 rfl rfl rfl ⟨(show 0 ≤ (c - 1) from by omega), (show 0 ≤ (n - 6) from by omega), Nat.le_of_ble_eq_true rfl⟩ sh_155 (f_lt (o := 155) (m := 168) (Nat.le_of_ble_eq_true rfl) hN)) MT_178 (G_178 (Nat.le_trans (Nat.le_of_ble_eq_true rfl) hN)  t122.2) ⟨rfl, rfl, rfl⟩ fun t123 => ?_
  refine i_iload (pc' := 996) (f_at inc_358 (j := 467) rfl) rfl rfl ?_
  refine i_if2 (pc' := 1001) (nx := 999) c2_eq (f_at inc_358 (j := 468) rfl) ⟨by decide, rfl⟩ (fun b127 => ?_) (fun b127 => ?_)
  · refine i_iload (pc' := 1003) (f_at inc_358 (j := 471) rfl) rfl rfl ?_
    refine i_if0 (pc' := 1018) (nx := 1006) c0_ne (f_at inc_358 (j := 472) rfl) ⟨by decide, rfl⟩ (fun b126 => ?_) (fun b126 => ?_)
    · refine i_goto (pc' := 2923) (f_at inc_358 (j := 482) rfl) (by decide) ?_
      exact hk t122.2 (.int t120.1, .int t122.1, u.2.2.1, u.2.2.2) (c - 1) (n - 6) (by omega) (by omega)
    · refine i_aload_n (pc' := 1007) (f_at inc_358 (j := 473) rfl) rfl rfl ?_
      refine i_iconst (pc' := 1008) (f_at inc_358 (j := 474) rfl) ci_0 rfl ?_
      refine i_lald (pc' := 1009) (f_at inc_358 (j := 475) rfl) sh_167 (f_bg (Nat.le_of_ble_eq_true rfl)) (f_lt (o := 167) (m := 168) (Nat.le_of_ble_eq_true rfl) hN) rfl fun v124 => ?_
      refine i_iload (pc' := 1011) (f_at inc_358 (j := 476) rfl) rfl rfl ?_
      refine i_i2l (pc' := 1012) (f_at inc_358 (j := 477) rfl) rfl ?_
      refine i_lcmp (pc' := 1013) (f_at inc_358 (j := 478) rfl) rfl ?_
      refine i_if0 (pc' := 1018) (nx := 1016) c0_eq (f_at inc_358 (j := 479) rfl) ⟨by decide, rfl⟩ (fun b125 => ?_) (fun b125 => ?_)
      · refine i_goto (pc' := 2923) (f_at inc_358 (j := 482) rfl) (by decide) ?_
        exact hk t122.2 (.int t120.1, .int t122.1, u.2.2.1, u.2.2.2) (c - 1) (n - 6) (by omega) (by omega)
      · refine i_iconst (pc' := 1017) (f_at inc_358 (j := 480) rfl) ci_0 rfl ?_
        exact f_none
  · refine i_iconst (pc' := 1000) (f_at inc_358 (j := 469) rfl) ci_0 rfl ?_
    exact f_none
set_option maxRecDepth 100000 in
def lw_19 (xs : Nat → Int32) (L : Nat) (i : Int32) (σ : f_M) : Option f_M :=
  (if (i + (1 : Int32)) < 0 ∨ L ≤ ((i + (1 : Int32))).toNatClampNeg then none else some (xs ((i + (1 : Int32))).toNatClampNeg)).bind fun v128 =>
  (g_211 v128 σ).bind fun t129 =>
  (if (i + (1 : Int32)) < 0 ∨ L ≤ ((i + (1 : Int32))).toNatClampNeg then none else some (xs ((i + (1 : Int32))).toNatClampNeg)).bind fun v130 =>
  (g_212 v130 t129.2).bind fun t131 =>
  (g_178  t131.2).bind fun t132 =>
  if t132 = t129.1 then (
   if ¬ t129.1 = 0 then (
    some t131.2
   ) else (
    (f_rd t131.2 167 1 (0 : Int32)).bind fun v133 =>
    if (lg_cmp (v133).toInt64 (t131.1).toInt64) = 0 then (
     some t131.2
    ) else (
     none
    )
   )
  ) else (
   none
  )
set_option maxRecDepth 100000 in
theorem LW_19 {xs : Nat → Int32} {L c n : Nat} (i : Int32) (σ : f_M) (u : Value × Value × Value × Value) (hc : 7 ≤ c ∧ 42 ≤ n) (k9 : f_M → Option f_W) (hk : ∀ (σ' : f_M) (u' : Value × Value × Value × Value) (c' n' : Nat), c ≤ c' + 7 → n ≤ n' + 42 → f_Sim a_MT xs L 168 md_358 2923 [.ref a_big, .ref 0, .ref 155, .ref 167, .int i, u'.1, u'.2.1, u'.2.2.1, u'.2.2.2] [] σ' c' n' (k9 σ')) : f_Sim a_MT xs L 168 md_358 1021 [.ref a_big, .ref 0, .ref 155, .ref 167, .int i, u.1, u.2.1, u.2.2.1, u.2.2.2] [] σ c n ((lw_19 xs L i σ).bind k9) := by
  have hN : 168 ≤ 168 := Nat.le_refl _
  unfold lw_19
  refine i_aload_n (pc' := 1022) (f_at inc_358 (j := 483) rfl) rfl rfl ?_
  refine i_aload_n (pc' := 1023) (f_at inc_358 (j := 484) rfl) rfl rfl ?_
  refine i_iload (pc' := 1025) (f_at inc_358 (j := 485) rfl) rfl rfl ?_
  refine i_iconst (pc' := 1026) (f_at inc_358 (j := 486) rfl) ci_1 rfl ?_
  refine i_iadd (pc' := 1027) (f_at inc_358 (j := 487) rfl) rfl ?_
  refine i_xald (pc' := 1028) (f_at inc_358 (j := 488) rfl) rfl fun v128 ev128 => ?_
  refine i_aload_n (pc' := 1029) (f_at inc_358 (j := 489) rfl) rfl rfl ?_
  refine c_wi (pc' := 1032) (c' := (c - 1)) (n' := (n - 6)) (h_stat (ra := [.ref 167, .int v128, .ref 0]) (r := []) (as := [.ref 0, .int v128, .ref 167]) (f_at inc_358 (j := 490) rfl) (by decide) MT_211 rfl rfl rfl ⟨(show 1 ≤ c from by omega), (show 6 ≤ n from by omega), Nat.le_of_ble_eq_true rfl⟩) MT_211 (G_211 hN v128 σ) ⟨rfl, rfl, rfl⟩ fun t129 => ?_
  refine i_istore (pc' := 1034) (ls' := [.ref a_big, .ref 0, .ref 155, .ref 167, .int i, .int t129.1, u.2.1, u.2.2.1, u.2.2.2]) (f_at inc_358 (j := 491) rfl) (Nat.le_of_ble_eq_true rfl) rfl rfl ?_
  refine i_aload_n (pc' := 1035) (f_at inc_358 (j := 492) rfl) rfl rfl ?_
  refine i_aload_n (pc' := 1036) (f_at inc_358 (j := 493) rfl) rfl rfl ?_
  refine i_iload (pc' := 1038) (f_at inc_358 (j := 494) rfl) rfl rfl ?_
  refine i_iconst (pc' := 1039) (f_at inc_358 (j := 495) rfl) ci_1 rfl ?_
  refine i_iadd (pc' := 1040) (f_at inc_358 (j := 496) rfl) rfl ?_
  refine i_xald (pc' := 1041) (f_at inc_358 (j := 497) rfl) rfl fun v130 ev130 => ?_
  refine c_wi (pc' := 1044) (c' := (c - 1)) (n' := (n - 6)) (h_virt (ra := [.int v130, .ref 155]) (r := []) (as := [.int v130]) (f_at inc_358 (j := 498) rfl) (by decide) MT_212 rfl rfl rfl ⟨(show 0 ≤ (c - 1) from by omega), (show 0 ≤ (n - 6) from by omega), Nat.le_of_ble_eq_true rfl⟩ sh_155 (f_lt (o := 155) (m := 168) (Nat.le_of_ble_eq_true rfl) hN)) MT_212 (G_212 (Nat.le_trans (Nat.le_of_ble_eq_true rfl) hN) v130 t129.2) ⟨rfl, rfl, rfl⟩ fun t131 => ?_
  refine i_istore (pc' := 1046) (ls' := [.ref a_big, .ref 0, .ref 155, .ref 167, .int i, .int t129.1, .int t131.1, u.2.2.1, u.2.2.2]) (f_at inc_358 (j := 499) rfl) (Nat.le_of_ble_eq_true rfl) rfl rfl ?_
  refine i_aload_n (pc' := 1047) (f_at inc_358 (j := 500) rfl) rfl rfl ?_
  refine c_pi (pc' := 1050) (c' := (c - 1)) (n' := (n - 6)) (h_virt (ra := [.ref 155]) (r := []) (as := []) (f_at inc_358 (j := 501) rfl) (by decide) MT_178 rfl rfl rfl ⟨(show 0 ≤ (c - 1) from by omega), (show 0 ≤ (n - 6) from by omega), Nat.le_of_ble_eq_true rfl⟩ sh_155 (f_lt (o := 155) (m := 168) (Nat.le_of_ble_eq_true rfl) hN)) MT_178 (G_178 (Nat.le_trans (Nat.le_of_ble_eq_true rfl) hN)  t131.2) ⟨rfl, rfl, rfl⟩ fun t132 => ?_
  refine i_iload (pc' := 1052) (f_at inc_358 (j := 502) rfl) rfl rfl ?_
  refine i_if2 (pc' := 1057) (nx := 1055) c2_eq (f_at inc_358 (j := 503) rfl) ⟨by decide, rfl⟩ (fun b136 => ?_) (fun b136 => ?_)
  · refine i_iload (pc' := 1059) (f_at inc_358 (j := 506) rfl) rfl rfl ?_
    refine i_if0 (pc' := 1074) (nx := 1062) c0_ne (f_at inc_358 (j := 507) rfl) ⟨by decide, rfl⟩ (fun b135 => ?_) (fun b135 => ?_)
    · refine i_goto (pc' := 2923) (f_at inc_358 (j := 517) rfl) (by decide) ?_
      exact hk t131.2 (.int t129.1, .int t131.1, u.2.2.1, u.2.2.2) (c - 1) (n - 6) (by omega) (by omega)
    · refine i_aload_n (pc' := 1063) (f_at inc_358 (j := 508) rfl) rfl rfl ?_
      refine i_iconst (pc' := 1064) (f_at inc_358 (j := 509) rfl) ci_0 rfl ?_
      refine i_lald (pc' := 1065) (f_at inc_358 (j := 510) rfl) sh_167 (f_bg (Nat.le_of_ble_eq_true rfl)) (f_lt (o := 167) (m := 168) (Nat.le_of_ble_eq_true rfl) hN) rfl fun v133 => ?_
      refine i_iload (pc' := 1067) (f_at inc_358 (j := 511) rfl) rfl rfl ?_
      refine i_i2l (pc' := 1068) (f_at inc_358 (j := 512) rfl) rfl ?_
      refine i_lcmp (pc' := 1069) (f_at inc_358 (j := 513) rfl) rfl ?_
      refine i_if0 (pc' := 1074) (nx := 1072) c0_eq (f_at inc_358 (j := 514) rfl) ⟨by decide, rfl⟩ (fun b134 => ?_) (fun b134 => ?_)
      · refine i_goto (pc' := 2923) (f_at inc_358 (j := 517) rfl) (by decide) ?_
        exact hk t131.2 (.int t129.1, .int t131.1, u.2.2.1, u.2.2.2) (c - 1) (n - 6) (by omega) (by omega)
      · refine i_iconst (pc' := 1073) (f_at inc_358 (j := 515) rfl) ci_0 rfl ?_
        exact f_none
  · refine i_iconst (pc' := 1056) (f_at inc_358 (j := 504) rfl) ci_0 rfl ?_
    exact f_none
set_option maxRecDepth 100000 in
def lw_20 (xs : Nat → Int32) (L : Nat) (i : Int32) (σ : f_M) : Option f_M :=
  (if (i + (1 : Int32)) < 0 ∨ L ≤ ((i + (1 : Int32))).toNatClampNeg then none else some (xs ((i + (1 : Int32))).toNatClampNeg)).bind fun v137 =>
  (g_214 v137 σ).bind fun t138 =>
  (if (i + (1 : Int32)) < 0 ∨ L ≤ ((i + (1 : Int32))).toNatClampNeg then none else some (xs ((i + (1 : Int32))).toNatClampNeg)).bind fun v139 =>
  (g_215 v139 t138.2).bind fun t140 =>
  (g_178  t140.2).bind fun t141 =>
  if t141 = t138.1 then (
   if ¬ t138.1 = 0 then (
    some t140.2
   ) else (
    (f_rd t140.2 167 1 (0 : Int32)).bind fun v142 =>
    if (lg_cmp (v142).toInt64 (t140.1).toInt64) = 0 then (
     some t140.2
    ) else (
     none
    )
   )
  ) else (
   none
  )
set_option maxRecDepth 100000 in
theorem LW_20 {xs : Nat → Int32} {L c n : Nat} (i : Int32) (σ : f_M) (u : Value × Value × Value × Value) (hc : 7 ≤ c ∧ 42 ≤ n) (k9 : f_M → Option f_W) (hk : ∀ (σ' : f_M) (u' : Value × Value × Value × Value) (c' n' : Nat), c ≤ c' + 7 → n ≤ n' + 42 → f_Sim a_MT xs L 168 md_358 2923 [.ref a_big, .ref 0, .ref 155, .ref 167, .int i, u'.1, u'.2.1, u'.2.2.1, u'.2.2.2] [] σ' c' n' (k9 σ')) : f_Sim a_MT xs L 168 md_358 1077 [.ref a_big, .ref 0, .ref 155, .ref 167, .int i, u.1, u.2.1, u.2.2.1, u.2.2.2] [] σ c n ((lw_20 xs L i σ).bind k9) := by
  have hN : 168 ≤ 168 := Nat.le_refl _
  unfold lw_20
  refine i_aload_n (pc' := 1078) (f_at inc_358 (j := 518) rfl) rfl rfl ?_
  refine i_aload_n (pc' := 1079) (f_at inc_358 (j := 519) rfl) rfl rfl ?_
  refine i_iload (pc' := 1081) (f_at inc_358 (j := 520) rfl) rfl rfl ?_
  refine i_iconst (pc' := 1082) (f_at inc_358 (j := 521) rfl) ci_1 rfl ?_
  refine i_iadd (pc' := 1083) (f_at inc_358 (j := 522) rfl) rfl ?_
  refine i_xald (pc' := 1084) (f_at inc_358 (j := 523) rfl) rfl fun v137 ev137 => ?_
  refine i_aload_n (pc' := 1085) (f_at inc_358 (j := 524) rfl) rfl rfl ?_
  refine c_wi (pc' := 1088) (c' := (c - 1)) (n' := (n - 6)) (h_stat (ra := [.ref 167, .int v137, .ref 0]) (r := []) (as := [.ref 0, .int v137, .ref 167]) (f_at inc_358 (j := 525) rfl) (by decide) MT_214 rfl rfl rfl ⟨(show 1 ≤ c from by omega), (show 6 ≤ n from by omega), Nat.le_of_ble_eq_true rfl⟩) MT_214 (G_214 hN v137 σ) ⟨rfl, rfl, rfl⟩ fun t138 => ?_
  refine i_istore (pc' := 1090) (ls' := [.ref a_big, .ref 0, .ref 155, .ref 167, .int i, .int t138.1, u.2.1, u.2.2.1, u.2.2.2]) (f_at inc_358 (j := 526) rfl) (Nat.le_of_ble_eq_true rfl) rfl rfl ?_
  refine i_aload_n (pc' := 1091) (f_at inc_358 (j := 527) rfl) rfl rfl ?_
  refine i_aload_n (pc' := 1092) (f_at inc_358 (j := 528) rfl) rfl rfl ?_
  refine i_iload (pc' := 1094) (f_at inc_358 (j := 529) rfl) rfl rfl ?_
  refine i_iconst (pc' := 1095) (f_at inc_358 (j := 530) rfl) ci_1 rfl ?_
  refine i_iadd (pc' := 1096) (f_at inc_358 (j := 531) rfl) rfl ?_
  refine i_xald (pc' := 1097) (f_at inc_358 (j := 532) rfl) rfl fun v139 ev139 => ?_
  refine c_wi (pc' := 1100) (c' := (c - 1)) (n' := (n - 6)) (h_virt (ra := [.int v139, .ref 155]) (r := []) (as := [.int v139]) (f_at inc_358 (j := 533) rfl) (by decide) MT_215 rfl rfl rfl ⟨(show 0 ≤ (c - 1) from by omega), (show 0 ≤ (n - 6) from by omega), Nat.le_of_ble_eq_true rfl⟩ sh_155 (f_lt (o := 155) (m := 168) (Nat.le_of_ble_eq_true rfl) hN)) MT_215 (G_215 (Nat.le_trans (Nat.le_of_ble_eq_true rfl) hN) v139 t138.2) ⟨rfl, rfl, rfl⟩ fun t140 => ?_
  refine i_istore (pc' := 1102) (ls' := [.ref a_big, .ref 0, .ref 155, .ref 167, .int i, .int t138.1, .int t140.1, u.2.2.1, u.2.2.2]) (f_at inc_358 (j := 534) rfl) (Nat.le_of_ble_eq_true rfl) rfl rfl ?_
  refine i_aload_n (pc' := 1103) (f_at inc_358 (j := 535) rfl) rfl rfl ?_
  refine c_pi (pc' := 1106) (c' := (c - 1)) (n' := (n - 6)) (h_virt (ra := [.ref 155]) (r := []) (as := []) (f_at inc_358 (j := 536) rfl) (by decide) MT_178 rfl rfl rfl ⟨(show 0 ≤ (c - 1) from by omega), (show 0 ≤ (n - 6) from by omega), Nat.le_of_ble_eq_true rfl⟩ sh_155 (f_lt (o := 155) (m := 168) (Nat.le_of_ble_eq_true rfl) hN)) MT_178 (G_178 (Nat.le_trans (Nat.le_of_ble_eq_true rfl) hN)  t140.2) ⟨rfl, rfl, rfl⟩ fun t141 => ?_
  refine i_iload (pc' := 1108) (f_at inc_358 (j := 537) rfl) rfl rfl ?_
  refine i_if2 (pc' := 1113) (nx := 1111) c2_eq (f_at inc_358 (j := 538) rfl) ⟨by decide, rfl⟩ (fun b145 => ?_) (fun b145 => ?_)
  · refine i_iload (pc' := 1115) (f_at inc_358 (j := 541) rfl) rfl rfl ?_
    refine i_if0 (pc' := 1130) (nx := 1118) c0_ne (f_at inc_358 (j := 542) rfl) ⟨by decide, rfl⟩ (fun b144 => ?_) (fun b144 => ?_)
    · refine i_goto (pc' := 2923) (f_at inc_358 (j := 552) rfl) (by decide) ?_
      exact hk t140.2 (.int t138.1, .int t140.1, u.2.2.1, u.2.2.2) (c - 1) (n - 6) (by omega) (by omega)
    · refine i_aload_n (pc' := 1119) (f_at inc_358 (j := 543) rfl) rfl rfl ?_
      refine i_iconst (pc' := 1120) (f_at inc_358 (j := 544) rfl) ci_0 rfl ?_
      refine i_lald (pc' := 1121) (f_at inc_358 (j := 545) rfl) sh_167 (f_bg (Nat.le_of_ble_eq_true rfl)) (f_lt (o := 167) (m := 168) (Nat.le_of_ble_eq_true rfl) hN) rfl fun v142 => ?_
      refine i_iload (pc' := 1123) (f_at inc_358 (j := 546) rfl) rfl rfl ?_
      refine i_i2l (pc' := 1124) (f_at inc_358 (j := 547) rfl) rfl ?_
      refine i_lcmp (pc' := 1125) (f_at inc_358 (j := 548) rfl) rfl ?_
      refine i_if0 (pc' := 1130) (nx := 1128) c0_eq (f_at inc_358 (j := 549) rfl) ⟨by decide, rfl⟩ (fun b143 => ?_) (fun b143 => ?_)
      · refine i_goto (pc' := 2923) (f_at inc_358 (j := 552) rfl) (by decide) ?_
        exact hk t140.2 (.int t138.1, .int t140.1, u.2.2.1, u.2.2.2) (c - 1) (n - 6) (by omega) (by omega)
      · refine i_iconst (pc' := 1129) (f_at inc_358 (j := 550) rfl) ci_0 rfl ?_
        exact f_none
  · refine i_iconst (pc' := 1112) (f_at inc_358 (j := 539) rfl) ci_0 rfl ?_
    exact f_none
set_option maxRecDepth 100000 in
def lw_21 (xs : Nat → Int32) (L : Nat) (i : Int32) (σ : f_M) : Option f_M :=
  (if (i + (1 : Int32)) < 0 ∨ L ≤ ((i + (1 : Int32))).toNatClampNeg then none else some (xs ((i + (1 : Int32))).toNatClampNeg)).bind fun v146 =>
  (g_217 v146 σ).bind fun t147 =>
  (if (i + (1 : Int32)) < 0 ∨ L ≤ ((i + (1 : Int32))).toNatClampNeg then none else some (xs ((i + (1 : Int32))).toNatClampNeg)).bind fun v148 =>
  (g_218 v148 t147.2).bind fun t149 =>
  (g_178  t149.2).bind fun t150 =>
  if t150 = t147.1 then (
   if ¬ t147.1 = 0 then (
    some t149.2
   ) else (
    (f_rd t149.2 167 1 (0 : Int32)).bind fun v151 =>
    (
     if t149.1 = false then (
      some (0 : Int32)
     ) else (
      some (1 : Int32)
     )
    ).bind fun (t152 : Int32) =>
    if (lg_cmp (v151).toInt64 (t152).toInt64) = 0 then (
     some t149.2
    ) else (
     none
    )
   )
  ) else (
   none
  )
set_option maxRecDepth 100000 in
theorem LW_21 {xs : Nat → Int32} {L c n : Nat} (i : Int32) (σ : f_M) (u : Value × Value × Value × Value) (hc : 7 ≤ c ∧ 42 ≤ n) (k9 : f_M → Option f_W) (hk : ∀ (σ' : f_M) (u' : Value × Value × Value × Value) (c' n' : Nat), c ≤ c' + 7 → n ≤ n' + 42 → f_Sim a_MT xs L 168 md_358 2923 [.ref a_big, .ref 0, .ref 155, .ref 167, .int i, u'.1, u'.2.1, u'.2.2.1, u'.2.2.2] [] σ' c' n' (k9 σ')) : f_Sim a_MT xs L 168 md_358 1133 [.ref a_big, .ref 0, .ref 155, .ref 167, .int i, u.1, u.2.1, u.2.2.1, u.2.2.2] [] σ c n ((lw_21 xs L i σ).bind k9) := by
  have hN : 168 ≤ 168 := Nat.le_refl _
  unfold lw_21
  refine i_aload_n (pc' := 1134) (f_at inc_358 (j := 553) rfl) rfl rfl ?_
  refine i_aload_n (pc' := 1135) (f_at inc_358 (j := 554) rfl) rfl rfl ?_
  refine i_iload (pc' := 1137) (f_at inc_358 (j := 555) rfl) rfl rfl ?_
  refine i_iconst (pc' := 1138) (f_at inc_358 (j := 556) rfl) ci_1 rfl ?_
  refine i_iadd (pc' := 1139) (f_at inc_358 (j := 557) rfl) rfl ?_
  refine i_xald (pc' := 1140) (f_at inc_358 (j := 558) rfl) rfl fun v146 ev146 => ?_
  refine i_aload_n (pc' := 1141) (f_at inc_358 (j := 559) rfl) rfl rfl ?_
  refine c_wi (pc' := 1144) (c' := (c - 1)) (n' := (n - 6)) (h_stat (ra := [.ref 167, .int v146, .ref 0]) (r := []) (as := [.ref 0, .int v146, .ref 167]) (f_at inc_358 (j := 560) rfl) (by decide) MT_217 rfl rfl rfl ⟨(show 1 ≤ c from by omega), (show 6 ≤ n from by omega), Nat.le_of_ble_eq_true rfl⟩) MT_217 (G_217 hN v146 σ) ⟨rfl, rfl, rfl⟩ fun t147 => ?_
  refine i_istore (pc' := 1146) (ls' := [.ref a_big, .ref 0, .ref 155, .ref 167, .int i, .int t147.1, u.2.1, u.2.2.1, u.2.2.2]) (f_at inc_358 (j := 561) rfl) (Nat.le_of_ble_eq_true rfl) rfl rfl ?_
  refine i_aload_n (pc' := 1147) (f_at inc_358 (j := 562) rfl) rfl rfl ?_
  refine i_aload_n (pc' := 1148) (f_at inc_358 (j := 563) rfl) rfl rfl ?_
  refine i_iload (pc' := 1150) (f_at inc_358 (j := 564) rfl) rfl rfl ?_
  refine i_iconst (pc' := 1151) (f_at inc_358 (j := 565) rfl) ci_1 rfl ?_
  refine i_iadd (pc' := 1152) (f_at inc_358 (j := 566) rfl) rfl ?_
  refine i_xald (pc' := 1153) (f_at inc_358 (j := 567) rfl) rfl fun v148 ev148 => ?_
  refine c_wb (pc' := 1156) (c' := (c - 1)) (n' := (n - 6)) (h_virt (ra := [.int v148, .ref 155]) (r := []) (as := [.int v148]) (f_at inc_358 (j := 568) rfl) (by decide) MT_218 rfl rfl rfl ⟨(show 0 ≤ (c - 1) from by omega), (show 0 ≤ (n - 6) from by omega), Nat.le_of_ble_eq_true rfl⟩ sh_155 (f_lt (o := 155) (m := 168) (Nat.le_of_ble_eq_true rfl) hN)) MT_218 (G_218 (Nat.le_trans (Nat.le_of_ble_eq_true rfl) hN) v148 t147.2) ⟨rfl, rfl, rfl⟩ fun t149 => ?_
  refine i_istore (pc' := 1158) (ls' := [.ref a_big, .ref 0, .ref 155, .ref 167, .int i, .int t147.1, .int (f_b t149.1), u.2.2.1, u.2.2.2]) (f_at inc_358 (j := 569) rfl) (Nat.le_of_ble_eq_true rfl) rfl rfl ?_
  refine i_aload_n (pc' := 1159) (f_at inc_358 (j := 570) rfl) rfl rfl ?_
  refine c_pi (pc' := 1162) (c' := (c - 1)) (n' := (n - 6)) (h_virt (ra := [.ref 155]) (r := []) (as := []) (f_at inc_358 (j := 571) rfl) (by decide) MT_178 rfl rfl rfl ⟨(show 0 ≤ (c - 1) from by omega), (show 0 ≤ (n - 6) from by omega), Nat.le_of_ble_eq_true rfl⟩ sh_155 (f_lt (o := 155) (m := 168) (Nat.le_of_ble_eq_true rfl) hN)) MT_178 (G_178 (Nat.le_trans (Nat.le_of_ble_eq_true rfl) hN)  t149.2) ⟨rfl, rfl, rfl⟩ fun t150 => ?_
  refine i_iload (pc' := 1164) (f_at inc_358 (j := 572) rfl) rfl rfl ?_
  refine i_if2 (pc' := 1169) (nx := 1167) c2_eq (f_at inc_358 (j := 573) rfl) ⟨by decide, rfl⟩ (fun b156 => ?_) (fun b156 => ?_)
  · refine i_iload (pc' := 1171) (f_at inc_358 (j := 576) rfl) rfl rfl ?_
    refine i_if0 (pc' := 1193) (nx := 1174) c0_ne (f_at inc_358 (j := 577) rfl) ⟨by decide, rfl⟩ (fun b155 => ?_) (fun b155 => ?_)
    · refine i_goto (pc' := 2923) (f_at inc_358 (j := 590) rfl) (by decide) ?_
      exact hk t149.2 (.int t147.1, .int (f_b t149.1), u.2.2.1, u.2.2.2) (c - 1) (n - 6) (by omega) (by omega)
    · refine i_aload_n (pc' := 1175) (f_at inc_358 (j := 578) rfl) rfl rfl ?_
      refine i_iconst (pc' := 1176) (f_at inc_358 (j := 579) rfl) ci_0 rfl ?_
      refine i_lald (pc' := 1177) (f_at inc_358 (j := 580) rfl) sh_167 (f_bg (Nat.le_of_ble_eq_true rfl)) (f_lt (o := 167) (m := 168) (Nat.le_of_ble_eq_true rfl) hN) rfl fun v151 => ?_
      refine i_iload (pc' := 1179) (f_at inc_358 (j := 581) rfl) rfl rfl ?_
      refine s_join (J := 1187) (fun (t152 : Int32) (u152 : Unit) => [.ref a_big, .ref 0, .ref 155, .ref 167, .int i, .int t147.1, .int (f_b t149.1), u.2.2.1, u.2.2.2]) (fun t152 => [.long (t152).toInt64, .long (v151).toInt64]) (fun t152 => t149.2) ?_ ?_
      · intro t152 u152
        refine i_lcmp (pc' := 1188) (f_at inc_358 (j := 586) rfl) rfl ?_
        refine i_if0 (pc' := 1193) (nx := 1191) c0_eq (f_at inc_358 (j := 587) rfl) ⟨by decide, rfl⟩ (fun b154 => ?_) (fun b154 => ?_)
        · refine i_goto (pc' := 2923) (f_at inc_358 (j := 590) rfl) (by decide) ?_
          exact hk t149.2 (.int t147.1, .int (f_b t149.1), u.2.2.1, u.2.2.2) (c - 1) (n - 6) (by omega) (by omega)
        · refine i_iconst (pc' := 1192) (f_at inc_358 (j := 588) rfl) ci_0 rfl ?_
          exact f_none
      · intro k152 hj152
        refine i_if0 (pc' := 1186) (nx := 1182) cb_eq (f_at inc_358 (j := 582) rfl) ⟨by decide, rfl⟩ (fun b153 => ?_) (fun b153 => ?_)
        · refine i_lconst (pc' := 1187) (f_at inc_358 (j := 585) rfl) cl_0 rfl ?_
          exact hj152 (0 : Int32) ()
        · refine i_lconst (pc' := 1183) (f_at inc_358 (j := 583) rfl) cl_1 rfl ?_
          refine i_goto (pc' := 1187) (f_at inc_358 (j := 584) rfl) (by decide) ?_
          exact hj152 (1 : Int32) ()
  · refine i_iconst (pc' := 1168) (f_at inc_358 (j := 574) rfl) ci_0 rfl ?_
    exact f_none
set_option maxRecDepth 100000 in
def lw_22 (xs : Nat → Int32) (L : Nat) (i : Int32) (σ : f_M) : Option f_M :=
  (if (i + (1 : Int32)) < 0 ∨ L ≤ ((i + (1 : Int32))).toNatClampNeg then none else some (xs ((i + (1 : Int32))).toNatClampNeg)).bind fun v157 =>
  (g_220 v157 σ).bind fun t158 =>
  (if (i + (1 : Int32)) < 0 ∨ L ≤ ((i + (1 : Int32))).toNatClampNeg then none else some (xs ((i + (1 : Int32))).toNatClampNeg)).bind fun v159 =>
  (g_221 v159 t158.2).bind fun t160 =>
  (g_178  t160.2).bind fun t161 =>
  if t161 = t158.1 then (
   if ¬ t158.1 = 0 then (
    some t160.2
   ) else (
    (f_rd t160.2 167 1 (0 : Int32)).bind fun v162 =>
    (
     if t160.1 = false then (
      some (0 : Int32)
     ) else (
      some (1 : Int32)
     )
    ).bind fun (t163 : Int32) =>
    if (lg_cmp (v162).toInt64 (t163).toInt64) = 0 then (
     some t160.2
    ) else (
     none
    )
   )
  ) else (
   none
  )
set_option maxRecDepth 100000 in
theorem LW_22 {xs : Nat → Int32} {L c n : Nat} (i : Int32) (σ : f_M) (u : Value × Value × Value × Value) (hc : 7 ≤ c ∧ 42 ≤ n) (k9 : f_M → Option f_W) (hk : ∀ (σ' : f_M) (u' : Value × Value × Value × Value) (c' n' : Nat), c ≤ c' + 7 → n ≤ n' + 42 → f_Sim a_MT xs L 168 md_358 2923 [.ref a_big, .ref 0, .ref 155, .ref 167, .int i, u'.1, u'.2.1, u'.2.2.1, u'.2.2.2] [] σ' c' n' (k9 σ')) : f_Sim a_MT xs L 168 md_358 1196 [.ref a_big, .ref 0, .ref 155, .ref 167, .int i, u.1, u.2.1, u.2.2.1, u.2.2.2] [] σ c n ((lw_22 xs L i σ).bind k9) := by
  have hN : 168 ≤ 168 := Nat.le_refl _
  unfold lw_22
  refine i_aload_n (pc' := 1197) (f_at inc_358 (j := 591) rfl) rfl rfl ?_
  refine i_aload_n (pc' := 1198) (f_at inc_358 (j := 592) rfl) rfl rfl ?_
  refine i_iload (pc' := 1200) (f_at inc_358 (j := 593) rfl) rfl rfl ?_
  refine i_iconst (pc' := 1201) (f_at inc_358 (j := 594) rfl) ci_1 rfl ?_
  refine i_iadd (pc' := 1202) (f_at inc_358 (j := 595) rfl) rfl ?_
  refine i_xald (pc' := 1203) (f_at inc_358 (j := 596) rfl) rfl fun v157 ev157 => ?_
  refine i_aload_n (pc' := 1204) (f_at inc_358 (j := 597) rfl) rfl rfl ?_
  refine c_wi (pc' := 1207) (c' := (c - 1)) (n' := (n - 6)) (h_stat (ra := [.ref 167, .int v157, .ref 0]) (r := []) (as := [.ref 0, .int v157, .ref 167]) (f_at inc_358 (j := 598) rfl) (by decide) MT_220 rfl rfl rfl ⟨(show 1 ≤ c from by omega), (show 6 ≤ n from by omega), Nat.le_of_ble_eq_true rfl⟩) MT_220 (G_220 hN v157 σ) ⟨rfl, rfl, rfl⟩ fun t158 => ?_
  refine i_istore (pc' := 1209) (ls' := [.ref a_big, .ref 0, .ref 155, .ref 167, .int i, .int t158.1, u.2.1, u.2.2.1, u.2.2.2]) (f_at inc_358 (j := 599) rfl) (Nat.le_of_ble_eq_true rfl) rfl rfl ?_
  refine i_aload_n (pc' := 1210) (f_at inc_358 (j := 600) rfl) rfl rfl ?_
  refine i_aload_n (pc' := 1211) (f_at inc_358 (j := 601) rfl) rfl rfl ?_
  refine i_iload (pc' := 1213) (f_at inc_358 (j := 602) rfl) rfl rfl ?_
  refine i_iconst (pc' := 1214) (f_at inc_358 (j := 603) rfl) ci_1 rfl ?_
  refine i_iadd (pc' := 1215) (f_at inc_358 (j := 604) rfl) rfl ?_
  refine i_xald (pc' := 1216) (f_at inc_358 (j := 605) rfl) rfl fun v159 ev159 => ?_
  refine c_wb (pc' := 1219) (c' := (c - 1)) (n' := (n - 6)) (h_virt (ra := [.int v159, .ref 155]) (r := []) (as := [.int v159]) (f_at inc_358 (j := 606) rfl) (by decide) MT_221 rfl rfl rfl ⟨(show 0 ≤ (c - 1) from by omega), (show 0 ≤ (n - 6) from by omega), Nat.le_of_ble_eq_true rfl⟩ sh_155 (f_lt (o := 155) (m := 168) (Nat.le_of_ble_eq_true rfl) hN)) MT_221 (G_221 (Nat.le_trans (Nat.le_of_ble_eq_true rfl) hN) v159 t158.2) ⟨rfl, rfl, rfl⟩ fun t160 => ?_
  refine i_istore (pc' := 1221) (ls' := [.ref a_big, .ref 0, .ref 155, .ref 167, .int i, .int t158.1, .int (f_b t160.1), u.2.2.1, u.2.2.2]) (f_at inc_358 (j := 607) rfl) (Nat.le_of_ble_eq_true rfl) rfl rfl ?_
  refine i_aload_n (pc' := 1222) (f_at inc_358 (j := 608) rfl) rfl rfl ?_
  refine c_pi (pc' := 1225) (c' := (c - 1)) (n' := (n - 6)) (h_virt (ra := [.ref 155]) (r := []) (as := []) (f_at inc_358 (j := 609) rfl) (by decide) MT_178 rfl rfl rfl ⟨(show 0 ≤ (c - 1) from by omega), (show 0 ≤ (n - 6) from by omega), Nat.le_of_ble_eq_true rfl⟩ sh_155 (f_lt (o := 155) (m := 168) (Nat.le_of_ble_eq_true rfl) hN)) MT_178 (G_178 (Nat.le_trans (Nat.le_of_ble_eq_true rfl) hN)  t160.2) ⟨rfl, rfl, rfl⟩ fun t161 => ?_
  refine i_iload (pc' := 1227) (f_at inc_358 (j := 610) rfl) rfl rfl ?_
  refine i_if2 (pc' := 1232) (nx := 1230) c2_eq (f_at inc_358 (j := 611) rfl) ⟨by decide, rfl⟩ (fun b167 => ?_) (fun b167 => ?_)
  · refine i_iload (pc' := 1234) (f_at inc_358 (j := 614) rfl) rfl rfl ?_
    refine i_if0 (pc' := 1256) (nx := 1237) c0_ne (f_at inc_358 (j := 615) rfl) ⟨by decide, rfl⟩ (fun b166 => ?_) (fun b166 => ?_)
    · refine i_goto (pc' := 2923) (f_at inc_358 (j := 628) rfl) (by decide) ?_
      exact hk t160.2 (.int t158.1, .int (f_b t160.1), u.2.2.1, u.2.2.2) (c - 1) (n - 6) (by omega) (by omega)
    · refine i_aload_n (pc' := 1238) (f_at inc_358 (j := 616) rfl) rfl rfl ?_
      refine i_iconst (pc' := 1239) (f_at inc_358 (j := 617) rfl) ci_0 rfl ?_
      refine i_lald (pc' := 1240) (f_at inc_358 (j := 618) rfl) sh_167 (f_bg (Nat.le_of_ble_eq_true rfl)) (f_lt (o := 167) (m := 168) (Nat.le_of_ble_eq_true rfl) hN) rfl fun v162 => ?_
      refine i_iload (pc' := 1242) (f_at inc_358 (j := 619) rfl) rfl rfl ?_
      refine s_join (J := 1250) (fun (t163 : Int32) (u163 : Unit) => [.ref a_big, .ref 0, .ref 155, .ref 167, .int i, .int t158.1, .int (f_b t160.1), u.2.2.1, u.2.2.2]) (fun t163 => [.long (t163).toInt64, .long (v162).toInt64]) (fun t163 => t160.2) ?_ ?_
      · intro t163 u163
        refine i_lcmp (pc' := 1251) (f_at inc_358 (j := 624) rfl) rfl ?_
        refine i_if0 (pc' := 1256) (nx := 1254) c0_eq (f_at inc_358 (j := 625) rfl) ⟨by decide, rfl⟩ (fun b165 => ?_) (fun b165 => ?_)
        · refine i_goto (pc' := 2923) (f_at inc_358 (j := 628) rfl) (by decide) ?_
          exact hk t160.2 (.int t158.1, .int (f_b t160.1), u.2.2.1, u.2.2.2) (c - 1) (n - 6) (by omega) (by omega)
        · refine i_iconst (pc' := 1255) (f_at inc_358 (j := 626) rfl) ci_0 rfl ?_
          exact f_none
      · intro k163 hj163
        refine i_if0 (pc' := 1249) (nx := 1245) cb_eq (f_at inc_358 (j := 620) rfl) ⟨by decide, rfl⟩ (fun b164 => ?_) (fun b164 => ?_)
        · refine i_lconst (pc' := 1250) (f_at inc_358 (j := 623) rfl) cl_0 rfl ?_
          exact hj163 (0 : Int32) ()
        · refine i_lconst (pc' := 1246) (f_at inc_358 (j := 621) rfl) cl_1 rfl ?_
          refine i_goto (pc' := 1250) (f_at inc_358 (j := 622) rfl) (by decide) ?_
          exact hj163 (1 : Int32) ()
  · refine i_iconst (pc' := 1231) (f_at inc_358 (j := 612) rfl) ci_0 rfl ?_
    exact f_none
set_option maxRecDepth 100000 in
def lw_23 (xs : Nat → Int32) (L : Nat) (i : Int32) (σ : f_M) : Option f_M :=
  (if (i + (1 : Int32)) < 0 ∨ L ≤ ((i + (1 : Int32))).toNatClampNeg then none else some (xs ((i + (1 : Int32))).toNatClampNeg)).bind fun v168 =>
  (g_223 v168 σ).bind fun t169 =>
  (if (i + (1 : Int32)) < 0 ∨ L ≤ ((i + (1 : Int32))).toNatClampNeg then none else some (xs ((i + (1 : Int32))).toNatClampNeg)).bind fun v170 =>
  (g_224 v170 t169.2).bind fun t171 =>
  (g_178  t171.2).bind fun t172 =>
  if t172 = t169.1 then (
   if ¬ t169.1 = 0 then (
    some t171.2
   ) else (
    (f_rd t171.2 167 1 (0 : Int32)).bind fun v173 =>
    if (lg_cmp (v173).toInt64 (t171.1).toInt64) = 0 then (
     some t171.2
    ) else (
     none
    )
   )
  ) else (
   none
  )
set_option maxRecDepth 100000 in
theorem LW_23 {xs : Nat → Int32} {L c n : Nat} (i : Int32) (σ : f_M) (u : Value × Value × Value × Value) (hc : 7 ≤ c ∧ 42 ≤ n) (k9 : f_M → Option f_W) (hk : ∀ (σ' : f_M) (u' : Value × Value × Value × Value) (c' n' : Nat), c ≤ c' + 7 → n ≤ n' + 42 → f_Sim a_MT xs L 168 md_358 2923 [.ref a_big, .ref 0, .ref 155, .ref 167, .int i, u'.1, u'.2.1, u'.2.2.1, u'.2.2.2] [] σ' c' n' (k9 σ')) : f_Sim a_MT xs L 168 md_358 1259 [.ref a_big, .ref 0, .ref 155, .ref 167, .int i, u.1, u.2.1, u.2.2.1, u.2.2.2] [] σ c n ((lw_23 xs L i σ).bind k9) := by
  have hN : 168 ≤ 168 := Nat.le_refl _
  unfold lw_23
  refine i_aload_n (pc' := 1260) (f_at inc_358 (j := 629) rfl) rfl rfl ?_
  refine i_aload_n (pc' := 1261) (f_at inc_358 (j := 630) rfl) rfl rfl ?_
  refine i_iload (pc' := 1263) (f_at inc_358 (j := 631) rfl) rfl rfl ?_
  refine i_iconst (pc' := 1264) (f_at inc_358 (j := 632) rfl) ci_1 rfl ?_
  refine i_iadd (pc' := 1265) (f_at inc_358 (j := 633) rfl) rfl ?_
  refine i_xald (pc' := 1266) (f_at inc_358 (j := 634) rfl) rfl fun v168 ev168 => ?_
  refine i_aload_n (pc' := 1267) (f_at inc_358 (j := 635) rfl) rfl rfl ?_
  refine c_wi (pc' := 1270) (c' := (c - 1)) (n' := (n - 6)) (h_stat (ra := [.ref 167, .int v168, .ref 0]) (r := []) (as := [.ref 0, .int v168, .ref 167]) (f_at inc_358 (j := 636) rfl) (by decide) MT_223 rfl rfl rfl ⟨(show 1 ≤ c from by omega), (show 6 ≤ n from by omega), Nat.le_of_ble_eq_true rfl⟩) MT_223 (G_223 hN v168 σ) ⟨rfl, rfl, rfl⟩ fun t169 => ?_
  refine i_istore (pc' := 1272) (ls' := [.ref a_big, .ref 0, .ref 155, .ref 167, .int i, .int t169.1, u.2.1, u.2.2.1, u.2.2.2]) (f_at inc_358 (j := 637) rfl) (Nat.le_of_ble_eq_true rfl) rfl rfl ?_
  refine i_aload_n (pc' := 1273) (f_at inc_358 (j := 638) rfl) rfl rfl ?_
  refine i_aload_n (pc' := 1274) (f_at inc_358 (j := 639) rfl) rfl rfl ?_
  refine i_iload (pc' := 1276) (f_at inc_358 (j := 640) rfl) rfl rfl ?_
  refine i_iconst (pc' := 1277) (f_at inc_358 (j := 641) rfl) ci_1 rfl ?_
  refine i_iadd (pc' := 1278) (f_at inc_358 (j := 642) rfl) rfl ?_
  refine i_xald (pc' := 1279) (f_at inc_358 (j := 643) rfl) rfl fun v170 ev170 => ?_
  refine c_wi (pc' := 1282) (c' := (c - 1)) (n' := (n - 6)) (h_virt (ra := [.int v170, .ref 155]) (r := []) (as := [.int v170]) (f_at inc_358 (j := 644) rfl) (by decide) MT_224 rfl rfl rfl ⟨(show 0 ≤ (c - 1) from by omega), (show 0 ≤ (n - 6) from by omega), Nat.le_of_ble_eq_true rfl⟩ sh_155 (f_lt (o := 155) (m := 168) (Nat.le_of_ble_eq_true rfl) hN)) MT_224 (G_224 (Nat.le_trans (Nat.le_of_ble_eq_true rfl) hN) v170 t169.2) ⟨rfl, rfl, rfl⟩ fun t171 => ?_
  refine i_istore (pc' := 1284) (ls' := [.ref a_big, .ref 0, .ref 155, .ref 167, .int i, .int t169.1, .int t171.1, u.2.2.1, u.2.2.2]) (f_at inc_358 (j := 645) rfl) (Nat.le_of_ble_eq_true rfl) rfl rfl ?_
  refine i_aload_n (pc' := 1285) (f_at inc_358 (j := 646) rfl) rfl rfl ?_
  refine c_pi (pc' := 1288) (c' := (c - 1)) (n' := (n - 6)) (h_virt (ra := [.ref 155]) (r := []) (as := []) (f_at inc_358 (j := 647) rfl) (by decide) MT_178 rfl rfl rfl ⟨(show 0 ≤ (c - 1) from by omega), (show 0 ≤ (n - 6) from by omega), Nat.le_of_ble_eq_true rfl⟩ sh_155 (f_lt (o := 155) (m := 168) (Nat.le_of_ble_eq_true rfl) hN)) MT_178 (G_178 (Nat.le_trans (Nat.le_of_ble_eq_true rfl) hN)  t171.2) ⟨rfl, rfl, rfl⟩ fun t172 => ?_
  refine i_iload (pc' := 1290) (f_at inc_358 (j := 648) rfl) rfl rfl ?_
  refine i_if2 (pc' := 1295) (nx := 1293) c2_eq (f_at inc_358 (j := 649) rfl) ⟨by decide, rfl⟩ (fun b176 => ?_) (fun b176 => ?_)
  · refine i_iload (pc' := 1297) (f_at inc_358 (j := 652) rfl) rfl rfl ?_
    refine i_if0 (pc' := 1312) (nx := 1300) c0_ne (f_at inc_358 (j := 653) rfl) ⟨by decide, rfl⟩ (fun b175 => ?_) (fun b175 => ?_)
    · refine i_goto (pc' := 2923) (f_at inc_358 (j := 663) rfl) (by decide) ?_
      exact hk t171.2 (.int t169.1, .int t171.1, u.2.2.1, u.2.2.2) (c - 1) (n - 6) (by omega) (by omega)
    · refine i_aload_n (pc' := 1301) (f_at inc_358 (j := 654) rfl) rfl rfl ?_
      refine i_iconst (pc' := 1302) (f_at inc_358 (j := 655) rfl) ci_0 rfl ?_
      refine i_lald (pc' := 1303) (f_at inc_358 (j := 656) rfl) sh_167 (f_bg (Nat.le_of_ble_eq_true rfl)) (f_lt (o := 167) (m := 168) (Nat.le_of_ble_eq_true rfl) hN) rfl fun v173 => ?_
      refine i_iload (pc' := 1305) (f_at inc_358 (j := 657) rfl) rfl rfl ?_
      refine i_i2l (pc' := 1306) (f_at inc_358 (j := 658) rfl) rfl ?_
      refine i_lcmp (pc' := 1307) (f_at inc_358 (j := 659) rfl) rfl ?_
      refine i_if0 (pc' := 1312) (nx := 1310) c0_eq (f_at inc_358 (j := 660) rfl) ⟨by decide, rfl⟩ (fun b174 => ?_) (fun b174 => ?_)
      · refine i_goto (pc' := 2923) (f_at inc_358 (j := 663) rfl) (by decide) ?_
        exact hk t171.2 (.int t169.1, .int t171.1, u.2.2.1, u.2.2.2) (c - 1) (n - 6) (by omega) (by omega)
      · refine i_iconst (pc' := 1311) (f_at inc_358 (j := 661) rfl) ci_0 rfl ?_
        exact f_none
  · refine i_iconst (pc' := 1294) (f_at inc_358 (j := 650) rfl) ci_0 rfl ?_
    exact f_none
set_option maxRecDepth 100000 in
def lw_24 (xs : Nat → Int32) (L : Nat) (i : Int32) (σ : f_M) : Option f_M :=
  (if (i + (1 : Int32)) < 0 ∨ L ≤ ((i + (1 : Int32))).toNatClampNeg then none else some (xs ((i + (1 : Int32))).toNatClampNeg)).bind fun v177 =>
  (g_226 v177 σ).bind fun t178 =>
  (if (i + (1 : Int32)) < 0 ∨ L ≤ ((i + (1 : Int32))).toNatClampNeg then none else some (xs ((i + (1 : Int32))).toNatClampNeg)).bind fun v179 =>
  (g_227 v179 t178.2).bind fun t180 =>
  (g_178  t180.2).bind fun t181 =>
  if t181 = t178.1 then (
   if ¬ t178.1 = 0 then (
    some t180.2
   ) else (
    (f_rd t180.2 167 1 (0 : Int32)).bind fun v182 =>
    if (lg_cmp (v182).toInt64 (t180.1).toInt64) = 0 then (
     some t180.2
    ) else (
     none
    )
   )
  ) else (
   none
  )
set_option maxRecDepth 100000 in
theorem LW_24 {xs : Nat → Int32} {L c n : Nat} (i : Int32) (σ : f_M) (u : Value × Value × Value × Value) (hc : 7 ≤ c ∧ 42 ≤ n) (k9 : f_M → Option f_W) (hk : ∀ (σ' : f_M) (u' : Value × Value × Value × Value) (c' n' : Nat), c ≤ c' + 7 → n ≤ n' + 42 → f_Sim a_MT xs L 168 md_358 2923 [.ref a_big, .ref 0, .ref 155, .ref 167, .int i, u'.1, u'.2.1, u'.2.2.1, u'.2.2.2] [] σ' c' n' (k9 σ')) : f_Sim a_MT xs L 168 md_358 1315 [.ref a_big, .ref 0, .ref 155, .ref 167, .int i, u.1, u.2.1, u.2.2.1, u.2.2.2] [] σ c n ((lw_24 xs L i σ).bind k9) := by
  have hN : 168 ≤ 168 := Nat.le_refl _
  unfold lw_24
  refine i_aload_n (pc' := 1316) (f_at inc_358 (j := 664) rfl) rfl rfl ?_
  refine i_aload_n (pc' := 1317) (f_at inc_358 (j := 665) rfl) rfl rfl ?_
  refine i_iload (pc' := 1319) (f_at inc_358 (j := 666) rfl) rfl rfl ?_
  refine i_iconst (pc' := 1320) (f_at inc_358 (j := 667) rfl) ci_1 rfl ?_
  refine i_iadd (pc' := 1321) (f_at inc_358 (j := 668) rfl) rfl ?_
  refine i_xald (pc' := 1322) (f_at inc_358 (j := 669) rfl) rfl fun v177 ev177 => ?_
  refine i_aload_n (pc' := 1323) (f_at inc_358 (j := 670) rfl) rfl rfl ?_
  refine c_wi (pc' := 1326) (c' := (c - 1)) (n' := (n - 6)) (h_stat (ra := [.ref 167, .int v177, .ref 0]) (r := []) (as := [.ref 0, .int v177, .ref 167]) (f_at inc_358 (j := 671) rfl) (by decide) MT_226 rfl rfl rfl ⟨(show 1 ≤ c from by omega), (show 6 ≤ n from by omega), Nat.le_of_ble_eq_true rfl⟩) MT_226 (G_226 hN v177 σ) ⟨rfl, rfl, rfl⟩ fun t178 => ?_
  refine i_istore (pc' := 1328) (ls' := [.ref a_big, .ref 0, .ref 155, .ref 167, .int i, .int t178.1, u.2.1, u.2.2.1, u.2.2.2]) (f_at inc_358 (j := 672) rfl) (Nat.le_of_ble_eq_true rfl) rfl rfl ?_
  refine i_aload_n (pc' := 1329) (f_at inc_358 (j := 673) rfl) rfl rfl ?_
  refine i_aload_n (pc' := 1330) (f_at inc_358 (j := 674) rfl) rfl rfl ?_
  refine i_iload (pc' := 1332) (f_at inc_358 (j := 675) rfl) rfl rfl ?_
  refine i_iconst (pc' := 1333) (f_at inc_358 (j := 676) rfl) ci_1 rfl ?_
  refine i_iadd (pc' := 1334) (f_at inc_358 (j := 677) rfl) rfl ?_
  refine i_xald (pc' := 1335) (f_at inc_358 (j := 678) rfl) rfl fun v179 ev179 => ?_
  refine c_wi (pc' := 1338) (c' := (c - 1)) (n' := (n - 6)) (h_virt (ra := [.int v179, .ref 155]) (r := []) (as := [.int v179]) (f_at inc_358 (j := 679) rfl) (by decide) MT_227 rfl rfl rfl ⟨(show 0 ≤ (c - 1) from by omega), (show 0 ≤ (n - 6) from by omega), Nat.le_of_ble_eq_true rfl⟩ sh_155 (f_lt (o := 155) (m := 168) (Nat.le_of_ble_eq_true rfl) hN)) MT_227 (G_227 (Nat.le_trans (Nat.le_of_ble_eq_true rfl) hN) v179 t178.2) ⟨rfl, rfl, rfl⟩ fun t180 => ?_
  refine i_istore (pc' := 1340) (ls' := [.ref a_big, .ref 0, .ref 155, .ref 167, .int i, .int t178.1, .int t180.1, u.2.2.1, u.2.2.2]) (f_at inc_358 (j := 680) rfl) (Nat.le_of_ble_eq_true rfl) rfl rfl ?_
  refine i_aload_n (pc' := 1341) (f_at inc_358 (j := 681) rfl) rfl rfl ?_
  refine c_pi (pc' := 1344) (c' := (c - 1)) (n' := (n - 6)) (h_virt (ra := [.ref 155]) (r := []) (as := []) (f_at inc_358 (j := 682) rfl) (by decide) MT_178 rfl rfl rfl ⟨(show 0 ≤ (c - 1) from by omega), (show 0 ≤ (n - 6) from by omega), Nat.le_of_ble_eq_true rfl⟩ sh_155 (f_lt (o := 155) (m := 168) (Nat.le_of_ble_eq_true rfl) hN)) MT_178 (G_178 (Nat.le_trans (Nat.le_of_ble_eq_true rfl) hN)  t180.2) ⟨rfl, rfl, rfl⟩ fun t181 => ?_
  refine i_iload (pc' := 1346) (f_at inc_358 (j := 683) rfl) rfl rfl ?_
  refine i_if2 (pc' := 1351) (nx := 1349) c2_eq (f_at inc_358 (j := 684) rfl) ⟨by decide, rfl⟩ (fun b185 => ?_) (fun b185 => ?_)
  · refine i_iload (pc' := 1353) (f_at inc_358 (j := 687) rfl) rfl rfl ?_
    refine i_if0 (pc' := 1368) (nx := 1356) c0_ne (f_at inc_358 (j := 688) rfl) ⟨by decide, rfl⟩ (fun b184 => ?_) (fun b184 => ?_)
    · refine i_goto (pc' := 2923) (f_at inc_358 (j := 698) rfl) (by decide) ?_
      exact hk t180.2 (.int t178.1, .int t180.1, u.2.2.1, u.2.2.2) (c - 1) (n - 6) (by omega) (by omega)
    · refine i_aload_n (pc' := 1357) (f_at inc_358 (j := 689) rfl) rfl rfl ?_
      refine i_iconst (pc' := 1358) (f_at inc_358 (j := 690) rfl) ci_0 rfl ?_
      refine i_lald (pc' := 1359) (f_at inc_358 (j := 691) rfl) sh_167 (f_bg (Nat.le_of_ble_eq_true rfl)) (f_lt (o := 167) (m := 168) (Nat.le_of_ble_eq_true rfl) hN) rfl fun v182 => ?_
      refine i_iload (pc' := 1361) (f_at inc_358 (j := 692) rfl) rfl rfl ?_
      refine i_i2l (pc' := 1362) (f_at inc_358 (j := 693) rfl) rfl ?_
      refine i_lcmp (pc' := 1363) (f_at inc_358 (j := 694) rfl) rfl ?_
      refine i_if0 (pc' := 1368) (nx := 1366) c0_eq (f_at inc_358 (j := 695) rfl) ⟨by decide, rfl⟩ (fun b183 => ?_) (fun b183 => ?_)
      · refine i_goto (pc' := 2923) (f_at inc_358 (j := 698) rfl) (by decide) ?_
        exact hk t180.2 (.int t178.1, .int t180.1, u.2.2.1, u.2.2.2) (c - 1) (n - 6) (by omega) (by omega)
      · refine i_iconst (pc' := 1367) (f_at inc_358 (j := 696) rfl) ci_0 rfl ?_
        exact f_none
  · refine i_iconst (pc' := 1350) (f_at inc_358 (j := 685) rfl) ci_0 rfl ?_
    exact f_none
set_option maxRecDepth 100000 in
def lw_25 (xs : Nat → Int32) (L : Nat) (i : Int32) (σ : f_M) : Option f_M :=
  (g_228  σ).bind fun t186 =>
  (g_229  σ).bind fun t187 =>
  if t186 = t187.1 then (
   some t187.2
  ) else (
   none
  )
set_option maxRecDepth 100000 in
theorem LW_25 {xs : Nat → Int32} {L c n : Nat} (i : Int32) (σ : f_M) (u : Value × Value × Value × Value) (hc : 7 ≤ c ∧ 42 ≤ n) (k9 : f_M → Option f_W) (hk : ∀ (σ' : f_M) (u' : Value × Value × Value × Value) (c' n' : Nat), c ≤ c' + 7 → n ≤ n' + 42 → f_Sim a_MT xs L 168 md_358 2923 [.ref a_big, .ref 0, .ref 155, .ref 167, .int i, u'.1, u'.2.1, u'.2.2.1, u'.2.2.2] [] σ' c' n' (k9 σ')) : f_Sim a_MT xs L 168 md_358 1371 [.ref a_big, .ref 0, .ref 155, .ref 167, .int i, u.1, u.2.1, u.2.2.1, u.2.2.2] [] σ c n ((lw_25 xs L i σ).bind k9) := by
  have hN : 168 ≤ 168 := Nat.le_refl _
  unfold lw_25
  refine i_aload_n (pc' := 1372) (f_at inc_358 (j := 699) rfl) rfl rfl ?_
  refine c_pi (pc' := 1375) (c' := c) (n' := n) (h_virt (ra := [.ref 0]) (r := []) (as := []) (f_at inc_358 (j := 700) rfl) (by decide) MT_228 rfl rfl rfl ⟨(show 0 ≤ c from by omega), (show 0 ≤ n from by omega), Nat.le_of_ble_eq_true rfl⟩ sh_0 (f_lt (o := 0) (m := 168) (Nat.le_of_ble_eq_true rfl) hN)) MT_228 (G_228 (Nat.le_trans (Nat.le_of_ble_eq_true rfl) hN)  σ) ⟨rfl, rfl, rfl⟩ fun t186 => ?_
  refine i_aload_n (pc' := 1376) (f_at inc_358 (j := 701) rfl) rfl rfl ?_
  refine c_wi (pc' := 1379) (c' := c) (n' := n) (h_virt (ra := [.ref 155]) (r := [.int t186]) (as := []) (f_at inc_358 (j := 702) rfl) (by decide) MT_229 rfl rfl rfl ⟨(show 0 ≤ c from by omega), (show 0 ≤ n from by omega), Nat.le_of_ble_eq_true rfl⟩ sh_155 (f_lt (o := 155) (m := 168) (Nat.le_of_ble_eq_true rfl) hN)) MT_229 (G_229 (Nat.le_trans (Nat.le_of_ble_eq_true rfl) hN)  σ) ⟨rfl, rfl, rfl⟩ fun t187 => ?_
  refine i_if2 (pc' := 2923) (nx := 1382) c2_eq (f_at inc_358 (j := 703) rfl) ⟨by decide, rfl⟩ (fun b188 => ?_) (fun b188 => ?_)
  · exact hk t187.2 (u.1, u.2.1, u.2.2.1, u.2.2.2) c n (by omega) (by omega)
  · refine i_iconst (pc' := 1383) (f_at inc_358 (j := 704) rfl) ci_0 rfl ?_
    exact f_none
set_option maxRecDepth 100000 in
def lw_26 (xs : Nat → Int32) (L : Nat) (i : Int32) (σ : f_M) : Option f_M :=
  (if (i + (1 : Int32)) < 0 ∨ L ≤ ((i + (1 : Int32))).toNatClampNeg then none else some (xs ((i + (1 : Int32))).toNatClampNeg)).bind fun v189 =>
  (g_232 v189 σ).bind fun t190 =>
  (if (i + (1 : Int32)) < 0 ∨ L ≤ ((i + (1 : Int32))).toNatClampNeg then none else some (xs ((i + (1 : Int32))).toNatClampNeg)).bind fun v191 =>
  (g_235 v191 t190.2).bind fun t192 =>
  (g_178  t192.2).bind fun t193 =>
  if t193 = t190.1 then (
   if ¬ t190.1 = 0 then (
    some t192.2
   ) else (
    (f_rd t192.2 167 1 (0 : Int32)).bind fun v194 =>
    if (lg_cmp (v194).toInt64 (t192.1).toInt64) = 0 then (
     some t192.2
    ) else (
     none
    )
   )
  ) else (
   none
  )
set_option maxRecDepth 100000 in
theorem LW_26 {xs : Nat → Int32} {L c n : Nat} (i : Int32) (σ : f_M) (u : Value × Value × Value × Value) (hc : 7 ≤ c ∧ 42 ≤ n) (k9 : f_M → Option f_W) (hk : ∀ (σ' : f_M) (u' : Value × Value × Value × Value) (c' n' : Nat), c ≤ c' + 7 → n ≤ n' + 42 → f_Sim a_MT xs L 168 md_358 2923 [.ref a_big, .ref 0, .ref 155, .ref 167, .int i, u'.1, u'.2.1, u'.2.2.1, u'.2.2.2] [] σ' c' n' (k9 σ')) : f_Sim a_MT xs L 168 md_358 1384 [.ref a_big, .ref 0, .ref 155, .ref 167, .int i, u.1, u.2.1, u.2.2.1, u.2.2.2] [] σ c n ((lw_26 xs L i σ).bind k9) := by
  have hN : 168 ≤ 168 := Nat.le_refl _
  unfold lw_26
  refine i_aload_n (pc' := 1385) (f_at inc_358 (j := 706) rfl) rfl rfl ?_
  refine i_aload_n (pc' := 1386) (f_at inc_358 (j := 707) rfl) rfl rfl ?_
  refine i_iload (pc' := 1388) (f_at inc_358 (j := 708) rfl) rfl rfl ?_
  refine i_iconst (pc' := 1389) (f_at inc_358 (j := 709) rfl) ci_1 rfl ?_
  refine i_iadd (pc' := 1390) (f_at inc_358 (j := 710) rfl) rfl ?_
  refine i_xald (pc' := 1391) (f_at inc_358 (j := 711) rfl) rfl fun v189 ev189 => ?_
  refine i_aload_n (pc' := 1392) (f_at inc_358 (j := 712) rfl) rfl rfl ?_
  refine c_wi (pc' := 1395) (c' := (c - 1)) (n' := (n - 6)) (h_stat (ra := [.ref 167, .int v189, .ref 0]) (r := []) (as := [.ref 0, .int v189, .ref 167]) (f_at inc_358 (j := 713) rfl) (by decide) MT_232 rfl rfl rfl ⟨(show 1 ≤ c from by omega), (show 6 ≤ n from by omega), Nat.le_of_ble_eq_true rfl⟩) MT_232 (G_232 hN v189 σ) ⟨rfl, rfl, rfl⟩ fun t190 => ?_
  refine i_istore (pc' := 1397) (ls' := [.ref a_big, .ref 0, .ref 155, .ref 167, .int i, .int t190.1, u.2.1, u.2.2.1, u.2.2.2]) (f_at inc_358 (j := 714) rfl) (Nat.le_of_ble_eq_true rfl) rfl rfl ?_
  refine i_aload_n (pc' := 1398) (f_at inc_358 (j := 715) rfl) rfl rfl ?_
  refine i_aload_n (pc' := 1399) (f_at inc_358 (j := 716) rfl) rfl rfl ?_
  refine i_iload (pc' := 1401) (f_at inc_358 (j := 717) rfl) rfl rfl ?_
  refine i_iconst (pc' := 1402) (f_at inc_358 (j := 718) rfl) ci_1 rfl ?_
  refine i_iadd (pc' := 1403) (f_at inc_358 (j := 719) rfl) rfl ?_
  refine i_xald (pc' := 1404) (f_at inc_358 (j := 720) rfl) rfl fun v191 ev191 => ?_
  refine c_wi (pc' := 1407) (c' := (c - 1)) (n' := (n - 6)) (h_virt (ra := [.int v191, .ref 155]) (r := []) (as := [.int v191]) (f_at inc_358 (j := 721) rfl) (by decide) MT_235 rfl rfl rfl ⟨(show 0 ≤ (c - 1) from by omega), (show 0 ≤ (n - 6) from by omega), Nat.le_of_ble_eq_true rfl⟩ sh_155 (f_lt (o := 155) (m := 168) (Nat.le_of_ble_eq_true rfl) hN)) MT_235 (G_235 (Nat.le_trans (Nat.le_of_ble_eq_true rfl) hN) v191 t190.2) ⟨rfl, rfl, rfl⟩ fun t192 => ?_
  refine i_istore (pc' := 1409) (ls' := [.ref a_big, .ref 0, .ref 155, .ref 167, .int i, .int t190.1, .int t192.1, u.2.2.1, u.2.2.2]) (f_at inc_358 (j := 722) rfl) (Nat.le_of_ble_eq_true rfl) rfl rfl ?_
  refine i_aload_n (pc' := 1410) (f_at inc_358 (j := 723) rfl) rfl rfl ?_
  refine c_pi (pc' := 1413) (c' := (c - 1)) (n' := (n - 6)) (h_virt (ra := [.ref 155]) (r := []) (as := []) (f_at inc_358 (j := 724) rfl) (by decide) MT_178 rfl rfl rfl ⟨(show 0 ≤ (c - 1) from by omega), (show 0 ≤ (n - 6) from by omega), Nat.le_of_ble_eq_true rfl⟩ sh_155 (f_lt (o := 155) (m := 168) (Nat.le_of_ble_eq_true rfl) hN)) MT_178 (G_178 (Nat.le_trans (Nat.le_of_ble_eq_true rfl) hN)  t192.2) ⟨rfl, rfl, rfl⟩ fun t193 => ?_
  refine i_iload (pc' := 1415) (f_at inc_358 (j := 725) rfl) rfl rfl ?_
  refine i_if2 (pc' := 1420) (nx := 1418) c2_eq (f_at inc_358 (j := 726) rfl) ⟨by decide, rfl⟩ (fun b197 => ?_) (fun b197 => ?_)
  · refine i_iload (pc' := 1422) (f_at inc_358 (j := 729) rfl) rfl rfl ?_
    refine i_if0 (pc' := 1437) (nx := 1425) c0_ne (f_at inc_358 (j := 730) rfl) ⟨by decide, rfl⟩ (fun b196 => ?_) (fun b196 => ?_)
    · refine i_goto (pc' := 2923) (f_at inc_358 (j := 740) rfl) (by decide) ?_
      exact hk t192.2 (.int t190.1, .int t192.1, u.2.2.1, u.2.2.2) (c - 1) (n - 6) (by omega) (by omega)
    · refine i_aload_n (pc' := 1426) (f_at inc_358 (j := 731) rfl) rfl rfl ?_
      refine i_iconst (pc' := 1427) (f_at inc_358 (j := 732) rfl) ci_0 rfl ?_
      refine i_lald (pc' := 1428) (f_at inc_358 (j := 733) rfl) sh_167 (f_bg (Nat.le_of_ble_eq_true rfl)) (f_lt (o := 167) (m := 168) (Nat.le_of_ble_eq_true rfl) hN) rfl fun v194 => ?_
      refine i_iload (pc' := 1430) (f_at inc_358 (j := 734) rfl) rfl rfl ?_
      refine i_i2l (pc' := 1431) (f_at inc_358 (j := 735) rfl) rfl ?_
      refine i_lcmp (pc' := 1432) (f_at inc_358 (j := 736) rfl) rfl ?_
      refine i_if0 (pc' := 1437) (nx := 1435) c0_eq (f_at inc_358 (j := 737) rfl) ⟨by decide, rfl⟩ (fun b195 => ?_) (fun b195 => ?_)
      · refine i_goto (pc' := 2923) (f_at inc_358 (j := 740) rfl) (by decide) ?_
        exact hk t192.2 (.int t190.1, .int t192.1, u.2.2.1, u.2.2.2) (c - 1) (n - 6) (by omega) (by omega)
      · refine i_iconst (pc' := 1436) (f_at inc_358 (j := 738) rfl) ci_0 rfl ?_
        exact f_none
  · refine i_iconst (pc' := 1419) (f_at inc_358 (j := 727) rfl) ci_0 rfl ?_
    exact f_none
set_option maxRecDepth 100000 in
def lw_27 (xs : Nat → Int32) (L : Nat) (i : Int32) (σ : f_M) : Option f_M :=
  (if (i + (1 : Int32)) < 0 ∨ L ≤ ((i + (1 : Int32))).toNatClampNeg then none else some (xs ((i + (1 : Int32))).toNatClampNeg)).bind fun v198 =>
  (g_237 v198 σ).bind fun t199 =>
  (if (i + (1 : Int32)) < 0 ∨ L ≤ ((i + (1 : Int32))).toNatClampNeg then none else some (xs ((i + (1 : Int32))).toNatClampNeg)).bind fun v200 =>
  (g_238 v200 t199.2).bind fun t201 =>
  (g_178  t201.2).bind fun t202 =>
  if t202 = t199.1 then (
   if ¬ t199.1 = 0 then (
    some t201.2
   ) else (
    (f_rd t201.2 167 1 (0 : Int32)).bind fun v203 =>
    if (lg_cmp (v203).toInt64 (t201.1).toInt64) = 0 then (
     some t201.2
    ) else (
     none
    )
   )
  ) else (
   none
  )
set_option maxRecDepth 100000 in
theorem LW_27 {xs : Nat → Int32} {L c n : Nat} (i : Int32) (σ : f_M) (u : Value × Value × Value × Value) (hc : 7 ≤ c ∧ 42 ≤ n) (k9 : f_M → Option f_W) (hk : ∀ (σ' : f_M) (u' : Value × Value × Value × Value) (c' n' : Nat), c ≤ c' + 7 → n ≤ n' + 42 → f_Sim a_MT xs L 168 md_358 2923 [.ref a_big, .ref 0, .ref 155, .ref 167, .int i, u'.1, u'.2.1, u'.2.2.1, u'.2.2.2] [] σ' c' n' (k9 σ')) : f_Sim a_MT xs L 168 md_358 1440 [.ref a_big, .ref 0, .ref 155, .ref 167, .int i, u.1, u.2.1, u.2.2.1, u.2.2.2] [] σ c n ((lw_27 xs L i σ).bind k9) := by
  have hN : 168 ≤ 168 := Nat.le_refl _
  unfold lw_27
  refine i_aload_n (pc' := 1441) (f_at inc_358 (j := 741) rfl) rfl rfl ?_
  refine i_aload_n (pc' := 1442) (f_at inc_358 (j := 742) rfl) rfl rfl ?_
  refine i_iload (pc' := 1444) (f_at inc_358 (j := 743) rfl) rfl rfl ?_
  refine i_iconst (pc' := 1445) (f_at inc_358 (j := 744) rfl) ci_1 rfl ?_
  refine i_iadd (pc' := 1446) (f_at inc_358 (j := 745) rfl) rfl ?_
  refine i_xald (pc' := 1447) (f_at inc_358 (j := 746) rfl) rfl fun v198 ev198 => ?_
  refine i_aload_n (pc' := 1448) (f_at inc_358 (j := 747) rfl) rfl rfl ?_
  refine c_wi (pc' := 1451) (c' := (c - 1)) (n' := (n - 6)) (h_stat (ra := [.ref 167, .int v198, .ref 0]) (r := []) (as := [.ref 0, .int v198, .ref 167]) (f_at inc_358 (j := 748) rfl) (by decide) MT_237 rfl rfl rfl ⟨(show 1 ≤ c from by omega), (show 6 ≤ n from by omega), Nat.le_of_ble_eq_true rfl⟩) MT_237 (G_237 hN v198 σ) ⟨rfl, rfl, rfl⟩ fun t199 => ?_
  refine i_istore (pc' := 1453) (ls' := [.ref a_big, .ref 0, .ref 155, .ref 167, .int i, .int t199.1, u.2.1, u.2.2.1, u.2.2.2]) (f_at inc_358 (j := 749) rfl) (Nat.le_of_ble_eq_true rfl) rfl rfl ?_
  refine i_aload_n (pc' := 1454) (f_at inc_358 (j := 750) rfl) rfl rfl ?_
  refine i_aload_n (pc' := 1455) (f_at inc_358 (j := 751) rfl) rfl rfl ?_
  refine i_iload (pc' := 1457) (f_at inc_358 (j := 752) rfl) rfl rfl ?_
  refine i_iconst (pc' := 1458) (f_at inc_358 (j := 753) rfl) ci_1 rfl ?_
  refine i_iadd (pc' := 1459) (f_at inc_358 (j := 754) rfl) rfl ?_
  refine i_xald (pc' := 1460) (f_at inc_358 (j := 755) rfl) rfl fun v200 ev200 => ?_
  refine c_wi (pc' := 1463) (c' := (c - 1)) (n' := (n - 6)) (h_virt (ra := [.int v200, .ref 155]) (r := []) (as := [.int v200]) (f_at inc_358 (j := 756) rfl) (by decide) MT_238 rfl rfl rfl ⟨(show 0 ≤ (c - 1) from by omega), (show 0 ≤ (n - 6) from by omega), Nat.le_of_ble_eq_true rfl⟩ sh_155 (f_lt (o := 155) (m := 168) (Nat.le_of_ble_eq_true rfl) hN)) MT_238 (G_238 (Nat.le_trans (Nat.le_of_ble_eq_true rfl) hN) v200 t199.2) ⟨rfl, rfl, rfl⟩ fun t201 => ?_
  refine i_istore (pc' := 1465) (ls' := [.ref a_big, .ref 0, .ref 155, .ref 167, .int i, .int t199.1, .int t201.1, u.2.2.1, u.2.2.2]) (f_at inc_358 (j := 757) rfl) (Nat.le_of_ble_eq_true rfl) rfl rfl ?_
  refine i_aload_n (pc' := 1466) (f_at inc_358 (j := 758) rfl) rfl rfl ?_
  refine c_pi (pc' := 1469) (c' := (c - 1)) (n' := (n - 6)) (h_virt (ra := [.ref 155]) (r := []) (as := []) (f_at inc_358 (j := 759) rfl) (by decide) MT_178 rfl rfl rfl ⟨(show 0 ≤ (c - 1) from by omega), (show 0 ≤ (n - 6) from by omega), Nat.le_of_ble_eq_true rfl⟩ sh_155 (f_lt (o := 155) (m := 168) (Nat.le_of_ble_eq_true rfl) hN)) MT_178 (G_178 (Nat.le_trans (Nat.le_of_ble_eq_true rfl) hN)  t201.2) ⟨rfl, rfl, rfl⟩ fun t202 => ?_
  refine i_iload (pc' := 1471) (f_at inc_358 (j := 760) rfl) rfl rfl ?_
  refine i_if2 (pc' := 1476) (nx := 1474) c2_eq (f_at inc_358 (j := 761) rfl) ⟨by decide, rfl⟩ (fun b206 => ?_) (fun b206 => ?_)
  · refine i_iload (pc' := 1478) (f_at inc_358 (j := 764) rfl) rfl rfl ?_
    refine i_if0 (pc' := 1493) (nx := 1481) c0_ne (f_at inc_358 (j := 765) rfl) ⟨by decide, rfl⟩ (fun b205 => ?_) (fun b205 => ?_)
    · refine i_goto (pc' := 2923) (f_at inc_358 (j := 775) rfl) (by decide) ?_
      exact hk t201.2 (.int t199.1, .int t201.1, u.2.2.1, u.2.2.2) (c - 1) (n - 6) (by omega) (by omega)
    · refine i_aload_n (pc' := 1482) (f_at inc_358 (j := 766) rfl) rfl rfl ?_
      refine i_iconst (pc' := 1483) (f_at inc_358 (j := 767) rfl) ci_0 rfl ?_
      refine i_lald (pc' := 1484) (f_at inc_358 (j := 768) rfl) sh_167 (f_bg (Nat.le_of_ble_eq_true rfl)) (f_lt (o := 167) (m := 168) (Nat.le_of_ble_eq_true rfl) hN) rfl fun v203 => ?_
      refine i_iload (pc' := 1486) (f_at inc_358 (j := 769) rfl) rfl rfl ?_
      refine i_i2l (pc' := 1487) (f_at inc_358 (j := 770) rfl) rfl ?_
      refine i_lcmp (pc' := 1488) (f_at inc_358 (j := 771) rfl) rfl ?_
      refine i_if0 (pc' := 1493) (nx := 1491) c0_eq (f_at inc_358 (j := 772) rfl) ⟨by decide, rfl⟩ (fun b204 => ?_) (fun b204 => ?_)
      · refine i_goto (pc' := 2923) (f_at inc_358 (j := 775) rfl) (by decide) ?_
        exact hk t201.2 (.int t199.1, .int t201.1, u.2.2.1, u.2.2.2) (c - 1) (n - 6) (by omega) (by omega)
      · refine i_iconst (pc' := 1492) (f_at inc_358 (j := 773) rfl) ci_0 rfl ?_
        exact f_none
  · refine i_iconst (pc' := 1475) (f_at inc_358 (j := 762) rfl) ci_0 rfl ?_
    exact f_none
set_option maxRecDepth 100000 in
def lw_28 (xs : Nat → Int32) (L : Nat) (i : Int32) (σ : f_M) : Option f_M :=
  (if (i + (1 : Int32)) < 0 ∨ L ≤ ((i + (1 : Int32))).toNatClampNeg then none else some (xs ((i + (1 : Int32))).toNatClampNeg)).bind fun v207 =>
  (g_240 v207 σ).bind fun t208 =>
  (if (i + (1 : Int32)) < 0 ∨ L ≤ ((i + (1 : Int32))).toNatClampNeg then none else some (xs ((i + (1 : Int32))).toNatClampNeg)).bind fun v209 =>
  (g_242 v209 t208.2).bind fun t210 =>
  (g_178  t210.2).bind fun t211 =>
  if t211 = t208.1 then (
   if ¬ t208.1 = 0 then (
    some t210.2
   ) else (
    (f_rd t210.2 167 1 (0 : Int32)).bind fun v212 =>
    (
     if t210.1 = false then (
      some (0 : Int32)
     ) else (
      some (1 : Int32)
     )
    ).bind fun (t213 : Int32) =>
    if (lg_cmp (v212).toInt64 (t213).toInt64) = 0 then (
     some t210.2
    ) else (
     none
    )
   )
  ) else (
   none
  )
set_option maxRecDepth 100000 in
theorem LW_28 {xs : Nat → Int32} {L c n : Nat} (i : Int32) (σ : f_M) (u : Value × Value × Value × Value) (hc : 7 ≤ c ∧ 42 ≤ n) (k9 : f_M → Option f_W) (hk : ∀ (σ' : f_M) (u' : Value × Value × Value × Value) (c' n' : Nat), c ≤ c' + 7 → n ≤ n' + 42 → f_Sim a_MT xs L 168 md_358 2923 [.ref a_big, .ref 0, .ref 155, .ref 167, .int i, u'.1, u'.2.1, u'.2.2.1, u'.2.2.2] [] σ' c' n' (k9 σ')) : f_Sim a_MT xs L 168 md_358 1496 [.ref a_big, .ref 0, .ref 155, .ref 167, .int i, u.1, u.2.1, u.2.2.1, u.2.2.2] [] σ c n ((lw_28 xs L i σ).bind k9) := by
  have hN : 168 ≤ 168 := Nat.le_refl _
  unfold lw_28
  refine i_aload_n (pc' := 1497) (f_at inc_358 (j := 776) rfl) rfl rfl ?_
  refine i_aload_n (pc' := 1498) (f_at inc_358 (j := 777) rfl) rfl rfl ?_
  refine i_iload (pc' := 1500) (f_at inc_358 (j := 778) rfl) rfl rfl ?_
  refine i_iconst (pc' := 1501) (f_at inc_358 (j := 779) rfl) ci_1 rfl ?_
  refine i_iadd (pc' := 1502) (f_at inc_358 (j := 780) rfl) rfl ?_
  refine i_xald (pc' := 1503) (f_at inc_358 (j := 781) rfl) rfl fun v207 ev207 => ?_
  refine i_aload_n (pc' := 1504) (f_at inc_358 (j := 782) rfl) rfl rfl ?_
  refine c_wi (pc' := 1507) (c' := (c - 1)) (n' := (n - 6)) (h_stat (ra := [.ref 167, .int v207, .ref 0]) (r := []) (as := [.ref 0, .int v207, .ref 167]) (f_at inc_358 (j := 783) rfl) (by decide) MT_240 rfl rfl rfl ⟨(show 1 ≤ c from by omega), (show 6 ≤ n from by omega), Nat.le_of_ble_eq_true rfl⟩) MT_240 (G_240 hN v207 σ) ⟨rfl, rfl, rfl⟩ fun t208 => ?_
  refine i_istore (pc' := 1509) (ls' := [.ref a_big, .ref 0, .ref 155, .ref 167, .int i, .int t208.1, u.2.1, u.2.2.1, u.2.2.2]) (f_at inc_358 (j := 784) rfl) (Nat.le_of_ble_eq_true rfl) rfl rfl ?_
  refine i_aload_n (pc' := 1510) (f_at inc_358 (j := 785) rfl) rfl rfl ?_
  refine i_aload_n (pc' := 1511) (f_at inc_358 (j := 786) rfl) rfl rfl ?_
  refine i_iload (pc' := 1513) (f_at inc_358 (j := 787) rfl) rfl rfl ?_
  refine i_iconst (pc' := 1514) (f_at inc_358 (j := 788) rfl) ci_1 rfl ?_
  refine i_iadd (pc' := 1515) (f_at inc_358 (j := 789) rfl) rfl ?_
  refine i_xald (pc' := 1516) (f_at inc_358 (j := 790) rfl) rfl fun v209 ev209 => ?_
  refine c_wb (pc' := 1519) (c' := (c - 1)) (n' := (n - 6)) (h_virt (ra := [.int v209, .ref 155]) (r := []) (as := [.int v209]) (f_at inc_358 (j := 791) rfl) (by decide) MT_242 rfl rfl rfl ⟨(show 0 ≤ (c - 1) from by omega), (show 0 ≤ (n - 6) from by omega), Nat.le_of_ble_eq_true rfl⟩ sh_155 (f_lt (o := 155) (m := 168) (Nat.le_of_ble_eq_true rfl) hN)) MT_242 (G_242 (Nat.le_trans (Nat.le_of_ble_eq_true rfl) hN) v209 t208.2) ⟨rfl, rfl, rfl⟩ fun t210 => ?_
  refine i_istore (pc' := 1521) (ls' := [.ref a_big, .ref 0, .ref 155, .ref 167, .int i, .int t208.1, .int (f_b t210.1), u.2.2.1, u.2.2.2]) (f_at inc_358 (j := 792) rfl) (Nat.le_of_ble_eq_true rfl) rfl rfl ?_
  refine i_aload_n (pc' := 1522) (f_at inc_358 (j := 793) rfl) rfl rfl ?_
  refine c_pi (pc' := 1525) (c' := (c - 1)) (n' := (n - 6)) (h_virt (ra := [.ref 155]) (r := []) (as := []) (f_at inc_358 (j := 794) rfl) (by decide) MT_178 rfl rfl rfl ⟨(show 0 ≤ (c - 1) from by omega), (show 0 ≤ (n - 6) from by omega), Nat.le_of_ble_eq_true rfl⟩ sh_155 (f_lt (o := 155) (m := 168) (Nat.le_of_ble_eq_true rfl) hN)) MT_178 (G_178 (Nat.le_trans (Nat.le_of_ble_eq_true rfl) hN)  t210.2) ⟨rfl, rfl, rfl⟩ fun t211 => ?_
  refine i_iload (pc' := 1527) (f_at inc_358 (j := 795) rfl) rfl rfl ?_
  refine i_if2 (pc' := 1532) (nx := 1530) c2_eq (f_at inc_358 (j := 796) rfl) ⟨by decide, rfl⟩ (fun b217 => ?_) (fun b217 => ?_)
  · refine i_iload (pc' := 1534) (f_at inc_358 (j := 799) rfl) rfl rfl ?_
    refine i_if0 (pc' := 1556) (nx := 1537) c0_ne (f_at inc_358 (j := 800) rfl) ⟨by decide, rfl⟩ (fun b216 => ?_) (fun b216 => ?_)
    · refine i_goto (pc' := 2923) (f_at inc_358 (j := 813) rfl) (by decide) ?_
      exact hk t210.2 (.int t208.1, .int (f_b t210.1), u.2.2.1, u.2.2.2) (c - 1) (n - 6) (by omega) (by omega)
    · refine i_aload_n (pc' := 1538) (f_at inc_358 (j := 801) rfl) rfl rfl ?_
      refine i_iconst (pc' := 1539) (f_at inc_358 (j := 802) rfl) ci_0 rfl ?_
      refine i_lald (pc' := 1540) (f_at inc_358 (j := 803) rfl) sh_167 (f_bg (Nat.le_of_ble_eq_true rfl)) (f_lt (o := 167) (m := 168) (Nat.le_of_ble_eq_true rfl) hN) rfl fun v212 => ?_
      refine i_iload (pc' := 1542) (f_at inc_358 (j := 804) rfl) rfl rfl ?_
      refine s_join (J := 1550) (fun (t213 : Int32) (u213 : Unit) => [.ref a_big, .ref 0, .ref 155, .ref 167, .int i, .int t208.1, .int (f_b t210.1), u.2.2.1, u.2.2.2]) (fun t213 => [.long (t213).toInt64, .long (v212).toInt64]) (fun t213 => t210.2) ?_ ?_
      · intro t213 u213
        refine i_lcmp (pc' := 1551) (f_at inc_358 (j := 809) rfl) rfl ?_
        refine i_if0 (pc' := 1556) (nx := 1554) c0_eq (f_at inc_358 (j := 810) rfl) ⟨by decide, rfl⟩ (fun b215 => ?_) (fun b215 => ?_)
        · refine i_goto (pc' := 2923) (f_at inc_358 (j := 813) rfl) (by decide) ?_
          exact hk t210.2 (.int t208.1, .int (f_b t210.1), u.2.2.1, u.2.2.2) (c - 1) (n - 6) (by omega) (by omega)
        · refine i_iconst (pc' := 1555) (f_at inc_358 (j := 811) rfl) ci_0 rfl ?_
          exact f_none
      · intro k213 hj213
        refine i_if0 (pc' := 1549) (nx := 1545) cb_eq (f_at inc_358 (j := 805) rfl) ⟨by decide, rfl⟩ (fun b214 => ?_) (fun b214 => ?_)
        · refine i_lconst (pc' := 1550) (f_at inc_358 (j := 808) rfl) cl_0 rfl ?_
          exact hj213 (0 : Int32) ()
        · refine i_lconst (pc' := 1546) (f_at inc_358 (j := 806) rfl) cl_1 rfl ?_
          refine i_goto (pc' := 1550) (f_at inc_358 (j := 807) rfl) (by decide) ?_
          exact hj213 (1 : Int32) ()
  · refine i_iconst (pc' := 1531) (f_at inc_358 (j := 797) rfl) ci_0 rfl ?_
    exact f_none
set_option maxRecDepth 100000 in
def lw_29 (xs : Nat → Int32) (L : Nat) (i : Int32) (σ : f_M) : Option f_M :=
  (if (i + (1 : Int32)) < 0 ∨ L ≤ ((i + (1 : Int32))).toNatClampNeg then none else some (xs ((i + (1 : Int32))).toNatClampNeg)).bind fun v218 =>
  (g_244 v218 σ).bind fun t219 =>
  (if (i + (1 : Int32)) < 0 ∨ L ≤ ((i + (1 : Int32))).toNatClampNeg then none else some (xs ((i + (1 : Int32))).toNatClampNeg)).bind fun v220 =>
  (g_245 v220 t219.2).bind fun t221 =>
  (g_178  t221.2).bind fun t222 =>
  if t222 = t219.1 then (
   if ¬ t219.1 = 0 then (
    some t221.2
   ) else (
    (f_rd t221.2 167 1 (0 : Int32)).bind fun v223 =>
    (
     if t221.1 = false then (
      some (0 : Int32)
     ) else (
      some (1 : Int32)
     )
    ).bind fun (t224 : Int32) =>
    if (lg_cmp (v223).toInt64 (t224).toInt64) = 0 then (
     some t221.2
    ) else (
     none
    )
   )
  ) else (
   none
  )
set_option maxRecDepth 100000 in
theorem LW_29 {xs : Nat → Int32} {L c n : Nat} (i : Int32) (σ : f_M) (u : Value × Value × Value × Value) (hc : 7 ≤ c ∧ 42 ≤ n) (k9 : f_M → Option f_W) (hk : ∀ (σ' : f_M) (u' : Value × Value × Value × Value) (c' n' : Nat), c ≤ c' + 7 → n ≤ n' + 42 → f_Sim a_MT xs L 168 md_358 2923 [.ref a_big, .ref 0, .ref 155, .ref 167, .int i, u'.1, u'.2.1, u'.2.2.1, u'.2.2.2] [] σ' c' n' (k9 σ')) : f_Sim a_MT xs L 168 md_358 1559 [.ref a_big, .ref 0, .ref 155, .ref 167, .int i, u.1, u.2.1, u.2.2.1, u.2.2.2] [] σ c n ((lw_29 xs L i σ).bind k9) := by
  have hN : 168 ≤ 168 := Nat.le_refl _
  unfold lw_29
  refine i_aload_n (pc' := 1560) (f_at inc_358 (j := 814) rfl) rfl rfl ?_
  refine i_aload_n (pc' := 1561) (f_at inc_358 (j := 815) rfl) rfl rfl ?_
  refine i_iload (pc' := 1563) (f_at inc_358 (j := 816) rfl) rfl rfl ?_
  refine i_iconst (pc' := 1564) (f_at inc_358 (j := 817) rfl) ci_1 rfl ?_
  refine i_iadd (pc' := 1565) (f_at inc_358 (j := 818) rfl) rfl ?_
  refine i_xald (pc' := 1566) (f_at inc_358 (j := 819) rfl) rfl fun v218 ev218 => ?_
  refine i_aload_n (pc' := 1567) (f_at inc_358 (j := 820) rfl) rfl rfl ?_
  refine c_wi (pc' := 1570) (c' := (c - 1)) (n' := (n - 6)) (h_stat (ra := [.ref 167, .int v218, .ref 0]) (r := []) (as := [.ref 0, .int v218, .ref 167]) (f_at inc_358 (j := 821) rfl) (by decide) MT_244 rfl rfl rfl ⟨(show 1 ≤ c from by omega), (show 6 ≤ n from by omega), Nat.le_of_ble_eq_true rfl⟩) MT_244 (G_244 hN v218 σ) ⟨rfl, rfl, rfl⟩ fun t219 => ?_
  refine i_istore (pc' := 1572) (ls' := [.ref a_big, .ref 0, .ref 155, .ref 167, .int i, .int t219.1, u.2.1, u.2.2.1, u.2.2.2]) (f_at inc_358 (j := 822) rfl) (Nat.le_of_ble_eq_true rfl) rfl rfl ?_
  refine i_aload_n (pc' := 1573) (f_at inc_358 (j := 823) rfl) rfl rfl ?_
  refine i_aload_n (pc' := 1574) (f_at inc_358 (j := 824) rfl) rfl rfl ?_
  refine i_iload (pc' := 1576) (f_at inc_358 (j := 825) rfl) rfl rfl ?_
  refine i_iconst (pc' := 1577) (f_at inc_358 (j := 826) rfl) ci_1 rfl ?_
  refine i_iadd (pc' := 1578) (f_at inc_358 (j := 827) rfl) rfl ?_
  refine i_xald (pc' := 1579) (f_at inc_358 (j := 828) rfl) rfl fun v220 ev220 => ?_
  refine c_wb (pc' := 1582) (c' := (c - 1)) (n' := (n - 6)) (h_virt (ra := [.int v220, .ref 155]) (r := []) (as := [.int v220]) (f_at inc_358 (j := 829) rfl) (by decide) MT_245 rfl rfl rfl ⟨(show 0 ≤ (c - 1) from by omega), (show 0 ≤ (n - 6) from by omega), Nat.le_of_ble_eq_true rfl⟩ sh_155 (f_lt (o := 155) (m := 168) (Nat.le_of_ble_eq_true rfl) hN)) MT_245 (G_245 (Nat.le_trans (Nat.le_of_ble_eq_true rfl) hN) v220 t219.2) ⟨rfl, rfl, rfl⟩ fun t221 => ?_
  refine i_istore (pc' := 1584) (ls' := [.ref a_big, .ref 0, .ref 155, .ref 167, .int i, .int t219.1, .int (f_b t221.1), u.2.2.1, u.2.2.2]) (f_at inc_358 (j := 830) rfl) (Nat.le_of_ble_eq_true rfl) rfl rfl ?_
  refine i_aload_n (pc' := 1585) (f_at inc_358 (j := 831) rfl) rfl rfl ?_
  refine c_pi (pc' := 1588) (c' := (c - 1)) (n' := (n - 6)) (h_virt (ra := [.ref 155]) (r := []) (as := []) (f_at inc_358 (j := 832) rfl) (by decide) MT_178 rfl rfl rfl ⟨(show 0 ≤ (c - 1) from by omega), (show 0 ≤ (n - 6) from by omega), Nat.le_of_ble_eq_true rfl⟩ sh_155 (f_lt (o := 155) (m := 168) (Nat.le_of_ble_eq_true rfl) hN)) MT_178 (G_178 (Nat.le_trans (Nat.le_of_ble_eq_true rfl) hN)  t221.2) ⟨rfl, rfl, rfl⟩ fun t222 => ?_
  refine i_iload (pc' := 1590) (f_at inc_358 (j := 833) rfl) rfl rfl ?_
  refine i_if2 (pc' := 1595) (nx := 1593) c2_eq (f_at inc_358 (j := 834) rfl) ⟨by decide, rfl⟩ (fun b228 => ?_) (fun b228 => ?_)
  · refine i_iload (pc' := 1597) (f_at inc_358 (j := 837) rfl) rfl rfl ?_
    refine i_if0 (pc' := 1619) (nx := 1600) c0_ne (f_at inc_358 (j := 838) rfl) ⟨by decide, rfl⟩ (fun b227 => ?_) (fun b227 => ?_)
    · refine i_goto (pc' := 2923) (f_at inc_358 (j := 851) rfl) (by decide) ?_
      exact hk t221.2 (.int t219.1, .int (f_b t221.1), u.2.2.1, u.2.2.2) (c - 1) (n - 6) (by omega) (by omega)
    · refine i_aload_n (pc' := 1601) (f_at inc_358 (j := 839) rfl) rfl rfl ?_
      refine i_iconst (pc' := 1602) (f_at inc_358 (j := 840) rfl) ci_0 rfl ?_
      refine i_lald (pc' := 1603) (f_at inc_358 (j := 841) rfl) sh_167 (f_bg (Nat.le_of_ble_eq_true rfl)) (f_lt (o := 167) (m := 168) (Nat.le_of_ble_eq_true rfl) hN) rfl fun v223 => ?_
      refine i_iload (pc' := 1605) (f_at inc_358 (j := 842) rfl) rfl rfl ?_
      refine s_join (J := 1613) (fun (t224 : Int32) (u224 : Unit) => [.ref a_big, .ref 0, .ref 155, .ref 167, .int i, .int t219.1, .int (f_b t221.1), u.2.2.1, u.2.2.2]) (fun t224 => [.long (t224).toInt64, .long (v223).toInt64]) (fun t224 => t221.2) ?_ ?_
      · intro t224 u224
        refine i_lcmp (pc' := 1614) (f_at inc_358 (j := 847) rfl) rfl ?_
        refine i_if0 (pc' := 1619) (nx := 1617) c0_eq (f_at inc_358 (j := 848) rfl) ⟨by decide, rfl⟩ (fun b226 => ?_) (fun b226 => ?_)
        · refine i_goto (pc' := 2923) (f_at inc_358 (j := 851) rfl) (by decide) ?_
          exact hk t221.2 (.int t219.1, .int (f_b t221.1), u.2.2.1, u.2.2.2) (c - 1) (n - 6) (by omega) (by omega)
        · refine i_iconst (pc' := 1618) (f_at inc_358 (j := 849) rfl) ci_0 rfl ?_
          exact f_none
      · intro k224 hj224
        refine i_if0 (pc' := 1612) (nx := 1608) cb_eq (f_at inc_358 (j := 843) rfl) ⟨by decide, rfl⟩ (fun b225 => ?_) (fun b225 => ?_)
        · refine i_lconst (pc' := 1613) (f_at inc_358 (j := 846) rfl) cl_0 rfl ?_
          exact hj224 (0 : Int32) ()
        · refine i_lconst (pc' := 1609) (f_at inc_358 (j := 844) rfl) cl_1 rfl ?_
          refine i_goto (pc' := 1613) (f_at inc_358 (j := 845) rfl) (by decide) ?_
          exact hj224 (1 : Int32) ()
  · refine i_iconst (pc' := 1594) (f_at inc_358 (j := 835) rfl) ci_0 rfl ?_
    exact f_none
