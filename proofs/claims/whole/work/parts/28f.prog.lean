/-! Flat programs. -/
set_option maxRecDepth 4000 in
def g_186 (a1 : Int32) (σ : f_M) : Option (Unit ⊕ Fin 4) :=
  (g_171 a1 (σ 121 0) σ).bind fun t1 => Sum.elim (fun _ =>
   some (.inl ())
  ) (fun k1 => some (.inr k1)) t1
set_option maxRecDepth 4000 in
theorem G_186 {xs : Nat → Int32} {L N : Nat} (hN : 155 ≤ N) (a1 : Int32)  (σ : f_M) : f_Cal a_MT xs L N 186 [.ref 0, .int a1] σ ((g_186 a1 σ).bind fun t => some (e_tv σ t)) := by
  refine f_cal_of (ls := [.ref 0, .int a1]) MT_186 (Nat.le_of_ble_eq_true rfl) rfl ?_
  unfold g_186
  refine i_iload_n (pc' := 1) (f_at inc_186 (j := 0) rfl) rfl rfl ?_
  refine i_aload_n (pc' := 2) (f_at inc_186 (j := 1) rfl) rfl rfl ?_
  refine i_getR (pc' := 5) (f_at inc_186 (j := 2) rfl) sh_0 rfl (f_lt (o := 0) (m := 155) (Nat.le_of_ble_eq_true rfl) hN) rfl ?_
  refine i_getI (pc' := 8) (f_at inc_186 (j := 3) rfl) sh_121 rfl (f_lt (o := 121) (m := 155) (Nat.le_of_ble_eq_true rfl) hN) rfl ?_
  refine c_tv (pc' := 11) (c' := 0) (n' := 0) (h_stat (ra := [.int (σ 121 0), .int a1]) (r := []) (as := [.int a1, .int (σ 121 0)]) (f_at inc_186 (j := 4) rfl) (by decide) MT_171 rfl rfl rfl ⟨Nat.le_of_ble_eq_true rfl, Nat.le_of_ble_eq_true rfl, Nat.le_of_ble_eq_true rfl⟩) MT_171 (G_171 hN a1 (σ 121 0) σ) ⟨rfl, rfl, rfl⟩ (fun k w h => x_thr ⟨rfl, rfl⟩ h) ?_
  exact i_vret (f_at inc_186 (j := 5) rfl) rfl
set_option maxRecDepth 4000 in
def g_187 (a1 : Int32) (σ : f_M) : Option (Int32 ⊕ Fin 4) :=
  (g_186 a1 σ).bind fun t1 => Sum.elim (fun _ =>
   (f_rd σ 109 1000 a1).bind fun v2 =>
   some (.inl v2)
  ) (fun k1 => some (.inr k1)) t1
set_option maxRecDepth 4000 in
theorem G_187 {xs : Nat → Int32} {L N : Nat} (hN : 155 ≤ N) (a1 : Int32)  (σ : f_M) : f_Cal a_MT xs L N 187 [.ref 0, .int a1] σ ((g_187 a1 σ).bind fun t => some (e_ti σ t)) := by
  refine f_cal_of (ls := [.ref 0, .int a1]) MT_187 (Nat.le_of_ble_eq_true rfl) rfl ?_
  unfold g_187
  refine i_aload_n (pc' := 1) (f_at inc_187 (j := 0) rfl) rfl rfl ?_
  refine i_iload_n (pc' := 2) (f_at inc_187 (j := 1) rfl) rfl rfl ?_
  refine c_tv (pc' := 5) (c' := 0) (n' := 0) (h_virt (ra := [.int a1, .ref 0]) (r := []) (as := [.int a1]) (f_at inc_187 (j := 2) rfl) (by decide) MT_186 rfl rfl rfl ⟨Nat.le_of_ble_eq_true rfl, Nat.le_of_ble_eq_true rfl, Nat.le_of_ble_eq_true rfl⟩ sh_0 (f_lt (o := 0) (m := 155) (Nat.le_of_ble_eq_true rfl) hN)) MT_186 (G_186 hN a1 σ) ⟨rfl, rfl, rfl⟩ (fun k w h => x_thr ⟨rfl, rfl⟩ h) ?_
  refine i_aload_n (pc' := 6) (f_at inc_187 (j := 3) rfl) rfl rfl ?_
  refine i_getR (pc' := 9) (f_at inc_187 (j := 4) rfl) sh_0 rfl (f_lt (o := 0) (m := 155) (Nat.le_of_ble_eq_true rfl) hN) rfl ?_
  refine i_getR (pc' := 12) (f_at inc_187 (j := 5) rfl) sh_108 rfl (f_lt (o := 108) (m := 155) (Nat.le_of_ble_eq_true rfl) hN) rfl ?_
  refine i_iload_n (pc' := 13) (f_at inc_187 (j := 6) rfl) rfl rfl ?_
  refine i_iald (pc' := 14) (f_at inc_187 (j := 7) rfl) sh_109 (f_bg (Nat.le_of_ble_eq_true rfl)) (f_lt (o := 109) (m := 155) (Nat.le_of_ble_eq_true rfl) hN) rfl fun v2 => ?_
  exact i_iret (f_at inc_187 (j := 8) rfl) rfl n_int
set_option maxRecDepth 4000 in
def g_188 (a1 : Int32) (σ : f_M) : Option (Int32 × f_M) :=
  (g_187 a1 σ).bind fun t1 => Sum.elim (fun v1 =>
   (f_wr σ 167 1 (0 : Int32) v1).bind fun m2 =>
   some ((0 : Int32), m2)
  ) (fun k1 => (f_hc [(0, 1)] k1).bind fun v => some (v, σ)) t1
set_option maxRecDepth 4000 in
theorem G_188 {xs : Nat → Int32} {L N : Nat} (hN : 168 ≤ N) (a1 : Int32)  (σ : f_M) : f_Cal a_MT xs L N 188 [.ref 0, .int a1, .ref 167] σ ((g_188 a1 σ).bind fun t => some (e_wi t)) := by
  refine f_cal_of (ls := [.ref 0, .int a1, .ref 167, a_dead]) MT_188 (Nat.le_of_ble_eq_true rfl) rfl ?_
  unfold g_188
  refine i_aload_n (pc' := 1) (f_at inc_188 (j := 0) rfl) rfl rfl ?_
  refine i_iconst (pc' := 2) (f_at inc_188 (j := 1) rfl) ci_0 rfl ?_
  refine i_aload_n (pc' := 3) (f_at inc_188 (j := 2) rfl) rfl rfl ?_
  refine i_iload_n (pc' := 4) (f_at inc_188 (j := 3) rfl) rfl rfl ?_
  refine c_ti (pc' := 7) (c' := 0) (n' := 0) (h_virt (ra := [.int a1, .ref 0]) (r := [.int (0 : Int32), .ref 167]) (as := [.int a1]) (f_at inc_188 (j := 4) rfl) (by decide) MT_187 rfl rfl rfl ⟨Nat.le_of_ble_eq_true rfl, Nat.le_of_ble_eq_true rfl, Nat.le_of_ble_eq_true rfl⟩ sh_0 (f_lt (o := 0) (m := 168) (Nat.le_of_ble_eq_true rfl) hN)) MT_187 (G_187 (Nat.le_trans (Nat.le_of_ble_eq_true rfl) hN) a1 σ) ⟨rfl, rfl, rfl⟩ (fun k w h => x_hdl (l := [(0, 1)]) (by decide +kernel) h) fun v1 => ?_
  refine i_i2l (pc' := 8) (f_at inc_188 (j := 5) rfl) rfl ?_
  refine i_last (pc' := 9) (f_at inc_188 (j := 6) rfl) sh_167 rfl (f_lt (o := 167) (m := 168) (Nat.le_of_ble_eq_true rfl) hN) rfl fun m2 => ?_
  refine i_goto (pc' := 15) (f_at inc_188 (j := 7) rfl) (by decide) ?_
  refine i_iconst (pc' := 16) (f_at inc_188 (j := 11) rfl) ci_0 rfl ?_
  exact i_iret (f_at inc_188 (j := 12) rfl) rfl n_int
set_option maxRecDepth 4000 in
def g_189 (a1 : Int32) (σ : f_M) : Option (Bool) :=
  (f_rd σ 156 2420 (0 : Int32)).bind fun v1 =>
  (g_46 (a1).toInt64 (0 : Int64) ((v1 - (1 : Int32))).toInt64 σ).bind fun t2 =>
  some t2
set_option maxRecDepth 4000 in
theorem G_189 {xs : Nat → Int32} {L N : Nat} (hN : 166 ≤ N) (a1 : Int32)  (σ : f_M) : f_Cal a_MT xs L N 189 [.ref 155, .int a1] σ ((g_189 a1 σ).bind fun t => some (e_pb σ t)) := by
  refine f_cal_of (ls := [.ref 155, .int a1]) MT_189 (Nat.le_of_ble_eq_true rfl) rfl ?_
  unfold g_189
  refine i_iload_n (pc' := 1) (f_at inc_189 (j := 0) rfl) rfl rfl ?_
  refine i_i2l (pc' := 2) (f_at inc_189 (j := 1) rfl) rfl ?_
  refine i_lconst (pc' := 3) (f_at inc_189 (j := 2) rfl) cl_0 rfl ?_
  refine i_aload_n (pc' := 4) (f_at inc_189 (j := 3) rfl) rfl rfl ?_
  refine i_getR (pc' := 7) (f_at inc_189 (j := 4) rfl) sh_155 rfl (f_lt (o := 155) (m := 166) (Nat.le_of_ble_eq_true rfl) hN) rfl ?_
  refine i_iconst (pc' := 8) (f_at inc_189 (j := 5) rfl) ci_0 rfl ?_
  refine i_iald (pc' := 9) (f_at inc_189 (j := 6) rfl) sh_156 (f_bg (Nat.le_of_ble_eq_true rfl)) (f_lt (o := 156) (m := 166) (Nat.le_of_ble_eq_true rfl) hN) rfl fun v1 => ?_
  refine i_iconst (pc' := 10) (f_at inc_189 (j := 7) rfl) ci_1 rfl ?_
  refine i_isub (pc' := 11) (f_at inc_189 (j := 8) rfl) rfl ?_
  refine i_i2l (pc' := 12) (f_at inc_189 (j := 9) rfl) rfl ?_
  refine c_pb (pc' := 15) (c' := 0) (n' := 0) (h_stat (ra := [.long ((v1 - (1 : Int32))).toInt64, .long (0 : Int64), .long (a1).toInt64]) (r := []) (as := [.long (a1).toInt64, .long (0 : Int64), .long ((v1 - (1 : Int32))).toInt64]) (f_at inc_189 (j := 10) rfl) (by decide) MT_46 rfl rfl rfl ⟨Nat.le_of_ble_eq_true rfl, Nat.le_of_ble_eq_true rfl, Nat.le_of_ble_eq_true rfl⟩) MT_46 (G_46 hN (a1).toInt64 (0 : Int64) ((v1 - (1 : Int32))).toInt64 σ) ⟨rfl, rfl, rfl⟩ fun t2 => ?_
  exact i_iret (v := f_b t2) (f_at inc_189 (j := 11) rfl) rfl n_bool
set_option maxRecDepth 4000 in
def g_190 (a1 : Int32) (σ : f_M) : Option (Int32 × f_M) :=
  (g_189 a1 σ).bind fun t1 =>
  (g_176 t1 true true σ).bind fun t2 =>
  (
   if t2.1 = false then (
    some (0 : Int32)
   ) else (
    (f_rd t2.2 156 2420 ((420 : Int32) + a1)).bind fun v4 =>
    some v4
   )
  ).bind fun (t3 : Int32) =>
  some (t3, t2.2)
set_option maxRecDepth 4000 in
theorem G_190 {xs : Nat → Int32} {L N : Nat} (hN : 166 ≤ N) (a1 : Int32)  (σ : f_M) : f_Cal a_MT xs L N 190 [.ref 155, .int a1] σ ((g_190 a1 σ).bind fun t => some (e_wi t)) := by
  refine f_cal_of (ls := [.ref 155, .int a1]) MT_190 (Nat.le_of_ble_eq_true rfl) rfl ?_
  unfold g_190
  refine i_aload_n (pc' := 1) (f_at inc_190 (j := 0) rfl) rfl rfl ?_
  refine i_aload_n (pc' := 2) (f_at inc_190 (j := 1) rfl) rfl rfl ?_
  refine i_iload_n (pc' := 3) (f_at inc_190 (j := 2) rfl) rfl rfl ?_
  refine c_pb (pc' := 6) (c' := 0) (n' := 0) (h_virt (ra := [.int a1, .ref 155]) (r := [.ref 155]) (as := [.int a1]) (f_at inc_190 (j := 3) rfl) (by decide) MT_189 rfl rfl rfl ⟨Nat.le_of_ble_eq_true rfl, Nat.le_of_ble_eq_true rfl, Nat.le_of_ble_eq_true rfl⟩ sh_155 (f_lt (o := 155) (m := 166) (Nat.le_of_ble_eq_true rfl) hN)) MT_189 (G_189 hN a1 σ) ⟨rfl, rfl, rfl⟩ fun t1 => ?_
  refine i_iconst (pc' := 7) (f_at inc_190 (j := 4) rfl) ci_1 rfl ?_
  refine i_iconst (pc' := 8) (f_at inc_190 (j := 5) rfl) ci_1 rfl ?_
  refine c_wb (pc' := 11) (c' := 0) (n' := 0) (h_virt (ra := [.int (1 : Int32), .int (1 : Int32), .int (f_b t1), .ref 155]) (r := []) (as := [.int (f_b t1), .int (1 : Int32), .int (1 : Int32)]) (f_at inc_190 (j := 6) rfl) (by decide) MT_176 rfl rfl rfl ⟨Nat.le_of_ble_eq_true rfl, Nat.le_of_ble_eq_true rfl, Nat.le_of_ble_eq_true rfl⟩ sh_155 (f_lt (o := 155) (m := 166) (Nat.le_of_ble_eq_true rfl) hN)) MT_176 (G_176 hN t1 true true σ) ⟨rfl, rfl, rfl⟩ fun t2 => ?_
  refine s_join (J := 28) (fun (t3 : Int32) (u3 : Unit) => [.ref 155, .int a1]) (fun t3 => [.int t3]) (fun t3 => t2.2) ?_ ?_
  · intro t3 u3
    exact i_iret (f_at inc_190 (j := 16) rfl) rfl n_int
  · intro k3 hj3
    refine i_if0 (pc' := 27) (nx := 14) cb_eq (f_at inc_190 (j := 7) rfl) ⟨by decide, rfl⟩ (fun b5 => ?_) (fun b5 => ?_)
    · refine i_iconst (pc' := 28) (f_at inc_190 (j := 15) rfl) ci_0 rfl ?_
      exact hj3 (0 : Int32) ()
    · refine i_aload_n (pc' := 15) (f_at inc_190 (j := 8) rfl) rfl rfl ?_
      refine i_getR (pc' := 18) (f_at inc_190 (j := 9) rfl) sh_155 rfl (f_lt (o := 155) (m := 166) (Nat.le_of_ble_eq_true rfl) hN) rfl ?_
      refine i_sipush (pc' := 21) (f_at inc_190 (j := 10) rfl) cs_420 rfl ?_
      refine i_iload_n (pc' := 22) (f_at inc_190 (j := 11) rfl) rfl rfl ?_
      refine i_iadd (pc' := 23) (f_at inc_190 (j := 12) rfl) rfl ?_
      refine i_iald (pc' := 24) (f_at inc_190 (j := 13) rfl) sh_156 (f_bg (Nat.le_of_ble_eq_true rfl)) (f_lt (o := 156) (m := 166) (Nat.le_of_ble_eq_true rfl) hN) rfl fun v4 => ?_
      refine i_goto (pc' := 28) (f_at inc_190 (j := 14) rfl) (by decide) ?_
      exact hj3 v4 ()
set_option maxRecDepth 4000 in
def g_191 (a1 : Int32) (σ : f_M) : Option (Int32 ⊕ Fin 4) :=
  (g_186 a1 σ).bind fun t1 => Sum.elim (fun _ =>
   (f_rd σ 110 1000 a1).bind fun v2 =>
   some (.inl v2)
  ) (fun k1 => some (.inr k1)) t1
set_option maxRecDepth 4000 in
theorem G_191 {xs : Nat → Int32} {L N : Nat} (hN : 155 ≤ N) (a1 : Int32)  (σ : f_M) : f_Cal a_MT xs L N 191 [.ref 0, .int a1] σ ((g_191 a1 σ).bind fun t => some (e_ti σ t)) := by
  refine f_cal_of (ls := [.ref 0, .int a1]) MT_191 (Nat.le_of_ble_eq_true rfl) rfl ?_
  unfold g_191
  refine i_aload_n (pc' := 1) (f_at inc_191 (j := 0) rfl) rfl rfl ?_
  refine i_iload_n (pc' := 2) (f_at inc_191 (j := 1) rfl) rfl rfl ?_
  refine c_tv (pc' := 5) (c' := 0) (n' := 0) (h_virt (ra := [.int a1, .ref 0]) (r := []) (as := [.int a1]) (f_at inc_191 (j := 2) rfl) (by decide) MT_186 rfl rfl rfl ⟨Nat.le_of_ble_eq_true rfl, Nat.le_of_ble_eq_true rfl, Nat.le_of_ble_eq_true rfl⟩ sh_0 (f_lt (o := 0) (m := 155) (Nat.le_of_ble_eq_true rfl) hN)) MT_186 (G_186 hN a1 σ) ⟨rfl, rfl, rfl⟩ (fun k w h => x_thr ⟨rfl, rfl⟩ h) ?_
  refine i_aload_n (pc' := 6) (f_at inc_191 (j := 3) rfl) rfl rfl ?_
  refine i_getR (pc' := 9) (f_at inc_191 (j := 4) rfl) sh_0 rfl (f_lt (o := 0) (m := 155) (Nat.le_of_ble_eq_true rfl) hN) rfl ?_
  refine i_getR (pc' := 12) (f_at inc_191 (j := 5) rfl) sh_108 rfl (f_lt (o := 108) (m := 155) (Nat.le_of_ble_eq_true rfl) hN) rfl ?_
  refine i_iload_n (pc' := 13) (f_at inc_191 (j := 6) rfl) rfl rfl ?_
  refine i_iald (pc' := 14) (f_at inc_191 (j := 7) rfl) sh_110 (f_bg (Nat.le_of_ble_eq_true rfl)) (f_lt (o := 110) (m := 155) (Nat.le_of_ble_eq_true rfl) hN) rfl fun v2 => ?_
  exact i_iret (f_at inc_191 (j := 8) rfl) rfl n_int
set_option maxRecDepth 4000 in
def g_192 (a1 : Int32) (σ : f_M) : Option (Int32 × f_M) :=
  (g_191 a1 σ).bind fun t1 => Sum.elim (fun v1 =>
   (f_wr σ 167 1 (0 : Int32) v1).bind fun m2 =>
   some ((0 : Int32), m2)
  ) (fun k1 => (f_hc [(0, 1)] k1).bind fun v => some (v, σ)) t1
set_option maxRecDepth 4000 in
theorem G_192 {xs : Nat → Int32} {L N : Nat} (hN : 168 ≤ N) (a1 : Int32)  (σ : f_M) : f_Cal a_MT xs L N 192 [.ref 0, .int a1, .ref 167] σ ((g_192 a1 σ).bind fun t => some (e_wi t)) := by
  refine f_cal_of (ls := [.ref 0, .int a1, .ref 167, a_dead]) MT_192 (Nat.le_of_ble_eq_true rfl) rfl ?_
  unfold g_192
  refine i_aload_n (pc' := 1) (f_at inc_192 (j := 0) rfl) rfl rfl ?_
  refine i_iconst (pc' := 2) (f_at inc_192 (j := 1) rfl) ci_0 rfl ?_
  refine i_aload_n (pc' := 3) (f_at inc_192 (j := 2) rfl) rfl rfl ?_
  refine i_iload_n (pc' := 4) (f_at inc_192 (j := 3) rfl) rfl rfl ?_
  refine c_ti (pc' := 7) (c' := 0) (n' := 0) (h_virt (ra := [.int a1, .ref 0]) (r := [.int (0 : Int32), .ref 167]) (as := [.int a1]) (f_at inc_192 (j := 4) rfl) (by decide) MT_191 rfl rfl rfl ⟨Nat.le_of_ble_eq_true rfl, Nat.le_of_ble_eq_true rfl, Nat.le_of_ble_eq_true rfl⟩ sh_0 (f_lt (o := 0) (m := 168) (Nat.le_of_ble_eq_true rfl) hN)) MT_191 (G_191 (Nat.le_trans (Nat.le_of_ble_eq_true rfl) hN) a1 σ) ⟨rfl, rfl, rfl⟩ (fun k w h => x_hdl (l := [(0, 1)]) (by decide +kernel) h) fun v1 => ?_
  refine i_i2l (pc' := 8) (f_at inc_192 (j := 5) rfl) rfl ?_
  refine i_last (pc' := 9) (f_at inc_192 (j := 6) rfl) sh_167 rfl (f_lt (o := 167) (m := 168) (Nat.le_of_ble_eq_true rfl) hN) rfl fun m2 => ?_
  refine i_goto (pc' := 15) (f_at inc_192 (j := 7) rfl) (by decide) ?_
  refine i_iconst (pc' := 16) (f_at inc_192 (j := 11) rfl) ci_0 rfl ?_
  exact i_iret (f_at inc_192 (j := 12) rfl) rfl n_int
set_option maxRecDepth 4000 in
def g_193 (a1 : Int32) (σ : f_M) : Option (Int32 × f_M) :=
  (g_189 a1 σ).bind fun t1 =>
  (g_176 t1 true true σ).bind fun t2 =>
  (
   if t2.1 = false then (
    some (0 : Int32)
   ) else (
    (f_rd t2.2 156 2420 ((1420 : Int32) + a1)).bind fun v4 =>
    some v4
   )
  ).bind fun (t3 : Int32) =>
  some (t3, t2.2)
set_option maxRecDepth 4000 in
theorem G_193 {xs : Nat → Int32} {L N : Nat} (hN : 166 ≤ N) (a1 : Int32)  (σ : f_M) : f_Cal a_MT xs L N 193 [.ref 155, .int a1] σ ((g_193 a1 σ).bind fun t => some (e_wi t)) := by
  refine f_cal_of (ls := [.ref 155, .int a1]) MT_193 (Nat.le_of_ble_eq_true rfl) rfl ?_
  unfold g_193
  refine i_aload_n (pc' := 1) (f_at inc_193 (j := 0) rfl) rfl rfl ?_
  refine i_aload_n (pc' := 2) (f_at inc_193 (j := 1) rfl) rfl rfl ?_
  refine i_iload_n (pc' := 3) (f_at inc_193 (j := 2) rfl) rfl rfl ?_
  refine c_pb (pc' := 6) (c' := 0) (n' := 0) (h_virt (ra := [.int a1, .ref 155]) (r := [.ref 155]) (as := [.int a1]) (f_at inc_193 (j := 3) rfl) (by decide) MT_189 rfl rfl rfl ⟨Nat.le_of_ble_eq_true rfl, Nat.le_of_ble_eq_true rfl, Nat.le_of_ble_eq_true rfl⟩ sh_155 (f_lt (o := 155) (m := 166) (Nat.le_of_ble_eq_true rfl) hN)) MT_189 (G_189 hN a1 σ) ⟨rfl, rfl, rfl⟩ fun t1 => ?_
  refine i_iconst (pc' := 7) (f_at inc_193 (j := 4) rfl) ci_1 rfl ?_
  refine i_iconst (pc' := 8) (f_at inc_193 (j := 5) rfl) ci_1 rfl ?_
  refine c_wb (pc' := 11) (c' := 0) (n' := 0) (h_virt (ra := [.int (1 : Int32), .int (1 : Int32), .int (f_b t1), .ref 155]) (r := []) (as := [.int (f_b t1), .int (1 : Int32), .int (1 : Int32)]) (f_at inc_193 (j := 6) rfl) (by decide) MT_176 rfl rfl rfl ⟨Nat.le_of_ble_eq_true rfl, Nat.le_of_ble_eq_true rfl, Nat.le_of_ble_eq_true rfl⟩ sh_155 (f_lt (o := 155) (m := 166) (Nat.le_of_ble_eq_true rfl) hN)) MT_176 (G_176 hN t1 true true σ) ⟨rfl, rfl, rfl⟩ fun t2 => ?_
  refine s_join (J := 28) (fun (t3 : Int32) (u3 : Unit) => [.ref 155, .int a1]) (fun t3 => [.int t3]) (fun t3 => t2.2) ?_ ?_
  · intro t3 u3
    exact i_iret (f_at inc_193 (j := 16) rfl) rfl n_int
  · intro k3 hj3
    refine i_if0 (pc' := 27) (nx := 14) cb_eq (f_at inc_193 (j := 7) rfl) ⟨by decide, rfl⟩ (fun b5 => ?_) (fun b5 => ?_)
    · refine i_iconst (pc' := 28) (f_at inc_193 (j := 15) rfl) ci_0 rfl ?_
      exact hj3 (0 : Int32) ()
    · refine i_aload_n (pc' := 15) (f_at inc_193 (j := 8) rfl) rfl rfl ?_
      refine i_getR (pc' := 18) (f_at inc_193 (j := 9) rfl) sh_155 rfl (f_lt (o := 155) (m := 166) (Nat.le_of_ble_eq_true rfl) hN) rfl ?_
      refine i_sipush (pc' := 21) (f_at inc_193 (j := 10) rfl) cs_1420 rfl ?_
      refine i_iload_n (pc' := 22) (f_at inc_193 (j := 11) rfl) rfl rfl ?_
      refine i_iadd (pc' := 23) (f_at inc_193 (j := 12) rfl) rfl ?_
      refine i_iald (pc' := 24) (f_at inc_193 (j := 13) rfl) sh_156 (f_bg (Nat.le_of_ble_eq_true rfl)) (f_lt (o := 156) (m := 166) (Nat.le_of_ble_eq_true rfl) hN) rfl fun v4 => ?_
      refine i_goto (pc' := 28) (f_at inc_193 (j := 14) rfl) (by decide) ?_
      exact hj3 v4 ()
set_option maxRecDepth 4000 in
def g_194  (σ : f_M) : Option (Int32) :=
  some (σ 121 3)
set_option maxRecDepth 4000 in
theorem G_194 {xs : Nat → Int32} {L N : Nat} (hN : 155 ≤ N)   (σ : f_M) : f_Cal a_MT xs L N 194 [.ref 0] σ ((g_194  σ).bind fun t => some (e_pi σ t)) := by
  refine f_cal_of (ls := [.ref 0]) MT_194 (Nat.le_of_ble_eq_true rfl) rfl ?_
  unfold g_194
  refine i_aload_n (pc' := 1) (f_at inc_194 (j := 0) rfl) rfl rfl ?_
  refine i_getR (pc' := 4) (f_at inc_194 (j := 1) rfl) sh_0 rfl (f_lt (o := 0) (m := 155) (Nat.le_of_ble_eq_true rfl) hN) rfl ?_
  refine i_getI (pc' := 7) (f_at inc_194 (j := 2) rfl) sh_121 rfl (f_lt (o := 121) (m := 155) (Nat.le_of_ble_eq_true rfl) hN) rfl ?_
  exact i_iret (f_at inc_194 (j := 3) rfl) rfl n_int
set_option maxRecDepth 4000 in
def g_195  (σ : f_M) : Option (Int32 × f_M) :=
  (g_165 (4 : Int32) σ).bind fun t1 =>
  some (t1.1, t1.2)
set_option maxRecDepth 4000 in
theorem G_195 {xs : Nat → Int32} {L N : Nat} (hN : 166 ≤ N)   (σ : f_M) : f_Cal a_MT xs L N 195 [.ref 155] σ ((g_195  σ).bind fun t => some (e_wi t)) := by
  refine f_cal_of (ls := [.ref 155]) MT_195 (Nat.le_of_ble_eq_true rfl) rfl ?_
  unfold g_195
  refine i_aload_n (pc' := 1) (f_at inc_195 (j := 0) rfl) rfl rfl ?_
  refine i_iconst (pc' := 2) (f_at inc_195 (j := 1) rfl) ci_4 rfl ?_
  refine c_wi (pc' := 5) (c' := 0) (n' := 0) (h_virt (ra := [.int (4 : Int32), .ref 155]) (r := []) (as := [.int (4 : Int32)]) (f_at inc_195 (j := 2) rfl) (by decide) MT_165 rfl rfl rfl ⟨Nat.le_of_ble_eq_true rfl, Nat.le_of_ble_eq_true rfl, Nat.le_of_ble_eq_true rfl⟩ sh_155 (f_lt (o := 155) (m := 166) (Nat.le_of_ble_eq_true rfl) hN)) MT_165 (G_165 hN (4 : Int32) σ) ⟨rfl, rfl, rfl⟩ fun t1 => ?_
  exact i_iret (f_at inc_195 (j := 3) rfl) rfl n_int
set_option maxRecDepth 4000 in
def g_196 (a1 : Int32) (σ : f_M) : Option (Unit ⊕ Fin 4) :=
  (g_171 a1 (σ 121 3) σ).bind fun t1 => Sum.elim (fun _ =>
   some (.inl ())
  ) (fun k1 => some (.inr k1)) t1
set_option maxRecDepth 4000 in
theorem G_196 {xs : Nat → Int32} {L N : Nat} (hN : 155 ≤ N) (a1 : Int32)  (σ : f_M) : f_Cal a_MT xs L N 196 [.ref 0, .int a1] σ ((g_196 a1 σ).bind fun t => some (e_tv σ t)) := by
  refine f_cal_of (ls := [.ref 0, .int a1]) MT_196 (Nat.le_of_ble_eq_true rfl) rfl ?_
  unfold g_196
  refine i_iload_n (pc' := 1) (f_at inc_196 (j := 0) rfl) rfl rfl ?_
  refine i_aload_n (pc' := 2) (f_at inc_196 (j := 1) rfl) rfl rfl ?_
  refine i_getR (pc' := 5) (f_at inc_196 (j := 2) rfl) sh_0 rfl (f_lt (o := 0) (m := 155) (Nat.le_of_ble_eq_true rfl) hN) rfl ?_
  refine i_getI (pc' := 8) (f_at inc_196 (j := 3) rfl) sh_121 rfl (f_lt (o := 121) (m := 155) (Nat.le_of_ble_eq_true rfl) hN) rfl ?_
  refine c_tv (pc' := 11) (c' := 0) (n' := 0) (h_stat (ra := [.int (σ 121 3), .int a1]) (r := []) (as := [.int a1, .int (σ 121 3)]) (f_at inc_196 (j := 4) rfl) (by decide) MT_171 rfl rfl rfl ⟨Nat.le_of_ble_eq_true rfl, Nat.le_of_ble_eq_true rfl, Nat.le_of_ble_eq_true rfl⟩) MT_171 (G_171 hN a1 (σ 121 3) σ) ⟨rfl, rfl, rfl⟩ (fun k w h => x_thr ⟨rfl, rfl⟩ h) ?_
  exact i_vret (f_at inc_196 (j := 5) rfl) rfl
set_option maxRecDepth 4000 in
def g_197 (a1 : Int32) (σ : f_M) : Option (Bool ⊕ Fin 4) :=
  (g_196 a1 σ).bind fun t1 => Sum.elim (fun _ =>
   (f_rd σ 111 20 a1).bind fun v2 =>
   (f_z v2).bind fun b3 => some (.inl b3)
  ) (fun k1 => some (.inr k1)) t1
set_option maxRecDepth 4000 in
theorem G_197 {xs : Nat → Int32} {L N : Nat} (hN : 155 ≤ N) (a1 : Int32)  (σ : f_M) : f_Cal a_MT xs L N 197 [.ref 0, .int a1] σ ((g_197 a1 σ).bind fun t => some (e_tb σ t)) := by
  refine f_cal_of (ls := [.ref 0, .int a1]) MT_197 (Nat.le_of_ble_eq_true rfl) rfl ?_
  unfold g_197
  refine i_aload_n (pc' := 1) (f_at inc_197 (j := 0) rfl) rfl rfl ?_
  refine i_iload_n (pc' := 2) (f_at inc_197 (j := 1) rfl) rfl rfl ?_
  refine c_tv (pc' := 5) (c' := 0) (n' := 0) (h_virt (ra := [.int a1, .ref 0]) (r := []) (as := [.int a1]) (f_at inc_197 (j := 2) rfl) (by decide) MT_196 rfl rfl rfl ⟨Nat.le_of_ble_eq_true rfl, Nat.le_of_ble_eq_true rfl, Nat.le_of_ble_eq_true rfl⟩ sh_0 (f_lt (o := 0) (m := 155) (Nat.le_of_ble_eq_true rfl) hN)) MT_196 (G_196 hN a1 σ) ⟨rfl, rfl, rfl⟩ (fun k w h => x_thr ⟨rfl, rfl⟩ h) ?_
  refine i_aload_n (pc' := 6) (f_at inc_197 (j := 3) rfl) rfl rfl ?_
  refine i_getR (pc' := 9) (f_at inc_197 (j := 4) rfl) sh_0 rfl (f_lt (o := 0) (m := 155) (Nat.le_of_ble_eq_true rfl) hN) rfl ?_
  refine i_getR (pc' := 12) (f_at inc_197 (j := 5) rfl) sh_108 rfl (f_lt (o := 108) (m := 155) (Nat.le_of_ble_eq_true rfl) hN) rfl ?_
  refine i_iload_n (pc' := 13) (f_at inc_197 (j := 6) rfl) rfl rfl ?_
  refine i_bald (pc' := 14) (f_at inc_197 (j := 7) rfl) sh_111 (Or.inr rfl) (f_bg (Nat.le_of_ble_eq_true rfl)) (f_lt (o := 111) (m := 155) (Nat.le_of_ble_eq_true rfl) hN) rfl fun v2 => ?_
  exact i_zret (fun b => rfl) (f_at inc_197 (j := 8) rfl) rfl
set_option maxRecDepth 4000 in
def g_198 (a1 : Int32) (σ : f_M) : Option (Int32 × f_M) :=
  (g_197 a1 σ).bind fun t1 => Sum.elim (fun v1 =>
   (
    if v1 = false then (
     some (0 : Int32)
    ) else (
     some (1 : Int32)
    )
   ).bind fun (t2 : Int32) =>
   (f_wr σ 167 1 (0 : Int32) t2).bind fun m4 =>
   some ((0 : Int32), m4)
  ) (fun k1 => (f_hc [(0, 1)] k1).bind fun v => some (v, σ)) t1
set_option maxRecDepth 4000 in
theorem G_198 {xs : Nat → Int32} {L N : Nat} (hN : 168 ≤ N) (a1 : Int32)  (σ : f_M) : f_Cal a_MT xs L N 198 [.ref 0, .int a1, .ref 167] σ ((g_198 a1 σ).bind fun t => some (e_wi t)) := by
  refine f_cal_of (ls := [.ref 0, .int a1, .ref 167, a_dead]) MT_198 (Nat.le_of_ble_eq_true rfl) rfl ?_
  unfold g_198
  refine i_aload_n (pc' := 1) (f_at inc_198 (j := 0) rfl) rfl rfl ?_
  refine i_iconst (pc' := 2) (f_at inc_198 (j := 1) rfl) ci_0 rfl ?_
  refine i_aload_n (pc' := 3) (f_at inc_198 (j := 2) rfl) rfl rfl ?_
  refine i_iload_n (pc' := 4) (f_at inc_198 (j := 3) rfl) rfl rfl ?_
  refine c_tb (pc' := 7) (c' := 0) (n' := 0) (h_virt (ra := [.int a1, .ref 0]) (r := [.int (0 : Int32), .ref 167]) (as := [.int a1]) (f_at inc_198 (j := 4) rfl) (by decide) MT_197 rfl rfl rfl ⟨Nat.le_of_ble_eq_true rfl, Nat.le_of_ble_eq_true rfl, Nat.le_of_ble_eq_true rfl⟩ sh_0 (f_lt (o := 0) (m := 168) (Nat.le_of_ble_eq_true rfl) hN)) MT_197 (G_197 (Nat.le_trans (Nat.le_of_ble_eq_true rfl) hN) a1 σ) ⟨rfl, rfl, rfl⟩ (fun k w h => x_hdl (l := [(0, 1)]) (by decide +kernel) h) fun v1 => ?_
  refine s_join (J := 15) (fun (t2 : Int32) (u2 : Unit) => [.ref 0, .int a1, .ref 167, a_dead]) (fun t2 => [.long (t2).toInt64, .int (0 : Int32), .ref 167]) (fun t2 => σ) ?_ ?_
  · intro t2 u2
    refine i_last (pc' := 16) (f_at inc_198 (j := 9) rfl) sh_167 rfl (f_lt (o := 167) (m := 168) (Nat.le_of_ble_eq_true rfl) hN) rfl fun m4 => ?_
    refine i_goto (pc' := 22) (f_at inc_198 (j := 10) rfl) (by decide) ?_
    refine i_iconst (pc' := 23) (f_at inc_198 (j := 14) rfl) ci_0 rfl ?_
    exact i_iret (f_at inc_198 (j := 15) rfl) rfl n_int
  · intro k2 hj2
    refine i_if0 (pc' := 14) (nx := 10) cb_eq (f_at inc_198 (j := 5) rfl) ⟨by decide, rfl⟩ (fun b3 => ?_) (fun b3 => ?_)
    · refine i_lconst (pc' := 15) (f_at inc_198 (j := 8) rfl) cl_0 rfl ?_
      exact hj2 (0 : Int32) ()
    · refine i_lconst (pc' := 11) (f_at inc_198 (j := 6) rfl) cl_1 rfl ?_
      refine i_goto (pc' := 15) (f_at inc_198 (j := 7) rfl) (by decide) ?_
      exact hj2 (1 : Int32) ()
set_option maxRecDepth 4000 in
def g_199 (a1 : Int32) (σ : f_M) : Option (Bool × f_M) :=
  (g_142 a1 σ).bind fun t1 =>
  (g_176 t1 true true σ).bind fun t2 =>
  (
   if t2.1 = false then (
    some false
   ) else (
    (g_119 a1 t2.2).bind fun t4 =>
    (f_rd t2.2 156 2420 (t4 + (0 : Int32))).bind fun v5 =>
    if ¬ v5 = 0 then (
     some false
    ) else (
     some true
    )
   )
  ).bind fun (t3 : Bool) =>
  some (t3, t2.2)
set_option maxRecDepth 4000 in
theorem G_199 {xs : Nat → Int32} {L N : Nat} (hN : 166 ≤ N) (a1 : Int32)  (σ : f_M) : f_Cal a_MT xs L N 199 [.ref 155, .int a1] σ ((g_199 a1 σ).bind fun t => some (e_wb t)) := by
  refine f_cal_of (ls := [.ref 155, .int a1]) MT_199 (Nat.le_of_ble_eq_true rfl) rfl ?_
  unfold g_199
  refine i_aload_n (pc' := 1) (f_at inc_199 (j := 0) rfl) rfl rfl ?_
  refine i_aload_n (pc' := 2) (f_at inc_199 (j := 1) rfl) rfl rfl ?_
  refine i_iload_n (pc' := 3) (f_at inc_199 (j := 2) rfl) rfl rfl ?_
  refine c_pb (pc' := 6) (c' := 0) (n' := 0) (h_virt (ra := [.int a1, .ref 155]) (r := [.ref 155]) (as := [.int a1]) (f_at inc_199 (j := 3) rfl) (by decide) MT_142 rfl rfl rfl ⟨Nat.le_of_ble_eq_true rfl, Nat.le_of_ble_eq_true rfl, Nat.le_of_ble_eq_true rfl⟩ sh_155 (f_lt (o := 155) (m := 166) (Nat.le_of_ble_eq_true rfl) hN)) MT_142 (G_142 hN a1 σ) ⟨rfl, rfl, rfl⟩ fun t1 => ?_
  refine i_iconst (pc' := 7) (f_at inc_199 (j := 4) rfl) ci_1 rfl ?_
  refine i_iconst (pc' := 8) (f_at inc_199 (j := 5) rfl) ci_1 rfl ?_
  refine c_wb (pc' := 11) (c' := 0) (n' := 0) (h_virt (ra := [.int (1 : Int32), .int (1 : Int32), .int (f_b t1), .ref 155]) (r := []) (as := [.int (f_b t1), .int (1 : Int32), .int (1 : Int32)]) (f_at inc_199 (j := 6) rfl) (by decide) MT_176 rfl rfl rfl ⟨Nat.le_of_ble_eq_true rfl, Nat.le_of_ble_eq_true rfl, Nat.le_of_ble_eq_true rfl⟩ sh_155 (f_lt (o := 155) (m := 166) (Nat.le_of_ble_eq_true rfl) hN)) MT_176 (G_176 hN t1 true true σ) ⟨rfl, rfl, rfl⟩ fun t2 => ?_
  refine s_join (J := 33) (fun (t3 : Bool) (u3 : Unit) => [.ref 155, .int a1]) (fun t3 => [.int (f_b t3)]) (fun t3 => t2.2) ?_ ?_
  · intro t3 u3
    exact i_iret (v := f_b t3) (f_at inc_199 (j := 19) rfl) rfl n_bool
  · intro k3 hj3
    refine i_if0 (pc' := 32) (nx := 14) cb_eq (f_at inc_199 (j := 7) rfl) ⟨by decide, rfl⟩ (fun b7 => ?_) (fun b7 => ?_)
    · refine i_iconst (pc' := 33) (f_at inc_199 (j := 18) rfl) ci_0 rfl ?_
      exact hj3 false ()
    · refine i_aload_n (pc' := 15) (f_at inc_199 (j := 8) rfl) rfl rfl ?_
      refine i_getR (pc' := 18) (f_at inc_199 (j := 9) rfl) sh_155 rfl (f_lt (o := 155) (m := 166) (Nat.le_of_ble_eq_true rfl) hN) rfl ?_
      refine i_iload_n (pc' := 19) (f_at inc_199 (j := 10) rfl) rfl rfl ?_
      refine c_pi (pc' := 22) (c' := 0) (n' := 0) (h_stat (ra := [.int a1]) (r := [.ref 156]) (as := [.int a1]) (f_at inc_199 (j := 11) rfl) (by decide) MT_119 rfl rfl rfl ⟨Nat.le_of_ble_eq_true rfl, Nat.le_of_ble_eq_true rfl, Nat.le_of_ble_eq_true rfl⟩) MT_119 (G_119 hN a1 t2.2) ⟨rfl, rfl, rfl⟩ fun t4 => ?_
      refine i_iconst (pc' := 23) (f_at inc_199 (j := 12) rfl) ci_0 rfl ?_
      refine i_iadd (pc' := 24) (f_at inc_199 (j := 13) rfl) rfl ?_
      refine i_iald (pc' := 25) (f_at inc_199 (j := 14) rfl) sh_156 (f_bg (Nat.le_of_ble_eq_true rfl)) (f_lt (o := 156) (m := 166) (Nat.le_of_ble_eq_true rfl) hN) rfl fun v5 => ?_
      refine i_if0 (pc' := 32) (nx := 28) c0_ne (f_at inc_199 (j := 15) rfl) ⟨by decide, rfl⟩ (fun b6 => ?_) (fun b6 => ?_)
      · refine i_iconst (pc' := 33) (f_at inc_199 (j := 18) rfl) ci_0 rfl ?_
        exact hj3 false ()
      · refine i_iconst (pc' := 29) (f_at inc_199 (j := 16) rfl) ci_1 rfl ?_
        refine i_goto (pc' := 33) (f_at inc_199 (j := 17) rfl) (by decide) ?_
        exact hj3 true ()
set_option maxRecDepth 4000 in
def g_200 (a1 : Int32) (σ : f_M) : Option (Int32 ⊕ Fin 4) :=
  (g_196 a1 σ).bind fun t1 => Sum.elim (fun _ =>
   (f_rd σ 112 20 a1).bind fun v2 =>
   some (.inl v2)
  ) (fun k1 => some (.inr k1)) t1
set_option maxRecDepth 4000 in
theorem G_200 {xs : Nat → Int32} {L N : Nat} (hN : 155 ≤ N) (a1 : Int32)  (σ : f_M) : f_Cal a_MT xs L N 200 [.ref 0, .int a1] σ ((g_200 a1 σ).bind fun t => some (e_ti σ t)) := by
  refine f_cal_of (ls := [.ref 0, .int a1]) MT_200 (Nat.le_of_ble_eq_true rfl) rfl ?_
  unfold g_200
  refine i_aload_n (pc' := 1) (f_at inc_200 (j := 0) rfl) rfl rfl ?_
  refine i_iload_n (pc' := 2) (f_at inc_200 (j := 1) rfl) rfl rfl ?_
  refine c_tv (pc' := 5) (c' := 0) (n' := 0) (h_virt (ra := [.int a1, .ref 0]) (r := []) (as := [.int a1]) (f_at inc_200 (j := 2) rfl) (by decide) MT_196 rfl rfl rfl ⟨Nat.le_of_ble_eq_true rfl, Nat.le_of_ble_eq_true rfl, Nat.le_of_ble_eq_true rfl⟩ sh_0 (f_lt (o := 0) (m := 155) (Nat.le_of_ble_eq_true rfl) hN)) MT_196 (G_196 hN a1 σ) ⟨rfl, rfl, rfl⟩ (fun k w h => x_thr ⟨rfl, rfl⟩ h) ?_
  refine i_aload_n (pc' := 6) (f_at inc_200 (j := 3) rfl) rfl rfl ?_
  refine i_getR (pc' := 9) (f_at inc_200 (j := 4) rfl) sh_0 rfl (f_lt (o := 0) (m := 155) (Nat.le_of_ble_eq_true rfl) hN) rfl ?_
  refine i_getR (pc' := 12) (f_at inc_200 (j := 5) rfl) sh_108 rfl (f_lt (o := 108) (m := 155) (Nat.le_of_ble_eq_true rfl) hN) rfl ?_
  refine i_iload_n (pc' := 13) (f_at inc_200 (j := 6) rfl) rfl rfl ?_
  refine i_iald (pc' := 14) (f_at inc_200 (j := 7) rfl) sh_112 (f_bg (Nat.le_of_ble_eq_true rfl)) (f_lt (o := 112) (m := 155) (Nat.le_of_ble_eq_true rfl) hN) rfl fun v2 => ?_
  exact i_iret (f_at inc_200 (j := 8) rfl) rfl n_int
set_option maxRecDepth 4000 in
def g_201 (a1 : Int32) (σ : f_M) : Option (Int32 × f_M) :=
  (g_200 a1 σ).bind fun t1 => Sum.elim (fun v1 =>
   (f_wr σ 167 1 (0 : Int32) v1).bind fun m2 =>
   some ((0 : Int32), m2)
  ) (fun k1 => (f_hc [(0, 1)] k1).bind fun v => some (v, σ)) t1
set_option maxRecDepth 4000 in
theorem G_201 {xs : Nat → Int32} {L N : Nat} (hN : 168 ≤ N) (a1 : Int32)  (σ : f_M) : f_Cal a_MT xs L N 201 [.ref 0, .int a1, .ref 167] σ ((g_201 a1 σ).bind fun t => some (e_wi t)) := by
  refine f_cal_of (ls := [.ref 0, .int a1, .ref 167, a_dead]) MT_201 (Nat.le_of_ble_eq_true rfl) rfl ?_
  unfold g_201
  refine i_aload_n (pc' := 1) (f_at inc_201 (j := 0) rfl) rfl rfl ?_
  refine i_iconst (pc' := 2) (f_at inc_201 (j := 1) rfl) ci_0 rfl ?_
  refine i_aload_n (pc' := 3) (f_at inc_201 (j := 2) rfl) rfl rfl ?_
  refine i_iload_n (pc' := 4) (f_at inc_201 (j := 3) rfl) rfl rfl ?_
  refine c_ti (pc' := 7) (c' := 0) (n' := 0) (h_virt (ra := [.int a1, .ref 0]) (r := [.int (0 : Int32), .ref 167]) (as := [.int a1]) (f_at inc_201 (j := 4) rfl) (by decide) MT_200 rfl rfl rfl ⟨Nat.le_of_ble_eq_true rfl, Nat.le_of_ble_eq_true rfl, Nat.le_of_ble_eq_true rfl⟩ sh_0 (f_lt (o := 0) (m := 168) (Nat.le_of_ble_eq_true rfl) hN)) MT_200 (G_200 (Nat.le_trans (Nat.le_of_ble_eq_true rfl) hN) a1 σ) ⟨rfl, rfl, rfl⟩ (fun k w h => x_hdl (l := [(0, 1)]) (by decide +kernel) h) fun v1 => ?_
  refine i_i2l (pc' := 8) (f_at inc_201 (j := 5) rfl) rfl ?_
  refine i_last (pc' := 9) (f_at inc_201 (j := 6) rfl) sh_167 rfl (f_lt (o := 167) (m := 168) (Nat.le_of_ble_eq_true rfl) hN) rfl fun m2 => ?_
  refine i_goto (pc' := 15) (f_at inc_201 (j := 7) rfl) (by decide) ?_
  refine i_iconst (pc' := 16) (f_at inc_201 (j := 11) rfl) ci_0 rfl ?_
  exact i_iret (f_at inc_201 (j := 12) rfl) rfl n_int
set_option maxRecDepth 4000 in
def g_202 (a1 : Int32) (a2 : Int32) (σ : f_M) : Option (Int32 × f_M) :=
  (g_142 a1 σ).bind fun t1 =>
  (g_176 t1 true true σ).bind fun t2 =>
  (
   if t2.1 = false then (
    some (0 : Int32)
   ) else (
    (g_119 a1 t2.2).bind fun t4 =>
    (f_rd t2.2 156 2420 (t4 + a2)).bind fun v5 =>
    some v5
   )
  ).bind fun (t3 : Int32) =>
  some (t3, t2.2)
set_option maxRecDepth 4000 in
theorem G_202 {xs : Nat → Int32} {L N : Nat} (hN : 166 ≤ N) (a1 : Int32) (a2 : Int32)  (σ : f_M) : f_Cal a_MT xs L N 202 [.ref 155, .int a1, .int a2] σ ((g_202 a1 a2 σ).bind fun t => some (e_wi t)) := by
  refine f_cal_of (ls := [.ref 155, .int a1, .int a2]) MT_202 (Nat.le_of_ble_eq_true rfl) rfl ?_
  unfold g_202
  refine i_aload_n (pc' := 1) (f_at inc_202 (j := 0) rfl) rfl rfl ?_
  refine i_aload_n (pc' := 2) (f_at inc_202 (j := 1) rfl) rfl rfl ?_
  refine i_iload_n (pc' := 3) (f_at inc_202 (j := 2) rfl) rfl rfl ?_
  refine c_pb (pc' := 6) (c' := 0) (n' := 0) (h_virt (ra := [.int a1, .ref 155]) (r := [.ref 155]) (as := [.int a1]) (f_at inc_202 (j := 3) rfl) (by decide) MT_142 rfl rfl rfl ⟨Nat.le_of_ble_eq_true rfl, Nat.le_of_ble_eq_true rfl, Nat.le_of_ble_eq_true rfl⟩ sh_155 (f_lt (o := 155) (m := 166) (Nat.le_of_ble_eq_true rfl) hN)) MT_142 (G_142 hN a1 σ) ⟨rfl, rfl, rfl⟩ fun t1 => ?_
  refine i_iconst (pc' := 7) (f_at inc_202 (j := 4) rfl) ci_1 rfl ?_
  refine i_iconst (pc' := 8) (f_at inc_202 (j := 5) rfl) ci_1 rfl ?_
  refine c_wb (pc' := 11) (c' := 0) (n' := 0) (h_virt (ra := [.int (1 : Int32), .int (1 : Int32), .int (f_b t1), .ref 155]) (r := []) (as := [.int (f_b t1), .int (1 : Int32), .int (1 : Int32)]) (f_at inc_202 (j := 6) rfl) (by decide) MT_176 rfl rfl rfl ⟨Nat.le_of_ble_eq_true rfl, Nat.le_of_ble_eq_true rfl, Nat.le_of_ble_eq_true rfl⟩ sh_155 (f_lt (o := 155) (m := 166) (Nat.le_of_ble_eq_true rfl) hN)) MT_176 (G_176 hN t1 true true σ) ⟨rfl, rfl, rfl⟩ fun t2 => ?_
  refine s_join (J := 29) (fun (t3 : Int32) (u3 : Unit) => [.ref 155, .int a1, .int a2]) (fun t3 => [.int t3]) (fun t3 => t2.2) ?_ ?_
  · intro t3 u3
    exact i_iret (f_at inc_202 (j := 17) rfl) rfl n_int
  · intro k3 hj3
    refine i_if0 (pc' := 28) (nx := 14) cb_eq (f_at inc_202 (j := 7) rfl) ⟨by decide, rfl⟩ (fun b6 => ?_) (fun b6 => ?_)
    · refine i_iconst (pc' := 29) (f_at inc_202 (j := 16) rfl) ci_0 rfl ?_
      exact hj3 (0 : Int32) ()
    · refine i_aload_n (pc' := 15) (f_at inc_202 (j := 8) rfl) rfl rfl ?_
      refine i_getR (pc' := 18) (f_at inc_202 (j := 9) rfl) sh_155 rfl (f_lt (o := 155) (m := 166) (Nat.le_of_ble_eq_true rfl) hN) rfl ?_
      refine i_iload_n (pc' := 19) (f_at inc_202 (j := 10) rfl) rfl rfl ?_
      refine c_pi (pc' := 22) (c' := 0) (n' := 0) (h_stat (ra := [.int a1]) (r := [.ref 156]) (as := [.int a1]) (f_at inc_202 (j := 11) rfl) (by decide) MT_119 rfl rfl rfl ⟨Nat.le_of_ble_eq_true rfl, Nat.le_of_ble_eq_true rfl, Nat.le_of_ble_eq_true rfl⟩) MT_119 (G_119 hN a1 t2.2) ⟨rfl, rfl, rfl⟩ fun t4 => ?_
      refine i_iload_n (pc' := 23) (f_at inc_202 (j := 12) rfl) rfl rfl ?_
      refine i_iadd (pc' := 24) (f_at inc_202 (j := 13) rfl) rfl ?_
      refine i_iald (pc' := 25) (f_at inc_202 (j := 14) rfl) sh_156 (f_bg (Nat.le_of_ble_eq_true rfl)) (f_lt (o := 156) (m := 166) (Nat.le_of_ble_eq_true rfl) hN) rfl fun v5 => ?_
      refine i_goto (pc' := 29) (f_at inc_202 (j := 15) rfl) (by decide) ?_
      exact hj3 v5 ()
set_option maxRecDepth 4000 in
def g_203 (a1 : Int32) (σ : f_M) : Option (Int32 × f_M) :=
  (g_202 a1 (1 : Int32) σ).bind fun t1 =>
  some (t1.1, t1.2)
set_option maxRecDepth 4000 in
theorem G_203 {xs : Nat → Int32} {L N : Nat} (hN : 166 ≤ N) (a1 : Int32)  (σ : f_M) : f_Cal a_MT xs L N 203 [.ref 155, .int a1] σ ((g_203 a1 σ).bind fun t => some (e_wi t)) := by
  refine f_cal_of (ls := [.ref 155, .int a1]) MT_203 (Nat.le_of_ble_eq_true rfl) rfl ?_
  unfold g_203
  refine i_aload_n (pc' := 1) (f_at inc_203 (j := 0) rfl) rfl rfl ?_
  refine i_iload_n (pc' := 2) (f_at inc_203 (j := 1) rfl) rfl rfl ?_
  refine i_iconst (pc' := 3) (f_at inc_203 (j := 2) rfl) ci_1 rfl ?_
  refine c_wi (pc' := 6) (c' := 0) (n' := 0) (h_virt (ra := [.int (1 : Int32), .int a1, .ref 155]) (r := []) (as := [.int a1, .int (1 : Int32)]) (f_at inc_203 (j := 3) rfl) (by decide) MT_202 rfl rfl rfl ⟨Nat.le_of_ble_eq_true rfl, Nat.le_of_ble_eq_true rfl, Nat.le_of_ble_eq_true rfl⟩ sh_155 (f_lt (o := 155) (m := 166) (Nat.le_of_ble_eq_true rfl) hN)) MT_202 (G_202 hN a1 (1 : Int32) σ) ⟨rfl, rfl, rfl⟩ fun t1 => ?_
  exact i_iret (f_at inc_203 (j := 4) rfl) rfl n_int
set_option maxRecDepth 4000 in
def g_204 (a1 : Int32) (σ : f_M) : Option (Int32 ⊕ Fin 4) :=
  (g_196 a1 σ).bind fun t1 => Sum.elim (fun _ =>
   (f_rd σ 113 20 a1).bind fun v2 =>
   some (.inl v2)
  ) (fun k1 => some (.inr k1)) t1
set_option maxRecDepth 4000 in
theorem G_204 {xs : Nat → Int32} {L N : Nat} (hN : 155 ≤ N) (a1 : Int32)  (σ : f_M) : f_Cal a_MT xs L N 204 [.ref 0, .int a1] σ ((g_204 a1 σ).bind fun t => some (e_ti σ t)) := by
  refine f_cal_of (ls := [.ref 0, .int a1]) MT_204 (Nat.le_of_ble_eq_true rfl) rfl ?_
  unfold g_204
  refine i_aload_n (pc' := 1) (f_at inc_204 (j := 0) rfl) rfl rfl ?_
  refine i_iload_n (pc' := 2) (f_at inc_204 (j := 1) rfl) rfl rfl ?_
  refine c_tv (pc' := 5) (c' := 0) (n' := 0) (h_virt (ra := [.int a1, .ref 0]) (r := []) (as := [.int a1]) (f_at inc_204 (j := 2) rfl) (by decide) MT_196 rfl rfl rfl ⟨Nat.le_of_ble_eq_true rfl, Nat.le_of_ble_eq_true rfl, Nat.le_of_ble_eq_true rfl⟩ sh_0 (f_lt (o := 0) (m := 155) (Nat.le_of_ble_eq_true rfl) hN)) MT_196 (G_196 hN a1 σ) ⟨rfl, rfl, rfl⟩ (fun k w h => x_thr ⟨rfl, rfl⟩ h) ?_
  refine i_aload_n (pc' := 6) (f_at inc_204 (j := 3) rfl) rfl rfl ?_
  refine i_getR (pc' := 9) (f_at inc_204 (j := 4) rfl) sh_0 rfl (f_lt (o := 0) (m := 155) (Nat.le_of_ble_eq_true rfl) hN) rfl ?_
  refine i_getR (pc' := 12) (f_at inc_204 (j := 5) rfl) sh_108 rfl (f_lt (o := 108) (m := 155) (Nat.le_of_ble_eq_true rfl) hN) rfl ?_
  refine i_iload_n (pc' := 13) (f_at inc_204 (j := 6) rfl) rfl rfl ?_
  refine i_iald (pc' := 14) (f_at inc_204 (j := 7) rfl) sh_113 (f_bg (Nat.le_of_ble_eq_true rfl)) (f_lt (o := 113) (m := 155) (Nat.le_of_ble_eq_true rfl) hN) rfl fun v2 => ?_
  exact i_iret (f_at inc_204 (j := 8) rfl) rfl n_int
set_option maxRecDepth 4000 in
def g_205 (a1 : Int32) (σ : f_M) : Option (Int32 × f_M) :=
  (g_204 a1 σ).bind fun t1 => Sum.elim (fun v1 =>
   (f_wr σ 167 1 (0 : Int32) v1).bind fun m2 =>
   some ((0 : Int32), m2)
  ) (fun k1 => (f_hc [(0, 1)] k1).bind fun v => some (v, σ)) t1
set_option maxRecDepth 4000 in
theorem G_205 {xs : Nat → Int32} {L N : Nat} (hN : 168 ≤ N) (a1 : Int32)  (σ : f_M) : f_Cal a_MT xs L N 205 [.ref 0, .int a1, .ref 167] σ ((g_205 a1 σ).bind fun t => some (e_wi t)) := by
  refine f_cal_of (ls := [.ref 0, .int a1, .ref 167, a_dead]) MT_205 (Nat.le_of_ble_eq_true rfl) rfl ?_
  unfold g_205
  refine i_aload_n (pc' := 1) (f_at inc_205 (j := 0) rfl) rfl rfl ?_
  refine i_iconst (pc' := 2) (f_at inc_205 (j := 1) rfl) ci_0 rfl ?_
  refine i_aload_n (pc' := 3) (f_at inc_205 (j := 2) rfl) rfl rfl ?_
  refine i_iload_n (pc' := 4) (f_at inc_205 (j := 3) rfl) rfl rfl ?_
  refine c_ti (pc' := 7) (c' := 0) (n' := 0) (h_virt (ra := [.int a1, .ref 0]) (r := [.int (0 : Int32), .ref 167]) (as := [.int a1]) (f_at inc_205 (j := 4) rfl) (by decide) MT_204 rfl rfl rfl ⟨Nat.le_of_ble_eq_true rfl, Nat.le_of_ble_eq_true rfl, Nat.le_of_ble_eq_true rfl⟩ sh_0 (f_lt (o := 0) (m := 168) (Nat.le_of_ble_eq_true rfl) hN)) MT_204 (G_204 (Nat.le_trans (Nat.le_of_ble_eq_true rfl) hN) a1 σ) ⟨rfl, rfl, rfl⟩ (fun k w h => x_hdl (l := [(0, 1)]) (by decide +kernel) h) fun v1 => ?_
  refine i_i2l (pc' := 8) (f_at inc_205 (j := 5) rfl) rfl ?_
  refine i_last (pc' := 9) (f_at inc_205 (j := 6) rfl) sh_167 rfl (f_lt (o := 167) (m := 168) (Nat.le_of_ble_eq_true rfl) hN) rfl fun m2 => ?_
  refine i_goto (pc' := 15) (f_at inc_205 (j := 7) rfl) (by decide) ?_
  refine i_iconst (pc' := 16) (f_at inc_205 (j := 11) rfl) ci_0 rfl ?_
  exact i_iret (f_at inc_205 (j := 12) rfl) rfl n_int
set_option maxRecDepth 4000 in
def g_206 (a1 : Int32) (σ : f_M) : Option (Int32 × f_M) :=
  (g_202 a1 (2 : Int32) σ).bind fun t1 =>
  some (t1.1, t1.2)
set_option maxRecDepth 4000 in
theorem G_206 {xs : Nat → Int32} {L N : Nat} (hN : 166 ≤ N) (a1 : Int32)  (σ : f_M) : f_Cal a_MT xs L N 206 [.ref 155, .int a1] σ ((g_206 a1 σ).bind fun t => some (e_wi t)) := by
  refine f_cal_of (ls := [.ref 155, .int a1]) MT_206 (Nat.le_of_ble_eq_true rfl) rfl ?_
  unfold g_206
  refine i_aload_n (pc' := 1) (f_at inc_206 (j := 0) rfl) rfl rfl ?_
  refine i_iload_n (pc' := 2) (f_at inc_206 (j := 1) rfl) rfl rfl ?_
  refine i_iconst (pc' := 3) (f_at inc_206 (j := 2) rfl) ci_2 rfl ?_
  refine c_wi (pc' := 6) (c' := 0) (n' := 0) (h_virt (ra := [.int (2 : Int32), .int a1, .ref 155]) (r := []) (as := [.int a1, .int (2 : Int32)]) (f_at inc_206 (j := 3) rfl) (by decide) MT_202 rfl rfl rfl ⟨Nat.le_of_ble_eq_true rfl, Nat.le_of_ble_eq_true rfl, Nat.le_of_ble_eq_true rfl⟩ sh_155 (f_lt (o := 155) (m := 166) (Nat.le_of_ble_eq_true rfl) hN)) MT_202 (G_202 hN a1 (2 : Int32) σ) ⟨rfl, rfl, rfl⟩ fun t1 => ?_
  exact i_iret (f_at inc_206 (j := 4) rfl) rfl n_int
set_option maxRecDepth 4000 in
def g_207 (a1 : Int32) (σ : f_M) : Option (Int32 ⊕ Fin 4) :=
  (g_196 a1 σ).bind fun t1 => Sum.elim (fun _ =>
   (f_rd σ 114 20 a1).bind fun v2 =>
   some (.inl v2)
  ) (fun k1 => some (.inr k1)) t1
set_option maxRecDepth 4000 in
theorem G_207 {xs : Nat → Int32} {L N : Nat} (hN : 155 ≤ N) (a1 : Int32)  (σ : f_M) : f_Cal a_MT xs L N 207 [.ref 0, .int a1] σ ((g_207 a1 σ).bind fun t => some (e_ti σ t)) := by
  refine f_cal_of (ls := [.ref 0, .int a1]) MT_207 (Nat.le_of_ble_eq_true rfl) rfl ?_
  unfold g_207
  refine i_aload_n (pc' := 1) (f_at inc_207 (j := 0) rfl) rfl rfl ?_
  refine i_iload_n (pc' := 2) (f_at inc_207 (j := 1) rfl) rfl rfl ?_
  refine c_tv (pc' := 5) (c' := 0) (n' := 0) (h_virt (ra := [.int a1, .ref 0]) (r := []) (as := [.int a1]) (f_at inc_207 (j := 2) rfl) (by decide) MT_196 rfl rfl rfl ⟨Nat.le_of_ble_eq_true rfl, Nat.le_of_ble_eq_true rfl, Nat.le_of_ble_eq_true rfl⟩ sh_0 (f_lt (o := 0) (m := 155) (Nat.le_of_ble_eq_true rfl) hN)) MT_196 (G_196 hN a1 σ) ⟨rfl, rfl, rfl⟩ (fun k w h => x_thr ⟨rfl, rfl⟩ h) ?_
  refine i_aload_n (pc' := 6) (f_at inc_207 (j := 3) rfl) rfl rfl ?_
  refine i_getR (pc' := 9) (f_at inc_207 (j := 4) rfl) sh_0 rfl (f_lt (o := 0) (m := 155) (Nat.le_of_ble_eq_true rfl) hN) rfl ?_
  refine i_getR (pc' := 12) (f_at inc_207 (j := 5) rfl) sh_108 rfl (f_lt (o := 108) (m := 155) (Nat.le_of_ble_eq_true rfl) hN) rfl ?_
  refine i_iload_n (pc' := 13) (f_at inc_207 (j := 6) rfl) rfl rfl ?_
  refine i_iald (pc' := 14) (f_at inc_207 (j := 7) rfl) sh_114 (f_bg (Nat.le_of_ble_eq_true rfl)) (f_lt (o := 114) (m := 155) (Nat.le_of_ble_eq_true rfl) hN) rfl fun v2 => ?_
  exact i_iret (f_at inc_207 (j := 8) rfl) rfl n_int
set_option maxRecDepth 4000 in
def g_208 (a1 : Int32) (σ : f_M) : Option (Int32 × f_M) :=
  (g_207 a1 σ).bind fun t1 => Sum.elim (fun v1 =>
   (f_wr σ 167 1 (0 : Int32) v1).bind fun m2 =>
   some ((0 : Int32), m2)
  ) (fun k1 => (f_hc [(0, 1)] k1).bind fun v => some (v, σ)) t1
set_option maxRecDepth 4000 in
theorem G_208 {xs : Nat → Int32} {L N : Nat} (hN : 168 ≤ N) (a1 : Int32)  (σ : f_M) : f_Cal a_MT xs L N 208 [.ref 0, .int a1, .ref 167] σ ((g_208 a1 σ).bind fun t => some (e_wi t)) := by
  refine f_cal_of (ls := [.ref 0, .int a1, .ref 167, a_dead]) MT_208 (Nat.le_of_ble_eq_true rfl) rfl ?_
  unfold g_208
  refine i_aload_n (pc' := 1) (f_at inc_208 (j := 0) rfl) rfl rfl ?_
  refine i_iconst (pc' := 2) (f_at inc_208 (j := 1) rfl) ci_0 rfl ?_
  refine i_aload_n (pc' := 3) (f_at inc_208 (j := 2) rfl) rfl rfl ?_
  refine i_iload_n (pc' := 4) (f_at inc_208 (j := 3) rfl) rfl rfl ?_
  refine c_ti (pc' := 7) (c' := 0) (n' := 0) (h_virt (ra := [.int a1, .ref 0]) (r := [.int (0 : Int32), .ref 167]) (as := [.int a1]) (f_at inc_208 (j := 4) rfl) (by decide) MT_207 rfl rfl rfl ⟨Nat.le_of_ble_eq_true rfl, Nat.le_of_ble_eq_true rfl, Nat.le_of_ble_eq_true rfl⟩ sh_0 (f_lt (o := 0) (m := 168) (Nat.le_of_ble_eq_true rfl) hN)) MT_207 (G_207 (Nat.le_trans (Nat.le_of_ble_eq_true rfl) hN) a1 σ) ⟨rfl, rfl, rfl⟩ (fun k w h => x_hdl (l := [(0, 1)]) (by decide +kernel) h) fun v1 => ?_
  refine i_i2l (pc' := 8) (f_at inc_208 (j := 5) rfl) rfl ?_
  refine i_last (pc' := 9) (f_at inc_208 (j := 6) rfl) sh_167 rfl (f_lt (o := 167) (m := 168) (Nat.le_of_ble_eq_true rfl) hN) rfl fun m2 => ?_
  refine i_goto (pc' := 15) (f_at inc_208 (j := 7) rfl) (by decide) ?_
  refine i_iconst (pc' := 16) (f_at inc_208 (j := 11) rfl) ci_0 rfl ?_
  exact i_iret (f_at inc_208 (j := 12) rfl) rfl n_int
set_option maxRecDepth 4000 in
def g_209 (a1 : Int32) (σ : f_M) : Option (Int32 × f_M) :=
  (g_202 a1 (3 : Int32) σ).bind fun t1 =>
  some (t1.1, t1.2)
set_option maxRecDepth 4000 in
theorem G_209 {xs : Nat → Int32} {L N : Nat} (hN : 166 ≤ N) (a1 : Int32)  (σ : f_M) : f_Cal a_MT xs L N 209 [.ref 155, .int a1] σ ((g_209 a1 σ).bind fun t => some (e_wi t)) := by
  refine f_cal_of (ls := [.ref 155, .int a1]) MT_209 (Nat.le_of_ble_eq_true rfl) rfl ?_
  unfold g_209
  refine i_aload_n (pc' := 1) (f_at inc_209 (j := 0) rfl) rfl rfl ?_
  refine i_iload_n (pc' := 2) (f_at inc_209 (j := 1) rfl) rfl rfl ?_
  refine i_iconst (pc' := 3) (f_at inc_209 (j := 2) rfl) ci_3 rfl ?_
  refine c_wi (pc' := 6) (c' := 0) (n' := 0) (h_virt (ra := [.int (3 : Int32), .int a1, .ref 155]) (r := []) (as := [.int a1, .int (3 : Int32)]) (f_at inc_209 (j := 3) rfl) (by decide) MT_202 rfl rfl rfl ⟨Nat.le_of_ble_eq_true rfl, Nat.le_of_ble_eq_true rfl, Nat.le_of_ble_eq_true rfl⟩ sh_155 (f_lt (o := 155) (m := 166) (Nat.le_of_ble_eq_true rfl) hN)) MT_202 (G_202 hN a1 (3 : Int32) σ) ⟨rfl, rfl, rfl⟩ fun t1 => ?_
  exact i_iret (f_at inc_209 (j := 4) rfl) rfl n_int
set_option maxRecDepth 4000 in
def g_210 (a1 : Int32) (σ : f_M) : Option (Int32 ⊕ Fin 4) :=
  (g_196 a1 σ).bind fun t1 => Sum.elim (fun _ =>
   (f_rd σ 115 20 a1).bind fun v2 =>
   some (.inl v2)
  ) (fun k1 => some (.inr k1)) t1
set_option maxRecDepth 4000 in
theorem G_210 {xs : Nat → Int32} {L N : Nat} (hN : 155 ≤ N) (a1 : Int32)  (σ : f_M) : f_Cal a_MT xs L N 210 [.ref 0, .int a1] σ ((g_210 a1 σ).bind fun t => some (e_ti σ t)) := by
  refine f_cal_of (ls := [.ref 0, .int a1]) MT_210 (Nat.le_of_ble_eq_true rfl) rfl ?_
  unfold g_210
  refine i_aload_n (pc' := 1) (f_at inc_210 (j := 0) rfl) rfl rfl ?_
  refine i_iload_n (pc' := 2) (f_at inc_210 (j := 1) rfl) rfl rfl ?_
  refine c_tv (pc' := 5) (c' := 0) (n' := 0) (h_virt (ra := [.int a1, .ref 0]) (r := []) (as := [.int a1]) (f_at inc_210 (j := 2) rfl) (by decide) MT_196 rfl rfl rfl ⟨Nat.le_of_ble_eq_true rfl, Nat.le_of_ble_eq_true rfl, Nat.le_of_ble_eq_true rfl⟩ sh_0 (f_lt (o := 0) (m := 155) (Nat.le_of_ble_eq_true rfl) hN)) MT_196 (G_196 hN a1 σ) ⟨rfl, rfl, rfl⟩ (fun k w h => x_thr ⟨rfl, rfl⟩ h) ?_
  refine i_aload_n (pc' := 6) (f_at inc_210 (j := 3) rfl) rfl rfl ?_
  refine i_getR (pc' := 9) (f_at inc_210 (j := 4) rfl) sh_0 rfl (f_lt (o := 0) (m := 155) (Nat.le_of_ble_eq_true rfl) hN) rfl ?_
  refine i_getR (pc' := 12) (f_at inc_210 (j := 5) rfl) sh_108 rfl (f_lt (o := 108) (m := 155) (Nat.le_of_ble_eq_true rfl) hN) rfl ?_
  refine i_iload_n (pc' := 13) (f_at inc_210 (j := 6) rfl) rfl rfl ?_
  refine i_iald (pc' := 14) (f_at inc_210 (j := 7) rfl) sh_115 (f_bg (Nat.le_of_ble_eq_true rfl)) (f_lt (o := 115) (m := 155) (Nat.le_of_ble_eq_true rfl) hN) rfl fun v2 => ?_
  exact i_iret (f_at inc_210 (j := 8) rfl) rfl n_int
set_option maxRecDepth 4000 in
def g_211 (a1 : Int32) (σ : f_M) : Option (Int32 × f_M) :=
  (g_210 a1 σ).bind fun t1 => Sum.elim (fun v1 =>
   (f_wr σ 167 1 (0 : Int32) v1).bind fun m2 =>
   some ((0 : Int32), m2)
  ) (fun k1 => (f_hc [(0, 1)] k1).bind fun v => some (v, σ)) t1
set_option maxRecDepth 4000 in
theorem G_211 {xs : Nat → Int32} {L N : Nat} (hN : 168 ≤ N) (a1 : Int32)  (σ : f_M) : f_Cal a_MT xs L N 211 [.ref 0, .int a1, .ref 167] σ ((g_211 a1 σ).bind fun t => some (e_wi t)) := by
  refine f_cal_of (ls := [.ref 0, .int a1, .ref 167, a_dead]) MT_211 (Nat.le_of_ble_eq_true rfl) rfl ?_
  unfold g_211
  refine i_aload_n (pc' := 1) (f_at inc_211 (j := 0) rfl) rfl rfl ?_
  refine i_iconst (pc' := 2) (f_at inc_211 (j := 1) rfl) ci_0 rfl ?_
  refine i_aload_n (pc' := 3) (f_at inc_211 (j := 2) rfl) rfl rfl ?_
  refine i_iload_n (pc' := 4) (f_at inc_211 (j := 3) rfl) rfl rfl ?_
  refine c_ti (pc' := 7) (c' := 0) (n' := 0) (h_virt (ra := [.int a1, .ref 0]) (r := [.int (0 : Int32), .ref 167]) (as := [.int a1]) (f_at inc_211 (j := 4) rfl) (by decide) MT_210 rfl rfl rfl ⟨Nat.le_of_ble_eq_true rfl, Nat.le_of_ble_eq_true rfl, Nat.le_of_ble_eq_true rfl⟩ sh_0 (f_lt (o := 0) (m := 168) (Nat.le_of_ble_eq_true rfl) hN)) MT_210 (G_210 (Nat.le_trans (Nat.le_of_ble_eq_true rfl) hN) a1 σ) ⟨rfl, rfl, rfl⟩ (fun k w h => x_hdl (l := [(0, 1)]) (by decide +kernel) h) fun v1 => ?_
  refine i_i2l (pc' := 8) (f_at inc_211 (j := 5) rfl) rfl ?_
  refine i_last (pc' := 9) (f_at inc_211 (j := 6) rfl) sh_167 rfl (f_lt (o := 167) (m := 168) (Nat.le_of_ble_eq_true rfl) hN) rfl fun m2 => ?_
  refine i_goto (pc' := 15) (f_at inc_211 (j := 7) rfl) (by decide) ?_
  refine i_iconst (pc' := 16) (f_at inc_211 (j := 11) rfl) ci_0 rfl ?_
  exact i_iret (f_at inc_211 (j := 12) rfl) rfl n_int
set_option maxRecDepth 4000 in
def g_212 (a1 : Int32) (σ : f_M) : Option (Int32 × f_M) :=
  (g_202 a1 (4 : Int32) σ).bind fun t1 =>
  some (t1.1, t1.2)
set_option maxRecDepth 4000 in
theorem G_212 {xs : Nat → Int32} {L N : Nat} (hN : 166 ≤ N) (a1 : Int32)  (σ : f_M) : f_Cal a_MT xs L N 212 [.ref 155, .int a1] σ ((g_212 a1 σ).bind fun t => some (e_wi t)) := by
  refine f_cal_of (ls := [.ref 155, .int a1]) MT_212 (Nat.le_of_ble_eq_true rfl) rfl ?_
  unfold g_212
  refine i_aload_n (pc' := 1) (f_at inc_212 (j := 0) rfl) rfl rfl ?_
  refine i_iload_n (pc' := 2) (f_at inc_212 (j := 1) rfl) rfl rfl ?_
  refine i_iconst (pc' := 3) (f_at inc_212 (j := 2) rfl) ci_4 rfl ?_
  refine c_wi (pc' := 6) (c' := 0) (n' := 0) (h_virt (ra := [.int (4 : Int32), .int a1, .ref 155]) (r := []) (as := [.int a1, .int (4 : Int32)]) (f_at inc_212 (j := 3) rfl) (by decide) MT_202 rfl rfl rfl ⟨Nat.le_of_ble_eq_true rfl, Nat.le_of_ble_eq_true rfl, Nat.le_of_ble_eq_true rfl⟩ sh_155 (f_lt (o := 155) (m := 166) (Nat.le_of_ble_eq_true rfl) hN)) MT_202 (G_202 hN a1 (4 : Int32) σ) ⟨rfl, rfl, rfl⟩ fun t1 => ?_
  exact i_iret (f_at inc_212 (j := 4) rfl) rfl n_int
set_option maxRecDepth 4000 in
def g_213 (a1 : Int32) (σ : f_M) : Option (Int32 ⊕ Fin 4) :=
  (g_196 a1 σ).bind fun t1 => Sum.elim (fun _ =>
   (g_79 a1 σ).bind fun t2 =>
   some (.inl t2)
  ) (fun k1 => some (.inr k1)) t1
set_option maxRecDepth 4000 in
theorem G_213 {xs : Nat → Int32} {L N : Nat} (hN : 155 ≤ N) (a1 : Int32)  (σ : f_M) : f_Cal a_MT xs L N 213 [.ref 0, .int a1] σ ((g_213 a1 σ).bind fun t => some (e_ti σ t)) := by
  refine f_cal_of (ls := [.ref 0, .int a1]) MT_213 (Nat.le_of_ble_eq_true rfl) rfl ?_
  unfold g_213
  refine i_aload_n (pc' := 1) (f_at inc_213 (j := 0) rfl) rfl rfl ?_
  refine i_iload_n (pc' := 2) (f_at inc_213 (j := 1) rfl) rfl rfl ?_
  refine c_tv (pc' := 5) (c' := 0) (n' := 0) (h_virt (ra := [.int a1, .ref 0]) (r := []) (as := [.int a1]) (f_at inc_213 (j := 2) rfl) (by decide) MT_196 rfl rfl rfl ⟨Nat.le_of_ble_eq_true rfl, Nat.le_of_ble_eq_true rfl, Nat.le_of_ble_eq_true rfl⟩ sh_0 (f_lt (o := 0) (m := 155) (Nat.le_of_ble_eq_true rfl) hN)) MT_196 (G_196 hN a1 σ) ⟨rfl, rfl, rfl⟩ (fun k w h => x_thr ⟨rfl, rfl⟩ h) ?_
  refine i_aload_n (pc' := 6) (f_at inc_213 (j := 3) rfl) rfl rfl ?_
  refine i_getR (pc' := 9) (f_at inc_213 (j := 4) rfl) sh_0 rfl (f_lt (o := 0) (m := 155) (Nat.le_of_ble_eq_true rfl) hN) rfl ?_
  refine i_iload_n (pc' := 10) (f_at inc_213 (j := 5) rfl) rfl rfl ?_
  refine c_pi (pc' := 13) (c' := 0) (n' := 0) (h_virt (ra := [.int a1, .ref 108]) (r := []) (as := [.int a1]) (f_at inc_213 (j := 6) rfl) (by decide) MT_79 rfl rfl rfl ⟨Nat.le_of_ble_eq_true rfl, Nat.le_of_ble_eq_true rfl, Nat.le_of_ble_eq_true rfl⟩ sh_108 (f_lt (o := 108) (m := 155) (Nat.le_of_ble_eq_true rfl) hN)) MT_79 (G_79 hN a1 σ) ⟨rfl, rfl, rfl⟩ fun t2 => ?_
  exact i_iret (f_at inc_213 (j := 7) rfl) rfl n_int
set_option maxRecDepth 4000 in
def g_214 (a1 : Int32) (σ : f_M) : Option (Int32 × f_M) :=
  (g_213 a1 σ).bind fun t1 => Sum.elim (fun v1 =>
   (f_wr σ 167 1 (0 : Int32) v1).bind fun m2 =>
   some ((0 : Int32), m2)
  ) (fun k1 => (f_hc [(0, 1)] k1).bind fun v => some (v, σ)) t1
set_option maxRecDepth 4000 in
theorem G_214 {xs : Nat → Int32} {L N : Nat} (hN : 168 ≤ N) (a1 : Int32)  (σ : f_M) : f_Cal a_MT xs L N 214 [.ref 0, .int a1, .ref 167] σ ((g_214 a1 σ).bind fun t => some (e_wi t)) := by
  refine f_cal_of (ls := [.ref 0, .int a1, .ref 167, a_dead]) MT_214 (Nat.le_of_ble_eq_true rfl) rfl ?_
  unfold g_214
  refine i_aload_n (pc' := 1) (f_at inc_214 (j := 0) rfl) rfl rfl ?_
  refine i_iconst (pc' := 2) (f_at inc_214 (j := 1) rfl) ci_0 rfl ?_
  refine i_aload_n (pc' := 3) (f_at inc_214 (j := 2) rfl) rfl rfl ?_
  refine i_iload_n (pc' := 4) (f_at inc_214 (j := 3) rfl) rfl rfl ?_
  refine c_ti (pc' := 7) (c' := 0) (n' := 0) (h_virt (ra := [.int a1, .ref 0]) (r := [.int (0 : Int32), .ref 167]) (as := [.int a1]) (f_at inc_214 (j := 4) rfl) (by decide) MT_213 rfl rfl rfl ⟨Nat.le_of_ble_eq_true rfl, Nat.le_of_ble_eq_true rfl, Nat.le_of_ble_eq_true rfl⟩ sh_0 (f_lt (o := 0) (m := 168) (Nat.le_of_ble_eq_true rfl) hN)) MT_213 (G_213 (Nat.le_trans (Nat.le_of_ble_eq_true rfl) hN) a1 σ) ⟨rfl, rfl, rfl⟩ (fun k w h => x_hdl (l := [(0, 1)]) (by decide +kernel) h) fun v1 => ?_
  refine i_i2l (pc' := 8) (f_at inc_214 (j := 5) rfl) rfl ?_
  refine i_last (pc' := 9) (f_at inc_214 (j := 6) rfl) sh_167 rfl (f_lt (o := 167) (m := 168) (Nat.le_of_ble_eq_true rfl) hN) rfl fun m2 => ?_
  refine i_goto (pc' := 15) (f_at inc_214 (j := 7) rfl) (by decide) ?_
  refine i_iconst (pc' := 16) (f_at inc_214 (j := 11) rfl) ci_0 rfl ?_
  exact i_iret (f_at inc_214 (j := 12) rfl) rfl n_int
set_option maxRecDepth 4000 in
def g_215 (a1 : Int32) (σ : f_M) : Option (Int32 × f_M) :=
  (g_202 a1 (7 : Int32) σ).bind fun t1 =>
  some (t1.1, t1.2)
set_option maxRecDepth 4000 in
theorem G_215 {xs : Nat → Int32} {L N : Nat} (hN : 166 ≤ N) (a1 : Int32)  (σ : f_M) : f_Cal a_MT xs L N 215 [.ref 155, .int a1] σ ((g_215 a1 σ).bind fun t => some (e_wi t)) := by
  refine f_cal_of (ls := [.ref 155, .int a1]) MT_215 (Nat.le_of_ble_eq_true rfl) rfl ?_
  unfold g_215
  refine i_aload_n (pc' := 1) (f_at inc_215 (j := 0) rfl) rfl rfl ?_
  refine i_iload_n (pc' := 2) (f_at inc_215 (j := 1) rfl) rfl rfl ?_
  refine i_bipush (pc' := 4) (f_at inc_215 (j := 2) rfl) cb_7 rfl ?_
  refine c_wi (pc' := 7) (c' := 0) (n' := 0) (h_virt (ra := [.int (7 : Int32), .int a1, .ref 155]) (r := []) (as := [.int a1, .int (7 : Int32)]) (f_at inc_215 (j := 3) rfl) (by decide) MT_202 rfl rfl rfl ⟨Nat.le_of_ble_eq_true rfl, Nat.le_of_ble_eq_true rfl, Nat.le_of_ble_eq_true rfl⟩ sh_155 (f_lt (o := 155) (m := 166) (Nat.le_of_ble_eq_true rfl) hN)) MT_202 (G_202 hN a1 (7 : Int32) σ) ⟨rfl, rfl, rfl⟩ fun t1 => ?_
  exact i_iret (f_at inc_215 (j := 4) rfl) rfl n_int
set_option maxRecDepth 4000 in
def g_216 (a1 : Int32) (σ : f_M) : Option (Bool ⊕ Fin 4) :=
  (g_196 a1 σ).bind fun t1 => Sum.elim (fun _ =>
   (g_76 121 a1 σ).bind fun t2 =>
   some (.inl t2)
  ) (fun k1 => some (.inr k1)) t1
set_option maxRecDepth 4000 in
theorem G_216 {xs : Nat → Int32} {L N : Nat} (hN : 155 ≤ N) (a1 : Int32)  (σ : f_M) : f_Cal a_MT xs L N 216 [.ref 0, .int a1] σ ((g_216 a1 σ).bind fun t => some (e_tb σ t)) := by
  refine f_cal_of (ls := [.ref 0, .int a1]) MT_216 (Nat.le_of_ble_eq_true rfl) rfl ?_
  unfold g_216
  refine i_aload_n (pc' := 1) (f_at inc_216 (j := 0) rfl) rfl rfl ?_
  refine i_iload_n (pc' := 2) (f_at inc_216 (j := 1) rfl) rfl rfl ?_
  refine c_tv (pc' := 5) (c' := 0) (n' := 0) (h_virt (ra := [.int a1, .ref 0]) (r := []) (as := [.int a1]) (f_at inc_216 (j := 2) rfl) (by decide) MT_196 rfl rfl rfl ⟨Nat.le_of_ble_eq_true rfl, Nat.le_of_ble_eq_true rfl, Nat.le_of_ble_eq_true rfl⟩ sh_0 (f_lt (o := 0) (m := 155) (Nat.le_of_ble_eq_true rfl) hN)) MT_196 (G_196 hN a1 σ) ⟨rfl, rfl, rfl⟩ (fun k w h => x_thr ⟨rfl, rfl⟩ h) ?_
  refine i_aload_n (pc' := 6) (f_at inc_216 (j := 3) rfl) rfl rfl ?_
  refine i_getR (pc' := 9) (f_at inc_216 (j := 4) rfl) sh_0 rfl (f_lt (o := 0) (m := 155) (Nat.le_of_ble_eq_true rfl) hN) rfl ?_
  refine i_aload_n (pc' := 10) (f_at inc_216 (j := 5) rfl) rfl rfl ?_
  refine i_getR (pc' := 13) (f_at inc_216 (j := 6) rfl) sh_0 rfl (f_lt (o := 0) (m := 155) (Nat.le_of_ble_eq_true rfl) hN) rfl ?_
  refine i_iload_n (pc' := 14) (f_at inc_216 (j := 7) rfl) rfl rfl ?_
  refine c_pb (pc' := 17) (c' := 0) (n' := 0) (h_virt (ra := [.int a1, .ref 121, .ref 102]) (r := []) (as := [.ref 121, .int a1]) (f_at inc_216 (j := 8) rfl) (by decide) MT_76 rfl rfl rfl ⟨Nat.le_of_ble_eq_true rfl, Nat.le_of_ble_eq_true rfl, Nat.le_of_ble_eq_true rfl⟩ sh_102 (f_lt (o := 102) (m := 155) (Nat.le_of_ble_eq_true rfl) hN)) MT_76 (G_76 hN 121 a1 f_L121 σ) ⟨rfl, rfl, rfl⟩ fun t2 => ?_
  exact i_iret (v := f_b t2) (f_at inc_216 (j := 9) rfl) rfl n_bool
set_option maxRecDepth 4000 in
def g_217 (a1 : Int32) (σ : f_M) : Option (Int32 × f_M) :=
  (g_216 a1 σ).bind fun t1 => Sum.elim (fun v1 =>
   (
    if v1 = false then (
     some (0 : Int32)
    ) else (
     some (1 : Int32)
    )
   ).bind fun (t2 : Int32) =>
   (f_wr σ 167 1 (0 : Int32) t2).bind fun m4 =>
   some ((0 : Int32), m4)
  ) (fun k1 => (f_hc [(0, 1)] k1).bind fun v => some (v, σ)) t1
set_option maxRecDepth 4000 in
theorem G_217 {xs : Nat → Int32} {L N : Nat} (hN : 168 ≤ N) (a1 : Int32)  (σ : f_M) : f_Cal a_MT xs L N 217 [.ref 0, .int a1, .ref 167] σ ((g_217 a1 σ).bind fun t => some (e_wi t)) := by
  refine f_cal_of (ls := [.ref 0, .int a1, .ref 167, a_dead]) MT_217 (Nat.le_of_ble_eq_true rfl) rfl ?_
  unfold g_217
  refine i_aload_n (pc' := 1) (f_at inc_217 (j := 0) rfl) rfl rfl ?_
  refine i_iconst (pc' := 2) (f_at inc_217 (j := 1) rfl) ci_0 rfl ?_
  refine i_aload_n (pc' := 3) (f_at inc_217 (j := 2) rfl) rfl rfl ?_
  refine i_iload_n (pc' := 4) (f_at inc_217 (j := 3) rfl) rfl rfl ?_
  refine c_tb (pc' := 7) (c' := 0) (n' := 0) (h_virt (ra := [.int a1, .ref 0]) (r := [.int (0 : Int32), .ref 167]) (as := [.int a1]) (f_at inc_217 (j := 4) rfl) (by decide) MT_216 rfl rfl rfl ⟨Nat.le_of_ble_eq_true rfl, Nat.le_of_ble_eq_true rfl, Nat.le_of_ble_eq_true rfl⟩ sh_0 (f_lt (o := 0) (m := 168) (Nat.le_of_ble_eq_true rfl) hN)) MT_216 (G_216 (Nat.le_trans (Nat.le_of_ble_eq_true rfl) hN) a1 σ) ⟨rfl, rfl, rfl⟩ (fun k w h => x_hdl (l := [(0, 1)]) (by decide +kernel) h) fun v1 => ?_
  refine s_join (J := 15) (fun (t2 : Int32) (u2 : Unit) => [.ref 0, .int a1, .ref 167, a_dead]) (fun t2 => [.long (t2).toInt64, .int (0 : Int32), .ref 167]) (fun t2 => σ) ?_ ?_
  · intro t2 u2
    refine i_last (pc' := 16) (f_at inc_217 (j := 9) rfl) sh_167 rfl (f_lt (o := 167) (m := 168) (Nat.le_of_ble_eq_true rfl) hN) rfl fun m4 => ?_
    refine i_goto (pc' := 22) (f_at inc_217 (j := 10) rfl) (by decide) ?_
    refine i_iconst (pc' := 23) (f_at inc_217 (j := 14) rfl) ci_0 rfl ?_
    exact i_iret (f_at inc_217 (j := 15) rfl) rfl n_int
  · intro k2 hj2
    refine i_if0 (pc' := 14) (nx := 10) cb_eq (f_at inc_217 (j := 5) rfl) ⟨by decide, rfl⟩ (fun b3 => ?_) (fun b3 => ?_)
    · refine i_lconst (pc' := 15) (f_at inc_217 (j := 8) rfl) cl_0 rfl ?_
      exact hj2 (0 : Int32) ()
    · refine i_lconst (pc' := 11) (f_at inc_217 (j := 6) rfl) cl_1 rfl ?_
      refine i_goto (pc' := 15) (f_at inc_217 (j := 7) rfl) (by decide) ?_
      exact hj2 (1 : Int32) ()
set_option maxRecDepth 4000 in
def g_218 (a1 : Int32) (σ : f_M) : Option (Bool × f_M) :=
  (g_142 a1 σ).bind fun t1 =>
  (g_176 t1 true true σ).bind fun t2 =>
  (
   if t2.1 = false then (
    some false
   ) else (
    (f_rd t2.2 156 2420 (0 : Int32)).bind fun v4 =>
    (g_122 a1 v4 t2.2).bind fun t5 =>
    if t5 = false then (
     some false
    ) else (
     some true
    )
   )
  ).bind fun (t3 : Bool) =>
  some (t3, t2.2)
set_option maxRecDepth 4000 in
theorem G_218 {xs : Nat → Int32} {L N : Nat} (hN : 166 ≤ N) (a1 : Int32)  (σ : f_M) : f_Cal a_MT xs L N 218 [.ref 155, .int a1] σ ((g_218 a1 σ).bind fun t => some (e_wb t)) := by
  refine f_cal_of (ls := [.ref 155, .int a1]) MT_218 (Nat.le_of_ble_eq_true rfl) rfl ?_
  unfold g_218
  refine i_aload_n (pc' := 1) (f_at inc_218 (j := 0) rfl) rfl rfl ?_
  refine i_aload_n (pc' := 2) (f_at inc_218 (j := 1) rfl) rfl rfl ?_
  refine i_iload_n (pc' := 3) (f_at inc_218 (j := 2) rfl) rfl rfl ?_
  refine c_pb (pc' := 6) (c' := 0) (n' := 0) (h_virt (ra := [.int a1, .ref 155]) (r := [.ref 155]) (as := [.int a1]) (f_at inc_218 (j := 3) rfl) (by decide) MT_142 rfl rfl rfl ⟨Nat.le_of_ble_eq_true rfl, Nat.le_of_ble_eq_true rfl, Nat.le_of_ble_eq_true rfl⟩ sh_155 (f_lt (o := 155) (m := 166) (Nat.le_of_ble_eq_true rfl) hN)) MT_142 (G_142 hN a1 σ) ⟨rfl, rfl, rfl⟩ fun t1 => ?_
  refine i_iconst (pc' := 7) (f_at inc_218 (j := 4) rfl) ci_1 rfl ?_
  refine i_iconst (pc' := 8) (f_at inc_218 (j := 5) rfl) ci_1 rfl ?_
  refine c_wb (pc' := 11) (c' := 0) (n' := 0) (h_virt (ra := [.int (1 : Int32), .int (1 : Int32), .int (f_b t1), .ref 155]) (r := []) (as := [.int (f_b t1), .int (1 : Int32), .int (1 : Int32)]) (f_at inc_218 (j := 6) rfl) (by decide) MT_176 rfl rfl rfl ⟨Nat.le_of_ble_eq_true rfl, Nat.le_of_ble_eq_true rfl, Nat.le_of_ble_eq_true rfl⟩ sh_155 (f_lt (o := 155) (m := 166) (Nat.le_of_ble_eq_true rfl) hN)) MT_176 (G_176 hN t1 true true σ) ⟨rfl, rfl, rfl⟩ fun t2 => ?_
  refine s_join (J := 33) (fun (t3 : Bool) (u3 : Unit) => [.ref 155, .int a1]) (fun t3 => [.int (f_b t3)]) (fun t3 => t2.2) ?_ ?_
  · intro t3 u3
    exact i_iret (v := f_b t3) (f_at inc_218 (j := 19) rfl) rfl n_bool
  · intro k3 hj3
    refine i_if0 (pc' := 32) (nx := 14) cb_eq (f_at inc_218 (j := 7) rfl) ⟨by decide, rfl⟩ (fun b7 => ?_) (fun b7 => ?_)
    · refine i_iconst (pc' := 33) (f_at inc_218 (j := 18) rfl) ci_0 rfl ?_
      exact hj3 false ()
    · refine i_aload_n (pc' := 15) (f_at inc_218 (j := 8) rfl) rfl rfl ?_
      refine i_iload_n (pc' := 16) (f_at inc_218 (j := 9) rfl) rfl rfl ?_
      refine i_aload_n (pc' := 17) (f_at inc_218 (j := 10) rfl) rfl rfl ?_
      refine i_getR (pc' := 20) (f_at inc_218 (j := 11) rfl) sh_155 rfl (f_lt (o := 155) (m := 166) (Nat.le_of_ble_eq_true rfl) hN) rfl ?_
      refine i_iconst (pc' := 21) (f_at inc_218 (j := 12) rfl) ci_0 rfl ?_
      refine i_iald (pc' := 22) (f_at inc_218 (j := 13) rfl) sh_156 (f_bg (Nat.le_of_ble_eq_true rfl)) (f_lt (o := 156) (m := 166) (Nat.le_of_ble_eq_true rfl) hN) rfl fun v4 => ?_
      refine c_pb (pc' := 25) (c' := 0) (n' := 0) (h_virt (ra := [.int v4, .int a1, .ref 155]) (r := []) (as := [.int a1, .int v4]) (f_at inc_218 (j := 14) rfl) (by decide) MT_122 rfl rfl rfl ⟨Nat.le_of_ble_eq_true rfl, Nat.le_of_ble_eq_true rfl, Nat.le_of_ble_eq_true rfl⟩ sh_155 (f_lt (o := 155) (m := 166) (Nat.le_of_ble_eq_true rfl) hN)) MT_122 (G_122 hN a1 v4 t2.2) ⟨rfl, rfl, rfl⟩ fun t5 => ?_
      refine i_if0 (pc' := 32) (nx := 28) cb_eq (f_at inc_218 (j := 15) rfl) ⟨by decide, rfl⟩ (fun b6 => ?_) (fun b6 => ?_)
      · refine i_iconst (pc' := 33) (f_at inc_218 (j := 18) rfl) ci_0 rfl ?_
        exact hj3 false ()
      · refine i_iconst (pc' := 29) (f_at inc_218 (j := 16) rfl) ci_1 rfl ?_
        refine i_goto (pc' := 33) (f_at inc_218 (j := 17) rfl) (by decide) ?_
        exact hj3 true ()
set_option maxRecDepth 4000 in
def g_219 (a1 : Int32) (σ : f_M) : Option (Bool ⊕ Fin 4) :=
  (g_196 a1 σ).bind fun t1 => Sum.elim (fun _ =>
   (f_rd σ 123 20 a1).bind fun v2 =>
   (f_z v2).bind fun b3 => some (.inl b3)
  ) (fun k1 => some (.inr k1)) t1
set_option maxRecDepth 4000 in
theorem G_219 {xs : Nat → Int32} {L N : Nat} (hN : 155 ≤ N) (a1 : Int32)  (σ : f_M) : f_Cal a_MT xs L N 219 [.ref 0, .int a1] σ ((g_219 a1 σ).bind fun t => some (e_tb σ t)) := by
  refine f_cal_of (ls := [.ref 0, .int a1]) MT_219 (Nat.le_of_ble_eq_true rfl) rfl ?_
  unfold g_219
  refine i_aload_n (pc' := 1) (f_at inc_219 (j := 0) rfl) rfl rfl ?_
  refine i_iload_n (pc' := 2) (f_at inc_219 (j := 1) rfl) rfl rfl ?_
  refine c_tv (pc' := 5) (c' := 0) (n' := 0) (h_virt (ra := [.int a1, .ref 0]) (r := []) (as := [.int a1]) (f_at inc_219 (j := 2) rfl) (by decide) MT_196 rfl rfl rfl ⟨Nat.le_of_ble_eq_true rfl, Nat.le_of_ble_eq_true rfl, Nat.le_of_ble_eq_true rfl⟩ sh_0 (f_lt (o := 0) (m := 155) (Nat.le_of_ble_eq_true rfl) hN)) MT_196 (G_196 hN a1 σ) ⟨rfl, rfl, rfl⟩ (fun k w h => x_thr ⟨rfl, rfl⟩ h) ?_
  refine i_aload_n (pc' := 6) (f_at inc_219 (j := 3) rfl) rfl rfl ?_
  refine i_getR (pc' := 9) (f_at inc_219 (j := 4) rfl) sh_0 rfl (f_lt (o := 0) (m := 155) (Nat.le_of_ble_eq_true rfl) hN) rfl ?_
  refine i_getR (pc' := 12) (f_at inc_219 (j := 5) rfl) sh_121 rfl (f_lt (o := 121) (m := 155) (Nat.le_of_ble_eq_true rfl) hN) rfl ?_
  refine i_iload_n (pc' := 13) (f_at inc_219 (j := 6) rfl) rfl rfl ?_
  refine i_bald (pc' := 14) (f_at inc_219 (j := 7) rfl) sh_123 (Or.inr rfl) (f_bg (Nat.le_of_ble_eq_true rfl)) (f_lt (o := 123) (m := 155) (Nat.le_of_ble_eq_true rfl) hN) rfl fun v2 => ?_
  exact i_zret (fun b => rfl) (f_at inc_219 (j := 8) rfl) rfl
set_option maxRecDepth 4000 in
def g_220 (a1 : Int32) (σ : f_M) : Option (Int32 × f_M) :=
  (g_219 a1 σ).bind fun t1 => Sum.elim (fun v1 =>
   (
    if v1 = false then (
     some (0 : Int32)
    ) else (
     some (1 : Int32)
    )
   ).bind fun (t2 : Int32) =>
   (f_wr σ 167 1 (0 : Int32) t2).bind fun m4 =>
   some ((0 : Int32), m4)
  ) (fun k1 => (f_hc [(0, 1)] k1).bind fun v => some (v, σ)) t1
set_option maxRecDepth 4000 in
theorem G_220 {xs : Nat → Int32} {L N : Nat} (hN : 168 ≤ N) (a1 : Int32)  (σ : f_M) : f_Cal a_MT xs L N 220 [.ref 0, .int a1, .ref 167] σ ((g_220 a1 σ).bind fun t => some (e_wi t)) := by
  refine f_cal_of (ls := [.ref 0, .int a1, .ref 167, a_dead]) MT_220 (Nat.le_of_ble_eq_true rfl) rfl ?_
  unfold g_220
  refine i_aload_n (pc' := 1) (f_at inc_220 (j := 0) rfl) rfl rfl ?_
  refine i_iconst (pc' := 2) (f_at inc_220 (j := 1) rfl) ci_0 rfl ?_
  refine i_aload_n (pc' := 3) (f_at inc_220 (j := 2) rfl) rfl rfl ?_
  refine i_iload_n (pc' := 4) (f_at inc_220 (j := 3) rfl) rfl rfl ?_
  refine c_tb (pc' := 7) (c' := 0) (n' := 0) (h_virt (ra := [.int a1, .ref 0]) (r := [.int (0 : Int32), .ref 167]) (as := [.int a1]) (f_at inc_220 (j := 4) rfl) (by decide) MT_219 rfl rfl rfl ⟨Nat.le_of_ble_eq_true rfl, Nat.le_of_ble_eq_true rfl, Nat.le_of_ble_eq_true rfl⟩ sh_0 (f_lt (o := 0) (m := 168) (Nat.le_of_ble_eq_true rfl) hN)) MT_219 (G_219 (Nat.le_trans (Nat.le_of_ble_eq_true rfl) hN) a1 σ) ⟨rfl, rfl, rfl⟩ (fun k w h => x_hdl (l := [(0, 1)]) (by decide +kernel) h) fun v1 => ?_
  refine s_join (J := 15) (fun (t2 : Int32) (u2 : Unit) => [.ref 0, .int a1, .ref 167, a_dead]) (fun t2 => [.long (t2).toInt64, .int (0 : Int32), .ref 167]) (fun t2 => σ) ?_ ?_
  · intro t2 u2
    refine i_last (pc' := 16) (f_at inc_220 (j := 9) rfl) sh_167 rfl (f_lt (o := 167) (m := 168) (Nat.le_of_ble_eq_true rfl) hN) rfl fun m4 => ?_
    refine i_goto (pc' := 22) (f_at inc_220 (j := 10) rfl) (by decide) ?_
    refine i_iconst (pc' := 23) (f_at inc_220 (j := 14) rfl) ci_0 rfl ?_
    exact i_iret (f_at inc_220 (j := 15) rfl) rfl n_int
  · intro k2 hj2
    refine i_if0 (pc' := 14) (nx := 10) cb_eq (f_at inc_220 (j := 5) rfl) ⟨by decide, rfl⟩ (fun b3 => ?_) (fun b3 => ?_)
    · refine i_lconst (pc' := 15) (f_at inc_220 (j := 8) rfl) cl_0 rfl ?_
      exact hj2 (0 : Int32) ()
    · refine i_lconst (pc' := 11) (f_at inc_220 (j := 6) rfl) cl_1 rfl ?_
      refine i_goto (pc' := 15) (f_at inc_220 (j := 7) rfl) (by decide) ?_
      exact hj2 (1 : Int32) ()
set_option maxRecDepth 4000 in
def g_221 (a1 : Int32) (σ : f_M) : Option (Bool × f_M) :=
  (g_202 a1 (8 : Int32) σ).bind fun t1 =>
  (
   if ¬ t1.1 = (1 : Int32) then (
    some false
   ) else (
    some true
   )
  ).bind fun (t2 : Bool) =>
  some (t2, t1.2)
set_option maxRecDepth 4000 in
theorem G_221 {xs : Nat → Int32} {L N : Nat} (hN : 166 ≤ N) (a1 : Int32)  (σ : f_M) : f_Cal a_MT xs L N 221 [.ref 155, .int a1] σ ((g_221 a1 σ).bind fun t => some (e_wb t)) := by
  refine f_cal_of (ls := [.ref 155, .int a1]) MT_221 (Nat.le_of_ble_eq_true rfl) rfl ?_
  unfold g_221
  refine i_aload_n (pc' := 1) (f_at inc_221 (j := 0) rfl) rfl rfl ?_
  refine i_iload_n (pc' := 2) (f_at inc_221 (j := 1) rfl) rfl rfl ?_
  refine i_bipush (pc' := 4) (f_at inc_221 (j := 2) rfl) cb_8 rfl ?_
  refine c_wi (pc' := 7) (c' := 0) (n' := 0) (h_virt (ra := [.int (8 : Int32), .int a1, .ref 155]) (r := []) (as := [.int a1, .int (8 : Int32)]) (f_at inc_221 (j := 3) rfl) (by decide) MT_202 rfl rfl rfl ⟨Nat.le_of_ble_eq_true rfl, Nat.le_of_ble_eq_true rfl, Nat.le_of_ble_eq_true rfl⟩ sh_155 (f_lt (o := 155) (m := 166) (Nat.le_of_ble_eq_true rfl) hN)) MT_202 (G_202 hN a1 (8 : Int32) σ) ⟨rfl, rfl, rfl⟩ fun t1 => ?_
  refine i_iconst (pc' := 8) (f_at inc_221 (j := 4) rfl) ci_1 rfl ?_
  refine s_join (J := 16) (fun (t2 : Bool) (u2 : Unit) => [.ref 155, .int a1]) (fun t2 => [.int (f_b t2)]) (fun t2 => t1.2) ?_ ?_
  · intro t2 u2
    exact i_iret (v := f_b t2) (f_at inc_221 (j := 9) rfl) rfl n_bool
  · intro k2 hj2
    refine i_if2 (pc' := 15) (nx := 11) c2_ne (f_at inc_221 (j := 5) rfl) ⟨by decide, rfl⟩ (fun b3 => ?_) (fun b3 => ?_)
    · refine i_iconst (pc' := 16) (f_at inc_221 (j := 8) rfl) ci_0 rfl ?_
      exact hj2 false ()
    · refine i_iconst (pc' := 12) (f_at inc_221 (j := 6) rfl) ci_1 rfl ?_
      refine i_goto (pc' := 16) (f_at inc_221 (j := 7) rfl) (by decide) ?_
      exact hj2 true ()
set_option maxRecDepth 4000 in
def g_222 (a1 : Int32) (σ : f_M) : Option (Int32 ⊕ Fin 4) :=
  (g_196 a1 σ).bind fun t1 => Sum.elim (fun _ =>
   (g_88 a1 (σ 121 0) σ).bind fun t2 =>
   some (.inl t2)
  ) (fun k1 => some (.inr k1)) t1
set_option maxRecDepth 4000 in
theorem G_222 {xs : Nat → Int32} {L N : Nat} (hN : 155 ≤ N) (a1 : Int32)  (σ : f_M) : f_Cal a_MT xs L N 222 [.ref 0, .int a1] σ ((g_222 a1 σ).bind fun t => some (e_ti σ t)) := by
  refine f_cal_of (ls := [.ref 0, .int a1]) MT_222 (Nat.le_of_ble_eq_true rfl) rfl ?_
  unfold g_222
  refine i_aload_n (pc' := 1) (f_at inc_222 (j := 0) rfl) rfl rfl ?_
  refine i_iload_n (pc' := 2) (f_at inc_222 (j := 1) rfl) rfl rfl ?_
  refine c_tv (pc' := 5) (c' := 0) (n' := 0) (h_virt (ra := [.int a1, .ref 0]) (r := []) (as := [.int a1]) (f_at inc_222 (j := 2) rfl) (by decide) MT_196 rfl rfl rfl ⟨Nat.le_of_ble_eq_true rfl, Nat.le_of_ble_eq_true rfl, Nat.le_of_ble_eq_true rfl⟩ sh_0 (f_lt (o := 0) (m := 155) (Nat.le_of_ble_eq_true rfl) hN)) MT_196 (G_196 hN a1 σ) ⟨rfl, rfl, rfl⟩ (fun k w h => x_thr ⟨rfl, rfl⟩ h) ?_
  refine i_aload_n (pc' := 6) (f_at inc_222 (j := 3) rfl) rfl rfl ?_
  refine i_getR (pc' := 9) (f_at inc_222 (j := 4) rfl) sh_0 rfl (f_lt (o := 0) (m := 155) (Nat.le_of_ble_eq_true rfl) hN) rfl ?_
  refine i_iload_n (pc' := 10) (f_at inc_222 (j := 5) rfl) rfl rfl ?_
  refine i_aload_n (pc' := 11) (f_at inc_222 (j := 6) rfl) rfl rfl ?_
  refine i_getR (pc' := 14) (f_at inc_222 (j := 7) rfl) sh_0 rfl (f_lt (o := 0) (m := 155) (Nat.le_of_ble_eq_true rfl) hN) rfl ?_
  refine i_getI (pc' := 17) (f_at inc_222 (j := 8) rfl) sh_121 rfl (f_lt (o := 121) (m := 155) (Nat.le_of_ble_eq_true rfl) hN) rfl ?_
  refine c_pi (pc' := 20) (c' := 0) (n' := 0) (h_virt (ra := [.int (σ 121 0), .int a1, .ref 108]) (r := []) (as := [.int a1, .int (σ 121 0)]) (f_at inc_222 (j := 9) rfl) (by decide) MT_88 rfl rfl rfl ⟨Nat.le_of_ble_eq_true rfl, Nat.le_of_ble_eq_true rfl, Nat.le_of_ble_eq_true rfl⟩ sh_108 (f_lt (o := 108) (m := 155) (Nat.le_of_ble_eq_true rfl) hN)) MT_88 (G_88 hN a1 (σ 121 0) σ) ⟨rfl, rfl, rfl⟩ fun t2 => ?_
  exact i_iret (f_at inc_222 (j := 10) rfl) rfl n_int
set_option maxRecDepth 4000 in
def g_223 (a1 : Int32) (σ : f_M) : Option (Int32 × f_M) :=
  (g_222 a1 σ).bind fun t1 => Sum.elim (fun v1 =>
   (f_wr σ 167 1 (0 : Int32) v1).bind fun m2 =>
   some ((0 : Int32), m2)
  ) (fun k1 => (f_hc [(0, 1)] k1).bind fun v => some (v, σ)) t1
set_option maxRecDepth 4000 in
theorem G_223 {xs : Nat → Int32} {L N : Nat} (hN : 168 ≤ N) (a1 : Int32)  (σ : f_M) : f_Cal a_MT xs L N 223 [.ref 0, .int a1, .ref 167] σ ((g_223 a1 σ).bind fun t => some (e_wi t)) := by
  refine f_cal_of (ls := [.ref 0, .int a1, .ref 167, a_dead]) MT_223 (Nat.le_of_ble_eq_true rfl) rfl ?_
  unfold g_223
  refine i_aload_n (pc' := 1) (f_at inc_223 (j := 0) rfl) rfl rfl ?_
  refine i_iconst (pc' := 2) (f_at inc_223 (j := 1) rfl) ci_0 rfl ?_
  refine i_aload_n (pc' := 3) (f_at inc_223 (j := 2) rfl) rfl rfl ?_
  refine i_iload_n (pc' := 4) (f_at inc_223 (j := 3) rfl) rfl rfl ?_
  refine c_ti (pc' := 7) (c' := 0) (n' := 0) (h_virt (ra := [.int a1, .ref 0]) (r := [.int (0 : Int32), .ref 167]) (as := [.int a1]) (f_at inc_223 (j := 4) rfl) (by decide) MT_222 rfl rfl rfl ⟨Nat.le_of_ble_eq_true rfl, Nat.le_of_ble_eq_true rfl, Nat.le_of_ble_eq_true rfl⟩ sh_0 (f_lt (o := 0) (m := 168) (Nat.le_of_ble_eq_true rfl) hN)) MT_222 (G_222 (Nat.le_trans (Nat.le_of_ble_eq_true rfl) hN) a1 σ) ⟨rfl, rfl, rfl⟩ (fun k w h => x_hdl (l := [(0, 1)]) (by decide +kernel) h) fun v1 => ?_
  refine i_i2l (pc' := 8) (f_at inc_223 (j := 5) rfl) rfl ?_
  refine i_last (pc' := 9) (f_at inc_223 (j := 6) rfl) sh_167 rfl (f_lt (o := 167) (m := 168) (Nat.le_of_ble_eq_true rfl) hN) rfl fun m2 => ?_
  refine i_goto (pc' := 15) (f_at inc_223 (j := 7) rfl) (by decide) ?_
  refine i_iconst (pc' := 16) (f_at inc_223 (j := 11) rfl) ci_0 rfl ?_
  exact i_iret (f_at inc_223 (j := 12) rfl) rfl n_int
set_option maxRecDepth 4000 in
def g_224 (a1 : Int32) (σ : f_M) : Option (Int32 × f_M) :=
  (g_142 a1 σ).bind fun t1 =>
  (g_176 t1 true true σ).bind fun t2 =>
  (
   if t2.1 = false then (
    some (0 : Int32)
   ) else (
    (g_134 a1 t2.2).bind fun t4 =>
    some t4
   )
  ).bind fun (t3 : Int32) =>
  some (t3, t2.2)
set_option maxRecDepth 4000 in
theorem G_224 {xs : Nat → Int32} {L N : Nat} (hN : 166 ≤ N) (a1 : Int32)  (σ : f_M) : f_Cal a_MT xs L N 224 [.ref 155, .int a1] σ ((g_224 a1 σ).bind fun t => some (e_wi t)) := by
  refine f_cal_of (ls := [.ref 155, .int a1]) MT_224 (Nat.le_of_ble_eq_true rfl) rfl ?_
  unfold g_224
  refine i_aload_n (pc' := 1) (f_at inc_224 (j := 0) rfl) rfl rfl ?_
  refine i_aload_n (pc' := 2) (f_at inc_224 (j := 1) rfl) rfl rfl ?_
  refine i_iload_n (pc' := 3) (f_at inc_224 (j := 2) rfl) rfl rfl ?_
  refine c_pb (pc' := 6) (c' := 0) (n' := 0) (h_virt (ra := [.int a1, .ref 155]) (r := [.ref 155]) (as := [.int a1]) (f_at inc_224 (j := 3) rfl) (by decide) MT_142 rfl rfl rfl ⟨Nat.le_of_ble_eq_true rfl, Nat.le_of_ble_eq_true rfl, Nat.le_of_ble_eq_true rfl⟩ sh_155 (f_lt (o := 155) (m := 166) (Nat.le_of_ble_eq_true rfl) hN)) MT_142 (G_142 hN a1 σ) ⟨rfl, rfl, rfl⟩ fun t1 => ?_
  refine i_iconst (pc' := 7) (f_at inc_224 (j := 4) rfl) ci_1 rfl ?_
  refine i_iconst (pc' := 8) (f_at inc_224 (j := 5) rfl) ci_1 rfl ?_
  refine c_wb (pc' := 11) (c' := 0) (n' := 0) (h_virt (ra := [.int (1 : Int32), .int (1 : Int32), .int (f_b t1), .ref 155]) (r := []) (as := [.int (f_b t1), .int (1 : Int32), .int (1 : Int32)]) (f_at inc_224 (j := 6) rfl) (by decide) MT_176 rfl rfl rfl ⟨Nat.le_of_ble_eq_true rfl, Nat.le_of_ble_eq_true rfl, Nat.le_of_ble_eq_true rfl⟩ sh_155 (f_lt (o := 155) (m := 166) (Nat.le_of_ble_eq_true rfl) hN)) MT_176 (G_176 hN t1 true true σ) ⟨rfl, rfl, rfl⟩ fun t2 => ?_
  refine s_join (J := 23) (fun (t3 : Int32) (u3 : Unit) => [.ref 155, .int a1]) (fun t3 => [.int t3]) (fun t3 => t2.2) ?_ ?_
  · intro t3 u3
    exact i_iret (f_at inc_224 (j := 13) rfl) rfl n_int
  · intro k3 hj3
    refine i_if0 (pc' := 22) (nx := 14) cb_eq (f_at inc_224 (j := 7) rfl) ⟨by decide, rfl⟩ (fun b5 => ?_) (fun b5 => ?_)
    · refine i_iconst (pc' := 23) (f_at inc_224 (j := 12) rfl) ci_0 rfl ?_
      exact hj3 (0 : Int32) ()
    · refine i_aload_n (pc' := 15) (f_at inc_224 (j := 8) rfl) rfl rfl ?_
      refine i_iload_n (pc' := 16) (f_at inc_224 (j := 9) rfl) rfl rfl ?_
      refine c_pi (pc' := 19) (c' := 0) (n' := 0) (h_virt (ra := [.int a1, .ref 155]) (r := []) (as := [.int a1]) (f_at inc_224 (j := 10) rfl) (by decide) MT_134 rfl rfl rfl ⟨Nat.le_of_ble_eq_true rfl, Nat.le_of_ble_eq_true rfl, Nat.le_of_ble_eq_true rfl⟩ sh_155 (f_lt (o := 155) (m := 166) (Nat.le_of_ble_eq_true rfl) hN)) MT_134 (G_134 hN a1 t2.2) ⟨rfl, rfl, rfl⟩ fun t4 => ?_
      refine i_goto (pc' := 23) (f_at inc_224 (j := 11) rfl) (by decide) ?_
      exact hj3 t4 ()
set_option maxRecDepth 4000 in
def g_225 (a1 : Int32) (σ : f_M) : Option (Int32 ⊕ Fin 4) :=
  (g_196 a1 σ).bind fun t1 => Sum.elim (fun _ =>
   (g_105 a1 σ).bind fun t2 =>
   some (.inl t2)
  ) (fun k1 => some (.inr k1)) t1
set_option maxRecDepth 4000 in
theorem G_225 {xs : Nat → Int32} {L N : Nat} (hN : 155 ≤ N) (a1 : Int32)  (σ : f_M) : f_Cal a_MT xs L N 225 [.ref 0, .int a1] σ ((g_225 a1 σ).bind fun t => some (e_ti σ t)) := by
  refine f_cal_of (ls := [.ref 0, .int a1]) MT_225 (Nat.le_of_ble_eq_true rfl) rfl ?_
  unfold g_225
  refine i_aload_n (pc' := 1) (f_at inc_225 (j := 0) rfl) rfl rfl ?_
  refine i_iload_n (pc' := 2) (f_at inc_225 (j := 1) rfl) rfl rfl ?_
  refine c_tv (pc' := 5) (c' := 0) (n' := 0) (h_virt (ra := [.int a1, .ref 0]) (r := []) (as := [.int a1]) (f_at inc_225 (j := 2) rfl) (by decide) MT_196 rfl rfl rfl ⟨Nat.le_of_ble_eq_true rfl, Nat.le_of_ble_eq_true rfl, Nat.le_of_ble_eq_true rfl⟩ sh_0 (f_lt (o := 0) (m := 155) (Nat.le_of_ble_eq_true rfl) hN)) MT_196 (G_196 hN a1 σ) ⟨rfl, rfl, rfl⟩ (fun k w h => x_thr ⟨rfl, rfl⟩ h) ?_
  refine i_aload_n (pc' := 6) (f_at inc_225 (j := 3) rfl) rfl rfl ?_
  refine i_getR (pc' := 9) (f_at inc_225 (j := 4) rfl) sh_0 rfl (f_lt (o := 0) (m := 155) (Nat.le_of_ble_eq_true rfl) hN) rfl ?_
  refine i_iload_n (pc' := 10) (f_at inc_225 (j := 5) rfl) rfl rfl ?_
  refine c_pi (pc' := 13) (c' := 0) (n' := 0) (h_virt (ra := [.int a1, .ref 102]) (r := []) (as := [.int a1]) (f_at inc_225 (j := 6) rfl) (by decide) MT_105 rfl rfl rfl ⟨Nat.le_of_ble_eq_true rfl, Nat.le_of_ble_eq_true rfl, Nat.le_of_ble_eq_true rfl⟩ sh_102 (f_lt (o := 102) (m := 155) (Nat.le_of_ble_eq_true rfl) hN)) MT_105 (G_105 hN a1 σ) ⟨rfl, rfl, rfl⟩ fun t2 => ?_
  exact i_iret (f_at inc_225 (j := 7) rfl) rfl n_int
set_option maxRecDepth 4000 in
def g_226 (a1 : Int32) (σ : f_M) : Option (Int32 × f_M) :=
  (g_225 a1 σ).bind fun t1 => Sum.elim (fun v1 =>
   (f_wr σ 167 1 (0 : Int32) v1).bind fun m2 =>
   some ((0 : Int32), m2)
  ) (fun k1 => (f_hc [(0, 1)] k1).bind fun v => some (v, σ)) t1
set_option maxRecDepth 4000 in
theorem G_226 {xs : Nat → Int32} {L N : Nat} (hN : 168 ≤ N) (a1 : Int32)  (σ : f_M) : f_Cal a_MT xs L N 226 [.ref 0, .int a1, .ref 167] σ ((g_226 a1 σ).bind fun t => some (e_wi t)) := by
  refine f_cal_of (ls := [.ref 0, .int a1, .ref 167, a_dead]) MT_226 (Nat.le_of_ble_eq_true rfl) rfl ?_
  unfold g_226
  refine i_aload_n (pc' := 1) (f_at inc_226 (j := 0) rfl) rfl rfl ?_
  refine i_iconst (pc' := 2) (f_at inc_226 (j := 1) rfl) ci_0 rfl ?_
  refine i_aload_n (pc' := 3) (f_at inc_226 (j := 2) rfl) rfl rfl ?_
  refine i_iload_n (pc' := 4) (f_at inc_226 (j := 3) rfl) rfl rfl ?_
  refine c_ti (pc' := 7) (c' := 0) (n' := 0) (h_virt (ra := [.int a1, .ref 0]) (r := [.int (0 : Int32), .ref 167]) (as := [.int a1]) (f_at inc_226 (j := 4) rfl) (by decide) MT_225 rfl rfl rfl ⟨Nat.le_of_ble_eq_true rfl, Nat.le_of_ble_eq_true rfl, Nat.le_of_ble_eq_true rfl⟩ sh_0 (f_lt (o := 0) (m := 168) (Nat.le_of_ble_eq_true rfl) hN)) MT_225 (G_225 (Nat.le_trans (Nat.le_of_ble_eq_true rfl) hN) a1 σ) ⟨rfl, rfl, rfl⟩ (fun k w h => x_hdl (l := [(0, 1)]) (by decide +kernel) h) fun v1 => ?_
  refine i_i2l (pc' := 8) (f_at inc_226 (j := 5) rfl) rfl ?_
  refine i_last (pc' := 9) (f_at inc_226 (j := 6) rfl) sh_167 rfl (f_lt (o := 167) (m := 168) (Nat.le_of_ble_eq_true rfl) hN) rfl fun m2 => ?_
  refine i_goto (pc' := 15) (f_at inc_226 (j := 7) rfl) (by decide) ?_
  refine i_iconst (pc' := 16) (f_at inc_226 (j := 11) rfl) ci_0 rfl ?_
  exact i_iret (f_at inc_226 (j := 12) rfl) rfl n_int
set_option maxRecDepth 4000 in
def g_227 (a1 : Int32) (σ : f_M) : Option (Int32 × f_M) :=
  (g_142 a1 σ).bind fun t1 =>
  (g_176 t1 true true σ).bind fun t2 =>
  (
   if t2.1 = false then (
    some (0 : Int32)
   ) else (
    (g_145 a1 t2.2).bind fun t4 =>
    some t4
   )
  ).bind fun (t3 : Int32) =>
  some (t3, t2.2)
set_option maxRecDepth 4000 in
theorem G_227 {xs : Nat → Int32} {L N : Nat} (hN : 166 ≤ N) (a1 : Int32)  (σ : f_M) : f_Cal a_MT xs L N 227 [.ref 155, .int a1] σ ((g_227 a1 σ).bind fun t => some (e_wi t)) := by
  refine f_cal_of (ls := [.ref 155, .int a1]) MT_227 (Nat.le_of_ble_eq_true rfl) rfl ?_
  unfold g_227
  refine i_aload_n (pc' := 1) (f_at inc_227 (j := 0) rfl) rfl rfl ?_
  refine i_aload_n (pc' := 2) (f_at inc_227 (j := 1) rfl) rfl rfl ?_
  refine i_iload_n (pc' := 3) (f_at inc_227 (j := 2) rfl) rfl rfl ?_
  refine c_pb (pc' := 6) (c' := 0) (n' := 0) (h_virt (ra := [.int a1, .ref 155]) (r := [.ref 155]) (as := [.int a1]) (f_at inc_227 (j := 3) rfl) (by decide) MT_142 rfl rfl rfl ⟨Nat.le_of_ble_eq_true rfl, Nat.le_of_ble_eq_true rfl, Nat.le_of_ble_eq_true rfl⟩ sh_155 (f_lt (o := 155) (m := 166) (Nat.le_of_ble_eq_true rfl) hN)) MT_142 (G_142 hN a1 σ) ⟨rfl, rfl, rfl⟩ fun t1 => ?_
  refine i_iconst (pc' := 7) (f_at inc_227 (j := 4) rfl) ci_1 rfl ?_
  refine i_iconst (pc' := 8) (f_at inc_227 (j := 5) rfl) ci_1 rfl ?_
  refine c_wb (pc' := 11) (c' := 0) (n' := 0) (h_virt (ra := [.int (1 : Int32), .int (1 : Int32), .int (f_b t1), .ref 155]) (r := []) (as := [.int (f_b t1), .int (1 : Int32), .int (1 : Int32)]) (f_at inc_227 (j := 6) rfl) (by decide) MT_176 rfl rfl rfl ⟨Nat.le_of_ble_eq_true rfl, Nat.le_of_ble_eq_true rfl, Nat.le_of_ble_eq_true rfl⟩ sh_155 (f_lt (o := 155) (m := 166) (Nat.le_of_ble_eq_true rfl) hN)) MT_176 (G_176 hN t1 true true σ) ⟨rfl, rfl, rfl⟩ fun t2 => ?_
  refine s_join (J := 23) (fun (t3 : Int32) (u3 : Unit) => [.ref 155, .int a1]) (fun t3 => [.int t3]) (fun t3 => t2.2) ?_ ?_
  · intro t3 u3
    exact i_iret (f_at inc_227 (j := 13) rfl) rfl n_int
  · intro k3 hj3
    refine i_if0 (pc' := 22) (nx := 14) cb_eq (f_at inc_227 (j := 7) rfl) ⟨by decide, rfl⟩ (fun b5 => ?_) (fun b5 => ?_)
    · refine i_iconst (pc' := 23) (f_at inc_227 (j := 12) rfl) ci_0 rfl ?_
      exact hj3 (0 : Int32) ()
    · refine i_aload_n (pc' := 15) (f_at inc_227 (j := 8) rfl) rfl rfl ?_
      refine i_iload_n (pc' := 16) (f_at inc_227 (j := 9) rfl) rfl rfl ?_
      refine c_pi (pc' := 19) (c' := 0) (n' := 0) (h_virt (ra := [.int a1, .ref 155]) (r := []) (as := [.int a1]) (f_at inc_227 (j := 10) rfl) (by decide) MT_145 rfl rfl rfl ⟨Nat.le_of_ble_eq_true rfl, Nat.le_of_ble_eq_true rfl, Nat.le_of_ble_eq_true rfl⟩ sh_155 (f_lt (o := 155) (m := 166) (Nat.le_of_ble_eq_true rfl) hN)) MT_145 (G_145 hN a1 t2.2) ⟨rfl, rfl, rfl⟩ fun t4 => ?_
      refine i_goto (pc' := 23) (f_at inc_227 (j := 11) rfl) (by decide) ?_
      exact hj3 t4 ()
set_option maxRecDepth 4000 in
def g_228  (σ : f_M) : Option (Int32) :=
  some (σ 121 5)
set_option maxRecDepth 4000 in
theorem G_228 {xs : Nat → Int32} {L N : Nat} (hN : 155 ≤ N)   (σ : f_M) : f_Cal a_MT xs L N 228 [.ref 0] σ ((g_228  σ).bind fun t => some (e_pi σ t)) := by
  refine f_cal_of (ls := [.ref 0]) MT_228 (Nat.le_of_ble_eq_true rfl) rfl ?_
  unfold g_228
  refine i_aload_n (pc' := 1) (f_at inc_228 (j := 0) rfl) rfl rfl ?_
  refine i_getR (pc' := 4) (f_at inc_228 (j := 1) rfl) sh_0 rfl (f_lt (o := 0) (m := 155) (Nat.le_of_ble_eq_true rfl) hN) rfl ?_
  refine i_getI (pc' := 7) (f_at inc_228 (j := 2) rfl) sh_121 rfl (f_lt (o := 121) (m := 155) (Nat.le_of_ble_eq_true rfl) hN) rfl ?_
  exact i_iret (f_at inc_228 (j := 3) rfl) rfl n_int
set_option maxRecDepth 4000 in
def g_229  (σ : f_M) : Option (Int32 × f_M) :=
  (g_165 (5 : Int32) σ).bind fun t1 =>
  some (t1.1, t1.2)
set_option maxRecDepth 4000 in
theorem G_229 {xs : Nat → Int32} {L N : Nat} (hN : 166 ≤ N)   (σ : f_M) : f_Cal a_MT xs L N 229 [.ref 155] σ ((g_229  σ).bind fun t => some (e_wi t)) := by
  refine f_cal_of (ls := [.ref 155]) MT_229 (Nat.le_of_ble_eq_true rfl) rfl ?_
  unfold g_229
  refine i_aload_n (pc' := 1) (f_at inc_229 (j := 0) rfl) rfl rfl ?_
  refine i_iconst (pc' := 2) (f_at inc_229 (j := 1) rfl) ci_5 rfl ?_
  refine c_wi (pc' := 5) (c' := 0) (n' := 0) (h_virt (ra := [.int (5 : Int32), .ref 155]) (r := []) (as := [.int (5 : Int32)]) (f_at inc_229 (j := 2) rfl) (by decide) MT_165 rfl rfl rfl ⟨Nat.le_of_ble_eq_true rfl, Nat.le_of_ble_eq_true rfl, Nat.le_of_ble_eq_true rfl⟩ sh_155 (f_lt (o := 155) (m := 166) (Nat.le_of_ble_eq_true rfl) hN)) MT_165 (G_165 hN (5 : Int32) σ) ⟨rfl, rfl, rfl⟩ fun t1 => ?_
  exact i_iret (f_at inc_229 (j := 3) rfl) rfl n_int
set_option maxRecDepth 4000 in
def g_230 (a1 : Int32) (σ : f_M) : Option (Unit ⊕ Fin 4) :=
  (g_171 a1 (σ 121 5) σ).bind fun t1 => Sum.elim (fun _ =>
   some (.inl ())
  ) (fun k1 => some (.inr k1)) t1
set_option maxRecDepth 4000 in
theorem G_230 {xs : Nat → Int32} {L N : Nat} (hN : 155 ≤ N) (a1 : Int32)  (σ : f_M) : f_Cal a_MT xs L N 230 [.ref 0, .int a1] σ ((g_230 a1 σ).bind fun t => some (e_tv σ t)) := by
  refine f_cal_of (ls := [.ref 0, .int a1]) MT_230 (Nat.le_of_ble_eq_true rfl) rfl ?_
  unfold g_230
  refine i_iload_n (pc' := 1) (f_at inc_230 (j := 0) rfl) rfl rfl ?_
  refine i_aload_n (pc' := 2) (f_at inc_230 (j := 1) rfl) rfl rfl ?_
  refine i_getR (pc' := 5) (f_at inc_230 (j := 2) rfl) sh_0 rfl (f_lt (o := 0) (m := 155) (Nat.le_of_ble_eq_true rfl) hN) rfl ?_
  refine i_getI (pc' := 8) (f_at inc_230 (j := 3) rfl) sh_121 rfl (f_lt (o := 121) (m := 155) (Nat.le_of_ble_eq_true rfl) hN) rfl ?_
  refine c_tv (pc' := 11) (c' := 0) (n' := 0) (h_stat (ra := [.int (σ 121 5), .int a1]) (r := []) (as := [.int a1, .int (σ 121 5)]) (f_at inc_230 (j := 4) rfl) (by decide) MT_171 rfl rfl rfl ⟨Nat.le_of_ble_eq_true rfl, Nat.le_of_ble_eq_true rfl, Nat.le_of_ble_eq_true rfl⟩) MT_171 (G_171 hN a1 (σ 121 5) σ) ⟨rfl, rfl, rfl⟩ (fun k w h => x_thr ⟨rfl, rfl⟩ h) ?_
  exact i_vret (f_at inc_230 (j := 5) rfl) rfl
set_option maxRecDepth 4000 in
def g_231 (a1 : Int32) (σ : f_M) : Option (Int32 ⊕ Fin 4) :=
  (g_230 a1 σ).bind fun t1 => Sum.elim (fun _ =>
   (f_rd σ 119 20 a1).bind fun v2 =>
   some (.inl v2)
  ) (fun k1 => some (.inr k1)) t1
set_option maxRecDepth 4000 in
theorem G_231 {xs : Nat → Int32} {L N : Nat} (hN : 155 ≤ N) (a1 : Int32)  (σ : f_M) : f_Cal a_MT xs L N 231 [.ref 0, .int a1] σ ((g_231 a1 σ).bind fun t => some (e_ti σ t)) := by
  refine f_cal_of (ls := [.ref 0, .int a1]) MT_231 (Nat.le_of_ble_eq_true rfl) rfl ?_
  unfold g_231
  refine i_aload_n (pc' := 1) (f_at inc_231 (j := 0) rfl) rfl rfl ?_
  refine i_iload_n (pc' := 2) (f_at inc_231 (j := 1) rfl) rfl rfl ?_
  refine c_tv (pc' := 5) (c' := 0) (n' := 0) (h_virt (ra := [.int a1, .ref 0]) (r := []) (as := [.int a1]) (f_at inc_231 (j := 2) rfl) (by decide) MT_230 rfl rfl rfl ⟨Nat.le_of_ble_eq_true rfl, Nat.le_of_ble_eq_true rfl, Nat.le_of_ble_eq_true rfl⟩ sh_0 (f_lt (o := 0) (m := 155) (Nat.le_of_ble_eq_true rfl) hN)) MT_230 (G_230 hN a1 σ) ⟨rfl, rfl, rfl⟩ (fun k w h => x_thr ⟨rfl, rfl⟩ h) ?_
  refine i_aload_n (pc' := 6) (f_at inc_231 (j := 3) rfl) rfl rfl ?_
  refine i_getR (pc' := 9) (f_at inc_231 (j := 4) rfl) sh_0 rfl (f_lt (o := 0) (m := 155) (Nat.le_of_ble_eq_true rfl) hN) rfl ?_
  refine i_getR (pc' := 12) (f_at inc_231 (j := 5) rfl) sh_108 rfl (f_lt (o := 108) (m := 155) (Nat.le_of_ble_eq_true rfl) hN) rfl ?_
  refine i_iload_n (pc' := 13) (f_at inc_231 (j := 6) rfl) rfl rfl ?_
  refine i_iald (pc' := 14) (f_at inc_231 (j := 7) rfl) sh_119 (f_bg (Nat.le_of_ble_eq_true rfl)) (f_lt (o := 119) (m := 155) (Nat.le_of_ble_eq_true rfl) hN) rfl fun v2 => ?_
  exact i_iret (f_at inc_231 (j := 8) rfl) rfl n_int
set_option maxRecDepth 4000 in
def g_232 (a1 : Int32) (σ : f_M) : Option (Int32 × f_M) :=
  (g_231 a1 σ).bind fun t1 => Sum.elim (fun v1 =>
   (f_wr σ 167 1 (0 : Int32) v1).bind fun m2 =>
   some ((0 : Int32), m2)
  ) (fun k1 => (f_hc [(0, 1)] k1).bind fun v => some (v, σ)) t1
set_option maxRecDepth 4000 in
theorem G_232 {xs : Nat → Int32} {L N : Nat} (hN : 168 ≤ N) (a1 : Int32)  (σ : f_M) : f_Cal a_MT xs L N 232 [.ref 0, .int a1, .ref 167] σ ((g_232 a1 σ).bind fun t => some (e_wi t)) := by
  refine f_cal_of (ls := [.ref 0, .int a1, .ref 167, a_dead]) MT_232 (Nat.le_of_ble_eq_true rfl) rfl ?_
  unfold g_232
  refine i_aload_n (pc' := 1) (f_at inc_232 (j := 0) rfl) rfl rfl ?_
  refine i_iconst (pc' := 2) (f_at inc_232 (j := 1) rfl) ci_0 rfl ?_
  refine i_aload_n (pc' := 3) (f_at inc_232 (j := 2) rfl) rfl rfl ?_
  refine i_iload_n (pc' := 4) (f_at inc_232 (j := 3) rfl) rfl rfl ?_
  refine c_ti (pc' := 7) (c' := 0) (n' := 0) (h_virt (ra := [.int a1, .ref 0]) (r := [.int (0 : Int32), .ref 167]) (as := [.int a1]) (f_at inc_232 (j := 4) rfl) (by decide) MT_231 rfl rfl rfl ⟨Nat.le_of_ble_eq_true rfl, Nat.le_of_ble_eq_true rfl, Nat.le_of_ble_eq_true rfl⟩ sh_0 (f_lt (o := 0) (m := 168) (Nat.le_of_ble_eq_true rfl) hN)) MT_231 (G_231 (Nat.le_trans (Nat.le_of_ble_eq_true rfl) hN) a1 σ) ⟨rfl, rfl, rfl⟩ (fun k w h => x_hdl (l := [(0, 1)]) (by decide +kernel) h) fun v1 => ?_
  refine i_i2l (pc' := 8) (f_at inc_232 (j := 5) rfl) rfl ?_
  refine i_last (pc' := 9) (f_at inc_232 (j := 6) rfl) sh_167 rfl (f_lt (o := 167) (m := 168) (Nat.le_of_ble_eq_true rfl) hN) rfl fun m2 => ?_
  refine i_goto (pc' := 15) (f_at inc_232 (j := 7) rfl) (by decide) ?_
  refine i_iconst (pc' := 16) (f_at inc_232 (j := 11) rfl) ci_0 rfl ?_
  exact i_iret (f_at inc_232 (j := 12) rfl) rfl n_int
set_option maxRecDepth 4000 in
def g_233 (a1 : Int32) (σ : f_M) : Option (Bool) :=
  (f_rd σ 156 2420 (5 : Int32)).bind fun v1 =>
  (g_46 (a1).toInt64 (0 : Int64) ((v1 - (1 : Int32))).toInt64 σ).bind fun t2 =>
  some t2
set_option maxRecDepth 4000 in
theorem G_233 {xs : Nat → Int32} {L N : Nat} (hN : 166 ≤ N) (a1 : Int32)  (σ : f_M) : f_Cal a_MT xs L N 233 [.ref 155, .int a1] σ ((g_233 a1 σ).bind fun t => some (e_pb σ t)) := by
  refine f_cal_of (ls := [.ref 155, .int a1]) MT_233 (Nat.le_of_ble_eq_true rfl) rfl ?_
  unfold g_233
  refine i_iload_n (pc' := 1) (f_at inc_233 (j := 0) rfl) rfl rfl ?_
  refine i_i2l (pc' := 2) (f_at inc_233 (j := 1) rfl) rfl ?_
  refine i_lconst (pc' := 3) (f_at inc_233 (j := 2) rfl) cl_0 rfl ?_
  refine i_aload_n (pc' := 4) (f_at inc_233 (j := 3) rfl) rfl rfl ?_
  refine i_getR (pc' := 7) (f_at inc_233 (j := 4) rfl) sh_155 rfl (f_lt (o := 155) (m := 166) (Nat.le_of_ble_eq_true rfl) hN) rfl ?_
  refine i_iconst (pc' := 8) (f_at inc_233 (j := 5) rfl) ci_5 rfl ?_
  refine i_iald (pc' := 9) (f_at inc_233 (j := 6) rfl) sh_156 (f_bg (Nat.le_of_ble_eq_true rfl)) (f_lt (o := 156) (m := 166) (Nat.le_of_ble_eq_true rfl) hN) rfl fun v1 => ?_
  refine i_iconst (pc' := 10) (f_at inc_233 (j := 7) rfl) ci_1 rfl ?_
  refine i_isub (pc' := 11) (f_at inc_233 (j := 8) rfl) rfl ?_
  refine i_i2l (pc' := 12) (f_at inc_233 (j := 9) rfl) rfl ?_
  refine c_pb (pc' := 15) (c' := 0) (n' := 0) (h_stat (ra := [.long ((v1 - (1 : Int32))).toInt64, .long (0 : Int64), .long (a1).toInt64]) (r := []) (as := [.long (a1).toInt64, .long (0 : Int64), .long ((v1 - (1 : Int32))).toInt64]) (f_at inc_233 (j := 10) rfl) (by decide) MT_46 rfl rfl rfl ⟨Nat.le_of_ble_eq_true rfl, Nat.le_of_ble_eq_true rfl, Nat.le_of_ble_eq_true rfl⟩) MT_46 (G_46 hN (a1).toInt64 (0 : Int64) ((v1 - (1 : Int32))).toInt64 σ) ⟨rfl, rfl, rfl⟩ fun t2 => ?_
  exact i_iret (v := f_b t2) (f_at inc_233 (j := 11) rfl) rfl n_bool
set_option maxRecDepth 4000 in
def g_234 (a1 : Int32) (a2 : Int32) (σ : f_M) : Option (Int32 × f_M) :=
  (g_233 a1 σ).bind fun t1 =>
  (g_176 t1 true true σ).bind fun t2 =>
  (
   if t2.1 = false then (
    some (0 : Int32)
   ) else (
    (g_126 a1 t2.2).bind fun t4 =>
    (f_rd t2.2 156 2420 (t4 + a2)).bind fun v5 =>
    some v5
   )
  ).bind fun (t3 : Int32) =>
  some (t3, t2.2)
set_option maxRecDepth 4000 in
theorem G_234 {xs : Nat → Int32} {L N : Nat} (hN : 166 ≤ N) (a1 : Int32) (a2 : Int32)  (σ : f_M) : f_Cal a_MT xs L N 234 [.ref 155, .int a1, .int a2] σ ((g_234 a1 a2 σ).bind fun t => some (e_wi t)) := by
  refine f_cal_of (ls := [.ref 155, .int a1, .int a2]) MT_234 (Nat.le_of_ble_eq_true rfl) rfl ?_
  unfold g_234
  refine i_aload_n (pc' := 1) (f_at inc_234 (j := 0) rfl) rfl rfl ?_
  refine i_aload_n (pc' := 2) (f_at inc_234 (j := 1) rfl) rfl rfl ?_
  refine i_iload_n (pc' := 3) (f_at inc_234 (j := 2) rfl) rfl rfl ?_
  refine c_pb (pc' := 6) (c' := 0) (n' := 0) (h_virt (ra := [.int a1, .ref 155]) (r := [.ref 155]) (as := [.int a1]) (f_at inc_234 (j := 3) rfl) (by decide) MT_233 rfl rfl rfl ⟨Nat.le_of_ble_eq_true rfl, Nat.le_of_ble_eq_true rfl, Nat.le_of_ble_eq_true rfl⟩ sh_155 (f_lt (o := 155) (m := 166) (Nat.le_of_ble_eq_true rfl) hN)) MT_233 (G_233 hN a1 σ) ⟨rfl, rfl, rfl⟩ fun t1 => ?_
  refine i_iconst (pc' := 7) (f_at inc_234 (j := 4) rfl) ci_1 rfl ?_
  refine i_iconst (pc' := 8) (f_at inc_234 (j := 5) rfl) ci_1 rfl ?_
  refine c_wb (pc' := 11) (c' := 0) (n' := 0) (h_virt (ra := [.int (1 : Int32), .int (1 : Int32), .int (f_b t1), .ref 155]) (r := []) (as := [.int (f_b t1), .int (1 : Int32), .int (1 : Int32)]) (f_at inc_234 (j := 6) rfl) (by decide) MT_176 rfl rfl rfl ⟨Nat.le_of_ble_eq_true rfl, Nat.le_of_ble_eq_true rfl, Nat.le_of_ble_eq_true rfl⟩ sh_155 (f_lt (o := 155) (m := 166) (Nat.le_of_ble_eq_true rfl) hN)) MT_176 (G_176 hN t1 true true σ) ⟨rfl, rfl, rfl⟩ fun t2 => ?_
  refine s_join (J := 29) (fun (t3 : Int32) (u3 : Unit) => [.ref 155, .int a1, .int a2]) (fun t3 => [.int t3]) (fun t3 => t2.2) ?_ ?_
  · intro t3 u3
    exact i_iret (f_at inc_234 (j := 17) rfl) rfl n_int
  · intro k3 hj3
    refine i_if0 (pc' := 28) (nx := 14) cb_eq (f_at inc_234 (j := 7) rfl) ⟨by decide, rfl⟩ (fun b6 => ?_) (fun b6 => ?_)
    · refine i_iconst (pc' := 29) (f_at inc_234 (j := 16) rfl) ci_0 rfl ?_
      exact hj3 (0 : Int32) ()
    · refine i_aload_n (pc' := 15) (f_at inc_234 (j := 8) rfl) rfl rfl ?_
      refine i_getR (pc' := 18) (f_at inc_234 (j := 9) rfl) sh_155 rfl (f_lt (o := 155) (m := 166) (Nat.le_of_ble_eq_true rfl) hN) rfl ?_
      refine i_iload_n (pc' := 19) (f_at inc_234 (j := 10) rfl) rfl rfl ?_
      refine c_pi (pc' := 22) (c' := 0) (n' := 0) (h_stat (ra := [.int a1]) (r := [.ref 156]) (as := [.int a1]) (f_at inc_234 (j := 11) rfl) (by decide) MT_126 rfl rfl rfl ⟨Nat.le_of_ble_eq_true rfl, Nat.le_of_ble_eq_true rfl, Nat.le_of_ble_eq_true rfl⟩) MT_126 (G_126 hN a1 t2.2) ⟨rfl, rfl, rfl⟩ fun t4 => ?_
      refine i_iload_n (pc' := 23) (f_at inc_234 (j := 12) rfl) rfl rfl ?_
      refine i_iadd (pc' := 24) (f_at inc_234 (j := 13) rfl) rfl ?_
      refine i_iald (pc' := 25) (f_at inc_234 (j := 14) rfl) sh_156 (f_bg (Nat.le_of_ble_eq_true rfl)) (f_lt (o := 156) (m := 166) (Nat.le_of_ble_eq_true rfl) hN) rfl fun v5 => ?_
      refine i_goto (pc' := 29) (f_at inc_234 (j := 15) rfl) (by decide) ?_
      exact hj3 v5 ()
set_option maxRecDepth 4000 in
def g_235 (a1 : Int32) (σ : f_M) : Option (Int32 × f_M) :=
  (g_234 a1 (0 : Int32) σ).bind fun t1 =>
  some (t1.1, t1.2)
set_option maxRecDepth 4000 in
theorem G_235 {xs : Nat → Int32} {L N : Nat} (hN : 166 ≤ N) (a1 : Int32)  (σ : f_M) : f_Cal a_MT xs L N 235 [.ref 155, .int a1] σ ((g_235 a1 σ).bind fun t => some (e_wi t)) := by
  refine f_cal_of (ls := [.ref 155, .int a1]) MT_235 (Nat.le_of_ble_eq_true rfl) rfl ?_
  unfold g_235
  refine i_aload_n (pc' := 1) (f_at inc_235 (j := 0) rfl) rfl rfl ?_
  refine i_iload_n (pc' := 2) (f_at inc_235 (j := 1) rfl) rfl rfl ?_
  refine i_iconst (pc' := 3) (f_at inc_235 (j := 2) rfl) ci_0 rfl ?_
  refine c_wi (pc' := 6) (c' := 0) (n' := 0) (h_virt (ra := [.int (0 : Int32), .int a1, .ref 155]) (r := []) (as := [.int a1, .int (0 : Int32)]) (f_at inc_235 (j := 3) rfl) (by decide) MT_234 rfl rfl rfl ⟨Nat.le_of_ble_eq_true rfl, Nat.le_of_ble_eq_true rfl, Nat.le_of_ble_eq_true rfl⟩ sh_155 (f_lt (o := 155) (m := 166) (Nat.le_of_ble_eq_true rfl) hN)) MT_234 (G_234 hN a1 (0 : Int32) σ) ⟨rfl, rfl, rfl⟩ fun t1 => ?_
  exact i_iret (f_at inc_235 (j := 4) rfl) rfl n_int
set_option maxRecDepth 4000 in
def g_236 (a1 : Int32) (σ : f_M) : Option (Int32 ⊕ Fin 4) :=
  (g_230 a1 σ).bind fun t1 => Sum.elim (fun _ =>
   (f_rd σ 120 20 a1).bind fun v2 =>
   some (.inl v2)
  ) (fun k1 => some (.inr k1)) t1
set_option maxRecDepth 4000 in
theorem G_236 {xs : Nat → Int32} {L N : Nat} (hN : 155 ≤ N) (a1 : Int32)  (σ : f_M) : f_Cal a_MT xs L N 236 [.ref 0, .int a1] σ ((g_236 a1 σ).bind fun t => some (e_ti σ t)) := by
  refine f_cal_of (ls := [.ref 0, .int a1]) MT_236 (Nat.le_of_ble_eq_true rfl) rfl ?_
  unfold g_236
  refine i_aload_n (pc' := 1) (f_at inc_236 (j := 0) rfl) rfl rfl ?_
  refine i_iload_n (pc' := 2) (f_at inc_236 (j := 1) rfl) rfl rfl ?_
  refine c_tv (pc' := 5) (c' := 0) (n' := 0) (h_virt (ra := [.int a1, .ref 0]) (r := []) (as := [.int a1]) (f_at inc_236 (j := 2) rfl) (by decide) MT_230 rfl rfl rfl ⟨Nat.le_of_ble_eq_true rfl, Nat.le_of_ble_eq_true rfl, Nat.le_of_ble_eq_true rfl⟩ sh_0 (f_lt (o := 0) (m := 155) (Nat.le_of_ble_eq_true rfl) hN)) MT_230 (G_230 hN a1 σ) ⟨rfl, rfl, rfl⟩ (fun k w h => x_thr ⟨rfl, rfl⟩ h) ?_
  refine i_aload_n (pc' := 6) (f_at inc_236 (j := 3) rfl) rfl rfl ?_
  refine i_getR (pc' := 9) (f_at inc_236 (j := 4) rfl) sh_0 rfl (f_lt (o := 0) (m := 155) (Nat.le_of_ble_eq_true rfl) hN) rfl ?_
  refine i_getR (pc' := 12) (f_at inc_236 (j := 5) rfl) sh_108 rfl (f_lt (o := 108) (m := 155) (Nat.le_of_ble_eq_true rfl) hN) rfl ?_
  refine i_iload_n (pc' := 13) (f_at inc_236 (j := 6) rfl) rfl rfl ?_
  refine i_iald (pc' := 14) (f_at inc_236 (j := 7) rfl) sh_120 (f_bg (Nat.le_of_ble_eq_true rfl)) (f_lt (o := 120) (m := 155) (Nat.le_of_ble_eq_true rfl) hN) rfl fun v2 => ?_
  exact i_iret (f_at inc_236 (j := 8) rfl) rfl n_int
set_option maxRecDepth 4000 in
def g_237 (a1 : Int32) (σ : f_M) : Option (Int32 × f_M) :=
  (g_236 a1 σ).bind fun t1 => Sum.elim (fun v1 =>
   (f_wr σ 167 1 (0 : Int32) v1).bind fun m2 =>
   some ((0 : Int32), m2)
  ) (fun k1 => (f_hc [(0, 1)] k1).bind fun v => some (v, σ)) t1
set_option maxRecDepth 4000 in
theorem G_237 {xs : Nat → Int32} {L N : Nat} (hN : 168 ≤ N) (a1 : Int32)  (σ : f_M) : f_Cal a_MT xs L N 237 [.ref 0, .int a1, .ref 167] σ ((g_237 a1 σ).bind fun t => some (e_wi t)) := by
  refine f_cal_of (ls := [.ref 0, .int a1, .ref 167, a_dead]) MT_237 (Nat.le_of_ble_eq_true rfl) rfl ?_
  unfold g_237
  refine i_aload_n (pc' := 1) (f_at inc_237 (j := 0) rfl) rfl rfl ?_
  refine i_iconst (pc' := 2) (f_at inc_237 (j := 1) rfl) ci_0 rfl ?_
  refine i_aload_n (pc' := 3) (f_at inc_237 (j := 2) rfl) rfl rfl ?_
  refine i_iload_n (pc' := 4) (f_at inc_237 (j := 3) rfl) rfl rfl ?_
  refine c_ti (pc' := 7) (c' := 0) (n' := 0) (h_virt (ra := [.int a1, .ref 0]) (r := [.int (0 : Int32), .ref 167]) (as := [.int a1]) (f_at inc_237 (j := 4) rfl) (by decide) MT_236 rfl rfl rfl ⟨Nat.le_of_ble_eq_true rfl, Nat.le_of_ble_eq_true rfl, Nat.le_of_ble_eq_true rfl⟩ sh_0 (f_lt (o := 0) (m := 168) (Nat.le_of_ble_eq_true rfl) hN)) MT_236 (G_236 (Nat.le_trans (Nat.le_of_ble_eq_true rfl) hN) a1 σ) ⟨rfl, rfl, rfl⟩ (fun k w h => x_hdl (l := [(0, 1)]) (by decide +kernel) h) fun v1 => ?_
  refine i_i2l (pc' := 8) (f_at inc_237 (j := 5) rfl) rfl ?_
  refine i_last (pc' := 9) (f_at inc_237 (j := 6) rfl) sh_167 rfl (f_lt (o := 167) (m := 168) (Nat.le_of_ble_eq_true rfl) hN) rfl fun m2 => ?_
  refine i_goto (pc' := 15) (f_at inc_237 (j := 7) rfl) (by decide) ?_
  refine i_iconst (pc' := 16) (f_at inc_237 (j := 11) rfl) ci_0 rfl ?_
  exact i_iret (f_at inc_237 (j := 12) rfl) rfl n_int
set_option maxRecDepth 4000 in
def g_238 (a1 : Int32) (σ : f_M) : Option (Int32 × f_M) :=
  (g_234 a1 (1 : Int32) σ).bind fun t1 =>
  some (t1.1, t1.2)
set_option maxRecDepth 4000 in
theorem G_238 {xs : Nat → Int32} {L N : Nat} (hN : 166 ≤ N) (a1 : Int32)  (σ : f_M) : f_Cal a_MT xs L N 238 [.ref 155, .int a1] σ ((g_238 a1 σ).bind fun t => some (e_wi t)) := by
  refine f_cal_of (ls := [.ref 155, .int a1]) MT_238 (Nat.le_of_ble_eq_true rfl) rfl ?_
  unfold g_238
  refine i_aload_n (pc' := 1) (f_at inc_238 (j := 0) rfl) rfl rfl ?_
  refine i_iload_n (pc' := 2) (f_at inc_238 (j := 1) rfl) rfl rfl ?_
  refine i_iconst (pc' := 3) (f_at inc_238 (j := 2) rfl) ci_1 rfl ?_
  refine c_wi (pc' := 6) (c' := 0) (n' := 0) (h_virt (ra := [.int (1 : Int32), .int a1, .ref 155]) (r := []) (as := [.int a1, .int (1 : Int32)]) (f_at inc_238 (j := 3) rfl) (by decide) MT_234 rfl rfl rfl ⟨Nat.le_of_ble_eq_true rfl, Nat.le_of_ble_eq_true rfl, Nat.le_of_ble_eq_true rfl⟩ sh_155 (f_lt (o := 155) (m := 166) (Nat.le_of_ble_eq_true rfl) hN)) MT_234 (G_234 hN a1 (1 : Int32) σ) ⟨rfl, rfl, rfl⟩ fun t1 => ?_
  exact i_iret (f_at inc_238 (j := 4) rfl) rfl n_int
set_option maxRecDepth 4000 in
def g_239 (a1 : Int32) (σ : f_M) : Option (Bool ⊕ Fin 4) :=
  (g_230 a1 σ).bind fun t1 => Sum.elim (fun _ =>
   (f_rd σ 124 20 a1).bind fun v2 =>
   (
    if ¬ v2 = 0 then (
     some false
    ) else (
     some true
    )
   ).bind fun (t3 : Bool) =>
   some (.inl t3)
  ) (fun k1 => some (.inr k1)) t1
set_option maxRecDepth 4000 in
theorem G_239 {xs : Nat → Int32} {L N : Nat} (hN : 155 ≤ N) (a1 : Int32)  (σ : f_M) : f_Cal a_MT xs L N 239 [.ref 0, .int a1] σ ((g_239 a1 σ).bind fun t => some (e_tb σ t)) := by
  refine f_cal_of (ls := [.ref 0, .int a1]) MT_239 (Nat.le_of_ble_eq_true rfl) rfl ?_
  unfold g_239
  refine i_aload_n (pc' := 1) (f_at inc_239 (j := 0) rfl) rfl rfl ?_
  refine i_iload_n (pc' := 2) (f_at inc_239 (j := 1) rfl) rfl rfl ?_
  refine c_tv (pc' := 5) (c' := 0) (n' := 0) (h_virt (ra := [.int a1, .ref 0]) (r := []) (as := [.int a1]) (f_at inc_239 (j := 2) rfl) (by decide) MT_230 rfl rfl rfl ⟨Nat.le_of_ble_eq_true rfl, Nat.le_of_ble_eq_true rfl, Nat.le_of_ble_eq_true rfl⟩ sh_0 (f_lt (o := 0) (m := 155) (Nat.le_of_ble_eq_true rfl) hN)) MT_230 (G_230 hN a1 σ) ⟨rfl, rfl, rfl⟩ (fun k w h => x_thr ⟨rfl, rfl⟩ h) ?_
  refine i_aload_n (pc' := 6) (f_at inc_239 (j := 3) rfl) rfl rfl ?_
  refine i_getR (pc' := 9) (f_at inc_239 (j := 4) rfl) sh_0 rfl (f_lt (o := 0) (m := 155) (Nat.le_of_ble_eq_true rfl) hN) rfl ?_
  refine i_getR (pc' := 12) (f_at inc_239 (j := 5) rfl) sh_121 rfl (f_lt (o := 121) (m := 155) (Nat.le_of_ble_eq_true rfl) hN) rfl ?_
  refine i_iload_n (pc' := 13) (f_at inc_239 (j := 6) rfl) rfl rfl ?_
  refine i_iald (pc' := 14) (f_at inc_239 (j := 7) rfl) sh_124 (f_bg (Nat.le_of_ble_eq_true rfl)) (f_lt (o := 124) (m := 155) (Nat.le_of_ble_eq_true rfl) hN) rfl fun v2 => ?_
  refine s_join (J := 22) (fun (t3 : Bool) (u3 : Unit) => [.ref 0, .int a1]) (fun t3 => [.int (f_b t3)]) (fun t3 => σ) ?_ ?_
  · intro t3 u3
    exact i_iret (v := f_b t3) (f_at inc_239 (j := 12) rfl) rfl n_bool
  · intro k3 hj3
    refine i_if0 (pc' := 21) (nx := 17) c0_ne (f_at inc_239 (j := 8) rfl) ⟨by decide, rfl⟩ (fun b4 => ?_) (fun b4 => ?_)
    · refine i_iconst (pc' := 22) (f_at inc_239 (j := 11) rfl) ci_0 rfl ?_
      exact hj3 false ()
    · refine i_iconst (pc' := 18) (f_at inc_239 (j := 9) rfl) ci_1 rfl ?_
      refine i_goto (pc' := 22) (f_at inc_239 (j := 10) rfl) (by decide) ?_
      exact hj3 true ()
set_option maxRecDepth 4000 in
def g_240 (a1 : Int32) (σ : f_M) : Option (Int32 × f_M) :=
  (g_239 a1 σ).bind fun t1 => Sum.elim (fun v1 =>
   (
    if v1 = false then (
     some (0 : Int32)
    ) else (
     some (1 : Int32)
    )
   ).bind fun (t2 : Int32) =>
   (f_wr σ 167 1 (0 : Int32) t2).bind fun m4 =>
   some ((0 : Int32), m4)
  ) (fun k1 => (f_hc [(0, 1)] k1).bind fun v => some (v, σ)) t1
set_option maxRecDepth 4000 in
theorem G_240 {xs : Nat → Int32} {L N : Nat} (hN : 168 ≤ N) (a1 : Int32)  (σ : f_M) : f_Cal a_MT xs L N 240 [.ref 0, .int a1, .ref 167] σ ((g_240 a1 σ).bind fun t => some (e_wi t)) := by
  refine f_cal_of (ls := [.ref 0, .int a1, .ref 167, a_dead]) MT_240 (Nat.le_of_ble_eq_true rfl) rfl ?_
  unfold g_240
  refine i_aload_n (pc' := 1) (f_at inc_240 (j := 0) rfl) rfl rfl ?_
  refine i_iconst (pc' := 2) (f_at inc_240 (j := 1) rfl) ci_0 rfl ?_
  refine i_aload_n (pc' := 3) (f_at inc_240 (j := 2) rfl) rfl rfl ?_
  refine i_iload_n (pc' := 4) (f_at inc_240 (j := 3) rfl) rfl rfl ?_
  refine c_tb (pc' := 7) (c' := 0) (n' := 0) (h_virt (ra := [.int a1, .ref 0]) (r := [.int (0 : Int32), .ref 167]) (as := [.int a1]) (f_at inc_240 (j := 4) rfl) (by decide) MT_239 rfl rfl rfl ⟨Nat.le_of_ble_eq_true rfl, Nat.le_of_ble_eq_true rfl, Nat.le_of_ble_eq_true rfl⟩ sh_0 (f_lt (o := 0) (m := 168) (Nat.le_of_ble_eq_true rfl) hN)) MT_239 (G_239 (Nat.le_trans (Nat.le_of_ble_eq_true rfl) hN) a1 σ) ⟨rfl, rfl, rfl⟩ (fun k w h => x_hdl (l := [(0, 1)]) (by decide +kernel) h) fun v1 => ?_
  refine s_join (J := 15) (fun (t2 : Int32) (u2 : Unit) => [.ref 0, .int a1, .ref 167, a_dead]) (fun t2 => [.long (t2).toInt64, .int (0 : Int32), .ref 167]) (fun t2 => σ) ?_ ?_
  · intro t2 u2
    refine i_last (pc' := 16) (f_at inc_240 (j := 9) rfl) sh_167 rfl (f_lt (o := 167) (m := 168) (Nat.le_of_ble_eq_true rfl) hN) rfl fun m4 => ?_
    refine i_goto (pc' := 22) (f_at inc_240 (j := 10) rfl) (by decide) ?_
    refine i_iconst (pc' := 23) (f_at inc_240 (j := 14) rfl) ci_0 rfl ?_
    exact i_iret (f_at inc_240 (j := 15) rfl) rfl n_int
  · intro k2 hj2
    refine i_if0 (pc' := 14) (nx := 10) cb_eq (f_at inc_240 (j := 5) rfl) ⟨by decide, rfl⟩ (fun b3 => ?_) (fun b3 => ?_)
    · refine i_lconst (pc' := 15) (f_at inc_240 (j := 8) rfl) cl_0 rfl ?_
      exact hj2 (0 : Int32) ()
    · refine i_lconst (pc' := 11) (f_at inc_240 (j := 6) rfl) cl_1 rfl ?_
      refine i_goto (pc' := 15) (f_at inc_240 (j := 7) rfl) (by decide) ?_
      exact hj2 (1 : Int32) ()
set_option maxRecDepth 4000 in
def g_241 (a1 : Int32) (a2 : Int32) (σ : f_M) : Option (Bool × f_M) :=
  (g_233 a1 σ).bind fun t1 =>
  (g_176 t1 true true σ).bind fun t2 =>
  (
   if t2.1 = false then (
    some false
   ) else (
    (g_126 a1 t2.2).bind fun t4 =>
    (f_rd t2.2 156 2420 (t4 + (3 : Int32))).bind fun v5 =>
    if ¬ v5 = a2 then (
     some false
    ) else (
     some true
    )
   )
  ).bind fun (t3 : Bool) =>
  some (t3, t2.2)
set_option maxRecDepth 4000 in
theorem G_241 {xs : Nat → Int32} {L N : Nat} (hN : 166 ≤ N) (a1 : Int32) (a2 : Int32)  (σ : f_M) : f_Cal a_MT xs L N 241 [.ref 155, .int a1, .int a2] σ ((g_241 a1 a2 σ).bind fun t => some (e_wb t)) := by
  refine f_cal_of (ls := [.ref 155, .int a1, .int a2]) MT_241 (Nat.le_of_ble_eq_true rfl) rfl ?_
  unfold g_241
  refine i_aload_n (pc' := 1) (f_at inc_241 (j := 0) rfl) rfl rfl ?_
  refine i_aload_n (pc' := 2) (f_at inc_241 (j := 1) rfl) rfl rfl ?_
  refine i_iload_n (pc' := 3) (f_at inc_241 (j := 2) rfl) rfl rfl ?_
  refine c_pb (pc' := 6) (c' := 0) (n' := 0) (h_virt (ra := [.int a1, .ref 155]) (r := [.ref 155]) (as := [.int a1]) (f_at inc_241 (j := 3) rfl) (by decide) MT_233 rfl rfl rfl ⟨Nat.le_of_ble_eq_true rfl, Nat.le_of_ble_eq_true rfl, Nat.le_of_ble_eq_true rfl⟩ sh_155 (f_lt (o := 155) (m := 166) (Nat.le_of_ble_eq_true rfl) hN)) MT_233 (G_233 hN a1 σ) ⟨rfl, rfl, rfl⟩ fun t1 => ?_
  refine i_iconst (pc' := 7) (f_at inc_241 (j := 4) rfl) ci_1 rfl ?_
  refine i_iconst (pc' := 8) (f_at inc_241 (j := 5) rfl) ci_1 rfl ?_
  refine c_wb (pc' := 11) (c' := 0) (n' := 0) (h_virt (ra := [.int (1 : Int32), .int (1 : Int32), .int (f_b t1), .ref 155]) (r := []) (as := [.int (f_b t1), .int (1 : Int32), .int (1 : Int32)]) (f_at inc_241 (j := 6) rfl) (by decide) MT_176 rfl rfl rfl ⟨Nat.le_of_ble_eq_true rfl, Nat.le_of_ble_eq_true rfl, Nat.le_of_ble_eq_true rfl⟩ sh_155 (f_lt (o := 155) (m := 166) (Nat.le_of_ble_eq_true rfl) hN)) MT_176 (G_176 hN t1 true true σ) ⟨rfl, rfl, rfl⟩ fun t2 => ?_
  refine s_join (J := 34) (fun (t3 : Bool) (u3 : Unit) => [.ref 155, .int a1, .int a2]) (fun t3 => [.int (f_b t3)]) (fun t3 => t2.2) ?_ ?_
  · intro t3 u3
    exact i_iret (v := f_b t3) (f_at inc_241 (j := 20) rfl) rfl n_bool
  · intro k3 hj3
    refine i_if0 (pc' := 33) (nx := 14) cb_eq (f_at inc_241 (j := 7) rfl) ⟨by decide, rfl⟩ (fun b7 => ?_) (fun b7 => ?_)
    · refine i_iconst (pc' := 34) (f_at inc_241 (j := 19) rfl) ci_0 rfl ?_
      exact hj3 false ()
    · refine i_aload_n (pc' := 15) (f_at inc_241 (j := 8) rfl) rfl rfl ?_
      refine i_getR (pc' := 18) (f_at inc_241 (j := 9) rfl) sh_155 rfl (f_lt (o := 155) (m := 166) (Nat.le_of_ble_eq_true rfl) hN) rfl ?_
      refine i_iload_n (pc' := 19) (f_at inc_241 (j := 10) rfl) rfl rfl ?_
      refine c_pi (pc' := 22) (c' := 0) (n' := 0) (h_stat (ra := [.int a1]) (r := [.ref 156]) (as := [.int a1]) (f_at inc_241 (j := 11) rfl) (by decide) MT_126 rfl rfl rfl ⟨Nat.le_of_ble_eq_true rfl, Nat.le_of_ble_eq_true rfl, Nat.le_of_ble_eq_true rfl⟩) MT_126 (G_126 hN a1 t2.2) ⟨rfl, rfl, rfl⟩ fun t4 => ?_
      refine i_iconst (pc' := 23) (f_at inc_241 (j := 12) rfl) ci_3 rfl ?_
      refine i_iadd (pc' := 24) (f_at inc_241 (j := 13) rfl) rfl ?_
      refine i_iald (pc' := 25) (f_at inc_241 (j := 14) rfl) sh_156 (f_bg (Nat.le_of_ble_eq_true rfl)) (f_lt (o := 156) (m := 166) (Nat.le_of_ble_eq_true rfl) hN) rfl fun v5 => ?_
      refine i_iload_n (pc' := 26) (f_at inc_241 (j := 15) rfl) rfl rfl ?_
      refine i_if2 (pc' := 33) (nx := 29) c2_ne (f_at inc_241 (j := 16) rfl) ⟨by decide, rfl⟩ (fun b6 => ?_) (fun b6 => ?_)
      · refine i_iconst (pc' := 34) (f_at inc_241 (j := 19) rfl) ci_0 rfl ?_
        exact hj3 false ()
      · refine i_iconst (pc' := 30) (f_at inc_241 (j := 17) rfl) ci_1 rfl ?_
        refine i_goto (pc' := 34) (f_at inc_241 (j := 18) rfl) (by decide) ?_
        exact hj3 true ()
set_option maxRecDepth 4000 in
def g_242 (a1 : Int32) (σ : f_M) : Option (Bool × f_M) :=
  (g_241 a1 (0 : Int32) σ).bind fun t1 =>
  some (t1.1, t1.2)
set_option maxRecDepth 4000 in
theorem G_242 {xs : Nat → Int32} {L N : Nat} (hN : 166 ≤ N) (a1 : Int32)  (σ : f_M) : f_Cal a_MT xs L N 242 [.ref 155, .int a1] σ ((g_242 a1 σ).bind fun t => some (e_wb t)) := by
  refine f_cal_of (ls := [.ref 155, .int a1]) MT_242 (Nat.le_of_ble_eq_true rfl) rfl ?_
  unfold g_242
  refine i_aload_n (pc' := 1) (f_at inc_242 (j := 0) rfl) rfl rfl ?_
  refine i_iload_n (pc' := 2) (f_at inc_242 (j := 1) rfl) rfl rfl ?_
  refine i_iconst (pc' := 3) (f_at inc_242 (j := 2) rfl) ci_0 rfl ?_
  refine c_wb (pc' := 6) (c' := 0) (n' := 0) (h_virt (ra := [.int (0 : Int32), .int a1, .ref 155]) (r := []) (as := [.int a1, .int (0 : Int32)]) (f_at inc_242 (j := 3) rfl) (by decide) MT_241 rfl rfl rfl ⟨Nat.le_of_ble_eq_true rfl, Nat.le_of_ble_eq_true rfl, Nat.le_of_ble_eq_true rfl⟩ sh_155 (f_lt (o := 155) (m := 166) (Nat.le_of_ble_eq_true rfl) hN)) MT_241 (G_241 hN a1 (0 : Int32) σ) ⟨rfl, rfl, rfl⟩ fun t1 => ?_
  exact i_iret (v := f_b t1.1) (f_at inc_242 (j := 4) rfl) rfl n_bool
set_option maxRecDepth 4000 in
def g_243 (a1 : Int32) (σ : f_M) : Option (Bool ⊕ Fin 4) :=
  (g_230 a1 σ).bind fun t1 => Sum.elim (fun _ =>
   (f_rd σ 124 20 a1).bind fun v2 =>
   (
    if ¬ v2 = (1 : Int32) then (
     some false
    ) else (
     some true
    )
   ).bind fun (t3 : Bool) =>
   some (.inl t3)
  ) (fun k1 => some (.inr k1)) t1
set_option maxRecDepth 4000 in
theorem G_243 {xs : Nat → Int32} {L N : Nat} (hN : 155 ≤ N) (a1 : Int32)  (σ : f_M) : f_Cal a_MT xs L N 243 [.ref 0, .int a1] σ ((g_243 a1 σ).bind fun t => some (e_tb σ t)) := by
  refine f_cal_of (ls := [.ref 0, .int a1]) MT_243 (Nat.le_of_ble_eq_true rfl) rfl ?_
  unfold g_243
  refine i_aload_n (pc' := 1) (f_at inc_243 (j := 0) rfl) rfl rfl ?_
  refine i_iload_n (pc' := 2) (f_at inc_243 (j := 1) rfl) rfl rfl ?_
  refine c_tv (pc' := 5) (c' := 0) (n' := 0) (h_virt (ra := [.int a1, .ref 0]) (r := []) (as := [.int a1]) (f_at inc_243 (j := 2) rfl) (by decide) MT_230 rfl rfl rfl ⟨Nat.le_of_ble_eq_true rfl, Nat.le_of_ble_eq_true rfl, Nat.le_of_ble_eq_true rfl⟩ sh_0 (f_lt (o := 0) (m := 155) (Nat.le_of_ble_eq_true rfl) hN)) MT_230 (G_230 hN a1 σ) ⟨rfl, rfl, rfl⟩ (fun k w h => x_thr ⟨rfl, rfl⟩ h) ?_
  refine i_aload_n (pc' := 6) (f_at inc_243 (j := 3) rfl) rfl rfl ?_
  refine i_getR (pc' := 9) (f_at inc_243 (j := 4) rfl) sh_0 rfl (f_lt (o := 0) (m := 155) (Nat.le_of_ble_eq_true rfl) hN) rfl ?_
  refine i_getR (pc' := 12) (f_at inc_243 (j := 5) rfl) sh_121 rfl (f_lt (o := 121) (m := 155) (Nat.le_of_ble_eq_true rfl) hN) rfl ?_
  refine i_iload_n (pc' := 13) (f_at inc_243 (j := 6) rfl) rfl rfl ?_
  refine i_iald (pc' := 14) (f_at inc_243 (j := 7) rfl) sh_124 (f_bg (Nat.le_of_ble_eq_true rfl)) (f_lt (o := 124) (m := 155) (Nat.le_of_ble_eq_true rfl) hN) rfl fun v2 => ?_
  refine i_iconst (pc' := 15) (f_at inc_243 (j := 8) rfl) ci_1 rfl ?_
  refine s_join (J := 23) (fun (t3 : Bool) (u3 : Unit) => [.ref 0, .int a1]) (fun t3 => [.int (f_b t3)]) (fun t3 => σ) ?_ ?_
  · intro t3 u3
    exact i_iret (v := f_b t3) (f_at inc_243 (j := 13) rfl) rfl n_bool
  · intro k3 hj3
    refine i_if2 (pc' := 22) (nx := 18) c2_ne (f_at inc_243 (j := 9) rfl) ⟨by decide, rfl⟩ (fun b4 => ?_) (fun b4 => ?_)
    · refine i_iconst (pc' := 23) (f_at inc_243 (j := 12) rfl) ci_0 rfl ?_
      exact hj3 false ()
    · refine i_iconst (pc' := 19) (f_at inc_243 (j := 10) rfl) ci_1 rfl ?_
      refine i_goto (pc' := 23) (f_at inc_243 (j := 11) rfl) (by decide) ?_
      exact hj3 true ()
set_option maxRecDepth 4000 in
def g_244 (a1 : Int32) (σ : f_M) : Option (Int32 × f_M) :=
  (g_243 a1 σ).bind fun t1 => Sum.elim (fun v1 =>
   (
    if v1 = false then (
     some (0 : Int32)
    ) else (
     some (1 : Int32)
    )
   ).bind fun (t2 : Int32) =>
   (f_wr σ 167 1 (0 : Int32) t2).bind fun m4 =>
   some ((0 : Int32), m4)
  ) (fun k1 => (f_hc [(0, 1)] k1).bind fun v => some (v, σ)) t1
set_option maxRecDepth 4000 in
theorem G_244 {xs : Nat → Int32} {L N : Nat} (hN : 168 ≤ N) (a1 : Int32)  (σ : f_M) : f_Cal a_MT xs L N 244 [.ref 0, .int a1, .ref 167] σ ((g_244 a1 σ).bind fun t => some (e_wi t)) := by
  refine f_cal_of (ls := [.ref 0, .int a1, .ref 167, a_dead]) MT_244 (Nat.le_of_ble_eq_true rfl) rfl ?_
  unfold g_244
  refine i_aload_n (pc' := 1) (f_at inc_244 (j := 0) rfl) rfl rfl ?_
  refine i_iconst (pc' := 2) (f_at inc_244 (j := 1) rfl) ci_0 rfl ?_
  refine i_aload_n (pc' := 3) (f_at inc_244 (j := 2) rfl) rfl rfl ?_
  refine i_iload_n (pc' := 4) (f_at inc_244 (j := 3) rfl) rfl rfl ?_
  refine c_tb (pc' := 7) (c' := 0) (n' := 0) (h_virt (ra := [.int a1, .ref 0]) (r := [.int (0 : Int32), .ref 167]) (as := [.int a1]) (f_at inc_244 (j := 4) rfl) (by decide) MT_243 rfl rfl rfl ⟨Nat.le_of_ble_eq_true rfl, Nat.le_of_ble_eq_true rfl, Nat.le_of_ble_eq_true rfl⟩ sh_0 (f_lt (o := 0) (m := 168) (Nat.le_of_ble_eq_true rfl) hN)) MT_243 (G_243 (Nat.le_trans (Nat.le_of_ble_eq_true rfl) hN) a1 σ) ⟨rfl, rfl, rfl⟩ (fun k w h => x_hdl (l := [(0, 1)]) (by decide +kernel) h) fun v1 => ?_
  refine s_join (J := 15) (fun (t2 : Int32) (u2 : Unit) => [.ref 0, .int a1, .ref 167, a_dead]) (fun t2 => [.long (t2).toInt64, .int (0 : Int32), .ref 167]) (fun t2 => σ) ?_ ?_
  · intro t2 u2
    refine i_last (pc' := 16) (f_at inc_244 (j := 9) rfl) sh_167 rfl (f_lt (o := 167) (m := 168) (Nat.le_of_ble_eq_true rfl) hN) rfl fun m4 => ?_
    refine i_goto (pc' := 22) (f_at inc_244 (j := 10) rfl) (by decide) ?_
    refine i_iconst (pc' := 23) (f_at inc_244 (j := 14) rfl) ci_0 rfl ?_
    exact i_iret (f_at inc_244 (j := 15) rfl) rfl n_int
  · intro k2 hj2
    refine i_if0 (pc' := 14) (nx := 10) cb_eq (f_at inc_244 (j := 5) rfl) ⟨by decide, rfl⟩ (fun b3 => ?_) (fun b3 => ?_)
    · refine i_lconst (pc' := 15) (f_at inc_244 (j := 8) rfl) cl_0 rfl ?_
      exact hj2 (0 : Int32) ()
    · refine i_lconst (pc' := 11) (f_at inc_244 (j := 6) rfl) cl_1 rfl ?_
      refine i_goto (pc' := 15) (f_at inc_244 (j := 7) rfl) (by decide) ?_
      exact hj2 (1 : Int32) ()
set_option maxRecDepth 4000 in
def g_245 (a1 : Int32) (σ : f_M) : Option (Bool × f_M) :=
  (g_241 a1 (1 : Int32) σ).bind fun t1 =>
  some (t1.1, t1.2)
set_option maxRecDepth 4000 in
theorem G_245 {xs : Nat → Int32} {L N : Nat} (hN : 166 ≤ N) (a1 : Int32)  (σ : f_M) : f_Cal a_MT xs L N 245 [.ref 155, .int a1] σ ((g_245 a1 σ).bind fun t => some (e_wb t)) := by
  refine f_cal_of (ls := [.ref 155, .int a1]) MT_245 (Nat.le_of_ble_eq_true rfl) rfl ?_
  unfold g_245
  refine i_aload_n (pc' := 1) (f_at inc_245 (j := 0) rfl) rfl rfl ?_
  refine i_iload_n (pc' := 2) (f_at inc_245 (j := 1) rfl) rfl rfl ?_
  refine i_iconst (pc' := 3) (f_at inc_245 (j := 2) rfl) ci_1 rfl ?_
  refine c_wb (pc' := 6) (c' := 0) (n' := 0) (h_virt (ra := [.int (1 : Int32), .int a1, .ref 155]) (r := []) (as := [.int a1, .int (1 : Int32)]) (f_at inc_245 (j := 3) rfl) (by decide) MT_241 rfl rfl rfl ⟨Nat.le_of_ble_eq_true rfl, Nat.le_of_ble_eq_true rfl, Nat.le_of_ble_eq_true rfl⟩ sh_155 (f_lt (o := 155) (m := 166) (Nat.le_of_ble_eq_true rfl) hN)) MT_241 (G_241 hN a1 (1 : Int32) σ) ⟨rfl, rfl, rfl⟩ fun t1 => ?_
  exact i_iret (v := f_b t1.1) (f_at inc_245 (j := 4) rfl) rfl n_bool
set_option maxRecDepth 4000 in
def g_246 (a1 : Int32) (σ : f_M) : Option (Bool ⊕ Fin 4) :=
  (g_230 a1 σ).bind fun t1 => Sum.elim (fun _ =>
   (f_rd σ 124 20 a1).bind fun v2 =>
   (
    if ¬ v2 = (3 : Int32) then (
     some false
    ) else (
     some true
    )
   ).bind fun (t3 : Bool) =>
   some (.inl t3)
  ) (fun k1 => some (.inr k1)) t1
set_option maxRecDepth 4000 in
theorem G_246 {xs : Nat → Int32} {L N : Nat} (hN : 155 ≤ N) (a1 : Int32)  (σ : f_M) : f_Cal a_MT xs L N 246 [.ref 0, .int a1] σ ((g_246 a1 σ).bind fun t => some (e_tb σ t)) := by
  refine f_cal_of (ls := [.ref 0, .int a1]) MT_246 (Nat.le_of_ble_eq_true rfl) rfl ?_
  unfold g_246
  refine i_aload_n (pc' := 1) (f_at inc_246 (j := 0) rfl) rfl rfl ?_
  refine i_iload_n (pc' := 2) (f_at inc_246 (j := 1) rfl) rfl rfl ?_
  refine c_tv (pc' := 5) (c' := 0) (n' := 0) (h_virt (ra := [.int a1, .ref 0]) (r := []) (as := [.int a1]) (f_at inc_246 (j := 2) rfl) (by decide) MT_230 rfl rfl rfl ⟨Nat.le_of_ble_eq_true rfl, Nat.le_of_ble_eq_true rfl, Nat.le_of_ble_eq_true rfl⟩ sh_0 (f_lt (o := 0) (m := 155) (Nat.le_of_ble_eq_true rfl) hN)) MT_230 (G_230 hN a1 σ) ⟨rfl, rfl, rfl⟩ (fun k w h => x_thr ⟨rfl, rfl⟩ h) ?_
  refine i_aload_n (pc' := 6) (f_at inc_246 (j := 3) rfl) rfl rfl ?_
  refine i_getR (pc' := 9) (f_at inc_246 (j := 4) rfl) sh_0 rfl (f_lt (o := 0) (m := 155) (Nat.le_of_ble_eq_true rfl) hN) rfl ?_
  refine i_getR (pc' := 12) (f_at inc_246 (j := 5) rfl) sh_121 rfl (f_lt (o := 121) (m := 155) (Nat.le_of_ble_eq_true rfl) hN) rfl ?_
  refine i_iload_n (pc' := 13) (f_at inc_246 (j := 6) rfl) rfl rfl ?_
  refine i_iald (pc' := 14) (f_at inc_246 (j := 7) rfl) sh_124 (f_bg (Nat.le_of_ble_eq_true rfl)) (f_lt (o := 124) (m := 155) (Nat.le_of_ble_eq_true rfl) hN) rfl fun v2 => ?_
  refine i_iconst (pc' := 15) (f_at inc_246 (j := 8) rfl) ci_3 rfl ?_
  refine s_join (J := 23) (fun (t3 : Bool) (u3 : Unit) => [.ref 0, .int a1]) (fun t3 => [.int (f_b t3)]) (fun t3 => σ) ?_ ?_
  · intro t3 u3
    exact i_iret (v := f_b t3) (f_at inc_246 (j := 13) rfl) rfl n_bool
  · intro k3 hj3
    refine i_if2 (pc' := 22) (nx := 18) c2_ne (f_at inc_246 (j := 9) rfl) ⟨by decide, rfl⟩ (fun b4 => ?_) (fun b4 => ?_)
    · refine i_iconst (pc' := 23) (f_at inc_246 (j := 12) rfl) ci_0 rfl ?_
      exact hj3 false ()
    · refine i_iconst (pc' := 19) (f_at inc_246 (j := 10) rfl) ci_1 rfl ?_
      refine i_goto (pc' := 23) (f_at inc_246 (j := 11) rfl) (by decide) ?_
      exact hj3 true ()
set_option maxRecDepth 4000 in
def g_247 (a1 : Int32) (σ : f_M) : Option (Int32 × f_M) :=
  (g_246 a1 σ).bind fun t1 => Sum.elim (fun v1 =>
   (
    if v1 = false then (
     some (0 : Int32)
    ) else (
     some (1 : Int32)
    )
   ).bind fun (t2 : Int32) =>
   (f_wr σ 167 1 (0 : Int32) t2).bind fun m4 =>
   some ((0 : Int32), m4)
  ) (fun k1 => (f_hc [(0, 1)] k1).bind fun v => some (v, σ)) t1
set_option maxRecDepth 4000 in
theorem G_247 {xs : Nat → Int32} {L N : Nat} (hN : 168 ≤ N) (a1 : Int32)  (σ : f_M) : f_Cal a_MT xs L N 247 [.ref 0, .int a1, .ref 167] σ ((g_247 a1 σ).bind fun t => some (e_wi t)) := by
  refine f_cal_of (ls := [.ref 0, .int a1, .ref 167, a_dead]) MT_247 (Nat.le_of_ble_eq_true rfl) rfl ?_
  unfold g_247
  refine i_aload_n (pc' := 1) (f_at inc_247 (j := 0) rfl) rfl rfl ?_
  refine i_iconst (pc' := 2) (f_at inc_247 (j := 1) rfl) ci_0 rfl ?_
  refine i_aload_n (pc' := 3) (f_at inc_247 (j := 2) rfl) rfl rfl ?_
  refine i_iload_n (pc' := 4) (f_at inc_247 (j := 3) rfl) rfl rfl ?_
  refine c_tb (pc' := 7) (c' := 0) (n' := 0) (h_virt (ra := [.int a1, .ref 0]) (r := [.int (0 : Int32), .ref 167]) (as := [.int a1]) (f_at inc_247 (j := 4) rfl) (by decide) MT_246 rfl rfl rfl ⟨Nat.le_of_ble_eq_true rfl, Nat.le_of_ble_eq_true rfl, Nat.le_of_ble_eq_true rfl⟩ sh_0 (f_lt (o := 0) (m := 168) (Nat.le_of_ble_eq_true rfl) hN)) MT_246 (G_246 (Nat.le_trans (Nat.le_of_ble_eq_true rfl) hN) a1 σ) ⟨rfl, rfl, rfl⟩ (fun k w h => x_hdl (l := [(0, 1)]) (by decide +kernel) h) fun v1 => ?_
  refine s_join (J := 15) (fun (t2 : Int32) (u2 : Unit) => [.ref 0, .int a1, .ref 167, a_dead]) (fun t2 => [.long (t2).toInt64, .int (0 : Int32), .ref 167]) (fun t2 => σ) ?_ ?_
  · intro t2 u2
    refine i_last (pc' := 16) (f_at inc_247 (j := 9) rfl) sh_167 rfl (f_lt (o := 167) (m := 168) (Nat.le_of_ble_eq_true rfl) hN) rfl fun m4 => ?_
    refine i_goto (pc' := 22) (f_at inc_247 (j := 10) rfl) (by decide) ?_
    refine i_iconst (pc' := 23) (f_at inc_247 (j := 14) rfl) ci_0 rfl ?_
    exact i_iret (f_at inc_247 (j := 15) rfl) rfl n_int
  · intro k2 hj2
    refine i_if0 (pc' := 14) (nx := 10) cb_eq (f_at inc_247 (j := 5) rfl) ⟨by decide, rfl⟩ (fun b3 => ?_) (fun b3 => ?_)
    · refine i_lconst (pc' := 15) (f_at inc_247 (j := 8) rfl) cl_0 rfl ?_
      exact hj2 (0 : Int32) ()
    · refine i_lconst (pc' := 11) (f_at inc_247 (j := 6) rfl) cl_1 rfl ?_
      refine i_goto (pc' := 15) (f_at inc_247 (j := 7) rfl) (by decide) ?_
      exact hj2 (1 : Int32) ()
set_option maxRecDepth 4000 in
def g_248 (a1 : Int32) (σ : f_M) : Option (Bool × f_M) :=
  (g_241 a1 (3 : Int32) σ).bind fun t1 =>
  some (t1.1, t1.2)
set_option maxRecDepth 4000 in
theorem G_248 {xs : Nat → Int32} {L N : Nat} (hN : 166 ≤ N) (a1 : Int32)  (σ : f_M) : f_Cal a_MT xs L N 248 [.ref 155, .int a1] σ ((g_248 a1 σ).bind fun t => some (e_wb t)) := by
  refine f_cal_of (ls := [.ref 155, .int a1]) MT_248 (Nat.le_of_ble_eq_true rfl) rfl ?_
  unfold g_248
  refine i_aload_n (pc' := 1) (f_at inc_248 (j := 0) rfl) rfl rfl ?_
  refine i_iload_n (pc' := 2) (f_at inc_248 (j := 1) rfl) rfl rfl ?_
  refine i_iconst (pc' := 3) (f_at inc_248 (j := 2) rfl) ci_3 rfl ?_
  refine c_wb (pc' := 6) (c' := 0) (n' := 0) (h_virt (ra := [.int (3 : Int32), .int a1, .ref 155]) (r := []) (as := [.int a1, .int (3 : Int32)]) (f_at inc_248 (j := 3) rfl) (by decide) MT_241 rfl rfl rfl ⟨Nat.le_of_ble_eq_true rfl, Nat.le_of_ble_eq_true rfl, Nat.le_of_ble_eq_true rfl⟩ sh_155 (f_lt (o := 155) (m := 166) (Nat.le_of_ble_eq_true rfl) hN)) MT_241 (G_241 hN a1 (3 : Int32) σ) ⟨rfl, rfl, rfl⟩ fun t1 => ?_
  exact i_iret (v := f_b t1.1) (f_at inc_248 (j := 4) rfl) rfl n_bool
set_option maxRecDepth 4000 in
def g_249 (a1 : Int32) (σ : f_M) : Option (Int32 ⊕ Fin 4) :=
  (g_230 a1 σ).bind fun t1 => Sum.elim (fun _ =>
   (f_rd σ 126 20 a1).bind fun v2 =>
   some (.inl v2)
  ) (fun k1 => some (.inr k1)) t1
set_option maxRecDepth 4000 in
theorem G_249 {xs : Nat → Int32} {L N : Nat} (hN : 155 ≤ N) (a1 : Int32)  (σ : f_M) : f_Cal a_MT xs L N 249 [.ref 0, .int a1] σ ((g_249 a1 σ).bind fun t => some (e_ti σ t)) := by
  refine f_cal_of (ls := [.ref 0, .int a1]) MT_249 (Nat.le_of_ble_eq_true rfl) rfl ?_
  unfold g_249
  refine i_aload_n (pc' := 1) (f_at inc_249 (j := 0) rfl) rfl rfl ?_
  refine i_iload_n (pc' := 2) (f_at inc_249 (j := 1) rfl) rfl rfl ?_
  refine c_tv (pc' := 5) (c' := 0) (n' := 0) (h_virt (ra := [.int a1, .ref 0]) (r := []) (as := [.int a1]) (f_at inc_249 (j := 2) rfl) (by decide) MT_230 rfl rfl rfl ⟨Nat.le_of_ble_eq_true rfl, Nat.le_of_ble_eq_true rfl, Nat.le_of_ble_eq_true rfl⟩ sh_0 (f_lt (o := 0) (m := 155) (Nat.le_of_ble_eq_true rfl) hN)) MT_230 (G_230 hN a1 σ) ⟨rfl, rfl, rfl⟩ (fun k w h => x_thr ⟨rfl, rfl⟩ h) ?_
  refine i_aload_n (pc' := 6) (f_at inc_249 (j := 3) rfl) rfl rfl ?_
  refine i_getR (pc' := 9) (f_at inc_249 (j := 4) rfl) sh_0 rfl (f_lt (o := 0) (m := 155) (Nat.le_of_ble_eq_true rfl) hN) rfl ?_
  refine i_getR (pc' := 12) (f_at inc_249 (j := 5) rfl) sh_121 rfl (f_lt (o := 121) (m := 155) (Nat.le_of_ble_eq_true rfl) hN) rfl ?_
  refine i_iload_n (pc' := 13) (f_at inc_249 (j := 6) rfl) rfl rfl ?_
  refine i_iald (pc' := 14) (f_at inc_249 (j := 7) rfl) sh_126 (f_bg (Nat.le_of_ble_eq_true rfl)) (f_lt (o := 126) (m := 155) (Nat.le_of_ble_eq_true rfl) hN) rfl fun v2 => ?_
  exact i_iret (f_at inc_249 (j := 8) rfl) rfl n_int
set_option maxRecDepth 4000 in
def g_250 (a1 : Int32) (σ : f_M) : Option (Int32 × f_M) :=
  (g_249 a1 σ).bind fun t1 => Sum.elim (fun v1 =>
   (f_wr σ 167 1 (0 : Int32) v1).bind fun m2 =>
   some ((0 : Int32), m2)
  ) (fun k1 => (f_hc [(0, 1)] k1).bind fun v => some (v, σ)) t1
set_option maxRecDepth 4000 in
theorem G_250 {xs : Nat → Int32} {L N : Nat} (hN : 168 ≤ N) (a1 : Int32)  (σ : f_M) : f_Cal a_MT xs L N 250 [.ref 0, .int a1, .ref 167] σ ((g_250 a1 σ).bind fun t => some (e_wi t)) := by
  refine f_cal_of (ls := [.ref 0, .int a1, .ref 167, a_dead]) MT_250 (Nat.le_of_ble_eq_true rfl) rfl ?_
  unfold g_250
  refine i_aload_n (pc' := 1) (f_at inc_250 (j := 0) rfl) rfl rfl ?_
  refine i_iconst (pc' := 2) (f_at inc_250 (j := 1) rfl) ci_0 rfl ?_
  refine i_aload_n (pc' := 3) (f_at inc_250 (j := 2) rfl) rfl rfl ?_
  refine i_iload_n (pc' := 4) (f_at inc_250 (j := 3) rfl) rfl rfl ?_
  refine c_ti (pc' := 7) (c' := 0) (n' := 0) (h_virt (ra := [.int a1, .ref 0]) (r := [.int (0 : Int32), .ref 167]) (as := [.int a1]) (f_at inc_250 (j := 4) rfl) (by decide) MT_249 rfl rfl rfl ⟨Nat.le_of_ble_eq_true rfl, Nat.le_of_ble_eq_true rfl, Nat.le_of_ble_eq_true rfl⟩ sh_0 (f_lt (o := 0) (m := 168) (Nat.le_of_ble_eq_true rfl) hN)) MT_249 (G_249 (Nat.le_trans (Nat.le_of_ble_eq_true rfl) hN) a1 σ) ⟨rfl, rfl, rfl⟩ (fun k w h => x_hdl (l := [(0, 1)]) (by decide +kernel) h) fun v1 => ?_
  refine i_i2l (pc' := 8) (f_at inc_250 (j := 5) rfl) rfl ?_
  refine i_last (pc' := 9) (f_at inc_250 (j := 6) rfl) sh_167 rfl (f_lt (o := 167) (m := 168) (Nat.le_of_ble_eq_true rfl) hN) rfl fun m2 => ?_
  refine i_goto (pc' := 15) (f_at inc_250 (j := 7) rfl) (by decide) ?_
  refine i_iconst (pc' := 16) (f_at inc_250 (j := 11) rfl) ci_0 rfl ?_
  exact i_iret (f_at inc_250 (j := 12) rfl) rfl n_int
set_option maxRecDepth 4000 in
def g_251 (a1 : Int32) (σ : f_M) : Option (Int32 × f_M) :=
  (g_234 a1 (4 : Int32) σ).bind fun t1 =>
  some (t1.1, t1.2)
set_option maxRecDepth 4000 in
theorem G_251 {xs : Nat → Int32} {L N : Nat} (hN : 166 ≤ N) (a1 : Int32)  (σ : f_M) : f_Cal a_MT xs L N 251 [.ref 155, .int a1] σ ((g_251 a1 σ).bind fun t => some (e_wi t)) := by
  refine f_cal_of (ls := [.ref 155, .int a1]) MT_251 (Nat.le_of_ble_eq_true rfl) rfl ?_
  unfold g_251
  refine i_aload_n (pc' := 1) (f_at inc_251 (j := 0) rfl) rfl rfl ?_
  refine i_iload_n (pc' := 2) (f_at inc_251 (j := 1) rfl) rfl rfl ?_
  refine i_iconst (pc' := 3) (f_at inc_251 (j := 2) rfl) ci_4 rfl ?_
  refine c_wi (pc' := 6) (c' := 0) (n' := 0) (h_virt (ra := [.int (4 : Int32), .int a1, .ref 155]) (r := []) (as := [.int a1, .int (4 : Int32)]) (f_at inc_251 (j := 3) rfl) (by decide) MT_234 rfl rfl rfl ⟨Nat.le_of_ble_eq_true rfl, Nat.le_of_ble_eq_true rfl, Nat.le_of_ble_eq_true rfl⟩ sh_155 (f_lt (o := 155) (m := 166) (Nat.le_of_ble_eq_true rfl) hN)) MT_234 (G_234 hN a1 (4 : Int32) σ) ⟨rfl, rfl, rfl⟩ fun t1 => ?_
  exact i_iret (f_at inc_251 (j := 4) rfl) rfl n_int
set_option maxRecDepth 4000 in
def g_252  (σ : f_M) : Option (Int32) :=
  some (σ 103 4)
set_option maxRecDepth 4000 in
theorem G_252 {xs : Nat → Int32} {L N : Nat} (hN : 155 ≤ N)   (σ : f_M) : f_Cal a_MT xs L N 252 [.ref 0] σ ((g_252  σ).bind fun t => some (e_pi σ t)) := by
  refine f_cal_of (ls := [.ref 0]) MT_252 (Nat.le_of_ble_eq_true rfl) rfl ?_
  unfold g_252
  refine i_aload_n (pc' := 1) (f_at inc_252 (j := 0) rfl) rfl rfl ?_
  refine i_getR (pc' := 4) (f_at inc_252 (j := 1) rfl) sh_0 rfl (f_lt (o := 0) (m := 155) (Nat.le_of_ble_eq_true rfl) hN) rfl ?_
  refine i_getI (pc' := 7) (f_at inc_252 (j := 2) rfl) sh_103 rfl (f_lt (o := 103) (m := 155) (Nat.le_of_ble_eq_true rfl) hN) rfl ?_
  exact i_iret (f_at inc_252 (j := 3) rfl) rfl n_int
set_option maxRecDepth 4000 in
def g_253  (σ : f_M) : Option (Int32 × f_M) :=
  (g_165 (3 : Int32) σ).bind fun t1 =>
  some (t1.1, t1.2)
set_option maxRecDepth 4000 in
theorem G_253 {xs : Nat → Int32} {L N : Nat} (hN : 166 ≤ N)   (σ : f_M) : f_Cal a_MT xs L N 253 [.ref 155] σ ((g_253  σ).bind fun t => some (e_wi t)) := by
  refine f_cal_of (ls := [.ref 155]) MT_253 (Nat.le_of_ble_eq_true rfl) rfl ?_
  unfold g_253
  refine i_aload_n (pc' := 1) (f_at inc_253 (j := 0) rfl) rfl rfl ?_
  refine i_iconst (pc' := 2) (f_at inc_253 (j := 1) rfl) ci_3 rfl ?_
  refine c_wi (pc' := 5) (c' := 0) (n' := 0) (h_virt (ra := [.int (3 : Int32), .ref 155]) (r := []) (as := [.int (3 : Int32)]) (f_at inc_253 (j := 2) rfl) (by decide) MT_165 rfl rfl rfl ⟨Nat.le_of_ble_eq_true rfl, Nat.le_of_ble_eq_true rfl, Nat.le_of_ble_eq_true rfl⟩ sh_155 (f_lt (o := 155) (m := 166) (Nat.le_of_ble_eq_true rfl) hN)) MT_165 (G_165 hN (3 : Int32) σ) ⟨rfl, rfl, rfl⟩ fun t1 => ?_
  exact i_iret (f_at inc_253 (j := 3) rfl) rfl n_int
set_option maxRecDepth 4000 in
def g_254 (a1 : Int32) (σ : f_M) : Option (Unit ⊕ Fin 4) :=
  (g_171 a1 (σ 103 4) σ).bind fun t1 => Sum.elim (fun _ =>
   some (.inl ())
  ) (fun k1 => some (.inr k1)) t1
set_option maxRecDepth 4000 in
theorem G_254 {xs : Nat → Int32} {L N : Nat} (hN : 155 ≤ N) (a1 : Int32)  (σ : f_M) : f_Cal a_MT xs L N 254 [.ref 0, .int a1] σ ((g_254 a1 σ).bind fun t => some (e_tv σ t)) := by
  refine f_cal_of (ls := [.ref 0, .int a1]) MT_254 (Nat.le_of_ble_eq_true rfl) rfl ?_
  unfold g_254
  refine i_iload_n (pc' := 1) (f_at inc_254 (j := 0) rfl) rfl rfl ?_
  refine i_aload_n (pc' := 2) (f_at inc_254 (j := 1) rfl) rfl rfl ?_
  refine i_getR (pc' := 5) (f_at inc_254 (j := 2) rfl) sh_0 rfl (f_lt (o := 0) (m := 155) (Nat.le_of_ble_eq_true rfl) hN) rfl ?_
  refine i_getI (pc' := 8) (f_at inc_254 (j := 3) rfl) sh_103 rfl (f_lt (o := 103) (m := 155) (Nat.le_of_ble_eq_true rfl) hN) rfl ?_
  refine c_tv (pc' := 11) (c' := 0) (n' := 0) (h_stat (ra := [.int (σ 103 4), .int a1]) (r := []) (as := [.int a1, .int (σ 103 4)]) (f_at inc_254 (j := 4) rfl) (by decide) MT_171 rfl rfl rfl ⟨Nat.le_of_ble_eq_true rfl, Nat.le_of_ble_eq_true rfl, Nat.le_of_ble_eq_true rfl⟩) MT_171 (G_171 hN a1 (σ 103 4) σ) ⟨rfl, rfl, rfl⟩ (fun k w h => x_thr ⟨rfl, rfl⟩ h) ?_
  exact i_vret (f_at inc_254 (j := 5) rfl) rfl
set_option maxRecDepth 4000 in
def g_255 (a1 : Int32) (σ : f_M) : Option (Int32 ⊕ Fin 4) :=
  (g_254 a1 σ).bind fun t1 => Sum.elim (fun _ =>
   (f_rd σ 107 3 a1).bind fun v2 =>
   some (.inl v2)
  ) (fun k1 => some (.inr k1)) t1
set_option maxRecDepth 4000 in
theorem G_255 {xs : Nat → Int32} {L N : Nat} (hN : 155 ≤ N) (a1 : Int32)  (σ : f_M) : f_Cal a_MT xs L N 255 [.ref 0, .int a1] σ ((g_255 a1 σ).bind fun t => some (e_ti σ t)) := by
  refine f_cal_of (ls := [.ref 0, .int a1]) MT_255 (Nat.le_of_ble_eq_true rfl) rfl ?_
  unfold g_255
  refine i_aload_n (pc' := 1) (f_at inc_255 (j := 0) rfl) rfl rfl ?_
  refine i_iload_n (pc' := 2) (f_at inc_255 (j := 1) rfl) rfl rfl ?_
  refine c_tv (pc' := 5) (c' := 0) (n' := 0) (h_virt (ra := [.int a1, .ref 0]) (r := []) (as := [.int a1]) (f_at inc_255 (j := 2) rfl) (by decide) MT_254 rfl rfl rfl ⟨Nat.le_of_ble_eq_true rfl, Nat.le_of_ble_eq_true rfl, Nat.le_of_ble_eq_true rfl⟩ sh_0 (f_lt (o := 0) (m := 155) (Nat.le_of_ble_eq_true rfl) hN)) MT_254 (G_254 hN a1 σ) ⟨rfl, rfl, rfl⟩ (fun k w h => x_thr ⟨rfl, rfl⟩ h) ?_
  refine i_aload_n (pc' := 6) (f_at inc_255 (j := 3) rfl) rfl rfl ?_
  refine i_getR (pc' := 9) (f_at inc_255 (j := 4) rfl) sh_0 rfl (f_lt (o := 0) (m := 155) (Nat.le_of_ble_eq_true rfl) hN) rfl ?_
  refine i_getR (pc' := 12) (f_at inc_255 (j := 5) rfl) sh_103 rfl (f_lt (o := 103) (m := 155) (Nat.le_of_ble_eq_true rfl) hN) rfl ?_
  refine i_iload_n (pc' := 13) (f_at inc_255 (j := 6) rfl) rfl rfl ?_
  refine i_iald (pc' := 14) (f_at inc_255 (j := 7) rfl) sh_107 (f_bg (Nat.le_of_ble_eq_true rfl)) (f_lt (o := 107) (m := 155) (Nat.le_of_ble_eq_true rfl) hN) rfl fun v2 => ?_
  exact i_iret (f_at inc_255 (j := 8) rfl) rfl n_int
set_option maxRecDepth 4000 in
def g_256 (a1 : Int32) (σ : f_M) : Option (Int32 × f_M) :=
  (g_255 a1 σ).bind fun t1 => Sum.elim (fun v1 =>
   (f_wr σ 167 1 (0 : Int32) v1).bind fun m2 =>
   some ((0 : Int32), m2)
  ) (fun k1 => (f_hc [(0, 1)] k1).bind fun v => some (v, σ)) t1
set_option maxRecDepth 4000 in
theorem G_256 {xs : Nat → Int32} {L N : Nat} (hN : 168 ≤ N) (a1 : Int32)  (σ : f_M) : f_Cal a_MT xs L N 256 [.ref 0, .int a1, .ref 167] σ ((g_256 a1 σ).bind fun t => some (e_wi t)) := by
  refine f_cal_of (ls := [.ref 0, .int a1, .ref 167, a_dead]) MT_256 (Nat.le_of_ble_eq_true rfl) rfl ?_
  unfold g_256
  refine i_aload_n (pc' := 1) (f_at inc_256 (j := 0) rfl) rfl rfl ?_
  refine i_iconst (pc' := 2) (f_at inc_256 (j := 1) rfl) ci_0 rfl ?_
  refine i_aload_n (pc' := 3) (f_at inc_256 (j := 2) rfl) rfl rfl ?_
  refine i_iload_n (pc' := 4) (f_at inc_256 (j := 3) rfl) rfl rfl ?_
  refine c_ti (pc' := 7) (c' := 0) (n' := 0) (h_virt (ra := [.int a1, .ref 0]) (r := [.int (0 : Int32), .ref 167]) (as := [.int a1]) (f_at inc_256 (j := 4) rfl) (by decide) MT_255 rfl rfl rfl ⟨Nat.le_of_ble_eq_true rfl, Nat.le_of_ble_eq_true rfl, Nat.le_of_ble_eq_true rfl⟩ sh_0 (f_lt (o := 0) (m := 168) (Nat.le_of_ble_eq_true rfl) hN)) MT_255 (G_255 (Nat.le_trans (Nat.le_of_ble_eq_true rfl) hN) a1 σ) ⟨rfl, rfl, rfl⟩ (fun k w h => x_hdl (l := [(0, 1)]) (by decide +kernel) h) fun v1 => ?_
  refine i_i2l (pc' := 8) (f_at inc_256 (j := 5) rfl) rfl ?_
  refine i_last (pc' := 9) (f_at inc_256 (j := 6) rfl) sh_167 rfl (f_lt (o := 167) (m := 168) (Nat.le_of_ble_eq_true rfl) hN) rfl fun m2 => ?_
  refine i_goto (pc' := 15) (f_at inc_256 (j := 7) rfl) (by decide) ?_
  refine i_iconst (pc' := 16) (f_at inc_256 (j := 11) rfl) ci_0 rfl ?_
  exact i_iret (f_at inc_256 (j := 12) rfl) rfl n_int
set_option maxRecDepth 4000 in
def g_257 (a1 : Int32) (σ : f_M) : Option (Bool) :=
  (f_rd σ 156 2420 (3 : Int32)).bind fun v1 =>
  (g_46 (a1).toInt64 (0 : Int64) ((v1 - (1 : Int32))).toInt64 σ).bind fun t2 =>
  some t2
set_option maxRecDepth 4000 in
theorem G_257 {xs : Nat → Int32} {L N : Nat} (hN : 166 ≤ N) (a1 : Int32)  (σ : f_M) : f_Cal a_MT xs L N 257 [.ref 155, .int a1] σ ((g_257 a1 σ).bind fun t => some (e_pb σ t)) := by
  refine f_cal_of (ls := [.ref 155, .int a1]) MT_257 (Nat.le_of_ble_eq_true rfl) rfl ?_
  unfold g_257
  refine i_iload_n (pc' := 1) (f_at inc_257 (j := 0) rfl) rfl rfl ?_
  refine i_i2l (pc' := 2) (f_at inc_257 (j := 1) rfl) rfl ?_
  refine i_lconst (pc' := 3) (f_at inc_257 (j := 2) rfl) cl_0 rfl ?_
  refine i_aload_n (pc' := 4) (f_at inc_257 (j := 3) rfl) rfl rfl ?_
  refine i_getR (pc' := 7) (f_at inc_257 (j := 4) rfl) sh_155 rfl (f_lt (o := 155) (m := 166) (Nat.le_of_ble_eq_true rfl) hN) rfl ?_
  refine i_iconst (pc' := 8) (f_at inc_257 (j := 5) rfl) ci_3 rfl ?_
  refine i_iald (pc' := 9) (f_at inc_257 (j := 6) rfl) sh_156 (f_bg (Nat.le_of_ble_eq_true rfl)) (f_lt (o := 156) (m := 166) (Nat.le_of_ble_eq_true rfl) hN) rfl fun v1 => ?_
  refine i_iconst (pc' := 10) (f_at inc_257 (j := 7) rfl) ci_1 rfl ?_
  refine i_isub (pc' := 11) (f_at inc_257 (j := 8) rfl) rfl ?_
  refine i_i2l (pc' := 12) (f_at inc_257 (j := 9) rfl) rfl ?_
  refine c_pb (pc' := 15) (c' := 0) (n' := 0) (h_stat (ra := [.long ((v1 - (1 : Int32))).toInt64, .long (0 : Int64), .long (a1).toInt64]) (r := []) (as := [.long (a1).toInt64, .long (0 : Int64), .long ((v1 - (1 : Int32))).toInt64]) (f_at inc_257 (j := 10) rfl) (by decide) MT_46 rfl rfl rfl ⟨Nat.le_of_ble_eq_true rfl, Nat.le_of_ble_eq_true rfl, Nat.le_of_ble_eq_true rfl⟩) MT_46 (G_46 hN (a1).toInt64 (0 : Int64) ((v1 - (1 : Int32))).toInt64 σ) ⟨rfl, rfl, rfl⟩ fun t2 => ?_
  exact i_iret (v := f_b t2) (f_at inc_257 (j := 11) rfl) rfl n_bool
set_option maxRecDepth 4000 in
def g_258 (a1 : Int32) (σ : f_M) : Option (Int32 × f_M) :=
  (g_257 a1 σ).bind fun t1 =>
  (g_176 t1 true true σ).bind fun t2 =>
  (
   if t2.1 = false then (
    some (0 : Int32)
   ) else (
    (f_rd t2.2 156 2420 ((95 : Int32) + a1)).bind fun v4 =>
    some v4
   )
  ).bind fun (t3 : Int32) =>
  some (t3, t2.2)
set_option maxRecDepth 4000 in
theorem G_258 {xs : Nat → Int32} {L N : Nat} (hN : 166 ≤ N) (a1 : Int32)  (σ : f_M) : f_Cal a_MT xs L N 258 [.ref 155, .int a1] σ ((g_258 a1 σ).bind fun t => some (e_wi t)) := by
  refine f_cal_of (ls := [.ref 155, .int a1]) MT_258 (Nat.le_of_ble_eq_true rfl) rfl ?_
  unfold g_258
  refine i_aload_n (pc' := 1) (f_at inc_258 (j := 0) rfl) rfl rfl ?_
  refine i_aload_n (pc' := 2) (f_at inc_258 (j := 1) rfl) rfl rfl ?_
  refine i_iload_n (pc' := 3) (f_at inc_258 (j := 2) rfl) rfl rfl ?_
  refine c_pb (pc' := 6) (c' := 0) (n' := 0) (h_virt (ra := [.int a1, .ref 155]) (r := [.ref 155]) (as := [.int a1]) (f_at inc_258 (j := 3) rfl) (by decide) MT_257 rfl rfl rfl ⟨Nat.le_of_ble_eq_true rfl, Nat.le_of_ble_eq_true rfl, Nat.le_of_ble_eq_true rfl⟩ sh_155 (f_lt (o := 155) (m := 166) (Nat.le_of_ble_eq_true rfl) hN)) MT_257 (G_257 hN a1 σ) ⟨rfl, rfl, rfl⟩ fun t1 => ?_
  refine i_iconst (pc' := 7) (f_at inc_258 (j := 4) rfl) ci_1 rfl ?_
  refine i_iconst (pc' := 8) (f_at inc_258 (j := 5) rfl) ci_1 rfl ?_
  refine c_wb (pc' := 11) (c' := 0) (n' := 0) (h_virt (ra := [.int (1 : Int32), .int (1 : Int32), .int (f_b t1), .ref 155]) (r := []) (as := [.int (f_b t1), .int (1 : Int32), .int (1 : Int32)]) (f_at inc_258 (j := 6) rfl) (by decide) MT_176 rfl rfl rfl ⟨Nat.le_of_ble_eq_true rfl, Nat.le_of_ble_eq_true rfl, Nat.le_of_ble_eq_true rfl⟩ sh_155 (f_lt (o := 155) (m := 166) (Nat.le_of_ble_eq_true rfl) hN)) MT_176 (G_176 hN t1 true true σ) ⟨rfl, rfl, rfl⟩ fun t2 => ?_
  refine s_join (J := 27) (fun (t3 : Int32) (u3 : Unit) => [.ref 155, .int a1]) (fun t3 => [.int t3]) (fun t3 => t2.2) ?_ ?_
  · intro t3 u3
    exact i_iret (f_at inc_258 (j := 16) rfl) rfl n_int
  · intro k3 hj3
    refine i_if0 (pc' := 26) (nx := 14) cb_eq (f_at inc_258 (j := 7) rfl) ⟨by decide, rfl⟩ (fun b5 => ?_) (fun b5 => ?_)
    · refine i_iconst (pc' := 27) (f_at inc_258 (j := 15) rfl) ci_0 rfl ?_
      exact hj3 (0 : Int32) ()
    · refine i_aload_n (pc' := 15) (f_at inc_258 (j := 8) rfl) rfl rfl ?_
      refine i_getR (pc' := 18) (f_at inc_258 (j := 9) rfl) sh_155 rfl (f_lt (o := 155) (m := 166) (Nat.le_of_ble_eq_true rfl) hN) rfl ?_
      refine i_bipush (pc' := 20) (f_at inc_258 (j := 10) rfl) cb_95 rfl ?_
      refine i_iload_n (pc' := 21) (f_at inc_258 (j := 11) rfl) rfl rfl ?_
      refine i_iadd (pc' := 22) (f_at inc_258 (j := 12) rfl) rfl ?_
      refine i_iald (pc' := 23) (f_at inc_258 (j := 13) rfl) sh_156 (f_bg (Nat.le_of_ble_eq_true rfl)) (f_lt (o := 156) (m := 166) (Nat.le_of_ble_eq_true rfl) hN) rfl fun v4 => ?_
      refine i_goto (pc' := 27) (f_at inc_258 (j := 14) rfl) (by decide) ?_
      exact hj3 v4 ()
set_option maxRecDepth 4000 in
def g_259 (a1 : Int32) (σ : f_M) : Option (Int32 ⊕ Fin 4) :=
  (g_254 a1 σ).bind fun t1 => Sum.elim (fun _ =>
   (g_106 a1 σ).bind fun t2 =>
   some (.inl t2)
  ) (fun k1 => some (.inr k1)) t1
set_option maxRecDepth 4000 in
theorem G_259 {xs : Nat → Int32} {L N : Nat} (hN : 155 ≤ N) (a1 : Int32)  (σ : f_M) : f_Cal a_MT xs L N 259 [.ref 0, .int a1] σ ((g_259 a1 σ).bind fun t => some (e_ti σ t)) := by
  refine f_cal_of (ls := [.ref 0, .int a1]) MT_259 (Nat.le_of_ble_eq_true rfl) rfl ?_
  unfold g_259
  refine i_aload_n (pc' := 1) (f_at inc_259 (j := 0) rfl) rfl rfl ?_
  refine i_iload_n (pc' := 2) (f_at inc_259 (j := 1) rfl) rfl rfl ?_
  refine c_tv (pc' := 5) (c' := 0) (n' := 0) (h_virt (ra := [.int a1, .ref 0]) (r := []) (as := [.int a1]) (f_at inc_259 (j := 2) rfl) (by decide) MT_254 rfl rfl rfl ⟨Nat.le_of_ble_eq_true rfl, Nat.le_of_ble_eq_true rfl, Nat.le_of_ble_eq_true rfl⟩ sh_0 (f_lt (o := 0) (m := 155) (Nat.le_of_ble_eq_true rfl) hN)) MT_254 (G_254 hN a1 σ) ⟨rfl, rfl, rfl⟩ (fun k w h => x_thr ⟨rfl, rfl⟩ h) ?_
  refine i_aload_n (pc' := 6) (f_at inc_259 (j := 3) rfl) rfl rfl ?_
  refine i_getR (pc' := 9) (f_at inc_259 (j := 4) rfl) sh_0 rfl (f_lt (o := 0) (m := 155) (Nat.le_of_ble_eq_true rfl) hN) rfl ?_
  refine i_iload_n (pc' := 10) (f_at inc_259 (j := 5) rfl) rfl rfl ?_
  refine c_pi (pc' := 13) (c' := 0) (n' := 0) (h_virt (ra := [.int a1, .ref 102]) (r := []) (as := [.int a1]) (f_at inc_259 (j := 6) rfl) (by decide) MT_106 rfl rfl rfl ⟨Nat.le_of_ble_eq_true rfl, Nat.le_of_ble_eq_true rfl, Nat.le_of_ble_eq_true rfl⟩ sh_102 (f_lt (o := 102) (m := 155) (Nat.le_of_ble_eq_true rfl) hN)) MT_106 (G_106 hN a1 σ) ⟨rfl, rfl, rfl⟩ fun t2 => ?_
  exact i_iret (f_at inc_259 (j := 7) rfl) rfl n_int
set_option maxRecDepth 4000 in
def g_260 (a1 : Int32) (σ : f_M) : Option (Int32 × f_M) :=
  (g_259 a1 σ).bind fun t1 => Sum.elim (fun v1 =>
   (f_wr σ 167 1 (0 : Int32) v1).bind fun m2 =>
   some ((0 : Int32), m2)
  ) (fun k1 => (f_hc [(0, 1)] k1).bind fun v => some (v, σ)) t1
set_option maxRecDepth 4000 in
theorem G_260 {xs : Nat → Int32} {L N : Nat} (hN : 168 ≤ N) (a1 : Int32)  (σ : f_M) : f_Cal a_MT xs L N 260 [.ref 0, .int a1, .ref 167] σ ((g_260 a1 σ).bind fun t => some (e_wi t)) := by
  refine f_cal_of (ls := [.ref 0, .int a1, .ref 167, a_dead]) MT_260 (Nat.le_of_ble_eq_true rfl) rfl ?_
  unfold g_260
  refine i_aload_n (pc' := 1) (f_at inc_260 (j := 0) rfl) rfl rfl ?_
  refine i_iconst (pc' := 2) (f_at inc_260 (j := 1) rfl) ci_0 rfl ?_
  refine i_aload_n (pc' := 3) (f_at inc_260 (j := 2) rfl) rfl rfl ?_
  refine i_iload_n (pc' := 4) (f_at inc_260 (j := 3) rfl) rfl rfl ?_
  refine c_ti (pc' := 7) (c' := 0) (n' := 0) (h_virt (ra := [.int a1, .ref 0]) (r := [.int (0 : Int32), .ref 167]) (as := [.int a1]) (f_at inc_260 (j := 4) rfl) (by decide) MT_259 rfl rfl rfl ⟨Nat.le_of_ble_eq_true rfl, Nat.le_of_ble_eq_true rfl, Nat.le_of_ble_eq_true rfl⟩ sh_0 (f_lt (o := 0) (m := 168) (Nat.le_of_ble_eq_true rfl) hN)) MT_259 (G_259 (Nat.le_trans (Nat.le_of_ble_eq_true rfl) hN) a1 σ) ⟨rfl, rfl, rfl⟩ (fun k w h => x_hdl (l := [(0, 1)]) (by decide +kernel) h) fun v1 => ?_
  refine i_i2l (pc' := 8) (f_at inc_260 (j := 5) rfl) rfl ?_
  refine i_last (pc' := 9) (f_at inc_260 (j := 6) rfl) sh_167 rfl (f_lt (o := 167) (m := 168) (Nat.le_of_ble_eq_true rfl) hN) rfl fun m2 => ?_
  refine i_goto (pc' := 15) (f_at inc_260 (j := 7) rfl) (by decide) ?_
  refine i_iconst (pc' := 16) (f_at inc_260 (j := 11) rfl) ci_0 rfl ?_
  exact i_iret (f_at inc_260 (j := 12) rfl) rfl n_int
set_option maxRecDepth 4000 in
def g_261 (a1 : Int32) (σ : f_M) : Option (Int32 × f_M) :=
  (g_257 a1 σ).bind fun t1 =>
  (g_176 t1 true true σ).bind fun t2 =>
  (
   if t2.1 = false then (
    some (0 : Int32)
   ) else (
    (g_146 a1 t2.2).bind fun t4 =>
    some t4
   )
  ).bind fun (t3 : Int32) =>
  some (t3, t2.2)
set_option maxRecDepth 4000 in
theorem G_261 {xs : Nat → Int32} {L N : Nat} (hN : 166 ≤ N) (a1 : Int32)  (σ : f_M) : f_Cal a_MT xs L N 261 [.ref 155, .int a1] σ ((g_261 a1 σ).bind fun t => some (e_wi t)) := by
  refine f_cal_of (ls := [.ref 155, .int a1]) MT_261 (Nat.le_of_ble_eq_true rfl) rfl ?_
  unfold g_261
  refine i_aload_n (pc' := 1) (f_at inc_261 (j := 0) rfl) rfl rfl ?_
  refine i_aload_n (pc' := 2) (f_at inc_261 (j := 1) rfl) rfl rfl ?_
  refine i_iload_n (pc' := 3) (f_at inc_261 (j := 2) rfl) rfl rfl ?_
  refine c_pb (pc' := 6) (c' := 0) (n' := 0) (h_virt (ra := [.int a1, .ref 155]) (r := [.ref 155]) (as := [.int a1]) (f_at inc_261 (j := 3) rfl) (by decide) MT_257 rfl rfl rfl ⟨Nat.le_of_ble_eq_true rfl, Nat.le_of_ble_eq_true rfl, Nat.le_of_ble_eq_true rfl⟩ sh_155 (f_lt (o := 155) (m := 166) (Nat.le_of_ble_eq_true rfl) hN)) MT_257 (G_257 hN a1 σ) ⟨rfl, rfl, rfl⟩ fun t1 => ?_
  refine i_iconst (pc' := 7) (f_at inc_261 (j := 4) rfl) ci_1 rfl ?_
  refine i_iconst (pc' := 8) (f_at inc_261 (j := 5) rfl) ci_1 rfl ?_
  refine c_wb (pc' := 11) (c' := 0) (n' := 0) (h_virt (ra := [.int (1 : Int32), .int (1 : Int32), .int (f_b t1), .ref 155]) (r := []) (as := [.int (f_b t1), .int (1 : Int32), .int (1 : Int32)]) (f_at inc_261 (j := 6) rfl) (by decide) MT_176 rfl rfl rfl ⟨Nat.le_of_ble_eq_true rfl, Nat.le_of_ble_eq_true rfl, Nat.le_of_ble_eq_true rfl⟩ sh_155 (f_lt (o := 155) (m := 166) (Nat.le_of_ble_eq_true rfl) hN)) MT_176 (G_176 hN t1 true true σ) ⟨rfl, rfl, rfl⟩ fun t2 => ?_
  refine s_join (J := 23) (fun (t3 : Int32) (u3 : Unit) => [.ref 155, .int a1]) (fun t3 => [.int t3]) (fun t3 => t2.2) ?_ ?_
  · intro t3 u3
    exact i_iret (f_at inc_261 (j := 13) rfl) rfl n_int
  · intro k3 hj3
    refine i_if0 (pc' := 22) (nx := 14) cb_eq (f_at inc_261 (j := 7) rfl) ⟨by decide, rfl⟩ (fun b5 => ?_) (fun b5 => ?_)
    · refine i_iconst (pc' := 23) (f_at inc_261 (j := 12) rfl) ci_0 rfl ?_
      exact hj3 (0 : Int32) ()
    · refine i_aload_n (pc' := 15) (f_at inc_261 (j := 8) rfl) rfl rfl ?_
      refine i_iload_n (pc' := 16) (f_at inc_261 (j := 9) rfl) rfl rfl ?_
      refine c_pi (pc' := 19) (c' := 0) (n' := 0) (h_virt (ra := [.int a1, .ref 155]) (r := []) (as := [.int a1]) (f_at inc_261 (j := 10) rfl) (by decide) MT_146 rfl rfl rfl ⟨Nat.le_of_ble_eq_true rfl, Nat.le_of_ble_eq_true rfl, Nat.le_of_ble_eq_true rfl⟩ sh_155 (f_lt (o := 155) (m := 166) (Nat.le_of_ble_eq_true rfl) hN)) MT_146 (G_146 hN a1 t2.2) ⟨rfl, rfl, rfl⟩ fun t4 => ?_
      refine i_goto (pc' := 23) (f_at inc_261 (j := 11) rfl) (by decide) ?_
      exact hj3 t4 ()
set_option maxRecDepth 4000 in
def g_262  (σ : f_M) : Option (Int32) :=
  (g_107  σ).bind fun t1 =>
  some t1
set_option maxRecDepth 4000 in
theorem G_262 {xs : Nat → Int32} {L N : Nat} (hN : 155 ≤ N)   (σ : f_M) : f_Cal a_MT xs L N 262 [.ref 0] σ ((g_262  σ).bind fun t => some (e_pi σ t)) := by
  refine f_cal_of (ls := [.ref 0]) MT_262 (Nat.le_of_ble_eq_true rfl) rfl ?_
  unfold g_262
  refine i_aload_n (pc' := 1) (f_at inc_262 (j := 0) rfl) rfl rfl ?_
  refine i_getR (pc' := 4) (f_at inc_262 (j := 1) rfl) sh_0 rfl (f_lt (o := 0) (m := 155) (Nat.le_of_ble_eq_true rfl) hN) rfl ?_
  refine c_pi (pc' := 7) (c' := 0) (n' := 0) (h_virt (ra := [.ref 102]) (r := []) (as := []) (f_at inc_262 (j := 2) rfl) (by decide) MT_107 rfl rfl rfl ⟨Nat.le_of_ble_eq_true rfl, Nat.le_of_ble_eq_true rfl, Nat.le_of_ble_eq_true rfl⟩ sh_102 (f_lt (o := 102) (m := 155) (Nat.le_of_ble_eq_true rfl) hN)) MT_107 (G_107 hN  σ) ⟨rfl, rfl, rfl⟩ fun t1 => ?_
  exact i_iret (f_at inc_262 (j := 3) rfl) rfl n_int
set_option maxRecDepth 4000 in
def g_263  (σ : f_M) : Option (Int32 × f_M) :=
  (g_147  (f_up σ 155 6 (0 : Int32))).bind fun t1 =>
  some (t1, (f_up σ 155 6 (0 : Int32)))
set_option maxRecDepth 4000 in
theorem G_263 {xs : Nat → Int32} {L N : Nat} (hN : 166 ≤ N)   (σ : f_M) : f_Cal a_MT xs L N 263 [.ref 155] σ ((g_263  σ).bind fun t => some (e_wi t)) := by
  refine f_cal_of (ls := [.ref 155]) MT_263 (Nat.le_of_ble_eq_true rfl) rfl ?_
  unfold g_263
  refine i_aload_n (pc' := 1) (f_at inc_263 (j := 0) rfl) rfl rfl ?_
  refine i_iconst (pc' := 2) (f_at inc_263 (j := 1) rfl) ci_0 rfl ?_
  refine i_putI (pc' := 5) (f_at inc_263 (j := 2) rfl) sh_155 rfl ⟨rfl, rfl⟩ (f_lt (o := 155) (m := 166) (Nat.le_of_ble_eq_true rfl) hN) rfl ?_
  refine i_aload_n (pc' := 6) (f_at inc_263 (j := 3) rfl) rfl rfl ?_
  refine c_pi (pc' := 9) (c' := 0) (n' := 0) (h_virt (ra := [.ref 155]) (r := []) (as := []) (f_at inc_263 (j := 4) rfl) (by decide) MT_147 rfl rfl rfl ⟨Nat.le_of_ble_eq_true rfl, Nat.le_of_ble_eq_true rfl, Nat.le_of_ble_eq_true rfl⟩ sh_155 (f_lt (o := 155) (m := 166) (Nat.le_of_ble_eq_true rfl) hN)) MT_147 (G_147 hN  (f_up σ 155 6 (0 : Int32))) ⟨rfl, rfl, rfl⟩ fun t1 => ?_
  exact i_iret (f_at inc_263 (j := 5) rfl) rfl n_int
set_option maxRecDepth 4000 in
def g_264  (σ : f_M) : Option (Int32) :=
  (
   if (σ 121 10) ≤ (σ 121 11) then (
    some (-1 : Int32)
   ) else (
    (f_rd σ 127 20 (σ 121 11)).bind fun v2 =>
    some v2
   )
  ).bind fun (t1 : Int32) =>
  some t1
set_option maxRecDepth 4000 in
theorem G_264 {xs : Nat → Int32} {L N : Nat} (hN : 155 ≤ N)   (σ : f_M) : f_Cal a_MT xs L N 264 [.ref 0] σ ((g_264  σ).bind fun t => some (e_pi σ t)) := by
  refine f_cal_of (ls := [.ref 0]) MT_264 (Nat.le_of_ble_eq_true rfl) rfl ?_
  unfold g_264
  refine i_aload_n (pc' := 1) (f_at inc_264 (j := 0) rfl) rfl rfl ?_
  refine i_getR (pc' := 4) (f_at inc_264 (j := 1) rfl) sh_0 rfl (f_lt (o := 0) (m := 155) (Nat.le_of_ble_eq_true rfl) hN) rfl ?_
  refine i_getI (pc' := 7) (f_at inc_264 (j := 2) rfl) sh_121 rfl (f_lt (o := 121) (m := 155) (Nat.le_of_ble_eq_true rfl) hN) rfl ?_
  refine i_aload_n (pc' := 8) (f_at inc_264 (j := 3) rfl) rfl rfl ?_
  refine i_getR (pc' := 11) (f_at inc_264 (j := 4) rfl) sh_0 rfl (f_lt (o := 0) (m := 155) (Nat.le_of_ble_eq_true rfl) hN) rfl ?_
  refine i_getI (pc' := 14) (f_at inc_264 (j := 5) rfl) sh_121 rfl (f_lt (o := 121) (m := 155) (Nat.le_of_ble_eq_true rfl) hN) rfl ?_
  refine s_join (J := 36) (fun (t1 : Int32) (u1 : Unit) => [.ref 0]) (fun t1 => [.int t1]) (fun t1 => σ) ?_ ?_
  · intro t1 u1
    exact i_iret (f_at inc_264 (j := 16) rfl) rfl n_int
  · intro k1 hj1
    refine i_if2 (pc' := 35) (nx := 17) c2_ge (f_at inc_264 (j := 6) rfl) ⟨by decide, rfl⟩ (fun b3 => ?_) (fun b3 => ?_)
    · refine i_iconst (pc' := 36) (f_at inc_264 (j := 15) rfl) ci_m1 rfl ?_
      exact hj1 (-1 : Int32) ()
    · refine i_aload_n (pc' := 18) (f_at inc_264 (j := 7) rfl) rfl rfl ?_
      refine i_getR (pc' := 21) (f_at inc_264 (j := 8) rfl) sh_0 rfl (f_lt (o := 0) (m := 155) (Nat.le_of_ble_eq_true rfl) hN) rfl ?_
      refine i_getR (pc' := 24) (f_at inc_264 (j := 9) rfl) sh_121 rfl (f_lt (o := 121) (m := 155) (Nat.le_of_ble_eq_true rfl) hN) rfl ?_
      refine i_aload_n (pc' := 25) (f_at inc_264 (j := 10) rfl) rfl rfl ?_
      refine i_getR (pc' := 28) (f_at inc_264 (j := 11) rfl) sh_0 rfl (f_lt (o := 0) (m := 155) (Nat.le_of_ble_eq_true rfl) hN) rfl ?_
      refine i_getI (pc' := 31) (f_at inc_264 (j := 12) rfl) sh_121 rfl (f_lt (o := 121) (m := 155) (Nat.le_of_ble_eq_true rfl) hN) rfl ?_
      refine i_iald (pc' := 32) (f_at inc_264 (j := 13) rfl) sh_127 (f_bg (Nat.le_of_ble_eq_true rfl)) (f_lt (o := 127) (m := 155) (Nat.le_of_ble_eq_true rfl) hN) rfl fun v2 => ?_
      refine i_goto (pc' := 36) (f_at inc_264 (j := 14) rfl) (by decide) ?_
      exact hj1 v2 ()
set_option maxRecDepth 4000 in
def g_265  (σ : f_M) : Option (Int32 × f_M) :=
  (g_137  (f_up σ 155 6 (0 : Int32))).bind fun t1 =>
  some (t1, (f_up σ 155 6 (0 : Int32)))
set_option maxRecDepth 4000 in
theorem G_265 {xs : Nat → Int32} {L N : Nat} (hN : 166 ≤ N)   (σ : f_M) : f_Cal a_MT xs L N 265 [.ref 155] σ ((g_265  σ).bind fun t => some (e_wi t)) := by
  refine f_cal_of (ls := [.ref 155]) MT_265 (Nat.le_of_ble_eq_true rfl) rfl ?_
  unfold g_265
  refine i_aload_n (pc' := 1) (f_at inc_265 (j := 0) rfl) rfl rfl ?_
  refine i_iconst (pc' := 2) (f_at inc_265 (j := 1) rfl) ci_0 rfl ?_
  refine i_putI (pc' := 5) (f_at inc_265 (j := 2) rfl) sh_155 rfl ⟨rfl, rfl⟩ (f_lt (o := 155) (m := 166) (Nat.le_of_ble_eq_true rfl) hN) rfl ?_
  refine i_aload_n (pc' := 6) (f_at inc_265 (j := 3) rfl) rfl rfl ?_
  refine c_pi (pc' := 9) (c' := 0) (n' := 0) (h_virt (ra := [.ref 155]) (r := []) (as := []) (f_at inc_265 (j := 4) rfl) (by decide) MT_137 rfl rfl rfl ⟨Nat.le_of_ble_eq_true rfl, Nat.le_of_ble_eq_true rfl, Nat.le_of_ble_eq_true rfl⟩ sh_155 (f_lt (o := 155) (m := 166) (Nat.le_of_ble_eq_true rfl) hN)) MT_137 (G_137 hN  (f_up σ 155 6 (0 : Int32))) ⟨rfl, rfl, rfl⟩ fun t1 => ?_
  exact i_iret (f_at inc_265 (j := 5) rfl) rfl n_int
set_option maxRecDepth 4000 in
def g_266  (σ : f_M) : Option (Int32) :=
  (f_lp (fun (s1 : Int32 × Int32) =>
   if (σ 121 10) ≤ s1.2 then (
    some (.inr s1.1)
   ) else (
    (f_rd σ 127 20 s1.2).bind fun v2 =>
    (f_rd σ 126 20 v2).bind fun v3 =>
    some (.inl ((s1.1 + v3), (s1.2 + (1 : Int32))))
   )
  ) f_F ((0 : Int32), (σ 121 11))).bind fun (x1 : Int32) =>
  some x1
set_option maxRecDepth 4000 in
theorem G_266 {xs : Nat → Int32} {L N : Nat} (hN : 155 ≤ N)   (σ : f_M) : f_Cal a_MT xs L N 266 [.ref 0] σ ((g_266  σ).bind fun t => some (e_pi σ t)) := by
  refine f_cal_of (ls := [.ref 0, a_dead, a_dead]) MT_266 (Nat.le_of_ble_eq_true rfl) rfl ?_
  unfold g_266
  refine i_iconst (pc' := 1) (f_at inc_266 (j := 0) rfl) ci_0 rfl ?_
  refine i_istore_n (pc' := 2) (ls' := [.ref 0, .int (0 : Int32), a_dead]) (f_at inc_266 (j := 1) rfl) (Nat.le_of_ble_eq_true rfl) rfl rfl ?_
  refine i_aload_n (pc' := 3) (f_at inc_266 (j := 2) rfl) rfl rfl ?_
  refine i_getR (pc' := 6) (f_at inc_266 (j := 3) rfl) sh_0 rfl (f_lt (o := 0) (m := 155) (Nat.le_of_ble_eq_true rfl) hN) rfl ?_
  refine i_getI (pc' := 9) (f_at inc_266 (j := 4) rfl) sh_121 rfl (f_lt (o := 121) (m := 155) (Nat.le_of_ble_eq_true rfl) hN) rfl ?_
  refine i_istore_n (pc' := 10) (ls' := [.ref 0, .int (0 : Int32), .int (σ 121 11)]) (f_at inc_266 (j := 5) rfl) (Nat.le_of_ble_eq_true rfl) rfl rfl ?_
  refine s_lX (X := 47) ((0 : Int32), (σ 121 11)) () (fun (s1 : Int32 × Int32) (u1 : Unit) => [.ref 0, .int s1.1, .int s1.2]) (fun (s1 : Int32 × Int32) => σ) (fun (x1 : Int32) (w1 : Value) => [.ref 0, .int x1, w1]) (fun (x1 : Int32) => σ) ?_ ?_
  · intro x1 w1
    refine i_iload_n (pc' := 48) (f_at inc_266 (j := 25) rfl) rfl rfl ?_
    exact i_iret (f_at inc_266 (j := 26) rfl) rfl n_int
  · intro s1 u1 k1 hb1 hx1
    refine i_iload_n (pc' := 11) (f_at inc_266 (j := 6) rfl) rfl rfl ?_
    refine i_aload_n (pc' := 12) (f_at inc_266 (j := 7) rfl) rfl rfl ?_
    refine i_getR (pc' := 15) (f_at inc_266 (j := 8) rfl) sh_0 rfl (f_lt (o := 0) (m := 155) (Nat.le_of_ble_eq_true rfl) hN) rfl ?_
    refine i_getI (pc' := 18) (f_at inc_266 (j := 9) rfl) sh_121 rfl (f_lt (o := 121) (m := 155) (Nat.le_of_ble_eq_true rfl) hN) rfl ?_
    refine i_if2 (pc' := 47) (nx := 21) c2_ge (f_at inc_266 (j := 10) rfl) ⟨by decide, rfl⟩ (fun b4 => ?_) (fun b4 => ?_)
    · exact hx1 s1.1 (.int s1.2)
    · refine i_iload_n (pc' := 22) (f_at inc_266 (j := 11) rfl) rfl rfl ?_
      refine i_aload_n (pc' := 23) (f_at inc_266 (j := 12) rfl) rfl rfl ?_
      refine i_getR (pc' := 26) (f_at inc_266 (j := 13) rfl) sh_0 rfl (f_lt (o := 0) (m := 155) (Nat.le_of_ble_eq_true rfl) hN) rfl ?_
      refine i_getR (pc' := 29) (f_at inc_266 (j := 14) rfl) sh_121 rfl (f_lt (o := 121) (m := 155) (Nat.le_of_ble_eq_true rfl) hN) rfl ?_
      refine i_aload_n (pc' := 30) (f_at inc_266 (j := 15) rfl) rfl rfl ?_
      refine i_getR (pc' := 33) (f_at inc_266 (j := 16) rfl) sh_0 rfl (f_lt (o := 0) (m := 155) (Nat.le_of_ble_eq_true rfl) hN) rfl ?_
      refine i_getR (pc' := 36) (f_at inc_266 (j := 17) rfl) sh_121 rfl (f_lt (o := 121) (m := 155) (Nat.le_of_ble_eq_true rfl) hN) rfl ?_
      refine i_iload_n (pc' := 37) (f_at inc_266 (j := 18) rfl) rfl rfl ?_
      refine i_iald (pc' := 38) (f_at inc_266 (j := 19) rfl) sh_127 (f_bg (Nat.le_of_ble_eq_true rfl)) (f_lt (o := 127) (m := 155) (Nat.le_of_ble_eq_true rfl) hN) rfl fun v2 => ?_
      refine i_iald (pc' := 39) (f_at inc_266 (j := 20) rfl) sh_126 (f_bg (Nat.le_of_ble_eq_true rfl)) (f_lt (o := 126) (m := 155) (Nat.le_of_ble_eq_true rfl) hN) rfl fun v3 => ?_
      refine i_iadd (pc' := 40) (f_at inc_266 (j := 21) rfl) rfl ?_
      refine i_istore_n (pc' := 41) (ls' := [.ref 0, .int (s1.1 + v3), .int s1.2]) (f_at inc_266 (j := 22) rfl) (Nat.le_of_ble_eq_true rfl) rfl rfl ?_
      refine i_iinc (pc' := 44) (ls' := [.ref 0, .int (s1.1 + v3), .int (s1.2 + (1 : Int32))]) (f_at inc_266 (j := 23) rfl) rfl ci_1 rfl rfl ?_
      refine i_goto (pc' := 10) (f_at inc_266 (j := 24) rfl) (by decide) ?_
      exact hb1 ((s1.1 + v3), (s1.2 + (1 : Int32))) ()
set_option maxRecDepth 4000 in
def g_267 (a1 : Int32) (σ : f_M) : Option (Int32) :=
  (f_lp (fun (s1 : Int32 × Int32) =>
   (f_rd σ 156 2420 (5 : Int32)).bind fun v2 =>
   if v2 ≤ s1.2 then (
    some (.inr s1.1)
   ) else (
    (g_126 s1.2 σ).bind fun t3 =>
    (f_rd σ 156 2420 (t3 + (3 : Int32))).bind fun v4 =>
    (
     if ¬ v4 = a1 then (
      some (0 : Int32)
     ) else (
      (g_126 s1.2 σ).bind fun t6 =>
      (f_rd σ 156 2420 (t6 + (4 : Int32))).bind fun v7 =>
      some v7
     )
    ).bind fun (t5 : Int32) =>
    some (.inl ((s1.1 + t5), (s1.2 + (1 : Int32))))
   )
  ) f_F ((0 : Int32), (0 : Int32))).bind fun (x1 : Int32) =>
  some x1
set_option maxRecDepth 4000 in
theorem G_267 {xs : Nat → Int32} {L N : Nat} (hN : 166 ≤ N) (a1 : Int32)  (σ : f_M) : f_Cal a_MT xs L N 267 [.ref 155, .int a1] σ ((g_267 a1 σ).bind fun t => some (e_pi σ t)) := by
  refine f_cal_of (ls := [.ref 155, .int a1, a_dead, a_dead]) MT_267 (Nat.le_of_ble_eq_true rfl) rfl ?_
  unfold g_267
  refine i_iconst (pc' := 1) (f_at inc_267 (j := 0) rfl) ci_0 rfl ?_
  refine i_istore_n (pc' := 2) (ls' := [.ref 155, .int a1, .int (0 : Int32), a_dead]) (f_at inc_267 (j := 1) rfl) (Nat.le_of_ble_eq_true rfl) rfl rfl ?_
  refine i_iconst (pc' := 3) (f_at inc_267 (j := 2) rfl) ci_0 rfl ?_
  refine i_istore_n (pc' := 4) (ls' := [.ref 155, .int a1, .int (0 : Int32), .int (0 : Int32)]) (f_at inc_267 (j := 3) rfl) (Nat.le_of_ble_eq_true rfl) rfl rfl ?_
  refine s_lX (X := 53) ((0 : Int32), (0 : Int32)) () (fun (s1 : Int32 × Int32) (u1 : Unit) => [.ref 155, .int a1, .int s1.1, .int s1.2]) (fun (s1 : Int32 × Int32) => σ) (fun (x1 : Int32) (w1 : Value) => [.ref 155, .int a1, .int x1, w1]) (fun (x1 : Int32) => σ) ?_ ?_
  · intro x1 w1
    refine i_iload_n (pc' := 54) (f_at inc_267 (j := 33) rfl) rfl rfl ?_
    exact i_iret (f_at inc_267 (j := 34) rfl) rfl n_int
  · intro s1 u1 k1 hb1 hx1
    refine i_iload_n (pc' := 5) (f_at inc_267 (j := 4) rfl) rfl rfl ?_
    refine i_aload_n (pc' := 6) (f_at inc_267 (j := 5) rfl) rfl rfl ?_
    refine i_getR (pc' := 9) (f_at inc_267 (j := 6) rfl) sh_155 rfl (f_lt (o := 155) (m := 166) (Nat.le_of_ble_eq_true rfl) hN) rfl ?_
    refine i_iconst (pc' := 10) (f_at inc_267 (j := 7) rfl) ci_5 rfl ?_
    refine i_iald (pc' := 11) (f_at inc_267 (j := 8) rfl) sh_156 (f_bg (Nat.le_of_ble_eq_true rfl)) (f_lt (o := 156) (m := 166) (Nat.le_of_ble_eq_true rfl) hN) rfl fun v2 => ?_
    refine i_if2 (pc' := 53) (nx := 14) c2_ge (f_at inc_267 (j := 9) rfl) ⟨by decide, rfl⟩ (fun b9 => ?_) (fun b9 => ?_)
    · exact hx1 s1.1 (.int s1.2)
    · refine i_iload_n (pc' := 15) (f_at inc_267 (j := 10) rfl) rfl rfl ?_
      refine i_aload_n (pc' := 16) (f_at inc_267 (j := 11) rfl) rfl rfl ?_
      refine i_getR (pc' := 19) (f_at inc_267 (j := 12) rfl) sh_155 rfl (f_lt (o := 155) (m := 166) (Nat.le_of_ble_eq_true rfl) hN) rfl ?_
      refine i_iload_n (pc' := 20) (f_at inc_267 (j := 13) rfl) rfl rfl ?_
      refine c_pi (pc' := 23) (c' := 0) (n' := 0) (h_stat (ra := [.int s1.2]) (r := [.ref 156, .int s1.1]) (as := [.int s1.2]) (f_at inc_267 (j := 14) rfl) (by decide) MT_126 rfl rfl rfl ⟨Nat.le_of_ble_eq_true rfl, Nat.le_of_ble_eq_true rfl, Nat.le_of_ble_eq_true rfl⟩) MT_126 (G_126 hN s1.2 σ) ⟨rfl, rfl, rfl⟩ fun t3 => ?_
      refine i_iconst (pc' := 24) (f_at inc_267 (j := 15) rfl) ci_3 rfl ?_
      refine i_iadd (pc' := 25) (f_at inc_267 (j := 16) rfl) rfl ?_
      refine i_iald (pc' := 26) (f_at inc_267 (j := 17) rfl) sh_156 (f_bg (Nat.le_of_ble_eq_true rfl)) (f_lt (o := 156) (m := 166) (Nat.le_of_ble_eq_true rfl) hN) rfl fun v4 => ?_
      refine i_iload_n (pc' := 27) (f_at inc_267 (j := 18) rfl) rfl rfl ?_
      refine s_join (J := 45) (fun (t5 : Int32) (u5 : Unit) => [.ref 155, .int a1, .int s1.1, .int s1.2]) (fun t5 => [.int t5, .int s1.1]) (fun t5 => σ) ?_ ?_
      · intro t5 u5
        refine i_iadd (pc' := 46) (f_at inc_267 (j := 29) rfl) rfl ?_
        refine i_istore_n (pc' := 47) (ls' := [.ref 155, .int a1, .int (s1.1 + t5), .int s1.2]) (f_at inc_267 (j := 30) rfl) (Nat.le_of_ble_eq_true rfl) rfl rfl ?_
        refine i_iinc (pc' := 50) (ls' := [.ref 155, .int a1, .int (s1.1 + t5), .int (s1.2 + (1 : Int32))]) (f_at inc_267 (j := 31) rfl) rfl ci_1 rfl rfl ?_
        refine i_goto (pc' := 4) (f_at inc_267 (j := 32) rfl) (by decide) ?_
        exact hb1 ((s1.1 + t5), (s1.2 + (1 : Int32))) ()
      · intro k5 hj5
        refine i_if2 (pc' := 44) (nx := 30) c2_ne (f_at inc_267 (j := 19) rfl) ⟨by decide, rfl⟩ (fun b8 => ?_) (fun b8 => ?_)
        · refine i_iconst (pc' := 45) (f_at inc_267 (j := 28) rfl) ci_0 rfl ?_
          exact hj5 (0 : Int32) ()
        · refine i_aload_n (pc' := 31) (f_at inc_267 (j := 20) rfl) rfl rfl ?_
          refine i_getR (pc' := 34) (f_at inc_267 (j := 21) rfl) sh_155 rfl (f_lt (o := 155) (m := 166) (Nat.le_of_ble_eq_true rfl) hN) rfl ?_
          refine i_iload_n (pc' := 35) (f_at inc_267 (j := 22) rfl) rfl rfl ?_
          refine c_pi (pc' := 38) (c' := 0) (n' := 0) (h_stat (ra := [.int s1.2]) (r := [.ref 156, .int s1.1]) (as := [.int s1.2]) (f_at inc_267 (j := 23) rfl) (by decide) MT_126 rfl rfl rfl ⟨Nat.le_of_ble_eq_true rfl, Nat.le_of_ble_eq_true rfl, Nat.le_of_ble_eq_true rfl⟩) MT_126 (G_126 hN s1.2 σ) ⟨rfl, rfl, rfl⟩ fun t6 => ?_
          refine i_iconst (pc' := 39) (f_at inc_267 (j := 24) rfl) ci_4 rfl ?_
          refine i_iadd (pc' := 40) (f_at inc_267 (j := 25) rfl) rfl ?_
          refine i_iald (pc' := 41) (f_at inc_267 (j := 26) rfl) sh_156 (f_bg (Nat.le_of_ble_eq_true rfl)) (f_lt (o := 156) (m := 166) (Nat.le_of_ble_eq_true rfl) hN) rfl fun v7 => ?_
          refine i_goto (pc' := 45) (f_at inc_267 (j := 27) rfl) (by decide) ?_
          exact hj5 v7 ()
set_option maxRecDepth 4000 in
def g_268  (σ : f_M) : Option (Int32 × f_M) :=
  (g_267 (2 : Int32) (f_up σ 155 6 (0 : Int32))).bind fun t1 =>
  some (t1, (f_up σ 155 6 (0 : Int32)))
set_option maxRecDepth 4000 in
theorem G_268 {xs : Nat → Int32} {L N : Nat} (hN : 166 ≤ N)   (σ : f_M) : f_Cal a_MT xs L N 268 [.ref 155] σ ((g_268  σ).bind fun t => some (e_wi t)) := by
  refine f_cal_of (ls := [.ref 155]) MT_268 (Nat.le_of_ble_eq_true rfl) rfl ?_
  unfold g_268
  refine i_aload_n (pc' := 1) (f_at inc_268 (j := 0) rfl) rfl rfl ?_
  refine i_iconst (pc' := 2) (f_at inc_268 (j := 1) rfl) ci_0 rfl ?_
  refine i_putI (pc' := 5) (f_at inc_268 (j := 2) rfl) sh_155 rfl ⟨rfl, rfl⟩ (f_lt (o := 155) (m := 166) (Nat.le_of_ble_eq_true rfl) hN) rfl ?_
  refine i_aload_n (pc' := 6) (f_at inc_268 (j := 3) rfl) rfl rfl ?_
  refine i_iconst (pc' := 7) (f_at inc_268 (j := 4) rfl) ci_2 rfl ?_
  refine c_pi (pc' := 10) (c' := 0) (n' := 0) (h_virt (ra := [.int (2 : Int32), .ref 155]) (r := []) (as := [.int (2 : Int32)]) (f_at inc_268 (j := 5) rfl) (by decide) MT_267 rfl rfl rfl ⟨Nat.le_of_ble_eq_true rfl, Nat.le_of_ble_eq_true rfl, Nat.le_of_ble_eq_true rfl⟩ sh_155 (f_lt (o := 155) (m := 166) (Nat.le_of_ble_eq_true rfl) hN)) MT_267 (G_267 hN (2 : Int32) (f_up σ 155 6 (0 : Int32))) ⟨rfl, rfl, rfl⟩ fun t1 => ?_
  exact i_iret (f_at inc_268 (j := 6) rfl) rfl n_int
set_option maxRecDepth 4000 in
def g_269  (σ : f_M) : Option (Int32) :=
  some (σ 121 12)
set_option maxRecDepth 4000 in
theorem G_269 {xs : Nat → Int32} {L N : Nat} (hN : 155 ≤ N)   (σ : f_M) : f_Cal a_MT xs L N 269 [.ref 0] σ ((g_269  σ).bind fun t => some (e_pi σ t)) := by
  refine f_cal_of (ls := [.ref 0]) MT_269 (Nat.le_of_ble_eq_true rfl) rfl ?_
  unfold g_269
  refine i_aload_n (pc' := 1) (f_at inc_269 (j := 0) rfl) rfl rfl ?_
  refine i_getR (pc' := 4) (f_at inc_269 (j := 1) rfl) sh_0 rfl (f_lt (o := 0) (m := 155) (Nat.le_of_ble_eq_true rfl) hN) rfl ?_
  refine i_getI (pc' := 7) (f_at inc_269 (j := 2) rfl) sh_121 rfl (f_lt (o := 121) (m := 155) (Nat.le_of_ble_eq_true rfl) hN) rfl ?_
  exact i_iret (f_at inc_269 (j := 3) rfl) rfl n_int
set_option maxRecDepth 4000 in
def g_270  (σ : f_M) : Option (Int32 × f_M) :=
  (g_165 (6 : Int32) σ).bind fun t1 =>
  some (t1.1, t1.2)
set_option maxRecDepth 4000 in
theorem G_270 {xs : Nat → Int32} {L N : Nat} (hN : 166 ≤ N)   (σ : f_M) : f_Cal a_MT xs L N 270 [.ref 155] σ ((g_270  σ).bind fun t => some (e_wi t)) := by
  refine f_cal_of (ls := [.ref 155]) MT_270 (Nat.le_of_ble_eq_true rfl) rfl ?_
  unfold g_270
  refine i_aload_n (pc' := 1) (f_at inc_270 (j := 0) rfl) rfl rfl ?_
  refine i_bipush (pc' := 3) (f_at inc_270 (j := 1) rfl) cb_6 rfl ?_
  refine c_wi (pc' := 6) (c' := 0) (n' := 0) (h_virt (ra := [.int (6 : Int32), .ref 155]) (r := []) (as := [.int (6 : Int32)]) (f_at inc_270 (j := 2) rfl) (by decide) MT_165 rfl rfl rfl ⟨Nat.le_of_ble_eq_true rfl, Nat.le_of_ble_eq_true rfl, Nat.le_of_ble_eq_true rfl⟩ sh_155 (f_lt (o := 155) (m := 166) (Nat.le_of_ble_eq_true rfl) hN)) MT_165 (G_165 hN (6 : Int32) σ) ⟨rfl, rfl, rfl⟩ fun t1 => ?_
  exact i_iret (f_at inc_270 (j := 3) rfl) rfl n_int
set_option maxRecDepth 4000 in
def g_271  (σ : f_M) : Option (Int32) :=
  some (σ 121 13)
set_option maxRecDepth 4000 in
theorem G_271 {xs : Nat → Int32} {L N : Nat} (hN : 155 ≤ N)   (σ : f_M) : f_Cal a_MT xs L N 271 [.ref 0] σ ((g_271  σ).bind fun t => some (e_pi σ t)) := by
  refine f_cal_of (ls := [.ref 0]) MT_271 (Nat.le_of_ble_eq_true rfl) rfl ?_
  unfold g_271
  refine i_aload_n (pc' := 1) (f_at inc_271 (j := 0) rfl) rfl rfl ?_
  refine i_getR (pc' := 4) (f_at inc_271 (j := 1) rfl) sh_0 rfl (f_lt (o := 0) (m := 155) (Nat.le_of_ble_eq_true rfl) hN) rfl ?_
  refine i_getI (pc' := 7) (f_at inc_271 (j := 2) rfl) sh_121 rfl (f_lt (o := 121) (m := 155) (Nat.le_of_ble_eq_true rfl) hN) rfl ?_
  exact i_iret (f_at inc_271 (j := 3) rfl) rfl n_int
set_option maxRecDepth 4000 in
def g_272  (σ : f_M) : Option (Int32 × f_M) :=
  (g_165 (7 : Int32) σ).bind fun t1 =>
  some (t1.1, t1.2)
set_option maxRecDepth 4000 in
theorem G_272 {xs : Nat → Int32} {L N : Nat} (hN : 166 ≤ N)   (σ : f_M) : f_Cal a_MT xs L N 272 [.ref 155] σ ((g_272  σ).bind fun t => some (e_wi t)) := by
  refine f_cal_of (ls := [.ref 155]) MT_272 (Nat.le_of_ble_eq_true rfl) rfl ?_
  unfold g_272
  refine i_aload_n (pc' := 1) (f_at inc_272 (j := 0) rfl) rfl rfl ?_
  refine i_bipush (pc' := 3) (f_at inc_272 (j := 1) rfl) cb_7 rfl ?_
  refine c_wi (pc' := 6) (c' := 0) (n' := 0) (h_virt (ra := [.int (7 : Int32), .ref 155]) (r := []) (as := [.int (7 : Int32)]) (f_at inc_272 (j := 2) rfl) (by decide) MT_165 rfl rfl rfl ⟨Nat.le_of_ble_eq_true rfl, Nat.le_of_ble_eq_true rfl, Nat.le_of_ble_eq_true rfl⟩ sh_155 (f_lt (o := 155) (m := 166) (Nat.le_of_ble_eq_true rfl) hN)) MT_165 (G_165 hN (7 : Int32) σ) ⟨rfl, rfl, rfl⟩ fun t1 => ?_
  exact i_iret (f_at inc_272 (j := 3) rfl) rfl n_int
set_option maxRecDepth 4000 in
def g_273  (σ : f_M) : Option (Int32) :=
  some (σ 121 14)
set_option maxRecDepth 4000 in
theorem G_273 {xs : Nat → Int32} {L N : Nat} (hN : 155 ≤ N)   (σ : f_M) : f_Cal a_MT xs L N 273 [.ref 0] σ ((g_273  σ).bind fun t => some (e_pi σ t)) := by
  refine f_cal_of (ls := [.ref 0]) MT_273 (Nat.le_of_ble_eq_true rfl) rfl ?_
  unfold g_273
  refine i_aload_n (pc' := 1) (f_at inc_273 (j := 0) rfl) rfl rfl ?_
  refine i_getR (pc' := 4) (f_at inc_273 (j := 1) rfl) sh_0 rfl (f_lt (o := 0) (m := 155) (Nat.le_of_ble_eq_true rfl) hN) rfl ?_
  refine i_getI (pc' := 7) (f_at inc_273 (j := 2) rfl) sh_121 rfl (f_lt (o := 121) (m := 155) (Nat.le_of_ble_eq_true rfl) hN) rfl ?_
  exact i_iret (f_at inc_273 (j := 3) rfl) rfl n_int
set_option maxRecDepth 4000 in
def g_274  (σ : f_M) : Option (Int32 × f_M) :=
  (g_165 (8 : Int32) σ).bind fun t1 =>
  some (t1.1, t1.2)
set_option maxRecDepth 4000 in
theorem G_274 {xs : Nat → Int32} {L N : Nat} (hN : 166 ≤ N)   (σ : f_M) : f_Cal a_MT xs L N 274 [.ref 155] σ ((g_274  σ).bind fun t => some (e_wi t)) := by
  refine f_cal_of (ls := [.ref 155]) MT_274 (Nat.le_of_ble_eq_true rfl) rfl ?_
  unfold g_274
  refine i_aload_n (pc' := 1) (f_at inc_274 (j := 0) rfl) rfl rfl ?_
  refine i_bipush (pc' := 3) (f_at inc_274 (j := 1) rfl) cb_8 rfl ?_
  refine c_wi (pc' := 6) (c' := 0) (n' := 0) (h_virt (ra := [.int (8 : Int32), .ref 155]) (r := []) (as := [.int (8 : Int32)]) (f_at inc_274 (j := 2) rfl) (by decide) MT_165 rfl rfl rfl ⟨Nat.le_of_ble_eq_true rfl, Nat.le_of_ble_eq_true rfl, Nat.le_of_ble_eq_true rfl⟩ sh_155 (f_lt (o := 155) (m := 166) (Nat.le_of_ble_eq_true rfl) hN)) MT_165 (G_165 hN (8 : Int32) σ) ⟨rfl, rfl, rfl⟩ fun t1 => ?_
  exact i_iret (f_at inc_274 (j := 3) rfl) rfl n_int
set_option maxRecDepth 4000 in
def g_275 (a1 : Int32) (σ : f_M) : Option (Int32) :=
  (f_lp (fun (s1 : Int32 × Int32) =>
   if (σ 121 11) ≤ s1.2 then (
    some (.inr s1.1)
   ) else (
    (f_rd σ 127 20 s1.2).bind fun v2 =>
    (g_91 v2 σ).bind fun t3 =>
    (
     if ¬ t3 = a1 then (
      some s1.1
     ) else (
      (f_rd σ 126 20 v2).bind fun v5 =>
      some (s1.1 + v5)
     )
    ).bind fun (t4 : Int32) =>
    some (.inl (t4, (s1.2 + (1 : Int32))))
   )
  ) f_F ((0 : Int32), (0 : Int32))).bind fun (x1 : Int32) =>
  some x1
set_option maxRecDepth 4000 in
theorem G_275 {xs : Nat → Int32} {L N : Nat} (hN : 155 ≤ N) (a1 : Int32)  (σ : f_M) : f_Cal a_MT xs L N 275 [.ref 102, .int a1] σ ((g_275 a1 σ).bind fun t => some (e_pi σ t)) := by
  refine f_cal_of (ls := [.ref 102, .int a1, a_dead, a_dead, a_dead]) MT_275 (Nat.le_of_ble_eq_true rfl) rfl ?_
  unfold g_275
  refine i_iconst (pc' := 1) (f_at inc_275 (j := 0) rfl) ci_0 rfl ?_
  refine i_istore_n (pc' := 2) (ls' := [.ref 102, .int a1, .int (0 : Int32), a_dead, a_dead]) (f_at inc_275 (j := 1) rfl) (Nat.le_of_ble_eq_true rfl) rfl rfl ?_
  refine i_iconst (pc' := 3) (f_at inc_275 (j := 2) rfl) ci_0 rfl ?_
  refine i_istore_n (pc' := 4) (ls' := [.ref 102, .int a1, .int (0 : Int32), .int (0 : Int32), a_dead]) (f_at inc_275 (j := 3) rfl) (Nat.le_of_ble_eq_true rfl) rfl rfl ?_
  refine s_lX (X := 55) ((0 : Int32), (0 : Int32)) (a_dead) (fun (s1 : Int32 × Int32) (u1 : Value) => [.ref 102, .int a1, .int s1.1, .int s1.2, u1]) (fun (s1 : Int32 × Int32) => σ) (fun (x1 : Int32) (w1 : Value × Value) => [.ref 102, .int a1, .int x1, w1.1, w1.2]) (fun (x1 : Int32) => σ) ?_ ?_
  · intro x1 w1
    refine i_iload_n (pc' := 56) (f_at inc_275 (j := 30) rfl) rfl rfl ?_
    exact i_iret (f_at inc_275 (j := 31) rfl) rfl n_int
  · intro s1 u1 k1 hb1 hx1
    refine i_iload_n (pc' := 5) (f_at inc_275 (j := 4) rfl) rfl rfl ?_
    refine i_aload_n (pc' := 6) (f_at inc_275 (j := 5) rfl) rfl rfl ?_
    refine i_getR (pc' := 9) (f_at inc_275 (j := 6) rfl) sh_102 rfl (f_lt (o := 102) (m := 155) (Nat.le_of_ble_eq_true rfl) hN) rfl ?_
    refine i_getI (pc' := 12) (f_at inc_275 (j := 7) rfl) sh_121 rfl (f_lt (o := 121) (m := 155) (Nat.le_of_ble_eq_true rfl) hN) rfl ?_
    refine i_if2 (pc' := 55) (nx := 15) c2_ge (f_at inc_275 (j := 8) rfl) ⟨by decide, rfl⟩ (fun b7 => ?_) (fun b7 => ?_)
    · exact hx1 s1.1 (.int s1.2, u1)
    · refine i_aload_n (pc' := 16) (f_at inc_275 (j := 9) rfl) rfl rfl ?_
      refine i_getR (pc' := 19) (f_at inc_275 (j := 10) rfl) sh_102 rfl (f_lt (o := 102) (m := 155) (Nat.le_of_ble_eq_true rfl) hN) rfl ?_
      refine i_getR (pc' := 22) (f_at inc_275 (j := 11) rfl) sh_121 rfl (f_lt (o := 121) (m := 155) (Nat.le_of_ble_eq_true rfl) hN) rfl ?_
      refine i_iload_n (pc' := 23) (f_at inc_275 (j := 12) rfl) rfl rfl ?_
      refine i_iald (pc' := 24) (f_at inc_275 (j := 13) rfl) sh_127 (f_bg (Nat.le_of_ble_eq_true rfl)) (f_lt (o := 127) (m := 155) (Nat.le_of_ble_eq_true rfl) hN) rfl fun v2 => ?_
      refine i_istore (pc' := 26) (ls' := [.ref 102, .int a1, .int s1.1, .int s1.2, .int v2]) (f_at inc_275 (j := 14) rfl) (Nat.le_of_ble_eq_true rfl) rfl rfl ?_
      refine i_aload_n (pc' := 27) (f_at inc_275 (j := 15) rfl) rfl rfl ?_
      refine i_iload (pc' := 29) (f_at inc_275 (j := 16) rfl) rfl rfl ?_
      refine c_pi (pc' := 32) (c' := 0) (n' := 0) (h_virt (ra := [.int v2, .ref 102]) (r := []) (as := [.int v2]) (f_at inc_275 (j := 17) rfl) (by decide) MT_91 rfl rfl rfl ⟨Nat.le_of_ble_eq_true rfl, Nat.le_of_ble_eq_true rfl, Nat.le_of_ble_eq_true rfl⟩ sh_102 (f_lt (o := 102) (m := 155) (Nat.le_of_ble_eq_true rfl) hN)) MT_91 (G_91 hN v2 σ) ⟨rfl, rfl, rfl⟩ fun t3 => ?_
      refine i_iload_n (pc' := 33) (f_at inc_275 (j := 18) rfl) rfl rfl ?_
      refine s_join (J := 49) (fun (t4 : Int32) (u4 : Unit) => [.ref 102, .int a1, .int t4, .int s1.2, .int v2]) (fun t4 => []) (fun t4 => σ) ?_ ?_
      · intro t4 u4
        refine i_iinc (pc' := 52) (ls' := [.ref 102, .int a1, .int t4, .int (s1.2 + (1 : Int32)), .int v2]) (f_at inc_275 (j := 28) rfl) rfl ci_1 rfl rfl ?_
        refine i_goto (pc' := 4) (f_at inc_275 (j := 29) rfl) (by decide) ?_
        exact hb1 (t4, (s1.2 + (1 : Int32))) (.int v2)
      · intro k4 hj4
        refine i_if2 (pc' := 49) (nx := 36) c2_ne (f_at inc_275 (j := 19) rfl) ⟨by decide, rfl⟩ (fun b6 => ?_) (fun b6 => ?_)
        · exact hj4 s1.1 ()
        · refine i_iload_n (pc' := 37) (f_at inc_275 (j := 20) rfl) rfl rfl ?_
          refine i_aload_n (pc' := 38) (f_at inc_275 (j := 21) rfl) rfl rfl ?_
          refine i_getR (pc' := 41) (f_at inc_275 (j := 22) rfl) sh_102 rfl (f_lt (o := 102) (m := 155) (Nat.le_of_ble_eq_true rfl) hN) rfl ?_
          refine i_getR (pc' := 44) (f_at inc_275 (j := 23) rfl) sh_121 rfl (f_lt (o := 121) (m := 155) (Nat.le_of_ble_eq_true rfl) hN) rfl ?_
          refine i_iload (pc' := 46) (f_at inc_275 (j := 24) rfl) rfl rfl ?_
          refine i_iald (pc' := 47) (f_at inc_275 (j := 25) rfl) sh_126 (f_bg (Nat.le_of_ble_eq_true rfl)) (f_lt (o := 126) (m := 155) (Nat.le_of_ble_eq_true rfl) hN) rfl fun v5 => ?_
          refine i_iadd (pc' := 48) (f_at inc_275 (j := 26) rfl) rfl ?_
          refine i_istore_n (pc' := 49) (ls' := [.ref 102, .int a1, .int (s1.1 + v5), .int s1.2, .int v2]) (f_at inc_275 (j := 27) rfl) (Nat.le_of_ble_eq_true rfl) rfl rfl ?_
          exact hj4 (s1.1 + v5) ()
set_option maxRecDepth 4000 in
def g_276  (σ : f_M) : Option (Int32) :=
  (f_lp (fun (s1 : Int32 × Int32 × Int32) =>
   if (σ 103 0) ≤ s1.2.2 then (
    some (.inr s1.1)
   ) else (
    (g_275 s1.2.2 σ).bind fun t2 =>
    (
     if t2 ≤ s1.2.1 then (
      some (s1.1, s1.2.1)
     ) else (
      some (s1.2.2, t2)
     )
    ).bind fun (t3 : Int32 × Int32) =>
    some (.inl (t3.1, t3.2, (s1.2.2 + (1 : Int32))))
   )
  ) f_F ((0 : Int32), (0 : Int32), (0 : Int32))).bind fun (x1 : Int32) =>
  some x1
set_option maxRecDepth 4000 in
theorem G_276 {xs : Nat → Int32} {L N : Nat} (hN : 155 ≤ N)   (σ : f_M) : f_Cal a_MT xs L N 276 [.ref 0] σ ((g_276  σ).bind fun t => some (e_pi σ t)) := by
  refine f_cal_of (ls := [.ref 0, a_dead, a_dead, a_dead, a_dead]) MT_276 (Nat.le_of_ble_eq_true rfl) rfl ?_
  unfold g_276
  refine i_iconst (pc' := 1) (f_at inc_276 (j := 0) rfl) ci_0 rfl ?_
  refine i_istore_n (pc' := 2) (ls' := [.ref 0, .int (0 : Int32), a_dead, a_dead, a_dead]) (f_at inc_276 (j := 1) rfl) (Nat.le_of_ble_eq_true rfl) rfl rfl ?_
  refine i_iconst (pc' := 3) (f_at inc_276 (j := 2) rfl) ci_0 rfl ?_
  refine i_istore_n (pc' := 4) (ls' := [.ref 0, .int (0 : Int32), .int (0 : Int32), a_dead, a_dead]) (f_at inc_276 (j := 3) rfl) (Nat.le_of_ble_eq_true rfl) rfl rfl ?_
  refine i_iconst (pc' := 5) (f_at inc_276 (j := 4) rfl) ci_0 rfl ?_
  refine i_istore_n (pc' := 6) (ls' := [.ref 0, .int (0 : Int32), .int (0 : Int32), .int (0 : Int32), a_dead]) (f_at inc_276 (j := 5) rfl) (Nat.le_of_ble_eq_true rfl) rfl rfl ?_
  refine s_lX (X := 44) ((0 : Int32), (0 : Int32), (0 : Int32)) (a_dead) (fun (s1 : Int32 × Int32 × Int32) (u1 : Value) => [.ref 0, .int s1.1, .int s1.2.1, .int s1.2.2, u1]) (fun (s1 : Int32 × Int32 × Int32) => σ) (fun (x1 : Int32) (w1 : Value × Value × Value) => [.ref 0, .int x1, w1.1, w1.2.1, w1.2.2]) (fun (x1 : Int32) => σ) ?_ ?_
  · intro x1 w1
    refine i_iload_n (pc' := 45) (f_at inc_276 (j := 25) rfl) rfl rfl ?_
    exact i_iret (f_at inc_276 (j := 26) rfl) rfl n_int
  · intro s1 u1 k1 hb1 hx1
    refine i_iload_n (pc' := 7) (f_at inc_276 (j := 6) rfl) rfl rfl ?_
    refine i_aload_n (pc' := 8) (f_at inc_276 (j := 7) rfl) rfl rfl ?_
    refine i_getR (pc' := 11) (f_at inc_276 (j := 8) rfl) sh_0 rfl (f_lt (o := 0) (m := 155) (Nat.le_of_ble_eq_true rfl) hN) rfl ?_
    refine i_getI (pc' := 14) (f_at inc_276 (j := 9) rfl) sh_103 rfl (f_lt (o := 103) (m := 155) (Nat.le_of_ble_eq_true rfl) hN) rfl ?_
    refine i_if2 (pc' := 44) (nx := 17) c2_ge (f_at inc_276 (j := 10) rfl) ⟨by decide, rfl⟩ (fun b5 => ?_) (fun b5 => ?_)
    · exact hx1 s1.1 (.int s1.2.1, .int s1.2.2, u1)
    · refine i_aload_n (pc' := 18) (f_at inc_276 (j := 11) rfl) rfl rfl ?_
      refine i_getR (pc' := 21) (f_at inc_276 (j := 12) rfl) sh_0 rfl (f_lt (o := 0) (m := 155) (Nat.le_of_ble_eq_true rfl) hN) rfl ?_
      refine i_iload_n (pc' := 22) (f_at inc_276 (j := 13) rfl) rfl rfl ?_
      refine c_pi (pc' := 25) (c' := 0) (n' := 0) (h_virt (ra := [.int s1.2.2, .ref 102]) (r := []) (as := [.int s1.2.2]) (f_at inc_276 (j := 14) rfl) (by decide) MT_275 rfl rfl rfl ⟨Nat.le_of_ble_eq_true rfl, Nat.le_of_ble_eq_true rfl, Nat.le_of_ble_eq_true rfl⟩ sh_102 (f_lt (o := 102) (m := 155) (Nat.le_of_ble_eq_true rfl) hN)) MT_275 (G_275 hN s1.2.2 σ) ⟨rfl, rfl, rfl⟩ fun t2 => ?_
      refine i_istore (pc' := 27) (ls' := [.ref 0, .int s1.1, .int s1.2.1, .int s1.2.2, .int t2]) (f_at inc_276 (j := 15) rfl) (Nat.le_of_ble_eq_true rfl) rfl rfl ?_
      refine i_iload (pc' := 29) (f_at inc_276 (j := 16) rfl) rfl rfl ?_
      refine i_iload_n (pc' := 30) (f_at inc_276 (j := 17) rfl) rfl rfl ?_
      refine s_join (J := 38) (fun (t3 : Int32 × Int32) (u3 : Unit) => [.ref 0, .int t3.1, .int t3.2, .int s1.2.2, .int t2]) (fun t3 => []) (fun t3 => σ) ?_ ?_
      · intro t3 u3
        refine i_iinc (pc' := 41) (ls' := [.ref 0, .int t3.1, .int t3.2, .int (s1.2.2 + (1 : Int32)), .int t2]) (f_at inc_276 (j := 23) rfl) rfl ci_1 rfl rfl ?_
        refine i_goto (pc' := 6) (f_at inc_276 (j := 24) rfl) (by decide) ?_
        exact hb1 (t3.1, t3.2, (s1.2.2 + (1 : Int32))) (.int t2)
      · intro k3 hj3
        refine i_if2 (pc' := 38) (nx := 33) c2_le (f_at inc_276 (j := 18) rfl) ⟨by decide, rfl⟩ (fun b4 => ?_) (fun b4 => ?_)
        · exact hj3 (s1.1, s1.2.1) ()
        · refine i_iload_n (pc' := 34) (f_at inc_276 (j := 19) rfl) rfl rfl ?_
          refine i_istore_n (pc' := 35) (ls' := [.ref 0, .int s1.2.2, .int s1.2.1, .int s1.2.2, .int t2]) (f_at inc_276 (j := 20) rfl) (Nat.le_of_ble_eq_true rfl) rfl rfl ?_
          refine i_iload (pc' := 37) (f_at inc_276 (j := 21) rfl) rfl rfl ?_
          refine i_istore_n (pc' := 38) (ls' := [.ref 0, .int s1.2.2, .int t2, .int s1.2.2, .int t2]) (f_at inc_276 (j := 22) rfl) (Nat.le_of_ble_eq_true rfl) rfl rfl ?_
          exact hj3 (s1.2.2, t2) ()
set_option maxRecDepth 4000 in
def g_277  (σ : f_M) : Option (Int32 × f_M) :=
  (f_lp (fun (s1 : Int32 × Int32) =>
   (f_rd (f_up σ 155 6 (0 : Int32)) 156 2420 (2 : Int32)).bind fun v2 =>
   if v2 ≤ s1.2 then (
    some (.inr s1.1)
   ) else (
    (g_36 s1.2 (f_up σ 155 6 (0 : Int32))).bind fun t3 =>
    (f_rd (f_up σ 155 6 (0 : Int32)) 156 2420 (t3 + (8 : Int32))).bind fun v4 =>
    (g_36 s1.1 (f_up σ 155 6 (0 : Int32))).bind fun t5 =>
    (f_rd (f_up σ 155 6 (0 : Int32)) 156 2420 (t5 + (8 : Int32))).bind fun v6 =>
    (
     if v4 ≤ v6 then (
      some s1.1
     ) else (
      some s1.2
     )
    ).bind fun (t7 : Int32) =>
    some (.inl (t7, (s1.2 + (1 : Int32))))
   )
  ) f_F ((0 : Int32), (1 : Int32))).bind fun (x1 : Int32) =>
  some (x1, (f_up σ 155 6 (0 : Int32)))
set_option maxRecDepth 4000 in
theorem G_277 {xs : Nat → Int32} {L N : Nat} (hN : 166 ≤ N)   (σ : f_M) : f_Cal a_MT xs L N 277 [.ref 155] σ ((g_277  σ).bind fun t => some (e_wi t)) := by
  refine f_cal_of (ls := [.ref 155, a_dead, a_dead]) MT_277 (Nat.le_of_ble_eq_true rfl) rfl ?_
  unfold g_277
  refine i_aload_n (pc' := 1) (f_at inc_277 (j := 0) rfl) rfl rfl ?_
  refine i_iconst (pc' := 2) (f_at inc_277 (j := 1) rfl) ci_0 rfl ?_
  refine i_putI (pc' := 5) (f_at inc_277 (j := 2) rfl) sh_155 rfl ⟨rfl, rfl⟩ (f_lt (o := 155) (m := 166) (Nat.le_of_ble_eq_true rfl) hN) rfl ?_
  refine i_iconst (pc' := 6) (f_at inc_277 (j := 3) rfl) ci_0 rfl ?_
  refine i_istore_n (pc' := 7) (ls' := [.ref 155, .int (0 : Int32), a_dead]) (f_at inc_277 (j := 4) rfl) (Nat.le_of_ble_eq_true rfl) rfl rfl ?_
  refine i_iconst (pc' := 8) (f_at inc_277 (j := 5) rfl) ci_1 rfl ?_
  refine i_istore_n (pc' := 9) (ls' := [.ref 155, .int (0 : Int32), .int (1 : Int32)]) (f_at inc_277 (j := 6) rfl) (Nat.le_of_ble_eq_true rfl) rfl rfl ?_
  refine s_lX (X := 54) ((0 : Int32), (1 : Int32)) () (fun (s1 : Int32 × Int32) (u1 : Unit) => [.ref 155, .int s1.1, .int s1.2]) (fun (s1 : Int32 × Int32) => (f_up σ 155 6 (0 : Int32))) (fun (x1 : Int32) (w1 : Value) => [.ref 155, .int x1, w1]) (fun (x1 : Int32) => (f_up σ 155 6 (0 : Int32))) ?_ ?_
  · intro x1 w1
    refine i_iload_n (pc' := 55) (f_at inc_277 (j := 32) rfl) rfl rfl ?_
    exact i_iret (f_at inc_277 (j := 33) rfl) rfl n_int
  · intro s1 u1 k1 hb1 hx1
    refine i_iload_n (pc' := 10) (f_at inc_277 (j := 7) rfl) rfl rfl ?_
    refine i_aload_n (pc' := 11) (f_at inc_277 (j := 8) rfl) rfl rfl ?_
    refine i_getR (pc' := 14) (f_at inc_277 (j := 9) rfl) sh_155 rfl (f_lt (o := 155) (m := 166) (Nat.le_of_ble_eq_true rfl) hN) rfl ?_
    refine i_iconst (pc' := 15) (f_at inc_277 (j := 10) rfl) ci_2 rfl ?_
    refine i_iald (pc' := 16) (f_at inc_277 (j := 11) rfl) sh_156 (f_bg (Nat.le_of_ble_eq_true rfl)) (f_lt (o := 156) (m := 166) (Nat.le_of_ble_eq_true rfl) hN) rfl fun v2 => ?_
    refine i_if2 (pc' := 54) (nx := 19) c2_ge (f_at inc_277 (j := 12) rfl) ⟨by decide, rfl⟩ (fun b9 => ?_) (fun b9 => ?_)
    · exact hx1 s1.1 (.int s1.2)
    · refine i_aload_n (pc' := 20) (f_at inc_277 (j := 13) rfl) rfl rfl ?_
      refine i_getR (pc' := 23) (f_at inc_277 (j := 14) rfl) sh_155 rfl (f_lt (o := 155) (m := 166) (Nat.le_of_ble_eq_true rfl) hN) rfl ?_
      refine i_iload_n (pc' := 24) (f_at inc_277 (j := 15) rfl) rfl rfl ?_
      refine c_pi (pc' := 27) (c' := 0) (n' := 0) (h_stat (ra := [.int s1.2]) (r := [.ref 156]) (as := [.int s1.2]) (f_at inc_277 (j := 16) rfl) (by decide) MT_36 rfl rfl rfl ⟨Nat.le_of_ble_eq_true rfl, Nat.le_of_ble_eq_true rfl, Nat.le_of_ble_eq_true rfl⟩) MT_36 (G_36 hN s1.2 (f_up σ 155 6 (0 : Int32))) ⟨rfl, rfl, rfl⟩ fun t3 => ?_
      refine i_bipush (pc' := 29) (f_at inc_277 (j := 17) rfl) cb_8 rfl ?_
      refine i_iadd (pc' := 30) (f_at inc_277 (j := 18) rfl) rfl ?_
      refine i_iald (pc' := 31) (f_at inc_277 (j := 19) rfl) sh_156 (f_bg (Nat.le_of_ble_eq_true rfl)) (f_lt (o := 156) (m := 166) (Nat.le_of_ble_eq_true rfl) hN) rfl fun v4 => ?_
      refine i_aload_n (pc' := 32) (f_at inc_277 (j := 20) rfl) rfl rfl ?_
      refine i_getR (pc' := 35) (f_at inc_277 (j := 21) rfl) sh_155 rfl (f_lt (o := 155) (m := 166) (Nat.le_of_ble_eq_true rfl) hN) rfl ?_
      refine i_iload_n (pc' := 36) (f_at inc_277 (j := 22) rfl) rfl rfl ?_
      refine c_pi (pc' := 39) (c' := 0) (n' := 0) (h_stat (ra := [.int s1.1]) (r := [.ref 156, .int v4]) (as := [.int s1.1]) (f_at inc_277 (j := 23) rfl) (by decide) MT_36 rfl rfl rfl ⟨Nat.le_of_ble_eq_true rfl, Nat.le_of_ble_eq_true rfl, Nat.le_of_ble_eq_true rfl⟩) MT_36 (G_36 hN s1.1 (f_up σ 155 6 (0 : Int32))) ⟨rfl, rfl, rfl⟩ fun t5 => ?_
      refine i_bipush (pc' := 41) (f_at inc_277 (j := 24) rfl) cb_8 rfl ?_
      refine i_iadd (pc' := 42) (f_at inc_277 (j := 25) rfl) rfl ?_
      refine i_iald (pc' := 43) (f_at inc_277 (j := 26) rfl) sh_156 (f_bg (Nat.le_of_ble_eq_true rfl)) (f_lt (o := 156) (m := 166) (Nat.le_of_ble_eq_true rfl) hN) rfl fun v6 => ?_
      refine s_join (J := 48) (fun (t7 : Int32) (u7 : Unit) => [.ref 155, .int t7, .int s1.2]) (fun t7 => []) (fun t7 => (f_up σ 155 6 (0 : Int32))) ?_ ?_
      · intro t7 u7
        refine i_iinc (pc' := 51) (ls' := [.ref 155, .int t7, .int (s1.2 + (1 : Int32))]) (f_at inc_277 (j := 30) rfl) rfl ci_1 rfl rfl ?_
        refine i_goto (pc' := 9) (f_at inc_277 (j := 31) rfl) (by decide) ?_
        exact hb1 (t7, (s1.2 + (1 : Int32))) ()
      · intro k7 hj7
        refine i_if2 (pc' := 48) (nx := 46) c2_le (f_at inc_277 (j := 27) rfl) ⟨by decide, rfl⟩ (fun b8 => ?_) (fun b8 => ?_)
        · exact hj7 s1.1 ()
        · refine i_iload_n (pc' := 47) (f_at inc_277 (j := 28) rfl) rfl rfl ?_
          refine i_istore_n (pc' := 48) (ls' := [.ref 155, .int s1.2, .int s1.2]) (f_at inc_277 (j := 29) rfl) (Nat.le_of_ble_eq_true rfl) rfl rfl ?_
          exact hj7 s1.2 ()
