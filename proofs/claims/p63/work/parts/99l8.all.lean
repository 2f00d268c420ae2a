/-! The law's walk out of a run from behind toString. -/
def w_tx (xs : Nat → Int32) (L : Nat) : List Int32 := w_rt (w_r (w_cell xs L 0)) ++ w_ht xs L (w_hc (w_cell xs L 0)) ++ w_at (w_cell xs L 0) (w_ac (w_cell xs L 0))
def w_sg (xs : Nat → Int32) (L : Nat) (σc : f_M) : f_M := w_ms (w_cell xs L 0) (w_mb xs L (w_m0 (w_cell xs L 0) σc) (w_hc (w_cell xs L 0))) (w_ac (w_cell xs L 0))
theorem w_m0_o {x : Int32} {σc : f_M} {r : Nat} (hr : r < 155) : w_m0 x σc r = σc r := by
  have h1 : r ≠ 155 := by omega
  unfold w_m0 f_up
  rw [row_ne h1, row_ne h1, row_ne h1]
  exact if_pos hr
theorem w_sg_o {xs : Nat → Int32} {L : Nat} {σc : f_M} {r : Nat} (hr : r < 155) : w_sg xs L σc r = σc r := by
  unfold w_sg
  rw [w_ms_o _ (by omega), w_mb_o _ (by omega), w_m0_o hr]
theorem w_m0_22 {x : Int32} {σc : f_M} : w_m0 x σc 155 22 = nI (w_hc x) ∧ w_m0 x σc 155 23 = nI (w_ac x) := by
  unfold w_m0 f_up
  rw [row_same, row_same, row_same]
  exact ⟨rfl, rfl⟩
theorem w_whole {p : Program} {e : Env} {s : State} {m : MethodId} {below : List Frame} {meth : Method} {c : Code} (l : Launch) (hflags : l.flags = flags0) {b L : Nat} {xs : Nat → Int32} (C0 : lw_At p s m meth c b L xs) (hL : L ≤ 260) (ht7 : a_tn xs = 7) {σc : f_M} (h0 : g_34 f_s0 = some σc) (h3 : (σc 3 0).toNatClampNeg < 181)
    (run : ∀ c' n', 599700 ≤ c' → 7285000 ≤ n' → ∃ hz, f_ok a_MT (w_xs xs (w_tx xs L)) L md_137 229 (w_l2 (w_cell xs L 0) (w_ac (w_cell xs L 0))) [.ref (a_big + 8), .ref 0] (f_hp 181 (w_sg xs L σc)) c' n' (.inl (some (.int 1)), hz)) :
    W p l e room_1 s m #[Value.ref b] below meth c s.heap [] 0 0 (lw_Z below #[Value.ref b] s) (entryFrame m ([Value.ref b] : List Value).toArray 6) := by
  have hl := lw_lt l hflags
  refine a_start (q := md_137) l C0 ht7 rfl rfl (fun D ad X => ?_)
  obtain ⟨hx, hb, hr, hml, hown, hts, hX, hbl, hlocks, hgv⟩ := C0
  obtain ⟨k1, k2, -⟩ := w_hc_ok (w_cell xs L 0)
  obtain ⟨k3, k4, -⟩ := w_ac_ok (w_cell xs L 0)
  obtain ⟨t0, S0, G0⟩ := w_head (xs := xs) (L := L) h0 (by omega)
  obtain ⟨t1, c', n', S1, b1, b2, b3, b4, G1⟩ := w_tail (x := w_cell xs L 0) (xs := xs) (L := L) (c := 599814) (n := 7292015) k2 k4 w_m0_22.1 w_m0_22.2 S0 (w_rt_l _) (by omega) (by omega) (by omega)
  obtain ⟨F, d, f, e9⟩ := g_tr G0 G1
  refine a_goG (K := a_run a_MT xs L F d) X rfl a_law_ok (by decide) (by decide) (fun i y vs h r1 h1 hy hz => a_cons hl a_MT_ok d i y vs h r1 h1 hy hz) f _ _ e9 ?_
  show a_G p l e room_1 s s.heap m #[Value.ref b] below meth c (lw_Z below #[Value.ref b] s) D (fun x => s.heap.size ≤ x) 6 ad 0 226 (w_ls (w_cell xs L 0) (w_ac (w_cell xs L 0))) [.ref 181, .ref 0] (f_hp 181 (w_sg xs L σc) ++ t1) c' n'
  refine w_sw (tx := w_tx xs L) X hts ⟨by decide, by decide⟩ (by decide +kernel) (fun q h => h) ht7 (by omega) S1 (by rw [w_sg_o (by decide)]; exact h3) (by omega) (by omega) (fun H' A' ad' X' hA' hH' => ?_)
  obtain ⟨hz, F2, d2, f2, e2⟩ := run (c' - 2) (n' - 200) (by omega) (by omega)
  exact a_fin l hflags hr hlocks X' hA' hH' a_MT_ok a_law_ok a_law_q e2
