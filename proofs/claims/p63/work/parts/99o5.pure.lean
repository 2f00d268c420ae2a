/-! All that the law's walk rests on: the constructor, the text, the setup, the acts. -/
theorem C_load {σ : f_M} {xs : Nat → Int32} {L : Nat} (h01 : σ 0 1 = nI (w_tx xs L).length) (ht : ∀ i, i < (w_tx xs L).length → σ 1 i = (w_tx xs L).getD i 0) (b : fb σ) (h44 : σ 44 1 = nI 0) :
    ∃ σ2 s, g_33 σ = some (nI (w_hc (w_cell xs L 0)), σ2) ∧ LC σ2 s 0 0 (w_hc (w_cell xs L 0)) (w_ac (w_cell xs L 0)) 0 0 ∧ kAll s 0 0 (w_hc (w_cell xs L 0)) (w_ac (w_cell xs L 0)) 0 0 (fun _ => 0) 0 0 ∧ (s 0 = nI 0 ∧ s 1 = nI (w_r (w_cell xs L 0)) ∧ s 6 = nI 0 ∧ s 7 = nI 0 ∧ s 8 = nI 0 ∧ s 10 = nI 0) ∧ (∀ h, h < w_hc (w_cell xs L 0) → s (20 + 9 * h + 7) = nI (w_b xs L h) ∧ s (20 + 9 * h + 8) = nI 0) ∧ (∀ j, j < w_ac (w_cell xs L 0) → s (95 + j) = nI (w_s (w_cell xs L 0) j)) ∧ ∀ r, 155 ≤ r → σ2 r = σ r := by
  have hl100 := w_tx_l xs L
  obtain ⟨hc1, hc4, -⟩ := w_hc_ok (w_cell xs L 0)
  obtain ⟨ac1, ac3, -⟩ := w_ac_ok (w_cell xs L 0)
  obtain ⟨σ0, c0, ⟨y0, y1, y2, y3, y4, y5⟩, p0, z1, z0, zr⟩ := C_9 h01 (by omega)
  have x : cX (fun i => (w_tx xs L).getD i 0) (w_tx xs L).length σ0 := ⟨y0, y1, y2, fun i hi => (y3 i hi).trans (ht i hi), y4, y5⟩
  have b0 : fb σ0 := fb_keep b (zr 7 (by omega) (by omega))
  obtain ⟨σ', s3, c3, d, sf, e1, eb, es3⟩ := C_read x p0 b0
  generalize w_hc (w_cell xs L 0) = hc at *
  generalize w_ac (w_cell xs L 0) = ac at *
  have K := K_open d hc1 ac1
  have es : ∀ k, k ≠ 9 → s_open s3 hc k = s3 k := fun k h => upd_ne h
  obtain ⟨σ5, c5, ⟨b0', b4, b6⟩, b8, b48, b3, bz, bres, bf⟩ := C_begin (σ := σ') d.2.2.2.2.2.2
  have w : ∀ r, r ≠ 0 → r ≠ 44 → (r < 103 ∨ 107 < r) → r ≠ 121 → r ≠ 122 → f_up (f_up σ5 44 2 (0 : Int32)) 0 15 (0 : Int32) r = σ' r := fun r h1 h2 h3 h4 h5 => by
    rw [up_rows h1, up_rows h2, bf r (by omega) (by omega) (by omega) (by omega) (by omega) (by omega) (by omega)]
  refine ⟨f_up (f_up σ5 44 2 (0 : Int32)) 0 15 (0 : Int32), s_open s3 hc, ?_, ⟨fun _ => 0, 0, 0, 0, 0, fun _ _ => 0, ⟨K, ⟨fun t ht => absurd ht (by omega), fun p hp => absurd hp (by omega), fun c hc => absurd hc (by omega)⟩, ⟨⟨?_, ?_, ?_, ?_, ?_, ?_, ?_, ?_, ?_⟩, fun h hh => ?_, fun p hp => absurd hp (by omega), fun c hc => absurd hc (by omega), fun i hi => absurd hi (by omega)⟩, ⟨⟨?_, ?_⟩, fun x hx => ?_, fun h hh => ?_, ?_⟩⟩, ⟨fun _ => 0, fun _ => 0, fun _ => 0, fun _ => 0, fun _ => 0, fun _ _ => 0, ⟨?_, ?_, by omega, by omega⟩, fun i hi => absurd hi (by omega), fun i j _ hi => absurd hi (by omega), fun i hi => absurd hi (by omega)⟩⟩, K, ⟨?_, ?_, ?_, ?_, ?_, ?_⟩, fun h hh => ⟨?_, ?_⟩, fun j hj => ?_, fun r hr => ?_⟩
  · unfold g_33
    rw [c0, bnd, c3, bnd, if_pos rfl, c5, bnd]
    unfold g_32
    rw [bnd, up_rows (by omega), up_rows (by omega), b0', d.1.1]
  · show _ = s_open s3 hc 0
    rw [up_rows (by omega), up_rows (by omega), bz 0 (by omega), es 0 (by omega), d.2.2.2.2.2.1.1 0 (by omega)]
  · show _ = s_open s3 hc 1
    rw [up_rows (by omega), up_rows (by omega), bres, es 1 (by omega), d.2.2.1.1]
  · show _ = s_open s3 hc 4
    rw [up_rows (by omega), up_rows (by omega), bz 3 (by omega), es 4 (by omega), d.2.2.2.2.2.1.1 4 (by omega)]
  · show _ = s_open s3 hc 5
    rw [up_rows (by omega), up_rows (by omega), bz 5 (by omega), es 5 (by omega), d.2.2.2.2.2.1.1 5 (by omega)]
  · rw [up_rows (by omega), up_rows (by omega), bz 10 (by omega)]
  · rw [up_rows (by omega), up_rows (by omega), bz 11 (by omega)]
  · show _ = s_open s3 hc 6
    rw [up_rows (by omega), up_rows (by omega), bz 12 (by omega), es 6 (by omega), d.2.2.2.2.2.1.1 6 (by omega)]
  · show _ = s_open s3 hc 7
    rw [up_rows (by omega), up_rows (by omega), bz 13 (by omega), es 7 (by omega), d.2.2.2.2.2.1.1 7 (by omega)]
  · show _ = s_open s3 hc 8
    rw [up_rows (by omega), up_rows (by omega), bz 14 (by omega), es 8 (by omega), d.2.2.2.2.2.1.1 8 (by omega)]
  · show _ = s_open s3 hc (20 + 9 * h + 7)
    rw [up_rows (by omega), up_rows (by omega), (b8 h (by omega)).2.2, es _ (by omega), (d.2.2.2.2.1 h hh).2.1]
  · show _ = s_open s3 hc 2
    rw [up_rows (by omega), up_rows (by omega), b0', d.1.1, es 2 (by omega), d.1.2.1]
  · show _ = s_open s3 hc 3
    rw [up_rows (by omega), up_rows (by omega), b4, d.2.1.1, es 3 (by omega), d.2.1.2.1]
  · show _ = s_open s3 hc (95 + x)
    rw [up_rows (by omega), up_rows (by omega), b3 x (by omega), es _ (by omega), (d.2.2.2.1 x hx).1]
  · obtain ⟨⟨n, n1, n2, n3, n4, n5⟩, -⟩ := d.2.2.2.2.1 h hh
    show _ = s_open s3 hc (20 + 9 * h + 0) ∧ ∀ k, k < nat (s_open s3 hc (20 + 9 * h + 0)) → _ = s_open s3 hc (20 + 9 * h + 1 + k)
    rw [up_rows (by omega), up_rows (by omega), up_rows (by omega), up_rows (by omega), (b8 h (by omega)).1, n3]
    rw [show s_open s3 hc (20 + 9 * h + 0) = nI n from (es _ (by omega)).trans n4, nat_n (by omega)]
    refine ⟨rfl, fun k hk => ?_⟩
    rw [b48 _ (by omega), es _ (by omega), (n5 k hk).1]
  · show s_open s3 hc 9 = _
    rw [show s_open s3 hc 9 = s3 1 + sumI (fun h => s3 (20 + 9 * h + 7)) hc from upd_same, up_rows (by omega), up_rows (by omega), b6, d.2.2.1.1]
    refine congrArg (fun z => s3 1 + z) (sumI_congr fun h hh => ?_)
    rw [up_rows (by omega), up_rows (by omega), (b8 h (by omega)).2.1, (d.2.2.2.2.1 h hh).2.1]
  · rw [up_rows (by omega), up_same]; rfl
  · rw [up_rows (by omega), up_ix (by omega), bf 44 (by omega) (by omega) (by omega) (by omega) (by omega) (by omega) (by omega), sf 44 (by omega), zr 44 (by omega) (by omega)]; exact h44
  · rw [es 0 (by omega)]; exact d.2.2.2.2.2.1.1 0 (by omega)
  · rw [es 1 (by omega)]; exact e1
  · rw [es 6 (by omega)]; exact d.2.2.2.2.2.1.1 6 (by omega)
  · rw [es 7 (by omega)]; exact d.2.2.2.2.2.1.1 7 (by omega)
  · rw [es 8 (by omega)]; exact d.2.2.2.2.2.1.1 8 (by omega)
  · rw [es 10 (by omega)]; exact d.2.2.2.2.2.1.1 10 (by omega)
  · rw [es _ (by omega)]; exact eb h hh
  · rw [es _ (by omega)]; exact d.2.2.2.2.2.1.2 h (by omega)
  · rw [es _ (by omega)]; exact es3 j hj
  · rw [w r (by omega) (by omega) (by omega) (by omega) (by omega), sf r (by omega), zr r (by omega) (by omega)]
theorem L_ctor : ∃ σc, g_34 f_s0 = some σc ∧ σc 3 0 = 1 ∧ fb σc ∧ σc 0 1 = nI 0 ∧ σc 44 1 = nI 0 := by
  obtain ⟨x1, l1, l2, l3, l4, l5⟩ := L_34
  obtain ⟨τ', m1, m2, m3, m4⟩ := load_0
  have b : fb x1 := fun i hi => by
    rw [l5 7 (by omega) (by omega)]
    rfl
  have tx : tX x1 τ00 78 := ⟨l2, rfl, by omega, fun i hi => by rw [l3 i hi]; rfl⟩
  rcases P_load b tx with ⟨hc, ac, σ1, τ2, c1, n1, S, ⟨w1, w2, w3, w4⟩, F⟩ | ⟨σ1, τ2, c1, n1, -⟩
  · obtain ⟨b', ⟨t1, t2⟩, ⟨e1, e2⟩, ⟨o1, o2, o3, o4⟩, -⟩ := F
    have g34 : g_34 f_s0 = some σ1 := by rw [g_34_eq, l1, bnd, c1, bnd]
    refine ⟨σ1, g34, ?_, b', t1, ?_⟩
    · obtain ⟨σ0, c0, x0, p0, z1, z0, zr⟩ := C_9 l2 (by omega)
      have b0 : fb σ0 := fb_keep b (zr 7 (by omega) (by omega))
      obtain ⟨τ1, τ2', -, -, -, cases3⟩ := P_read (τ := fun a i => if a = 155 then (if i = 10 then nI 78 else 0) else if a = 161 then x1 1 i else clr (fun _ => 0) i) (r := fun _ => 0) x0 p0 b0 rfl (fun i hi => rfl) rfl
      have bad : ∀ σ', g_28 σ0 = some (false, σ') → σ1 3 0 = 1 := fun σ' c3 => by
        have h8 := S.1.1.2.1.2.2
        unfold g_33 at c1
        rw [c0, bnd, c3, bnd, if_neg (show ¬ (false, σ').1 = true from Bool.false_ne_true)] at c1
        exact absurd (Prod.mk.inj (Option.some.inj c1)).1.symm (n_neg1 (by omega))
      rcases cases3 with ⟨hc', ac', σ', c3, y17, h1, h2, d, c30, c36, c37, sf⟩ | ⟨c, S', σ', c3, -⟩ | ⟨hc', ac', S', σ', c3, -⟩
      · obtain ⟨σ5, c5, -, b8, b48, b3, bz, bres, bf⟩ := C_begin (σ := σ') d.2.2.2.2.2.2
        unfold g_33 at c1
        rw [c0, bnd, c3, bnd, if_pos rfl, c5, bnd] at c1
        unfold g_32 at c1
        rw [bnd] at c1
        rw [← (Prod.mk.inj (Option.some.inj c1)).2, up_rows (by omega), up_rows (by omega), bf 3 (by omega) (by omega) (by omega) (by omega) (by omega) (by omega) (by omega)]
        exact c30
      · exact bad σ' c3
      · exact bad σ' c3
    · rw [o4, l5 44 (by omega) (by omega)]; rfl
  · rw [m1] at n1
    exact absurd (Prod.mk.inj (Option.some.inj n1)).1 (by decide)
theorem w_mb_at {xs : Nat → Int32} {L : Nat} {σ : f_M} : ∀ n i, i < n → w_mb xs L σ n 156 i = nI (w_b xs L i) := by
  intro n
  induction n with
  | zero => intro i hi; exact absurd hi (by omega)
  | succ n ih =>
    intro i hi
    unfold w_mb
    by_cases e : i = n
    · subst e; rw [up_same]
    · rw [up_ix e]; exact ih i (by omega)
theorem w_ms_at {x : Int32} {σ : f_M} : ∀ n i, i < n → w_ms x σ n 158 i = nI (w_s x i) := by
  intro n
  induction n with
  | zero => intro i hi; exact absurd hi (by omega)
  | succ n ih =>
    intro i hi
    unfold w_ms
    by_cases e : i = n
    · subst e; rw [up_same]
    · rw [up_ix e]; exact ih i (by omega)
theorem w_sg_155 {xs : Nat → Int32} {L : Nat} {σc : f_M} : w_sg xs L σc 155 = w_m0 (w_cell xs L 0) σc 155 := by
  unfold w_sg
  rw [w_ms_o _ (by omega), w_mb_o _ (by omega)]
theorem w_sg_z {xs : Nat → Int32} {L : Nat} {σc : f_M} {r : Nat} (h : 155 < r) (h6 : r ≠ 156) (h8 : r ≠ 158) (i : Nat) : w_sg xs L σc r i = nI 0 := by
  unfold w_sg
  rw [w_ms_o _ h8, w_mb_o _ h6]
  unfold w_m0
  rw [up_rows (by omega), up_rows (by omega), up_rows (by omega), f_sL_n _ (by omega)]
  rfl
theorem w_m0_at {x : Int32} {σc : f_M} : w_m0 x σc 155 27 = nI (w_r x) ∧ ∀ i, i ≠ 22 → i ≠ 23 → i ≠ 27 → w_m0 x σc 155 i = nI 0 := by
  unfold w_m0
  refine ⟨up_same _ _ _ _, fun i h1 h2 h3 => ?_⟩
  rw [up_ix h3, up_ix h2, up_ix h1, f_sL_n _ (by omega)]
  rfl
theorem P_pure (xs : Nat → Int32) (L : Nat) : w_Pure xs L := by
  have hl100 := w_tx_l xs L
  obtain ⟨hc1, hc4, -⟩ := w_hc_ok (w_cell xs L 0)
  obtain ⟨ac1, ac3, -⟩ := w_ac_ok (w_cell xs L 0)
  obtain ⟨σc, g34, e3, bf, e01, e44⟩ := L_ctor
  obtain ⟨N, σ1, eT, t1, t2, t3, t4⟩ := T_told (okL_tx xs L) hl100 6 0 181 (w_sg xs L σc) (Nat.le_refl _) (by rw [w_sg_o (by decide)]; exact e01) (by omega) (by omega) (by omega) (fun i hi => absurd hi (by omega))
  have r1 : ∀ r, 1 < r → r < 155 → σ1 r = σc r := fun r h1 h2 => by rw [t3 r (by omega) (by omega) (by omega), w_sg_o h2]
  obtain ⟨σ2, s, e33, L2, K2, ⟨s0, s1, s6, s7, s8, s10⟩, sb, sx, f2⟩ := C_load t1 t2 (fb_keep bf (r1 7 (by omega) (by omega))) (by rw [r1 44 (by omega) (by omega)]; exact e44)
  have q : ∀ r, 155 ≤ r → r < 181 → σ2 r = w_sg xs L σc r := fun r h1 h2 => by rw [f2 r h1, t3 r (by omega) (by omega) h2]
  have q5 : ∀ i, σ2 155 i = w_m0 (w_cell xs L 0) σc 155 i := fun i => by rw [q 155 (by omega) (by omega), w_sg_155]
  have qz : ∀ r, 155 < r → r < 181 → r ≠ 156 → r ≠ 158 → ∀ i, σ2 r i = nI 0 := fun r h1 h2 h3 h4 i => by rw [q r (by omega) h2, w_sg_z h1 h3 h4]
  obtain ⟨k22, k23⟩ := w_m0_22 (x := w_cell xs L 0) (σc := σc)
  obtain ⟨k27, kz⟩ := w_m0_at (x := w_cell xs L 0) (σc := σc)
  have rk0 : ∀ x, s_rk s x 0 = 0 := fun x => rfl
  have R : LR σ2 s (w_hc (w_cell xs L 0)) (w_ac (w_cell xs L 0)) 0 0 (fun _ => 0) 0 0 := by
    refine ⟨⟨⟨?_, ?_, ?_, ?_⟩, ?_, ?_, ?_, ?_, ?_, ?_, ?_⟩, fun h hh => ⟨?_, ?_⟩, fun x hx => ?_, fun p hp => absurd hp (by omega), fun p h1 h2 => ⟨?_, ?_, ?_⟩, fun c hc => absurd hc (by omega), fun c h1 h2 => ⟨?_, ?_⟩, fun x hx => ⟨?_, fun c hc => absurd hc (by omega), fun _ => ?_⟩, fun i hi => absurd hi (by omega)⟩
    · rw [q5, k22]
    · rw [q5, k23]
    · rw [q5, kz _ (by omega) (by omega) (by omega)]
    · rw [q5, kz _ (by omega) (by omega) (by omega)]
    · rw [q5, kz _ (by omega) (by omega) (by omega), s0]
    · rw [q5, k27, s1]
    · rw [q5, kz _ (by omega) (by omega) (by omega), s6]
    · rw [q5, kz _ (by omega) (by omega) (by omega), s7]
    · rw [q5, kz _ (by omega) (by omega) (by omega), s8]
    · rw [q5, kz _ (by omega) (by omega) (by omega)]
    · rw [q5, kz _ (by omega) (by omega) (by omega), s10]
    · rw [q 156 (by omega) (by omega), (sb h hh).1]
      unfold w_sg
      rw [w_ms_o _ (by omega), w_mb_at _ _ hh]
    · rw [qz 157 (by omega) (by omega) (by omega) (by omega), (sb h hh).2]
    · rw [q 158 (by omega) (by omega), sx x hx]
      unfold w_sg
      rw [w_ms_at _ _ hx]
    · exact qz 167 (by omega) (by omega) (by omega) (by omega) p
    · exact qz 168 (by omega) (by omega) (by omega) (by omega) p
    · exact qz 169 (by omega) (by omega) (by omega) (by omega) p
    · exact qz 172 (by omega) (by omega) (by omega) (by omega) c
    · exact qz 173 (by omega) (by omega) (by omega) (by omega) c
    · rw [rk0]; exact qz 178 (by omega) (by omega) (by omega) (by omega) x
    · exact qz 179 (by omega) (by omega) (by omega) (by omega) x
  have I0 : LI σ2 0 0 := LI_mk L2 K2.2.2.2.1 R hc4
  obtain ⟨σ3, e5, I3⟩ := Z_like I0
  refine ⟨σc, 6, N, σ1, _, σ2, σ3, fun k σ => ∃ D ck, D ≤ 32 * k ∧ ck ≤ 4 * k ∧ LI σ D ck, g34, by rw [e3]; decide, eT, e33, by rw [q5, k22], e5, ⟨0, 0, by omega, by omega, I3⟩, ?_⟩
  rintro k σ hk ⟨D, ck, hD, hck, I⟩
  obtain ⟨σ4, e6, ck', h1, I4⟩ := Z_acts (w_cell xs L (5 + k)) (w_cell xs L (50 + k)) (by omega) (by omega) I
  refine ⟨σ4, e6, fun _ => ?_, fun _ => ⟨D + 32, ck', by omega, by omega, I4⟩⟩
  obtain ⟨σ5, e7, I5⟩ := Z_like I4
  exact ⟨σ5, e7, D + 32, ck', by omega, by omega, I5⟩
