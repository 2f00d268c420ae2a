/-! Kites, picnics, claims and deposits, read by both. -/
theorem V_116t {j c S : Nat} {σ0 τ0 σ τ : f_M} {z : Int32} (e : mE τ c S) (f : fr9 j σ0 σ τ0 τ) (hj : j < 30) : ∃ τ', ((f_rd τ 162 210 (nI (7 * j))).bind fun v9 =>
  (
   if ¬ v9 = (1 : Int32) then (
    (g_57 z (50 : Int32) τ).bind fun t11 =>
    (f_wr t11.2 162 210 (nI (7 * j) + (5 : Int32)) t11.1).bind fun m12 =>
    some m12
   ) else (
    (g_57 z (150 : Int32) τ).bind fun t13 =>
    (f_wr t13.2 162 210 (nI (7 * j) + (5 : Int32)) t13.1).bind fun m14 =>
    (f_rd m14 162 210 (nI (7 * j) + (5 : Int32))).bind fun v15 =>
    (g_57 v15 (150 : Int32) m14).bind fun t16 =>
    (f_wr t16.2 162 210 (nI (7 * j) + (6 : Int32)) t16.1).bind fun m17 =>
    some m17
   )
  ).bind fun (t10 : f_M) =>
  some t10) = some τ' ∧ mE τ' c S ∧ fr9 j σ0 σ τ0 τ' := by
  rw [f_rd_n (by omega) (by omega), bnd]
  by_cases h : τ 162 (7 * j) = 1
  · rw [if_neg (fun h' => h' h), opt_eta1]
    refine V_bind (V_nw e f hj (k := 5) (by omega) (n_add _ 5)) fun τ1 e f => ?_
    rw [show (5 : Int32) = nI 5 from rfl, n_add, f_rd_n (by omega) (by omega), bnd]
    refine V_bind (V_nw e f hj (k := 6) (by omega) (n_add _ 6)) fun τ1 e f => ?_
    exact ⟨_, rfl, e, f⟩
  · rw [if_pos h, opt_eta1]
    refine V_bind (V_nw e f hj (k := 5) (by omega) (n_add _ 5)) fun τ1 e f => ?_
    exact ⟨_, rfl, e, f⟩
theorem stP_at {t : Nat → Int32} {len p j k i : Nat} {σ0 τ0 σ τ : f_M} {A B : Nat → Nat} (h : stP t len p j σ0 τ0 A B k σ τ) (hi : i < k) : ∃ v, A i ≤ v ∧ v ≤ B i ∧ σ (12 + j) i = nI v ∧ τ 162 (7 * j + i) = nI v := by
  obtain ⟨p', g, hp, hv, fr⟩ := h
  exact hv i hi
theorem stP_AB {t : Nat → Int32} {len p j k : Nat} {σ0 τ0 σ τ : f_M} {A B A' B' : Nat → Nat} (h : stP t len p j σ0 τ0 A B k σ τ) (hv : ∀ i, i < k → ∃ v, A' i ≤ v ∧ v ≤ B' i ∧ σ (12 + j) i = nI v ∧ τ 162 (7 * j + i) = nI v) : stP t len p j σ0 τ0 A' B' k σ τ := by
  obtain ⟨p', g, hp, -, fr⟩ := h
  exact ⟨p', g, hp, hv, fr⟩
theorem P_k1 {t : Nat → Int32} {len p j hc : Nat} {σ0 τ0 σ τ : f_M} (h : stP t len p j σ0 τ0 (loT 1) (hiT hc 1) 1 σ τ) (ns : nmS σ0 τ0 hc) (hj : j < 30) (h0 : σ (12 + j) 0 = nI 1) :
    cR (g_69 (12 + j) σ) (g_116 (nI (7 * j)) τ) (stQ t len p j hc 1 σ0 τ0) (fun σ' τ' => fr9 j σ0 σ' τ0 τ') := by
  unfold g_69 g_116
  rw [show (0 : Int32) = nI 0 from rfl, f_rd_n (by omega) (by omega), bnd, h0, if_neg (by decide), if_pos (by decide)]
  simp only [opt_eta]
  refine cR_bind (P1 := stP t len p j σ0 τ0 (loT 1) (hiT hc 1) 2) ?_ (fun σ1 τ1 h2 => ?_) (fun σ1 τ1 c S e f => ?_)
  · exact P_68 h ns hj rfl rfl (n_add _ 1)
  rotate_left
  · refine V_bind (V_nw e f hj (k := 2) (by omega) (n_add _ 2)) fun τ1 e f => ?_
    refine V_bind (V_nw e f hj (k := 3) (by omega) (n_add _ 3)) fun τ1 e f => ?_
    refine V_bind (V_nw e f hj (k := 4) (by omega) (n_add _ 4)) fun τ1 e f => ?_
    exact V_116t e f hj
  dsimp only
  refine cR_bind (P1 := stP t len p j σ0 τ0 (loT 1) (hiT hc 1) 3) ?_ (fun σ1 τ1 h3 => ?_) (fun σ1 τ1 c S e f => ?_)
  · exact P_67 h2 hj (by omega) rfl rfl (by decide) (by show 1000 < 10000; decide) rfl (n_add _ 2)
  rotate_left
  · refine V_bind (V_nw e f hj (k := 3) (by omega) (n_add _ 3)) fun τ1 e f => ?_
    refine V_bind (V_nw e f hj (k := 4) (by omega) (n_add _ 4)) fun τ1 e f => ?_
    exact V_116t e f hj
  dsimp only
  refine cR_bind (P1 := stP t len p j σ0 τ0 (loT 1) (hiT hc 1) 4) ?_ (fun σ1 τ1 h4 => ?_) (fun σ1 τ1 c S e f => ?_)
  · exact P_67 h3 hj (by omega) rfl rfl (by decide) (by show 24 < 10000; decide) rfl (n_add _ 3)
  rotate_left
  · refine V_bind (V_nw e f hj (k := 4) (by omega) (n_add _ 4)) fun τ1 e f => ?_
    exact V_116t e f hj
  dsimp only
  refine cR_bind (P1 := stP t len p j σ0 τ0 (loT 1) (hiT hc 1) 5) ?_ (fun σ1 τ1 h5 => ?_) (fun σ1 τ1 c S e f => ?_)
  · exact P_67 h4 hj (by omega) rfl rfl (by decide) (by show 500 < 10000; decide) rfl (n_add _ 4)
  rotate_left
  · exact V_116t e f hj
  dsimp only
  obtain ⟨v, v1, v2, v3, v4⟩ := stP_at (i := 0) h5 (by omega)
  obtain rfl : v = 1 := by have a : loT 1 0 = 1 := rfl; have b : hiT hc 1 0 = 1 := rfl; omega
  rw [f_rd_n (by omega) (by omega), bnd, show τ1 162 (7 * j) = nI 1 from v4, if_neg (fun h => h rfl), opt_eta1]
  refine cR_bind (P1 := stP t len p j σ0 τ0 (loT 1) (hiT hc 1) 6) ?_ (fun σ1 τ1 h6 => ?_) (fun σ1 τ1 c S e f => ?_)
  · exact P_67 h5 hj (by omega) rfl rfl (by decide) (by show 150 < 10000; decide) rfl (n_add _ 5)
  rotate_left
  · rw [show (5 : Int32) = nI 5 from rfl, n_add, f_rd_n (by omega) (by omega), bnd]
    refine V_bind (V_nw e f hj (k := 6) (by omega) (n_add _ 6)) fun τ1 e f => ?_
    exact ⟨_, rfl, e, f⟩
  dsimp only
  obtain ⟨w, w1, w2, w3, w4⟩ := stP_at (i := 5) h6 (by omega)
  have w5 : w ≤ 150 := w2
  rw [show (5 : Int32) = nI 5 from rfl, f_rd_n (by omega) (by omega), bnd, n_add, f_rd_n (by omega) (by omega), bnd, w3, w4]
  have h6' : stP t len p j σ0 τ0 (fun i => if i = 5 then w else if i = 6 then w else loT 1 i) (fun i => if i = 5 then w else hiT hc 1 i) 6 σ1 τ1 := stP_AB h6 fun i hi => by
    by_cases e : i = 5
    · subst e
      exact ⟨w, by rw [if_pos rfl]; omega, by rw [if_pos rfl]; omega, w3, w4⟩
    · obtain ⟨u, u1, u2, u3, u4⟩ := stP_at h6 hi
      exact ⟨u, by rw [if_neg e, if_neg (by omega)]; exact u1, by rw [if_neg e]; exact u2, u3, u4⟩
  refine cR_bind (P1 := stP t len p j σ0 τ0 (fun i => if i = 5 then w else if i = 6 then w else loT 1 i) (fun i => if i = 5 then w else hiT hc 1 i) 7) ?_ (fun σ2 τ2 h7 => ?_) (fun σ2 τ2 c S e f => ?_)
  · exact P_67 h6' hj (by omega) rfl rfl (by show w < 10000; omega) (by show 150 < 10000; decide) rfl (n_add _ 6)
  rotate_left
  · exact ⟨_, rfl, e, f⟩
  dsimp only
  obtain ⟨p', g, hp, hv, fr⟩ := h7
  dsimp only at hv
  refine cR_done ⟨p', g, hp, ⟨fun i hi => ?_, fun _ => ?_⟩, fr⟩
  · by_cases e5 : i = 5
    · subst e5
      obtain ⟨u, u1, u2, u3, u4⟩ := hv 5 (by omega)
      rw [if_pos rfl] at u1 u2
      exact ⟨u, Nat.zero_le _, by show u ≤ 150; omega, u3, u4⟩
    · by_cases e6 : i = 6
      · subst e6
        obtain ⟨u, u1, u2, u3, u4⟩ := hv 6 (by omega)
        exact ⟨u, Nat.zero_le _, u2, u3, u4⟩
      · obtain ⟨u, u1, u2, u3, u4⟩ := hv i hi
        rw [if_neg e5, if_neg e6] at u1
        rw [if_neg e5] at u2
        exact ⟨u, u1, u2, u3, u4⟩
  · obtain ⟨u, u1, u2, u3, -⟩ := hv 5 (by omega)
    obtain ⟨y, y1, y2, y3, -⟩ := hv 6 (by omega)
    have z1 : w ≤ u := u1
    have z2 : u ≤ w := u2
    have z3 : w ≤ y := y1
    have z4 : y ≤ 150 := y2
    rw [u3, y3, nat_n (by omega), nat_n (by omega)]
    omega
theorem P_k2 {t : Nat → Int32} {len p j hc : Nat} {σ0 τ0 σ τ : f_M} (h : stP t len p j σ0 τ0 (loT 2) (hiT hc 2) 1 σ τ) (ns : nmS σ0 τ0 hc) (hj : j < 30) (h0 : σ (12 + j) 0 = nI 2) :
    cR (g_69 (12 + j) σ) (g_116 (nI (7 * j)) τ) (stQ t len p j hc 2 σ0 τ0) (fun σ' τ' => fr9 j σ0 σ' τ0 τ') := by
  unfold g_69 g_116
  rw [show (0 : Int32) = nI 0 from rfl, f_rd_n (by omega) (by omega), bnd, h0, if_neg (by decide), if_neg (by decide), if_pos (by decide)]
  simp only [opt_eta]
  refine cR_bind (P1 := stP t len p j σ0 τ0 (loT 2) (hiT hc 2) 2) ?_ (fun σ1 τ1 h2 => ?_) (fun σ1 τ1 c S e f => ?_)
  · exact P_68 h ns hj rfl rfl (n_add _ 1)
  rotate_left
  · refine V_bind (V_nw e f hj (k := 2) (by omega) (n_add _ 2)) fun τ1 e f => ?_
    refine V_bind (V_nw e f hj (k := 3) (by omega) (n_add _ 3)) fun τ1 e f => ?_
    refine V_bind (V_nw e f hj (k := 4) (by omega) (n_add _ 4)) fun τ1 e f => ?_
    exact V_116t e f hj
  dsimp only
  refine cR_bind (P1 := stP t len p j σ0 τ0 (loT 2) (hiT hc 2) 3) ?_ (fun σ1 τ1 h3 => ?_) (fun σ1 τ1 c S e f => ?_)
  · exact P_67 h2 hj (by omega) rfl rfl (by decide) (by show 1000 < 10000; decide) rfl (n_add _ 2)
  rotate_left
  · refine V_bind (V_nw e f hj (k := 3) (by omega) (n_add _ 3)) fun τ1 e f => ?_
    refine V_bind (V_nw e f hj (k := 4) (by omega) (n_add _ 4)) fun τ1 e f => ?_
    exact V_116t e f hj
  dsimp only
  refine cR_bind (P1 := stP t len p j σ0 τ0 (loT 2) (hiT hc 2) 4) ?_ (fun σ1 τ1 h4 => ?_) (fun σ1 τ1 c S e f => ?_)
  · exact P_67 h3 hj (by omega) rfl rfl (by decide) (by show 24 < 10000; decide) rfl (n_add _ 3)
  rotate_left
  · refine V_bind (V_nw e f hj (k := 4) (by omega) (n_add _ 4)) fun τ1 e f => ?_
    exact V_116t e f hj
  dsimp only
  refine cR_bind (P1 := stP t len p j σ0 τ0 (loT 2) (hiT hc 2) 5) ?_ (fun σ1 τ1 h5 => ?_) (fun σ1 τ1 c S e f => ?_)
  · exact P_67 h4 hj (by omega) rfl rfl (by decide) (by show 500 < 10000; decide) rfl (n_add _ 4)
  rotate_left
  · exact V_116t e f hj
  dsimp only
  obtain ⟨v, v1, v2, v3, v4⟩ := stP_at (i := 0) h5 (by omega)
  obtain rfl : v = 2 := by have a : loT 2 0 = 2 := rfl; have b : hiT hc 2 0 = 2 := rfl; omega
  rw [f_rd_n (by omega) (by omega), bnd, show τ1 162 (7 * j) = nI 2 from v4, if_pos (by decide), opt_eta1]
  refine cR_bind (P1 := stP t len p j σ0 τ0 (loT 2) (hiT hc 2) 6) ?_ (fun σ1 τ1 h6 => ?_) (fun σ1 τ1 c S e f => ?_)
  · exact P_67 h5 hj (by omega) rfl rfl (by decide) (by show 50 < 10000; decide) rfl (n_add _ 5)
  rotate_left
  · exact ⟨_, rfl, e, f⟩
  dsimp only
  exact cR_done (stP_Q h6 (by decide))
theorem P_k3 {t : Nat → Int32} {len p j hc : Nat} {σ0 τ0 σ τ : f_M} (h : stP t len p j σ0 τ0 (loT 3) (hiT hc 3) 1 σ τ) (ns : nmS σ0 τ0 hc) (hj : j < 30) (h0 : σ (12 + j) 0 = nI 3) :
    cR (g_69 (12 + j) σ) ((g_57 (0 : Int32) (19 : Int32) τ).bind fun t22 =>
     (f_wr t22.2 162 210 (nI (7 * j) + (1 : Int32)) t22.1).bind fun m23 =>
     some m23) (stQ t len p j hc 3 σ0 τ0) (fun σ' τ' => fr9 j σ0 σ' τ0 τ') := by
  unfold g_69
  rw [show (0 : Int32) = nI 0 from rfl, f_rd_n (by omega) (by omega), bnd, h0, if_neg (by decide), if_neg (by decide), if_neg (by decide), if_pos (by decide)]
  simp only [opt_eta, opt_eta1]
  exact cR_mono (P_67 h hj (by omega) rfl rfl (by decide) (by show 19 < 10000; decide) rfl (n_add _ 1)) (fun σ1 τ1 h2 => stP_Q h2 (by decide))
theorem P_k4 {t : Nat → Int32} {len p j hc : Nat} {σ0 τ0 σ τ : f_M} (h : stP t len p j σ0 τ0 (loT 4) (hiT hc 4) 1 σ τ) (ns : nmS σ0 τ0 hc) (hj : j < 30) (h0 : σ (12 + j) 0 = nI 4) :
    cR (g_69 (12 + j) σ) ((g_115 τ).bind fun t25 =>
     (f_wr t25.2 162 210 (nI (7 * j) + (1 : Int32)) t25.1).bind fun m26 =>
     (g_57 (1 : Int32) (999 : Int32) m26).bind fun t27 =>
     (f_wr t27.2 162 210 (nI (7 * j) + (2 : Int32)) t27.1).bind fun m28 =>
     some m28) (stQ t len p j hc 4 σ0 τ0) (fun σ' τ' => fr9 j σ0 σ' τ0 τ') := by
  unfold g_69
  rw [show (0 : Int32) = nI 0 from rfl, f_rd_n (by omega) (by omega), bnd, h0, if_neg (by decide), if_neg (by decide), if_neg (by decide), if_neg (by decide)]
  simp only [opt_eta]
  refine cR_bind (P1 := stP t len p j σ0 τ0 (loT 4) (hiT hc 4) 2) ?_ (fun σ1 τ1 h2 => ?_) (fun σ1 τ1 c S e f => ?_)
  · exact P_68 h ns hj rfl rfl (n_add _ 1)
  rotate_left
  · refine V_bind (V_nw e f hj (k := 2) (by omega) (n_add _ 2)) fun τ1 e f => ?_
    exact ⟨_, rfl, e, f⟩
  dsimp only
  refine cR_bind (P1 := stP t len p j σ0 τ0 (loT 4) (hiT hc 4) 3) ?_ (fun σ1 τ1 h3 => ?_) (fun σ1 τ1 c S e f => ?_)
  · exact P_67 h2 hj (by omega) rfl rfl (by decide) (by show 999 < 10000; decide) rfl (n_add _ 2)
  rotate_left
  · exact ⟨_, rfl, e, f⟩
  dsimp only
  exact cR_done (stP_Q h3 (by decide))
