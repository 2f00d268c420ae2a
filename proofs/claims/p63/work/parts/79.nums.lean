/-! The numbers of each kind of statement, read by both. -/
def loT (kd i : Nat) : Nat := (([[0, 1, 0, 0], [1, 0, 0, 1, 1, 0, 0], [2, 0, 0, 1, 1, 0], [3, 0], [4, 0, 1]] : List (List Nat)).getD kd []).getD i 0
def hiT (hc kd i : Nat) : Nat := (([[0, 48, 150, 50], [1, hc - 1, 1000, 24, 500, 150, 150], [2, hc - 1, 1000, 24, 500, 50], [3, 19], [4, hc - 1, 999]] : List (List Nat)).getD kd []).getD i 0
def stM (kd : Nat) : Nat := ([4, 7, 6, 2, 3] : List Nat).getD kd 0
/-- the numbers of a statement of kind kd; a in the class, b in the model -/
def stN (hc kd : Nat) (a b : Nat → Int32) : Prop := (∀ i, i < stM kd → ∃ v, loT kd i ≤ v ∧ v ≤ hiT hc kd i ∧ a i = nI v ∧ b i = nI v) ∧ (kd = 1 → nat (a 5) ≤ nat (a 6))
/-- where reading the numbers ends well -/
def stQ (t : Nat → Int32) (len p j hc kd : Nat) (σ0 τ0 σ τ : f_M) : Prop := ∃ p', LG t len σ τ p' ∧ p ≤ p' ∧ stN hc kd (σ (12 + j)) (fun i => τ 162 (7 * j + i)) ∧ fr9 j σ0 σ τ0 τ
theorem cR_done {σ τ : f_M} {P E : f_M → f_M → Prop} (h : P σ τ) : cR (some (true, σ)) (some τ) P E := Or.inl ⟨σ, τ, rfl, rfl, h⟩
theorem cR_mono {C : Option (Bool × f_M)} {M : Option f_M} {P Q E : f_M → f_M → Prop} (h : cR C M P E) (pq : ∀ σ τ, P σ τ → Q σ τ) : cR C M Q E := by
  rcases h with ⟨σ', τ', h1, h2, h3⟩ | ⟨c, S, σ', τ', h1, h2, h3, h4⟩
  · exact Or.inl ⟨σ', τ', h1, h2, pq _ _ h3⟩
  · exact Or.inr ⟨c, S, σ', τ', h1, h2, h3, h4⟩
theorem stP_Q {t : Nat → Int32} {len p j hc kd : Nat} {σ0 τ0 σ τ : f_M} (h : stP t len p j σ0 τ0 (loT kd) (hiT hc kd) (stM kd) σ τ) (h1 : ¬ kd = 1) : stQ t len p j hc kd σ0 τ0 σ τ := by
  obtain ⟨p', g, hp, hv, fr⟩ := h
  exact ⟨p', g, hp, ⟨hv, fun h => absurd h h1⟩, fr⟩
/-- under a fault the model goes on in vain -/
theorem V_nw {j k c S : Nat} {σ0 τ0 σ τ : f_M} {lo hi iy : Int32} (e : mE τ c S) (f : fr9 j σ0 σ τ0 τ) (hj : j < 30) (hk : k < 7) (hiy : iy = nI (7 * j + k)) : ∃ τ', ((g_57 lo hi τ).bind fun t => f_wr t.2 162 210 iy t.1) = some τ' ∧ mE τ' c S ∧ fr9 j σ0 σ τ0 τ' := by
  obtain ⟨h1, h2⟩ := F_nw (lo := lo) (hi := hi) (k := 7 * j + k) e (by omega) hiy
  exact ⟨_, h1, h2, f.trans (fr9_wrM hk)⟩
theorem V_nh {j k c S : Nat} {σ0 τ0 σ τ : f_M} {iy : Int32} (e : mE τ c S) (f : fr9 j σ0 σ τ0 τ) (hj : j < 30) (hk : k < 7) (hiy : iy = nI (7 * j + k)) : ∃ τ', ((g_115 τ).bind fun t => f_wr t.2 162 210 iy t.1) = some τ' ∧ mE τ' c S ∧ fr9 j σ0 σ τ0 τ' := by
  obtain ⟨h1, h2⟩ := F_nh (k := 7 * j + k) e (by omega) hiy
  exact ⟨_, h1, h2, f.trans ((fr9_tok j (cFr.rfl' _) nFr_8).trans (fr9_wrM hk))⟩
theorem V_bind {α : Type} {m : Option α} {f : α → Option f_M} {L : f_M → Option f_M} {j c S : Nat} {σ0 τ0 σ : f_M} (h1 : ∃ τ', m.bind f = some τ' ∧ mE τ' c S ∧ fr9 j σ0 σ τ0 τ') (h2 : ∀ τ', mE τ' c S → fr9 j σ0 σ τ0 τ' → ∃ τ2, L τ' = some τ2 ∧ mE τ2 c S ∧ fr9 j σ0 σ τ0 τ2) : ∃ τ2, (m.bind fun a => (f a).bind L) = some τ2 ∧ mE τ2 c S ∧ fr9 j σ0 σ τ0 τ2 := by
  obtain ⟨τ', e1, e2, e3⟩ := h1
  obtain ⟨τ2, e4, e5, e6⟩ := h2 τ' e2 e3
  exact ⟨τ2, bind_bind e1 e4, e5, e6⟩
theorem P_k0 {t : Nat → Int32} {len p j hc : Nat} {σ0 τ0 σ τ : f_M} (h : stP t len p j σ0 τ0 (loT 0) (hiT hc 0) 1 σ τ) (hj : j < 30) (h0 : σ (12 + j) 0 = nI 0) :
    cR (g_69 (12 + j) σ) ((g_57 (1 : Int32) (48 : Int32) τ).bind fun t11 =>
     (f_wr t11.2 162 210 (nI (7 * j) + (1 : Int32)) t11.1).bind fun m12 =>
     (g_57 (0 : Int32) (150 : Int32) m12).bind fun t13 =>
     (f_wr t13.2 162 210 (nI (7 * j) + (2 : Int32)) t13.1).bind fun m14 =>
     (g_57 (0 : Int32) (50 : Int32) m14).bind fun t15 =>
     (f_wr t15.2 162 210 (nI (7 * j) + (3 : Int32)) t15.1).bind fun m16 =>
     some m16) (stQ t len p j hc 0 σ0 τ0) (fun σ' τ' => fr9 j σ0 σ' τ0 τ') := by
  unfold g_69
  rw [show (0 : Int32) = nI 0 from rfl, f_rd_n (by omega) (by omega), bnd, h0, if_pos rfl]
  simp only [opt_eta]
  refine cR_bind (P1 := stP t len p j σ0 τ0 (loT 0) (hiT hc 0) 2) ?_ (fun σ1 τ1 h2 => ?_) (fun σ1 τ1 c S e f => ?_)
  · exact P_67 h hj (by omega) rfl rfl (by decide) (by show 48 < 10000; decide) rfl (n_add _ 1)
  rotate_left
  · refine V_bind (V_nw e f hj (k := 2) (by omega) (n_add _ 2)) fun τ1 e f => ?_
    refine V_bind (V_nw e f hj (k := 3) (by omega) (n_add _ 3)) fun τ1 e f => ?_
    exact ⟨_, rfl, e, f⟩
  dsimp only
  refine cR_bind (P1 := stP t len p j σ0 τ0 (loT 0) (hiT hc 0) 3) ?_ (fun σ1 τ1 h3 => ?_) (fun σ1 τ1 c S e f => ?_)
  · exact P_67 h2 hj (by omega) rfl rfl (by decide) (by show 150 < 10000; decide) rfl (n_add _ 2)
  rotate_left
  · refine V_bind (V_nw e f hj (k := 3) (by omega) (n_add _ 3)) fun τ1 e f => ?_
    exact ⟨_, rfl, e, f⟩
  dsimp only
  refine cR_bind (P1 := stP t len p j σ0 τ0 (loT 0) (hiT hc 0) 4) ?_ (fun σ1 τ1 h4 => ?_) (fun σ1 τ1 c S e f => ?_)
  · exact P_67 h3 hj (by omega) rfl rfl (by decide) (by show 50 < 10000; decide) rfl (n_add _ 3)
  rotate_left
  · exact ⟨_, rfl, e, f⟩
  dsimp only
  exact cR_done (stP_Q h4 (by decide))
