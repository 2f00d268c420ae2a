/-! Numbers, semicolons; the first fault stays. -/
theorem C_fail {σ : f_M} (c : Int32) : g_15 c σ = some (false, f_up (f_up σ 3 6 c) 3 7 (σ 3 3)) := by
  unfold g_15; rw [up_ix (by omega)]
def mE (τ : f_M) (c S : Nat) : Prop := τ 155 17 = nI c ∧ τ 155 18 = nI S ∧ 1 ≤ c ∧ c ≤ 5
theorem mE.ne {τ : f_M} {c S : Nat} (h : mE τ c S) : ¬ τ 155 17 = 0 := by
  rw [h.1, show (0 : Int32) = nI 0 from rfl, n_eq (by have := h.2.2.2; omega) (by omega)]; have := h.2.2.1; omega
theorem mE.nle {τ : f_M} {c S : Nat} (h : mE τ c S) : ¬ τ 155 17 ≤ 0 := by
  rw [h.1, show (0 : Int32) = nI 0 from rfl, n_le (by have := h.2.2.2; omega) (by omega)]; have := h.2.2.1; omega
theorem M_exT {τ : f_M} (c : Int32) : g_54 true c τ = some τ := by
  unfold g_54
  by_cases h : τ 155 17 = 0
  · rw [if_neg (fun h' => h' h), if_pos rfl, bnd]
  · rw [if_pos h, bnd]
theorem M_exF {τ : f_M} {k S : Nat} (e : mE τ k S) (b : Bool) (c : Int32) : g_54 b c τ = some τ := by
  unfold g_54
  rw [if_pos e.ne, bnd]
theorem M_ex0 {τ : f_M} (h : τ 155 17 = 0) (c : Int32) : g_54 false c τ = some (f_up (f_up τ 155 17 c) 155 18 (τ 155 13)) := by
  unfold g_54
  rw [if_neg (fun h' => h' h), if_neg (by decide), bnd, up_ix (by omega)]
theorem M_51F {τ : f_M} {k S : Nat} (e : mE τ k S) : g_51 τ = some τ := by
  unfold g_51; rw [if_neg e.nle]
theorem M_57F {τ : f_M} {k S : Nat} (e : mE τ k S) (lo hi : Int32) : g_57 lo hi τ = some (lo, τ) := by
  unfold g_57
  have h1 : ∀ b : Bool, ((some b : Option Bool).bind fun (t1 : Bool) =>
    (g_54 t1 (1 : Int32) τ).bind fun t3 =>
    (g_46 ((t3 155 16)).toInt64 lo.toInt64 hi.toInt64 t3).bind fun t4 =>
    (g_54 t4 (2 : Int32) t3).bind fun t5 =>
    (if ¬ (t5 155 17) = 0 then some lo else some (t5 155 16)).bind fun (t6 : Int32) =>
    (g_51 t5).bind fun t8 => some (t6, t8)) = some (lo, τ) := fun b => by
    rw [bnd, M_exF e, bnd, M_within, bnd, M_exF e, bnd, if_pos e.ne, bnd, M_51F e, bnd]
  by_cases h : τ 155 15 = 2
  · rw [if_neg (fun h' => h' h)]; exact h1 true
  · rw [if_pos h]; exact h1 false
theorem M_61F {τ : f_M} {k S : Nat} (e : mE τ k S) : g_61 τ = some τ := by
  unfold g_61
  by_cases h : τ 155 15 = 3
  · rw [if_neg (fun h' => h' h), bnd, M_exF e, bnd, M_51F e, bnd]
  · rw [if_pos h, bnd, M_exF e, bnd, M_51F e, bnd]
/-- a fault, told now -/
theorem mE_now {τ : f_M} {c S : Nat} (h : τ 155 13 = nI S) (h1 : 1 ≤ c) (h2 : c ≤ 5) : mE (f_up (f_up τ 155 17 (nI c)) 155 18 (τ 155 13)) c S := by
  refine ⟨?_, ?_, h1, h2⟩
  · rw [up_ix (by omega), up_same]
  · rw [up_same]; exact h
theorem mFr_now {τ : f_M} {c v : Int32} : mFr τ (f_up (f_up τ 155 17 c) 155 18 v) :=
  ⟨fun r h => by rw [up_rows h, up_rows h], fun i h => by rw [up_ix (by omega), up_ix (by omega)]⟩
def numV (t : Nat → Int32) (len p : Nat) : Int32 := numT t (tkS t len p) (tkE t len p - tkS t len p)
def numO (t : Nat → Int32) (len p : Nat) (lo hi : Int32) : Nat := if tkK t len p = 2 then (if numV t len p < lo then 2 else if hi < numV t len p then 2 else 0) else 1
theorem numO_le (t : Nat → Int32) (len p : Nat) (lo hi : Int32) : numO t len p lo hi ≤ 2 := by
  unfold numO; split <;> (try split) <;> (try split) <;> omega
theorem C_dig {t : Nat → Int32} {len S E : Nat} {σ : f_M} (x : cX t len σ) (h3 : σ 3 3 = nI S) (h4 : σ 3 4 = nI E) (hSE : S ≤ E) (hE : E ≤ len) : f_lp (fun (s2 : Int32 × f_M) =>
    if (s2.2 3 4) ≤ s2.1 then (
     some (.inr s2.2)
    ) else (
     if s2.2 3 0 = 1 then (
     (f_rd s2.2 1 600 s2.1).bind fun v4 =>
     some (.inl ((s2.1 + (1 : Int32)), (f_up s2.2 3 5 ((((10 : Int32) * (s2.2 3 5)) + v4) - (48 : Int32)))))
     ) else none
    )
   ) f_F (((f_up σ 3 5 (0 : Int32)) 3 3), (f_up σ 3 5 (0 : Int32))) = some (f_up σ 3 5 (numT t S (E - S))) := by
  obtain ⟨x0, x1, xl, xt, -⟩ := x
  have e4 : ∀ v, f_up σ 3 5 v 3 4 = nI E := fun v => by rw [up_ix (by omega)]; exact h4
  have e0 : ∀ v, f_up σ 3 5 v 3 0 = 1 := fun v => by rw [up_ix (by omega)]; exact x0
  have er : ∀ v, f_up σ 3 5 v 1 = σ 1 := fun v => up_rows (by omega)
  refine lp_go (fun j => (nI (S + j), f_up σ 3 5 (numT t S j))) (E - S) ?_ (f_F_lt (by omega)) ?_ ?_
  · rw [up_ix (by omega), h3]; rfl
  · intro j hj
    simp only [e4, e0, er, up_same, if_true]
    rw [if_neg (by rw [n_le (by omega) (by omega)]; omega), f_rd_n (by omega) (by omega), bnd, er, xt _ (by omega), up_up, show (1 : Int32) = nI 1 from rfl, n_add]
    rfl
  · simp only [e4]
    rw [if_pos (by rw [n_le (by omega) (by omega)]; omega)]
theorem C_num {t : Nat → Int32} {len p : Nat} {σ : f_M} (lo hi : Int32) (x : cX t len σ) (h4 : σ 3 4 = nI p) (hp : p ≤ len) :
    (numO t len p lo hi = 0 → ∃ σ', g_22 lo hi σ = some (true, σ') ∧ cX t len σ' ∧ σ' 3 4 = nI (tkE t len p) ∧ σ' 3 5 = numV t len p ∧ cFr σ σ') ∧
    (¬ numO t len p lo hi = 0 → ∃ σ', g_22 lo hi σ = some (false, σ') ∧ σ' 3 6 = nI (numO t len p lo hi) ∧ σ' 3 7 = nI (tkS t len p) ∧ cFr σ σ') := by
  obtain ⟨σ1, e1, x', ct, fr⟩ := C_next x h4 hp
  have hE := tkE_le (t := t) hp
  unfold g_22
  rw [e1, bnd]
  by_cases hK : tkK t len p = 2
  · have c2 : σ1 3 2 = 2 := by rw [ct.2.2, hK]; rfl
    have hd := C_dig x' ct.1 ct.2.1 hE.1 hE.2.1
    have hv : numT t (tkS t len p) (tkE t len p - tkS t len p) = numV t len p := rfl
    rw [hv] at hd
    rw [if_pos c2, hd, bnd, up_same]
    have f2 : ∀ v, cFr σ (f_up σ1 3 5 v) := fun v r h => by rw [up_rows h, fr r h]
    have f4 : ∀ v w u, cFr σ (f_up (f_up (f_up σ1 3 5 v) 3 6 w) 3 7 u) := fun v w u r h => by rw [up_rows h, up_rows h, up_rows h, fr r h]
    by_cases h1 : numV t len p < lo
    · have ho : numO t len p lo hi = 2 := by unfold numO; rw [if_pos hK, if_pos h1]
      rw [if_pos h1, C_fail, bnd, if_pos rfl, bnd, ho]
      dsimp only
      refine ⟨fun h => by omega, fun _ => ⟨_, rfl, ?_, ?_, f4 _ _ _⟩⟩
      · rw [up_ix (by omega), up_same]; rfl
      · rw [up_same, up_ix (by omega)]; exact ct.1
    · rw [if_neg h1]
      by_cases h2 : hi < numV t len p
      · have ho : numO t len p lo hi = 2 := by unfold numO; rw [if_pos hK, if_neg h1, if_pos h2]
        rw [if_neg ((i32_nle _ _).mpr h2), C_fail, bnd, if_pos rfl, bnd, ho]
        dsimp only
        refine ⟨fun h => by omega, fun _ => ⟨_, rfl, ?_, ?_, f4 _ _ _⟩⟩
        · rw [up_ix (by omega), up_same]; rfl
        · rw [up_same, up_ix (by omega)]; exact ct.1
      · have ho : numO t len p lo hi = 0 := by unfold numO; rw [if_pos hK, if_neg h1, if_neg h2]
        rw [if_pos ((i32_nlt _ _).mp h2), bnd, ho]
        dsimp only
        obtain ⟨y0, y1, yl, yt, y6, y7⟩ := x'
        refine ⟨fun _ => ⟨_, rfl, ⟨?_, ?_, yl, fun i hi => ?_, ?_, ?_⟩, ?_, up_same _ _ _ _, f2 _⟩, fun h => absurd rfl h⟩
        · rw [up_ix (by omega)]; exact y0
        · rw [up_ix (by omega)]; exact y1
        · rw [up_rows (by omega)]; exact yt i hi
        · rw [up_ix (by omega)]; exact y6
        · rw [up_ix (by omega)]; exact y7
        · rw [up_ix (by omega)]; exact ct.2.1
  · have c2 : ¬ σ1 3 2 = 2 := by
      rw [ct.2.2, show (2 : Int32) = nI 2 from rfl, n_eq (by unfold tkK; split <;> (try split) <;> (try split) <;> (try split) <;> omega) (by omega)]; exact hK
    have ho : numO t len p lo hi = 1 := by unfold numO; rw [if_neg hK]
    rw [if_neg c2, C_fail, bnd, ho]
    dsimp only
    refine ⟨fun h => by omega, fun _ => ⟨_, rfl, ?_, ?_, fun r h => ?_⟩⟩
    · rw [up_ix (by omega), up_same]; rfl
    · rw [up_same]; exact ct.1
    · rw [up_rows h, up_rows h, fr r h]
theorem tkK_le (t : Nat → Int32) (len p : Nat) : tkK t len p ≤ 4 := by
  unfold tkK; split <;> (try split) <;> (try split) <;> (try split) <;> omega
theorem mX_frame {t : Nat → Int32} {len : Nat} {τ τ' : f_M} (x : mX t len τ) (h1 : ∀ i, i < len → τ' 161 i = τ 161 i) (h2 : τ' 155 10 = τ 155 10) (h3 : τ' 155 17 = τ 155 17) : mX t len τ' :=
  ⟨h2.trans x.1, x.2.1, fun i hi => (h1 i hi).trans (x.2.2.1 i hi), h3.trans x.2.2.2⟩
theorem M_num {t : Nat → Int32} {len p : Nat} {τ : f_M} (lo hi : Int32) (x : mX t len τ) (m : mT t len τ p) (hp : p ≤ len) :
    (numO t len p lo hi = 0 → ∃ τ', g_57 lo hi τ = some (numV t len p, τ') ∧ mX t len τ' ∧ mT t len τ' (tkE t len p) ∧ mFr τ τ') ∧
    (¬ numO t len p lo hi = 0 → ∃ τ', g_57 lo hi τ = some (lo, τ') ∧ mE τ' (numO t len p lo hi) (tkS t len p) ∧ mFr τ τ') := by
  have hE := tkE_le (t := t) hp
  obtain ⟨m13, m14, m15, m16⟩ := m
  unfold g_57
  by_cases hK : tkK t len p = 2
  · have c2 : τ 155 15 = 2 := by rw [m15, hK]; rfl
    have hv : τ 155 16 = numV t len p := m16 hK
    rw [if_neg (fun h => h c2), bnd, M_exT, bnd, M_within, bnd, hv]
    by_cases h1 : numV t len p < lo
    · have ho : numO t len p lo hi = 2 := by unfold numO; rw [if_pos hK, if_pos h1]
      have e := mE_now (τ := τ) (c := 2) (S := tkS t len p) m13 (by omega) (by omega)
      rw [decide_eq_true h1, Bool.not_true, Bool.false_and, M_ex0 x.2.2.2, bnd, show (2 : Int32) = nI 2 from rfl, if_pos e.ne, bnd, M_51F e, bnd, ho]
      exact ⟨fun h => by omega, fun _ => ⟨_, rfl, e, mFr_now⟩⟩
    · by_cases h2 : hi < numV t len p
      · have ho : numO t len p lo hi = 2 := by unfold numO; rw [if_pos hK, if_neg h1, if_pos h2]
        have e := mE_now (τ := τ) (c := 2) (S := tkS t len p) m13 (by omega) (by omega)
        rw [decide_eq_true h2, Bool.not_true, Bool.and_false, M_ex0 x.2.2.2, bnd, show (2 : Int32) = nI 2 from rfl, if_pos e.ne, bnd, M_51F e, bnd, ho]
        exact ⟨fun h => by omega, fun _ => ⟨_, rfl, e, mFr_now⟩⟩
      · have ho : numO t len p lo hi = 0 := by unfold numO; rw [if_pos hK, if_neg h1, if_neg h2]
        obtain ⟨τ', e, x', m', f'⟩ := M_next x m14 hE.2.1
        rw [decide_eq_false h1, decide_eq_false h2, Bool.not_false, Bool.true_and, M_exT, bnd, if_neg (fun h => h x.2.2.2), bnd, hv, e, bnd, ho]
        exact ⟨fun _ => ⟨_, rfl, x', m', f'⟩, fun h => absurd rfl h⟩
  · have c2 : ¬ τ 155 15 = 2 := by
      rw [m15, show (2 : Int32) = nI 2 from rfl, n_eq (by have := tkK_le t len p; omega) (by omega)]; exact hK
    have ho : numO t len p lo hi = 1 := by unfold numO; rw [if_neg hK]
    have e := mE_now (τ := τ) (c := 1) (S := tkS t len p) m13 (by omega) (by omega)
    rw [if_pos c2, bnd, M_ex0 x.2.2.2, bnd, show (1 : Int32) = nI 1 from rfl, M_within, bnd, M_exF e, bnd, if_pos e.ne, bnd, M_51F e, bnd, ho]
    exact ⟨fun h => by omega, fun _ => ⟨_, rfl, e, mFr_now⟩⟩
/-! both: the class one token behind -/
def LG (t : Nat → Int32) (len : Nat) (σ τ : f_M) (p : Nat) : Prop := (cX t len σ ∧ σ 3 4 = nI p) ∧ p ≤ len ∧ mX t len τ ∧ mT t len τ p
def FL (σ τ : f_M) (c S : Nat) : Prop := σ 3 6 = nI c ∧ σ 3 7 = nI S ∧ mE τ c S
theorem P_num {t : Nat → Int32} {len p : Nat} {σ τ : f_M} (lo hi : Int32) (g : LG t len σ τ p) :
    (∃ p' σ' τ', g_22 lo hi σ = some (true, σ') ∧ g_57 lo hi τ = some (σ' 3 5, τ') ∧ ¬ σ' 3 5 < lo ∧ ¬ hi < σ' 3 5 ∧ LG t len σ' τ' p' ∧ p < p' ∧ cFr σ σ' ∧ mFr τ τ') ∨
    ∃ c S σ' τ', g_22 lo hi σ = some (false, σ') ∧ g_57 lo hi τ = some (lo, τ') ∧ FL σ' τ' c S ∧ cFr σ σ' ∧ mFr τ τ' := by
  obtain ⟨⟨x, h4⟩, hp, y, m⟩ := g
  have hS := tkS_le (t := t) hp
  have hE := tkE_le (t := t) hp
  have hc := C_num lo hi x h4 hp
  have hm := M_num lo hi y m hp
  by_cases h : numO t len p lo hi = 0
  · obtain ⟨σ', c1, c2, c3, c4, c5⟩ := hc.1 h
    obtain ⟨τ', m1, m2, m3, m4⟩ := hm.1 h
    have hK : tkK t len p = 2 := by
      refine Decidable.byContradiction fun hK => ?_
      unfold numO at h; rw [if_neg hK] at h; omega
    have h9 := h
    unfold numO at h9
    rw [if_pos hK] at h9
    have l1 : ¬ numV t len p < lo := fun h' => by rw [if_pos h'] at h9; omega
    have l2 : ¬ hi < numV t len p := fun h' => by rw [if_neg l1, if_pos h'] at h9; omega
    refine Or.inl ⟨tkE t len p, σ', τ', c1, by rw [c4]; exact m1, by rw [c4]; exact l1, by rw [c4]; exact l2, ⟨⟨c2, c3⟩, hE.2.1, m2, m3⟩, ?_, c5, m4⟩
    have := hE.2.2 (by omega)
    omega
  · obtain ⟨σ', c1, c2, c3, c5⟩ := hc.2 h
    obtain ⟨τ', m1, m2, m4⟩ := hm.2 h
    exact Or.inr ⟨_, _, σ', τ', c1, m1, ⟨c2, c3, m2⟩, c5, m4⟩
theorem P_semi {t : Nat → Int32} {len p : Nat} {σ τ : f_M} (g : LG t len σ τ p) :
    (∃ p' σ' τ', g_23 σ = some (true, σ') ∧ g_61 τ = some τ' ∧ LG t len σ' τ' p' ∧ p < p' ∧ cFr σ σ' ∧ mFr τ τ') ∨
    ∃ c S σ' τ', g_23 σ = some (false, σ') ∧ g_61 τ = some τ' ∧ FL σ' τ' c S ∧ cFr σ σ' ∧ mFr τ τ' := by
  obtain ⟨⟨x, h4⟩, hp, y, m⟩ := g
  have hS := tkS_le (t := t) hp
  have hE := tkE_le (t := t) hp
  obtain ⟨σ1, e1, x', ct, fr⟩ := C_next x h4 hp
  unfold g_23 g_61
  rw [e1, bnd]
  have n3 : ∀ v : Int32, v = nI (tkK t len p) → (v = 3 ↔ tkK t len p = 3) := fun v hv => by
    rw [hv, show (3 : Int32) = nI 3 from rfl, n_eq (by have := tkK_le t len p; omega) (by omega)]
  by_cases hK : tkK t len p = 3
  · obtain ⟨τ', e, y', m', f'⟩ := M_next y m.2.1 hE.2.1
    rw [if_pos ((n3 _ ct.2.2).mpr hK), bnd, if_neg (fun h => h ((n3 _ m.2.2.1).mpr hK)), bnd, M_exT, bnd, e, bnd]
    refine Or.inl ⟨tkE t len p, σ1, τ', rfl, rfl, ⟨⟨x', ct.2.1⟩, hE.2.1, y', m'⟩, ?_, fr, f'⟩
    have := hE.2.2 (by omega)
    omega
  · have e := mE_now (τ := τ) (c := 1) (S := tkS t len p) m.1 (by omega) (by omega)
    rw [if_neg (fun h => hK ((n3 _ ct.2.2).mp h)), C_fail, bnd, if_pos rfl, bnd, if_pos (fun h => hK ((n3 _ m.2.2.1).mp h)), bnd, M_ex0 y.2.2.2, bnd, show (1 : Int32) = nI 1 from rfl, M_51F e, bnd]
    dsimp only
    refine Or.inr ⟨1, tkS t len p, _, _, rfl, rfl, ⟨?_, ?_, e⟩, fun r h => ?_, mFr_now⟩
    · rw [up_ix (by omega), up_same]
    · rw [up_same]; exact ct.1
    · rw [up_rows h, up_rows h, fr r h]
