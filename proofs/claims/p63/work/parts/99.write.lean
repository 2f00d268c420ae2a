/-! writeClaim keeps the relation. -/
def oX (σ τ : f_M) (ol : Nat) : Prop := σ 0 3 = nI ol ∧ τ 155 24 = nI ol ∧ ∀ i, i < ol → σ 2 i = τ 165 i
def oF (σ σ' τ τ' : f_M) : Prop := (∀ r, r ≠ 0 → r ≠ 2 → σ' r = σ r) ∧ (∀ i, i ≠ 3 → σ' 0 i = σ 0 i) ∧ (∀ r, r ≠ 155 → r ≠ 165 → τ' r = τ r) ∧ ∀ i, i ≠ 24 → τ' 155 i = τ 155 i
theorem oF.trans {a b c x y z : f_M} (h1 : oF a b x y) (h2 : oF b c y z) : oF a c x z := ⟨fun r h h' => (h2.1 r h h').trans (h1.1 r h h'), fun i h => (h2.2.1 i h).trans (h1.2.1 i h), fun r h h' => (h2.2.2.1 r h h').trans (h1.2.2.1 r h h'), fun i h => (h2.2.2.2 i h).trans (h1.2.2.2 i h)⟩
theorem oF.refl (a x : f_M) : oF a a x x := ⟨fun _ _ _ => rfl, fun _ _ => rfl, fun _ _ _ => rfl, fun _ _ => rfl⟩
theorem P_put {σ τ : f_M} {ol : Nat} (a : Int32) (x : oX σ τ ol) (h : ol < 16) : ∃ σ' τ', g_342 a σ = some σ' ∧ g_347 a τ = some τ' ∧ oX σ' τ' (ol + 1) ∧ oF σ σ' τ τ' := by
  obtain ⟨x1, x2, x3⟩ := x
  have e1 : f_up σ 2 ol ((a).toInt8.toInt32).toInt8.toInt32 0 3 = nI ol := by rw [up_rows (by omega)]; exact x1
  have e2 : f_up τ 165 ol ((a).toInt8.toInt32).toInt8.toInt32 155 24 = nI ol := by rw [up_rows (by omega)]; exact x2
  refine ⟨f_up (f_up σ 2 ol ((a).toInt8.toInt32).toInt8.toInt32) 0 3 (nI (ol + 1)), f_up (f_up τ 165 ol ((a).toInt8.toInt32).toInt8.toInt32) 155 24 (nI (ol + 1)), ?_, ?_, ⟨up_same _ _ _ _, up_same _ _ _ _, fun i hi => ?_⟩, ⟨fun r h h' => by rw [up_rows h, up_rows h'], fun i h => by rw [up_ix h, up_rows (by omega)], fun r h h' => by rw [up_rows h, up_rows h'], fun i h => by rw [up_ix h, up_rows (by omega)]⟩⟩
  · unfold g_342
    rw [x1, if_neg (by rw [show (16 : Int32) = nI 16 from rfl, n_le (by omega) (by omega)]; omega), f_wr_n h (by omega), bnd, e1, bnd, show (1 : Int32) = nI 1 from rfl, n_add]
  · unfold g_347
    rw [x2, f_wr_n (by omega) (by omega), bnd, e2, show (1 : Int32) = nI 1 from rfl, n_add]
  · rw [up_rows (a := 0) (by omega), up_rows (a := 155) (by omega)]
    by_cases e : i = ol
    · subst e; rw [up_same, up_same]
    · rw [up_ix e, up_ix e]; exact x3 i (by omega)
theorem lp_inl {S α : Type} {body : S → Option (S ⊕ α)} {F : Nat} {s s' : S} (h : body s = some (.inl s')) : f_lp body (F + 1) s = f_lp body F s' := by
  rw [lp_succ, h, bnd]; rfl
theorem lp_inr {S α : Type} {body : S → Option (S ⊕ α)} {F : Nat} {s : S} {r : α} (h : body s = some (.inr r)) : f_lp body (F + 1) s = some r := by
  rw [lp_succ, h, bnd]; rfl
def dgC (s1 a1 : Int32) : Option (Int32 ⊕ Int32) :=
   if s1 = 0 then none else
   if (a1 / s1) ≤ (9 : Int32) then (
    some (.inr s1)
   ) else (
    some (.inl (s1 * (10 : Int32)))
   )
def dgW (a1 : Int32) (s4 : Int32 × f_M) : Option ((Int32 × f_M) ⊕ f_M) :=
   if s4.1 ≤ 0 then (
    some (.inr s4.2)
   ) else (
    if s4.1 = 0 then none else
    (g_347 ((48 : Int32) + ((a1 / s4.1) - (a1 / s4.1) / (10 : Int32) * (10 : Int32))) s4.2).bind fun t6 =>
    some (.inl ((s4.1 / (10 : Int32)), t6))
   )
theorem g_348_eq (a1 : Int32) (σ : f_M) : g_348 a1 σ = (f_lp (fun s1 => dgC s1 a1) f_F (1 : Int32)).bind fun (x1 : Int32) => (f_lp (dgW a1) f_F (x1, σ)).bind fun (x4 : f_M) => some x4 := by
  unfold g_348; rfl
theorem dgC_n {m d : Nat} (hm : m ≤ 500) (hd : 0 < d) (hd' : d ≤ 100) : dgC (nI d) (nI m) = if m / d ≤ 9 then some (.inr (nI d)) else some (.inl (nI (d * 10))) := by
  have hq : m / d ≤ m := Nat.div_le_self m d
  unfold dgC
  rw [if_neg (by rw [show (0 : Int32) = nI 0 from rfl, n_eq (by omega) (by omega)]; omega), n_div (by omega) (by omega), show (9 : Int32) = nI 9 from rfl, show (10 : Int32) = nI 10 from rfl, n_mul]
  by_cases h : m / d ≤ 9
  · rw [if_pos (by rw [n_le (by omega) (by omega)]; exact h), if_pos h]
  · rw [if_neg (by rw [n_le (by omega) (by omega)]; exact h), if_neg h]
theorem dgW_n {m d : Nat} {τ τ' : f_M} (hm : m ≤ 500) (hd : 0 < d) (hd' : d ≤ 100) (h : g_347 (nI (48 + m / d % 10)) τ = some τ') : dgW (nI m) (nI d, τ) = some (.inl (nI (d / 10), τ')) := by
  have hq : m / d ≤ m := Nat.div_le_self m d
  unfold dgW
  dsimp only
  rw [if_neg (by rw [show (0 : Int32) = nI 0 from rfl, n_le (by omega) (by omega)]; omega), if_neg (by rw [show (0 : Int32) = nI 0 from rfl, n_eq (by omega) (by omega)]; omega), n_div (by omega) (by omega), show (10 : Int32) = nI 10 from rfl, n_mod (by omega) (by omega), show (48 : Int32) = nI 48 from rfl, n_add, h, bnd, n_div (by omega) (by omega)]
theorem dgW_0 (a : Int32) (τ : f_M) : dgW a (nI 0, τ) = some (.inr τ) := by
  unfold dgW
  dsimp only
  rw [if_pos (by decide)]
theorem P_amt {σ τ : f_M} {ol m : Nat} (x : oX σ τ ol) (h : ol + 3 ≤ 16) (hm : m ≤ 500) : ∃ σ' τ' ol', g_344 (nI m) σ = some σ' ∧ g_348 (nI m) τ = some τ' ∧ oX σ' τ' ol' ∧ ol' ≤ ol + 3 ∧ oF σ σ' τ τ' := by
  obtain ⟨F, hF⟩ : ∃ F, f_F = F + 1 + 1 + 1 + 1 := ⟨99996, rfl⟩
  rw [g_348_eq, hF]
  unfold g_344
  have e100 : nI m / (100 : Int32) = nI (m / 100) := n_div (b := 100) (by omega) (by omega)
  have e10 : nI m / (10 : Int32) = nI (m / 10) := n_div (b := 10) (by omega) (by omega)
  have e1 : nI m - nI m / (10 : Int32) * (10 : Int32) = nI (m % 10) := n_mod (b := 10) (by omega) (by omega)
  have e11 : nI (m / 10) - nI (m / 10) / (10 : Int32) * (10 : Int32) = nI (m / 10 % 10) := n_mod (b := 10) (by omega) (by omega)
  rw [e1, e10, e11, e100, show (48 : Int32) = nI 48 from rfl, n_add, n_add, n_add, show (100 : Int32) = nI 100 from rfl, show (1 : Int32) = nI 1 from rfl]
  have l10 : (10 : Int32) = nI 10 := rfl
  have d1 := dgC_n (m := m) (d := 1) hm (by omega) (by omega)
  have d10 := dgC_n (m := m) (d := 10) hm (by omega) (by omega)
  have d100 := dgC_n (m := m) (d := 100) hm (by omega) (by omega)
  by_cases h100 : m < 100
  · rw [if_pos (by rw [n_lt (by omega) (by omega)]; exact h100), bnd]
    by_cases h10 : m < 10
    · rw [if_pos (by rw [l10, n_lt (by omega) (by omega)]; exact h10), bnd]
      obtain ⟨σ1, τ1, c1, m1, x1, f1⟩ := P_put (nI (48 + m % 10)) x (by omega)
      rw [if_pos (by omega)] at d1
      refine ⟨σ1, τ1, ol + 1, ?_, ?_, x1, by omega, f1⟩
      · rw [c1, bnd]
      · rw [lp_inr (body := fun s1 => dgC s1 (nI m)) d1, bnd, lp_inl (dgW_n (d := 1) hm (by omega) (by omega) (by rw [Nat.div_one]; exact m1)), show (1 : Nat) / 10 = 0 from rfl, lp_inr (dgW_0 _ _), bnd]
    · rw [if_neg (by rw [l10, n_lt (by omega) (by omega)]; exact h10)]
      obtain ⟨σ1, τ1, c1, m1, x1, f1⟩ := P_put (nI (48 + m / 10 % 10)) x (by omega)
      obtain ⟨σ2, τ2, c2, m2, x2, f2⟩ := P_put (nI (48 + m % 10)) x1 (by omega)
      rw [if_neg (by omega)] at d1
      rw [if_pos (by omega)] at d10
      refine ⟨σ2, τ2, ol + 1 + 1, ?_, ?_, x2, by omega, f1.trans f2⟩
      · rw [c1, bnd, bnd, c2, bnd]
      · rw [lp_inl (body := fun s1 => dgC s1 (nI m)) d1, show 1 * 10 = 10 from rfl, lp_inr (body := fun s1 => dgC s1 (nI m)) d10, bnd, lp_inl (dgW_n (d := 10) hm (by omega) (by omega) m1), show 10 / 10 = 1 from rfl, lp_inl (dgW_n (d := 1) hm (by omega) (by omega) (by rw [Nat.div_one]; exact m2)), show (1 : Nat) / 10 = 0 from rfl, lp_inr (dgW_0 _ _), bnd]
  · rw [if_neg (by rw [n_lt (by omega) (by omega)]; exact h100)]
    obtain ⟨σ0, τ0, c0, m0, x0, f0⟩ := P_put (nI (48 + m / 100)) x (by omega)
    obtain ⟨σ1, τ1, c1, m1, x1, f1⟩ := P_put (nI (48 + m / 10 % 10)) x0 (by omega)
    obtain ⟨σ2, τ2, c2, m2, x2, f2⟩ := P_put (nI (48 + m % 10)) x1 (by omega)
    rw [if_neg (by omega)] at d1
    rw [if_neg (by omega)] at d10
    rw [if_pos (by omega)] at d100
    refine ⟨σ2, τ2, ol + 1 + 1 + 1, ?_, ?_, x2, by omega, f0.trans (f1.trans f2)⟩
    · rw [c0, bnd, bnd, if_neg (by rw [l10, n_lt (by omega) (by omega)]; omega), c1, bnd, bnd, c2, bnd]
    · rw [lp_inl (body := fun s1 => dgC s1 (nI m)) d1, show 1 * 10 = 10 from rfl, lp_inl (body := fun s1 => dgC s1 (nI m)) d10, show 10 * 10 = 100 from rfl, lp_inr (body := fun s1 => dgC s1 (nI m)) d100, bnd, lp_inl (dgW_n (d := 100) hm (by omega) (by omega) (by rw [show m / 100 % 10 = m / 100 from by omega]; exact m0)), show 100 / 10 = 10 from rfl, lp_inl (dgW_n (d := 10) hm (by omega) (by omega) m1), show 10 / 10 = 1 from rfl, lp_inl (dgW_n (d := 1) hm (by omega) (by omega) (by rw [Nat.div_one]; exact m2)), show (1 : Nat) / 10 = 0 from rfl, lp_inr (dgW_0 _ _), bnd]
def nmC (a1 : Int32) (s1 : Int32 × f_M) : Option ((Int32 × f_M) ⊕ f_M) :=
   (f_rd s1.2 104 8 a1).bind fun v2 =>
   if v2 ≤ s1.1 then (
    some (.inr s1.2)
   ) else (
    (g_17 103 a1 s1.1 s1.2).bind fun t3 =>
    (g_342 t3 s1.2).bind fun t4 =>
    some (.inl ((s1.1 + (1 : Int32)), t4))
   )
def nmM (t7 : Int32) (s8 : Int32 × f_M) : Option ((Int32 × f_M) ⊕ f_M) :=
    (f_rd s8.2 156 2420 t7).bind fun v9 =>
    if v9 ≤ s8.1 then (
     some (.inr s8.2)
    ) else (
     (f_rd s8.2 156 2420 ((t7 + (1 : Int32)) + s8.1)).bind fun v10 =>
     (g_347 v10 s8.2).bind fun t11 =>
     some (.inl ((s8.1 + (1 : Int32)), t11))
    )
theorem P_nm {h n : Nat} (hh : h < 8) (hn : n ≤ 6) : ∀ (m j F1 F2 ol : Nat) (σ τ : f_M), m + j = n → m < F1 → m < F2 → oX σ τ ol → ol + m ≤ 16 → σ 104 h = nI n → τ 156 (20 + 9 * h) = nI n → (∀ k, k < n → σ 105 (6 * h + k) = τ 156 (20 + 9 * h + 1 + k)) →
    ∃ σ' τ', f_lp (nmC (nI h)) F1 (nI j, σ) = some σ' ∧ f_lp (nmM (nI (20 + 9 * h))) F2 (nI j, τ) = some τ' ∧ oX σ' τ' (ol + m) ∧ oF σ σ' τ τ' := by
  intro m
  induction m with
  | zero =>
    intro j F1 F2 ol σ τ e hF1 hF2 x ho e1 e2 e3
    obtain ⟨G1, rfl⟩ : ∃ G, F1 = G + 1 := ⟨F1 - 1, by omega⟩
    obtain ⟨G2, rfl⟩ : ∃ G, F2 = G + 1 := ⟨F2 - 1, by omega⟩
    have b1 : nmC (nI h) (nI j, σ) = some (.inr σ) := by
      unfold nmC
      dsimp only
      rw [f_rd_n hh (by omega), bnd, e1, if_pos (by rw [n_le (by omega) (by omega)]; omega)]
    have b2 : nmM (nI (20 + 9 * h)) (nI j, τ) = some (.inr τ) := by
      unfold nmM
      dsimp only
      rw [rdS (by omega), bnd, e2, if_pos (by rw [n_le (by omega) (by omega)]; omega)]
    exact ⟨σ, τ, lp_inr b1, lp_inr b2, x, oF.refl _ _⟩
  | succ m ih =>
    intro j F1 F2 ol σ τ e hF1 hF2 x ho e1 e2 e3
    obtain ⟨G1, rfl⟩ : ∃ G, F1 = G + 1 := ⟨F1 - 1, by omega⟩
    obtain ⟨G2, rfl⟩ : ∃ G, F2 = G + 1 := ⟨F2 - 1, by omega⟩
    obtain ⟨σ1, τ1, c1, m1, x1, f1⟩ := P_put (τ 156 (20 + 9 * h + 1 + j)) x (by omega)
    have b1 : nmC (nI h) (nI j, σ) = some (.inl (nI (j + 1), σ1)) := by
      unfold nmC
      dsimp only
      rw [f_rd_n hh (by omega), bnd, e1, if_neg (by rw [n_le (by omega) (by omega)]; omega), C_17 (by omega), bnd, show σ (103 + 2) (6 * h + j) = _ from e3 j (by omega), c1, bnd, show (1 : Int32) = nI 1 from rfl, n_add]
    have b2 : nmM (nI (20 + 9 * h)) (nI j, τ) = some (.inl (nI (j + 1), τ1)) := by
      unfold nmM
      dsimp only
      rw [rdS (by omega), bnd, e2, if_neg (by rw [n_le (by omega) (by omega)]; omega), show (1 : Int32) = nI 1 from rfl, n_add, n_add, rdS (by omega), bnd, m1, bnd, n_add]
    obtain ⟨σ2, τ2, c2, m2, x2, f2⟩ := ih (j + 1) G1 G2 (ol + 1) σ1 τ1 (by omega) (by omega) (by omega) x1 (by omega) (by rw [f1.1 104 (by omega) (by omega)]; exact e1) (by rw [f1.2.2.1 156 (by omega) (by omega)]; exact e2) (fun k hk => by rw [f1.1 105 (by omega) (by omega), f1.2.2.1 156 (by omega) (by omega)]; exact e3 k hk)
    refine ⟨σ2, τ2, ?_, ?_, ?_, f1.trans f2⟩
    · rw [lp_inl b1]; exact c2
    · rw [lp_inl b2]; exact m2
    · rw [show ol + (m + 1) = ol + 1 + m from by omega]; exact x2
theorem IV_out {D ol : Nat} {σ σ' τ τ' : f_M} (I : IV D σ τ) (f1 : ∀ r, r ≠ 0 → r ≠ 2 → σ' r = σ r) (f2 : ∀ i, i ≠ 3 → σ' 0 i = σ 0 i) (f3 : ∀ r, r ≠ 155 → r ≠ 165 → τ' r = τ r) (f4 : ∀ i, i ≠ 24 → i ≠ 6 → τ' 155 i = τ 155 i) (x : oX σ' τ' ol) (ho : ol ≤ 16) : IV D σ' τ' := by
  obtain ⟨ck, hc, ac, pc, cc, g, q, n, k, o, P, S, H, M, V, ⟨len, T⟩, E, B, O⟩ := I
  refine ⟨ck, hc, ac, pc, cc, g, q, n, k, o, P, sAll_keep S (fun r h h' => f1 r (by omega) (by omega)) (f3 156 (by omega) (by omega)), cH_keep H (fun r h h' => f1 r (by omega) (by omega)), mH_keep M (f4 4 (by omega) (by omega)) (f3 159 (by omega) (by omega)), svR_keep V (Nat.le_refl _) (f2 15 (by omega)) (fun r h => f1 r (by omega) (by omega)) (f4 5 (by omega) (by omega)) (f3 158 (by omega) (by omega)), ⟨len, tX_keep T (f2 1 (by omega)) (f1 1 (by omega) (by omega)) (f4 10 (by omega) (by omega)) (f3 161 (by omega) (by omega))⟩, ?_, fb_keep B (f1 7 (by omega) (by omega)), ⟨ol, ho, x⟩⟩
  unfold eR
  rw [f1 3 (by omega) (by omega), f4 11 (by omega) (by omega), f4 12 (by omega) (by omega)]
  exact E
