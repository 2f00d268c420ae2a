/-! Queries: what class and model test first; glue. -/
theorem C_req_ok {σ : f_M} {p c : Nat} (hp : p < c) (hc : c < 2147483648) : g_171 (nI p) (nI c) σ = some (.inl ()) := by
  unfold g_171
  rw [if_neg (n_neg (by omega)), if_pos ((n_lt (by omega) hc).mpr hp)]
theorem C_req_no {σ : f_M} {a : Int32} {c : Nat} (h : a < 0 ∨ nI c ≤ a) : g_171 a (nI c) σ = some (.inr 0) := by
  unfold g_171
  by_cases h0 : a < 0
  · rw [if_pos h0]
  · rw [if_neg h0, if_neg ((i32_nlt _ _).mpr (h.resolve_left h0))]
theorem R_hol {σ : f_M} {p c : Nat} (e : σ 103 0 = nI c) (hc : c < 2147483648) (hp : p < c) : g_172 (nI p) σ = some (.inl ()) := by
  unfold g_172; rw [e, C_req_ok hp hc, bnd]; rfl
theorem R_hol0 {σ : f_M} {a : Int32} {c : Nat} (e : σ 103 0 = nI c) (h : a < 0 ∨ nI c ≤ a) : g_172 a σ = some (.inr 0) := by
  unfold g_172; rw [e, C_req_no h, bnd]; rfl
theorem R_hour {σ : f_M} {p c : Nat} (e : σ 121 0 = nI c) (hc : c < 2147483648) (hp : p < c) : g_186 (nI p) σ = some (.inl ()) := by
  unfold g_186; rw [e, C_req_ok hp hc, bnd]; rfl
theorem R_hour0 {σ : f_M} {a : Int32} {c : Nat} (e : σ 121 0 = nI c) (h : a < 0 ∨ nI c ≤ a) : g_186 a σ = some (.inr 0) := by
  unfold g_186; rw [e, C_req_no h, bnd]; rfl
theorem R_pol {σ : f_M} {p c : Nat} (e : σ 121 3 = nI c) (hc : c < 2147483648) (hp : p < c) : g_196 (nI p) σ = some (.inl ()) := by
  unfold g_196; rw [e, C_req_ok hp hc, bnd]; rfl
theorem R_pol0 {σ : f_M} {a : Int32} {c : Nat} (e : σ 121 3 = nI c) (h : a < 0 ∨ nI c ≤ a) : g_196 a σ = some (.inr 0) := by
  unfold g_196; rw [e, C_req_no h, bnd]; rfl
theorem R_cl {σ : f_M} {p c : Nat} (e : σ 121 5 = nI c) (hc : c < 2147483648) (hp : p < c) : g_230 (nI p) σ = some (.inl ()) := by
  unfold g_230; rw [e, C_req_ok hp hc, bnd]; rfl
theorem R_cl0 {σ : f_M} {a : Int32} {c : Nat} (e : σ 121 5 = nI c) (h : a < 0 ∨ nI c ≤ a) : g_230 a σ = some (.inr 0) := by
  unfold g_230; rw [e, C_req_no h, bnd]; rfl
theorem R_as {σ : f_M} {p c : Nat} (e : σ 103 4 = nI c) (hc : c < 2147483648) (hp : p < c) : g_254 (nI p) σ = some (.inl ()) := by
  unfold g_254; rw [e, C_req_ok hp hc, bnd]; rfl
theorem R_as0 {σ : f_M} {a : Int32} {c : Nat} (e : σ 103 4 = nI c) (h : a < 0 ∨ nI c ≤ a) : g_254 a σ = some (.inr 0) := by
  unfold g_254; rw [e, C_req_no h, bnd]; rfl
theorem inN_ok {p c : Nat} (hp : p < c) (hc : c < 2147483648) : inN (nI p) c = true := (inN_iff hc).mpr ⟨p, hp, rfl⟩
theorem inN_no {a : Int32} {c : Nat} (h : a < 0 ∨ nI c ≤ a) : inN a c = false := by
  unfold inN
  rcases h with h | h
  · rw [decide_eq_true h]; rfl
  · rw [decide_eq_false (p := a < nI c) ((i32_nlt _ _).mpr h), Bool.and_false]
theorem M_isH {τ : f_M} {c : Nat} (x : Int32) (h : τ 156 2 = nI c) (hc : c < 2147483648) : g_175 x τ = some (inN x c) := by
  unfold g_175; rw [show (2 : Int32) = nI 2 from rfl, rdS (by omega), bnd, h, M_in τ x hc, bnd]
theorem M_isT {τ : f_M} {c : Nat} (x : Int32) (h : τ 156 0 = nI c) (hc : c < 2147483648) : g_189 x τ = some (inN x c) := by
  unfold g_189; rw [show f_rd τ 156 2420 (0 : Int32) = some (τ 156 0) from rdS (k := 0) (by omega), bnd, h, M_in τ x hc, bnd]
theorem M_isC {τ : f_M} {c : Nat} (x : Int32) (h : τ 156 5 = nI c) (hc : c < 2147483648) : g_233 x τ = some (inN x c) := by
  unfold g_233; rw [show (5 : Int32) = nI 5 from rfl, rdS (by omega), bnd, h, M_in τ x hc, bnd]
theorem M_isA {τ : f_M} {c : Nat} (x : Int32) (h : τ 156 3 = nI c) (hc : c < 2147483648) : g_257 x τ = some (inN x c) := by
  unfold g_257; rw [show (3 : Int32) = nI 3 from rfl, rdS (by omega), bnd, h, M_in τ x hc, bnd]
def thr (a b c : Bool) : Int32 := if a = true then (if b = true then (if c = true then 0 else 3) else 2) else 1
theorem M_chk (τ : f_M) (a b c : Bool) : g_176 a b c τ = some (a && b && c, f_up τ 155 6 (thr a b c)) := by
  unfold g_176 thr
  cases a
  · simp only [Bool.false_eq_true, if_false, bnd, up_same]; rfl
  · cases b
    · simp only [Bool.false_eq_true, if_false, if_true, bnd, up_same]; rfl
    · cases c
      · simp only [Bool.false_eq_true, if_false, if_true, bnd, up_same]; rfl
      · simp only [if_true, bnd, up_same, not_true_eq_false, if_false]; rfl
/-- a query without an exception -/
def qA (C : Option Int32) (M : Option (Int32 × f_M)) (τ : f_M) : Prop := ∃ v, C = some v ∧ M = some (v, f_up τ 155 6 0)
/-- a query that may throw -/
def qB (W : f_M → Option (Int32 × f_M)) (M : f_M → Option (Int32 × f_M)) (σ τ : f_M) : Prop := (∃ v, W σ = some (0, f_up σ 167 0 v) ∧ M τ = some (v, f_up τ 155 6 0)) ∨ ∃ k v, ¬ k = 0 ∧ W σ = some (k, σ) ∧ M τ = some (v, f_up τ 155 6 k)
def qZ (W : f_M → Option (Int32 × f_M)) (M : f_M → Option (Bool × f_M)) (σ τ : f_M) : Prop := (∃ b, W σ = some (0, f_up σ 167 0 (f_b b)) ∧ M τ = some (b, f_up τ 155 6 0)) ∨ ∃ k v, ¬ k = 0 ∧ W σ = some (k, σ) ∧ M τ = some (v, f_up τ 155 6 k)
theorem IV_six {D : Nat} {σ τ : f_M} (I : IV D σ τ) (v : Int32) : IV D σ (f_up τ 155 6 v) := IV_ext I (fun _ _ => rfl) (fun r h _ => up_rows (by omega)) (fun i h => up_ix h)
theorem IV_mu {D : Nat} {μ μ' : f_M} (I : IV D μ μ) (e : ∀ r, r < 167 → r ≠ 155 → μ' r = μ r) (e5 : ∀ i, i ≠ 6 → μ' 155 i = μ 155 i) : IV D μ' μ' := IV_ext I (fun r h => e r (by omega) (by omega)) (fun r h h' => e r (by omega) (by omega)) e5
theorem lgc (v : Int32) : lg_cmp v.toInt64 v.toInt64 = 0 := by
  have h1 : ¬ lg_cmp v.toInt64 v.toInt64 < 0 := by rw [lg_cmp_lt, t64_lt]; exact Int32.lt_irrefl
  have h2 : ¬ 0 < lg_cmp v.toInt64 v.toInt64 := by rw [lg_cmp_gt, t64_lt]; exact Int32.lt_irrefl
  exact Int32.le_antisymm ((i32_nlt _ _).mp h2) ((i32_nlt _ _).mp h1)
theorem glueA {D : Nat} {μ : f_M} {C : Option Int32} {M : Option (Int32 × f_M)} (I : IV D μ μ) (h : qA C M μ) : ∃ μ', (C.bind fun t => M.bind fun t' => if t = t'.1 then (some t'.2) else (none)) = some μ' ∧ IV (D + 30000) μ' μ' := by
  obtain ⟨v, h1, h2⟩ := h
  refine ⟨_, by rw [h1, bnd, h2, bnd, if_pos rfl], IV_mu (IV_mono I (by omega)) (fun r _ h => up_rows h) (fun i h => up_ix h)⟩
theorem glueB {D : Nat} {μ : f_M} {W M : f_M → Option (Int32 × f_M)} (I : IV D μ μ) (h : ∀ σ τ, IV D σ τ → qB W M σ τ) : ∃ μ', ((W μ).bind fun t => (M t.2).bind fun t' => (g_178 t'.2).bind fun t'' =>
  if t'' = t.1 then (
   if ¬ t.1 = 0 then (
    some t'.2
   ) else (
    (f_rd t'.2 167 1 (0 : Int32)).bind fun v47 =>
    if (lg_cmp (v47).toInt64 (t'.1).toInt64) = 0 then (
     some t'.2
    ) else (
     none
    )
   )
  ) else (
   none
  )) = some μ' ∧ IV (D + 30000) μ' μ' := by
  have I' := IV_mono I (by omega : D ≤ D + 30000)
  rcases h μ μ I with ⟨v, h1, h2⟩ | ⟨k, v, hk, h1, h2⟩
  · have J : IV D μ (f_up μ 167 0 v) := IV_ext I (fun _ _ => rfl) (fun r _ h => up_rows (by omega)) (fun i _ => by rw [up_rows (by omega)])
    rcases h μ (f_up μ 167 0 v) J with ⟨v', h3, h4⟩ | ⟨k, v', hk, h3, h4⟩
    · rw [h1] at h3
      have ev : f_up μ 167 0 v = f_up μ 167 0 v' := (Prod.mk.inj (Option.some.inj h3)).2
      have ev2 : v = v' := by
        have := congrFun (congrFun ev 167) 0
        rw [up_same, up_same] at this; exact this
      subst ev2
      refine ⟨f_up (f_up μ 167 0 v) 155 6 0, ?_, IV_mu I' (fun r h h' => by rw [up_rows h', up_rows (by omega)]) (fun i h => by rw [up_ix h, up_rows (by omega)])⟩
      rw [h1, bnd, h4, bnd]
      unfold g_178
      rw [bnd, if_pos (show f_up (f_up μ 167 0 v) 155 6 0 155 6 = 0 from up_same _ _ _ _), if_neg (show ¬ ¬ (0 : Int32) = 0 from fun h => h rfl)]
      dsimp only
      rw [show f_rd (f_up (f_up μ 167 0 v) 155 6 0) 167 1 (0 : Int32) = some (f_up (f_up μ 167 0 v) 155 6 0 167 0) from f_rd_n (p := 0) (by omega) (by omega), bnd, if_pos (show lg_cmp (f_up (f_up μ 167 0 v) 155 6 0 167 0).toInt64 v.toInt64 = 0 from by rw [up_rows (by omega), up_same]; exact lgc v)]
    · rw [h1] at h3
      exact absurd (Prod.mk.inj (Option.some.inj h3)).1.symm hk
  · refine ⟨f_up μ 155 6 k, ?_, IV_mu I' (fun r h h' => up_rows h') (fun i h => up_ix h)⟩
    rw [h1, bnd, h2, bnd]
    unfold g_178
    rw [bnd, if_pos (show f_up μ 155 6 k 155 6 = k from up_same _ _ _ _), if_pos (show ¬ k = 0 from hk)]
theorem glueZ {D : Nat} {μ : f_M} {W : f_M → Option (Int32 × f_M)} {M : f_M → Option (Bool × f_M)} (I : IV D μ μ) (h : ∀ σ τ, IV D σ τ → qZ W M σ τ) : ∃ μ', ((W μ).bind fun t => (M t.2).bind fun t' => (g_178 t'.2).bind fun t'' =>
  if t'' = t.1 then (
   if ¬ t.1 = 0 then (
    some t'.2
   ) else (
    (f_rd t'.2 167 1 (0 : Int32)).bind fun v95 =>
    (
     if t'.1 = false then (
      some (0 : Int32)
     ) else (
      some (1 : Int32)
     )
    ).bind fun (t96 : Int32) =>
    if (lg_cmp (v95).toInt64 (t96).toInt64) = 0 then (
     some t'.2
    ) else (
     none
    )
   )
  ) else (
   none
  )) = some μ' ∧ IV (D + 30000) μ' μ' := by
  have I' := IV_mono I (by omega : D ≤ D + 30000)
  rcases h μ μ I with ⟨v, h1, h2⟩ | ⟨k, v, hk, h1, h2⟩
  · have J : IV D μ (f_up μ 167 0 (f_b v)) := IV_ext I (fun _ _ => rfl) (fun r _ h => up_rows (by omega)) (fun i _ => by rw [up_rows (by omega)])
    rcases h μ (f_up μ 167 0 (f_b v)) J with ⟨v', h3, h4⟩ | ⟨k, v', hk, h3, h4⟩
    · rw [h1] at h3
      have ev : f_up μ 167 0 (f_b v) = f_up μ 167 0 (f_b v') := (Prod.mk.inj (Option.some.inj h3)).2
      have ev2 : v = v' := by
        have := congrFun (congrFun ev 167) 0
        rw [up_same, up_same] at this; exact (f_b_eq _ _).mp this
      subst ev2
      refine ⟨f_up (f_up μ 167 0 (f_b v)) 155 6 0, ?_, IV_mu I' (fun r h h' => by rw [up_rows h', up_rows (by omega)]) (fun i h => by rw [up_ix h, up_rows (by omega)])⟩
      rw [h1, bnd, h4, bnd]
      unfold g_178
      rw [bnd, if_pos (show f_up (f_up μ 167 0 (f_b v)) 155 6 0 155 6 = 0 from up_same _ _ _ _), if_neg (show ¬ ¬ (0 : Int32) = 0 from fun h => h rfl)]
      dsimp only
      rw [show f_rd (f_up (f_up μ 167 0 (f_b v)) 155 6 0) 167 1 (0 : Int32) = some (f_up (f_up μ 167 0 (f_b v)) 155 6 0 167 0) from f_rd_n (p := 0) (by omega) (by omega), bnd]
      cases v
      · rw [if_pos (show false = false from rfl), bnd, if_pos (show lg_cmp (f_up (f_up μ 167 0 (f_b false)) 155 6 0 167 0).toInt64 (0 : Int32).toInt64 = 0 from by rw [up_rows (by omega), up_same]; exact lgc _)]
      · rw [if_neg (show ¬ true = false from Bool.noConfusion), bnd, if_pos (show lg_cmp (f_up (f_up μ 167 0 (f_b true)) 155 6 0 167 0).toInt64 (1 : Int32).toInt64 = 0 from by rw [up_rows (by omega), up_same]; exact lgc _)]
    · rw [h1] at h3
      exact absurd (Prod.mk.inj (Option.some.inj h3)).1.symm hk
  · refine ⟨f_up μ 155 6 k, ?_, IV_mu I' (fun r h h' => up_rows h') (fun i h => up_ix h)⟩
    rw [h1, bnd, h2, bnd]
    unfold g_178
    rw [bnd, if_pos (show f_up μ 155 6 k 155 6 = k from up_same _ _ _ _), if_pos (show ¬ k = 0 from hk)]
