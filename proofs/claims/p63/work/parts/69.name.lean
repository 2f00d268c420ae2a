/-! Names: read by both. -/
def nFr (τ τ' : f_M) : Prop := (∀ r, r ≠ 155 → r ≠ 160 → τ' r = τ r) ∧ ∀ i, (i < 8 ∨ (8 < i ∧ i < 13) ∨ 18 < i) → τ' 155 i = τ 155 i
theorem mFr.n {τ τ' : f_M} (h : mFr τ τ') : nFr τ τ' := ⟨fun r h1 _ => h.1 r h1, fun i hi => h.2 i (by omega)⟩
theorem nFr.trans {a b c : f_M} (h1 : nFr a b) (h2 : nFr b c) : nFr a c := ⟨fun r h h' => (h2.1 r h h').trans (h1.1 r h h'), fun i h => (h2.2 i h).trans (h1.2 i h)⟩
/-- a block written into a row -/
def wrO (o : Nat) (f r : Nat → Int32) (j : Nat) : Nat → Int32 := fun i => if o ≤ i ∧ i < o + j then f (i - o) else r i
theorem wrO_zero (o : Nat) (f r : Nat → Int32) : wrO o f r 0 = r := by
  funext i; unfold wrO; rw [if_neg (by omega)]
theorem wrO_succ (o : Nat) (f r : Nat → Int32) (j : Nat) : upd (wrO o f r j) (o + j) (f j) = wrO o f r (j + 1) := by
  funext i
  by_cases h : i = o + j
  · subst h
    rw [upd_same]; unfold wrO; rw [if_pos (by omega), Nat.add_sub_cancel_left]
  · rw [upd_ne h]; unfold wrO
    by_cases h2 : o ≤ i ∧ i < o + j
    · rw [if_pos h2, if_pos (by omega)]
    · rw [if_neg h2, if_neg (by omega)]
theorem wrO_in {o : Nat} {f r : Nat → Int32} {j i : Nat} (h : i < j) : wrO o f r j (o + i) = f i := by
  unfold wrO; rw [if_pos (by omega), Nat.add_sub_cancel_left]
theorem wrO_out {o : Nat} {f r : Nat → Int32} {j i : Nat} (h : i < o ∨ o + j ≤ i) : wrO o f r j i = r i := by
  unfold wrO; rw [if_neg (by omega)]
theorem M_spell {t : Nat → Int32} {S n : Nat} {τ : f_M} (hl : ∀ k, k < n → τ 161 (S + k) = t (S + k)) (h13 : τ 155 13 = nI S) (h8 : τ 155 8 = nI n) (hn : n ≤ 6) (hS : S + n ≤ 600) : f_lp (fun (s7 : Int32 × f_M) =>
   if (s7.2 155 8) ≤ s7.1 then (
    some (.inr s7.2)
   ) else (
    (f_rd s7.2 161 600 ((s7.2 155 13) + s7.1)).bind fun v8 =>
    (f_wr s7.2 160 6 s7.1 v8).bind fun m9 =>
    some (.inl ((s7.1 + (1 : Int32)), m9))
   )
  ) f_F ((0 : Int32), τ) = some (f_row τ 160 (wrO 0 (fun k => t (S + k)) (τ 160) n)) := by
  have e8 : ∀ r, f_row τ 160 r 155 8 = nI n := fun r => by rw [row_ne (by omega)]; exact h8
  have e13 : ∀ r, f_row τ 160 r 155 13 = nI S := fun r => by rw [row_ne (by omega)]; exact h13
  have e161 : ∀ r, f_row τ 160 r 161 = τ 161 := fun r => row_ne (by omega)
  refine lp_go (fun j => (nI j, f_row τ 160 (wrO 0 (fun k => t (S + k)) (τ 160) j))) n ?_ (f_F_lt (by omega)) ?_ ?_
  · rw [wrO_zero, row_self]; rfl
  · intro j hj
    have hw := wrO_succ 0 (fun k => t (S + k)) (τ 160) j
    rw [Nat.zero_add] at hw
    simp only [e8, e13]
    rw [if_neg (by rw [n_le (by omega) (by omega)]; omega), n_add, f_rd_n (by omega) (by omega), bnd, e161, hl j hj, f_wr_n (by omega) (by omega), bnd, show (1 : Int32) = nI 1 from rfl, n_add, up_of_row, ← hw]
  · simp only [e8]
    rw [if_pos (by rw [n_le (by omega) (by omega)]; omega)]
theorem M_55F {τ : f_M} {k S : Nat} (e : mE τ k S) : g_55 τ = some (f_up τ 155 8 (nI 0)) := by
  have h1 : ∀ b : Bool, ((some b : Option Bool).bind fun (t1 : Bool) =>
  (g_54 t1 (1 : Int32) τ).bind fun t4 =>
  (
   if ¬ (t4 155 17) = 0 then (
    some (0 : Int32)
   ) else (
    some ((t4 155 14) - (t4 155 13))
   )
  ).bind fun (t5 : Int32) =>
  (f_lp (fun (s7 : Int32 × f_M) =>
   if (s7.2 155 8) ≤ s7.1 then (
    some (.inr s7.2)
   ) else (
    (f_rd s7.2 161 600 ((s7.2 155 13) + s7.1)).bind fun v8 =>
    (f_wr s7.2 160 6 s7.1 v8).bind fun m9 =>
    some (.inl ((s7.1 + (1 : Int32)), m9))
   )
  ) f_F ((0 : Int32), (f_up t4 155 8 t5))).bind fun (x7 : f_M) =>
  some x7) = some (f_up τ 155 8 (nI 0)) := fun b => by
    rw [bnd, M_exF e, bnd, if_pos e.ne, bnd, lp_go (fun _ => ((0 : Int32), f_up τ 155 8 (0 : Int32))) 0 (r := f_up τ 155 8 (0 : Int32)) rfl (f_F_lt (by omega)) (fun j hj => by omega) (by
      dsimp only
      rw [if_pos (by rw [up_same]; decide)]), bnd]
    rfl
  unfold g_55
  by_cases h : τ 155 15 = 1
  · rw [if_neg (fun h' => h' h)]
    by_cases h6 : (6 : Int32) < τ 155 14 - τ 155 13
    · rw [if_pos h6]; exact h1 false
    · rw [if_neg h6]; exact h1 true
  · rw [if_pos h]; exact h1 false
theorem mE_8 {τ : f_M} {c S : Nat} {v : Int32} (e : mE τ c S) : mE (f_up τ 155 8 v) c S :=
  ⟨by rw [up_ix (by omega)]; exact e.1, by rw [up_ix (by omega)]; exact e.2.1, e.2.2⟩
theorem nFr_8 {τ : f_M} {v : Int32} : nFr τ (f_up τ 155 8 v) :=
  ⟨fun r h _ => by rw [up_rows h], fun i h => by rw [up_ix (by omega)]⟩
theorem C_11 {t : Nat → Int32} {len p : Nat} {σ : f_M} (ct : cT t len σ p) (hp : p ≤ len) : g_11 σ = some (nI (tkE t len p - tkS t len p)) := by
  unfold g_11; rw [ct.2.1, ct.1, n_sub (tkE_le hp).1]
theorem P_name {t : Nat → Int32} {len p : Nat} {σ τ : f_M} (g : LG t len σ τ p) :
    (∃ σ' τ', g_16 σ = some (true, σ') ∧ g_55 τ = some τ' ∧ (cX t len σ' ∧ cT t len σ' p) ∧ (mX t len τ' ∧ mT t len τ' p) ∧ tkK t len p = 1 ∧ tkE t len p - tkS t len p ≤ 6 ∧ τ' 155 8 = nI (tkE t len p - tkS t len p) ∧ (∀ k, k < tkE t len p - tkS t len p → τ' 160 k = t (tkS t len p + k)) ∧ cFr σ σ' ∧ nFr τ τ') ∨
    ∃ c S σ' τ', g_16 σ = some (false, σ') ∧ g_55 τ = some τ' ∧ FL σ' τ' c S ∧ cFr σ σ' ∧ nFr τ τ' := by
  obtain ⟨⟨x, h4⟩, hp, y, m⟩ := g
  have hE := tkE_le (t := t) hp
  obtain ⟨σ1, e1, x', ct, fr⟩ := C_next x h4 hp
  have xl := x.2.2.1
  have n1 : ∀ v : Int32, v = nI (tkK t len p) → (v = 1 ↔ tkK t len p = 1) := fun v hv => by
    rw [hv, show (1 : Int32) = nI 1 from rfl, n_eq (by have := tkK_le t len p; omega) (by omega)]
  have e := mE_now (τ := τ) (c := 1) (S := tkS t len p) m.1 (by omega) (by omega)
  have bad : ∀ b, g_16 σ = some (b, f_up (f_up σ1 3 6 1) 3 7 (σ1 3 3)) → b = false → g_55 τ = some (f_up (f_up (f_up τ 155 17 (nI 1)) 155 18 (τ 155 13)) 155 8 (nI 0)) → ∃ c S σ' τ', g_16 σ = some (false, σ') ∧ g_55 τ = some τ' ∧ FL σ' τ' c S ∧ cFr σ σ' ∧ nFr τ τ' := fun b h1 hb h2 => by
    subst hb
    refine ⟨1, tkS t len p, _, _, h1, h2, ⟨?_, ?_, mE_8 e⟩, fun r h => ?_, mFr_now.n.trans nFr_8⟩
    · rw [up_ix (by omega), up_same]; rfl
    · rw [up_same]; exact ct.1
    · rw [up_rows h, up_rows h, fr r h]
  have mbad : ((some false : Option Bool).bind fun (t1 : Bool) =>
  (g_54 t1 (1 : Int32) τ).bind fun t4 =>
  (
   if ¬ (t4 155 17) = 0 then (
    some (0 : Int32)
   ) else (
    some ((t4 155 14) - (t4 155 13))
   )
  ).bind fun (t5 : Int32) =>
  (f_lp (fun (s7 : Int32 × f_M) =>
   if (s7.2 155 8) ≤ s7.1 then (
    some (.inr s7.2)
   ) else (
    (f_rd s7.2 161 600 ((s7.2 155 13) + s7.1)).bind fun v8 =>
    (f_wr s7.2 160 6 s7.1 v8).bind fun m9 =>
    some (.inl ((s7.1 + (1 : Int32)), m9))
   )
  ) f_F ((0 : Int32), (f_up t4 155 8 t5))).bind fun (x7 : f_M) =>
  some x7) = some (f_up (f_up (f_up τ 155 17 (nI 1)) 155 18 (τ 155 13)) 155 8 (nI 0)) := by
    rw [bnd, M_ex0 y.2.2.2, bnd, if_pos (show ¬ f_up (f_up τ 155 17 (1 : Int32)) 155 18 (τ 155 13) 155 17 = 0 from e.ne), bnd]
    rw [lp_go (fun _ => ((0 : Int32), f_up (f_up (f_up τ 155 17 (1 : Int32)) 155 18 (τ 155 13)) 155 8 (0 : Int32))) 0 (r := f_up (f_up (f_up τ 155 17 (1 : Int32)) 155 18 (τ 155 13)) 155 8 (0 : Int32)) rfl (f_F_lt (by omega)) (fun j hj => by omega) (by
      dsimp only
      rw [if_pos (by rw [up_same]; decide)]), bnd]
    rfl
  by_cases hK : tkK t len p = 1
  · have c1 := (n1 _ ct.2.2).mpr hK
    have d1 := (n1 _ m.2.2.1).mpr hK
    have h11 := C_11 ct hp
    by_cases h6 : tkE t len p - tkS t len p ≤ 6
    · refine Or.inl ⟨σ1, f_row (f_up τ 155 8 (nI (tkE t len p - tkS t len p))) 160 (wrO 0 (fun k => t (tkS t len p + k)) (τ 160) (tkE t len p - tkS t len p)), ?_, ?_, ⟨x', ct⟩, ⟨mX_frame y (fun i hi => by rw [row_ne (by omega), up_rows (by omega)]) (by rw [row_ne (by omega), up_ix (by omega)]) (by rw [row_ne (by omega), up_ix (by omega)]), ?_⟩, hK, h6, ?_, fun k hk => ?_, fr, ⟨fun r h h' => ?_, fun i h => ?_⟩⟩
      · unfold g_16
        rw [e1, bnd, if_neg (fun h => h c1), h11, bnd, show (6 : Int32) = nI 6 from rfl, if_pos (by rw [n_le (by omega) (by omega)]; omega), bnd]
      · unfold g_55
        rw [if_neg (fun h => h d1), m.2.1, m.1, n_sub hE.1, if_neg (by rw [show (6 : Int32) = nI 6 from rfl, n_lt (by omega) (by omega)]; omega), bnd, M_exT, bnd, if_neg (fun h => h y.2.2.2), bnd, m.2.1, m.1, n_sub hE.1, M_spell (t := t) (S := tkS t len p) (n := tkE t len p - tkS t len p) (fun k hk => by rw [up_rows (by omega)]; exact y.2.2.1 _ (by omega)) (by rw [up_ix (by omega)]; exact m.1) (up_same _ _ _ _) h6 (by omega), bnd, up_rows (by omega)]
      · refine ⟨?_, ?_, ?_, fun h => ?_⟩
        · rw [row_ne (by omega), up_ix (by omega)]; exact m.1
        · rw [row_ne (by omega), up_ix (by omega)]; exact m.2.1
        · rw [row_ne (by omega), up_ix (by omega)]; exact m.2.2.1
        · rw [row_ne (by omega), up_ix (by omega)]; exact m.2.2.2 h
      · rw [row_ne (by omega), up_same]
      · rw [row_same]
        have := wrO_in (o := 0) (f := fun k => t (tkS t len p + k)) (r := τ 160) hk
        rw [Nat.zero_add] at this
        exact this
      · rw [row_ne h', up_rows h]
      · rw [row_ne (by omega), up_ix (by omega)]
    · refine Or.inr (bad _ ?_ rfl ?_)
      · unfold g_16
        rw [e1, bnd, if_neg (fun h => h c1), h11, bnd, show (6 : Int32) = nI 6 from rfl, if_neg (by rw [n_le (by omega) (by omega)]; omega), C_fail, bnd, if_pos rfl, bnd]
      · unfold g_55
        rw [if_neg (fun h => h d1), m.2.1, m.1, n_sub hE.1, if_pos (by rw [show (6 : Int32) = nI 6 from rfl, n_lt (by omega) (by omega)]; omega)]
        rw [m.1] at mbad
        exact mbad
  · refine Or.inr (bad _ ?_ rfl ?_)
    · unfold g_16
      rw [e1, bnd, if_pos (fun h => hK ((n1 _ ct.2.2).mp h)), C_fail, bnd, if_pos rfl, bnd]
    · unfold g_55
      rw [if_pos (fun h => hK ((n1 _ m.2.2.1).mp h))]
      exact mbad
