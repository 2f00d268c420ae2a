/-! appendInput and truncateInput keep the relation. -/
def shC (j : Nat) : Int32 := if j = 0 then 24 else if j = 1 then 16 else if j = 2 then 8 else if j = 3 then 0 else -8
def shM (j : Nat) : Int32 := if j = 0 then 3 else if j = 1 then 2 else if j = 2 then 1 else if j = 3 then 0 else -1
def bC (a : Int32) (j : Nat) : Int32 := (((((a).toUInt32 >>> ((shC j).toUInt32 &&& Int32.toUInt32 31)).toInt32)).toInt8.toInt32).toInt8.toInt32
def bM (a : Int32) (j : Nat) : Int32 := (((a >>> (((8 : Int32) * shM j) &&& 31))).toInt8.toInt32).toInt8.toInt32
theorem bC_bM (a : Int32) (j : Nat) (hj : j < 4) : bC a j = bM a j := by
  obtain ⟨h0, h1, h2, h3⟩ := byte_sh a
  unfold bC bM
  obtain rfl | rfl | rfl | rfl : j = 0 ∨ j = 1 ∨ j = 2 ∨ j = 3 := by omega
  · show (((a.toUInt32 >>> ((24 : Int32).toUInt32 &&& Int32.toUInt32 31)).toInt32).toInt8.toInt32).toInt8.toInt32 = ((a >>> ((8 : Int32) * 3 &&& 31)).toInt8.toInt32).toInt8.toInt32
    rw [h0]
  · show (((a.toUInt32 >>> ((16 : Int32).toUInt32 &&& Int32.toUInt32 31)).toInt32).toInt8.toInt32).toInt8.toInt32 = ((a >>> ((8 : Int32) * 2 &&& 31)).toInt8.toInt32).toInt8.toInt32
    rw [h1]
  · show (((a.toUInt32 >>> ((8 : Int32).toUInt32 &&& Int32.toUInt32 31)).toInt32).toInt8.toInt32).toInt8.toInt32 = ((a >>> ((8 : Int32) * 1 &&& 31)).toInt8.toInt32).toInt8.toInt32
    rw [h2]
  · show (((a.toUInt32 >>> ((0 : Int32).toUInt32 &&& Int32.toUInt32 31)).toInt32).toInt8.toInt32).toInt8.toInt32 = ((a >>> ((8 : Int32) * 0 &&& 31)).toInt8.toInt32).toInt8.toInt32
    rw [h3]
theorem up_swap {σ : f_M} {a b i k : Nat} {v w : Int32} (h : a ≠ b) : f_up (f_up σ a i v) b k w = f_up (f_up σ b k w) a i v := by
  funext r j
  by_cases h1 : r = a
  · subst h1
    rw [up_rows h]
    by_cases hi : j = i
    · subst hi; rw [up_same, up_same]
    · rw [up_ix hi, up_ix hi, up_rows h]
  · by_cases h2 : r = b
    · subst h2
      rw [up_rows (σ := f_up σ r k w) (a := a) h1]
      by_cases hi : j = k
      · subst hi; rw [up_same, up_same]
      · rw [up_ix hi, up_ix hi, up_rows h1]
    · rw [up_rows h2, up_rows h1, up_rows h1, up_rows h2]
theorem C_word {σ : f_M} {len : Nat} (a : Int32) (h : σ 0 1 = nI len) (hl : len + 4 ≤ 600) : g_41 a σ = some (f_up (f_row σ 1 (wrO len (bC a) (σ 1) 4)) 0 1 (nI (len + 4))) := by
  unfold g_41
  rw [lp_go (fun j => (shC j, f_up (f_row σ 1 (wrO len (bC a) (σ 1) j)) 0 1 (nI (len + j)))) 4 (r := f_up (f_row σ 1 (wrO len (bC a) (σ 1) 4)) 0 1 (nI (len + 4))) ?_ (f_F_lt (by omega)) ?_ ?_, bnd]
  · rw [wrO_zero, row_self, show f_up σ 0 1 (nI (len + 0)) = σ from by
      funext r i
      rw [f_up_eq]
      by_cases hr : r = 0
      · subst hr
        by_cases hi : i = 1
        · subst hi; rw [if_pos rfl, if_pos rfl]; exact h.symm
        · rw [if_pos rfl, if_neg hi]
      · rw [if_neg hr]]
    rfl
  · intro j hj
    have hs := wrO_succ len (bC a) (σ 1) j
    have e1 : f_up (f_row σ 1 (wrO len (bC a) (σ 1) j)) 0 1 (nI (len + j)) 0 1 = nI (len + j) := up_same _ _ _ _
    have nx : shC j + (-8 : Int32) = shC (j + 1) := by
      obtain rfl | rfl | rfl | rfl : j = 0 ∨ j = 1 ∨ j = 2 ∨ j = 3 := by omega
      all_goals decide
    have ng : ¬ shC j < 0 := by
      obtain rfl | rfl | rfl | rfl : j = 0 ∨ j = 1 ∨ j = 2 ∨ j = 3 := by omega
      all_goals decide
    dsimp only
    rw [if_neg ng, if_neg (by rw [e1, show (600 : Int32) = nI 600 from rfl, n_le (by omega) (by omega)]; omega), e1, f_wr_n (by omega) (by omega), bnd, nx, up_rows (by omega), e1, show (1 : Int32) = nI 1 from rfl, n_add, up_swap (by omega), up_up, up_swap (by omega), up_of_row]
    show some (Sum.inl (shC (j + 1), f_up (f_row σ 1 (upd (wrO len (bC a) (σ 1) j) (len + j) (bC a j))) 0 1 (nI (len + j + 1)))) = _
    rw [hs]
    rfl
  · have ng : shC 4 < 0 := by decide
    dsimp only
    rw [if_pos ng]
theorem M_word2 {τ : f_M} {len : Nat} (a : Int32) (h : τ 155 10 = nI len) (hl : len + 4 ≤ 600) : g_43 a τ = some (f_up (f_row τ 161 (wrO len (bM a) (τ 161) 4)) 155 10 (nI (len + 4))) := by
  unfold g_43
  rw [lp_go (fun j => (shM j, f_up (f_row τ 161 (wrO len (bM a) (τ 161) j)) 155 10 (nI (len + j)))) 4 (r := f_up (f_row τ 161 (wrO len (bM a) (τ 161) 4)) 155 10 (nI (len + 4))) ?_ (f_F_lt (by omega)) ?_ ?_, bnd]
  · rw [wrO_zero, row_self, show f_up τ 155 10 (nI (len + 0)) = τ from by
      funext r i
      rw [f_up_eq]
      by_cases hr : r = 155
      · subst hr
        by_cases hi : i = 10
        · subst hi; rw [if_pos rfl, if_pos rfl]; exact h.symm
        · rw [if_pos rfl, if_neg hi]
      · rw [if_neg hr]]
    rfl
  · intro j hj
    have hs := wrO_succ len (bM a) (τ 161) j
    have e1 : f_up (f_row τ 161 (wrO len (bM a) (τ 161) j)) 155 10 (nI (len + j)) 155 10 = nI (len + j) := up_same _ _ _ _
    have nx : shM j + (-1 : Int32) = shM (j + 1) := by
      obtain rfl | rfl | rfl | rfl : j = 0 ∨ j = 1 ∨ j = 2 ∨ j = 3 := by omega
      all_goals decide
    have ng : ¬ shM j < 0 := by
      obtain rfl | rfl | rfl | rfl : j = 0 ∨ j = 1 ∨ j = 2 ∨ j = 3 := by omega
      all_goals decide
    dsimp only
    rw [if_neg ng, e1, f_wr_n (by omega) (by omega), bnd, nx, up_rows (by omega), e1, show (1 : Int32) = nI 1 from rfl, n_add, up_swap (by omega), up_up, up_swap (by omega), up_of_row]
    show some (Sum.inl (shM (j + 1), f_up (f_row τ 161 (upd (wrO len (bM a) (τ 161) j) (len + j) (bM a j))) 155 10 (nI (len + j + 1)))) = _
    rw [hs]
    rfl
  · have ng : shM 4 < 0 := by decide
    dsimp only
    rw [if_pos ng]
/-- only the text changed -/
def txF (σ σ' τ τ' : f_M) : Prop := (∀ r, r ≠ 0 → r ≠ 1 → σ' r = σ r) ∧ (∀ i, i ≠ 1 → σ' 0 i = σ 0 i) ∧ (∀ r, r ≠ 155 → r ≠ 161 → τ' r = τ r) ∧ ∀ i, i ≠ 10 → i ≠ 6 → τ' 155 i = τ 155 i
theorem txF.trans {a b c x y z : f_M} (h1 : txF a b x y) (h2 : txF b c y z) : txF a c x z := ⟨fun r h h' => (h2.1 r h h').trans (h1.1 r h h'), fun i h => (h2.2.1 i h).trans (h1.2.1 i h), fun r h h' => (h2.2.2.1 r h h').trans (h1.2.2.1 r h h'), fun i h h' => (h2.2.2.2 i h h').trans (h1.2.2.2 i h h')⟩
theorem P_word {σ τ : f_M} {len : Nat} (a : Int32) (T : tX σ τ len) (hl : len + 4 ≤ 600) : ∃ σ' τ', g_41 a σ = some σ' ∧ g_43 a τ = some τ' ∧ tX σ' τ' (len + 4) ∧ txF σ σ' τ τ' := by
  obtain ⟨t1, t2, t3, t4⟩ := T
  refine ⟨_, _, C_word a t1 hl, M_word2 a t2 hl, ⟨up_same _ _ _ _, up_same _ _ _ _, hl, fun i hi => ?_⟩, ⟨fun r h h' => by rw [up_rows h, row_ne h'], fun i h => by rw [up_ix h, row_ne (by omega)], fun r h h' => by rw [up_rows h, row_ne h'], fun i h h' => by rw [up_ix h, row_ne (by omega)]⟩⟩
  rw [up_rows (by omega), up_rows (by omega), row_same, row_same]
  by_cases h : i < len
  · rw [wrO_out (by omega), wrO_out (by omega)]; exact t4 i h
  · obtain ⟨k, rfl⟩ : ∃ k, i = len + k := ⟨i - len, by omega⟩
    rw [wrO_in (by omega), wrO_in (by omega), bC_bM a k (by omega)]
theorem IV_text {D len : Nat} {σ σ' τ τ' : f_M} (I : IV D σ τ) (f : txF σ σ' τ τ') (T : tX σ' τ' len) : IV D σ' τ' := by
  obtain ⟨ck, hc, ac, pc, cc, g, q, n, k, o, P, S, H, M, V, -, E, B, O⟩ := I
  obtain ⟨f1, f2, f3, f4⟩ := f
  refine ⟨ck, hc, ac, pc, cc, g, q, n, k, o, P, sAll_keep S (fun r h h' => f1 r (by omega) (by omega)) (f3 156 (by omega) (by omega)), cH_keep H (fun r h h' => f1 r (by omega) (by omega)), mH_keep M (f4 4 (by omega) (by omega)) (f3 159 (by omega) (by omega)), svR_keep V (Nat.le_refl _) (f2 15 (by omega)) (fun r h => f1 r (by omega) (by omega)) (f4 5 (by omega) (by omega)) (f3 158 (by omega) (by omega)), ⟨len, T⟩, ?_, fb_keep B (f1 7 (by omega) (by omega)), outR_keep O (f2 3 (by omega)) (f1 2 (by omega) (by omega)) (f4 24 (by omega) (by omega)) (f3 165 (by omega) (by omega))⟩
  unfold eR
  rw [f1 3 (by omega) (by omega), f4 11 (by omega) (by omega), f4 12 (by omega) (by omega)]
  exact E
theorem txF.c {σ σ' τ τ' : f_M} (f : txF σ σ' τ τ') : cFm σ σ' τ τ' := ⟨fun r h _ => f.1 r (by omega) (by omega), fun r h => f.2.2.1 r (by omega) (by omega)⟩
theorem IV_app {D : Nat} {σ τ : f_M} (a b c d e : Int32) (I : IV D σ τ) : ∃ v σ' τ', g_42 a b c d e σ = some (v, σ') ∧ g_44 a b c d e τ = some (v, τ') ∧ IV D σ' τ' ∧ cFm σ σ' τ τ' := by
  have I0 := I
  obtain ⟨ck, hc, ac, pc, cc, g, q, n, k, o, P, S, H, M, V, ⟨len, T⟩, E, B, O⟩ := I0
  obtain ⟨t1, t2, t3, t4⟩ := id T
  have T0 : tX σ (f_up τ 155 6 0) len := ⟨t1, by rw [up_ix (by omega)]; exact t2, t3, fun i hi => by rw [up_rows (by omega)]; exact t4 i hi⟩
  have F0 : txF σ σ τ (f_up τ 155 6 0) := ⟨fun _ _ _ => rfl, fun _ _ => rfl, fun r h _ => up_rows h, fun i _ h => up_ix h⟩
  unfold g_42 g_44
  rw [t1, T0.2.1, show (20 : Int32) = nI 20 from rfl, n_add, show (600 : Int32) = nI 600 from rfl, show (580 : Int32) = nI 580 from rfl]
  by_cases h : len + 20 ≤ 600
  · rw [if_pos (by rw [n_le (by omega) (by omega)]; exact h), if_pos (by rw [n_le (by omega) (by omega)]; omega)]
    obtain ⟨σ1, τ1, c1, m1, T1, F1⟩ := P_word a T0 (by omega)
    obtain ⟨σ2, τ2, c2, m2, T2, F2⟩ := P_word b T1 (by omega)
    obtain ⟨σ3, τ3, c3, m3, T3, F3⟩ := P_word c T2 (by omega)
    obtain ⟨σ4, τ4, c4, m4, T4, F4⟩ := P_word d T3 (by omega)
    obtain ⟨σ5, τ5, c5, m5, T5, F5⟩ := P_word e T4 (by omega)
    have F := F0.trans (F1.trans (F2.trans (F3.trans (F4.trans F5))))
    refine ⟨nI (len + 4 + 4 + 4 + 4 + 4), σ5, τ5, ?_, ?_, IV_text I F T5, F.c⟩
    · rw [c1, bnd, c2, bnd, c3, bnd, c4, bnd, c5, bnd, T5.1]
    · rw [m1, bnd, m2, bnd, m3, bnd, m4, bnd, m5, bnd, T5.2.1]
  · rw [if_neg (by rw [n_le (by omega) (by omega)]; exact h), if_neg (by rw [n_le (by omega) (by omega)]; omega)]
    exact ⟨-1, σ, f_up τ 155 6 0, rfl, rfl, IV_text I F0 T0, F0.c⟩
theorem IV_trunc {D : Nat} {σ τ : f_M} (a : Int32) (I : IV D σ τ) : ∃ (v : Bool) (σ' τ' : f_M), g_45 a σ = some (v, σ') ∧ g_47 a τ = some (v, τ') ∧ IV D σ' τ' ∧ cFm σ σ' τ τ' := by
  have I0 := I
  obtain ⟨ck, hc, ac, pc, cc, g, q, n, k, o, P, S, H, M, V, ⟨len, T⟩, E, B, O⟩ := I0
  obtain ⟨t1, t2, t3, t4⟩ := id T
  rw [C_trunc t1, M_trunc t2]
  by_cases h : a < 0 ∨ nI len < a
  · rw [if_pos h, if_pos h]
    have F0 : txF σ σ τ (f_up τ 155 6 0) := ⟨fun _ _ _ => rfl, fun _ _ => rfl, fun r h _ => up_rows h, fun i _ h => up_ix h⟩
    exact ⟨false, σ, f_up τ 155 6 0, rfl, rfl, IV_text (len := len) I F0 ⟨t1, by rw [up_ix (by omega)]; exact t2, t3, fun i hi => by rw [up_rows (by omega)]; exact t4 i hi⟩, F0.c⟩
  · rw [if_neg h, if_neg h]
    obtain ⟨m, -, hm, rfl⟩ := rng_n (v := a) (a := 0) (b := len) (by omega) (by omega) (fun h' => h (Or.inl h')) (fun h' => h (Or.inr h'))
    have F0 : txF σ (f_up σ 0 1 (nI m)) τ (f_up (f_up τ 155 6 0) 155 10 (nI m)) := ⟨fun r h _ => up_rows h, fun i h => up_ix h, fun r h _ => by rw [up_rows h, up_rows h], fun i h h' => by rw [up_ix h, up_ix h']⟩
    exact ⟨true, _, _, rfl, rfl, IV_text (len := m) I F0 ⟨up_same _ _ _ _, up_same _ _ _ _, by omega, fun i hi => by rw [up_rows (by omega), up_rows (by omega), up_rows (by omega)]; exact t4 i (by omega)⟩, F0.c⟩
