/-! What holds between class and model behind every call. -/
def mH (τ : f_M) (k : Nat) (P : Nat → Nat → Int32) : Prop := τ 155 4 = nI k ∧ ∀ i, i < k → ∀ m, m < 2420 → τ 159 (2420 * i + m) = P i m
def svR (σ τ : f_M) (D hc ac : Nat) : Prop := (σ 0 15 = nI 0 ∧ τ 155 5 = nI 0) ∨ (σ 0 15 = nI 1 ∧ τ 155 5 = nI 1 ∧ ∃ (ck pc cc : Nat) (g : Nat → Nat) (q n : Nat), kAll (τ 158) D ck hc ac pc cc g q n ∧ rB σ 135 (τ 158) ck pc cc ∧ rL σ 148 (τ 158) hc pc cc g q n ∧ rS σ 103 (τ 158) hc ac)
def eR (σ τ : f_M) : Prop := σ 3 6 = τ 155 11 ∧ σ 3 7 = τ 155 12
def outR (σ τ : f_M) : Prop := ∃ ol, ol ≤ 16 ∧ σ 0 3 = nI ol ∧ τ 155 24 = nI ol ∧ ∀ i, i < ol → σ 2 i = τ 165 i
def IV (D : Nat) (σ τ : f_M) : Prop := ∃ (ck hc ac pc cc : Nat) (g : Nat → Nat) (q n k o : Nat) (P : Nat → Nat → Int32), sAll σ τ D ck hc ac pc cc g q n ∧ cH σ D hc ac ck pc cc k o P ∧ mH τ k P ∧ svR σ τ D hc ac ∧ (∃ len, tX σ τ len) ∧ eR σ τ ∧ fb σ ∧ outR σ τ
theorem rB_frame {σ σ' : f_M} {b : Nat} {s : Nat → Int32} {ck pc cc : Nat} (e : ∀ i, i < 13 → σ' (b + i) = σ (b + i)) (h : rB σ b s ck pc cc) : rB σ' b s ck pc cc := by
  obtain ⟨h1, h2, h3⟩ := h
  refine ⟨fun t ht => ?_, fun p hp => rP_at (fun _ _ => rfl) (fun i _ h => by rw [e i (by omega)]) (h2 p hp), fun c hc => ?_⟩
  · rw [e 1 (by omega), e 2 (by omega)]; exact h1 t ht
  · rw [e 11 (by omega), e 12 (by omega)]; exact h3 c hc
theorem sAll_keep {σ σ' τ τ' : f_M} {D ck hc ac pc cc q n : Nat} {g : Nat → Nat} (S : sAll σ τ D ck hc ac pc cc g q n) (e : ∀ r, 103 ≤ r → r ≤ 127 → σ' r = σ r) (f : τ' 156 = τ 156) : sAll σ' τ' D ck hc ac pc cc g q n := by
  obtain ⟨K, B, l, R⟩ := S
  unfold sAll
  rw [f]
  exact ⟨K, rB_frame (fun i hi => e _ (by omega) (by omega)) B, rL_frame (fun j hj => e _ (by omega) (by omega)) l, rS_frame (fun j hj => e _ (by omega) (by omega)) R⟩
theorem cH_keep {σ σ' : f_M} {D hc ac ck pc cc k o : Nat} {P : Nat → Nat → Int32} (H : cH σ D hc ac ck pc cc k o P) (e : ∀ r, 44 ≤ r → r ≤ 127 → σ' r = σ r) : cH σ' D hc ac ck pc cc k o P := by
  obtain ⟨CK, PC, CC, Q, N, G, ⟨a1, a2, a3, a4⟩, h1, h2, h3⟩ := H
  refine ⟨CK, PC, CC, Q, N, G, ⟨?_, ?_, a3, a4⟩, fun i hi => ?_, h2, h3⟩
  · rw [e 44 (by omega) (by omega)]; exact a1
  · rw [e 44 (by omega) (by omega)]; exact a2
  · obtain ⟨b1, b2, b3, b4⟩ := h1 i hi
    have hm : (o + i) % 8 < 8 := Nat.mod_lt _ (by omega)
    exact ⟨b1, rB_frame (fun j hj => e _ (by omega) (by omega)) b2, rL_frame (fun j hj => e _ (by omega) (by omega)) b3, rS_frame (fun j hj => e _ (by omega) (by omega)) b4⟩
theorem mH_keep {τ τ' : f_M} {k : Nat} {P : Nat → Nat → Int32} (h : mH τ k P) (e : τ' 155 4 = τ 155 4) (f : τ' 159 = τ 159) : mH τ' k P := by
  unfold mH; rw [e, f]; exact h
theorem svR_keep {σ σ' τ τ' : f_M} {D D' hc ac : Nat} (h : svR σ τ D hc ac) (hD : D ≤ D') (e0 : σ' 0 15 = σ 0 15) (e : ∀ r, (103 ≤ r ∧ r ≤ 107) ∨ (135 ≤ r ∧ r ≤ 154) → σ' r = σ r) (f5 : τ' 155 5 = τ 155 5) (f : τ' 158 = τ 158) : svR σ' τ' D' hc ac := by
  rcases h with ⟨h1, h2⟩ | ⟨h1, h2, ck, pc, cc, g, q, n, K, B, l, R⟩
  · exact Or.inl ⟨e0.trans h1, f5.trans h2⟩
  · refine Or.inr ⟨e0.trans h1, f5.trans h2, ck, pc, cc, g, q, n, ?_⟩
    rw [f]
    exact ⟨kAll_mono hD K, rB_frame (fun i hi => e _ (by omega)) B, rL_frame (fun j hj => e _ (by omega)) l, rS_frame (fun j hj => e _ (by omega)) R⟩
theorem outR_keep {σ σ' τ τ' : f_M} (h : outR σ τ) (e0 : σ' 0 3 = σ 0 3) (e2 : σ' 2 = σ 2) (f : τ' 155 24 = τ 155 24) (f2 : τ' 165 = τ 165) : outR σ' τ' := by
  unfold outR; rw [e0, e2, f, f2]; exact h
theorem tX_keep {σ σ' τ τ' : f_M} {len : Nat} (h : tX σ τ len) (e0 : σ' 0 1 = σ 0 1) (e1 : σ' 1 = σ 1) (f : τ' 155 10 = τ 155 10) (f2 : τ' 161 = τ 161) : tX σ' τ' len := by
  unfold tX; rw [e0, e1, f, f2]; exact h
/-- only what the relation speaks of -/
theorem IV_ext {D : Nat} {σ σ' τ τ' : f_M} (h : IV D σ τ) (e : ∀ r, r < 155 → σ' r = σ r) (f : ∀ r, 155 < r → r < 167 → τ' r = τ r) (f5 : ∀ i, i ≠ 6 → τ' 155 i = τ 155 i) : IV D σ' τ' := by
  obtain ⟨ck, hc, ac, pc, cc, g, q, n, k, o, P, S, H, M, V, ⟨len, T⟩, E, B, O⟩ := h
  refine ⟨ck, hc, ac, pc, cc, g, q, n, k, o, P, sAll_keep S (fun r _ h => e r (by omega)) (f 156 (by omega) (by omega)), cH_keep H (fun r _ h => e r (by omega)), mH_keep M (f5 4 (by omega)) (f 159 (by omega) (by omega)), svR_keep V (Nat.le_refl _) (by rw [e 0 (by omega)]) (fun r h => e r (by omega)) (f5 5 (by omega)) (f 158 (by omega) (by omega)), ⟨len, tX_keep T (by rw [e 0 (by omega)]) (e 1 (by omega)) (f5 10 (by omega)) (f 161 (by omega) (by omega))⟩, ?_, fb_keep B (e 7 (by omega)), outR_keep O (by rw [e 0 (by omega)]) (e 2 (by omega)) (f5 24 (by omega)) (f 165 (by omega) (by omega))⟩
  unfold eR
  rw [e 3 (by omega), f5 11 (by omega), f5 12 (by omega)]
  exact E
theorem IV_mono {D D' : Nat} {σ τ : f_M} (h : IV D σ τ) (hD : D ≤ D') : IV D' σ τ := by
  obtain ⟨ck, hc, ac, pc, cc, g, q, n, k, o, P, S, H, M, V, T, E, B, O⟩ := h
  exact ⟨ck, hc, ac, pc, cc, g, q, n, k, o, P, sAll_mono hD S, cH_op H (opF.refl σ τ ck pc cc) (Nat.le_refl _) (Nat.le_refl _) (Nat.le_refl _) hD, M, svR_keep V hD rfl (fun _ _ => rfl) rfl rfl, T, E, B, O⟩
/-- what a call may change outside -/
def cFm (σ σ' τ τ' : f_M) : Prop := (∀ r, 155 ≤ r → r ≠ 167 → σ' r = σ r) ∧ ∀ r, (r < 155 ∨ r = 167) → τ' r = τ r
theorem P_push {σ τ : f_M} {D ck hc ac pc cc q n k o : Nat} {g : Nat → Nat} {P : Nat → Nat → Int32} (S : sAll σ τ D ck hc ac pc cc g q n) (H : cH σ D hc ac ck pc cc k o P) (M : mH τ k P) :
    ∃ σ' τ' k' o' P', g_73 σ = some σ' ∧ g_118 τ = some τ' ∧ sAll σ' τ' D ck hc ac pc cc g q n ∧ cH σ' D hc ac ck pc cc k' o' P' ∧ mH τ' k' P' ∧ (∀ r, r ≠ 44 → (r < 46 ∨ 102 ≤ r) → σ' r = σ r) ∧ (∀ i, i ≠ 4 → τ' 155 i = τ 155 i) ∧ ∀ r, r ≠ 155 → r ≠ 159 → τ' r = τ r := by
  have hk : k ≤ 8 := by
    obtain ⟨_, _, _, _, _, _, ⟨_, _, h, _⟩, _⟩ := H; exact h
  obtain ⟨σ', c1, c2, c3⟩ := C_push S.1 S.2.1 S.2.2.1 S.2.2.2 H
  obtain ⟨τ', m1, m2, m3, m4, m5, m6⟩ := M_push M.1 hk
  have ek : (if k = 8 then 7 else k) = k - gone k := by unfold gone; split <;> omega
  rw [ek] at m2 m4 m5
  refine ⟨σ', τ', k - gone k + 1, (o + gone k) % 8, psh P (τ 156) k, c1, m1, sAll_keep S (fun r h1 h2 => c3 r (by omega) (by omega)) (m6 156 (by omega) (by omega)), c2, ⟨m2, fun i hi m hm => ?_⟩, c3, m3, m6⟩
  unfold psh
  by_cases h : i < k - gone k
  · rw [if_pos h, m5 _ (by
      have : 2420 * (i + 1) ≤ 2420 * (k - gone k) := Nat.mul_le_mul_left _ h
      omega)]
    unfold gone at h ⊢
    by_cases h8 : k = 8
    · rw [if_pos h8] at h ⊢
      rw [if_pos h8]
      have := M.2 (i + 1) (by omega) m hm
      rw [show 2420 * i + m + 2420 = 2420 * (i + 1) + m from by omega]
      exact this
    · rw [if_neg h8] at h ⊢
      rw [if_neg h8]
      exact M.2 i (by omega) m hm
  · rw [if_neg h]
    obtain rfl : i = k - gone k := by omega
    exact m4 m hm
theorem g_113_eq (σ : f_M) : g_113 σ = (g_9  σ).bind fun t1 =>
  (g_71  t1).bind fun t2 =>
  if t2.1 = true then (
   (g_73  t2.2).bind fun t3 =>
   (f_lp xlC f_F ((0 : Int32), t3)).bind fun (r4 : Int32 × f_M) => some r4
  ) else (
   some ((-1 : Int32), t2.2)
  ) := by
  unfold g_113; rfl
theorem g_159_eq (σ : f_M) : g_159 σ = (g_52  (f_up (f_up σ 155 6 (0 : Int32)) 155 20 (0 : Int32))).bind fun t1 =>
  (f_lp lpM2 f_F t1).bind fun (x2 : f_M) =>
  (g_63  x2).bind fun t6 =>
  if (t6 155 17) ≤ 0 then (
   (g_118  t6).bind fun t7 =>
   (f_lp xlM f_F ((0 : Int32), t7)).bind fun (x8 : Int32 × f_M) =>
   some (x8.1, x8.2)
  ) else (
   some ((-1 : Int32), t6)
  ) := by
  unfold g_159; rfl
