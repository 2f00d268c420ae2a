/-! The class's past. -/
def cH (σ : f_M) (D hc ac ck pc cc k o : Nat) (P : Nat → Nat → Int32) : Prop := ∃ (CK PC CC Q N : Nat → Nat) (G : Nat → Nat → Nat), (σ 44 2 = nI k ∧ σ 44 1 = nI o ∧ k ≤ 8 ∧ o < 8) ∧
  (∀ i, i < k → kAll (P i) D (CK i) hc ac (PC i) (CC i) (G i) (Q i) (N i) ∧ rB σ 108 (P i) (CK i) (PC i) (CC i) ∧ rL σ (46 + 7 * ((o + i) % 8)) (P i) hc (PC i) (CC i) (G i) (Q i) (N i) ∧ rS σ 103 (P i) hc ac) ∧
  (∀ i j, i ≤ j → j < k → CK i ≤ CK j ∧ PC i ≤ PC j ∧ CC i ≤ CC j) ∧ ∀ i, i < k → CK i ≤ ck ∧ PC i ≤ pc ∧ CC i ≤ cc
theorem rL_frame {σ σ' : f_M} {a : Nat} {s : Nat → Int32} {hc pc cc q n : Nat} {g : Nat → Nat} (e : ∀ j, j < 7 → σ' (a + j) = σ (a + j)) (h : rL σ a s hc pc cc g q n) : rL σ' a s hc pc cc g q n := by
  have e0 : σ' a = σ a := e 0 (by omega)
  unfold rL at h ⊢
  rw [e0, e 1 (by omega), e 2 (by omega), e 3 (by omega), e 4 (by omega), e 5 (by omega), e 6 (by omega)]
  exact h
theorem rS_frame {σ σ' : f_M} {a : Nat} {s : Nat → Int32} {hc ac : Nat} (e : ∀ j, j < 5 → σ' (a + j) = σ (a + j)) (h : rS σ a s hc ac) : rS σ' a s hc ac := by
  have e0 : σ' a = σ a := e 0 (by omega)
  unfold rS at h ⊢
  rw [e0, e 1 (by omega), e 2 (by omega), e 3 (by omega), e 4 (by omega)]
  exact h
/-- the past behind a push: how many go, how many stay -/
def gone (k : Nat) : Nat := if k = 8 then 1 else 0
def psh (P : Nat → Nat → Int32) (s : Nat → Int32) (k : Nat) : Nat → Nat → Int32 := fun i => if i < k - gone k then P (i + gone k) else s
theorem n_mod8 {a : Nat} (h : a < 100) : nI a - nI a / nI 8 * nI 8 = nI (a % 8) := by
  rw [n_div (by omega) (by omega), n_mul, n_sub (by omega)]
  rw [show a - a / 8 * 8 = a % 8 from by omega]
theorem C_push {σ : f_M} {s : Nat → Int32} {D ck hc ac pc cc q n k o : Nat} {g : Nat → Nat} {P : Nat → Nat → Int32} (K : kAll s D ck hc ac pc cc g q n) (B : rB σ 108 s ck pc cc) (l : rL σ 121 s hc pc cc g q n) (S : rS σ 103 s hc ac) (H : cH σ D hc ac ck pc cc k o P) :
    ∃ σ', g_73 σ = some σ' ∧ cH σ' D hc ac ck pc cc (k - gone k + 1) ((o + gone k) % 8) (psh P s k) ∧ ∀ r, r ≠ 44 → (r < 46 ∨ 102 ≤ r) → σ' r = σ r := by
  have hcc : cc ≤ 20 := K.1.2.2.2.2.2
  have hpc : pc ≤ 20 := K.1.2.2.2.1.2
  have hhc : hc ≤ 8 := K.1.2.1.2.2
  have hn : n ≤ cc := by rw [K.2.2.2.1.2.1]; exact cntN_le _ _
  obtain ⟨CK, PC, CC, Q, N, G, ⟨h2, h1, hk, ho⟩, he, hm, hb⟩ := H
  have hg : gone k = if k = 8 then 1 else 0 := rfl
  obtain ⟨σ1, e1, a0, a1, a2, a3, af⟩ := C_ledger (σ := σ) (d := 46 + 7 * ((o + k) % 8)) (a := 121) (by omega)
  have l1 : rL σ1 (46 + 7 * ((o + k) % 8)) s hc pc cc g q n := rL_copy hhc hpc hcc (by omega) (fun p hp => (K.2.1 p hp).2.2.2.2.2.2.2.1) a0 a1 a2 a3 l
  have t2 : σ1 44 2 = nI k := by rw [af 44 (by omega)]; exact h2
  have t1 : σ1 44 1 = nI o := by rw [af 44 (by omega)]; exact h1
  have fr : ∃ σ', g_73 σ = some σ' ∧ σ' 44 2 = nI (k - gone k + 1) ∧ σ' 44 1 = nI ((o + gone k) % 8) ∧ ∀ r, r ≠ 44 → σ' r = σ1 r := by
    unfold g_73
    rw [h1, h2, cp_zero.2.1, n_add, n_mod8 (by omega), f_ix_n (by omega) (by omega), bnd, e1, bnd, t1, t2]
    by_cases h8 : k = 8
    · subst h8
      rw [if_pos (by rw [n_le (by omega) (by omega)]; omega), bnd]
      refine ⟨_, rfl, ?_, ?_, fun r hr => by rw [up_rows hr]⟩
      · have ez : 8 - gone 8 + 1 = 8 := rfl
        rw [up_ix (by omega), ez]; exact t2
      · have ez : gone 8 = 1 := rfl
        rw [up_same, show (1 : Int32) = nI 1 from rfl, n_add, n_mod8 (by omega), ez]
    · rw [if_neg (by rw [n_le (by omega) (by omega)]; omega), bnd]
      refine ⟨_, rfl, ?_, ?_, fun r hr => by rw [up_rows hr]⟩
      · have ez : k - gone k = k := by rw [hg, if_neg h8]; omega
        rw [up_same, show (1 : Int32) = nI 1 from rfl, n_add, ez]
      · have ez : (o + gone k) % 8 = o := by rw [hg, if_neg h8]; omega
        rw [up_ix (by omega), t1, ez]
  obtain ⟨σ', e', f2, f1, fr⟩ := fr
  have frame : ∀ r, r ≠ 44 → (r < 46 ∨ 102 ≤ r) → σ' r = σ r := fun r h4 hr => by rw [fr r h4, af r (by omega)]
  have hgk : gone k ≤ 1 ∧ gone k ≤ k ∧ (k - gone k) < 8 := by rw [hg]; split <;> omega
  refine ⟨σ', e', ⟨fun i => if i < k - gone k then CK (i + gone k) else ck, fun i => if i < k - gone k then PC (i + gone k) else pc, fun i => if i < k - gone k then CC (i + gone k) else cc, fun i => if i < k - gone k then Q (i + gone k) else q, fun i => if i < k - gone k then N (i + gone k) else n, fun i => if i < k - gone k then G (i + gone k) else g, ⟨f2, f1, by omega, by omega⟩, fun i hi => ?_, fun i j hij hj => ?_, fun i hi => ?_⟩, frame⟩
  · by_cases h : i < k - gone k
    · obtain ⟨x1, x2, x3, x4⟩ := he (i + gone k) (by omega)
      have em : (o + gone k) % 8 + i = (o + gone k) % 8 + i := rfl
      have e8 : ((o + gone k) % 8 + i) % 8 = (o + (i + gone k)) % 8 := by omega
      simp only [psh, if_pos h, e8]
      refine ⟨x1, rB_congr (x1.1.2.2.2.1.2) (x1.1.2.2.2.2.2) (fun j hj => frame _ (by omega) (by omega)) (fun _ _ => rfl) x2, rL_frame (fun j hj => ?_) x3, rS_frame (fun j hj => frame _ (by omega) (by omega)) x4⟩
      rw [fr _ (by omega), af _ (by omega)]
    · have e8 : ((o + gone k) % 8 + i) % 8 = (o + k) % 8 := by omega
      simp only [psh, if_neg h, e8]
      exact ⟨K, rB_congr hpc hcc (fun j hj => frame _ (by omega) (by omega)) (fun _ _ => rfl) B, rL_frame (fun j hj => fr _ (by omega)) l1, rS_frame (fun j hj => frame _ (by omega) (by omega)) S⟩
  · by_cases h' : j < k - gone k
    · have h : i < k - gone k := by omega
      simp only [if_pos h, if_pos h']
      exact hm _ _ (by omega) (by omega)
    · by_cases h : i < k - gone k
      · simp only [if_pos h, if_neg h']
        exact hb _ (by omega)
      · simp only [if_neg h, if_neg h']
        exact ⟨Nat.le_refl _, Nat.le_refl _, Nat.le_refl _⟩
  · by_cases h : i < k - gone k
    · simp only [if_pos h]; exact hb _ (by omega)
    · simp only [if_neg h]
      exact ⟨Nat.le_refl _, Nat.le_refl _, Nat.le_refl _⟩
