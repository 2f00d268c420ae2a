/-! May a claim be filed? -/
theorem cntN_zero {f : Nat → Bool} {n : Nat} : cntN f n = 0 ↔ ∀ i, i < n → f i = false := by
  induction n with
  | zero => exact ⟨fun _ i hi => by omega, fun _ => rfl⟩
  | succ n ih =>
    rw [cntN_succ]
    constructor
    · intro h i hi
      by_cases e : i = n
      · subst e
        cases hf : f i with
        | false => rfl
        | true => rw [hf, if_pos rfl] at h; omega
      · exact ih.mp (by omega) i (by omega)
    · intro h
      rw [ih.mpr (fun i hi => h i (by omega)), h n (by omega)]; rfl
def anyN (f : Nat → Bool) (n : Nat) : Bool := !decide (cntN f n = 0)
theorem anyN_iff {f : Nat → Bool} {n : Nat} : anyN f n = true ↔ ∃ i, i < n ∧ f i = true := by
  unfold anyN
  rw [Bool.not_eq_true', decide_eq_false_iff_not, cntN_zero]
  constructor
  · intro h
    refine Classical.byContradiction fun hn => h fun i hi => ?_
    cases hf : f i with
    | false => rfl
    | true => exact absurd ⟨i, hi, hf⟩ hn
  · rintro ⟨i, hi, hf⟩ h
    rw [h i hi] at hf; exact absurd hf (by decide)
def hasC (s : Nat → Int32) (cc p : Nat) : Bool := anyN (fun c => decide (s (300 + 6 * c + 0) = nI p)) cc
def hasT (s : Nat → Int32) (cc p : Nat) : Bool := anyN (fun c => twin_b s p (nat (s (300 + 6 * c + 0)))) cc
theorem hasC_iff {s : Nat → Int32} {cc p : Nat} : hasC s cc p = true ↔ ∃ c, c < cc ∧ s (300 + 6 * c + 0) = nI p := by
  unfold hasC
  simp only [anyN_iff, decide_eq_true_eq]
theorem hasT_iff {s : Nat → Int32} {cc p : Nat} : hasT s cc p = true ↔ ∃ c, c < cc ∧ twin s p (nat (s (300 + 6 * c + 0))) := by
  unfold hasT
  simp only [anyN_iff, twin_b_iff]
def s_code (s : Nat → Int32) (cc p : Nat) : Nat := if s_lap s p = true then 1 else if s 0 < s_exp s p then 2 else if s_exp s p + nI 72 < s 0 then 3 else if hasC s cc p = true then 4 else if hasT s cc p = true then 5 else 0
theorem M_anyT {σ : f_M} {pc p : Nat} (h4 : σ 156 4 = nI pc) (hpc : pc ≤ 20) (hp : p < 20) : ∃ b, g_144 (nI p) σ = some b ∧ (b = true ↔ ∃ r, r < pc ∧ σ 156 (100 + 10 * r + 9) = nI 1 ∧ twin (σ 156) p r) := by
  unfold g_144
  refine lp_ex (fun j (z : Int32) => z = nI j ∧ ∀ r, r < j → ¬ (σ 156 (100 + 10 * r + 9) = nI 1 ∧ twin (σ 156) p r)) (fun b => b = true ↔ ∃ r, r < pc ∧ σ 156 (100 + 10 * r + 9) = nI 1 ∧ twin (σ 156) p r) pc (f_F_lt (by omega)) ⟨rfl, fun r hr => by omega⟩ ?_ ?_ (fun b h => ⟨b, rfl, h⟩)
  · rintro j z hj ⟨rfl, hn⟩
    simp (disch := omega) only [lits, rdS, bnd, h4, n_le, M_p, n_add, M_twin hp (by omega : j < 20)]
    rw [if_neg (by omega)]
    have next : ¬ (σ 156 (100 + 10 * j + 9) = nI 1 ∧ twin (σ 156) p j) → ∀ r, r < j + 1 → ¬ (σ 156 (100 + 10 * r + 9) = nI 1 ∧ twin (σ 156) p r) := fun h r hr => by
      by_cases e : r = j
      · subst e; exact h
      · exact hn r (by omega)
    by_cases h9 : σ 156 (100 + 10 * j + 9) = nI 1
    · rw [if_neg (fun h => h h9)]
      cases ht : twin_b (σ 156) p j with
      | false => exact Or.inl ⟨_, if_pos rfl, rfl, next (fun h => by have := twin_b_iff.mpr h.2; rw [ht] at this; exact absurd this (by decide))⟩
      | true => exact Or.inr ⟨true, if_neg (by decide), fun _ => ⟨j, hj, h9, twin_b_iff.mp ht⟩, fun _ => rfl⟩
    · rw [if_pos h9]
      exact Or.inl ⟨_, rfl, rfl, next (fun h => h9 h.1)⟩
  · rintro z ⟨rfl, hn⟩
    simp (disch := omega) only [lits, rdS, bnd, h4, n_le]
    rw [if_pos (by omega)]
    exact ⟨false, rfl, ⟨fun h => absurd h (by decide), fun ⟨r, hr, h⟩ => absurd h (hn r hr)⟩⟩
theorem C_anyT {σ : f_M} {s : Nat → Int32} {ck pc cc p : Nat} (hpc : pc ≤ 20) (hcc : cc ≤ 20) (hp : p < pc) (e5 : σ 121 5 = nI cc) (B : rB σ 108 s ck pc cc) (h0 : ∀ c, c < cc → isN (s (300 + 6 * c + 0)) pc) : g_104 (nI p) σ = some (nI (if hasC s cc p = true then 4 else if hasT s cc p = true then 5 else 0)) := by
  unfold g_104
  obtain ⟨z, e, q⟩ : ∃ z, ((f_lp (fun (s1 : Int32 × Int32) =>
   if (σ 121 5) ≤ s1.2 then (
    some (.inr s1.1)
   ) else (
    (f_rd σ 119 20 s1.2).bind fun v2 =>
    if ¬ v2 = nI p then (
     (g_103 v2 (nI p) σ).bind fun t3 =>
     (
      if t3 = false then (
       some s1.1
      ) else (
       some (5 : Int32)
      )
     ).bind fun (t4 : Int32) =>
     some (.inl (t4, (s1.2 + (1 : Int32))))
    ) else (
     some (.inr (4 : Int32))
    )
   )
  ) f_F ((0 : Int32), (0 : Int32))).bind fun (r1 : Int32) => some r1) = some z ∧ z = nI (if hasC s cc p = true then 4 else if hasT s cc p = true then 5 else 0) := by
    have tsym : ∀ c, twin s (nat (s (300 + 6 * c + 0))) p ↔ twin s p (nat (s (300 + 6 * c + 0))) := fun c => ⟨twin_symm, twin_symm⟩
    refine lp_ex (fun j (z : Int32 × Int32) => z.2 = nI j ∧ (∀ c, c < j → ¬ s (300 + 6 * c + 0) = nI p) ∧ ((z.1 = nI 0 ∧ ∀ c, c < j → ¬ twin s p (nat (s (300 + 6 * c + 0)))) ∨ (z.1 = nI 5 ∧ ∃ c, c < j ∧ twin s p (nat (s (300 + 6 * c + 0)))))) (fun b => b = nI (if hasC s cc p = true then 4 else if hasT s cc p = true then 5 else 0)) cc (f_F_lt (by omega)) ⟨rfl, fun r hr => by omega, Or.inl ⟨rfl, fun r hr => by omega⟩⟩ ?_ ?_ (fun b h => ⟨b, rfl, h⟩)
    · rintro j ⟨z1, z2⟩ hj ⟨hz2, hn, hz⟩
      replace hz2 : z2 = nI j := hz2
      subst hz2
      replace hz : (z1 = nI 0 ∧ ∀ c, c < j → ¬ twin s p (nat (s (300 + 6 * c + 0)))) ∨ (z1 = nI 5 ∧ ∃ c, c < j ∧ twin s p (nat (s (300 + 6 * c + 0)))) := hz
      obtain ⟨r, hr, er⟩ := h0 j hj
      have b11 : σ 119 j = nI r := (B.2.2 j hj).1.trans er
      simp (disch := omega) only [e5, lits, n_le, f_rd_n, bnd, b11]
      rw [if_neg (by omega)]
      by_cases hrp : nI r = nI p
      · refine Or.inr ⟨_, if_neg (fun h => h hrp), ?_⟩
        rw [if_pos (hasC_iff.mpr ⟨j, hj, er.trans hrp⟩)]
      · rw [if_pos hrp, C_twin (by omega) (by omega) (B.2.1 r hr) (B.2.1 p hp), bnd]
        have hn' : ∀ c, c < j + 1 → ¬ s (300 + 6 * c + 0) = nI p := fun c hc => by
          by_cases e : c = j
          · subst e; rw [er]; exact hrp
          · exact hn c (by omega)
        have hnat : nat (s (300 + 6 * j + 0)) = r := by rw [er, nat_n (by omega)]
        cases ht : twin_b s r p with
        | false =>
          have hnt : ¬ twin s p (nat (s (300 + 6 * j + 0))) := fun h => by
            rw [hnat] at h
            have := twin_b_iff.mpr (twin_symm h)
            rw [ht] at this; exact absurd this (by decide)
          refine Or.inl ⟨(z1, nI (j + 1)), by rw [if_pos rfl, bnd, n_add], rfl, hn', ?_⟩
          rcases hz with ⟨e1, h1⟩ | ⟨e1, c, hc, h1⟩
          · refine Or.inl ⟨e1, fun c hc => ?_⟩
            by_cases e : c = j
            · subst e; exact hnt
            · exact h1 c (by omega)
          · exact Or.inr ⟨e1, c, by omega, h1⟩
        | true =>
          refine Or.inl ⟨(nI 5, nI (j + 1)), by rw [if_neg (by decide), bnd, n_add], rfl, hn', Or.inr ⟨rfl, j, by omega, ?_⟩⟩
          rw [hnat]; exact twin_symm (twin_b_iff.mp ht)
    · rintro ⟨z1, z2⟩ ⟨hz2, hn, hz⟩
      replace hz2 : z2 = nI cc := hz2
      subst hz2
      simp (disch := omega) only [e5, n_le]
      rw [if_pos (by omega)]
      refine ⟨_, rfl, ?_⟩
      rw [if_neg (fun h => by obtain ⟨c, hc, h⟩ := hasC_iff.mp h; exact hn c hc h)]
      rcases hz with ⟨e1, h1⟩ | ⟨e1, h1⟩
      · rw [if_neg (fun h => by obtain ⟨c, hc, h⟩ := hasT_iff.mp h; exact h1 c hc h)]; exact e1
      · rw [if_pos (hasT_iff.mpr h1)]; exact e1
  rw [e, q]
theorem C_code {σ : f_M} {s : Nat → Int32} {D ck hc ac pc cc q n p : Nat} {g : Nat → Nat} (K : kAll s D ck hc ac pc cc g q n) (B : rB σ 108 s ck pc cc) (l : rL σ 121 s hc pc cc g q n) (hp : p < pc) : g_105 (nI p) σ = some (nI (s_code s cc p)) := by
  have hcc : cc ≤ 20 := K.1.2.2.2.2.2
  have hpc : pc ≤ 20 := K.1.2.2.2.1.2
  have e5 : σ 121 5 = nI cc := l.1.2.2.2.1.trans K.1.2.2.2.2.1
  have e0 : σ 121 0 = s 0 := l.1.1
  have e8 : σ 123 p = s (100 + 10 * p + 8) := l.2.2.1 p hp
  have hany := C_anyT hpc hcc hp e5 B (fun c hc => (K.2.2.1 c hc).1)
  obtain ⟨b, hb, eb⟩ := (K.2.1 p hp).2.2.2.2.2.2.2.1
  unfold g_105 s_code s_lap
  simp (disch := omega) only [C_exp (by omega) (B.2.1 p hp), bnd, f_rd_n, e8, eb, e0, hany, lits, n_eq, decide_eq_true_eq]
  by_cases h0 : b = 0
  · rw [if_pos h0, if_neg (by omega : ¬ b = 1)]
    by_cases h1 : s_exp s p ≤ s 0
    · rw [if_pos h1, if_neg (fun h => (i32_nlt _ _).mpr h1 h)]
      by_cases h2 : s 0 ≤ s_exp s p + nI 72
      · rw [if_pos h2, if_neg (fun h => (i32_nlt _ _).mpr h2 h)]
      · rw [if_neg h2, if_pos ((i32_nle _ _).mp h2)]
    · rw [if_neg h1, if_pos ((i32_nle _ _).mp h1)]
  · rw [if_neg h0, if_pos (by omega : b = 1)]
theorem M_code {σ : f_M} {D ck hc ac pc cc q n p : Nat} {g : Nat → Nat} (K : kAll (σ 156) D ck hc ac pc cc g q n) (hp : p < pc) : g_145 (nI p) σ = some (nI (s_code (σ 156) cc p)) := by
  have hcc : cc ≤ 20 := K.1.2.2.2.2.2
  have hpc : pc ≤ 20 := K.1.2.2.2.1.2
  have ku := K.2.2.2.2.2.2.1
  obtain ⟨b, hb, qb⟩ := M_anyT (σ := σ) (p := p) K.1.2.2.2.1.1 hpc (by omega)
  have hT : b = hasT (σ 156) cc p := by
    rw [Bool.eq_iff_iff, qb, hasT_iff]
    constructor
    · rintro ⟨r, hr, h9, ht⟩
      obtain ⟨c, hc, ec⟩ := (ku.2 r hr).mp h9
      exact ⟨c, hc, by rw [ec, nat_n (by omega)]; exact ht⟩
    · rintro ⟨c, hc, ht⟩
      have h := ((K.2.2.1 c hc).1).nat (by omega)
      exact ⟨_, h.2, (ku.2 _ h.2).mpr ⟨c, hc, h.1⟩, ht⟩
  have hC : σ 156 (100 + 10 * p + 9) = nI 1 ↔ hasC (σ 156) cc p = true := (ku.2 p hp).trans hasC_iff.symm
  unfold g_145 s_code
  simp (disch := omega) only [M_lap (by omega : p < 20), M_exp (by omega : p < 20), M_p, n_add, bnd, lits, rdS, hb]
  cases hl : s_lap (σ 156) p with
  | true => rw [if_neg (by decide : ¬ (true = false)), if_pos rfl]
  | false =>
    rw [if_pos (rfl : false = false), if_neg (by decide : ¬ (false = true))]
    by_cases h1 : s_exp (σ 156) p ≤ σ 156 0
    · rw [if_pos h1, if_neg (fun h => (i32_nlt _ _).mpr h1 h)]
      by_cases h2 : σ 156 0 ≤ s_exp (σ 156) p + nI 72
      · rw [if_pos h2, if_neg (fun h => (i32_nlt _ _).mpr h2 h)]
        by_cases h3 : σ 156 (100 + 10 * p + 9) = nI 1
        · rw [if_neg (fun h => h h3), if_pos (hC.mp h3)]
        · rw [if_pos h3, if_neg (fun h => h3 (hC.mpr h)), hT]
          cases hasT (σ 156) cc p <;> rfl
      · rw [if_neg h2, if_pos ((i32_nle _ _).mp h2)]
    · rw [if_neg h1, if_pos ((i32_nle _ _).mp h1)]
/-- a filed claim keeps the row -/
theorem K_filed {s : Nat → Int32} {D ck hc ac pc cc q n p : Nat} {g : Nat → Nat} (K : kAll s D ck hc ac pc cc g q n) (hp : p < pc) (hcc : cc < 20) (h : s_code s cc p = 0) : kAll (s_file s p cc) D ck hc ac pc (cc + 1) g q n := by
  refine K_file K hp hcc fun c hc ht => ?_
  have hT : hasT s cc p = true := hasT_iff.mpr ⟨c, hc, ht⟩
  unfold s_code at h
  rw [hT] at h
  revert h
  repeat' split
  all_goals simp_all
