/-! Purchases in both; how many claims there can be. -/
theorem pigeon : ∀ (m n : Nat) (f : Nat → Nat), (∀ i, i < n → f i < m) → (∀ i j, i < n → j < n → f i = f j → i = j) → n ≤ m := by
  intro m
  induction m with
  | zero =>
    intro n f h1 _
    rcases Nat.eq_zero_or_pos n with h | h
    · omega
    · have := h1 0 h; omega
  | succ m ih =>
    intro n f h1 h2
    by_cases h : ∃ i, i < n ∧ f i = m
    · obtain ⟨i, hi, e⟩ := h
      have := ih (n - 1) (fun j => f (if j < i then j else j + 1)) (fun j hj => ?_) (fun a b ha hb hab => ?_)
      · omega
      · have hlt : (if j < i then j else j + 1) < n := by split <;> omega
        have hne : (if j < i then j else j + 1) ≠ i := by split <;> omega
        have := h1 _ hlt
        have : f (if j < i then j else j + 1) ≠ m := fun e' => hne (h2 _ _ hlt hi (e'.trans e.symm))
        omega
      · have ha' : (if a < i then a else a + 1) < n := by split <;> omega
        have hb' : (if b < i then b else b + 1) < n := by split <;> omega
        have := h2 _ _ ha' hb' hab
        split at this <;> split at this <;> omega
    · have := ih n f (fun i hi => ?_) h2
      · omega
      · have := h1 i hi
        have : f i ≠ m := fun e => h ⟨i, hi, e⟩
        omega
theorem claims_lt {s : Nat → Int32} {D ck hc ac pc cc q n p : Nat} {g : Nat → Nat} (K : kAll s D ck hc ac pc cc g q n) (hp : p < pc) (h : s_code s cc p = 0) : cc < pc := by
  have hpc := K.1.2.2.2.1.2
  have hno : ∀ c, c < cc → ¬ s (300 + 6 * c + 0) = nI p := by
    have h4 : hasC s cc p = false := by
      unfold s_code at h
      split at h
      · omega
      · split at h
        · omega
        · split at h
          · omega
          · split at h
            · omega
            · rename_i h9; exact Bool.eq_false_iff.mpr h9
    intro c hc e
    have := hasC_iff.mpr ⟨c, hc, e⟩
    rw [h4] at this
    exact absurd this (by decide)
  have hv : ∀ c, c < cc → s (300 + 6 * c + 0) = nI (nat (s (300 + 6 * c + 0))) ∧ nat (s (300 + 6 * c + 0)) < pc := fun c hc => ((K.2.2.1 c hc).1.nat (by omega))
  have := pigeon pc (cc + 1) (fun c => if c < cc then nat (s (300 + 6 * c + 0)) else p) (fun c hc => ?_) (fun a b ha hb hab => ?_)
  · omega
  · split
    · rename_i h1; exact (hv c h1).2
    · exact hp
  · have key : ∀ c, c < cc → ¬ nat (s (300 + 6 * c + 0)) = p := fun c hc e => hno c hc (by rw [(hv c hc).1, e])
    by_cases h1 : a < cc
    · by_cases h2 : b < cc
      · rw [if_pos h1, if_pos h2] at hab
        refine Decidable.byContradiction fun hne => K.2.2.2.2.2.2.1.1 a b h1 h2 hne ?_
        rw [hab]
        exact ⟨rfl, rfl, rfl⟩
      · rw [if_pos h1, if_neg h2] at hab
        exact absurd hab (key a h1)
    · by_cases h2 : b < cc
      · rw [if_neg h1, if_pos h2] at hab
        exact absurd hab.symm (key b h2)
      · omega
/-! prices and whether they can be paid -/
theorem C_pk (σ : f_M) (d v : Int32) : g_77 d v σ = some (v * d / nI 40 + nI 1) := rfl
theorem M_pk (σ : f_M) (d v : Int32) : g_150 d v σ = some (v * d / nI 40 + nI 1) := rfl
theorem C_pp (σ : f_M) (d v : Int32) {a : Nat} (ha : a < 51) : g_78 d v (nI a) σ = some (v * d / (nI 20 + nI 2 * nI a) + nI 1) := by
  unfold g_78
  rw [show (20 : Int32) = nI 20 from rfl, show (2 : Int32) = nI 2 from rfl, n_mul, n_add, show (0 : Int32) = nI 0 from rfl, if_neg (by rw [n_le (by omega) (by omega)]; omega), if_neg (by rw [n_eq (by omega) (by omega)]; omega), bnd]
  rfl
theorem M_pp (σ : f_M) (d v : Int32) {a : Nat} (ha : a < 51) : g_151 d v (nI a) σ = some (v * d / (nI 20 + nI 2 * nI a) + nI 1) := by
  unfold g_151
  rw [show (20 : Int32) = nI 20 from rfl, show (2 : Int32) = nI 2 from rfl, n_mul, n_add, show (0 : Int32) = nI 0 from rfl, if_neg (by rw [n_eq (by omega) (by omega)]; omega)]
  rfl
theorem C_can2 {σ : f_M} {s : Nat → Int32} {hc pc cc q n h : Nat} {g : Nat → Nat} {pr : Int32} (l : rL σ 121 s hc pc cc g q n) (h4 : s 4 = nI pc) (hpc : pc ≤ 20) (hh : h < hc) (hhc : hc ≤ 8) : g_96 (nI h) pr σ = some (decide (pc < 20) && !decide (s (20 + 9 * h + 7) < pr)) := by
  have e3 : σ 121 3 = nI pc := l.1.2.2.1.trans h4
  have e7 : σ 122 h = s (20 + 9 * h + 7) := l.2.1 h hh
  unfold g_96
  rw [e3, show (20 : Int32) = nI 20 from rfl]
  by_cases h9 : pc < 20
  · rw [if_neg (by rw [n_le (by omega) (by omega)]; omega), f_rd_n (by omega) (by omega), bnd, e7, decide_eq_true h9, Bool.true_and]
    by_cases h8 : s (20 + 9 * h + 7) < pr
    · rw [if_pos h8, bnd, decide_eq_true h8]; rfl
    · rw [if_neg h8, bnd, decide_eq_false h8]; rfl
  · rw [if_pos (by rw [n_le (by omega) (by omega)]; omega), bnd, decide_eq_false h9]; rfl
theorem M_can2 {τ : f_M} {pc h : Nat} {pr : Int32} (h4 : τ 156 4 = nI pc) (hpc : pc ≤ 20) (hh : h < 8) : g_152 (nI h) pr τ = some (decide (pc < 20) && !decide (τ 156 (20 + 9 * h + 7) < pr)) := by
  unfold g_152
  rw [show (4 : Int32) = nI 4 from rfl, rdS (by omega), bnd, h4, show (20 : Int32) = nI 20 from rfl]
  by_cases h9 : pc < 20
  · rw [if_neg (by rw [n_le (by omega) (by omega)]; omega), M_h, bnd, show (7 : Int32) = nI 7 from rfl, n_add, rdS (by omega), bnd, decide_eq_true h9, Bool.true_and]
    by_cases h8 : τ 156 (20 + 9 * h + 7) < pr
    · rw [if_pos h8, bnd, decide_eq_true h8]; rfl
    · rw [if_neg h8, bnd, decide_eq_false h8]; rfl
  · rw [if_pos (by rw [n_le (by omega) (by omega)]; omega), bnd, decide_eq_false h9]; rfl
theorem buy_set {s s1 : Nat → Int32} {pc h k : Nat} (e1 : s1 (100 + 10 * pc + 1) = nI h) (hh : h < 8) (e : ∀ i, i ≠ 4 → (i < 100 + 10 * pc ∨ 100 + 10 * pc + 10 ≤ i) → upd s1 4 (nI (pc + 1)) i = s i) (hk : setK k) : s_buy s1 pc k = s k := by
  unfold setK at hk
  unfold s_buy
  rw [s_pay_keep (by rw [upd_ne (by omega)]; exact ⟨h, hh, e1⟩) (by omega) (by omega) (fun h hh => by omega)]
  exact e k (by omega) (by omega)
theorem P_kite {σ τ : f_M} {D ck hc ac pc cc q n h f d v : Nat} {a b : Int32} {g : Nat → Nat} (hD : D ≤ 1000000000) (hpc : pc < 20) (hh : h < hc) (hf : f < 1001) (hd : 1 ≤ d ∧ d ≤ 24) (hv : 1 ≤ v ∧ v ≤ 500) (hl : ∃ lo hi : Nat, lo ≤ hi ∧ hi ≤ 150 ∧ a = nI lo ∧ b = nI hi) (hcan : ¬ τ 156 (20 + 9 * h + 7) < nI v * nI d / nI 40 + nI 1) (S : sAll σ τ D ck hc ac pc cc g q n) :
    ∃ σ' τ1 τ', g_99 (nI h) (nI f) (nI d) (nI v) a b σ = some (nI pc, σ') ∧ g_154 (nI h) (nI f) (nI d) (nI v) a b τ = some τ1 ∧ g_156 τ1 = some (nI pc, τ') ∧ sAll σ' τ' D ck hc ac (pc + 1) cc g q n ∧ opF σ σ' τ τ' ck pc cc := by
  obtain ⟨K, B, l, R⟩ := S
  have hhc := K.1.2.1.2.2
  have h4 := K.1.2.2.2.1.1
  obtain ⟨⟨t0, t1, t2, t3, t4, t5, t6, t7, t8, t9, t10⟩, te⟩ := kite_v (τ 156) pc (nI h) (nI f) (nI d) (nI v) a b (nI (pc + 1))
  have u1 : s_kite (τ 156) pc (nI h) (nI f) (nI d) (nI v) a b (100 + 10 * pc + 1) = nI h := (upd_ne (by omega)).symm.trans t1
  have u4 : s_kite (τ 156) pc (nI h) (nI f) (nI d) (nI v) a b 4 = nI pc := by
    unfold s_kite
    rw [upd_ne (by omega), upd_ne (by omega), upd_ne (by omega), five_out (by omega)]; exact h4
  have hc1 : s_can (upd (s_kite (τ 156) pc (nI h) (nI f) (nI d) (nI v) a b) 4 (nI (pc + 1))) pc = true := by
    unfold s_can
    rw [t1, t7, nat_n (by omega), te _ (by omega) (by omega), decide_eq_false hcan]; rfl
  obtain ⟨σ', e1, K', B', l', f1⟩ := C_kite (a := a) (b := b) hD K B l hpc hh hf hd hv hl hc1
  have m1 := M_kite (σ := τ) (h := nI h) (f := nI f) (d := nI d) (v := nI v) (a := a) (b := b) h4 hpc
  have m2 := M_buy (σ := f_row τ 156 (s_kite (τ 156) pc (nI h) (nI f) (nI d) (nI v) a b)) (pc := pc) (by rw [row_same]; exact u4) hpc (by rw [row_same]; exact ⟨h, by omega, u1⟩)
  rw [row_same, row_row] at m2
  refine ⟨σ', _, _, e1, m1, m2, ⟨?_, ?_, ?_, ?_⟩, ⟨fun x hx => funext fun i => f1 x i (by omega) (by omega) (by omega) (by omega), fun t ht => ⟨f1 109 t (by omega) (by omega) (by omega) (by omega), f1 110 t (by omega) (by omega) (by omega) (by omega)⟩, fun x h h' i hi => f1 x i (by omega) (by omega) (by omega) (by omega), fun i hi => ⟨f1 119 i (by omega) (by omega) (by omega) (by omega), f1 120 i (by omega) (by omega) (by omega) (by omega)⟩, fun x hx => row_ne hx⟩⟩
  · rw [row_same]; exact K'
  · rw [row_same]; exact B'
  · rw [row_same]; exact l'
  · rw [row_same]
    exact rS_congr hhc K.1.2.2.1.2.2 (kAll_len K) (fun j hj => funext fun i => f1 _ i (by omega) (by omega) (by omega) (by omega)) (fun k hk => buy_set u1 (by omega) te hk) R
theorem P_picn {σ τ : f_M} {D ck hc ac pc cc q n h f d v a : Nat} {g : Nat → Nat} (hD : D ≤ 1000000000) (hpc : pc < 20) (hh : h < hc) (hf : f < 1001) (hd : 1 ≤ d ∧ d ≤ 24) (hv : 1 ≤ v ∧ v ≤ 500) (ha : a < 51) (hcan : ¬ τ 156 (20 + 9 * h + 7) < nI v * nI d / (nI 20 + nI 2 * nI a) + nI 1) (S : sAll σ τ D ck hc ac pc cc g q n) :
    ∃ σ' τ1 τ', g_101 (nI h) (nI f) (nI d) (nI v) (nI a) σ = some (nI pc, σ') ∧ g_155 (nI h) (nI f) (nI d) (nI v) (nI a) τ = some τ1 ∧ g_156 τ1 = some (nI pc, τ') ∧ sAll σ' τ' D ck hc ac (pc + 1) cc g q n ∧ opF σ σ' τ τ' ck pc cc := by
  obtain ⟨K, B, l, R⟩ := S
  have hhc := K.1.2.1.2.2
  have h4 := K.1.2.2.2.1.1
  obtain ⟨⟨t0, t1, t2, t3, t4, t5, t7, t8, t9, t10⟩, te⟩ := picn_v (τ 156) pc (nI h) (nI f) (nI d) (nI v) (nI a) (nI (pc + 1))
  have u1 : s_picn (τ 156) pc (nI h) (nI f) (nI d) (nI v) (nI a) (100 + 10 * pc + 1) = nI h := (upd_ne (by omega)).symm.trans t1
  have u4 : s_picn (τ 156) pc (nI h) (nI f) (nI d) (nI v) (nI a) 4 = nI pc := by
    unfold s_picn
    rw [upd_ne (by omega), upd_ne (by omega), five_out (by omega)]; exact h4
  have hc1 : s_can (upd (s_picn (τ 156) pc (nI h) (nI f) (nI d) (nI v) (nI a)) 4 (nI (pc + 1))) pc = true := by
    unfold s_can
    rw [t1, t7, nat_n (by omega), te _ (by omega) (by omega), decide_eq_false hcan]; rfl
  obtain ⟨σ', e1, K', B', l', f1⟩ := C_picn hD K B l hpc hh hf hd hv ha hc1
  have m1 := M_picn (σ := τ) (h := nI h) (f := nI f) (d := nI d) (v := nI v) (l := a) h4 hpc ha
  have m2 := M_buy (σ := f_row τ 156 (s_picn (τ 156) pc (nI h) (nI f) (nI d) (nI v) (nI a))) (pc := pc) (by rw [row_same]; exact u4) hpc (by rw [row_same]; exact ⟨h, by omega, u1⟩)
  rw [row_same, row_row] at m2
  refine ⟨σ', _, _, e1, m1, m2, ⟨?_, ?_, ?_, ?_⟩, ⟨fun x hx => funext fun i => f1 x i (by omega) (by omega) (by omega) (by omega), fun t ht => ⟨f1 109 t (by omega) (by omega) (by omega) (by omega), f1 110 t (by omega) (by omega) (by omega) (by omega)⟩, fun x h h' i hi => f1 x i (by omega) (by omega) (by omega) (by omega), fun i hi => ⟨f1 119 i (by omega) (by omega) (by omega) (by omega), f1 120 i (by omega) (by omega) (by omega) (by omega)⟩, fun x hx => row_ne hx⟩⟩
  · rw [row_same]; exact K'
  · rw [row_same]; exact B'
  · rw [row_same]; exact l'
  · rw [row_same]
    exact rS_congr hhc K.1.2.2.1.2.2 (kAll_len K) (fun j hj => funext fun i => f1 _ i (by omega) (by omega) (by omega) (by omega)) (fun k hk => buy_set u1 (by omega) te hk) R
