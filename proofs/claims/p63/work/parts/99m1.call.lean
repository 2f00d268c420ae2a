/-! The class behind the law: what its calls do, said of a row. -/
def dT (s : Nat → Int32) : f_M := fun _ => s
def LC (σ : f_M) (s : Nat → Int32) (D ck hc ac pc cc : Nat) : Prop := ∃ (g : Nat → Nat) (q n k o : Nat) (P : Nat → Nat → Int32), sAll σ (dT s) D ck hc ac pc cc g q n ∧ cH σ D hc ac ck pc cc k o P
theorem LC_ext {σ σ' : f_M} {s : Nat → Int32} {D ck hc ac pc cc : Nat} (h : LC σ s D ck hc ac pc cc) (e : ∀ r, r < 155 → σ' r = σ r) : LC σ' s D ck hc ac pc cc := by
  obtain ⟨g, q, n, k, o, P, S, H⟩ := h
  exact ⟨g, q, n, k, o, P, sAll_keep (τ' := dT s) S (fun r _ h => e r (by omega)) rfl, cH_keep H (fun r _ h => e r (by omega))⟩
theorem LC_op {σ4 σ5 τ4 τ5 : f_M} {s' : Nat → Int32} {D D' ck ck' hc ac pc pc' cc cc' q n k o : Nat} {g : Nat → Nat} {P : Nat → Nat → Int32} (H : cH σ4 D hc ac ck pc cc k o P) (S5 : sAll σ5 τ5 D' ck' hc ac pc' cc' g q n) (f5 : opF σ4 σ5 τ4 τ5 ck pc cc) (e : τ5 156 = s') (l1 : ck ≤ ck') (l2 : pc ≤ pc') (l3 : cc ≤ cc') (hD : D ≤ D') : LC σ5 s' D' ck' hc ac pc' cc' := by
  subst e
  exact ⟨g, q, n, k, o, P, S5, cH_op H f5 l1 l2 l3 hD⟩
theorem LC_push {σ : f_M} {s : Nat → Int32} {D ck hc ac pc cc : Nat} (h : LC σ s D ck hc ac pc cc) : ∃ (σ4 : f_M) (g : Nat → Nat) (q n k o : Nat) (P : Nat → Nat → Int32), g_73 σ = some σ4 ∧ sAll σ4 (dT s) D ck hc ac pc cc g q n ∧ cH σ4 D hc ac ck pc cc k o P ∧ ∀ r, 155 ≤ r → σ4 r = σ r := by
  obtain ⟨g, q, n, k, o, P, S, H⟩ := h
  obtain ⟨σ', c1, c2, c3⟩ := C_push S.1 S.2.1 S.2.2.1 S.2.2.2 H
  exact ⟨σ', g, q, n, _, _, _, c1, sAll_keep (τ' := dT s) S (fun r h1 h2 => c3 r (by omega) (by omega)) rfl, c2, fun r hr => c3 r (by omega) (by omega)⟩
theorem p171_ok {σ : f_M} {p c : Nat} (hp : p < c) (hc : c < 2147483648) : p_171 (nI p) (nI c) σ = some () := by
  unfold p_171
  rw [if_neg (n_neg (by omega)), if_pos ((n_lt (by omega) hc).mpr hp)]
theorem p285_ok {σ : f_M} {a lo hi : Nat} (h1 : lo ≤ a) (h2 : a ≤ hi) (h3 : hi < 2147483648) : p_285 (nI a) (nI lo) (nI hi) σ = some () := by
  unfold p_285
  rw [if_neg (by rw [n_lt (by omega) (by omega)]; omega), if_pos ((n_le (by omega) (by omega)).mpr h2)]
theorem p172_ok {σ : f_M} {p c : Nat} (e : σ 103 0 = nI c) (hp : p < c) (hc : c < 2147483648) : p_172 (nI p) σ = some () := by
  unfold p_172; rw [e, p171_ok hp hc, bnd]
theorem p196_ok {σ : f_M} {p c : Nat} (e : σ 121 3 = nI c) (hp : p < c) (hc : c < 2147483648) : p_196 (nI p) σ = some () := by
  unfold p_196; rw [e, p171_ok hp hc, bnd]
theorem p230_ok {σ : f_M} {p c : Nat} (e : σ 121 5 = nI c) (hp : p < c) (hc : c < 2147483648) : p_230 (nI p) σ = some () := by
  unfold p_230; rw [e, p171_ok hp hc, bnd]
theorem p254_ok {σ : f_M} {p c : Nat} (e : σ 103 4 = nI c) (hp : p < c) (hc : c < 2147483648) : p_254 (nI p) σ = some () := by
  unfold p_254; rw [e, p171_ok hp hc, bnd]
theorem p322_ok {σ : f_M} {ck f d v : Nat} (e : σ 121 0 = nI ck) (h1 : ck ≤ f) (h2 : f ≤ 1000) (h3 : 1 ≤ d) (h4 : d ≤ 24) (h5 : 1 ≤ v) (h6 : v ≤ 500) : p_322 (nI f) (nI d) (nI v) σ = some () := by
  unfold p_322
  rw [e, show (1000 : Int32) = nI 1000 from rfl, show (1 : Int32) = nI 1 from rfl, show (24 : Int32) = nI 24 from rfl, show (500 : Int32) = nI 500 from rfl, p285_ok h1 h2 (by omega), bnd, p285_ok h3 h4 (by omega), bnd, p285_ok h5 h6 (by omega), bnd]
/-- an hour -/
theorem LC_hour {σ : f_M} {s : Nat → Int32} {D ck hc ac pc cc w r : Nat} (hD : D ≤ 1000000000) (hck : ck < 1000) (hw : w ≤ 150) (hr : r ≤ 50) (h : LC σ s D ck hc ac pc cc) :
    ∃ σ5, p_319 (nI w) (nI r) σ = some (s_hour s (nI w) (nI r) 10 - s 10, σ5) ∧ LC σ5 (s_hour s (nI w) (nI r)) D (ck + 1) hc ac pc cc ∧ ∀ x, 155 ≤ x → σ5 x = σ x := by
  have e0 : σ 121 0 = nI ck := by
    obtain ⟨g, q, n, k, o, P, S, H⟩ := h
    exact S.2.2.1.1.1.trans S.1.1.1.1
  obtain ⟨σ4, g, q, n, k, o, P, c4, S4, H4, f4⟩ := LC_push h
  obtain ⟨v, σ5, τ5, c5, m5, ⟨g', q', n', S5⟩, f5⟩ := P_hour (w := nI w) (r := nI r) hD hck ⟨w, by omega, rfl⟩ ⟨r, by omega, rfl⟩ S4
  have hm := M_hour (σ := dT s) (w := nI w) (r := nI r) S4.1.okF hck
  have h9 := m5.symm.trans hm
  obtain ⟨rfl, rfl⟩ := Prod.mk.inj (Option.some.inj h9)
  have g74 : g_74 (1 : Int32) σ = some true := by
    unfold g_74
    rw [e0, show (1 : Int32) = nI 1 from rfl, n_add, show (1000 : Int32) = nI 1000 from rfl, if_neg (by rw [n_lt (by omega) (by omega)]; omega), bnd]
  refine ⟨σ5, ?_, LC_op H4 S5 f5 (row_same _ _ _) (by omega) (Nat.le_refl _) (Nat.le_refl _) (Nat.le_refl _), fun x hx => (f5.1 x (by omega)).trans (f4 x hx)⟩
  unfold p_319
  rw [show (0 : Int32) = nI 0 from rfl, show (150 : Int32) = nI 150 from rfl, show (50 : Int32) = nI 50 from rfl, p285_ok (by omega) hw (by omega), bnd, p285_ok (by omega) hr (by omega), bnd, g74, bnd, if_pos rfl, c4, bnd, c5, bnd]
  rfl
/-- a deposit -/
theorem LC_dep {σ : f_M} {s : Nat → Int32} {D ck hc ac pc cc h v : Nat} (hD : D ≤ 1000000000) (hh : h < hc) (hv1 : 1 ≤ v) (hv : v ≤ 999) (L : LC σ s D ck hc ac pc cc) :
    ∃ σ5, p_334 (nI h) (nI v) σ = some (s (20 + 9 * h + 7) + nI v, σ5) ∧ LC σ5 (s_dep s h (nI v)) (D + v) ck hc ac pc cc ∧ ∀ x, 155 ≤ x → σ5 x = σ x := by
  have e0 : σ 103 0 = nI hc ∧ hc ≤ 8 := by
    obtain ⟨g, q, n, k, o, P, S, H⟩ := L
    exact ⟨S.2.2.2.1.1.trans S.1.1.2.1.1, S.1.1.2.1.2.2⟩
  obtain ⟨σ4, g, q, n, k, o, P, c4, S4, H4, f4⟩ := LC_push L
  obtain ⟨w, σ5, τ5, c5, m5, -, S5, f5⟩ := P_dep (v := v) hD (by omega) hh S4
  have hm := M_dep (σ := dT s) (h := h) (v := nI v) (by omega)
  have h9 := m5.symm.trans hm
  obtain ⟨rfl, rfl⟩ := Prod.mk.inj (Option.some.inj h9)
  refine ⟨σ5, ?_, LC_op H4 S5 f5 (row_same _ _ _) (Nat.le_refl _) (Nat.le_refl _) (Nat.le_refl _) (by omega), fun x hx => (f5.1 x (by omega)).trans (f4 x hx)⟩
  unfold p_334
  rw [p172_ok e0.1 hh (by omega), bnd, show (1 : Int32) = nI 1 from rfl, show (999 : Int32) = nI 999 from rfl, p285_ok hv1 hv (by omega), bnd, c4, bnd, c5, bnd]
  rfl
/-- a kite policy -/
theorem LC_kite {σ : f_M} {s : Nat → Int32} {D ck hc ac pc cc h f d v lo hi : Nat} (hD : D ≤ 1000000000) (hpc : pc < 20) (hh : h < hc) (hf : ck ≤ f ∧ f ≤ 1000) (hd : 1 ≤ d ∧ d ≤ 24) (hv : 1 ≤ v ∧ v ≤ 500) (hl : lo ≤ hi ∧ hi ≤ 150) (hcan : ¬ s (20 + 9 * h + 7) < nI v * nI d / nI 40 + nI 1) (L : LC σ s D ck hc ac pc cc) :
    ∃ σ5, p_324 (nI h) (nI f) (nI d) (nI v) (nI lo) (nI hi) σ = some (.inl (nI pc), σ5) ∧ LC σ5 (s_buy (s_kite s pc (nI h) (nI f) (nI d) (nI v) (nI lo) (nI hi)) pc) D ck hc ac (pc + 1) cc ∧ ∀ x, 155 ≤ x → σ5 x = σ x := by
  have L0 := L
  obtain ⟨g, q, n, k, o, P, S, H⟩ := L0
  have hh8 := S.1.1.2.1.2.2
  have e0 : σ 121 0 = nI ck := S.2.2.1.1.1.trans S.1.1.1.1
  have e1 : σ 103 0 = nI hc := S.2.2.2.1.1.trans S.1.1.2.1.1
  have h4 : s 4 = nI pc := S.1.1.2.2.2.1.1
  have cC : g_96 (nI h) (nI v * nI d / nI 40 + nI 1) σ = some (decide (pc < 20) && !decide (s (20 + 9 * h + 7) < nI v * nI d / nI 40 + nI 1)) := C_can2 S.2.2.1 h4 (by omega) hh hh8
  obtain ⟨σ4, g, q, n, k, o, P, c4, S4, H4, f4⟩ := LC_push L
  obtain ⟨σ5, τ1, τ5, c5, m1, m2, S5, f5⟩ := P_kite (f := f) (a := nI lo) (b := nI hi) hD hpc hh (by omega) hd hv ⟨lo, hi, hl.1, hl.2, rfl, rfl⟩ hcan S4
  have k1 := M_kite (σ := dT s) (h := nI h) (f := nI f) (d := nI d) (v := nI v) (a := nI lo) (b := nI hi) h4 hpc
  obtain rfl := Option.some.inj (m1.symm.trans k1)
  obtain ⟨⟨t0, t1, -⟩, te⟩ := kite_v s pc (nI h) (nI f) (nI d) (nI v) (nI lo) (nI hi) (nI (pc + 1))
  have u1 : s_kite s pc (nI h) (nI f) (nI d) (nI v) (nI lo) (nI hi) (100 + 10 * pc + 1) = nI h := (upd_ne (by omega)).symm.trans t1
  have u4 : s_kite s pc (nI h) (nI f) (nI d) (nI v) (nI lo) (nI hi) 4 = nI pc := by
    unfold s_kite
    rw [upd_ne (by omega), upd_ne (by omega), upd_ne (by omega), five_out (by omega)]; exact h4
  have k2 := M_buy (σ := f_row (dT s) 156 (s_kite s pc (nI h) (nI f) (nI d) (nI v) (nI lo) (nI hi))) (pc := pc) (by rw [row_same]; exact u4) hpc (by rw [row_same]; exact ⟨h, by omega, u1⟩)
  rw [row_same, row_row] at k2
  obtain ⟨-, rfl⟩ := Prod.mk.inj (Option.some.inj (m2.symm.trans k2))
  refine ⟨σ5, ?_, LC_op H4 S5 f5 (row_same _ _ _) (Nat.le_refl _) (by omega) (Nat.le_refl _) (Nat.le_refl _), fun x hx => (f5.1 x (by omega)).trans (f4 x hx)⟩
  unfold p_324 g_323
  rw [p172_ok e1 hh (by omega), bnd, p322_ok e0 hf.1 hf.2 hd.1 hd.2 hv.1 hv.2, bnd, show (0 : Int32) = nI 0 from rfl, show (150 : Int32) = nI 150 from rfl, p285_ok (by omega) (by omega) (by omega), bnd, p285_ok hl.1 hl.2 (by omega), bnd, C_pk, bnd, cC, bnd, decide_eq_true hpc, decide_eq_false hcan, if_pos (show (true && !false) = true from rfl), bnd, Sum.elim_inl, c4, bnd, c5, bnd]
theorem LC_kiteN {σ : f_M} {s : Nat → Int32} {D ck hc ac pc cc h f d v lo hi : Nat} (hh : h < hc) (hf : ck ≤ f ∧ f ≤ 1000) (hd : 1 ≤ d ∧ d ≤ 24) (hv : 1 ≤ v ∧ v ≤ 500) (hl : lo ≤ hi ∧ hi ≤ 150) (hno : pc = 20 ∨ s (20 + 9 * h + 7) < nI v * nI d / nI 40 + nI 1) (L : LC σ s D ck hc ac pc cc) :
    p_324 (nI h) (nI f) (nI d) (nI v) (nI lo) (nI hi) σ = some (.inr 2, σ) := by
  obtain ⟨g, q, n, k, o, P, S, H⟩ := L
  have hh8 := S.1.1.2.1.2.2
  have e0 : σ 121 0 = nI ck := S.2.2.1.1.1.trans S.1.1.1.1
  have e1 : σ 103 0 = nI hc := S.2.2.2.1.1.trans S.1.1.2.1.1
  have h4 : s 4 = nI pc := S.1.1.2.2.2.1.1
  have cC : g_96 (nI h) (nI v * nI d / nI 40 + nI 1) σ = some (decide (pc < 20) && !decide (s (20 + 9 * h + 7) < nI v * nI d / nI 40 + nI 1)) := C_can2 S.2.2.1 h4 S.1.1.2.2.2.1.2 hh hh8
  have hb : (decide (pc < 20) && !decide (s (20 + 9 * h + 7) < nI v * nI d / nI 40 + nI 1)) = false := by
    rcases hno with h | h
    · rw [decide_eq_false (by omega)]; rfl
    · rw [decide_eq_true h]; exact Bool.and_false _
  unfold p_324 g_323
  rw [p172_ok e1 hh (by omega), bnd, p322_ok e0 hf.1 hf.2 hd.1 hd.2 hv.1 hv.2, bnd, show (0 : Int32) = nI 0 from rfl, show (150 : Int32) = nI 150 from rfl, p285_ok (by omega) (by omega) (by omega), bnd, p285_ok hl.1 hl.2 (by omega), bnd, C_pk, bnd, cC, bnd]
  rw [hb, if_neg (by decide), bnd, Sum.elim_inr]
/-- a picnic policy -/
theorem LC_picn {σ : f_M} {s : Nat → Int32} {D ck hc ac pc cc h f d v a : Nat} (hD : D ≤ 1000000000) (hpc : pc < 20) (hh : h < hc) (hf : ck ≤ f ∧ f ≤ 1000) (hd : 1 ≤ d ∧ d ≤ 24) (hv : 1 ≤ v ∧ v ≤ 500) (ha : a ≤ 50) (hcan : ¬ s (20 + 9 * h + 7) < nI v * nI d / (nI 20 + nI 2 * nI a) + nI 1) (L : LC σ s D ck hc ac pc cc) :
    ∃ σ5, p_328 (nI h) (nI f) (nI d) (nI v) (nI a) σ = some (.inl (nI pc), σ5) ∧ LC σ5 (s_buy (s_picn s pc (nI h) (nI f) (nI d) (nI v) (nI a)) pc) D ck hc ac (pc + 1) cc ∧ ∀ x, 155 ≤ x → σ5 x = σ x := by
  have L0 := L
  obtain ⟨g, q, n, k, o, P, S, H⟩ := L0
  have hh8 := S.1.1.2.1.2.2
  have e0 : σ 121 0 = nI ck := S.2.2.1.1.1.trans S.1.1.1.1
  have e1 : σ 103 0 = nI hc := S.2.2.2.1.1.trans S.1.1.2.1.1
  have h4 : s 4 = nI pc := S.1.1.2.2.2.1.1
  have cC : g_96 (nI h) (nI v * nI d / (nI 20 + nI 2 * nI a) + nI 1) σ = some (decide (pc < 20) && !decide (s (20 + 9 * h + 7) < nI v * nI d / (nI 20 + nI 2 * nI a) + nI 1)) := C_can2 S.2.2.1 h4 (by omega) hh hh8
  obtain ⟨σ4, g, q, n, k, o, P, c4, S4, H4, f4⟩ := LC_push L
  obtain ⟨σ5, τ1, τ5, c5, m1, m2, S5, f5⟩ := P_picn (f := f) (a := a) hD hpc hh (by omega) hd hv (by omega) hcan S4
  have k1 := M_picn (σ := dT s) (h := nI h) (f := nI f) (d := nI d) (v := nI v) (l := a) h4 hpc (by omega)
  obtain rfl := Option.some.inj (m1.symm.trans k1)
  obtain ⟨⟨t0, t1, -⟩, te⟩ := picn_v s pc (nI h) (nI f) (nI d) (nI v) (nI a) (nI (pc + 1))
  have u1 : s_picn s pc (nI h) (nI f) (nI d) (nI v) (nI a) (100 + 10 * pc + 1) = nI h := (upd_ne (by omega)).symm.trans t1
  have u4 : s_picn s pc (nI h) (nI f) (nI d) (nI v) (nI a) 4 = nI pc := by
    unfold s_picn
    rw [upd_ne (by omega), upd_ne (by omega), five_out (by omega)]; exact h4
  have k2 := M_buy (σ := f_row (dT s) 156 (s_picn s pc (nI h) (nI f) (nI d) (nI v) (nI a))) (pc := pc) (by rw [row_same]; exact u4) hpc (by rw [row_same]; exact ⟨h, by omega, u1⟩)
  rw [row_same, row_row] at k2
  obtain ⟨-, rfl⟩ := Prod.mk.inj (Option.some.inj (m2.symm.trans k2))
  refine ⟨σ5, ?_, LC_op H4 S5 f5 (row_same _ _ _) (Nat.le_refl _) (by omega) (Nat.le_refl _) (Nat.le_refl _), fun x hx => (f5.1 x (by omega)).trans (f4 x hx)⟩
  unfold p_328 g_323
  rw [p172_ok e1 hh (by omega), bnd, p322_ok e0 hf.1 hf.2 hd.1 hd.2 hv.1 hv.2, bnd, show (0 : Int32) = nI 0 from rfl, show (50 : Int32) = nI 50 from rfl, p285_ok (by omega) ha (by omega), bnd, C_pp σ (nI d) (nI v) (by omega : a < 51), bnd, cC, bnd, decide_eq_true hpc, decide_eq_false hcan, if_pos (show (true && !false) = true from rfl), bnd, Sum.elim_inl, c4, bnd, c5, bnd]
theorem LC_picnN {σ : f_M} {s : Nat → Int32} {D ck hc ac pc cc h f d v a : Nat} (hh : h < hc) (hf : ck ≤ f ∧ f ≤ 1000) (hd : 1 ≤ d ∧ d ≤ 24) (hv : 1 ≤ v ∧ v ≤ 500) (ha : a ≤ 50) (hno : pc = 20 ∨ s (20 + 9 * h + 7) < nI v * nI d / (nI 20 + nI 2 * nI a) + nI 1) (L : LC σ s D ck hc ac pc cc) :
    p_328 (nI h) (nI f) (nI d) (nI v) (nI a) σ = some (.inr 2, σ) := by
  obtain ⟨g, q, n, k, o, P, S, H⟩ := L
  have hh8 := S.1.1.2.1.2.2
  have e0 : σ 121 0 = nI ck := S.2.2.1.1.1.trans S.1.1.1.1
  have e1 : σ 103 0 = nI hc := S.2.2.2.1.1.trans S.1.1.2.1.1
  have h4 : s 4 = nI pc := S.1.1.2.2.2.1.1
  have cC : g_96 (nI h) (nI v * nI d / (nI 20 + nI 2 * nI a) + nI 1) σ = some (decide (pc < 20) && !decide (s (20 + 9 * h + 7) < nI v * nI d / (nI 20 + nI 2 * nI a) + nI 1)) := C_can2 S.2.2.1 h4 S.1.1.2.2.2.1.2 hh hh8
  have hb : (decide (pc < 20) && !decide (s (20 + 9 * h + 7) < nI v * nI d / (nI 20 + nI 2 * nI a) + nI 1)) = false := by
    rcases hno with h | h
    · rw [decide_eq_false (by omega)]; rfl
    · rw [decide_eq_true h]; exact Bool.and_false _
  unfold p_328 g_323
  rw [p172_ok e1 hh (by omega), bnd, p322_ok e0 hf.1 hf.2 hd.1 hd.2 hv.1 hv.2, bnd, show (0 : Int32) = nI 0 from rfl, show (50 : Int32) = nI 50 from rfl, p285_ok (by omega) ha (by omega), bnd, C_pp σ (nI d) (nI v) (by omega : a < 51), bnd, cC, bnd]
  rw [hb, if_neg (by decide), bnd, Sum.elim_inr]
/-- a claim -/
theorem LC_code {σ : f_M} {s : Nat → Int32} {D ck hc ac pc cc p : Nat} (hp : p < pc) (L : LC σ s D ck hc ac pc cc) : p_225 (nI p) σ = some (nI (s_code s cc p)) := by
  obtain ⟨g, q, n, k, o, P, S, H⟩ := L
  have e3 : σ 121 3 = nI pc := S.2.2.1.1.2.2.1.trans S.1.1.2.2.2.1.1
  have := S.1.1.2.2.2.1.2
  unfold p_225
  rw [p196_ok e3 hp (by omega), bnd, C_code S.1 S.2.1 S.2.2.1 hp, bnd]
  rfl
theorem LC_claim {σ : f_M} {s : Nat → Int32} {D ck hc ac pc cc p : Nat} (hp : p < pc) (h0 : s_code s cc p = 0) (L : LC σ s D ck hc ac pc cc) :
    cc < pc ∧ ∃ σ5, p_331 (nI p) σ = some (.inl (nI cc), σ5) ∧ LC σ5 (s_file s p cc) D ck hc ac pc (cc + 1) ∧ ∀ x, 155 ≤ x → σ5 x = σ x := by
  have L0 := L
  obtain ⟨g, q, n, k, o, P, S, H⟩ := L0
  have e3 : σ 121 3 = nI pc := S.2.2.1.1.2.2.1.trans S.1.1.2.2.2.1.1
  have hpc := S.1.1.2.2.2.1.2
  have hcc := claims_lt S.1 hp h0
  have c1 := C_code S.1 S.2.1 S.2.2.1 hp
  have ka := S.1.1.2.2.1
  have h5 := S.1.1.2.2.2.2.1
  obtain ⟨σ4, g, q, n, k, o, P, c4, S4, H4, f4⟩ := LC_push L
  obtain ⟨σ5, τ5, c5, m5, S5, f5⟩ := P_claim hp (by omega) h0 S4
  have hm := M_file (σ := dT s) (p := p) h5 (by omega) ka.1 ka.2.1 ka.2.2 (by omega)
  obtain ⟨-, rfl⟩ := Prod.mk.inj (Option.some.inj (m5.symm.trans hm))
  refine ⟨hcc, σ5, ?_, LC_op H4 S5 f5 (row_same _ _ _) (Nat.le_refl _) (Nat.le_refl _) (by omega) (Nat.le_refl _), fun x hx => (f5.1 x (by omega)).trans (f4 x hx)⟩
  unfold p_331
  rw [p196_ok e3 hp (by omega), bnd, c1, bnd, show s_code (dT s 156) cc p = 0 from h0, if_pos (show nI 0 = (0 : Int32) from rfl), c4, bnd, c5, bnd]
theorem LC_claimN {σ : f_M} {s : Nat → Int32} {D ck hc ac pc cc p : Nat} (hp : p < pc) (h0 : ¬ s_code s cc p = 0) (L : LC σ s D ck hc ac pc cc) : p_331 (nI p) σ = some (.inr 2, σ) := by
  obtain ⟨g, q, n, k, o, P, S, H⟩ := L
  have e3 : σ 121 3 = nI pc := S.2.2.1.1.2.2.1.trans S.1.1.2.2.2.1.1
  have hpc := S.1.1.2.2.2.1.2
  have c1 := C_code S.1 S.2.1 S.2.2.1 hp
  have hcd : s_code (dT s 156) cc p ≤ 5 := by
    unfold s_code
    repeat' split
    all_goals omega
  unfold p_331
  rw [p196_ok e3 hp (by omega), bnd, c1, bnd, if_neg (by rw [show (0 : Int32) = nI 0 from rfl, n_eq (by omega) (by omega)]; exact h0)]
