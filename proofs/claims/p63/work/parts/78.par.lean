/-! The numbers of a statement of a script. -/
/-- what reading statement j of a script changes -/
def fr9 (j : Nat) (σ σ' τ τ' : f_M) : Prop := (∀ r, r ≠ 3 → r ≠ 12 + j → σ' r = σ r) ∧ (∀ r, r ≠ 155 → r ≠ 160 → r ≠ 162 → τ' r = τ r) ∧ (∀ i, (i < 8 ∨ (8 < i ∧ i < 13) ∨ 18 < i) → τ' 155 i = τ 155 i) ∧ ∀ i, (i < 7 * j ∨ 7 * j + 7 ≤ i) → τ' 162 i = τ 162 i
theorem fr9.trans {j : Nat} {a b c x y z : f_M} (h1 : fr9 j a b x y) (h2 : fr9 j b c y z) : fr9 j a c x z :=
  ⟨fun r h h' => (h2.1 r h h').trans (h1.1 r h h'), fun r h h' h9 => (h2.2.1 r h h' h9).trans (h1.2.1 r h h' h9), fun i h => (h2.2.2.1 i h).trans (h1.2.2.1 i h), fun i h => (h2.2.2.2 i h).trans (h1.2.2.2 i h)⟩
theorem fr9.refl (j : Nat) (a x : f_M) : fr9 j a a x x := ⟨fun _ _ _ => rfl, fun _ _ _ _ => rfl, fun _ _ => rfl, fun _ _ => rfl⟩
theorem fr9_tok (j : Nat) {σ σ' τ τ' : f_M} (h1 : cFr σ σ') (h2 : nFr τ τ') : fr9 j σ σ' τ τ' := ⟨fun r h _ => h1 r h, fun r h h' _ => h2.1 r h h', h2.2, fun i _ => by rw [h2.1 162 (by omega) (by omega)]⟩
theorem fr9_wr {j i : Nat} {σ τ : f_M} {v w : Int32} (hi : i < 7) : fr9 j σ (f_up σ (12 + j) i v) τ (f_up τ 162 (7 * j + i) w) :=
  ⟨fun r _ h => up_rows h, fun r _ _ h => up_rows h, fun i _ => by rw [up_rows (by omega)], fun k hk => up_ix (by omega)⟩
theorem fr9_wrM {j i : Nat} {σ τ : f_M} {w : Int32} (hi : i < 7) : fr9 j σ σ τ (f_up τ 162 (7 * j + i) w) :=
  ⟨fun r _ _ => rfl, fun r _ _ h => up_rows h, fun i _ => by rw [up_rows (by omega)], fun k hk => up_ix (by omega)⟩
/-- both run: they go on, or the class stops and the model has its fault -/
def cR (C : Option (Bool × f_M)) (M : Option f_M) (P E : f_M → f_M → Prop) : Prop :=
  (∃ σ' τ', C = some (true, σ') ∧ M = some τ' ∧ P σ' τ') ∨ ∃ c S σ' τ', C = some (false, σ') ∧ M = some τ' ∧ FL σ' τ' c S ∧ E σ' τ'
theorem cR_bind {α : Type} {C1 : Option (Bool × f_M)} {m : Option α} {f : α → Option f_M} {K : Bool × f_M → Option (Bool × f_M)} {L : f_M → Option f_M} {P1 P2 E : f_M → f_M → Prop}
    (h1 : cR C1 (m.bind f) P1 E) (h2 : ∀ σ τ, P1 σ τ → cR (K (true, σ)) (L τ) P2 E) (h3 : ∀ σ τ c S, mE τ c S → E σ τ → ∃ τ', L τ = some τ' ∧ mE τ' c S ∧ E σ τ') :
    cR (C1.bind fun t => if t.1 = false then some (false, t.2) else K t) (m.bind fun a => (f a).bind L) P2 E := by
  rcases h1 with ⟨σ', τ', c1, m1, p1⟩ | ⟨c, S, σ', τ', c1, m1, fl, e⟩
  · rcases h2 σ' τ' p1 with ⟨σ2, τ2, c2, m2, p2⟩ | ⟨c, S, σ2, τ2, c2, m2, fl, e⟩
    · exact Or.inl ⟨σ2, τ2, by rw [c1, bnd]; exact c2, bind_bind m1 m2, p2⟩
    · exact Or.inr ⟨c, S, σ2, τ2, by rw [c1, bnd]; exact c2, bind_bind m1 m2, fl, e⟩
  · obtain ⟨τ2, m2, e2, f2⟩ := h3 σ' τ' c S fl.2.2 e
    exact Or.inr ⟨c, S, σ', τ2, by rw [c1, bnd]; rfl, bind_bind m1 m2, ⟨fl.1, fl.2.1, e2⟩, f2⟩
theorem opt_eta {α β : Type} (o : Option (α × β)) : (o.bind fun t => some (t.1, t.2)) = o := by cases o <;> rfl
theorem opt_eta1 {α : Type} (o : Option α) : (o.bind fun t => some t) = o := by cases o <;> rfl
/-- the numbers so far are in their ranges, in both -/
def stP (t : Nat → Int32) (len p j : Nat) (σ0 τ0 : f_M) (A B : Nat → Nat) (k : Nat) (σ τ : f_M) : Prop :=
  ∃ p', LG t len σ τ p' ∧ p ≤ p' ∧ (∀ i, i < k → ∃ v, A i ≤ v ∧ v ≤ B i ∧ σ (12 + j) i = nI v ∧ τ 162 (7 * j + i) = nI v) ∧ fr9 j σ0 σ τ0 τ
theorem F_nw {τ : f_M} {c S k : Nat} {lo hi iy : Int32} (e : mE τ c S) (hk : k < 210) (hiy : iy = nI k) : ((g_57 lo hi τ).bind fun t => f_wr t.2 162 210 iy t.1) = some (f_up τ 162 k lo) ∧ mE (f_up τ 162 k lo) c S := by
  refine ⟨?_, ?_⟩
  · rw [M_57F e, bnd, hiy]
    exact f_wr_n hk (by omega)
  · unfold mE; rw [up_rows (by omega)]; exact e
theorem P_67 {t : Nat → Int32} {len p j k : Nat} {σ0 τ0 σ τ : f_M} {A B : Nat → Nat} {lo hi ix iy : Int32} (h : stP t len p j σ0 τ0 A B k σ τ) (hj : j < 30) (hk : k < 7) (hlo : lo = nI (A k)) (hhi : hi = nI (B k)) (hA : A k < 10000) (hB : B k < 10000) (hix : ix = nI k) (hiy : iy = nI (7 * j + k)) :
    cR (g_67 (12 + j) ix lo hi σ) ((g_57 lo hi τ).bind fun t => f_wr t.2 162 210 iy t.1) (stP t len p j σ0 τ0 A B (k + 1)) (fun σ' τ' => fr9 j σ0 σ' τ0 τ') := by
  obtain ⟨p', g, hp, hv, fr⟩ := h
  unfold g_67
  rcases P_num lo hi g with ⟨p2, σ2, τ2, c2, m2, lo2, hi2, g2, lt2, fc2, fm2⟩ | ⟨c, S, σ2, τ2, c2, m2, fl, fc2, fm2⟩
  · rw [hlo] at lo2
    rw [hhi] at hi2
    obtain ⟨v, v1, v2, ev⟩ := rng_n (by omega) (by omega) lo2 hi2
    have f2 := fr9_tok j fc2 fm2.n
    refine Or.inl ⟨f_up σ2 (12 + j) k (nI v), f_up τ2 162 (7 * j + k) (nI v), ?_, ?_, p2, LG_keep g2 (up_rows (by omega)) (up_rows (by omega)) (fun i _ _ => by rw [up_rows (by omega)]) (up_rows (by omega)), by omega, fun i hi => ?_, fr.trans (f2.trans (fr9_wr hk))⟩
    · rw [c2, bnd, if_pos rfl]
      dsimp only
      rw [ev, hix, f_wr_n hk (by omega), bnd]
    · rw [m2, bnd, hiy]
      dsimp only
      rw [ev]
      exact f_wr_n (by omega) (by omega)
    · by_cases e : i = k
      · subst e
        exact ⟨v, v1, v2, up_same _ _ _ _, up_same _ _ _ _⟩
      · obtain ⟨w, w1, w2, w3, w4⟩ := hv i (by omega)
        refine ⟨w, w1, w2, ?_, ?_⟩
        · rw [up_ix e, fc2 _ (by omega)]; exact w3
        · rw [up_ix (by omega), fm2.1 162 (by omega)]; exact w4
  · obtain ⟨n1, n2⟩ := F_nw (τ := τ2) (lo := lo) (hi := hi) (k := 7 * j + k) fl.2.2 (by omega) hiy
    refine Or.inr ⟨c, S, σ2, f_up τ2 162 (7 * j + k) lo, ?_, ?_, ⟨fl.1, fl.2.1, n2⟩, fr.trans ((fr9_tok j fc2 fm2.n).trans (fr9_wrM hk))⟩
    · rw [c2, bnd]; rfl
    · rw [m2, bnd, hiy]
      exact f_wr_n (by omega) (by omega)
theorem M_115F {τ : f_M} {c S : Nat} (e : mE τ c S) : g_115 τ = some (0, f_up τ 155 8 (nI 0)) := by
  have e' := mE_8 (v := nI 0) e
  unfold g_115
  rw [M_55F e, bnd, if_pos e'.ne, bnd, if_neg (by decide), bnd, M_exT, bnd, M_51F e', bnd]
  rfl
theorem F_nh {τ : f_M} {c S k : Nat} {iy : Int32} (e : mE τ c S) (hk : k < 210) (hiy : iy = nI k) : ((g_115 τ).bind fun t => f_wr t.2 162 210 iy t.1) = some (f_up (f_up τ 155 8 (nI 0)) 162 k 0) ∧ mE (f_up (f_up τ 155 8 (nI 0)) 162 k 0) c S := by
  refine ⟨?_, ?_⟩
  · rw [M_115F e, bnd, hiy]
    exact f_wr_n hk (by omega)
  · unfold mE; rw [up_rows (by omega)]; exact mE_8 e
theorem fmax_n {a : Nat} (h : a < 2147483648) : f_max 0 (nI a) = nI a := by
  unfold f_max
  by_cases h0 : a = 0
  · subst h0; decide
  · rw [if_pos (by rw [show (0 : Int32) = nI 0 from rfl, n_lt (by omega) h]; omega)]
/-- the setup in force, as far as names go -/
def nmS (σ τ : f_M) (hc : Nat) : Prop := σ 103 0 = nI hc ∧ τ 156 2 = nI hc ∧ hc ≤ 8 ∧ rNm σ 103 (τ 156) hc
theorem P_68 {t : Nat → Int32} {len p j hc : Nat} {σ0 τ0 σ τ : f_M} {A B : Nat → Nat} {iy : Int32} (h : stP t len p j σ0 τ0 A B 1 σ τ) (ns : nmS σ0 τ0 hc) (hj : j < 30) (hA : A 1 = 0) (hB : B 1 = hc - 1) (hiy : iy = nI (7 * j + 1)) :
    cR (g_68 (12 + j) σ) ((g_115 τ).bind fun t => f_wr t.2 162 210 iy t.1) (stP t len p j σ0 τ0 A B 2) (fun σ' τ' => fr9 j σ0 σ' τ0 τ') := by
  obtain ⟨p', g, hp, hv, fr⟩ := h
  obtain ⟨s0, s2, hh8, rn⟩ := ns
  unfold g_68
  rcases P_name g with ⟨σ2, τ2, c2, m2, ⟨x2, ct2⟩, ⟨y2, mt2⟩, hK2, h62, e8, el, fc2, fm2⟩ | ⟨c, S, σ2, τ2, c2, m2, fl, fc2, fm2⟩
  · have hp' := g.2.1
    have hS2 := tkS_le (t := t) hp'
    have hE2 := tkE_le (t := t) hp'
    have hlt2 := hE2.2.2 (by omega)
    have f2 := fr9_tok j fc2 fm2
    have ff := fr.trans f2
    have k0 : σ2 103 0 = nI hc := by rw [ff.1 103 (by omega) (by omega)]; exact s0
    have e156 : τ2 156 = τ0 156 := ff.2.1 156 (by omega) (by omega) (by omega)
    have hN : rNm σ2 103 (τ2 156) hc := by
      unfold rNm
      rw [ff.1 (103 + 1) (by omega) (by omega), ff.1 (103 + 2) (by omega) (by omega), e156]; exact rn
    have hcf := C_find (a := 103) x2 ct2 hp' hK2 h62 k0 hh8
    have hmf := M_find e8 h62 el (by rw [e156]; exact s2) hh8
    rw [cm_mm h62 hN] at hcf
    by_cases hf : fstN (mm (τ2 156) t (tkS t len p') (tkE t len p' - tkS t len p')) hc < hc
    · rw [if_pos hf] at hcf hmf
      have ne1 := n_neg1 (a := fstN (mm (τ2 156) t (tkS t len p') (tkE t len p' - tkS t len p')) hc) (by omega)
      generalize fstN (mm (τ2 156) t (tkS t len p') (tkE t len p' - tkS t len p')) hc = w at *
      obtain ⟨τ3, n3, y3, m3, f3⟩ := M_next y2 mt2.2.1 hE2.2.1
      refine Or.inl ⟨f_up σ2 (12 + j) 1 (nI w), f_up τ3 162 (7 * j + 1) (nI w), ?_, ?_, tkE t len p', ⟨⟨cX_keep x2 (up_rows (by omega)) (up_rows (by omega)), by rw [up_rows (by omega)]; exact ct2.2.1⟩, hE2.2.1, mX_keep y3 (fun i _ _ => by rw [up_rows (by omega)]) (up_rows (by omega)), mT_keep m3 (fun i _ _ => by rw [up_rows (by omega)])⟩, by omega, fun i hi => ?_, ff.trans ((fr9_tok j (cFr.rfl' _) f3.n).trans (fr9_wr (by omega)))⟩
      · rw [c2, bnd, if_pos rfl, hcf, bnd, show (1 : Int32) = nI 1 from rfl, f_wr_n (by omega) (by omega), bnd, f_rd_n (by omega) (by omega), bnd, up_same, if_pos (show ¬ nI w = -nI 1 from ne1), bnd]
      · unfold g_115
        rw [m2, bnd, if_neg (fun h => h y2.2.2.2), hmf, bnd, bnd, if_neg ne1, bnd, M_exT, bnd, n3, bnd, bnd, fmax_n (by omega), hiy]
        exact f_wr_n (by omega) (by omega)
      · by_cases e : i = 1
        · subst e
          exact ⟨w, by omega, by omega, up_same _ _ _ _, up_same _ _ _ _⟩
        · obtain ⟨u, w1, w2, w3, w4⟩ := hv i (by omega)
          refine ⟨u, w1, w2, ?_, ?_⟩
          · rw [up_ix e, fc2 _ (by omega)]; exact w3
          · rw [up_ix (by omega), f3.1 162 (by omega), fm2.1 162 (by omega) (by omega)]; exact w4
    · rw [if_neg hf] at hcf hmf
      have e := mE_now (τ := τ2) (c := 3) (S := tkS t len p') mt2.1 (by omega) (by omega)
      have e9 : mE (f_up (f_up (f_up τ2 155 17 (nI 3)) 155 18 (τ2 155 13)) 162 (7 * j + 1) 0) 3 (tkS t len p') := by
        unfold mE; rw [up_rows (by omega)]; exact e
      refine Or.inr ⟨3, tkS t len p', f_up (f_up (f_up σ2 (12 + j) 1 (-1)) 3 6 3) 3 7 (f_up σ2 (12 + j) 1 (-1) 3 3), _, ?_, ?_, ⟨?_, ?_, e9⟩, ?_⟩
      · rw [c2, bnd, if_pos rfl, hcf, bnd, show (1 : Int32) = nI 1 from rfl, f_wr_n (by omega) (by omega), bnd, f_rd_n (by omega) (by omega), bnd, up_same, if_neg (fun h => h rfl), C_fail, bnd, if_pos rfl, bnd]
      · unfold g_115
        rw [m2, bnd, if_neg (fun h => h y2.2.2.2), hmf, bnd, bnd, if_pos rfl, bnd, M_ex0 y2.2.2.2, bnd, show (3 : Int32) = nI 3 from rfl, M_51F e, bnd, bnd, hiy]
        exact f_wr_n (by omega) (by omega)
      · rw [up_ix (by omega), up_same]; rfl
      · rw [up_same, up_rows (by omega)]; exact ct2.1
      · refine ff.trans ⟨fun r h h' => by rw [up_rows h, up_rows h, up_rows h'], fun r h _ h' => by rw [up_rows h', up_rows h, up_rows h], fun i h => by rw [up_rows (by omega), up_ix (by omega), up_ix (by omega)], fun i h => by rw [up_ix (by omega), up_rows (by omega), up_rows (by omega)]⟩
  · have e' : mE (f_up τ2 162 (7 * j + 1) 0) c S := by
      unfold mE; rw [up_rows (by omega)]; exact fl.2.2
    refine Or.inr ⟨c, S, σ2, f_up τ2 162 (7 * j + 1) 0, ?_, ?_, ⟨fl.1, fl.2.1, e'⟩, fr.trans ((fr9_tok j fc2 fm2).trans (fr9_wrM (by omega)))⟩
    · rw [c2, bnd]; rfl
    · unfold g_115
      rw [m2, bnd, if_pos fl.2.2.ne, bnd, if_neg (by decide), bnd, M_exT, bnd, M_51F fl.2.2, bnd, bnd, hiy]
      exact f_wr_n (by omega) (by omega)
