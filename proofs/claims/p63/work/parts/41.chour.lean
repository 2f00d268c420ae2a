/-! The class's payments and its hour against the row. -/
def bookK (k : Nat) : Prop := (100 ≤ k ∧ k < 300 ∧ k % 10 ≤ 6) ∨ (300 ≤ k ∧ k < 420 ∧ (k - 300) % 6 ≤ 1) ∨ 420 ≤ k
theorem rB_congr {σ σ' : f_M} {b : Nat} {s s' : Nat → Int32} {ck pc cc : Nat} (hpc : pc ≤ 20) (hcc : cc ≤ 20) (eσ : ∀ i, i < 13 → σ' (b + i) = σ (b + i)) (e : ∀ k, bookK k → s' k = s k) (h : rB σ b s ck pc cc) : rB σ' b s' ck pc cc := by
  obtain ⟨h1, h2, h3⟩ := h
  refine ⟨fun t ht => ?_, fun p hp => rP_congr (fun i hi => e _ (by unfold bookK; omega)) (fun i _ hi => eσ i (by omega)) (h2 p hp), fun c hc => ?_⟩
  · rw [eσ 1 (by omega), eσ 2 (by omega), e _ (by unfold bookK; omega), e _ (by unfold bookK; omega)]; exact h1 t ht
  · rw [eσ 11 (by omega), eσ 12 (by omega), e _ (by unfold bookK; omega), e _ (by unfold bookK; omega)]; exact h3 c hc
theorem C_pay {σ : f_M} {s : Nat → Int32} {D ck hc ac pc cc q n : Nat} {g : Nat → Nat} (hD : D ≤ 1000000000) (K : kAll s D ck hc ac pc cc g q n) (B : rB σ 108 s ck pc cc) (l : rL σ 121 s hc pc cc g q n) :
    ∃ σ', g_93 σ = some σ' ∧ ∃ q', kAll (s_pall cc 20 s) D ck hc ac pc cc g q' n ∧ rB σ' 108 (s_pall cc 20 s) ck pc cc ∧ rL σ' 121 (s_pall cc 20 s) hc pc cc g q' n ∧ ∀ r, r ≠ 121 → r ≠ 122 → r ≠ 124 → σ' r = σ r := by
  have hcc : cc ≤ 20 := K.1.2.2.2.2.2
  have hpc : pc ≤ 20 := K.1.2.2.2.1.2
  have hn : n ≤ cc := by rw [K.2.2.2.1.2.1]; exact cntN_le _ _
  have hqn : q ≤ n := K.2.2.2.1.1
  unfold g_93
  rw [l.1.2.2.2.2.2.1]
  refine lp_ex (fun j (z : Int32 × f_M) => ∃ sj σj, z = (nI (q + j), σj) ∧ kAll sj D ck hc ac pc cc g (q + j) n ∧ rB σj 108 sj ck pc cc ∧ rL σj 121 sj hc pc cc g (q + j) n ∧ (∀ r, r ≠ 121 → r ≠ 122 → r ≠ 124 → σj r = σ r) ∧ s_pall cc 20 s = s_pall cc (20 - j) sj)
    (fun z => ∃ q', kAll (s_pall cc 20 s) D ck hc ac pc cc g q' n ∧ rB z 108 (s_pall cc 20 s) ck pc cc ∧ rL z 121 (s_pall cc 20 s) hc pc cc g q' n ∧ ∀ r, r ≠ 121 → r ≠ 122 → r ≠ 124 → z r = σ r) (n - q) (f_F_lt (by omega)) ⟨s, σ, rfl, K, B, l, fun _ _ _ _ => rfl, rfl⟩ ?_ ?_ (fun z h => ⟨z, rfl, h⟩)
  · rintro j z hj ⟨sj, σj, rfl, Kj, Bj, lj, fj, ej⟩
    have hq : q + j < n := by omega
    obtain ⟨kc, kp, kk, kg, kd, kr, ku, km, ks, kw⟩ := id Kj
    have hu := un_next hcc kk kg
    rw [if_pos hq] at hu
    have hgc := kg.2.2.2.1 (q + j) hq
    obtain ⟨⟨l0, l1, l3, l5, l10, l11, l12, l13, l14⟩, lb, ll, lc, lg⟩ := id lj
    have e127 : σj 127 (q + j) = nI (g (q + j)) := lg _ hq
    have e126 : σj 126 (g (q + j)) = sj (300 + 6 * g (q + j) + 4) := (lc _ hgc).2.2
    obtain ⟨m, hm⟩ : ∃ m, 20 - j = m + 1 := ⟨20 - j - 1, by omega⟩
    simp (disch := omega) only [l10, n_le, f_rd_n, bnd, e127, e126, l1]
    rw [if_neg (by omega)]
    by_cases hr : sj 1 < sj (300 + 6 * g (q + j) + 4)
    · refine Or.inr ⟨σj, if_neg (by rw [i32_nle]; exact hr), q + j, ?_⟩
      have e : s_pall cc 20 s = sj := by
        rw [ej, hm, s_pall_succ, hu, if_neg (n_neg1 (by omega)), nat_n (by omega), if_pos hr]
      rw [e]
      exact ⟨Kj, Bj, lj, fj⟩
    · have hle : sj (300 + 6 * g (q + j) + 4) ≤ sj 1 := (i32_nlt _ _).mp hr
      obtain ⟨p, hp, ep⟩ := (kk _ hgc).1
      obtain ⟨h, hh, eh⟩ := (kp p hp).2.1
      have hhc : hc ≤ 8 := kc.2.1.2.2
      have e119 : σj 119 (g (q + j)) = nI p := ((Bj.2.2 _ hgc).1).trans ep
      have e112 : σj 112 p = nI h := ((Bj.2.1 p hp).2.1).trans eh
      have e122 : σj 122 h = sj (20 + 9 * h + 7) := lb h hh
      have KP := K_pay1 hD Kj hq
      have e : ∀ k, k ≠ 1 → k ≠ 7 → (∀ h, h < 8 → k ≠ 20 + 9 * h + 7 ∧ k ≠ 20 + 9 * h + 8) → k ≠ 300 + 6 * g (q + j) + 3 → s_pay1 sj (g (q + j)) k = sj k := fun k g1 g7 gb g3 => s_pay1_keep (by rw [ep, nat_n (by omega)]; exact (kp p hp).2.1.mono hhc) g1 g7 gb g3
      have f1 : s_pay1 sj (g (q + j)) 1 = sj 1 - sj (300 + 6 * g (q + j) + 4) := by
        unfold s_pay1
        rw [upd_ne (by omega), upd_ne (by omega), upd_ne (by omega), upd_ne (by omega), upd_same]
      have f7 : s_pay1 sj (g (q + j)) 7 = sj 7 + sj (300 + 6 * g (q + j) + 4) := by
        unfold s_pay1
        rw [upd_ne (by omega), upd_same]
      have f3 : s_pay1 sj (g (q + j)) (300 + 6 * g (q + j) + 3) = nI 3 := by unfold s_pay1; rw [upd_same]
      have fb : ∀ h', h' < hc → s_pay1 sj (g (q + j)) (20 + 9 * h' + 7) = if h' = h then sj (20 + 9 * h + 7) + sj (300 + 6 * g (q + j) + 4) else sj (20 + 9 * h' + 7) := fun h' hh' => by
        unfold s_pay1
        rw [ep, nat_n (by omega), eh, nat_n (by omega)]
        by_cases he : h' = h
        · subst he; rw [if_pos rfl, upd_ne (by omega), upd_ne (by omega), upd_ne (by omega), upd_same]
        · rw [if_neg he, upd_ne (by omega), upd_ne (by omega), upd_ne (by omega), upd_ne (by omega), upd_ne (by omega)]
      refine Or.inl ⟨(nI (q + (j + 1)), f_up (f_up (f_up (f_up (f_up σj 121 1 (sj 1 - sj (300 + 6 * g (q + j) + 4))) 122 h (sj (20 + 9 * h + 7) + sj (300 + 6 * g (q + j) + 4))) 121 13 (sj 7 + sj (300 + 6 * g (q + j) + 4))) 124 (g (q + j)) (nI 3)) 121 11 (nI (q + (j + 1)))), ?_, s_pay1 sj (g (q + j)), _, rfl, KP, ?_, ?_, ?_, ?_⟩
      · rw [if_pos hle]
        simp (disch := omega) only [g_91, f_rd_n, f_wr_n, bnd, e119, e112, e126, g_92, l1, up_rows, up_ix, e122, l13, l11, lits, n_add]
        rfl
      · exact rB_congr hpc hcc (fun i hi => by simp (disch := omega) only [up_rows]) (fun k hk => by unfold bookK at hk; exact e k (by omega) (by omega) (fun h hh => by omega) (by omega)) Bj
      · refine ⟨⟨?_, ?_, ?_, ?_, ?_, ?_, ?_, ?_, ?_⟩, ?_, ?_, ?_, ?_⟩
        · rw [e 0 (by omega) (by omega) (fun h hh => by omega) (by omega)]; simp (disch := omega) only [up_rows, up_ix, l0]
        · rw [f1]; simp (disch := omega) only [up_rows, up_ix, up_same]
        · rw [e 4 (by omega) (by omega) (fun h hh => by omega) (by omega)]; simp (disch := omega) only [up_rows, up_ix, l3]
        · rw [e 5 (by omega) (by omega) (fun h hh => by omega) (by omega)]; simp (disch := omega) only [up_rows, up_ix, l5]
        · simp (disch := omega) only [up_rows, up_ix, l10]
        · rw [up_same]
        · rw [e 6 (by omega) (by omega) (fun h hh => by omega) (by omega)]; simp (disch := omega) only [up_rows, up_ix, l12]
        · rw [f7]; simp (disch := omega) only [up_rows, up_ix, up_same]
        · rw [e 8 (by omega) (by omega) (fun h hh => by omega) (by omega)]; simp (disch := omega) only [up_rows, up_ix, l14]
        · intro h' hh'
          show (f_up (f_up (f_up (f_up (f_up σj 121 1 (sj 1 - sj (300 + 6 * g (q + j) + 4))) 122 h (sj (20 + 9 * h + 7) + sj (300 + 6 * g (q + j) + 4))) 121 13 (sj 7 + sj (300 + 6 * g (q + j) + 4))) 124 (g (q + j)) (nI 3)) 121 11 (nI (q + (j + 1)))) 122 h' = _
          rw [fb h' hh']
          by_cases he : h' = h
          · subst he; rw [if_pos rfl]; simp (disch := omega) only [up_rows, up_same]
          · rw [if_neg he]; simp (disch := omega) only [up_rows, up_ix]; exact lb h' hh'
        · intro p' hp'
          rw [e _ (by omega) (by omega) (fun h hh => by omega) (by omega)]
          simp (disch := omega) only [up_rows]
          exact ll p' hp'
        · intro c hc
          show (f_up (f_up (f_up (f_up (f_up σj 121 1 (sj 1 - sj (300 + 6 * g (q + j) + 4))) 122 h (sj (20 + 9 * h + 7) + sj (300 + 6 * g (q + j) + 4))) 121 13 (sj 7 + sj (300 + 6 * g (q + j) + 4))) 124 (g (q + j)) (nI 3)) 121 11 (nI (q + (j + 1)))) 124 c = _ ∧ (f_up (f_up (f_up (f_up (f_up σj 121 1 (sj 1 - sj (300 + 6 * g (q + j) + 4))) 122 h (sj (20 + 9 * h + 7) + sj (300 + 6 * g (q + j) + 4))) 121 13 (sj 7 + sj (300 + 6 * g (q + j) + 4))) 124 (g (q + j)) (nI 3)) 121 11 (nI (q + (j + 1)))) (121 + 4) c = _ ∧ (f_up (f_up (f_up (f_up (f_up σj 121 1 (sj 1 - sj (300 + 6 * g (q + j) + 4))) 122 h (sj (20 + 9 * h + 7) + sj (300 + 6 * g (q + j) + 4))) 121 13 (sj 7 + sj (300 + 6 * g (q + j) + 4))) 124 (g (q + j)) (nI 3)) 121 11 (nI (q + (j + 1)))) (121 + 5) c = _
          have hlc := lc c hc
          rw [e (300 + 6 * c + 2) (by omega) (by omega) (fun h hh => by omega) (by omega), e (300 + 6 * c + 4) (by omega) (by omega) (fun h hh => by omega) (by omega)]
          by_cases hcg : c = g (q + j)
          · rw [← hcg] at f3
            rw [← hcg, f3]
            simp (disch := omega) only [up_rows, up_same]
            exact ⟨trivial, hlc.2⟩
          · rw [e (300 + 6 * c + 3) (by omega) (by omega) (fun h hh => by omega) (by omega)]
            simp (disch := omega) only [up_rows, up_ix]
            exact hlc
        · intro i hi
          simp (disch := omega) only [up_rows]
          exact lg i hi
      · intro r h1 h2 h3
        rw [up_rows h1, up_rows h3, up_rows h1, up_rows h2, up_rows h1]
        exact fj r h1 h2 h3
      · rw [ej, hm, show 20 - (j + 1) = m by omega, s_pall_succ, hu, if_neg (n_neg1 (by omega)), nat_n (by omega), if_neg hr]
  · rintro z ⟨sj, σj, rfl, Kj, Bj, lj, fj, ej⟩
    have hu := un_next hcc Kj.2.2.1 Kj.2.2.2.1
    rw [if_neg (by omega)] at hu
    refine ⟨σj, ?_, q + (n - q), ?_⟩
    · simp (disch := omega) only [lj.1.2.2.2.2.1, n_le]
      rw [if_pos (by omega)]
    · have e : s_pall cc 20 s = sj := by
        rw [ej]
        cases hm : 20 - (n - q) with
        | zero => rfl
        | succ m => rw [s_pall_succ, hu, if_pos rfl]
      rw [e]
      exact ⟨Kj, Bj, lj, fj⟩
theorem bind_bind {A B C : Type} {x : Option A} {f : A → Option B} {g : B → Option C} {b : B} {o : Option C} (h : x.bind f = some b) (h2 : g b = o) : (x.bind fun a => (f a).bind g) = o := by
  rw [← Option.bind_assoc, h]; exact h2
theorem ex_pair {A B : Type} {x : Option (A × B)} {a : A} {T : B → Prop} (h : ∃ t, x = some t ∧ t.1 = a ∧ T t.2) : ∃ b, x = some (a, b) ∧ T b := by
  obtain ⟨⟨a', b⟩, e, rfl, h⟩ := h
  exact ⟨b, e, h⟩
theorem s_asN_keep {s : Nat → Int32} {k : Nat} (h10 : k ≠ 10) (hk : k < 300) (n : Nat) : s_asN s n k = s k := by
  induction n with
  | zero => rfl
  | succ n ih => rw [s_asN_succ, s_assess_keep h10 (fun c hc => by omega)]; exact ih
theorem C_hour {σ : f_M} {s : Nat → Int32} {D ck hc ac pc cc q n : Nat} {g : Nat → Nat} {w r : Int32} (hD : D ≤ 1000000000) (hck : ck < 1000) (hw : isN w 151) (hr : isN r 51) (K : kAll s D ck hc ac pc cc g q n) (B : rB σ 108 s ck pc cc) (l : rL σ 121 s hc pc cc g q n) (S : rS σ 103 s hc ac) :
    ∃ σ', g_94 w r σ = some (s_hour s w r 10 - s 10, σ') ∧ ∃ g' q' n', kAll (s_hour s w r) D (ck + 1) hc ac pc cc g' q' n' ∧ rB σ' 108 (s_hour s w r) (ck + 1) pc cc ∧ rL σ' 121 (s_hour s w r) hc pc cc g' q' n' ∧ (∀ x, x ≠ 109 → x ≠ 110 → (x < 121 ∨ 127 < x) → σ' x = σ x) ∧ ∀ t, t ≠ ck → σ' 109 t = σ 109 t ∧ σ' 110 t = σ 110 t := by
  have kF := K.okF
  obtain ⟨kc, kp, kk, kg, kd, kr, ku, km, ks, kw⟩ := id K
  obtain ⟨⟨c0, c0'⟩, ⟨c2, c2', c2''⟩, ⟨c3, c3', c3''⟩, ⟨c4, c4'⟩, ⟨c5, c5'⟩⟩ := id kc
  obtain ⟨σ1, e1, l1, f1⟩ := C_day c0 c0' c4 c4' c2'' kp B.2.1 l
  have K1 := K_day hD K
  have ed : ∀ k, bookK k → s_day s k = s k := fun k hk => by
    unfold bookK at hk
    exact s_day_keep kF (by omega) (by omega) (fun h hh => by omega) (fun p hp => by omega)
  have B1 : rB σ1 108 (s_day s) ck pc cc := rB_congr c4' c5' (fun i hi => f1 _ (by omega) (by omega) (by omega)) ed B
  have d0 : s_day s 0 = nI ck := K1.1.1.1
  have K2 := K_wx hw hr K1 hck
  have e0 : σ1 121 0 = nI ck := l1.1.1.trans d0
  have ex : ∀ k, k ≠ 0 → k ≠ 420 + ck → k ≠ 1420 + ck → s_wx (s_day s) w r k = s_day s k := fun k g1 g2 g3 => s_wx_keep g1 (by rw [d0, nat_n (by omega)]; exact g2) (by rw [d0, nat_n (by omega)]; exact g3)
  have x420 : s_wx (s_day s) w r (420 + ck) = w := by
    unfold s_wx; rw [d0, nat_n (by omega), upd_ne (by omega), upd_ne (by omega), upd_same]
  have x1420 : s_wx (s_day s) w r (1420 + ck) = r := by
    unfold s_wx; rw [d0, nat_n (by omega), upd_ne (by omega), upd_same]
  have x0 : s_wx (s_day s) w r 0 = nI (ck + 1) := K2.1.1.1
  have B2 : rB (f_up (f_up (f_up σ1 109 ck w) 110 ck r) 121 0 (nI (ck + 1))) 108 (s_wx (s_day s) w r) (ck + 1) pc cc := by
    obtain ⟨b1, b2, b3⟩ := B1
    refine ⟨fun t ht => ?_, fun p hp => ?_, fun c hc => ?_⟩
    · show (f_up (f_up (f_up σ1 109 ck w) 110 ck r) 121 0 (nI (ck + 1))) 109 t = _ ∧ (f_up (f_up (f_up σ1 109 ck w) 110 ck r) 121 0 (nI (ck + 1))) 110 t = _
      by_cases h : t = ck
      · subst h
        rw [x420, x1420]
        simp (disch := omega) only [up_rows, up_same, and_self]
      · rw [ex _ (by omega) (by omega) (by omega), ex _ (by omega) (by omega) (by omega)]
        simp (disch := omega) only [up_rows, up_ix]
        exact b1 t (by omega)
    · refine rP_congr (fun i hi => ex _ (by omega) (by omega) (by omega)) (fun i h3 hi => ?_) (b2 p hp)
      simp (disch := omega) only [up_rows]
    · rw [ex _ (by omega) (by omega) (by omega), ex _ (by omega) (by omega) (by omega)]
      simp (disch := omega) only [up_rows]
      exact b3 c hc
  have l2 : rL (f_up (f_up (f_up σ1 109 ck w) 110 ck r) 121 0 (nI (ck + 1))) 121 (s_wx (s_day s) w r) hc pc cc g q n := by
    obtain ⟨⟨g0, g1, g3, g5, g10, g11, g12, g13, g14⟩, lb, ll, lc, lg⟩ := l1
    refine ⟨⟨?_, ?_, ?_, ?_, ?_, ?_, ?_, ?_, ?_⟩, ?_, ?_, ?_, ?_⟩
    · rw [x0, up_same]
    iterate 8 simp (disch := omega) only [up_rows, up_ix, ex, g1, g3, g5, g10, g11, g12, g13, g14]
    · intro h' hh'
      rw [ex _ (by omega) (by omega) (by omega)]
      simp (disch := omega) only [up_rows]
      exact lb h' hh'
    · intro p' hp'
      rw [ex _ (by omega) (by omega) (by omega)]
      simp (disch := omega) only [up_rows]
      exact ll p' hp'
    · intro c hc
      rw [ex _ (by omega) (by omega) (by omega), ex _ (by omega) (by omega) (by omega), ex _ (by omega) (by omega) (by omega)]
      simp (disch := omega) only [up_rows]
      exact lc c hc
    · intro i hi
      simp (disch := omega) only [up_rows]
      exact lg i hi
  have f2 : ∀ x, x ≠ 109 → x ≠ 110 → (x < 121 ∨ 127 < x) → (f_up (f_up (f_up σ1 109 ck w) 110 ck r) 121 0 (nI (ck + 1))) x = σ x := fun x h1 h2 h3 => by
    rw [up_rows (by omega), up_rows h2, up_rows h1, f1 x (by omega) (by omega) (by omega)]
  have f2t : ∀ t, t ≠ ck → (f_up (f_up (f_up σ1 109 ck w) 110 ck r) 121 0 (nI (ck + 1))) 109 t = σ 109 t ∧ (f_up (f_up (f_up σ1 109 ck w) 110 ck r) 121 0 (nI (ck + 1))) 110 t = σ 110 t := fun t ht => by
    rw [up_rows (by omega), up_rows (by omega), up_ix ht, up_rows (by omega), up_ix ht, up_rows (by omega), f1 _ (by omega) (by omega) (by omega), f1 _ (by omega) (by omega) (by omega)]
    exact ⟨rfl, rfl⟩
  have x10 : s_wx (s_day s) w r 10 = s 10 := by
    rw [ex _ (by omega) (by omega) (by omega), s_day_keep kF (by omega) (by omega) (fun h hh => by omega) (fun p hp => by omega)]
  have x95 : ∀ x, x < 3 → s_wx (s_day s) w r (95 + x) = s (95 + x) := fun x hx => by
    rw [ex _ (by omega) (by omega) (by omega), s_day_keep kF (by omega) (by omega) (fun h hh => by omega) (fun p hp => by omega)]
  generalize hs2 : s_wx (s_day s) w r = s2 at K2 B2 l2 x10 x95
  generalize hσ2 : f_up (f_up (f_up σ1 109 ck w) 110 ck r) 121 0 (nI (ck + 1)) = σ2 at B2 l2 f2 f2t
  have hhour : s_hour s w r = s_pall cc 20 (s_asN s2 ac) := by
    unfold s_hour
    rw [c5, c3, nat_n (by omega), nat_n (by omega), hs2]
  unfold g_94
  rw [e1, bnd, e0, f_wr_n (by omega) (by omega), bnd, up_rows (by omega), e0, f_wr_n (by omega) (by omega), bnd, up_rows (by omega), up_rows (by omega), e0, show nI ck + 1 = nI (ck + 1) from n_add ck 1, hσ2, hhour]
  refine ex_pair (lp_ex (fun j (z : Int32 × Int32 × f_M) => ∃ σj gj nj, z = (s_asN s2 j 10 - s 10, nI j, σj) ∧ kAll (s_asN s2 j) D (ck + 1) hc ac pc cc gj q nj ∧ rB σj 108 (s_asN s2 j) (ck + 1) pc cc ∧ rL σj 121 (s_asN s2 j) hc pc cc gj q nj ∧ (∀ x, x ≠ 109 → x ≠ 110 → (x < 121 ∨ 127 < x) → σj x = σ x) ∧ ∀ t, t ≠ ck → σj 109 t = σ 109 t ∧ σj 110 t = σ 110 t)
    (fun z => ∃ σj gj nj, z = (s_asN s2 ac 10 - s 10, σj) ∧ kAll (s_asN s2 ac) D (ck + 1) hc ac pc cc gj q nj ∧ rB σj 108 (s_asN s2 ac) (ck + 1) pc cc ∧ rL σj 121 (s_asN s2 ac) hc pc cc gj q nj ∧ (∀ x, x ≠ 109 → x ≠ 110 → (x < 121 ∨ 127 < x) → σj x = σ x) ∧ ∀ t, t ≠ ck → σj 109 t = σ 109 t ∧ σj 110 t = σ 110 t) ac (f_F_lt (by omega)) ⟨σ2, g, n, ?_, K2, B2, l2, f2, f2t⟩ ?_ ?_ ?_)
  · show (_, _, _) = (s2 10 - s 10, _, _)
    rw [x10, Int32.sub_self]
    rfl
  · rintro j z hj ⟨σj, gj, nj, rfl, Kj, Bj, lj, fj, ftj⟩
    have e103 : σj 103 4 = nI ac := by rw [fj 103 (by omega) (by omega) (by omega), S.1.2]; exact c3
    have est : σj 107 j = s_asN s2 j (95 + j) := by
      rw [fj 107 (by omega) (by omega) (by omega), show σ 107 j = s (95 + j) from S.2.1 j hj, s_asN_keep (by omega) (by omega), x95 j (by omega)]
    obtain ⟨σ', b, g', n', hca, K', l', h10, f'⟩ := C_assess Kj Bj lj hj est
    have hj2 : ¬ nI ac ≤ nI j := by rw [n_le (by omega) (by omega)]; omega
    refine Or.inl ⟨((s_asN s2 j 10 - s 10) + f_b b, nI (j + 1), σ'), ?_, σ', g', n', ?_, by rw [s_asN_succ]; exact K', ?_, by rw [s_asN_succ]; exact l', ?_, ?_⟩
    · dsimp only
      rw [if_neg (by rw [e103]; exact hj2)]
      exact bind_bind (hca _) (by rw [show nI j + 1 = nI (j + 1) from n_add j 1])
    · rw [s_asN_succ, h10, Int32.sub_eq_add_neg, Int32.sub_eq_add_neg, Int32.add_assoc, Int32.add_comm (-(s 10)), ← Int32.add_assoc]
    · rw [s_asN_succ]
      refine rB_congr c4' c5' (fun i hi => f' _ (by omega) (by omega) (by omega) (by omega) (by omega)) (fun k hk => ?_) Bj
      unfold bookK at hk
      have e5 : nat (s_asN s2 j 5) = cc := by rw [Kj.1.2.2.2.2.1, nat_n (by omega)]
      exact s_assess_keep (by omega) (fun c hc => by rw [e5] at hc; omega)
    · intro x h1 h2 h3
      rw [f' x (by omega) (by omega) (by omega) (by omega) (by omega)]
      exact fj x h1 h2 h3
    · intro t ht
      rw [f' 109 (by omega) (by omega) (by omega) (by omega) (by omega), f' 110 (by omega) (by omega) (by omega) (by omega) (by omega)]
      exact ftj t ht
  · rintro z ⟨σj, gj, nj, rfl, Kj, Bj, lj, fj, ftj⟩
    have e103 : σj 103 4 = nI ac := by rw [fj 103 (by omega) (by omega) (by omega), S.1.2]; exact c3
    have hj2 : nI ac ≤ nI ac := Int32.le_refl _
    refine ⟨(s_asN s2 ac 10 - s 10, σj), ?_, σj, gj, nj, rfl, Kj, Bj, lj, fj, ftj⟩
    dsimp only
    rw [if_pos (by rw [e103]; exact hj2)]
  · rintro z ⟨σj, gj, nj, rfl, Kj, Bj, lj, fj, ftj⟩
    obtain ⟨σ', e9, q', K', B', l', f'⟩ := C_pay hD Kj Bj lj
    dsimp only
    rw [e9, bnd]
    refine ⟨_, rfl, ?_, gj, q', nj, K', B', l', fun x h1 h2 h3 => ?_, fun t ht => ?_⟩
    · show s_asN s2 ac 10 - s 10 = _
      rw [s_pall_fix c5' (by omega) (by omega) (fun h hh => ⟨by omega, by omega⟩) (fun c hc => by omega) _ _ Kj.okF.toK]
    · exact (f' x (by omega) (by omega) (by omega)).trans (fj x h1 h2 h3)
    · rw [show (s_asN s2 ac 10 - s 10, σ').2 = σ' from rfl, f' 109 (by omega) (by omega) (by omega), f' 110 (by omega) (by omega) (by omega)]
      exact ftj t ht
