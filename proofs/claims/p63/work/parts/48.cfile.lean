/-! A claim is filed in the class. -/
theorem C_file {σ : f_M} {s : Nat → Int32} {D ck hc ac pc cc q n p : Nat} {g : Nat → Nat} (K : kAll s D ck hc ac pc cc g q n) (B : rB σ 108 s ck pc cc) (l : rL σ 121 s hc pc cc g q n) (e103 : σ 103 4 = s 3) (hp : p < pc) (hcc : cc < 20) :
    ∃ σ', g_109 (nI p) σ = some (nI cc, σ') ∧ rB σ' 108 (s_file s p cc) ck pc (cc + 1) ∧ rL σ' 121 (s_file s p cc) hc pc (cc + 1) g q n ∧ ∀ r i, r ≠ 121 → r ≠ 124 → r ≠ 125 → r ≠ 126 → (i ≠ cc ∨ r ≠ 119 ∧ r ≠ 120) → σ' r i = σ r i := by
  obtain ⟨kc, kp, kk, kg, kd, kr, ku, km, ks, kw⟩ := K
  obtain ⟨⟨c0, c0'⟩, ⟨c2, c2', c2''⟩, ⟨c3, c3', c3''⟩, ⟨c4, c4'⟩, ⟨c5, c5'⟩⟩ := kc
  obtain ⟨⟨t0, t1, t2, t3, t4, t5, t9, tw⟩, e⟩ := file_v s (p := p) (c := cc) (by omega) hcc
  obtain ⟨⟨l0, l1, l3, l5, l10, l11, l12, l13, l14⟩, lb, ll, lc, lg⟩ := id l
  obtain ⟨b1, b2, b3⟩ := B
  have hbest : g_107 σ = some (nI (s_best s (ac - 1))) := C_best c5 (by omega) l5 (fun c hc => (lc c hc).1) (fun c hc => (b3 c hc).2) (e103.trans c3) c3' c3''
  have hn : n ≤ cc := by rw [kg.2.1]; exact cntN_le _ _
  have e5 : σ 121 5 = nI cc := l5.trans c5
  rw [c3, nat_n (by omega)] at t1
  let m := f_up (f_up (f_up (f_up (f_up (f_up σ 124 cc (nI 0)) 125 cc (nI 0)) 126 cc (nI 0)) 121 5 (nI (cc + 1))) 119 cc (nI p)) 120 cc (nI (s_best s (ac - 1)))
  have fm : ∀ r i, (r ≠ 121 ∨ i ≠ 5) → (i ≠ cc ∨ r ≠ 119 ∧ r ≠ 120 ∧ r ≠ 124 ∧ r ≠ 125 ∧ r ≠ 126) → m r i = σ r i := fun r i h1 h2 => by
    simp (disch := omega) only [m, up_at]
  refine ⟨m, ?_, ⟨?_, ?_, ?_⟩, ⟨⟨?_, ?_, ?_, ?_, ?_, ?_, ?_, ?_, ?_⟩, ?_, ?_, ?_, ?_⟩, fun r i h1 h2 h3 h4 h5 => fm r i (Or.inl h1) (by omega)⟩
  · unfold g_109 g_108
    rw [hbest, bnd]
    simp (disch := omega) only [e5, lits, f_wr_n, bnd, up_rows, up_same, n_add, n_sub, Nat.add_sub_cancel, m]
  · intro t ht
    rw [fm (108 + 1) t (by omega) (by omega), fm (108 + 2) t (by omega) (by omega), e _ (by omega) (by omega) (by omega), e _ (by omega) (by omega) (by omega)]
    exact b1 t ht
  · intro r hr
    exact rP_at (fun i hi => e _ (by omega) (by omega) (by omega)) (fun i h1 h2 => fm _ _ (by omega) (by omega)) (b2 r hr)
  · intro c hc
    by_cases h : c = cc
    · subst h
      rw [t0, t1]
      refine ⟨?_, ?_⟩
      · show m 119 c = _
        simp (disch := omega) only [m, up_rows, up_same]
      · show m 120 c = _
        simp (disch := omega) only [m, up_rows, up_same]
    · rw [fm (108 + 11) c (by omega) (by omega), fm (108 + 12) c (by omega) (by omega), e _ (by omega) (by omega) (by omega), e _ (by omega) (by omega) (by omega)]
      exact b3 c (by omega)
  · rw [fm 121 0 (by omega) (by omega), e _ (by omega) (by omega) (by omega)]; exact l0
  · rw [fm 121 1 (by omega) (by omega), e _ (by omega) (by omega) (by omega)]; exact l1
  · rw [fm 121 3 (by omega) (by omega), e _ (by omega) (by omega) (by omega)]; exact l3
  · rw [tw]; simp (disch := omega) only [m, up_rows, up_same]
  · rw [fm 121 10 (by omega) (by omega)]; exact l10
  · rw [fm 121 11 (by omega) (by omega)]; exact l11
  · rw [fm 121 12 (by omega) (by omega), e _ (by omega) (by omega) (by omega)]; exact l12
  · rw [fm 121 13 (by omega) (by omega), e _ (by omega) (by omega) (by omega)]; exact l13
  · rw [fm 121 14 (by omega) (by omega), e _ (by omega) (by omega) (by omega)]; exact l14
  · intro h hh
    rw [fm (121 + 1) h (by omega) (by omega), e _ (by omega) (by omega) (by omega)]; exact lb h hh
  · intro r hr
    rw [fm (121 + 2) r (by omega) (by omega), e _ (by omega) (by omega) (by omega)]; exact ll r hr
  · intro c hc
    by_cases h : c = cc
    · subst h
      rw [t2, t3, t4]
      refine ⟨?_, ?_, ?_⟩
      · show m 124 c = _
        simp (disch := omega) only [m, up_rows, up_same]
      · show m 125 c = _
        simp (disch := omega) only [m, up_rows, up_same]
      · show m 126 c = _
        simp (disch := omega) only [m, up_rows, up_same]
    · rw [fm (121 + 3) c (by omega) (by omega), fm (121 + 4) c (by omega) (by omega), fm (121 + 5) c (by omega) (by omega), e _ (by omega) (by omega) (by omega), e _ (by omega) (by omega) (by omega), e _ (by omega) (by omega) (by omega)]
      exact lc c (by omega)
  · intro i hi
    rw [fm (121 + 6) i (by omega) (by omega)]; exact lg i hi
def twin_b (s : Nat → Int32) (p r : Nat) : Bool := decide (s (100 + 10 * p + 0) = s (100 + 10 * r + 0)) && decide (s (100 + 10 * p + 2) = s (100 + 10 * r + 2)) && decide (s (100 + 10 * p + 1) = s (100 + 10 * r + 1))
theorem twin_b_iff {s : Nat → Int32} {p r : Nat} : twin_b s p r = true ↔ twin s p r := by
  unfold twin_b twin
  simp only [Bool.and_eq_true, decide_eq_true_eq]
  exact ⟨fun ⟨⟨a, b⟩, c⟩ => ⟨a, c, b⟩, fun ⟨a, c, b⟩ => ⟨⟨a, b⟩, c⟩⟩
theorem M_twin {σ : f_M} {p r : Nat} (hp : p < 20) (hr : r < 20) : g_143 (nI p) (nI r) σ = some (twin_b (σ 156) p r) := by
  unfold g_143 twin_b
  simp (disch := omega) only [M_p, bnd, lits, n_add, rdS]
  generalize σ 156 (100 + 10 * p + 0) = x0
  generalize σ 156 (100 + 10 * r + 0) = y0
  generalize σ 156 (100 + 10 * p + 1) = x1
  generalize σ 156 (100 + 10 * r + 1) = y1
  generalize σ 156 (100 + 10 * p + 2) = x2
  generalize σ 156 (100 + 10 * r + 2) = y2
  by_cases h0 : x0 = y0
  · by_cases h1 : x2 = y2
    · by_cases h2 : x1 = y1 <;> simp [h0, h1, h2]
    · simp [h0, h1]
  · simp [h0]
theorem C_twin {σ : f_M} {s : Nat → Int32} {p r : Nat} (hp : p < 20) (hr : r < 20) (rp : rP σ 108 s p) (rr : rP σ 108 s r) : g_103 (nI p) (nI r) σ = some (twin_b s p r) := by
  obtain ⟨k1, a1, a2, -, -⟩ := rp
  obtain ⟨k2, b1, b2, -, -⟩ := rr
  have a1' : σ 112 p = s (100 + 10 * p + 1) := a1
  have a2' : σ 113 p = s (100 + 10 * p + 2) := a2
  have b1' : σ 112 r = s (100 + 10 * r + 1) := b1
  have b2' : σ 113 r = s (100 + 10 * r + 2) := b2
  have hk : σ 111 p = σ 111 r ↔ s (100 + 10 * p + 0) = s (100 + 10 * r + 0) := by
    have h01 : ¬ nI 0 = nI 1 := by rw [n_eq (by omega) (by omega)]; omega
    have h10 : ¬ nI 1 = nI 0 := by rw [n_eq (by omega) (by omega)]; omega
    rcases k1 with ⟨x, y, -⟩ | ⟨x, y, -⟩ <;> rcases k2 with ⟨z, w, -⟩ | ⟨z, w, -⟩ <;> have x' : σ 111 p = _ := x <;> have z' : σ 111 r = _ := z <;> rw [x', z', y, w] <;> simp [h01, h10]
  unfold g_103 twin_b
  simp (disch := omega) only [f_rd_n, bnd, a1', a2', b1', b2', hk]
  clear a1 a2 b1 b2 a1' a2' b1' b2' k1 k2 hk
  generalize s (100 + 10 * p + 0) = x0
  generalize s (100 + 10 * r + 0) = y0
  generalize s (100 + 10 * p + 1) = x1
  generalize s (100 + 10 * r + 1) = y1
  generalize s (100 + 10 * p + 2) = x2
  generalize s (100 + 10 * r + 2) = y2
  by_cases h0 : x0 = y0
  · by_cases h1 : x2 = y2
    · by_cases h2 : x1 = y1 <;> simp [h0, h1, h2]
    · by_cases h2 : x1 = y1 <;> simp [h0, h1, h2]
  · by_cases h2 : x1 = y1 <;> simp [h0, h2]
