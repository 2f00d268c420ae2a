/-! Deposits. -/
def s_dep (s : Nat → Int32) (h : Nat) (v : Int32) : Nat → Int32 := upd (upd s (20 + 9 * h + 7) (s (20 + 9 * h + 7) + v)) 8 (s 8 + v)
theorem M_dep {σ : f_M} {h : Nat} {v : Int32} (hh : h < 8) : g_149 (nI h) v σ = some (σ 156 (20 + 9 * h + 7) + v, f_row σ 156 (s_dep (σ 156) h v)) := by
  unfold g_149 s_dep
  simp (disch := omega) only [M_h, bnd, lits, n_add, rdS, wrS, row_same, row_row, upd_same, upd_ne]
theorem K_dep {s : Nat → Int32} {D ck hc ac pc cc q n h v : Nat} {g : Nat → Nat} (hD : D ≤ 1000000000) (hv : v ≤ 1000) (K : kAll s D ck hc ac pc cc g q n) (hh : h < hc) : kAll (s_dep s h (nI v)) (D + v) ck hc ac pc cc g q n := by
  have h7 := K.s7
  obtain ⟨kc, kp, kk, kg, kd, kr, ku, km, ks, kw⟩ := K
  obtain ⟨⟨c0, c0'⟩, ⟨c2, c2', c2''⟩, ⟨c3, c3', c3''⟩, ⟨c4, c4'⟩, ⟨c5, c5'⟩⟩ := kc
  have e : ∀ k, k ≠ 8 → (∀ h, h < 8 → k ≠ 20 + 9 * h + 7) → s_dep s h (nI v) k = s k := fun k h8 hb => by
    have := hb h (by omega)
    unfold s_dep
    rw [upd_ne h8, upd_ne this]
  have f8 : s_dep s h (nI v) 8 = s 8 + nI v := by unfold s_dep; rw [upd_same]
  have fb : ∀ h', h' < hc → s_dep s h (nI v) (20 + 9 * h' + 7) = if h' = h then s (20 + 9 * h' + 7) + nI v else s (20 + 9 * h' + 7) := fun h' hh' => by
    unfold s_dep
    by_cases he : h' = h
    · subst he; rw [if_pos rfl, upd_ne (by omega), upd_same]
    · rw [if_neg he, upd_ne (by omega), upd_ne (by omega)]
  refine ⟨⟨⟨?_, c0'⟩, ⟨?_, c2', c2''⟩, ⟨?_, c3', c3''⟩, ⟨?_, c4'⟩, ⟨?_, c5'⟩⟩, ?_, ?_, ?_, ?_, ?_, ?_, ?_, ?_, ?_⟩
  · rw [e 0 (by omega) (fun h hh => by omega)]; exact c0
  · rw [e 2 (by omega) (fun h hh => by omega)]; exact c2
  · rw [e 3 (by omega) (fun h hh => by omega)]; exact c3
  · rw [e 4 (by omega) (fun h hh => by omega)]; exact c4
  · rw [e 5 (by omega) (fun h hh => by omega)]; exact c5
  · exact fun p' hp' => kP_congr (fun i hi => e _ (by omega) (fun h hh => by omega)) (kp p' hp')
  · exact fun c hc => kK_congr c3'' (fun i hi => e _ (by omega) (fun h hh => by omega)) (fun x hx => e _ (by omega) (fun h hh => by omega)) (kk c hc)
  · exact kG_congr (fun c hc => e _ (by omega) (fun h hh => by omega)) (fun c hc => e _ (by omega) (fun h hh => by omega)) kg
  · exact kD_congr (e _ (by omega) (fun h hh => by omega)) (fun c hc => e _ (by omega) (fun h hh => by omega)) (fun c hc => e _ (by omega) (fun h hh => by omega)) kd
  · exact kR_congr c4' (fun i hi => kg.2.2.2.1 i (by have := kg.1; omega)) (fun c hc => (kk c hc).1) (fun h hh => e _ (by omega) (fun h hh => by omega)) (e _ (by omega) (fun h hh => by omega)) (fun c hc => e _ (by omega) (fun h hh => by omega)) (fun i hi => e _ (by omega) (fun h hh => by omega)) (fun p hp => e _ (by omega) (fun h hh => by omega)) kr
  · exact kU_congr c4' (fun c hc => (kk c hc).1) (fun c hc => e _ (by omega) (fun h hh => by omega)) (fun p hp i hi => e _ (by omega) (fun h hh => by omega)) ku
  · obtain ⟨h1, d, h2, h3, h4⟩ := km
    refine ⟨?_, d + v, by omega, by rw [f8, h3, n_add], fun h' hh' => ?_⟩
    · rw [sumI_congr fb, sumI_upd (f := fun h => s (20 + 9 * h + 7)) (h := h) hh, e 1 (by omega) (fun h hh => by omega), e 9 (by omega) (fun h hh => by omega), f8, ← Int32.add_assoc, h1, Int32.add_assoc]
    · obtain ⟨m, em, hm⟩ := h4 h' hh'
      rw [fb h' hh', e 7 (by omega) (fun h hh => by omega), em]
      split
      · exact ⟨_, n_add _ _, by omega⟩
      · exact ⟨m, rfl, by omega⟩
  · exact kS_congr c3'' c2'' (fun k h1 h2 h3 => e _ (by omega) (fun h hh => by omega)) ks
  · exact kW_congr (fun k h => e _ (by omega) (fun h hh => by omega)) kw
theorem C_dep {σ : f_M} {s : Nat → Int32} {hc pc cc q n h : Nat} {v : Int32} {g : Nat → Nat} (hhc : hc ≤ 8) (hpc : pc ≤ 20) (hcc : cc ≤ 20) (hh : h < hc) (l : rL σ 121 s hc pc cc g q n) :
    ∃ σ', g_111 (nI h) v σ = some (s (20 + 9 * h + 7) + v, σ') ∧ rL σ' 121 (s_dep s h v) hc pc cc g q n ∧ ∀ b, b ≠ 121 → b ≠ 122 → σ' b = σ b := by
  obtain ⟨⟨l0, l1, l3, l5, l10, l11, l12, l13, l14⟩, lb, ll, lc, lg⟩ := id l
  have e122 : σ 122 h = s (20 + 9 * h + 7) := lb h hh
  have e : ∀ k, k ≠ 8 → (∀ h, h < 8 → k ≠ 20 + 9 * h + 7) → s_dep s h v k = s k := fun k h8 hb => by
    have := hb h (by omega)
    unfold s_dep
    rw [upd_ne h8, upd_ne this]
  refine ⟨f_up (f_up σ 122 h (s (20 + 9 * h + 7) + v)) 121 14 (s 8 + v), ?_, ?_, fun b h1 h2 => by rw [up_rows h1, up_rows h2]⟩
  · unfold g_111
    simp (disch := omega) only [f_rd_n, f_wr_n, bnd, e122, up_rows, l14, up_same]
  · refine ⟨⟨?_, ?_, ?_, ?_, ?_, ?_, ?_, ?_, ?_⟩, ?_, ?_, ?_, ?_⟩
    · rw [e 0 (by omega) (fun h hh => by omega)]; simp (disch := omega) only [up_rows, up_ix, l0]
    · rw [e 1 (by omega) (fun h hh => by omega)]; simp (disch := omega) only [up_rows, up_ix, l1]
    · rw [e 4 (by omega) (fun h hh => by omega)]; simp (disch := omega) only [up_rows, up_ix, l3]
    · rw [e 5 (by omega) (fun h hh => by omega)]; simp (disch := omega) only [up_rows, up_ix, l5]
    · simp (disch := omega) only [up_rows, up_ix, l10]
    · simp (disch := omega) only [up_rows, up_ix, l11]
    · rw [e 6 (by omega) (fun h hh => by omega)]; simp (disch := omega) only [up_rows, up_ix, l12]
    · rw [e 7 (by omega) (fun h hh => by omega)]; simp (disch := omega) only [up_rows, up_ix, l13]
    · unfold s_dep; rw [upd_same, up_same]
    · intro h' hh'
      show (f_up (f_up σ 122 h (s (20 + 9 * h + 7) + v)) 121 14 (s 8 + v)) 122 h' = _
      unfold s_dep
      by_cases he : h' = h
      · subst he; rw [upd_ne (by omega), upd_same, up_rows (by omega), up_same]
      · rw [upd_ne (by omega), upd_ne (by omega), up_rows (by omega), up_ix he]; exact lb h' hh'
    · intro p' hp'
      rw [e _ (by omega) (fun h hh => by omega)]
      simp (disch := omega) only [up_rows]
      exact ll p' hp'
    · intro c hc
      rw [e _ (by omega) (fun h hh => by omega), e _ (by omega) (fun h hh => by omega), e _ (by omega) (fun h hh => by omega)]
      simp (disch := omega) only [up_rows]
      exact lc c hc
    · intro i hi
      simp (disch := omega) only [up_rows]
      exact lg i hi
