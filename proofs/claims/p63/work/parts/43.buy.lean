/-! Purchases. -/
def zN (s : Nat → Int32) (a n : Nat) : Nat → Int32 := fun i => if a ≤ i ∧ i < a + n then nI 0 else s i
theorem zN_succ (s : Nat → Int32) (a n : Nat) : upd (zN s a n) (a + n) (nI 0) = zN s a (n + 1) := by
  funext i
  unfold upd zN
  by_cases h : i = a + n
  · rw [if_pos h, if_pos (by omega)]
  · rw [if_neg h]
    by_cases h2 : a ≤ i ∧ i < a + n
    · rw [if_pos h2, if_pos (by omega)]
    · rw [if_neg h2, if_neg (by omega)]
theorem zN_out {s : Nat → Int32} {a n i : Nat} (h : i < a ∨ a + n ≤ i) : zN s a n i = s i := if_neg (by omega)
theorem zN_in {s : Nat → Int32} {a n i : Nat} (h : a ≤ i ∧ i < a + n) : zN s a n i = nI 0 := if_pos h
/-- a policy's five first numbers -/
def s_five (s : Nat → Int32) (p : Nat) (k h f d v : Int32) : Nat → Int32 := upd (upd (upd (upd (upd (zN s (100 + 10 * p) 10) (100 + 10 * p + 0) k) (100 + 10 * p + 1) h) (100 + 10 * p + 2) f) (100 + 10 * p + 3) d) (100 + 10 * p + 4) v
theorem M_five {σ : f_M} {pc : Nat} {k h f d v : Int32} (h4 : σ 156 4 = nI pc) (hpc : pc < 20) : g_153 k h f d v σ = some (f_row σ 156 (s_five (σ 156) pc k h f d v)) := by
  unfold g_153 s_five
  rw [show (4 : Int32) = nI 4 from rfl, rdS (by omega), bnd, h4, M_p, bnd]
  rw [lp_go (fun j => (nI j, f_row σ 156 (zN (σ 156) (100 + 10 * pc) j))) 10 (r := f_row σ 156 (zN (σ 156) (100 + 10 * pc) 10)) ?_ (f_F_lt (by omega)) ?_ ?_]
  · simp (disch := omega) only [bnd, lits, n_add, wrS, row_same, row_row]
  · have e : zN (σ 156) (100 + 10 * pc) 0 = σ 156 := by
      funext i; exact zN_out (by omega)
    rw [e, row_self]; rfl
  · intro j hj
    have hz := zN_succ (σ 156) (100 + 10 * pc) j
    simp (disch := omega) only [lits, n_le, n_add, wrS, bnd, row_same, row_row, hz]
    rw [if_neg (by omega)]
  · simp (disch := omega) only [lits, n_le]
    rw [if_pos (by omega)]
def s_kite (s : Nat → Int32) (p : Nat) (h f d v a b : Int32) : Nat → Int32 := upd (upd (upd (s_five s p (nI 0) h f d v) (100 + 10 * p + 5) a) (100 + 10 * p + 6) b) (100 + 10 * p + 7) (v * d / nI 40 + nI 1)
def s_picn (s : Nat → Int32) (p : Nat) (h f d v a : Int32) : Nat → Int32 := upd (upd (s_five s p (nI 1) h f d v) (100 + 10 * p + 5) a) (100 + 10 * p + 7) (v * d / (nI 20 + nI 2 * a) + nI 1)
theorem five_out {s : Nat → Int32} {p i : Nat} {k h f d v : Int32} (hi : i < 100 + 10 * p ∨ 100 + 10 * p + 10 ≤ i) : s_five s p k h f d v i = s i := by
  unfold s_five
  rw [upd_ne (by omega), upd_ne (by omega), upd_ne (by omega), upd_ne (by omega), upd_ne (by omega), zN_out (by omega)]
theorem M_kite {σ : f_M} {pc : Nat} {h f d v a b : Int32} (h4 : σ 156 4 = nI pc) (hpc : pc < 20) : g_154 h f d v a b σ = some (f_row σ 156 (s_kite (σ 156) pc h f d v a b)) := by
  have e4 : s_five (σ 156) pc (nI 0) h f d v 4 = nI pc := by rw [five_out (by omega)]; exact h4
  unfold g_154 s_kite
  rw [show (0 : Int32) = nI 0 from rfl, M_five h4 hpc, bnd, show (4 : Int32) = nI 4 from rfl, rdS (by omega), row_same, bnd, e4, M_p, bnd]
  simp (disch := omega) only [bnd, lits, n_add, wrS, row_same, row_row, g_150]
theorem M_picn {σ : f_M} {pc l : Nat} {h f d v : Int32} (h4 : σ 156 4 = nI pc) (hpc : pc < 20) (hl : l < 51) : g_155 h f d v (nI l) σ = some (f_row σ 156 (s_picn (σ 156) pc h f d v (nI l))) := by
  have e4 : s_five (σ 156) pc (nI 1) h f d v 4 = nI pc := by rw [five_out (by omega)]; exact h4
  unfold g_155 s_picn
  rw [show (1 : Int32) = nI 1 from rfl, M_five h4 hpc, bnd, show (4 : Int32) = nI 4 from rfl, rdS (by omega), row_same, bnd, e4, M_p, bnd]
  simp (disch := omega) only [bnd, lits, n_add, n_mul, wrS, row_same, row_row, g_151, n_eq]
  rw [if_neg (by omega)]
  simp (disch := omega) only [bnd, wrS, row_same, row_row]
/-- counted and paid -/
def s_buy (s : Nat → Int32) (p : Nat) : Nat → Int32 := s_pay (upd s 4 (nI (p + 1))) p
theorem M_buy {σ : f_M} {pc : Nat} (h4 : σ 156 4 = nI pc) (hpc : pc < 20) (hh : isN (σ 156 (100 + 10 * pc + 1)) 8) : g_156 σ = some (nI pc, f_row σ 156 (s_buy (σ 156) pc)) := by
  unfold g_156 s_buy
  have hp := M_pay (σ := f_row σ 156 (upd (σ 156) 4 (nI (pc + 1)))) (p := pc) hpc (by rw [row_same, upd_ne (by omega)]; exact hh)
  rw [row_same, row_row] at hp
  simp (disch := omega) only [lits, rdS, bnd, h4, n_add, wrS, hp]
theorem kK_mono {s : Nat → Int32} {ac pc c : Nat} (h : kK s ac pc c) : kK s ac (pc + 1) c := ⟨h.1.mono (by omega), h.2⟩
/-- a policy that is described and counted -/
theorem K_new {s s1 : Nat → Int32} {D ck hc ac pc cc q n : Nat} {g : Nat → Nat} (K : kAll s D ck hc ac pc cc g q n) (hpc : pc < 20) (e : ∀ i, i ≠ 4 → (i < 100 + 10 * pc ∨ 100 + 10 * pc + 10 ≤ i) → s1 i = s i) (e4 : s1 4 = nI (pc + 1)) (hP : kP s1 hc pc) (h9 : s1 (100 + 10 * pc + 9) = nI 0) : kAll s1 D ck hc ac (pc + 1) cc g q n := by
  obtain ⟨kc, kp, kk, kg, kd, kr, ku, km, ks, kw⟩ := K
  obtain ⟨⟨c0, c0'⟩, ⟨c2, c2', c2''⟩, ⟨c3, c3', c3''⟩, ⟨c4, c4'⟩, ⟨c5, c5'⟩⟩ := kc
  refine ⟨⟨⟨?_, c0'⟩, ⟨?_, c2', c2''⟩, ⟨?_, c3', c3''⟩, ⟨e4, by omega⟩, ⟨?_, c5'⟩⟩, ?_, ?_, ?_, ?_, ?_, ?_, ?_, ?_, ?_⟩
  · rw [e 0 (by omega) (by omega)]; exact c0
  · rw [e 2 (by omega) (by omega)]; exact c2
  · rw [e 3 (by omega) (by omega)]; exact c3
  · rw [e 5 (by omega) (by omega)]; exact c5
  · intro p' hp'
    by_cases h : p' = pc
    · subst h; exact hP
    · exact kP_congr (fun i hi => e _ (by omega) (by omega)) (kp p' (by omega))
  · exact fun c hc => kK_mono (kK_congr c3'' (fun i hi => e _ (by omega) (by omega)) (fun x hx => e _ (by omega) (by omega)) (kk c hc))
  · exact kG_congr (fun c hc => e _ (by omega) (by omega)) (fun c hc => e _ (by omega) (by omega)) kg
  · exact kD_congr (e _ (by omega) (by omega)) (fun c hc => e _ (by omega) (by omega)) (fun c hc => e _ (by omega) (by omega)) kd
  · exact kR_congr c4' (fun i hi => kg.2.2.2.1 i (by have := kg.1; omega)) (fun c hc => (kk c hc).1) (fun h hh => e _ (by omega) (by omega)) (e _ (by omega) (by omega)) (fun c hc => e _ (by omega) (by omega)) (fun i hi => by have := kg.2.2.2.1 i (by have := kg.1; omega); exact e _ (by omega) (by omega)) (fun p hp => e _ (by omega) (by omega)) kr
  · have ku' := kU_congr (s' := s1) c4' (fun c hc => (kk c hc).1) (fun c hc => e _ (by omega) (by omega)) (fun p hp i hi => e _ (by omega) (by omega)) ku
    refine ⟨ku'.1, fun p hp => ?_⟩
    by_cases h : p = pc
    · subst h
      rw [h9]
      constructor
      · intro h0; rw [n_eq (by omega) (by omega)] at h0; omega
      · rintro ⟨c, hc, ec⟩
        rw [e _ (by omega) (by omega)] at ec
        obtain ⟨m, hm, em⟩ := (kk c hc).1
        rw [em, n_eq (by omega) (by omega)] at ec
        omega
    · exact ku'.2 p (by omega)
  · exact kM_congr (e _ (by omega) (by omega)) (e _ (by omega) (by omega)) (e _ (by omega) (by omega)) (e _ (by omega) (by omega)) (fun h hh => e _ (by omega) (by omega)) km
  · exact kS_congr c3'' c2'' (fun k h1 h2 h3 => e _ (by omega) (by omega)) ks
  · exact kW_congr (fun k h => e _ (by omega) (by omega)) kw
