/-! The law acts: deposits, claims. -/
theorem Z_dep {σ : f_M} {s : Nat → Int32} {D ck hc ac pc cc q n k o t : Nat} {g : Nat → Nat} {P : Nat → Nat → Int32} (x : Int32) (hD : D ≤ 900000000) (S : sAll σ (dT s) D ck hc ac pc cc g q n) (H : cH σ D hc ac ck pc cc k o P) (R : LR σ s hc ac pc cc g q n) (h4 : hc ≤ 4) (ht : t < 1000) :
    ∃ σ', a_dep (nI t) x σ = some (true, σ') ∧ LI σ' (D + 32) ck := by
  have K : kAll s D ck hc ac pc cc g q n := S.1
  have h1 := K.1.2.1.2.1
  have hpc := K.1.2.2.2.1.2
  have hcc := K.1.2.2.2.2.2
  obtain ⟨⟨⟨a1, a2, a3, a4⟩, a5, b1, b2, b3, b4, a6, a7⟩, r2, -⟩ := id R
  obtain ⟨b, hb, eb⟩ := bits_n x (8 : Int32) (k := 5) (m := 5) (by decide) rfl
  have hh : t % hc < hc := Nat.mod_lt _ (by omega)
  unfold a_dep
  rw [eb, bnd, a1, n_mod (by omega) (by omega)]
  generalize t % hc = h at hh
  have keep : ∀ k, k ≠ 20 + 9 * h + 7 → k ≠ 8 → s_dep s h (nI (1 + b)) k = s k := fun k h1 h2 => by unfold s_dep; rw [upd_ne h2, upd_ne h1]
  have e8 : s_dep s h (nI (1 + b)) 8 = s 8 + nI (1 + b) := by unfold s_dep; rw [upd_same]
  have ebal : s_dep s h (nI (1 + b)) (20 + 9 * h + 7) = s (20 + 9 * h + 7) + nI (1 + b) := by unfold s_dep; rw [upd_ne (by omega), upd_same]
  have eh := (r2 h hh).1
  obtain ⟨σ5, e5, L5, f5⟩ := LC_dep (σ := f_up (f_up σ 156 h (s (20 + 9 * h + 7) + nI (1 + b))) 155 30 (s 8 + nI (1 + b))) (h := h) (v := 1 + b) (by omega) hh (by omega) (by omega) (LC_ext ⟨g, q, n, k, o, P, S, H⟩ (fun r hr => by rw [up_rows (by omega), up_rows (by omega)]))
  rw [f_rd_n (by omega) (by decide), bnd, eh, f_wr_n (by omega) (by decide), bnd, show (1 : Int32) = nI 1 from rfl, n_add 1 b, up_rows (show 155 ≠ 156 by decide), b4, e5, bnd]
  dsimp only
  have ev : σ5 156 h = s (20 + 9 * h + 7) + nI (1 + b) := by rw [f5 156 (by omega), up_rows (by decide), up_same]
  rw [f_rd_n (by omega) (by decide), bnd, ev, if_neg (fun h => h rfl), bnd]
  have R5 : LR σ5 (s_dep s h (nI (1 + b))) hc ac pc cc g q n := by
    refine LR_class (LR_money K.1.2.2.1.2.2 hpc hcc R (fun r hr => by rw [up_rows (by omega), up_rows (by omega)]) (fun i hi => by rw [up_ix (by omega), up_rows (by decide)]) (fun k h1 h6 h7 h8 hk => keep k (by omega) h8) ⟨?_, ?_, ?_, ?_⟩ (fun h' hh' => ⟨?_, ?_⟩)) f5
    · rw [up_ix (by decide), up_rows (by decide), b1, keep _ (by omega) (by omega)]
    · rw [up_ix (by decide), up_rows (by decide), b2, keep _ (by omega) (by omega)]
    · rw [up_ix (by decide), up_rows (by decide), b3, keep _ (by omega) (by omega)]
    · rw [up_same, e8]
    · rw [up_rows (by decide)]
      by_cases e : h' = h
      · subst e; rw [up_same, ebal]
      · rw [up_ix e, keep _ (by omega) (by omega)]; exact (r2 h' hh').1
    · rw [up_rows (by decide), up_rows (by decide), keep _ (by omega) (by omega)]; exact (r2 h' hh').2
  have hG : kG (s_dep s h (nI (1 + b))) cc g q n := kG_congr (fun c hc => keep _ (by omega) (by omega)) (fun c hc => keep _ (by omega) (by omega)) K.2.2.2.1
  exact ⟨σ5, rfl, LI_mono (by omega) (LI_mk L5 hG R5 h4)⟩
/-- a claim on the desk of the least busy -/
theorem LR_file {σ σ' : f_M} {s : Nat → Int32} {D ck hc ac pc cc q n p b : Nat} {g : Nat → Nat} (K : kAll s D ck hc ac pc cc g q n) (R : LR σ s hc ac pc cc g q n) (hp : p < pc) (hcc : cc < 20) (hb : b < ac) (eb : s_best s (nat (s 3) - 1) = b)
    (f : ∀ r, 155 < r → r ≠ 169 → r ≠ 170 → r ≠ 171 → r ≠ 175 + b → r ≠ 178 → σ' r = σ r) (f5 : ∀ i, i ≠ 25 → σ' 155 i = σ 155 i) (v25 : σ' 155 25 = nI (cc + 1))
    (w9 : σ' 169 p = nI 1) (w9' : ∀ i, i ≠ p → σ' 169 i = σ 169 i) (w0 : σ' 170 cc = nI p) (w0' : ∀ i, i ≠ cc → σ' 170 i = σ 170 i) (w1 : σ' 171 cc = nI b) (w1' : ∀ i, i ≠ cc → σ' 171 i = σ 171 i)
    (wd : σ' (175 + b) (s_rk s b cc) = nI cc) (wd' : ∀ i, i ≠ s_rk s b cc → σ' (175 + b) i = σ (175 + b) i) (w8 : σ' 178 b = nI (s_rk s b cc + 1)) (w8' : ∀ i, i ≠ b → σ' 178 i = σ 178 i) : LR σ' (s_file s p cc) hc ac pc (cc + 1) g q n := by
  have hac := K.1.2.2.1.2.2
  have hpc := K.1.2.2.2.1.2
  have h8 := K.1.2.1.2.2
  obtain ⟨⟨⟨a1, a2, a3, a4⟩, a5, b1, b2, b3, b4, a6, a7⟩, r2, r3, r4, r5, r6, r7, r8, r9⟩ := R
  obtain ⟨⟨t0, t1, t2, t3, t4, t5, t9, tw⟩, e⟩ := file_v s (p := p) (c := cc) (by omega) hcc
  rw [eb] at t1
  generalize s_file s p cc = s1 at *
  have eu : ∀ c y, c < cc → s_und s1 c y = s_und s c y := fun c y hc => by
    unfold s_und; rw [e _ (by omega) (by omega) (by omega), e _ (by omega) (by omega) (by omega)]
  have er : ∀ y m, m ≤ cc → s_rk s1 y m = s_rk s y m := fun y m hm => cntN_congr fun c hc => eu c _ (by omega)
  have en : ∀ y, s_und s1 cc (nI y) = decide (nI b = nI y) := fun y => by
    unfold s_und; rw [t3, t1, decide_eq_true rfl]; rfl
  refine ⟨⟨⟨?_, ?_, ?_, v25⟩, ?_, ?_, ?_, ?_, ?_, ?_, ?_⟩, fun h hh => ?_, fun x hx => ?_, fun p' hp' => ⟨?_, ?_⟩, fun p' h1 h2 => ?_, fun c hc => ?_, fun c h1 h2 => ?_, fun y hy => ?_, fun i hi => ?_⟩
  iterate 3 (rw [f5 _ (by omega)]; assumption)
  iterate 7 (rw [f5 _ (by omega)]; first | assumption | (rw [e _ (by omega) (by omega) (by omega)]; assumption))
  · rw [f 156 (by omega) (by omega) (by omega) (by omega) (by omega) (by omega), f 157 (by omega) (by omega) (by omega) (by omega) (by omega) (by omega), e _ (by omega) (by omega) (by omega), e _ (by omega) (by omega) (by omega)]; exact r2 h hh
  · rw [f 158 (by omega) (by omega) (by omega) (by omega) (by omega) (by omega), e _ (by omega) (by omega) (by omega)]; exact r3 x hx
  · by_cases hpp : p' = p
    · subst hpp
      obtain ⟨⟨c0, c1, c2, c3, c4⟩, c5, c6, c7, c8, c9⟩ := (r4 p' hp').1
      refine ⟨⟨?_, ?_, ?_, ?_, ?_⟩, ?_, ?_, ?_, ?_, ?_⟩
      iterate 6 (rw [f _ (by omega) (by omega) (by omega) (by omega) (by omega) (by omega), e _ (by omega) (by omega) (by omega)]; assumption)
      · rw [f _ (by omega) (by omega) (by omega) (by omega) (by omega) (by omega), e _ (by omega) (by omega) (by omega), e _ (by omega) (by omega) (by omega)]; exact c6
      iterate 2 (rw [f _ (by omega) (by omega) (by omega) (by omega) (by omega) (by omega), e _ (by omega) (by omega) (by omega)]; assumption)
      · rw [w9, t9]
    · exact lP_congr (fun r h1 h2 h3 => by
        by_cases h : r = 169
        · subst h; exact w9' p' hpp
        · rw [f r (by omega) h (by omega) (by omega) (by omega) (by omega)]) (fun i hi => e _ (by omega) (by omega) (by omega)) (r4 p' hp').1
  · rw [f 167 (by omega) (by omega) (by omega) (by omega) (by omega) (by omega), s_hit_congr (e _ (by omega) (by omega) (by omega)) (fun i hi => e _ (by omega) (by omega) (by omega)) (fun t ht => e _ (by omega) (by omega) (by omega))]; exact (r4 p' hp').2
  · rw [f 167 (by omega) (by omega) (by omega) (by omega) (by omega) (by omega), f 168 (by omega) (by omega) (by omega) (by omega) (by omega) (by omega), w9' p' (by omega)]; exact r5 p' h1 h2
  · unfold lC
    rw [f 172 (by omega) (by omega) (by omega) (by omega) (by omega) (by omega), f 173 (by omega) (by omega) (by omega) (by omega) (by omega) (by omega)]
    by_cases hcc' : c = cc
    · subst hcc'
      rw [w0, w1, t0, t1, t3, t4]
      exact ⟨rfl, rfl, (r7 c (by omega) hcc).1, (r7 c (by omega) hcc).2⟩
    · rw [w0' c hcc', w1' c hcc', e _ (by omega) (by omega) (by omega), e _ (by omega) (by omega) (by omega), e _ (by omega) (by omega) (by omega), e _ (by omega) (by omega) (by omega)]
      exact r6 c (by omega)
  · rw [f 172 (by omega) (by omega) (by omega) (by omega) (by omega) (by omega), f 173 (by omega) (by omega) (by omega) (by omega) (by omega) (by omega)]; exact r7 c (by omega) h2
  · obtain ⟨d1, d2, d3⟩ := r8 y hy
    unfold lD
    rw [f 179 (by omega) (by omega) (by omega) (by omega) (by omega) (by omega)]
    have e9 : s_rk s1 y (cc + 1) = s_rk s y cc + if decide (nI b = nI y) = true then 1 else 0 := by
      rw [← en y, ← er y cc (Nat.le_refl _)]; rfl
    by_cases hyb : y = b
    · subst hyb
      rw [decide_eq_true rfl, if_pos rfl] at e9
      rw [e9, w8]
      refine ⟨rfl, fun c hc hu => ?_, fun h => by omega⟩
      by_cases hcc' : c = cc
      · subst hcc'
        rw [er y c (Nat.le_refl _), wd, t2]
        refine ⟨rfl, ?_⟩
        by_cases h0 : s_rk s y c = 0
        · rw [if_pos h0, d3 h0]
        · rw [if_neg h0]
      · rw [eu c _ (by omega)] at hu
        have hlt : s_rk s y c < s_rk s y cc := cntN_lt (by omega) hu
        rw [er y c (by omega), wd' _ (by omega), e _ (by omega) (by omega) (by omega)]
        exact d2 c (by omega) hu
    · have hne : ¬ nI b = nI y := by rw [n_eq (by omega) (by omega)]; omega
      rw [decide_eq_false hne, if_neg (by decide), Nat.add_zero] at e9
      rw [e9, w8' y hyb, f (175 + y) (by omega) (by omega) (by omega) (by omega) (by omega) (by omega)]
      refine ⟨d1, fun c hc hu => ?_, d3⟩
      by_cases hcc' : c = cc
      · subst hcc'
        rw [en, decide_eq_false hne] at hu
        exact absurd hu (by decide)
      · rw [eu c _ (by omega)] at hu
        rw [er y c (by omega), e _ (by omega) (by omega) (by omega)]
        exact d2 c (by omega) hu
  · rw [f 180 (by omega) (by omega) (by omega) (by omega) (by omega) (by omega)]; exact r9 i hi
theorem Z_files {σ : f_M} {s : Nat → Int32} {D ck hc ac pc cc q n p : Nat} {g : Nat → Nat} (K : kAll s D ck hc ac pc cc g q n) (R : LR σ s hc ac pc cc g q n) (hp : p < pc) (hcc : cc < 20) : ∃ σ', l_files (nI p) σ = some (nI cc, σ') ∧ LR σ' (s_file s p cc) hc ac pc (cc + 1) g q n ∧ ∀ r, r < 155 → σ' r = σ r := by
  obtain ⟨ea, ha1, hac⟩ := K.1.2.2.1
  have hpc := K.1.2.2.2.1.2
  have c5 := K.1.2.2.2.2.1
  obtain ⟨⟨⟨a1, a2, a3, a4⟩, -⟩, r2, r3, r4, r5, r6, r7, r8, r9⟩ := id R
  have ebz : ∀ x, s_busy s x = s_rk s x cc := fun x => by unfold s_busy; rw [c5, nat_n (by omega)]; rfl
  have hl : f_lp (fun z => b_bst z.1 z.2 σ) f_F ((0 : Int32), (1 : Int32)) = some (nI (s_best s (ac - 1))) := by
    refine lp_go (fun j => (nI (s_best s j), nI (j + 1))) (ac - 1) rfl (f_F_lt (by omega)) ?_ ?_
    · intro j hj
      have hb := s_best_le s j
      have h1 : s_busy s (s_best s j) ≤ 20 := s_busy_le s _ c5 (by omega)
      have h2 : s_busy s (j + 1) ≤ 20 := s_busy_le s _ c5 (by omega)
      have e1 : σ 178 (j + 1) = nI (s_busy s (j + 1)) := by rw [ebz]; exact (r8 (j + 1) (by omega)).1
      have e2 : σ 178 (s_best s j) = nI (s_busy s (s_best s j)) := by rw [ebz]; exact (r8 _ (by omega)).1
      show b_bst (nI (s_best s j)) (nI (j + 1)) σ = _
      unfold b_bst
      rw [a2, if_neg (by rw [n_le (by omega) (by omega)]; omega), f_rd_n (by omega) (by decide), bnd, f_rd_n (by omega) (by decide), bnd, e1, e2, s_best_succ, show (1 : Int32) = nI 1 from rfl, n_add]
      by_cases h9 : s_busy s (s_best s j) ≤ s_busy s (j + 1)
      · rw [if_pos ((n_le (by omega) (by omega)).mpr h9), bnd, if_pos h9]
      · rw [if_neg (by rw [n_le (by omega) (by omega)]; exact h9), bnd, if_neg h9]
    · show b_bst (nI (s_best s (ac - 1))) (nI (ac - 1 + 1)) σ = _
      unfold b_bst
      rw [a2, if_pos (by rw [n_le (by omega) (by omega)]; omega)]
  have hb := s_best_le s (ac - 1)
  have eb : s_best s (nat (s 3) - 1) = s_best s (ac - 1) := by rw [ea, nat_n (by omega)]
  generalize s_best s (ac - 1) = b at hl hb eb
  have hN : s_rk s b cc ≤ cc := cntN_le _ _
  have e8 : σ 178 b = nI (s_rk s b cc) := (r8 b (by omega)).1
  refine ⟨f_up (f_up (f_up (f_up (f_up (f_up σ 169 p (nI 1)) 170 cc (nI p)) 171 cc (nI b)) (175 + b) (s_rk s b cc) (nI cc)) 178 b (nI (s_rk s b cc + 1))) 155 25 (nI (cc + 1)), ?_, ?_, fun r hr => ?_⟩
  · rw [l_files_eq, hl, bnd, show (1 : Int32) = nI 1 from rfl, f_wr_n (by omega) (by decide), bnd, up_rows (show 155 ≠ 169 by decide), a4, f_wr_n (by omega) (by decide), bnd, up_rows (show 155 ≠ 170 by decide), up_rows (show 155 ≠ 169 by decide), a4, f_wr_n (by omega) (by decide), bnd, f_ix_n (by omega) (by decide), bnd, f_rd_n (by omega) (by decide), bnd, up_rows (show 178 ≠ 171 by decide), up_rows (show 178 ≠ 170 by decide), up_rows (show 178 ≠ 169 by decide), e8, up_rows (show 155 ≠ 171 by decide), up_rows (show 155 ≠ 170 by decide), up_rows (show 155 ≠ 169 by decide), a4, f_wr_n (by omega) (by decide), bnd, f_rd_n (by omega) (by decide), bnd, up_rows (show 178 ≠ 175 + b by omega), up_rows (show 178 ≠ 171 by decide), up_rows (show 178 ≠ 170 by decide), up_rows (show 178 ≠ 169 by decide), e8, n_add (s_rk s b cc) 1, f_wr_n (by omega) (by decide), bnd, up_rows (show 155 ≠ 178 by decide), up_rows (show 155 ≠ 175 + b by omega), up_rows (show 155 ≠ 171 by decide), up_rows (show 155 ≠ 170 by decide), up_rows (show 155 ≠ 169 by decide), a4, n_add cc 1, up_same, n_sub (by omega), Nat.add_sub_cancel]
  · refine LR_file K R hp hcc (b := b) (by omega) eb (fun r h0 h1 h2 h3 h4 h5 => ?_) (fun i hi => ?_) ?_ ?_ (fun i hi => ?_) ?_ (fun i hi => ?_) ?_ (fun i hi => ?_) ?_ (fun i hi => ?_) ?_ (fun i hi => ?_)
    · rw [up_rows (by omega), up_rows h5, up_rows h4, up_rows h3, up_rows h2, up_rows h1]
    · rw [up_ix hi, up_rows (by omega), up_rows (by omega), up_rows (by omega), up_rows (by omega), up_rows (by omega)]
    · rw [up_same]
    · rw [up_rows (by omega), up_rows (by omega), up_rows (by omega), up_rows (by omega), up_rows (by omega), up_same]
    · rw [up_rows (by omega), up_rows (by omega), up_rows (by omega), up_rows (by omega), up_rows (by omega), up_ix hi]
    · rw [up_rows (by omega), up_rows (by omega), up_rows (by omega), up_rows (by omega), up_same]
    · rw [up_rows (by omega), up_rows (by omega), up_rows (by omega), up_rows (by omega), up_ix hi, up_rows (by omega)]
    · rw [up_rows (by omega), up_rows (by omega), up_rows (by omega), up_same]
    · rw [up_rows (by omega), up_rows (by omega), up_rows (by omega), up_ix hi, up_rows (by omega), up_rows (by omega)]
    · rw [up_rows (by omega), up_rows (by omega), up_same]
    · rw [up_rows (by omega), up_rows (by omega), up_ix hi, up_rows (by omega), up_rows (by omega), up_rows (by omega)]
    · rw [up_rows (by omega), up_same]
    · rw [up_rows (by omega), up_ix hi, up_rows (by omega), up_rows (by omega), up_rows (by omega), up_rows (by omega)]
  · rw [up_rows (by omega), up_rows (by omega), up_rows (by omega), up_rows (by omega), up_rows (by omega), up_rows (by omega)]
theorem Z_clm {σ : f_M} {s : Nat → Int32} {D ck hc ac pc cc q n k o : Nat} {g : Nat → Nat} {P : Nat → Nat → Int32} (x : Int32) (S : sAll σ (dT s) D ck hc ac pc cc g q n) (H : cH σ D hc ac ck pc cc k o P) (R : LR σ s hc ac pc cc g q n) (h4 : hc ≤ 4) :
    ∃ σ', a_clm x σ = some (true, σ') ∧ LI σ' D ck := by
  have K : kAll s D ck hc ac pc cc g q n := S.1
  have hpc := K.1.2.2.2.1.2
  obtain ⟨⟨⟨a1, a2, a3, a4⟩, a5, -⟩, r2, r3, r4, -⟩ := id R
  have L : LC σ s D ck hc ac pc cc := ⟨g, q, n, k, o, P, S, H⟩
  have I : LI σ D ck := LI_mk L K.2.2.2.1 R h4
  have z0 : (0 : Int32) = nI 0 := rfl
  unfold a_clm
  rw [a3, z0]
  by_cases h0 : pc = 0
  · have e3 : g_194 σ = some (nI 0) := by
      have : σ 121 3 = nI pc := S.2.2.1.1.2.2.1.trans K.1.2.2.2.1.1
      rw [h0] at this
      exact congrArg some this
    rw [if_neg (by rw [h0]; exact fun h => h rfl), e3, bnd, if_neg (fun h => h rfl), bnd]
    exact ⟨σ, rfl, I⟩
  · obtain ⟨b, hb, eb⟩ := bits_n x (8 : Int32) (k := 5) (m := 5) (by decide) rfl
    have hp : b % pc < pc := Nat.mod_lt _ (by omega)
    have hz : ¬ nI pc = nI 0 := by rw [n_eq (by omega) (by omega)]; exact h0
    rw [if_pos hz, eb, bnd, if_neg hz, n_mod (by omega) (by omega)]
    generalize b % pc = p at hp
    have hcd : s_code s cc p ≤ 5 := by
      unfold s_code
      repeat' split
      all_goals omega
    rw [LC_code hp L, bnd, L_obs K hp a3 a5 (fun p hp => (r4 p hp).1), bnd, if_pos rfl, bnd]
    by_cases hc0 : s_code s cc p = 0
    · obtain ⟨hlt, -⟩ := LC_claim hp hc0 L
      obtain ⟨σ6, e6, R6, f6⟩ := Z_files K R hp (by omega)
      obtain ⟨-, σ5, e5, L5, f5⟩ := LC_claim hp hc0 (LC_ext L f6)
      have hG : kG (s_file s p cc) (cc + 1) g q n := (K_filed K hp (by omega) hc0).2.2.2.1
      rw [hc0, if_pos (by decide), e6, bnd, e5]
      unfold f_nt
      rw [bnd, Sum.elim_inl, bnd, if_neg (fun h => h rfl), bnd]
      exact ⟨σ5, rfl, LI_mk L5 hG (LR_class R6 f5) h4⟩
    · rw [if_neg (by rw [n_le (by omega) (by omega)]; omega)]
      unfold l_isRefused
      rw [if_neg (fun h => h rfl), LC_claimN hp hc0 L, bnd]
      exact ⟨σ, rfl, I⟩
