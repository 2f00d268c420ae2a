/-! The law passes an hour: the desks. -/
theorem cntN_up (p : Nat → Bool) {a b : Nat} (h : a ≤ b) : cntN p a ≤ cntN p b := by
  induction b with
  | zero => rw [show a = 0 by omega]; exact Nat.le_refl _
  | succ b ih =>
    by_cases e : a = b + 1
    · rw [e]; exact Nat.le_refl _
    · rw [cntN_succ]; have := ih (by omega); omega
theorem cntN_lt {p : Nat → Bool} {c n : Nat} (hc : c < n) (h : p c = true) : cntN p c < cntN p n := by
  have h1 := cntN_up p (show c + 1 ≤ n from hc)
  rw [cntN_succ, h, if_pos rfl] at h1
  omega
theorem rk_zero {s : Nat → Int32} {cc x : Nat} (s5 : s 5 = nI cc) (hcc : cc ≤ 20) (h : s_rk s x cc = 0) : ¬ s_fst s (nI x) < cc := fun h1 => by
  unfold s_fst at h1
  rw [s5, nat_n (by omega)] at h1
  have h2 := fstN_lt h1
  rw [(cntN_zero.mp h) _ h1] at h2
  exact absurd h2 (by decide)
theorem rk_first {s : Nat → Int32} {cc x : Nat} (s5 : s 5 = nI cc) (hcc : cc ≤ 20) (h : ¬ s_rk s x cc = 0) : s_fst s (nI x) < cc ∧ s_und s (s_fst s (nI x)) (nI x) = true ∧ s_rk s x (s_fst s (nI x)) = 0 ∧ ∀ c, c < cc → s_und s c (nI x) = true → c ≠ s_fst s (nI x) → s_fst s (nI x) < c := by
  unfold s_fst
  rw [s5, nat_n (by omega)]
  have h1 : fstN (fun c => s_und s c (nI x)) cc < cc := Classical.byContradiction fun hn => h (cntN_zero.mpr fun i hi => fstN_min (p := fun c => s_und s c (nI x)) (n := cc) (by omega))
  refine ⟨h1, fstN_lt h1, cntN_zero.mpr fun i hi => fstN_min (p := fun c => s_und s c (nI x)) hi, fun c hc hu hne => ?_⟩
  by_cases h2 : c < fstN (fun c => s_und s c (nI x)) cc
  · have h3 := fstN_min (p := fun c => s_und s c (nI x)) h2
    rw [hu] at h3; exact absurd h3 (by decide)
  · omega
theorem und_iff {s : Nat → Int32} {c : Nat} {x : Int32} : s_und s c x = true ↔ s (300 + 6 * c + 3) = nI 0 ∧ s (300 + 6 * c + 1) = x := by
  unfold s_und
  rw [Bool.and_eq_true, decide_eq_true_eq, decide_eq_true_eq]
theorem L_shf {σ : f_M} {x N : Nat} (hx : x < 3) (hN : N < 20) (h8 : σ 178 x = nI N) : ∃ σ', f_lp (fun z => b_shf (nI x) z.1 z.2) f_F ((0 : Int32), σ) = some σ' ∧ (∀ i, i < N → σ' (175 + x) i = σ (175 + x) (i + 1)) ∧ ∀ r, r ≠ 175 + x → σ' r = σ r := by
  have step : ∀ j, upd (fun i => if i < j then σ (175 + x) (i + 1) else σ (175 + x) i) j (σ (175 + x) (j + 1)) = fun i => if i < j + 1 then σ (175 + x) (i + 1) else σ (175 + x) i := fun j => by
    funext i
    unfold upd
    by_cases h : i = j
    · subst h; rw [if_pos rfl, if_pos (by omega)]
    · rw [if_neg h]
      dsimp only
      by_cases h' : i < j
      · rw [if_pos h', if_pos (by omega)]
      · rw [if_neg h', if_neg (by omega)]
  refine ⟨f_row σ (175 + x) (fun i => if i < N then σ (175 + x) (i + 1) else σ (175 + x) i), ?_, fun i hi => by rw [row_same, if_pos hi], fun r hr => row_ne hr⟩
  refine lp_go (fun j => (nI j, f_row σ (175 + x) (fun i => if i < j then σ (175 + x) (i + 1) else σ (175 + x) i))) N ?_ (f_F_lt (by omega)) ?_ ?_
  · have e : (fun i => if i < 0 then σ (175 + x) (i + 1) else σ (175 + x) i) = σ (175 + x) := by funext i; exact if_neg (by omega)
    rw [e, row_self]; rfl
  · intro j hj
    show b_shf (nI x) (nI j) (f_row σ (175 + x) (fun i => if i < j then σ (175 + x) (i + 1) else σ (175 + x) i)) = _
    unfold b_shf
    rw [f_rd_n hx (by decide), bnd, row_ne (show 178 ≠ 175 + x by omega), h8, if_neg (by rw [n_le (by omega) (by omega)]; omega), f_ix_n hx (by decide), bnd, bnd, show (1 : Int32) = nI 1 from rfl, n_add, f_rd_n (by omega) (by decide), bnd, row_same, f_wr_n (by omega) (by decide), bnd, up_of_row, if_neg (by omega), step]
  · show b_shf (nI x) (nI N) (f_row σ (175 + x) (fun i => if i < N then σ (175 + x) (i + 1) else σ (175 + x) i)) = _
    unfold b_shf
    rw [f_rd_n hx (by decide), bnd, row_ne (show 178 ≠ 175 + x by omega), h8, if_pos (by rw [n_le (by omega) (by omega)]; omega)]
theorem L_pop {σ : f_M} {N : Nat} (hN : N < 20) (h8 : σ 155 31 = nI N) : ∃ σ', f_lp (fun z => b_pop z.1 z.2) f_F ((0 : Int32), σ) = some σ' ∧ (∀ i, i < N → σ' 180 i = σ 180 (i + 1)) ∧ ∀ r, r ≠ 180 → σ' r = σ r := by
  have step : ∀ j, upd (fun i => if i < j then σ 180 (i + 1) else σ 180 i) j (σ 180 (j + 1)) = fun i => if i < j + 1 then σ 180 (i + 1) else σ 180 i := fun j => by
    funext i
    unfold upd
    by_cases h : i = j
    · subst h; rw [if_pos rfl, if_pos (by omega)]
    · rw [if_neg h]
      dsimp only
      by_cases h' : i < j
      · rw [if_pos h', if_pos (by omega)]
      · rw [if_neg h', if_neg (by omega)]
  refine ⟨f_row σ 180 (fun i => if i < N then σ 180 (i + 1) else σ 180 i), ?_, fun i hi => by rw [row_same, if_pos hi], fun r hr => row_ne hr⟩
  refine lp_go (fun j => (nI j, f_row σ 180 (fun i => if i < j then σ 180 (i + 1) else σ 180 i))) N ?_ (f_F_lt (by omega)) ?_ ?_
  · have e : (fun i => if i < 0 then σ 180 (i + 1) else σ 180 i) = σ 180 := by funext i; exact if_neg (by omega)
    rw [e, row_self]; rfl
  · intro j hj
    show b_pop (nI j) (f_row σ 180 (fun i => if i < j then σ 180 (i + 1) else σ 180 i)) = _
    unfold b_pop
    rw [row_ne (show 155 ≠ 180 by omega), h8, if_neg (by rw [n_le (by omega) (by omega)]; omega), show (1 : Int32) = nI 1 from rfl, n_add, f_rd_n (by omega) (by decide), bnd, row_same, f_wr_n (by omega) (by decide), bnd, up_of_row, if_neg (by omega), step]
  · show b_pop (nI N) (f_row σ 180 (fun i => if i < N then σ 180 (i + 1) else σ 180 i)) = _
    unfold b_pop
    rw [row_ne (show 155 ≠ 180 by omega), h8, if_pos (by rw [n_le (by omega) (by omega)]; omega)]
/-- an hour's work -/
theorem LR_work {σ : f_M} {s : Nat → Int32} {D ck hc ac pc cc q n k x w : Nat} {g : Nat → Nat} (K : kAll s D ck hc ac pc cc g q n) (R : LR σ s hc ac pc cc g q n) (hx : x < ac) (hk : k < cc) (hu : s_und s k (nI x) = true) (hk0 : s_rk s x k = 0) (hlt : ∀ c, c < cc → s_und s c (nI x) = true → c ≠ k → k < c) : LR (f_up σ 179 x (nI w)) (upd s (300 + 6 * k + 2) (nI w)) hc ac pc cc g q n := by
  have hac := K.1.2.2.1.2.2
  have hpc := K.1.2.2.2.1.2
  have hcc := K.1.2.2.2.2.2
  have h8 := K.1.2.1.2.2
  obtain ⟨⟨⟨a1, a2, a3, a4⟩, a5, b1, b2, b3, b4, a6, a7⟩, r2, r3, r4, r5, r6, r7, r8, r9⟩ := R
  have f : ∀ r, r ≠ 179 → f_up σ 179 x (nI w) r = σ r := fun r hr => up_rows hr
  have e : ∀ j, j ≠ 300 + 6 * k + 2 → upd s (300 + 6 * k + 2) (nI w) j = s j := fun j hj => upd_ne hj
  have eu : ∀ c y, s_und (upd s (300 + 6 * k + 2) (nI w)) c y = s_und s c y := fun c y => by
    unfold s_und; rw [e _ (by omega), e _ (by omega)]
  have er : ∀ y m, s_rk (upd s (300 + 6 * k + 2) (nI w)) y m = s_rk s y m := fun y m => cntN_congr fun c _ => eu c _
  refine ⟨⟨⟨?_, ?_, ?_, ?_⟩, ?_, ?_, ?_, ?_, ?_, ?_, ?_⟩, fun h hh => ?_, cX_k hac (f _ (by omega)) (fun k h1 h2 => e k (by omega)) r3, cP_k hpc (fun r h1 h2 => f r (by omega)) (e _ (by omega)) (fun k h1 h2 => e k (by omega)) (fun k h1 => e k (by omega)) r4, cF_k (fun r h1 h2 => f r (by omega)) r5, fun c hc => ?_, cG_k (fun r h1 h2 => f r (by omega)) r7, fun y hy => ?_, fun i hi => ?_⟩
  iterate 4 (rw [f _ (by omega)]; assumption)
  iterate 7 (rw [f _ (by omega)]; first | assumption | (rw [e _ (by omega)]; assumption))
  · rw [f _ (by omega), f _ (by omega), e _ (by omega), e _ (by omega)]; exact r2 h hh
  · unfold lC
    rw [f _ (by omega), f _ (by omega), f _ (by omega), f _ (by omega), e _ (by omega), e _ (by omega), e _ (by omega), e _ (by omega)]
    exact r6 c hc
  · obtain ⟨d1, d2, d3⟩ := r8 y hy
    unfold lD
    rw [er, f _ (by omega), f (175 + y) (by omega)]
    by_cases hyx : y = x
    · subst hyx
      have hN := cntN_lt (p := fun c => s_und s c (nI y)) hk hu
      refine ⟨d1, fun c hc hu' => ?_, fun h0 => ?_⟩
      · rw [eu] at hu'
        rw [er, up_same]
        refine ⟨(d2 c hc hu').1, ?_⟩
        by_cases hck : c = k
        · subst hck; rw [upd_same, if_pos hk0]
        · have h3 := cntN_lt (p := fun c => s_und s c (nI y)) (hlt c hc hu' hck) hu
          have h4 : ¬ s_rk s y c = 0 := by unfold s_rk; omega
          rw [e _ (by omega), if_neg h4, (d2 c hc hu').2, if_neg h4]
      · have : s_rk s y cc = cntN (fun c => s_und s c (nI y)) cc := rfl
        omega
    · refine ⟨d1, fun c hc hu' => ?_, fun h0 => ?_⟩
      · rw [eu] at hu'
        have hck : c ≠ k := fun h => by
          subst h
          have h1 := (und_iff.mp hu').2
          rw [(und_iff.mp hu).2, n_eq (by omega) (by omega)] at h1
          omega
        rw [er, up_ix hyx, e _ (by omega)]
        exact d2 c hc hu'
      · rw [up_ix hyx]; exact d3 h0
  · rw [f _ (by omega)]; exact r9 i hi
/-- a decision -/
theorem LR_dec {σ σ' : f_M} {s s' : Nat → Int32} {D ck hc ac pc cc q n k x am : Nat} {g : Nat → Nat} (K : kAll s D ck hc ac pc cc g q n) (R : LR σ s hc ac pc cc g q n) (hx : x < ac) (hk : k < cc) (hu : s_und s k (nI x) = true) (hk0 : s_rk s x k = 0) (hlt : ∀ c, c < cc → s_und s c (nI x) = true → c ≠ k → k < c)
    (e : ∀ j, j ≠ 10 → j ≠ 300 + 6 * k + 2 → j ≠ 300 + 6 * k + 3 → j ≠ 300 + 6 * k + 4 → j ≠ 300 + 6 * k + 5 → s' j = s j) (e10 : s' 10 = s 10 + nI 1) (e4 : s' (300 + 6 * k + 4) = nI am) (e3 : s' (300 + 6 * k + 3) = if am = 0 then nI 1 else nI 2)
    (f : ∀ r, 155 ≤ r → r ≠ 155 → r ≠ 172 → r ≠ 173 → r ≠ 175 + x → r ≠ 178 → r ≠ 179 → r ≠ 180 → σ' r = σ r) (f5 : ∀ i, i ≠ 31 → i ≠ 32 → σ' 155 i = σ 155 i) (p31 : σ' 155 31 = nI ((if am = 0 then n else n + 1) - q)) (p32 : σ' 155 32 = s 10 + nI 1)
    (c2 : σ' 172 k = if am = 0 then nI 1 else nI 2) (c2' : ∀ c, c ≠ k → σ' 172 c = σ 172 c) (c3 : σ' 173 k = nI am) (c3' : ∀ c, c ≠ k → σ' 173 c = σ 173 c)
    (dk : ∀ i, i + 1 < s_rk s x cc → σ' (175 + x) i = σ (175 + x) (i + 1)) (w8 : σ' 178 x = nI (s_rk s x cc - 1)) (w8' : ∀ y, y ≠ x → σ' 178 y = σ 178 y) (w9 : σ' 179 x = nI 0) (w9' : ∀ y, y ≠ x → σ' 179 y = σ 179 y)
    (py : ∀ i, i < n - q → σ' 180 i = σ 180 i) (py' : ¬ am = 0 → σ' 180 (n - q) = nI k) : LR σ' s' hc ac pc cc (if am = 0 then g else gUp g n k) q (if am = 0 then n else n + 1) := by
  have hac := K.1.2.2.1.2.2
  have hpc := K.1.2.2.2.1.2
  have hcc := K.1.2.2.2.2.2
  have h8 := K.1.2.1.2.2
  have hqn := K.2.2.2.1.1
  obtain ⟨⟨⟨a1, a2, a3, a4⟩, a5, b1, b2, b3, b4, a6, a7⟩, r2, r3, r4, r5, r6, r7, r8, r9⟩ := R
  have eo : ∀ j, j ≠ 10 → (j < 300 ∨ 420 ≤ j) → s' j = s j := fun j h h' => e j h (by omega) (by omega) (by omega) (by omega)
  have f' : ∀ r, 155 < r → r < 172 → σ' r = σ r := fun r h h' => f r (by omega) (by omega) (by omega) (by omega) (by omega) (by omega) (by omega) (by omega)
  have hkp := und_iff.mp hu
  have hs3 : ¬ s' (300 + 6 * k + 3) = nI 0 := by rw [e3]; split <;> decide
  have eu : ∀ c y, c ≠ k → s_und s' c y = s_und s c y := fun c y hck => by
    unfold s_und; rw [e _ (by omega) (by omega) (by omega) (by omega) (by omega), e _ (by omega) (by omega) (by omega) (by omega) (by omega)]
  have euk : ∀ y, s_und s' k y = false := fun y => by unfold s_und; rw [decide_eq_false hs3]; rfl
  refine ⟨⟨⟨?_, ?_, ?_, ?_⟩, ?_, ?_, ?_, ?_, ?_, p31, ?_⟩, fun h hh => ?_, cX_k hac (f' _ (by omega) (by omega)) (fun k h1 h2 => eo k (by omega) (by omega)) r3, cP_k hpc (fun r h1 h2 => f' r (by omega) (by omega)) (eo _ (by omega) (by omega)) (fun k h1 h2 => eo k (by omega) (by omega)) (fun k h1 => eo k (by omega) (by omega)) r4, cF_k (fun r h1 h2 => f' r (by omega) (by omega)) r5, fun c hc => ?_, fun c h1 h2 => ?_, fun y hy => ?_, fun i hi => ?_⟩
  iterate 4 (rw [f5 _ (by omega) (by omega)]; assumption)
  iterate 5 (rw [f5 _ (by omega) (by omega), eo _ (by omega) (by omega)]; assumption)
  · rw [p32, e10]
  · rw [f' _ (by omega) (by omega), f' _ (by omega) (by omega), eo _ (by omega) (by omega), eo _ (by omega) (by omega)]; exact r2 h hh
  · obtain ⟨q0, q1, q2, q3⟩ := r6 c hc
    unfold lC
    rw [f' _ (by omega) (by omega), f' _ (by omega) (by omega), e (300 + 6 * c + 0) (by omega) (by omega) (by omega) (by omega) (by omega), e (300 + 6 * c + 1) (by omega) (by omega) (by omega) (by omega) (by omega)]
    by_cases hck : c = k
    · subst hck
      exact ⟨q0, q1, by rw [c2, e3], by rw [c3, e4]⟩
    · rw [c2' c hck, c3' c hck, e (300 + 6 * c + 3) (by omega) (by omega) (by omega) (by omega) (by omega), e (300 + 6 * c + 4) (by omega) (by omega) (by omega) (by omega) (by omega)]
      exact ⟨q0, q1, q2, q3⟩
  · rw [c2' c (by omega), c3' c (by omega)]; exact r7 c h1 h2
  · obtain ⟨d1, d2, d3⟩ := r8 y hy
    by_cases hyx : y = x
    · subst hyx
      have low : ∀ m, m ≤ k → s_rk s' y m = s_rk s y m := fun m hm => cntN_congr fun c hc => eu c _ (by omega)
      have high : ∀ m, k < m → s_rk s' y m + 1 = s_rk s y m := fun m hm => cntN_dec hm hu (euk _) (fun c hc => eu c _ hc)
      have hcc' := high cc hk
      refine ⟨by rw [w8]; congr 1; omega, fun c hc hu' => ?_, fun _ => w9⟩
      have hck : c ≠ k := fun h => by subst h; rw [euk] at hu'; exact absurd hu' (by decide)
      rw [eu c _ hck] at hu'
      have hkc := hlt c hc hu' hck
      have h1 := high c hkc
      have h2 : s_rk s y c < s_rk s y cc := cntN_lt hc hu'
      rw [dk _ (by omega), h1, e (300 + 6 * c + 2) (by omega) (by omega) (by omega) (by omega) (by omega), (d2 c hc hu').2, w9]
      refine ⟨(d2 c hc hu').1, ?_⟩
      rw [if_neg (by omega)]
      split <;> rfl
    · have hyk : s_und s k (nI y) = false := by
        cases hb : s_und s k (nI y) with
        | false => rfl
        | true =>
          have h1 := (und_iff.mp hb).2
          rw [hkp.2, n_eq (by omega) (by omega)] at h1
          omega
      have eu' : ∀ c, s_und s' c (nI y) = s_und s c (nI y) := fun c => by
        by_cases hck : c = k
        · subst hck; rw [euk, hyk]
        · exact eu c _ hck
      have er : ∀ m, s_rk s' y m = s_rk s y m := fun m => cntN_congr fun c _ => eu' c
      unfold lD
      rw [er, w8' y hyx, w9' y hyx, f (175 + y) (by omega) (by omega) (by omega) (by omega) (by omega) (by omega) (by omega) (by omega)]
      refine ⟨d1, fun c hc hu' => ?_, d3⟩
      rw [eu'] at hu'
      have hck : c ≠ k := fun h => by subst h; rw [hyk] at hu'; exact absurd hu' (by decide)
      rw [er, e (300 + 6 * c + 2) (by omega) (by omega) (by omega) (by omega) (by omega)]
      exact d2 c hc hu'
  · by_cases ha : am = 0
    · rw [if_pos ha] at hi ⊢
      rw [py i hi]; exact r9 i hi
    · rw [if_neg ha] at hi ⊢
      by_cases hin : i < n - q
      · rw [py i hin, r9 i hin]
        unfold gUp
        rw [if_neg (by omega)]
      · obtain rfl : i = n - q := by omega
        rw [py' ha]
        unfold gUp
        rw [if_pos (by omega)]
