/-! The model's hour. -/
/-- the places of a row that no hour writes and that the methods lean on -/
def fixK (k : Nat) : Prop := k = 3 ∨ k = 4 ∨ k = 5 ∨ (100 ≤ k ∧ k < 300 ∧ 1 ≤ k % 10 ∧ k % 10 ≤ 3) ∨ (300 ≤ k ∧ k < 420 ∧ (k - 300) % 6 ≤ 1)
def okF (s : Nat → Int32) (ck ac pc cc : Nat) : Prop := (s 0 = nI ck ∧ ck ≤ 1000) ∧ (s 3 = nI ac ∧ ac ≤ 3) ∧ (s 4 = nI pc ∧ pc ≤ 20) ∧ (s 5 = nI cc ∧ cc ≤ 20) ∧ (∀ p, p < pc → isN (s (100 + 10 * p + 1)) 8 ∧ isN (s (100 + 10 * p + 2)) 1001 ∧ ∃ d, 1 ≤ d ∧ d ≤ 24 ∧ s (100 + 10 * p + 3) = nI d) ∧ ∀ c, c < cc → isN (s (300 + 6 * c + 0)) pc ∧ isN (s (300 + 6 * c + 1)) 3
theorem okF_congr {s s' : Nat → Int32} {ck ck' ac pc cc : Nat} (h : okF s ck ac pc cc) (e : ∀ k, fixK k → s' k = s k) (h0 : s' 0 = nI ck') (hck : ck' ≤ 1000) : okF s' ck' ac pc cc := by
  obtain ⟨-, h3, h4, h5, hp, hk⟩ := h
  refine ⟨⟨h0, hck⟩, by rw [e 3 (by unfold fixK; omega)]; exact h3, by rw [e 4 (by unfold fixK; omega)]; exact h4, by rw [e 5 (by unfold fixK; omega)]; exact h5, fun p g => ?_, fun c g => ?_⟩
  · rw [e (100 + 10 * p + 1) (by unfold fixK; omega), e (100 + 10 * p + 2) (by unfold fixK; omega), e (100 + 10 * p + 3) (by unfold fixK; omega)]
    exact hp p g
  · rw [e (300 + 6 * c + 0) (by unfold fixK; omega), e (300 + 6 * c + 1) (by unfold fixK; omega)]
    exact hk c g
theorem isN.mono {x : Int32} {n m : Nat} (h : isN x n) (hnm : n ≤ m) : isN x m := by
  obtain ⟨a, h1, h2⟩ := h
  exact ⟨a, by omega, h2⟩
theorem okF.toD {s : Nat → Int32} {ck ac pc cc p : Nat} (h : okF s ck ac pc cc) (hp : p < pc) : okD s p := by
  obtain ⟨h0, h3, h4, h5, hp9, hk⟩ := h
  exact ⟨⟨ck, by omega, h0.1⟩, (hp9 p hp).2.1, (hp9 p hp).2.2⟩
theorem okF.toK {s : Nat → Int32} {ck ac pc cc : Nat} (h : okF s ck ac pc cc) : okK s cc := by
  obtain ⟨h0, h3, h4, h5, hp9, hk⟩ := h
  intro c hc
  have := (hk c hc).1
  have h9 := this.nat (by omega)
  exact ⟨this.mono (by omega), (hp9 _ h9.2).1⟩
theorem okF.cond {s : Nat → Int32} {ck ac pc cc : Nat} (h : okF s ck ac pc cc) : ∀ c, c < cc → isN (s (300 + 6 * c + 0)) 20 ∧ isN (s (300 + 6 * c + 1)) 3 ∧ okD s (nat (s (300 + 6 * c + 0))) := by
  intro c hc
  have h1 := h.2.2.2.2.2 c hc
  have h9 := h1.1.nat (by have := h.2.2.1.2; omega)
  exact ⟨h1.1.mono (by have := h.2.2.1.2; omega), h1.2, h.toD h9.2⟩
def s_day (s : Nat → Int32) : Nat → Int32 := if nat (s 0) = 0 ∨ ¬ nat (s 0) % 24 = 0 then s else s_colN s (nat (s 4))
def s_wx (s : Nat → Int32) (w r : Int32) : Nat → Int32 := upd (upd (upd s (420 + nat (s 0)) w) (1420 + nat (s 0)) r) 0 (s 0 + nI 1)
def s_asN (s : Nat → Int32) : Nat → Nat → Int32
  | 0 => s
  | n + 1 => s_assess (s_asN s n) n
theorem s_asN_succ (s : Nat → Int32) (n : Nat) : s_asN s (n + 1) = s_assess (s_asN s n) n := rfl
def s_hour (s : Nat → Int32) (w r : Int32) : Nat → Int32 := s_pall (nat (s 5)) 20 (s_asN (s_wx (s_day s) w r) (nat (s 3)))
theorem s_decide_keep {s : Nat → Int32} {c k : Nat} (h10 : k ≠ 10) (h3 : k ≠ 300 + 6 * c + 3) (h4 : k ≠ 300 + 6 * c + 4) (h5 : k ≠ 300 + 6 * c + 5) : s_decide s c k = s k := by
  unfold s_decide
  simp only [upd_ne h3, upd_ne h4, upd_ne h5, upd_ne h10]
theorem s_assess_keep {s : Nat → Int32} {x k : Nat} (h10 : k ≠ 10) (h : ∀ c, c < nat (s 5) → k ≠ 300 + 6 * c + 2 ∧ k ≠ 300 + 6 * c + 3 ∧ k ≠ 300 + 6 * c + 4 ∧ k ≠ 300 + 6 * c + 5) : s_assess s x k = s k := by
  unfold s_assess
  dsimp only
  split
  · rename_i hk
    obtain ⟨g2, g3, g4, g5⟩ := h _ hk
    split
    · rw [s_decide_keep h10 g3 g4 g5, upd_ne g2]
    · rw [upd_ne g2]
  · rfl
theorem s_day_keep {s : Nat → Int32} {ck ac pc cc k : Nat} (h : okF s ck ac pc cc) (h1 : k ≠ 1) (h6 : k ≠ 6) (hb : ∀ h, h < 8 → k ≠ 20 + 9 * h + 7) (h8 : ∀ p, p < pc → k ≠ 100 + 10 * p + 8) : s_day s k = s k := by
  unfold s_day
  split
  · rfl
  · have e : nat (s 4) = pc := by rw [h.2.2.1.1, nat_n (by have := h.2.2.1.2; omega)]
    rw [e]
    exact s_colN_keep h.2.2.1.2 (fun p hp => (h.2.2.2.2.1 p hp).1) h1 h6 hb h8
theorem okF_day {s : Nat → Int32} {ck ac pc cc : Nat} (h : okF s ck ac pc cc) : okF (s_day s) ck ac pc cc :=
  okF_congr h (fun k hk => by
    have hpc := h.2.2.1.2
    unfold fixK at hk
    exact s_day_keep h (by omega) (by omega) (fun h hh => by omega) (fun p hp => by omega)) (by rw [s_day_keep h (by omega) (by omega) (fun h hh => by omega) (fun p hp => by omega)]; exact h.1.1) h.1.2
theorem s_wx_keep {s : Nat → Int32} {w r : Int32} {k : Nat} (h0 : k ≠ 0) (h1 : k ≠ 420 + nat (s 0)) (h2 : k ≠ 1420 + nat (s 0)) : s_wx s w r k = s k := by
  unfold s_wx
  rw [upd_ne h0, upd_ne h2, upd_ne h1]
theorem okF_wx {s : Nat → Int32} {ck ac pc cc : Nat} {w r : Int32} (h : okF s ck ac pc cc) (hck : ck < 1000) : okF (s_wx s w r) (ck + 1) ac pc cc :=
  okF_congr h (fun k hk => by
    unfold fixK at hk
    exact s_wx_keep (by omega) (by omega) (by omega)) (by unfold s_wx; rw [upd_same, h.1.1, n_add]) hck
theorem okF_assess {s : Nat → Int32} {ck ac pc cc x : Nat} (h : okF s ck ac pc cc) : okF (s_assess s x) ck ac pc cc := by
  have e5 : nat (s 5) = cc := by rw [h.2.2.2.1.1, nat_n (by have := h.2.2.2.1.2; omega)]
  refine okF_congr h (fun k hk => ?_) ?_ h.1.2
  · unfold fixK at hk
    have hcc := h.2.2.2.1.2
    exact s_assess_keep (by omega) (fun c hc => by rw [e5] at hc; omega)
  · rw [s_assess_keep (by omega) (fun c hc => by omega)]; exact h.1.1
theorem okF_asN {s : Nat → Int32} {ck ac pc cc : Nat} (h : okF s ck ac pc cc) (n : Nat) : okF (s_asN s n) ck ac pc cc := by
  induction n with
  | zero => exact h
  | succ n ih => exact okF_assess ih
theorem s_pall_fix {cc k : Nat} (hcc : cc ≤ 20) (g1 : k ≠ 1) (g7 : k ≠ 7) (gb : ∀ h, h < 8 → k ≠ 20 + 9 * h + 7 ∧ k ≠ 20 + 9 * h + 8) (g3 : ∀ c, c < cc → k ≠ 300 + 6 * c + 3) : ∀ (n : Nat) (s : Nat → Int32), okK s cc → s_pall cc n s k = s k := by
  intro n
  induction n with
  | zero => intro s _; rfl
  | succ n ih =>
    intro s hk
    rw [s_pall_succ]
    split
    · rfl
    · rename_i hu
      obtain ⟨c, hc, eu⟩ := (s_un_in s cc (by omega)).resolve_left hu
      split
      · rfl
      · rw [eu, nat_n (by omega), ih _ (okK_pay1 hcc hc hk), s_pay1_keep (hk c hc).2 g1 g7 gb (g3 c hc)]
theorem n_mod {a b : Nat} (ha : a < 2147483648) (hb : b < 2147483648) : nI a - nI a / nI b * nI b = nI (a % b) := by
  rw [n_div ha hb, n_mul, n_sub (Nat.div_mul_le_self a b)]
  congr 1
  rw [Nat.mul_comm]
  have := Nat.div_add_mod a b
  omega
theorem M_hour {σ : f_M} {ck ac pc cc : Nat} {w r : Int32} (h : okF (σ 156) ck ac pc cc) (hck : ck < 1000) : g_140 w r σ = some (s_hour (σ 156) w r 10 - σ 156 10, f_row σ 156 (s_hour (σ 156) w r)) := by
  obtain ⟨⟨h0, -⟩, ⟨h3, hac⟩, ⟨h4, hpc⟩, ⟨h5, hcc⟩, hp, hk⟩ := id h
  have eday : ((if σ 156 0 ≤ nI 0 then some σ else if ¬ σ 156 0 - σ 156 0 / nI 24 * nI 24 = nI 0 then some σ else (g_125 σ).bind fun t4 => some t4) : Option f_M) = some (f_row σ 156 (s_day (σ 156))) := by
    unfold s_day
    rw [h0, h4, nat_n (by omega), nat_n (by omega), n_mod (by omega) (by omega)]
    simp (disch := omega) only [n_le, n_eq]
    by_cases c0 : ck = 0
    · rw [if_pos (by omega), if_pos (Or.inl c0), row_self]
    · rw [if_neg (by omega)]
      by_cases c1 : ck % 24 = 0
      · rw [if_neg (fun h' => h' c1), if_neg (by omega), M_collect h4 hpc (fun p g => (hp p g).1), bnd]
      · rw [if_pos c1, if_pos (Or.inr c1), row_self]
  have k1 := okF_day h
  have k2 := okF_wx (w := w) (r := r) k1 hck
  have d0 : s_day (σ 156) 0 = nI ck := k1.1.1
  have d10 : s_day (σ 156) 10 = σ 156 10 := s_day_keep h (by omega) (by omega) (fun h hh => by omega) (fun p hp => by omega)
  have ewx : upd (upd (upd (s_day (σ 156)) (420 + ck) w) (1420 + ck) r) 0 (nI ck + nI 1) = s_wx (s_day (σ 156)) w r := by
    unfold s_wx
    rw [d0, nat_n (by omega)]
  have x10 : s_wx (s_day (σ 156)) w r 10 = σ 156 10 := by rw [s_wx_keep (by omega) (by omega) (by omega), d10]
  unfold g_140
  rw [show (0 : Int32) = nI 0 from rfl, rdS (by omega), bnd, bnd, show (24 : Int32) = nI 24 from rfl, eday, bnd]
  rw [rdS (by omega), row_same, bnd, d0]
  simp (disch := omega) only [lits, n_add, wrS, row_same, row_row, bnd, rdS, upd_ne, d0]
  rw [← n_add ck 1, ewx, d10]
  refine lp_use (fun j (z : Int32 × f_M) => z = (nI j, f_row σ 156 (s_asN (s_wx (s_day (σ 156)) w r) j))) (fun z => z = f_row σ 156 (s_asN (s_wx (s_day (σ 156)) w r) ac)) ac (f_F_lt (by omega)) rfl ?_ ?_ ?_
  · rintro j z hj rfl
    have kj := okF_asN k2 j
    refine Or.inl ⟨_, ?_, rfl⟩
    have ha := M_assess (σ := f_row σ 156 (s_asN (s_wx (s_day (σ 156)) w r) j)) (cc := cc) (x := j) (by rw [row_same]; exact kj.2.2.2.1.1) hcc (by omega) (by rw [row_same]; exact kj.cond)
    rw [row_same, row_row] at ha
    simp (disch := omega) only [rdS, row_same, bnd, kj.2.1.1, n_le]
    rw [if_neg (by omega), ha, bnd, n_add, s_asN_succ]
  · rintro z rfl
    have kj := okF_asN k2 ac
    refine ⟨_, ?_, rfl⟩
    simp (disch := omega) only [rdS, row_same, bnd, kj.2.1.1, n_le]
    rw [if_pos (by omega)]
  · rintro z rfl
    have kj := okF_asN k2 ac
    have hpl := M_pall (σ := f_row σ 156 (s_asN (s_wx (s_day (σ 156)) w r) ac)) (cc := cc) (by rw [row_same]; exact kj.2.2.2.1.1) hcc (by rw [row_same]; exact kj.toK)
    rw [row_same, row_row] at hpl
    rw [hpl, bnd, row_same]
    unfold s_hour
    rw [h3, h5, nat_n (by omega), nat_n (by omega)]
