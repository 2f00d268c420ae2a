/-! Numbers and memory, for the mathematics. -/
/-- not by 'rfl': so simp leaves a step behind, and the kernel need not find it again -/
theorem bnd {α β : Type} (a : α) (f : α → Option β) : (some a).bind f = f a := by
  have h : ∀ o : Option β, o = f a → o = f a := fun _ h => h
  exact h _ rfl
theorem n_lt {a b : Nat} (ha : a < 2147483648) (hb : b < 2147483648) : (nI a < nI b) ↔ a < b := by
  rw [Int32.lt_iff_toInt_lt, nI_toInt ha, nI_toInt hb]; omega
theorem n_le {a b : Nat} (ha : a < 2147483648) (hb : b < 2147483648) : (nI a ≤ nI b) ↔ a ≤ b := by
  rw [Int32.le_iff_toInt_le, nI_toInt ha, nI_toInt hb]; omega
theorem n_eq {a b : Nat} (ha : a < 2147483648) (hb : b < 2147483648) : (nI a = nI b) ↔ a = b := by
  constructor
  · intro h
    have := congrArg Int32.toInt h
    rw [nI_toInt ha, nI_toInt hb] at this
    omega
  · intro h; rw [h]
theorem n_inj {a b : Nat} (ha : a < 2147483648) (hb : b < 2147483648) (h : nI a = nI b) : a = b := (n_eq ha hb).mp h
theorem n_add (a b : Nat) : nI a + nI b = nI (a + b) := (Int32.ofNat_add a b).symm
theorem n_mul (a b : Nat) : nI a * nI b = nI (a * b) := (Int32.ofNat_mul a b).symm
theorem n_sub {a b : Nat} (h : b ≤ a) : nI a - nI b = nI (a - b) := by
  have e : nI a = nI (a - b) + nI b := by rw [n_add]; congr 1; omega
  rw [e]
  exact Int32.add_sub_cancel _ _
theorem n_div {a b : Nat} (ha : a < 2147483648) (hb : b < 2147483648) : nI a / nI b = nI (a / b) := by
  have hq : a / b ≤ a := Nat.div_le_self a b
  rw [← Int32.toInt_inj, Int32.toInt_div, nI_toInt ha, nI_toInt hb, nI_toInt (by omega)]
  have e : (a : Int).tdiv (b : Int) = ((a / b : Nat) : Int) := rfl
  rw [e]
  generalize a / b = q at hq
  rw [Int.bmod_eq_of_le] <;> omega
theorem n_clamp {a : Nat} (h : a < 2147483648) : (nI a).toNatClampNeg = a := nI_clamp h
theorem n_neg {a : Nat} (h : a < 2147483648) : ¬ nI a < 0 := nI_pos h
theorem n_cases (x : Int32) : x < 0 ∨ ∃ m, m < 2147483648 ∧ x = nI m := by
  by_cases h : x < 0
  · exact Or.inl h
  · refine Or.inr ⟨x.toInt.toNat, ?_, ?_⟩
    · have := Int32.toInt_lt x; omega
    · have h2 := Int32.toInt_lt x
      rw [Int32.lt_iff_toInt_lt, Int32.toInt_zero] at h
      rw [← Int32.toInt_inj, nI_toInt (by omega), Int.toNat_of_nonneg (by omega)]
/-- an index, tested -/
theorem n_ix (x : Int32) {m : Nat} (hm : m < 2147483648) : (x < 0 ∨ nI m ≤ x) ∨ ∃ p, p < m ∧ x = nI p := by
  rcases n_cases x with h | ⟨p, hp, rfl⟩
  · exact Or.inl (Or.inl h)
  · by_cases h : p < m
    · exact Or.inr ⟨p, h, rfl⟩
    · exact Or.inl (Or.inr ((n_le hm hp).mpr (by omega)))
theorem f_up_eq (σ : f_M) (a i : Nat) (v : Int32) (b j : Nat) : f_up σ a i v b j = if b = a then (if j = i then v else σ a j) else σ b j := by
  unfold f_up f_row
  by_cases h : b = a
  · subst h; simp [upd]
  · simp [h]
theorem f_row_eq (σ : f_M) (a : Nat) (r : Nat → Int32) (b : Nat) : f_row σ a r b = if b = a then r else σ b := rfl
theorem up_same (σ : f_M) (a i : Nat) (v : Int32) : f_up σ a i v a i = v := by simp [f_up_eq]
theorem up_rows {σ : f_M} {a i b : Nat} {v : Int32} (h : b ≠ a) : f_up σ a i v b = σ b := by
  unfold f_up f_row; rw [if_neg h]
theorem up_ix {σ : f_M} {a i j : Nat} {v : Int32} (h : j ≠ i) : f_up σ a i v a j = σ a j := by simp [f_up_eq, h]
theorem row_same (σ : f_M) (a : Nat) (r : Nat → Int32) : f_row σ a r a = r := if_pos rfl
theorem row_ne {σ : f_M} {a b : Nat} {r : Nat → Int32} (h : b ≠ a) : f_row σ a r b = σ b := if_neg h
theorem up_row_up (σ : f_M) (a i : Nat) (v : Int32) : f_up σ a i v = f_row σ a (upd (σ a) i v) := rfl
theorem row_row (σ : f_M) (a : Nat) (r r' : Nat → Int32) : f_row (f_row σ a r) a r' = f_row σ a r' := by
  funext b; unfold f_row; by_cases h : b = a <;> simp [h]
theorem up_of_row (σ : f_M) (a i : Nat) (r : Nat → Int32) (v : Int32) : f_up (f_row σ a r) a i v = f_row σ a (upd r i v) := by
  rw [up_row_up, row_row, row_same]
theorem row_self (σ : f_M) (a : Nat) : f_row σ a (σ a) = σ := by
  funext b; unfold f_row; by_cases h : b = a <;> simp [h]
theorem f_rd_n {σ : f_M} {a n p : Nat} (h : p < n) (hn : n < 2147483648) : f_rd σ a n (nI p) = some (σ a p) := by
  unfold f_rd
  rw [n_clamp (by omega), if_neg (by intro h'; rcases h' with h' | h'; exact n_neg (by omega) h'; omega)]
theorem f_wr_n {σ : f_M} {a n p : Nat} {v : Int32} (h : p < n) (hn : n < 2147483648) : f_wr σ a n (nI p) v = some (f_up σ a p v) := by
  unfold f_wr
  rw [n_clamp (by omega), if_neg (by intro h'; rcases h' with h' | h'; exact n_neg (by omega) h'; omega)]
theorem f_ix_n {n p : Nat} (h : p < n) (hn : n < 2147483648) : f_ix n (nI p) = some p := by
  unfold f_ix
  rw [n_clamp (by omega), if_neg (by intro h'; rcases h' with h' | h'; exact n_neg (by omega) h'; omega)]
theorem f_ch_n {w k : Nat} (h : k < w_sl.getD w 0) (hk : k < 100) : f_ch w (nI k) = some ((w_sb.getD w []).getD k 0 &&& 255) := by
  unfold f_ch
  rw [n_clamp (by omega), if_neg (by intro h'; rcases h' with h' | h'; exact n_neg (by omega) h'; omega)]
theorem f_b_true : f_b true = 1 := rfl
theorem f_b_false : f_b false = 0 := rfl
theorem f_b_eq (x y : Bool) : (f_b x = f_b y) ↔ x = y := by cases x <;> cases y <;> decide
theorem f_b_ne (x : Bool) : (f_b x = 0) ↔ x = false := by cases x <;> decide
theorem f_b_n (x : Bool) : f_b x = nI (if x then 1 else 0) := by cases x <;> rfl
theorem f_b_z (b : Bool) : f_z (f_b b) = some b := by cases b <;> rfl
theorem f_F_lt {n : Nat} (h : n < 100000) : n < f_F := h
theorem lits : (0 : Int32) = nI 0 ∧ (1 : Int32) = nI 1 ∧ (2 : Int32) = nI 2 ∧ (3 : Int32) = nI 3 ∧ (4 : Int32) = nI 4 ∧ (5 : Int32) = nI 5 ∧ (6 : Int32) = nI 6 ∧ (7 : Int32) = nI 7 ∧ (8 : Int32) = nI 8 ∧ (9 : Int32) = nI 9 ∧ (10 : Int32) = nI 10 ∧ (11 : Int32) = nI 11 ∧ (12 : Int32) = nI 12 ∧ (14 : Int32) = nI 14 ∧ (16 : Int32) = nI 16 ∧ (19 : Int32) = nI 19 ∧ (20 : Int32) = nI 20 ∧ (24 : Int32) = nI 24 ∧ (30 : Int32) = nI 30 ∧ (31 : Int32) = nI 31 ∧ (32 : Int32) = nI 32 ∧ (40 : Int32) = nI 40 ∧ (43 : Int32) = nI 43 ∧ (45 : Int32) = nI 45 ∧ (47 : Int32) = nI 47 ∧ (48 : Int32) = nI 48 ∧ (50 : Int32) = nI 50 ∧ (57 : Int32) = nI 57 ∧ (59 : Int32) = nI 59 ∧ (60 : Int32) = nI 60 ∧ (61 : Int32) = nI 61 ∧ (63 : Int32) = nI 63 ∧ (72 : Int32) = nI 72 ∧ (95 : Int32) = nI 95 ∧ (97 : Int32) = nI 97 ∧ (100 : Int32) = nI 100 ∧ (107 : Int32) = nI 107 ∧ (112 : Int32) = nI 112 ∧ (122 : Int32) = nI 122 ∧ (150 : Int32) = nI 150 ∧ (200 : Int32) = nI 200 ∧ (210 : Int32) = nI 210 ∧ (300 : Int32) = nI 300 ∧ (420 : Int32) = nI 420 ∧ (500 : Int32) = nI 500 ∧ (580 : Int32) = nI 580 ∧ (600 : Int32) = nI 600 ∧ (999 : Int32) = nI 999 ∧ (1000 : Int32) = nI 1000 ∧ (1420 : Int32) = nI 1420 ∧ (2420 : Int32) = nI 2420 ∧ (9999 : Int32) = nI 9999 ∧ (19360 : Int32) = nI 19360 := ⟨rfl, rfl, rfl, rfl, rfl, rfl, rfl, rfl, rfl, rfl, rfl, rfl, rfl, rfl, rfl, rfl, rfl, rfl, rfl, rfl, rfl, rfl, rfl, rfl, rfl, rfl, rfl, rfl, rfl, rfl, rfl, rfl, rfl, rfl, rfl, rfl, rfl, rfl, rfl, rfl, rfl, rfl, rfl, rfl, rfl, rfl, rfl, rfl, rfl, rfl, rfl, rfl, rfl⟩
/-! loops -/
theorem lp_succ {S α : Type} (body : S → Option (S ⊕ α)) (f : Nat) (s : S) : f_lp body (f + 1) s = (body s).bind fun z => Sum.elim (fun s' => f_lp body f s') (fun a => some a) z := rfl
/-- a loop whose states are known -/
theorem lp_go {S α : Type} {body : S → Option (S ⊕ α)} {s0 : S} {r : α} (s : Nat → S) (n : Nat) {F : Nat} (h0 : s0 = s 0) (hF : n < F) (hs : ∀ j, j < n → body (s j) = some (.inl (s (j + 1)))) (he : body (s n) = some (.inr r)) : f_lp body F s0 = some r := by
  subst h0
  have key : ∀ m j F, j + m = n → m < F → f_lp body F (s j) = some r := by
    intro m
    induction m with
    | zero =>
      intro j F h1 h2
      obtain ⟨F, rfl⟩ : ∃ G, F = G + 1 := ⟨F - 1, by omega⟩
      obtain rfl : j = n := by omega
      rw [lp_succ, he]; rfl
    | succ m ih =>
      intro j F h1 h2
      obtain ⟨F, rfl⟩ : ∃ G, F = G + 1 := ⟨F - 1, by omega⟩
      rw [lp_succ, hs j (by omega)]
      exact ih (j + 1) F (by omega) (by omega)
  exact key n 0 F (by omega) hF
/-- a loop with an invariant; it may end early -/
theorem lp_inv {S α : Type} {body : S → Option (S ⊕ α)} {s0 : S} {F : Nat} (P : Nat → S → Prop) (Q : α → Prop) (n : Nat) (hF : n < F) (h0 : P 0 s0) (hs : ∀ j s, j < n → P j s → (∃ s', body s = some (.inl s') ∧ P (j + 1) s') ∨ ∃ r, body s = some (.inr r) ∧ Q r) (he : ∀ s, P n s → ∃ r, body s = some (.inr r) ∧ Q r) : ∃ r, f_lp body F s0 = some r ∧ Q r := by
  have key : ∀ m j F s, j + m = n → m < F → P j s → ∃ r, f_lp body F s = some r ∧ Q r := by
    intro m
    induction m with
    | zero =>
      intro j F s h1 h2 hP
      obtain ⟨F, rfl⟩ : ∃ G, F = G + 1 := ⟨F - 1, by omega⟩
      obtain rfl : j = n := by omega
      obtain ⟨r, e, q⟩ := he s hP
      exact ⟨r, by rw [lp_succ, e]; rfl, q⟩
    | succ m ih =>
      intro j F s h1 h2 hP
      obtain ⟨F, rfl⟩ : ∃ G, F = G + 1 := ⟨F - 1, by omega⟩
      rcases hs j s (by omega) hP with ⟨s', e, hP'⟩ | ⟨r, e, q⟩
      · obtain ⟨r, e', q⟩ := ih (j + 1) F s' (by omega) (by omega) hP'
        exact ⟨r, by rw [lp_succ, e]; exact e', q⟩
      · exact ⟨r, by rw [lp_succ, e]; rfl, q⟩
  exact key n 0 F s0 (by omega) hF h0
theorem lp_use {S α β : Type} {body : S → Option (S ⊕ α)} {s0 : S} {F : Nat} {f : α → Option β} {o : Option β} (P : Nat → S → Prop) (Q : α → Prop) (n : Nat) (hF : n < F) (h0 : P 0 s0) (hs : ∀ j s, j < n → P j s → (∃ s', body s = some (.inl s') ∧ P (j + 1) s') ∨ ∃ r, body s = some (.inr r) ∧ Q r) (he : ∀ s, P n s → ∃ r, body s = some (.inr r) ∧ Q r) (hk : ∀ r, Q r → f r = o) : (f_lp body F s0).bind f = o := by
  obtain ⟨r, e, q⟩ := lp_inv P Q n hF h0 hs he
  rw [e, bnd]
  exact hk r q
theorem lp_ex {S α β : Type} {body : S → Option (S ⊕ α)} {s0 : S} {F : Nat} {f : α → Option β} {T : β → Prop} (P : Nat → S → Prop) (Q : α → Prop) (n : Nat) (hF : n < F) (h0 : P 0 s0) (hs : ∀ j s, j < n → P j s → (∃ s', body s = some (.inl s') ∧ P (j + 1) s') ∨ ∃ r, body s = some (.inr r) ∧ Q r) (he : ∀ s, P n s → ∃ r, body s = some (.inr r) ∧ Q r) (hk : ∀ r, Q r → ∃ t, f r = some t ∧ T t) : ∃ t, (f_lp body F s0).bind f = some t ∧ T t := by
  obtain ⟨r, e, q⟩ := lp_inv P Q n hF h0 hs he
  rw [e, bnd]
  exact hk r q
/-! counts and sums -/
def cntN (p : Nat → Bool) : Nat → Nat
  | 0 => 0
  | n + 1 => cntN p n + if p n then 1 else 0
theorem cntN_succ (p : Nat → Bool) (n : Nat) : cntN p (n + 1) = cntN p n + if p n then 1 else 0 := rfl
theorem cntN_le (p : Nat → Bool) (n : Nat) : cntN p n ≤ n := by
  induction n with
  | zero => exact Nat.le_refl _
  | succ n ih => unfold cntN; split <;> omega
theorem cntN_congr {p q : Nat → Bool} {n : Nat} (h : ∀ i, i < n → p i = q i) : cntN p n = cntN q n := by
  induction n with
  | zero => rfl
  | succ n ih => unfold cntN; rw [ih (fun i hi => h i (by omega)), h n (by omega)]
def sumI (f : Nat → Int32) : Nat → Int32
  | 0 => 0
  | n + 1 => sumI f n + f n
theorem sumI_succ (f : Nat → Int32) (n : Nat) : sumI f (n + 1) = sumI f n + f n := rfl
theorem sumI_congr {f g : Nat → Int32} {n : Nat} (h : ∀ i, i < n → f i = g i) : sumI f n = sumI g n := by
  induction n with
  | zero => rfl
  | succ n ih => unfold sumI; rw [ih (fun i hi => h i (by omega)), h n (by omega)]
def sumN (f : Nat → Nat) : Nat → Nat
  | 0 => 0
  | n + 1 => sumN f n + f n
theorem sumN_succ (f : Nat → Nat) (n : Nat) : sumN f (n + 1) = sumN f n + f n := rfl
theorem sumN_congr {f g : Nat → Nat} {n : Nat} (h : ∀ i, i < n → f i = g i) : sumN f n = sumN g n := by
  induction n with
  | zero => rfl
  | succ n ih => unfold sumN; rw [ih (fun i hi => h i (by omega)), h n (by omega)]
theorem sumN_le {f : Nat → Nat} {n k : Nat} (h : ∀ i, i < n → f i ≤ k) : sumN f n ≤ n * k := by
  induction n with
  | zero => exact Nat.zero_le _
  | succ n ih =>
    unfold sumN
    have h1 := ih (fun i hi => h i (by omega))
    have h2 := h n (by omega)
    rw [Nat.succ_mul]; omega
theorem sumI_n (f : Nat → Nat) (n : Nat) : sumI (fun i => nI (f i)) n = nI (sumN f n) := by
  induction n with
  | zero => rfl
  | succ n ih => unfold sumI sumN; rw [ih, n_add]
/-- the first place where p holds, or n -/
def fstN (p : Nat → Bool) : Nat → Nat
  | 0 => 0
  | n + 1 => if fstN p n < n then fstN p n else if p n then n else n + 1
theorem fstN_le (p : Nat → Bool) (n : Nat) : fstN p n ≤ n := by
  induction n with
  | zero => exact Nat.le_refl _
  | succ n ih => unfold fstN; split; omega; split <;> omega
theorem fstN_lt {p : Nat → Bool} {n : Nat} (h : fstN p n < n) : p (fstN p n) = true := by
  induction n with
  | zero => omega
  | succ n ih =>
    unfold fstN at h ⊢
    by_cases h1 : fstN p n < n
    · rw [if_pos h1]; exact ih h1
    · rw [if_neg h1] at h ⊢
      by_cases h2 : p n = true
      · rw [if_pos h2]; exact h2
      · rw [if_neg h2] at h; omega
theorem fstN_min {p : Nat → Bool} {n i : Nat} (h : i < fstN p n) : p i = false := by
  induction n with
  | zero => unfold fstN at h; omega
  | succ n ih =>
    unfold fstN at h
    by_cases h1 : fstN p n < n
    · rw [if_pos h1] at h; exact ih h
    · rw [if_neg h1] at h
      have h3 := fstN_le p n
      by_cases h4 : i < n
      · exact ih (by omega)
      · by_cases h2 : p n = true
        · rw [if_pos h2] at h; omega
        · rw [if_neg h2] at h
          obtain rfl : i = n := by omega
          exact Bool.eq_false_iff.mpr h2
theorem fstN_congr {p q : Nat → Bool} {n : Nat} (h : ∀ i, i < n → p i = q i) : fstN p n = fstN q n := by
  induction n with
  | zero => rfl
  | succ n ih => unfold fstN; rw [ih (fun i hi => h i (by omega)), h n (by omega)]
