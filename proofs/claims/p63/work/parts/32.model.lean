/-! The model's methods, as functions of its row. -/
theorem if_some {α : Type} {c : Prop} [Decidable c] (a b : α) : (if c then some a else some b) = some (if c then a else b) := by split <;> rfl
theorem if_nft {c : Prop} [Decidable c] : (if ¬ c then false else true) = decide c := by by_cases h : c <;> simp [h]
theorem if_ft {c : Prop} [Decidable c] : (if c then false else true) = !decide c := by by_cases h : c <;> simp [h]
theorem if_tf {c : Prop} [Decidable c] : (if c then true else false) = decide c := by by_cases h : c <;> simp [h]
theorem rdS {σ : f_M} {k : Nat} (h : k < 2420) : f_rd σ 156 2420 (nI k) = some (σ 156 k) := f_rd_n h (by decide)
theorem wrS {σ : f_M} {k : Nat} {v : Int32} (h : k < 2420) : f_wr σ 156 2420 (nI k) v = some (f_row σ 156 (upd (σ 156) k v)) := f_wr_n h (by decide)
theorem upd_same {f : Nat → Int32} {k : Nat} {v : Int32} : upd f k v k = v := by simp [upd]
theorem upd_ne {f : Nat → Int32} {k j : Nat} {v : Int32} (h : j ≠ k) : upd f k v j = f j := by simp [upd, h]
/-- a number below n -/
def isN (x : Int32) (n : Nat) : Prop := ∃ m, m < n ∧ x = nI m
def nat (x : Int32) : Nat := x.toNatClampNeg
theorem nat_n {m : Nat} (h : m < 2147483648) : nat (nI m) = m := n_clamp h
theorem isN.nat {x : Int32} {n : Nat} (h : isN x n) (hn : n ≤ 2147483648) : x = nI (nat x) ∧ nat x < n := by
  obtain ⟨m, h1, rfl⟩ := h
  rw [nat_n (by omega)]
  exact ⟨rfl, h1⟩
theorem M_h (σ : f_M) (h : Nat) : g_36 (nI h) σ = some (nI (20 + 9 * h)) := by
  unfold g_36; simp only [lits, n_mul, n_add]
theorem M_p (σ : f_M) (p : Nat) : g_119 (nI p) σ = some (nI (100 + 10 * p)) := by
  unfold g_119; simp only [lits, n_mul, n_add]
theorem M_c (σ : f_M) (c : Nat) : g_126 (nI c) σ = some (nI (300 + 6 * c)) := by
  unfold g_126; simp only [lits, n_mul, n_add]
theorem M_one (σ : f_M) (b : Bool) : g_131 b σ = some (f_b b) := by
  unfold g_131; cases b <;> rfl
def s_lap (s : Nat → Int32) (p : Nat) : Bool := decide (s (100 + 10 * p + 8) = nI 1)
def s_exp (s : Nat → Int32) (p : Nat) : Int32 := s (100 + 10 * p + 2) + s (100 + 10 * p + 3)
def s_act (s : Nat → Int32) (p : Nat) (ck : Int32) : Bool := !s_lap s p && !decide (s_exp s p ≤ ck)
theorem M_lap {σ : f_M} {p : Nat} (hp : p < 20) : g_120 (nI p) σ = some (s_lap (σ 156) p) := by
  unfold g_120
  simp (disch := omega) only [M_p, bnd, lits, n_add, rdS, if_some, if_nft]
  rfl
theorem M_exp {σ : f_M} {p : Nat} (hp : p < 20) : g_121 (nI p) σ = some (s_exp (σ 156) p) := by
  unfold g_121
  simp (disch := omega) only [M_p, bnd, lits, n_add, rdS]
  rfl
theorem M_act {σ : f_M} {p : Nat} {ck : Int32} (hp : p < 20) : g_122 (nI p) ck σ = some (s_act (σ 156) p ck) := by
  unfold g_122 s_act
  simp (disch := omega) only [M_lap, M_exp, bnd, if_some, if_ft]
  cases s_lap (σ 156) p <;> rfl
def s_can (s : Nat → Int32) (p : Nat) : Bool := !decide (s (20 + 9 * nat (s (100 + 10 * p + 1)) + 7) < s (100 + 10 * p + 7))
theorem M_can {σ : f_M} {p : Nat} (hp : p < 20) (hh : isN (σ 156 (100 + 10 * p + 1)) 8) : g_123 (nI p) σ = some (s_can (σ 156) p) := by
  obtain ⟨h, h1, h2⟩ := hh
  unfold g_123 s_can
  simp (disch := omega) only [M_p, M_h, bnd, lits, n_add, rdS, if_some, if_ft, h2, nat_n]
def s_pay (s : Nat → Int32) (p : Nat) : Nat → Int32 :=
  let k := 20 + 9 * nat (s (100 + 10 * p + 1)) + 7
  let v := s (100 + 10 * p + 7)
  upd (upd (upd s k (s k - v)) 1 (s 1 + v)) 6 (s 6 + v)
theorem M_pay {σ : f_M} {p : Nat} (hp : p < 20) (hh : isN (σ 156 (100 + 10 * p + 1)) 8) : g_124 (nI p) σ = some (f_row σ 156 (s_pay (σ 156) p)) := by
  obtain ⟨h, h1, h2⟩ := hh
  unfold g_124 s_pay
  simp (disch := omega) only [M_p, M_h, bnd, lits, n_add, rdS, wrS, h2, nat_n, row_same, row_row, upd_ne]
/-- a policy's premium on a day of premiums -/
def s_col1 (s : Nat → Int32) (p : Nat) : Nat → Int32 := if s_act s p (s 0) then (if s_can s p then s_pay s p else upd s (100 + 10 * p + 8) (nI 1)) else s
def s_colN (s : Nat → Int32) : Nat → Nat → Int32
  | 0 => s
  | n + 1 => s_col1 (s_colN s n) n
theorem s_colN_succ (s : Nat → Int32) (n : Nat) : s_colN s (n + 1) = s_col1 (s_colN s n) n := rfl
/-- what a day of premiums leaves as it is -/
theorem s_col1_keep {s : Nat → Int32} {p k : Nat} (hh : isN (s (100 + 10 * p + 1)) 8) (h1 : k ≠ 1) (h6 : k ≠ 6) (hb : ∀ h, h < 8 → k ≠ 20 + 9 * h + 7) (h8 : k ≠ 100 + 10 * p + 8) : s_col1 s p k = s k := by
  obtain ⟨h, g1, g2⟩ := hh
  unfold s_col1
  split
  · split
    · unfold s_pay
      rw [g2, nat_n (by omega)]
      have := hb h g1
      simp only [upd_ne h6, upd_ne h1, upd_ne this]
    · rw [upd_ne h8]
  · rfl
theorem s_colN_keep {s : Nat → Int32} {k n : Nat} (hn : n ≤ 20) (hh : ∀ p, p < n → isN (s (100 + 10 * p + 1)) 8) (h1 : k ≠ 1) (h6 : k ≠ 6) (hb : ∀ h, h < 8 → k ≠ 20 + 9 * h + 7) (h8 : ∀ p, p < n → k ≠ 100 + 10 * p + 8) : s_colN s n k = s k := by
  have key : ∀ n, n ≤ 20 → (∀ p, p < n → isN (s (100 + 10 * p + 1)) 8) → ∀ k, k ≠ 1 → k ≠ 6 → (∀ h, h < 8 → k ≠ 20 + 9 * h + 7) → (∀ p, p < n → k ≠ 100 + 10 * p + 8) → s_colN s n k = s k := by
    intro n
    induction n with
    | zero => intros; rfl
    | succ n ih =>
      intro hn hh k h1 h6 hb h8
      have ih' := ih (by omega) (fun p hp => hh p (by omega))
      unfold s_colN
      rw [s_col1_keep _ h1 h6 hb (h8 n (by omega))]
      · exact ih' k h1 h6 hb (fun p hp => h8 p (by omega))
      · rw [ih' (100 + 10 * n + 1) (by omega) (by omega) (fun h hh => by omega) (fun p hp => by omega)]
        exact hh n (by omega)
  exact key n hn hh k h1 h6 hb h8
theorem M_collect {σ : f_M} {pc : Nat} (h4 : σ 156 4 = nI pc) (hpc : pc ≤ 20) (hh : ∀ p, p < pc → isN (σ 156 (100 + 10 * p + 1)) 8) : g_125 σ = some (f_row σ 156 (s_colN (σ 156) pc)) := by
  have k0 : ∀ n, n ≤ pc → s_colN (σ 156) n 0 = σ 156 0 := fun n hn => s_colN_keep (by omega) (fun p hp => hh p (by omega)) (by omega) (by omega) (fun h hh => by omega) (fun p hp => by omega)
  have k4 : ∀ n, n ≤ pc → s_colN (σ 156) n 4 = nI pc := fun n hn => by rw [s_colN_keep (by omega) (fun p hp => hh p (by omega)) (by omega) (by omega) (fun h hh => by omega) (fun p hp => by omega)]; exact h4
  have kh : ∀ n, n < pc → isN (s_colN (σ 156) n (100 + 10 * n + 1)) 8 := fun n hn => by rw [s_colN_keep (by omega) (fun p hp => hh p (by omega)) (by omega) (by omega) (fun h hh => by omega) (fun p hp => by omega)]; exact hh n hn
  unfold g_125
  rw [lp_go (fun j => (nI j, f_row σ 156 (s_colN (σ 156) j))) pc (r := f_row σ 156 (s_colN (σ 156) pc)) ?_ (f_F_lt (by omega)) ?_ ?_]
  · rfl
  · show (_, σ) = (_, f_row σ 156 (σ 156))
    rw [row_self]; rfl
  · intro j hj
    have e := kh j hj
    rw [← row_same σ 156 (s_colN (σ 156) j)] at e
    simp (disch := omega) only [rdS, lits, row_same, bnd, k4 j (by omega), k0 j (by omega), n_le, M_act]
    rw [if_neg (by omega)]
    simp (disch := omega) only [M_can _ e, M_pay _ e, M_p, bnd, n_add, wrS, row_same, row_row]
    rw [s_colN_succ]
    unfold s_col1
    rw [k0 j (by omega)]
    cases h1 : s_act (s_colN (σ 156) j) j (σ 156 0)
    · simp
    · cases h2 : s_can (s_colN (σ 156) j) j <;> simp
  · simp (disch := omega) only [rdS, lits, row_same, bnd, k4 pc (by omega), n_le]
    simp
theorem t64_lt (a b : Int32) : (a.toInt64 < b.toInt64) ↔ a < b := by
  rw [Int64.lt_iff_toInt_lt, Int32.toInt_toInt64, Int32.toInt_toInt64, Int32.lt_iff_toInt_lt]
theorem t64_eq (a b : Int32) : (a.toInt64 = b.toInt64) ↔ a = b := by
  rw [← Int64.toInt_inj, Int32.toInt_toInt64, Int32.toInt_toInt64, Int32.toInt_inj]
theorem i32_nlt (a b : Int32) : ¬ (a < b) ↔ b ≤ a := by
  rw [Int32.lt_iff_toInt_lt, Int32.le_iff_toInt_le]; omega
theorem i32_nle (a b : Int32) : ¬ (a ≤ b) ↔ b < a := by
  rw [Int32.lt_iff_toInt_lt, Int32.le_iff_toInt_le]; omega
theorem M_within (σ : f_M) (v lo hi : Int32) : g_46 v.toInt64 lo.toInt64 hi.toInt64 σ = some (!decide (v < lo) && !decide (hi < v)) := by
  unfold g_46
  simp only [lg_cmp_lt, lg_cmp_gt, t64_lt]
  by_cases h1 : v < lo
  · simp [h1]
  · by_cases h2 : hi < v <;> simp [h1, h2]
/-- the places of a policy's insured hours that have passed: from the first, so many -/
def s_len (s : Nat → Int32) (p : Nat) : Nat := min (nat (s 0)) (nat (s (100 + 10 * p + 2)) + nat (s (100 + 10 * p + 3))) - nat (s (100 + 10 * p + 2))
def s_bad (s : Nat → Int32) (p t : Nat) : Bool := decide (s (420 + t) < s (100 + 10 * p + 5)) || decide (s (100 + 10 * p + 6) < s (420 + t))
def s_cnt (s : Nat → Int32) (p : Nat) : Nat := cntN (fun i => s_bad s p (nat (s (100 + 10 * p + 2)) + i)) (s_len s p)
def s_rain (s : Nat → Int32) (p : Nat) : Int32 := sumI (fun i => s (1420 + (nat (s (100 + 10 * p + 2)) + i))) (s_len s p)
/-- what the damage needs of a row: clock, first hour, hours -/
def okD (s : Nat → Int32) (p : Nat) : Prop := isN (s 0) 1001 ∧ isN (s (100 + 10 * p + 2)) 1001 ∧ ∃ d, 1 ≤ d ∧ d ≤ 24 ∧ s (100 + 10 * p + 3) = nI d
theorem n_min {a b : Nat} (ha : a < 2147483648) (hb : b < 2147483648) : f_min (nI a) (nI b) = nI (min a b) := by
  unfold f_min
  simp only [n_lt hb ha]
  by_cases h : b < a
  · rw [if_pos h, Nat.min_eq_right (by omega)]
  · rw [if_neg h, Nat.min_eq_left (by omega)]
theorem M_last {σ : f_M} {p : Nat} (hp : p < 20) (hd : okD (σ 156) p) : g_130 (nI p) σ = some (nI (nat (σ 156 (100 + 10 * p + 2)) + s_len (σ 156) p)) ∨ (s_len (σ 156) p = 0 ∧ ∃ e, e ≤ nat (σ 156 (100 + 10 * p + 2)) ∧ g_130 (nI p) σ = some (nI e)) := by
  obtain ⟨⟨ck, hck, e0⟩, ⟨f, hf, e2⟩, d, hd1, hd2, e3⟩ := hd
  have e : g_130 (nI p) σ = some (nI (min ck (f + d))) := by
    unfold g_130
    simp (disch := omega) only [M_exp, bnd, lits, rdS, s_exp, e0, e2, e3, n_add, n_min]
  unfold s_len
  rw [e0, e2, e3, nat_n (by omega), nat_n (by omega), nat_n (by omega), e]
  by_cases h : f ≤ min ck (f + d)
  · left; congr 2; omega
  · right; exact ⟨by omega, _, by omega, rfl⟩
theorem M_cnt {σ : f_M} {p : Nat} (hp : p < 20) (hd : okD (σ 156) p) : g_132 (nI p) σ = some (nI (s_cnt (σ 156) p)) := by
  have hl := M_last hp hd
  obtain ⟨⟨ck, hck, e0⟩, ⟨f, hf, e2⟩, d, hd1, hd2, e3⟩ := hd
  have hlen : f + s_len (σ 156) p ≤ f ∨ f + s_len (σ 156) p ≤ ck := by
    unfold s_len
    rw [e0, e2, e3, nat_n (by omega), nat_n (by omega), nat_n (by omega)]
    omega
  have hlen2 : s_len (σ 156) p ≤ 1001 := by
    unfold s_len
    rw [e0, nat_n (by omega)]; omega
  unfold g_132 s_cnt
  simp (disch := omega) only [M_p, bnd, lits, n_add, rdS, e2, nat_n]
  rw [e2, nat_n (by omega)] at hl
  rw [lp_go (fun j => (nI (cntN (fun i => s_bad (σ 156) p (f + i)) j), nI (f + j))) (s_len (σ 156) p) (r := nI (cntN (fun i => s_bad (σ 156) p (f + i)) (s_len (σ 156) p))) ?_ (f_F_lt (by omega)) ?_ ?_]
  · rfl
  · rfl
  · intro j hj
    rcases hl with hl | ⟨h0, -⟩
    · have hc := cntN_le (fun i => s_bad (σ 156) p (f + i)) j
      rw [hl]
      simp (disch := omega) only [bnd, n_le, n_add, rdS, M_within]
      rw [if_neg (by omega)]
      have e : cntN (fun i => s_bad (σ 156) p (f + i)) (j + 1) = cntN (fun i => s_bad (σ 156) p (f + i)) j + if s_bad (σ 156) p (f + j) then 1 else 0 := rfl
      rw [e, show f + (j + 1) = f + j + 1 from rfl]
      have eb : s_bad (σ 156) p (f + j) = (decide (σ 156 (420 + (f + j)) < σ 156 (100 + 10 * p + 5)) || decide (σ 156 (100 + 10 * p + 6) < σ 156 (420 + (f + j)))) := rfl
      rw [eb]
      generalize cntN (fun i => s_bad (σ 156) p (f + i)) j = z
      by_cases h1 : σ 156 (420 + (f + j)) < σ 156 (100 + 10 * p + 5)
      · simp [h1, M_one, f_b_n, n_add]
      · by_cases h2 : σ 156 (100 + 10 * p + 6) < σ 156 (420 + (f + j))
        · simp [h1, h2, M_one, f_b_n, n_add]
        · simp [h1, h2, M_one, f_b_n, n_add]
    · omega
  · rcases hl with hl | ⟨h0, e, he, hl⟩
    · rw [hl]
      simp (disch := omega) only [bnd, n_le]
      simp
    · rw [hl]
      simp (disch := omega) only [bnd, n_le]
      rw [if_pos (by omega)]
theorem M_rain {σ : f_M} {p : Nat} (hp : p < 20) (hd : okD (σ 156) p) : g_133 (nI p) σ = some (s_rain (σ 156) p) := by
  have hl := M_last hp hd
  obtain ⟨⟨ck, hck, e0⟩, ⟨f, hf, e2⟩, d, hd1, hd2, e3⟩ := hd
  have hlen : f + s_len (σ 156) p ≤ f ∨ f + s_len (σ 156) p ≤ ck := by
    unfold s_len
    rw [e0, e2, e3, nat_n (by omega), nat_n (by omega), nat_n (by omega)]
    omega
  have hlen2 : s_len (σ 156) p ≤ 1001 := by
    unfold s_len
    rw [e0, nat_n (by omega)]; omega
  unfold g_133 s_rain
  simp (disch := omega) only [M_p, bnd, lits, n_add, rdS, e2, nat_n]
  rw [e2, nat_n (by omega)] at hl
  rw [lp_go (fun j => (sumI (fun i => σ 156 (1420 + (f + i))) j, nI (f + j))) (s_len (σ 156) p) (r := sumI (fun i => σ 156 (1420 + (f + i))) (s_len (σ 156) p)) ?_ (f_F_lt (by omega)) ?_ ?_]
  · rfl
  · rfl
  · intro j hj
    rcases hl with hl | ⟨h0, -⟩
    · rw [hl]
      simp (disch := omega) only [bnd, n_le, n_add, rdS]
      rw [if_neg (by omega)]
      rfl
    · omega
  · rcases hl with hl | ⟨h0, e, he, hl⟩
    · rw [hl]
      simp (disch := omega) only [bnd, n_le]
      simp
    · rw [hl]
      simp (disch := omega) only [bnd, n_le]
      rw [if_pos (by omega)]
def s_damage (s : Nat → Int32) (p : Nat) : Int32 :=
  if s (100 + 10 * p + 0) = nI 0 then s (100 + 10 * p + 4) * nI (s_cnt s p) / s (100 + 10 * p + 3)
  else f_min (s (100 + 10 * p + 4)) (s (100 + 10 * p + 4) * f_max (nI 0) (s_rain s p - s (100 + 10 * p + 5)) / nI 10)
theorem M_damage {σ : f_M} {p : Nat} (hp : p < 20) (hd : okD (σ 156) p) : g_134 (nI p) σ = some (s_damage (σ 156) p) := by
  have h3 : ¬ σ 156 (100 + 10 * p + 3) = nI 0 := by
    obtain ⟨-, -, d, hd1, hd2, e3⟩ := hd
    rw [e3, n_eq (by omega) (by omega)]; omega
  unfold g_134 s_damage
  simp (disch := omega) only [M_p, bnd, lits, n_add, rdS, M_rain hp hd, M_cnt hp hd]
  by_cases h : σ 156 (100 + 10 * p + 0) = nI 0
  · rw [if_neg (fun h' => h' h), if_pos h, if_neg h3]
  · rw [if_pos h, if_neg h]
def s_und (s : Nat → Int32) (c : Nat) (x : Int32) : Bool := decide (s (300 + 6 * c + 3) = nI 0) && decide (s (300 + 6 * c + 1) = x)
theorem M_und {σ : f_M} {c : Nat} {x : Int32} (hc : c < 20) : g_127 (nI c) x σ = some (s_und (σ 156) c x) := by
  unfold g_127 s_und
  simp (disch := omega) only [M_c, bnd, lits, n_add, rdS]
  by_cases h : σ 156 (300 + 6 * c + 3) = nI 0
  · rw [if_neg (fun h' => h' h)]
    by_cases h2 : σ 156 (300 + 6 * c + 1) = x <;> simp [h, h2]
  · rw [if_pos h]; simp [h]
def s_fst (s : Nat → Int32) (x : Int32) : Nat := fstN (fun c => s_und s c x) (nat (s 5))
theorem M_fst {σ : f_M} {cc : Nat} {x : Int32} (h5 : σ 156 5 = nI cc) (hcc : cc ≤ 20) : g_128 x σ = some (if s_fst (σ 156) x < cc then nI (s_fst (σ 156) x) else -1) := by
  unfold g_128 s_fst
  rw [h5, nat_n (by omega)]
  have hle := fstN_le (fun c => s_und (σ 156) c x) cc
  rw [lp_go (fun j => nI j) (fstN (fun c => s_und (σ 156) c x) cc) (r := if fstN (fun c => s_und (σ 156) c x) cc < cc then nI (fstN (fun c => s_und (σ 156) c x) cc) else -1) ?_ (f_F_lt (by omega)) ?_ ?_]
  · rfl
  · rfl
  · intro j hj
    have hu := fstN_min (p := fun c => s_und (σ 156) c x) hj
    simp (disch := omega) only [bnd, lits, rdS, h5, n_le, M_und, n_add] at hu ⊢
    rw [if_neg (by omega), hu, if_pos rfl]
  · by_cases h : fstN (fun c => s_und (σ 156) c x) cc < cc
    · have hu := fstN_lt h
      simp (disch := omega) only [bnd, lits, rdS, h5, n_le, M_und, n_add] at hu ⊢
      rw [if_neg (by omega), hu, if_neg (by decide), if_pos h]
    · simp (disch := omega) only [bnd, lits, rdS, h5, n_le]
      rw [if_pos (by omega), if_neg h]
def s_decide (s : Nat → Int32) (c : Nat) : Nat → Int32 :=
  let dm := s_damage s (nat (s (300 + 6 * c + 0)))
  let am := dm - dm * nI 5 * s (95 + nat (s (300 + 6 * c + 1))) / nI 100
  upd (upd (upd (upd s 10 (s 10 + nI 1)) (300 + 6 * c + 5) (s 10 + nI 1)) (300 + 6 * c + 4) am) (300 + 6 * c + 3) (if am = nI 0 then nI 1 else nI 2)
theorem M_decide {σ : f_M} {c : Nat} (hc : c < 20) (h0 : isN (σ 156 (300 + 6 * c + 0)) 20) (h1 : isN (σ 156 (300 + 6 * c + 1)) 3) (hd : okD (σ 156) (nat (σ 156 (300 + 6 * c + 0)))) : g_135 (nI c) σ = some (f_row σ 156 (s_decide (σ 156) c)) := by
  obtain ⟨p, hp, e0⟩ := h0
  obtain ⟨x, hx, e1⟩ := h1
  rw [e0, nat_n (by omega)] at hd
  unfold g_135 s_decide
  rw [e0, e1, nat_n (by omega), nat_n (by omega)]
  simp (disch := omega) only [M_c, bnd, lits, n_add, rdS, e0, e1, M_damage hp hd, wrS, row_same, row_row, upd_same]
  by_cases h : s_damage (σ 156) p - s_damage (σ 156) p * nI 5 * σ 156 (95 + x) / nI 100 = nI 0
  · simp (disch := omega) only [h, not_true, if_false, if_true, bnd, wrS, row_same, row_row]
  · simp (disch := omega) only [h, not_false_eq_true, if_false, if_true, bnd, wrS, row_same, row_row]
def s_assess (s : Nat → Int32) (x : Nat) : Nat → Int32 :=
  let k := s_fst s (nI x)
  if k < nat (s 5) then (
    let s1 := upd s (300 + 6 * k + 2) (s (300 + 6 * k + 2) + nI 1)
    if s (300 + 6 * k + 2) + nI 1 = nI 2 + s (95 + x) then s_decide s1 k else s1) else s
theorem s_damage_congr {s s' : Nat → Int32} {p : Nat} (h0 : s' 0 = s 0) (hP : ∀ i, i < 7 → s' (100 + 10 * p + i) = s (100 + 10 * p + i)) (hw : ∀ t, 420 ≤ t → s' t = s t) : s_damage s' p = s_damage s p := by
  have e0 := hP 0 (by omega)
  have e2 := hP 2 (by omega)
  have e3 := hP 3 (by omega)
  have e4 := hP 4 (by omega)
  have e5 := hP 5 (by omega)
  have e6 := hP 6 (by omega)
  have hl : s_len s' p = s_len s p := by unfold s_len; rw [h0, e2, e3]
  have hc : s_cnt s' p = s_cnt s p := by
    unfold s_cnt
    rw [hl, e2]
    refine cntN_congr fun i _ => ?_
    unfold s_bad
    rw [e5, e6, hw _ (by omega)]
  have hr : s_rain s' p = s_rain s p := by
    unfold s_rain
    rw [hl, e2]
    exact sumI_congr fun i _ => hw _ (by omega)
  unfold s_damage
  rw [e0, e3, e4, e5, hc, hr]
theorem n_neg1 {a : Nat} (h : a < 2147483648) : ¬ nI a = (-1 : Int32) := fun e => by
  have := congrArg Int32.toInt e
  rw [nI_toInt h] at this
  have h2 : (-1 : Int32).toInt = -1 := by decide
  omega
theorem okD_congr {s s' : Nat → Int32} {p : Nat} (h0 : s' 0 = s 0) (h2 : s' (100 + 10 * p + 2) = s (100 + 10 * p + 2)) (h3 : s' (100 + 10 * p + 3) = s (100 + 10 * p + 3)) (h : okD s p) : okD s' p := by
  unfold okD at h ⊢
  rw [h0, h2, h3]; exact h
theorem M_assess {σ : f_M} {cc x : Nat} (h5 : σ 156 5 = nI cc) (hcc : cc ≤ 20) (hx : x < 3) (hk : ∀ c, c < cc → isN (σ 156 (300 + 6 * c + 0)) 20 ∧ isN (σ 156 (300 + 6 * c + 1)) 3 ∧ okD (σ 156) (nat (σ 156 (300 + 6 * c + 0)))) : g_136 (nI x) σ = some (f_row σ 156 (s_assess (σ 156) x)) := by
  unfold g_136 s_assess
  rw [M_fst h5 hcc, h5, nat_n (by omega)]
  by_cases h : s_fst (σ 156) (nI x) < cc
  · rw [if_pos h]
    obtain ⟨k0, k1, k2⟩ := hk _ h
    generalize s_fst (σ 156) (nI x) = k at h k0 k1 k2
    rw [bnd, if_pos (n_neg1 (by omega))]
    dsimp only
    rw [if_pos h]
    have e0 : isN (f_row σ 156 (upd (σ 156) (300 + 6 * k + 2) (σ 156 (300 + 6 * k + 2) + nI 1)) 156 (300 + 6 * k + 0)) 20 := by rw [row_same, upd_ne (by omega)]; exact k0
    have e1 : isN (f_row σ 156 (upd (σ 156) (300 + 6 * k + 2) (σ 156 (300 + 6 * k + 2) + nI 1)) 156 (300 + 6 * k + 1)) 3 := by rw [row_same, upd_ne (by omega)]; exact k1
    have e2 : okD (f_row σ 156 (upd (σ 156) (300 + 6 * k + 2) (σ 156 (300 + 6 * k + 2) + nI 1)) 156) (nat (f_row σ 156 (upd (σ 156) (300 + 6 * k + 2) (σ 156 (300 + 6 * k + 2) + nI 1)) 156 (300 + 6 * k + 0))) := by
      rw [row_same, upd_ne (by omega)]
      have hp := (k0.nat (by omega)).2
      exact okD_congr (upd_ne (by omega)) (upd_ne (by omega)) (upd_ne (by omega)) k2
    have hd := M_decide (c := k) (by omega) e0 e1 e2
    rw [row_same, row_row] at hd
    have ht : ∀ m, g_129 (nI x) m = some (nI 2 + m 156 (95 + x)) := fun m => by
      unfold g_129
      simp (disch := omega) only [bnd, lits, rdS, n_add]
    simp (disch := omega) only [M_c, bnd, lits, n_add, rdS, wrS, row_same, upd_same, ht, upd_ne]
    by_cases h2 : σ 156 (300 + 6 * k + 2) + nI 1 = nI 2 + σ 156 (95 + x)
    · rw [if_neg (fun h' => h' h2), if_pos h2, hd]; rfl
    · rw [if_pos h2, if_neg h2]; rfl
  · rw [if_neg h]
    simp only [bnd, not_true, if_false]
    rw [if_neg h, row_self]
/-- the unpaid claim that was decided first, out of the first n -/
def s_un (s : Nat → Int32) : Nat → Int32
  | 0 => -1
  | n + 1 => if s (300 + 6 * n + 3) = nI 2 then (if s_un s n = -1 then nI n else if s (300 + 6 * nat (s_un s n) + 5) ≤ s (300 + 6 * n + 5) then s_un s n else nI n) else s_un s n
theorem s_un_succ (s : Nat → Int32) (n : Nat) : s_un s (n + 1) = if s (300 + 6 * n + 3) = nI 2 then (if s_un s n = -1 then nI n else if s (300 + 6 * nat (s_un s n) + 5) ≤ s (300 + 6 * n + 5) then s_un s n else nI n) else s_un s n := rfl
theorem s_un_in (s : Nat → Int32) (n : Nat) (hn : n < 2147483648) : s_un s n = -1 ∨ ∃ c, c < n ∧ s_un s n = nI c := by
  induction n with
  | zero => exact Or.inl rfl
  | succ n ih =>
    rw [s_un_succ]
    have ih' : s_un s n = -1 ∨ ∃ c, c < n + 1 ∧ s_un s n = nI c := (ih (by omega)).imp id (fun ⟨c, h1, h2⟩ => ⟨c, by omega, h2⟩)
    split
    · split
      · exact Or.inr ⟨n, by omega, rfl⟩
      · split
        · exact ih'
        · exact Or.inr ⟨n, by omega, rfl⟩
    · exact ih'
theorem M_un {σ : f_M} {cc : Nat} (h5 : σ 156 5 = nI cc) (hcc : cc ≤ 20) : g_137 σ = some (s_un (σ 156) cc) := by
  unfold g_137
  rw [lp_go (fun j => (s_un (σ 156) j, nI j)) cc (r := s_un (σ 156) cc) ?_ (f_F_lt (by omega)) ?_ ?_]
  · rfl
  · rfl
  · intro j hj
    have hin := s_un_in (σ 156) j (by omega)
    rw [s_un_succ]
    generalize s_un (σ 156) j = b at hin ⊢
    have e1 : (1 : Int32) = nI 1 := rfl
    have e2 : (2 : Int32) = nI 2 := rfl
    have e3 : (3 : Int32) = nI 3 := rfl
    have e5 : (5 : Int32) = nI 5 := rfl
    rw [e5, rdS (by omega), h5]
    simp (disch := omega) only [bnd, n_le]
    rw [if_neg (by omega), M_c]
    simp (disch := omega) only [bnd, e3, n_add, rdS, e2]
    by_cases h3 : σ 156 (300 + 6 * j + 3) = nI 2
    · rw [if_neg (fun h' => h' h3), if_pos h3]
      by_cases hb : b = -1
      · simp only [hb, if_true, bnd, if_false, Bool.true_eq_false]
        rw [show nI j + 1 = nI (j + 1) from n_add j 1]
      · obtain ⟨c, hc, rfl⟩ := hin.resolve_left hb
        rw [nat_n (by omega)]
        simp (disch := omega) only [hb, if_false, bnd, Bool.true_eq_false, M_c, n_add, rdS]
        rw [show nI j + 1 = nI (j + 1) from n_add j 1]
        by_cases h9 : σ 156 (300 + 6 * c + 5) ≤ σ 156 (300 + 6 * j + 5)
        · simp [h9]
        · simp [h9]
    · rw [if_pos h3, if_neg h3]
      simp only [if_true, bnd]
      rw [show nI j + 1 = nI (j + 1) from n_add j 1]
  · have e5 : (5 : Int32) = nI 5 := rfl
    rw [e5, rdS (by omega), h5]
    simp (disch := omega) only [bnd, n_le]
    rw [if_pos (by omega)]
def s_pay1 (s : Nat → Int32) (c : Nat) : Nat → Int32 :=
  let v := s (300 + 6 * c + 4)
  let h := nat (s (100 + 10 * nat (s (300 + 6 * c + 0)) + 1))
  upd (upd (upd (upd (upd s 1 (s 1 - v)) (20 + 9 * h + 7) (s (20 + 9 * h + 7) + v)) (20 + 9 * h + 8) (s (20 + 9 * h + 8) + v)) 7 (s 7 + v)) (300 + 6 * c + 3) (nI 3)
theorem M_pay1 {σ : f_M} {c : Nat} (hc : c < 20) (h0 : isN (σ 156 (300 + 6 * c + 0)) 20) (h1 : isN (σ 156 (100 + 10 * nat (σ 156 (300 + 6 * c + 0)) + 1)) 8) : g_138 (nI c) σ = some (f_row σ 156 (s_pay1 (σ 156) c)) := by
  obtain ⟨p, hp, e0⟩ := h0
  rw [e0, nat_n (by omega)] at h1
  obtain ⟨h, hh, e1⟩ := h1
  unfold g_138 s_pay1
  rw [e0, nat_n (by omega), e1, nat_n (by omega)]
  simp (disch := omega) only [M_c, M_p, M_h, bnd, lits, n_add, rdS, wrS, e0, e1, row_same, row_row, upd_ne]
theorem cntN_dec {p q : Nat → Bool} {n c : Nat} (hc : c < n) (hp : p c = true) (hq : q c = false) (h : ∀ i, i ≠ c → q i = p i) : cntN q n + 1 = cntN p n := by
  induction n with
  | zero => omega
  | succ n ih =>
    unfold cntN
    by_cases hn : c = n
    · subst hn
      rw [hp, hq, cntN_congr (p := q) (q := p) (fun i hi => h i (by omega))]
      rfl
    · rw [h n (fun e => hn e.symm)]
      have := ih (by omega)
      omega
theorem s_un_st {s : Nat → Int32} {n c : Nat} (hn : n < 2147483648) (hc : c < n) (h : s_un s n = nI c) : s (300 + 6 * c + 3) = nI 2 := by
  induction n with
  | zero => omega
  | succ n ih =>
    rw [s_un_succ] at h
    have old : s_un s n = nI c → s (300 + 6 * c + 3) = nI 2 := fun e => by
      rcases s_un_in s n (by omega) with h9 | ⟨c9, hc9, e9⟩
      · exact absurd (e.symm.trans h9) (n_neg1 (by omega))
      · have := n_inj (by omega) (by omega) (e.symm.trans e9)
        exact ih (by omega) (by omega) e
    split at h
    · rename_i h3
      split at h
      · have := n_inj (by omega) (by omega) h
        subst this; exact h3
      · split at h
        · exact old h
        · have := n_inj (by omega) (by omega) h
          subst this; exact h3
    · exact old h
def s_pall (cc : Nat) : Nat → (Nat → Int32) → Nat → Int32
  | 0, s => s
  | n + 1, s => if s_un s cc = -1 then s else if s 1 < s (300 + 6 * nat (s_un s cc) + 4) then s else s_pall cc n (s_pay1 s (nat (s_un s cc)))
theorem s_pall_succ (cc n : Nat) (s : Nat → Int32) : s_pall cc (n + 1) s = if s_un s cc = -1 then s else if s 1 < s (300 + 6 * nat (s_un s cc) + 4) then s else s_pall cc n (s_pay1 s (nat (s_un s cc))) := rfl
/-- claims whose policies and holders are there -/
def okK (s : Nat → Int32) (cc : Nat) : Prop := ∀ c, c < cc → isN (s (300 + 6 * c + 0)) 20 ∧ isN (s (100 + 10 * nat (s (300 + 6 * c + 0)) + 1)) 8
theorem s_pay1_keep {s : Nat → Int32} {c k : Nat} (h1 : isN (s (100 + 10 * nat (s (300 + 6 * c + 0)) + 1)) 8) (g1 : k ≠ 1) (g7 : k ≠ 7) (gb : ∀ h, h < 8 → k ≠ 20 + 9 * h + 7 ∧ k ≠ 20 + 9 * h + 8) (g3 : k ≠ 300 + 6 * c + 3) : s_pay1 s c k = s k := by
  have hh := (h1.nat (by omega)).2
  have := gb _ hh
  unfold s_pay1
  simp only [upd_ne g3, upd_ne g7, upd_ne this.1, upd_ne this.2, upd_ne g1]
theorem okK_pay1 {s : Nat → Int32} {cc c : Nat} (hcc : cc ≤ 20) (hc : c < cc) (h : okK s cc) : okK (s_pay1 s c) cc := by
  intro d hd
  have hk := h d hd
  have hp := (hk.1.nat (by omega)).2
  rw [s_pay1_keep (h c hc).2 (by omega) (by omega) (fun h hh => ⟨by omega, by omega⟩) (by omega)]
  refine ⟨hk.1, ?_⟩
  rw [s_pay1_keep (h c hc).2 (by omega) (by omega) (fun h hh => ⟨by omega, by omega⟩) (by omega)]
  exact hk.2
theorem M_pall {σ : f_M} {cc : Nat} (h5 : σ 156 5 = nI cc) (hcc : cc ≤ 20) (hk : okK (σ 156) cc) : g_139 σ = some (f_row σ 156 (s_pall cc 20 (σ 156))) := by
  unfold g_139
  rw [M_un h5 hcc, bnd]
  refine lp_use
    (fun j (z : Int32 × f_M) => ∃ s, z = (s_un s cc, f_row σ 156 s) ∧ s 5 = nI cc ∧ okK s cc ∧ s_pall cc 20 (σ 156) = s_pall cc (20 - j) s ∧ cntN (fun c => decide (s (300 + 6 * c + 3) = nI 2)) cc ≤ 20 - j)
    (fun r => r = f_row σ 156 (s_pall cc 20 (σ 156))) 20 (f_F_lt (by omega))
    ⟨σ 156, by rw [row_self], h5, hk, rfl, Nat.le_trans (cntN_le _ _) hcc⟩ ?_ ?_ (fun r q => by rw [q])
  · rintro j z hj ⟨s, rfl, g5, gk, ge, gc⟩
    dsimp only
    by_cases hu : s_un s cc = -1
    · refine Or.inr ⟨_, if_pos hu, ?_⟩
      rw [ge]
      obtain ⟨m, hm⟩ : ∃ m, 20 - j = m + 1 := ⟨20 - j - 1, by omega⟩
      rw [hm, s_pall_succ, if_pos hu]
    · obtain ⟨c, hc, eu⟩ := (s_un_in s cc (by omega)).resolve_left hu
      have hst := s_un_st (by omega) hc eu
      obtain ⟨m, hm⟩ : ∃ m, 20 - j = m + 1 := ⟨20 - j - 1, by omega⟩
      have e1 : (1 : Int32) = nI 1 := rfl
      have e4 : (4 : Int32) = nI 4 := rfl
      rw [if_neg hu, eu]
      simp (disch := omega) only [M_c, bnd, e1, e4, n_add, rdS, row_same]
      by_cases hr : s 1 < s (300 + 6 * c + 4)
      · refine Or.inr ⟨_, if_pos hr, ?_⟩
        rw [ge, hm, s_pall_succ]
        rw [if_neg hu, eu, nat_n (by omega), if_pos hr]
      · refine Or.inl ⟨_, ?_, s_pay1 s c, rfl, ?_, okK_pay1 hcc hc gk, ?_, ?_⟩
        · rw [if_neg hr]
          have hp := M_pay1 (σ := f_row σ 156 s) (c := c) (by omega) (by rw [row_same]; exact (gk c hc).1) (by rw [row_same]; exact (gk c hc).2)
          rw [row_same, row_row] at hp
          rw [hp, bnd, M_un (cc := cc) (by rw [row_same, s_pay1_keep (gk c hc).2 (by omega) (by omega) (fun h hh => ⟨by omega, by omega⟩) (by omega)]; exact g5) hcc, row_same]
          rfl
        · rw [s_pay1_keep (gk c hc).2 (by omega) (by omega) (fun h hh => ⟨by omega, by omega⟩) (by omega)]; exact g5
        · rw [ge, hm]
          rw [show 20 - (j + 1) = m by omega, s_pall_succ, if_neg hu, eu, nat_n (by omega), if_neg hr]
        · have := cntN_dec (p := fun c => decide (s (300 + 6 * c + 3) = nI 2)) (q := fun d => decide (s_pay1 s c (300 + 6 * d + 3) = nI 2)) hc (decide_eq_true hst) (by
            unfold s_pay1
            rw [upd_same]
            exact decide_eq_false (by rw [n_eq (by omega) (by omega)]; omega)) (fun i hi => by
            rw [s_pay1_keep (gk c hc).2 (by omega) (by omega) (fun h hh => ⟨by omega, by omega⟩) (by omega)])
          omega
  · rintro z ⟨s, rfl, g5, gk, ge, gc⟩
    dsimp only
    by_cases hu : s_un s cc = -1
    · refine ⟨_, if_pos hu, ?_⟩
      rw [ge]; rfl
    · obtain ⟨c, hc, eu⟩ := (s_un_in s cc (by omega)).resolve_left hu
      have hst := s_un_st (by omega) hc eu
      have hpos : ∀ n, c < n → 1 ≤ cntN (fun c => decide (s (300 + 6 * c + 3) = nI 2)) n := by
        intro n
        induction n with
        | zero => omega
        | succ n ih =>
          intro hn
          unfold cntN
          by_cases h9 : c = n
          · subst h9; rw [hst]; simp
          · have := ih (by omega); omega
      have := hpos cc hc
      omega
