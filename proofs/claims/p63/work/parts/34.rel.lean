/-! The relation between the class's memory and the model's row; what a row keeps. -/
/-- the counts of a row: clock, holders, assessors, policies, claims -/
def kC (s : Nat → Int32) (ck hc ac pc cc : Nat) : Prop := (s 0 = nI ck ∧ ck ≤ 1000) ∧ (s 2 = nI hc ∧ 1 ≤ hc ∧ hc ≤ 8) ∧ (s 3 = nI ac ∧ 1 ≤ ac ∧ ac ≤ 3) ∧ (s 4 = nI pc ∧ pc ≤ 20) ∧ (s 5 = nI cc ∧ cc ≤ 20)
def s_prem (s : Nat → Int32) (p : Nat) : Int32 := if s (100 + 10 * p + 0) = nI 0 then s (100 + 10 * p + 4) * s (100 + 10 * p + 3) / nI 40 + nI 1 else s (100 + 10 * p + 4) * s (100 + 10 * p + 3) / (nI 20 + nI 2 * s (100 + 10 * p + 5)) + nI 1
/-- a policy of a row -/
def kP (s : Nat → Int32) (hc p : Nat) : Prop := isN (s (100 + 10 * p + 0)) 2 ∧ isN (s (100 + 10 * p + 1)) hc ∧ isN (s (100 + 10 * p + 2)) 1001 ∧ (∃ d, 1 ≤ d ∧ d ≤ 24 ∧ s (100 + 10 * p + 3) = nI d) ∧ (∃ v, 1 ≤ v ∧ v ≤ 500 ∧ s (100 + 10 * p + 4) = nI v) ∧ (s (100 + 10 * p + 0) = nI 1 → isN (s (100 + 10 * p + 5)) 51) ∧ s (100 + 10 * p + 7) = s_prem s p ∧ isN (s (100 + 10 * p + 8)) 2 ∧ isN (s (100 + 10 * p + 9)) 2 ∧ (s (100 + 10 * p + 0) = nI 0 → ∃ lo hi : Nat, lo ≤ hi ∧ hi ≤ 150 ∧ s (100 + 10 * p + 5) = nI lo ∧ s (100 + 10 * p + 6) = nI hi)
/-- a claim of a row -/
def kK (s : Nat → Int32) (ac pc c : Nat) : Prop := isN (s (300 + 6 * c + 0)) pc ∧ isN (s (300 + 6 * c + 1)) ac ∧ isN (s (300 + 6 * c + 2)) 12 ∧ isN (s (300 + 6 * c + 3)) 4 ∧ isN (s (300 + 6 * c + 4)) 501 ∧ isN (s (300 + 6 * c + 5)) 21 ∧
  (s (300 + 6 * c + 3) = nI 0 → nat (s (300 + 6 * c + 2)) ≤ 1 + nat (s (95 + nat (s (300 + 6 * c + 1))))) ∧
  ((s (300 + 6 * c + 3) = nI 0 ∨ s (300 + 6 * c + 3) = nI 1) → s (300 + 6 * c + 4) = nI 0) ∧ ((s (300 + 6 * c + 3) = nI 2 ∨ s (300 + 6 * c + 3) = nI 3) → ¬ s (300 + 6 * c + 4) = nI 0)
/-- the granted claims in the order of their decisions: g 0, g 1 ..; the first q of them are paid -/
def isG (s : Nat → Int32) (c : Nat) : Bool := decide (s (300 + 6 * c + 3) = nI 2) || decide (s (300 + 6 * c + 3) = nI 3)
def isQ (s : Nat → Int32) (c : Nat) : Bool := decide (s (300 + 6 * c + 3) = nI 3)
def kG (s : Nat → Int32) (cc : Nat) (g : Nat → Nat) (q n : Nat) : Prop := q ≤ n ∧ n = cntN (isG s) cc ∧ q = cntN (isQ s) cc ∧ (∀ i, i < n → g i < cc) ∧ (∀ i j, i < n → j < n → g i = g j → i = j) ∧ (∀ i, i < n → s (300 + 6 * g i + 3) = if i < q then nI 3 else nI 2) ∧
  (∀ c, c < cc → isG s c = true → ∃ i, i < n ∧ g i = c) ∧ (∀ i j, i < j → j < n → nat (s (300 + 6 * g i + 5)) < nat (s (300 + 6 * g j + 5)))
/-- how many claims are decided; the orders are no greater -/
def kD (s : Nat → Int32) (cc : Nat) : Prop := s 10 = nI (cntN (fun c => !decide (s (300 + 6 * c + 3) = nI 0)) cc) ∧ ∀ c, c < cc → ¬ s (300 + 6 * c + 3) = nI 0 → nat (s (300 + 6 * c + 5)) ≤ nat (s 10)
def amt (s : Nat → Int32) (c : Nat) : Nat := nat (s (300 + 6 * c + 4))
def hld (s : Nat → Int32) (c : Nat) : Nat := nat (s (100 + 10 * nat (s (300 + 6 * c + 0)) + 1))
/-- what was received and paid -/
def kR (s : Nat → Int32) (hc : Nat) (g : Nat → Nat) (q : Nat) : Prop := (∀ h, h < hc → s (20 + 9 * h + 8) = nI (sumN (fun i => if hld s (g i) = h then amt s (g i) else 0) q)) ∧ s 7 = nI (sumN (fun i => amt s (g i)) q)
def twin (s : Nat → Int32) (p r : Nat) : Prop := s (100 + 10 * p + 0) = s (100 + 10 * r + 0) ∧ s (100 + 10 * p + 1) = s (100 + 10 * r + 1) ∧ s (100 + 10 * p + 2) = s (100 + 10 * r + 2)
/-- no two claims are twins; a policy knows whether it has a claim -/
def kU (s : Nat → Int32) (pc cc : Nat) : Prop := (∀ c d, c < cc → d < cc → c ≠ d → ¬ twin s (nat (s (300 + 6 * c + 0))) (nat (s (300 + 6 * d + 0)))) ∧ (∀ p, p < pc → (s (100 + 10 * p + 9) = nI 1 ↔ ∃ c, c < cc ∧ s (300 + 6 * c + 0) = nI p))
/-- money: the setup's and the deposits' is what there is; D bounds the deposits -/
def kM (s : Nat → Int32) (hc D : Nat) : Prop := s 1 + sumI (fun h => s (20 + 9 * h + 7)) hc = s 9 + s 8 ∧ ∃ d, d ≤ D ∧ s 8 = nI d ∧ ∀ h, h < hc → ∃ m, s (20 + 9 * h + 7) = nI m ∧ m ≤ 9999 + d + nat (s 7)
def kS (s : Nat → Int32) (hc ac : Nat) : Prop := (∀ x, x < ac → isN (s (95 + x)) 10) ∧ ∀ h, h < hc → ∃ n, 1 ≤ n ∧ n ≤ 6 ∧ s (20 + 9 * h + 0) = nI n ∧ ∀ k, k < n → ∃ m, 97 ≤ m ∧ m ≤ 122 ∧ s (20 + 9 * h + 1 + k) = nI m
/-- the recorded weather -/
def kW (s : Nat → Int32) (ck : Nat) : Prop := ∀ t, t < ck → isN (s (420 + t)) 151 ∧ isN (s (1420 + t)) 51
/-- all that a row keeps -/
def kAll (s : Nat → Int32) (D ck hc ac pc cc : Nat) (g : Nat → Nat) (q n : Nat) : Prop := kC s ck hc ac pc cc ∧ (∀ p, p < pc → kP s hc p) ∧ (∀ c, c < cc → kK s ac pc c) ∧ kG s cc g q n ∧ kD s cc ∧ kR s hc g q ∧ kU s pc cc ∧ kM s hc D ∧ kS s hc ac ∧ kW s ck
/-! the class's memory against a row -/
def rP (σ : f_M) (b : Nat) (s : Nat → Int32) (p : Nat) : Prop := ((σ (b + 3) p = nI 1 ∧ s (100 + 10 * p + 0) = nI 0 ∧ σ (b + 8) p = s (100 + 10 * p + 5) ∧ σ (b + 9) p = s (100 + 10 * p + 6)) ∨ (σ (b + 3) p = nI 0 ∧ s (100 + 10 * p + 0) = nI 1 ∧ σ (b + 10) p = s (100 + 10 * p + 5))) ∧ σ (b + 4) p = s (100 + 10 * p + 1) ∧ σ (b + 5) p = s (100 + 10 * p + 2) ∧ σ (b + 6) p = s (100 + 10 * p + 3) ∧ σ (b + 7) p = s (100 + 10 * p + 4)
def rB (σ : f_M) (b : Nat) (s : Nat → Int32) (ck pc cc : Nat) : Prop := (∀ t, t < ck → σ (b + 1) t = s (420 + t) ∧ σ (b + 2) t = s (1420 + t)) ∧ (∀ p, p < pc → rP σ b s p) ∧ ∀ c, c < cc → σ (b + 11) c = s (300 + 6 * c + 0) ∧ σ (b + 12) c = s (300 + 6 * c + 1)
def rL (σ : f_M) (a : Nat) (s : Nat → Int32) (hc pc cc : Nat) (g : Nat → Nat) (q n : Nat) : Prop := (σ a 0 = s 0 ∧ σ a 1 = s 1 ∧ σ a 3 = s 4 ∧ σ a 5 = s 5 ∧ σ a 10 = nI n ∧ σ a 11 = nI q ∧ σ a 12 = s 6 ∧ σ a 13 = s 7 ∧ σ a 14 = s 8) ∧ (∀ h, h < hc → σ (a + 1) h = s (20 + 9 * h + 7)) ∧ (∀ p, p < pc → σ (a + 2) p = s (100 + 10 * p + 8)) ∧ (∀ c, c < cc → σ (a + 3) c = s (300 + 6 * c + 3) ∧ σ (a + 4) c = s (300 + 6 * c + 2) ∧ σ (a + 5) c = s (300 + 6 * c + 4)) ∧ ∀ i, i < n → σ (a + 6) i = nI (g i)
def rS (σ : f_M) (a : Nat) (s : Nat → Int32) (hc ac : Nat) : Prop := (σ a 0 = s 2 ∧ σ a 4 = s 3) ∧ (∀ x, x < ac → σ (a + 4) x = s (95 + x)) ∧ (∀ h, h < hc → σ (a + 1) h = s (20 + 9 * h + 0) ∧ ∀ k, k < nat (s (20 + 9 * h + 0)) → σ (a + 2) (6 * h + k) = s (20 + 9 * h + 1 + k)) ∧ s 9 = σ a 6 + sumI (fun h => σ (a + 3) h) hc
