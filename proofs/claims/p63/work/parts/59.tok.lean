/-! Tokens of a text. -/
/-- the first place from p on, before len, where f holds; len if there is none -/
def nxt (f : Nat → Bool) (len p : Nat) : Nat := p + fstN (fun i => f (p + i)) (len - p)
theorem nxt_le {f : Nat → Bool} {len p : Nat} (h : p ≤ len) : p ≤ nxt f len p ∧ nxt f len p ≤ len := by
  have := fstN_le (fun i => f (p + i)) (len - p)
  unfold nxt
  omega
theorem nxt_min {f : Nat → Bool} {len p i : Nat} (h1 : p ≤ i) (h2 : i < nxt f len p) : f i = false := by
  unfold nxt at h2
  have := fstN_min (p := fun i => f (p + i)) (n := len - p) (i := i - p) (by omega)
  rw [show p + (i - p) = i from by omega] at this
  exact this
theorem nxt_at {f : Nat → Bool} {len p : Nat} (h : nxt f len p < len) : f (nxt f len p) = true := by
  unfold nxt at h ⊢
  exact fstN_lt (p := fun i => f (p + i)) (n := len - p) (by omega)
theorem nxt_eq {f : Nat → Bool} {len p k : Nat} (hk : p ≤ k) (hl : k ≤ len) (h1 : ∀ i, p ≤ i → i < k → f i = false) (h2 : k < len → f k = true) : nxt f len p = k := by
  have hp : p ≤ len := by omega
  have hb := nxt_le (f := f) hp
  refine Nat.le_antisymm ?_ ?_
  · refine Nat.le_of_not_lt fun h => ?_
    have := nxt_min hk h
    rw [h2 (by omega)] at this
    exact absurd this (by decide)
  · refine Nat.le_of_not_lt fun h => ?_
    have := h1 _ hb.1 h
    rw [nxt_at (f := f) (len := len) (p := p) (by omega)] at this
    exact absurd this (by decide)
def blk (t : Nat → Int32) (i : Nat) : Bool := decide (t i = nI 32) || decide (t i = nI 10)
def ltr (t : Nat → Int32) (i : Nat) : Bool := !decide (t i < nI 97) && !decide (nI 122 < t i)
def dgt (t : Nat → Int32) (i : Nat) : Bool := !decide (t i < nI 48) && !decide (nI 57 < t i)
def tkS (t : Nat → Int32) (len p : Nat) : Nat := nxt (fun i => !blk t i) len p
def tkE (t : Nat → Int32) (len p : Nat) : Nat := if tkS t len p = len then len else if ltr t (tkS t len p) = true then nxt (fun i => !ltr t i) len (tkS t len p) else if dgt t (tkS t len p) = true then nxt (fun i => !dgt t i) len (tkS t len p) else tkS t len p + 1
def tkK (t : Nat → Int32) (len p : Nat) : Nat := if tkS t len p = len then 0 else if ltr t (tkS t len p) = true then (if tkE t len p - tkS t len p ≤ 8 then 1 else 4) else if dgt t (tkS t len p) = true then (if tkE t len p - tkS t len p ≤ 4 then 2 else 4) else if t (tkS t len p) = nI 59 then 3 else 4
