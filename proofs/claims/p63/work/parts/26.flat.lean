/-! Flat memory: a row of numbers for each cell; a method's run on the abstract machine, said without heaps. -/
abbrev f_M : Type := Nat → Nat → Int32
def f_row (σ : f_M) (a : Nat) (r : Nat → Int32) : f_M := fun b => if b = a then r else σ b
def f_up (σ : f_M) (a i : Nat) (v : Int32) : f_M := f_row σ a (upd (σ a) i v)
/-- a cell's kind: an array (its type, its length, 0 numbers, 1 longs, 2 the ledgers, 3 the rows of a script) or an object (its class; a field: 0 a number, 1 a reference out of the row, k + 2 the cell k) -/
abbrev f_Sh : Type := (FieldType × Nat × Nat) ⊕ (Nat × List Nat)
def f_fld (r : Nat → Int32) (k t : Nat) : Value := match t with
  | 0 => .int (r k)
  | 1 => .ref (r k).toNatClampNeg
  | t + 2 => .ref t
def f_el (kd : Nat) (r : Nat → Int32) : (Nat → Int32) ⊕ (Nat → Int64) ⊕ (Nat → UInt32) ⊕ (Nat → UInt64) ⊕ (Nat → Option Nat) := match kd with
  | 0 => .inl r
  | 1 => .inr (.inl fun i => (r i).toInt64)
  | 2 => .inr (.inr (.inr (.inr fun i => if i < 8 then some (46 + 7 * i) else none)))
  | 4 => .inr (.inr (.inr (.inr fun i => if i < 3 then some (175 + i) else none)))
  | _ => .inr (.inr (.inr (.inr fun i => if i < 30 then some (12 + i) else none)))
def f_cell (sh : f_Sh) (r : Nat → Int32) : a_C := match sh with
  | .inl x => .inl (x.1, x.2.1, f_el x.2.2 r)
  | .inr x => .inr (x.1, x.2.mapIdx fun k t => f_fld r k t)
def f_tab : List f_Sh := [
  .inr (8, [3, 0, 4, 0, 5, 7, 12, 44, 46, 104, 105, 110, 123, 137, 150, 0]),
  .inl (.byte, 600, 0),
  .inl (.byte, 16, 0),
  .inr (7, [1, 0, 0, 0, 0, 0, 0, 0]),
  .inl (.byte, 0, 0),
  .inr (6, [0, 8, 9, 10, 0, 11, 0]),
  .inl (.int, 8, 0),
  .inl (.byte, 48, 0),
  .inl (.int, 8, 0),
  .inl (.int, 3, 0),
  .inr (5, [13, 0]),
  .inl (.array .int, 30, 3),
  .inl (.int, 7, 0),
  .inl (.int, 7, 0),
  .inl (.int, 7, 0),
  .inl (.int, 7, 0),
  .inl (.int, 7, 0),
  .inl (.int, 7, 0),
  .inl (.int, 7, 0),
  .inl (.int, 7, 0),
  .inl (.int, 7, 0),
  .inl (.int, 7, 0),
  .inl (.int, 7, 0),
  .inl (.int, 7, 0),
  .inl (.int, 7, 0),
  .inl (.int, 7, 0),
  .inl (.int, 7, 0),
  .inl (.int, 7, 0),
  .inl (.int, 7, 0),
  .inl (.int, 7, 0),
  .inl (.int, 7, 0),
  .inl (.int, 7, 0),
  .inl (.int, 7, 0),
  .inl (.int, 7, 0),
  .inl (.int, 7, 0),
  .inl (.int, 7, 0),
  .inl (.int, 7, 0),
  .inl (.int, 7, 0),
  .inl (.int, 7, 0),
  .inl (.int, 7, 0),
  .inl (.int, 7, 0),
  .inl (.int, 7, 0),
  .inr (0, [45, 0]),
  .inl (.int, 24, 0),
  .inr (2, [47, 0, 0]),
  .inl (.object RX3, 8, 2),
  .inr (3, [0, 0, 49, 0, 50, 0, 51, 52, 53, 54, 0, 0, 0, 0, 0]),
  .inl (.int, 8, 0),
  .inl (.boolean, 20, 0),
  .inl (.int, 20, 0),
  .inl (.int, 20, 0),
  .inl (.int, 20, 0),
  .inl (.int, 20, 0),
  .inr (3, [0, 0, 56, 0, 57, 0, 58, 59, 60, 61, 0, 0, 0, 0, 0]),
  .inl (.int, 8, 0),
  .inl (.boolean, 20, 0),
  .inl (.int, 20, 0),
  .inl (.int, 20, 0),
  .inl (.int, 20, 0),
  .inl (.int, 20, 0),
  .inr (3, [0, 0, 63, 0, 64, 0, 65, 66, 67, 68, 0, 0, 0, 0, 0]),
  .inl (.int, 8, 0),
  .inl (.boolean, 20, 0),
  .inl (.int, 20, 0),
  .inl (.int, 20, 0),
  .inl (.int, 20, 0),
  .inl (.int, 20, 0),
  .inr (3, [0, 0, 70, 0, 71, 0, 72, 73, 74, 75, 0, 0, 0, 0, 0]),
  .inl (.int, 8, 0),
  .inl (.boolean, 20, 0),
  .inl (.int, 20, 0),
  .inl (.int, 20, 0),
  .inl (.int, 20, 0),
  .inl (.int, 20, 0),
  .inr (3, [0, 0, 77, 0, 78, 0, 79, 80, 81, 82, 0, 0, 0, 0, 0]),
  .inl (.int, 8, 0),
  .inl (.boolean, 20, 0),
  .inl (.int, 20, 0),
  .inl (.int, 20, 0),
  .inl (.int, 20, 0),
  .inl (.int, 20, 0),
  .inr (3, [0, 0, 84, 0, 85, 0, 86, 87, 88, 89, 0, 0, 0, 0, 0]),
  .inl (.int, 8, 0),
  .inl (.boolean, 20, 0),
  .inl (.int, 20, 0),
  .inl (.int, 20, 0),
  .inl (.int, 20, 0),
  .inl (.int, 20, 0),
  .inr (3, [0, 0, 91, 0, 92, 0, 93, 94, 95, 96, 0, 0, 0, 0, 0]),
  .inl (.int, 8, 0),
  .inl (.boolean, 20, 0),
  .inl (.int, 20, 0),
  .inl (.int, 20, 0),
  .inl (.int, 20, 0),
  .inl (.int, 20, 0),
  .inr (3, [0, 0, 98, 0, 99, 0, 100, 101, 102, 103, 0, 0, 0, 0, 0]),
  .inl (.int, 8, 0),
  .inl (.boolean, 20, 0),
  .inl (.int, 20, 0),
  .inl (.int, 20, 0),
  .inl (.int, 20, 0),
  .inl (.int, 20, 0),
  .inr (4, [105, 110, 123, 130]),
  .inr (6, [0, 106, 107, 108, 0, 109, 0]),
  .inl (.int, 8, 0),
  .inl (.byte, 48, 0),
  .inl (.int, 8, 0),
  .inl (.int, 3, 0),
  .inr (1, [111, 112, 113, 114, 115, 116, 117, 118, 119, 120, 121, 122]),
  .inl (.int, 1000, 0),
  .inl (.int, 1000, 0),
  .inl (.boolean, 20, 0),
  .inl (.int, 20, 0),
  .inl (.int, 20, 0),
  .inl (.int, 20, 0),
  .inl (.int, 20, 0),
  .inl (.int, 20, 0),
  .inl (.int, 20, 0),
  .inl (.int, 20, 0),
  .inl (.int, 20, 0),
  .inl (.int, 20, 0),
  .inr (3, [0, 0, 124, 0, 125, 0, 126, 127, 128, 129, 0, 0, 0, 0, 0]),
  .inl (.int, 8, 0),
  .inl (.boolean, 20, 0),
  .inl (.int, 20, 0),
  .inl (.int, 20, 0),
  .inl (.int, 20, 0),
  .inl (.int, 20, 0),
  .inr (3, [0, 0, 131, 0, 132, 0, 133, 134, 135, 136, 0, 0, 0, 0, 0]),
  .inl (.int, 8, 0),
  .inl (.boolean, 20, 0),
  .inl (.int, 20, 0),
  .inl (.int, 20, 0),
  .inl (.int, 20, 0),
  .inl (.int, 20, 0),
  .inr (1, [138, 139, 140, 141, 142, 143, 144, 145, 146, 147, 148, 149]),
  .inl (.int, 1000, 0),
  .inl (.int, 1000, 0),
  .inl (.boolean, 20, 0),
  .inl (.int, 20, 0),
  .inl (.int, 20, 0),
  .inl (.int, 20, 0),
  .inl (.int, 20, 0),
  .inl (.int, 20, 0),
  .inl (.int, 20, 0),
  .inl (.int, 20, 0),
  .inl (.int, 20, 0),
  .inl (.int, 20, 0),
  .inr (3, [0, 0, 151, 0, 152, 0, 153, 154, 155, 156, 0, 0, 0, 0, 0]),
  .inl (.int, 8, 0),
  .inl (.boolean, 20, 0),
  .inl (.int, 20, 0),
  .inl (.int, 20, 0),
  .inl (.int, 20, 0),
  .inl (.int, 20, 0),
  .inr (9, [158, 159, 160, 161, 162, 163, 164, 165, 166, 167, 168, 169, 170, 171, 172, 173, 174, 175, 176, 180, 181, 182, 0, 0, 0, 0, 0, 0, 0, 0, 0, 0, 0]),
  .inl (.int, 4, 0),
  .inl (.int, 4, 0),
  .inl (.int, 3, 0),
  .inl (.int, 20, 0),
  .inl (.int, 20, 0),
  .inl (.int, 20, 0),
  .inl (.int, 20, 0),
  .inl (.int, 20, 0),
  .inl (.int, 20, 0),
  .inl (.int, 20, 0),
  .inl (.int, 20, 0),
  .inl (.int, 20, 0),
  .inl (.boolean, 20, 0),
  .inl (.boolean, 20, 0),
  .inl (.int, 20, 0),
  .inl (.int, 20, 0),
  .inl (.int, 20, 0),
  .inl (.int, 20, 0),
  .inl (.array .int, 3, 4),
  .inl (.int, 20, 0),
  .inl (.int, 20, 0),
  .inl (.int, 20, 0),
  .inl (.int, 3, 0),
  .inl (.int, 3, 0),
  .inl (.int, 20, 0),
  .inl (.int, 5, 0),
  .inl (.int, 5, 0),
  .inl (.int, 5, 0),
  .inl (.int, 5, 0),
  .inl (.int, 5, 0)]
def f_shape (b : Nat) : f_Sh := f_tab.getD b (.inr (99, []))
def f_hp (N : Nat) (σ : f_M) : a_H := (List.range N).map fun b => f_cell (f_shape b) (σ b)
theorem f_hp_len (N : Nat) (σ : f_M) : (f_hp N σ).length = N := by simp [f_hp]
theorem f_hp_get {N : Nat} {σ : f_M} {b : Nat} (h : b < N) : (f_hp N σ)[b]? = some (f_cell (f_shape b) (σ b)) := by simp [f_hp, h]
theorem f_hp_set {N : Nat} {σ : f_M} {b : Nat} {r : Nat → Int32} : (f_hp N σ).set b (f_cell (f_shape b) r) = f_hp N (f_row σ b r) := by
  apply List.ext_getElem?
  intro j
  rw [List.getElem?_set, f_hp_len]
  by_cases hj : j < N
  · rw [f_hp_get hj, f_hp_get hj]
    by_cases hb : b = j
    · subst hb; rw [if_pos rfl, if_pos hj]; simp [f_row]
    · rw [if_neg hb]; simp [f_row, Ne.symm hb]
  · have e : ∀ σ, (f_hp N σ)[j]? = none := fun σ => List.getElem?_eq_none (by rw [f_hp_len]; omega)
    rw [e, e]
    by_cases hb : b = j
    · rw [if_pos hb, if_neg (by omega)]
    · rw [if_neg hb]
/-- a ledger, a setup, a book, a script's row, a state of the model stands at a -/
def f_L (a : Nat) : Prop := f_shape a = .inr (3, [0, 0, a + 1 + 2, 0, a + 2 + 2, 0, a + 3 + 2, a + 4 + 2, a + 5 + 2, a + 6 + 2, 0, 0, 0, 0, 0]) ∧ f_shape (a + 1) = .inl (.int, 8, 0) ∧ f_shape (a + 2) = .inl (.boolean, 20, 0) ∧ f_shape (a + 3) = .inl (.int, 20, 0) ∧ f_shape (a + 4) = .inl (.int, 20, 0) ∧ f_shape (a + 5) = .inl (.int, 20, 0) ∧ f_shape (a + 6) = .inl (.int, 20, 0) ∧ a + 7 ≤ 155
def f_S (a : Nat) : Prop := f_shape a = .inr (6, [0, a + 1 + 2, a + 2 + 2, a + 3 + 2, 0, a + 4 + 2, 0]) ∧ f_shape (a + 1) = .inl (.int, 8, 0) ∧ f_shape (a + 2) = .inl (.byte, 48, 0) ∧ f_shape (a + 3) = .inl (.int, 8, 0) ∧ f_shape (a + 4) = .inl (.int, 3, 0) ∧ a + 5 ≤ 155
def f_B (a : Nat) : Prop := f_shape a = .inr (1, [a + 1 + 2, a + 2 + 2, a + 3 + 2, a + 4 + 2, a + 5 + 2, a + 6 + 2, a + 7 + 2, a + 8 + 2, a + 9 + 2, a + 10 + 2, a + 11 + 2, a + 12 + 2]) ∧ f_shape (a + 1) = .inl (.int, 1000, 0) ∧ f_shape (a + 2) = .inl (.int, 1000, 0) ∧ f_shape (a + 3) = .inl (.boolean, 20, 0) ∧ f_shape (a + 4) = .inl (.int, 20, 0) ∧ f_shape (a + 5) = .inl (.int, 20, 0) ∧ f_shape (a + 6) = .inl (.int, 20, 0) ∧ f_shape (a + 7) = .inl (.int, 20, 0) ∧ f_shape (a + 8) = .inl (.int, 20, 0) ∧ f_shape (a + 9) = .inl (.int, 20, 0) ∧ f_shape (a + 10) = .inl (.int, 20, 0) ∧ f_shape (a + 11) = .inl (.int, 20, 0) ∧ f_shape (a + 12) = .inl (.int, 20, 0) ∧ a + 13 ≤ 155
def f_R (a : Nat) : Prop := f_shape a = .inl (.int, 7, 0) ∧ a + 1 ≤ 155
def f_D (a : Nat) : Prop := f_shape a = .inl (.int, 20, 0) ∧ a + 1 ≤ 181
theorem f_Lk : ∀ j, j < 8 → f_L (46 + 7 * j) := fun j hj => ⟨(by decide +kernel : ∀ j, j < 8 → f_shape (46 + 7 * j) = .inr (3, [0, 0, (46 + 7 * j) + 1 + 2, 0, (46 + 7 * j) + 2 + 2, 0, (46 + 7 * j) + 3 + 2, (46 + 7 * j) + 4 + 2, (46 + 7 * j) + 5 + 2, (46 + 7 * j) + 6 + 2, 0, 0, 0, 0, 0])) j hj, (by decide +kernel : ∀ j, j < 8 → f_shape ((46 + 7 * j) + 1) = .inl (.int, 8, 0)) j hj, (by decide +kernel : ∀ j, j < 8 → f_shape ((46 + 7 * j) + 2) = .inl (.boolean, 20, 0)) j hj, (by decide +kernel : ∀ j, j < 8 → f_shape ((46 + 7 * j) + 3) = .inl (.int, 20, 0)) j hj, (by decide +kernel : ∀ j, j < 8 → f_shape ((46 + 7 * j) + 4) = .inl (.int, 20, 0)) j hj, (by decide +kernel : ∀ j, j < 8 → f_shape ((46 + 7 * j) + 5) = .inl (.int, 20, 0)) j hj, (by decide +kernel : ∀ j, j < 8 → f_shape ((46 + 7 * j) + 6) = .inl (.int, 20, 0)) j hj, (by decide +kernel : ∀ j, j < 8 → (46 + 7 * j) + 7 ≤ 155) j hj⟩
theorem f_Rk : ∀ j, j < 30 → f_R (12 + j) := fun j hj => ⟨(by decide +kernel : ∀ j, j < 30 → f_shape (12 + j) = .inl (.int, 7, 0)) j hj, (by decide +kernel : ∀ j, j < 30 → (12 + j) + 1 ≤ 155) j hj⟩
theorem f_Dk : ∀ j, j < 3 → f_D (175 + j) := fun j hj => ⟨(by decide +kernel : ∀ j, j < 3 → f_shape (175 + j) = .inl (.int, 20, 0)) j hj, (by decide +kernel : ∀ j, j < 3 → (175 + j) + 1 ≤ 181) j hj⟩
theorem f_L121 : f_L 121 := ⟨rfl, rfl, rfl, rfl, rfl, rfl, rfl, by decide⟩
theorem f_L128 : f_L 128 := ⟨rfl, rfl, rfl, rfl, rfl, rfl, rfl, by decide⟩
theorem f_L148 : f_L 148 := ⟨rfl, rfl, rfl, rfl, rfl, rfl, rfl, by decide⟩
theorem f_S5 : f_S 5 := ⟨rfl, rfl, rfl, rfl, rfl, by decide⟩
theorem f_S103 : f_S 103 := ⟨rfl, rfl, rfl, rfl, rfl, by decide⟩
theorem f_B108 : f_B 108 := ⟨rfl, rfl, rfl, rfl, rfl, rfl, rfl, rfl, rfl, rfl, rfl, rfl, rfl, by decide⟩
theorem f_B135 : f_B 135 := ⟨rfl, rfl, rfl, rfl, rfl, rfl, rfl, rfl, rfl, rfl, rfl, rfl, rfl, by decide⟩
theorem f_lt {o m N : Nat} (h : o < m) (hN : m ≤ N) : o < N := Nat.lt_of_lt_of_le h hN
theorem f_bg {o : Nat} (h : o < 1000) : o < a_big := Nat.lt_trans h (by decide)
theorem f_ltL {a N : Nat} (h : f_L a) (hN : 155 ≤ N) (i : Nat) (hi : i < 7) : a + i < N := by have := h.2.2.2.2.2.2.2; omega
theorem f_ltS {a N : Nat} (h : f_S a) (hN : 155 ≤ N) (i : Nat) (hi : i < 5) : a + i < N := by have := h.2.2.2.2.2; omega
theorem f_ltB {a N : Nat} (h : f_B a) (hN : 155 ≤ N) (i : Nat) (hi : i < 13) : a + i < N := by have := h.2.2.2.2.2.2.2.2.2.2.2.2.2; omega
theorem f_ltR {a N : Nat} (h : f_R a) (hN : 155 ≤ N) : a < N := by have := h.2; omega
theorem f_ltD {a N : Nat} (h : f_D a) (hN : 181 ≤ N) : a < N := by have := h.2; omega
theorem f_bgL {a : Nat} (h : f_L a) (i : Nat) (hi : i < 7) : a + i < a_big := by have := h.2.2.2.2.2.2.2; unfold a_big; omega
theorem f_bgS {a : Nat} (h : f_S a) (i : Nat) (hi : i < 5) : a + i < a_big := by have := h.2.2.2.2.2; unfold a_big; omega
theorem f_bgB {a : Nat} (h : f_B a) (i : Nat) (hi : i < 13) : a + i < a_big := by have := h.2.2.2.2.2.2.2.2.2.2.2.2.2; unfold a_big; omega
theorem f_bgR {a : Nat} (h : f_R a) : a < a_big := by have := h.2; unfold a_big; omega
theorem f_bgD {a : Nat} (h : f_D a) : a < a_big := by have := h.2; unfold a_big; omega
 /-! What a flat program may do. -/
def f_b (b : Bool) : Int32 := bif b then 1 else 0
def f_rd (σ : f_M) (a n : Nat) (j : Int32) : Option Int32 := if j < 0 ∨ n ≤ j.toNatClampNeg then none else some (σ a j.toNatClampNeg)
def f_wr (σ : f_M) (a n : Nat) (j v : Int32) : Option f_M := if j < 0 ∨ n ≤ j.toNatClampNeg then none else some (f_up σ a j.toNatClampNeg v)
def f_ix (n : Nat) (j : Int32) : Option Nat := if j < 0 ∨ n ≤ j.toNatClampNeg then none else some j.toNatClampNeg
def f_min (x y : Int32) : Int32 := if y < x then y else x
def f_max (x y : Int32) : Int32 := if x < y then y else x
/-- numbers copied from a row to a row -/
def f_cp (σ : f_M) (ty : FieldType) (a m b n : Nat) (sp dp k : Int32) : Option f_M :=
  if (¬ sp < 0 ∧ ¬ dp < 0 ∧ ¬ k < 0 ∧ sp.toNatClampNeg + k.toNatClampNeg ≤ m ∧ dp.toNatClampNeg + k.toNatClampNeg ≤ n) ∧ ∀ i, i < k.toNatClampNeg → fits ty (.int (σ a (sp.toNatClampNeg + i))) = true
  then some (f_row σ b (va_cpy (σ a) (σ b) sp.toNatClampNeg dp.toNatClampNeg k.toNatClampNeg)) else none
def f_lp {S α : Type} (body : S → Option (S ⊕ α)) : Nat → S → Option α
  | 0, _ => none
  | f + 1, s => (body s).bind fun z => Sum.elim (fun s' => f_lp body f s') (fun a => some a) z
def f_F : Nat := 100000
def w_sb : List (List Int32) := [
  [104,111,108,100,101,114,32,97,110,110,32,50,48,48,59,104,111,108,100,101,114,32,98,111,98,32,54,48,59,104,111,108,100,101,114,32,99,105,100,32,53,48,48,59,97,115,115,101,115,115,111,114,32,48,59,97,115,115,101,115,115,111,114,32,52,59,114,101,115,101,114,118,101,32,51,48,48,59],
  [97,110,110,32,98,111,98,32,99,105,100,32],
  [104,111,108,100,101,114],
  [97,115,115,101,115,115,111,114],
  [114,101,115,101,114,118,101],
  [104,111,117,114,115],
  [107,105,116,101],
  [112,105,99,110,105,99],
  [99,108,97,105,109],
  [100,101,112,111,115,105,116],
  [63,45,43,61]]
def w_sl : List Nat := [78, 12, 6, 8, 7, 5, 4, 6, 5, 7, 4]
def f_sl (w : Nat) : Int32 := nI (w_sl.getD w 0)
def f_ch (w : Nat) (k : Int32) : Option Int32 := if k < 0 ∨ w_sl.getD w 0 ≤ k.toNatClampNeg then none else some ((w_sb.getD w []).getD k.toNatClampNeg 0 &&& 255)
def f_okw (w : Nat) : Bool := w == 0 || w == 2 || w == 3 || w == 4
theorem f_okw_e (xs : Nat → Int32) {w : Nat} (h : f_okw w = true) : w < 7 ∧ w < a_tn xs ∧ (a_sl xs).getD w 0 = w_sl.getD w 0 ∧ (a_sb xs).getD w [] = w_sb.getD w [] := by
  have h7 : w < 7 := by
    unfold f_okw at h
    simp only [Bool.or_eq_true, beq_iff_eq] at h
    omega
  have ht : 7 ≤ a_tn xs := by unfold a_tn; split <;> omega
  refine ⟨h7, by omega, ?_, ?_⟩
  · rw [a_sl_lo xs h7]
    exact (by decide : ∀ w, w < 7 → f_okw w = true → a_slC.getD w 0 = w_sl.getD w 0) w h7 h
  · rw [a_sb_lo xs h7]
    exact (by decide +kernel : ∀ w, w < 7 → f_okw w = true → a_sbC.getD w [] = w_sb.getD w []) w h7 h
def f_tl (xs : Nat → Int32) : Int32 := nI (a_tl xs)
def f_tc (xs : Nat → Int32) (k : Int32) : Option Int32 := if k < 0 ∨ a_tl xs ≤ k.toNatClampNeg then none else some ((a_tb xs).getD k.toNatClampNeg 0 &&& 255)
/-! Runs. -/
abbrev f_W : Type := a_R × f_M
section A26
variable {MT : Nat → Option a_Md} {xs : Nat → Int32} {L N N2 : Nat} {q y : a_Md} {pc pc' len a b : Nat} {ls ls' st r vs : List Value} {σ σ' : f_M} {c n c' n' : Nat} {o o' : Option f_W} {α β : Type}
theorem a_ex_mono {K K' : Nat → List Value → a_H → Option (a_R × a_H)} (hK : ∀ i vs h w, K i vs h = some w → K' i vs h = some w) : ∀ (f f' pc : Nat) (ls st : List Value) (h : a_H) (c n : Nat) (w : a_R × a_H), f ≤ f' → a_ex K MT xs L q f pc ls st h c n = some w → a_ex K' MT xs L q f' pc ls st h c n = some w := by
  intro f
  induction f with
  | zero => intro f' pc ls st h c n w _ e; cases e
  | succ f ih =>
    intro f' pc ls st h c n w hf e
    obtain ⟨g, rfl⟩ : ∃ g, f' = g + 1 := ⟨f' - 1, by omega⟩
    unfold a_ex at e ⊢
    split at e
    · cases e
    · rename_i z h1
      exact ih g _ _ _ _ _ _ _ (by omega) e
    · rename_i z h1
      exact e
    · rename_i z h1
      split at e
      · rename_i y v h' hy hk
        rw [hy, hK _ _ _ _ hk]
        exact ih g _ _ _ _ _ _ _ (by omega) e
      · rename_i y k h' hy hk
        rw [hy, hK _ _ _ _ hk]
        exact e
      · cases e
theorem a_run_mono {F F' : Nat} (hF : F ≤ F') : ∀ (d d' i : Nat) (vs : List Value) (h : a_H) (w : a_R × a_H), d ≤ d' → a_run MT xs L F d i vs h = some w → a_run MT xs L F' d' i vs h = some w := by
  intro d
  induction d with
  | zero => intro d' i vs h w _ e; cases e
  | succ d ih =>
    intro d' i vs h w hd e
    obtain ⟨g, rfl⟩ : ∃ g, d' = g + 1 := ⟨d' - 1, by omega⟩
    unfold a_run at e ⊢
    split at e
    · cases e
    · rename_i q hq
      split at e
      · rename_i hl
        rw [if_pos hl]
        exact a_ex_mono (fun i vs h w e => ih g i vs h w (by omega) e) F F' _ _ _ _ _ _ _ hF e
      · cases e
def f_ok (MT : Nat → Option a_Md) (xs : Nat → Int32) (L : Nat) (q : a_Md) (pc : Nat) (ls st : List Value) (h : a_H) (c n : Nat) (w : a_R × a_H) : Prop := ∃ F d f, a_ex (a_run MT xs L F d) MT xs L q f pc ls st h c n = some w
def f_Sim (MT : Nat → Option a_Md) (xs : Nat → Int32) (L N N2 : Nat) (q : a_Md) (pc : Nat) (ls st : List Value) (σ : f_M) (c n : Nat) (o : Option f_W) : Prop := ∀ w, o = some w → f_ok MT xs L q pc ls st (f_hp N σ) c n (w.1, f_hp N2 w.2)
def f_Cal (MT : Nat → Option a_Md) (xs : Nat → Int32) (L N i : Nat) (vs : List Value) (σ : f_M) (o : Option f_W) : Prop := ∀ w, o = some w → ∃ F d, a_run MT xs L F d i vs (f_hp N σ) = some (w.1, f_hp N w.2)
theorem f_cal_of {i : Nat} (hq : MT i = some q) (hl : (a_ent vs).length ≤ m_nL q) (he : a_loc (m_nL q) vs = ls) (S : f_Sim MT xs L N N q 0 ls [] σ (m_kc q) (m_kn q) o) : f_Cal MT xs L N i vs σ o := by
  intro w hw
  obtain ⟨F, d, f, e⟩ := S w hw
  refine ⟨max F f, d + 1, ?_⟩
  unfold a_run
  rw [hq]
  dsimp only
  rw [if_pos hl, he]
  exact a_ex_mono (fun i vs h w e => a_run_mono (Nat.le_max_left F f) d d i vs h w (Nat.le_refl _) e) f _ _ _ _ _ _ _ _ (Nat.le_max_right F f) e
theorem f_none : f_Sim MT xs L N N2 q pc ls st σ c n none := fun w h => by cases h
theorem f_stp (h1 : a_1 MT xs L q pc ls st (f_hp N σ) c n = some (.inl (pc', ls', r, f_hp N σ', c', n'))) (K : f_Sim MT xs L N N2 q pc' ls' r σ' c' n' o) : f_Sim MT xs L N N2 q pc ls st σ c n o := by
  intro w hw
  obtain ⟨F, d, f, e⟩ := K w hw
  exact ⟨F, d, f + 1, by unfold a_ex; rw [h1]; exact e⟩
theorem f_end {w : f_W} (h1 : a_1 MT xs L q pc ls st (f_hp N σ) c n = some (.inr (.inr (w.1, f_hp N w.2)))) : f_Sim MT xs L N N q pc ls st σ c n (some w) := by
  intro w' hw
  cases hw
  exact ⟨0, 0, 1, by unfold a_ex; rw [h1]⟩
/-! plain instructions -/
theorem i_iconst {k : Int} {v : Int32} (hat : a_at (m_is q) pc = some (.iconst k, len, a, b)) (hv : Int32.ofInt k = v) (hp : pc + 1 = pc') (K : f_Sim MT xs L N N2 q pc' ls (.int v :: st) σ c n o) : f_Sim MT xs L N N2 q pc ls st σ c n o := by
  subst hv hp
  exact f_stp (by unfold a_1; rw [hat]; rfl) K
theorem i_bipush {k : Int} {v : Int32} (hat : a_at (m_is q) pc = some (.bipush k, len, a, b)) (hv : (Int8.ofInt k).toInt32 = v) (hp : pc + 2 = pc') (K : f_Sim MT xs L N N2 q pc' ls (.int v :: st) σ c n o) : f_Sim MT xs L N N2 q pc ls st σ c n o := by
  subst hv hp
  exact f_stp (by unfold a_1; rw [hat]; rfl) K
theorem i_sipush {k : Int} {v : Int32} (hat : a_at (m_is q) pc = some (.sipush k, len, a, b)) (hv : (Int16.ofInt k).toInt32 = v) (hp : pc + 3 = pc') (K : f_Sim MT xs L N N2 q pc' ls (.int v :: st) σ c n o) : f_Sim MT xs L N N2 q pc ls st σ c n o := by
  subst hv hp
  exact f_stp (by unfold a_1; rw [hat]; rfl) K
theorem i_lconst {k : Fin 2} {v : Int64} (hat : a_at (m_is q) pc = some (.lconst k, len, a, b)) (hv : Int64.ofNat (k : Nat) = v) (hp : pc + 1 = pc') (K : f_Sim MT xs L N N2 q pc' ls (.long v :: st) σ c n o) : f_Sim MT xs L N N2 q pc ls st σ c n o := by
  subst hv hp
  exact f_stp (by unfold a_1; rw [hat]; rfl) K
theorem i_ldc2_w {k : Nat} {v : Int64} (hat : a_at (m_is q) pc = some (.ldc2_w k, len, a, b)) (hv : Int64.ofNat a = v) (hp : pc + 3 = pc') (K : f_Sim MT xs L N N2 q pc' ls (.long v :: st) σ c n o) : f_Sim MT xs L N N2 q pc ls st σ c n o := by
  subst hv hp
  exact f_stp (by unfold a_1; rw [hat]; rfl) K
theorem a_nd {a : Nat} (h : a < a_big) : ¬ (a = a_big + 500 ∨ a = a_big + 501) := by omega
theorem i_ldc {k : Nat} (hat : a_at (m_is q) pc = some (.ldc k, len, a, b)) (hp : pc + 2 = pc') (K : f_Sim MT xs L N N2 q pc' ls (.ref (a_big + 1 + a) :: st) σ c n o) (ha9 : ¬ a_big ≤ a := by decide) : f_Sim MT xs L N N2 q pc ls st σ c n o := by
  subst hp
  exact f_stp (by unfold a_1; rw [hat]; simp only [a_ins, if_neg ha9, Option.map_some]) K
theorem i_ldc_w {k : Nat} (hat : a_at (m_is q) pc = some (.ldc_w k, len, a, b)) (hp : pc + 3 = pc') (K : f_Sim MT xs L N N2 q pc' ls (.ref (a_big + 1 + a) :: st) σ c n o) : f_Sim MT xs L N N2 q pc ls st σ c n o := by
  subst hp
  exact f_stp (by unfold a_1; rw [hat]; rfl) K
theorem i_fconst (hat : a_at (m_is q) pc = some (.fconst 0, len, a, b)) (hp : pc + 1 = pc') (K : f_Sim MT xs L N N2 q pc' ls (.float FP.fconst0 :: st) σ c n o) : f_Sim MT xs L N N2 q pc ls st σ c n o := by
  subst hp
  exact f_stp (by unfold a_1; rw [hat]; rfl) K
theorem i_dconst (hat : a_at (m_is q) pc = some (.dconst 0, len, a, b)) (hp : pc + 1 = pc') (K : f_Sim MT xs L N N2 q pc' ls (.double FP.dconst0 :: st) σ c n o) : f_Sim MT xs L N N2 q pc ls st σ c n o := by
  subst hp
  exact f_stp (by unfold a_1; rw [hat]; rfl) K
theorem i_iload {k : Nat} {x : Int32} (hat : a_at (m_is q) pc = some (.iload k, len, a, b)) (hl : ls[k]? = some (.int x)) (hp : pc + 2 = pc') (K : f_Sim MT xs L N N2 q pc' ls (.int x :: st) σ c n o) : f_Sim MT xs L N N2 q pc ls st σ c n o := by
  subst hp
  exact f_stp (by unfold a_1; rw [hat]; simp only [a_ins, a_ldI, hl, Option.map_some]) K
theorem i_iload_n {k : Fin 4} {x : Int32} (hat : a_at (m_is q) pc = some (.iload_n k, len, a, b)) (hl : ls[(k : Nat)]? = some (.int x)) (hp : pc + 1 = pc') (K : f_Sim MT xs L N N2 q pc' ls (.int x :: st) σ c n o) : f_Sim MT xs L N N2 q pc ls st σ c n o := by
  subst hp
  exact f_stp (by unfold a_1; rw [hat]; simp only [a_ins, a_ldI, hl, Option.map_some]) K
theorem i_lload {k : Nat} {x : Int64} (hat : a_at (m_is q) pc = some (.lload k, len, a, b)) (hl : ls[k]? = some (.long x)) (hp : pc + 2 = pc') (K : f_Sim MT xs L N N2 q pc' ls (.long x :: st) σ c n o) : f_Sim MT xs L N N2 q pc ls st σ c n o := by
  subst hp
  exact f_stp (by unfold a_1; rw [hat]; simp only [a_ins, a_ldL, hl, Option.map_some]) K
theorem i_lload_n {k : Fin 4} {x : Int64} (hat : a_at (m_is q) pc = some (.lload_n k, len, a, b)) (hl : ls[(k : Nat)]? = some (.long x)) (hp : pc + 1 = pc') (K : f_Sim MT xs L N N2 q pc' ls (.long x :: st) σ c n o) : f_Sim MT xs L N N2 q pc ls st σ c n o := by
  subst hp
  exact f_stp (by unfold a_1; rw [hat]; simp only [a_ins, a_ldL, hl, Option.map_some]) K
theorem i_dload {k : Nat} {x : UInt64} (hat : a_at (m_is q) pc = some (.dload k, len, a, b)) (hl : ls[k]? = some (.double x)) (hp : pc + 2 = pc') (K : f_Sim MT xs L N N2 q pc' ls (.double x :: st) σ c n o) : f_Sim MT xs L N N2 q pc ls st σ c n o := by
  subst hp
  exact f_stp (by unfold a_1; rw [hat]; simp only [a_ins, a_ldD, hl, Option.map_some]) K
theorem i_aload {k : Nat} {x : Nat} (hat : a_at (m_is q) pc = some (.aload k, len, a, b)) (hl : ls[k]? = some (.ref x)) (hp : pc + 2 = pc') (K : f_Sim MT xs L N N2 q pc' ls (.ref x :: st) σ c n o) : f_Sim MT xs L N N2 q pc ls st σ c n o := by
  subst hp
  exact f_stp (by unfold a_1; rw [hat]; simp only [a_ins, a_ldA, hl, Option.map_some]) K
theorem i_aload_n {k : Fin 4} {x : Nat} (hat : a_at (m_is q) pc = some (.aload_n k, len, a, b)) (hl : ls[(k : Nat)]? = some (.ref x)) (hp : pc + 1 = pc') (K : f_Sim MT xs L N N2 q pc' ls (.ref x :: st) σ c n o) : f_Sim MT xs L N N2 q pc ls st σ c n o := by
  subst hp
  exact f_stp (by unfold a_1; rw [hat]; simp only [a_ins, a_ldA, hl, Option.map_some]) K
theorem i_istore {k : Nat} {x : Int32} (hat : a_at (m_is q) pc = some (.istore k, len, a, b)) (hk : k < ls.length) (hs : a_sto ls k (.int x) = ls') (hp : pc + 2 = pc') (K : f_Sim MT xs L N N2 q pc' ls' st σ c n o) : f_Sim MT xs L N N2 q pc ls (.int x :: st) σ c n o := by
  subst hp hs
  exact f_stp (by unfold a_1; rw [hat]; simp only [a_ins, hk, if_true, Option.map_some]) K
theorem i_istore_n {k : Fin 4} {x : Int32} (hat : a_at (m_is q) pc = some (.istore_n k, len, a, b)) (hk : (k : Nat) < ls.length) (hs : a_sto ls k (.int x) = ls') (hp : pc + 1 = pc') (K : f_Sim MT xs L N N2 q pc' ls' st σ c n o) : f_Sim MT xs L N N2 q pc ls (.int x :: st) σ c n o := by
  subst hp hs
  exact f_stp (by unfold a_1; rw [hat]; simp only [a_ins, hk, if_true, Option.map_some]) K
theorem i_astore {k : Nat} {x : Nat} (hat : a_at (m_is q) pc = some (.astore k, len, a, b)) (hk : k < ls.length) (hs : a_sto ls k (.ref x) = ls') (hp : pc + 2 = pc') (K : f_Sim MT xs L N N2 q pc' ls' st σ c n o) : f_Sim MT xs L N N2 q pc ls (.ref x :: st) σ c n o := by
  subst hp hs
  exact f_stp (by unfold a_1; rw [hat]; simp only [a_ins, hk, if_true, Option.map_some]) K
theorem i_astore_n {k : Fin 4} {x : Nat} (hat : a_at (m_is q) pc = some (.astore_n k, len, a, b)) (hk : (k : Nat) < ls.length) (hs : a_sto ls k (.ref x) = ls') (hp : pc + 1 = pc') (K : f_Sim MT xs L N N2 q pc' ls' st σ c n o) : f_Sim MT xs L N N2 q pc ls (.ref x :: st) σ c n o := by
  subst hp hs
  exact f_stp (by unfold a_1; rw [hat]; simp only [a_ins, hk, if_true, Option.map_some]) K
theorem i_dstore {k : Nat} {x : UInt64} (hat : a_at (m_is q) pc = some (.dstore k, len, a, b)) (hk : k + 1 < ls.length) (hs : a_sto ls k (.double x) = ls') (hp : pc + 2 = pc') (K : f_Sim MT xs L N N2 q pc' ls' st σ c n o) : f_Sim MT xs L N N2 q pc ls (.double x :: st) σ c n o := by
  subst hp hs
  exact f_stp (by unfold a_1; rw [hat]; simp only [a_ins, hk, if_true, Option.map_some]) K
theorem i_iinc {k : Nat} {d : Int} {x v : Int32} (hat : a_at (m_is q) pc = some (.iinc k d, len, a, b)) (hl : ls[k]? = some (.int x)) (hv : Int32.ofInt d = v) (hs : a_sto ls k (.int (x + v)) = ls') (hp : pc + 3 = pc') (K : f_Sim MT xs L N N2 q pc' ls' st σ c n o) : f_Sim MT xs L N N2 q pc ls st σ c n o := by
  subst hp hs hv
  exact f_stp (by unfold a_1; rw [hat]; simp only [a_ins, hl, Option.map_some]) K
theorem i_iadd {x y : Int32} (hat : a_at (m_is q) pc = some (.iadd, len, a, b)) (hp : pc + 1 = pc') (K : f_Sim MT xs L N N2 q pc' ls (.int (x + y) :: st) σ c n o) : f_Sim MT xs L N N2 q pc ls (.int y :: .int x :: st) σ c n o := by
  subst hp
  exact f_stp (by unfold a_1; rw [hat]; rfl) K
theorem i_isub {x y : Int32} (hat : a_at (m_is q) pc = some (.isub, len, a, b)) (hp : pc + 1 = pc') (K : f_Sim MT xs L N N2 q pc' ls (.int (x - y) :: st) σ c n o) : f_Sim MT xs L N N2 q pc ls (.int y :: .int x :: st) σ c n o := by
  subst hp
  exact f_stp (by unfold a_1; rw [hat]; rfl) K
theorem i_imul {x y : Int32} (hat : a_at (m_is q) pc = some (.imul, len, a, b)) (hp : pc + 1 = pc') (K : f_Sim MT xs L N N2 q pc' ls (.int (x * y) :: st) σ c n o) : f_Sim MT xs L N N2 q pc ls (.int y :: .int x :: st) σ c n o := by
  subst hp
  exact f_stp (by unfold a_1; rw [hat]; rfl) K
theorem i_idiv {x y : Int32} (hat : a_at (m_is q) pc = some (.idiv, len, a, b)) (hy : ¬ y = 0) (hp : pc + 1 = pc') (K : f_Sim MT xs L N N2 q pc' ls (.int (x / y) :: st) σ c n o) : f_Sim MT xs L N N2 q pc ls (.int y :: .int x :: st) σ c n o := by
  subst hp
  exact f_stp (by unfold a_1; rw [hat]; simp only [a_ins, hy, if_false, Option.map_some]) K
theorem i_irem {x y : Int32} (hat : a_at (m_is q) pc = some (.irem, len, a, b)) (hy : ¬ y = 0) (hp : pc + 1 = pc') (K : f_Sim MT xs L N N2 q pc' ls (.int (x - x / y * y) :: st) σ c n o) : f_Sim MT xs L N N2 q pc ls (.int y :: .int x :: st) σ c n o := by
  subst hp
  exact f_stp (by unfold a_1; rw [hat]; simp only [a_ins, hy, if_false, Option.map_some]) K
theorem i_ior {x y : Int32} (hat : a_at (m_is q) pc = some (.ior, len, a, b)) (hp : pc + 1 = pc') (K : f_Sim MT xs L N N2 q pc' ls (.int (x ||| y) :: st) σ c n o) : f_Sim MT xs L N N2 q pc ls (.int y :: .int x :: st) σ c n o := by
  subst hp
  exact f_stp (by unfold a_1; rw [hat]; rfl) K
theorem i_ishl {x y : Int32} (hat : a_at (m_is q) pc = some (.ishl, len, a, b)) (hp : pc + 1 = pc') (K : f_Sim MT xs L N N2 q pc' ls (.int (x <<< (y &&& 31)) :: st) σ c n o) : f_Sim MT xs L N N2 q pc ls (.int y :: .int x :: st) σ c n o := by
  subst hp
  exact f_stp (by unfold a_1; rw [hat]; rfl) K
theorem i_iand {x y : Int32} (hat : a_at (m_is q) pc = some (.iand, len, a, b)) (hp : pc + 1 = pc') (K : f_Sim MT xs L N N2 q pc' ls (.int (x &&& y) :: st) σ c n o) : f_Sim MT xs L N N2 q pc ls (.int y :: .int x :: st) σ c n o := by
  subst hp
  exact f_stp (by unfold a_1; rw [hat]; rfl) K
theorem i_ishr {x y : Int32} (hat : a_at (m_is q) pc = some (.ishr, len, a, b)) (hp : pc + 1 = pc') (K : f_Sim MT xs L N N2 q pc' ls (.int (x >>> (y &&& 31)) :: st) σ c n o) : f_Sim MT xs L N N2 q pc ls (.int y :: .int x :: st) σ c n o := by
  subst hp
  exact f_stp (by unfold a_1; rw [hat]; rfl) K
theorem i_iushr {x y : Int32} (hat : a_at (m_is q) pc = some (.iushr, len, a, b)) (hp : pc + 1 = pc') (K : f_Sim MT xs L N N2 q pc' ls (.int (x.toUInt32 >>> (y.toUInt32 &&& Int32.toUInt32 31)).toInt32 :: st) σ c n o) : f_Sim MT xs L N N2 q pc ls (.int y :: .int x :: st) σ c n o := by
  subst hp
  exact f_stp (by unfold a_1; rw [hat]; rfl) K
theorem i_i2l {x : Int32} (hat : a_at (m_is q) pc = some (.i2l, len, a, b)) (hp : pc + 1 = pc') (K : f_Sim MT xs L N N2 q pc' ls (.long x.toInt64 :: st) σ c n o) : f_Sim MT xs L N N2 q pc ls (.int x :: st) σ c n o := by
  subst hp
  exact f_stp (by unfold a_1; rw [hat]; rfl) K
theorem i_i2b {x : Int32} (hat : a_at (m_is q) pc = some (.i2b, len, a, b)) (hp : pc + 1 = pc') (K : f_Sim MT xs L N N2 q pc' ls (.int x.toInt8.toInt32 :: st) σ c n o) : f_Sim MT xs L N N2 q pc ls (.int x :: st) σ c n o := by
  subst hp
  exact f_stp (by unfold a_1; rw [hat]; rfl) K
theorem i_i2d {x : Int32} (hat : a_at (m_is q) pc = some (.i2d, len, a, b)) (hp : pc + 1 = pc') (K : f_Sim MT xs L N N2 q pc' ls (.double (FP.i2d x) :: st) σ c n o) : f_Sim MT xs L N N2 q pc ls (.int x :: st) σ c n o := by
  subst hp
  exact f_stp (by unfold a_1; rw [hat]; rfl) K
theorem i_i2f {x : Int32} (hat : a_at (m_is q) pc = some (.i2f, len, a, b)) (hp : pc + 1 = pc') (K : f_Sim MT xs L N N2 q pc' ls (.float (FP.i2f x) :: st) σ c n o) : f_Sim MT xs L N N2 q pc ls (.int x :: st) σ c n o := by
  subst hp
  exact f_stp (by unfold a_1; rw [hat]; rfl) K
theorem i_lcmp {x y : Int64} (hat : a_at (m_is q) pc = some (.lcmp, len, a, b)) (hp : pc + 1 = pc') (K : f_Sim MT xs L N N2 q pc' ls (.int (lg_cmp x y) :: st) σ c n o) : f_Sim MT xs L N N2 q pc ls (.long y :: .long x :: st) σ c n o := by
  subst hp
  exact f_stp (by unfold a_1; rw [hat]; rfl) K
theorem i_dup {v : Value} (hat : a_at (m_is q) pc = some (.dup, len, a, b)) (hv : v.category = 1) (hp : pc + 1 = pc') (K : f_Sim MT xs L N N2 q pc' ls (v :: v :: st) σ c n o) : f_Sim MT xs L N N2 q pc ls (v :: st) σ c n o := by
  subst hp
  exact f_stp (by unfold a_1; rw [hat]; simp only [a_ins, hv, if_true, Option.map_some]) K
theorem i_dup2 {v w : Value} (hat : a_at (m_is q) pc = some (.dup2, len, a, b)) (hv : v.category = 1 ∧ w.category = 1) (hp : pc + 1 = pc') (K : f_Sim MT xs L N N2 q pc' ls (v :: w :: v :: w :: st) σ c n o) : f_Sim MT xs L N N2 q pc ls (v :: w :: st) σ c n o := by
  subst hp
  exact f_stp (by unfold a_1; rw [hat]; simp only [a_ins, hv, and_self, if_true, Option.map_some]) K
theorem i_pop {v : Value} (hat : a_at (m_is q) pc = some (.pop, len, a, b)) (hv : v.category = 1) (hp : pc + 1 = pc') (K : f_Sim MT xs L N N2 q pc' ls st σ c n o) : f_Sim MT xs L N N2 q pc ls (v :: st) σ c n o := by
  subst hp
  exact f_stp (by unfold a_1; rw [hat]; simp only [a_ins, hv, if_true, Option.map_some]) K
theorem i_goto {off : Int} (hat : a_at (m_is q) pc = some (.goto off, len, a, b)) (hp : 0 ≤ (pc : Int) + off ∧ ((pc : Int) + off).toNat = pc') (K : f_Sim MT xs L N N2 q pc' ls st σ c n o) : f_Sim MT xs L N N2 q pc ls st σ c n o := by
  obtain ⟨h0, rfl⟩ := hp
  exact f_stp (by unfold a_1; rw [hat]; simp only [a_ins, h0, if_true, Option.map_some]) K
/-! branches -/
theorem i_if0 {cnd : ClassFile.Cond} {off : Int} {x : Int32} {P : Prop} [Decidable P] {A B : Option α} {k : α → Option f_W} {nx : Nat} (hc : a_c0 cnd x = true ↔ P) (hat : a_at (m_is q) pc = some (.ifCond cnd off, len, a, b)) (hp : (0 ≤ (pc : Int) + off ∧ ((pc : Int) + off).toNat = pc') ∧ pc + 3 = nx)
    (K1 : P → f_Sim MT xs L N N2 q pc' ls st σ c n (A.bind k)) (K2 : ¬ P → f_Sim MT xs L N N2 q nx ls st σ c n (B.bind k)) : f_Sim MT xs L N N2 q pc ls (.int x :: st) σ c n ((if P then A else B).bind k) := by
  obtain ⟨⟨h0, rfl⟩, rfl⟩ := hp
  by_cases h : P
  · rw [if_pos h]
    exact f_stp (by unfold a_1; rw [hat]; simp only [a_ins, h0, hc.mpr h, if_true, Option.map_some]) (K1 h)
  · rw [if_neg h]
    have : a_c0 cnd x = false := by cases e : a_c0 cnd x with | false => rfl | true => exact absurd (hc.mp e) h
    exact f_stp (by unfold a_1; rw [hat]; simp only [a_ins, h0, this, if_true, Option.map_some]; rfl) (K2 h)
theorem i_if2 {cnd : ClassFile.Cond} {off : Int} {x y : Int32} {P : Prop} [Decidable P] {A B : Option α} {k : α → Option f_W} {nx : Nat} (hc : a_c2 cnd x y = true ↔ P) (hat : a_at (m_is q) pc = some (.if_icmp cnd off, len, a, b)) (hp : (0 ≤ (pc : Int) + off ∧ ((pc : Int) + off).toNat = pc') ∧ pc + 3 = nx)
    (K1 : P → f_Sim MT xs L N N2 q pc' ls st σ c n (A.bind k)) (K2 : ¬ P → f_Sim MT xs L N N2 q nx ls st σ c n (B.bind k)) : f_Sim MT xs L N N2 q pc ls (.int y :: .int x :: st) σ c n ((if P then A else B).bind k) := by
  obtain ⟨⟨h0, rfl⟩, rfl⟩ := hp
  by_cases h : P
  · rw [if_pos h]
    exact f_stp (by unfold a_1; rw [hat]; simp only [a_ins, h0, hc.mpr h, if_true, Option.map_some]) (K1 h)
  · rw [if_neg h]
    have : a_c2 cnd x y = false := by cases e : a_c2 cnd x y with | false => rfl | true => exact absurd (hc.mp e) h
    exact f_stp (by unfold a_1; rw [hat]; simp only [a_ins, h0, this, if_true, Option.map_some]; rfl) (K2 h)
/-- a branch that is known -/
theorem i_ifT {cnd : ClassFile.Cond} {off : Int} {x : Int32} (hc : a_c0 cnd x = true) (hat : a_at (m_is q) pc = some (.ifCond cnd off, len, a, b)) (hp : 0 ≤ (pc : Int) + off ∧ ((pc : Int) + off).toNat = pc') (K : f_Sim MT xs L N N2 q pc' ls st σ c n o) : f_Sim MT xs L N N2 q pc ls (.int x :: st) σ c n o := by
  obtain ⟨h0, rfl⟩ := hp
  exact f_stp (by unfold a_1; rw [hat]; simp only [a_ins, h0, hc, if_true, Option.map_some]) K
theorem i_ifN {cnd : ClassFile.Cond} {off : Int} {x : Int32} (hc : a_c0 cnd x = false) (hat : a_at (m_is q) pc = some (.ifCond cnd off, len, a, b)) (hp : 0 ≤ (pc : Int) + off ∧ pc + 3 = pc') (K : f_Sim MT xs L N N2 q pc' ls st σ c n o) : f_Sim MT xs L N N2 q pc ls (.int x :: st) σ c n o := by
  obtain ⟨h0, rfl⟩ := hp
  exact f_stp (by unfold a_1; rw [hat]; simp only [a_ins, h0, hc, if_true, Option.map_some]; rfl) K
theorem c0_lt {x : Int32} : a_c0 .lt x = true ↔ x < 0 := decide_eq_true_iff
theorem c0_le {x : Int32} : a_c0 .le x = true ↔ x ≤ 0 := decide_eq_true_iff
theorem c0_gt {x : Int32} : a_c0 .gt x = true ↔ 0 < x := decide_eq_true_iff
theorem c0_ge {x : Int32} : a_c0 .ge x = true ↔ 0 ≤ x := decide_eq_true_iff
theorem c0_eq {x : Int32} : a_c0 .eq x = true ↔ x = 0 := decide_eq_true_iff
theorem c0_ne {x : Int32} : a_c0 .ne x = true ↔ ¬ x = 0 := decide_eq_true_iff
theorem c2_lt {x y : Int32} : a_c2 .lt x y = true ↔ x < y := decide_eq_true_iff
theorem c2_le {x y : Int32} : a_c2 .le x y = true ↔ x ≤ y := decide_eq_true_iff
theorem c2_gt {x y : Int32} : a_c2 .gt x y = true ↔ y < x := decide_eq_true_iff
theorem c2_ge {x y : Int32} : a_c2 .ge x y = true ↔ y ≤ x := decide_eq_true_iff
theorem c2_eq {x y : Int32} : a_c2 .eq x y = true ↔ x = y := decide_eq_true_iff
theorem c2_ne {x y : Int32} : a_c2 .ne x y = true ↔ ¬ x = y := decide_eq_true_iff
theorem cb_eq {b : Bool} : a_c0 .eq (f_b b) = true ↔ b = false := by cases b <;> decide
theorem cb_ne {b : Bool} : a_c0 .ne (f_b b) = true ↔ b = true := by cases b <;> decide
/-! a guard -/
theorem i_grd {P : Prop} [Decidable P] {A : Option α} {k : α → Option f_W} (K : P → f_Sim MT xs L N N2 q pc ls st σ c n (A.bind k)) : f_Sim MT xs L N N2 q pc ls st σ c n ((if P then A else none).bind k) := by
  by_cases h : P
  · rw [if_pos h]; exact K h
  · rw [if_neg h]; exact f_none
theorem i_grn {P : Prop} [Decidable P] {A : Option α} {k : α → Option f_W} (K : ¬ P → f_Sim MT xs L N N2 q pc ls st σ c n (A.bind k)) : f_Sim MT xs L N N2 q pc ls st σ c n ((if P then none else A).bind k) := by
  by_cases h : P
  · rw [if_pos h]; exact f_none
  · rw [if_neg h]; exact K h
/-! fields -/
theorem f_cellO {o9 ci : Nat} {fs : List Nat} {r9 : Nat → Int32} (hs : f_shape o9 = .inr (ci, fs)) : f_cell (f_shape o9) r9 = .inr (ci, fs.mapIdx fun k t => f_fld r9 k t) := by rw [hs]; rfl
theorem f_gf_of {o9 ci k t : Nat} {fs : List Nat} (hs : f_shape o9 = .inr (ci, fs)) (hf : fs[k]? = some t) (hN : o9 < N) : a_gf (f_hp N σ) o9 ci k = some (f_fld (σ o9) k t) := by
  unfold a_gf
  rw [f_hp_get hN, f_cellO hs]
  simp [hf]
theorem i_getI {o9 ci k i9 : Nat} {fs : List Nat} (hat : a_at (m_is q) pc = some (.getfield i9, len, ci, k)) (hs : f_shape o9 = .inr (ci, fs)) (hf : fs[k]? = some 0) (hN : o9 < N) (hp : pc + 3 = pc') (K : f_Sim MT xs L N N2 q pc' ls (.int (σ o9 k) :: st) σ c n o) : f_Sim MT xs L N N2 q pc ls (.ref o9 :: st) σ c n o := by
  subst hp
  exact f_stp (by unfold a_1; rw [hat]; simp only [a_ins, f_gf_of hs hf hN, Option.map_some]; rfl) K
theorem i_getR {o9 ci k i9 t : Nat} {fs : List Nat} (hat : a_at (m_is q) pc = some (.getfield i9, len, ci, k)) (hs : f_shape o9 = .inr (ci, fs)) (hf : fs[k]? = some (t + 2)) (hN : o9 < N) (hp : pc + 3 = pc') (K : f_Sim MT xs L N N2 q pc' ls (.ref t :: st) σ c n o) : f_Sim MT xs L N N2 q pc ls (.ref o9 :: st) σ c n o := by
  subst hp
  exact f_stp (by unfold a_1; rw [hat]; simp only [a_ins, f_gf_of hs hf hN, Option.map_some]; rfl) K
/-- the reader's text: the input's cell -/
theorem i_getB {o9 ci k i9 : Nat} {fs : List Nat} {A : Option α} {k9 : α → Option f_W} (hat : a_at (m_is q) pc = some (.getfield i9, len, ci, k)) (hs : f_shape o9 = .inr (ci, fs)) (hf : fs[k]? = some 1) (hN : o9 < N) (hp : pc + 3 = pc') (K : σ o9 k = 1 → f_Sim MT xs L N N2 q pc' ls (.ref 1 :: st) σ c n (A.bind k9)) : f_Sim MT xs L N N2 q pc ls (.ref o9 :: st) σ c n ((if σ o9 k = 1 then A else none).bind k9) := by
  subst hp
  refine i_grd fun h => ?_
  exact f_stp (by unfold a_1; rw [hat]; simp only [a_ins, f_gf_of hs hf hN, Option.map_some, f_fld, h]; rfl) (K h)
theorem f_pf_of {o9 ci k : Nat} {v : Value} {w : Int32} {t : Nat} {fs : List Nat} (hs : f_shape o9 = .inr (ci, fs)) (hf : fs[k]? = some t) (hv : ∀ r : Nat → Int32, r k = w → f_fld r k t = v) (ht : t = 0 ∨ t = 1) (hn : narrow (a_ty ci k) v = v ∧ fits (a_ty ci k) v = true) (hN : o9 < N) : a_pf (f_hp N σ) o9 ci k v = some (f_hp N (f_up σ o9 k w)) := by
  unfold a_pf
  rw [f_hp_get hN, f_cellO hs]
  have hk : k < fs.length := (List.getElem?_eq_some_iff.mp hf).1
  dsimp only
  rw [if_pos ⟨rfl, by simpa using hk, hn.1, hn.2⟩]
  congr 1
  rw [f_up, ← f_hp_set, f_cellO hs]
  congr 2
  congr 1
  apply List.ext_getElem?
  intro j
  rw [List.getElem?_set, List.getElem?_mapIdx, List.getElem?_mapIdx]
  by_cases hj : k = j
  · subst hj
    rw [if_pos rfl, if_pos (by simpa using hk), hf]
    simp only [Option.map_some]
    rw [hv _ (by simp [upd])]
  · rw [if_neg hj]
    cases hfj : fs[j]? with
    | none => rfl
    | some t9 =>
      simp only [Option.map_some]
      have : upd (σ o9) k w j = σ o9 j := by simp [upd, Ne.symm hj]
      unfold f_fld
      rw [this]
theorem i_putI {o9 ci k i9 : Nat} {v : Int32} {fs : List Nat} (hat : a_at (m_is q) pc = some (.putfield i9, len, ci, k)) (hs : f_shape o9 = .inr (ci, fs)) (hf : fs[k]? = some 0) (hn : narrow (a_ty ci k) (.int v) = .int v ∧ fits (a_ty ci k) (.int v) = true) (hN : o9 < N) (hp : pc + 3 = pc') (K : f_Sim MT xs L N N2 q pc' ls st (f_up σ o9 k v) c n o) : f_Sim MT xs L N N2 q pc ls (.int v :: .ref o9 :: st) σ c n o := by
  subst hp
  exact f_stp (by unfold a_1; rw [hat]; simp only [a_ins, f_pf_of (w := v) hs hf (fun r h => by rw [← h]; rfl) (Or.inl rfl) hn hN, Option.map_some]) K
theorem i_putB {o9 ci k i9 : Nat} {fs : List Nat} (hat : a_at (m_is q) pc = some (.putfield i9, len, ci, k)) (hs : f_shape o9 = .inr (ci, fs)) (hf : fs[k]? = some 1) (hn : narrow (a_ty ci k) (.ref 1) = .ref 1 ∧ fits (a_ty ci k) (.ref 1) = true) (hN : o9 < N) (hp : pc + 3 = pc') (K : f_Sim MT xs L N N2 q pc' ls st (f_up σ o9 k 1) c n o) : f_Sim MT xs L N N2 q pc ls (.ref 1 :: .ref o9 :: st) σ c n o := by
  subst hp
  exact f_stp (by unfold a_1; rw [hat]; simp only [a_ins, f_pf_of (w := 1) hs hf (fun r h => by show Value.ref (r k).toNatClampNeg = _; rw [h]; rfl) (Or.inr rfl) hn hN, Option.map_some]) K
/-! arrays -/
theorem f_cellA {o9 n9 kd : Nat} {ty : FieldType} {r9 : Nat → Int32} (hs : f_shape o9 = .inl (ty, n9, kd)) : f_cell (f_shape o9) r9 = .inl (ty, n9, f_el kd r9) := by rw [hs]; rfl
theorem i_iald {o9 n9 : Nat} {j : Int32} {f : Int32 → Option α} {k : α → Option f_W} (hat : a_at (m_is q) pc = some (.iaload, len, a, b)) (hs : f_shape o9 = .inl (.int, n9, 0)) (hb : o9 < a_big) (hN : o9 < N) (hp : pc + 1 = pc') (K : ∀ v, f_Sim MT xs L N N2 q pc' ls (.int v :: st) σ c n ((f v).bind k)) : f_Sim MT xs L N N2 q pc ls (.int j :: .ref o9 :: st) σ c n (((f_rd σ o9 n9 j).bind f).bind k) := by
  subst hp
  unfold f_rd
  by_cases h : j < 0 ∨ n9 ≤ j.toNatClampNeg
  · rw [if_pos h]; exact f_none
  · rw [if_neg h]
    refine f_stp ?_ (K (σ o9 j.toNatClampNeg))
    unfold a_1
    rw [hat]
    simp only [a_ins, a_rd, if_neg (Nat.ne_of_lt hb), if_neg (a_nd hb), f_hp_get hN, f_cellA hs, f_el, h, Option.map_some, not_false_eq_true, true_and, if_true, true_or, and_self]
theorem i_bald {o9 n9 : Nat} {ty : FieldType} {j : Int32} {f : Int32 → Option α} {k : α → Option f_W} (hat : a_at (m_is q) pc = some (.baload, len, a, b)) (hs : f_shape o9 = .inl (ty, n9, 0)) (hty : ty = .byte ∨ ty = .boolean) (hb : o9 < a_big) (hN : o9 < N) (hp : pc + 1 = pc') (K : ∀ v, f_Sim MT xs L N N2 q pc' ls (.int v :: st) σ c n ((f v).bind k)) : f_Sim MT xs L N N2 q pc ls (.int j :: .ref o9 :: st) σ c n (((f_rd σ o9 n9 j).bind f).bind k) := by
  subst hp
  unfold f_rd
  by_cases h : j < 0 ∨ n9 ≤ j.toNatClampNeg
  · rw [if_pos h]; exact f_none
  · rw [if_neg h]
    refine f_stp ?_ (K (σ o9 j.toNatClampNeg))
    unfold a_1
    rw [hat]
    simp only [a_ins, a_rd, if_neg (Nat.ne_of_lt hb), if_neg (a_nd hb), f_hp_get hN, f_cellA hs, f_el, h, hty, Option.map_some, not_false_eq_true, true_and, if_true, or_true, and_self]
theorem i_lald {o9 n9 : Nat} {j : Int32} {f : Int32 → Option α} {k : α → Option f_W} (hat : a_at (m_is q) pc = some (.laload, len, a, b)) (hs : f_shape o9 = .inl (.long, n9, 1)) (hb : o9 < a_big) (hN : o9 < N) (hp : pc + 1 = pc') (K : ∀ v : Int32, f_Sim MT xs L N N2 q pc' ls (.long v.toInt64 :: st) σ c n ((f v).bind k)) : f_Sim MT xs L N N2 q pc ls (.int j :: .ref o9 :: st) σ c n (((f_rd σ o9 n9 j).bind f).bind k) := by
  subst hp
  unfold f_rd
  by_cases h : j < 0 ∨ n9 ≤ j.toNatClampNeg
  · rw [if_pos h]; exact f_none
  · rw [if_neg h]
    refine f_stp ?_ (K (σ o9 j.toNatClampNeg))
    unfold a_1
    rw [hat]
    simp only [a_ins, a_rd, if_neg (Nat.ne_of_lt hb), if_neg (a_nd hb), f_hp_get hN, f_cellA hs, f_el, h, Option.map_some, not_false_eq_true, true_and, if_true, and_self]
/-- the script -/
theorem i_xald {j : Int32} {f : Int32 → Option α} {k : α → Option f_W} (hat : a_at (m_is q) pc = some (.iaload, len, a, b)) (hp : pc + 1 = pc') (K : ∀ v : Int32, v = xs j.toNatClampNeg → f_Sim MT xs L N N2 q pc' ls (.int v :: st) σ c n ((f v).bind k)) : f_Sim MT xs L N N2 q pc ls (.int j :: .ref a_big :: st) σ c n (((if j < 0 ∨ L ≤ j.toNatClampNeg then none else some (xs j.toNatClampNeg)).bind f).bind k) := by
  subst hp
  by_cases h : j < 0 ∨ L ≤ j.toNatClampNeg
  · rw [if_pos h]; exact f_none
  · rw [if_neg h]
    refine f_stp ?_ (K (xs j.toNatClampNeg) rfl)
    unfold a_1
    rw [hat]
    simp only [a_ins, a_rd, h, Option.map_some, not_false_eq_true, true_and, if_true, and_self]
theorem i_kald {j : Int32} {f : Nat → Option α} {k : α → Option f_W} {o9 : Nat} {ty : FieldType} {n9 kd : Nat} {g : Nat → Nat} (hat : a_at (m_is q) pc = some (.aaload, len, a, b)) (hs : f_shape o9 = .inl (ty, n9, kd)) (hty : ty.isReference = true) (hg : ∃ g0, f_el kd (σ o9) = .inr (.inr (.inr (.inr g0))) ∧ ∀ i, i < n9 → g0 i = some (g i)) (hb : o9 < a_big) (hN : o9 < N) (hp : pc + 1 = pc') (K : ∀ v : Nat, v < n9 → f_Sim MT xs L N N2 q pc' ls (.ref (g v) :: st) σ c n ((f v).bind k)) : f_Sim MT xs L N N2 q pc ls (.int j :: .ref o9 :: st) σ c n (((f_ix n9 j).bind f).bind k) := by
  subst hp
  unfold f_ix
  by_cases h : j < 0 ∨ n9 ≤ j.toNatClampNeg
  · rw [if_pos h]; exact f_none
  · rw [if_neg h]
    have h2 : j.toNatClampNeg < n9 := Nat.lt_of_not_le fun h3 => h (Or.inr h3)
    obtain ⟨g0, e1, e2⟩ := hg
    refine f_stp ?_ (K j.toNatClampNeg h2)
    unfold a_1
    rw [hat]
    simp only [a_ins, a_rd, if_neg (Nat.ne_of_lt hb), if_neg (a_nd hb), f_hp_get hN, f_cellA hs, e1, h, hty, Option.map_some, not_false_eq_true, true_and, if_true, and_self, e2 _ h2, va_rf]
theorem f_gK : ∃ g0, f_el 2 (σ 45) = .inr (.inr (.inr (.inr g0))) ∧ ∀ i, i < 8 → g0 i = some (46 + 7 * i) := ⟨_, rfl, fun i hi => if_pos hi⟩
theorem f_gD : ∃ g0, f_el 4 (σ 174) = .inr (.inr (.inr (.inr g0))) ∧ ∀ i, i < 3 → g0 i = some (175 + i) := ⟨_, rfl, fun i hi => if_pos hi⟩
theorem f_gR : ∃ g0, f_el 3 (σ 11) = .inr (.inr (.inr (.inr g0))) ∧ ∀ i, i < 30 → g0 i = some (12 + i) := ⟨_, rfl, fun i hi => if_pos hi⟩
theorem f_updE {o9 n9 : Nat} {ty : FieldType} {j : Nat} {v : Int32} (hs : f_shape o9 = .inl (ty, n9, 0)) : (f_hp N σ).set o9 (.inl (ty, n9, .inl (upd (σ o9) j v))) = f_hp N (f_up σ o9 j v) := by
  rw [f_up, ← f_hp_set, f_cellA hs]
  rfl
theorem i_iast {o9 n9 : Nat} {j v : Int32} {f : f_M → Option α} {k : α → Option f_W} (hat : a_at (m_is q) pc = some (.iastore, len, a, b)) (hs : f_shape o9 = .inl (.int, n9, 0)) (hN : o9 < N) (hp : pc + 1 = pc') (K : ∀ σ', f_Sim MT xs L N N2 q pc' ls st σ' c n ((f σ').bind k)) : f_Sim MT xs L N N2 q pc ls (.int v :: .int j :: .ref o9 :: st) σ c n (((f_wr σ o9 n9 j v).bind f).bind k) := by
  subst hp
  unfold f_wr
  by_cases h : j < 0 ∨ n9 ≤ j.toNatClampNeg
  · rw [if_pos h]; exact f_none
  · rw [if_neg h]
    refine f_stp ?_ (K (f_up σ o9 j.toNatClampNeg v))
    unfold a_1
    rw [hat]
    simp only [a_ins, a_wr, f_hp_get hN, f_cellA hs, f_el, h, Option.map_some, not_false_eq_true, true_and, if_true, and_self, f_updE hs]
theorem i_bast {o9 n9 : Nat} {ty : FieldType} {j v w : Int32} {f : f_M → Option α} {k : α → Option f_W} (hat : a_at (m_is q) pc = some (.bastore, len, a, b)) (hs : f_shape o9 = .inl (ty, n9, 0)) (hty : ty = .byte ∨ ty = .boolean) (hw : vp_nar ty v = w) (hN : o9 < N) (hp : pc + 1 = pc') (K : ∀ σ', f_Sim MT xs L N N2 q pc' ls st σ' c n ((f σ').bind k)) : f_Sim MT xs L N N2 q pc ls (.int v :: .int j :: .ref o9 :: st) σ c n (((f_wr σ o9 n9 j w).bind f).bind k) := by
  subst hp hw
  unfold f_wr
  by_cases h : j < 0 ∨ n9 ≤ j.toNatClampNeg
  · rw [if_pos h]; exact f_none
  · rw [if_neg h]
    refine f_stp ?_ (K (f_up σ o9 j.toNatClampNeg (vp_nar ty v)))
    unfold a_1
    rw [hat]
    rcases hty with rfl | rfl
    · simp only [a_ins, a_wr, f_hp_get hN, f_cellA hs, f_el, h, Option.map_some, not_false_eq_true, true_and, if_true, and_self, f_updE hs, Nat.one_ne_zero, false_and, if_false]
    · simp only [a_ins, a_wr, f_hp_get hN, f_cellA hs, f_el, h, Option.map_some, not_false_eq_true, true_and, if_true, and_self, f_updE hs, Nat.one_ne_zero, false_and, if_false, reduceCtorEq, and_false]
theorem i_last {o9 n9 : Nat} {j v : Int32} {w : Int64} {f : f_M → Option α} {k : α → Option f_W} (hat : a_at (m_is q) pc = some (.lastore, len, a, b)) (hs : f_shape o9 = .inl (.long, n9, 1)) (hw : w = v.toInt64) (hN : o9 < N) (hp : pc + 1 = pc') (K : ∀ σ', f_Sim MT xs L N N2 q pc' ls st σ' c n ((f σ').bind k)) : f_Sim MT xs L N N2 q pc ls (.long w :: .int j :: .ref o9 :: st) σ c n (((f_wr σ o9 n9 j v).bind f).bind k) := by
  subst hp hw
  unfold f_wr
  by_cases h : j < 0 ∨ n9 ≤ j.toNatClampNeg
  · rw [if_pos h]; exact f_none
  · rw [if_neg h]
    have e : (f_hp N σ).set o9 (.inl (.long, n9, .inr (.inl (vp_updL (fun i => (σ o9 i).toInt64) j.toNatClampNeg v.toInt64)))) = f_hp N (f_up σ o9 j.toNatClampNeg v) := by
      rw [f_up, ← f_hp_set, f_cellA hs]
      congr 1
      have : vp_updL (fun i => (σ o9 i).toInt64) j.toNatClampNeg v.toInt64 = fun i => (upd (σ o9) j.toNatClampNeg v i).toInt64 := by
        funext i
        unfold vp_updL upd
        split <;> rfl
      rw [this]
      rfl
    refine f_stp ?_ (K (f_up σ o9 j.toNatClampNeg v))
    unfold a_1
    rw [hat]
    simp only [a_ins, a_wr, f_hp_get hN, f_cellA hs, f_el, h, Option.map_some, not_false_eq_true, true_and, if_true, and_self, e]
theorem i_alen {o9 n9 kd : Nat} {ty : FieldType} {v : Int32} (hat : a_at (m_is q) pc = some (.arraylength, len, a, b)) (hs : f_shape o9 = .inl (ty, n9, kd)) (hv : Int32.ofNat n9 = v) (hb : o9 < a_big) (hN : o9 < N) (hp : pc + 1 = pc') (K : f_Sim MT xs L N N2 q pc' ls (.int v :: st) σ c n o) : f_Sim MT xs L N N2 q pc ls (.ref o9 :: st) σ c n o := by
  subst hp hv
  exact f_stp (by unfold a_1; rw [hat]; simp only [a_ins, a_len, if_neg (Nat.ne_of_lt hb), f_hp_get hN, f_cellA hs, Option.map_some]) K
theorem i_xlen (hat : a_at (m_is q) pc = some (.arraylength, len, a, b)) (hp : pc + 1 = pc') (K : f_Sim MT xs L N N2 q pc' ls (.int (Int32.ofNat L) :: st) σ c n o) : f_Sim MT xs L N N2 q pc ls (.ref a_big :: st) σ c n o := by
  subst hp
  exact f_stp (by unfold a_1; rw [hat]; simp only [a_ins, a_len, if_true, Option.map_some]) K
/-! members of the JDK -/
theorem i_min {x y : Int32} {i9 : Nat} (hat : a_at (m_is q) pc = some (.invokestatic i9, len, 1001, b)) (hs : a_sum st ≤ 8) (hp : pc + 3 = pc') (K : f_Sim MT xs L N N2 q pc' ls (.int (f_min x y) :: st) σ c n o) : f_Sim MT xs L N N2 q pc ls (.int y :: .int x :: st) σ c n o := by
  subst hp
  exact f_stp (by unfold a_1; rw [hat]; simp only [show 1000 ≤ 1001 from by omega, if_true, show 1001 - 1000 = 1 from rfl, a_bi, a_b1, hs, Option.map_some]; rfl) K
theorem i_max {x y : Int32} {i9 : Nat} (hat : a_at (m_is q) pc = some (.invokestatic i9, len, 1002, b)) (hs : a_sum st ≤ 8) (hp : pc + 3 = pc') (K : f_Sim MT xs L N N2 q pc' ls (.int (f_max x y) :: st) σ c n o) : f_Sim MT xs L N N2 q pc ls (.int y :: .int x :: st) σ c n o := by
  subst hp
  exact f_stp (by unfold a_1; rw [hat]; simp only [show 1000 ≤ 1002 from by omega, if_true, show 1002 - 1000 = 2 from rfl, a_bi, a_b2, hs, Option.map_some]; rfl) K
theorem i_cpy {o0 o1 m9 n9 : Nat} {ty : FieldType} {sp dp k9 : Int32} {i9 : Nat} {f : f_M → Option α} {k : α → Option f_W} (hat : a_at (m_is q) pc = some (.invokestatic i9, len, 1003, b)) (h0 : f_shape o0 = .inl (ty, m9, 0)) (h1 : f_shape o1 = .inl (ty, n9, 0)) (hty : ty = .int ∨ ty = .byte) (hs : a_sum st ≤ 8) (hN0 : o0 < N) (hN1 : o1 < N) (hp : pc + 3 = pc') (K : ∀ σ', f_Sim MT xs L N N2 q pc' ls st σ' c n ((f σ').bind k)) : f_Sim MT xs L N N2 q pc ls (.int k9 :: .int dp :: .ref o1 :: .int sp :: .ref o0 :: st) σ c n (((f_cp σ ty o0 m9 o1 n9 sp dp k9).bind f).bind k) := by
  subst hp
  unfold f_cp
  split
  · rename_i h
    refine f_stp ?_ (K _)
    unfold a_1
    rw [hat]
    have e : (f_hp N σ).set o1 (.inl (ty, n9, .inl (va_cpy (σ o0) (σ o1) sp.toNatClampNeg dp.toNatClampNeg k9.toNatClampNeg))) = f_hp N (f_row σ o1 (va_cpy (σ o0) (σ o1) sp.toNatClampNeg dp.toNatClampNeg k9.toNatClampNeg)) := by
      rw [← f_hp_set, f_cellA h1]
      rfl
    simp only [show 1000 ≤ 1003 from by omega, if_true, show 1003 - 1000 = 3 from rfl, a_bi, a_b3, hs, a_cpy9, f_hp_get hN0, f_hp_get hN1, f_cellA h0, f_cellA h1, f_el, Option.map_some]
    rw [if_pos ⟨⟨trivial, hty⟩, h.1, h.2⟩]
    simp only [Option.map_some, e]
  · exact f_none
theorem i_slen {w i9 : Nat} (hat : a_at (m_is q) pc = some (.invokevirtual i9, len, 1004, b)) (hw : f_okw w = true) (hs : a_sum st ≤ 8) (hp : pc + 3 = pc') (K : f_Sim MT xs L N N2 q pc' ls (.int (f_sl w) :: st) σ c n o) : f_Sim MT xs L N N2 q pc ls (.ref (a_big + 1 + w) :: st) σ c n o := by
  subst hp
  obtain ⟨h7, hn, e1, e2⟩ := f_okw_e xs hw
  refine f_stp ?_ K
  unfold a_1
  rw [hat]
  simp only [show 1000 ≤ 1004 from by omega, if_true, show 1004 - 1000 = 4 from rfl, a_bi, a_b4]
  rw [if_pos (show a_sum st ≤ 8 ∧ a_big + 1 ≤ a_big + 1 + w ∧ a_big + 1 + w < a_big + 1 + a_tn xs from ⟨hs, by omega, by omega⟩), show a_big + 1 + w - (a_big + 1) = w from by omega, e1]
  rfl
theorem i_scha {w i9 : Nat} {j : Int32} {f : Int32 → Option α} {k : α → Option f_W} (hat : a_at (m_is q) pc = some (.invokevirtual i9, len, 1005, b)) (hw : f_okw w = true) (hs : a_sum st ≤ 8) (hp : pc + 3 = pc') (K : ∀ v, f_Sim MT xs L N N2 q pc' ls (.int v :: st) σ c n ((f v).bind k)) : f_Sim MT xs L N N2 q pc ls (.int j :: .ref (a_big + 1 + w) :: st) σ c n (((f_ch w j).bind f).bind k) := by
  subst hp
  obtain ⟨h7, hn, e1, e2⟩ := f_okw_e xs hw
  unfold f_ch
  by_cases h : j < 0 ∨ w_sl.getD w 0 ≤ j.toNatClampNeg
  · rw [if_pos h]; exact f_none
  · rw [if_neg h]
    refine f_stp ?_ (K _)
    unfold a_1
    rw [hat]
    simp only [show 1000 ≤ 1005 from by omega, if_true, show 1005 - 1000 = 5 from rfl, a_bi, a_b5]
    rw [show a_big + 1 + w - (a_big + 1) = w from by omega, e1, e2, if_pos (show a_sum st ≤ 8 ∧ a_big + 1 ≤ a_big + 1 + w ∧ a_big + 1 + w < a_big + 1 + a_tn xs ∧ ¬ (j < 0 ∨ w_sl.getD w 0 ≤ j.toNatClampNeg) from ⟨hs, by omega, by omega, h⟩)]
    rfl
/-- the text that the law has built -/
theorem i_tlen {i9 : Nat} (hx : a_tn xs = 8) (hat : a_at (m_is q) pc = some (.invokevirtual i9, len, 1004, b)) (hs : a_sum st ≤ 8) (hp : pc + 3 = pc') (K : f_Sim MT xs L N N2 q pc' ls (.int (f_tl xs) :: st) σ c n o) : f_Sim MT xs L N N2 q pc ls (.ref (a_big + 8) :: st) σ c n o := by
  subst hp
  refine f_stp ?_ K
  unfold a_1
  rw [hat]
  simp only [show 1000 ≤ 1004 from by omega, if_true, show 1004 - 1000 = 4 from rfl, a_bi, a_b4]
  rw [if_pos (show a_sum st ≤ 8 ∧ a_big + 1 ≤ a_big + 8 ∧ a_big + 8 < a_big + 1 + a_tn xs from ⟨hs, by omega, by omega⟩), show a_big + 8 - (a_big + 1) = 7 from by omega]
  rfl
theorem i_tcha {i9 : Nat} {j : Int32} {f : Int32 → Option α} {k : α → Option f_W} (hx : a_tn xs = 8) (hat : a_at (m_is q) pc = some (.invokevirtual i9, len, 1005, b)) (hs : a_sum st ≤ 8) (hp : pc + 3 = pc') (K : ∀ v, f_Sim MT xs L N N2 q pc' ls (.int v :: st) σ c n ((f v).bind k)) : f_Sim MT xs L N N2 q pc ls (.int j :: .ref (a_big + 8) :: st) σ c n (((f_tc xs j).bind f).bind k) := by
  subst hp
  unfold f_tc
  by_cases h : j < 0 ∨ a_tl xs ≤ j.toNatClampNeg
  · rw [if_pos h]; exact f_none
  · rw [if_neg h]
    refine f_stp ?_ (K _)
    unfold a_1
    rw [hat]
    simp only [show 1000 ≤ 1005 from by omega, if_true, show 1005 - 1000 = 5 from rfl, a_bi, a_b5]
    rw [show a_big + 8 - (a_big + 1) = 7 from by omega, if_pos (show a_sum st ≤ 8 ∧ a_big + 1 ≤ a_big + 8 ∧ a_big + 8 < a_big + 1 + a_tn xs ∧ ¬ (j < 0 ∨ (a_sl xs).getD 7 0 ≤ j.toNatClampNeg) from ⟨hs, by omega, by omega, h⟩)]
    rfl
end A26
