/-! The abstract machine whole: methods, calls, returns, throws. -/
/-- a method: name, bytes, locals, what it returns, its exception table; then (values that a call pops, frames, locals' words, cells and slots that it may need), (may it throw, is it a constructor, the numbers of the classes that its table's rows catch); its instructions: pc, instruction, length, two numbers that say what its operand names -/
abbrev a_Md : Type := MethodName × ByteArray × Nat × Option FieldType × List (Nat × Nat × Nat × Nat) × (Nat × Nat × Nat × Nat × Nat) × (Bool × Bool × List Nat) × List (Nat × Instr × Nat × Nat × Nat)
def m_y (q : a_Md) : MethodName := q.1
def m_cc (q : a_Md) : ByteArray := q.2.1
def m_nL (q : a_Md) : Nat := q.2.2.1
def m_rt (q : a_Md) : Option FieldType := q.2.2.2.1
def m_hh (q : a_Md) : List (Nat × Nat × Nat × Nat) := q.2.2.2.2.1
def m_na (q : a_Md) : Nat := q.2.2.2.2.2.1.1
def m_fr (q : a_Md) : Nat := q.2.2.2.2.2.1.2.1
def m_lo (q : a_Md) : Nat := q.2.2.2.2.2.1.2.2.1
def m_kc (q : a_Md) : Nat := q.2.2.2.2.2.1.2.2.2.1
def m_kn (q : a_Md) : Nat := q.2.2.2.2.2.1.2.2.2.2
def m_thr (q : a_Md) : Bool := q.2.2.2.2.2.2.1.1
def m_ini (q : a_Md) : Bool := q.2.2.2.2.2.2.1.2.1
def m_xk (q : a_Md) : List Nat := q.2.2.2.2.2.2.1.2.2
def m_is (q : a_Md) : List (Nat × Instr × Nat × Nat × Nat) := q.2.2.2.2.2.2.2
/-- what a method ends with: a value (or none), or a class that it throws -/
abbrev a_R : Type := Option Value ⊕ Nat
def a_at (is : List (Nat × Instr × Nat × Nat × Nat)) (pc : Nat) : Option (Instr × Nat × Nat × Nat) := (is.find? fun q => q.1 == pc).map (·.2)
def a_sum (l : List Value) : Nat := (l.map fun v => v.category).sum
/-- members of the JDK: 0 Object(), 1 min, 2 max, 3 arraycopy, 4 length(), 5 charAt(k) -/
def a_b0 (st : List Value) (h : a_H) : Option (List Value × a_H) := match st with
  | .ref _ :: r => if a_sum r ≤ 8 then some (r, h) else none
  | _ => none
def a_b1 (st : List Value) (h : a_H) : Option (List Value × a_H) := match st with
  | .int y :: .int x :: r => if a_sum r ≤ 8 then some (.int (if y < x then y else x) :: r, h) else none
  | _ => none
def a_b2 (st : List Value) (h : a_H) : Option (List Value × a_H) := match st with
  | .int y :: .int x :: r => if a_sum r ≤ 8 then some (.int (if x < y then y else x) :: r, h) else none
  | _ => none
def a_cpy9 (h : a_H) (o0 : Nat) (sp : Int32) (o1 : Nat) (dp k : Int32) : Option a_H := match h[o0]?, h[o1]? with
  | some (.inl (t0, n0, .inl f)), some (.inl (t1, n1, .inl g)) => if (t0 = t1 ∧ (t0 = .int ∨ t0 = .byte)) ∧ (¬ sp < 0 ∧ ¬ dp < 0 ∧ ¬ k < 0 ∧ sp.toNatClampNeg + k.toNatClampNeg ≤ n0 ∧ dp.toNatClampNeg + k.toNatClampNeg ≤ n1) ∧ (∀ i, i < k.toNatClampNeg → fits t0 (.int (f (sp.toNatClampNeg + i))) = true)
    then some (h.set o1 (.inl (t1, n1, .inl (va_cpy f g sp.toNatClampNeg dp.toNatClampNeg k.toNatClampNeg)))) else none
  | _, _ => none
def a_b3 (st : List Value) (h : a_H) : Option (List Value × a_H) := match st with
  | .int k :: .int dp :: .ref o1 :: .int sp :: .ref o0 :: r => if a_sum r ≤ 8 then (a_cpy9 h o0 sp o1 dp k).map fun h1 => (r, h1) else none
  | _ => none
def a_b4 (xs : Nat → Int32) (st : List Value) (h : a_H) : Option (List Value × a_H) := match st with
  | .ref o :: r => if a_sum r ≤ 8 ∧ a_big + 1 ≤ o ∧ o < a_big + 1 + a_tn xs then some (.int (nI ((a_sl xs).getD (o - (a_big + 1)) 0)) :: r, h) else none
  | _ => none
def a_b5 (xs : Nat → Int32) (st : List Value) (h : a_H) : Option (List Value × a_H) := match st with
  | .int k :: .ref o :: r => if a_sum r ≤ 8 ∧ a_big + 1 ≤ o ∧ o < a_big + 1 + a_tn xs ∧ ¬ (k < 0 ∨ (a_sl xs).getD (o - (a_big + 1)) 0 ≤ k.toNatClampNeg) then some (.int (((a_sb xs).getD (o - (a_big + 1)) []).getD k.toNatClampNeg 0 &&& 255) :: r, h) else none
  | _ => none
/-- String.coder, String.getBytes(byte[], int, byte) -/
def a_b6 (xs : Nat → Int32) (st : List Value) (h : a_H) : Option (List Value × a_H) := match st with
  | .ref o :: r => if a_sum r ≤ 8 ∧ a_big + 1 ≤ o ∧ o < a_big + 1 + a_tn xs then some (.int 0 :: r, h) else none
  | _ => none
def a_b7 (xs : Nat → Int32) (st : List Value) (h : a_H) : Option (List Value × a_H) := match st with
  | .int z :: .int k :: .ref q :: .ref o :: r => if z = 0 ∧ a_sum r ≤ 8 ∧ a_big + 1 ≤ o ∧ o < a_big + 1 + 7 ∧ ¬ k < 0 then (match h[q]? with
    | some (.inl (.byte, n, .inl g)) => if k.toNatClampNeg + (a_sl xs).getD (o - (a_big + 1)) 0 ≤ n then some (r, h.set q (.inl (.byte, n, .inl (va_cpy (fun j => ((a_sb xs).getD (o - (a_big + 1)) []).getD j 0) g 0 k.toNatClampNeg ((a_sl xs).getD (o - (a_big + 1)) 0))))) else none
    | _ => none) else none
  | _ => none
def a_bi (xs : Nat → Int32) (w : Nat) (st : List Value) (h : a_H) : Option (List Value × a_H) := match w with
  | 0 => a_b0 st h
  | 1 => a_b1 st h
  | 2 => a_b2 st h
  | 3 => a_b3 st h
  | 4 => a_b4 xs st h
  | 5 => a_b5 xs st h
  | 6 => a_b6 xs st h
  | 7 => a_b7 xs st h
  | _ => none
/-- an array of m arrays of k ints -/
def a_m1 (b m : Nat) : a_C := .inl (.array .int, m, .inr (.inr (.inr (.inr (fun i => if i < m then some (b + i) else none)))))
def a_m2 (k : Nat) : a_C := .inl (.int, k, .inl (fun _ => 0))
def a_mn (st : List Value) (h : a_H) (c n : Nat) : Option (List Value × a_H × Nat × Nat) := match st with
  | .int k :: .int m :: r => if (¬ m < 0 ∧ ¬ k < 0) ∧ (m.toNatClampNeg ≤ 1000 ∧ k.toNatClampNeg ≤ 1000) ∧ 1 + m.toNatClampNeg ≤ c ∧ m.toNatClampNeg + m.toNatClampNeg * k.toNatClampNeg ≤ n ∧ h.length + m.toNatClampNeg + 1 < a_big
    then some (.ref h.length :: r, h ++ (a_m1 (h.length + 1) m.toNatClampNeg :: List.replicate m.toNatClampNeg (a_m2 k.toNatClampNeg)), c - (1 + m.toNatClampNeg), n - (m.toNatClampNeg + m.toNatClampNeg * k.toNatClampNeg)) else none
  | _ => none
/-- what a handler gives: 'keep the exception in a local; push a number; return it' -/
def a_hv (q : a_Md) (hp : Nat) : Option Int32 :=
  match a_at (m_is q) hp with
  | some (.astore_n k, _) => if (k : Nat) < m_nL q then (match a_at (m_is q) (hp + 1), a_at (m_is q) (hp + 2) with
    | some (.iconst v, _), some (.ireturn, _) => some (Int32.ofInt v)
    | _, _ => none) else none
  | some (.astore k, _) => if k < m_nL q then (match a_at (m_is q) (hp + 2), a_at (m_is q) (hp + 3) with
    | some (.iconst v, _), some (.ireturn, _) => some (Int32.ofInt v)
    | _, _ => none) else none
  | _ => none
/-- an exception of class k comes back at a call -/
def a_hx (q : a_Md) (k : Nat) (h : a_H) : Option (a_R × a_H) :=
  match (m_hh q).zip (m_xk q) |>.find? (fun z => z.2 == k) with
  | some z => (a_hv q z.1.2.2.1).bind fun v => if v = 0 ∨ v = 1 then some (.inl (some (.int v)), h) else none
  | none => if m_thr q = true ∧ m_hh q = [] ∧ k < 4 then some (.inr k, h) else none
def a_isr (v : Option Value) : Bool := match v with
  | some (.ref _) => true
  | _ => false
def a_isc (h : a_H) (v : Option Value) (ci : Nat) : Bool := match v with
  | some (.ref o) => (match h[o]? with
    | some (.inr (cj, _)) => cj == ci
    | _ => false)
  | _ => false
def a_rty (t : Option FieldType) : Bool := match t with
  | some (.object _) => true
  | some (.array _) => true
  | _ => false
/-- a step: to a place; to a call; to the end -/
abbrev a_O : Type := a_S ⊕ (Nat × List Value × a_S) ⊕ (a_R × a_H)
def a_1 (MT : Nat → Option a_Md) (xs : Nat → Int32) (L : Nat) (q : a_Md) (pc : Nat) (ls st : List Value) (h : a_H) (c n : Nat) : Option a_O :=
  match a_at (m_is q) pc with
  | none => none
  | some (i, _, a, b) => match i with
    | .ireturn => match st with
      | [.int v] => (match m_rt q with
        | some ty => if narrow ty (.int v) = .int v then some (.inr (.inr (.inl (some (.int v)), h))) else none
        | none => none)
      | _ => none
    | .dreturn => match st with
      | [.double v] => if m_rt q = some .double then some (.inr (.inr (.inl (some (.double v)), h))) else none
      | _ => none
    | .freturn => match st with
      | [.float v] => if m_rt q = some .float then some (.inr (.inr (.inl (some (.float v)), h))) else none
      | _ => none
    | .areturn => match st with
      | [.ref o] => if a_rty (m_rt q) = true then some (.inr (.inr (.inl (some (.ref o)), h))) else none
      | _ => none
    | .return_ => match st with
      | [] => if m_rt q = none then some (.inr (.inr (.inl none, h))) else none
      | _ => none
    | .new _ => if 100 ≤ a then (if m_thr q = true ∧ m_hh q = [] ∧ 1 ≤ c ∧ 6 ≤ n ∧ a_sum st ≤ 8 ∧ a < 103 then some (.inr (.inr (.inr (a - 100), h))) else none)
      else (a_ins xs L i a b pc ls st h c n).map .inl
    | .multianewarray _ d => if d = 2 then (a_mn st h c n).map (fun z => .inl (pc + 4, ls, z)) else none
    | .invokevirtual _ => if 1000 ≤ a then (a_bi xs (a - 1000) st h).map (fun z => .inl (pc + 3, ls, z.1, z.2, c, n))
      else match MT a with
        | some y => if m_na y ≤ st.length ∧ m_kc y ≤ c ∧ m_kn y ≤ n ∧ a_sum (st.drop (m_na y)) ≤ 8 ∧ 1 ≤ m_na y ∧ a_isc h (st[m_na y - 1]?) b = true then some (.inr (.inl (a, (st.take (m_na y)).reverse, (pc, ls, st.drop (m_na y), h, c, n)))) else none
        | none => none
    | .invokestatic _ => if 1000 ≤ a then (a_bi xs (a - 1000) st h).map (fun z => .inl (pc + 3, ls, z.1, z.2, c, n))
      else match MT a with
        | some y => if m_na y ≤ st.length ∧ m_kc y ≤ c ∧ m_kn y ≤ n ∧ a_sum (st.drop (m_na y)) ≤ 8 then some (.inr (.inl (a, (st.take (m_na y)).reverse, (pc, ls, st.drop (m_na y), h, c, n)))) else none
        | none => none
    | .invokespecial _ => if 1000 ≤ a then (a_bi xs (a - 1000) st h).map (fun z => .inl (pc + 3, ls, z.1, z.2, c, n))
      else match MT a with
        | some y => if m_na y ≤ st.length ∧ m_kc y ≤ c ∧ m_kn y ≤ n ∧ a_sum (st.drop (m_na y)) ≤ 8 ∧ 1 ≤ m_na y ∧ a_isr (st[m_na y - 1]?) = true ∧ (b = 2 → a_isc h (st[m_na y - 1]?) 10 = true) then some (.inr (.inl (a, (st.take (m_na y)).reverse, (pc, ls, st.drop (m_na y), h, c, n)))) else none
        | none => none
    | _ => (a_ins xs L i a b pc ls st h c n).map .inl
/-- the locals at a method's entry -/
def a_ent : List Value → List Value
  | [] => []
  | v :: r => if v.category = 2 then v :: a_dead :: a_ent r else v :: a_ent r
def a_loc (nL : Nat) (vs : List Value) : List Value := a_ent vs ++ List.replicate (nL - (a_ent vs).length) a_dead
/-- f steps of a method; K runs the methods that it calls -/
def a_ex (K : Nat → List Value → a_H → Option (a_R × a_H)) (MT : Nat → Option a_Md) (xs : Nat → Int32) (L : Nat) (q : a_Md) : Nat → Nat → List Value → List Value → a_H → Nat → Nat → Option (a_R × a_H)
  | 0, _, _, _, _, _, _ => none
  | f + 1, pc, ls, st, h, c, n => match a_1 MT xs L q pc ls st h c n with
    | none => none
    | some (.inl z) => a_ex K MT xs L q f z.1 z.2.1 z.2.2.1 z.2.2.2.1 z.2.2.2.2.1 z.2.2.2.2.2
    | some (.inr (.inr z)) => some z
    | some (.inr (.inl z)) => match MT z.1, K z.1 z.2.1 z.2.2.2.2.2.1 with
      | some y, some (.inl v, h') => a_ex K MT xs L q f (z.2.2.1 + 3) z.2.2.2.1 (v.toList ++ z.2.2.2.2.1) h' (z.2.2.2.2.2.2.1 - m_kc y) (z.2.2.2.2.2.2.2 - m_kn y)
      | some _, some (.inr k, h') => a_hx q k h'
      | _, _ => none
def a_run (MT : Nat → Option a_Md) (xs : Nat → Int32) (L F : Nat) : Nat → Nat → List Value → a_H → Option (a_R × a_H)
  | 0, _, _, _ => none
  | d + 1, i, vs, h => match MT i with
    | none => none
    | some q => if (a_ent vs).length ≤ m_nL q then a_ex (a_run MT xs L F d) MT xs L q F 0 (a_loc (m_nL q) vs) [] h (m_kc q) (m_kn q) else none
