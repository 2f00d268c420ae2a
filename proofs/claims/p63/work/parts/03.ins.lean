/-! One instruction of the abstract machine, calls, returns and throws aside. -/
/-- a place of the machine: pc, locals, stack, heap, cells and slots that may still be made -/
abbrev a_S : Type := Nat × List Value × List Value × a_H × Nat × Nat
def a_dead : Value := .retAddr 0
/-- locals behind a store -/
def a_sto (ls : List Value) (i : Nat) (v : Value) : List Value :=
  let l1 := if i = 0 then ls else match ls[i - 1]? with
    | some w => if w.category = 2 then ls.set (i - 1) a_dead else ls
    | none => ls
  let l2 := l1.set i v
  if v.category = 2 then l2.set (i + 1) a_dead else l2
def a_ty (ci k : Nat) : FieldType := match ci with
  | 0 => tyX0 k
  | 1 => tyX1 k
  | 2 => tyX2 k
  | 3 => tyX3 k
  | 4 => tyX4 k
  | 5 => tyX5 k
  | 6 => tyX6 k
  | 7 => tyX7 k
  | 8 => tyX8 k
  | 9 => tyL k
  | _ => tyJ4 k
def a_nf (ci : Nat) : Nat := match ci with
  | 0 => 2
  | 1 => 12
  | 2 => 3
  | 3 => 15
  | 4 => 4
  | 5 => 2
  | 6 => 7
  | 7 => 8
  | 8 => 16
  | 9 => 33
  | _ => 4
def a_cn (ci : Nat) : String := match ci with
  | 0 => RX0
  | 1 => RX1
  | 2 => RX2
  | 3 => RX3
  | 4 => RX4
  | 5 => RX5
  | 6 => RX6
  | 7 => RX7
  | 8 => RX8
  | 9 => RL
  | _ => RJ4
def a_c0 (cnd : ClassFile.Cond) (x : Int32) : Bool := match cnd with
  | .eq => decide (x = 0)
  | .ne => decide (¬ x = 0)
  | .lt => decide (x < 0)
  | .ge => decide (0 ≤ x)
  | .gt => decide (0 < x)
  | .le => decide (x ≤ 0)
def a_c2 (cnd : ClassFile.Cond) (x y : Int32) : Bool := match cnd with
  | .eq => decide (x = y)
  | .ne => decide (¬ x = y)
  | .lt => decide (x < y)
  | .ge => decide (y ≤ x)
  | .gt => decide (y < x)
  | .le => decide (x ≤ y)
def a_ldI (ls : List Value) (k : Nat) : Option Value := match ls[k]? with
  | some (.int x) => some (.int x)
  | _ => none
def a_ldL (ls : List Value) (k : Nat) : Option Value := match ls[k]? with
  | some (.long x) => some (.long x)
  | _ => none
def a_ldD (ls : List Value) (k : Nat) : Option Value := match ls[k]? with
  | some (.double x) => some (.double x)
  | _ => none
def a_ldA (ls : List Value) (k : Nat) : Option Value := match ls[k]? with
  | some (.ref x) => some (.ref x)
  | _ => none
/-- the tables of digits that Integer.getChars reads: ones, tens -/
def a_dig (w j : Nat) : Int32 := Int32.ofNat (48 + if w = 0 then j % 10 else j / 10)
/-- the value that a load of an element gives, by the instruction's kind: 0 int, 1 byte or boolean, 2 long, 3 reference -/
def a_rd (xs : Nat → Int32) (L : Nat) (h : a_H) (o : Nat) (j : Int32) (kd : Nat) : Option Value :=
  if o = a_big then (if kd = 0 ∧ ¬ (j < 0 ∨ L ≤ j.toNatClampNeg) then some (.int (xs j.toNatClampNeg)) else none) else
  if o = a_big + 500 ∨ o = a_big + 501 then (if kd = 1 ∧ ¬ (j < 0 ∨ 100 ≤ j.toNatClampNeg) then some (.int (a_dig (o - a_big - 500) j.toNatClampNeg)) else none) else
  match h[o]? with
  | some (.inl (ty, n, .inl f)) => if ¬ (j < 0 ∨ n ≤ j.toNatClampNeg) ∧ ((kd = 0 ∧ ty = .int) ∨ (kd = 1 ∧ (ty = .byte ∨ ty = .boolean))) then some (.int (f j.toNatClampNeg)) else none
  | some (.inl (ty, n, .inr (.inl f))) => if ¬ (j < 0 ∨ n ≤ j.toNatClampNeg) ∧ kd = 2 ∧ ty = .long then some (.long (f j.toNatClampNeg)) else none
  | some (.inl (ty, n, .inr (.inr (.inr (.inr f))))) => if ¬ (j < 0 ∨ n ≤ j.toNatClampNeg) ∧ kd = 3 ∧ ty.isReference = true then some (va_rf (f j.toNatClampNeg)) else none
  | _ => none
/-- the heap behind a store into an array of numbers -/
def a_wr (h : a_H) (o : Nat) (j : Int32) (v : Value) (kd : Nat) : Option a_H :=
  match h[o]?, v with
  | some (.inl (ty, n, .inl f)), .int x => if ¬ (j < 0 ∨ n ≤ j.toNatClampNeg) then (if kd = 0 ∧ ty = .int then some (h.set o (.inl (ty, n, .inl (upd f j.toNatClampNeg x)))) else
      if kd = 1 ∧ ty = .byte then some (h.set o (.inl (ty, n, .inl (upd f j.toNatClampNeg (vp_nar .byte x))))) else
      if kd = 1 ∧ ty = .boolean then some (h.set o (.inl (ty, n, .inl (upd f j.toNatClampNeg (vp_nar .boolean x))))) else none) else none
  | some (.inl (ty, n, .inr (.inl f))), .long x => if ¬ (j < 0 ∨ n ≤ j.toNatClampNeg) ∧ kd = 2 ∧ ty = .long then some (h.set o (.inl (ty, n, .inr (.inl (vp_updL f j.toNatClampNeg x))))) else none
  | _, _ => none
/-- the heap behind a store of an object of class ci into an array of such -/
def a_wq (h : a_H) (o : Nat) (j : Int32) (q ci : Nat) : Option a_H :=
  match h[o]?, h[q]? with
  | some (.inl (ty, n, .inr (.inr (.inr (.inr f))))), some (.inr (cj, _)) => if ¬ (j < 0 ∨ n ≤ j.toNatClampNeg) ∧ cj = ci ∧ ci < 11 ∧ ty = .object (a_cn ci) then some (h.set o (.inl (ty, n, .inr (.inr (.inr (.inr (va_up f j.toNatClampNeg (some q))))))))  else none
  | _, _ => none
def a_gf (h : a_H) (o ci k : Nat) : Option Value := match h[o]? with
  | some (.inr (cj, fs)) => if cj = ci then fs[k]? else none
  | _ => none
def a_pf (h : a_H) (o ci k : Nat) (v : Value) : Option a_H := match h[o]? with
  | some (.inr (cj, fs)) => if cj = ci ∧ k < fs.length ∧ narrow (a_ty ci k) v = v ∧ fits (a_ty ci k) v = true then some (h.set o (.inr (ci, fs.set k v))) else none
  | _ => none
def a_df (ty : FieldType) : Option vp_A := match ty with
  | .int => some (0, .inl (fun _ => 0))
  | .byte => some (0, .inl (fun _ => 0))
  | .boolean => some (0, .inl (fun _ => 0))
  | .long => some (0, .inr (.inl (fun _ => 0)))
  | _ => none
def a_len (L : Nat) (h : a_H) (o : Nat) : Option Int32 := if o = a_big then some (Int32.ofNat L) else match h[o]? with
  | some (.inl (_, n, _)) => some (Int32.ofNat n)
  | _ => none
def a_ins (xs : Nat → Int32) (L : Nat) (i : Instr) (a b : Nat) (pc : Nat) (ls st : List Value) (h : a_H) (c n : Nat) : Option a_S :=
  match i with
  | .iconst k => some (pc + 1, ls, .int (Int32.ofInt k) :: st, h, c, n)
  | .bipush k => some (pc + 2, ls, .int (Int8.ofInt k).toInt32 :: st, h, c, n)
  | .sipush k => some (pc + 3, ls, .int (Int16.ofInt k).toInt32 :: st, h, c, n)
  | .lconst k => some (pc + 1, ls, .long (Int64.ofNat (k : Nat)) :: st, h, c, n)
  | .fconst k => if k = 0 then some (pc + 1, ls, .float FP.fconst0 :: st, h, c, n) else none
  | .dconst k => if k = 0 then some (pc + 1, ls, .double FP.dconst0 :: st, h, c, n) else none
  | .ldc _ => some (pc + 2, ls, (if a_big ≤ a then .int (Int32.ofNat (a - a_big)) else .ref (a_big + 1 + a)) :: st, h, c, n)
  | .ldc_w _ => some (pc + 3, ls, .ref (a_big + 1 + a) :: st, h, c, n)
  | .ldc2_w _ => some (pc + 3, ls, .long (Int64.ofNat a) :: st, h, c, n)
  | .iload k => (a_ldI ls k).map fun v => (pc + 2, ls, v :: st, h, c, n)
  | .iload_n k => (a_ldI ls k).map fun v => (pc + 1, ls, v :: st, h, c, n)
  | .lload k => (a_ldL ls k).map fun v => (pc + 2, ls, v :: st, h, c, n)
  | .lload_n k => (a_ldL ls k).map fun v => (pc + 1, ls, v :: st, h, c, n)
  | .dload k => (a_ldD ls k).map fun v => (pc + 2, ls, v :: st, h, c, n)
  | .dload_n k => (a_ldD ls k).map fun v => (pc + 1, ls, v :: st, h, c, n)
  | .aload k => (a_ldA ls k).map fun v => (pc + 2, ls, v :: st, h, c, n)
  | .aload_n k => (a_ldA ls k).map fun v => (pc + 1, ls, v :: st, h, c, n)
  | .istore k => match st with
    | .int x :: r => if k < ls.length then some (pc + 2, a_sto ls k (.int x), r, h, c, n) else none
    | _ => none
  | .istore_n k => match st with
    | .int x :: r => if (k : Nat) < ls.length then some (pc + 1, a_sto ls k (.int x), r, h, c, n) else none
    | _ => none
  | .astore k => match st with
    | .ref x :: r => if k < ls.length then some (pc + 2, a_sto ls k (.ref x), r, h, c, n) else none
    | _ => none
  | .astore_n k => match st with
    | .ref x :: r => if (k : Nat) < ls.length then some (pc + 1, a_sto ls k (.ref x), r, h, c, n) else none
    | _ => none
  | .dstore k => match st with
    | .double x :: r => if k + 1 < ls.length then some (pc + 2, a_sto ls k (.double x), r, h, c, n) else none
    | _ => none
  | .iinc k d => match ls[k]? with
    | some (.int x) => some (pc + 3, a_sto ls k (.int (x + Int32.ofInt d)), st, h, c, n)
    | _ => none
  | .iadd => match st with
    | .int y :: .int x :: r => some (pc + 1, ls, .int (x + y) :: r, h, c, n)
    | _ => none
  | .isub => match st with
    | .int y :: .int x :: r => some (pc + 1, ls, .int (x - y) :: r, h, c, n)
    | _ => none
  | .imul => match st with
    | .int y :: .int x :: r => some (pc + 1, ls, .int (x * y) :: r, h, c, n)
    | _ => none
  | .idiv => match st with
    | .int y :: .int x :: r => if y = 0 then none else some (pc + 1, ls, .int (x / y) :: r, h, c, n)
    | _ => none
  | .irem => match st with
    | .int y :: .int x :: r => if y = 0 then none else some (pc + 1, ls, .int (x - x / y * y) :: r, h, c, n)
    | _ => none
  | .iand => match st with
    | .int y :: .int x :: r => some (pc + 1, ls, .int (x &&& y) :: r, h, c, n)
    | _ => none
  | .ior => match st with
    | .int y :: .int x :: r => some (pc + 1, ls, .int (x ||| y) :: r, h, c, n)
    | _ => none
  | .ishl => match st with
    | .int y :: .int x :: r => some (pc + 1, ls, .int (x <<< (y &&& 31)) :: r, h, c, n)
    | _ => none
  | .ishr => match st with
    | .int y :: .int x :: r => some (pc + 1, ls, .int (x >>> (y &&& 31)) :: r, h, c, n)
    | _ => none
  | .iushr => match st with
    | .int y :: .int x :: r => some (pc + 1, ls, .int (x.toUInt32 >>> (y.toUInt32 &&& Int32.toUInt32 31)).toInt32 :: r, h, c, n)
    | _ => none
  | .i2l => match st with
    | .int x :: r => some (pc + 1, ls, .long x.toInt64 :: r, h, c, n)
    | _ => none
  | .i2b => match st with
    | .int x :: r => some (pc + 1, ls, .int x.toInt8.toInt32 :: r, h, c, n)
    | _ => none
  | .ineg => match st with
    | .int x :: r => some (pc + 1, ls, .int (-x) :: r, h, c, n)
    | _ => none
  | .i2c => match st with
    | .int x :: r => some (pc + 1, ls, .int (x.toUInt32 % 65536).toInt32 :: r, h, c, n)
    | _ => none
  | .dup_x1 => match st with
    | v :: w :: r => if v.category = 1 ∧ w.category = 1 then some (pc + 1, ls, v :: w :: v :: r, h, c, n) else none
    | _ => none
  | .ifnonnull off => match st with
    | .ref _ :: r => if 0 ≤ (pc : Int) + off then some (((pc : Int) + off).toNat, ls, r, h, c, n) else none
    | _ => none
  | .getstatic _ => some (pc + 3, ls, (if a = 0 then .int 1 else .ref (a_big + 499 + a)) :: st, h, c, n)
  | .i2d => match st with
    | .int x :: r => some (pc + 1, ls, .double (FP.i2d x) :: r, h, c, n)
    | _ => none
  | .i2f => match st with
    | .int x :: r => some (pc + 1, ls, .float (FP.i2f x) :: r, h, c, n)
    | _ => none
  | .f2d => match st with
    | .float x :: r => if FP.f2d x &&& 0x7fffffffffffffff ≤ 0x7ff0000000000000 then some (pc + 1, ls, .double (FP.f2d x) :: r, h, c, n) else none
    | _ => none
  | .ddiv => match st with
    | .double y :: .double x :: r => if FP.ddiv x y &&& 0x7fffffffffffffff ≤ 0x7ff0000000000000 then some (pc + 1, ls, .double (FP.ddiv x y) :: r, h, c, n) else none
    | _ => none
  | .fdiv => match st with
    | .float y :: .float x :: r => if FP.fdiv x y &&& 0x7fffffff ≤ 0x7f800000 then some (pc + 1, ls, .float (FP.fdiv x y) :: r, h, c, n) else none
    | _ => none
  | .lcmp => match st with
    | .long y :: .long x :: r => some (pc + 1, ls, .int (lg_cmp x y) :: r, h, c, n)
    | _ => none
  | .dcmp op => match st with
    | .double y :: .double x :: r => some (pc + 1, ls, .int (Op.cmpValue (FP.dcmp x y) op) :: r, h, c, n)
    | _ => none
  | .dup => match st with
    | v :: r => if v.category = 1 then some (pc + 1, ls, v :: v :: r, h, c, n) else none
    | _ => none
  | .dup2 => match st with
    | v :: w :: r => if v.category = 1 ∧ w.category = 1 then some (pc + 1, ls, v :: w :: v :: w :: r, h, c, n) else none
    | _ => none
  | .pop => match st with
    | v :: r => if v.category = 1 then some (pc + 1, ls, r, h, c, n) else none
    | _ => none
  | .ifCond cnd off => match st with
    | .int x :: r => if 0 ≤ (pc : Int) + off then some (if a_c0 cnd x then ((pc : Int) + off).toNat else pc + 3, ls, r, h, c, n) else none
    | _ => none
  | .if_icmp cnd off => match st with
    | .int y :: .int x :: r => if 0 ≤ (pc : Int) + off then some (if a_c2 cnd x y then ((pc : Int) + off).toNat else pc + 3, ls, r, h, c, n) else none
    | _ => none
  | .goto off => if 0 ≤ (pc : Int) + off then some (((pc : Int) + off).toNat, ls, st, h, c, n) else none
  | .tableswitch dflt lo hi offs => match st with
    | .int x :: r => if x.toInt < lo ∨ hi < x.toInt then (if 0 ≤ (pc : Int) + dflt then some (((pc : Int) + dflt).toNat, ls, r, h, c, n) else none)
      else match offs[(x.toInt - lo).toNat]? with
        | some off => if 0 ≤ (pc : Int) + off then some (((pc : Int) + off).toNat, ls, r, h, c, n) else none
        | none => none
    | _ => none
  | .getfield _ => match st with
    | .ref o :: r => (a_gf h o a b).map fun v => (pc + 3, ls, v :: r, h, c, n)
    | _ => none
  | .putfield _ => match st with
    | v :: .ref o :: r => (a_pf h o a b v).map fun h1 => (pc + 3, ls, r, h1, c, n)
    | _ => none
  | .iaload => match st with
    | .int j :: .ref o :: r => (a_rd xs L h o j 0).map fun v => (pc + 1, ls, v :: r, h, c, n)
    | _ => none
  | .baload => match st with
    | .int j :: .ref o :: r => (a_rd xs L h o j 1).map fun v => (pc + 1, ls, v :: r, h, c, n)
    | _ => none
  | .laload => match st with
    | .int j :: .ref o :: r => (a_rd xs L h o j 2).map fun v => (pc + 1, ls, v :: r, h, c, n)
    | _ => none
  | .aaload => match st with
    | .int j :: .ref o :: r => (a_rd xs L h o j 3).map fun v => (pc + 1, ls, v :: r, h, c, n)
    | _ => none
  | .iastore => match st with
    | v :: .int j :: .ref o :: r => (a_wr h o j v 0).map fun h1 => (pc + 1, ls, r, h1, c, n)
    | _ => none
  | .bastore => match st with
    | v :: .int j :: .ref o :: r => (a_wr h o j v 1).map fun h1 => (pc + 1, ls, r, h1, c, n)
    | _ => none
  | .lastore => match st with
    | v :: .int j :: .ref o :: r => (a_wr h o j v 2).map fun h1 => (pc + 1, ls, r, h1, c, n)
    | _ => none
  | .aastore => match st with
    | .ref q :: .int j :: .ref o :: r => (a_wq h o j q a).map fun h1 => (pc + 1, ls, r, h1, c, n)
    | _ => none
  | .arraylength => match st with
    | .ref o :: r => (a_len L h o).map fun v => (pc + 1, ls, .int v :: r, h, c, n)
    | _ => none
  | .new _ => if 1 ≤ c ∧ a_nf a ≤ n ∧ h.length < a_big ∧ a < 11 then some (pc + 3, ls, .ref h.length :: st, h ++ [.inr (a, (List.range (a_nf a)).map fun k => defaultValue (a_ty a k))], c - 1, n - a_nf a) else none
  | .newarray at9 => match st with
    | .int k :: r => match a_df (newarray.typeOf at9) with
      | some x => if 1 ≤ c ∧ k.toNatClampNeg ≤ n ∧ h.length < a_big ∧ ¬ k < 0 ∧ k.toNatClampNeg ≤ 65536 then some (pc + 2, ls, .ref h.length :: r, h ++ [.inl (newarray.typeOf at9, k.toNatClampNeg, x.2)], c - 1, n - k.toNatClampNeg) else none
      | none => none
    | _ => none
  | .anewarray _ => match st with
    | .int k :: r => if 1 ≤ c ∧ k.toNatClampNeg ≤ n ∧ h.length < a_big ∧ ¬ k < 0 ∧ k.toNatClampNeg ≤ 65536 then some (pc + 3, ls, .ref h.length :: r, h ++ [.inl (.object (a_cn a), k.toNatClampNeg, .inr (.inr (.inr (.inr (fun _ => none)))))], c - 1, n - k.toNatClampNeg) else none
    | _ => none
  | _ => none
