/-! THE ABSTRACT MACHINE: the bytecode of the claim's methods over a heap of numbered cells. A constant that lies in the heap from the start (the script, ROOM, a String) is written .float k; no float is used by the claim. -/
abbrev nzE : Type := (FieldType × vp_A) ⊕ (Nat × (Nat → Value))
abbrev nzH : Type := Nat × (Nat × Nat) × (Nat → Option nzE) × (Nat × (Nat → Int32))
abbrev nzL : Type := List (Option Value)
abbrev nzO : Type := Option (Option Value × nzH)
abbrev nzA : Type := (Nat × nzL × List Value × nzH) ⊕ ((Option Value × nzH) ⊕ (nzM × List Value × List Value))
def nzlk {α : Type} (t : List (List (Nat × α))) (c i : Nat) : Option α := (t.getD c []).lookup i
def nzcell (h : nzH) (a : Nat) : Option nzE := h.2.2.1 a
def nzset (h : nzH) (a : Nat) (e : nzE) : nzH := (h.1, h.2.1, va_up h.2.2.1 a (some e), h.2.2.2)
def nznew (h : nzH) (k : Nat) (e : nzE) : nzH := (h.1 + 1, (h.2.1.1 + 1, h.2.1.2 + k), va_up h.2.2.1 h.1 (some e), h.2.2.2)
def nzfld (h : nzH) (a ci k : Nat) : Option Value := match nzcell h a with
  | some (.inr (c, F)) => if c = ci then some (F k) else none
  | _ => none
def nzgI (h : nzH) (a ci k : Nat) : Option Int32 := match nzfld h a ci k with
  | some (.int v) => some v
  | _ => none
def nzgL (h : nzH) (a ci k : Nat) : Option Int64 := match nzfld h a ci k with
  | some (.long v) => some v
  | _ => none
def nzgR (h : nzH) (a ci k : Nat) : Option Nat := match nzfld h a ci k with
  | some (.ref v) => some v
  | _ => none
def nzgN (h : nzH) (a ci k : Nat) : Option (Option Nat) := match nzfld h a ci k with
  | some (.ref v) => some (some v)
  | some .null => some none
  | _ => none
def nzput (h : nzH) (a ci k : Nat) (v : Value) : Option nzH := match nzcell h a with
  | some (.inr (c, F)) => if c = ci then some (nzset h a (.inr (c, va_up F k v))) else none
  | _ => none
def nzaI (h : nzH) (a : Nat) (i : Int32) : Option Int32 := match nzcell h a with
  | some (.inl (.int, n, .inl f)) => if i < 0 ∨ n ≤ i.toNatClampNeg then none else some (f i.toNatClampNeg)
  | _ => none
def nzaB (h : nzH) (a : Nat) (i : Int32) : Option Int32 := match nzcell h a with
  | some (.inl (.byte, n, .inl f)) => if i < 0 ∨ n ≤ i.toNatClampNeg then none else some (f i.toNatClampNeg)
  | some (.inl (.boolean, n, .inl f)) => if i < 0 ∨ n ≤ i.toNatClampNeg then none else some (f i.toNatClampNeg)
  | _ => none
def nzaL (h : nzH) (a : Nat) (i : Int32) : Option Int64 := match nzcell h a with
  | some (.inl (.long, n, .inr (.inl f))) => if i < 0 ∨ n ≤ i.toNatClampNeg then none else some (f i.toNatClampNeg)
  | _ => none
def nzaR (h : nzH) (a : Nat) (i : Int32) : Option Nat := match nzcell h a with
  | some (.inl (.array .int, n, .inr (.inr (.inr (.inr f))))) => if i < 0 ∨ n ≤ i.toNatClampNeg then none else f i.toNatClampNeg
  | _ => none
def nzsI (h : nzH) (a : Nat) (i x : Int32) : Option nzH := match nzcell h a with
  | some (.inl (.int, n, .inl f)) => if i < 0 ∨ n ≤ i.toNatClampNeg then none else some (nzset h a (.inl (.int, n, .inl (upd f i.toNatClampNeg x))))
  | _ => none
def nzsB (h : nzH) (a : Nat) (i x : Int32) : Option nzH := match nzcell h a with
  | some (.inl (.byte, n, .inl f)) => if i < 0 ∨ n ≤ i.toNatClampNeg then none else some (nzset h a (.inl (.byte, n, .inl (upd f i.toNatClampNeg (vp_nar .byte x)))))
  | some (.inl (.boolean, n, .inl f)) => if i < 0 ∨ n ≤ i.toNatClampNeg then none else some (nzset h a (.inl (.boolean, n, .inl (upd f i.toNatClampNeg (vp_nar .boolean x)))))
  | _ => none
def nzsL (h : nzH) (a : Nat) (i : Int32) (x : Int64) : Option nzH := match nzcell h a with
  | some (.inl (.long, n, .inr (.inl f))) => if i < 0 ∨ n ≤ i.toNatClampNeg then none else some (nzset h a (.inl (.long, n, .inr (.inl (vp_updL f i.toNatClampNeg x)))))
  | _ => none
def nzlen (h : nzH) (a : Nat) : Option Int32 := match nzcell h a with
  | some (.inl (.int, x)) => some (Int32.ofNat x.1)
  | _ => none
/-- the constants: 0 the script, 1 ROOM, 2 a formatter that is only carried, 10 + 2 j the String j, 11 + 2 j its bytes -/
def nzkI (h : nzH) (k : UInt32) : Option (Nat × (Nat → Int32)) := if k = 0 then some h.2.2.2 else if k = 1 then some (9, fun j => [3, 6, 4, 6, 3, 3, 5, 5, 1].getD j 0) else none
def nzkB (k : UInt32) : Option (Nat × (Nat → Int32)) := if k.toNat < 11 ∨ k.toNat % 2 = 0 then none else match nzStr[(k.toNat - 11) / 2]? with
  | some l => some (l.length, fun j => nI (l.getD j 0))
  | none => none
def nzkS (k : UInt32) : Bool := decide (10 ≤ k.toNat) && decide (k.toNat % 2 = 0) && decide (k.toNat < 130)
def nzcI (h : nzH) (k : UInt32) (i : Int32) : Option Int32 := match nzkI h k with
  | some (n, f) => if i < 0 ∨ n ≤ i.toNatClampNeg then none else some (f i.toNatClampNeg)
  | none => none
def nzcB (k : UInt32) (i : Int32) : Option Int32 := match nzkB k with
  | some (n, f) => if i < 0 ∨ n ≤ i.toNatClampNeg then none else some (f i.toNatClampNeg)
  | none => none
def nzclen (h : nzH) (k : UInt32) : Option Int32 := match nzkI h k with
  | some (n, _) => some (Int32.ofNat n)
  | none => match nzkB k with
    | some (n, _) => some (Int32.ofNat n)
    | none => none
/-- System.arraycopy of ints -/
def nzcpy (h : nzH) (a0 : Nat) (sp : Int32) (a : Nat) (dp n : Int32) : Option nzH := match nzcell h a0, nzcell h a with
  | some (.inl (.int, n0, .inl f)), some (.inl (.int, n1, .inl g)) => if sp < 0 ∨ dp < 0 ∨ n < 0 ∨ n0 < sp.toNatClampNeg + n.toNatClampNeg ∨ n1 < dp.toNatClampNeg + n.toNatClampNeg then none else some (nzset h a (.inl (.int, n1, .inl (va_cpy f g sp.toNatClampNeg dp.toNatClampNeg n.toNatClampNeg))))
  | _, _ => none
def nzzero (ty : FieldType) : Option ((Nat → Int32) ⊕ (Nat → Int64) ⊕ (Nat → UInt32) ⊕ (Nat → UInt64) ⊕ (Nat → Option Nat)) := match ty with
  | .int => some (.inl (fun _ => 0))
  | .byte => some (.inl (fun _ => 0))
  | .boolean => some (.inl (fun _ => 0))
  | .long => some (.inr (.inl (fun _ => 0)))
  | _ => none
def nznewa (h : nzH) (ty : FieldType) (n : Int32) : Option nzH := match nzzero ty with
  | some z => if n < 0 ∨ 100000 < n.toNatClampNeg then none else some (nznew h n.toNatClampNeg (.inl (ty, n.toNatClampNeg, z)))
  | none => none
def nzrows (h : nzH) (k : Nat) : Nat → nzH
  | 0 => h
  | n + 1 => nznew (nzrows h k n) k (.inl (.int, k, .inl (fun _ => 0)))
/-- new int[n][k] -/
def nznewm (h : nzH) (n k : Int32) : Option nzH := if n < 0 ∨ k < 0 ∨ 1000 < n.toNatClampNeg ∨ 1000 < k.toNatClampNeg then none else
  some (nzrows (nznew h n.toNatClampNeg (.inl (.array .int, n.toNatClampNeg, .inr (.inr (.inr (.inr (fun i => if i < n.toNatClampNeg then some (h.1 + 1 + i) else none))))))) k.toNatClampNeg n.toNatClampNeg)
def nznewo (h : nzH) (ci : Nat) : Option nzH := match nzNF[ci]?, nzTy[ci]? with
  | some N, some ty => some (nznew h N (.inr (ci, fun k => defaultValue (ty k))))
  | _, _ => none
-- locals
def nzlv (ls : nzL) (i : Nat) : Option Value := match ls[i]? with
  | some (some v) => some v
  | _ => none
def nzclr (ls : nzL) (i : Nat) : nzL := match i with
  | 0 => ls
  | k + 1 => match ls[k]? with
    | some (some v) => if v.category = 2 then ls.set k none else ls
    | _ => ls
def nzp1 (ls : nzL) (i : Nat) (v : Value) : Option nzL := if i < ls.length then some ((nzclr ls i).set i (some v)) else none
def nzp2 (ls : nzL) (i : Nat) (v : Value) : Option nzL := if i + 1 < ls.length then some (((nzclr ls i).set i (some v)).set (i + 1) none) else none
def nzsl (vs : List Value) : nzL := vs.flatMap fun v => if v.category = 2 then [some v, none] else [some v]
def nzin (m : nzM) (as : List Value) : Option nzL := if (nzsl as).length ≤ m.2.2.2.1 then some (nzsl as ++ List.replicate (m.2.2.2.1 - (nzsl as).length) none) else none
-- what an instruction does
def nzg (pc : Nat) (ls : nzL) (st : List Value) (h : nzH) : Option nzA := some (.inl (pc, ls, st, h))
def nzj (pc : Nat) (off : Int) : Option Nat := if 0 ≤ (pc : Int) + off then some ((pc : Int) + off).toNat else none
def nzjmp (pc : Nat) (off : Int) (ls : nzL) (st : List Value) (h : nzH) : Option nzA := match nzj pc off with
  | some t => nzg t ls st h
  | none => none
def nziff (c : ClassFile.Cond) (x y : Int32) (a b : Option nzA) : Option nzA := match c with
  | .eq => if x = y then a else b
  | .ne => if x = y then b else a
  | .lt => if x < y then a else b
  | .ge => if y ≤ x then a else b
  | .gt => if y < x then a else b
  | .le => if x ≤ y then a else b
def nz2 (pc : Nat) (ls : nzL) (st : List Value) (h : nzH) (f : Int32 → Int32 → Option Int32) : Option nzA := match st with
  | .int y :: .int x :: r => (f x y).bind fun v => nzg (pc + 1) ls (.int v :: r) h
  | _ => none
def nz1 (pc : Nat) (ls : nzL) (st : List Value) (h : nzH) (f : Int32 → Value) : Option nzA := match st with
  | .int x :: r => nzg (pc + 1) ls (f x :: r) h
  | _ => none
def nz2l (pc : Nat) (ls : nzL) (st : List Value) (h : nzH) (f : Int64 → Int64 → Value) : Option nzA := match st with
  | .long y :: .long x :: r => nzg (pc + 1) ls (f x y :: r) h
  | _ => none
def nzli (pc k : Nat) (ls : nzL) (st : List Value) (h : nzH) (i : Nat) : Option nzA := match nzlv ls i with
  | some (.int v) => nzg (pc + k) ls (.int v :: st) h
  | _ => none
def nzll (pc k : Nat) (ls : nzL) (st : List Value) (h : nzH) (i : Nat) : Option nzA := match nzlv ls i with
  | some (.long v) => nzg (pc + k) ls (.long v :: st) h
  | _ => none
def nzla (pc k : Nat) (ls : nzL) (st : List Value) (h : nzH) (i : Nat) : Option nzA := match nzlv ls i with
  | some (.ref v) => nzg (pc + k) ls (.ref v :: st) h
  | some (.float v) => nzg (pc + k) ls (.float v :: st) h
  | _ => none
def nzsi (pc k : Nat) (ls : nzL) (st : List Value) (h : nzH) (i : Nat) : Option nzA := match st with
  | .int v :: r => (nzp1 ls i (.int v)).bind fun l => nzg (pc + k) l r h
  | _ => none
def nzsa (pc k : Nat) (ls : nzL) (st : List Value) (h : nzH) (i : Nat) : Option nzA := match st with
  | .ref v :: r => (nzp1 ls i (.ref v)).bind fun l => nzg (pc + k) l r h
  | _ => none
def nzst2 (pc k : Nat) (ls : nzL) (st : List Value) (h : nzH) (i : Nat) : Option nzA := match st with
  | .long v :: r => (nzp2 ls i (.long v)).bind fun l => nzg (pc + k) l r h
  | _ => none
def nznt (m : nzM) (pc : Nat) : Bool := match decode m.2.2.1 pc with
  | .ok (.ifnull _, _) => true
  | .ok (.ifnonnull _, _) => true
  | _ => false
def nzgetf (m : nzM) (pc idx : Nat) (ls : nzL) (st : List Value) (h : nzH) : Option nzA := match nzlk nzTF m.1 idx, st with
  | some (_, ci, k, 0), .ref a :: r => (nzgI h a ci k).bind fun v => nzg (pc + 3) ls (.int v :: r) h
  | some (_, ci, k, 1), .ref a :: r => (nzgL h a ci k).bind fun v => nzg (pc + 3) ls (.long v :: r) h
  | some (_, ci, k, 2), .ref a :: r => if nznt m (pc + 3) then (nzgN h a ci k).bind fun v => nzg (pc + 3) ls (va_rf v :: r) h else (nzgR h a ci k).bind fun v => nzg (pc + 3) ls (.ref v :: r) h
  | some (_, 18, 0, 2), .float a :: r => if nzkS a then nzg (pc + 3) ls (.float (a + 1) :: r) h else none
  | some (_, 18, 1, 0), .float a :: r => if nzkS a then nzg (pc + 3) ls (.int 0 :: r) h else none
  | _, _ => none
def nzfit (ci k : Nat) (v : Value) : Bool := match nzNF[ci]?, nzTy[ci]? with
  | some N, some ty => decide (k < N) && decide (narrow (ty k) v = v) && fits (ty k) v
  | _, _ => false
/-- a final field is put by its class's constructor alone -/
def nzpok (m : nzM) (ci k : Nat) : Bool := match vwCl[ci]? with
  | some q => !(q.2.1 k).2.2.2 || (decide (m.2.1.name = "<init>") && decide (ci = m.1))
  | none => false
def nzputf (m : nzM) (pc idx : Nat) (ls : nzL) (st : List Value) (h : nzH) : Option nzA := match nzlk nzTF m.1 idx, st with
  | some (_, ci, k, _), v :: .ref a :: r => if nzfit ci k v && nzpok m ci k then (nzput h a ci k v).bind fun h1 => nzg (pc + 3) ls r h1 else none
  | _, _ => none
def nzcat (st : List Value) : Bool := decide ((st.map fun v => v.category).sum ≤ 8)
/-- the law's own led(x, car, i, out): the house, or 1 where NoonMeals.led throws -/
def nzledv (h : nzH) (x : Nat) (car i : Int32) : Option (Option Int32) :=
  (nzgR h x 11 1).bind fun r => (nzgR h r 6 1).bind fun cs => (nzgR h r 6 0).bind fun rt =>
    if car < 0 ∨ 3 ≤ car then (if i < 0 then some none else some none) else
      (nzaI h cs car).bind fun n => if i < 0 ∨ n ≤ i then some none else (nzaR h rt car).bind fun row => (nzaI h row i).bind fun v => if v = -1 then some none else some (some v)
def nzled (h : nzH) (st : List Value) : Option (List Value × nzH) := match st with
  | .ref out :: .int i :: .int car :: .ref x :: r => (nzledv h x car i).bind fun q => match q with
    | some v => (nzsL h out 0 v.toInt64).bind fun h1 => some (.int 0 :: r, h1)
    | none => some (.int 1 :: r, (h.1 + 1, (h.2.1.1 + 1, h.2.1.2 + 6), h.2.2))
  | _ => none
def nzinvS (m : nzM) (pc idx : Nat) (ls : nzL) (st : List Value) (h : nzH) : Option nzA := match nzlk nzTM m.1 idx with
  | some (1, n, m') => if (st.take n).length = n ∧ nzcat (st.drop n) then some (.inr (.inr (m', (st.take n).reverse, st.drop n))) else none
  | some (4, n, m') => if (st.take n).length = n ∧ nzcat (st.drop n) then some (.inr (.inr (m', (st.take n).reverse, st.drop n))) else none
  | some (7, _, _) => match st with
    | .int n :: .int dp :: .ref a :: .int sp :: .ref a0 :: r => if nzcat r then (nzcpy h a0 sp a dp n).bind fun h1 => nzg (pc + 3) ls r h1 else none
    | _ => none
  | some (9, _, _) => match st with
    | .int y :: .int x :: r => if nzcat r then nzg (pc + 3) ls (.int (if y < x then y else x) :: r) h else none
    | _ => none
  | some (10, _, _) => match st with
    | .int y :: .int x :: r => if nzcat r then nzg (pc + 3) ls (.int (if x < y then y else x) :: r) h else none
    | _ => none
  | some (11, _, _) => match st with
    | .int x :: r => if nzcat r then nzg (pc + 3) ls (.int (if 0 ≤ x then x else 0 - x) :: r) h else none
    | _ => none
  | some (8, _, _) => if nzcat (st.drop 4) then (nzled h st).bind fun q => nzg (pc + 3) ls q.1 q.2 else none
  | _ => none
def nzinvV (m : nzM) (idx : Nat) (st : List Value) : Option nzA := match nzlk nzTM m.1 idx with
  | some (0, n, m') => if (st.take (n + 1)).length = n + 1 ∧ nzcat (st.drop (n + 1)) then some (.inr (.inr (m', (st.take (n + 1)).reverse, st.drop (n + 1)))) else none
  | some (3, n, m') => if (st.take (n + 1)).length = n + 1 ∧ nzcat (st.drop (n + 1)) then some (.inr (.inr (m', (st.take (n + 1)).reverse, st.drop (n + 1)))) else none
  | _ => none
def nzinvI (m : nzM) (pc idx : Nat) (ls : nzL) (st : List Value) (h : nzH) : Option nzA := match nzlk nzTM m.1 idx with
  | some (2, n, m') => if (st.take (n + 1)).length = n + 1 ∧ nzcat (st.drop (n + 1)) then some (.inr (.inr (m', (st.take (n + 1)).reverse, st.drop (n + 1)))) else none
  | some (5, n, m') => if (st.take (n + 1)).length = n + 1 ∧ nzcat (st.drop (n + 1)) then some (.inr (.inr (m', (st.take (n + 1)).reverse, st.drop (n + 1)))) else none
  | some (6, _, _) => match st with
    | .ref _ :: r => if nzcat r then nzg (pc + 3) ls r h else none
    | _ => none
  | _ => none
def nzact (m : nzM) (pc len : Nat) (i : Instr) (ls : nzL) (st : List Value) (h : nzH) : Option nzA := match i with
  | .iconst n => nzg (pc + 1) ls (.int (Int32.ofInt n) :: st) h
  | .bipush n => nzg (pc + 2) ls (.int (Int8.ofInt n).toInt32 :: st) h
  | .sipush n => nzg (pc + 3) ls (.int (Int16.ofInt n).toInt32 :: st) h
  | .lconst n => nzg (pc + 1) ls (.long (Int64.ofNat (n : Nat)) :: st) h
  | .ldc k => (nzlk nzTC m.1 k).bind fun v => nzg (pc + 2) ls (v :: st) h
  | .ldc_w k => (nzlk nzTC m.1 k).bind fun v => nzg (pc + 3) ls (v :: st) h
  | .ldc2_w k => (nzlk nzTL m.1 k).bind fun v => nzg (pc + 3) ls (.long v :: st) h
  | .iload_n n => nzli pc 1 ls st h n
  | .iload n => nzli pc 2 ls st h n
  | .lload_n n => nzll pc 1 ls st h n
  | .lload n => nzll pc 2 ls st h n
  | .aload_n n => nzla pc 1 ls st h n
  | .aload n => nzla pc 2 ls st h n
  | .istore_n n => nzsi pc 1 ls st h n
  | .istore n => nzsi pc 2 ls st h n
  | .lstore_n n => nzst2 pc 1 ls st h n
  | .lstore n => nzst2 pc 2 ls st h n
  | .astore_n n => nzsa pc 1 ls st h n
  | .astore n => nzsa pc 2 ls st h n
  | .iinc n k => match nzlv ls n with
    | some (.int v) => (nzp1 ls n (.int (v + Int32.ofInt k))).bind fun l => nzg (pc + 3) l st h
    | _ => none
  | .iadd => nz2 pc ls st h (fun x y => some (x + y))
  | .isub => nz2 pc ls st h (fun x y => some (x - y))
  | .imul => nz2 pc ls st h (fun x y => some (x * y))
  | .iand => nz2 pc ls st h (fun x y => some (x &&& y))
  | .ior => nz2 pc ls st h (fun x y => some (x ||| y))
  | .ixor => nz2 pc ls st h (fun x y => some (x ^^^ y))
  | .idiv => nz2 pc ls st h (fun x y => if y = 0 then none else some (x / y))
  | .irem => nz2 pc ls st h (fun x y => if y = 0 then none else some (x - x / y * y))
  | .ishl => nz2 pc ls st h (fun x y => some (x <<< (y &&& 31)))
  | .ishr => nz2 pc ls st h (fun x y => some (x >>> (y &&& 31)))
  | .iushr => nz2 pc ls st h (fun x y => some ((x.toUInt32 >>> (y.toUInt32 &&& Int32.toUInt32 31)).toInt32))
  | .ineg => nz1 pc ls st h (fun x => .int (-x))
  | .i2l => nz1 pc ls st h (fun x => .long x.toInt64)
  | .i2b => nz1 pc ls st h (fun x => .int x.toInt8.toInt32)
  | .i2c => nz1 pc ls st h (fun x => .int (x.toUInt32 % 65536).toInt32)
  | .ladd => nz2l pc ls st h (fun x y => .long (x + y))
  | .lmul => nz2l pc ls st h (fun x y => .long (x * y))
  | .lcmp => nz2l pc ls st h (fun x y => .int (lg_cmp x y))
  | .dup => match st with
    | v :: r => if v.category = 1 then nzg (pc + 1) ls (v :: v :: r) h else none
    | _ => none
  | .dup2 => match st with
    | v :: w :: r => if v.category = 1 ∧ w.category = 1 then nzg (pc + 1) ls (v :: w :: v :: w :: r) h else none
    | _ => none
  | .pop => match st with
    | v :: r => if v.category = 1 then nzg (pc + 1) ls r h else none
    | _ => none
  | .goto o => nzjmp pc o ls st h
  | .ifCond c o => match st, nzj pc o with
    | .int x :: r, some t => nziff c x 0 (nzg t ls r h) (nzg (pc + 3) ls r h)
    | _, _ => none
  | .if_icmp c o => match st, nzj pc o with
    | .int y :: .int x :: r, some t => nziff c x y (nzg t ls r h) (nzg (pc + 3) ls r h)
    | _, _ => none
  | .ifnull o => match st with
    | .null :: r => nzjmp pc o ls r h
    | .ref _ :: r => nzg (pc + 3) ls r h
    | _ => none
  | .ifnonnull o => match st with
    | .null :: r => nzg (pc + 3) ls r h
    | .ref _ :: r => nzjmp pc o ls r h
    | _ => none
  | .tableswitch dflt lo hi offs => match st with
    | .int x :: r => if x.toInt < lo ∨ hi < x.toInt then nzjmp pc dflt ls r h else match offs[(x.toInt - lo).toNat]? with
      | some o => nzjmp pc o ls r h
      | none => none
    | _ => none
  | .getfield k => nzgetf m pc k ls st h
  | .putfield k => nzputf m pc k ls st h
  | .getstatic k => (nzlk nzTS m.1 k).bind fun v => nzg (pc + 3) ls (v :: st) h
  | .iaload => match st with
    | .int i :: .ref a :: r => (nzaI h a i).bind fun v => nzg (pc + 1) ls (.int v :: r) h
    | .int i :: .float k :: r => (nzcI h k i).bind fun v => nzg (pc + 1) ls (.int v :: r) h
    | _ => none
  | .baload => match st with
    | .int i :: .ref a :: r => (nzaB h a i).bind fun v => nzg (pc + 1) ls (.int v :: r) h
    | .int i :: .float k :: r => (nzcB k i).bind fun v => nzg (pc + 1) ls (.int v :: r) h
    | _ => none
  | .laload => match st with
    | .int i :: .ref a :: r => (nzaL h a i).bind fun v => nzg (pc + 1) ls (.long v :: r) h
    | _ => none
  | .aaload => match st with
    | .int i :: .ref a :: r => (nzaR h a i).bind fun v => nzg (pc + 1) ls (.ref v :: r) h
    | _ => none
  | .iastore => match st with
    | .int x :: .int i :: .ref a :: r => (nzsI h a i x).bind fun h1 => nzg (pc + 1) ls r h1
    | _ => none
  | .bastore => match st with
    | .int x :: .int i :: .ref a :: r => (nzsB h a i x).bind fun h1 => nzg (pc + 1) ls r h1
    | _ => none
  | .lastore => match st with
    | .long x :: .int i :: .ref a :: r => (nzsL h a i x).bind fun h1 => nzg (pc + 1) ls r h1
    | _ => none
  | .arraylength => match st with
    | .ref a :: r => (nzlen h a).bind fun v => nzg (pc + 1) ls (.int v :: r) h
    | .float k :: r => (nzclen h k).bind fun v => nzg (pc + 1) ls (.int v :: r) h
    | _ => none
  | .newarray t => match st with
    | .int n :: r => (nznewa h (newarray.typeOf t) n).bind fun h1 => nzg (pc + 2) ls (.ref h.1 :: r) h1
    | _ => none
  | .multianewarray k 2 => match st with
    | .int c :: .int n :: r => (nzlk nzTA m.1 k).bind fun _ => (nznewm h n c).bind fun h1 => nzg (pc + 4) ls (.ref h.1 :: r) h1
    | _ => none
  | .new k => (nzlk nzTN m.1 k).bind fun ci => (nznewo h ci).bind fun h1 => nzg (pc + 3) ls (.ref h.1 :: st) h1
  | .invokestatic k => nzinvS m pc k ls st h
  | .invokevirtual k => nzinvV m k st
  | .invokespecial k => nzinvI m pc k ls st h
  | .ireturn => match st, m.2.2.2.2.1 with
    | [.int v], some ty => if narrow ty (.int v) = .int v then some (.inr (.inl (some (.int v), h))) else none
    | _, _ => none
  | .lreturn => match st, m.2.2.2.2.1 with
    | [.long v], some .long => some (.inr (.inl (some (.long v), h)))
    | _, _ => none
  | .areturn => match st, m.2.2.2.2.1 with
    | [.ref v], some (.object _) => some (.inr (.inl (some (.ref v), h)))
    | _, _ => none
  | .return_ => match st, m.2.2.2.2.1 with
    | [], none => some (.inr (.inl (none, h)))
    | _, _ => none
  | _ => none
def nzpush (m : nzM) (v : Option Value) (rest : List Value) : Option (List Value) := match m.2.2.2.2.1, v with
  | none, none => some rest
  | some .long, some (.long x) => some (.long x :: rest)
  | some (.object _), some (.ref x) => some (.ref x :: rest)
  | some .int, some (.int x) => some (.int x :: rest)
  | some .boolean, some (.int x) => some (.int x :: rest)
  | some .byte, some (.int x) => some (.int x :: rest)
  | some .char, some (.int x) => some (.int x :: rest)
  | _, _ => none
/-- the receiver is of the method's own class -/
def nzrc (m : nzM) (as : List Value) (h : nzH) : Bool := match m.2.2.2.2.2 with
  | 0 => true
  | 1 => (match as with
    | .ref b :: _ => (match nzcell h b with
      | some (.inr (c, _)) => decide (c = m.1)
      | _ => false)
    | .float k :: _ => decide (m.1 = 18) && nzkS k
    | _ => false)
  | _ => (match as with
    | .ref _ :: _ => true
    | _ => false)
/-- the length of an instruction, as it is decoded -/
def nzil (i : Instr) (len : Nat) : Bool := match i with
  | .iload _ | .lload _ | .aload _ | .istore _ | .lstore _ | .astore _ | .bipush _ | .ldc _ | .newarray _ => decide (len = 2)
  | .sipush _ | .ldc_w _ | .ldc2_w _ | .iinc _ _ | .goto _ | .ifCond _ _ | .if_icmp _ _ | .ifnull _ | .ifnonnull _ | .getfield _ | .putfield _ | .getstatic _ | .new _ | .invokestatic _ | .invokevirtual _ | .invokespecial _ => decide (len = 3)
  | .multianewarray _ _ => decide (len = 4)
  | .tableswitch _ _ _ _ => true
  | _ => decide (len = 1)
def nzstep (m : nzM) (pc len : Nat) (i : Instr) (ls : nzL) (st : List Value) (h : nzH) : Option nzA := if nzil i len then nzact m pc len i ls st h else none
def nzgo : Nat → Nat → nzM → Nat → nzL → List Value → nzH → nzO
  | 0, _, _, _, _, _, _ => none
  | n + 1, d, m, pc, ls, st, h => match decode m.2.2.1 pc with
    | .ok (i, len) => (nzstep m pc len i ls st h).bind fun a => match a with
      | .inl (pc', ls', st', h') => nzgo n d m pc' ls' st' h'
      | .inr (.inl r) => some r
      | .inr (.inr (m', as, rest)) => match d with
        | 0 => none
        | d' + 1 => if nzrc m' as h then (nzin m' as).bind fun l => (nzgo n d' m' 0 l [] h).bind fun q => (nzpush m' q.1 rest).bind fun st' => nzgo n (d' + 1) m (pc + 3) ls st' q.2 else none
    | .error _ => none
