/-! one equation an instruction; written by wip/gen/gen_ins.py -/
theorem z_iconst {d : Nat} {m : nzM} {pc : Nat} {ls : nzL} {st : List Value} {h : nzH} {n : Int} {v : Int32} (hd : decode m.2.2.1 pc = .ok (.iconst n, 1)) (hv : Int32.ofInt n = v) : nzr d m pc ls st h = nzr d m (pc + 1) ls (.int v :: st) h := hv ▸ (nzr_of hd).trans rfl
theorem z_bipush {d : Nat} {m : nzM} {pc : Nat} {ls : nzL} {st : List Value} {h : nzH} {n : Int} {v : Int32} (hd : decode m.2.2.1 pc = .ok (.bipush n, 2)) (hv : (Int8.ofInt n).toInt32 = v) : nzr d m pc ls st h = nzr d m (pc + 2) ls (.int v :: st) h := hv ▸ (nzr_of hd).trans rfl
theorem z_sipush {d : Nat} {m : nzM} {pc : Nat} {ls : nzL} {st : List Value} {h : nzH} {n : Int} {v : Int32} (hd : decode m.2.2.1 pc = .ok (.sipush n, 3)) (hv : (Int16.ofInt n).toInt32 = v) : nzr d m pc ls st h = nzr d m (pc + 3) ls (.int v :: st) h := hv ▸ (nzr_of hd).trans rfl
theorem z_lconst {d : Nat} {m : nzM} {pc : Nat} {ls : nzL} {st : List Value} {h : nzH} {n : Fin 2} {v : Int64} (hd : decode m.2.2.1 pc = .ok (.lconst n, 1)) (hv : Int64.ofNat (n : Nat) = v) : nzr d m pc ls st h = nzr d m (pc + 1) ls (.long v :: st) h := hv ▸ (nzr_of hd).trans rfl
theorem z_ldc {d : Nat} {m : nzM} {pc : Nat} {ls : nzL} {st : List Value} {h : nzH} {k : Nat} {v : Value} (hd : decode m.2.2.1 pc = .ok (.ldc k, 2)) (hk : nzlk nzTC m.1 k = some v) : nzr d m pc ls st h = nzr d m (pc + 2) ls (v :: st) h := by
  rw [nzr_of hd]; simp only [nzact, hk, Option.bind_some, nzg, nzk]
theorem z_ldcw {d : Nat} {m : nzM} {pc : Nat} {ls : nzL} {st : List Value} {h : nzH} {k : Nat} {v : Value} (hd : decode m.2.2.1 pc = .ok (.ldc_w k, 3)) (hk : nzlk nzTC m.1 k = some v) : nzr d m pc ls st h = nzr d m (pc + 3) ls (v :: st) h := by
  rw [nzr_of hd]; simp only [nzact, hk, Option.bind_some, nzg, nzk]
theorem z_ldc2 {d : Nat} {m : nzM} {pc : Nat} {ls : nzL} {st : List Value} {h : nzH} {k : Nat} {v : Int64} (hd : decode m.2.2.1 pc = .ok (.ldc2_w k, 3)) (hk : nzlk nzTL m.1 k = some v) : nzr d m pc ls st h = nzr d m (pc + 3) ls (.long v :: st) h := by
  rw [nzr_of hd]; simp only [nzact, hk, Option.bind_some, nzg, nzk]
theorem z_iload_n {d : Nat} {m : nzM} {pc : Nat} {ls : nzL} {st : List Value} {h : nzH} {k : Fin 4} {v : Int32} (hd : decode m.2.2.1 pc = .ok (.iload_n k, 1)) (hl : nzlv ls (k : Nat) = some (.int v)) : nzr d m pc ls st h = nzr d m (pc + 1) ls (.int v :: st) h := by
  rw [nzr_of hd]; simp only [nzact, nzli, hl, Option.bind_some, nzg, nzk]
theorem z_iload {d : Nat} {m : nzM} {pc : Nat} {ls : nzL} {st : List Value} {h : nzH} {k : Nat} {v : Int32} (hd : decode m.2.2.1 pc = .ok (.iload k, 2)) (hl : nzlv ls k = some (.int v)) : nzr d m pc ls st h = nzr d m (pc + 2) ls (.int v :: st) h := by
  rw [nzr_of hd]; simp only [nzact, nzli, hl, Option.bind_some, nzg, nzk]
theorem z_lload_n {d : Nat} {m : nzM} {pc : Nat} {ls : nzL} {st : List Value} {h : nzH} {k : Fin 4} {v : Int64} (hd : decode m.2.2.1 pc = .ok (.lload_n k, 1)) (hl : nzlv ls (k : Nat) = some (.long v)) : nzr d m pc ls st h = nzr d m (pc + 1) ls (.long v :: st) h := by
  rw [nzr_of hd]; simp only [nzact, nzll, hl, Option.bind_some, nzg, nzk]
theorem z_lload {d : Nat} {m : nzM} {pc : Nat} {ls : nzL} {st : List Value} {h : nzH} {k : Nat} {v : Int64} (hd : decode m.2.2.1 pc = .ok (.lload k, 2)) (hl : nzlv ls k = some (.long v)) : nzr d m pc ls st h = nzr d m (pc + 2) ls (.long v :: st) h := by
  rw [nzr_of hd]; simp only [nzact, nzll, hl, Option.bind_some, nzg, nzk]
theorem z_aload_n {d : Nat} {m : nzM} {pc : Nat} {ls : nzL} {st : List Value} {h : nzH} {k : Fin 4} {v : Nat} (hd : decode m.2.2.1 pc = .ok (.aload_n k, 1)) (hl : nzlv ls (k : Nat) = some (.ref v)) : nzr d m pc ls st h = nzr d m (pc + 1) ls (.ref v :: st) h := by
  rw [nzr_of hd]; simp only [nzact, nzla, hl, Option.bind_some, nzg, nzk]
theorem z_aload {d : Nat} {m : nzM} {pc : Nat} {ls : nzL} {st : List Value} {h : nzH} {k : Nat} {v : Nat} (hd : decode m.2.2.1 pc = .ok (.aload k, 2)) (hl : nzlv ls k = some (.ref v)) : nzr d m pc ls st h = nzr d m (pc + 2) ls (.ref v :: st) h := by
  rw [nzr_of hd]; simp only [nzact, nzla, hl, Option.bind_some, nzg, nzk]
theorem z_aload_nF {d : Nat} {m : nzM} {pc : Nat} {ls : nzL} {st : List Value} {h : nzH} {k : Fin 4} {v : UInt32} (hd : decode m.2.2.1 pc = .ok (.aload_n k, 1)) (hl : nzlv ls (k : Nat) = some (.float v)) : nzr d m pc ls st h = nzr d m (pc + 1) ls (.float v :: st) h := by
  rw [nzr_of hd]; simp only [nzact, nzla, hl, Option.bind_some, nzg, nzk]
theorem z_istore_n {d : Nat} {m : nzM} {pc : Nat} {ls : nzL} {st : List Value} {h : nzH} {k : Fin 4} {v : Int32} {l : nzL} (hd : decode m.2.2.1 pc = .ok (.istore_n k, 1)) (hl : nzp1 ls (k : Nat) (.int v) = some l) : nzr d m pc ls (.int v :: st) h = nzr d m (pc + 1) l st h := by
  rw [nzr_of hd]; simp only [nzact, nzsi, hl, Option.bind_some, nzg, nzk]
theorem z_istore {d : Nat} {m : nzM} {pc : Nat} {ls : nzL} {st : List Value} {h : nzH} {k : Nat} {v : Int32} {l : nzL} (hd : decode m.2.2.1 pc = .ok (.istore k, 2)) (hl : nzp1 ls k (.int v) = some l) : nzr d m pc ls (.int v :: st) h = nzr d m (pc + 2) l st h := by
  rw [nzr_of hd]; simp only [nzact, nzsi, hl, Option.bind_some, nzg, nzk]
theorem z_lstore_n {d : Nat} {m : nzM} {pc : Nat} {ls : nzL} {st : List Value} {h : nzH} {k : Fin 4} {v : Int64} {l : nzL} (hd : decode m.2.2.1 pc = .ok (.lstore_n k, 1)) (hl : nzp2 ls (k : Nat) (.long v) = some l) : nzr d m pc ls (.long v :: st) h = nzr d m (pc + 1) l st h := by
  rw [nzr_of hd]; simp only [nzact, nzst2, hl, Option.bind_some, nzg, nzk]
theorem z_lstore {d : Nat} {m : nzM} {pc : Nat} {ls : nzL} {st : List Value} {h : nzH} {k : Nat} {v : Int64} {l : nzL} (hd : decode m.2.2.1 pc = .ok (.lstore k, 2)) (hl : nzp2 ls k (.long v) = some l) : nzr d m pc ls (.long v :: st) h = nzr d m (pc + 2) l st h := by
  rw [nzr_of hd]; simp only [nzact, nzst2, hl, Option.bind_some, nzg, nzk]
theorem z_astore_n {d : Nat} {m : nzM} {pc : Nat} {ls : nzL} {st : List Value} {h : nzH} {k : Fin 4} {v : Nat} {l : nzL} (hd : decode m.2.2.1 pc = .ok (.astore_n k, 1)) (hl : nzp1 ls (k : Nat) (.ref v) = some l) : nzr d m pc ls (.ref v :: st) h = nzr d m (pc + 1) l st h := by
  rw [nzr_of hd]; simp only [nzact, nzsa, hl, Option.bind_some, nzg, nzk]
theorem z_astore {d : Nat} {m : nzM} {pc : Nat} {ls : nzL} {st : List Value} {h : nzH} {k : Nat} {v : Nat} {l : nzL} (hd : decode m.2.2.1 pc = .ok (.astore k, 2)) (hl : nzp1 ls k (.ref v) = some l) : nzr d m pc ls (.ref v :: st) h = nzr d m (pc + 2) l st h := by
  rw [nzr_of hd]; simp only [nzact, nzsa, hl, Option.bind_some, nzg, nzk]
theorem z_iinc {d : Nat} {m : nzM} {pc : Nat} {ls : nzL} {st : List Value} {h : nzH} {k : Nat} {n : Int} {v w : Int32} {l : nzL} (hd : decode m.2.2.1 pc = .ok (.iinc k n, 3)) (hv : nzlv ls k = some (.int v)) (hw : Int32.ofInt n = w) (hl : nzp1 ls k (.int (v + w)) = some l) : nzr d m pc ls st h = nzr d m (pc + 3) l st h := by
  subst hw; rw [nzr_of hd]; simp only [nzact, hv, hl, Option.bind_some, nzg, nzk]
theorem z_iadd {d : Nat} {m : nzM} {pc : Nat} {ls : nzL} {st : List Value} {h : nzH} {x y : Int32} (hd : decode m.2.2.1 pc = .ok (.iadd, 1)) : nzr d m pc ls (.int y :: .int x :: st) h = nzr d m (pc + 1) ls (.int (x + y) :: st) h := (nzr_of hd).trans rfl
theorem z_isub {d : Nat} {m : nzM} {pc : Nat} {ls : nzL} {st : List Value} {h : nzH} {x y : Int32} (hd : decode m.2.2.1 pc = .ok (.isub, 1)) : nzr d m pc ls (.int y :: .int x :: st) h = nzr d m (pc + 1) ls (.int (x - y) :: st) h := (nzr_of hd).trans rfl
theorem z_imul {d : Nat} {m : nzM} {pc : Nat} {ls : nzL} {st : List Value} {h : nzH} {x y : Int32} (hd : decode m.2.2.1 pc = .ok (.imul, 1)) : nzr d m pc ls (.int y :: .int x :: st) h = nzr d m (pc + 1) ls (.int (x * y) :: st) h := (nzr_of hd).trans rfl
theorem z_iand {d : Nat} {m : nzM} {pc : Nat} {ls : nzL} {st : List Value} {h : nzH} {x y : Int32} (hd : decode m.2.2.1 pc = .ok (.iand, 1)) : nzr d m pc ls (.int y :: .int x :: st) h = nzr d m (pc + 1) ls (.int (x &&& y) :: st) h := (nzr_of hd).trans rfl
theorem z_ior {d : Nat} {m : nzM} {pc : Nat} {ls : nzL} {st : List Value} {h : nzH} {x y : Int32} (hd : decode m.2.2.1 pc = .ok (.ior, 1)) : nzr d m pc ls (.int y :: .int x :: st) h = nzr d m (pc + 1) ls (.int (x ||| y) :: st) h := (nzr_of hd).trans rfl
theorem z_ixor {d : Nat} {m : nzM} {pc : Nat} {ls : nzL} {st : List Value} {h : nzH} {x y : Int32} (hd : decode m.2.2.1 pc = .ok (.ixor, 1)) : nzr d m pc ls (.int y :: .int x :: st) h = nzr d m (pc + 1) ls (.int (x ^^^ y) :: st) h := (nzr_of hd).trans rfl
theorem z_ishl {d : Nat} {m : nzM} {pc : Nat} {ls : nzL} {st : List Value} {h : nzH} {x y : Int32} (hd : decode m.2.2.1 pc = .ok (.ishl, 1)) : nzr d m pc ls (.int y :: .int x :: st) h = nzr d m (pc + 1) ls (.int (x <<< (y &&& 31)) :: st) h := (nzr_of hd).trans rfl
theorem z_ishr {d : Nat} {m : nzM} {pc : Nat} {ls : nzL} {st : List Value} {h : nzH} {x y : Int32} (hd : decode m.2.2.1 pc = .ok (.ishr, 1)) : nzr d m pc ls (.int y :: .int x :: st) h = nzr d m (pc + 1) ls (.int (x >>> (y &&& 31)) :: st) h := (nzr_of hd).trans rfl
theorem z_iushr {d : Nat} {m : nzM} {pc : Nat} {ls : nzL} {st : List Value} {h : nzH} {x y : Int32} (hd : decode m.2.2.1 pc = .ok (.iushr, 1)) : nzr d m pc ls (.int y :: .int x :: st) h = nzr d m (pc + 1) ls (.int ((x.toUInt32 >>> (y.toUInt32 &&& Int32.toUInt32 31)).toInt32) :: st) h := (nzr_of hd).trans rfl
theorem z_idiv {d : Nat} {m : nzM} {pc : Nat} {ls : nzL} {st : List Value} {h : nzH} {x y : Int32} (hd : decode m.2.2.1 pc = .ok (.idiv, 1)) (hy : ¬ y = 0) : nzr d m pc ls (.int y :: .int x :: st) h = nzr d m (pc + 1) ls (.int (x / y) :: st) h := by
  rw [nzr_of hd]; simp only [nzact, nz2, if_neg hy, Option.bind_some, nzg, nzk]
theorem z_idivV {d : Nat} {m : nzM} {pc : Nat} {ls : nzL} {st : List Value} {h : nzH} {x y : Int32} (hd : decode m.2.2.1 pc = .ok (.idiv, 1)) : nzr d m pc ls (.int y :: .int x :: st) h = if y = 0 then none else nzr d m (pc + 1) ls (.int (x / y) :: st) h := by
  by_cases hy : y = 0
  · rw [nzr_of hd, if_pos hy]; simp only [nzact, nz2, if_pos hy, Option.bind_none]
  · rw [if_neg hy]; exact z_idiv hd hy
theorem z_irem {d : Nat} {m : nzM} {pc : Nat} {ls : nzL} {st : List Value} {h : nzH} {x y : Int32} (hd : decode m.2.2.1 pc = .ok (.irem, 1)) (hy : ¬ y = 0) : nzr d m pc ls (.int y :: .int x :: st) h = nzr d m (pc + 1) ls (.int (x - x / y * y) :: st) h := by
  rw [nzr_of hd]; simp only [nzact, nz2, if_neg hy, Option.bind_some, nzg, nzk]
theorem z_iremV {d : Nat} {m : nzM} {pc : Nat} {ls : nzL} {st : List Value} {h : nzH} {x y : Int32} (hd : decode m.2.2.1 pc = .ok (.irem, 1)) : nzr d m pc ls (.int y :: .int x :: st) h = if y = 0 then none else nzr d m (pc + 1) ls (.int (x - x / y * y) :: st) h := by
  by_cases hy : y = 0
  · rw [nzr_of hd, if_pos hy]; simp only [nzact, nz2, if_pos hy, Option.bind_none]
  · rw [if_neg hy]; exact z_irem hd hy
theorem z_ineg {d : Nat} {m : nzM} {pc : Nat} {ls : nzL} {st : List Value} {h : nzH} {x : Int32} (hd : decode m.2.2.1 pc = .ok (.ineg, 1)) : nzr d m pc ls (.int x :: st) h = nzr d m (pc + 1) ls (.int (-x) :: st) h := (nzr_of hd).trans rfl
theorem z_i2l {d : Nat} {m : nzM} {pc : Nat} {ls : nzL} {st : List Value} {h : nzH} {x : Int32} (hd : decode m.2.2.1 pc = .ok (.i2l, 1)) : nzr d m pc ls (.int x :: st) h = nzr d m (pc + 1) ls (.long x.toInt64 :: st) h := (nzr_of hd).trans rfl
theorem z_i2b {d : Nat} {m : nzM} {pc : Nat} {ls : nzL} {st : List Value} {h : nzH} {x : Int32} (hd : decode m.2.2.1 pc = .ok (.i2b, 1)) : nzr d m pc ls (.int x :: st) h = nzr d m (pc + 1) ls (.int x.toInt8.toInt32 :: st) h := (nzr_of hd).trans rfl
theorem z_i2c {d : Nat} {m : nzM} {pc : Nat} {ls : nzL} {st : List Value} {h : nzH} {x : Int32} (hd : decode m.2.2.1 pc = .ok (.i2c, 1)) : nzr d m pc ls (.int x :: st) h = nzr d m (pc + 1) ls (.int (x.toUInt32 % 65536).toInt32 :: st) h := (nzr_of hd).trans rfl
theorem z_ladd {d : Nat} {m : nzM} {pc : Nat} {ls : nzL} {st : List Value} {h : nzH} {x y : Int64} (hd : decode m.2.2.1 pc = .ok (.ladd, 1)) : nzr d m pc ls (.long y :: .long x :: st) h = nzr d m (pc + 1) ls (.long (x + y) :: st) h := (nzr_of hd).trans rfl
theorem z_lmul {d : Nat} {m : nzM} {pc : Nat} {ls : nzL} {st : List Value} {h : nzH} {x y : Int64} (hd : decode m.2.2.1 pc = .ok (.lmul, 1)) : nzr d m pc ls (.long y :: .long x :: st) h = nzr d m (pc + 1) ls (.long (x * y) :: st) h := (nzr_of hd).trans rfl
theorem z_lcmp {d : Nat} {m : nzM} {pc : Nat} {ls : nzL} {st : List Value} {h : nzH} {x y : Int64} (hd : decode m.2.2.1 pc = .ok (.lcmp, 1)) : nzr d m pc ls (.long y :: .long x :: st) h = nzr d m (pc + 1) ls (.int (lg_cmp x y) :: st) h := (nzr_of hd).trans rfl
theorem z_dup {d : Nat} {m : nzM} {pc : Nat} {ls : nzL} {st : List Value} {h : nzH} {v : Value} (hd : decode m.2.2.1 pc = .ok (.dup, 1)) (hv : v.category = 1) : nzr d m pc ls (v :: st) h = nzr d m (pc + 1) ls (v :: v :: st) h := by
  rw [nzr_of hd]; simp only [nzact, if_pos hv, Option.bind_some, nzg, nzk]
theorem z_dup2 {d : Nat} {m : nzM} {pc : Nat} {ls : nzL} {st : List Value} {h : nzH} {v w : Value} (hd : decode m.2.2.1 pc = .ok (.dup2, 1)) (hv : v.category = 1) (hw : w.category = 1) : nzr d m pc ls (v :: w :: st) h = nzr d m (pc + 1) ls (v :: w :: v :: w :: st) h := by
  rw [nzr_of hd]; simp only [nzact, hv, hw, and_self, if_true, Option.bind_some, nzg, nzk]
theorem z_pop {d : Nat} {m : nzM} {pc : Nat} {ls : nzL} {st : List Value} {h : nzH} {v : Value} (hd : decode m.2.2.1 pc = .ok (.pop, 1)) (hv : v.category = 1) : nzr d m pc ls (v :: st) h = nzr d m (pc + 1) ls st h := by
  rw [nzr_of hd]; simp only [nzact, if_pos hv, Option.bind_some, nzg, nzk]
theorem z_goto {d : Nat} {m : nzM} {pc : Nat} {ls : nzL} {st : List Value} {h : nzH} {o : Int} {t : Nat} (hd : decode m.2.2.1 pc = .ok (.goto o, 3)) (ht : nzj pc o = some t) : nzr d m pc ls st h = nzr d m t ls st h := by
  rw [nzr_of hd]; simp only [nzact, nzjmp, ht, Option.bind_some, nzg, nzk]
theorem z_if_eq {d : Nat} {m : nzM} {pc : Nat} {ls : nzL} {st : List Value} {h : nzH} {x : Int32} {o : Int} {t : Nat} (hd : decode m.2.2.1 pc = .ok (.ifCond .eq o, 3)) (ht : nzj pc o = some t) : nzr d m pc ls (.int x :: st) h = if x = 0 then nzr d m t ls st h else nzr d m (pc + 3) ls st h := by
  rw [nzr_of hd]; simp only [nzact, nziff, ht, nzg]
  split <;> rfl
theorem z_ic_eq {d : Nat} {m : nzM} {pc : Nat} {ls : nzL} {st : List Value} {h : nzH} {x y : Int32} {o : Int} {t : Nat} (hd : decode m.2.2.1 pc = .ok (.if_icmp .eq o, 3)) (ht : nzj pc o = some t) : nzr d m pc ls (.int y :: .int x :: st) h = if x = y then nzr d m t ls st h else nzr d m (pc + 3) ls st h := by
  rw [nzr_of hd]; simp only [nzact, nziff, ht, nzg]
  split <;> rfl
theorem z_if_ne {d : Nat} {m : nzM} {pc : Nat} {ls : nzL} {st : List Value} {h : nzH} {x : Int32} {o : Int} {t : Nat} (hd : decode m.2.2.1 pc = .ok (.ifCond .ne o, 3)) (ht : nzj pc o = some t) : nzr d m pc ls (.int x :: st) h = if x = 0 then nzr d m (pc + 3) ls st h else nzr d m t ls st h := by
  rw [nzr_of hd]; simp only [nzact, nziff, ht, nzg]
  split <;> rfl
theorem z_ic_ne {d : Nat} {m : nzM} {pc : Nat} {ls : nzL} {st : List Value} {h : nzH} {x y : Int32} {o : Int} {t : Nat} (hd : decode m.2.2.1 pc = .ok (.if_icmp .ne o, 3)) (ht : nzj pc o = some t) : nzr d m pc ls (.int y :: .int x :: st) h = if x = y then nzr d m (pc + 3) ls st h else nzr d m t ls st h := by
  rw [nzr_of hd]; simp only [nzact, nziff, ht, nzg]
  split <;> rfl
theorem z_if_lt {d : Nat} {m : nzM} {pc : Nat} {ls : nzL} {st : List Value} {h : nzH} {x : Int32} {o : Int} {t : Nat} (hd : decode m.2.2.1 pc = .ok (.ifCond .lt o, 3)) (ht : nzj pc o = some t) : nzr d m pc ls (.int x :: st) h = if x < 0 then nzr d m t ls st h else nzr d m (pc + 3) ls st h := by
  rw [nzr_of hd]; simp only [nzact, nziff, ht, nzg]
  split <;> rfl
theorem z_ic_lt {d : Nat} {m : nzM} {pc : Nat} {ls : nzL} {st : List Value} {h : nzH} {x y : Int32} {o : Int} {t : Nat} (hd : decode m.2.2.1 pc = .ok (.if_icmp .lt o, 3)) (ht : nzj pc o = some t) : nzr d m pc ls (.int y :: .int x :: st) h = if x < y then nzr d m t ls st h else nzr d m (pc + 3) ls st h := by
  rw [nzr_of hd]; simp only [nzact, nziff, ht, nzg]
  split <;> rfl
theorem z_if_ge {d : Nat} {m : nzM} {pc : Nat} {ls : nzL} {st : List Value} {h : nzH} {x : Int32} {o : Int} {t : Nat} (hd : decode m.2.2.1 pc = .ok (.ifCond .ge o, 3)) (ht : nzj pc o = some t) : nzr d m pc ls (.int x :: st) h = if 0 ≤ x then nzr d m t ls st h else nzr d m (pc + 3) ls st h := by
  rw [nzr_of hd]; simp only [nzact, nziff, ht, nzg]
  split <;> rfl
theorem z_ic_ge {d : Nat} {m : nzM} {pc : Nat} {ls : nzL} {st : List Value} {h : nzH} {x y : Int32} {o : Int} {t : Nat} (hd : decode m.2.2.1 pc = .ok (.if_icmp .ge o, 3)) (ht : nzj pc o = some t) : nzr d m pc ls (.int y :: .int x :: st) h = if y ≤ x then nzr d m t ls st h else nzr d m (pc + 3) ls st h := by
  rw [nzr_of hd]; simp only [nzact, nziff, ht, nzg]
  split <;> rfl
theorem z_if_gt {d : Nat} {m : nzM} {pc : Nat} {ls : nzL} {st : List Value} {h : nzH} {x : Int32} {o : Int} {t : Nat} (hd : decode m.2.2.1 pc = .ok (.ifCond .gt o, 3)) (ht : nzj pc o = some t) : nzr d m pc ls (.int x :: st) h = if 0 < x then nzr d m t ls st h else nzr d m (pc + 3) ls st h := by
  rw [nzr_of hd]; simp only [nzact, nziff, ht, nzg]
  split <;> rfl
theorem z_ic_gt {d : Nat} {m : nzM} {pc : Nat} {ls : nzL} {st : List Value} {h : nzH} {x y : Int32} {o : Int} {t : Nat} (hd : decode m.2.2.1 pc = .ok (.if_icmp .gt o, 3)) (ht : nzj pc o = some t) : nzr d m pc ls (.int y :: .int x :: st) h = if y < x then nzr d m t ls st h else nzr d m (pc + 3) ls st h := by
  rw [nzr_of hd]; simp only [nzact, nziff, ht, nzg]
  split <;> rfl
theorem z_if_le {d : Nat} {m : nzM} {pc : Nat} {ls : nzL} {st : List Value} {h : nzH} {x : Int32} {o : Int} {t : Nat} (hd : decode m.2.2.1 pc = .ok (.ifCond .le o, 3)) (ht : nzj pc o = some t) : nzr d m pc ls (.int x :: st) h = if x ≤ 0 then nzr d m t ls st h else nzr d m (pc + 3) ls st h := by
  rw [nzr_of hd]; simp only [nzact, nziff, ht, nzg]
  split <;> rfl
theorem z_ic_le {d : Nat} {m : nzM} {pc : Nat} {ls : nzL} {st : List Value} {h : nzH} {x y : Int32} {o : Int} {t : Nat} (hd : decode m.2.2.1 pc = .ok (.if_icmp .le o, 3)) (ht : nzj pc o = some t) : nzr d m pc ls (.int y :: .int x :: st) h = if x ≤ y then nzr d m t ls st h else nzr d m (pc + 3) ls st h := by
  rw [nzr_of hd]; simp only [nzact, nziff, ht, nzg]
  split <;> rfl
theorem z_ifnull {d : Nat} {m : nzM} {pc : Nat} {ls : nzL} {st : List Value} {h : nzH} {r : Option Nat} {o : Int} {t : Nat} (hd : decode m.2.2.1 pc = .ok (.ifnull o, 3)) (ht : nzj pc o = some t) : nzr d m pc ls (va_rf r :: st) h = if r = none then nzr d m t ls st h else nzr d m (pc + 3) ls st h := by
  rw [nzr_of hd]; cases r <;> simp [nzact, va_rf, nzjmp, ht, nzg, nzk]
theorem z_ifnonnull {d : Nat} {m : nzM} {pc : Nat} {ls : nzL} {st : List Value} {h : nzH} {r : Option Nat} {o : Int} {t : Nat} (hd : decode m.2.2.1 pc = .ok (.ifnonnull o, 3)) (ht : nzj pc o = some t) : nzr d m pc ls (va_rf r :: st) h = if r = none then nzr d m (pc + 3) ls st h else nzr d m t ls st h := by
  rw [nzr_of hd]; cases r <;> simp [nzact, va_rf, nzjmp, ht, nzg, nzk]
theorem z_tabOut {d : Nat} {m : nzM} {pc : Nat} {ls : nzL} {st : List Value} {h : nzH} {x : Int32} {f lo hi : Int} {offs : Array Int} {len t : Nat} (hd : decode m.2.2.1 pc = .ok (.tableswitch f lo hi offs, len)) (hx : x.toInt < lo ∨ hi < x.toInt) (ht : nzj pc f = some t) : nzr d m pc ls (.int x :: st) h = nzr d m t ls st h := by
  rw [nzr_of hd]; simp only [nzact, if_pos hx, nzjmp, ht, Option.bind_some, nzg, nzk]
theorem z_tabIn {d : Nat} {m : nzM} {pc : Nat} {ls : nzL} {st : List Value} {h : nzH} {x : Int32} {f lo hi o : Int} {offs : Array Int} {len t : Nat} (hd : decode m.2.2.1 pc = .ok (.tableswitch f lo hi offs, len)) (hx : ¬ (x.toInt < lo ∨ hi < x.toInt)) (ho : offs[(x.toInt - lo).toNat]? = some o) (ht : nzj pc o = some t) : nzr d m pc ls (.int x :: st) h = nzr d m t ls st h := by
  rw [nzr_of hd]; simp only [nzact, if_neg hx, ho, nzjmp, ht, Option.bind_some, nzg, nzk]
theorem z_getI {d : Nat} {m : nzM} {pc : Nat} {ls : nzL} {st : List Value} {h : nzH} {k kd ci q a : Nat} (hd : decode m.2.2.1 pc = .ok (.getfield k, 3)) (hk : nzlk nzTF m.1 k = some (kd, ci, q, 0)) : nzr d m pc ls (.ref a :: st) h = (nzgI h a ci q).bind fun v => nzr d m (pc + 3) ls (.int v :: st) h := by
  rw [nzr_of hd]; simp only [nzact, nzgetf, hk, Option.bind_assoc, nzg, Option.bind_some]; rfl
theorem z_getL {d : Nat} {m : nzM} {pc : Nat} {ls : nzL} {st : List Value} {h : nzH} {k kd ci q a : Nat} (hd : decode m.2.2.1 pc = .ok (.getfield k, 3)) (hk : nzlk nzTF m.1 k = some (kd, ci, q, 1)) : nzr d m pc ls (.ref a :: st) h = (nzgL h a ci q).bind fun v => nzr d m (pc + 3) ls (.long v :: st) h := by
  rw [nzr_of hd]; simp only [nzact, nzgetf, hk, Option.bind_assoc, nzg, Option.bind_some]; rfl
theorem z_getR {d : Nat} {m : nzM} {pc : Nat} {ls : nzL} {st : List Value} {h : nzH} {k kd ci q a : Nat} (hd : decode m.2.2.1 pc = .ok (.getfield k, 3)) (hk : nzlk nzTF m.1 k = some (kd, ci, q, 2)) (hn : nznt m (pc + 3) = false) : nzr d m pc ls (.ref a :: st) h = (nzgR h a ci q).bind fun v => nzr d m (pc + 3) ls (.ref v :: st) h := by
  rw [nzr_of hd]; simp only [nzact, nzgetf, hk, hn, Bool.false_eq_true, if_false, Option.bind_assoc, nzg, Option.bind_some]; rfl
theorem z_getN {d : Nat} {m : nzM} {pc : Nat} {ls : nzL} {st : List Value} {h : nzH} {k kd ci q a : Nat} (hd : decode m.2.2.1 pc = .ok (.getfield k, 3)) (hk : nzlk nzTF m.1 k = some (kd, ci, q, 2)) (hn : nznt m (pc + 3) = true) : nzr d m pc ls (.ref a :: st) h = (nzgN h a ci q).bind fun v => nzr d m (pc + 3) ls (va_rf v :: st) h := by
  rw [nzr_of hd]; simp only [nzact, nzgetf, hk, hn, if_true, Option.bind_assoc, nzg, Option.bind_some]; rfl
theorem z_getSV {d : Nat} {m : nzM} {pc : Nat} {ls : nzL} {st : List Value} {h : nzH} {k kd : Nat} {a : UInt32} (hd : decode m.2.2.1 pc = .ok (.getfield k, 3)) (hk : nzlk nzTF m.1 k = some (kd, 18, 0, 2)) (ha : nzkS a = true) : nzr d m pc ls (.float a :: st) h = nzr d m (pc + 3) ls (.float (a + 1) :: st) h := by
  rw [nzr_of hd]; simp only [nzact, nzgetf, hk, ha, if_true, nzg, Option.bind_some]; rfl
theorem z_getSC {d : Nat} {m : nzM} {pc : Nat} {ls : nzL} {st : List Value} {h : nzH} {k kd : Nat} {a : UInt32} (hd : decode m.2.2.1 pc = .ok (.getfield k, 3)) (hk : nzlk nzTF m.1 k = some (kd, 18, 1, 0)) (ha : nzkS a = true) : nzr d m pc ls (.float a :: st) h = nzr d m (pc + 3) ls (.int 0 :: st) h := by
  rw [nzr_of hd]; simp only [nzact, nzgetf, hk, ha, if_true, nzg, Option.bind_some]; rfl
theorem z_put {d : Nat} {m : nzM} {pc : Nat} {ls : nzL} {st : List Value} {h : nzH} {k kd ci q t a : Nat} {v : Value} (hd : decode m.2.2.1 pc = .ok (.putfield k, 3)) (hk : nzlk nzTF m.1 k = some (kd, ci, q, t)) (hf : nzfit ci q v = true) (hp : nzpok m ci q = true) : nzr d m pc ls (v :: .ref a :: st) h = (nzput h a ci q v).bind fun h1 => nzr d m (pc + 3) ls st h1 := by
  rw [nzr_of hd]; simp only [nzact, nzputf, hk, hf, hp, Bool.and_self, if_true, Option.bind_assoc, nzg, Option.bind_some]; rfl
theorem z_fitI {ci k N : Nat} {ty : Nat → FieldType} {v : Int32} (hN : nzNF[ci]? = some N) (hT : nzTy[ci]? = some ty) (hk : k < N) (hy : ty k = .int) : nzfit ci k (.int v) = true := by simp [nzfit, hN, hT, hk, hy, narrow, fits]
theorem z_fitL {ci k N : Nat} {ty : Nat → FieldType} {v : Int64} (hN : nzNF[ci]? = some N) (hT : nzTy[ci]? = some ty) (hk : k < N) (hy : ty k = .long) : nzfit ci k (.long v) = true := by simp [nzfit, hN, hT, hk, hy, narrow, fits]
theorem z_fitO {ci k N : Nat} {ty : Nat → FieldType} {v : Nat} {C : String} (hN : nzNF[ci]? = some N) (hT : nzTy[ci]? = some ty) (hk : k < N) (hy : ty k = .object C) : nzfit ci k (.ref v) = true := by simp [nzfit, hN, hT, hk, hy, narrow, fits]
theorem z_fitA {ci k N : Nat} {ty : Nat → FieldType} {v : Nat} {C : FieldType} (hN : nzNF[ci]? = some N) (hT : nzTy[ci]? = some ty) (hk : k < N) (hy : ty k = .array C) : nzfit ci k (.ref v) = true := by simp [nzfit, hN, hT, hk, hy, narrow, fits]
theorem z_gets {d : Nat} {m : nzM} {pc : Nat} {ls : nzL} {st : List Value} {h : nzH} {k : Nat} {v : Value} (hd : decode m.2.2.1 pc = .ok (.getstatic k, 3)) (hk : nzlk nzTS m.1 k = some v) : nzr d m pc ls st h = nzr d m (pc + 3) ls (v :: st) h := by
  rw [nzr_of hd]; simp only [nzact, hk, Option.bind_some, nzg, nzk]
theorem z_iaload {d : Nat} {m : nzM} {pc : Nat} {ls : nzL} {st : List Value} {h : nzH} {a : Nat} {i : Int32} (hd : decode m.2.2.1 pc = .ok (.iaload, 1)) : nzr d m pc ls (.int i :: .ref a :: st) h = (nzaI h a i).bind fun v => nzr d m (pc + 1) ls (.int v :: st) h := by
  rw [nzr_of hd]; simp only [nzact, Option.bind_assoc, nzg, Option.bind_some]; rfl
theorem z_baload {d : Nat} {m : nzM} {pc : Nat} {ls : nzL} {st : List Value} {h : nzH} {a : Nat} {i : Int32} (hd : decode m.2.2.1 pc = .ok (.baload, 1)) : nzr d m pc ls (.int i :: .ref a :: st) h = (nzaB h a i).bind fun v => nzr d m (pc + 1) ls (.int v :: st) h := by
  rw [nzr_of hd]; simp only [nzact, Option.bind_assoc, nzg, Option.bind_some]; rfl
theorem z_laload {d : Nat} {m : nzM} {pc : Nat} {ls : nzL} {st : List Value} {h : nzH} {a : Nat} {i : Int32} (hd : decode m.2.2.1 pc = .ok (.laload, 1)) : nzr d m pc ls (.int i :: .ref a :: st) h = (nzaL h a i).bind fun v => nzr d m (pc + 1) ls (.long v :: st) h := by
  rw [nzr_of hd]; simp only [nzact, Option.bind_assoc, nzg, Option.bind_some]; rfl
theorem z_aaload {d : Nat} {m : nzM} {pc : Nat} {ls : nzL} {st : List Value} {h : nzH} {a : Nat} {i : Int32} (hd : decode m.2.2.1 pc = .ok (.aaload, 1)) : nzr d m pc ls (.int i :: .ref a :: st) h = (nzaR h a i).bind fun v => nzr d m (pc + 1) ls (.ref v :: st) h := by
  rw [nzr_of hd]; simp only [nzact, Option.bind_assoc, nzg, Option.bind_some]; rfl
theorem z_ialoadK {d : Nat} {m : nzM} {pc : Nat} {ls : nzL} {st : List Value} {h : nzH} {a : UInt32} {i : Int32} (hd : decode m.2.2.1 pc = .ok (.iaload, 1)) : nzr d m pc ls (.int i :: .float a :: st) h = (nzcI h a i).bind fun v => nzr d m (pc + 1) ls (.int v :: st) h := by
  rw [nzr_of hd]; simp only [nzact, Option.bind_assoc, nzg, Option.bind_some]; rfl
theorem z_baloadK {d : Nat} {m : nzM} {pc : Nat} {ls : nzL} {st : List Value} {h : nzH} {a : UInt32} {i : Int32} (hd : decode m.2.2.1 pc = .ok (.baload, 1)) : nzr d m pc ls (.int i :: .float a :: st) h = (nzcB a i).bind fun v => nzr d m (pc + 1) ls (.int v :: st) h := by
  rw [nzr_of hd]; simp only [nzact, Option.bind_assoc, nzg, Option.bind_some]; rfl
theorem z_iastore {d : Nat} {m : nzM} {pc : Nat} {ls : nzL} {st : List Value} {h : nzH} {a : Nat} {i : Int32} {x : Int32} (hd : decode m.2.2.1 pc = .ok (.iastore, 1)) : nzr d m pc ls (.int x :: .int i :: .ref a :: st) h = (nzsI h a i x).bind fun h1 => nzr d m (pc + 1) ls st h1 := by
  rw [nzr_of hd]; simp only [nzact, Option.bind_assoc, nzg, Option.bind_some]; rfl
theorem z_bastore {d : Nat} {m : nzM} {pc : Nat} {ls : nzL} {st : List Value} {h : nzH} {a : Nat} {i : Int32} {x : Int32} (hd : decode m.2.2.1 pc = .ok (.bastore, 1)) : nzr d m pc ls (.int x :: .int i :: .ref a :: st) h = (nzsB h a i x).bind fun h1 => nzr d m (pc + 1) ls st h1 := by
  rw [nzr_of hd]; simp only [nzact, Option.bind_assoc, nzg, Option.bind_some]; rfl
theorem z_lastore {d : Nat} {m : nzM} {pc : Nat} {ls : nzL} {st : List Value} {h : nzH} {a : Nat} {i : Int32} {x : Int64} (hd : decode m.2.2.1 pc = .ok (.lastore, 1)) : nzr d m pc ls (.long x :: .int i :: .ref a :: st) h = (nzsL h a i x).bind fun h1 => nzr d m (pc + 1) ls st h1 := by
  rw [nzr_of hd]; simp only [nzact, Option.bind_assoc, nzg, Option.bind_some]; rfl
theorem z_alen {d : Nat} {m : nzM} {pc : Nat} {ls : nzL} {st : List Value} {h : nzH} {a : Nat} (hd : decode m.2.2.1 pc = .ok (.arraylength, 1)) : nzr d m pc ls (.ref a :: st) h = (nzlen h a).bind fun v => nzr d m (pc + 1) ls (.int v :: st) h := by
  rw [nzr_of hd]; simp only [nzact, Option.bind_assoc, nzg, Option.bind_some]; rfl
theorem z_alenK {d : Nat} {m : nzM} {pc : Nat} {ls : nzL} {st : List Value} {h : nzH} {a : UInt32} (hd : decode m.2.2.1 pc = .ok (.arraylength, 1)) : nzr d m pc ls (.float a :: st) h = (nzclen h a).bind fun v => nzr d m (pc + 1) ls (.int v :: st) h := by
  rw [nzr_of hd]; simp only [nzact, Option.bind_assoc, nzg, Option.bind_some]; rfl
theorem z_newa {d : Nat} {m : nzM} {pc : Nat} {ls : nzL} {st : List Value} {h : nzH} {t : ArrayType} {n : Int32} {ty : FieldType} (hd : decode m.2.2.1 pc = .ok (.newarray t, 2)) (ht : newarray.typeOf t = ty) : nzr d m pc ls (.int n :: st) h = (nznewa h ty n).bind fun h1 => nzr d m (pc + 2) ls (.ref h.1 :: st) h1 := by
  subst ht; rw [nzr_of hd]; simp only [nzact, Option.bind_assoc, nzg, Option.bind_some]; rfl
theorem z_newm {d : Nat} {m : nzM} {pc : Nat} {ls : nzL} {st : List Value} {h : nzH} {k x : Nat} {n c : Int32} (hd : decode m.2.2.1 pc = .ok (.multianewarray k 2, 4)) (hk : nzlk nzTA m.1 k = some x) : nzr d m pc ls (.int c :: .int n :: st) h = (nznewm h n c).bind fun h1 => nzr d m (pc + 4) ls (.ref h.1 :: st) h1 := by
  rw [nzr_of hd]; simp only [nzact, hk, Option.bind_assoc, nzg, Option.bind_some]; rfl
theorem z_new {d : Nat} {m : nzM} {pc : Nat} {ls : nzL} {st : List Value} {h : nzH} {k ci : Nat} (hd : decode m.2.2.1 pc = .ok (.new k, 3)) (hk : nzlk nzTN m.1 k = some ci) : nzr d m pc ls st h = (nznewo h ci).bind fun h1 => nzr d m (pc + 3) ls (.ref h.1 :: st) h1 := by
  rw [nzr_of hd]; simp only [nzact, hk, Option.bind_assoc, nzg, Option.bind_some]; rfl
/-- a call's answer, by its type -/
noncomputable def nzxI (d : Nat) (m : nzM) (as : List Value) (h : nzH) : Option (Int32 × nzH) := (nzcall d m as h).bind fun q => match q.1 with
  | some (.int v) => some (v, q.2)
  | _ => none
noncomputable def nzxL (d : Nat) (m : nzM) (as : List Value) (h : nzH) : Option (Int64 × nzH) := (nzcall d m as h).bind fun q => match q.1 with
  | some (.long v) => some (v, q.2)
  | _ => none
noncomputable def nzxR (d : Nat) (m : nzM) (as : List Value) (h : nzH) : Option (Nat × nzH) := (nzcall d m as h).bind fun q => match q.1 with
  | some (.ref v) => some (v, q.2)
  | _ => none
noncomputable def nzxV (d : Nat) (m : nzM) (as : List Value) (h : nzH) : Option nzH := (nzcall d m as h).bind fun q => match q.1 with
  | none => some q.2
  | _ => none
def nzri (m : nzM) : Bool := match m.2.2.2.2.1 with
  | some .int => true
  | some .boolean => true
  | some .byte => true
  | some .char => true
  | _ => false
theorem nzpushI {m : nzM} (hm : nzri m = true) (v : Option Value) (rest : List Value) : nzpush m v rest = (match v with
  | some (.int x) => some (.int x :: rest)
  | _ => none) := by
  unfold nzri at hm
  unfold nzpush
  split at hm <;> first | (rename_i e; rw [e]; rcases v with _ | (_ | _ | _ | _ | _ | _ | _) <;> rfl) | (simp at hm)

theorem z_invV {d : Nat} {m : nzM} {pc : Nat} {ls : nzL} {h : nzH} {k kd n : Nat} {m' : nzM} {as rest : List Value} (hd : decode m.2.2.1 pc = .ok (.invokevirtual k, 3)) (hk : nzlk nzTM m.1 k = some (kd, n, m')) (hkd : kd = 0 ∨ kd = 3) (hn : as.length = n + 1) (hc : nzcat rest = true) : nzr d m pc ls (as.reverse ++ rest) h = (nzcall d m' as h).bind fun q => (nzpush m' q.1 rest).bind fun st' => nzr d m (pc + 3) ls st' q.2 := by
  have e1 : (as.reverse ++ rest).take (n + 1) = as.reverse := by rw [← hn, ← List.length_reverse]; exact List.take_left
  have e2 : (as.reverse ++ rest).drop (n + 1) = rest := by rw [← hn, ← List.length_reverse]; exact List.drop_left
  rw [nzr_of hd]
  rcases hkd with rfl | rfl <;> simp only [nzact, nzinvV, hk, e1, e2, List.length_reverse, hn, hc, and_self, if_true, List.reverse_reverse, Option.bind_some, nzk]
theorem z_invS {d : Nat} {m : nzM} {pc : Nat} {ls : nzL} {h : nzH} {k kd n : Nat} {m' : nzM} {as rest : List Value} (hd : decode m.2.2.1 pc = .ok (.invokestatic k, 3)) (hk : nzlk nzTM m.1 k = some (kd, n, m')) (hkd : kd = 1 ∨ kd = 4) (hn : as.length = n) (hc : nzcat rest = true) : nzr d m pc ls (as.reverse ++ rest) h = (nzcall d m' as h).bind fun q => (nzpush m' q.1 rest).bind fun st' => nzr d m (pc + 3) ls st' q.2 := by
  have e1 : (as.reverse ++ rest).take (n) = as.reverse := by rw [← hn, ← List.length_reverse]; exact List.take_left
  have e2 : (as.reverse ++ rest).drop (n) = rest := by rw [← hn, ← List.length_reverse]; exact List.drop_left
  rw [nzr_of hd]
  rcases hkd with rfl | rfl <;> simp only [nzact, nzinvS, hk, e1, e2, List.length_reverse, hn, hc, and_self, if_true, List.reverse_reverse, Option.bind_some, nzk]
theorem z_invI {d : Nat} {m : nzM} {pc : Nat} {ls : nzL} {h : nzH} {k kd n : Nat} {m' : nzM} {as rest : List Value} (hd : decode m.2.2.1 pc = .ok (.invokespecial k, 3)) (hk : nzlk nzTM m.1 k = some (kd, n, m')) (hkd : kd = 2 ∨ kd = 5) (hn : as.length = n + 1) (hc : nzcat rest = true) : nzr d m pc ls (as.reverse ++ rest) h = (nzcall d m' as h).bind fun q => (nzpush m' q.1 rest).bind fun st' => nzr d m (pc + 3) ls st' q.2 := by
  have e1 : (as.reverse ++ rest).take (n + 1) = as.reverse := by rw [← hn, ← List.length_reverse]; exact List.take_left
  have e2 : (as.reverse ++ rest).drop (n + 1) = rest := by rw [← hn, ← List.length_reverse]; exact List.drop_left
  rw [nzr_of hd]
  rcases hkd with rfl | rfl <;> simp only [nzact, nzinvI, hk, e1, e2, List.length_reverse, hn, hc, and_self, if_true, List.reverse_reverse, Option.bind_some, nzk]
theorem z_toI {d : Nat} {m m' : nzM} {pc : Nat} {ls : nzL} {as rest st : List Value} {h : nzH} (hr : nzri m' = true) (e : nzr d m pc ls st h = (nzcall d m' as h).bind fun q => (nzpush m' q.1 rest).bind fun st' => nzr d m (pc + 3) ls st' q.2) : nzr d m pc ls st h = (nzxI d m' as h).bind fun q => nzr d m (pc + 3) ls (.int q.1 :: rest) q.2 := by
  rw [e, nzxI, Option.bind_assoc]
  congr 1
  funext q
  rw [nzpushI hr]
  rcases q with ⟨_ | (_ | _ | _ | _ | _ | _ | _), _⟩ <;> rfl
theorem z_toL {d : Nat} {m m' : nzM} {pc : Nat} {ls : nzL} {as rest st : List Value} {h : nzH} (hr : m'.2.2.2.2.1 = some .long) (e : nzr d m pc ls st h = (nzcall d m' as h).bind fun q => (nzpush m' q.1 rest).bind fun st' => nzr d m (pc + 3) ls st' q.2) : nzr d m pc ls st h = (nzxL d m' as h).bind fun q => nzr d m (pc + 3) ls (.long q.1 :: rest) q.2 := by
  rw [e, nzxL, Option.bind_assoc]
  congr 1
  funext q
  rcases q with ⟨_ | (_ | _ | _ | _ | _ | _ | _), _⟩ <;> simp [nzpush, hr]
theorem z_toR {d : Nat} {m m' : nzM} {pc : Nat} {ls : nzL} {as rest st : List Value} {h : nzH} {C : String} (hr : m'.2.2.2.2.1 = some (.object C)) (e : nzr d m pc ls st h = (nzcall d m' as h).bind fun q => (nzpush m' q.1 rest).bind fun st' => nzr d m (pc + 3) ls st' q.2) : nzr d m pc ls st h = (nzxR d m' as h).bind fun q => nzr d m (pc + 3) ls (.ref q.1 :: rest) q.2 := by
  rw [e, nzxR, Option.bind_assoc]
  congr 1
  funext q
  rcases q with ⟨_ | (_ | _ | _ | _ | _ | _ | _), _⟩ <;> simp [nzpush, hr]
theorem z_toV {d : Nat} {m m' : nzM} {pc : Nat} {ls : nzL} {as rest st : List Value} {h : nzH} (hr : m'.2.2.2.2.1 = none) (e : nzr d m pc ls st h = (nzcall d m' as h).bind fun q => (nzpush m' q.1 rest).bind fun st' => nzr d m (pc + 3) ls st' q.2) : nzr d m pc ls st h = (nzxV d m' as h).bind fun h1 => nzr d m (pc + 3) ls rest h1 := by
  rw [e, nzxV, Option.bind_assoc]
  congr 1
  funext q
  rcases q with ⟨_ | (_ | _ | _ | _ | _ | _ | _), _⟩ <;> simp [nzpush, hr]
theorem z_objInit {d : Nat} {m : nzM} {pc : Nat} {ls : nzL} {st : List Value} {h : nzH} {k a x : Nat} {y : nzM} (hd : decode m.2.2.1 pc = .ok (.invokespecial k, 3)) (hk : nzlk nzTM m.1 k = some (6, x, y)) (hc : nzcat st = true) : nzr d m pc ls (.ref a :: st) h = nzr d m (pc + 3) ls st h := by
  rw [nzr_of hd]; simp only [nzact, nzinvI, hk, hc, if_true, Option.bind_some, nzg, nzk]
theorem z_copy {d : Nat} {m : nzM} {pc : Nat} {ls : nzL} {st : List Value} {h : nzH} {k a a0 x : Nat} {sp dp n : Int32} {y : nzM} (hd : decode m.2.2.1 pc = .ok (.invokestatic k, 3)) (hk : nzlk nzTM m.1 k = some (7, x, y)) (hc : nzcat st = true) : nzr d m pc ls (.int n :: .int dp :: .ref a :: .int sp :: .ref a0 :: st) h = (nzcpy h a0 sp a dp n).bind fun h1 => nzr d m (pc + 3) ls st h1 := by
  rw [nzr_of hd]; simp only [nzact, nzinvS, hk, hc, if_true, Option.bind_assoc, nzg, Option.bind_some]; rfl
theorem z_mmin {d : Nat} {m : nzM} {pc : Nat} {ls : nzL} {st : List Value} {h : nzH} {k n : Nat} {x y : Int32} {w : nzM} (hd : decode m.2.2.1 pc = .ok (.invokestatic k, 3)) (hk : nzlk nzTM m.1 k = some (9, n, w)) (hc : nzcat st = true) : nzr d m pc ls (.int y :: .int x :: st) h = nzr d m (pc + 3) ls (.int (if y < x then y else x) :: st) h := by
  rw [nzr_of hd]; simp only [nzact, nzinvS, hk, hc, if_true, Option.bind_some, nzg, nzk]
theorem z_mmax {d : Nat} {m : nzM} {pc : Nat} {ls : nzL} {st : List Value} {h : nzH} {k n : Nat} {x y : Int32} {w : nzM} (hd : decode m.2.2.1 pc = .ok (.invokestatic k, 3)) (hk : nzlk nzTM m.1 k = some (10, n, w)) (hc : nzcat st = true) : nzr d m pc ls (.int y :: .int x :: st) h = nzr d m (pc + 3) ls (.int (if x < y then y else x) :: st) h := by
  rw [nzr_of hd]; simp only [nzact, nzinvS, hk, hc, if_true, Option.bind_some, nzg, nzk]
theorem z_mabs {d : Nat} {m : nzM} {pc : Nat} {ls : nzL} {st : List Value} {h : nzH} {k n : Nat} {x : Int32} {w : nzM} (hd : decode m.2.2.1 pc = .ok (.invokestatic k, 3)) (hk : nzlk nzTM m.1 k = some (11, n, w)) (hc : nzcat st = true) : nzr d m pc ls (.int x :: st) h = nzr d m (pc + 3) ls (.int (if 0 ≤ x then x else 0 - x) :: st) h := by
  rw [nzr_of hd]; simp only [nzact, nzinvS, hk, hc, if_true, Option.bind_some, nzg, nzk]
theorem z_led {d : Nat} {m : nzM} {pc : Nat} {ls : nzL} {st : List Value} {h : nzH} {k x : Nat} {y : nzM} (hd : decode m.2.2.1 pc = .ok (.invokestatic k, 3)) (hk : nzlk nzTM m.1 k = some (8, x, y)) (hc : nzcat (st.drop 4) = true) : nzr d m pc ls st h = (nzled h st).bind fun q => nzr d m (pc + 3) ls q.1 q.2 := by
  rw [nzr_of hd]; simp only [nzact, nzinvS, hk, hc, if_true, Option.bind_assoc, nzg, Option.bind_some]; rfl
theorem z_iret {d : Nat} {m : nzM} {pc : Nat} {ls : nzL} {h : nzH} {v : Int32} {ty : FieldType} (hd : decode m.2.2.1 pc = .ok (.ireturn, 1)) (hr : m.2.2.2.2.1 = some ty) (hn : narrow ty (.int v) = .int v) : nzr d m pc ls [.int v] h = some (some (.int v), h) := by
  rw [nzr_of hd]; simp only [nzact, hr, hn, if_true, Option.bind_some, nzk]
theorem z_iretV {d : Nat} {m : nzM} {pc : Nat} {ls : nzL} {h : nzH} {v : Int32} {ty : FieldType} (hd : decode m.2.2.1 pc = .ok (.ireturn, 1)) (hr : m.2.2.2.2.1 = some ty) : nzr d m pc ls [.int v] h = if narrow ty (.int v) = .int v then some (some (.int v), h) else none := by
  rw [nzr_of hd]; simp only [nzact, hr]
  split <;> rfl
theorem z_lret {d : Nat} {m : nzM} {pc : Nat} {ls : nzL} {h : nzH} {v : Int64} (hd : decode m.2.2.1 pc = .ok (.lreturn, 1)) (hr : m.2.2.2.2.1 = some .long) : nzr d m pc ls [.long v] h = some (some (.long v), h) := by
  rw [nzr_of hd]; simp only [nzact, hr, Option.bind_some, nzk]
theorem z_aret {d : Nat} {m : nzM} {pc : Nat} {ls : nzL} {h : nzH} {v : Nat} {C : String} (hd : decode m.2.2.1 pc = .ok (.areturn, 1)) (hr : m.2.2.2.2.1 = some (.object C)) : nzr d m pc ls [.ref v] h = some (some (.ref v), h) := by
  rw [nzr_of hd]; simp only [nzact, hr, Option.bind_some, nzk]
theorem z_vret {d : Nat} {m : nzM} {pc : Nat} {ls : nzL} {h : nzH} (hd : decode m.2.2.1 pc = .ok (.return_, 1)) (hr : m.2.2.2.2.1 = none) : nzr d m pc ls [] h = some (none, h) := by
  rw [nzr_of hd]; simp only [nzact, hr, Option.bind_some, nzk]
theorem z_bcg {α β : Type} {x : Option α} {f g : α → Option β} (h : ∀ v, f v = g v) : x.bind f = x.bind g := by
  have e : f = g := funext h
  rw [e]
theorem z_ite {α : Type} {c : Prop} {i : Decidable c} {a b a' b' : α} (h1 : a = a') (h2 : b = b') : (@ite α c i a b) = (@ite α c i a' b') := by rw [h1, h2]
theorem z_enter {d : Nat} {m : nzM} {as : List Value} {h : nzH} {l : nzL} (hi : nzin m as = some l) : nzcall (d + 1) m as h = if nzrc m as h then nzr d m 0 l [] h else none := by
  simp only [nzcall, hi, Option.bind_some]
