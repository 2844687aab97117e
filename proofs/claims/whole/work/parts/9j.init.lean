/-! the constructors: an object with what it makes, relative to a heap; written by wip/gen/gen_init.py -/
def zoX (b : nzH) (ci N : Nat) (F : Nat → Value) (as : List nzE) (k : Nat) : nzH := (b.1 + 1 + as.length, (b.2.1.1 + 1 + as.length, b.2.1.2 + N + k), fun a => if a = b.1 then some (.inr (ci, F)) else if b.1 < a ∧ a ≤ b.1 + as.length then as[a - b.1 - 1]? else b.2.2.1 a, b.2.2.2)
def zei (n : Nat) : nzE := .inl (.int, n, .inl (fun _ => 0))
def zeg (o n : Nat) : nzE := .inl (.array .int, n, .inr (.inr (.inr (.inr (fun i => if i < n then some (o + 1 + i) else none)))))
section NZIN
variable {b : nzH} {ci N : Nat} {F : Nat → Value} {as : List nzE} {k : Nat}
theorem zoX_put {f : Nat} {v : Value} : nzput (zoX b ci N F as k) b.1 ci f v = some (zoX b ci N (va_up F f v) as k) := by
  rw [zp_of (show zobj (zoX b ci N F as k) b.1 ci F from if_pos rfl)]
  refine congrArg some (Prod.ext rfl (Prod.ext rfl (Prod.ext (funext fun a => ?_) rfl)))
  show va_up (zoX b ci N F as k).2.2.1 b.1 (some (.inr (ci, va_up F f v))) a = _
  rw [va_up_at]
  by_cases y : a = b.1
  · rw [if_pos y]
    exact (if_pos y).symm
  · rw [if_neg y]
    exact (if_neg y).trans (if_neg y).symm
theorem zoX_new {n : Nat} {e : nzE} : nznew (zoX b ci N F as k) n e = zoX b ci N F (as ++ [e]) (k + n) := by
  have l : (as ++ [e]).length = as.length + 1 := List.length_append
  refine Prod.ext (show b.1 + 1 + as.length + 1 = b.1 + 1 + (as ++ [e]).length by omega) (Prod.ext (Prod.ext (show b.2.1.1 + 1 + as.length + 1 = b.2.1.1 + 1 + (as ++ [e]).length by omega) (show b.2.1.2 + N + k + n = b.2.1.2 + N + (k + n) by omega)) (Prod.ext (funext fun a => ?_) rfl))
  show va_up (zoX b ci N F as k).2.2.1 (b.1 + 1 + as.length) (some e) a = (if a = b.1 then some (.inr (ci, F)) else if b.1 < a ∧ a ≤ b.1 + (as ++ [e]).length then (as ++ [e])[a - b.1 - 1]? else b.2.2.1 a)
  rw [va_up_at]
  by_cases y : a = b.1 + 1 + as.length
  · rw [if_pos y, if_neg (by omega), if_pos (by omega), List.getElem?_append_right (by omega), show a - b.1 - 1 - as.length = 0 by omega]
    rfl
  · rw [if_neg y]
    show (if a = b.1 then some (.inr (ci, F)) else if b.1 < a ∧ a ≤ b.1 + as.length then as[a - b.1 - 1]? else b.2.2.1 a) = _
    by_cases y1 : a = b.1
    · rw [if_pos y1, if_pos y1]
    · rw [if_neg y1, if_neg y1]
      by_cases y2 : b.1 < a ∧ a ≤ b.1 + as.length
      · rw [if_pos y2, if_pos (by omega), List.getElem?_append_left (by omega)]
      · rw [if_neg y2, if_neg (by omega)]
theorem zoX_na {n f r : Nat} {ty : FieldType} {z : (Nat → Int32) ⊕ (Nat → Int64) ⊕ (Nat → UInt32) ⊕ (Nat → UInt64) ⊕ (Nat → Option Nat)} {x : Int32} (hx : x = nI n) (hn : n ≤ 900) (hz : nzzero ty = some z) (hr : b.1 + 1 + as.length = r) (K : nzH → nzO) : ((nznewa (zoX b ci N F as k) ty x).bind fun h2 => (nzput h2 b.1 ci f (.ref (zoX b ci N F as k).1)).bind K) = K (zoX b ci N (va_up F f (.ref r)) (as ++ [.inl (ty, n, z)]) (k + n)) := by
  subst hx hr
  have e1 : nznewa (zoX b ci N F as k) ty (nI n) = some (nznew (zoX b ci N F as k) n (.inl (ty, n, z))) := by
    rw [nznewa, hz]
    dsimp only
    rw [nI_clamp (by omega), if_neg (fun q => q.elim (nI_pos (by omega)) (fun q => by omega))]
  rw [e1, Option.bind_some, zoX_new, zoX_put, Option.bind_some]
  rfl
theorem zoX_rows {m : Nat} : ∀ n, nzrows (zoX b ci N F as k) m n = zoX b ci N F (as ++ List.replicate n (zei m)) (k + n * m)
  | 0 => by rw [nzrows, List.replicate_zero, List.append_nil, Nat.zero_mul, Nat.add_zero]
  | n + 1 => by
    rw [nzrows, zoX_rows n, show (Sum.inl (FieldType.int, m, Sum.inl (fun _ => 0)) : nzE) = zei m from rfl, zoX_new, List.append_assoc, ← List.replicate_succ', Nat.add_mul, Nat.one_mul, Nat.add_assoc]
theorem zoX_nm {n m f r : Nat} {x y : Int32} (hx : x = nI n) (hy : y = nI m) (hn : n ≤ 900) (hm : m ≤ 900) (hr : b.1 + 1 + as.length = r) (K : nzH → nzO) : ((nznewm (zoX b ci N F as k) x y).bind fun h2 => (nzput h2 b.1 ci f (.ref (zoX b ci N F as k).1)).bind K) = K (zoX b ci N (va_up F f (.ref r)) (as ++ zeg r n :: List.replicate n (zei m)) (k + n + n * m)) := by
  subst hx hy hr
  have e1 : nznewm (zoX b ci N F as k) (nI n) (nI m) = some (zoX b ci N F (as ++ zeg (b.1 + 1 + as.length) n :: List.replicate n (zei m)) (k + n + n * m)) := by
    rw [nznewm, nI_clamp (by omega), nI_clamp (by omega), if_neg (fun q => by
      rcases q with q | q | q | q
      · exact nI_pos (by omega) q
      · exact nI_pos (by omega) q
      · omega
      · omega)]
    refine congrArg some ?_
    have := zoX_new (b := b) (ci := ci) (N := N) (F := F) (as := as) (k := k) (n := n) (e := zeg (b.1 + 1 + as.length) n)
    rw [show (nznew (zoX b ci N F as k) n (.inl (.array .int, n, .inr (.inr (.inr (.inr (fun i => if i < n then some ((zoX b ci N F as k).1 + 1 + i) else none))))))) = nznew (zoX b ci N F as k) n (zeg (b.1 + 1 + as.length) n) from rfl, this, zoX_rows, List.append_assoc]
    rfl
  rw [e1, Option.bind_some, zoX_put, Option.bind_some]
  rfl
theorem zoX_zoX {ci' N' k' : Nat} {F' : Nat → Value} {as' : List nzE} : zoX (zoX b ci N F as k) ci' N' F' as' k' = zoX b ci N F (as ++ .inr (ci', F') :: as') (k + N' + k') := by
  have l : (as ++ (.inr (ci', F') : nzE) :: as').length = as.length + 1 + as'.length := by
    rw [List.length_append, List.length_cons]; omega
  refine Prod.ext (show b.1 + 1 + as.length + 1 + as'.length = b.1 + 1 + (as ++ (.inr (ci', F') : nzE) :: as').length by omega) (Prod.ext (Prod.ext (show b.2.1.1 + 1 + as.length + 1 + as'.length = b.2.1.1 + 1 + (as ++ (.inr (ci', F') : nzE) :: as').length by omega) (show b.2.1.2 + N + k + N' + k' = b.2.1.2 + N + (k + N' + k') by omega)) (Prod.ext (funext fun a => ?_) rfl))
  show (if a = b.1 + 1 + as.length then some (.inr (ci', F')) else if b.1 + 1 + as.length < a ∧ a ≤ b.1 + 1 + as.length + as'.length then as'[a - (b.1 + 1 + as.length) - 1]? else (if a = b.1 then some (.inr (ci, F)) else if b.1 < a ∧ a ≤ b.1 + as.length then as[a - b.1 - 1]? else b.2.2.1 a)) = (if a = b.1 then some (.inr (ci, F)) else if b.1 < a ∧ a ≤ b.1 + (as ++ (.inr (ci', F') : nzE) :: as').length then (as ++ (.inr (ci', F') : nzE) :: as')[a - b.1 - 1]? else b.2.2.1 a)
  rw [l]
  by_cases y : a = b.1 + 1 + as.length
  · rw [if_pos y, if_neg (by omega), if_pos (by omega), List.getElem?_append_right (by omega), show a - b.1 - 1 - as.length = 0 by omega]
    rfl
  · rw [if_neg y]
    by_cases y1 : b.1 + 1 + as.length < a ∧ a ≤ b.1 + 1 + as.length + as'.length
    · rw [if_pos y1, if_neg (by omega), if_pos (by omega), List.getElem?_append_right (by omega), show a - b.1 - 1 - as.length = (a - (b.1 + 1 + as.length) - 1) + 1 by omega]
      rfl
    · rw [if_neg y1]
      by_cases y2 : a = b.1
      · rw [if_pos y2, if_pos y2]
      · rw [if_neg y2, if_neg y2]
        by_cases y3 : b.1 < a ∧ a ≤ b.1 + as.length
        · rw [if_pos y3, if_pos (by omega), List.getElem?_append_left (by omega)]
        · rw [if_neg y3, if_neg (by omega)]
theorem zoX_sub {ci' N' k' f r d : Nat} {m : nzM} {F' : Nat → Value} {as' : List nzE} (hr : b.1 + 1 + as.length = r) (hs : ∀ b' : nzH, b'.1 = r → (nznewo b' ci').bind (fun h => nzxV d m [.ref b'.1] h) = some (zoX b' ci' N' F' as' k')) (K : nzH → nzO) : ((nznewo (zoX b ci N F as k) ci').bind fun h1 => (nzxV d m [.ref (zoX b ci N F as k).1] h1).bind fun h2 => (nzput h2 b.1 ci f (.ref (zoX b ci N F as k).1)).bind K) = K (zoX b ci N (va_up F f (.ref r)) (as ++ .inr (ci', F') :: as') (k + N' + k')) := by
  have e := hs (zoX b ci N F as k) hr
  cases e1 : nznewo (zoX b ci N F as k) ci' with
  | none => rw [e1] at e; cases e
  | some h1 =>
    rw [e1, Option.bind_some] at e
    rw [Option.bind_some, e, Option.bind_some, zoX_zoX, show (zoX b ci N F as k).1 = b.1 + 1 + as.length from rfl, hr, zoX_put, Option.bind_some]
end NZIN
theorem zinit0 (b : nzH) {e : nzE} (a : Nat) : va_up b.2.2.1 b.1 (some e) a = (if a = b.1 then some e else if b.1 < a ∧ a ≤ b.1 + 0 then ([] : List nzE)[a - b.1 - 1]? else b.2.2.1 a) := by
  rw [va_up_at]
  by_cases y : a = b.1
  · rw [if_pos y, if_pos y]
  · rw [if_neg y, if_neg y, if_neg (by omega)]
def zIF0 (o : Nat) : Nat → Value := (va_up (va_up (fun k => defaultValue (tyX0 k)) 0 (.ref (o + 1))) 1 (.ref (o + 2)))
def zIL0 (o : Nat) : List nzE := [] ++ [.inl (.int, 9, .inl (fun _ => 0))] ++ [.inl (.int, 378, .inl (fun _ => 0))]
theorem jX0_init {d : Nat} (b : nzH) (o : Nat) (ho : b.1 = o) (hd : 0 < d) : (nznewo b 0).bind (fun h => nzxV d nX0_init [.ref b.1] h) = some (zoX b 0 2 (zIF0 o) (zIL0 o) 387) := by
  rw [show nznewo b 0 = some (zoX b 0 2 (fun k => defaultValue (tyX0 k)) [] 0) from congrArg some (Prod.ext rfl (Prod.ext rfl (Prod.ext (funext fun a => zinit0 b a) rfl))), Option.bind_some]
  refine iX0_init (by omega) ?_
  rw [eX0_init_0]
  refine (zoX_na (x := 9) (n := 9) (r := o + 1) rfl (by decide) rfl (by show b.1 + 1 + 0 = o + 1; omega) _).trans ?_
  refine (zoX_na (x := 378) (n := 378) (r := o + 2) rfl (by decide) rfl (by show b.1 + 1 + 1 = o + 2; omega) _).trans ?_
  rfl
def zIF9 (o : Nat) : Nat → Value := (va_up (fun k => defaultValue (tyX9 k)) 0 (.ref (o + 1)))
def zIL9 (o : Nat) : List nzE := [] ++ [.inl (.byte, 900, .inl (fun _ => 0))]
theorem jX9_init {d : Nat} (b : nzH) (o : Nat) (ho : b.1 = o) (hd : 0 < d) : (nznewo b 9).bind (fun h => nzxV d nX9_init [.ref b.1] h) = some (zoX b 9 9 (zIF9 o) (zIL9 o) 900) := by
  rw [show nznewo b 9 = some (zoX b 9 9 (fun k => defaultValue (tyX9 k)) [] 0) from congrArg some (Prod.ext rfl (Prod.ext rfl (Prod.ext (funext fun a => zinit0 b a) rfl))), Option.bind_some]
  refine iX9_init (by omega) ?_
  rw [eX9_init_0]
  refine (zoX_na (x := 900) (n := 900) (r := o + 1) rfl (by decide) rfl (by show b.1 + 1 + 0 = o + 1; omega) _).trans ?_
  rfl
def zIF2 (o : Nat) : Nat → Value := (va_up (va_up (fun k => defaultValue (tyX2 k)) 0 (.ref (o + 1))) 1 (.ref (o + 2)))
def zIL2 (o : Nat) : List nzE := [] ++ [.inl (.int, 5, .inl (fun _ => 0))] ++ [.inl (.int, 5, .inl (fun _ => 0))]
theorem jX2_init {d : Nat} (b : nzH) (o : Nat) (ho : b.1 = o) (hd : 0 < d) : (nznewo b 2).bind (fun h => nzxV d nX2_init [.ref b.1] h) = some (zoX b 2 4 (zIF2 o) (zIL2 o) 10) := by
  rw [show nznewo b 2 = some (zoX b 2 4 (fun k => defaultValue (tyX2 k)) [] 0) from congrArg some (Prod.ext rfl (Prod.ext rfl (Prod.ext (funext fun a => zinit0 b a) rfl))), Option.bind_some]
  refine iX2_init (by omega) ?_
  rw [eX2_init_0]
  refine (zoX_na (x := 5) (n := 5) (r := o + 1) rfl (by decide) rfl (by show b.1 + 1 + 0 = o + 1; omega) _).trans ?_
  refine (zoX_na (x := 5) (n := 5) (r := o + 2) rfl (by decide) rfl (by show b.1 + 1 + 1 = o + 2; omega) _).trans ?_
  rfl
def zIF3 (o : Nat) : Nat → Value := (va_up (va_up (va_up (fun k => defaultValue (tyX3 k)) 0 (.ref (o + 1))) 1 (.ref (o + 17))) 2 (.ref (o + 18)))
def zIL3 (o : Nat) : List nzE := [] ++ (zeg (o + 1) 15 :: List.replicate 15 (zei 6)) ++ [.inl (.int, 14, .inl (fun _ => 0))] ++ [.inl (.int, 6, .inl (fun _ => 0))]
theorem jX3_init {d : Nat} (b : nzH) (o : Nat) (ho : b.1 = o) (hd : 0 < d) : (nznewo b 3).bind (fun h => nzxV d nX3_init [.ref b.1] h) = some (zoX b 3 4 (zIF3 o) (zIL3 o) 125) := by
  rw [show nznewo b 3 = some (zoX b 3 4 (fun k => defaultValue (tyX3 k)) [] 0) from congrArg some (Prod.ext rfl (Prod.ext rfl (Prod.ext (funext fun a => zinit0 b a) rfl))), Option.bind_some]
  refine iX3_init (by omega) ?_
  rw [eX3_init_0]
  refine (zoX_nm (x := 15) (y := 6) (n := 15) (m := 6) (r := o + 1) rfl rfl (by decide) (by decide) (by show b.1 + 1 + 0 = o + 1; omega) _).trans ?_
  refine (zoX_na (x := 14) (n := 14) (r := o + 17) rfl (by decide) rfl (by show b.1 + 1 + 16 = o + 17; omega) _).trans ?_
  refine (zoX_na (x := 6) (n := 6) (r := o + 18) rfl (by decide) rfl (by show b.1 + 1 + 17 = o + 18; omega) _).trans ?_
  rfl
def zIF4 (o : Nat) : Nat → Value := (va_up (va_up (va_up (fun k => defaultValue (tyX4 k)) 0 (.ref (o + 1))) 1 (.ref (o + 5))) 2 (.ref (o + 9)))
def zIL4 (o : Nat) : List nzE := [] ++ (zeg (o + 1) 3 :: List.replicate 3 (zei 64)) ++ (zeg (o + 5) 3 :: List.replicate 3 (zei 64)) ++ [.inl (.int, 6, .inl (fun _ => 0))]
theorem jX4_init {d : Nat} (b : nzH) (o : Nat) (ho : b.1 = o) (hd : 0 < d) : (nznewo b 4).bind (fun h => nzxV d nX4_init [.ref b.1] h) = some (zoX b 4 4 (zIF4 o) (zIL4 o) 396) := by
  rw [show nznewo b 4 = some (zoX b 4 4 (fun k => defaultValue (tyX4 k)) [] 0) from congrArg some (Prod.ext rfl (Prod.ext rfl (Prod.ext (funext fun a => zinit0 b a) rfl))), Option.bind_some]
  refine iX4_init (by omega) ?_
  rw [eX4_init_0]
  refine (zoX_nm (x := 3) (y := 64) (n := 3) (m := 64) (r := o + 1) rfl rfl (by decide) (by decide) (by show b.1 + 1 + 0 = o + 1; omega) _).trans ?_
  refine (zoX_nm (x := 3) (y := 64) (n := 3) (m := 64) (r := o + 5) rfl rfl (by decide) (by decide) (by show b.1 + 1 + 4 = o + 5; omega) _).trans ?_
  refine (zoX_na (x := 6) (n := 6) (r := o + 9) rfl (by decide) rfl (by show b.1 + 1 + 8 = o + 9; omega) _).trans ?_
  rfl
def zIF5 (o : Nat) : Nat → Value := (va_up (va_up (va_up (fun k => defaultValue (tyX5 k)) 0 (.ref (o + 1))) 1 (.ref (o + 2))) 2 (.ref (o + 3)))
def zIL5 (o : Nat) : List nzE := [] ++ [.inl (.int, 16, .inl (fun _ => 0))] ++ [.inl (.int, 16, .inl (fun _ => 0))] ++ [.inl (.int, 16, .inl (fun _ => 0))]
theorem jX5_init {d : Nat} (b : nzH) (o : Nat) (ho : b.1 = o) (hd : 0 < d) : (nznewo b 5).bind (fun h => nzxV d nX5_init [.ref b.1] h) = some (zoX b 5 4 (zIF5 o) (zIL5 o) 48) := by
  rw [show nznewo b 5 = some (zoX b 5 4 (fun k => defaultValue (tyX5 k)) [] 0) from congrArg some (Prod.ext rfl (Prod.ext rfl (Prod.ext (funext fun a => zinit0 b a) rfl))), Option.bind_some]
  refine iX5_init (by omega) ?_
  rw [eX5_init_0]
  refine (zoX_na (x := 16) (n := 16) (r := o + 1) rfl (by decide) rfl (by show b.1 + 1 + 0 = o + 1; omega) _).trans ?_
  refine (zoX_na (x := 16) (n := 16) (r := o + 2) rfl (by decide) rfl (by show b.1 + 1 + 1 = o + 2; omega) _).trans ?_
  refine (zoX_na (x := 16) (n := 16) (r := o + 3) rfl (by decide) rfl (by show b.1 + 1 + 2 = o + 3; omega) _).trans ?_
  rfl
def zIF6 (o : Nat) : Nat → Value := (va_up (va_up (va_up (fun k => defaultValue (tyX6 k)) 0 (.ref (o + 1))) 1 (.ref (o + 5))) 2 (.ref (o + 6)))
def zIL6 (o : Nat) : List nzE := [] ++ (zeg (o + 1) 3 :: List.replicate 3 (zei 6)) ++ [.inl (.int, 3, .inl (fun _ => 0))] ++ [.inl (.int, 6, .inl (fun _ => 0))]
theorem jX6_init {d : Nat} (b : nzH) (o : Nat) (ho : b.1 = o) (hd : 0 < d) : (nznewo b 6).bind (fun h => nzxV d nX6_init [.ref b.1] h) = some (zoX b 6 4 (zIF6 o) (zIL6 o) 30) := by
  rw [show nznewo b 6 = some (zoX b 6 4 (fun k => defaultValue (tyX6 k)) [] 0) from congrArg some (Prod.ext rfl (Prod.ext rfl (Prod.ext (funext fun a => zinit0 b a) rfl))), Option.bind_some]
  refine iX6_init (by omega) ?_
  rw [eX6_init_0]
  refine (zoX_nm (x := 3) (y := 6) (n := 3) (m := 6) (r := o + 1) rfl rfl (by decide) (by decide) (by show b.1 + 1 + 0 = o + 1; omega) _).trans ?_
  refine (zoX_na (x := 3) (n := 3) (r := o + 5) rfl (by decide) rfl (by show b.1 + 1 + 4 = o + 5; omega) _).trans ?_
  refine (zoX_na (x := 6) (n := 6) (r := o + 6) rfl (by decide) rfl (by show b.1 + 1 + 5 = o + 6; omega) _).trans ?_
  rfl
def zIF7 (o : Nat) : Nat → Value := (va_up (va_up (va_up (fun k => defaultValue (tyX7 k)) 0 (.ref (o + 1))) 1 (.ref (o + 2))) 2 (.ref (o + 3)))
def zIL7 (o : Nat) : List nzE := [] ++ [.inl (.int, 3, .inl (fun _ => 0))] ++ [.inl (.int, 6, .inl (fun _ => 0))] ++ [.inl (.int, 6, .inl (fun _ => 0))]
theorem jX7_init {d : Nat} (b : nzH) (o : Nat) (ho : b.1 = o) (hd : 0 < d) : (nznewo b 7).bind (fun h => nzxV d nX7_init [.ref b.1] h) = some (zoX b 7 5 (zIF7 o) (zIL7 o) 15) := by
  rw [show nznewo b 7 = some (zoX b 7 5 (fun k => defaultValue (tyX7 k)) [] 0) from congrArg some (Prod.ext rfl (Prod.ext rfl (Prod.ext (funext fun a => zinit0 b a) rfl))), Option.bind_some]
  refine iX7_init (by omega) ?_
  rw [eX7_init_0]
  refine (zoX_na (x := 3) (n := 3) (r := o + 1) rfl (by decide) rfl (by show b.1 + 1 + 0 = o + 1; omega) _).trans ?_
  refine (zoX_na (x := 6) (n := 6) (r := o + 2) rfl (by decide) rfl (by show b.1 + 1 + 1 = o + 2; omega) _).trans ?_
  refine (zoX_na (x := 6) (n := 6) (r := o + 3) rfl (by decide) rfl (by show b.1 + 1 + 2 = o + 3; omega) _).trans ?_
  rfl
def zIF8 (o : Nat) : Nat → Value := (va_up (va_up (fun k => defaultValue (tyX8 k)) 0 (.ref (o + 1))) 1 (.ref (o + 8)))
def zIL8 (o : Nat) : List nzE := [] ++ (zeg (o + 1) 6 :: List.replicate 6 (zei 10)) ++ [.inl (.int, 6, .inl (fun _ => 0))]
theorem jX8_init {d : Nat} (b : nzH) (o : Nat) (ho : b.1 = o) (hd : 0 < d) : (nznewo b 8).bind (fun h => nzxV d nX8_init [.ref b.1] h) = some (zoX b 8 2 (zIF8 o) (zIL8 o) 72) := by
  rw [show nznewo b 8 = some (zoX b 8 2 (fun k => defaultValue (tyX8 k)) [] 0) from congrArg some (Prod.ext rfl (Prod.ext rfl (Prod.ext (funext fun a => zinit0 b a) rfl))), Option.bind_some]
  refine iX8_init (by omega) ?_
  rw [eX8_init_0]
  refine (zoX_nm (x := 6) (y := 10) (n := 6) (m := 10) (r := o + 1) rfl rfl (by decide) (by decide) (by show b.1 + 1 + 0 = o + 1; omega) _).trans ?_
  refine (zoX_na (x := 6) (n := 6) (r := o + 8) rfl (by decide) rfl (by show b.1 + 1 + 7 = o + 8; omega) _).trans ?_
  rfl
def zIF10 (o : Nat) : Nat → Value := (va_up (va_up (va_up (fun k => defaultValue (tyX10 k)) 0 (.ref (o + 1))) 1 (.ref (o + 2))) 2 (.ref (o + 3)))
def zIL10 (o : Nat) : List nzE := [] ++ [.inl (.int, 7, .inl (fun _ => 0))] ++ [.inl (.int, 5, .inl (fun _ => 0))] ++ [.inl (.int, 7, .inl (fun _ => 0))]
theorem jX10_init {d : Nat} (b : nzH) (o : Nat) (ho : b.1 = o) (hd : 0 < d) : (nznewo b 10).bind (fun h => nzxV d nX10_init [.ref b.1] h) = some (zoX b 10 4 (zIF10 o) (zIL10 o) 19) := by
  rw [show nznewo b 10 = some (zoX b 10 4 (fun k => defaultValue (tyX10 k)) [] 0) from congrArg some (Prod.ext rfl (Prod.ext rfl (Prod.ext (funext fun a => zinit0 b a) rfl))), Option.bind_some]
  refine iX10_init (by omega) ?_
  rw [eX10_init_0]
  refine (zoX_na (x := 7) (n := 7) (r := o + 1) rfl (by decide) rfl (by show b.1 + 1 + 0 = o + 1; omega) _).trans ?_
  refine (zoX_na (x := 5) (n := 5) (r := o + 2) rfl (by decide) rfl (by show b.1 + 1 + 1 = o + 2; omega) _).trans ?_
  refine (zoX_na (x := 7) (n := 7) (r := o + 3) rfl (by decide) rfl (by show b.1 + 1 + 2 = o + 3; omega) _).trans ?_
  rfl
def zIF1 (o : Nat) : Nat → Value := (va_up (va_up (va_up (va_up (va_up (fun k => defaultValue (tyX1 k)) 0 (.ref (o + 1))) 1 (.ref (o + 3))) 2 (.ref (o + 4))) 3 (.ref (o + 5))) 4 (.ref (o + 6)))
def zIL1 (o : Nat) : List nzE := [] ++ (.inr (9, zIF9 (o + 1)) :: zIL9 (o + 1)) ++ [.inl (.long, 32, .inr (.inl (fun _ => 0)))] ++ [.inl (.int, 32, .inl (fun _ => 0))] ++ [.inl (.int, 32, .inl (fun _ => 0))] ++ (.inr (0, zIF0 (o + 6)) :: zIL0 (o + 6))
theorem jX1_init {d : Nat} (b : nzH) (o : Nat) (ho : b.1 = o) (hd : 1 < d) : (nznewo b 1).bind (fun h => nzxV d nX1_init [.ref b.1] h) = some (zoX b 1 9 (zIF1 o) (zIL1 o) 1394) := by
  rw [show nznewo b 1 = some (zoX b 1 9 (fun k => defaultValue (tyX1 k)) [] 0) from congrArg some (Prod.ext rfl (Prod.ext rfl (Prod.ext (funext fun a => zinit0 b a) rfl))), Option.bind_some]
  refine iX1_init (by omega) ?_
  rw [eX1_init_0]
  refine (zoX_sub (r := o + 1) (by show b.1 + 1 + 0 = o + 1; omega) (fun b' e => jX9_init b' (o + 1) e (by omega)) _).trans ?_
  refine (zoX_na (x := 32) (n := 32) (r := o + 3) rfl (by decide) rfl (by show b.1 + 1 + 2 = o + 3; omega) _).trans ?_
  refine (zoX_na (x := 32) (n := 32) (r := o + 4) rfl (by decide) rfl (by show b.1 + 1 + 3 = o + 4; omega) _).trans ?_
  refine (zoX_na (x := 32) (n := 32) (r := o + 5) rfl (by decide) rfl (by show b.1 + 1 + 4 = o + 5; omega) _).trans ?_
  refine (zoX_sub (r := o + 6) (by show b.1 + 1 + 5 = o + 6; omega) (fun b' e => jX0_init b' (o + 6) e (by omega)) _).trans ?_
  rfl
def zIF11 (o : Nat) : Nat → Value := (va_up (va_up (va_up (va_up (va_up (va_up (va_up (va_up (va_up (va_up (va_up (fun k => defaultValue (tyX11 k)) 0 (.ref (o + 1))) 1 (.ref (o + 10))) 2 (.ref (o + 17))) 3 (.ref (o + 27))) 4 (.ref (o + 31))) 5 (.ref (o + 50))) 6 (.ref (o + 53))) 7 (.ref (o + 57))) 8 (.ref (o + 66))) 9 (.ref (o + 70))) 10 (.int 0))
def zIL11 (o : Nat) : List nzE := [] ++ (.inr (1, zIF1 (o + 1)) :: zIL1 (o + 1)) ++ (.inr (6, zIF6 (o + 10)) :: zIL6 (o + 10)) ++ (.inr (4, zIF4 (o + 17)) :: zIL4 (o + 17)) ++ (.inr (7, zIF7 (o + 27)) :: zIL7 (o + 27)) ++ (.inr (3, zIF3 (o + 31)) :: zIL3 (o + 31)) ++ (.inr (2, zIF2 (o + 50)) :: zIL2 (o + 50)) ++ (.inr (10, zIF10 (o + 53)) :: zIL10 (o + 53)) ++ (.inr (8, zIF8 (o + 57)) :: zIL8 (o + 57)) ++ (.inr (5, zIF5 (o + 66)) :: zIL5 (o + 66)) ++ (.inr (0, zIF0 (o + 70)) :: zIL0 (o + 70))
theorem jX11_init {d : Nat} (b : nzH) (o : Nat) (ho : b.1 = o) (hd : 2 < d) : (nznewo b 11).bind (fun h => nzxV d nX11_init [.ref b.1] h) = some (zoX b 11 11 (zIF11 o) (zIL11 o) 2538) := by
  rw [show nznewo b 11 = some (zoX b 11 11 (fun k => defaultValue (tyX11 k)) [] 0) from congrArg some (Prod.ext rfl (Prod.ext rfl (Prod.ext (funext fun a => zinit0 b a) rfl))), Option.bind_some]
  refine iX11_init (by omega) ?_
  rw [eX11_init_0]
  refine (zoX_sub (r := o + 1) (by show b.1 + 1 + 0 = o + 1; omega) (fun b' e => jX1_init b' (o + 1) e (by omega)) _).trans ?_
  refine (zoX_sub (r := o + 10) (by show b.1 + 1 + 9 = o + 10; omega) (fun b' e => jX6_init b' (o + 10) e (by omega)) _).trans ?_
  refine (zoX_sub (r := o + 17) (by show b.1 + 1 + 16 = o + 17; omega) (fun b' e => jX4_init b' (o + 17) e (by omega)) _).trans ?_
  refine (zoX_sub (r := o + 27) (by show b.1 + 1 + 26 = o + 27; omega) (fun b' e => jX7_init b' (o + 27) e (by omega)) _).trans ?_
  refine (zoX_sub (r := o + 31) (by show b.1 + 1 + 30 = o + 31; omega) (fun b' e => jX3_init b' (o + 31) e (by omega)) _).trans ?_
  refine (zoX_sub (r := o + 50) (by show b.1 + 1 + 49 = o + 50; omega) (fun b' e => jX2_init b' (o + 50) e (by omega)) _).trans ?_
  refine (zoX_sub (r := o + 53) (by show b.1 + 1 + 52 = o + 53; omega) (fun b' e => jX10_init b' (o + 53) e (by omega)) _).trans ?_
  refine (zoX_sub (r := o + 57) (by show b.1 + 1 + 56 = o + 57; omega) (fun b' e => jX8_init b' (o + 57) e (by omega)) _).trans ?_
  refine (zoX_sub (r := o + 66) (by show b.1 + 1 + 65 = o + 66; omega) (fun b' e => jX5_init b' (o + 66) e (by omega)) _).trans ?_
  refine (zoX_sub (r := o + 70) (by show b.1 + 1 + 69 = o + 70; omega) (fun b' e => jX0_init b' (o + 70) e (by omega)) _).trans ?_
  rw [zoX_put, Option.bind_some]
  rfl
def zIF13 (o : Nat) : Nat → Value := (va_up (va_up (va_up (va_up (va_up (va_up (va_up (va_up (va_up (va_up (va_up (va_up (va_up (va_up (va_up (va_up (va_up (va_up (va_up (va_up (va_up (fun k => defaultValue (tyX13 k)) 2 (.int (-1))) 5 (.ref (o + 1))) 17 (.ref (o + 2))) 18 (.ref (o + 3))) 22 (.ref (o + 4))) 23 (.ref (o + 5))) 26 (.ref (o + 6))) 28 (.ref (o + 7))) 29 (.ref (o + 8))) 30 (.ref (o + 9))) 31 (.ref (o + 10))) 32 (.ref (o + 11))) 35 (.ref (o + 12))) 36 (.ref (o + 13))) 38 (.ref (o + 14))) 39 (.ref (o + 15))) 40 (.ref (o + 16))) 41 (.ref (o + 17))) 43 (.ref (o + 18))) 44 (.ref (o + 19))) 45 (.ref (o + 20)))
def zIL13 : List nzE := [] ++ [.inl (.byte, 900, .inl (fun _ => 0))] ++ [.inl (.int, 3, .inl (fun _ => 0))] ++ [.inl (.int, 18, .inl (fun _ => 0))] ++ [.inl (.int, 6, .inl (fun _ => 0))] ++ [.inl (.int, 6, .inl (fun _ => 0))] ++ [.inl (.int, 6, .inl (fun _ => 0))] ++ [.inl (.int, 6, .inl (fun _ => 0))] ++ [.inl (.int, 192, .inl (fun _ => 0))] ++ [.inl (.int, 192, .inl (fun _ => 0))] ++ [.inl (.int, 84, .inl (fun _ => 0))] ++ [.inl (.int, 14, .inl (fun _ => 0))] ++ [.inl (.int, 5, .inl (fun _ => 0))] ++ [.inl (.int, 5, .inl (fun _ => 0))] ++ [.inl (.int, 7, .inl (fun _ => 0))] ++ [.inl (.int, 6, .inl (fun _ => 0))] ++ [.inl (.int, 6, .inl (fun _ => 0))] ++ [.inl (.int, 60, .inl (fun _ => 0))] ++ [.inl (.int, 16, .inl (fun _ => 0))] ++ [.inl (.int, 16, .inl (fun _ => 0))] ++ [.inl (.int, 16, .inl (fun _ => 0))]
theorem jX13_init {d : Nat} (b : nzH) (o : Nat) (ho : b.1 = o) (hd : 0 < d) : (nznewo b 13).bind (fun h => nzxV d nX13_init [.ref b.1] h) = some (zoX b 13 46 (zIF13 o) zIL13 1564) := by
  rw [show nznewo b 13 = some (zoX b 13 46 (fun k => defaultValue (tyX13 k)) [] 0) from congrArg some (Prod.ext rfl (Prod.ext rfl (Prod.ext (funext fun a => zinit0 b a) rfl))), Option.bind_some]
  refine iX13_init (by omega) ?_
  rw [eX13_init_0]
  rw [zoX_put, Option.bind_some]
  refine (zoX_na (x := 900) (n := 900) (r := o + 1) rfl (by decide) rfl (by show b.1 + 1 + 0 = o + 1; omega) _).trans ?_
  refine (zoX_na (x := 3) (n := 3) (r := o + 2) rfl (by decide) rfl (by show b.1 + 1 + 1 = o + 2; omega) _).trans ?_
  refine (zoX_na (x := 18) (n := 18) (r := o + 3) rfl (by decide) rfl (by show b.1 + 1 + 2 = o + 3; omega) _).trans ?_
  refine (zoX_na (x := 6) (n := 6) (r := o + 4) rfl (by decide) rfl (by show b.1 + 1 + 3 = o + 4; omega) _).trans ?_
  refine (zoX_na (x := 6) (n := 6) (r := o + 5) rfl (by decide) rfl (by show b.1 + 1 + 4 = o + 5; omega) _).trans ?_
  refine (zoX_na (x := 6) (n := 6) (r := o + 6) rfl (by decide) rfl (by show b.1 + 1 + 5 = o + 6; omega) _).trans ?_
  refine (zoX_na (x := 6) (n := 6) (r := o + 7) rfl (by decide) rfl (by show b.1 + 1 + 6 = o + 7; omega) _).trans ?_
  refine (zoX_na (x := 192) (n := 192) (r := o + 8) rfl (by decide) rfl (by show b.1 + 1 + 7 = o + 8; omega) _).trans ?_
  refine (zoX_na (x := 192) (n := 192) (r := o + 9) rfl (by decide) rfl (by show b.1 + 1 + 8 = o + 9; omega) _).trans ?_
  refine (zoX_na (x := 84) (n := 84) (r := o + 10) rfl (by decide) rfl (by show b.1 + 1 + 9 = o + 10; omega) _).trans ?_
  refine (zoX_na (x := 14) (n := 14) (r := o + 11) rfl (by decide) rfl (by show b.1 + 1 + 10 = o + 11; omega) _).trans ?_
  refine (zoX_na (x := 5) (n := 5) (r := o + 12) rfl (by decide) rfl (by show b.1 + 1 + 11 = o + 12; omega) _).trans ?_
  refine (zoX_na (x := 5) (n := 5) (r := o + 13) rfl (by decide) rfl (by show b.1 + 1 + 12 = o + 13; omega) _).trans ?_
  refine (zoX_na (x := 7) (n := 7) (r := o + 14) rfl (by decide) rfl (by show b.1 + 1 + 13 = o + 14; omega) _).trans ?_
  refine (zoX_na (x := 6) (n := 6) (r := o + 15) rfl (by decide) rfl (by show b.1 + 1 + 14 = o + 15; omega) _).trans ?_
  refine (zoX_na (x := 6) (n := 6) (r := o + 16) rfl (by decide) rfl (by show b.1 + 1 + 15 = o + 16; omega) _).trans ?_
  refine (zoX_na (x := 60) (n := 60) (r := o + 17) rfl (by decide) rfl (by show b.1 + 1 + 16 = o + 17; omega) _).trans ?_
  refine (zoX_na (x := 16) (n := 16) (r := o + 18) rfl (by decide) rfl (by show b.1 + 1 + 17 = o + 18; omega) _).trans ?_
  refine (zoX_na (x := 16) (n := 16) (r := o + 19) rfl (by decide) rfl (by show b.1 + 1 + 18 = o + 19; omega) _).trans ?_
  refine (zoX_na (x := 16) (n := 16) (r := o + 20) rfl (by decide) rfl (by show b.1 + 1 + 19 = o + 20; omega) _).trans ?_
  rfl
