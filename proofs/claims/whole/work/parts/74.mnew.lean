/-! the reference: a new day -/
def zdL : List Nat := [3, 3, 6, 6, 4, 3, 3, 6, 6, 6, 6, 6, 6, 6, 3, 3, 3, 3, 3, 5, 5, 5, 5, 32, 32, 32]
def zsl : Nat → Nat
  | 0 => 0
  | i + 1 => zsl i + zdL.getD i 0
def zdG0 : Nat → Value := fun k => defaultValue (tyX12 k)
def zdFi (t i k : Nat) : Value := if k = 0 then .int (-1) else if 11 ≤ k ∧ k < 11 + i then .ref (t + (k - 10)) else zdG0 k
def zdAr (i : Nat) : Option nzE := if i = 13 ∨ i = 14 then some (.inl (.boolean, zdL.getD i 0, .inl (fun _ => 0))) else if i = 23 then some (.inl (.long, zdL.getD i 0, .inr (.inl (fun _ => 0)))) else some (.inl (.int, zdL.getD i 0, .inl (fun _ => 0)))
/-- a day half made: i arrays -/
def zdX (b : nzH) (i : Nat) : nzH := (b.1 + 1 + i, (b.2.1.1 + 1 + i, b.2.1.2 + 37 + zsl i), fun a => if a = b.1 then some (.inr (12, zdFi b.1 i)) else if b.1 < a ∧ a ≤ b.1 + i then zdAr (a - b.1 - 1) else b.2.2.1 a, b.2.2.2)
theorem zdX_st (b : nzH) (i : Nat) (ty : FieldType) {k : Int32} {n f : Nat} {z : (Nat → Int32) ⊕ (Nat → Int64) ⊕ (Nat → UInt32) ⊕ (Nat → UInt64) ⊕ (Nat → Option Nat)} (hz : nzzero ty = some z) (hk : k = nI n) (hn : n ≤ 900) (en : zdL.getD i 0 = n) (ea : zdAr i = some (.inl (ty, n, z))) (hf : f = 11 + i) (K : nzH → nzO) : ((nznewa (zdX b i) ty k).bind fun h2 => (nzput h2 b.1 12 f (.ref (zdX b i).1)).bind K) = K (zdX b (i + 1)) := by
  subst hk hf
  have e1 : nznewa (zdX b i) ty (nI n) = some (nznew (zdX b i) n (.inl (ty, n, z))) := by
    rw [nznewa, hz]
    dsimp only
    rw [nI_clamp (by omega), if_neg (fun q => q.elim (nI_pos (by omega)) (fun q => by omega))]
  have o : zobj (nznew (zdX b i) n (.inl (ty, n, z))) b.1 12 (zdFi b.1 i) := by
    show nzcell (nznew _ _ _) b.1 = _
    rw [zc_new, if_neg (show ¬ b.1 = (zdX b i).1 from fun q => by have : b.1 = b.1 + 1 + i := q; omega)]
    exact if_pos rfl
  rw [e1, Option.bind_some, zp_of o, Option.bind_some]
  refine congrArg K (Prod.ext (show b.1 + 1 + i + 1 = b.1 + 1 + (i + 1) by omega) (Prod.ext (Prod.ext (show b.2.1.1 + 1 + i + 1 = b.2.1.1 + 1 + (i + 1) by omega) (show b.2.1.2 + 37 + zsl i + n = b.2.1.2 + 37 + (zsl i + zdL.getD i 0) by omega)) (Prod.ext ?_ rfl)))
  funext a
  show va_up (va_up (zdX b i).2.2.1 (b.1 + 1 + i) (some (.inl (ty, n, z)))) b.1 _ a = (if a = b.1 then some (.inr (12, zdFi b.1 (i + 1))) else if b.1 < a ∧ a ≤ b.1 + (i + 1) then zdAr (a - b.1 - 1) else b.2.2.1 a)
  by_cases y : a = b.1
  · rw [y, va_up_self, if_pos rfl]
    refine congrArg some (congrArg Sum.inr (Prod.ext rfl (funext fun q => ?_)))
    show va_up (zdFi b.1 i) (11 + i) (.ref (b.1 + 1 + i)) q = zdFi b.1 (i + 1) q
    by_cases x : q = 11 + i
    · rw [x, va_up_self, zdFi, if_neg (by omega), if_pos (by omega), show b.1 + (11 + i - 10) = b.1 + 1 + i by omega]
    · rw [va_up_ne _ _ x, zdFi, zdFi]
      by_cases x0 : q = 0
      · rw [if_pos x0, if_pos x0]
      · rw [if_neg x0, if_neg x0]
        by_cases x1 : 11 ≤ q ∧ q < 11 + i
        · rw [if_pos x1, if_pos (by omega)]
        · rw [if_neg x1, if_neg (by omega)]
  · rw [va_up_ne _ _ y, if_neg y]
    by_cases x : a = b.1 + 1 + i
    · rw [x, va_up_self, if_pos (by omega), show b.1 + 1 + i - b.1 - 1 = i by omega, ea]
    · rw [va_up_ne _ _ x]
      show (if a = b.1 then _ else if b.1 < a ∧ a ≤ b.1 + i then zdAr (a - b.1 - 1) else b.2.2.1 a) = _
      rw [if_neg y]
      by_cases z1 : b.1 < a ∧ a ≤ b.1 + i
      · rw [if_pos z1, if_pos (by omega)]
      · rw [if_neg z1, if_neg (by omega)]
theorem zdX_1 (b : nzH) (i : Nat) : (zdX b i).1 = b.1 + 1 + i := rfl
theorem jX12_init {d : Nat} (b : nzH) (hd : 0 < d) : (nznewo b 12).bind (fun h7 => nzxV d nX12_init [.ref b.1] h7) = some (zdX b 26) := by
  have e0 : nznewo b 12 = some (nznew b 37 (.inr (12, zdG0))) := rfl
  have e1 : nzput (nznew b 37 (.inr (12, zdG0))) b.1 12 0 (.int (-1)) = some (zdX b 0) := by
    rw [zp_of (show zobj (nznew b 37 (.inr (12, zdG0))) b.1 12 zdG0 from if_pos rfl)]
    refine congrArg some (Prod.ext rfl (Prod.ext (Prod.ext rfl rfl) (Prod.ext ?_ rfl)))
    funext a
    show va_up (va_up b.2.2.1 b.1 (some (.inr (12, zdG0)))) b.1 (some (.inr (12, va_up zdG0 0 (.int (-1))))) a = (if a = b.1 then some (.inr (12, zdFi b.1 0)) else if b.1 < a ∧ a ≤ b.1 + 0 then zdAr (a - b.1 - 1) else b.2.2.1 a)
    by_cases y : a = b.1
    · rw [y, va_up_self, if_pos rfl]
      refine congrArg some (congrArg Sum.inr (Prod.ext rfl (funext fun q => ?_)))
      show va_up zdG0 0 (.int (-1)) q = zdFi b.1 0 q
      by_cases x : q = 0
      · rw [x, va_up_self, zdFi, if_pos rfl]
      · rw [va_up_ne _ _ x, zdFi, if_neg x, if_neg (by omega)]
    · rw [va_up_ne _ _ y, va_up_ne _ _ y, if_neg y, if_neg (by omega)]
  rw [e0, Option.bind_some]
  refine iX12_init hd ?_
  rw [eX12_init_0, e1, Option.bind_some]
  rw [zdX_st b 0 .int (k := 3) (n := 3) (f := 11) rfl rfl (by decide) rfl rfl rfl]
  rw [zdX_st b 1 .int (k := 3) (n := 3) (f := 12) rfl rfl (by decide) rfl rfl rfl]
  rw [zdX_st b 2 .int (k := 6) (n := 6) (f := 13) rfl rfl (by decide) rfl rfl rfl]
  rw [zdX_st b 3 .int (k := 6) (n := 6) (f := 14) rfl rfl (by decide) rfl rfl rfl]
  rw [zdX_st b 4 .int (k := 4) (n := 4) (f := 15) rfl rfl (by decide) rfl rfl rfl]
  rw [zdX_st b 5 .int (k := 3) (n := 3) (f := 16) rfl rfl (by decide) rfl rfl rfl]
  rw [zdX_st b 6 .int (k := 3) (n := 3) (f := 17) rfl rfl (by decide) rfl rfl rfl]
  rw [zdX_st b 7 .int (k := 6) (n := 6) (f := 18) rfl rfl (by decide) rfl rfl rfl]
  rw [zdX_st b 8 .int (k := 6) (n := 6) (f := 19) rfl rfl (by decide) rfl rfl rfl]
  rw [zdX_st b 9 .int (k := 6) (n := 6) (f := 20) rfl rfl (by decide) rfl rfl rfl]
  rw [zdX_st b 10 .int (k := 6) (n := 6) (f := 21) rfl rfl (by decide) rfl rfl rfl]
  rw [zdX_st b 11 .int (k := 6) (n := 6) (f := 22) rfl rfl (by decide) rfl rfl rfl]
  rw [zdX_st b 12 .int (k := 6) (n := 6) (f := 23) rfl rfl (by decide) rfl rfl rfl]
  rw [zdX_st b 13 .boolean (k := 6) (n := 6) (f := 24) rfl rfl (by decide) rfl rfl rfl]
  rw [zdX_st b 14 .boolean (k := 3) (n := 3) (f := 25) rfl rfl (by decide) rfl rfl rfl]
  rw [zdX_st b 15 .int (k := 3) (n := 3) (f := 26) rfl rfl (by decide) rfl rfl rfl]
  rw [zdX_st b 16 .int (k := 3) (n := 3) (f := 27) rfl rfl (by decide) rfl rfl rfl]
  rw [zdX_st b 17 .int (k := 3) (n := 3) (f := 28) rfl rfl (by decide) rfl rfl rfl]
  rw [zdX_st b 18 .int (k := 3) (n := 3) (f := 29) rfl rfl (by decide) rfl rfl rfl]
  rw [zdX_st b 19 .int (k := 5) (n := 5) (f := 30) rfl rfl (by decide) rfl rfl rfl]
  rw [zdX_st b 20 .int (k := 5) (n := 5) (f := 31) rfl rfl (by decide) rfl rfl rfl]
  rw [zdX_st b 21 .int (k := 5) (n := 5) (f := 32) rfl rfl (by decide) rfl rfl rfl]
  rw [zdX_st b 22 .int (k := 5) (n := 5) (f := 33) rfl rfl (by decide) rfl rfl rfl]
  rw [zdX_st b 23 .long (k := 32) (n := 32) (f := 34) rfl rfl (by decide) rfl rfl rfl]
  rw [zdX_st b 24 .int (k := 32) (n := 32) (f := 35) rfl rfl (by decide) rfl rfl rfl]
  rw [zdX_st b 25 .int (k := 32) (n := 32) (f := 36) rfl rfl (by decide) rfl rfl rfl]
/-- the numbers of a new day -/
def zdJ0 : Nat → Int32 := upd (fun _ => 0) 0 (-1)
def zdG (h : nzH) : nzH := (h.1 + 27, (h.2.1.1 + 27, h.2.1.2 + 238), h.2.2.1, h.2.2.2)
theorem zdG0_0 : ∀ k, 1 ≤ k → k ≤ 10 → zdG0 k = .int 0 := by
  intro k h1 h2
  rcases (show k = 1 ∨ k = 2 ∨ k = 3 ∨ k = 4 ∨ k = 5 ∨ k = 6 ∨ k = 7 ∨ k = 8 ∨ k = 9 ∨ k = 10 by omega) with rfl | rfl | rfl | rfl | rfl | rfl | rfl | rfl | rfl | rfl <;> rfl
theorem zdAr_k : ∀ k, k < 37 → 11 ≤ k → (zml k = zdL.getD (k - 11) 0 ∧ (k - 11 = 13 ↔ k = 24) ∧ (k - 11 = 14 ↔ k = 25) ∧ (k - 11 = 23 ↔ k = 34)) := by decide +kernel
theorem zdX_S {h : nzH} {F0 : Nat → Value} {I : Nat → Int32} {W : Int64} {td rd : Option Nat} {tp : Nat → Int32} {A : Nat → Nat → Int32} (ht : 94 ≤ h.1) : zdX (zmS h F0 I W td rd tp A) 26 = zmS (zdS (zdG h) h.1 zdG0 zdJ0 (fun _ _ => 0) (fun _ => 0)) F0 I W td rd tp A := by
  refine Prod.ext rfl (Prod.ext rfl (Prod.ext ?_ rfl))
  funext a
  show (if a = h.1 then some (.inr (12, zdFi h.1 26)) else if h.1 < a ∧ a ≤ h.1 + 26 then zdAr (a - h.1 - 1) else (if 73 ≤ a ∧ a < 94 then zmC F0 I W td rd tp A a else h.2.2.1 a)) = (if 73 ≤ a ∧ a < 94 then zmC F0 I W td rd tp A a else if h.1 ≤ a ∧ a < h.1 + 27 then zdC zdG0 h.1 zdJ0 (fun _ _ => 0) (fun _ => 0) (a - h.1 + 10) else h.2.2.1 a)
  by_cases y : a = h.1
  · rw [if_pos y, if_neg (by omega), if_pos (by omega), show a - h.1 + 10 = 10 by omega, zdC, if_pos rfl]
    refine congrArg some (congrArg Sum.inr (Prod.ext rfl (funext fun q => ?_)))
    show zdFi h.1 26 q = zdF zdG0 h.1 zdJ0 q
    rw [zdFi, zdF]
    by_cases x : q = 0
    · rw [if_pos x, x, if_pos (by decide)]
      rfl
    · rw [if_neg x]
      by_cases x1 : q ≤ 10
      · rw [if_neg (by omega), if_pos x1, zdG0_0 q (by omega) x1, zdJ0, upd_ne x]
      · rw [if_neg x1]
        by_cases x2 : q ≤ 36
        · rw [if_pos (by omega), if_pos x2]
        · rw [if_neg (by omega), if_neg x2]
  · rw [if_neg y]
    by_cases x : h.1 < a ∧ a ≤ h.1 + 26
    · have m := zdAr_k (a - h.1 + 10) (by omega) (by omega)
      rw [if_pos x, if_neg (by omega), if_pos (by omega), zdC, if_neg (by omega), zdAr]
      rw [show a - h.1 + 10 - 11 = a - h.1 - 1 by omega] at m
      by_cases z1 : a - h.1 - 1 = 13
      · rw [if_pos (.inl z1), if_pos (m.2.1.mp z1), z1]
        rfl
      · by_cases z2 : a - h.1 - 1 = 14
        · rw [if_pos (.inr z2), if_neg (fun q => z1 (m.2.1.mpr q)), if_pos (m.2.2.1.mp z2), z2]
          rfl
        · rw [if_neg (fun q => q.elim z1 z2), if_neg (fun q => z1 (m.2.1.mpr q)), if_neg (fun q => z2 (m.2.2.1.mpr q))]
          by_cases z3 : a - h.1 - 1 = 23
          · rw [if_pos z3, if_pos (m.2.2.2.mp z3), z3]
            rfl
          · rw [if_neg z3, if_neg (fun q => z3 (m.2.2.2.mpr q)), m.1]
    · rw [if_neg x]
      by_cases z : 73 ≤ a ∧ a < 94
      · rw [if_pos z, if_pos z]
      · rw [if_neg z, if_neg z, if_neg (by omega)]
