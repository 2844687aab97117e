/-! the reference: the cheapest dish's coin, who works -/
def zmcS (C : Nat → Int32) (f : Nat) (nt : Int32) (i : Nat) (b : Int32) : Int32 := if nI i = nt then b else if C (6 * f + i) = -1 then b else if b = -1 then C (6 * f + i) else if b ≤ C (6 * f + i) then b else C (6 * f + i)
section NZMS
variable {d t : Nat} {h : nzH} {I : Nat → Int32} {W : Int64} {rd : Option Nat} {tp : Nat → Int32} {A : Nat → Nat → Int32} {J : Nat → Int32} {B : Nat → Nat → Int32} {Wd : Nat → Int64}
theorem jX13_ch5 (D : zmo h I W (some t) rd tp A) (E : zmd h t J B Wd) {n f : Nat} (hn : n ≤ 6) (en : J 3 = nI n) (hf : f < 14) (nt : Int32) : ∀ (j i : Nat) (b : Int32) (u : Option Value), i + j = n → nzr d nX13_cheapest 5 [some (.ref 73), some (.int (nI f)), some (.int nt), some (.int b), some (.int (nI i)), u] [] h = some (some (.int (zit (zmcS (A 31) f nt) i j b)), h) := by
  have g := zmo_td D
  intro j
  induction j with
  | zero =>
    intro i b u hi
    rw [eX13_cheapest_5, g.2, Option.bind_some, zmd_I E (by decide), Option.bind_some, en, if_pos (nI_le (by omega) (by omega))]
    rfl
  | succ j ih =>
    intro i b u hi
    have a31 := zmo_gA D (k := 31) (i := 6 * f + i) (by decide) (by decide) (show 6 * f + i < 84 by omega)
    rw [eX13_cheapest_5, g.2, Option.bind_some, zmd_I E (by decide), Option.bind_some, en, if_neg (nI_ge (by omega) (by omega)), zmo_gR D (k := 31) (by decide) (by decide), Option.bind_some, show 6 * nI f + nI i = nI (6 * f + i) by rw [show (6 : Int32) = nI 6 from rfl, pk_mul, nI_add], a31, Option.bind_some]
    simp only [eX13_cheapest_54, eX13_cheapest_57, nI_1]
    rw [zit, zmcS]
    split
    · exact ih (i + 1) _ _ (by omega)
    · split
      · exact ih (i + 1) _ _ (by omega)
      · split
        · exact ih (i + 1) _ _ (by omega)
        · split <;> exact ih (i + 1) _ _ (by omega)
theorem jX13_cheapest (D : zmo h I W (some t) rd tp A) (E : zmd h t J B Wd) (hd : 0 < d) {n f : Nat} (hn : n ≤ 6) (en : J 3 = nI n) (hf : f < 14) (nt : Int32) : nzxI d nX13_cheapest [.ref 73, .int (nI f), .int nt] h = some (zit (zmcS (A 31) f nt) 0 n (-1), h) := by
  refine iX13_cheapest hd D.1.choose_spec.1 ?_
  rw [eX13_cheapest_0]
  exact jX13_ch5 D E hn en hf nt n 0 _ _ (by omega)
theorem jX13_who6 (D : zmo h I W (some t) rd tp A) (E : zmd h t J B Wd) {n e : Nat} (hn : n ≤ 5) (en : J 9 = nI n) (x : Int32) : ∀ (j k a : Nat), k = e + j → k < 100 → a < 2 ^ 31 → nzr d nX13_whoOf 6 [some (.ref 73), some (.int x), some (.int (nI e)), some (.int (nI a)), some (.int (nI k))] [] h = some (some (.int (nI (a / (n + 1) ^ j % (n + 1)))), h) := by
  have g := zmo_td D
  have e1 : nI n + 1 = nI (n + 1) := nI_1 n
  have e2 : ¬ nI (n + 1) = 0 := nI_ne0 (by omega) (by omega)
  intro j
  induction j with
  | zero =>
    intro k a hk hl ha
    rw [eX13_whoOf_6, if_pos (nI_le (by omega) (by omega)), g.2, Option.bind_some, zmd_I E (by decide), Option.bind_some, en, e1, if_neg e2, pk_rem ha (by omega) (by omega), Nat.pow_zero, Nat.div_one]
  | succ j ih =>
    intro k a hk hl ha
    rw [eX13_whoOf_6, if_neg (nI_ge (by omega) (by omega)), g.2, Option.bind_some, zmd_I E (by decide), Option.bind_some, en, e1, if_neg e2, pk_div ha (by omega) (by omega), sb_m1 (by omega), ih (k - 1) (a / (n + 1)) (by omega) (by omega) (Nat.lt_of_le_of_lt (Nat.div_le_self _ _) ha), Nat.div_div_eq_div_mul, Nat.pow_succ, Nat.mul_comm]
theorem jX13_whoOf (D : zmo h I W (some t) rd tp A) (E : zmd h t J B Wd) (hd : 0 < d) {n e a : Nat} (hn : n ≤ 5) (en : J 9 = nI n) (he : e ≤ 6) (ha : a < 2 ^ 31) : nzxI d nX13_whoOf [.ref 73, .int (nI a), .int (nI e)] h = some (nI (a / (n + 1) ^ (6 - e) % (n + 1)), h) := by
  refine iX13_whoOf hd D.1.choose_spec.1 ?_
  rw [eX13_whoOf_0]
  exact jX13_who6 D E hn en (nI a) (6 - e) 6 a (by omega) (by decide) ha
end NZMS
