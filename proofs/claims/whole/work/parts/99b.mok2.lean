/-! the reference's calls that succeed: rounds, records -/
section NZMK2
variable {d t : Nat} {h : nzH} {F0 : Nat → Value} {I : Nat → Int32} {W : Int64} {td rd : Option Nat} {tp : Nat → Int32} {A : Nat → Nat → Int32} {J : Nat → Int32} {B : Nat → Nat → Int32} {Wd : Nat → Int64} {N : Nat → Nat} {R : Nat → Nat → Nat}
theorem mX_bad (E : zmd h t J B Wd) (ht : 94 ≤ t) (hd : 20 < d) {nf c k : Nat} (hnf : nf ≤ 3) (e7 : J 7 = nI nf) (hc : c < 3) (hk : k < 3) (ek : B 26 c = nI k) (M : zmrr A N R) (z : ¬ zmh (J 6) (nI c) = 0) : ∃ I' A', nzxI d nX13_bad [.ref 73, .int (nI c)] (zmS h F0 I W (some t) rd tp A) = some ((zmgR J B nf c k (I 19) (R c) (N c) (A 23)).1, zmS h F0 I' W (some t) rd tp A') ∧ (∀ a, a ≠ 0 → a ≠ 1 → a ≠ 2 → a ≠ 20 → a ≠ 21 → I' a = I a) ∧ I' 1 = 0 ∧ I' 2 = -1 ∧ (∀ a, a ≠ 22 → a ≠ 23 → A' a = A a) := by
  refine ⟨upd (upd (upd (upd (upd I 0 0) 20 (nI (N c))) 21 (zmgR J B nf c k (I 19) (R c) (N c) (A 23)).1) 1 0) 2 (-1), va_up (va_up A 22 (zmrw A (R c) (N c))) 23 (zmgR J B nf c k (I 19) (R c) (N c) (A 23)).2.2.2, iX13_bad (by omega) zmS_o ?_, fun a a0 a1 a2 a3 a4 => ?_, ?_, upd_eq _ _ _, fun a a1 a2 => ?_⟩
  · rw [eX13_bad_0, zP_0, Option.bind_some, jX13_isCar zmo_S (zmd_S E ht) (by omega), Option.bind_some, ← zmh, if_neg z, zI_19, Option.bind_some, upd_ne (show 19 ≠ 0 by decide), kX13_goesAsDriven E ht (by omega) hnf e7 hc hk ek _ M, Option.bind_some, zI_21, Option.bind_some, upd_eq, zdone (by omega), Option.bind_some]
  · rw [upd_ne a2, upd_ne a1, upd_ne a4, upd_ne a3, upd_ne a0]
  · rw [upd_ne (by decide), upd_eq]
  · rw [va_up_at, if_neg a2, va_up_at, if_neg a1]
theorem mX_sign (E : zmd h t J B Wd) (ht : 94 ≤ t) (hd : 20 < d) {k n : Nat} (hk : k < 6) (hn : n < 10) (en : A 40 k = nI n) (y : Int32) (z1 : ¬ zmh (J 5) (nI k) = 0) (z2 : ¬ zwn y 0 99 = 0) : nzxI d nX13_sign [.ref 73, .int (nI k), .int y] (zmS h F0 I W (some t) rd tp A) = some (nI (n + 1), zmS h F0 (upd (upd (upd I 0 0) 1 0) 2 (-1)) W (some t) rd tp (va_up (va_up A 41 (upd (A 41) (10 * k + n) y)) 40 (upd (A 40) k (nI (n + 1))))) := by
  have i1 : 10 * nI k + nI n = nI (10 * k + n) := by rw [show (10 : Int32) = nI 10 from rfl, pk_mul, nI_add]
  refine iX13_sign (by omega) zmS_o ?_
  rw [eX13_sign_0, zP_0, Option.bind_some, jX13_isHouse zmo_S (zmd_S E ht) (by omega), Option.bind_some, ← zmh, if_neg z1, jX13_in (by omega), Option.bind_some, ← zwn, if_neg z2, zR_40, Option.bind_some, zA_40 hk, Option.bind_some, en, if_neg (show ¬ nI n = 10 from fun u => by have := (nI_eq (a := n) (b := 10) (by omega) (by decide)).mp u; omega), zR_41, Option.bind_some, Option.bind_some, zA_40 hk, Option.bind_some, en, i1, zW_41 (show 10 * k + n < 60 by omega), Option.bind_some, zR_40, Option.bind_some, zA_40 hk, Option.bind_some, va_up_at, if_neg (show ¬ 40 = 41 by decide), en, nI_1, zW_40 hk, Option.bind_some, zR_40, Option.bind_some, zA_40 hk, Option.bind_some, va_up_at, if_pos rfl, upd_eq, zdone (by omega), Option.bind_some, va_up_at, if_neg (show ¬ 40 = 41 by decide)]
theorem mX_menuAt (hd : 20 < d) (x : Int32) {n : Nat} (hn : n ≤ 14) (en : I 33 = nI n) : nzxI d nX13_menuAt [.ref 73, .int x] (zmS h F0 I W td rd tp A) = some (if x < 0 then -1 else if nI n ≤ x then -1 else A 32 x.toNatClampNeg, zmS h F0 (upd I 0 0) W td rd tp A) := by
  refine iX13_menuAt (by omega) zmS_o ?_
  rw [eX13_menuAt_0, zP_0, Option.bind_some]
  by_cases y : x < 0
  · rw [if_pos y, if_pos y, eX13_menuAt_26]
  · rw [if_neg y, if_neg y, zI_33, Option.bind_some, upd_ne (show 33 ≠ 0 by decide), en]
    by_cases z : nI n ≤ x
    · rw [if_pos z, if_pos z, eX13_menuAt_26]
    · obtain ⟨i, hi, rfl⟩ := z_rng (n := n) (by omega) y z
      rw [if_neg z, if_neg z, zR_32, Option.bind_some, zA_32 (show i < 14 by omega), Option.bind_some, nI_clamp (by omega)]
theorem mX_callAt (hd : 20 < d) (x : Int32) {n : Nat} (hn : n ≤ 5) (en : I 34 = nI n) : nzxI d nX13_callAt [.ref 73, .int x] (zmS h F0 I W td rd tp A) = some (if x < 0 then -1 else if nI n ≤ x then -1 else A 36 x.toNatClampNeg, zmS h F0 (upd I 0 0) W td rd tp A) := by
  refine iX13_callAt (by omega) zmS_o ?_
  rw [eX13_callAt_0, zP_0, Option.bind_some]
  by_cases y : x < 0
  · rw [if_pos y, if_pos y, eX13_callAt_26]
  · rw [if_neg y, if_neg y, zI_34, Option.bind_some, upd_ne (show 34 ≠ 0 by decide), en]
    by_cases z : nI n ≤ x
    · rw [if_pos z, if_pos z, eX13_callAt_26]
    · obtain ⟨i, hi, rfl⟩ := z_rng (n := n) (by omega) y z
      rw [if_neg z, if_neg z, zR_36, Option.bind_some, zA_36 (show i < 5 by omega), Option.bind_some, nI_clamp (by omega)]
end NZMK2
