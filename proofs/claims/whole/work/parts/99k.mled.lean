/-! led where nothing is there (reference) -/
section NZMKL
variable {d t : Nat} {h : nzH} {F0 : Nat → Value} {I : Nat → Int32} {W : Int64} {rd : Option Nat} {tp : Nat → Int32} {A : Nat → Nat → Int32} {J : Nat → Int32} {B : Nat → Nat → Int32} {Wd : Nat → Int64} {td : Option Nat}
theorem mX_led27 (x y : Int32) : nzr d nX13_led 27 [some (.ref 73), some (.int x), some (.int y)] [.ref 73] (zmS h F0 I W td rd tp A) = some (some (.int 0), zmS h F0 (upd I 0 1) W td rd tp A) := by
  rw [eX13_led_27, eX13_led_28, zP_0, Option.bind_some, zI_0, Option.bind_some, upd_eq, if_neg (show ¬ (1 : Int32) ≤ 0 by decide)]
theorem mX_led_n (hd : 20 < d) (x y : Int32) : nzxI d nX13_led [.ref 73, .int x, .int y] (zmS h F0 I W none rd tp A) = some (0, zmS h F0 (upd I 0 1) W none rd tp A) := by
  refine iX13_led (by omega) zmS_o ?_
  rw [eX13_led_0, jX13_isCar0 zmo_S (by omega), Option.bind_some, if_pos rfl]
  exact mX_led27 x y
theorem mX_led_0 (E : zmd h t J B Wd) (ht : 94 ≤ t) (hd : 20 < d) (x y : Int32) (z : zmh (J 6) x = 0) : nzxI d nX13_led [.ref 73, .int x, .int y] (zmS h F0 I W (some t) rd tp A) = some (0, zmS h F0 (upd I 0 1) W (some t) rd tp A) := by
  refine iX13_led (by omega) zmS_o ?_
  rw [eX13_led_0, jX13_isCar zmo_S (zmd_S E ht) (by omega), Option.bind_some, ← zmh, if_pos z]
  exact mX_led27 x y
theorem mX_led_1 (E : zmd h t J B Wd) (ht : 94 ≤ t) (hd : 20 < d) {c : Nat} (hc : c < 3) (y : Int32) (z : ¬ zmh (J 6) (nI c) = 0) (z2 : y < 0 ∨ A 17 c ≤ y) : nzxI d nX13_led [.ref 73, .int (nI c), .int y] (zmS h F0 I W (some t) rd tp A) = some (0, zmS h F0 (upd I 0 1) W (some t) rd tp A) := by
  refine iX13_led (by omega) zmS_o ?_
  rw [eX13_led_0, jX13_isCar zmo_S (zmd_S E ht) (by omega), Option.bind_some, ← zmh, if_neg z]
  by_cases u : y < 0
  · rw [if_pos u]
    exact mX_led27 _ y
  · have v : A 17 c ≤ y := by
      cases z2 with
      | inl a => exact absurd a u
      | inr a => exact a
    rw [if_neg u, zR_17, Option.bind_some, zA_17 hc, Option.bind_some, if_pos v]
    exact mX_led27 _ y
end NZMKL
