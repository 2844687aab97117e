/-! the reference's calls that succeed: helper, shared, probe, drive, comes, heat -/
section NZMK3
variable {d t : Nat} {h : nzH} {F0 : Nat → Value} {I : Nat → Int32} {W : Int64} {td rd : Option Nat} {tp : Nat → Int32} {A : Nat → Nat → Int32} {J : Nat → Int32} {B : Nat → Nat → Int32} {Wd : Nat → Int64} {N : Nat → Nat} {R : Nat → Nat → Nat}
theorem mX_helper_0 (hd : 20 < d) (x : Int32) (z : I 37 = 0) : nzxI d nX13_helper [.ref 73, .int x] (zmS h F0 I W td rd tp A) = some (-1, zmS h F0 (upd I 0 0) W td rd tp A) := by
  refine iX13_helper (by omega) zmS_o ?_
  rw [eX13_helper_0, zP_0, Option.bind_some, zI_37, Option.bind_some, upd_ne (show 37 ≠ 0 by decide), if_pos z, eX13_helper_31]
theorem mX_helper_1 (hd : 20 < d) (x : Int32) (z : ¬ I 37 = 0) (z2 : zwn x 0 6 = 0) : nzxI d nX13_helper [.ref 73, .int x] (zmS h F0 I W td rd tp A) = some (-1, zmS h F0 (upd I 0 0) W td rd tp A) := by
  refine iX13_helper (by omega) zmS_o ?_
  rw [eX13_helper_0, zP_0, Option.bind_some, zI_37, Option.bind_some, upd_ne (show 37 ≠ 0 by decide), if_neg z, jX13_in (by omega), Option.bind_some, ← zwn, if_pos z2, eX13_helper_31]
theorem mX_helper_2 (hd : 20 < d) {k : Nat} (hk : k < 7) (z : ¬ I 37 = 0) (z2 : ¬ zwn (nI k) 0 6 = 0) : nzxI d nX13_helper [.ref 73, .int (nI k)] (zmS h F0 I W td rd tp A) = some (A 38 k, zmS h F0 (upd I 0 0) W td rd tp A) := by
  refine iX13_helper (by omega) zmS_o ?_
  rw [eX13_helper_0, zP_0, Option.bind_some, zI_37, Option.bind_some, upd_ne (show 37 ≠ 0 by decide), if_neg z, jX13_in (by omega), Option.bind_some, ← zwn, if_neg z2, zR_38, Option.bind_some, zA_38 hk, Option.bind_some]
theorem mX_shared_n (hd : 20 < d) (x : Int32) : nzxI d nX13_shared [.ref 73, .int x] (zmS h F0 I W none rd tp A) = some (-1, zmS h F0 (upd I 0 0) W none rd tp A) := by
  refine iX13_shared (by omega) zmS_o ?_
  rw [eX13_shared_0, zP_0, Option.bind_some, jX13_isHouse0 zmo_S (by omega), Option.bind_some, if_pos rfl, eX13_shared_29]
theorem mX_shared_0 (E : zmd h t J B Wd) (ht : 94 ≤ t) (hd : 20 < d) (x : Int32) (z : zmh (J 5) x = 0) : nzxI d nX13_shared [.ref 73, .int x] (zmS h F0 I W (some t) rd tp A) = some (-1, zmS h F0 (upd I 0 0) W (some t) rd tp A) := by
  refine iX13_shared (by omega) zmS_o ?_
  rw [eX13_shared_0, zP_0, Option.bind_some, jX13_isHouse zmo_S (zmd_S E ht) (by omega), Option.bind_some, ← zmh, if_pos z, eX13_shared_29]
theorem mX_shared_1 (E : zmd h t J B Wd) (ht : 94 ≤ t) (hd : 20 < d) (x : Int32) (z : ¬ zmh (J 5) x = 0) (z2 : I 27 = 0) : nzxI d nX13_shared [.ref 73, .int x] (zmS h F0 I W (some t) rd tp A) = some (-1, zmS h F0 (upd I 0 0) W (some t) rd tp A) := by
  refine iX13_shared (by omega) zmS_o ?_
  rw [eX13_shared_0, zP_0, Option.bind_some, jX13_isHouse zmo_S (zmd_S E ht) (by omega), Option.bind_some, ← zmh, if_neg z, zI_27, Option.bind_some, upd_ne (show 27 ≠ 0 by decide), if_pos z2, eX13_shared_29]
theorem mX_shared_2 (E : zmd h t J B Wd) (ht : 94 ≤ t) (hd : 20 < d) {k : Nat} (hk : k < 6) (z : ¬ zmh (J 5) (nI k) = 0) (z2 : ¬ I 27 = 0) : nzxI d nX13_shared [.ref 73, .int (nI k)] (zmS h F0 I W (some t) rd tp A) = some (A 28 k, zmS h F0 (upd I 0 0) W (some t) rd tp A) := by
  refine iX13_shared (by omega) zmS_o ?_
  rw [eX13_shared_0, zP_0, Option.bind_some, jX13_isHouse zmo_S (zmd_S E ht) (by omega), Option.bind_some, ← zmh, if_neg z, zI_27, Option.bind_some, upd_ne (show 27 ≠ 0 by decide), if_neg z2, zR_28, Option.bind_some, zA_28 hk, Option.bind_some]
theorem mX_probe (E : zmd h t J B Wd) (ht : 94 ≤ t) (hd : 20 < d) {k n : Nat} (hk : k < 3) (hn : n < 16) (en : I 42 = nI n) (y w : Int32) (z1 : ¬ zmh (J 6) (nI k) = 0) (z2 : ¬ zwn y (B 27 k) 999 = 0) (z3 : ¬ zwn w 0 99 = 0) : nzxI d nX13_probe [.ref 73, .int (nI k), .int y, .int w] (zmS h F0 I W (some t) rd tp A) = some (nI (n + 1), zmS h F0 (upd (upd (upd (upd I 0 0) 42 (nI (n + 1))) 1 0) 2 (-1)) W (some t) rd tp (va_up (va_up (va_up A 43 (upd (A 43) n (nI k))) 44 (upd (A 44) n y)) 45 (upd (A 45) n w))) := by
  refine iX13_probe (by omega) zmS_o ?_
  rw [eX13_probe_0, zP_0, Option.bind_some, jX13_isCar zmo_S (zmd_S E ht) (by omega), Option.bind_some, ← zmh, if_neg z1, zmS_T, Option.bind_some, zdr E ht (k := 27) (by decide) (by decide), Option.bind_some, zda E ht (k := 27) (by decide) (by decide) (by decide) (by decide) (by decide) hk, Option.bind_some, jX13_in (by omega), Option.bind_some, ← zwn, if_neg z2, jX13_in (by omega), Option.bind_some, ← zwn, if_neg z3, zI_42, Option.bind_some, upd_ne (show 42 ≠ 0 by decide), en, if_neg (show ¬ nI n = 16 from fun u => by have := (nI_eq (a := n) (b := 16) (by omega) (by decide)).mp u; omega), zR_43, Option.bind_some, Option.bind_some, zW_43 hn, Option.bind_some, zR_44, Option.bind_some, zI_42, Option.bind_some, upd_ne (show 42 ≠ 0 by decide), en, zW_44 hn, Option.bind_some, zR_45, Option.bind_some, zI_42, Option.bind_some, upd_ne (show 42 ≠ 0 by decide), en, zW_45 hn, Option.bind_some, zI_42, Option.bind_some, upd_ne (show 42 ≠ 0 by decide), en, nI_1, zP_42, Option.bind_some, zI_42, Option.bind_some, upd_eq, zdone (by omega), Option.bind_some]
  rfl
end NZMK3
