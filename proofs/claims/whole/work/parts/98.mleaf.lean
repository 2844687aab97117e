/-! the reference's calls, one theorem a leaf -/
def zmh (b x : Int32) : Int32 := if x < 0 then 0 else if b ≤ x then 0 else 1
section NZML
variable {d t : Nat} {h : nzH} {F0 : Nat → Value} {I : Nat → Int32} {W : Int64} {rd : Option Nat} {tp : Nat → Int32} {A : Nat → Nat → Int32} {J : Nat → Int32} {B : Nat → Nat → Int32} {Wd : Nat → Int64} {N : Nat → Nat} {R : Nat → Nat → Nat}
theorem mX_drive_0 (hd : 20 < d) (x y : Int32)  : nzxI d nX13_drive [.ref 73, .int x, .int y] (zmS h F0 I W none rd tp A) = some (-1, zmS h F0 (upd (upd (upd I 0 0) 1 1) 2 (-1)) W none rd tp A) := by
  refine iX13_drive (by omega) zmS_o ?_
  rw [eX13_drive_0, zP_0, Option.bind_some, jX13_isCar0 zmo_S (by omega), Option.bind_some, if_pos rfl, eX13_drive_21, zrefu (by omega), Option.bind_some]
theorem mX_drive_1 (E : zmd h t J B Wd) (ht : 94 ≤ t) (hd : 20 < d) (x y : Int32) (z1 : zmh (J 6) x = 0) : nzxI d nX13_drive [.ref 73, .int x, .int y] (zmS h F0 I W (some t) rd tp A) = some (-1, zmS h F0 (upd (upd (upd I 0 0) 1 1) 2 (-1)) W (some t) rd tp A) := by
  refine iX13_drive (by omega) zmS_o ?_
  rw [eX13_drive_0, zP_0, Option.bind_some, jX13_isCar zmo_S (zmd_S E ht) (by omega), Option.bind_some, ← zmh, if_pos z1, eX13_drive_21, zrefu (by omega), Option.bind_some]
theorem mX_drive_2 (E : zmd h t J B Wd) (ht : 94 ≤ t) (hd : 20 < d) (x y : Int32) (z1 : ¬ zmh (J 6) x = 0) (z2 : zmh (J 5) y = 0) : nzxI d nX13_drive [.ref 73, .int x, .int y] (zmS h F0 I W (some t) rd tp A) = some (-1, zmS h F0 (upd (upd (upd I 0 0) 1 1) 2 (-1)) W (some t) rd tp A) := by
  refine iX13_drive (by omega) zmS_o ?_
  rw [eX13_drive_0, zP_0, Option.bind_some, jX13_isCar zmo_S (zmd_S E ht) (by omega), Option.bind_some, ← zmh, if_neg z1, jX13_isHouse zmo_S (zmd_S E ht) (by omega), Option.bind_some, ← zmh, if_pos z2, eX13_drive_21, zrefu (by omega), Option.bind_some]
theorem mX_drive_3 (E : zmd h t J B Wd) (ht : 94 ≤ t) (M : zmrr A N R) {m : Nat} (hm : m ≤ 3) (em : J 6 = nI m) (hd : 20 < d) (x y : Int32) (z1 : ¬ zmh (J 6) x = 0) (z2 : ¬ zmh (J 5) y = 0) (z3 : ¬ zcar N R y 0 m = -1) : nzxI d nX13_drive [.ref 73, .int x, .int y] (zmS h F0 I W (some t) rd tp A) = some (-1, zmS h F0 (upd (upd (upd I 0 0) 1 5) 2 (-1)) W (some t) rd tp A) := by
  refine iX13_drive (by omega) zmS_o ?_
  rw [eX13_drive_0, zP_0, Option.bind_some, jX13_isCar zmo_S (zmd_S E ht) (by omega), Option.bind_some, ← zmh, if_neg z1, jX13_isHouse zmo_S (zmd_S E ht) (by omega), Option.bind_some, ← zmh, if_neg z2, jX13_carOf zmo_S (zmd_S E ht) M hm em (by omega), Option.bind_some, if_neg z3, zrefu (by omega), Option.bind_some]
theorem mX_unload_0 (hd : 20 < d) (x : Int32)  : nzxI d nX13_unload [.ref 73, .int x] (zmS h F0 I W none rd tp A) = some (-1, zmS h F0 (upd (upd (upd I 0 0) 1 1) 2 (-1)) W none rd tp A) := by
  refine iX13_unload (by omega) zmS_o ?_
  rw [eX13_unload_0, zP_0, Option.bind_some, jX13_isCar0 zmo_S (by omega), Option.bind_some, if_pos rfl, zrefu (by omega), Option.bind_some]
theorem mX_unload_1 (E : zmd h t J B Wd) (ht : 94 ≤ t) (hd : 20 < d) (x : Int32) (z1 : zmh (J 6) x = 0) : nzxI d nX13_unload [.ref 73, .int x] (zmS h F0 I W (some t) rd tp A) = some (-1, zmS h F0 (upd (upd (upd I 0 0) 1 1) 2 (-1)) W (some t) rd tp A) := by
  refine iX13_unload (by omega) zmS_o ?_
  rw [eX13_unload_0, zP_0, Option.bind_some, jX13_isCar zmo_S (zmd_S E ht) (by omega), Option.bind_some, ← zmh, if_pos z1, zrefu (by omega), Option.bind_some]
theorem mX_unload_2 (E : zmd h t J B Wd) (ht : 94 ≤ t) {k : Nat} (hk : k < 3) (hd : 20 < d) (z1 : ¬ zmh (J 6) (nI k) = 0) : nzxI d nX13_unload [.ref 73, .int (nI k)] (zmS h F0 I W (some t) rd tp A) = some (A 17 k, zmS h F0 (upd (upd (upd I 0 0) 1 0) 2 (-1)) W (some t) rd tp (va_up A 17 (upd (A 17) k 0))) := by
  refine iX13_unload (by omega) zmS_o ?_
  rw [eX13_unload_0, zP_0, Option.bind_some, jX13_isCar zmo_S (zmd_S E ht) (by omega), Option.bind_some, ← zmh, if_neg z1, zR_17, Option.bind_some, zA_17 hk, Option.bind_some, Option.bind_some, zW_17 hk, Option.bind_some, zdone (by omega), Option.bind_some]
theorem mX_comes_0 (hd : 20 < d) (x : Int32)  : nzxI d nX13_comes [.ref 73, .int x] (zmS h F0 I W none rd tp A) = some (-1, zmS h F0 (upd (upd (upd I 0 0) 1 1) 2 (-1)) W none rd tp A) := by
  refine iX13_comes (by omega) zmS_o ?_
  rw [eX13_comes_0, zP_0, Option.bind_some, jX13_isHouse0 zmo_S (by omega), Option.bind_some, if_pos rfl, zrefu (by omega), Option.bind_some]
theorem mX_comes_1 (E : zmd h t J B Wd) (ht : 94 ≤ t) (hd : 20 < d) (x : Int32) (z1 : zmh (J 5) x = 0) : nzxI d nX13_comes [.ref 73, .int x] (zmS h F0 I W (some t) rd tp A) = some (-1, zmS h F0 (upd (upd (upd I 0 0) 1 1) 2 (-1)) W (some t) rd tp A) := by
  refine iX13_comes (by omega) zmS_o ?_
  rw [eX13_comes_0, zP_0, Option.bind_some, jX13_isHouse zmo_S (zmd_S E ht) (by omega), Option.bind_some, ← zmh, if_pos z1, zrefu (by omega), Option.bind_some]
theorem mX_comes_2 (E : zmd h t J B Wd) (ht : 94 ≤ t) (M : zmrr A N R) {m : Nat} (hm : m ≤ 3) (em : J 6 = nI m) (hd : 20 < d) (x : Int32) (z1 : ¬ zmh (J 5) x = 0) (z3 : zcar N R x 0 m = -1) : nzxI d nX13_comes [.ref 73, .int x] (zmS h F0 I W (some t) rd tp A) = some (-1, zmS h F0 (upd (upd (upd I 0 0) 1 6) 2 (-1)) W (some t) rd tp A) := by
  refine iX13_comes (by omega) zmS_o ?_
  rw [eX13_comes_0, zP_0, Option.bind_some, jX13_isHouse zmo_S (zmd_S E ht) (by omega), Option.bind_some, ← zmh, if_neg z1, jX13_carOf zmo_S (zmd_S E ht) M hm em (by omega), Option.bind_some, if_pos z3, zrefu (by omega), Option.bind_some]
theorem mX_heat_0 (hd : 20 < d) (x : Int32)  : nzxI d nX13_heat [.ref 73, .int x] (zmS h F0 I W none rd tp A) = some (-1000, zmS h F0 (upd (upd (upd I 0 0) 1 1) 2 (-1)) W none rd tp A) := by
  refine iX13_heat (by omega) zmS_o ?_
  rw [eX13_heat_0, zP_0, Option.bind_some, jX13_isHouse0 zmo_S (by omega), Option.bind_some, if_pos rfl, zlost (by omega), Option.bind_some]
theorem mX_heat_1 (E : zmd h t J B Wd) (ht : 94 ≤ t) (hd : 20 < d) (x : Int32) (z1 : zmh (J 5) x = 0) : nzxI d nX13_heat [.ref 73, .int x] (zmS h F0 I W (some t) rd tp A) = some (-1000, zmS h F0 (upd (upd (upd I 0 0) 1 1) 2 (-1)) W (some t) rd tp A) := by
  refine iX13_heat (by omega) zmS_o ?_
  rw [eX13_heat_0, zP_0, Option.bind_some, jX13_isHouse zmo_S (zmd_S E ht) (by omega), Option.bind_some, ← zmh, if_pos z1, zlost (by omega), Option.bind_some]
theorem mX_heat_2 (E : zmd h t J B Wd) (ht : 94 ≤ t) (M : zmrr A N R) {m : Nat} (hm : m ≤ 3) (em : J 6 = nI m) (hd : 20 < d) (x : Int32) (z1 : ¬ zmh (J 5) x = 0) (z3 : zcar N R x 0 m = -1) : nzxI d nX13_heat [.ref 73, .int x] (zmS h F0 I W (some t) rd tp A) = some (-1000, zmS h F0 (upd (upd (upd I 0 0) 1 6) 2 (-1)) W (some t) rd tp A) := by
  refine iX13_heat (by omega) zmS_o ?_
  rw [eX13_heat_0, zP_0, Option.bind_some, jX13_isHouse zmo_S (zmd_S E ht) (by omega), Option.bind_some, ← zmh, if_neg z1, jX13_carOf zmo_S (zmd_S E ht) M hm em (by omega), Option.bind_some, if_pos z3, zlost (by omega), Option.bind_some]
theorem mX_costs_0 (hd : 20 < d) (x : Int32)  : nzxI d nX13_costs [.ref 73, .int x] (zmS h F0 I W none rd tp A) = some (-1000, zmS h F0 (upd (upd (upd I 0 0) 1 1) 2 (-1)) W none rd tp A) := by
  refine iX13_costs (by omega) zmS_o ?_
  rw [eX13_costs_0, zP_0, Option.bind_some, jX13_isHouse0 zmo_S (by omega), Option.bind_some, if_pos rfl, zlost (by omega), Option.bind_some]
theorem mX_costs_1 (E : zmd h t J B Wd) (ht : 94 ≤ t) (hd : 20 < d) (x : Int32) (z1 : zmh (J 5) x = 0) : nzxI d nX13_costs [.ref 73, .int x] (zmS h F0 I W (some t) rd tp A) = some (-1000, zmS h F0 (upd (upd (upd I 0 0) 1 1) 2 (-1)) W (some t) rd tp A) := by
  refine iX13_costs (by omega) zmS_o ?_
  rw [eX13_costs_0, zP_0, Option.bind_some, jX13_isHouse zmo_S (zmd_S E ht) (by omega), Option.bind_some, ← zmh, if_pos z1, zlost (by omega), Option.bind_some]
theorem mX_costs_2 (E : zmd h t J B Wd) (ht : 94 ≤ t) (M : zmrr A N R) {m : Nat} (hm : m ≤ 3) (em : J 6 = nI m) (hd : 20 < d) (x : Int32) (z1 : ¬ zmh (J 5) x = 0) (z3 : zcar N R x 0 m = -1) : nzxI d nX13_costs [.ref 73, .int x] (zmS h F0 I W (some t) rd tp A) = some (-1000, zmS h F0 (upd (upd (upd I 0 0) 1 6) 2 (-1)) W (some t) rd tp A) := by
  refine iX13_costs (by omega) zmS_o ?_
  rw [eX13_costs_0, zP_0, Option.bind_some, jX13_isHouse zmo_S (zmd_S E ht) (by omega), Option.bind_some, ← zmh, if_neg z1, jX13_carOf zmo_S (zmd_S E ht) M hm em (by omega), Option.bind_some, if_pos z3, zlost (by omega), Option.bind_some]
theorem mX_way_0 (hd : 20 < d) (x y : Int32)  : nzxI d nX13_way [.ref 73, .int x, .int y] (zmS h F0 I W none rd tp A) = some (-1, zmS h F0 (upd (upd (upd I 0 0) 1 1) 2 (-1)) W none rd tp A) := by
  refine iX13_way (by omega) zmS_o ?_
  rw [eX13_way_0, zP_0, Option.bind_some, zmS_N0, Option.bind_some, if_pos rfl, zrefu (by omega), Option.bind_some]
theorem mX_way_1 (E : zmd h t J B Wd) (ht : 94 ≤ t) (hd : 20 < d) (x y : Int32) (z1 : zwn x 0 99 = 0) : nzxI d nX13_way [.ref 73, .int x, .int y] (zmS h F0 I W (some t) rd tp A) = some (-1, zmS h F0 (upd (upd (upd I 0 0) 1 2) 2 (-1)) W (some t) rd tp A) := by
  refine iX13_way (by omega) zmS_o ?_
  rw [eX13_way_0, zP_0, Option.bind_some, zmS_N, Option.bind_some, if_neg (show ¬ some t = none from fun z => by cases z), jX13_in (by omega), Option.bind_some, ← zwn, if_pos z1, eX13_way_54, zrefu (by omega), Option.bind_some]
theorem mX_way_2 (E : zmd h t J B Wd) (ht : 94 ≤ t) (hd : 20 < d) (x y : Int32) (z1 : ¬ zwn x 0 99 = 0) (z2 : zwn y 0 99 = 0) : nzxI d nX13_way [.ref 73, .int x, .int y] (zmS h F0 I W (some t) rd tp A) = some (-1, zmS h F0 (upd (upd (upd I 0 0) 1 2) 2 (-1)) W (some t) rd tp A) := by
  refine iX13_way (by omega) zmS_o ?_
  rw [eX13_way_0, zP_0, Option.bind_some, zmS_N, Option.bind_some, if_neg (show ¬ some t = none from fun z => by cases z), jX13_in (by omega), Option.bind_some, ← zwn, if_neg z1, jX13_in (by omega), Option.bind_some, ← zwn, if_pos z2, eX13_way_54, zrefu (by omega), Option.bind_some]
theorem mX_way_3 (E : zmd h t J B Wd) (ht : 94 ≤ t) {nf : Nat} (hnf : nf ≤ 3) (e7 : J 7 = nI nf) (hd : 20 < d) (x y : Int32) (z1 : ¬ zwn x 0 99 = 0) (z2 : ¬ zwn y 0 99 = 0) : nzxI d nX13_way [.ref 73, .int x, .int y] (zmS h F0 I W (some t) rd tp A) = some (zmway B nf x y, zmS h F0 (upd (upd (upd I 0 0) 1 0) 2 (-1)) W (some t) rd tp A) := by
  refine iX13_way (by omega) zmS_o ?_
  rw [eX13_way_0, zP_0, Option.bind_some, zmS_N, Option.bind_some, if_neg (show ¬ some t = none from fun z => by cases z), jX13_in (by omega), Option.bind_some, ← zwn, if_neg z1, jX13_in (by omega), Option.bind_some, ← zwn, if_neg z2, zmS_T, Option.bind_some, jX12_way (zmd_S E ht) (by omega) hnf e7, Option.bind_some, zdone (by omega), Option.bind_some]
theorem mX_fits_0 (hd : 20 < d) (x y : Int32)  : nzxI d nX13_fits [.ref 73, .int x, .int y] (zmS h F0 I W none rd tp A) = some (-1, zmS h F0 (upd (upd (upd I 0 0) 1 1) 2 (-1)) W none rd tp A) := by
  refine iX13_fits (by omega) zmS_o ?_
  rw [eX13_fits_0, zP_0, Option.bind_some, jX13_isHouse0 zmo_S (by omega), Option.bind_some, if_pos rfl, eX13_fits_50, zrefu (by omega), Option.bind_some]
theorem mX_fits_1 (E : zmd h t J B Wd) (ht : 94 ≤ t) (hd : 20 < d) (x y : Int32) (z1 : zmh (J 5) x = 0) : nzxI d nX13_fits [.ref 73, .int x, .int y] (zmS h F0 I W (some t) rd tp A) = some (-1, zmS h F0 (upd (upd (upd I 0 0) 1 1) 2 (-1)) W (some t) rd tp A) := by
  refine iX13_fits (by omega) zmS_o ?_
  rw [eX13_fits_0, zP_0, Option.bind_some, jX13_isHouse zmo_S (zmd_S E ht) (by omega), Option.bind_some, ← zmh, if_pos z1, eX13_fits_50, zrefu (by omega), Option.bind_some]
theorem mX_fits_2 (E : zmd h t J B Wd) (ht : 94 ≤ t) (hd : 20 < d) (x y : Int32) (z1 : ¬ zmh (J 5) x = 0) (z2 : zmh (J 3) y = 0) : nzxI d nX13_fits [.ref 73, .int x, .int y] (zmS h F0 I W (some t) rd tp A) = some (-1, zmS h F0 (upd (upd (upd I 0 0) 1 1) 2 (-1)) W (some t) rd tp A) := by
  refine iX13_fits (by omega) zmS_o ?_
  rw [eX13_fits_0, zP_0, Option.bind_some, jX13_isHouse zmo_S (zmd_S E ht) (by omega), Option.bind_some, ← zmh, if_neg z1, jX13_isDish zmo_S (zmd_S E ht) (by omega), Option.bind_some, ← zmh, if_pos z2, eX13_fits_50, zrefu (by omega), Option.bind_some]
theorem mX_breach_0 (hd : 20 < d) (x y : Int32)  : nzxI d nX13_breach [.ref 73, .int x, .int y] (zmS h F0 I W none rd tp A) = some (-1, zmS h F0 (upd (upd (upd I 0 0) 1 1) 2 (-1)) W none rd tp A) := by
  refine iX13_breach (by omega) zmS_o ?_
  rw [eX13_breach_0, zP_0, Option.bind_some, jX13_isHouse0 zmo_S (by omega), Option.bind_some, if_pos rfl, eX13_breach_42, zrefu (by omega), Option.bind_some]
theorem mX_breach_1 (E : zmd h t J B Wd) (ht : 94 ≤ t) (hd : 20 < d) (x y : Int32) (z1 : zmh (J 5) x = 0) : nzxI d nX13_breach [.ref 73, .int x, .int y] (zmS h F0 I W (some t) rd tp A) = some (-1, zmS h F0 (upd (upd (upd I 0 0) 1 1) 2 (-1)) W (some t) rd tp A) := by
  refine iX13_breach (by omega) zmS_o ?_
  rw [eX13_breach_0, zP_0, Option.bind_some, jX13_isHouse zmo_S (zmd_S E ht) (by omega), Option.bind_some, ← zmh, if_pos z1, eX13_breach_42, zrefu (by omega), Option.bind_some]
theorem mX_breach_2 (E : zmd h t J B Wd) (ht : 94 ≤ t) (hd : 20 < d) (x y : Int32) (z1 : ¬ zmh (J 5) x = 0) (z2 : zmh (J 3) y = 0) : nzxI d nX13_breach [.ref 73, .int x, .int y] (zmS h F0 I W (some t) rd tp A) = some (-1, zmS h F0 (upd (upd (upd I 0 0) 1 1) 2 (-1)) W (some t) rd tp A) := by
  refine iX13_breach (by omega) zmS_o ?_
  rw [eX13_breach_0, zP_0, Option.bind_some, jX13_isHouse zmo_S (zmd_S E ht) (by omega), Option.bind_some, ← zmh, if_neg z1, jX13_isDish zmo_S (zmd_S E ht) (by omega), Option.bind_some, ← zmh, if_pos z2, eX13_breach_42, zrefu (by omega), Option.bind_some]
theorem mX_breach_3 (E : zmd h t J B Wd) (ht : 94 ≤ t) {k q i : Nat} (hk : k < 6) (hq : q < 6) (hi : i < 4) (e19 : B 19 k = nI i) (hd : 20 < d) (z1 : ¬ zmh (J 5) (nI k) = 0) (z2 : ¬ zmh (J 3) (nI q) = 0) : nzxI d nX13_breach [.ref 73, .int (nI k), .int (nI q)] (zmS h F0 I W (some t) rd tp A) = some (B 13 q &&& B 15 i, zmS h F0 (upd (upd (upd I 0 0) 1 0) 2 (-1)) W (some t) rd tp A) := by
  refine iX13_breach (by omega) zmS_o ?_
  rw [eX13_breach_0, zP_0, Option.bind_some, jX13_isHouse zmo_S (zmd_S E ht) (by omega), Option.bind_some, ← zmh, if_neg z1, jX13_isDish zmo_S (zmd_S E ht) (by omega), Option.bind_some, ← zmh, if_neg z2, zmS_T, Option.bind_some, zdr E ht (k := 19) (by decide) (by decide), Option.bind_some, zda E ht (k := 19) (by decide) (by decide) (by decide) (by decide) (by decide) hk, Option.bind_some, e19, jX13_barred zmo_S (zmd_S E ht) (by omega) hi hq, Option.bind_some, zdone (by omega), Option.bind_some]
theorem mX_fits_3 (E : zmd h t J B Wd) (ht : 94 ≤ t) {k q i : Nat} (hk : k < 6) (hq : q < 6) (hi : i < 4) (e19 : B 19 k = nI i) (hd : 20 < d) (z1 : ¬ zmh (J 5) (nI k) = 0) (z2 : ¬ zmh (J 3) (nI q) = 0) (z3 : B 13 q &&& B 15 i = 0) : nzxI d nX13_fits [.ref 73, .int (nI k), .int (nI q)] (zmS h F0 I W (some t) rd tp A) = some (1, zmS h F0 (upd (upd (upd I 0 0) 1 0) 2 (-1)) W (some t) rd tp A) := by
  refine iX13_fits (by omega) zmS_o ?_
  rw [eX13_fits_0, zP_0, Option.bind_some, jX13_isHouse zmo_S (zmd_S E ht) (by omega), Option.bind_some, ← zmh, if_neg z1, jX13_isDish zmo_S (zmd_S E ht) (by omega), Option.bind_some, ← zmh, if_neg z2, zmS_T, Option.bind_some, zdr E ht (k := 19) (by decide) (by decide), Option.bind_some, zda E ht (k := 19) (by decide) (by decide) (by decide) (by decide) (by decide) hk, Option.bind_some, e19, jX13_barred zmo_S (zmd_S E ht) (by omega) hi hq, Option.bind_some, if_pos z3, eX13_fits_44, zdone (by omega), Option.bind_some]
theorem mX_fits_4 (E : zmd h t J B Wd) (ht : 94 ≤ t) {k q i : Nat} (hk : k < 6) (hq : q < 6) (hi : i < 4) (e19 : B 19 k = nI i) (hd : 20 < d) (z1 : ¬ zmh (J 5) (nI k) = 0) (z2 : ¬ zmh (J 3) (nI q) = 0) (z3 : ¬ B 13 q &&& B 15 i = 0) : nzxI d nX13_fits [.ref 73, .int (nI k), .int (nI q)] (zmS h F0 I W (some t) rd tp A) = some (0, zmS h F0 (upd (upd (upd I 0 0) 1 0) 2 (-1)) W (some t) rd tp A) := by
  refine iX13_fits (by omega) zmS_o ?_
  rw [eX13_fits_0, zP_0, Option.bind_some, jX13_isHouse zmo_S (zmd_S E ht) (by omega), Option.bind_some, ← zmh, if_neg z1, jX13_isDish zmo_S (zmd_S E ht) (by omega), Option.bind_some, ← zmh, if_neg z2, zmS_T, Option.bind_some, zdr E ht (k := 19) (by decide) (by decide), Option.bind_some, zda E ht (k := 19) (by decide) (by decide) (by decide) (by decide) (by decide) hk, Option.bind_some, e19, jX13_barred zmo_S (zmd_S E ht) (by omega) hi hq, Option.bind_some, if_neg z3, eX13_fits_44, zdone (by omega), Option.bind_some]
theorem mX_drive_4 (E : zmd h t J B Wd) (ht : 94 ≤ t) (M : zmrr A N R) {m : Nat} (hm : m ≤ 3) (em : J 6 = nI m) {k : Nat} (hk : k < 3) (hd : 20 < d) (y : Int32) (z1 : ¬ zmh (J 6) (nI k) = 0) (z2 : ¬ zmh (J 5) y = 0) (z3 : zcar N R y 0 m = -1) (z4 : A 17 k = B 28 k) : nzxI d nX13_drive [.ref 73, .int (nI k), .int y] (zmS h F0 I W (some t) rd tp A) = some (-1, zmS h F0 (upd (upd (upd I 0 0) 1 3) 2 (-1)) W (some t) rd tp A) := by
  refine iX13_drive (by omega) zmS_o ?_
  rw [eX13_drive_0, zP_0, Option.bind_some, jX13_isCar zmo_S (zmd_S E ht) (by omega), Option.bind_some, ← zmh, if_neg z1, jX13_isHouse zmo_S (zmd_S E ht) (by omega), Option.bind_some, ← zmh, if_neg z2, jX13_carOf zmo_S (zmd_S E ht) M hm em (by omega), Option.bind_some, if_pos z3, zR_17, Option.bind_some, zA_17 hk, Option.bind_some, zmS_T, Option.bind_some, zdr E ht (k := 28) (by decide) (by decide), Option.bind_some, zda E ht (k := 28) (by decide) (by decide) (by decide) (by decide) (by decide) hk, Option.bind_some, if_pos z4, zrefu (by omega), Option.bind_some]
theorem mX_tea_0 (hd : 20 < d) (x : Int32)  : nzxI d nX13_tea [.ref 73, .int x] (zmS h F0 I W none rd tp A) = some (0, zmS h F0 (upd (upd (upd I 0 0) 1 1) 2 (-1)) W none rd tp A) := by
  refine iX13_tea (by omega) zmS_o ?_
  rw [eX13_tea_0, zP_0, Option.bind_some, zmS_N0, Option.bind_some, if_pos rfl, eX13_tea_29, zmS_N0, Option.bind_some, if_pos rfl, eX13_tea_42, zrefu (by omega), Option.bind_some]
theorem mX_tea_1 (E : zmd h t J B Wd) (ht : 94 ≤ t) (hd : 20 < d) (x : Int32) (z1 : x < 0) : nzxI d nX13_tea [.ref 73, .int x] (zmS h F0 I W (some t) rd tp A) = some (0, zmS h F0 (upd (upd (upd I 0 0) 1 2) 2 (-1)) W (some t) rd tp A) := by
  refine iX13_tea (by omega) zmS_o ?_
  rw [eX13_tea_0, zP_0, Option.bind_some, zmS_N, Option.bind_some, if_neg (show ¬ some t = none from fun z => by cases z), if_pos z1, eX13_tea_29, zmS_N, Option.bind_some, if_neg (show ¬ some t = none from fun z => by cases z), eX13_tea_42, zrefu (by omega), Option.bind_some]
theorem mX_tea_2 (E : zmd h t J B Wd) (ht : 94 ≤ t) (hd : 20 < d) (x : Int32) (z1 : ¬ x < 0) (z2 : ¬ x < (1 <<< (J 5 &&& 31))) : nzxI d nX13_tea [.ref 73, .int x] (zmS h F0 I W (some t) rd tp A) = some (0, zmS h F0 (upd (upd (upd I 0 0) 1 2) 2 (-1)) W (some t) rd tp A) := by
  refine iX13_tea (by omega) zmS_o ?_
  rw [eX13_tea_0, zP_0, Option.bind_some, zmS_N, Option.bind_some, if_neg (show ¬ some t = none from fun z => by cases z), if_neg z1, zmS_T, Option.bind_some, zj E ht (k := 5) (by decide), Option.bind_some, if_neg z2, eX13_tea_29, zmS_N, Option.bind_some, if_neg (show ¬ some t = none from fun z => by cases z), eX13_tea_42, zrefu (by omega), Option.bind_some]
theorem mX_tea_3 (E : zmd h t J B Wd) (ht : 94 ≤ t) (hd : 20 < d) (x : Int32) (z1 : ¬ x < 0) (z2 : x < (1 <<< (J 5 &&& 31))) : nzxI d nX13_tea [.ref 73, .int x] (zmS h F0 I W (some t) rd tp A) = some (1, zmS h F0 (upd (upd (upd (upd I 0 0) 19 x) 1 0) 2 (-1)) W (some t) rd tp A) := by
  refine iX13_tea (by omega) zmS_o ?_
  rw [eX13_tea_0, zP_0, Option.bind_some, zmS_N, Option.bind_some, if_neg (show ¬ some t = none from fun z => by cases z), if_neg z1, zmS_T, Option.bind_some, zj E ht (k := 5) (by decide), Option.bind_some, if_pos z2, zP_19, Option.bind_some, zdone (by omega), Option.bind_some]
theorem mX_sign_0 (hd : 20 < d) (x y : Int32)  : nzxI d nX13_sign [.ref 73, .int x, .int y] (zmS h F0 I W none rd tp A) = some (-1, zmS h F0 (upd (upd (upd I 0 0) 1 1) 2 (-1)) W none rd tp A) := by
  refine iX13_sign (by omega) zmS_o ?_
  rw [eX13_sign_0, zP_0, Option.bind_some, jX13_isHouse0 zmo_S (by omega), Option.bind_some, if_pos rfl, zrefu (by omega), Option.bind_some]
theorem mX_sign_1 (E : zmd h t J B Wd) (ht : 94 ≤ t) (hd : 20 < d) (x y : Int32) (z1 : zmh (J 5) x = 0) : nzxI d nX13_sign [.ref 73, .int x, .int y] (zmS h F0 I W (some t) rd tp A) = some (-1, zmS h F0 (upd (upd (upd I 0 0) 1 1) 2 (-1)) W (some t) rd tp A) := by
  refine iX13_sign (by omega) zmS_o ?_
  rw [eX13_sign_0, zP_0, Option.bind_some, jX13_isHouse zmo_S (zmd_S E ht) (by omega), Option.bind_some, ← zmh, if_pos z1, zrefu (by omega), Option.bind_some]
theorem mX_sign_2 (E : zmd h t J B Wd) (ht : 94 ≤ t) (hd : 20 < d) (x y : Int32) (z1 : ¬ zmh (J 5) x = 0) (z2 : zwn y 0 99 = 0) : nzxI d nX13_sign [.ref 73, .int x, .int y] (zmS h F0 I W (some t) rd tp A) = some (-1, zmS h F0 (upd (upd (upd I 0 0) 1 2) 2 (-1)) W (some t) rd tp A) := by
  refine iX13_sign (by omega) zmS_o ?_
  rw [eX13_sign_0, zP_0, Option.bind_some, jX13_isHouse zmo_S (zmd_S E ht) (by omega), Option.bind_some, ← zmh, if_neg z1, jX13_in (by omega), Option.bind_some, ← zwn, if_pos z2, zrefu (by omega), Option.bind_some]
theorem mX_sign_3 (E : zmd h t J B Wd) (ht : 94 ≤ t) {k : Nat} (hk : k < 6) (hd : 20 < d) (y : Int32) (z1 : ¬ zmh (J 5) (nI k) = 0) (z2 : ¬ zwn y 0 99 = 0) (z3 : A 40 k = 10) : nzxI d nX13_sign [.ref 73, .int (nI k), .int y] (zmS h F0 I W (some t) rd tp A) = some (-1, zmS h F0 (upd (upd (upd I 0 0) 1 3) 2 (-1)) W (some t) rd tp A) := by
  refine iX13_sign (by omega) zmS_o ?_
  rw [eX13_sign_0, zP_0, Option.bind_some, jX13_isHouse zmo_S (zmd_S E ht) (by omega), Option.bind_some, ← zmh, if_neg z1, jX13_in (by omega), Option.bind_some, ← zwn, if_neg z2, zR_40, Option.bind_some, zA_40 hk, Option.bind_some, if_pos z3, zrefu (by omega), Option.bind_some]
theorem mX_probe_0 (hd : 20 < d) (x y w : Int32)  : nzxI d nX13_probe [.ref 73, .int x, .int y, .int w] (zmS h F0 I W none rd tp A) = some (-1, zmS h F0 (upd (upd (upd I 0 0) 1 1) 2 (-1)) W none rd tp A) := by
  refine iX13_probe (by omega) zmS_o ?_
  rw [eX13_probe_0, zP_0, Option.bind_some, jX13_isCar0 zmo_S (by omega), Option.bind_some, if_pos rfl, zrefu (by omega), Option.bind_some]
theorem mX_probe_1 (E : zmd h t J B Wd) (ht : 94 ≤ t) (hd : 20 < d) (x y w : Int32) (z1 : zmh (J 6) x = 0) : nzxI d nX13_probe [.ref 73, .int x, .int y, .int w] (zmS h F0 I W (some t) rd tp A) = some (-1, zmS h F0 (upd (upd (upd I 0 0) 1 1) 2 (-1)) W (some t) rd tp A) := by
  refine iX13_probe (by omega) zmS_o ?_
  rw [eX13_probe_0, zP_0, Option.bind_some, jX13_isCar zmo_S (zmd_S E ht) (by omega), Option.bind_some, ← zmh, if_pos z1, zrefu (by omega), Option.bind_some]
theorem mX_probe_2 (E : zmd h t J B Wd) (ht : 94 ≤ t) {k : Nat} (hk : k < 3) (hd : 20 < d) (y w : Int32) (z1 : ¬ zmh (J 6) (nI k) = 0) (z2 : zwn y (B 27 k) 999 = 0) : nzxI d nX13_probe [.ref 73, .int (nI k), .int y, .int w] (zmS h F0 I W (some t) rd tp A) = some (-1, zmS h F0 (upd (upd (upd I 0 0) 1 2) 2 (-1)) W (some t) rd tp A) := by
  refine iX13_probe (by omega) zmS_o ?_
  rw [eX13_probe_0, zP_0, Option.bind_some, jX13_isCar zmo_S (zmd_S E ht) (by omega), Option.bind_some, ← zmh, if_neg z1, zmS_T, Option.bind_some, zdr E ht (k := 27) (by decide) (by decide), Option.bind_some, zda E ht (k := 27) (by decide) (by decide) (by decide) (by decide) (by decide) hk, Option.bind_some, jX13_in (by omega), Option.bind_some, ← zwn, if_pos z2, eX13_probe_48, zrefu (by omega), Option.bind_some]
theorem mX_probe_3 (E : zmd h t J B Wd) (ht : 94 ≤ t) {k : Nat} (hk : k < 3) (hd : 20 < d) (y w : Int32) (z1 : ¬ zmh (J 6) (nI k) = 0) (z2 : ¬ zwn y (B 27 k) 999 = 0) (z3 : zwn w 0 99 = 0) : nzxI d nX13_probe [.ref 73, .int (nI k), .int y, .int w] (zmS h F0 I W (some t) rd tp A) = some (-1, zmS h F0 (upd (upd (upd I 0 0) 1 2) 2 (-1)) W (some t) rd tp A) := by
  refine iX13_probe (by omega) zmS_o ?_
  rw [eX13_probe_0, zP_0, Option.bind_some, jX13_isCar zmo_S (zmd_S E ht) (by omega), Option.bind_some, ← zmh, if_neg z1, zmS_T, Option.bind_some, zdr E ht (k := 27) (by decide) (by decide), Option.bind_some, zda E ht (k := 27) (by decide) (by decide) (by decide) (by decide) (by decide) hk, Option.bind_some, jX13_in (by omega), Option.bind_some, ← zwn, if_neg z2, jX13_in (by omega), Option.bind_some, ← zwn, if_pos z3, eX13_probe_48, zrefu (by omega), Option.bind_some]
theorem mX_probe_4 (E : zmd h t J B Wd) (ht : 94 ≤ t) {k : Nat} (hk : k < 3) (hd : 20 < d) (y w : Int32) (z1 : ¬ zmh (J 6) (nI k) = 0) (z2 : ¬ zwn y (B 27 k) 999 = 0) (z3 : ¬ zwn w 0 99 = 0) (z4 : I 42 = 16) : nzxI d nX13_probe [.ref 73, .int (nI k), .int y, .int w] (zmS h F0 I W (some t) rd tp A) = some (-1, zmS h F0 (upd (upd (upd I 0 0) 1 3) 2 (-1)) W (some t) rd tp A) := by
  refine iX13_probe (by omega) zmS_o ?_
  rw [eX13_probe_0, zP_0, Option.bind_some, jX13_isCar zmo_S (zmd_S E ht) (by omega), Option.bind_some, ← zmh, if_neg z1, zmS_T, Option.bind_some, zdr E ht (k := 27) (by decide) (by decide), Option.bind_some, zda E ht (k := 27) (by decide) (by decide) (by decide) (by decide) (by decide) hk, Option.bind_some, jX13_in (by omega), Option.bind_some, ← zwn, if_neg z2, jX13_in (by omega), Option.bind_some, ← zwn, if_neg z3, zI_42, Option.bind_some, upd_ne (show 42 ≠ 0 by decide), if_pos z4, zrefu (by omega), Option.bind_some]
theorem mX_forAll_0 (hd : 20 < d)  : nzxI d nX13_forAll [.ref 73] (zmS h F0 I W none rd tp A) = some (-1, zmS h F0 (upd (upd (upd I 0 0) 1 1) 2 (-1)) W none rd tp A) := by
  refine iX13_forAll (by omega) zmS_o ?_
  rw [eX13_forAll_0, zP_0, Option.bind_some, zmS_N0, Option.bind_some, if_pos rfl, zrefu (by omega), Option.bind_some]
theorem mX_firstCold_0 (hd : 20 < d)  : nzxI d nX13_firstCold [.ref 73] (zmS h F0 I W none rd tp A) = some (-1, zmS h F0 (upd (upd (upd I 0 0) 1 1) 2 (-1)) W none rd tp A) := by
  refine iX13_firstCold (by omega) zmS_o ?_
  rw [eX13_firstCold_0, zP_0, Option.bind_some, zmS_N0, Option.bind_some, if_pos rfl, zrefu (by omega), Option.bind_some]
theorem mX_fill_0 (hd : 20 < d)  : nzxI d nX13_fill [.ref 73] (zmS h F0 I W none rd tp A) = some (-1, zmS h F0 (upd (upd (upd I 0 0) 1 1) 2 (-1)) W none rd tp A) := by
  refine iX13_fill (by omega) zmS_o ?_
  rw [eX13_fill_0, zP_0, Option.bind_some, zmS_N0, Option.bind_some, if_pos rfl, zrefu (by omega), Option.bind_some]
theorem mX_dropped_0 (hd : 20 < d) (x y : Int32)  : nzxI d nX13_dropped [.ref 73, .int x, .int y] (zmS h F0 I W none rd tp A) = some (-1, zmS h F0 (upd (upd (upd I 0 0) 1 1) 2 (-1)) W none rd tp A) := by
  refine iX13_dropped (by omega) zmS_o ?_
  rw [eX13_dropped_0, zP_0, Option.bind_some, zmS_N0, Option.bind_some, if_pos rfl, zrefu (by omega), Option.bind_some]
theorem mX_dropped_1 (E : zmd h t J B Wd) (ht : 94 ≤ t) (hd : 20 < d) (x y : Int32) (z1 : zwn y 1 14 = 0) : nzxI d nX13_dropped [.ref 73, .int x, .int y] (zmS h F0 I W (some t) rd tp A) = some (-1, zmS h F0 (upd (upd (upd I 0 0) 1 2) 2 (-1)) W (some t) rd tp A) := by
  refine iX13_dropped (by omega) zmS_o ?_
  rw [eX13_dropped_0, zP_0, Option.bind_some, zmS_N, Option.bind_some, if_neg (show ¬ some t = none from fun z => by cases z), jX13_in (by omega), Option.bind_some, ← zwn, if_pos z1, eX13_dropped_39, zrefu (by omega), Option.bind_some]
theorem mX_dropped_2 (E : zmd h t J B Wd) (ht : 94 ≤ t) (hd : 20 < d) (x y : Int32) (z1 : ¬ zwn y 1 14 = 0) (z2 : zwn x 0 99999 = 0) : nzxI d nX13_dropped [.ref 73, .int x, .int y] (zmS h F0 I W (some t) rd tp A) = some (-1, zmS h F0 (upd (upd (upd I 0 0) 1 2) 2 (-1)) W (some t) rd tp A) := by
  refine iX13_dropped (by omega) zmS_o ?_
  rw [eX13_dropped_0, zP_0, Option.bind_some, zmS_N, Option.bind_some, if_neg (show ¬ some t = none from fun z => by cases z), jX13_in (by omega), Option.bind_some, ← zwn, if_neg z1, jX13_in (by omega), Option.bind_some, ← zwn, if_pos z2, eX13_dropped_39, zrefu (by omega), Option.bind_some]
theorem mX_knock_0 (hd : 20 < d)  : nzxL d nX13_knock [.ref 73] (zmS h F0 I W none rd tp A) = some ((-1 : Int32).toInt64, zmS h F0 (upd (upd (upd I 0 0) 1 1) 2 (-1)) W none rd tp A) := by
  refine iX13_knock (by omega) zmS_o ?_
  rw [eX13_knock_0, zP_0, Option.bind_some, zmS_N0, Option.bind_some, if_pos rfl, zrefu (by omega), Option.bind_some]
theorem mX_knock_1 (E : zmd h t J B Wd) (ht : 94 ≤ t) (hd : 20 < d) (z1 : J 8 = 0) : nzxL d nX13_knock [.ref 73] (zmS h F0 I W (some t) rd tp A) = some ((-1 : Int32).toInt64, zmS h F0 (upd (upd (upd I 0 0) 1 6) 2 (-1)) W (some t) rd tp A) := by
  refine iX13_knock (by omega) zmS_o ?_
  rw [eX13_knock_0, zP_0, Option.bind_some, zmS_N, Option.bind_some, if_neg (show ¬ some t = none from fun z => by cases z), zmS_T, Option.bind_some, zj E ht (k := 8) (by decide), Option.bind_some, if_pos z1, zrefu (by omega), Option.bind_some]
theorem mX_asTold_0 (hd : 20 < d)  : nzxL d nX13_asTold [.ref 73] (zmS h F0 I W none rd tp A) = some ((-1 : Int32).toInt64, zmS h F0 (upd (upd (upd I 0 0) 1 1) 2 (-1)) W none rd tp A) := by
  refine iX13_asTold (by omega) zmS_o ?_
  rw [eX13_asTold_0, zP_0, Option.bind_some, zmS_N0, Option.bind_some, if_pos rfl, zrefu (by omega), Option.bind_some]
theorem mX_asTold_1 (E : zmd h t J B Wd) (ht : 94 ≤ t) (hd : 20 < d) (z1 : J 8 = 0) : nzxL d nX13_asTold [.ref 73] (zmS h F0 I W (some t) rd tp A) = some ((-1 : Int32).toInt64, zmS h F0 (upd (upd (upd I 0 0) 1 6) 2 (-1)) W (some t) rd tp A) := by
  refine iX13_asTold (by omega) zmS_o ?_
  rw [eX13_asTold_0, zP_0, Option.bind_some, zmS_N, Option.bind_some, if_neg (show ¬ some t = none from fun z => by cases z), zmS_T, Option.bind_some, zj E ht (k := 8) (by decide), Option.bind_some, if_pos z1, zrefu (by omega), Option.bind_some]
theorem mX_odds_0 (hd : 20 < d) (x : Int32)  : nzxL d nX13_odds [.ref 73, .int x] (zmS h F0 I W none rd tp A) = some ((-1 : Int32).toInt64, zmS h F0 (upd (upd (upd I 0 0) 1 1) 2 (-1)) W none rd tp A) := by
  refine iX13_odds (by omega) zmS_o ?_
  rw [eX13_odds_0, zP_0, Option.bind_some, jX13_isCar0 zmo_S (by omega), Option.bind_some, if_pos rfl, zrefu (by omega), Option.bind_some]
theorem mX_odds_1 (E : zmd h t J B Wd) (ht : 94 ≤ t) (hd : 20 < d) (x : Int32) (z1 : zmh (J 6) x = 0) : nzxL d nX13_odds [.ref 73, .int x] (zmS h F0 I W (some t) rd tp A) = some ((-1 : Int32).toInt64, zmS h F0 (upd (upd (upd I 0 0) 1 1) 2 (-1)) W (some t) rd tp A) := by
  refine iX13_odds (by omega) zmS_o ?_
  rw [eX13_odds_0, zP_0, Option.bind_some, jX13_isCar zmo_S (zmd_S E ht) (by omega), Option.bind_some, ← zmh, if_pos z1, zrefu (by omega), Option.bind_some]
theorem mX_fading_0 (hd : 20 < d) (x : Int32)  : nzxI d nX13_fading [.ref 73, .int x] (zmS h F0 I W none rd tp A) = some (-1, zmS h F0 (upd (upd (upd I 0 0) 1 1) 2 (-1)) W none rd tp A) := by
  refine iX13_fading (by omega) zmS_o ?_
  rw [eX13_fading_0, zP_0, Option.bind_some, jX13_isHouse0 zmo_S (by omega), Option.bind_some, if_pos rfl, zrefu (by omega), Option.bind_some]
theorem mX_fading_1 (E : zmd h t J B Wd) (ht : 94 ≤ t) (hd : 20 < d) (x : Int32) (z1 : zmh (J 5) x = 0) : nzxI d nX13_fading [.ref 73, .int x] (zmS h F0 I W (some t) rd tp A) = some (-1, zmS h F0 (upd (upd (upd I 0 0) 1 1) 2 (-1)) W (some t) rd tp A) := by
  refine iX13_fading (by omega) zmS_o ?_
  rw [eX13_fading_0, zP_0, Option.bind_some, jX13_isHouse zmo_S (zmd_S E ht) (by omega), Option.bind_some, ← zmh, if_pos z1, zrefu (by omega), Option.bind_some]
theorem mX_fading_2 (E : zmd h t J B Wd) (ht : 94 ≤ t) {k : Nat} (hk : k < 6) (hd : 20 < d) (z1 : ¬ zmh (J 5) (nI k) = 0) (z2 : ¬ 4 ≤ A 40 k) : nzxI d nX13_fading [.ref 73, .int (nI k)] (zmS h F0 I W (some t) rd tp A) = some (-1, zmS h F0 (upd (upd (upd I 0 0) 1 5) 2 (-1)) W (some t) rd tp A) := by
  refine iX13_fading (by omega) zmS_o ?_
  rw [eX13_fading_0, zP_0, Option.bind_some, jX13_isHouse zmo_S (zmd_S E ht) (by omega), Option.bind_some, ← zmh, if_neg z1, zR_40, Option.bind_some, zA_40 hk, Option.bind_some, if_neg z2, zrefu (by omega), Option.bind_some]
theorem mX_faulty_0 (hd : 20 < d) (x : Int32)  : nzxI d nX13_faulty [.ref 73, .int x] (zmS h F0 I W none rd tp A) = some (-1, zmS h F0 (upd (upd (upd I 0 0) 1 1) 2 (-1)) W none rd tp A) := by
  refine iX13_faulty (by omega) zmS_o ?_
  rw [eX13_faulty_0, zP_0, Option.bind_some, zmS_N0, Option.bind_some, if_pos rfl, zrefu (by omega), Option.bind_some]
theorem mX_faulty_1 (E : zmd h t J B Wd) (ht : 94 ≤ t) (hd : 20 < d) (x : Int32) (z1 : zwn x 0 99 = 0) : nzxI d nX13_faulty [.ref 73, .int x] (zmS h F0 I W (some t) rd tp A) = some (-1, zmS h F0 (upd (upd (upd I 0 0) 1 2) 2 (-1)) W (some t) rd tp A) := by
  refine iX13_faulty (by omega) zmS_o ?_
  rw [eX13_faulty_0, zP_0, Option.bind_some, zmS_N, Option.bind_some, if_neg (show ¬ some t = none from fun z => by cases z), jX13_in (by omega), Option.bind_some, ← zwn, if_pos z1, zrefu (by omega), Option.bind_some]
theorem mX_bad_0 (hd : 20 < d) (x : Int32)  : nzxI d nX13_bad [.ref 73, .int x] (zmS h F0 I W none rd tp A) = some (-1, zmS h F0 (upd (upd (upd I 0 0) 1 1) 2 (-1)) W none rd tp A) := by
  refine iX13_bad (by omega) zmS_o ?_
  rw [eX13_bad_0, zP_0, Option.bind_some, jX13_isCar0 zmo_S (by omega), Option.bind_some, if_pos rfl, zrefu (by omega), Option.bind_some]
theorem mX_bad_1 (E : zmd h t J B Wd) (ht : 94 ≤ t) (hd : 20 < d) (x : Int32) (z1 : zmh (J 6) x = 0) : nzxI d nX13_bad [.ref 73, .int x] (zmS h F0 I W (some t) rd tp A) = some (-1, zmS h F0 (upd (upd (upd I 0 0) 1 1) 2 (-1)) W (some t) rd tp A) := by
  refine iX13_bad (by omega) zmS_o ?_
  rw [eX13_bad_0, zP_0, Option.bind_some, jX13_isCar zmo_S (zmd_S E ht) (by omega), Option.bind_some, ← zmh, if_pos z1, zrefu (by omega), Option.bind_some]
theorem mX_recall_0 (hd : 20 < d) (x : Int32)  : nzxI d nX13_recall [.ref 73, .int x] (zmS h F0 I W none rd tp A) = some (-1, zmS h F0 (upd (upd (upd I 0 0) 1 1) 2 (-1)) W none rd tp A) := by
  refine iX13_recall (by omega) zmS_o ?_
  rw [eX13_recall_0, zP_0, Option.bind_some, zmS_N0, Option.bind_some, if_pos rfl, eX13_recall_27, zrefu (by omega), Option.bind_some]
theorem mX_recall_1 (E : zmd h t J B Wd) (ht : 94 ≤ t) (hd : 20 < d) (x : Int32) (z1 : x < 0) : nzxI d nX13_recall [.ref 73, .int x] (zmS h F0 I W (some t) rd tp A) = some (-1, zmS h F0 (upd (upd (upd I 0 0) 1 1) 2 (-1)) W (some t) rd tp A) := by
  refine iX13_recall (by omega) zmS_o ?_
  rw [eX13_recall_0, zP_0, Option.bind_some, zmS_N, Option.bind_some, if_neg (show ¬ some t = none from fun z => by cases z), if_pos z1, eX13_recall_27, zrefu (by omega), Option.bind_some]
theorem mX_recall_2 (E : zmd h t J B Wd) (ht : 94 ≤ t) (hd : 20 < d) (x : Int32) (z1 : ¬ x < 0) (z2 : ¬ x < J 2) : nzxI d nX13_recall [.ref 73, .int x] (zmS h F0 I W (some t) rd tp A) = some (-1, zmS h F0 (upd (upd (upd I 0 0) 1 1) 2 (-1)) W (some t) rd tp A) := by
  refine iX13_recall (by omega) zmS_o ?_
  rw [eX13_recall_0, zP_0, Option.bind_some, zmS_N, Option.bind_some, if_neg (show ¬ some t = none from fun z => by cases z), if_neg z1, zmS_T, Option.bind_some, zj E ht (k := 2) (by decide), Option.bind_some, if_neg z2, eX13_recall_27, zrefu (by omega), Option.bind_some]
theorem mX_menu_0 (hd : 20 < d) (x y : Int32)  : nzxI d nX13_menu [.ref 73, .int x, .int y] (zmS h F0 I W none rd tp A) = some (-1, zmS h F0 (upd (upd (upd I 0 0) 1 1) 2 (-1)) W none rd tp A) := by
  refine iX13_menu (by omega) zmS_o ?_
  rw [eX13_menu_0, zP_0, Option.bind_some, zmS_N0, Option.bind_some, if_pos rfl, eX13_menu_27, zrefu (by omega), Option.bind_some]
theorem mX_menu_1 (E : zmd h t J B Wd) (ht : 94 ≤ t) (hd : 20 < d) (x y : Int32) (z1 : x < 0) : nzxI d nX13_menu [.ref 73, .int x, .int y] (zmS h F0 I W (some t) rd tp A) = some (-1, zmS h F0 (upd (upd (upd I 0 0) 1 1) 2 (-1)) W (some t) rd tp A) := by
  refine iX13_menu (by omega) zmS_o ?_
  rw [eX13_menu_0, zP_0, Option.bind_some, zmS_N, Option.bind_some, if_neg (show ¬ some t = none from fun z => by cases z), if_pos z1, eX13_menu_27, zrefu (by omega), Option.bind_some]
theorem mX_menu_2 (E : zmd h t J B Wd) (ht : 94 ≤ t) (hd : 20 < d) (x y : Int32) (z1 : ¬ x < 0) (z2 : ¬ x < J 4) : nzxI d nX13_menu [.ref 73, .int x, .int y] (zmS h F0 I W (some t) rd tp A) = some (-1, zmS h F0 (upd (upd (upd I 0 0) 1 1) 2 (-1)) W (some t) rd tp A) := by
  refine iX13_menu (by omega) zmS_o ?_
  rw [eX13_menu_0, zP_0, Option.bind_some, zmS_N, Option.bind_some, if_neg (show ¬ some t = none from fun z => by cases z), if_neg z1, zmS_T, Option.bind_some, zj E ht (k := 4) (by decide), Option.bind_some, if_neg z2, eX13_menu_27, zrefu (by omega), Option.bind_some]
theorem mX_menu_3 (E : zmd h t J B Wd) (ht : 94 ≤ t) (hd : 20 < d) (x y : Int32) (z1 : ¬ x < 0) (z2 : x < J 4) (z3 : zwn y 1 14 = 0) : nzxI d nX13_menu [.ref 73, .int x, .int y] (zmS h F0 I W (some t) rd tp A) = some (-1, zmS h F0 (upd (upd (upd I 0 0) 1 2) 2 (-1)) W (some t) rd tp A) := by
  refine iX13_menu (by omega) zmS_o ?_
  rw [eX13_menu_0, zP_0, Option.bind_some, zmS_N, Option.bind_some, if_neg (show ¬ some t = none from fun z => by cases z), if_neg z1, zmS_T, Option.bind_some, zj E ht (k := 4) (by decide), Option.bind_some, if_pos z2, jX13_in (by omega), Option.bind_some, ← zwn, if_pos z3, zrefu (by omega), Option.bind_some]
theorem mX_trouble_0 (E : zmd h t J B Wd) (ht : 94 ≤ t) (hd : 20 < d)  : nzxI d nX13_trouble [.ref 73] (zmS h F0 I W (some t) rd tp A) = some (I 1, zmS h F0 (upd I 0 0) W (some t) rd tp A) := by
  refine iX13_trouble (by omega) zmS_o ?_
  rw [eX13_trouble_0, zP_0, Option.bind_some, zI_1, Option.bind_some, upd_ne (show 1 ≠ 0 by decide)]
theorem mX_fault_0 (E : zmd h t J B Wd) (ht : 94 ≤ t) (hd : 20 < d)  : nzxI d nX13_fault [.ref 73] (zmS h F0 I W (some t) rd tp A) = some (I 13, zmS h F0 (upd I 0 0) W (some t) rd tp A) := by
  refine iX13_fault (by omega) zmS_o ?_
  rw [eX13_fault_0, zP_0, Option.bind_some, zI_13, Option.bind_some, upd_ne (show 13 ≠ 0 by decide)]
theorem mX_where_0 (E : zmd h t J B Wd) (ht : 94 ≤ t) (hd : 20 < d)  : nzxI d nX13_where [.ref 73] (zmS h F0 I W (some t) rd tp A) = some (I 2, zmS h F0 (upd I 0 0) W (some t) rd tp A) := by
  refine iX13_where (by omega) zmS_o ?_
  rw [eX13_where_0, zP_0, Option.bind_some, zI_2, Option.bind_some, upd_ne (show 2 ≠ 0 by decide)]
end NZML
