/-! the reference's calls, one theorem a leaf -/
def zmh (b x : Int32) : Int32 := if x < 0 then 0 else if b ≤ x then 0 else 1
section NZML
variable {d t : Nat} {h : nzH} {F0 : Nat → Value} {I : Nat → Int32} {W : Int64} {rd : Option Nat} {tp : Nat → Int32} {A : Nat → Nat → Int32} {J : Nat → Int32} {B : Nat → Nat → Int32} {Wd : Nat → Int64} {N : Nat → Nat} {R : Nat → Nat → Nat}
theorem mX_drive_0 (hd : 20 < d) (x y : Int32)  : nzxI d nX13_drive [.ref 73, .int x, .int y] (zmS h F0 I W none rd tp A) = some (-1, zmS h F0 (upd (upd (upd I 0 0) 1 1) 2 (-1)) W none rd tp A) := by
  refine iX13_drive (by omega) zmS_o ?_
  rw [eX13_drive_0, zP_0, Option.bind_some, jX13_isCar0 zmo_S (by omega), Option.bind_some, if_pos rfl, eX13_drive_21, zrefu (by omega), Option.bind_some]
theorem mX_drive_1 (E : zmd h t J B Wd) (ht : 94 ≤ t) (hd : 20 < d) (x y : Int32) (z1 : zmh (J 6) x = 0) : nzxI d nX13_drive [.ref 73, .int x, .int y] (zmS h F0 I W (some t) rd tp A) = some (-1, zmS h F0 (upd (upd (upd I 0 0) 1 1) 2 (-1)) W (some t) rd tp A) := by
  refine iX13_drive (by omega) zmS_o ?_
  rw [eX13_drive_0, zP_0, Option.bind_some, jX13_isCar zmo_S (zmd_S E ht) (by omega), Option.bind_some, ← zmh, if_pos z1, eX13_drive_21, zrefu (by omega), Option.bind_some]
theorem mX_drive_2 (E : zmd h t J B Wd) (ht : 94 ≤ t) (hd : 20 < d) (x y : Int32) (z1 : ¬ zmh (J 6) x = 0) (z2 : zmh (J 5) y = 0) : nzxI d nX13_drive [.ref 73, .int x, .int y] (zmS h F0 I W (some t) rd tp A) = some (-1, zmS h F0 (upd (upd (upd I 0 0) 1 1) 2 (-1)) W (some t) rd tp A) := by
  refine iX13_drive (by omega) zmS_o ?_
  rw [eX13_drive_0, zP_0, Option.bind_some, jX13_isCar zmo_S (zmd_S E ht) (by omega), Option.bind_some, ← zmh, if_neg z1, jX13_isHouse zmo_S (zmd_S E ht) (by omega), Option.bind_some, ← zmh, if_pos z2, eX13_drive_21, zrefu (by omega), Option.bind_some]
theorem mX_drive_3 (E : zmd h t J B Wd) (ht : 94 ≤ t) (M : zmrr A N R) {m : Nat} (hm : m ≤ 3) (em : J 6 = nI m) (hd : 20 < d) (x y : Int32) (z1 : ¬ zmh (J 6) x = 0) (z2 : ¬ zmh (J 5) y = 0) (z3 : ¬ zcar N R y 0 m = -1) : nzxI d nX13_drive [.ref 73, .int x, .int y] (zmS h F0 I W (some t) rd tp A) = some (-1, zmS h F0 (upd (upd (upd I 0 0) 1 5) 2 (-1)) W (some t) rd tp A) := by
  refine iX13_drive (by omega) zmS_o ?_
  rw [eX13_drive_0, zP_0, Option.bind_some, jX13_isCar zmo_S (zmd_S E ht) (by omega), Option.bind_some, ← zmh, if_neg z1, jX13_isHouse zmo_S (zmd_S E ht) (by omega), Option.bind_some, ← zmh, if_neg z2, jX13_carOf zmo_S (zmd_S E ht) M hm em (by omega), Option.bind_some, if_neg z3, zrefu (by omega), Option.bind_some]
theorem mX_unload_0 (hd : 20 < d) (x : Int32)  : nzxI d nX13_unload [.ref 73, .int x] (zmS h F0 I W none rd tp A) = some (-1, zmS h F0 (upd (upd (upd I 0 0) 1 1) 2 (-1)) W none rd tp A) := by
  refine iX13_unload (by omega) zmS_o ?_
  rw [eX13_unload_0, zP_0, Option.bind_some, jX13_isCar0 zmo_S (by omega), Option.bind_some, if_pos rfl, zrefu (by omega), Option.bind_some]
theorem mX_unload_1 (E : zmd h t J B Wd) (ht : 94 ≤ t) (hd : 20 < d) (x : Int32) (z1 : zmh (J 6) x = 0) : nzxI d nX13_unload [.ref 73, .int x] (zmS h F0 I W (some t) rd tp A) = some (-1, zmS h F0 (upd (upd (upd I 0 0) 1 1) 2 (-1)) W (some t) rd tp A) := by
  refine iX13_unload (by omega) zmS_o ?_
  rw [eX13_unload_0, zP_0, Option.bind_some, jX13_isCar zmo_S (zmd_S E ht) (by omega), Option.bind_some, ← zmh, if_pos z1, zrefu (by omega), Option.bind_some]
theorem mX_unload_2 (E : zmd h t J B Wd) (ht : 94 ≤ t) {k : Nat} (hk : k < 3) (hd : 20 < d) (z1 : ¬ zmh (J 6) (nI k) = 0) : nzxI d nX13_unload [.ref 73, .int (nI k)] (zmS h F0 I W (some t) rd tp A) = some (A 17 k, zmS h F0 (upd (upd (upd I 0 0) 1 0) 2 (-1)) W (some t) rd tp (va_up A 17 (upd (A 17) k 0))) := by
  refine iX13_unload (by omega) zmS_o ?_
  rw [eX13_unload_0, zP_0, Option.bind_some, jX13_isCar zmo_S (zmd_S E ht) (by omega), Option.bind_some, ← zmh, if_neg z1, zR_17, Option.bind_some, zA_17 hk, Option.bind_some, Option.bind_some, zW_17 hk, Option.bind_some, zdone (by omega), Option.bind_some]
theorem mX_comes_0 (hd : 20 < d) (x : Int32)  : nzxI d nX13_comes [.ref 73, .int x] (zmS h F0 I W none rd tp A) = some (-1, zmS h F0 (upd (upd (upd I 0 0) 1 1) 2 (-1)) W none rd tp A) := by
  refine iX13_comes (by omega) zmS_o ?_
  rw [eX13_comes_0, zP_0, Option.bind_some, jX13_isHouse0 zmo_S (by omega), Option.bind_some, if_pos rfl, zrefu (by omega), Option.bind_some]
theorem mX_comes_1 (E : zmd h t J B Wd) (ht : 94 ≤ t) (hd : 20 < d) (x : Int32) (z1 : zmh (J 5) x = 0) : nzxI d nX13_comes [.ref 73, .int x] (zmS h F0 I W (some t) rd tp A) = some (-1, zmS h F0 (upd (upd (upd I 0 0) 1 1) 2 (-1)) W (some t) rd tp A) := by
  refine iX13_comes (by omega) zmS_o ?_
  rw [eX13_comes_0, zP_0, Option.bind_some, jX13_isHouse zmo_S (zmd_S E ht) (by omega), Option.bind_some, ← zmh, if_pos z1, zrefu (by omega), Option.bind_some]
theorem mX_comes_2 (E : zmd h t J B Wd) (ht : 94 ≤ t) (M : zmrr A N R) {m : Nat} (hm : m ≤ 3) (em : J 6 = nI m) (hd : 20 < d) (x : Int32) (z1 : ¬ zmh (J 5) x = 0) (z3 : zcar N R x 0 m = -1) : nzxI d nX13_comes [.ref 73, .int x] (zmS h F0 I W (some t) rd tp A) = some (-1, zmS h F0 (upd (upd (upd I 0 0) 1 6) 2 (-1)) W (some t) rd tp A) := by
  refine iX13_comes (by omega) zmS_o ?_
  rw [eX13_comes_0, zP_0, Option.bind_some, jX13_isHouse zmo_S (zmd_S E ht) (by omega), Option.bind_some, ← zmh, if_neg z1, jX13_carOf zmo_S (zmd_S E ht) M hm em (by omega), Option.bind_some, if_pos z3, zrefu (by omega), Option.bind_some]
theorem mX_heat_0 (hd : 20 < d) (x : Int32)  : nzxI d nX13_heat [.ref 73, .int x] (zmS h F0 I W none rd tp A) = some (-1000, zmS h F0 (upd (upd (upd I 0 0) 1 1) 2 (-1)) W none rd tp A) := by
  refine iX13_heat (by omega) zmS_o ?_
  rw [eX13_heat_0, zP_0, Option.bind_some, jX13_isHouse0 zmo_S (by omega), Option.bind_some, if_pos rfl, zlost (by omega), Option.bind_some]
theorem mX_heat_1 (E : zmd h t J B Wd) (ht : 94 ≤ t) (hd : 20 < d) (x : Int32) (z1 : zmh (J 5) x = 0) : nzxI d nX13_heat [.ref 73, .int x] (zmS h F0 I W (some t) rd tp A) = some (-1000, zmS h F0 (upd (upd (upd I 0 0) 1 1) 2 (-1)) W (some t) rd tp A) := by
  refine iX13_heat (by omega) zmS_o ?_
  rw [eX13_heat_0, zP_0, Option.bind_some, jX13_isHouse zmo_S (zmd_S E ht) (by omega), Option.bind_some, ← zmh, if_pos z1, zlost (by omega), Option.bind_some]
theorem mX_heat_2 (E : zmd h t J B Wd) (ht : 94 ≤ t) (M : zmrr A N R) {m : Nat} (hm : m ≤ 3) (em : J 6 = nI m) (hd : 20 < d) (x : Int32) (z1 : ¬ zmh (J 5) x = 0) (z3 : zcar N R x 0 m = -1) : nzxI d nX13_heat [.ref 73, .int x] (zmS h F0 I W (some t) rd tp A) = some (-1000, zmS h F0 (upd (upd (upd I 0 0) 1 6) 2 (-1)) W (some t) rd tp A) := by
  refine iX13_heat (by omega) zmS_o ?_
  rw [eX13_heat_0, zP_0, Option.bind_some, jX13_isHouse zmo_S (zmd_S E ht) (by omega), Option.bind_some, ← zmh, if_neg z1, jX13_carOf zmo_S (zmd_S E ht) M hm em (by omega), Option.bind_some, if_pos z3, zlost (by omega), Option.bind_some]
theorem mX_costs_0 (hd : 20 < d) (x : Int32)  : nzxI d nX13_costs [.ref 73, .int x] (zmS h F0 I W none rd tp A) = some (-1000, zmS h F0 (upd (upd (upd I 0 0) 1 1) 2 (-1)) W none rd tp A) := by
  refine iX13_costs (by omega) zmS_o ?_
  rw [eX13_costs_0, zP_0, Option.bind_some, jX13_isHouse0 zmo_S (by omega), Option.bind_some, if_pos rfl, zlost (by omega), Option.bind_some]
theorem mX_costs_1 (E : zmd h t J B Wd) (ht : 94 ≤ t) (hd : 20 < d) (x : Int32) (z1 : zmh (J 5) x = 0) : nzxI d nX13_costs [.ref 73, .int x] (zmS h F0 I W (some t) rd tp A) = some (-1000, zmS h F0 (upd (upd (upd I 0 0) 1 1) 2 (-1)) W (some t) rd tp A) := by
  refine iX13_costs (by omega) zmS_o ?_
  rw [eX13_costs_0, zP_0, Option.bind_some, jX13_isHouse zmo_S (zmd_S E ht) (by omega), Option.bind_some, ← zmh, if_pos z1, zlost (by omega), Option.bind_some]
theorem mX_costs_2 (E : zmd h t J B Wd) (ht : 94 ≤ t) (M : zmrr A N R) {m : Nat} (hm : m ≤ 3) (em : J 6 = nI m) (hd : 20 < d) (x : Int32) (z1 : ¬ zmh (J 5) x = 0) (z3 : zcar N R x 0 m = -1) : nzxI d nX13_costs [.ref 73, .int x] (zmS h F0 I W (some t) rd tp A) = some (-1000, zmS h F0 (upd (upd (upd I 0 0) 1 6) 2 (-1)) W (some t) rd tp A) := by
  refine iX13_costs (by omega) zmS_o ?_
  rw [eX13_costs_0, zP_0, Option.bind_some, jX13_isHouse zmo_S (zmd_S E ht) (by omega), Option.bind_some, ← zmh, if_neg z1, jX13_carOf zmo_S (zmd_S E ht) M hm em (by omega), Option.bind_some, if_pos z3, zlost (by omega), Option.bind_some]
theorem mX_way_0 (hd : 20 < d) (x y : Int32)  : nzxI d nX13_way [.ref 73, .int x, .int y] (zmS h F0 I W none rd tp A) = some (-1, zmS h F0 (upd (upd (upd I 0 0) 1 1) 2 (-1)) W none rd tp A) := by
  refine iX13_way (by omega) zmS_o ?_
  rw [eX13_way_0, zP_0, Option.bind_some, zmS_N0, Option.bind_some, if_pos rfl, zrefu (by omega), Option.bind_some]
theorem mX_way_1 (E : zmd h t J B Wd) (ht : 94 ≤ t) (hd : 20 < d) (x y : Int32) (z1 : zwn x 0 99 = 0) : nzxI d nX13_way [.ref 73, .int x, .int y] (zmS h F0 I W (some t) rd tp A) = some (-1, zmS h F0 (upd (upd (upd I 0 0) 1 2) 2 (-1)) W (some t) rd tp A) := by
  refine iX13_way (by omega) zmS_o ?_
  rw [eX13_way_0, zP_0, Option.bind_some, zmS_N, Option.bind_some, if_neg (show ¬ some t = none from fun z => by cases z), jX13_in (by omega), Option.bind_some, ← zwn, if_pos z1, eX13_way_54, zrefu (by omega), Option.bind_some]
theorem mX_way_2 (E : zmd h t J B Wd) (ht : 94 ≤ t) (hd : 20 < d) (x y : Int32) (z1 : ¬ zwn x 0 99 = 0) (z2 : zwn y 0 99 = 0) : nzxI d nX13_way [.ref 73, .int x, .int y] (zmS h F0 I W (some t) rd tp A) = some (-1, zmS h F0 (upd (upd (upd I 0 0) 1 2) 2 (-1)) W (some t) rd tp A) := by
  refine iX13_way (by omega) zmS_o ?_
  rw [eX13_way_0, zP_0, Option.bind_some, zmS_N, Option.bind_some, if_neg (show ¬ some t = none from fun z => by cases z), jX13_in (by omega), Option.bind_some, ← zwn, if_neg z1, jX13_in (by omega), Option.bind_some, ← zwn, if_pos z2, eX13_way_54, zrefu (by omega), Option.bind_some]
theorem mX_way_3 (E : zmd h t J B Wd) (ht : 94 ≤ t) {nf : Nat} (hnf : nf ≤ 3) (e7 : J 7 = nI nf) (hd : 20 < d) (x y : Int32) (z1 : ¬ zwn x 0 99 = 0) (z2 : ¬ zwn y 0 99 = 0) : nzxI d nX13_way [.ref 73, .int x, .int y] (zmS h F0 I W (some t) rd tp A) = some (zmway B nf x y, zmS h F0 (upd (upd (upd I 0 0) 1 0) 2 (-1)) W (some t) rd tp A) := by
  refine iX13_way (by omega) zmS_o ?_
  rw [eX13_way_0, zP_0, Option.bind_some, zmS_N, Option.bind_some, if_neg (show ¬ some t = none from fun z => by cases z), jX13_in (by omega), Option.bind_some, ← zwn, if_neg z1, jX13_in (by omega), Option.bind_some, ← zwn, if_neg z2, zmS_T, Option.bind_some, jX12_way (zmd_S E ht) (by omega) hnf e7, Option.bind_some, zdone (by omega), Option.bind_some]
theorem mX_fits_0 (hd : 20 < d) (x y : Int32)  : nzxI d nX13_fits [.ref 73, .int x, .int y] (zmS h F0 I W none rd tp A) = some (-1, zmS h F0 (upd (upd (upd I 0 0) 1 1) 2 (-1)) W none rd tp A) := by
  refine iX13_fits (by omega) zmS_o ?_
  rw [eX13_fits_0, zP_0, Option.bind_some, jX13_isHouse0 zmo_S (by omega), Option.bind_some, if_pos rfl, eX13_fits_50, zrefu (by omega), Option.bind_some]
theorem mX_fits_1 (E : zmd h t J B Wd) (ht : 94 ≤ t) (hd : 20 < d) (x y : Int32) (z1 : zmh (J 5) x = 0) : nzxI d nX13_fits [.ref 73, .int x, .int y] (zmS h F0 I W (some t) rd tp A) = some (-1, zmS h F0 (upd (upd (upd I 0 0) 1 1) 2 (-1)) W (some t) rd tp A) := by
  refine iX13_fits (by omega) zmS_o ?_
  rw [eX13_fits_0, zP_0, Option.bind_some, jX13_isHouse zmo_S (zmd_S E ht) (by omega), Option.bind_some, ← zmh, if_pos z1, eX13_fits_50, zrefu (by omega), Option.bind_some]
theorem mX_fits_2 (E : zmd h t J B Wd) (ht : 94 ≤ t) (hd : 20 < d) (x y : Int32) (z1 : ¬ zmh (J 5) x = 0) (z2 : zmh (J 3) y = 0) : nzxI d nX13_fits [.ref 73, .int x, .int y] (zmS h F0 I W (some t) rd tp A) = some (-1, zmS h F0 (upd (upd (upd I 0 0) 1 1) 2 (-1)) W (some t) rd tp A) := by
  refine iX13_fits (by omega) zmS_o ?_
  rw [eX13_fits_0, zP_0, Option.bind_some, jX13_isHouse zmo_S (zmd_S E ht) (by omega), Option.bind_some, ← zmh, if_neg z1, jX13_isDish zmo_S (zmd_S E ht) (by omega), Option.bind_some, ← zmh, if_pos z2, eX13_fits_50, zrefu (by omega), Option.bind_some]
theorem mX_breach_0 (hd : 20 < d) (x y : Int32)  : nzxI d nX13_breach [.ref 73, .int x, .int y] (zmS h F0 I W none rd tp A) = some (-1, zmS h F0 (upd (upd (upd I 0 0) 1 1) 2 (-1)) W none rd tp A) := by
  refine iX13_breach (by omega) zmS_o ?_
  rw [eX13_breach_0, zP_0, Option.bind_some, jX13_isHouse0 zmo_S (by omega), Option.bind_some, if_pos rfl, eX13_breach_42, zrefu (by omega), Option.bind_some]
theorem mX_breach_1 (E : zmd h t J B Wd) (ht : 94 ≤ t) (hd : 20 < d) (x y : Int32) (z1 : zmh (J 5) x = 0) : nzxI d nX13_breach [.ref 73, .int x, .int y] (zmS h F0 I W (some t) rd tp A) = some (-1, zmS h F0 (upd (upd (upd I 0 0) 1 1) 2 (-1)) W (some t) rd tp A) := by
  refine iX13_breach (by omega) zmS_o ?_
  rw [eX13_breach_0, zP_0, Option.bind_some, jX13_isHouse zmo_S (zmd_S E ht) (by omega), Option.bind_some, ← zmh, if_pos z1, eX13_breach_42, zrefu (by omega), Option.bind_some]
theorem mX_breach_2 (E : zmd h t J B Wd) (ht : 94 ≤ t) (hd : 20 < d) (x y : Int32) (z1 : ¬ zmh (J 5) x = 0) (z2 : zmh (J 3) y = 0) : nzxI d nX13_breach [.ref 73, .int x, .int y] (zmS h F0 I W (some t) rd tp A) = some (-1, zmS h F0 (upd (upd (upd I 0 0) 1 1) 2 (-1)) W (some t) rd tp A) := by
  refine iX13_breach (by omega) zmS_o ?_
  rw [eX13_breach_0, zP_0, Option.bind_some, jX13_isHouse zmo_S (zmd_S E ht) (by omega), Option.bind_some, ← zmh, if_neg z1, jX13_isDish zmo_S (zmd_S E ht) (by omega), Option.bind_some, ← zmh, if_pos z2, eX13_breach_42, zrefu (by omega), Option.bind_some]
theorem mX_breach_3 (E : zmd h t J B Wd) (ht : 94 ≤ t) {k q i : Nat} (hk : k < 6) (hq : q < 6) (hi : i < 4) (e19 : B 19 k = nI i) (hd : 20 < d) (z1 : ¬ zmh (J 5) (nI k) = 0) (z2 : ¬ zmh (J 3) (nI q) = 0) : nzxI d nX13_breach [.ref 73, .int (nI k), .int (nI q)] (zmS h F0 I W (some t) rd tp A) = some (B 13 q &&& B 15 i, zmS h F0 (upd (upd (upd I 0 0) 1 0) 2 (-1)) W (some t) rd tp A) := by
  refine iX13_breach (by omega) zmS_o ?_
  rw [eX13_breach_0, zP_0, Option.bind_some, jX13_isHouse zmo_S (zmd_S E ht) (by omega), Option.bind_some, ← zmh, if_neg z1, jX13_isDish zmo_S (zmd_S E ht) (by omega), Option.bind_some, ← zmh, if_neg z2, zmS_T, Option.bind_some, zdr E ht (k := 19) (by decide) (by decide), Option.bind_some, zda E ht (k := 19) (by decide) (by decide) (by decide) (by decide) (by decide) hk, Option.bind_some, e19, jX13_barred zmo_S (zmd_S E ht) (by omega) hi hq, Option.bind_some, zdone (by omega), Option.bind_some]
theorem mX_fits_3 (E : zmd h t J B Wd) (ht : 94 ≤ t) {k q i : Nat} (hk : k < 6) (hq : q < 6) (hi : i < 4) (e19 : B 19 k = nI i) (hd : 20 < d) (z1 : ¬ zmh (J 5) (nI k) = 0) (z2 : ¬ zmh (J 3) (nI q) = 0) (z3 : B 13 q &&& B 15 i = 0) : nzxI d nX13_fits [.ref 73, .int (nI k), .int (nI q)] (zmS h F0 I W (some t) rd tp A) = some (1, zmS h F0 (upd (upd (upd I 0 0) 1 0) 2 (-1)) W (some t) rd tp A) := by
  refine iX13_fits (by omega) zmS_o ?_
  rw [eX13_fits_0, zP_0, Option.bind_some, jX13_isHouse zmo_S (zmd_S E ht) (by omega), Option.bind_some, ← zmh, if_neg z1, jX13_isDish zmo_S (zmd_S E ht) (by omega), Option.bind_some, ← zmh, if_neg z2, zmS_T, Option.bind_some, zdr E ht (k := 19) (by decide) (by decide), Option.bind_some, zda E ht (k := 19) (by decide) (by decide) (by decide) (by decide) (by decide) hk, Option.bind_some, e19, jX13_barred zmo_S (zmd_S E ht) (by omega) hi hq, Option.bind_some, if_pos z3, eX13_fits_44, zdone (by omega), Option.bind_some]
theorem mX_fits_4 (E : zmd h t J B Wd) (ht : 94 ≤ t) {k q i : Nat} (hk : k < 6) (hq : q < 6) (hi : i < 4) (e19 : B 19 k = nI i) (hd : 20 < d) (z1 : ¬ zmh (J 5) (nI k) = 0) (z2 : ¬ zmh (J 3) (nI q) = 0) (z3 : ¬ B 13 q &&& B 15 i = 0) : nzxI d nX13_fits [.ref 73, .int (nI k), .int (nI q)] (zmS h F0 I W (some t) rd tp A) = some (0, zmS h F0 (upd (upd (upd I 0 0) 1 0) 2 (-1)) W (some t) rd tp A) := by
  refine iX13_fits (by omega) zmS_o ?_
  rw [eX13_fits_0, zP_0, Option.bind_some, jX13_isHouse zmo_S (zmd_S E ht) (by omega), Option.bind_some, ← zmh, if_neg z1, jX13_isDish zmo_S (zmd_S E ht) (by omega), Option.bind_some, ← zmh, if_neg z2, zmS_T, Option.bind_some, zdr E ht (k := 19) (by decide) (by decide), Option.bind_some, zda E ht (k := 19) (by decide) (by decide) (by decide) (by decide) (by decide) hk, Option.bind_some, e19, jX13_barred zmo_S (zmd_S E ht) (by omega) hi hq, Option.bind_some, if_neg z3, eX13_fits_44, zdone (by omega), Option.bind_some]
end NZML
