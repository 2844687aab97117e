/-! the reference's calls that succeed: best orders, menus, dropped -/
section NZMK6
variable {d t : Nat} {h : nzH} {F0 : Nat → Value} {I : Nat → Int32} {W : Int64} {td rd : Option Nat} {tp : Nat → Int32} {A : Nat → Nat → Int32} {J : Nat → Int32} {B : Nat → Nat → Int32} {Wd : Nat → Int64} {N : Nat → Nat} {R : Nat → Nat → Nat}
theorem mX_rb_n (hd : 10 < d) (x y : Int32) : nzxI d nX13_refusesBest [.ref 73, .int x, .int y] (zmS h F0 I W none rd tp A) = some (1, zmS h F0 I W none rd tp A) := by
  refine iX13_refusesBest (by omega) zmS_o ?_
  rw [eX13_refusesBest_0, jX13_isCar0 zmo_S (by omega), Option.bind_some, if_pos rfl, eX13_refusesBest_25]
theorem mX_rb_0 (E : zmd h t J B Wd) (ht : 94 ≤ t) (hd : 10 < d) (x y : Int32) (z : zmh (J 6) x = 0) : nzxI d nX13_refusesBest [.ref 73, .int x, .int y] (zmS h F0 I W (some t) rd tp A) = some (1, zmS h F0 I W (some t) rd tp A) := by
  refine iX13_refusesBest (by omega) zmS_o ?_
  rw [eX13_refusesBest_0, jX13_isCar zmo_S (zmd_S E ht) (by omega), Option.bind_some, ← zmh, if_pos z, eX13_refusesBest_25]
theorem mX_rb_1 (E : zmd h t J B Wd) (ht : 94 ≤ t) (hd : 10 < d) (x y : Int32) (z : ¬ zmh (J 6) x = 0) (z2 : y < 0 ∨ ¬ y < (1 <<< (J 5 &&& 31))) : nzxI d nX13_refusesBest [.ref 73, .int x, .int y] (zmS h F0 I W (some t) rd tp A) = some (1, zmS h F0 I W (some t) rd tp A) := by
  refine iX13_refusesBest (by omega) zmS_o ?_
  rw [eX13_refusesBest_0, jX13_isCar zmo_S (zmd_S E ht) (by omega), Option.bind_some, ← zmh, if_neg z]
  by_cases u : y < 0
  · rw [if_pos u, eX13_refusesBest_25]
  · have v : ¬ y < (1 <<< (J 5 &&& 31)) := by
      cases z2 with
      | inl a => exact absurd a u
      | inr a => exact a
    rw [if_neg u, zmS_T, Option.bind_some, zj E ht (k := 5) (by decide), Option.bind_some, if_neg v, eX13_refusesBest_25]
theorem mX_rb_2 (E : zmd h t J B Wd) (ht : 94 ≤ t) (hd : 10 < d) {c q : Nat} (hc : c < 3) (hq : q < 64) (z : ¬ zmh (J 6) (nI c) = 0) (z2 : nI q < (1 <<< (J 5 &&& 31))) : nzxI d nX13_refusesBest [.ref 73, .int (nI c), .int (nI q)] (zmS h F0 I W (some t) rd tp A) = some (if nI (zpop q) ≤ B 28 c then 0 else 3, zmS h F0 I W (some t) rd tp A) := by
  refine iX13_refusesBest (by omega) zmS_o ?_
  rw [eX13_refusesBest_0, jX13_isCar zmo_S (zmd_S E ht) (by omega), Option.bind_some, ← zmh, if_neg z, if_neg (nI_pos (by omega)), zmS_T, Option.bind_some, zj E ht (k := 5) (by decide), Option.bind_some, if_pos z2, jX13_bits (by omega) hq, Option.bind_some, zmS_T, Option.bind_some, zdr E ht (k := 28) (by decide) (by decide), Option.bind_some, zda E ht (k := 28) (by decide) (by decide) (by decide) (by decide) (by decide) hc, Option.bind_some]
  split <;> rfl
theorem mX_best_no (hd : 20 < d) (x y v : Int32) (b : nzxI (d - 1) nX13_refusesBest [.ref 73, .int x, .int y] (zmS h F0 (upd I 0 0) W td rd tp A) = some (v, zmS h F0 (upd I 0 0) W td rd tp A)) (hv : ¬ v ≤ 0) : nzxI d nX13_best [.ref 73, .int x, .int y] (zmS h F0 I W td rd tp A) = some (-1, zmS h F0 (upd (upd (upd I 0 0) 1 v) 2 (-1)) W td rd tp A) := by
  refine iX13_best (by omega) zmS_o ?_
  rw [eX13_best_0, zP_0, Option.bind_some, b, Option.bind_some, if_neg hv, zrefu (by omega), Option.bind_some]
theorem mX_bestAt_no (hd : 20 < d) (x y w v : Int32) (b : nzxI (d - 1) nX13_refusesBest [.ref 73, .int x, .int y] (zmS h F0 (upd I 0 0) W td rd tp A) = some (v, zmS h F0 (upd I 0 0) W td rd tp A)) (hv : ¬ v ≤ 0) : nzxI d nX13_bestAt [.ref 73, .int x, .int y, .int w] (zmS h F0 I W td rd tp A) = some (-1, zmS h F0 (upd (upd (upd I 0 0) 1 v) 2 (-1)) W td rd tp A) := by
  refine iX13_bestAt (by omega) zmS_o ?_
  rw [eX13_bestAt_0, zP_0, Option.bind_some, b, Option.bind_some, if_neg hv, zrefu (by omega), Option.bind_some]
theorem mX_bestAt_out (hd : 20 < d) (x w : Int32) {q : Nat} (hq : q < 64) (b : nzxI (d - 1) nX13_refusesBest [.ref 73, .int x, .int (nI q)] (zmS h F0 (upd I 0 0) W td rd tp A) = some (0, zmS h F0 (upd I 0 0) W td rd tp A)) (hw : w < 0 ∨ ¬ w < nI (zpop q)) : nzxI d nX13_bestAt [.ref 73, .int x, .int (nI q), .int w] (zmS h F0 I W td rd tp A) = some (-1, zmS h F0 (upd (upd (upd I 0 0) 1 1) 2 (-1)) W td rd tp A) := by
  refine iX13_bestAt (by omega) zmS_o ?_
  rw [eX13_bestAt_0, zP_0, Option.bind_some, b, Option.bind_some, if_pos (show (0 : Int32) ≤ 0 by decide)]
  by_cases u : w < 0
  · rw [if_pos u, eX13_bestAt_37, zrefu (by omega), Option.bind_some]
  · have v : ¬ w < nI (zpop q) := by
      cases hw with
      | inl a => exact absurd a u
      | inr a => exact a
    rw [if_neg u, jX13_bits (by omega) hq, Option.bind_some, if_neg v, eX13_bestAt_37, zrefu (by omega), Option.bind_some]
theorem mX_best (E : zmd h t J B Wd) (ht : 94 ≤ t) (hd : 20 < d) {nf c k q : Nat} (hnf : nf ≤ 3) (e7 : J 7 = nI nf) (hc : c < 3) (hk : k < 3) (ek : B 26 c = nI k) (hq : q < 64) (b : nzxI (d - 1) nX13_refusesBest [.ref 73, .int (nI c), .int (nI q)] (zmS h F0 (upd I 0 0) W (some t) rd tp A) = some (0, zmS h F0 (upd I 0 0) W (some t) rd tp A)) : ∃ I' A', nzxI d nX13_best [.ref 73, .int (nI c), .int (nI q)] (zmS h F0 I W (some t) rd tp A) = some (10000 * (zbst J B nf c k q (A 26)).1 + (zbst J B nf c k q (A 26)).2.1, zmS h F0 I' W (some t) rd tp A') ∧ (∀ a, a ≠ 0 → a ≠ 1 → a ≠ 2 → a ≠ 20 → a ≠ 21 → a ≠ 24 → a ≠ 25 → I' a = I a) ∧ I' 1 = 0 ∧ I' 2 = -1 ∧ (∀ a, a ≠ 22 → a ≠ 23 → a ≠ 26 → A' a = A a) := by
  obtain ⟨I', A', q1, q2, q3, q4⟩ := kX13_bests (d := d - 1) (F0 := F0) (W := W) (rd := rd) (tp := tp) E ht (by omega) hnf e7 hc hk ek hq (upd I 0 0) A
  have e24 : I' 24 = (zbst J B nf c k q (A 26)).1 := congrArg Prod.fst q4
  have e25 : I' 25 = (zbst J B nf c k q (A 26)).2.1 := congrArg (fun s => s.2.1) q4
  refine ⟨upd (upd I' 1 0) 2 (-1), A', iX13_best (by omega) zmS_o ?_, fun a a0 a1 a2 a3 a4 a5 a6 => ?_, ?_, upd_eq _ _ _, q3⟩
  · rw [eX13_best_0, zP_0, Option.bind_some, b, Option.bind_some, if_pos (show (0 : Int32) ≤ 0 by decide), q1, Option.bind_some, zI_24, Option.bind_some, zI_25, Option.bind_some, e24, e25, zdone (by omega), Option.bind_some]
  · rw [upd_ne a2, upd_ne a1, q2 a a3 a4 a5 a6, upd_ne a0]
  · rw [upd_ne (by decide), upd_eq]
theorem mX_bestAt (E : zmd h t J B Wd) (ht : 94 ≤ t) (hd : 20 < d) {nf c k q i : Nat} (hnf : nf ≤ 3) (e7 : J 7 = nI nf) (hc : c < 3) (hk : k < 3) (ek : B 26 c = nI k) (hq : q < 64) (hi : i < zpop q) (h6 : zpop q ≤ 6) (b : nzxI (d - 1) nX13_refusesBest [.ref 73, .int (nI c), .int (nI q)] (zmS h F0 (upd I 0 0) W (some t) rd tp A) = some (0, zmS h F0 (upd I 0 0) W (some t) rd tp A)) : ∃ I' A', nzxI d nX13_bestAt [.ref 73, .int (nI c), .int (nI q), .int (nI i)] (zmS h F0 I W (some t) rd tp A) = some ((zbst J B nf c k q (A 26)).2.2 i, zmS h F0 I' W (some t) rd tp A') ∧ (∀ a, a ≠ 0 → a ≠ 1 → a ≠ 2 → a ≠ 20 → a ≠ 21 → a ≠ 24 → a ≠ 25 → I' a = I a) ∧ I' 1 = 0 ∧ I' 2 = -1 ∧ (∀ a, a ≠ 22 → a ≠ 23 → a ≠ 26 → A' a = A a) := by
  obtain ⟨I', A', q1, q2, q3, q4⟩ := kX13_bests (d := d - 1) (F0 := F0) (W := W) (rd := rd) (tp := tp) E ht (by omega) hnf e7 hc hk ek hq (upd I 0 0) A
  have e26 : A' 26 = (zbst J B nf c k q (A 26)).2.2 := congrArg (fun s => s.2.2) q4
  refine ⟨upd (upd I' 1 0) 2 (-1), A', iX13_bestAt (by omega) zmS_o ?_, fun a a0 a1 a2 a3 a4 a5 a6 => ?_, ?_, upd_eq _ _ _, q3⟩
  · rw [eX13_bestAt_0, zP_0, Option.bind_some, b, Option.bind_some, if_pos (show (0 : Int32) ≤ 0 by decide), if_neg (nI_pos (by omega)), jX13_bits (by omega) hq, Option.bind_some, if_pos (nI_lt hi (by omega)), q1, Option.bind_some, zR_26, Option.bind_some, zA_26 (show i < 6 by omega), Option.bind_some, e26, zdone (by omega), Option.bind_some]
  · rw [upd_ne a2, upd_ne a1, q2 a a3 a4 a5 a6, upd_ne a0]
  · rw [upd_ne (by decide), upd_eq]
end NZMK6
