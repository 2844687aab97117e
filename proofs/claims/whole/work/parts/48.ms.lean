/-! the reference's object as a function of its state: no existential heaps -/
def zmk (a : Nat) : Nat := [17, 18, 22, 23, 26, 28, 29, 30, 31, 32, 35, 36, 38, 39, 40, 41, 43, 44, 45].getD (a - 75) 0
def zmF (F0 : Nat → Value) (I : Nat → Int32) (W : Int64) (td rd : Option Nat) (k : Nat) : Value := if k < 46 then (if zmi k = true then .int (I k) else if k = 16 then .long W else if k = 3 then va_rf td else if k = 4 then va_rf rd else if k = 5 then .ref 74 else .ref (zma k).1) else F0 k
def zmC (F0 : Nat → Value) (I : Nat → Int32) (W : Int64) (td rd : Option Nat) (tp : Nat → Int32) (A : Nat → Nat → Int32) (a : Nat) : Option nzE := if a = 73 then some (.inr (13, zmF F0 I W td rd)) else if a = 74 then some (.inl (.byte, 900, .inl tp)) else some (.inl (.int, (zma (zmk a)).2, .inl (A (zmk a))))
def zmS (h : nzH) (F0 : Nat → Value) (I : Nat → Int32) (W : Int64) (td rd : Option Nat) (tp : Nat → Int32) (A : Nat → Nat → Int32) : nzH := (h.1, h.2.1, fun a => if 73 ≤ a ∧ a < 94 then zmC F0 I W td rd tp A a else h.2.2.1 a, h.2.2.2)
theorem zmk_46 : ∀ k, k < 46 → (zma k).1 ≠ 0 → zmk (zma k).1 = k ∧ 75 ≤ (zma k).1 ∧ (zma k).1 < 94 := by decide +kernel
theorem zmk_94 : ∀ a, a < 94 → 75 ≤ a → zmk a < 46 ∧ (zma (zmk a)).1 = a := by decide +kernel
theorem upd_at (f : Nat → Int32) (k : Nat) (x : Int32) (q : Nat) : upd f k x q = if q = k then x else f q := rfl
theorem va_up_at {α : Type} (f : Nat → α) (k : Nat) (x : α) (q : Nat) : va_up f k x q = if q = k then x else f q := rfl
theorem upd_id (f : Nat → Int32) (k : Nat) : upd f k (f k) = f := by
  funext q
  by_cases z : q = k <;> simp [upd, z]
theorem upd_ne {f : Nat → Int32} {k q : Nat} {x : Int32} (z : q ≠ k) : upd f k x q = f q := if_neg z
theorem upd_eq (f : Nat → Int32) (k : Nat) (x : Int32) : upd f k x k = x := if_pos rfl
section NZMS2
variable {d t : Nat} {h : nzH} {F0 : Nat → Value} {I : Nat → Int32} {W : Int64} {td rd : Option Nat} {tp : Nat → Int32} {A : Nat → Nat → Int32}
theorem zmS_c {a : Nat} (ha : a < 73 ∨ 94 ≤ a) : nzcell (zmS h F0 I W td rd tp A) a = nzcell h a := if_neg (by omega)
theorem zmS_o : zobj (zmS h F0 I W td rd tp A) 73 13 (zmF F0 I W td rd) := rfl
theorem zmo_S : zmo (zmS h F0 I W td rd tp A) I W td rd tp A := by
  refine ⟨⟨zmF F0 I W td rd, rfl, fun k hk z => ?_, rfl, rfl, rfl, rfl, fun k hk z => ?_⟩, rfl, fun k hk z => ?_⟩
  · rw [zmF, if_pos hk, if_pos z]
  · have := zma_46 k hk z
    rw [zmF, if_pos hk, if_neg (by rw [this.2.2.2.1]; decide), if_neg this.2.2.2.2.1, if_neg this.2.2.2.2.2.1, if_neg this.2.2.2.2.2.2.1, if_neg this.2.2.2.2.2.2.2]
  · have m := zmk_46 k hk z
    show (if 73 ≤ (zma k).1 ∧ (zma k).1 < 94 then zmC F0 I W td rd tp A (zma k).1 else _) = _
    rw [if_pos (by omega), zmC, if_neg (by omega), if_neg (by omega), m.1]
theorem zmS_pI {k : Nat} (hk : k < 46) (z : zmi k = true) (v : Int32) : nzput (zmS h F0 I W td rd tp A) 73 13 k (.int v) = some (zmS h F0 (upd I k v) W td rd tp A) := by
  rw [zp_of zmS_o]
  refine congrArg some (Prod.ext rfl (Prod.ext rfl (Prod.ext ?_ rfl)))
  funext a
  show va_up _ 73 _ a = _
  by_cases y : a = 73
  · subst y
    rw [va_up_self]
    show _ = some (Sum.inr (13, zmF F0 (upd I k v) W td rd))
    refine congrArg some (congrArg Sum.inr (Prod.ext rfl ?_))
    funext q
    show va_up (zmF F0 I W td rd) k (.int v) q = zmF F0 (upd I k v) W td rd q
    by_cases w : q = k
    · subst w
      rw [va_up_self, zmF, if_pos hk, if_pos z, upd_eq]
    · rw [va_up_ne _ _ w]
      simp only [zmF, upd_ne w]
  · rw [va_up_ne _ _ y]
    show (if 73 ≤ a ∧ a < 94 then zmC F0 I W td rd tp A a else _) = (if 73 ≤ a ∧ a < 94 then zmC F0 (upd I k v) W td rd tp A a else _)
    simp only [zmC, if_neg y]
theorem zmS_pA {k i : Nat} (hk : k < 46) (z : (zma k).1 ≠ 0) (hi : i < (zma k).2) (v : Int32) : nzsI (zmS h F0 I W td rd tp A) (zma k).1 (nI i) v = some (zmS h F0 I W td rd tp (va_up A k (upd (A k) i v))) := by
  have m := zma_46 k hk z
  have m2 := zmk_46 k hk z
  rw [zs_In (zmo_S.2.2 k hk z) hi (by omega)]
  refine congrArg some (Prod.ext rfl (Prod.ext rfl (Prod.ext ?_ rfl)))
  funext a
  show va_up _ (zma k).1 _ a = _
  by_cases y : a = (zma k).1
  · subst y
    rw [va_up_self]
    show _ = (if 73 ≤ (zma k).1 ∧ (zma k).1 < 94 then zmC F0 I W td rd tp (va_up A k (upd (A k) i v)) (zma k).1 else _)
    rw [if_pos (by omega), zmC, if_neg (by omega), if_neg (by omega), m2.1, va_up_self]
  · rw [va_up_ne _ _ y]
    show (if 73 ≤ a ∧ a < 94 then zmC F0 I W td rd tp A a else _) = (if 73 ≤ a ∧ a < 94 then zmC F0 I W td rd tp (va_up A k (upd (A k) i v)) a else _)
    by_cases x : 73 ≤ a ∧ a < 94
    · rw [if_pos x, if_pos x, zmC, zmC]
      by_cases x1 : a = 73
      · rw [if_pos x1, if_pos x1]
      · by_cases x2 : a = 74
        · rw [if_neg x1, if_neg x1, if_pos x2, if_pos x2]
        · have := zmk_94 a x.2 (by omega)
          rw [if_neg x1, if_neg x1, if_neg x2, if_neg x2, va_up_ne _ _ (fun w => y (by rw [← w]; exact this.2.symm))]
    · rw [if_neg x, if_neg x]
theorem zmS_N0 : nzgN (zmS h F0 I W none rd tp A) 73 13 3 = some none := zmo_td0 zmo_S
theorem zmS_N : nzgN (zmS h F0 I W (some t) rd tp A) 73 13 3 = some (some t) := (zmo_td zmo_S).1
theorem zmS_T : nzgR (zmS h F0 I W (some t) rd tp A) 73 13 3 = some t := (zmo_td zmo_S).2
theorem zI_0 : nzgI (zmS h F0 I W td rd tp A) 73 13 0 = some (I 0) := zmo_gI zmo_S (by decide) (by decide)
theorem zP_0 (v : Int32) : nzput (zmS h F0 I W td rd tp A) 73 13 0 (.int v) = some (zmS h F0 (upd I 0 v) W td rd tp A) := zmS_pI (by decide) (by decide) v
theorem zI_1 : nzgI (zmS h F0 I W td rd tp A) 73 13 1 = some (I 1) := zmo_gI zmo_S (by decide) (by decide)
theorem zP_1 (v : Int32) : nzput (zmS h F0 I W td rd tp A) 73 13 1 (.int v) = some (zmS h F0 (upd I 1 v) W td rd tp A) := zmS_pI (by decide) (by decide) v
theorem zI_2 : nzgI (zmS h F0 I W td rd tp A) 73 13 2 = some (I 2) := zmo_gI zmo_S (by decide) (by decide)
theorem zP_2 (v : Int32) : nzput (zmS h F0 I W td rd tp A) 73 13 2 (.int v) = some (zmS h F0 (upd I 2 v) W td rd tp A) := zmS_pI (by decide) (by decide) v
theorem zI_6 : nzgI (zmS h F0 I W td rd tp A) 73 13 6 = some (I 6) := zmo_gI zmo_S (by decide) (by decide)
theorem zP_6 (v : Int32) : nzput (zmS h F0 I W td rd tp A) 73 13 6 (.int v) = some (zmS h F0 (upd I 6 v) W td rd tp A) := zmS_pI (by decide) (by decide) v
theorem zI_7 : nzgI (zmS h F0 I W td rd tp A) 73 13 7 = some (I 7) := zmo_gI zmo_S (by decide) (by decide)
theorem zP_7 (v : Int32) : nzput (zmS h F0 I W td rd tp A) 73 13 7 (.int v) = some (zmS h F0 (upd I 7 v) W td rd tp A) := zmS_pI (by decide) (by decide) v
theorem zI_8 : nzgI (zmS h F0 I W td rd tp A) 73 13 8 = some (I 8) := zmo_gI zmo_S (by decide) (by decide)
theorem zP_8 (v : Int32) : nzput (zmS h F0 I W td rd tp A) 73 13 8 (.int v) = some (zmS h F0 (upd I 8 v) W td rd tp A) := zmS_pI (by decide) (by decide) v
theorem zI_9 : nzgI (zmS h F0 I W td rd tp A) 73 13 9 = some (I 9) := zmo_gI zmo_S (by decide) (by decide)
theorem zP_9 (v : Int32) : nzput (zmS h F0 I W td rd tp A) 73 13 9 (.int v) = some (zmS h F0 (upd I 9 v) W td rd tp A) := zmS_pI (by decide) (by decide) v
theorem zI_10 : nzgI (zmS h F0 I W td rd tp A) 73 13 10 = some (I 10) := zmo_gI zmo_S (by decide) (by decide)
theorem zP_10 (v : Int32) : nzput (zmS h F0 I W td rd tp A) 73 13 10 (.int v) = some (zmS h F0 (upd I 10 v) W td rd tp A) := zmS_pI (by decide) (by decide) v
theorem zI_11 : nzgI (zmS h F0 I W td rd tp A) 73 13 11 = some (I 11) := zmo_gI zmo_S (by decide) (by decide)
theorem zP_11 (v : Int32) : nzput (zmS h F0 I W td rd tp A) 73 13 11 (.int v) = some (zmS h F0 (upd I 11 v) W td rd tp A) := zmS_pI (by decide) (by decide) v
theorem zI_12 : nzgI (zmS h F0 I W td rd tp A) 73 13 12 = some (I 12) := zmo_gI zmo_S (by decide) (by decide)
theorem zP_12 (v : Int32) : nzput (zmS h F0 I W td rd tp A) 73 13 12 (.int v) = some (zmS h F0 (upd I 12 v) W td rd tp A) := zmS_pI (by decide) (by decide) v
theorem zI_13 : nzgI (zmS h F0 I W td rd tp A) 73 13 13 = some (I 13) := zmo_gI zmo_S (by decide) (by decide)
theorem zP_13 (v : Int32) : nzput (zmS h F0 I W td rd tp A) 73 13 13 (.int v) = some (zmS h F0 (upd I 13 v) W td rd tp A) := zmS_pI (by decide) (by decide) v
theorem zI_14 : nzgI (zmS h F0 I W td rd tp A) 73 13 14 = some (I 14) := zmo_gI zmo_S (by decide) (by decide)
theorem zP_14 (v : Int32) : nzput (zmS h F0 I W td rd tp A) 73 13 14 (.int v) = some (zmS h F0 (upd I 14 v) W td rd tp A) := zmS_pI (by decide) (by decide) v
theorem zI_15 : nzgI (zmS h F0 I W td rd tp A) 73 13 15 = some (I 15) := zmo_gI zmo_S (by decide) (by decide)
theorem zP_15 (v : Int32) : nzput (zmS h F0 I W td rd tp A) 73 13 15 (.int v) = some (zmS h F0 (upd I 15 v) W td rd tp A) := zmS_pI (by decide) (by decide) v
theorem zI_19 : nzgI (zmS h F0 I W td rd tp A) 73 13 19 = some (I 19) := zmo_gI zmo_S (by decide) (by decide)
theorem zP_19 (v : Int32) : nzput (zmS h F0 I W td rd tp A) 73 13 19 (.int v) = some (zmS h F0 (upd I 19 v) W td rd tp A) := zmS_pI (by decide) (by decide) v
theorem zI_20 : nzgI (zmS h F0 I W td rd tp A) 73 13 20 = some (I 20) := zmo_gI zmo_S (by decide) (by decide)
theorem zP_20 (v : Int32) : nzput (zmS h F0 I W td rd tp A) 73 13 20 (.int v) = some (zmS h F0 (upd I 20 v) W td rd tp A) := zmS_pI (by decide) (by decide) v
theorem zI_21 : nzgI (zmS h F0 I W td rd tp A) 73 13 21 = some (I 21) := zmo_gI zmo_S (by decide) (by decide)
theorem zP_21 (v : Int32) : nzput (zmS h F0 I W td rd tp A) 73 13 21 (.int v) = some (zmS h F0 (upd I 21 v) W td rd tp A) := zmS_pI (by decide) (by decide) v
theorem zI_24 : nzgI (zmS h F0 I W td rd tp A) 73 13 24 = some (I 24) := zmo_gI zmo_S (by decide) (by decide)
theorem zP_24 (v : Int32) : nzput (zmS h F0 I W td rd tp A) 73 13 24 (.int v) = some (zmS h F0 (upd I 24 v) W td rd tp A) := zmS_pI (by decide) (by decide) v
theorem zI_25 : nzgI (zmS h F0 I W td rd tp A) 73 13 25 = some (I 25) := zmo_gI zmo_S (by decide) (by decide)
theorem zP_25 (v : Int32) : nzput (zmS h F0 I W td rd tp A) 73 13 25 (.int v) = some (zmS h F0 (upd I 25 v) W td rd tp A) := zmS_pI (by decide) (by decide) v
theorem zI_27 : nzgI (zmS h F0 I W td rd tp A) 73 13 27 = some (I 27) := zmo_gI zmo_S (by decide) (by decide)
theorem zP_27 (v : Int32) : nzput (zmS h F0 I W td rd tp A) 73 13 27 (.int v) = some (zmS h F0 (upd I 27 v) W td rd tp A) := zmS_pI (by decide) (by decide) v
theorem zI_33 : nzgI (zmS h F0 I W td rd tp A) 73 13 33 = some (I 33) := zmo_gI zmo_S (by decide) (by decide)
theorem zP_33 (v : Int32) : nzput (zmS h F0 I W td rd tp A) 73 13 33 (.int v) = some (zmS h F0 (upd I 33 v) W td rd tp A) := zmS_pI (by decide) (by decide) v
theorem zI_34 : nzgI (zmS h F0 I W td rd tp A) 73 13 34 = some (I 34) := zmo_gI zmo_S (by decide) (by decide)
theorem zP_34 (v : Int32) : nzput (zmS h F0 I W td rd tp A) 73 13 34 (.int v) = some (zmS h F0 (upd I 34 v) W td rd tp A) := zmS_pI (by decide) (by decide) v
theorem zI_37 : nzgI (zmS h F0 I W td rd tp A) 73 13 37 = some (I 37) := zmo_gI zmo_S (by decide) (by decide)
theorem zP_37 (v : Int32) : nzput (zmS h F0 I W td rd tp A) 73 13 37 (.int v) = some (zmS h F0 (upd I 37 v) W td rd tp A) := zmS_pI (by decide) (by decide) v
theorem zI_42 : nzgI (zmS h F0 I W td rd tp A) 73 13 42 = some (I 42) := zmo_gI zmo_S (by decide) (by decide)
theorem zP_42 (v : Int32) : nzput (zmS h F0 I W td rd tp A) 73 13 42 (.int v) = some (zmS h F0 (upd I 42 v) W td rd tp A) := zmS_pI (by decide) (by decide) v
theorem zR_17 : nzgR (zmS h F0 I W td rd tp A) 73 13 17 = some 75 := zmo_gR zmo_S (k := 17) (by decide) (by decide)
theorem zA_17 {i : Nat} (hi : i < 3) : nzaI (zmS h F0 I W td rd tp A) 75 (nI i) = some (A 17 i) := zmo_gA zmo_S (k := 17) (by decide) (by decide) hi
theorem zW_17 {i : Nat} (hi : i < 3) (v : Int32) : nzsI (zmS h F0 I W td rd tp A) 75 (nI i) v = some (zmS h F0 I W td rd tp (va_up A 17 (upd (A 17) i v))) := zmS_pA (k := 17) (by decide) (by decide) hi v
theorem zR_18 : nzgR (zmS h F0 I W td rd tp A) 73 13 18 = some 76 := zmo_gR zmo_S (k := 18) (by decide) (by decide)
theorem zA_18 {i : Nat} (hi : i < 18) : nzaI (zmS h F0 I W td rd tp A) 76 (nI i) = some (A 18 i) := zmo_gA zmo_S (k := 18) (by decide) (by decide) hi
theorem zW_18 {i : Nat} (hi : i < 18) (v : Int32) : nzsI (zmS h F0 I W td rd tp A) 76 (nI i) v = some (zmS h F0 I W td rd tp (va_up A 18 (upd (A 18) i v))) := zmS_pA (k := 18) (by decide) (by decide) hi v
theorem zR_22 : nzgR (zmS h F0 I W td rd tp A) 73 13 22 = some 77 := zmo_gR zmo_S (k := 22) (by decide) (by decide)
theorem zA_22 {i : Nat} (hi : i < 6) : nzaI (zmS h F0 I W td rd tp A) 77 (nI i) = some (A 22 i) := zmo_gA zmo_S (k := 22) (by decide) (by decide) hi
theorem zW_22 {i : Nat} (hi : i < 6) (v : Int32) : nzsI (zmS h F0 I W td rd tp A) 77 (nI i) v = some (zmS h F0 I W td rd tp (va_up A 22 (upd (A 22) i v))) := zmS_pA (k := 22) (by decide) (by decide) hi v
theorem zR_23 : nzgR (zmS h F0 I W td rd tp A) 73 13 23 = some 78 := zmo_gR zmo_S (k := 23) (by decide) (by decide)
theorem zA_23 {i : Nat} (hi : i < 6) : nzaI (zmS h F0 I W td rd tp A) 78 (nI i) = some (A 23 i) := zmo_gA zmo_S (k := 23) (by decide) (by decide) hi
theorem zW_23 {i : Nat} (hi : i < 6) (v : Int32) : nzsI (zmS h F0 I W td rd tp A) 78 (nI i) v = some (zmS h F0 I W td rd tp (va_up A 23 (upd (A 23) i v))) := zmS_pA (k := 23) (by decide) (by decide) hi v
theorem zR_26 : nzgR (zmS h F0 I W td rd tp A) 73 13 26 = some 79 := zmo_gR zmo_S (k := 26) (by decide) (by decide)
theorem zA_26 {i : Nat} (hi : i < 6) : nzaI (zmS h F0 I W td rd tp A) 79 (nI i) = some (A 26 i) := zmo_gA zmo_S (k := 26) (by decide) (by decide) hi
theorem zW_26 {i : Nat} (hi : i < 6) (v : Int32) : nzsI (zmS h F0 I W td rd tp A) 79 (nI i) v = some (zmS h F0 I W td rd tp (va_up A 26 (upd (A 26) i v))) := zmS_pA (k := 26) (by decide) (by decide) hi v
theorem zR_28 : nzgR (zmS h F0 I W td rd tp A) 73 13 28 = some 80 := zmo_gR zmo_S (k := 28) (by decide) (by decide)
theorem zA_28 {i : Nat} (hi : i < 6) : nzaI (zmS h F0 I W td rd tp A) 80 (nI i) = some (A 28 i) := zmo_gA zmo_S (k := 28) (by decide) (by decide) hi
theorem zW_28 {i : Nat} (hi : i < 6) (v : Int32) : nzsI (zmS h F0 I W td rd tp A) 80 (nI i) v = some (zmS h F0 I W td rd tp (va_up A 28 (upd (A 28) i v))) := zmS_pA (k := 28) (by decide) (by decide) hi v
theorem zR_29 : nzgR (zmS h F0 I W td rd tp A) 73 13 29 = some 81 := zmo_gR zmo_S (k := 29) (by decide) (by decide)
theorem zA_29 {i : Nat} (hi : i < 192) : nzaI (zmS h F0 I W td rd tp A) 81 (nI i) = some (A 29 i) := zmo_gA zmo_S (k := 29) (by decide) (by decide) hi
theorem zW_29 {i : Nat} (hi : i < 192) (v : Int32) : nzsI (zmS h F0 I W td rd tp A) 81 (nI i) v = some (zmS h F0 I W td rd tp (va_up A 29 (upd (A 29) i v))) := zmS_pA (k := 29) (by decide) (by decide) hi v
theorem zR_30 : nzgR (zmS h F0 I W td rd tp A) 73 13 30 = some 82 := zmo_gR zmo_S (k := 30) (by decide) (by decide)
theorem zA_30 {i : Nat} (hi : i < 192) : nzaI (zmS h F0 I W td rd tp A) 82 (nI i) = some (A 30 i) := zmo_gA zmo_S (k := 30) (by decide) (by decide) hi
theorem zW_30 {i : Nat} (hi : i < 192) (v : Int32) : nzsI (zmS h F0 I W td rd tp A) 82 (nI i) v = some (zmS h F0 I W td rd tp (va_up A 30 (upd (A 30) i v))) := zmS_pA (k := 30) (by decide) (by decide) hi v
theorem zR_31 : nzgR (zmS h F0 I W td rd tp A) 73 13 31 = some 83 := zmo_gR zmo_S (k := 31) (by decide) (by decide)
theorem zA_31 {i : Nat} (hi : i < 84) : nzaI (zmS h F0 I W td rd tp A) 83 (nI i) = some (A 31 i) := zmo_gA zmo_S (k := 31) (by decide) (by decide) hi
theorem zW_31 {i : Nat} (hi : i < 84) (v : Int32) : nzsI (zmS h F0 I W td rd tp A) 83 (nI i) v = some (zmS h F0 I W td rd tp (va_up A 31 (upd (A 31) i v))) := zmS_pA (k := 31) (by decide) (by decide) hi v
theorem zR_32 : nzgR (zmS h F0 I W td rd tp A) 73 13 32 = some 84 := zmo_gR zmo_S (k := 32) (by decide) (by decide)
theorem zA_32 {i : Nat} (hi : i < 14) : nzaI (zmS h F0 I W td rd tp A) 84 (nI i) = some (A 32 i) := zmo_gA zmo_S (k := 32) (by decide) (by decide) hi
theorem zW_32 {i : Nat} (hi : i < 14) (v : Int32) : nzsI (zmS h F0 I W td rd tp A) 84 (nI i) v = some (zmS h F0 I W td rd tp (va_up A 32 (upd (A 32) i v))) := zmS_pA (k := 32) (by decide) (by decide) hi v
theorem zR_35 : nzgR (zmS h F0 I W td rd tp A) 73 13 35 = some 85 := zmo_gR zmo_S (k := 35) (by decide) (by decide)
theorem zA_35 {i : Nat} (hi : i < 5) : nzaI (zmS h F0 I W td rd tp A) 85 (nI i) = some (A 35 i) := zmo_gA zmo_S (k := 35) (by decide) (by decide) hi
theorem zW_35 {i : Nat} (hi : i < 5) (v : Int32) : nzsI (zmS h F0 I W td rd tp A) 85 (nI i) v = some (zmS h F0 I W td rd tp (va_up A 35 (upd (A 35) i v))) := zmS_pA (k := 35) (by decide) (by decide) hi v
theorem zR_36 : nzgR (zmS h F0 I W td rd tp A) 73 13 36 = some 86 := zmo_gR zmo_S (k := 36) (by decide) (by decide)
theorem zA_36 {i : Nat} (hi : i < 5) : nzaI (zmS h F0 I W td rd tp A) 86 (nI i) = some (A 36 i) := zmo_gA zmo_S (k := 36) (by decide) (by decide) hi
theorem zW_36 {i : Nat} (hi : i < 5) (v : Int32) : nzsI (zmS h F0 I W td rd tp A) 86 (nI i) v = some (zmS h F0 I W td rd tp (va_up A 36 (upd (A 36) i v))) := zmS_pA (k := 36) (by decide) (by decide) hi v
theorem zR_38 : nzgR (zmS h F0 I W td rd tp A) 73 13 38 = some 87 := zmo_gR zmo_S (k := 38) (by decide) (by decide)
theorem zA_38 {i : Nat} (hi : i < 7) : nzaI (zmS h F0 I W td rd tp A) 87 (nI i) = some (A 38 i) := zmo_gA zmo_S (k := 38) (by decide) (by decide) hi
theorem zW_38 {i : Nat} (hi : i < 7) (v : Int32) : nzsI (zmS h F0 I W td rd tp A) 87 (nI i) v = some (zmS h F0 I W td rd tp (va_up A 38 (upd (A 38) i v))) := zmS_pA (k := 38) (by decide) (by decide) hi v
theorem zR_39 : nzgR (zmS h F0 I W td rd tp A) 73 13 39 = some 88 := zmo_gR zmo_S (k := 39) (by decide) (by decide)
theorem zA_39 {i : Nat} (hi : i < 6) : nzaI (zmS h F0 I W td rd tp A) 88 (nI i) = some (A 39 i) := zmo_gA zmo_S (k := 39) (by decide) (by decide) hi
theorem zW_39 {i : Nat} (hi : i < 6) (v : Int32) : nzsI (zmS h F0 I W td rd tp A) 88 (nI i) v = some (zmS h F0 I W td rd tp (va_up A 39 (upd (A 39) i v))) := zmS_pA (k := 39) (by decide) (by decide) hi v
theorem zR_40 : nzgR (zmS h F0 I W td rd tp A) 73 13 40 = some 89 := zmo_gR zmo_S (k := 40) (by decide) (by decide)
theorem zA_40 {i : Nat} (hi : i < 6) : nzaI (zmS h F0 I W td rd tp A) 89 (nI i) = some (A 40 i) := zmo_gA zmo_S (k := 40) (by decide) (by decide) hi
theorem zW_40 {i : Nat} (hi : i < 6) (v : Int32) : nzsI (zmS h F0 I W td rd tp A) 89 (nI i) v = some (zmS h F0 I W td rd tp (va_up A 40 (upd (A 40) i v))) := zmS_pA (k := 40) (by decide) (by decide) hi v
theorem zR_41 : nzgR (zmS h F0 I W td rd tp A) 73 13 41 = some 90 := zmo_gR zmo_S (k := 41) (by decide) (by decide)
theorem zA_41 {i : Nat} (hi : i < 60) : nzaI (zmS h F0 I W td rd tp A) 90 (nI i) = some (A 41 i) := zmo_gA zmo_S (k := 41) (by decide) (by decide) hi
theorem zW_41 {i : Nat} (hi : i < 60) (v : Int32) : nzsI (zmS h F0 I W td rd tp A) 90 (nI i) v = some (zmS h F0 I W td rd tp (va_up A 41 (upd (A 41) i v))) := zmS_pA (k := 41) (by decide) (by decide) hi v
theorem zR_43 : nzgR (zmS h F0 I W td rd tp A) 73 13 43 = some 91 := zmo_gR zmo_S (k := 43) (by decide) (by decide)
theorem zA_43 {i : Nat} (hi : i < 16) : nzaI (zmS h F0 I W td rd tp A) 91 (nI i) = some (A 43 i) := zmo_gA zmo_S (k := 43) (by decide) (by decide) hi
theorem zW_43 {i : Nat} (hi : i < 16) (v : Int32) : nzsI (zmS h F0 I W td rd tp A) 91 (nI i) v = some (zmS h F0 I W td rd tp (va_up A 43 (upd (A 43) i v))) := zmS_pA (k := 43) (by decide) (by decide) hi v
theorem zR_44 : nzgR (zmS h F0 I W td rd tp A) 73 13 44 = some 92 := zmo_gR zmo_S (k := 44) (by decide) (by decide)
theorem zA_44 {i : Nat} (hi : i < 16) : nzaI (zmS h F0 I W td rd tp A) 92 (nI i) = some (A 44 i) := zmo_gA zmo_S (k := 44) (by decide) (by decide) hi
theorem zW_44 {i : Nat} (hi : i < 16) (v : Int32) : nzsI (zmS h F0 I W td rd tp A) 92 (nI i) v = some (zmS h F0 I W td rd tp (va_up A 44 (upd (A 44) i v))) := zmS_pA (k := 44) (by decide) (by decide) hi v
theorem zR_45 : nzgR (zmS h F0 I W td rd tp A) 73 13 45 = some 93 := zmo_gR zmo_S (k := 45) (by decide) (by decide)
theorem zA_45 {i : Nat} (hi : i < 16) : nzaI (zmS h F0 I W td rd tp A) 93 (nI i) = some (A 45 i) := zmo_gA zmo_S (k := 45) (by decide) (by decide) hi
theorem zW_45 {i : Nat} (hi : i < 16) (v : Int32) : nzsI (zmS h F0 I W td rd tp A) 93 (nI i) v = some (zmS h F0 I W td rd tp (va_up A 45 (upd (A 45) i v))) := zmS_pA (k := 45) (by decide) (by decide) hi v
variable {J : Nat → Int32} {B : Nat → Nat → Int32} {Wd : Nat → Int64}
theorem zmd_S (E : zmd h t J B Wd) (ht : 94 ≤ t) : zmd (zmS h F0 I W td rd tp A) t J B Wd := zmd_sm E (fun a h0 _ => zmS_c (.inr (by omega)))
theorem zj (E : zmd h t J B Wd) (ht : 94 ≤ t) {k : Nat} (hk : k ≤ 10) : nzgI (zmS h F0 I W td rd tp A) t 12 k = some (J k) := zmd_I (zmd_S E ht) hk
theorem zdr (E : zmd h t J B Wd) (ht : 94 ≤ t) {k : Nat} (h1 : 11 ≤ k) (h2 : k ≤ 36) : nzgR (zmS h F0 I W td rd tp A) t 12 k = some (t + (k - 10)) := zmd_R (zmd_S E ht) h1 h2
theorem zda (E : zmd h t J B Wd) (ht : 94 ≤ t) {k i : Nat} (h1 : 11 ≤ k) (h2 : k ≤ 36) (h3 : k ≠ 24) (h4 : k ≠ 25) (h5 : k ≠ 34) (hi : i < zml k) : nzaI (zmS h F0 I W td rd tp A) (t + (k - 10)) (nI i) = some (B k i) := zmd_A (zmd_S E ht) h1 h2 h3 h4 h5 hi
theorem zdone (hd : 0 < d) (x : Int32) : nzxI d nX13_done [.ref 73, .int x] (zmS h F0 I W td rd tp A) = some (x, zmS h F0 (upd (upd I 1 0) 2 (-1)) W td rd tp A) := by
  refine iX13_done hd zmS_o ?_
  simp only [eX13_done_0, zP_1, zP_2, Option.bind_some]
theorem zrefu (hd : 0 < d) (x : Int32) : nzxI d nX13_refused [.ref 73, .int x] (zmS h F0 I W td rd tp A) = some (-1, zmS h F0 (upd (upd I 1 x) 2 (-1)) W td rd tp A) := by
  refine iX13_refused hd zmS_o ?_
  simp only [eX13_refused_0, zP_1, zP_2, Option.bind_some]
theorem zlost (hd : 1 < d) (x : Int32) : nzxI d nX13_lost [.ref 73, .int x] (zmS h F0 I W td rd tp A) = some (-1000, zmS h F0 (upd (upd I 1 x) 2 (-1)) W td rd tp A) := by
  refine iX13_lost (by omega) zmS_o ?_
  simp only [eX13_lost_0, zrefu (show 0 < d - 1 by omega), Option.bind_some]
end NZMS2
