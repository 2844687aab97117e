/-! the reference: what reads alone -/
section NZMR
variable {d t : Nat} {h : nzH} {I : Nat → Int32} {W : Int64} {td rd : Option Nat} {tp : Nat → Int32} {A : Nat → Nat → Int32} {J : Nat → Int32} {B : Nat → Nat → Int32} {Wd : Nat → Int64}
theorem jX13_isCar0 (D : zmo h I W none rd tp A) (hd : 0 < d) (x : Int32) : nzxI d nX13_isCar [.ref 73, .int x] h = some (0, h) := by
  refine iX13_isCar hd D.1.choose_spec.1 ?_
  rw [eX13_isCar_0, zmo_td0 D, Option.bind_some, if_pos rfl, eX13_isCar_26]
theorem jX13_isHouse0 (D : zmo h I W none rd tp A) (hd : 0 < d) (x : Int32) : nzxI d nX13_isHouse [.ref 73, .int x] h = some (0, h) := by
  refine iX13_isHouse hd D.1.choose_spec.1 ?_
  rw [eX13_isHouse_0, zmo_td0 D, Option.bind_some, if_pos rfl, eX13_isHouse_26]
theorem jX13_isDish0 (D : zmo h I W none rd tp A) (hd : 0 < d) (x : Int32) : nzxI d nX13_isDish [.ref 73, .int x] h = some (0, h) := by
  refine iX13_isDish hd D.1.choose_spec.1 ?_
  rw [eX13_isDish_0, zmo_td0 D, Option.bind_some, if_pos rfl, eX13_isDish_26]
theorem jX13_isCar (D : zmo h I W (some t) rd tp A) (E : zmd h t J B Wd) (hd : 0 < d) (x : Int32) : nzxI d nX13_isCar [.ref 73, .int x] h = some (if x < 0 then 0 else if J 6 ≤ x then 0 else 1, h) := by
  have g := zmo_td D
  refine iX13_isCar hd D.1.choose_spec.1 ?_
  rw [eX13_isCar_0, g.1, Option.bind_some, if_neg (show ¬ (some t = none) by simp), g.2, Option.bind_some, zmd_I E (by decide), Option.bind_some, eX13_isCar_26]
  split
  · rfl
  · split <;> rfl
theorem jX13_isHouse (D : zmo h I W (some t) rd tp A) (E : zmd h t J B Wd) (hd : 0 < d) (x : Int32) : nzxI d nX13_isHouse [.ref 73, .int x] h = some (if x < 0 then 0 else if J 5 ≤ x then 0 else 1, h) := by
  have g := zmo_td D
  refine iX13_isHouse hd D.1.choose_spec.1 ?_
  rw [eX13_isHouse_0, g.1, Option.bind_some, if_neg (show ¬ (some t = none) by simp), g.2, Option.bind_some, zmd_I E (by decide), Option.bind_some, eX13_isHouse_26]
  split
  · rfl
  · split <;> rfl
theorem jX13_isDish (D : zmo h I W (some t) rd tp A) (E : zmd h t J B Wd) (hd : 0 < d) (x : Int32) : nzxI d nX13_isDish [.ref 73, .int x] h = some (if x < 0 then 0 else if J 3 ≤ x then 0 else 1, h) := by
  have g := zmo_td D
  refine iX13_isDish hd D.1.choose_spec.1 ?_
  rw [eX13_isDish_0, g.1, Option.bind_some, if_neg (show ¬ (some t = none) by simp), g.2, Option.bind_some, zmd_I E (by decide), Option.bind_some, eX13_isDish_26]
  split
  · rfl
  · split <;> rfl
theorem jX13_barred (D : zmo h I W (some t) rd tp A) (E : zmd h t J B Wd) (hd : 0 < d) {i k : Nat} (hi : i < 4) (hk : k < 6) : nzxI d nX13_barred [.ref 73, .int (nI i), .int (nI k)] h = some (B 13 k &&& B 15 i, h) := by
  have g := zmo_td D
  have a13 := zmd_A E (k := 13) (i := k) (by decide) (by decide) (by decide) (by decide) (by decide) hk
  have a15 := zmd_A E (k := 15) (i := i) (by decide) (by decide) (by decide) (by decide) (by decide) hi
  refine iX13_barred hd D.1.choose_spec.1 ?_
  rw [eX13_barred_0, g.2, Option.bind_some, zmd_R E (k := 13) (by decide) (by decide), Option.bind_some, a13, Option.bind_some, Option.bind_some, zmd_R E (k := 15) (by decide) (by decide), Option.bind_some, a15, Option.bind_some]
theorem jX13_heatBy (D : zmo h I W (some t) rd tp A) (E : zmd h t J B Wd) (hd : 0 < d) {i k : Nat} (hi : i < 3) (hk : k < 3) (ek : B 26 i = nI k) (x : Int32) : nzxI d nX13_heatBy [.ref 73, .int (nI i), .int x] h = some (B 12 k - (B 29 i * (x - B 27 i)) / 10, h) := by
  have g := zmo_td D
  have a26 := zmd_A E (k := 26) (i := i) (by decide) (by decide) (by decide) (by decide) (by decide) hi
  have a12 := zmd_A E (k := 12) (i := k) (by decide) (by decide) (by decide) (by decide) (by decide) hk
  have a29 := zmd_A E (k := 29) (i := i) (by decide) (by decide) (by decide) (by decide) (by decide) hi
  have a27 := zmd_A E (k := 27) (i := i) (by decide) (by decide) (by decide) (by decide) (by decide) hi
  rw [ek] at a26
  refine iX13_heatBy hd D.1.choose_spec.1 ?_
  simp only [eX13_heatBy_0, g.2, Option.bind_some, zmd_R E (k := 12) (by decide) (by decide), zmd_R E (k := 26) (by decide) (by decide), zmd_R E (k := 27) (by decide) (by decide), zmd_R E (k := 29) (by decide) (by decide), a26, a12, a29, a27]
/-- the reference's rounds told as the class's: N how many, R which -/
def zmrr (A : Nat → Nat → Int32) (N : Nat → Nat) (R : Nat → Nat → Nat) : Prop := ∀ i, i < 3 → A 17 i = nI (N i) ∧ N i ≤ 6 ∧ ∀ k, k < N i → A 18 (6 * i + k) = nI (R i k) ∧ R i k < 6
theorem jX13_car15 {N : Nat → Nat} {R : Nat → Nat → Nat} (D : zmo h I W (some t) rd tp A) (M : zmrr A N R) (x : Int32) {k : Nat} (hk : k < 3) {r : nzO} (hr : ∀ u, nzr d nX13_carOf 2 [some (.ref 73), some (.int x), some (.int (nI (k + 1))), u] [] h = r) : ∀ (j i : Nat), i + j = N k → nzr d nX13_carOf 15 [some (.ref 73), some (.int x), some (.int (nI k)), some (.int (nI i))] [] h = if zhas (R k) x i j then some (some (.int (nI k)), h) else r := by
  obtain ⟨m1, m2, m3⟩ := M k hk
  have g17 := zmo_gR D (k := 17) (by decide) (by decide)
  have g18 := zmo_gR D (k := 18) (by decide) (by decide)
  have a17 := zmo_gA D (k := 17) (i := k) (by decide) (by decide) hk
  rw [m1] at a17
  intro j
  induction j with
  | zero =>
    intro i hi
    rw [eX13_carOf_15, g17, Option.bind_some, a17, Option.bind_some, if_pos (nI_le (by omega) (by omega)), nI_1, hr]
    rfl
  | succ j ih =>
    intro i hi
    have a18 := zmo_gA D (k := 18) (i := 6 * k + i) (by decide) (by decide) (show 6 * k + i < 18 by omega)
    rw [(m3 i (by omega)).1] at a18
    rw [eX13_carOf_15, g17, Option.bind_some, a17, Option.bind_some, if_neg (nI_ge (by omega) (by omega)), g18, Option.bind_some, show 6 * nI k + nI i = nI (6 * k + i) by rw [show (6 : Int32) = nI 6 from rfl, pk_mul, nI_add], a18, Option.bind_some, zhas]
    by_cases q : nI (R k i) = x
    · rw [if_pos q, if_pos q]
      rfl
    · rw [if_neg q, if_neg q, nI_1, ih (i + 1) (by omega)]
theorem jX13_car2 {N : Nat → Nat} {R : Nat → Nat → Nat} (D : zmo h I W (some t) rd tp A) (E : zmd h t J B Wd) (M : zmrr A N R) {m : Nat} (hm : m ≤ 3) (em : J 6 = nI m) (x : Int32) : ∀ (j k : Nat) (u : Option Value), k + j = m → nzr d nX13_carOf 2 [some (.ref 73), some (.int x), some (.int (nI k)), u] [] h = some (some (.int (zcar N R x k j)), h) := by
  have g := zmo_td D
  intro j
  induction j with
  | zero =>
    intro k u hk
    rw [eX13_carOf_2, g.2, Option.bind_some, zmd_I E (by decide), Option.bind_some, em, if_pos (nI_le (by omega) (by omega))]
    rfl
  | succ j ih =>
    intro k u hk
    rw [eX13_carOf_2, g.2, Option.bind_some, zmd_I E (by decide), Option.bind_some, em, if_neg (nI_ge (by omega) (by omega))]
    refine (jX13_car15 D M x (show k < 3 by omega) (fun u => ih (k + 1) u (by omega)) (N k) 0 (by omega)).trans ?_
    rw [zcar]
    split <;> rfl
theorem jX13_carOf {N : Nat → Nat} {R : Nat → Nat → Nat} (D : zmo h I W (some t) rd tp A) (E : zmd h t J B Wd) (M : zmrr A N R) {m : Nat} (hm : m ≤ 3) (em : J 6 = nI m) (hd : 0 < d) (x : Int32) : nzxI d nX13_carOf [.ref 73, .int x] h = some (zcar N R x 0 m, h) := by
  refine iX13_carOf hd D.1.choose_spec.1 ?_
  rw [eX13_carOf_0]
  exact jX13_car2 D E M hm em x m 0 none (by omega)
end NZMR
