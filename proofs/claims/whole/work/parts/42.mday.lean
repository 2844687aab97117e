/-! the reference's Day (class 12) at t: fields 0 .. 10 are numbers I, 11 .. 36 are arrays at t + 1 .. t + 26, held by A (34: words) -/
def zml (k : Nat) : Nat := [3, 3, 6, 6, 4, 3, 3, 6, 6, 6, 6, 6, 6, 6, 3, 3, 3, 3, 3, 5, 5, 5, 5, 32, 32, 32].getD (k - 11) 0
def zmd (h : nzH) (t : Nat) (I : Nat → Int32) (A : Nat → Nat → Int32) (Wd : Nat → Int64) : Prop := (∃ F, zobj h t 12 F ∧ (∀ k, k ≤ 10 → F k = .int (I k)) ∧ ∀ k, 11 ≤ k → k ≤ 36 → F k = .ref (t + (k - 10))) ∧ (∀ k, 11 ≤ k → k ≤ 36 → k ≠ 24 → k ≠ 25 → k ≠ 34 → zarr h (t + (k - 10)) (zml k) (A k)) ∧ zboo h (t + 14) 6 (A 24) ∧ zboo h (t + 15) 3 (A 25) ∧ zlon h (t + 24) 32 Wd
theorem zml_le : ∀ k, k ≤ 36 → zml k ≤ 32 := by decide +kernel
section NZMD
variable {d t : Nat} {h : nzH} {I : Nat → Int32} {A : Nat → Nat → Int32} {Wd : Nat → Int64}
theorem zmd_sm {h1 : nzH} (D : zmd h t I A Wd) (s : zsm t (t + 27) h h1) : zmd h1 t I A Wd := by
  obtain ⟨⟨F, o, e1, e2⟩, a, b, c, w⟩ := D
  exact ⟨⟨F, (s t (by omega) (by omega)).trans o, e1, e2⟩, fun k h1 h2 h3 h4 h5 => (s (t + (k - 10)) (by omega) (by omega)).trans (a k h1 h2 h3 h4 h5), (s (t + 14) (by omega) (by omega)).trans b, (s (t + 15) (by omega) (by omega)).trans c, (s (t + 24) (by omega) (by omega)).trans w⟩
theorem zmd_I (D : zmd h t I A Wd) {k : Nat} (hk : k ≤ 10) : nzgI h t 12 k = some (I k) := by
  obtain ⟨⟨F, o, e1, e2⟩, -⟩ := D
  exact zg_I o (e1 k hk)
theorem zmd_R (D : zmd h t I A Wd) {k : Nat} (h1 : 11 ≤ k) (h2 : k ≤ 36) : nzgR h t 12 k = some (t + (k - 10)) := by
  obtain ⟨⟨F, o, e1, e2⟩, -⟩ := D
  exact zg_R o (e2 k h1 h2)
theorem zmd_A (D : zmd h t I A Wd) {k i : Nat} (h1 : 11 ≤ k) (h2 : k ≤ 36) (h3 : k ≠ 24) (h4 : k ≠ 25) (h5 : k ≠ 34) (hi : i < zml k) : nzaI h (t + (k - 10)) (nI i) = some (A k i) := by
  have := zml_le k h2
  exact za_In (D.2.1 k h1 h2 h3 h4 h5) hi (by omega)
def zmwf (A : Nat → Nat → Int32) (lo hi : Int32) (i : Nat) (a : Int32) : Int32 := a + (if A 16 i < lo then 0 else if hi ≤ A 16 i then 0 else A 17 i)
def zmway (A : Nat → Nat → Int32) (n : Nat) (x y : Int32) : Int32 := zit (zmwf A (if y ≤ x then y else x) (if y ≤ x then x else y)) 0 n ((if y ≤ x then x else y) - (if y ≤ x then y else x))
theorem jX12_way32 (D : zmd h t I A Wd) {n : Nat} (hn : n ≤ 3) (e : I 7 = nI n) (x y lo hi : Int32) : ∀ (j i : Nat) (a : Int32), i + j = n → nzr d nX12_way 32 [some (.ref t), some (.int x), some (.int y), some (.int lo), some (.int hi), some (.int a), some (.int (nI i))] [] h = some (some (.int (zit (zmwf A lo hi) i j a)), h) := by
  have g7 := zmd_I D (k := 7) (by decide)
  have g16 := zmd_R D (k := 16) (by decide) (by decide)
  have g17 := zmd_R D (k := 17) (by decide) (by decide)
  intro j
  induction j with
  | zero =>
    intro i a hi'
    rw [eX12_way_32, g7, Option.bind_some, e, if_pos (nI_le (by omega) (by omega))]
    rfl
  | succ j ih =>
    intro i a hi'
    have a16 := zmd_A D (k := 16) (i := i) (by decide) (by decide) (by decide) (by decide) (by decide) (show i < 3 by omega)
    have a17 := zmd_A D (k := 17) (i := i) (by decide) (by decide) (by decide) (by decide) (by decide) (show i < 3 by omega)
    rw [eX12_way_32, g7, Option.bind_some, e, if_neg (nI_ge (by omega) (by omega)), g16, Option.bind_some, a16, Option.bind_some]
    simp only [g17, Option.bind_some, a17, a16, eX12_way_76, eX12_way_77, nI_1]
    rw [zit, zmwf]
    by_cases z1 : A 16 i < lo
    · rw [if_pos z1, if_pos z1]
      exact ih (i + 1) _ (by omega)
    · rw [if_neg z1, if_neg z1]
      by_cases z2 : hi ≤ A 16 i
      · rw [if_pos z2, if_pos z2]
        exact ih (i + 1) _ (by omega)
      · rw [if_neg z2, if_neg z2]
        exact ih (i + 1) _ (by omega)
theorem jX12_way (D : zmd h t I A Wd) (hd : 0 < d) {n : Nat} (hn : n ≤ 3) (e : I 7 = nI n) (x y : Int32) : nzxI d nX12_way [.ref t, .int x, .int y] h = some (zmway A n x y, h) := by
  refine iX12_way hd D.1.choose_spec.1 ?_
  simp only [eX12_way_0, eX12_way_10, eX12_way_21, zmway]
  by_cases z : y ≤ x
  · simp only [if_pos z]
    exact jX12_way32 D hn e _ _ _ _ n 0 _ (by omega)
  · simp only [if_neg z]
    exact jX12_way32 D hn e _ _ _ _ n 0 _ (by omega)
theorem jX12_fd2 (D : zmd h t I A Wd) {n : Nat} (hn : n ≤ 32) (e : I 10 = nI n) (w : Int64) : ∀ (j i : Nat), i + j = n → nzr d nX12_find 2 [some (.ref t), some (.long w), none, some (.int (nI i))] [] h = some (some (.int (zfnd Wd w i j)), h) := by
  have g10 := zmd_I D (k := 10) (by decide)
  have g34 := zmd_R D (k := 34) (by decide) (by decide)
  intro j
  induction j with
  | zero =>
    intro i hi
    rw [eX12_find_2, g10, Option.bind_some, e, if_pos (nI_le (by omega) (by omega))]
    rfl
  | succ j ih =>
    intro i hi
    rw [eX12_find_2, g10, Option.bind_some, e, if_neg (nI_ge (by omega) (by omega)), g34, Option.bind_some, za_Ln D.2.2.2.2 (show i < 32 by omega) (by decide), Option.bind_some, zfnd, nI_1]
    split
    · rfl
    · exact ih (i + 1) (by omega)
theorem jX12_find (D : zmd h t I A Wd) (hd : 0 < d) {n : Nat} (hn : n ≤ 32) (e : I 10 = nI n) (w : Int64) : nzxI d nX12_find [.ref t, .long w] h = some (zfnd Wd w 0 n, h) := by
  refine iX12_find hd D.1.choose_spec.1 ?_
  rw [eX12_find_0]
  exact jX12_fd2 D hn e w n 0 (by omega)
end NZMD
/-- the class's way is the reference's -/
theorem zway_eq {c g : Nat → Int32} {A : Nat → Nat → Int32} {n : Nat} (h : ∀ i, i < n → zget c g 5 (nI i) 0 = A 16 i ∧ zget c g 5 (nI i) 1 = A 17 i) (x y : Int32) : zway c g n x y = zmway A n x y := by
  have e1 : (if y < x then y else x) = (if y ≤ x then y else x) := by
    by_cases z : y ≤ x
    · rw [if_pos z]
      split
      · rfl
      · rename_i w
        rw [Int32.lt_iff_toInt_lt] at w
        rw [Int32.le_iff_toInt_le] at z
        exact Int32.toInt_inj.mp (by omega)
    · rw [if_neg z, if_neg (by rw [Int32.lt_iff_toInt_lt]; rw [Int32.le_iff_toInt_le] at z; omega)]
  have e2 : (if x < y then y else x) = (if y ≤ x then x else y) := by
    by_cases z : y ≤ x
    · rw [if_pos z, if_neg (by rw [Int32.lt_iff_toInt_lt]; rw [Int32.le_iff_toInt_le] at z; omega)]
    · rw [if_neg z, if_pos (by rw [Int32.lt_iff_toInt_lt]; rw [Int32.le_iff_toInt_le] at z; omega)]
  rw [zway, zmway, e1, e2]
  generalize (if y ≤ x then y else x) = lo
  generalize (if y ≤ x then x else y) = hi
  refine zit_congr n 0 _ (fun i _ hi' b => ?_)
  rw [zwayf, zmwf, (h i (by omega)).1, (h i (by omega)).2]
  split
  · exact (Int32.add_zero b).symm
  · split
    · exact (Int32.add_zero b).symm
    · rfl
