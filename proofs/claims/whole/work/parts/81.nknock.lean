/-! whom to call first: class and reference say the same -/
section NZNK
variable {c g J : Nat → Int32} {B : Nat → Nat → Int32}
theorem zexP_n (D : zDR c g J B) {n : Nat} (hn : n = zcn c 6) {O : Nat → Nat} (hO : ∀ i, i < n → O i < n) (k : Nat) : ∀ (j i v M : Nat), i + j = n → v ≤ M → ∃ w, w ≤ M * 100 ^ j ∧ zit (zexP B O k) i j (lN v) = lN w := by
  intro j
  induction j with
  | zero => intro i v M _ hv; exact ⟨v, by omega, rfl⟩
  | succ j ih =>
    intro i v M hi hv
    have hO' := hO i (by omega)
    obtain ⟨-, a2, -, a4⟩ := zNg D (s := 6) (r := O i) (k := 1) (by decide) (by omega) (by decide) rfl (by decide)
    have e31 : B 31 (O i) = nI (zNv g 6 (O i) 1) := a2 (by decide)
    have e : ∃ f, f ≤ 100 ∧ zexP B O k i (lN v) = lN (v * f) := by
      rw [zexP]
      split
      · refine ⟨100 - zNv g 6 (O i) 1, by omega, ?_⟩
        rw [e31, show (100 : Int32) = nI 100 from rfl, nI_sub a4, nI_l (by omega), lN_mul]
      · exact ⟨100, by omega, by rw [show (100 : Int64) = lN 100 from rfl, lN_mul]⟩
    obtain ⟨f, f1, f2⟩ := e
    rw [zit, f2]
    obtain ⟨w, w1, w2⟩ := ih (i + 1) (v * f) (M * 100) (by omega) (Nat.mul_le_mul hv f1)
    exact ⟨w, by rw [Nat.pow_succ, Nat.mul_comm (100 ^ j), ← Nat.mul_assoc]; exact w1, w2⟩
theorem zexR_n (D : zDR c g J B) {n : Nat} (hn : n = zcn c 6) {O : Nat → Nat} (hO : ∀ i, i < n → O i < n) : ∃ V, V < 10 ^ 15 ∧ zexR B O n = lN V := by
  have h5 : zcn c 6 ≤ 5 := (D.1 6 (by decide)).2
  have : ∀ (j k s : Nat), k + j = n → ∃ V, V ≤ s + j * (60 * 100 ^ n) ∧ zit (zexK B O n) k j (lN s) = lN V := by
    intro j
    induction j with
    | zero => intro k s _; exact ⟨s, by omega, rfl⟩
    | succ j ih =>
      intro k s hk
      have hO' := hO k (by omega)
      obtain ⟨-, a2, -, a4⟩ := zNg D (s := 6) (r := O k) (k := 0) (by decide) (by omega) (by decide) rfl (by decide)
      have e30 : B 30 (O k) = nI (zNv g 6 (O k) 0) := a2 (by decide)
      obtain ⟨w, w1, w2⟩ := zexP_n D hn hO k n 0 (zNv g 6 (O k) 0) 60 (by omega) a4
      obtain ⟨V, V1, V2⟩ := ih (k + 1) (s + w) (by omega)
      refine ⟨V, ?_, ?_⟩
      · rw [Nat.add_mul, Nat.one_mul]
        omega
      · rw [zit, zexK, e30, nI_l (by omega), w2, lN_add]
        exact V2
  obtain ⟨V, V1, V2⟩ := this n 0 0 (by omega)
  refine ⟨V, ?_, V2⟩
  have p : (100 : Nat) ^ n ≤ 100 ^ 5 := Nat.pow_le_pow_right (by decide) (by omega)
  have : n * (60 * 100 ^ n) ≤ 5 * (60 * 100 ^ 5) := Nat.mul_le_mul (by omega) (Nat.mul_le_mul_left _ p)
  omega
/-- expected from the back is expected from the front -/
theorem zexp_R (D : zDR c g J B) {n : Nat} (hn : n = zcn c 6) {O : Nat → Nat} (hO : ∀ i, i < n → O i < n) {Oc : Nat → Int32} (hc : ∀ i, i < n → Oc i = nI (O i)) : (zexp c g Oc n (0, 1)).1 = zexR B O n := by
  have h5 : zcn c 6 ≤ 5 := (D.1 6 (by decide)).2
  have a : ∀ i, i < n → zget c g 6 (Oc i) 0 = B 30 (O i) ∧ zget c g 6 (Oc i) 1 = B 31 (O i) := fun i hi => by
    have hO' := hO i hi
    obtain ⟨a1, a2, -⟩ := zNg D (s := 6) (r := O i) (k := 0) (by decide) (by omega) (by decide) rfl (by decide)
    obtain ⟨b1, b2, -⟩ := zNg D (s := 6) (r := O i) (k := 1) (by decide) (by omega) (by decide) rfl (by decide)
    rw [hc i hi]
    exact ⟨a1.trans (a2 (by decide)).symm, b1.trans (b2 (by decide)).symm⟩
  clear hc hO
  obtain rfl | rfl | rfl | rfl | rfl | rfl : n = 0 ∨ n = 1 ∨ n = 2 ∨ n = 3 ∨ n = 4 ∨ n = 5 := by omega
  · rfl
  · simp only [zexp, zexR, zexK, zexP, zit, a 0 (by decide)]
    generalize (B 30 (O 0)).toInt64 = t0
    simp
  · simp only [zexp, zexR, zexK, zexP, zit, a 0 (by decide), a 1 (by decide)]
    generalize (B 30 (O 0)).toInt64 = t0
    generalize (B 30 (O 1)).toInt64 = t1
    generalize (100 - B 31 (O 0)).toInt64 = v0
    generalize (100 - B 31 (O 1)).toInt64 = v1
    simp
    grind
  · simp only [zexp, zexR, zexK, zexP, zit, a 0 (by decide), a 1 (by decide), a 2 (by decide)]
    generalize (B 30 (O 0)).toInt64 = t0
    generalize (B 30 (O 1)).toInt64 = t1
    generalize (B 30 (O 2)).toInt64 = t2
    generalize (100 - B 31 (O 0)).toInt64 = v0
    generalize (100 - B 31 (O 1)).toInt64 = v1
    generalize (100 - B 31 (O 2)).toInt64 = v2
    simp
    grind
  · simp only [zexp, zexR, zexK, zexP, zit, a 0 (by decide), a 1 (by decide), a 2 (by decide), a 3 (by decide)]
    generalize (B 30 (O 0)).toInt64 = t0
    generalize (B 30 (O 1)).toInt64 = t1
    generalize (B 30 (O 2)).toInt64 = t2
    generalize (B 30 (O 3)).toInt64 = t3
    generalize (100 - B 31 (O 0)).toInt64 = v0
    generalize (100 - B 31 (O 1)).toInt64 = v1
    generalize (100 - B 31 (O 2)).toInt64 = v2
    generalize (100 - B 31 (O 3)).toInt64 = v3
    simp
    grind
  · simp only [zexp, zexR, zexK, zexP, zit, a 0 (by decide), a 1 (by decide), a 2 (by decide), a 3 (by decide), a 4 (by decide)]
    generalize (B 30 (O 0)).toInt64 = t0
    generalize (B 30 (O 1)).toInt64 = t1
    generalize (B 30 (O 2)).toInt64 = t2
    generalize (B 30 (O 3)).toInt64 = t3
    generalize (B 30 (O 4)).toInt64 = t4
    generalize (100 - B 31 (O 0)).toInt64 = v0
    generalize (100 - B 31 (O 1)).toInt64 = v1
    generalize (100 - B 31 (O 2)).toInt64 = v2
    generalize (100 - B 31 (O 3)).toInt64 = v3
    generalize (100 - B 31 (O 4)).toInt64 = v4
    simp
    grind
end NZNK
