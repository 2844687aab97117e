/-! a day in natural numbers: both sides say the same -/
def zNv (g : Nat → Int32) (s r k : Nat) : Nat := (g ((s * 6 + r) * 7 + k)).toNatClampNeg
theorem zNv_of {c g J : Nat → Int32} {B : Nat → Nat → Int32} (D : zDR c g J B) {s r k a b : Nat} (hs : s < 9) (hr : r < zcn c s) (hk : k < zcol s) (hb : zbd s k = some (a, b)) (h31 : b < 2 ^ 31) : g ((s * 6 + r) * 7 + k) = nI (zNv g s r k) ∧ a ≤ zNv g s r k ∧ zNv g s r k ≤ b := by
  obtain ⟨v, v1, v2, v3⟩ := D.2.2.2.1 s r k a b hs hr hk hb
  have : zNv g s r k = v := by rw [zNv, v3, nI_clamp (by omega)]
  rw [this]
  exact ⟨v3, v1, v2⟩
theorem zNv_diet {c g J : Nat → Int32} {B : Nat → Nat → Int32} (D : zDR c g J B) {r : Nat} (hr : r < zcn c 3) : g ((3 * 6 + r) * 7 + 1) = nI (zNv g 3 r 1) ∧ zNv g 3 r 1 < zcn c 2 ∧ zNv g 3 r 1 < 4 := by
  obtain ⟨v, v1, v2⟩ := D.2.2.2.2.1 r hr
  have h4 : zcn c 2 ≤ 4 := (D.1 2 (by decide)).2
  have : zNv g 3 r 1 = v := by rw [zNv, v2, nI_clamp (by omega)]
  rw [this]
  exact ⟨v2, v1, by omega⟩
theorem zNv_kit {c g J : Nat → Int32} {B : Nat → Nat → Int32} (D : zDR c g J B) {r : Nat} (hr : r < zcn c 4) : g ((4 * 6 + r) * 7 + 0) = nI (zNv g 4 r 0) ∧ zNv g 4 r 0 < zcn c 0 ∧ zNv g 4 r 0 < 3 := by
  obtain ⟨v, v1, v2⟩ := D.2.2.2.2.2.1 r hr
  have h4 : zcn c 0 ≤ 3 := (D.1 0 (by decide)).2
  have : zNv g 4 r 0 = v := by rw [zNv, v2, nI_clamp (by omega)]
  rw [this]
  exact ⟨v2, v1, by omega⟩
theorem zget_g {c g J : Nat → Int32} {B : Nat → Nat → Int32} (D : zDR c g J B) {s r k : Nat} (hs : s < 9) (hr : r < zcn c s) (hk : k < 7) : zget c g (nI s) (nI r) (nI k) = g ((s * 6 + r) * 7 + k) := zget_n hs (Nat.le_trans (D.1 s hs).2 (zroom_I s hs).2) (D.1 s hs).1 hr hk
/-- a column of numbers, as class and reference have it -/
theorem zNg {c g J : Nat → Int32} {B : Nat → Nat → Int32} (D : zDR c g J B) {s r k a b : Nat} (hs : s < 9) (hr : r < zcn c s) (hk : k < zcol s) (hb : zbd s k = some (a, b)) (h31 : b < 2 ^ 31) : zget c g (nI s) (nI r) (nI k) = nI (zNv g s r k) ∧ (s < 8 → B (zfl s k) r = nI (zNv g s r k)) ∧ a ≤ zNv g s r k ∧ zNv g s r k ≤ b := by
  obtain ⟨h1, h2, h3⟩ := zNv_of D hs hr hk hb h31
  have k7 := zcol_7 s hs
  exact ⟨(zget_g D hs hr (by omega)).trans h1, fun h8 => (D.2.2.1 s r k h8 hr hk).trans h1, h2, h3⟩
def zNwS (g : Nat → Int32) (lo hi : Nat) (i a : Nat) : Nat := if zNv g 5 i 0 < lo then a else if hi ≤ zNv g 5 i 0 then a else a + zNv g 5 i 1
def zNw (g : Nat → Int32) (nf X Y : Nat) : Nat := zit (zNwS g (if Y ≤ X then Y else X) (if Y ≤ X then X else Y)) 0 nf ((if Y ≤ X then X else Y) - (if Y ≤ X then Y else X))
def zNbd (g : Nat → Int32) (q M : Nat) : Bool := decide (zNv g 8 0 1 < M) || decide (zNv g 0 (zNv g 4 q 0) 1 < zNv g 8 0 0 + zNv g 4 q 3 * (M - zNv g 4 q 1) / 10)
def zNst (g : Nat → Int32) (q x : Nat) : Nat := zNv g 3 x 2 + (if zNv g 3 x 6 = 1 ∧ zNv g 4 q 4 = 1 then 5 else 0)
section NZND
variable {c g J : Nat → Int32} {B : Nat → Nat → Int32}
theorem zNw_le (D : zDR c g J B) {lo hi : Nat} : ∀ (j i a : Nat), i + j = zcn c 5 → zit (zNwS g lo hi) i j a ≤ a + 60 * j := by
  intro j
  induction j with
  | zero => intro i a _; exact Nat.le_refl _
  | succ j ih =>
    intro i a hi'
    obtain ⟨-, -, h3⟩ := zNv_of D (s := 5) (r := i) (k := 1) (by decide) (by omega) (by decide) rfl (by decide)
    have := ih (i + 1) (zNwS g lo hi i a) (by omega)
    rw [zit]
    refine Nat.le_trans this ?_
    rw [zNwS]
    split
    · omega
    · split <;> omega
theorem zNw_I (D : zDR c g J B) {lo hi : Nat} (hlo : lo ≤ 99) (hhi : hi ≤ 99) : ∀ (j i a : Nat), i + j = zcn c 5 → zit (zmwf B (nI lo) (nI hi)) i j (nI a) = nI (zit (zNwS g lo hi) i j a) := by
  intro j
  induction j with
  | zero => intro i a _; rfl
  | succ j ih =>
    intro i a hi'
    obtain ⟨-, h2, -, h4⟩ := zNg D (s := 5) (r := i) (k := 0) (by decide) (by omega) (by decide) rfl (by decide)
    obtain ⟨-, k2, -, k4⟩ := zNg D (s := 5) (r := i) (k := 1) (by decide) (by omega) (by decide) rfl (by decide)
    have e16 : B 16 i = nI (zNv g 5 i 0) := h2 (by decide)
    have e17 : B 17 i = nI (zNv g 5 i 1) := k2 (by decide)
    have e : zmwf B (nI lo) (nI hi) i (nI a) = nI (zNwS g lo hi i a) := by
      rw [zmwf, e16, e17, zNwS]
      by_cases y1 : zNv g 5 i 0 < lo
      · rw [if_pos (nI_lt y1 (by omega)), if_pos y1, Int32.add_zero]
      · rw [if_neg (nI_nlt (by omega) (by omega)), if_neg y1]
        by_cases y2 : hi ≤ zNv g 5 i 0
        · rw [if_pos (nI_le y2 (by omega)), if_pos y2, Int32.add_zero]
        · rw [if_neg (nI_ge (by omega) (by omega)), if_neg y2, nI_add]
    rw [zit, zit, e]
    exact ih (i + 1) _ (by omega)
theorem zNw_m (D : zDR c g J B) {X Y : Nat} (hX : X ≤ 99) (hY : Y ≤ 99) : zmway B (zcn c 5) (nI X) (nI Y) = nI (zNw g (zcn c 5) X Y) ∧ zNw g (zcn c 5) X Y ≤ 279 := by
  have h3 : zcn c 5 ≤ 3 := (D.1 5 (by decide)).2
  rw [zmway, zNw]
  by_cases y : Y ≤ X
  · have y' : nI Y ≤ nI X := nI_le y (by omega)
    simp only [if_pos y, if_pos y']
    rw [nI_sub y, zNw_I D hY hX _ 0 _ (by omega)]
    refine ⟨rfl, ?_⟩
    have := zNw_le D (lo := Y) (hi := X) (zcn c 5) 0 (X - Y) (by omega)
    omega
  · have y' : ¬ nI Y ≤ nI X := nI_ge (by omega) (by omega)
    simp only [if_neg y, if_neg y']
    rw [nI_sub (by omega), zNw_I D hX hY _ 0 _ (by omega)]
    refine ⟨rfl, ?_⟩
    have := zNw_le D (lo := X) (hi := Y) (zcn c 5) 0 (Y - X) (by omega)
    omega
theorem zNw_c (D : zDR c g J B) {X Y : Nat} (hX : X ≤ 99) (hY : Y ≤ 99) : zway c g (zcn c 5) (nI X) (nI Y) = nI (zNw g (zcn c 5) X Y) := by
  rw [← (zNw_m D hX hY).1]
  refine zway_eq (fun i hi => ?_) _ _
  obtain ⟨h1, h2, -⟩ := zNg D (s := 5) (r := i) (k := 0) (by decide) hi (by decide) rfl (by decide)
  obtain ⟨k1, k2, -⟩ := zNg D (s := 5) (r := i) (k := 1) (by decide) hi (by decide) rfl (by decide)
  exact ⟨h1.trans (h2 (by decide)).symm, k1.trans (k2 (by decide)).symm⟩
theorem zfld_n : ∀ a : Nat, a < 2 ^ 31 → zfld (nI a) 10 = nI (a / 10) := by
  intro a ha
  have h0 : 0 ≤ (nI a ^^^ 10) := by
    rw [Int32.le_iff_toInt_le]
    have e : (nI a ^^^ 10).toBitVec = (nI a).toBitVec ^^^ (10 : Int32).toBitVec := Int32.toBitVec_xor _ _
    have m1 : (nI a).toBitVec.msb = false := by
      rw [BitVec.msb_eq_decide]
      have : (nI a).toBitVec.toNat = a := by
        have := nI_toInt ha
        rw [← Int32.toInt_toBitVec] at this
        have hh := BitVec.toInt_eq_toNat_cond (nI a).toBitVec
        rw [this] at hh
        split at hh
        · omega
        · have := (nI a).toBitVec.isLt
          omega
      rw [this]
      simp
      omega
    have m2 : (10 : Int32).toBitVec.msb = false := by decide
    have m3 : (nI a ^^^ 10).toBitVec.msb = false := by rw [e, BitVec.msb_xor, m1, m2]; rfl
    rw [← Int32.toInt_toBitVec (nI a ^^^ 10), BitVec.toInt_eq_msb_cond, m3]
    simp
  rw [zfld, if_pos h0, show (10 : Int32) = nI 10 from rfl, pk_div ha (by decide) (by decide)]
/-- a plate is bad, on both sides -/
theorem zNbd_c (D : zDR c g J B) (h8 : 0 < zcn c 8) {q M : Nat} (hq : q < zcn c 4) (h1 : zNv g 4 q 1 ≤ M) (h2 : M ≤ 9999) : zbad c g (nI q) (nI M) = zNbd g q M ∧ (J 1 < nI M ↔ zNv g 8 0 1 < M) ∧ (J 0 ≤ zmht B q (zNv g 4 q 0) (nI M) ↔ ¬ zNv g 0 (zNv g 4 q 0) 1 < zNv g 8 0 0 + zNv g 4 q 3 * (M - zNv g 4 q 1) / 10) ∧ zheat c g (nI q) (nI M) = zmht B q (zNv g 4 q 0) (nI M) := by
  obtain ⟨a1, -, a3, a4⟩ := zNg D (s := 8) (r := 0) (k := 0) (by decide) h8 (by decide) rfl (by decide)
  obtain ⟨b1, -, b3, b4⟩ := zNg D (s := 8) (r := 0) (k := 1) (by decide) h8 (by decide) rfl (by decide)
  obtain ⟨s1, s2, s3, s4⟩ := zNg D (s := 4) (r := q) (k := 1) (by decide) hq (by decide) rfl (by decide)
  obtain ⟨k1, k2, k3, k4⟩ := zNg D (s := 4) (r := q) (k := 3) (by decide) hq (by decide) rfl (by decide)
  obtain ⟨t1, t2, t3⟩ := zNv_kit D hq
  obtain ⟨u1, u2, u3, u4⟩ := zNg D (s := 0) (r := zNv g 4 q 0) (k := 1) (by decide) t2 (by decide) rfl (by decide)
  have j0 : J 0 = nI (zNv g 8 0 0) := (D.2.2.2.2.2.2.2.2 h8).1.trans (zNv_of D (s := 8) (r := 0) (k := 0) (by decide) h8 (by decide) rfl (by decide)).1
  have j1 : J 1 = nI (zNv g 8 0 1) := (D.2.2.2.2.2.2.2.2 h8).2.trans (zNv_of D (s := 8) (r := 0) (k := 1) (by decide) h8 (by decide) rfl (by decide)).1
  have kk : zget c g 4 (nI q) 0 = nI (zNv g 4 q 0) := (zget_g D (s := 4) (r := q) (k := 0) (by decide) hq (by decide)).trans t1
  have e12 : B 12 (zNv g 4 q 0) = nI (zNv g 0 (zNv g 4 q 0) 1) := u2 (by decide)
  have e29 : B 29 q = nI (zNv g 4 q 3) := k2 (by decide)
  have e27 : B 27 q = nI (zNv g 4 q 1) := s2 (by decide)
  have pr : zNv g 4 q 3 * (M - zNv g 4 q 1) ≤ 50 * 9999 := Nat.mul_le_mul k4 (by omega)
  have hm : zmht B q (zNv g 4 q 0) (nI M) = nI (zNv g 0 (zNv g 4 q 0) 1) - nI (zNv g 4 q 3 * (M - zNv g 4 q 1) / 10) := by
    rw [zmht, e12, e29, e27, nI_sub h1, pk_mul, show (10 : Int32) = nI 10 from rfl, pk_div (by omega) (by decide) (by decide)]
  have hh : zheat c g (nI q) (nI M) = zmht B q (zNv g 4 q 0) (nI M) := by
    rw [hm, zheat, kk, show zget c g 0 (nI (zNv g 4 q 0)) 1 = nI (zNv g 0 (zNv g 4 q 0) 1) from u1, show zget c g 4 (nI q) 3 = nI (zNv g 4 q 3) from k1, show zget c g 4 (nI q) 1 = nI (zNv g 4 q 1) from s1, nI_sub h1, pk_mul, zfld_n _ (by omega)]
  have q10 : zNv g 4 q 3 * (M - zNv g 4 q 1) / 10 ≤ 50000 := by omega
  have le : J 0 ≤ zmht B q (zNv g 4 q 0) (nI M) ↔ ¬ zNv g 0 (zNv g 4 q 0) 1 < zNv g 8 0 0 + zNv g 4 q 3 * (M - zNv g 4 q 1) / 10 := by
    rw [hm, j0, Int32.le_iff_toInt_le, nI_toInt (by omega)]
    generalize zNv g 4 q 3 * (M - zNv g 4 q 1) / 10 = z at q10
    by_cases y : z ≤ zNv g 0 (zNv g 4 q 0) 1
    · rw [nI_sub y, nI_toInt (by omega)]
      omega
    · have : (nI (zNv g 0 (zNv g 4 q 0) 1) - nI z).toInt = (zNv g 0 (zNv g 4 q 0) 1 : Int) - z := by
        rw [Int32.toInt_sub, nI_toInt (by omega), nI_toInt (by omega), Int.bmod_eq_of_le (by omega) (by omega)]
      rw [this]
      omega
  have lt : J 1 < nI M ↔ zNv g 8 0 1 < M := by rw [j1, nI_ltI (by omega) (by omega)]
  refine ⟨?_, lt, le, hh⟩
  rw [zbad, zNbd, hh, show zget c g 8 0 1 = J 1 from b1.trans j1.symm, show zget c g 8 0 0 = J 0 from a1.trans j0.symm]
  congr 1
  · exact decide_eq_decide.mpr lt
  · refine decide_eq_decide.mpr ?_
    have : zmht B q (zNv g 4 q 0) (nI M) < J 0 ↔ ¬ J 0 ≤ zmht B q (zNv g 4 q 0) (nI M) := by
      rw [Int32.lt_iff_toInt_lt, Int32.le_iff_toInt_le]
      omega
    rw [this, le, Classical.not_not]
theorem zNst_c (D : zDR c g J B) {q x : Nat} (hq : q < zcn c 4) (hx : x < zcn c 3) : zstay c g (nI q) (nI x) = nI (zNst g q x) ∧ B 20 x + (if B 24 x = 0 then 0 else if B 25 q = 0 then 0 else 5) = nI (zNst g q x) ∧ zNst g q x ≤ 35 := by
  obtain ⟨a1, a2, a3, a4⟩ := zNg D (s := 3) (r := x) (k := 2) (by decide) hx (by decide) rfl (by decide)
  obtain ⟨b1, b2, b3, b4⟩ := zNg D (s := 3) (r := x) (k := 6) (by decide) hx (by decide) rfl (by decide)
  obtain ⟨d1, d2, d3, d4⟩ := zNg D (s := 4) (r := q) (k := 4) (by decide) hq (by decide) rfl (by decide)
  have e20 : B 20 x = nI (zNv g 3 x 2) := a2 (by decide)
  have e24 : B 24 x = nI (zNv g 3 x 6) := b2 (by decide)
  have e25 : B 25 q = nI (zNv g 4 q 4) := d2 (by decide)
  rw [zstay, show zget c g 3 (nI x) 2 = nI (zNv g 3 x 2) from a1, show zget c g 3 (nI x) 6 = nI (zNv g 3 x 6) from b1, show zget c g 4 (nI q) 4 = nI (zNv g 4 q 4) from d1, e20, e24, e25, zNst]
  rcases (show zNv g 3 x 6 = 0 ∨ zNv g 3 x 6 = 1 by omega) with y | y <;> rcases (show zNv g 4 q 4 = 0 ∨ zNv g 4 q 4 = 1 by omega) with z | z <;> rw [y, z]
  · exact ⟨by rw [if_neg (show ¬ (nI 0 = 1 ∧ nI 0 = 1) by decide), if_neg (show ¬ ((0 : Nat) = 1 ∧ (0 : Nat) = 1) by decide), Int32.add_zero, Nat.add_zero], by rw [if_pos (show nI 0 = 0 from rfl), if_neg (show ¬ ((0 : Nat) = 1 ∧ (0 : Nat) = 1) by decide), Int32.add_zero, Nat.add_zero], by rw [if_neg (show ¬ ((0 : Nat) = 1 ∧ (0 : Nat) = 1) by decide)]; omega⟩
  · exact ⟨by rw [if_neg (show ¬ (nI 0 = 1 ∧ nI 1 = 1) by decide), if_neg (show ¬ ((0 : Nat) = 1 ∧ (1 : Nat) = 1) by decide), Int32.add_zero, Nat.add_zero], by rw [if_pos (show nI 0 = 0 from rfl), if_neg (show ¬ ((0 : Nat) = 1 ∧ (1 : Nat) = 1) by decide), Int32.add_zero, Nat.add_zero], by rw [if_neg (show ¬ ((0 : Nat) = 1 ∧ (1 : Nat) = 1) by decide)]; omega⟩
  · exact ⟨by rw [if_neg (show ¬ (nI 1 = 1 ∧ nI 0 = 1) by decide), if_neg (show ¬ ((1 : Nat) = 1 ∧ (0 : Nat) = 1) by decide), Int32.add_zero, Nat.add_zero], by rw [if_neg (show ¬ nI 1 = 0 by decide), if_pos (show nI 0 = 0 from rfl), if_neg (show ¬ ((1 : Nat) = 1 ∧ (0 : Nat) = 1) by decide), Int32.add_zero, Nat.add_zero], by rw [if_neg (show ¬ ((1 : Nat) = 1 ∧ (0 : Nat) = 1) by decide)]; omega⟩
  · exact ⟨by rw [if_pos (show nI 1 = 1 ∧ nI 1 = 1 by decide), if_pos (show (1 : Nat) = 1 ∧ (1 : Nat) = 1 by decide)]; exact nI_add _ 5, by rw [if_neg (show ¬ nI 1 = 0 by decide), if_pos (show (1 : Nat) = 1 ∧ (1 : Nat) = 1 by decide)]; exact nI_add _ 5, by rw [if_pos (show (1 : Nat) = 1 ∧ (1 : Nat) = 1 by decide)]; omega⟩
end NZND
