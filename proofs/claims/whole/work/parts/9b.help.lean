/-! coupling: small lemmas -/
section NZQ2
variable {c g J : Nat → Int32} {B : Nat → Nat → Int32}
theorem qh0 (z : ∀ s, s < 9 → c s = 0) {s : Nat} (hs : s < 9) (x : Int32) : zhs c (nI s) x = 0 := by
  rw [zhs, zrow_n c hs, z s hs]
  by_cases y : x < 0
  · rw [if_pos y]
  · rw [if_neg y, if_pos (Int32.not_lt.mp y)]
theorem qhD (D : zDR c g J B) {s : Nat} (hs : s < 8) (x : Int32) : zmh (J (zcf s)) x = zhs c (nI s) x := by
  rw [zmh, zhs, zrow_n c (by omega), D.2.1 s hs]
theorem qh1 (D : zDR c g J B) (x : Int32) : zmh (J 3) x = zhs c 1 x := qhD D (s := 1) (by decide) x
theorem qh3 (D : zDR c g J B) (x : Int32) : zmh (J 5) x = zhs c 3 x := qhD D (s := 3) (by decide) x
theorem qh4 (D : zDR c g J B) (x : Int32) : zmh (J 6) x = zhs c 4 x := qhD D (s := 4) (by decide) x
theorem qz0 (z : ∀ s, s < 9 → c s = 0) (x : Int32) : zhs c 0 x = 0 := qh0 z (s := 0) (by decide) x
theorem qz1 (z : ∀ s, s < 9 → c s = 0) (x : Int32) : zhs c 1 x = 0 := qh0 z (s := 1) (by decide) x
theorem qz2 (z : ∀ s, s < 9 → c s = 0) (x : Int32) : zhs c 2 x = 0 := qh0 z (s := 2) (by decide) x
theorem qz3 (z : ∀ s, s < 9 → c s = 0) (x : Int32) : zhs c 3 x = 0 := qh0 z (s := 3) (by decide) x
theorem qz4 (z : ∀ s, s < 9 → c s = 0) (x : Int32) : zhs c 4 x = 0 := qh0 z (s := 4) (by decide) x
theorem qzr (z : ∀ s, s < 9 → c s = 0) : zrow c 3 = 0 := (zrow_n c (s := 3) (by decide)).trans (z 3 (by decide))
theorem qF (D : zDR c g J B) : (c 0 = nI (zcn c 0) ∧ zcn c 0 ≤ 3) ∧ (c 1 = nI (zcn c 1) ∧ zcn c 1 ≤ 6) ∧ (c 2 = nI (zcn c 2) ∧ zcn c 2 ≤ 4) ∧ (c 3 = nI (zcn c 3) ∧ zcn c 3 ≤ 6) ∧ (c 4 = nI (zcn c 4) ∧ zcn c 4 ≤ 3) ∧ (c 5 = nI (zcn c 5) ∧ zcn c 5 ≤ 3) ∧ (c 6 = nI (zcn c 6) ∧ zcn c 6 ≤ 5) ∧ (c 7 = nI (zcn c 7) ∧ zcn c 7 ≤ 5) ∧ (c 8 = nI (zcn c 8) ∧ zcn c 8 ≤ 1) := ⟨D.1 0 (by decide), D.1 1 (by decide), D.1 2 (by decide), D.1 3 (by decide), D.1 4 (by decide), D.1 5 (by decide), D.1 6 (by decide), D.1 7 (by decide), D.1 8 (by decide)⟩
theorem qJ (D : zDR c g J B) : J 2 = nI (zcn c 0) ∧ J 3 = nI (zcn c 1) ∧ J 4 = nI (zcn c 2) ∧ J 5 = nI (zcn c 3) ∧ J 6 = nI (zcn c 4) ∧ J 7 = nI (zcn c 5) ∧ J 8 = nI (zcn c 6) ∧ J 9 = nI (zcn c 7) := ⟨(D.2.1 0 (by decide)).trans (D.1 0 (by decide)).1, (D.2.1 1 (by decide)).trans (D.1 1 (by decide)).1, (D.2.1 2 (by decide)).trans (D.1 2 (by decide)).1, (D.2.1 3 (by decide)).trans (D.1 3 (by decide)).1, (D.2.1 4 (by decide)).trans (D.1 4 (by decide)).1, (D.2.1 5 (by decide)).trans (D.1 5 (by decide)).1, (D.2.1 6 (by decide)).trans (D.1 6 (by decide)).1, (D.2.1 7 (by decide)).trans (D.1 7 (by decide)).1⟩
theorem qrn (D : zDR c g J B) (c3 : 0 < zcn c 3) : ¬ zrow c 3 = 0 := by
  rw [show zrow c 3 = c 3 from zrow_n c (s := 3) (by decide), (D.1 3 (by decide)).1]
  exact nI_ne0 c3 (by have := (qF D).2.2.2.1.2; omega)
theorem qh_ex {s n : Nat} (hs : s < 9) (e : c s = nI n) (hn : n ≤ 6) {x : Int32} (z : ¬ zhs c (nI s) x = 0) : ∃ k, k < n ∧ x = nI k := by
  rw [zhs, zrow_n c hs, e] at z
  by_cases y : x < 0
  · rw [if_pos y] at z; exact absurd rfl z
  · rw [if_neg y] at z
    by_cases w : nI n ≤ x
    · rw [if_pos w] at z; exact absurd rfl z
    · obtain ⟨k, hk, e⟩ := nI_of y
      subst e
      exact ⟨k, by rw [nI_leI (by omega) hk] at w; omega, rfl⟩
theorem qe3 (D : zDR c g J B) {x : Int32} (z : ¬ zhs c 3 x = 0) : ∃ k, k < zcn c 3 ∧ x = nI k := qh_ex (s := 3) (by decide) (qF D).2.2.2.1.1 (by have := (qF D).2.2.2.1.2; omega) z
theorem qe4 (D : zDR c g J B) {x : Int32} (z : ¬ zhs c 4 x = 0) : ∃ k, k < zcn c 4 ∧ x = nI k := qh_ex (s := 4) (by decide) (qF D).2.2.2.2.1.1 (by have := (qF D).2.2.2.2.1.2; omega) z
theorem qe1 (D : zDR c g J B) {x : Int32} (z : ¬ zhs c 1 x = 0) : ∃ k, k < zcn c 1 ∧ x = nI k := qh_ex (s := 1) (by decide) (qF D).2.1.1 (by have := (qF D).2.1.2; omega) z
theorem qe2 (D : zDR c g J B) {x : Int32} (z : ¬ zhs c 2 x = 0) : ∃ k, k < zcn c 2 ∧ x = nI k := qh_ex (s := 2) (by decide) (qF D).2.2.1.1 (by have := (qF D).2.2.1.2; omega) z
theorem qe0 (D : zDR c g J B) {x : Int32} (z : ¬ zhs c 0 x = 0) : ∃ k, k < zcn c 0 ∧ x = nI k := qh_ex (s := 0) (by decide) (qF D).1.1 (by have := (qF D).1.2; omega) z
theorem qw_ex {x : Int32} {a b : Nat} (ha : a < 2 ^ 31) (hb : b < 2 ^ 31) (z : ¬ zwn x (nI a) (nI b) = 0) : ∃ k, a ≤ k ∧ k ≤ b ∧ x = nI k := by
  rw [zwn] at z
  by_cases y : x < nI a
  · rw [if_pos y] at z; exact absurd rfl z
  · rw [if_neg y] at z
    by_cases w : nI b < x
    · rw [if_pos w] at z; exact absurd rfl z
    · have y0 : ¬ x < 0 := fun q => y (by
        rw [Int32.lt_iff_toInt_lt] at q ⊢
        rw [nI_toInt ha]
        have : (0 : Int32).toInt = 0 := rfl
        omega)
      obtain ⟨k, hk, e⟩ := nI_of y0
      subst e
      rw [nI_ltI hk ha] at y
      rw [nI_ltI hb hk] at w
      exact ⟨k, by omega, by omega, rfl⟩
/-- houses as a set of bits -/
theorem qhA : ∀ n, n < 7 → ∀ q, q < 2 ^ n → nI q &&& (((1 <<< (nI n &&& 31)) - 1) ^^^ (-1)) = 0 := by decide +kernel
theorem qhB : ∀ n, n < 7 → (1 : Int32) <<< (nI n &&& 31) = nI (2 ^ n) ∧ (2 : Nat) ^ n ≤ 64 := by decide +kernel
theorem qhC {x M : Int32} {n m : Nat} (hM : M.toBitVec.toNat >>> n = 2 ^ m - 1) (hmn : m + n = 32) (h : x &&& M = 0) : ∃ q, q < 2 ^ n ∧ x = nI q := by
  have h1 : x.toBitVec &&& M.toBitVec = 0#32 := by
    have := congrArg Int32.toBitVec h
    simpa using this
  have h2 : x.toBitVec.toNat &&& M.toBitVec.toNat = 0 := by
    have := congrArg BitVec.toNat h1
    simpa using this
  have h3 : (x.toBitVec.toNat >>> n) &&& (M.toBitVec.toNat >>> n) = 0 := by
    rw [← Nat.shiftRight_and_distrib, h2, Nat.zero_shiftRight]
  rw [hM, Nat.and_two_pow_sub_one_eq_mod, Nat.shiftRight_eq_div_pow] at h3
  have h4 : x.toBitVec.toNat < 2 ^ 32 := x.toBitVec.isLt
  have h5 : x.toBitVec.toNat / 2 ^ n < 2 ^ m := by
    rw [Nat.div_lt_iff_lt_mul (Nat.two_pow_pos n), ← Nat.pow_add, hmn]
    exact h4
  rw [Nat.mod_eq_of_lt h5] at h3
  have h6 : x.toBitVec.toNat < 2 ^ n := by
    rcases Nat.lt_or_ge x.toBitVec.toNat (2 ^ n) with y | y
    · exact y
    · have := Nat.div_pos y (Nat.two_pow_pos n)
      omega
  refine ⟨x.toBitVec.toNat, h6, Int32.toBitVec_inj.mp (BitVec.eq_of_toNat_eq ?_)⟩
  show x.toBitVec.toNat = (BitVec.ofNat 32 x.toBitVec.toNat).toNat
  rw [BitVec.toNat_ofNat, Nat.mod_eq_of_lt h4]
theorem qhM : ∀ n, n < 7 → ((((1 : Int32) <<< (nI n &&& 31)) - 1) ^^^ (-1)).toBitVec.toNat >>> n = 2 ^ (32 - n) - 1 := by decide +kernel
theorem qhI {n : Nat} (hn : n ≤ 6) (x : Int32) : (x &&& (((1 <<< (nI n &&& 31)) - 1) ^^^ (-1)) = 0 ↔ ∃ q, q < 2 ^ n ∧ x = nI q) := by
  constructor
  · intro h
    exact qhC (qhM n (by omega)) (by omega) h
  · rintro ⟨q, hq, rfl⟩
    exact qhA n (by omega) q hq
theorem qhJ {n : Nat} (hn : n ≤ 6) (x : Int32) : ((¬ x < 0 ∧ x < 1 <<< (nI n &&& 31)) ↔ ∃ q, q < 2 ^ n ∧ x = nI q) := by
  have b := qhB n (by omega)
  rw [b.1]
  constructor
  · rintro ⟨h1, h2⟩
    obtain ⟨k, hk, rfl⟩ := nI_of h1
    rw [nI_ltI hk (by omega)] at h2
    exact ⟨k, h2, rfl⟩
  · rintro ⟨q, hq, rfl⟩
    exact ⟨nI_pos (by omega), nI_lt hq (by omega)⟩
end NZQ2
/-- rounds: whose is a house -/
theorem zhas_iff {r : Nat → Nat} {x : Nat} (hx : x < 2 ^ 31) : ∀ (j k : Nat), (∀ i, k ≤ i → i < k + j → r i < 2 ^ 31) → (zhas r (nI x) k j = true ↔ ∃ i, k ≤ i ∧ i < k + j ∧ r i = x) := by
  intro j
  induction j with
  | zero => exact fun k _ => ⟨fun h => by simp [zhas] at h, fun ⟨i, a, b, _⟩ => by omega⟩
  | succ j ih =>
    intro k hr
    rw [zhas]
    have e := nI_eq (hr k (by omega) (by omega)) hx
    by_cases y : r k = x
    · rw [if_pos (e.mpr y)]
      exact ⟨fun _ => ⟨k, by omega, by omega, y⟩, fun _ => rfl⟩
    · rw [if_neg (fun z => y (e.mp z)), ih (k + 1) (fun i a b => hr i (by omega) (by omega))]
      exact ⟨fun ⟨i, a, b, e⟩ => ⟨i, by omega, by omega, e⟩, fun ⟨i, a, b, e⟩ => ⟨i, by by_cases z : i = k; exact absurd (z ▸ e) y; omega, by omega, e⟩⟩
theorem zhas_0 {r : Nat → Nat} {x : Int32} (k : Nat) : zhas r x k 0 = false := by simp [zhas]
theorem zcar_e {N : Nat → Nat} {R : Nat → Nat → Nat} {x : Int32} : ∀ (j k : Nat), (∀ i, k ≤ i → i < k + j → N i = 0) → zcar N R x k j = -1 := by
  intro j
  induction j with
  | zero => exact fun _ _ => rfl
  | succ j ih =>
    intro k h
    rw [zcar, h k (by omega) (by omega), zhas_0, if_neg (by decide)]
    exact ih (k + 1) (fun i a b => h i (by omega) (by omega))
theorem zcar_m {N : Nat → Nat} {R : Nat → Nat → Nat} {x : Int32} {m : Nat} : ∀ (j k i : Nat), k + j = m → (∀ q, m ≤ q → q < m + i → N q = 0) → zcar N R x k (j + i) = zcar N R x k j := by
  intro j
  induction j with
  | zero =>
    intro k i hk h
    rw [Nat.zero_add]
    exact zcar_e i k (fun q a b => h q (by omega) (by omega))
  | succ j ih =>
    intro k i hk h
    rw [show j + 1 + i = (j + i) + 1 by omega, zcar, zcar, ih (k + 1) i (by omega) h]
theorem zcar_3 {N : Nat → Nat} {R : Nat → Nat → Nat} (x : Int32) {m : Nat} (hm : m ≤ 3) (h : ∀ k, k < 3 → m ≤ k → N k = 0) : zcar N R x 0 3 = zcar N R x 0 m := by
  have := zcar_m (N := N) (R := R) (x := x) (m := m) m 0 (3 - m) (by omega) (fun q a b => h q (by omega) a)
  rwa [show m + (3 - m) = 3 by omega] at this
theorem zcar_sp {N : Nat → Nat} {R : Nat → Nat → Nat} {x : Nat} (hx : x < 2 ^ 31) : ∀ (j k : Nat), k + j ≤ 3 → (∀ q i, k ≤ q → q < k + j → i < N q → R q i < 2 ^ 31) → (zcar N R (nI x) k j = -1 ∧ ∀ q i, k ≤ q → q < k + j → i < N q → R q i ≠ x) ∨ ∃ q i, k ≤ q ∧ q < k + j ∧ i < N q ∧ R q i = x ∧ zcar N R (nI x) k j = nI q := by
  intro j
  induction j with
  | zero => exact fun k _ _ => .inl ⟨rfl, fun q i a b => by omega⟩
  | succ j ih =>
    intro k hk h
    have e := zhas_iff (r := R k) hx (N k) 0 (fun i _ b => h k i (by omega) (by omega) (by omega))
    rw [zcar]
    by_cases y : zhas (R k) (nI x) 0 (N k) = true
    · rw [if_pos y]
      obtain ⟨i, -, b, ei⟩ := e.mp y
      exact .inr ⟨k, i, by omega, by omega, by omega, ei, rfl⟩
    · rw [if_neg y]
      rcases ih (k + 1) (by omega) (fun q i a b => h q i (by omega) (by omega)) with ⟨w1, w2⟩ | ⟨q, i, a, b, w⟩
      · refine .inl ⟨w1, fun q i a b z ez => ?_⟩
        by_cases qk : q = k
        · subst qk
          exact y (e.mpr ⟨i, by omega, by omega, ez⟩)
        · exact w2 q i (by omega) (by omega) z ez
      · exact .inr ⟨q, i, by omega, by omega, w⟩
/-- the tape's bytes -/
theorem zby_nar (x : Int32) : zby (vp_nar .byte x.toInt8.toInt32) := by
  refine ⟨x.toInt8.toBitVec.toNat, x.toInt8.toBitVec.isLt, ?_⟩
  have e : (nI x.toInt8.toBitVec.toNat).toInt8 = x.toInt8 := by
    refine Int8.toBitVec_inj.mp (BitVec.eq_of_toNat_eq ?_)
    show ((BitVec.ofNat 32 x.toInt8.toBitVec.toNat).signExtend 8).toNat = x.toInt8.toBitVec.toNat
    rw [BitVec.signExtend_eq_setWidth_of_le _ (by decide), BitVec.toNat_setWidth, BitVec.toNat_ofNat]
    have := x.toInt8.toBitVec.isLt
    omega
  rw [e]
  show x.toInt8.toInt32.toInt8.toInt32 = x.toInt8.toInt32
  rw [Int8.toInt8_toInt32]
theorem zby_fed {x : Int32} {sh : Nat} {s : Nat × (Nat → Int32)} (h : ∀ i, zby (s.2 i)) : ∀ i, zby ((zfed x sh s).2 i) := by
  intro i
  rw [zfed]
  by_cases y : s.1 < 900
  · rw [if_pos y]
    show zby (upd s.2 s.1 _ i)
    rw [upd_at]
    by_cases z : i = s.1
    · rw [if_pos z]; exact zby_nar _
    · rw [if_neg z]; exact h i
  · rw [if_neg y]; exact h i
theorem zby_f4 {x : Int32} {s : Nat × (Nat → Int32)} (h : ∀ i, zby (s.2 i)) : ∀ i, zby ((zf4 x s).2 i) := zby_fed (zby_fed (zby_fed (zby_fed h)))
theorem zby_f20 {x1 x2 x3 x4 x5 : Int32} {s : Nat × (Nat → Int32)} (h : ∀ i, zby (s.2 i)) : ∀ i, zby ((zf20 x1 x2 x3 x4 x5 s).2 i) := by
  intro i
  rw [zf20]
  exact zby_f4 (zby_f4 (zby_f4 (zby_f4 (zby_f4 h)))) i
section NZQ3
variable {h h1 : nzH} {t u : Nat} {tr : Int32} {c g : Nat → Int32} {hl L : Nat} {S : zrs} {F0 : Nat → Value} {I I' : Nat → Int32} {W : Int64} {td rd : Option Nat} {tp : Nat → Int32} {A A' : Nat → Nat → Int32} {lo hi : Nat} {J : Nat → Int32} {B : Nat → Nat → Int32} {Wd : Nat → Int64}
theorem zmd_f {t' : Nat} (M : zmd h t' J B Wd) (t9 : 94 ≤ t') (f : zf2 lo hi h h1) (l2 : hi ≤ 94) : zmd h1 t' J B Wd := zmd_sm M (zf2_sm f (by omega) (by omega))
theorem zmd_0 {t' : Nat} (M : zmd h t' J B Wd) (t9 : 94 ≤ t') (K : zK h t tr) (x : Int32) : zmd (zp0 h x) t' J B Wd := zmd_f M t9 (zf2_01 (lo := 0) (hi := 0) (zp0_fr K x)) (by decide)
/-- one part changed: the others are kept -/
theorem zQ_R (Q : zQ h t u tr c g hl L S F0 I W td rd tp A) {x : Int32} (hx : x ≠ 4) (f : zf2 10 17 h h1) (K : zK h1 t x) (i : I' 6 = I 6 ∧ I' 13 = I 13 ∧ I' 27 = I 27 ∧ I' 33 = I 33 ∧ I' 34 = I 34 ∧ I' 37 = I 37 ∧ I' 42 = I 42) (i1 : I' 1 = x) (i2 : I' 2 = -1) (a : A' 28 = A 28 ∧ A' 32 = A 32 ∧ A' 36 = A 36 ∧ A' 38 = A 38 ∧ A' 40 = A 40 ∧ A' 41 = A 41 ∧ A' 43 = A 43 ∧ A' 44 = A 44 ∧ A' 45 = A 45) (q : qR h1 c g I' A') : zstep h (zmS h1 F0 I' W td rd tp A') := by
  obtain ⟨e, h9, K0, D, E, tu, qd, hb, qt, q1, q2, q3, q4, q5, q6, q7, q8⟩ := id Q
  obtain ⟨j1, j2, j4, j5, j6, j7, j8⟩ := i
  obtain ⟨b3, b4, b5, b6, b7, b8, b9, b10, b11⟩ := a
  exact zQ_fin Q f (by decide) (by decide) K (qT_0 Q hx ⟨j1, j2⟩ i1 i2) q (qO_k q2 (zf2_sm f (by decide) (by decide))) (qS_k q3 (zf2_sm f (by decide) (by decide)) j4 b3) (qM_k q4 (zf2_sm f (by decide) (by decide)) j5 b4) (qK_k q5 (zf2_sm f (by decide) (by decide)) j6 b5) (qW_k q6 (zf2_sm f (by decide) (by decide)) j7 b6) (qG_k q7 (zf2_sm f (by decide) (by decide)) b7 b8) (qP_k q8 (zf2_sm f (by decide) (by decide)) j8 b9 b10 b11)
theorem zQ_RS (Q : zQ h t u tr c g hl L S F0 I W td rd tp A) {x : Int32} (hx : x ≠ 4) (f : zf2 10 17 h h1) (K : zK h1 t x) (i : qI I I') (i1 : I' 1 = x) (i2 : I' 2 = -1) (a : qA A A') (q : qR h1 c g I A) : zstep h (zmS h1 F0 I' W td rd tp A') := by
  obtain ⟨j1, j2, j3, j4, j5, j6, j7, j8⟩ := i
  obtain ⟨b1, b2, b3, b4, b5, b6, b7, b8, b9, b10, b11⟩ := a
  exact zQ_R Q hx f K ⟨j1, j2, j4, j5, j6, j7, j8⟩ i1 i2 ⟨b3, b4, b5, b6, b7, b8, b9, b10, b11⟩ (qR_k q (fun _ _ _ => rfl) j3 b1 b2)
theorem zQ_OS (Q : zQ h t u tr c g hl L S F0 I W td rd tp A) {x : Int32} (hx : x ≠ 4) (f : zf2 17 31 h h1) (K : zK h1 t x) (i : I' 6 = I 6 ∧ I' 13 = I 13 ∧ I' 19 = I 19 ∧ I' 33 = I 33 ∧ I' 34 = I 34 ∧ I' 37 = I 37 ∧ I' 42 = I 42) (i1 : I' 1 = x) (i2 : I' 2 = -1) (a : A' 17 = A 17 ∧ A' 18 = A 18 ∧ A' 32 = A 32 ∧ A' 36 = A 36 ∧ A' 38 = A 38 ∧ A' 40 = A 40 ∧ A' 41 = A 41 ∧ A' 43 = A 43 ∧ A' 44 = A 44 ∧ A' 45 = A 45) (q2 : qO h1 c g) (q3 : qS h1 c I' A') : zstep h (zmS h1 F0 I' W td rd tp A') := by
  obtain ⟨e, h9, K0, D, E, tu, qd, hb, qt, q1, -, -, q4, q5, q6, q7, q8⟩ := id Q
  obtain ⟨j1, j2, j4, j5, j6, j7, j8⟩ := i
  obtain ⟨b1, b2, b4, b5, b6, b7, b8, b9, b10, b11⟩ := a
  exact zQ_fin Q f (by decide) (by decide) K (qT_0 Q hx ⟨j1, j2⟩ i1 i2) (qR_k q1 (zf2_sm f (by decide) (by decide)) j4 b1 b2) q2 q3 (qM_k q4 (zf2_sm f (by decide) (by decide)) j5 b4) (qK_k q5 (zf2_sm f (by decide) (by decide)) j6 b5) (qW_k q6 (zf2_sm f (by decide) (by decide)) j7 b6) (qG_k q7 (zf2_sm f (by decide) (by decide)) b7 b8) (qP_k q8 (zf2_sm f (by decide) (by decide)) j8 b9 b10 b11)
theorem zQ_O (Q : zQ h t u tr c g hl L S F0 I W td rd tp A) {x : Int32} (hx : x ≠ 4) (f : zf2 17 27 h h1) (K : zK h1 t x) (i : qI I I') (i1 : I' 1 = x) (i2 : I' 2 = -1) (a : qA A A') (q2 : qO h1 c g) : zstep h (zmS h1 F0 I' W td rd tp A') := by
  obtain ⟨j1, j2, j3, j4, j5, j6, j7, j8⟩ := i
  obtain ⟨b1, b2, b3, b4, b5, b6, b7, b8, b9, b10, b11⟩ := a
  exact zQ_OS Q hx (zf2_wk f (by decide) (by decide)) K ⟨j1, j2, j3, j5, j6, j7, j8⟩ i1 i2 ⟨b1, b2, b4, b5, b6, b7, b8, b9, b10, b11⟩ q2 (qS_k Q.2.2.2.2.2.2.2.2.2.2.2.1 (zf2_sm f (by decide) (by decide)) j4 b3)
theorem zQ_M (Q : zQ h t u tr c g hl L S F0 I W td rd tp A) {x : Int32} (hx : x ≠ 4) (f : zf2 31 50 h h1) (K : zK h1 t x) (i : I' 6 = I 6 ∧ I' 13 = I 13 ∧ I' 19 = I 19 ∧ I' 27 = I 27 ∧ I' 34 = I 34 ∧ I' 37 = I 37 ∧ I' 42 = I 42) (i1 : I' 1 = x) (i2 : I' 2 = -1) (a : A' 17 = A 17 ∧ A' 18 = A 18 ∧ A' 28 = A 28 ∧ A' 36 = A 36 ∧ A' 38 = A 38 ∧ A' 40 = A 40 ∧ A' 41 = A 41 ∧ A' 43 = A 43 ∧ A' 44 = A 44 ∧ A' 45 = A 45) (q : qM h1 I' A') : zstep h (zmS h1 F0 I' W td rd tp A') := by
  obtain ⟨e, h9, K0, D, E, tu, qd, hb, qt, q1, q2, q3, -, q5, q6, q7, q8⟩ := id Q
  obtain ⟨j1, j2, j3, j4, j6, j7, j8⟩ := i
  obtain ⟨b1, b2, b3, b5, b6, b7, b8, b9, b10, b11⟩ := a
  exact zQ_fin Q f (by decide) (by decide) K (qT_0 Q hx ⟨j1, j2⟩ i1 i2) (qR_k q1 (zf2_sm f (by decide) (by decide)) j3 b1 b2) (qO_k q2 (zf2_sm f (by decide) (by decide))) (qS_k q3 (zf2_sm f (by decide) (by decide)) j4 b3) q (qK_k q5 (zf2_sm f (by decide) (by decide)) j6 b5) (qW_k q6 (zf2_sm f (by decide) (by decide)) j7 b6) (qG_k q7 (zf2_sm f (by decide) (by decide)) b7 b8) (qP_k q8 (zf2_sm f (by decide) (by decide)) j8 b9 b10 b11)
theorem zQ_K (Q : zQ h t u tr c g hl L S F0 I W td rd tp A) {x : Int32} (hx : x ≠ 4) (f : zf2 50 53 h h1) (K : zK h1 t x) (i : I' 6 = I 6 ∧ I' 13 = I 13 ∧ I' 19 = I 19 ∧ I' 27 = I 27 ∧ I' 33 = I 33 ∧ I' 37 = I 37 ∧ I' 42 = I 42) (i1 : I' 1 = x) (i2 : I' 2 = -1) (a : A' 17 = A 17 ∧ A' 18 = A 18 ∧ A' 28 = A 28 ∧ A' 32 = A 32 ∧ A' 38 = A 38 ∧ A' 40 = A 40 ∧ A' 41 = A 41 ∧ A' 43 = A 43 ∧ A' 44 = A 44 ∧ A' 45 = A 45) (q : qK h1 I' A') : zstep h (zmS h1 F0 I' W td rd tp A') := by
  obtain ⟨e, h9, K0, D, E, tu, qd, hb, qt, q1, q2, q3, q4, -, q6, q7, q8⟩ := id Q
  obtain ⟨j1, j2, j3, j4, j5, j7, j8⟩ := i
  obtain ⟨b1, b2, b3, b4, b6, b7, b8, b9, b10, b11⟩ := a
  exact zQ_fin Q f (by decide) (by decide) K (qT_0 Q hx ⟨j1, j2⟩ i1 i2) (qR_k q1 (zf2_sm f (by decide) (by decide)) j3 b1 b2) (qO_k q2 (zf2_sm f (by decide) (by decide))) (qS_k q3 (zf2_sm f (by decide) (by decide)) j4 b3) (qM_k q4 (zf2_sm f (by decide) (by decide)) j5 b4) q (qW_k q6 (zf2_sm f (by decide) (by decide)) j7 b6) (qG_k q7 (zf2_sm f (by decide) (by decide)) b7 b8) (qP_k q8 (zf2_sm f (by decide) (by decide)) j8 b9 b10 b11)
theorem zQ_W (Q : zQ h t u tr c g hl L S F0 I W td rd tp A) {x : Int32} (hx : x ≠ 4) (f : zf2 53 57 h h1) (K : zK h1 t x) (i : I' 6 = I 6 ∧ I' 13 = I 13 ∧ I' 19 = I 19 ∧ I' 27 = I 27 ∧ I' 33 = I 33 ∧ I' 34 = I 34 ∧ I' 42 = I 42) (i1 : I' 1 = x) (i2 : I' 2 = -1) (a : A' 17 = A 17 ∧ A' 18 = A 18 ∧ A' 28 = A 28 ∧ A' 32 = A 32 ∧ A' 36 = A 36 ∧ A' 40 = A 40 ∧ A' 41 = A 41 ∧ A' 43 = A 43 ∧ A' 44 = A 44 ∧ A' 45 = A 45) (q : qW h1 I' A') : zstep h (zmS h1 F0 I' W td rd tp A') := by
  obtain ⟨e, h9, K0, D, E, tu, qd, hb, qt, q1, q2, q3, q4, q5, -, q7, q8⟩ := id Q
  obtain ⟨j1, j2, j3, j4, j5, j6, j8⟩ := i
  obtain ⟨b1, b2, b3, b4, b5, b7, b8, b9, b10, b11⟩ := a
  exact zQ_fin Q f (by decide) (by decide) K (qT_0 Q hx ⟨j1, j2⟩ i1 i2) (qR_k q1 (zf2_sm f (by decide) (by decide)) j3 b1 b2) (qO_k q2 (zf2_sm f (by decide) (by decide))) (qS_k q3 (zf2_sm f (by decide) (by decide)) j4 b3) (qM_k q4 (zf2_sm f (by decide) (by decide)) j5 b4) (qK_k q5 (zf2_sm f (by decide) (by decide)) j6 b5) q (qG_k q7 (zf2_sm f (by decide) (by decide)) b7 b8) (qP_k q8 (zf2_sm f (by decide) (by decide)) j8 b9 b10 b11)
theorem zQ_G (Q : zQ h t u tr c g hl L S F0 I W td rd tp A) {x : Int32} (hx : x ≠ 4) (f : zf2 57 66 h h1) (K : zK h1 t x) (i : qI I I') (i1 : I' 1 = x) (i2 : I' 2 = -1) (a : A' 17 = A 17 ∧ A' 18 = A 18 ∧ A' 28 = A 28 ∧ A' 32 = A 32 ∧ A' 36 = A 36 ∧ A' 38 = A 38 ∧ A' 43 = A 43 ∧ A' 44 = A 44 ∧ A' 45 = A 45) (q : qG h1 A') : zstep h (zmS h1 F0 I' W td rd tp A') := by
  obtain ⟨e, h9, K0, D, E, tu, qd, hb, qt, q1, q2, q3, q4, q5, q6, -, q8⟩ := id Q
  obtain ⟨j1, j2, j3, j4, j5, j6, j7, j8⟩ := i
  obtain ⟨b1, b2, b3, b4, b5, b6, b9, b10, b11⟩ := a
  exact zQ_fin Q f (by decide) (by decide) K (qT_0 Q hx ⟨j1, j2⟩ i1 i2) (qR_k q1 (zf2_sm f (by decide) (by decide)) j3 b1 b2) (qO_k q2 (zf2_sm f (by decide) (by decide))) (qS_k q3 (zf2_sm f (by decide) (by decide)) j4 b3) (qM_k q4 (zf2_sm f (by decide) (by decide)) j5 b4) (qK_k q5 (zf2_sm f (by decide) (by decide)) j6 b5) (qW_k q6 (zf2_sm f (by decide) (by decide)) j7 b6) q (qP_k q8 (zf2_sm f (by decide) (by decide)) j8 b9 b10 b11)
theorem zQ_P (Q : zQ h t u tr c g hl L S F0 I W td rd tp A) {x : Int32} (hx : x ≠ 4) (f : zf2 66 70 h h1) (K : zK h1 t x) (i : I' 6 = I 6 ∧ I' 13 = I 13 ∧ I' 19 = I 19 ∧ I' 27 = I 27 ∧ I' 33 = I 33 ∧ I' 34 = I 34 ∧ I' 37 = I 37) (i1 : I' 1 = x) (i2 : I' 2 = -1) (a : A' 17 = A 17 ∧ A' 18 = A 18 ∧ A' 28 = A 28 ∧ A' 32 = A 32 ∧ A' 36 = A 36 ∧ A' 38 = A 38 ∧ A' 40 = A 40 ∧ A' 41 = A 41) (q : qP h1 c g I' A') : zstep h (zmS h1 F0 I' W td rd tp A') := by
  obtain ⟨e, h9, K0, D, E, tu, qd, hb, qt, q1, q2, q3, q4, q5, q6, q7, -⟩ := id Q
  obtain ⟨j1, j2, j3, j4, j5, j6, j7⟩ := i
  obtain ⟨b1, b2, b3, b4, b5, b6, b7, b8⟩ := a
  exact zQ_fin Q f (by decide) (by decide) K (qT_0 Q hx ⟨j1, j2⟩ i1 i2) (qR_k q1 (zf2_sm f (by decide) (by decide)) j3 b1 b2) (qO_k q2 (zf2_sm f (by decide) (by decide))) (qS_k q3 (zf2_sm f (by decide) (by decide)) j4 b3) (qM_k q4 (zf2_sm f (by decide) (by decide)) j5 b4) (qK_k q5 (zf2_sm f (by decide) (by decide)) j6 b5) (qW_k q6 (zf2_sm f (by decide) (by decide)) j7 b6) (qG_k q7 (zf2_sm f (by decide) (by decide)) b7 b8) q
end NZQ3
