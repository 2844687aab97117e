/-! a round in natural numbers -/
abbrev zNt : Type := Nat × Nat × Nat × (Nat → Nat)
def zNm1 (g : Nat → Int32) (nf : Nat) (r : Nat → Nat) (i : Nat) (s : zNt) : Nat := s.2.2.1 + zNw g nf s.2.1 (zNv g 3 (r i) 0)
def zNs (g : Nat → Int32) (nf q T : Nat) (r : Nat → Nat) (i : Nat) (s : zNt) : zNt := (if zNbd g q (zNm1 g nf r i s) then s.1 ||| 2 ^ r i else s.1, zNv g 3 (r i) 0, zNm1 g nf r i s + (zNst g q (r i) + (if T / 2 ^ r i % 2 = 1 then zNv g 3 (r i) 3 else 0)), va_up s.2.2.2 i (zNm1 g nf r i s))
def zNr (g : Nat → Int32) (nf q T : Nat) (r : Nat → Nat) (n : Nat) : zNt := zit (zNs g nf q T r) 0 n (0, zNv g 0 (zNv g 4 q 0) 0, zNv g 4 q 1, fun _ => 0)
theorem zT6 : ∀ T, T < 64 → ∀ x, x < 6 → (nI T &&& (1 <<< (nI x &&& 31)) = 0 ↔ ¬ T / 2 ^ x % 2 = 1) := by decide +kernel
section NZNR
variable {c g J : Nat → Int32} {B : Nat → Nat → Int32}
def zNI (g : Nat → Int32) (q i : Nat) (s : zNt) : Prop := s.1 < 64 ∧ s.2.1 ≤ 99 ∧ zNv g 4 q 1 ≤ s.2.2.1 ∧ s.2.2.1 ≤ 800 + 374 * i ∧ ∀ p, p < i → s.2.2.2 p ≤ 800 + 374 * i
theorem zNs_I (D : zDR c g J B) {q T : Nat} (hq : q < zcn c 4) {r : Nat → Nat} {i : Nat} (hi : i < 6) (hr : r i < zcn c 3) {s : zNt} (S : zNI g q i s) : zNI g q (i + 1) (zNs g (zcn c 5) q T r i s) ∧ zNm1 g (zcn c 5) r i s ≤ 800 + 374 * i + 279 ∧ zNv g 4 q 1 ≤ zNm1 g (zcn c 5) r i s := by
  obtain ⟨s1, s2, s3, s4, s5⟩ := S
  obtain ⟨-, -, -, a4⟩ := zNg D (s := 3) (r := r i) (k := 0) (by decide) hr (by decide) rfl (by decide)
  obtain ⟨-, -, -, t4⟩ := zNg D (s := 3) (r := r i) (k := 3) (by decide) hr (by decide) rfl (by decide)
  have w := (zNw_m D s2 a4).2
  have st := (zNst_c D hq hr).2.2
  have h6 : zcn c 3 ≤ 6 := (D.1 3 (by decide)).2
  have mb : zNm1 g (zcn c 5) r i s ≤ 800 + 374 * i + 279 := by unfold zNm1; omega
  have ml : zNv g 4 q 1 ≤ zNm1 g (zcn c 5) r i s := by unfold zNm1; omega
  refine ⟨⟨?_, a4, ?_, ?_, fun p hp => ?_⟩, mb, ml⟩
  · rw [zNs]
    dsimp only
    split
    · exact (zbor s.1 s1 (r i) (by omega)).2
    · exact s1
  · rw [zNs]
    dsimp only
    omega
  · rw [zNs]
    dsimp only
    split <;> omega
  · rw [zNs]
    dsimp only
    rw [va_up_at]
    split
    · exact Nat.le_trans mb (by omega)
    · have := s5 p (by omega)
      omega
theorem zNs_c (D : zDR c g J B) (h8 : 0 < zcn c 8) {q T n : Nat} (hq : q < zcn c 4) (hT : T < 64) {r : Nat → Nat} (hn : n ≤ 6) (hr : ∀ i, i < n → r i < zcn c 3) (hu : ∀ i j, i < n → j < n → r i = r j → i = j) : ∀ (j i : Nat) (x : Int32 × Int32 × Int32 × (Nat → Int32)) (s : zNt), i + j = n → zNI g q i s → x.1 = nI s.1 → x.2.1 = nI s.2.1 → x.2.2.1 = nI s.2.2.1 → (∀ p, p < i → x.2.2.2 (r p) = nI (s.2.2.2 p)) → (zit (zfol c g (zcn c 5) (nI q) (nI T) r) i j x).1 = nI (zit (zNs g (zcn c 5) q T r) i j s).1 ∧ (∀ p, p < n → (zit (zfol c g (zcn c 5) (nI q) (nI T) r) i j x).2.2.2 (r p) = nI ((zit (zNs g (zcn c 5) q T r) i j s).2.2.2 p)) := by
  have h6 : zcn c 3 ≤ 6 := (D.1 3 (by decide)).2
  intro j
  induction j with
  | zero =>
    intro i x s hi S e1 e2 e3 e4
    exact ⟨e1, fun p hp => e4 p (by omega)⟩
  | succ j ih =>
    intro i x s hi S e1 e2 e3 e4
    have hri := hr i (by omega)
    obtain ⟨S', mb, ml⟩ := zNs_I (T := T) D hq (by omega) hri S
    obtain ⟨a1, -, -, a4⟩ := zNg D (s := 3) (r := r i) (k := 0) (by decide) hri (by decide) rfl (by decide)
    obtain ⟨t1, -, -, t4⟩ := zNg D (s := 3) (r := r i) (k := 3) (by decide) hri (by decide) rfl (by decide)
    have m : x.2.2.1 + zway c g (zcn c 5) x.2.1 (zget c g 3 (nI (r i)) 0) = nI (zNm1 g (zcn c 5) r i s) := by
      rw [e3, e2, show zget c g 3 (nI (r i)) 0 = nI (zNv g 3 (r i) 0) from a1, zNw_c D S.2.1 a4, nI_add]
      rfl
    have bd := (zNbd_c D h8 hq ml (by omega)).1
    have st := (zNst_c D hq hri).1
    have tt := zT6 T hT (r i) (by omega)
    rw [zit, zit]
    refine ih (i + 1) _ _ (by omega) S' ?_ ?_ ?_ (fun p hp => ?_)
    · rw [zfol, zNs]
      dsimp only
      rw [m, bd, e1]
      split
      · exact (zbor s.1 S.1 (r i) (by omega)).1
      · rfl
    · rw [zfol, zNs]
      exact a1
    · rw [zfol, zNs]
      dsimp only
      rw [m, st, show zget c g 3 (nI (r i)) 3 = nI (zNv g 3 (r i) 3) from t1, nI_add, nI_add]
      by_cases y : T / 2 ^ r i % 2 = 1
      · rw [if_neg (fun z => tt.mp z y), if_pos y, Nat.add_assoc]
      · rw [if_pos (tt.mpr y), if_neg y, Nat.add_zero]
    · rw [zfol, zNs]
      dsimp only
      rw [m]
      by_cases y : p = i
      · rw [y, upd_eq, va_up_self]
      · rw [upd_ne (fun z => y (hu p i (by omega) (by omega) z)), va_up_ne _ _ y]
        exact e4 p (by omega)
theorem zNs_m (D : zDR c g J B) (h8 : 0 < zcn c 8) {q T n : Nat} (hq : q < zcn c 4) (hT : T < 64) {r : Nat → Nat} (hn : n ≤ 6) (hr : ∀ i, i < n → r i < zcn c 3) : ∀ (j i : Nat) (x : Int32 × Int32 × Int32 × (Nat → Int32)) (s : zNt), i + j = n → zNI g q i s → x.1 = nI s.1 → x.2.1 = nI s.2.1 → x.2.2.1 = nI s.2.2.1 → (∀ p, p < i → x.2.2.2 p = nI (s.2.2.2 p)) → (zit (zmgo J B (zcn c 5) q (zNv g 4 q 0) (nI T) r) i j x).1 = nI (zit (zNs g (zcn c 5) q T r) i j s).1 ∧ (∀ p, p < n → (zit (zmgo J B (zcn c 5) q (zNv g 4 q 0) (nI T) r) i j x).2.2.2 p = nI ((zit (zNs g (zcn c 5) q T r) i j s).2.2.2 p)) ∧ zNI g q n (zit (zNs g (zcn c 5) q T r) i j s) := by
  have h6 : zcn c 3 ≤ 6 := (D.1 3 (by decide)).2
  intro j
  induction j with
  | zero =>
    intro i x s hi S e1 e2 e3 e4
    obtain rfl : i = n := by omega
    exact ⟨e1, fun p hp => e4 p (by omega), S⟩
  | succ j ih =>
    intro i x s hi S e1 e2 e3 e4
    have hri := hr i (by omega)
    obtain ⟨S', mb, ml⟩ := zNs_I (T := T) D hq (by omega) hri S
    obtain ⟨-, a2, -, a4⟩ := zNg D (s := 3) (r := r i) (k := 0) (by decide) hri (by decide) rfl (by decide)
    obtain ⟨-, t2, -, t4⟩ := zNg D (s := 3) (r := r i) (k := 3) (by decide) hri (by decide) rfl (by decide)
    have e18 : B 18 (r i) = nI (zNv g 3 (r i) 0) := a2 (by decide)
    have e21 : B 21 (r i) = nI (zNv g 3 (r i) 3) := t2 (by decide)
    have m : zmgm B (zcn c 5) r i x = nI (zNm1 g (zcn c 5) r i s) := by
      rw [zmgm, e3, e2, e18, (zNw_m D S.2.1 a4).1, nI_add]
      rfl
    have bd := zNbd_c D h8 hq ml (by omega)
    have st := (zNst_c D hq hri).2.1
    have tt := zhb T hT (r i) (by omega)
    rw [zit, zit]
    refine ih (i + 1) _ _ (by omega) S' ?_ ?_ ?_ (fun p hp => ?_)
    · rw [zmgo, zNs]
      dsimp only
      rw [m, e1, zNbd]
      by_cases y1 : zNv g 8 0 1 < zNm1 g (zcn c 5) r i s
      · rw [if_pos (bd.2.1.mpr y1), decide_eq_true y1, Bool.true_or, if_pos rfl]
        exact (zbor s.1 S.1 (r i) (by omega)).1
      · rw [if_neg (fun z => y1 (bd.2.1.mp z)), decide_eq_false y1, Bool.false_or]
        by_cases y2 : zNv g 0 (zNv g 4 q 0) 1 < zNv g 8 0 0 + zNv g 4 q 3 * (zNm1 g (zcn c 5) r i s - zNv g 4 q 1) / 10
        · rw [if_neg (fun z => bd.2.2.1.mp z y2), if_pos (decide_eq_true y2)]
          exact (zbor s.1 S.1 (r i) (by omega)).1
        · rw [if_pos (bd.2.2.1.mpr y2), if_neg (by rw [decide_eq_true_eq]; exact y2)]
    · rw [zmgo, zNs]
      exact e18
    · rw [zmgo, zNs]
      dsimp only
      rw [m, st, e21]
      by_cases y : T / 2 ^ r i % 2 = 1
      · rw [if_pos (tt.mpr y), if_pos y, nI_add, nI_add]
      · rw [if_neg (fun z => y (tt.mp z)), if_neg y, Int32.add_zero, Nat.add_zero, nI_add]
    · rw [zmgo, zNs]
      dsimp only
      rw [m]
      by_cases y : p = i
      · rw [y, upd_eq, va_up_self]
      · rw [upd_ne y, va_up_ne _ _ y]
        exact e4 p (by omega)
theorem zNI_0 (D : zDR c g J B) {q : Nat} (hq : q < zcn c 4) : zNI g q 0 (0, zNv g 0 (zNv g 4 q 0) 0, zNv g 4 q 1, fun _ => 0) := by
  obtain ⟨-, -, -, s4⟩ := zNg D (s := 4) (r := q) (k := 1) (by decide) hq (by decide) rfl (by decide)
  obtain ⟨-, -, -, u4⟩ := zNg D (s := 0) (r := zNv g 4 q 0) (k := 0) (by decide) (zNv_kit D hq).2.1 (by decide) rfl (by decide)
  exact ⟨(show (0 : Nat) < 64 by decide), u4, Nat.le_refl _, s4, fun p hp => absurd hp (Nat.not_lt_zero p)⟩
/-- the class's round -/
theorem zNr_c (D : zDR c g J B) (h8 : 0 < zcn c 8) {q T n : Nat} (hq : q < zcn c 4) (hT : T < 64) {r : Nat → Nat} (hn : n ≤ 6) (hr : ∀ i, i < n → r i < zcn c 3) (hu : ∀ i j, i < n → j < n → r i = r j → i = j) (A : Nat → Int32) : (zround c g (zcn c 5) q (nI T) n r A).1 = nI (zNr g (zcn c 5) q T r n).1 ∧ ∀ p, p < n → (zround c g (zcn c 5) q (nI T) n r A).2.2.2 (r p) = nI ((zNr g (zcn c 5) q T r n).2.2.2 p) := by
  obtain ⟨s1, -⟩ := zNg D (s := 4) (r := q) (k := 1) (by decide) hq (by decide) rfl (by decide)
  obtain ⟨u1, -⟩ := zNg D (s := 0) (r := zNv g 4 q 0) (k := 0) (by decide) (zNv_kit D hq).2.1 (by decide) rfl (by decide)
  have kk : zget c g 4 (nI q) 0 = nI (zNv g 4 q 0) := (zget_g D (s := 4) (r := q) (k := 0) (by decide) hq (by decide)).trans (zNv_kit D hq).1
  refine zNs_c D h8 hq hT hn hr hu n 0 _ _ (by omega) (zNI_0 D hq) rfl ?_ s1 (fun p hp => absurd hp (Nat.not_lt_zero p))
  dsimp only
  rw [kk]
  exact u1
/-- the reference's round -/
theorem zNr_m (D : zDR c g J B) (h8 : 0 < zcn c 8) {q T n : Nat} (hq : q < zcn c 4) (hT : T < 64) {r : Nat → Nat} (hn : n ≤ 6) (hr : ∀ i, i < n → r i < zcn c 3) (A : Nat → Int32) : (zmgR J B (zcn c 5) q (zNv g 4 q 0) (nI T) r n A).1 = nI (zNr g (zcn c 5) q T r n).1 ∧ (∀ p, p < n → (zmgR J B (zcn c 5) q (zNv g 4 q 0) (nI T) r n A).2.2.2 p = nI ((zNr g (zcn c 5) q T r n).2.2.2 p)) ∧ zNI g q n (zNr g (zcn c 5) q T r n) := by
  obtain ⟨-, s2, -⟩ := zNg D (s := 4) (r := q) (k := 1) (by decide) hq (by decide) rfl (by decide)
  obtain ⟨-, u2, -⟩ := zNg D (s := 0) (r := zNv g 4 q 0) (k := 0) (by decide) (zNv_kit D hq).2.1 (by decide) rfl (by decide)
  exact zNs_m D h8 hq hT hn hr n 0 _ _ (by omega) (zNI_0 D hq) rfl (u2 (by decide)) (s2 (by decide)) (fun p hp => absurd hp (Nat.not_lt_zero p))
end NZNR
