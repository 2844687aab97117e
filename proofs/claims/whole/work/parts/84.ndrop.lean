/-! who is dropped: class and reference say the same -/
section NZND
variable {c g J : Nat → Int32} {B : Nat → Nat → Int32}
theorem zprs_c (D : zDR c g J B) {m : Nat} (m0 : 0 < m) (hm : m ≤ 14) : ∀ (j i : Nat), i + j = zcn c 3 → zprA c g m i j = (zprs (fun i => zNp c g B (zNv g 3 i 1) m) i j).isSome ∧ ∀ x, i ≤ x → x < zcn c 3 → zpri c g m x = zow (zNp c g B (zNv g 3 x 1) m) := by
  have key : ∀ x, x < zcn c 3 → zpri c g m x = zow (zNp c g B (zNv g 3 x 1) m) := fun x hx => by
    obtain ⟨d1, d2, d3⟩ := zNv_diet D hx
    rw [zpri, show zget c g 3 (nI x) 1 = nI (zNv g 3 x 1) from (zget_g D (s := 3) (r := x) (k := 1) (by decide) hx (by decide)).trans d1]
    exact zmenu_c D d2 m0 hm
  have hb : ∀ x, x < zcn c 3 → ∀ v, zNp c g B (zNv g 3 x 1) m = some v → v < 1000000 := fun x hx v ev => by
    have := zomin_b (M := 99 * m) (bo := none) (fun i' v hi' ev => zor_b (fun i hi => (zNc_ok D hi).2) m i' v hi' ev) (zcn c 1) 0 none (by omega) (fun v ev => by cases ev) v ev
    omega
  intro j
  induction j with
  | zero => intro i hi; exact ⟨rfl, fun x h1 h2 => by omega⟩
  | succ j ih =>
    intro i hi
    refine ⟨?_, fun x _ h2 => key x h2⟩
    rw [zprA, zprs, key i (by omega)]
    have e := (ih (i + 1) (by omega)).1
    cases er : zNp c g B (zNv g 3 i 1) m with
    | none => rw [if_pos (show zow none = 1000000000 from rfl)]; rfl
    | some v =>
      have := hb i (by omega) v er
      rw [if_neg (show ¬ zow (some v) = 1000000000 from fun z => by have := (nI_eq (a := v) (b := 1000000000) (by omega) (by decide)).mp z; omega), e]
      cases zprs (fun i => zNp c g B (zNv g 3 i 1) m) (i + 1) j <;> rfl
def zlI (need : Nat → Nat) : Option Nat → Int32 × Int32
  | none => (0, 1000000000)
  | some b => (nI b, nI (need b))
theorem zlI_1 (need : Nat → Nat) (bo : Option Nat) : (zlI need bo).1 = nI (bo.getD 0) := by
  cases bo <;> rfl
theorem zdrp_ln {need : Nat → Nat} {n gone : Nat} (hN : ∀ i, i < n → zget c g 3 (nI i) 5 = nI (need i) ∧ need i ≤ 9) (hn : n ≤ 6) (hg : gone < 64) : ∀ (j i : Nat) (bo : Option Nat), i + j = n → (∀ b, bo = some b → b < n) → zit (zlnS c g (nI gone)) i j (zlI need bo) = zlI need (zit (zneS need gone) i j bo) := by
  intro j
  induction j with
  | zero => intro i bo _ _; rfl
  | succ j ih =>
    intro i bo hi hbo
    obtain ⟨n1, n2⟩ := hN i (by omega)
    have es : zlnS c g (nI gone) i (zlI need bo) = zlI need (zneS need gone i bo) := by
      rw [zlnS, zneS, n1]
      by_cases y : gone / 2 ^ i % 2 = 1
      · rw [if_neg (fun z => (zT6 gone hg i (by omega)).mp z y), if_pos y]
      · rw [if_pos ((zT6 gone hg i (by omega)).mpr y), if_neg y]
        cases bo with
        | none =>
          rw [if_neg (show ¬ (zlI need none).2 < nI (need i) from nI_nlt (a := 1000000000) (b := need i) (by omega) (by decide))]
          rfl
        | some b =>
          have hb := (hN b (hbo b rfl)).2
          rw [zneC]
          by_cases w : need b < need i
          · rw [if_pos (show (zlI need (some b)).2 < nI (need i) from nI_lt w (by omega)), if_pos w]
          · rw [if_neg (show ¬ (zlI need (some b)).2 < nI (need i) from nI_nlt (by omega) (by omega)), if_neg w]
            rfl
    rw [zit, zit, es]
    refine ih (i + 1) _ (by omega) (fun b eb => ?_)
    rw [zneS] at eb
    split at eb
    · exact hbo b eb
    · cases bo with
      | none => cases eb; omega
      | some b' =>
        rw [zneC] at eb
        have := hbo b' rfl
        split at eb <;> cases eb <;> omega
theorem zdrp_sm {P : Nat → Int32} {p : Nat → Nat} {n gone : Nat} (hP : ∀ i, i < n → P i = nI (p i)) (hn : n ≤ 6) (hg : gone < 64) : ∀ (j i a : Nat), i + j = n → zit (zpol P (nI gone)) i j (nI a) = nI (zit (zsmS p gone) i j a) := by
  intro j
  induction j with
  | zero => intro i a _; rfl
  | succ j ih =>
    intro i a hi
    have es : zpol P (nI gone) i (nI a) = nI (zsmS p gone i a) := by
      rw [zpol, zsmS]
      by_cases y : gone / 2 ^ i % 2 = 1
      · rw [if_neg (fun z => (zT6 gone hg i (by omega)).mp z y), if_pos y, Int32.add_zero, Nat.add_zero]
      · rw [if_pos ((zT6 gone hg i (by omega)).mpr y), if_neg y, hP i (by omega), nI_add]
    rw [zit, zit, es]
    exact ih (i + 1) _ (by omega)
theorem zdrop_eq {P : Nat → Int32} {p need : Nat → Nat} {n coin : Nat} (hn : n ≤ 6) (hcoin : coin < 100000) (hN : ∀ i, i < n → zget c g 3 (nI i) 5 = nI (need i) ∧ need i ≤ 9) (hP : ∀ i, i < n → P i = nI (p i) ∧ p i ≤ 1400) : ∀ (f gone : Nat), gone < 64 → zdro c g P n (nI coin) f (nI gone) = nI (zdrN p need n coin f gone) := by
  intro f
  induction f with
  | zero => intro gone _; rfl
  | succ f ih =>
    intro gone hg
    have e1 := zdrp_sm (P := P) (p := p) (fun i hi => (hP i hi).1) hn hg n 0 0 (by omega)
    have b1 := zsm_le (p := p) (g := gone) (nh := n) (M := 1400) (fun i hi => (hP i hi).2) n 0 0 (by omega)
    have e2 := zdrp_ln (c := c) (g := g) hN hn hg n 0 none (by omega) (fun b eb => by cases eb)
    have b2 := (zne_ok (need := need) (g := gone) (nh := n) n 0 none (by omega) (fun b eb => by cases eb)).1
    have hb : n * 1400 ≤ 6 * 1400 := Nat.mul_le_mul_right _ hn
    rw [zdro, zdrN, show (0 : Int32) = nI 0 from rfl, e1, show (nI 0, (1000000000 : Int32)) = zlI need none from rfl, e2, zlI_1, zsmN]
    by_cases y : zit (zsmS p gone) 0 n 0 ≤ coin
    · rw [if_neg (nI_nlt y (by omega)), if_pos y]
    · rw [if_pos (nI_lt (by omega) (by omega)), if_neg y, zlnN]
      have hl : (zit (zneS need gone) 0 n none).getD 0 < 6 := by
        cases em : zit (zneS need gone) 0 n none with
        | none => exact (by decide : (0 : Nat) < 6)
        | some b =>
          have := (b2 b em).1
          show b < 6
          omega
      rw [(zD7 gone (by omega) _ (by omega)).1]
      exact ih _ (zbn6 6 (by decide) gone hg _ hl)
end NZND
