/-! forAll, recall, faulty, firstCold, odds: class and reference say the same -/
section NZNE
variable {c g J : Nat → Int32} {B : Nat → Nat → Int32}
theorem zor_z (a b : Int32) : a ||| b = 0 ↔ a = 0 ∧ b = 0 := by
  constructor
  · intro e
    constructor
    · have : (a ||| b) &&& a = 0 &&& a := by rw [e]
      have k : (a ||| b) &&& a = a := by
        apply Int32.toBitVec_inj.mp
        simp only [Int32.toBitVec_and, Int32.toBitVec_or]
        ext i hi
        simp
        intro z
        exact Or.inl z
      rw [k, Int32.zero_and] at this
      exact this
    · have : (a ||| b) &&& b = 0 &&& b := by rw [e]
      have k : (a ||| b) &&& b = b := by
        apply Int32.toBitVec_inj.mp
        simp only [Int32.toBitVec_and, Int32.toBitVec_or]
        ext i hi
        simp
        intro z
        exact Or.inr z
      rw [k, Int32.zero_and] at this
      exact this
  · rintro ⟨rfl, rfl⟩
    rfl
def zfaC (c g : Nat → Int32) (n : Nat) (x : Nat) (a : Int32) : Int32 := if zfit c g n (nI x) = 0 then a ||| (1 <<< (nI x &&& 31)) else a
theorem zfa_eq (D : zDR c g J B) {x : Nat} (hx : x < zcn c 1) (a : Int32) : zfaC c g (zcn c 3) x a = zfoS B (fun i => zNv g 3 i 1) (zcn c 3) x a := by
  have e13 : zget c g 1 (nI x) 0 = B 13 x := (zget_g D (s := 1) (r := x) (k := 0) (by decide) hx (by decide)).trans (D.2.2.1 1 x 0 (by decide) hx (by decide)).symm
  have : ∀ (j i : Nat) (a : Int32) (b : Bool), i + j = zcn c 3 → (a = 0 ↔ b = true) → (zit (fun i a => a ||| zbar c g (zget c g 3 (nI i) 1) (nI x)) i j a = 0 ↔ zit (fun i b => b && zdok B (zNv g 3 i 1) x) i j b = true) := by
    intro j
    induction j with
    | zero => intro i a b _ e; exact e
    | succ j ih =>
      intro i a b hi e
      obtain ⟨d1, d2, d3⟩ := zNv_diet D (r := i) (by omega)
      have e1 : zget c g 3 (nI i) 1 = nI (zNv g 3 i 1) := (zget_g D (s := 3) (r := i) (k := 1) (by decide) (by omega) (by decide)).trans d1
      have e15 : zget c g 2 (nI (zNv g 3 i 1)) 0 = B 15 (zNv g 3 i 1) := (zget_g D (s := 2) (r := zNv g 3 i 1) (k := 0) (by decide) d2 (by decide)).trans (D.2.2.1 2 (zNv g 3 i 1) 0 (by decide) d2 (by decide)).symm
      refine ih (i + 1) _ _ (by omega) ?_
      dsimp only
      rw [zor_z, e, e1, zbar, e15, e13, Int32.and_comm, Bool.and_eq_true, zdok, decide_eq_true_eq]
  have q := this (zcn c 3) 0 0 true (by omega) ⟨fun _ => rfl, fun _ => rfl⟩
  rw [zfaC, zfoS, zfit]
  by_cases y : zit (fun i b => b && zdok B (zNv g 3 i 1) x) 0 (zcn c 3) true = true
  · rw [if_pos (q.mpr y), if_pos y]
  · rw [if_neg (fun z => y (q.mp z)), if_neg y, Int32.or_zero]
def zrcC (c g : Nat → Int32) (N : Nat → Nat) (R : Nat → Nat → Nat) (x : Int32) (q : Nat) (a : Int32) : Int32 := if zget c g 4 (nI q) 0 = x then a ||| zhof N R q else a
theorem zrc_eq (D : zDR c g J B) {q : Nat} (hq : q < zcn c 4) (N : Nat → Nat) (R : Nat → Nat → Nat) (x a : Int32) : zrcC c g N R x q a = zreC B N R x q a := by
  have e26 : zget c g 4 (nI q) 0 = B 26 q := (zget_g D (s := 4) (r := q) (k := 0) (by decide) hq (by decide)).trans (D.2.2.1 4 q 0 (by decide) hq (by decide)).symm
  rw [zrcC, zreC, e26]
  by_cases y : B 26 q = x
  · rw [if_pos y, decide_eq_true y, zhof]
    have : ∀ (j i : Nat) (a b : Int32), a ||| zit (fun i a => a ||| (1 <<< (nI (R q i) &&& 31))) i j b = zit (zreS (R q) true) i j (a ||| b) := by
      intro j
      induction j with
      | zero => intro i a b; rfl
      | succ j ih =>
        intro i a b
        rw [zit, zit, ih (i + 1), zreS, if_pos rfl, Int32.or_assoc]
    rw [this, Int32.or_zero]
  · rw [if_neg y, decide_eq_false y]
    have : ∀ (j i : Nat) (a : Int32), zit (zreS (R q) false) i j a = a := by
      intro j
      induction j with
      | zero => intro i a; rfl
      | succ j ih =>
        intro i a
        rw [zit, zreS, if_neg (by decide), Int32.or_zero]
        exact ih (i + 1) a
    rw [this]
theorem zabs_le {x al : Int32} (h : 0 ≤ al) : zabs x ≤ al ↔ ¬ (al < x ∨ ¬ -x ≤ al) := by
  have h0 := Int32.le_iff_toInt_le.mp h
  have h1 : (0 : Int32).toInt = 0 := rfl
  have hx := Int32.toInt_lt x
  have hx' := Int32.le_toInt x
  have ha := Int32.toInt_lt al
  rw [zabs, Int32.zero_sub]
  split
  · rename_i y
    have y' := Int32.le_iff_toInt_le.mp y
    rw [Int32.lt_iff_toInt_lt, Int32.le_iff_toInt_le, Int32.le_iff_toInt_le, Int32.toInt_neg]
    rw [Int.bmod_eq_of_le (by omega) (by omega)]
    omega
  · rename_i y
    have y' : ¬ (0 : Int32).toInt ≤ x.toInt := fun z => y (Int32.le_iff_toInt_le.mpr z)
    rw [Int32.lt_iff_toInt_lt, Int32.le_iff_toInt_le]
    constructor
    · intro z w
      cases w with
      | inl w => omega
      | inr w => exact w z
    · intro z
      apply Decidable.byContradiction
      intro w
      exact z (Or.inr w)
theorem zfy_eq (D : zDR c g J B) (h8 : 0 < zcn c 8) {n : Nat} {C M T C' M' T' : Nat → Int32} {al : Int32} (hal : 0 ≤ al) (hC : ∀ i, i < n → C i = C' i ∧ M i = M' i ∧ T i = T' i) (hP : ∀ i, i < n → ∃ q m, C i = nI q ∧ q < zcn c 4 ∧ M i = nI m ∧ zNv g 4 q 1 ≤ m ∧ m ≤ 9999) : ∀ (j i : Nat) (a : Int32), i + j = n → zit (zoff c g C M T al) i j a = zit (zfyS B (fun q => zNv g 4 q 0) C' M' T' al) i j a := by
  intro j
  induction j with
  | zero => intro i a _; rfl
  | succ j ih =>
    intro i a hi
    have es : zoff c g C M T al i a = zfyS B (fun q => zNv g 4 q 0) C' M' T' al i a := by
      obtain ⟨e1, e2, e3⟩ := hC i (by omega)
      obtain ⟨q, m, q1, q2, q3, q4, q5⟩ := hP i (by omega)
      have h4 : q < 3 := Nat.lt_of_lt_of_le q2 (D.1 4 (by decide)).2
      rw [zoff, zfyS, ← e1, ← e2, ← e3, q1, q3, (zNbd_c D h8 q2 q4 q5).2.2.2, nI_clamp (show q < 2 ^ 31 by omega)]
      by_cases y : zabs (T i - zmht B q (zNv g 4 q 0) (nI m)) ≤ al
      · rw [if_pos y, if_neg ((zabs_le hal).mp y)]
      · rw [if_neg y, if_pos (Decidable.byContradiction fun z => y ((zabs_le hal).mpr z))]
    rw [zit, zit, es]
    exact ih (i + 1) _ (by omega)
def zeI (M : Nat → Int32) : Option Nat → Int32 × Int32
  | none => (-2, 1000000000)
  | some b => (nI b, M b)
theorem zeI_1 (M : Nat → Int32) (b : Option Nat) : (zeI M b).1 = zob2 b := by cases b <;> rfl
theorem zfc_eq {n : Nat} {M T M' T' : Nat → Int32} {hot : Int32} (hC : ∀ i, i < n → M i = M' i ∧ T i = T' i) (hP : ∀ i, i < n → ∃ m, M i = nI m ∧ m ≤ 9999) : ∀ (j i : Nat) (b : Option Nat), i + j = n → (∀ v, b = some v → v < n) → (zit (zear M T hot) i j (zeI M b)).1 = zob2 (zit (zfcB M' T' hot) i j b) := by
  intro j
  induction j with
  | zero => intro i b _ _; exact zeI_1 M b
  | succ j ih =>
    intro i b hi hb
    obtain ⟨e2, e3⟩ := hC i (by omega)
    obtain ⟨m, m1, m2⟩ := hP i (by omega)
    have es : zear M T hot i (zeI M b) = zeI M (zfcB M' T' hot i b) := by
      rw [zear, e3]
      cases b with
      | none =>
        rw [zfcB]
        split
        · rfl
        · rw [if_neg (show ¬ (zeI M none).2 ≤ M i by rw [m1]; exact nI_ge (b := 1000000000) (by omega) (by decide))]
          rfl
      | some v =>
        rw [zfcB, ← (hC v (hb v rfl)).1, ← e2]
        split
        · rfl
        · rw [show (zeI M (some v)).2 = M v from rfl]
          split <;> rfl
    rw [zit, zit, es]
    refine ih (i + 1) _ (by omega) (fun v ev => ?_)
    cases b with
    | none =>
      rw [zfcB] at ev
      split at ev <;> cases ev
      omega
    | some w =>
      have := hb w rfl
      rw [zfcB] at ev
      split at ev
      · cases ev; omega
      · split at ev <;> cases ev <;> omega
theorem zbO : ∀ T, T < 64 → ∀ v, v < 6 → nI T ||| (1 <<< (nI v &&& 31)) = nI (T ||| 2 ^ v) ∧ (T ||| 2 ^ v) < 64 := by decide +kernel
theorem zod_eq (D : zDR c g J B) (h8 : 0 < zcn c 8) {q n : Nat} (hq : q < zcn c 4) {r : Nat → Nat} (hn : n ≤ 6) (hr : ∀ i, i < n → r i < zcn c 3) (hu : ∀ i j, i < n → j < n → r i = r j → i = j) : ∀ (j ch : Nat) (a : Int64), ch + j = 2 ^ n → zit (zodT c g (zcn c 5) q n r) ch j a = zit (zooS J B (zcn c 5) q (zNv g 4 q 0) n r) ch j a := by
  have h6 : zcn c 3 ≤ 6 := (D.1 3 (by decide)).2
  have h64 : 2 ^ n ≤ 64 := Nat.pow_le_pow_right (by decide : 0 < 2) hn
  have inn : ∀ ch, ch < 64 → ∀ (j i : Nat) (s : Int32 × Int64) (T : Nat), i + j = n → s.1 = nI T → T < 64 → zit (zodS c g (nI ch) r) i j s = zit (zoiS B r ch) i j s ∧ ∃ T', (zit (zoiS B r ch) i j s).1 = nI T' ∧ T' < 64 := by
    intro ch hch j
    induction j with
    | zero => intro i s T _ e hT; exact ⟨rfl, T, e, hT⟩
    | succ j ih =>
      intro i s T hi e hT
      have hri := hr i (by omega)
      have e22 : zget c g 3 (nI (r i)) 4 = B 22 (r i) := (zget_g D (s := 3) (r := r i) (k := 4) (by decide) hri (by decide)).trans (D.2.2.1 3 (r i) 4 (by decide) hri (by decide)).symm
      have es : zodS c g (nI ch) r i s = zoiS B r ch i s := by
        rw [zodS, zoiS, e22]
        have z := (zD7 ch (by omega) i (by omega)).2.2
        by_cases y : (nI ch >>> (nI i &&& 31)) &&& 1 = 1
        · rw [if_neg (fun w => (z.mp w) y), if_pos y]
        · rw [if_pos (z.mpr y), if_neg y]
      rw [zit, zit, es]
      have : ∃ T', (zoiS B r ch i s).1 = nI T' ∧ T' < 64 := by
        rw [zoiS, e]
        split
        · exact ⟨_, (zbO T hT (r i) (by omega)).1, (zbO T hT (r i) (by omega)).2⟩
        · exact ⟨T, Int32.or_zero, hT⟩
      obtain ⟨T', t1, t2⟩ := this
      exact ih (i + 1) _ T' (by omega) t1 t2
  intro j
  induction j with
  | zero => intro ch a _; rfl
  | succ j ih =>
    intro ch a hc
    have es : zodT c g (zcn c 5) q n r ch a = zooS J B (zcn c 5) q (zNv g 4 q 0) n r ch a := by
      obtain ⟨e1, T, e2, e3⟩ := inn ch (by omega) n 0 (0, 1) 0 (by omega) rfl (by decide)
      rw [zodT, zooS, e1, e2, (zNr_c D h8 hq e3 hn hr hu _).1, (zNr_m D h8 hq e3 hn hr _).1]
      split
      · rfl
      · rw [Int64.add_zero]
    rw [zit, zit, es]
    exact ih (ch + 1) _ (by omega)
end NZNE
