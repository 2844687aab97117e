/-! menus and who is dropped: class and reference say the same -/
def zow : Option Nat → Int32
  | none => 1000000000
  | some v => nI v
theorem zow_eq {a b : Option Nat} (ha : ∀ v, a = some v → v < 1000000) (hb : ∀ v, b = some v → v < 1000000) : zow a = zow b ↔ a = b := by
  have k : ∀ v, v < 1000000 → ¬ nI v = 1000000000 := fun v hv z => by
    have := (nI_eq (a := v) (b := 1000000000) (by omega) (by decide)).mp z
    omega
  cases a with
  | none =>
    cases b with
    | none => exact ⟨fun _ => rfl, fun _ => rfl⟩
    | some b => exact ⟨fun z => absurd z.symm (k b (hb b rfl)), fun z => by cases z⟩
  | some a =>
    cases b with
    | none => exact ⟨fun z => absurd z (k a (ha a rfl)), fun z => by cases z⟩
    | some b => exact ⟨fun z => congrArg some ((nI_eq (by have := ha a rfl; omega) (by have := hb b rfl; omega)).mp z), fun z => congrArg zow z⟩
def zr6 (nd : Nat) (r : Nat → Option Nat) (i : Nat) : Option Nat := if i < nd then r i else none
theorem zlb_o {row : Nat → Int32} {nd : Nat} {r : Nat → Option Nat} {bo : Option Nat} (hn : nd ≤ 6) (hbo : ∀ v, bo = some v → v < 1000000) (hr : ∀ i v, i < nd → r i = some v → v < 1000000) (e : ∀ i, i < 6 → row i = zow (zr6 nd r i)) : zlb row (zob bo) = zow (zomin nd r bo) := by
  have s1 : ∀ (j i : Nat) (b : Option Nat), i + j = nd → (∀ v, b = some v → v < 1000000) → zit (zlbS row (zob bo)) i j (zow b) = zow (zit (zomS r bo) i j b) := by
    intro j
    induction j with
    | zero => intro i b _ _; rfl
    | succ j ih =>
      intro i b hi hb
      have e1 : nI i = zob bo ↔ some i = bo := zob_eq (a := some i) (fun v ev => by cases ev; omega) (fun v ev => by have := hbo v ev; omega)
      have es : zlbS row (zob bo) i (zow b) = zow (zomS r bo i b) := by
        rw [zlbS, zomS, e i (by omega), zr6, if_pos (show i < nd by omega)]
        by_cases y : some i = bo
        · rw [if_pos (e1.mpr y), if_pos y]
        · rw [if_neg (fun z => y (e1.mp z)), if_neg y]
          cases er : r i with
          | none =>
            cases b with
            | none => rfl
            | some b =>
              have := hb b rfl
              rw [if_neg (show ¬ zow none < zow (some b) from nI_nlt (a := 1000000000) (by omega) (by decide))]
              rfl
          | some v =>
            have hv := hr i v (by omega) er
            cases b with
            | none =>
              rw [if_pos (show zow (some v) < zow none from nI_lt (b := 1000000000) (by omega) (by decide))]
              rfl
            | some b =>
              have hb' := hb b rfl
              rw [zomn]
              by_cases w : b ≤ v
              · rw [if_neg (show ¬ zow (some v) < zow (some b) from nI_nlt w (by omega)), if_pos w]
              · rw [if_pos (show zow (some v) < zow (some b) from nI_lt (by omega) (by omega)), if_neg w]
      rw [zit, zit, es]
      refine ih (i + 1) _ (by omega) (fun v ev => ?_)
      have := zomin_b (nd := i + 1) (M := 999999) (r := r) (bo := bo) (fun i' v hi' ev => by have := hr i' v (by omega) ev; omega) 1 i b (by omega) (fun v ev => by have := hb v ev; omega) v ev
      omega
  have s2 : ∀ (j i : Nat) (b : Option Nat), i + j = 6 → nd ≤ i → (∀ v, b = some v → v < 1000000) → zit (zlbS row (zob bo)) i j (zow b) = zow b := by
    intro j
    induction j with
    | zero => intro i b _ _ _; rfl
    | succ j ih =>
      intro i b hi hnd hb
      have es : zlbS row (zob bo) i (zow b) = zow b := by
        rw [zlbS, e i (by omega), zr6, if_neg (show ¬ i < nd by omega)]
        split
        · rfl
        · cases b with
          | none => rfl
          | some b =>
            have := hb b rfl
            rw [if_neg (show ¬ zow none < zow (some b) from nI_nlt (a := 1000000000) (by omega) (by decide))]
      rw [zit, es]
      exact ih (i + 1) b (by omega) (by omega) hb
  have hz : ∀ v, zomin nd r bo = some v → v < 1000000 := fun v ev => by
    have := zomin_b (nd := nd) (M := 999999) (r := r) (bo := bo) (fun i' v hi' ev => by have := hr i' v (by omega) ev; omega) nd 0 none (by omega) (fun v ev => by cases ev) v ev
    omega
  rw [zlb, show (6 : Nat) = nd + (6 - nd) by omega, zit_add, show (1000000000 : Int32) = zow none from rfl, s1 nd 0 none (by omega) (fun v ev => by cases ev), Nat.zero_add]
  exact s2 (6 - nd) nd _ (by omega) (Nat.le_refl _) hz
theorem zfc_o {row : Nat → Int32} {nd : Nat} {r : Nat → Option Nat} {bo : Option Nat} {v : Nat} (hn : nd ≤ 6) (hbo : ∀ v, bo = some v → v < 1000000) (hr : ∀ i v, i < nd → r i = some v → v < 1000000) (e : ∀ i, i < 6 → row i = zow (zr6 nd r i)) (em : zomin nd r bo = some v) : zfc row (zob bo) = nI (zofd r bo (zomin nd r bo) nd 0) := by
  obtain ⟨i', h1, h2⟩ := zomin_ex em
  have hv := hr i' v h1 h2.2
  rw [zfc, zlb_o hn hbo hr e, em]
  have : ∀ (f i : Nat), i + f = nd → (∃ i', i ≤ i' ∧ i' < nd ∧ some i' ≠ bo ∧ r i' = some v) → ∀ j, i + j = 6 → zfcS row (zob bo) (zow (some v)) i j = nI (zofd r bo (some v) f i) := by
    intro f
    induction f with
    | zero => intro i hi ⟨i', q1, q2, _⟩; omega
    | succ f ih =>
      intro i hi ⟨i', q1, q2, q3⟩ j hj
      obtain ⟨j, rfl⟩ : ∃ j', j = j' + 1 := ⟨j - 1, by omega⟩
      have e1 : nI i = zob bo ↔ some i = bo := zob_eq (a := some i) (fun v ev => by cases ev; omega) (fun v ev => by have := hbo v ev; omega)
      have e2 : zow (r i) = zow (some v) ↔ r i = some v := zow_eq (fun w ew => hr i w (by omega) ew) (fun w ew => by cases ew; exact hv)
      have nx : ¬ (some i ≠ bo ∧ r i = some v) → ∃ i', i + 1 ≤ i' ∧ i' < nd ∧ some i' ≠ bo ∧ r i' = some v := fun y => ⟨i', by
        have : i' ≠ i := fun z => y (by rw [← z]; exact q3)
        omega, q2, q3⟩
      rw [zfcS, zofd, e i (by omega), zr6, if_pos (show i < nd by omega)]
      by_cases y1 : some i = bo
      · rw [if_pos (e1.mpr y1), if_neg (fun y => y.1 y1)]
        exact ih (i + 1) (by omega) (nx (fun y => y.1 y1)) j (by omega)
      · rw [if_neg (fun z => y1 (e1.mp z))]
        by_cases y2 : r i = some v
        · rw [if_pos (e2.mpr y2), if_pos ⟨y1, y2⟩]
        · rw [if_neg (fun z => y2 (e2.mp z)), if_neg (fun y => y2 y.2)]
          exact ih (i + 1) (by omega) (nx (fun y => y2 y.2)) j (by omega)
  exact this nd 0 (by omega) ⟨i', Nat.zero_le _, h1, h2⟩ 6 rfl
section NZNM
variable {c g J : Nat → Int32} {B : Nat → Nat → Int32}
def zNc (g : Nat → Int32) (x : Nat) : Nat := zNv g 1 x 1
theorem zNc_ok (D : zDR c g J B) {i : Nat} (hi : i < zcn c 1) : B 14 i = nI (zNc g i) ∧ zNc g i ≤ 99 := by
  obtain ⟨-, a2, -, a4⟩ := zNg D (s := 1) (r := i) (k := 1) (by decide) hi (by decide) rfl (by decide)
  exact ⟨a2 (by decide), a4⟩
theorem zor_lt (D : zDR c g J B) {e q i v : Nat} (hq : q ≤ 14) (hi : i < zcn c 1) (ev : zor (zcn c 1) (zdok B e) (zNc g) q i = some v) : v < 1000000 := by
  have := zor_b (fun i hi => (zNc_ok D hi).2) q i v hi ev
  omega
theorem zmrow_o (D : zDR c g J B) {e : Nat} (he : e < zcn c 2) : ∀ q, q < 14 → ∀ x, x < 6 → zmrow c g (nI e) (q + 1) x = zow (zr6 (zcn c 1) (zor (zcn c 1) (zdok B e) (zNc g) (q + 1)) x) := by
  have h6 : zcn c 1 ≤ 6 := (D.1 1 (by decide)).2
  have e15 : zget c g 2 (nI e) 0 = B 15 e := (zget_g D (s := 2) (r := e) (k := 0) (by decide) he (by decide)).trans (D.2.2.1 2 e 0 (by decide) he (by decide)).symm
  intro q
  induction q with
  | zero =>
    intro hq x hx
    show zcoin c g (nI e) (zmrow c g (nI e) 0) (0 + 1) x = _
    rw [zcoin, zr6, show zrow c 1 = nI (zcn c 1) from (zrow_n c (s := 1) (by decide)).trans (D.1 1 (by decide)).1]
    by_cases y : x < zcn c 1
    · have e13 : zget c g 1 (nI x) 0 = B 13 x := (zget_g D (s := 1) (r := x) (k := 0) (by decide) y (by decide)).trans (D.2.2.1 1 x 0 (by decide) y (by decide)).symm
      obtain ⟨a1, -, -, a4⟩ := zNg D (s := 1) (r := x) (k := 1) (by decide) y (by decide) rfl (by decide)
      rw [if_neg (nI_ge y (by omega)), if_pos y, zbar, e15, e13, Int32.and_comm, zor]
      by_cases z : B 13 x &&& B 15 e = 0
      · rw [if_pos z, if_pos rfl, if_neg (by decide), Int32.zero_add, if_pos (show zdok B e x = true by rw [zdok, decide_eq_true_eq]; exact z), if_pos rfl]
        exact a1
      · rw [if_neg z, if_neg (show ¬ zdok B e x = true by rw [zdok, decide_eq_true_eq]; exact z)]
        rfl
    · rw [if_pos (nI_le (by omega) (by omega)), if_neg y]
      rfl
  | succ q ih =>
    intro hq x hx
    show zcoin c g (nI e) (zmrow c g (nI e) (q + 1)) (q + 1 + 1) x = _
    rw [zcoin, zr6, show zrow c 1 = nI (zcn c 1) from (zrow_n c (s := 1) (by decide)).trans (D.1 1 (by decide)).1, if_neg (show ¬ q + 1 + 1 = 1 by omega)]
    by_cases y : x < zcn c 1
    · have e13 : zget c g 1 (nI x) 0 = B 13 x := (zget_g D (s := 1) (r := x) (k := 0) (by decide) y (by decide)).trans (D.2.2.1 1 x 0 (by decide) y (by decide)).symm
      obtain ⟨a1, -, -, a4⟩ := zNg D (s := 1) (r := x) (k := 1) (by decide) y (by decide) rfl (by decide)
      have lb := zlb_o (row := zmrow c g (nI e) (q + 1)) (r := zor (zcn c 1) (zdok B e) (zNc g) (q + 1)) (bo := some x) h6 (fun v ev => by cases ev; omega) (fun i v hi ev => zor_lt D (by omega) hi ev) (ih (by omega))
      rw [if_neg (nI_ge y (by omega)), if_pos y, zbar, e15, e13, Int32.and_comm, zor, show nI x = zob (some x) from rfl, lb]
      by_cases z : B 13 x &&& B 15 e = 0
      · rw [if_pos z, if_pos (show zdok B e x = true by rw [zdok, decide_eq_true_eq]; exact z), if_neg (show ¬ q + 1 = 0 by omega)]
        cases em : zomin (zcn c 1) (zor (zcn c 1) (zdok B e) (zNc g) (q + 1)) (some x) with
        | none => rw [if_pos (show zow none = 1000000000 from rfl)]; rfl
        | some v =>
          have hv := zomin_b (M := 99 * (q + 1)) (bo := some x) (fun i v hi ev => zor_b (fun i hi => (zNc_ok D hi).2) (q + 1) i v hi ev) (zcn c 1) 0 none (by omega) (fun v ev => by cases ev) v em
          rw [if_neg (show ¬ zow (some v) = 1000000000 from fun z => by have := (nI_eq (a := v) (b := 1000000000) (by omega) (by decide)).mp z; omega), show zget c g 1 (zob (some x)) 1 = nI (zNc g x) from a1, show zow (some v) = nI v from rfl, nI_add, Nat.add_comm]
          rfl
      · rw [if_neg z, if_neg (show ¬ zdok B e x = true by rw [zdok, decide_eq_true_eq]; exact z)]
        rfl
    · rw [if_pos (nI_le (by omega) (by omega)), if_neg y]
      rfl
/-- the least coin of a diet for m days -/
def zNp (c g : Nat → Int32) (B : Nat → Nat → Int32) (e m : Nat) : Option Nat := zomin (zcn c 1) (zor (zcn c 1) (zdok B e) (zNc g) m) none
theorem zNp_lt (D : zDR c g J B) {e m v : Nat} (hm : m ≤ 14) (ev : zNp c g B e m = some v) : v ≤ 1386 := by
  have := zomin_b (M := 99 * m) (bo := none) (fun i v hi ev => zor_b (fun i hi => (zNc_ok D hi).2) m i v hi ev) (zcn c 1) 0 none (by omega) (fun v ev => by cases ev) v ev
  omega
theorem zmenu_c (D : zDR c g J B) {e m : Nat} (he : e < zcn c 2) (m0 : 0 < m) (hm : m ≤ 14) : zlb (zmrow c g (nI e) m) (-1) = zow (zNp c g B e m) := by
  obtain ⟨q, rfl⟩ : ∃ q, m = q + 1 := ⟨m - 1, by omega⟩
  exact zlb_o (bo := none) (D.1 1 (by decide)).2 (fun v ev => by cases ev) (fun i v hi ev => zor_lt D hm hi ev) (zmrow_o D he q (by omega))
/-- the menu told -/
theorem zmenu_t (D : zDR c g J B) {e m : Nat} (he : e < zcn c 2) (hm : m ≤ 14) {C : Nat → Nat → Int32} (hC : ∀ i, 1 ≤ i → i ≤ m → ∀ k, k < 6 → C i k = zmrow c g (nI e) i k) : ∀ (j i : Nat) (bo : Option Nat) (S S' : Nat → Int32), i + j = m → (∀ v, bo = some v → v < 1000000) → (i < m → zomin (zcn c 1) (zor (zcn c 1) (zdok B e) (zNc g) (m - i)) bo ≠ none) → (∀ k, k < i → S k = S' k) → ∀ k, k < m → (zit (ztel C m) i j (zob bo, S)).2 k = (zit (zmtS (zcn c 1) (zdok B e) (zNc g) m) i j (bo, S')).2 k := by
  have h6 : zcn c 1 ≤ 6 := (D.1 1 (by decide)).2
  intro j
  induction j with
  | zero => intro i bo S S' hi hbo hne hS k hk; exact hS k (by omega)
  | succ j ih =>
    intro i bo S S' hi hbo hne hS k hk
    have hne' := hne (by omega)
    have nx : i + 1 < m → _ := fun y => zmt_next y hne'
    cases em : zomin (zcn c 1) (zor (zcn c 1) (zdok B e) (zNc g) (m - i)) bo with
    | none => exact absurd em hne'
    | some v =>
      obtain ⟨x, x1, x2⟩ := zomin_ex em
      have o := zofd_ok (nd := zcn c 1) (zcn c 1) 0 (by omega) ⟨x, Nat.zero_le _, x1, x2⟩
      have rows : ∀ k, k < 6 → C (m - i) k = zow (zr6 (zcn c 1) (zor (zcn c 1) (zdok B e) (zNc g) (m - i)) k) := fun k hk => by
        rw [hC (m - i) (by omega) (by omega) k hk]
        obtain ⟨q, hq⟩ : ∃ q, m - i = q + 1 := ⟨m - i - 1, by omega⟩
        rw [hq]
        exact zmrow_o D he q (by omega) k hk
      have f := zfc_o h6 hbo (fun i' v hi' ev => zor_lt D (by omega) hi' ev) rows em
      rw [zit, zit, ztel, zmtS]
      dsimp only
      rw [f]
      refine ih (i + 1) (some _) _ _ (by omega) (fun w ew => ?_) nx (fun k' hk' => ?_) k hk
      · cases ew
        rw [em]
        omega
      · by_cases z : k' = i
        · rw [z, upd_eq, upd_eq]
        · rw [upd_ne z, upd_ne z]
          exact hS k' (by omega)
end NZNM
