/-! menus as numbers that may be wanting; the reference's coin, menu -/
def zomn : Option Nat → Option Nat → Option Nat
  | none, x => x
  | some a, none => some a
  | some a, some b => some (if a ≤ b then a else b)
def zomS (r : Nat → Option Nat) (bo : Option Nat) (i : Nat) (b : Option Nat) : Option Nat := if some i = bo then b else zomn b (r i)
/-- the least of a row but one -/
def zomin (nd : Nat) (r : Nat → Option Nat) (bo : Option Nat) : Option Nat := zit (zomS r bo) 0 nd none
/-- the least coin of q days that begin with a dish -/
def zor (nd : Nat) (ok : Nat → Bool) (cost : Nat → Nat) : Nat → Nat → Option Nat
  | 0, _ => none
  | q + 1, x => if ok x then (if q = 0 then some (cost x) else (zomin nd (zor nd ok cost q) (some x)).map (cost x + ·)) else none
/-- the first dish of a coin -/
def zofd (r : Nat → Option Nat) (bo b : Option Nat) : Nat → Nat → Nat
  | 0, i => i
  | f + 1, i => if some i ≠ bo ∧ r i = b then i else zofd r bo b f (i + 1)
theorem zomin_b {nd M : Nat} {r : Nat → Option Nat} {bo : Option Nat} (hr : ∀ i v, i < nd → r i = some v → v ≤ M) : ∀ (j i : Nat) (b : Option Nat), i + j = nd → (∀ v, b = some v → v ≤ M) → ∀ v, zit (zomS r bo) i j b = some v → v ≤ M := by
  intro j
  induction j with
  | zero => intro i b _ hb v e; exact hb v e
  | succ j ih =>
    intro i b hi hb v e
    refine ih (i + 1) _ (by omega) (fun w ew => ?_) v e
    rw [zomS] at ew
    split at ew
    · exact hb w ew
    · cases b with
      | none => exact hr i w (by omega) ew
      | some a =>
        cases er : r i with
        | none => rw [er] at ew; exact hb w ew
        | some c =>
          rw [er, zomn] at ew
          have h1 := hb a rfl
          have h2 := hr i c (by omega) er
          cases ew
          split <;> omega
theorem zor_b {nd : Nat} {ok : Nat → Bool} {cost : Nat → Nat} (hc : ∀ i, i < nd → cost i ≤ 99) : ∀ (q x v : Nat), x < nd → zor nd ok cost q x = some v → v ≤ 99 * q := by
  intro q
  induction q with
  | zero => intro x v hx e; cases e
  | succ q ih =>
    intro x v hx e
    rw [zor] at e
    split at e
    · split at e
      · cases e
        have := hc x hx
        omega
      · cases em : zomin nd (zor nd ok cost q) (some x) with
        | none => rw [em] at e; cases e
        | some w =>
          rw [em] at e
          have h1 := zomin_b (M := 99 * q) (fun i v hi => ih i v hi) nd 0 none (by omega) (fun v ev => by cases ev) w em
          have h2 := hc x hx
          simp only [Option.map_some, Option.some.injEq] at e
          omega
    · cases e
theorem zob_eq {a b : Option Nat} (ha : ∀ v, a = some v → v < 2 ^ 31) (hb : ∀ v, b = some v → v < 2 ^ 31) : zob a = zob b ↔ a = b := by
  cases a with
  | none =>
    cases b with
    | none => exact ⟨fun _ => rfl, fun _ => rfl⟩
    | some b => exact ⟨fun z => absurd z.symm (zob_ne (hb b rfl)), fun z => by cases z⟩
  | some a =>
    cases b with
    | none => exact ⟨fun z => absurd z (zob_ne (ha a rfl)), fun z => by cases z⟩
    | some b => exact ⟨fun z => congrArg some ((nI_eq (ha a rfl) (hb b rfl)).mp z), fun z => congrArg zob z⟩
theorem zmc_o {C : Nat → Int32} {r : Nat → Option Nat} {f nd : Nat} {bo : Option Nat} (hbo : ∀ v, bo = some v → v < 2 ^ 31) (hC : ∀ i, i < nd → C (6 * f + i) = zob (r i)) (hr : ∀ i v, i < nd → r i = some v → v < 2 ^ 31) (hnd : nd ≤ 6) : ∀ (j i : Nat) (b : Option Nat), i + j = nd → (∀ v, b = some v → v < 2 ^ 31) → zit (zmcS C f (zob bo)) i j (zob b) = zob (zit (zomS r bo) i j b) := by
  intro j
  induction j with
  | zero => intro i b _ _; rfl
  | succ j ih =>
    intro i b hi hb
    rw [zit, zit]
    have e : zmcS C f (zob bo) i (zob b) = zob (zomS r bo i b) := by
      rw [zmcS, zomS, hC i (by omega)]
      have e1 : nI i = zob bo ↔ some i = bo := zob_eq (a := some i) (fun v ev => by cases ev; omega) hbo
      by_cases y : some i = bo
      · rw [if_pos (e1.mpr y), if_pos y]
      · rw [if_neg (fun z => y (e1.mp z)), if_neg y]
        cases er : r i with
        | none =>
          rw [if_pos (show zob none = -1 from rfl)]
          cases b <;> rfl
        | some c =>
          have hcv := hr i c (by omega) er
          rw [if_neg (show ¬ zob (some c) = -1 from zob_ne hcv)]
          cases b with
          | none => rw [if_pos (show zob none = -1 from rfl)]; rfl
          | some a =>
            have hav := hb a rfl
            rw [if_neg (show ¬ zob (some a) = -1 from zob_ne hav), zomn]
            by_cases w : a ≤ c
            · rw [if_pos (show zob (some a) ≤ zob (some c) from nI_le w hcv), if_pos w]
            · rw [if_neg (show ¬ zob (some a) ≤ zob (some c) from nI_ge (by omega) hav), if_neg w]
    rw [e]
    refine ih (i + 1) _ (by omega) (fun v ev => ?_)
    have := zomin_b (nd := i + 1) (M := 2 ^ 31 - 1) (r := r) (bo := bo) (fun i' v hi' ev => by have := hr i' v (by omega) ev; omega) 1 i b (by omega) (fun v ev => by have := hb v ev; omega) v ev
    omega
section NZMM
variable {d t : Nat} {h : nzH} {F0 : Nat → Value} {W : Int64} {rd : Option Nat} {tp : Nat → Int32} {J : Nat → Int32} {B : Nat → Nat → Int32} {Wd : Nat → Int64} {I : Nat → Int32}
theorem kX13_cheapest (E : zmd h t J B Wd) (ht : 94 ≤ t) (hd : 0 < d) {A : Nat → Nat → Int32} {nd f : Nat} (hn : nd ≤ 6) (en : J 3 = nI nd) (hf : f < 14) {bo : Option Nat} (hbo : ∀ v, bo = some v → v < 2 ^ 31) {r : Nat → Option Nat} (hC : ∀ i, i < nd → A 31 (6 * f + i) = zob (r i)) (hr : ∀ i v, i < nd → r i = some v → v < 2 ^ 31) : nzxI d nX13_cheapest [.ref 73, .int (nI f), .int (zob bo)] (zmS h F0 I W (some t) rd tp A) = some (zob (zomin nd r bo), zmS h F0 I W (some t) rd tp A) := by
  rw [jX13_cheapest zmo_S (zmd_S E ht) hd hn en hf (zob bo)]
  have := zmc_o hbo hC hr hn nd 0 none (by omega) (fun v ev => by cases ev)
  rw [zomin, ← this]
  rfl
/-- what a day says of a diet: the dishes that fit, their coin -/
def zdok (B : Nat → Nat → Int32) (e : Nat) (x : Nat) : Bool := decide (B 13 x &&& B 15 e = 0)
theorem kX13_co11 (E : zmd h t J B Wd) (ht : 94 ≤ t) (hd : 0 < d) {nd e m : Nat} {cost : Nat → Nat} (hn : nd ≤ 6) (en : J 3 = nI nd) (he : e < 4) (hm : m ≤ 14) (hc : ∀ i, i < nd → B 14 i = nI (cost i) ∧ cost i ≤ 99) {k : Nat} (hk : k < m) : ∀ (j i : Nat) (A : Nat → Nat → Int32) (u5 : Option Value), i + j = nd → (k + 1 < m → ∀ i, i < nd → A 31 (6 * (k + 1) + i) = zob (zor nd (zdok B e) cost (m - (k + 1)) i)) → ∃ w w4 w5, nzr d nX13_coinOf 11 [some (.ref 73), some (.int (nI e)), some (.int (nI m)), some (.int (nI k)), some (.int (nI i)), u5] [] (zmS h F0 I W (some t) rd tp A) = nzr d nX13_coinOf 4 [some (.ref 73), some (.int (nI e)), some (.int (nI m)), some (.int (nI k - 1)), w4, w5] [] (zmS h F0 I W (some t) rd tp (va_up A 31 w)) ∧ (∀ a, a < 6 * k + i ∨ 6 * k + nd ≤ a → w a = A 31 a) ∧ ∀ i', i ≤ i' → i' < nd → w (6 * k + i') = zob (zor nd (zdok B e) cost (m - k) i') := by
  intro j
  induction j with
  | zero =>
    intro i A u5 hi P
    refine ⟨A 31, some (.int (nI i)), u5, ?_, fun a _ => rfl, fun i' h1 h2 => by omega⟩
    rw [eX13_coinOf_11, zmS_T, Option.bind_some, zj E ht (by decide), Option.bind_some, en, if_pos (nI_le (by omega) (by omega)), zm1, va_up_same]
  | succ j ih =>
    intro i A u5 hi P
    have a14 : nzaI (zmS h F0 I W (some t) rd tp A) (t + (14 - 10)) (nI i) = some (nI (cost i)) := (zda E ht (k := 14) (by decide) (by decide) (by decide) (by decide) (by decide) (show i < 6 by omega)).trans (congrArg some (hc i (by omega)).1)
    have hb : ∀ q i v, i < nd → zor nd (zdok B e) cost q i = some v → v ≤ 99 * q := fun q i v hi ev => zor_b (fun i hi => (hc i hi).2) q i v hi ev
    have st : nzr d nX13_coinOf 11 [some (.ref 73), some (.int (nI e)), some (.int (nI m)), some (.int (nI k)), some (.int (nI i)), u5] [] (zmS h F0 I W (some t) rd tp A) = nzr d nX13_coinOf 43 [some (.ref 73), some (.int (nI e)), some (.int (nI m)), some (.int (nI k)), some (.int (nI i)), u5] [.int (if k + 1 = m then 0 else zob (zomin nd (zor nd (zdok B e) cost (m - (k + 1))) (some i)))] (zmS h F0 I W (some t) rd tp A) := by
      rw [eX13_coinOf_11, zmS_T, Option.bind_some, zj E ht (by decide), Option.bind_some, en, if_neg (nI_ge (by omega) (by omega)), show nI m - 1 = nI (m - 1) from nI_sub (b := 1) (by omega)]
      by_cases y : k + 1 = m
      · rw [if_pos (congrArg nI (by omega)), if_pos y]
      · rw [if_neg (fun z => y (by have := (nI_eq (by omega) (by omega)).mp z; omega)), if_neg y, nI_1, show nI i = zob (some i) from rfl, kX13_cheapest E ht hd hn en (by omega) (fun v ev => by cases ev; omega) (P (by omega)) (fun i' v hi' ev => by have := hb _ _ _ hi' ev; omega), Option.bind_some]
    have val : nzr d nX13_coinOf 43 [some (.ref 73), some (.int (nI e)), some (.int (nI m)), some (.int (nI k)), some (.int (nI i)), u5] [.int (if k + 1 = m then 0 else zob (zomin nd (zor nd (zdok B e) cost (m - (k + 1))) (some i)))] (zmS h F0 I W (some t) rd tp A) = nzr d nX13_coinOf 11 [some (.ref 73), some (.int (nI e)), some (.int (nI m)), some (.int (nI k)), some (.int (nI (i + 1))), some (.int (if k + 1 = m then 0 else zob (zomin nd (zor nd (zdok B e) cost (m - (k + 1))) (some i))))] [] (zmS h F0 I W (some t) rd tp (va_up A 31 (upd (A 31) (6 * k + i) (zob (zor nd (zdok B e) cost (m - k) i))))) := by
      rw [eX13_coinOf_43, zR_31, Option.bind_some, jX13_barred zmo_S (zmd_S E ht) hd he (show i < 6 by omega), Option.bind_some, show 6 * nI k + nI i = nI (6 * k + i) by rw [show (6 : Int32) = nI 6 from rfl, pk_mul, nI_add]]
      simp only [eX13_coinOf_72, eX13_coinOf_89, zmS_T, Option.bind_some, zdr E ht (k := 14) (by decide) (by decide), a14, zW_31 (show 6 * k + i < 84 by omega), nI_1]
      obtain ⟨q, hq⟩ : ∃ q, m - k = q + 1 := ⟨m - k - 1, by omega⟩
      rw [hq, zor, show m - (k + 1) = q by omega]
      by_cases y : B 13 i &&& B 15 e = 0
      · rw [if_pos y, if_pos (show zdok B e i = true by rw [zdok, decide_eq_true_eq]; exact y)]
        by_cases x : k + 1 = m
        · rw [if_pos x, if_neg (show ¬ (0 : Int32) = -1 by decide), if_pos (show q = 0 by omega), Int32.add_zero]
          rfl
        · rw [if_neg x, if_neg (show ¬ q = 0 by omega)]
          cases em : zomin nd (zor nd (zdok B e) cost q) (some i) with
          | none => rw [if_pos (show zob none = -1 from rfl)]; rfl
          | some v =>
            have hv := zomin_b (M := 99 * q) (bo := some i) (fun i v hi ev => hb q i v hi ev) nd 0 none (by omega) (fun v ev => by cases ev) v em
            rw [if_neg (show ¬ zob (some v) = -1 from zob_ne (by omega)), show zob (some v) = nI v from rfl, nI_add]
            rfl
      · rw [if_neg y, if_neg (show ¬ zdok B e i = true by rw [zdok, decide_eq_true_eq]; exact y)]
        rfl
    obtain ⟨w, w4, w5, p1, p2, p3⟩ := ih (i + 1) (va_up A 31 (upd (A 31) (6 * k + i) (zob (zor nd (zdok B e) cost (m - k) i)))) _ (by omega) (fun h1 i' hi' => by
      rw [va_up_self, upd_ne (by omega)]
      exact P h1 i' hi')
    refine ⟨w, w4, w5, ?_, fun a ha => ?_, fun i' h1 h2 => ?_⟩
    · rw [st, val, p1, va_up_up]
    · rw [p2 a (by omega), va_up_self, upd_ne (by omega)]
    · by_cases y : i' = i
      · rw [y, p2 (6 * k + i) (by omega), va_up_self, upd_eq]
      · exact p3 i' (by omega) h2
theorem kX13_co4 (E : zmd h t J B Wd) (ht : 94 ≤ t) (hd : 0 < d) {nd e m : Nat} {cost : Nat → Nat} (hn : nd ≤ 6) (en : J 3 = nI nd) (he : e < 4) (hm : m ≤ 14) (m0 : 0 < m) (hc : ∀ i, i < nd → B 14 i = nI (cost i) ∧ cost i ≤ 99) : ∀ (k : Nat) (A : Nat → Nat → Int32) (u4 u5 : Option Value), k ≤ m → (∀ k', k ≤ k' → k' < m → ∀ i, i < nd → A 31 (6 * k' + i) = zob (zor nd (zdok B e) cost (m - k') i)) → ∃ w, nzr d nX13_coinOf 4 [some (.ref 73), some (.int (nI e)), some (.int (nI m)), some (.int (nI k - 1)), u4, u5] [] (zmS h F0 I W (some t) rd tp A) = some (some (.int (zob (zomin nd (zor nd (zdok B e) cost m) none))), zmS h F0 I W (some t) rd tp (va_up A 31 w)) ∧ ∀ k', k' < m → ∀ i, i < nd → w (6 * k' + i) = zob (zor nd (zdok B e) cost (m - k') i) := by
  have hb : ∀ q i v, i < nd → zor nd (zdok B e) cost q i = some v → v ≤ 99 * q := fun q i v hi ev => zor_b (fun i hi => (hc i hi).2) q i v hi ev
  intro k
  induction k with
  | zero =>
    intro A u4 u5 hk P
    refine ⟨A 31, ?_, fun k' h1 => P k' (Nat.zero_le _) h1⟩
    rw [eX13_coinOf_4, if_pos (show nI 0 - 1 < 0 by decide), va_up_same, show (0 : Int32) = nI 0 from rfl, show (-1 : Int32) = zob none from rfl, kX13_cheapest E ht hd hn en (by decide) (fun v ev => by cases ev) (r := zor nd (zdok B e) cost m) (fun i hi => P 0 (Nat.le_refl _) m0 i hi) (fun i' v hi' ev => by have := hb _ _ _ hi' ev; omega), Option.bind_some]
  | succ k ih =>
    intro A u4 u5 hk P
    obtain ⟨w, w4, w5, p1, p2, p3⟩ := kX13_co11 (F0 := F0) (W := W) (rd := rd) (tp := tp) (I := I) E ht hd hn en he hm hc (show k < m by omega) nd 0 A u5 (by omega) (fun h1 => P (k + 1) (Nat.le_refl _) h1)
    obtain ⟨w', q1, q2⟩ := ih (va_up A 31 w) w4 w5 (by omega) (fun k' h1 h2 i hi => by
      rw [va_up_self]
      by_cases y : k' = k
      · rw [y]
        exact p3 i (Nat.zero_le _) hi
      · rw [p2 _ (by omega)]
        exact P k' (by omega) h2 i hi)
    refine ⟨w', ?_, q2⟩
    rw [eX13_coinOf_4, nI_pred, if_neg (nI_pos (by omega)), show (0 : Int32) = nI 0 from rfl, p1, q1, va_up_up]
theorem kX13_coinOf (E : zmd h t J B Wd) (ht : 94 ≤ t) (hd : 1 < d) {nd e m : Nat} {cost : Nat → Nat} (hn : nd ≤ 6) (en : J 3 = nI nd) (he : e < 4) (hm : m ≤ 14) (m0 : 0 < m) (hc : ∀ i, i < nd → B 14 i = nI (cost i) ∧ cost i ≤ 99) (A : Nat → Nat → Int32) : ∃ w, nzxI d nX13_coinOf [.ref 73, .int (nI e), .int (nI m)] (zmS h F0 I W (some t) rd tp A) = some (zob (zomin nd (zor nd (zdok B e) cost m) none), zmS h F0 I W (some t) rd tp (va_up A 31 w)) ∧ ∀ k', k' < m → ∀ i, i < nd → w (6 * k' + i) = zob (zor nd (zdok B e) cost (m - k') i) := by
  obtain ⟨w, p1, p2⟩ := kX13_co4 (F0 := F0) (W := W) (rd := rd) (tp := tp) (I := I) (d := d - 1) E ht (by omega) hn en he hm m0 hc m A none none (Nat.le_refl _) (fun k' h1 h2 => by omega)
  refine ⟨w, iX13_coinOf (by omega) zmS_o ?_, p2⟩
  rw [eX13_coinOf_0]
  exact p1
end NZMM
