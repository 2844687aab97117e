/-! the reference: a menu told; who is dropped -/
theorem zomin_at {nd : Nat} {r : Nat → Option Nat} {bo : Option Nat} : ∀ (j i : Nat) (b : Option Nat) (v : Nat), i + j = nd → zit (zomS r bo) i j b = some v → b = some v ∨ ∃ i', i ≤ i' ∧ i' < nd ∧ some i' ≠ bo ∧ r i' = some v := by
  intro j
  induction j with
  | zero => intro i b v _ e; exact .inl e
  | succ j ih =>
    intro i b v hi e
    rcases ih (i + 1) _ v (by omega) e with e | ⟨i', h1, h2, h3⟩
    · rw [zomS] at e
      split at e
      · exact .inl e
      · rename_i y
        cases b with
        | none => exact .inr ⟨i, Nat.le_refl _, by omega, y, e⟩
        | some a =>
          cases er : r i with
          | none => rw [er] at e; exact .inl e
          | some c =>
            rw [er, zomn] at e
            by_cases w : a ≤ c
            · rw [if_pos w] at e
              exact .inl e
            · rw [if_neg w] at e
              exact .inr ⟨i, Nat.le_refl _, by omega, y, er.trans e⟩
    · exact .inr ⟨i', by omega, h2, h3⟩
theorem zomin_ex {nd : Nat} {r : Nat → Option Nat} {bo : Option Nat} {v : Nat} (e : zomin nd r bo = some v) : ∃ i', i' < nd ∧ some i' ≠ bo ∧ r i' = some v := by
  rcases zomin_at (nd := nd) nd 0 none v (by omega) e with e | ⟨i', h1, h2, h3⟩
  · cases e
  · exact ⟨i', h2, h3⟩
theorem zofd_ok {nd : Nat} {r : Nat → Option Nat} {bo b : Option Nat} : ∀ (f i : Nat), i + f = nd → (∃ i', i ≤ i' ∧ i' < nd ∧ some i' ≠ bo ∧ r i' = b) → zofd r bo b f i < nd ∧ some (zofd r bo b f i) ≠ bo ∧ r (zofd r bo b f i) = b := by
  intro f
  induction f with
  | zero => intro i hi ⟨i', h1, h2, _⟩; omega
  | succ f ih =>
    intro i hi ⟨i', h1, h2, h3⟩
    rw [zofd]
    split
    · rename_i y
      exact ⟨by omega, y⟩
    · rename_i y
      refine ih (i + 1) (by omega) ⟨i', ?_, h2, h3⟩
      have : i' ≠ i := fun z => y (by rw [← z]; exact h3)
      omega
/-- a menu told, dish by dish -/
def zmtS (nd : Nat) (ok : Nat → Bool) (cost : Nat → Nat) (m : Nat) (i : Nat) (s : Option Nat × (Nat → Int32)) : Option Nat × (Nat → Int32) := (some (zofd (zor nd ok cost (m - i)) s.1 (zomin nd (zor nd ok cost (m - i)) s.1) nd 0), upd s.2 i (nI (zofd (zor nd ok cost (m - i)) s.1 (zomin nd (zor nd ok cost (m - i)) s.1) nd 0)))
theorem zmt_next {nd : Nat} {ok : Nat → Bool} {cost : Nat → Nat} {m k : Nat} {bo : Option Nat} (hk : k + 1 < m) (e : zomin nd (zor nd ok cost (m - k)) bo ≠ none) : zomin nd (zor nd ok cost (m - (k + 1))) (some (zofd (zor nd ok cost (m - k)) bo (zomin nd (zor nd ok cost (m - k)) bo) nd 0)) ≠ none := by
  cases em : zomin nd (zor nd ok cost (m - k)) bo with
  | none => exact absurd em e
  | some v =>
    obtain ⟨i', h1, h2⟩ := zomin_ex em
    have o := zofd_ok (nd := nd) nd 0 (by omega) ⟨i', Nat.zero_le _, h1, h2⟩
    generalize zofd (zor nd ok cost (m - k)) bo (some v) nd 0 = x at o
    have o3 := o.2.2
    rw [show m - k = (m - (k + 1)) + 1 by omega, zor] at o3
    split at o3
    · rw [if_neg (by omega)] at o3
      intro z
      rw [z] at o3
      cases o3
    · cases o3
def zprs (pr : Nat → Option Nat) : Nat → Nat → Option Nat
  | _, 0 => some 0
  | i, j + 1 => match pr i, zprs pr (i + 1) j with
    | some v, some w => some (v + w)
    | _, _ => none
def zneC (need : Nat → Nat) (i : Nat) : Option Nat → Option Nat
  | none => some i
  | some b => if need b < need i then some b else some i
def zneS (need : Nat → Nat) (g : Nat) (i : Nat) (bo : Option Nat) : Option Nat := if g / 2 ^ i % 2 = 1 then bo else zneC need i bo
def zlnN (need : Nat → Nat) (nh g : Nat) : Option Nat := zit (zneS need g) 0 nh none
def zsmS (p : Nat → Nat) (g : Nat) (i : Nat) (a : Nat) : Nat := a + (if g / 2 ^ i % 2 = 1 then 0 else p i)
def zsmN (p : Nat → Nat) (g nh : Nat) : Nat := zit (zsmS p g) 0 nh 0
def zdrN (p need : Nat → Nat) (nh coin : Nat) : Nat → Nat → Nat
  | 0, g => g
  | f + 1, g => if zsmN p g nh ≤ coin then g else zdrN p need nh coin f (g ||| 2 ^ (zlnN need nh g).getD 0)
theorem zbb6 : ∀ g, g < 64 → ∀ b, b < 6 → ∀ x, x < 6 → (g ||| 2 ^ b) / 2 ^ x % 2 = (if x = b then 1 else g / 2 ^ x % 2) := by decide +kernel
theorem zbp6 : ∀ g, g < 64 → ∀ b, b < 6 → g / 2 ^ b % 2 ≠ 1 → zpop (g ||| 2 ^ b) = zpop g + 1 := by decide +kernel
theorem zbn6 : ∀ n, n < 7 → ∀ g, g < 2 ^ n → ∀ b, b < n → (g ||| 2 ^ b) < 2 ^ n := by decide +kernel
theorem zall6 : ∀ g, g < 64 → zpop g = 6 → g = 63 := by decide +kernel
theorem zsm_in {p : Nat → Nat} {g nh b : Nat} (hg : g < 64) (hn : nh ≤ 6) (hb : b < 6) (hz : g / 2 ^ b % 2 ≠ 1) : ∀ (j i a a' : Nat), i + j = nh → (if i ≤ b then a' = a else a' + p b = a) → (if nh ≤ b then zit (zsmS p (g ||| 2 ^ b)) i j a' = zit (zsmS p g) i j a else zit (zsmS p (g ||| 2 ^ b)) i j a' + p b = zit (zsmS p g) i j a) := by
  intro j
  induction j with
  | zero =>
    intro i a a' hi e
    obtain rfl : i = nh := by omega
    exact e
  | succ j ih =>
    intro i a a' hi e
    rw [zit, zit]
    refine ih (i + 1) _ _ (by omega) ?_
    have zz := zbb6 g hg b hb i (by omega)
    simp only [zsmS, zz]
    by_cases y : i = b
    · subst y
      rw [if_pos (Nat.le_refl _)] at e
      rw [if_neg (by omega), if_pos rfl, if_pos rfl, if_neg hz, e]
      omega
    · rw [if_neg y]
      by_cases y2 : i < b
      · rw [if_pos (by omega)] at e
        rw [if_pos (by omega), e]
      · rw [if_neg (by omega)] at e
        rw [if_neg (by omega)]
        omega
theorem zne_ok {need : Nat → Nat} {g nh : Nat} : ∀ (j i : Nat) (bo : Option Nat), i + j = nh → (∀ b, bo = some b → b < i ∧ g / 2 ^ b % 2 ≠ 1) → (∀ b, zit (zneS need g) i j bo = some b → b < nh ∧ g / 2 ^ b % 2 ≠ 1) ∧ (bo ≠ none ∨ (∃ x, i ≤ x ∧ x < nh ∧ g / 2 ^ x % 2 ≠ 1) → zit (zneS need g) i j bo ≠ none) := by
  intro j
  induction j with
  | zero =>
    intro i bo hi hb
    obtain rfl : i = nh := by omega
    exact ⟨fun b e => hb b e, fun q => q.elim id (fun ⟨x, h1, h2, _⟩ => by omega)⟩
  | succ j ih =>
    intro i bo hi hb
    have h0 : ∀ b, zneS need g i bo = some b → b < i + 1 ∧ g / 2 ^ b % 2 ≠ 1 := by
      intro b e
      rw [zneS] at e
      split at e
      · have := hb b e
        exact ⟨by omega, this.2⟩
      · rename_i y
        cases bo with
        | none => cases e; exact ⟨by omega, y⟩
        | some a =>
          rw [zneC] at e
          split at e
          · cases e
            have := hb _ rfl
            exact ⟨by omega, this.2⟩
          · cases e; exact ⟨by omega, y⟩
    have := ih (i + 1) (zneS need g i bo) (by omega) h0
    refine ⟨this.1, fun q => this.2 ?_⟩
    by_cases y : g / 2 ^ i % 2 = 1
    · rw [zneS, if_pos y]
      rcases q with q | ⟨x, h1, h2, h3⟩
      · exact .inl q
      · refine .inr ⟨x, ?_, h2, h3⟩
        have : x ≠ i := fun z => h3 (by rw [z]; exact y)
        omega
    · refine .inl ?_
      rw [zneS, if_neg y]
      cases bo with
      | none => simp [zneC]
      | some a => rw [zneC]; split <;> simp
theorem zsm_0 {p : Nat → Nat} {g nh : Nat} : ∀ (j i a : Nat), i + j = nh → (∀ x, i ≤ x → x < nh → g / 2 ^ x % 2 = 1) → zit (zsmS p g) i j a = a := by
  intro j
  induction j with
  | zero => intro i a _ _; rfl
  | succ j ih =>
    intro i a hi e
    rw [zit, ih (i + 1) _ (by omega) (fun x h1 h2 => e x (by omega) h2), zsmS, if_pos (e i (Nat.le_refl _) (by omega))]
    rfl
theorem zsm_le {p : Nat → Nat} {g nh M : Nat} (hp : ∀ i, i < nh → p i ≤ M) : ∀ (j i a : Nat), i + j = nh → zit (zsmS p g) i j a ≤ a + j * M := by
  intro j
  induction j with
  | zero => intro i a _; rw [zit]; omega
  | succ j ih =>
    intro i a hi
    have h1 := ih (i + 1) (zsmS p g i a) (by omega)
    have h2 := hp i (by omega)
    rw [zit]
    refine Nat.le_trans h1 ?_
    rw [Nat.add_mul, Nat.one_mul, zsmS]
    split <;> omega
section NZDF
variable {d t : Nat} {h : nzH} {F0 : Nat → Value} {W : Int64} {rd : Option Nat} {tp : Nat → Int32} {J : Nat → Int32} {B : Nat → Nat → Int32} {Wd : Nat → Int64} {I : Nat → Int32}
theorem kX13_mn98 {A : Nat → Nat → Int32} {nd k : Nat} (hn : nd ≤ 6) (hk : k < 14) {bo b : Option Nat} (hbo : ∀ v, bo = some v → v < 2 ^ 31) (hb : ∀ v, b = some v → v < 2 ^ 31) {r : Nat → Option Nat} (hC : ∀ i, i < nd → A 31 (6 * k + i) = zob (r i)) (hr : ∀ i v, i < nd → r i = some v → v < 2 ^ 31) (x1 x2 x3 : Int32) : ∀ (f i : Nat), i + f = nd → (∃ i', i ≤ i' ∧ i' < nd ∧ some i' ≠ bo ∧ r i' = b) → nzr d nX13_menu 98 [some (.ref 73), some (.int x1), some (.int x2), some (.int x3), some (.int (zob bo)), some (.int (nI k)), some (.int (zob b)), some (.int (nI i))] [] (zmS h F0 I W (some t) rd tp A) = nzr d nX13_menu 79 [some (.ref 73), some (.int x1), some (.int x2), some (.int x3), some (.int (nI (zofd r bo b f i))), some (.int (nI (k + 1))), some (.int (zob b)), some (.int (nI (zofd r bo b f i)))] [] (zmS h F0 I W (some t) rd tp (va_up A 32 (upd (A 32) k (nI (zofd r bo b f i))))) := by
  intro f
  induction f with
  | zero => intro i hi ⟨i', h1, h2, _⟩; omega
  | succ f ih =>
    intro i hi ⟨i', h1, h2, h3⟩
    have e1 : nI i = zob bo ↔ some i = bo := zob_eq (a := some i) (fun v ev => by cases ev; omega) hbo
    have e2 : zob (r i) = zob b ↔ r i = b := zob_eq (fun v ev => hr i v (by omega) ev) hb
    have nx : ¬ (some i ≠ bo ∧ r i = b) → ∃ i', i + 1 ≤ i' ∧ i' < nd ∧ some i' ≠ bo ∧ r i' = b := fun y => ⟨i', by
      have : i' ≠ i := fun z => y (by rw [← z]; exact h3)
      omega, h2, h3⟩
    rw [eX13_menu_98, zR_31, Option.bind_some, show 6 * nI k + nI i = nI (6 * k + i) by rw [show (6 : Int32) = nI 6 from rfl, pk_mul, nI_add], zA_31 (show 6 * k + i < 84 by omega), Option.bind_some, hC i (by omega), zR_32, Option.bind_some, zW_32 hk, Option.bind_some, nI_1, zofd, eX13_menu_123, nI_1]
    by_cases y1 : some i = bo
    · rw [if_pos (e1.mpr y1), if_neg (fun y => y.1 y1)]
      exact ih (i + 1) (by omega) (nx (fun y => y.1 y1))
    · rw [if_neg (fun z => y1 (e1.mp z))]
      by_cases y2 : r i = b
      · rw [if_pos (e2.mpr y2), if_pos ⟨y1, y2⟩]
      · rw [if_neg (fun z => y2 (e2.mp z)), if_neg (fun y => y2 y.2)]
        exact ih (i + 1) (by omega) (nx (fun y => y2 y.2))
theorem kX13_mn79 (E : zmd h t J B Wd) (ht : 94 ≤ t) (hd : 0 < d) {nd m : Nat} {ok : Nat → Bool} {cost : Nat → Nat} (hn : nd ≤ 6) (en : J 3 = nI nd) (hm : m ≤ 14) (hc : ∀ i, i < nd → cost i ≤ 99) (x1 x3 : Int32) : ∀ (j k : Nat) (bo : Option Nat) (A : Nat → Nat → Int32) (u6 u7 : Option Value), k + j = m → (∀ v, bo = some v → v < 2 ^ 31) → (k < m → zomin nd (zor nd ok cost (m - k)) bo ≠ none) → (∀ k', k' < m → ∀ i, i < nd → A 31 (6 * k' + i) = zob (zor nd ok cost (m - k') i)) → nzr d nX13_menu 79 [some (.ref 73), some (.int x1), some (.int (nI m)), some (.int x3), some (.int (zob bo)), some (.int (nI k)), u6, u7] [] (zmS h F0 I W (some t) rd tp A) = some (some (.int x3), zmS h F0 (upd (upd I 1 0) 2 (-1)) W (some t) rd tp (va_up A 32 (zit (zmtS nd ok cost m) k j (bo, A 32)).2)) := by
  have hb : ∀ q i v, i < nd → zor nd ok cost q i = some v → v ≤ 99 * q := fun q i v hi ev => zor_b hc q i v hi ev
  intro j
  induction j with
  | zero =>
    intro k bo A u6 u7 hk hbo he P
    rw [eX13_menu_79, if_pos (nI_le (by omega) (by omega)), zdone hd, Option.bind_some, zit, va_up_same]
  | succ j ih =>
    intro k bo A u6 u7 hk hbo he P
    have hr : ∀ i v, i < nd → zor nd ok cost (m - k) i = some v → v < 2 ^ 31 := fun i v hi ev => by have := hb _ _ _ hi ev; omega
    have he' := he (by omega)
    have nx : k + 1 < m → _ := fun y => zmt_next y he'
    cases em : zomin nd (zor nd ok cost (m - k)) bo with
    | none => exact absurd em he'
    | some v =>
      obtain ⟨i', h1, h2⟩ := zomin_ex em
      have o := zofd_ok (nd := nd) nd 0 (by omega) ⟨i', Nat.zero_le _, h1, h2⟩
      have hv := hr i' v h1 h2.2
      rw [eX13_menu_79, if_neg (nI_ge (by omega) (by omega)), kX13_cheapest E ht hd hn en (by omega) hbo (P k (by omega)) hr, Option.bind_some, show (0 : Int32) = nI 0 from rfl, kX13_mn98 hn (by omega) hbo (fun w ew => by rw [em] at ew; cases ew; exact hv) (P k (by omega)) hr x1 (nI m) x3 nd 0 (by omega) (by rw [em]; exact ⟨i', Nat.zero_le _, h1, h2⟩)]
      have := ih (k + 1) (some (zofd (zor nd ok cost (m - k)) bo (zomin nd (zor nd ok cost (m - k)) bo) nd 0)) (va_up A 32 (upd (A 32) k (nI (zofd (zor nd ok cost (m - k)) bo (zomin nd (zor nd ok cost (m - k)) bo) nd 0)))) (some (.int (zob (zomin nd (zor nd ok cost (m - k)) bo)))) (some (.int (nI (zofd (zor nd ok cost (m - k)) bo (zomin nd (zor nd ok cost (m - k)) bo) nd 0)))) (by omega) (fun w ew => by
        cases ew
        rw [em]
        omega) nx (fun k' hk' i hi => by
        rw [va_up_ne _ _ (by decide)]
        exact P k' hk' i hi)
      rw [va_up_up, va_up_self] at this
      exact this
theorem kX13_d117 (E : zmd h t J B Wd) (ht : 94 ≤ t) (hd : 0 < d) {A : Nat → Nat → Int32} {nh g : Nat} {need : Nat → Nat} (hn : nh ≤ 6) (en : J 5 = nI nh) (hg : g < 64) (hN : ∀ i, i < nh → B 23 i = nI (need i) ∧ need i ≤ 9) (x1 x2 x3 : Int32) : ∀ (j i : Nat) (bo : Option Nat), i + j = nh → (∀ b, bo = some b → b < nh) → nzr d nX13_dropped 117 [some (.ref 73), some (.int x1), some (.int x2), some (.int x3), some (.int (nI g)), some (.int (zob bo)), some (.int (nI i))] [] (zmS h F0 I W (some t) rd tp A) = nzr d nX13_dropped 117 [some (.ref 73), some (.int x1), some (.int x2), some (.int x3), some (.int (nI g)), some (.int (zob (zit (zneS need g) i j bo))), some (.int (nI nh))] [] (zmS h F0 I W (some t) rd tp A) := by
  have a23 : ∀ i, i < nh → nzaI (zmS h F0 I W (some t) rd tp A) (t + (23 - 10)) (nI i) = some (nI (need i)) := fun i hi => (zda E ht (k := 23) (by decide) (by decide) (by decide) (by decide) (by decide) (show i < 6 by omega)).trans (congrArg some (hN i hi).1)
  intro j
  induction j with
  | zero =>
    intro i bo hi hb
    obtain rfl : i = nh := by omega
    rfl
  | succ j ih =>
    intro i bo hi hb
    have zb := zhb g hg i (by omega)
    rw [eX13_dropped_117, zmS_T, Option.bind_some, zj E ht (by decide), Option.bind_some, en, if_neg (nI_ge (by omega) (by omega)), jX13_has hd, Option.bind_some, zit, zneS]
    simp only [eX13_dropped_168, eX13_dropped_172, nI_1]
    by_cases y : g / 2 ^ i % 2 = 1
    · rw [if_pos (zb.mpr y), if_neg (show ¬ (1 : Int32) = 0 by decide), if_pos y]
      exact ih (i + 1) bo (by omega) hb
    · rw [if_neg (fun z => y (zb.mp z)), if_pos rfl, if_neg y]
      cases bo with
      | none =>
        rw [if_pos (show zob none = -1 from rfl)]
        exact ih (i + 1) (some i) (by omega) (fun b e => by cases e; omega)
      | some b =>
        have hb' := hb b rfl
        have n1 := (hN i (by omega)).2
        have n2 := (hN b hb').2
        rw [if_neg (show ¬ zob (some b) = -1 from zob_ne (by omega)), zmS_T, Option.bind_some, zdr E ht (k := 23) (by decide) (by decide), Option.bind_some, a23 i (by omega), Option.bind_some, Option.bind_some, zdr E ht (k := 23) (by decide) (by decide), Option.bind_some, show zob (some b) = nI b from rfl, a23 b hb', Option.bind_some]
        rw [zneC]
        by_cases w : need b < need i
        · rw [if_pos (nI_lt w (by omega)), if_pos w]
          exact ih (i + 1) (some b) (by omega) (fun b' e => by cases e; exact hb')
        · rw [if_neg (nI_nlt (by omega) (by omega)), if_neg w]
          exact ih (i + 1) (some i) (by omega) (fun b e => by cases e; omega)
theorem kX13_d106 (E : zmd h t J B Wd) (ht : 94 ≤ t) (hd : 1 < d) {nd nh m coin : Nat} {cost need e p : Nat → Nat} (hnd : nd ≤ 6) (end_ : J 3 = nI nd) (hn : nh ≤ 6) (en : J 5 = nI nh) (hm : m ≤ 14) (m0 : 0 < m) (hcoin : coin < 100000) (hc : ∀ i, i < nd → B 14 i = nI (cost i) ∧ cost i ≤ 99) (hN : ∀ i, i < nh → B 23 i = nI (need i) ∧ need i ≤ 9) (hE : ∀ i, i < nh → B 19 i = nI (e i) ∧ e i < 4) (hp : ∀ i, i < nh → zomin nd (zor nd (zdok B (e i)) cost m) none = some (p i)) : ∀ (f g : Nat) (A : Nat → Nat → Int32) (u5 u6 : Option Value), g < 2 ^ nh → zpop g + f = 6 → ∃ w, nzr d nX13_dropped 106 [some (.ref 73), some (.int (nI coin)), some (.int (nI m)), some (.int (nI (zsmN p g nh))), some (.int (nI g)), u5, u6] [] (zmS h F0 I W (some t) rd tp A) = some (some (.int (nI (zdrN p need nh coin f g))), zmS h F0 (upd (upd I 1 0) 2 (-1)) W (some t) rd tp (va_up A 31 w)) := by
  have hpb : ∀ i, i < nh → p i ≤ 99 * 14 := fun i hi => by
    have := zomin_b (M := 99 * m) (bo := none) (fun i' v hi' ev => zor_b (fun i hi => (hc i hi).2) m i' v hi' ev) nd 0 none (by omega) (fun v ev => by cases ev) (p i) (hp i hi)
    omega
  have h64 : (2 : Nat) ^ nh ≤ 64 := Nat.pow_le_pow_right (n := 2) (by decide) hn
  intro f
  induction f with
  | zero =>
    intro g A u5 u6 hg hz
    have g63 := zall6 g (by omega) (by omega)
    have n6 : nh = 6 := by
      rcases Nat.lt_or_ge nh 6 with q | q
      · have : (2 : Nat) ^ nh ≤ 2 ^ 5 := Nat.pow_le_pow_right (by decide) (by omega)
        omega
      · omega
    have s0 : zsmN p g nh = 0 := zsm_0 (nh := nh) nh 0 0 (by omega) (fun x _ hx => by
      rw [g63]
      have : ∀ x, x < 6 → 63 / 2 ^ x % 2 = 1 := by decide
      exact this x (by omega))
    refine ⟨A 31, ?_⟩
    rw [eX13_dropped_106, s0, if_pos (nI_le (Nat.zero_le _) (by omega)), zdone (by omega), Option.bind_some, va_up_same, zdrN]
  | succ f ih =>
    intro g A u5 u6 hg hz
    have sle := zsm_le (g := g) hpb nh 0 0 (by omega)
    have sle' : zsmN p g nh ≤ 10000 := by
      have : nh * (99 * 14) ≤ 6 * (99 * 14) := Nat.mul_le_mul_right _ hn
      unfold zsmN
      omega
    rw [zdrN]
    by_cases y : zsmN p g nh ≤ coin
    · refine ⟨A 31, ?_⟩
      rw [eX13_dropped_106, if_pos (nI_le y (by omega)), zdone (by omega), Option.bind_some, va_up_same, if_pos y]
    · rw [if_neg y]
      have ex : ∃ x, 0 ≤ x ∧ x < nh ∧ g / 2 ^ x % 2 ≠ 1 := by
        refine Classical.byContradiction fun no => y ?_
        rw [zsmN, zsm_0 (nh := nh) nh 0 0 (by omega) (fun x _ hx => Classical.byContradiction fun q => no ⟨x, Nat.zero_le _, hx, q⟩)]
        exact Nat.zero_le _
      have ln := zne_ok (need := need) (g := g) (nh := nh) nh 0 none (by omega) (fun b e => by cases e)
      cases el : zlnN need nh g with
      | none => exact absurd el (ln.2 (.inr ex))
      | some b =>
        have lb := ln.1 b el
        have ab := zbn6 nh (by omega) g hg b lb.1
        have sm : zsmN p (g ||| 2 ^ b) nh + p b = zsmN p g nh := by
          have := zsm_in (p := p) (nh := nh) (show g < 64 by omega) hn (show b < 6 by omega) lb.2 nh 0 0 0 (by omega) (by rw [if_pos (Nat.zero_le _)])
          rw [if_neg (by omega)] at this
          exact this
        have pp := zbp6 g (by omega) b (by omega) lb.2
        have a19 : nzaI (zmS h F0 I W (some t) rd tp A) (t + (19 - 10)) (nI b) = some (nI (e b)) := (zda E ht (k := 19) (by decide) (by decide) (by decide) (by decide) (by decide) (show b < 6 by omega)).trans (congrArg some (hE b lb.1).1)
        obtain ⟨w1, q1, q2⟩ := kX13_coinOf (F0 := F0) (W := W) (rd := rd) (tp := tp) (I := I) E ht hd hnd end_ (hE b lb.1).2 hm m0 hc A
        obtain ⟨w, w1'⟩ := ih (g ||| 2 ^ b) (va_up A 31 w1) (some (.int (nI b))) (some (.int (nI nh))) ab (by omega)
        refine ⟨w, ?_⟩
        rw [va_up_up] at w1'
        have l1 := kX13_d117 (F0 := F0) (W := W) (rd := rd) (tp := tp) (I := I) (A := A) E ht (show 0 < d by omega) hn en (show g < 64 by omega) hN (nI coin) (nI m) (nI (zsmN p g nh)) nh 0 none (by omega) (fun b e => by cases e)
        rw [eX13_dropped_106, if_neg (nI_ge (by omega) (by omega)), show (0 : Int32) = nI 0 from rfl, show (-1 : Int32) = zob none from rfl, l1, show zit (zneS need g) 0 nh none = some b from el, eX13_dropped_117, zmS_T, Option.bind_some, zj E ht (by decide), Option.bind_some, en, if_pos (nI_le (Nat.le_refl _) (by omega)), Option.bind_some, zdr E ht (k := 19) (by decide) (by decide), Option.bind_some, show zob (some b) = nI b from rfl, a19, Option.bind_some, q1, Option.bind_some, hp b lb.1, show zob (some (p b)) = nI (p b) from rfl, nI_sub (by omega), show zsmN p g nh - p b = zsmN p (g ||| 2 ^ b) nh by omega, (zbor g (by omega) b (by omega)).1]
        exact w1'
theorem kX13_d50 (E : zmd h t J B Wd) (ht : 94 ≤ t) (hd : 1 < d) {nd nh m : Nat} {cost e : Nat → Nat} (hnd : nd ≤ 6) (end_ : J 3 = nI nd) (hn : nh ≤ 6) (en : J 5 = nI nh) (hm : m ≤ 14) (m0 : 0 < m) (hc : ∀ i, i < nd → B 14 i = nI (cost i) ∧ cost i ≤ 99) (hE : ∀ i, i < nh → B 19 i = nI (e i) ∧ e i < 4) (x1 : Int32) : ∀ (j i s : Nat) (A : Nat → Nat → Int32) (u5 : Option Value), i + j = nh → ∃ w, match zprs (fun i => zomin nd (zor nd (zdok B (e i)) cost m) none) i j with
    | none => nzr d nX13_dropped 50 [some (.ref 73), some (.int x1), some (.int (nI m)), some (.int (nI s)), some (.int (nI i)), u5, none] [] (zmS h F0 I W (some t) rd tp A) = some (some (.int (-1)), zmS h F0 (upd (upd I 1 6) 2 (-1)) W (some t) rd tp (va_up A 31 w))
    | some T => ∃ w5, nzr d nX13_dropped 50 [some (.ref 73), some (.int x1), some (.int (nI m)), some (.int (nI s)), some (.int (nI i)), u5, none] [] (zmS h F0 I W (some t) rd tp A) = nzr d nX13_dropped 106 [some (.ref 73), some (.int x1), some (.int (nI m)), some (.int (nI (s + T))), some (.int (nI 0)), w5, none] [] (zmS h F0 I W (some t) rd tp (va_up A 31 w)) := by
  intro j
  induction j with
  | zero =>
    intro i s A u5 hi
    refine ⟨A 31, u5, ?_⟩
    rw [eX13_dropped_50, zmS_T, Option.bind_some, zj E ht (by decide), Option.bind_some, en, if_pos (nI_le (by omega) (by omega)), va_up_same]
    rfl
  | succ j ih =>
    intro i s A u5 hi
    have a19 : nzaI (zmS h F0 I W (some t) rd tp A) (t + (19 - 10)) (nI i) = some (nI (e i)) := (zda E ht (k := 19) (by decide) (by decide) (by decide) (by decide) (by decide) (show i < 6 by omega)).trans (congrArg some (hE i (by omega)).1)
    obtain ⟨w1, q1, q2⟩ := kX13_coinOf (F0 := F0) (W := W) (rd := rd) (tp := tp) (I := I) E ht hd hnd end_ (hE i (by omega)).2 hm m0 hc A
    have hb := zomin_b (M := 99 * m) (bo := none) (fun i' v hi' ev => zor_b (ok := zdok B (e i)) (fun i hi => (hc i hi).2) m i' v hi' ev) nd 0 none (by omega) (fun v ev => by cases ev)
    have st : nzr d nX13_dropped 50 [some (.ref 73), some (.int x1), some (.int (nI m)), some (.int (nI s)), some (.int (nI i)), u5, none] [] (zmS h F0 I W (some t) rd tp A) = if zob (zomin nd (zor nd (zdok B (e i)) cost m) none) = -1 then some (some (.int (-1)), zmS h F0 (upd (upd I 1 6) 2 (-1)) W (some t) rd tp (va_up A 31 w1)) else nzr d nX13_dropped 50 [some (.ref 73), some (.int x1), some (.int (nI m)), some (.int (nI s + zob (zomin nd (zor nd (zdok B (e i)) cost m) none))), some (.int (nI (i + 1))), some (.int (zob (zomin nd (zor nd (zdok B (e i)) cost m) none))), none] [] (zmS h F0 I W (some t) rd tp (va_up A 31 w1)) := by
      rw [eX13_dropped_50, zmS_T, Option.bind_some, zj E ht (by decide), Option.bind_some, en, if_neg (nI_ge (by omega) (by omega)), Option.bind_some, zdr E ht (k := 19) (by decide) (by decide), Option.bind_some, a19, Option.bind_some, q1, Option.bind_some, zrefu (by omega), Option.bind_some, nI_1]
    rw [zprs]
    cases em : zomin nd (zor nd (zdok B (e i)) cost m) none with
    | none =>
      refine ⟨w1, ?_⟩
      rw [em, if_pos (show zob none = -1 from rfl)] at st
      exact st
    | some v =>
      have hv := hb v em
      rw [em, if_neg (show ¬ zob (some v) = -1 from zob_ne (by omega)), show zob (some v) = nI v from rfl, nI_add] at st
      obtain ⟨w, q3⟩ := ih (i + 1) (s + v) (va_up A 31 w1) (some (.int (nI v))) (by omega)
      refine ⟨w, ?_⟩
      rw [va_up_up] at q3
      cases ez : zprs (fun i => zomin nd (zor nd (zdok B (e i)) cost m) none) (i + 1) j with
      | none =>
        rw [ez] at q3
        exact st.trans q3
      | some T =>
        rw [ez] at q3
        obtain ⟨w5, q3⟩ := q3
        refine ⟨w5, ?_⟩
        rw [Nat.add_assoc] at q3
        exact st.trans q3
end NZDF
