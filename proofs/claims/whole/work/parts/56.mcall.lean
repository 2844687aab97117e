/-! the reference: whom to call first -/
def zexP (B : Nat → Nat → Int32) (O : Nat → Nat) (k : Nat) (j : Nat) (v : Int64) : Int64 := v * (if j < k then (100 - B 31 (O j)).toInt64 else 100)
def zexK (B : Nat → Nat → Int32) (O : Nat → Nat) (n : Nat) (k : Nat) (s : Int64) : Int64 := s + zit (zexP B O k) 0 n (B 30 (O k)).toInt64
def zexR (B : Nat → Nat → Int32) (O : Nat → Nat) (n : Nat) : Int64 := zit (zexK B O n) 0 n 0
def zkS (B : Nat → Nat → Int32) (n : Nat) (i : Nat) (s : Int64 × (Nat → Int32)) : Int64 × (Nat → Int32) := if lg_cmp s.1 0 < 0 ∨ lg_cmp (zexR B (zgl (zpl n (2 ^ n - 1) i)) n) s.1 < 0 then (zexR B (zgl (zpl n (2 ^ n - 1) i)) n, zpw (zpl n (2 ^ n - 1) i) 0 s.2) else s
theorem zpw2 : ∀ n, n < 6 → (1 <<< (nI n &&& 31)) - 1 = nI (2 ^ n - 1) ∧ zpop (2 ^ n - 1) = n ∧ 2 ^ n - 1 < 64 := by decide +kernel
section NZKF
variable {d t : Nat} {h : nzH} {F0 : Nat → Value} {W : Int64} {rd : Option Nat} {tp : Nat → Int32} {J : Nat → Int32} {B : Nat → Nat → Int32} {Wd : Nat → Int64}
theorem kX13_ex35 (E : zmd h t J B Wd) (ht : 94 ≤ t) {I : Nat → Int32} {A : Nat → Nat → Int32} {n k : Nat} {O : Nat → Nat} (hn : n ≤ 5) (en : J 8 = nI n) (hk : k < n) (hO : ∀ q, q < n → A 35 q = nI (O q) ∧ O q < 5) (s : Int64) : ∀ (j i : Nat) (v : Int64), i + j = n → ∃ w, nzr d nX13_expected 35 [some (.ref 73), some (.ref 85), some (.long s), none, some (.int (nI k)), some (.long v), none, some (.int (nI i))] [] (zmS h F0 I W (some t) rd tp A) = nzr d nX13_expected 5 [some (.ref 73), some (.ref 85), some (.long (s + zit (zexP B O k) i j v)), none, some (.int (nI (k + 1))), some (.long w), none, some (.int (nI n))] [] (zmS h F0 I W (some t) rd tp A) := by
  intro j
  induction j with
  | zero =>
    intro i v hi
    obtain rfl : i = n := by omega
    refine ⟨v, ?_⟩
    rw [eX13_expected_35, zmS_T, Option.bind_some, zj E ht (by decide), Option.bind_some, en, if_pos (nI_le (Nat.le_refl _) (by omega)), nI_1, zit]
  | succ j ih =>
    intro i v hi
    obtain ⟨o1, o2⟩ := hO i (by omega)
    have a31 : nzaI (zmS h F0 I W (some t) rd tp A) (t + (31 - 10)) (nI (O i)) = some (B 31 (O i)) := zda E ht (k := 31) (by decide) (by decide) (by decide) (by decide) (by decide) o2
    have a35 : nzaI (zmS h F0 I W (some t) rd tp A) 85 (nI i) = some (nI (O i)) := (zA_35 (show i < 5 by omega)).trans (congrArg some o1)
    obtain ⟨w, e⟩ := ih (i + 1) (zexP B O k i v) (by omega)
    refine ⟨w, ?_⟩
    rw [zit, ← e, eX13_expected_35, zmS_T, Option.bind_some, zj E ht (by decide), Option.bind_some, en, if_neg (nI_ge (by omega) (by omega))]
    by_cases y : i < k
    · rw [if_neg (nI_ge y (by omega)), Option.bind_some, zdr E ht (k := 31) (by decide) (by decide), Option.bind_some, a35, Option.bind_some, a31, Option.bind_some, eX13_expected_78, nI_1, zexP, if_pos y]
    · rw [if_pos (nI_le (by omega) (by omega)), eX13_expected_78, nI_1, zexP, if_neg y]
theorem kX13_ex5 (E : zmd h t J B Wd) (ht : 94 ≤ t) {I : Nat → Int32} {A : Nat → Nat → Int32} {n : Nat} {O : Nat → Nat} (hn : n ≤ 5) (en : J 8 = nI n) (hO : ∀ q, q < n → A 35 q = nI (O q) ∧ O q < 5) : ∀ (j k : Nat) (s : Int64) (u5 u7 : Option Value), k + j = n → nzr d nX13_expected 5 [some (.ref 73), some (.ref 85), some (.long s), none, some (.int (nI k)), u5, none, u7] [] (zmS h F0 I W (some t) rd tp A) = some (some (.long (zit (zexK B O n) k j s)), zmS h F0 I W (some t) rd tp A) := by
  intro j
  induction j with
  | zero =>
    intro k s u5 u7 hk
    rw [eX13_expected_5, zmS_T, Option.bind_some, zj E ht (by decide), Option.bind_some, en, if_pos (nI_le (by omega) (by omega)), zit]
  | succ j ih =>
    intro k s u5 u7 hk
    obtain ⟨o1, o2⟩ := hO k (by omega)
    have a30 : nzaI (zmS h F0 I W (some t) rd tp A) (t + (30 - 10)) (nI (O k)) = some (B 30 (O k)) := zda E ht (k := 30) (by decide) (by decide) (by decide) (by decide) (by decide) o2
    have a35 : nzaI (zmS h F0 I W (some t) rd tp A) 85 (nI k) = some (nI (O k)) := (zA_35 (show k < 5 by omega)).trans (congrArg some o1)
    obtain ⟨w, e⟩ := kX13_ex35 (d := d) (F0 := F0) (W := W) (rd := rd) (tp := tp) (I := I) E ht hn en (show k < n by omega) hO s n 0 (B 30 (O k)).toInt64 (by omega)
    rw [eX13_expected_5, zmS_T, Option.bind_some, zj E ht (by decide), Option.bind_some, en, if_neg (nI_ge (by omega) (by omega)), Option.bind_some, zdr E ht (k := 30) (by decide) (by decide), Option.bind_some, a35, Option.bind_some, a30, Option.bind_some, show (0 : Int32) = nI 0 from rfl, e, ih (k + 1) _ _ _ (by omega), zit]
    rfl
theorem kX13_expected (E : zmd h t J B Wd) (ht : 94 ≤ t) (hd : 0 < d) {I : Nat → Int32} {A : Nat → Nat → Int32} {n : Nat} {O : Nat → Nat} (hn : n ≤ 5) (en : J 8 = nI n) (hO : ∀ q, q < n → A 35 q = nI (O q) ∧ O q < 5) : nzxL d nX13_expected [.ref 73, .ref 85] (zmS h F0 I W (some t) rd tp A) = some (zexR B O n, zmS h F0 I W (some t) rd tp A) := by
  refine iX13_expected hd zmS_o ?_
  rw [eX13_expected_0]
  exact kX13_ex5 E ht hn en hO n 0 0 none none (by omega)
theorem kX13_kn76 (E : zmd h t J B Wd) (ht : 94 ≤ t) {I : Nat → Int32} {n : Nat} (hn : n ≤ 5) (en : J 8 = nI n) (v : Int64) (x3 : Int32) (u6 : Option Value) : ∀ (j p : Nat) (A : Nat → Nat → Int32), p + j = n → nzr d nX13_knock 76 [some (.ref 73), some (.long v), none, some (.int x3), some (.int (nI p)), none, u6] [] (zmS h F0 I W (some t) rd tp A) = nzr d nX13_knock 76 [some (.ref 73), some (.long v), none, some (.int x3), some (.int (nI n)), none, u6] [] (zmS h F0 I W (some t) rd tp (va_up A 35 (fun q => if p ≤ q ∧ q < n then A 22 q else A 35 q))) := by
  intro j
  induction j with
  | zero =>
    intro p A hp
    obtain rfl : p = n := by omega
    have : (fun q => if p ≤ q ∧ q < p then A 22 q else A 35 q) = A 35 := by
      funext q
      rw [if_neg (by omega)]
    rw [this, va_up_same]
  | succ j ih =>
    intro p A hp
    rw [eX13_knock_76, zmS_T, Option.bind_some, zj E ht (by decide), Option.bind_some, en, if_neg (nI_ge (by omega) (by omega)), zR_35, Option.bind_some, zR_22, Option.bind_some, zA_22 (show p < 6 by omega), Option.bind_some, zW_35 (show p < 5 by omega), Option.bind_some, nI_1, ih (p + 1) _ (by omega), va_up_up, va_up_self, va_up_ne _ _ (show 22 ≠ 35 by decide)]
    have : (fun q => if p + 1 ≤ q ∧ q < n then A 22 q else upd (A 35) p (A 22 p) q) = (fun q => if p ≤ q ∧ q < n then A 22 q else A 35 q) := by
      funext q
      by_cases z : q = p
      · subst z
        rw [if_neg (by omega), upd_eq, if_pos (by omega)]
      · rw [upd_ne z]
        by_cases y : p + 1 ≤ q ∧ q < n
        · rw [if_pos y, if_pos (by omega)]
        · rw [if_neg y, if_neg (by omega)]
    rw [this]
theorem kX13_kn140 (E : zmd h t J B Wd) (ht : 94 ≤ t) {I : Nat → Int32} {n : Nat} (hn : n ≤ 5) (en : J 8 = nI n) (v v4 : Int64) (x3 : Int32) : ∀ (j p : Nat) (A : Nat → Nat → Int32), p + j = n → nzr d nX13_knock 140 [some (.ref 73), some (.long v), none, some (.int x3), some (.long v4), none, some (.int (nI p))] [] (zmS h F0 I W (some t) rd tp A) = nzr d nX13_knock 172 [some (.ref 73), some (.long v), none, some (.int x3), some (.long v4), none, some (.int (nI n))] [] (zmS h F0 I W (some t) rd tp (va_up A 36 (fun q => if p ≤ q ∧ q < n then A 35 q else A 36 q))) := by
  intro j
  induction j with
  | zero =>
    intro p A hp
    obtain rfl : p = n := by omega
    have : (fun q => if p ≤ q ∧ q < p then A 35 q else A 36 q) = A 36 := by
      funext q
      rw [if_neg (by omega)]
    rw [eX13_knock_140, zmS_T, Option.bind_some, zj E ht (by decide), Option.bind_some, en, if_pos (nI_le (Nat.le_refl _) (by omega)), this, va_up_same]
  | succ j ih =>
    intro p A hp
    rw [eX13_knock_140, zmS_T, Option.bind_some, zj E ht (by decide), Option.bind_some, en, if_neg (nI_ge (by omega) (by omega)), zR_36, Option.bind_some, zR_35, Option.bind_some, zA_35 (show p < 5 by omega), Option.bind_some, zW_36 (show p < 5 by omega), Option.bind_some, nI_1, ih (p + 1) _ (by omega), va_up_up, va_up_self, va_up_ne _ _ (show 35 ≠ 36 by decide)]
    have : (fun q => if p + 1 ≤ q ∧ q < n then A 35 q else upd (A 36) p (A 35 p) q) = (fun q => if p ≤ q ∧ q < n then A 35 q else A 36 q) := by
      funext q
      by_cases z : q = p
      · subst z
        rw [if_neg (by omega), upd_eq, if_pos (by omega)]
      · rw [upd_ne z]
        by_cases y : p + 1 ≤ q ∧ q < n
        · rw [if_pos y, if_pos (by omega)]
        · rw [if_neg y, if_neg (by omega)]
    rw [this]
theorem kX13_kn43 (E : zmd h t J B Wd) (ht : 94 ≤ t) (hd : 1 < d) {n : Nat} (hn : n ≤ 5) (n0 : 0 < n) (en : J 8 = nI n) : ∀ (j i : Nat) (s : Int64 × (Nat → Int32)) (I : Nat → Int32) (A : Nat → Nat → Int32) (u4 u6 : Option Value), i + j = zfac n → A 36 = s.2 → ∃ I' A', nzr d nX13_knock 43 [some (.ref 73), some (.long s.1), none, some (.int (nI i)), u4, none, u6] [] (zmS h F0 I W (some t) rd tp A) = some (some (.long (zit (zkS B n) i j s).1), zmS h F0 I' W (some t) rd tp A') ∧ (∀ a, a ≠ 1 → a ≠ 2 → a ≠ 20 → a ≠ 34 → I' a = I a) ∧ I' 1 = 0 ∧ I' 2 = -1 ∧ I' 34 = nI n ∧ (∀ a, a ≠ 22 → a ≠ 35 → a ≠ 36 → A' a = A a) ∧ A' 36 = (zit (zkS B n) i j s).2 := by
  have hf := zfac_le n (by omega)
  have p2 := zpw2 n (by omega)
  intro j
  induction j with
  | zero =>
    intro i s I A u4 u6 hi eA
    refine ⟨upd (upd (upd I 34 (nI n)) 1 0) 2 (-1), A, ?_, fun a a1 a2 a3 a4 => ?_, ?_, ?_, ?_, fun _ _ _ _ => rfl, eA⟩
    · rw [eX13_knock_43, zmS_T, Option.bind_some, zj E ht (by decide), Option.bind_some, en, jX13_orders (by omega) (by omega), Option.bind_some, if_pos (nI_le (by omega) (by omega)), zmS_T, Option.bind_some, zj E ht (by decide), Option.bind_some, en, zP_34, Option.bind_some, zdone (by omega), Option.bind_some, zit]
    · rw [upd_ne a2, upd_ne a1, upd_ne a4]
    · rw [upd_ne (by decide), upd_eq]
    · rw [upd_eq]
    · rw [upd_ne (by decide), upd_ne (by decide), upd_eq]
  | succ j ih =>
    intro i s I A u4 u6 hi eA
    have ok := zpl_ok n (2 ^ n - 1) i p2.2.2 p2.2.1 (by omega)
    have od := kX13_ordered (F0 := F0) (W := W) (td := some t) (rd := rd) (tp := tp) (h := h) (I := I) (A := A) hd p2.2.2 (show i < zfac (zpop (2 ^ n - 1)) by rw [p2.2.1]; omega)
    rw [p2.2.1] at od
    have ok5 : ∀ q, q < n → (zpl n (2 ^ n - 1) i).getD q 0 < 5 := by
      intro q hq
      have : ∀ n, n < 6 → ∀ i, i < 120 → i < zfac n → ∀ q, q < n → (zpl n (2 ^ n - 1) i).getD q 0 < n := by decide +kernel
      have f5 : zfac n ≤ 120 := by
        have : ∀ n, n < 6 → zfac n ≤ 120 := by decide
        exact this n (by omega)
      have := this n (by omega) i (by omega) (by omega) q hq
      omega
    generalize el : zpl n (2 ^ n - 1) i = l at ok od ok5
    have e35 : (fun q => if 0 ≤ q ∧ q < n then va_up A 22 (zpw l 0 (A 22)) 22 q else va_up A 22 (zpw l 0 (A 22)) 35 q) = zpw l 0 (A 35) := by
      funext q
      rw [va_up_self, va_up_ne _ _ (show 35 ≠ 22 by decide), zpw_at, zpw_at, ok.1]
      by_cases y : 0 ≤ q ∧ q < 0 + n
      · rw [if_pos y, if_pos y, if_pos (by omega)]
      · rw [if_neg (show ¬ (0 ≤ q ∧ q < n) by omega), if_neg y]
    have hO : ∀ q, q < n → va_up (va_up A 22 (zpw l 0 (A 22))) 35 (zpw l 0 (A 35)) 35 q = nI (zgl l q) ∧ zgl l q < 5 := fun q hq => by
      rw [va_up_self, zpw_at, if_pos (by omega)]
      exact ⟨rfl, ok5 q hq⟩
    have st : nzr d nX13_knock 43 [some (.ref 73), some (.long s.1), none, some (.int (nI i)), u4, none, u6] [] (zmS h F0 I W (some t) rd tp A) = if lg_cmp s.1 0 < 0 ∨ lg_cmp (zexR B (zgl l) n) s.1 < 0 then nzr d nX13_knock 140 [some (.ref 73), some (.long (zexR B (zgl l) n)), none, some (.int (nI i)), some (.long (zexR B (zgl l) n)), none, some (.int (nI 0))] [] (zmS h F0 (upd I 20 (nI n)) W (some t) rd tp (va_up (va_up A 22 (zpw l 0 (A 22))) 35 (zpw l 0 (A 35)))) else nzr d nX13_knock 43 [some (.ref 73), some (.long s.1), none, some (.int (nI (i + 1))), some (.long (zexR B (zgl l) n)), none, u6] [] (zmS h F0 (upd I 20 (nI n)) W (some t) rd tp (va_up (va_up A 22 (zpw l 0 (A 22))) 35 (zpw l 0 (A 35)))) := by
      rw [eX13_knock_43, zmS_T, Option.bind_some, zj E ht (by decide), Option.bind_some, en, jX13_orders (by omega) (by omega), Option.bind_some, if_neg (nI_ge (by omega) (by omega)), zmS_T, Option.bind_some, zj E ht (by decide), Option.bind_some, en, p2.1, od, Option.bind_some, show (0 : Int32) = nI 0 from rfl, kX13_kn76 E ht hn en s.1 (nI i) u6 n 0 _ (by omega), e35, eX13_knock_76, zmS_T, Option.bind_some, zj E ht (by decide), Option.bind_some, en, if_pos (nI_le (Nat.le_refl _) (by omega)), zR_35, Option.bind_some, kX13_expected E ht (by omega) hn en hO, Option.bind_some, eX13_knock_134, eX13_knock_172, nI_1, show nI 0 = (0 : Int32) from rfl]
      by_cases y1 : lg_cmp s.1 0 < 0
      · rw [if_pos y1, if_pos (.inl y1)]
      · rw [if_neg y1]
        by_cases y2 : lg_cmp (zexR B (zgl l) n) s.1 < 0
        · rw [if_pos y2, if_pos (.inr y2)]
        · rw [if_neg y2, if_neg (fun y => y.elim y1 y2)]
    rw [zit, zkS, el, st]
    by_cases z : lg_cmp s.1 0 < 0 ∨ lg_cmp (zexR B (zgl l) n) s.1 < 0
    · rw [if_pos z, if_pos z, kX13_kn140 E ht hn en _ _ _ n 0 _ (by omega), eX13_knock_172, nI_1]
      have e36 : (fun q => if 0 ≤ q ∧ q < n then va_up (va_up A 22 (zpw l 0 (A 22))) 35 (zpw l 0 (A 35)) 35 q else va_up (va_up A 22 (zpw l 0 (A 22))) 35 (zpw l 0 (A 35)) 36 q) = zpw l 0 s.2 := by
        funext q
        rw [va_up_self, va_up_ne _ _ (show 36 ≠ 35 by decide), va_up_ne _ _ (show 36 ≠ 22 by decide), zpw_at, zpw_at, ok.1, eA]
        by_cases y : 0 ≤ q ∧ q < 0 + n
        · rw [if_pos y, if_pos y, if_pos (by omega)]
        · rw [if_neg (show ¬ (0 ≤ q ∧ q < n) by omega), if_neg y]
      rw [e36]
      obtain ⟨I', A', q1, q2, q3, q4, q5, q6, q7⟩ := ih (i + 1) (zexR B (zgl l) n, zpw l 0 s.2) (upd I 20 (nI n)) (va_up (va_up (va_up A 22 (zpw l 0 (A 22))) 35 (zpw l 0 (A 35))) 36 (zpw l 0 s.2)) (some (.long (zexR B (zgl l) n))) (some (.int (nI n))) (by omega) (va_up_self _ _ _)
      refine ⟨I', A', q1, fun a a1 a2 a3 a4 => by rw [q2 a a1 a2 a3 a4, upd_ne a3], q3, q4, q5, fun a a1 a2 a3 => by rw [q6 a a1 a2 a3, va_up_ne _ _ a3, va_up_ne _ _ a2, va_up_ne _ _ a1], q7⟩
    · rw [if_neg z, if_neg z]
      obtain ⟨I', A', q1, q2, q3, q4, q5, q6, q7⟩ := ih (i + 1) s (upd I 20 (nI n)) (va_up (va_up A 22 (zpw l 0 (A 22))) 35 (zpw l 0 (A 35))) (some (.long (zexR B (zgl l) n))) u6 (by omega) (by rw [va_up_ne _ _ (by decide), va_up_ne _ _ (by decide)]; exact eA)
      refine ⟨I', A', q1, fun a a1 a2 a3 a4 => by rw [q2 a a1 a2 a3 a4, upd_ne a3], q3, q4, q5, fun a a1 a2 a3 => by rw [q6 a a1 a2 a3, va_up_ne _ _ a2, va_up_ne _ _ a1], q7⟩
theorem kX13_at39 (E : zmd h t J B Wd) (ht : 94 ≤ t) (hd : 0 < d) {I : Nat → Int32} {n : Nat} (hn : n ≤ 5) (en : J 8 = nI n) : ∀ (j p : Nat) (A : Nat → Nat → Int32), p + j = n → (∀ q, q < p → A 35 q = nI q) → ∃ w, nzr d nX13_asTold 39 [some (.ref 73), some (.int (nI p))] [] (zmS h F0 I W (some t) rd tp A) = some (some (.long (zexR B (fun q => q) n)), zmS h F0 (upd (upd I 1 0) 2 (-1)) W (some t) rd tp (va_up A 35 w)) := by
  intro j
  induction j with
  | zero =>
    intro p A hp P
    refine ⟨A 35, ?_⟩
    rw [eX13_asTold_39, zmS_T, Option.bind_some, zj E ht (by decide), Option.bind_some, en, if_pos (nI_le (by omega) (by omega)), zdone hd, Option.bind_some, zR_35, Option.bind_some, kX13_expected E ht hd hn en (O := fun q => q) (fun q hq => ⟨P q (by omega), by omega⟩), Option.bind_some, va_up_same]
  | succ j ih =>
    intro p A hp P
    obtain ⟨w, e⟩ := ih (p + 1) (va_up A 35 (upd (A 35) p (nI p))) (by omega) (fun q hq => by
      rw [va_up_self]
      by_cases z : q = p
      · rw [z, upd_eq]
      · rw [upd_ne z]
        exact P q (by omega))
    refine ⟨w, ?_⟩
    rw [va_up_up] at e
    rw [eX13_asTold_39, zmS_T, Option.bind_some, zj E ht (by decide), Option.bind_some, en, if_neg (nI_ge (by omega) (by omega)), zR_35, Option.bind_some, zW_35 (show p < 5 by omega), Option.bind_some, nI_1]
    exact e
end NZKF
