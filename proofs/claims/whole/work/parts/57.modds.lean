/-! the reference: odds, signs, what fits all, probes, called back -/
def zoiS (B : Nat → Nat → Int32) (r : Nat → Nat) (way : Nat) (k : Nat) (s : Int32 × Int64) : Int32 × Int64 := if (nI way >>> (nI k &&& 31)) &&& 1 = 1 then (s.1 ||| (1 <<< (nI (r k) &&& 31)), s.2 * (B 22 (r k)).toInt64) else (s.1 ||| 0, s.2 * (100 - B 22 (r k)).toInt64)
def zooS (J : Nat → Int32) (B : Nat → Nat → Int32) (nf c k n : Nat) (r : Nat → Nat) (way : Nat) (a : Int64) : Int64 := a + (if (zmgR J B nf c k (zit (zoiS B r way) 0 n (0, 1)).1 r n (fun _ => 0)).1 = 0 then (zit (zoiS B r way) 0 n (0, 1)).2 else 0)
section NZOD
variable {d t : Nat} {h : nzH} {F0 : Nat → Value} {W : Int64} {rd : Option Nat} {tp : Nat → Int32} {J : Nat → Int32} {B : Nat → Nat → Int32} {Wd : Nat → Int64}
theorem kX13_od47 (E : zmd h t J B Wd) (ht : 94 ≤ t) (hd : 3 < d) {nf c k : Nat} (hnf : nf ≤ 3) (e7 : J 7 = nI nf) (hc : c < 3) (hk : k < 3) (ek : B 26 c = nI k) {N : Nat → Nat} {R : Nat → Nat → Nat} {I : Nat → Int32} {A : Nat → Nat → Int32} (M : zmrr A N R) {way : Nat} (tot : Int64) (z : Int32 × Int64) : ∀ (j i : Nat) (s : Int32 × Int64) (u9 : Option Value), i + j = N c → zit (zoiS B (R c) way) i j s = z → ∃ I' A' w8 w9, nzr d nX13_odds 47 [some (.ref 73), some (.int (nI c)), some (.long tot), none, some (.int (nI way)), some (.int s.1), some (.long s.2), none, some (.int (nI i)), u9] [] (zmS h F0 I W (some t) rd tp A) = nzr d nX13_odds 25 [some (.ref 73), some (.int (nI c)), some (.long (tot + (if (zmgR J B nf c k z.1 (R c) (N c) (fun _ => 0)).1 = 0 then z.2 else 0))), none, some (.int (nI (way + 1))), some (.int z.1), some (.long z.2), none, w8, w9] [] (zmS h F0 I' W (some t) rd tp A') ∧ (∀ a, a ≠ 20 → a ≠ 21 → I' a = I a) ∧ (∀ a, a ≠ 22 → a ≠ 23 → A' a = A a) := by
  obtain ⟨m1, m2, m3⟩ := M c hc
  have a17 : nzaI (zmS h F0 I W (some t) rd tp A) 75 (nI c) = some (nI (N c)) := (zA_17 hc).trans (congrArg some m1)
  intro j
  induction j with
  | zero =>
    intro i s u9 hi e
    obtain rfl : i = N c := by omega
    have go := kX13_goesAsDriven (F0 := F0) (W := W) (rd := rd) (tp := tp) (I := I) E ht hd hnf e7 hc hk ek s.1 M
    have cc := (zmg_C J B nf c k s.1 (R c) (N c) 0 0 (B 11 k) (B 27 c) (A 23) (fun _ => 0) (fun a ha => absurd ha (Nat.not_lt_zero a))).1
    have cc' : (zmgR J B nf c k s.1 (R c) (N c) (A 23)).1 = (zmgR J B nf c k s.1 (R c) (N c) (fun _ => 0)).1 := cc
    rw [zit] at e
    subst e
    refine ⟨upd (upd I 20 (nI (N c))) 21 (zmgR J B nf c k s.1 (R c) (N c) (A 23)).1, va_up (va_up A 22 (zmrw A (R c) (N c))) 23 (zmgR J B nf c k s.1 (R c) (N c) (A 23)).2.2.2, some (.int (nI (N c))), u9, ?_, fun a a1 a2 => by rw [upd_ne a2, upd_ne a1], fun a a1 a2 => by rw [va_up_ne _ _ a2, va_up_ne _ _ a1]⟩
    · rw [eX13_odds_47, zR_17, Option.bind_some, a17, Option.bind_some, if_pos (nI_le (Nat.le_refl _) (by omega)), go, Option.bind_some, zI_21, Option.bind_some, upd_eq, cc']
      by_cases y : (zmgR J B nf c k s.1 (R c) (N c) (fun _ => 0)).1 = 0
      · rw [if_pos y, if_pos y, eX13_odds_165, nI_1]
      · rw [if_neg y, if_neg y, eX13_odds_165, nI_1]
  | succ j ih =>
    intro i s u9 hi e
    obtain ⟨r1, r2⟩ := m3 i (by omega)
    have a18 : nzaI (zmS h F0 I W (some t) rd tp A) 76 (nI (6 * c + i)) = some (nI (R c i)) := (zA_18 (show 6 * c + i < 18 by omega)).trans (congrArg some r1)
    have a22 : nzaI (zmS h F0 I W (some t) rd tp A) (t + (22 - 10)) (nI (R c i)) = some (B 22 (R c i)) := zda E ht (k := 22) (by decide) (by decide) (by decide) (by decide) (by decide) r2
    rw [zit] at e
    obtain ⟨I', A', w8, w9, g1, g2⟩ := ih (i + 1) (zoiS B (R c) way i s) (some (.int (nI (R c i)))) (by omega) e
    refine ⟨I', A', w8, w9, ?_, g2⟩
    rw [← g1, eX13_odds_47, zR_17, Option.bind_some, a17, Option.bind_some, if_neg (nI_ge (by omega) (by omega)), zR_18, Option.bind_some, show 6 * nI c + nI i = nI (6 * c + i) by rw [show (6 : Int32) = nI 6 from rfl, pk_mul, nI_add], a18, Option.bind_some, jX13_has (by omega), Option.bind_some]
    simp only [eX13_odds_92, eX13_odds_135, jX13_has (show 0 < d by omega), zmS_T, Option.bind_some, zdr E ht (k := 22) (by decide) (by decide), a22, nI_1, zoiS]
    by_cases y : (nI way >>> (nI i &&& 31)) &&& 1 = 1
    · simp only [y, if_true, show ¬ (1 : Int32) = 0 by decide, if_false]
    · simp only [y, if_false, if_true]
theorem kX13_od25 (E : zmd h t J B Wd) (ht : 94 ≤ t) (hd : 3 < d) {nf c k : Nat} (hnf : nf ≤ 3) (e7 : J 7 = nI nf) (hc : c < 3) (hk : k < 3) (ek : B 26 c = nI k) {N : Nat → Nat} {R : Nat → Nat → Nat} : ∀ (j way : Nat) (tot : Int64) (I : Nat → Int32) (A : Nat → Nat → Int32) (u5 u6 u8 u9 : Option Value), zmrr A N R → way + j = 2 ^ N c → ∃ I' A', nzr d nX13_odds 25 [some (.ref 73), some (.int (nI c)), some (.long tot), none, some (.int (nI way)), u5, u6, none, u8, u9] [] (zmS h F0 I W (some t) rd tp A) = some (some (.long (zit (zooS J B nf c k (N c) (R c)) way j tot)), zmS h F0 I' W (some t) rd tp A') ∧ (∀ a, a ≠ 1 → a ≠ 2 → a ≠ 20 → a ≠ 21 → I' a = I a) ∧ I' 1 = 0 ∧ I' 2 = -1 ∧ (∀ a, a ≠ 22 → a ≠ 23 → A' a = A a) := by
  intro j
  induction j with
  | zero =>
    intro way tot I A u5 u6 u8 u9 M hw
    obtain ⟨m1, m2, m3⟩ := M c hc
    have h64 : (2 : Nat) ^ N c ≤ 2 ^ 6 := Nat.pow_le_pow_right (by decide) m2
    have a17 : nzaI (zmS h F0 I W (some t) rd tp A) 75 (nI c) = some (nI (N c)) := (zA_17 hc).trans (congrArg some m1)
    refine ⟨upd (upd I 1 0) 2 (-1), A, ?_, fun a a1 a2 a3 a4 => by rw [upd_ne a2, upd_ne a1], by rw [upd_ne (by decide), upd_eq], upd_eq _ _ _, fun _ _ _ => rfl⟩
    rw [eX13_odds_25, zR_17, Option.bind_some, a17, Option.bind_some, zsh (N c) (by omega), if_pos (nI_le (by omega) (by omega)), zdone (by omega), Option.bind_some, zit]
  | succ j ih =>
    intro way tot I A u5 u6 u8 u9 M hw
    obtain ⟨m1, m2, m3⟩ := M c hc
    have h64 : (2 : Nat) ^ N c ≤ 2 ^ 6 := Nat.pow_le_pow_right (by decide) m2
    have a17 : nzaI (zmS h F0 I W (some t) rd tp A) 75 (nI c) = some (nI (N c)) := (zA_17 hc).trans (congrArg some m1)
    obtain ⟨I1, A1, w8, w9, g1, g2, g3⟩ := kX13_od47 (F0 := F0) (W := W) (rd := rd) (tp := tp) (I := I) E ht hd hnf e7 hc hk ek M (way := way) tot _ (N c) 0 (0, 1) u9 (by omega) rfl
    obtain ⟨I', A', q1, q2, q3, q4, q5⟩ := ih (way + 1) _ I1 A1 _ _ w8 w9 (fun q hq => by
      rw [g3 17 (by decide) (by decide), g3 18 (by decide) (by decide)]
      exact M q hq) (by omega)
    refine ⟨I', A', ?_, fun a a1 a2 a3 a4 => (q2 a a1 a2 a3 a4).trans (g2 a a3 a4), q3, q4, fun a a1 a2 => (q5 a a1 a2).trans (g3 a a1 a2)⟩
    rw [eX13_odds_25, zR_17, Option.bind_some, a17, Option.bind_some, zsh (N c) (by omega), if_neg (nI_ge (by omega) (by omega)), zit]
    exact g1.trans q1
theorem kX13_fa106 {I : Nat → Int32} {A : Nat → Nat → Int32} {q n : Nat} (hq : q < 6) (hn : n ≤ 10) (x1 last : Int32) {i j : Nat} (hi : i < n) (hj : j < n) : ∀ (m k : Nat) (a : Int32), (k + m = n ∨ (m = 0 ∧ n ≤ k ∧ k ≤ n + 1)) → nzr d nX13_fading 106 [some (.ref 73), some (.int x1), some (.int (nI n)), some (.int (nI (10 * q))), some (.int last), some (.int a), some (.int (nI i)), some (.int (nI j)), some (.int (nI k))] [] (zmS h F0 I W (some t) rd tp A) = nzr d nX13_fading 94 [some (.ref 73), some (.int x1), some (.int (nI n)), some (.int (nI (10 * q))), some (.int last), some (.int (zit (zch3 (fun i => A 41 (10 * q + i)) last i j) k m a)), some (.int (nI i)), some (.int (nI (j + 1))), some (.int (nI (k + m)))] [] (zmS h F0 I W (some t) rd tp A) := by
  intro m
  induction m with
  | zero =>
    intro k a hk
    rw [eX13_fading_106, if_pos (nI_le (by omega) (by omega)), nI_1]
    rfl
  | succ m ih =>
    intro k a hk
    rw [eX13_fading_106, if_neg (nI_ge (by omega) (by omega)), zR_41, Option.bind_some, nI_add, zA_41 (show 10 * q + i < 60 by omega), Option.bind_some, Option.bind_some, nI_add, zA_41 (show 10 * q + j < 60 by omega), Option.bind_some, Option.bind_some, nI_add, zA_41 (show 10 * q + k < 60 by omega), Option.bind_some, zit, zch3]
    by_cases y : A 41 (10 * q + i) + A 41 (10 * q + j) + A 41 (10 * q + k) < last
    · rw [if_pos y, if_pos y, eX13_fading_153, nI_1, ih (k + 1) _ (by omega), show k + 1 + m = k + (m + 1) by omega]
    · rw [if_neg y, if_neg y, eX13_fading_153, nI_1, ih (k + 1) _ (by omega), show k + 1 + m = k + (m + 1) by omega]
theorem kX13_fa94 {I : Nat → Int32} {A : Nat → Nat → Int32} {q n : Nat} (hq : q < 6) (hn : n ≤ 10) (x1 last : Int32) {i : Nat} (hi : i < n) : ∀ (m j : Nat) (a : Int32) (u : Option Value), j + m = n → ∃ w, nzr d nX13_fading 94 [some (.ref 73), some (.int x1), some (.int (nI n)), some (.int (nI (10 * q))), some (.int last), some (.int a), some (.int (nI i)), some (.int (nI j)), u] [] (zmS h F0 I W (some t) rd tp A) = nzr d nX13_fading 82 [some (.ref 73), some (.int x1), some (.int (nI n)), some (.int (nI (10 * q))), some (.int last), some (.int (zit (zch2 (fun i => A 41 (10 * q + i)) last n i) j m a)), some (.int (nI (i + 1))), some (.int (nI n)), w] [] (zmS h F0 I W (some t) rd tp A) := by
  intro m
  induction m with
  | zero =>
    intro j a u hj
    refine ⟨u, ?_⟩
    rw [eX13_fading_94, if_pos (nI_le (by omega) (by omega)), nI_1, show j = n by omega]
    rfl
  | succ m ih =>
    intro j a u hj
    obtain ⟨w, e⟩ := ih (j + 1) (zch2 (fun i => A 41 (10 * q + i)) last n i j a) (some (.int (nI (j + 1 + (n - (j + 1)))))) (by omega)
    refine ⟨w, ?_⟩
    rw [eX13_fading_94, if_neg (nI_ge (by omega) (by omega)), nI_1, kX13_fa106 hq hn x1 last hi (show j < n by omega) (n - (j + 1)) (j + 1) a (by omega)]
    exact e
theorem kX13_fa82 (hd : 0 < d) {I : Nat → Int32} {A : Nat → Nat → Int32} {q n : Nat} (hq : q < 6) (hn : n ≤ 10) (x1 last : Int32) : ∀ (m i : Nat) (a : Int32) (u w : Option Value), i + m = n → nzr d nX13_fading 82 [some (.ref 73), some (.int x1), some (.int (nI n)), some (.int (nI (10 * q))), some (.int last), some (.int a), some (.int (nI i)), u, w] [] (zmS h F0 I W (some t) rd tp A) = some (some (.int (zit (zch1 (fun i => A 41 (10 * q + i)) last n) i m a)), zmS h F0 (upd (upd I 1 0) 2 (-1)) W (some t) rd tp A) := by
  intro m
  induction m with
  | zero =>
    intro i a u w hi
    rw [eX13_fading_82, if_pos (nI_le (by omega) (by omega)), zdone hd, Option.bind_some]
    rfl
  | succ m ih =>
    intro i a u w hi
    by_cases y : i + 1 ≤ n
    · obtain ⟨w', e⟩ := kX13_fa94 (d := d) (t := t) (h := h) (F0 := F0) (W := W) (rd := rd) (tp := tp) (I := I) (A := A) hq hn x1 last (show i < n by omega) (n - (i + 1)) (i + 1) a w (by omega)
      rw [eX13_fading_82, if_neg (nI_ge (by omega) (by omega)), nI_1, e, ih (i + 1) _ _ _ (by omega)]
      rfl
    · omega
theorem kX13_fo38 (E : zmd h t J B Wd) (ht : 94 ≤ t) (hd : 0 < d) {I : Nat → Int32} {A : Nat → Nat → Int32} {nh x : Nat} {e : Nat → Nat} (hn : nh ≤ 6) (en : J 5 = nI nh) (hE : ∀ i, i < nh → B 19 i = nI (e i) ∧ e i < 4) (hx : x < 6) (set : Int32) : ∀ (j i : Nat) (b : Bool), i + j = nh → nzr d nX13_forAll 38 [some (.ref 73), some (.int set), some (.int (nI x)), some (.int (zobB b)), some (.int (nI i))] [] (zmS h F0 I W (some t) rd tp A) = nzr d nX13_forAll 22 [some (.ref 73), some (.int (set ||| (if zit (fun i b => b && zdok B (e i) x) i j b then 1 <<< (nI x &&& 31) else 0))), some (.int (nI (x + 1))), some (.int (zobB (zit (fun i b => b && zdok B (e i) x) i j b))), some (.int (nI nh))] [] (zmS h F0 I W (some t) rd tp A) := by
  intro j
  induction j with
  | zero =>
    intro i b hi
    rw [eX13_forAll_38, zmS_T, Option.bind_some, zj E ht (by decide), Option.bind_some, en, if_pos (nI_le (by omega) (by omega)), zit, show i = nh by omega, eX13_forAll_96, eX13_forAll_96, nI_1]
    cases b
    · rfl
    · rfl
  | succ j ih =>
    intro i b hi
    have a19 : nzaI (zmS h F0 I W (some t) rd tp A) (t + (19 - 10)) (nI i) = some (nI (e i)) := (zda E ht (k := 19) (by decide) (by decide) (by decide) (by decide) (by decide) (show i < 6 by omega)).trans (congrArg some (hE i (by omega)).1)
    rw [eX13_forAll_38, zmS_T, Option.bind_some, zj E ht (by decide), Option.bind_some, en, if_neg (nI_ge (by omega) (by omega)), zit, eX13_forAll_76, eX13_forAll_77, nI_1]
    cases b with
    | false =>
      rw [if_pos (show zobB false = 0 from rfl), Bool.false_and]
      exact ih (i + 1) false (by omega)
    | true =>
      rw [if_neg (show ¬ zobB true = 0 by decide), Option.bind_some, zdr E ht (k := 19) (by decide) (by decide), Option.bind_some, a19, Option.bind_some, jX13_barred zmo_S (zmd_S E ht) hd (hE i (by omega)).2 hx, Option.bind_some, Bool.true_and]
      by_cases y : B 13 x &&& B 15 (e i) = 0
      · rw [if_pos y, eX13_forAll_77, nI_1, show zdok B (e i) x = true by rw [zdok, decide_eq_true_eq]; exact y]
        exact ih (i + 1) true (by omega)
      · rw [if_neg y, eX13_forAll_76, eX13_forAll_77, nI_1, show zdok B (e i) x = false by rw [zdok, decide_eq_false_iff_not]; exact y]
        exact ih (i + 1) false (by omega)
def zfoS (B : Nat → Nat → Int32) (e : Nat → Nat) (nh : Nat) (x : Nat) (s : Int32) : Int32 := s ||| (if zit (fun i b => b && zdok B (e i) x) 0 nh true then 1 <<< (nI x &&& 31) else 0)
theorem kX13_fo22 (E : zmd h t J B Wd) (ht : 94 ≤ t) (hd : 0 < d) {I : Nat → Int32} {A : Nat → Nat → Int32} {nh nd : Nat} {e : Nat → Nat} (hn : nh ≤ 6) (en : J 5 = nI nh) (hnd : nd ≤ 6) (end_ : J 3 = nI nd) (hE : ∀ i, i < nh → B 19 i = nI (e i) ∧ e i < 4) : ∀ (j x : Nat) (set : Int32) (u3 u4 : Option Value), x + j = nd → nzr d nX13_forAll 22 [some (.ref 73), some (.int set), some (.int (nI x)), u3, u4] [] (zmS h F0 I W (some t) rd tp A) = some (some (.int (zit (zfoS B e nh) x j set)), zmS h F0 (upd (upd I 1 0) 2 (-1)) W (some t) rd tp A) := by
  intro j
  induction j with
  | zero =>
    intro x set u3 u4 hx
    rw [eX13_forAll_22, zmS_T, Option.bind_some, zj E ht (by decide), Option.bind_some, end_, if_pos (nI_le (by omega) (by omega)), zdone hd, Option.bind_some]
    rfl
  | succ j ih =>
    intro x set u3 u4 hx
    have := kX13_fo38 (F0 := F0) (W := W) (rd := rd) (tp := tp) (I := I) (A := A) E ht hd hn en hE (show x < 6 by omega) set nh 0 true (by omega)
    rw [eX13_forAll_22, zmS_T, Option.bind_some, zj E ht (by decide), Option.bind_some, end_, if_neg (nI_ge (by omega) (by omega)), zit, zfoS, ← ih (x + 1) _ (some (.int (zobB (zit (fun i b => b && zdok B (e i) x) 0 nh true)))) (some (.int (nI nh))) (by omega)]
    exact this
/-- a faulty probe noted -/
def zfyS (B : Nat → Nat → Int32) (K : Nat → Nat) (C M T : Nat → Int32) (al : Int32) (i : Nat) (a : Int32) : Int32 := a ||| (if al < T i - zmht B (C i).toNatClampNeg (K (C i).toNatClampNeg) (M i) ∨ ¬ -(T i - zmht B (C i).toNatClampNeg (K (C i).toNatClampNeg) (M i)) ≤ al then 1 <<< (nI i &&& 31) else 0)
theorem kX13_fy38 (E : zmd h t J B Wd) (ht : 94 ≤ t) (hd : 0 < d) {I : Nat → Int32} {A : Nat → Nat → Int32} {n : Nat} {K : Nat → Nat} (hn : n ≤ 16) (en : I 42 = nI n) (hC : ∀ i, i < n → ∃ c, c < 3 ∧ A 43 i = nI c ∧ K c < 3 ∧ B 26 c = nI (K c)) (al : Int32) : ∀ (j i : Nat) (a : Int32) (u4 : Option Value), i + j = n → nzr d nX13_faulty 38 [some (.ref 73), some (.int al), some (.int a), some (.int (nI i)), u4] [] (zmS h F0 I W (some t) rd tp A) = some (some (.int (zit (zfyS B K (A 43) (A 44) (A 45) al) i j a)), zmS h F0 (upd (upd I 1 0) 2 (-1)) W (some t) rd tp A) := by
  intro j
  induction j with
  | zero =>
    intro i a u4 hi
    rw [eX13_faulty_38, zI_42, Option.bind_some, en, if_pos (nI_le (by omega) (by omega)), zdone hd, Option.bind_some]
    rfl
  | succ j ih =>
    intro i a u4 hi
    obtain ⟨c, c1, c2, c3, c4⟩ := hC i (by omega)
    have a43 : nzaI (zmS h F0 I W (some t) rd tp A) 91 (nI i) = some (nI c) := (zA_43 (show i < 16 by omega)).trans (congrArg some c2)
    rw [eX13_faulty_38, zI_42, Option.bind_some, en, if_neg (nI_ge (by omega) (by omega)), zR_45, Option.bind_some, zA_45 (show i < 16 by omega), Option.bind_some, zR_43, Option.bind_some, a43, Option.bind_some, zR_44, Option.bind_some, zA_44 (show i < 16 by omega), Option.bind_some, jX13_heatBy zmo_S (zmd_S E ht) hd c1 c3 c4, Option.bind_some, zit]
    have ez : zfyS B K (A 43) (A 44) (A 45) al i a = a ||| (if al < A 45 i - (B 12 (K c) - B 29 c * (A 44 i - B 27 c) / 10) ∨ ¬ -(A 45 i - (B 12 (K c) - B 29 c * (A 44 i - B 27 c) / 10)) ≤ al then 1 <<< (nI i &&& 31) else 0) := by
      rw [zfyS, c2, nI_clamp (by omega)]
      rfl
    simp only [eX13_faulty_85, eX13_faulty_92, nI_1]
    by_cases y1 : al < A 45 i - (B 12 (K c) - B 29 c * (A 44 i - B 27 c) / 10)
    · rw [if_pos y1, ez, if_pos (.inl y1)]
      exact ih (i + 1) _ _ (by omega)
    · rw [if_neg y1]
      by_cases y2 : -(A 45 i - (B 12 (K c) - B 29 c * (A 44 i - B 27 c) / 10)) ≤ al
      · rw [if_pos y2, ez, if_neg (fun y => y.elim y1 (fun z => z y2))]
        exact ih (i + 1) _ _ (by omega)
      · rw [if_neg y2, ez, if_pos (.inr y2)]
        exact ih (i + 1) _ _ (by omega)
def zfcB (M T : Nat → Int32) (hot : Int32) (i : Nat) : Option Nat → Option Nat
  | none => if hot ≤ T i then none else some i
  | some b => if hot ≤ T i then some b else if M b ≤ M i then some b else some i
def zob2 : Option Nat → Int32
  | none => -2
  | some b => nI b
theorem kX13_fc23 (E : zmd h t J B Wd) (ht : 94 ≤ t) (hd : 0 < d) {I : Nat → Int32} {A : Nat → Nat → Int32} {n : Nat} (hn : n ≤ 16) (en : I 42 = nI n) : ∀ (j i : Nat) (b : Option Nat), i + j = n → (∀ v, b = some v → v < n) → nzr d nX13_firstCold 23 [some (.ref 73), some (.int (zob2 b)), some (.int (nI i))] [] (zmS h F0 I W (some t) rd tp A) = some (some (.int (zob2 (zit (zfcB (A 44) (A 45) (J 0)) i j b))), zmS h F0 (upd (upd I 1 0) 2 (-1)) W (some t) rd tp A) := by
  intro j
  induction j with
  | zero =>
    intro i b hi hb
    rw [eX13_firstCold_23, zI_42, Option.bind_some, en, if_pos (nI_le (by omega) (by omega)), zdone hd, Option.bind_some]
    rfl
  | succ j ih =>
    intro i b hi hb
    rw [eX13_firstCold_23, zI_42, Option.bind_some, en, if_neg (nI_ge (by omega) (by omega)), zR_45, Option.bind_some, zA_45 (show i < 16 by omega), Option.bind_some, zmS_T, Option.bind_some, zj E ht (by decide), Option.bind_some, zit]
    simp only [eX13_firstCold_68, eX13_firstCold_70, nI_1, zR_44, Option.bind_some, zA_44 (show i < 16 by omega)]
    cases b with
    | none =>
      rw [zfcB]
      by_cases y : J 0 ≤ A 45 i
      · rw [if_pos y, if_pos y]
        exact ih (i + 1) none (by omega) hb
      · rw [if_neg y, if_neg y, if_pos (show zob2 none = -2 from rfl)]
        exact ih (i + 1) (some i) (by omega) (fun v e => by cases e; omega)
    | some b =>
      have hb' := hb b rfl
      have ne : ¬ zob2 (some b) = -2 := fun z => nI_pos (n := b) (by omega) (by rw [show nI b = -2 from z]; decide)
      rw [zfcB, if_neg ne, show zob2 (some b) = nI b from rfl, zA_44 (show b < 16 by omega)]
      simp only [Option.bind_some]
      by_cases y : J 0 ≤ A 45 i
      · rw [if_pos y, if_pos y]
        exact ih (i + 1) (some b) (by omega) hb
      · rw [if_neg y, if_neg y]
        by_cases w : A 44 b ≤ A 44 i
        · rw [if_pos w, if_pos w]
          exact ih (i + 1) (some b) (by omega) hb
        · rw [if_neg w, if_neg w]
          exact ih (i + 1) (some i) (by omega) (fun v e => by cases e; omega)
def zreS (r : Nat → Nat) (is : Bool) (k : Nat) (a : Int32) : Int32 := a ||| (if is then 1 <<< (nI (r k) &&& 31) else 0)
def zreC (B : Nat → Nat → Int32) (N : Nat → Nat) (R : Nat → Nat → Nat) (x : Int32) (c : Nat) (a : Int32) : Int32 := zit (zreS (R c) (decide (B 26 c = x))) 0 (N c) a
theorem kX13_re51 (E : zmd h t J B Wd) (ht : 94 ≤ t) {I : Nat → Int32} {A : Nat → Nat → Int32} {N : Nat → Nat} {R : Nat → Nat → Nat} (M : zmrr A N R) (x : Int32) {c : Nat} (hc : c < 3) : ∀ (j i : Nat) (a : Int32), i + j = N c → nzr d nX13_recall 51 [some (.ref 73), some (.int x), some (.int a), some (.int (nI c)), some (.int (nI i))] [] (zmS h F0 I W (some t) rd tp A) = nzr d nX13_recall 37 [some (.ref 73), some (.int x), some (.int (zit (zreS (R c) (decide (B 26 c = x))) i j a)), some (.int (nI (c + 1))), some (.int (nI (N c)))] [] (zmS h F0 I W (some t) rd tp A) := by
  obtain ⟨m1, m2, m3⟩ := M c hc
  have a17 : nzaI (zmS h F0 I W (some t) rd tp A) 75 (nI c) = some (nI (N c)) := (zA_17 hc).trans (congrArg some m1)
  have a26 : nzaI (zmS h F0 I W (some t) rd tp A) (t + (26 - 10)) (nI c) = some (B 26 c) := zda E ht (k := 26) (by decide) (by decide) (by decide) (by decide) (by decide) hc
  intro j
  induction j with
  | zero =>
    intro i a hi
    rw [eX13_recall_51, zR_17, Option.bind_some, a17, Option.bind_some, if_pos (nI_le (by omega) (by omega)), nI_1, show i = N c by omega]
    rfl
  | succ j ih =>
    intro i a hi
    have a18 : nzaI (zmS h F0 I W (some t) rd tp A) 76 (nI (6 * c + i)) = some (nI (R c i)) := (zA_18 (show 6 * c + i < 18 by omega)).trans (congrArg some (m3 i (by omega)).1)
    rw [eX13_recall_51, zR_17, Option.bind_some, a17, Option.bind_some, if_neg (nI_ge (by omega) (by omega)), zmS_T, Option.bind_some, zdr E ht (k := 26) (by decide) (by decide), Option.bind_some, a26, Option.bind_some, zit, zreS]
    by_cases y : B 26 c = x
    · rw [if_pos y, zR_18, Option.bind_some, show 6 * nI c + nI i = nI (6 * c + i) by rw [show (6 : Int32) = nI 6 from rfl, pk_mul, nI_add], a18, Option.bind_some, eX13_recall_94, nI_1, if_pos (decide_eq_true y)]
      exact ih (i + 1) _ (by omega)
    · rw [if_neg y, eX13_recall_94, nI_1, if_neg (by rw [decide_eq_true_eq]; exact y)]
      exact ih (i + 1) _ (by omega)
theorem kX13_re37 (E : zmd h t J B Wd) (ht : 94 ≤ t) (hd : 0 < d) {I : Nat → Int32} {A : Nat → Nat → Int32} {N : Nat → Nat} {R : Nat → Nat → Nat} (M : zmrr A N R) (x : Int32) {m : Nat} (hm : m ≤ 3) (em : J 6 = nI m) : ∀ (j c : Nat) (a : Int32) (u : Option Value), c + j = m → nzr d nX13_recall 37 [some (.ref 73), some (.int x), some (.int a), some (.int (nI c)), u] [] (zmS h F0 I W (some t) rd tp A) = some (some (.int (zit (zreC B N R x) c j a)), zmS h F0 (upd (upd I 1 0) 2 (-1)) W (some t) rd tp A) := by
  intro j
  induction j with
  | zero =>
    intro c a u hc
    rw [eX13_recall_37, zmS_T, Option.bind_some, zj E ht (by decide), Option.bind_some, em, if_pos (nI_le (by omega) (by omega)), zdone hd, Option.bind_some]
    rfl
  | succ j ih =>
    intro c a u hc
    rw [eX13_recall_37, zmS_T, Option.bind_some, zj E ht (by decide), Option.bind_some, em, if_neg (nI_ge (by omega) (by omega)), show (0 : Int32) = nI 0 from rfl, kX13_re51 E ht M x (show c < 3 by omega) (N c) 0 a (by omega), ih (c + 1) _ _ (by omega), zit]
    rfl
end NZOD
