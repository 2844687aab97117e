/-! the reference: helpers to days -/
def zwd (hn a e : Nat) : Nat := a / (hn + 1) ^ (6 - e) % (hn + 1)
def zwv (hn : Nat) (Wi : Nat → Nat → Bool) (M : Nat → Nat) (who : Nat → Nat) : Nat → Nat → Nat → Nat → (Nat → Nat) → Option Nat
  | 0, _, n, b, _ => some (8 * n + 7 - b)
  | j + 1, e, n, b, wk => if who e = hn then zwv hn Wi M who j (e + 1) n b wk else if Wi (who e) e = true ∧ wk (who e) + 1 ≤ M (who e) then zwv hn Wi M who j (e + 1) (n + 1) (if wk (who e) + 1 ≤ b then b else wk (who e) + 1) (va_up wk (who e) (wk (who e) + 1)) else none
def zwW (B : Nat → Nat → Int32) (x e : Nat) : Bool := decide ((B 32 x >>> (nI e &&& 31)) &&& 1 = 1)
def zolt : Option Nat → Option Nat → Bool
  | none, some _ => true
  | some a, some b => decide (a < b)
  | _, none => false
def zfiS (hn : Nat) (Wi : Nat → Nat → Bool) (M : Nat → Nat) (a : Nat) (s : Option Nat × Nat) : Option Nat × Nat := if zolt s.1 (zwv hn Wi M (zwd hn a) 7 0 0 0 (fun _ => 0)) = true then (zwv hn Wi M (zwd hn a) 7 0 0 0 (fun _ => 0), a) else s
def zfiV (hn x : Nat) : Int32 := if x = hn then -2 else nI x
theorem zolt_I {a b : Option Nat} (ha : ∀ v, a = some v → v < 2 ^ 31) (hb : ∀ v, b = some v → v < 2 ^ 31) : zob a < zob b ↔ zolt a b = true := by
  cases a with
  | none =>
    cases b with
    | none => exact ⟨fun z => absurd z (by decide), fun z => by cases z⟩
    | some b =>
      refine ⟨fun _ => rfl, fun _ => ?_⟩
      have hb' := hb b rfl
      show (-1 : Int32) < nI b
      rw [Int32.lt_iff_toInt_lt, nI_toInt hb']
      have : (-1 : Int32).toInt = -1 := by decide
      omega
  | some a =>
    have ha' := ha a rfl
    cases b with
    | none =>
      refine ⟨fun z => ?_, fun z => by cases z⟩
      have z : nI a < (-1 : Int32) := z
      rw [Int32.lt_iff_toInt_lt, nI_toInt ha'] at z
      have : (-1 : Int32).toInt = -1 := by decide
      omega
    | some b =>
      have hb' := hb b rfl
      show nI a < nI b ↔ decide (a < b) = true
      rw [nI_ltI ha' hb', decide_eq_true_eq]
theorem zwv_b {hn : Nat} {Wi : Nat → Nat → Bool} {M who : Nat → Nat} : ∀ (j e n b : Nat) (wk : Nat → Nat) (v : Nat), zwv hn Wi M who j e n b wk = some v → v ≤ 8 * (n + j) + 7 := by
  intro j
  induction j with
  | zero => intro e n b wk v h; cases h; omega
  | succ j ih =>
    intro e n b wk v h
    rw [zwv] at h
    split at h
    · have := ih _ _ _ _ _ h
      omega
    · split at h
      · have := ih _ _ _ _ _ h
        omega
      · cases h
section NZFF
variable {d t : Nat} {h : nzH} {F0 : Nat → Value} {W : Int64} {rd : Option Nat} {tp : Nat → Int32} {J : Nat → Int32} {B : Nat → Nat → Int32} {Wd : Nat → Int64} {I : Nat → Int32}
theorem kX13_whoOf (E : zmd h t J B Wd) (ht : 94 ≤ t) (hd : 0 < d) {A : Nat → Nat → Int32} {hn e a : Nat} (hh : hn ≤ 5) (en : J 9 = nI hn) (he : e ≤ 6) (ha : a < 2 ^ 31) : nzxI d nX13_whoOf [.ref 73, .int (nI a), .int (nI e)] (zmS h F0 I W (some t) rd tp A) = some (nI (zwd hn a e), zmS h F0 I W (some t) rd tp A) := jX13_whoOf zmo_S (zmd_S E ht) hd hh en he ha
theorem kX13_wo36 (E : zmd h t J B Wd) (ht : 94 ≤ t) (hd : 0 < d) {hn a : Nat} {M : Nat → Nat} (hh : hn ≤ 5) (en : J 9 = nI hn) (ha : a < 2 ^ 31) (hM : ∀ q, q < hn → B 33 q = nI (M q) ∧ M q ≤ 7) : ∀ (j e n b : Nat) (wk : Nat → Nat) (A : Nat → Nat → Int32) (u5 : Option Value), e + j = 7 → n ≤ e → b ≤ e → (∀ q, q < hn → A 39 q = nI (wk q) ∧ wk q ≤ e) → ∃ w, nzr d nX13_worthOf 36 [some (.ref 73), some (.int (nI a)), some (.int (nI n)), some (.int (nI b)), some (.int (nI e)), u5] [] (zmS h F0 I W (some t) rd tp A) = some (some (.int (zob (zwv hn (zwW B) M (zwd hn a) j e n b wk))), zmS h F0 I W (some t) rd tp (va_up A 39 w)) := by
  intro j
  induction j with
  | zero =>
    intro e n b wk A u5 he hn' hb hw
    refine ⟨A 39, ?_⟩
    rw [eX13_worthOf_36, if_pos (show 7 ≤ nI e from nI_le (a := 7) (by omega) (by omega)), va_up_same, show (8 : Int32) = nI 8 from rfl, pk_mul, show (7 : Int32) = nI 7 from rfl, nI_add, nI_sub (by omega)]
    rfl
  | succ j ih =>
    intro e n b wk A u5 he hn' hb hw
    have hwd : zwd hn a e < hn + 1 := Nat.mod_lt _ (by omega)
    rw [eX13_worthOf_36, if_neg (show ¬ 7 ≤ nI e from nI_ge (b := 7) (by omega) (by decide)), kX13_whoOf E ht hd hh en (by omega) ha, Option.bind_some, zmS_T, Option.bind_some, zj E ht (by decide), Option.bind_some, en, zwv]
    by_cases y : zwd hn a e = hn
    · rw [if_pos (congrArg nI y), if_pos y, eX13_worthOf_144, nI_1]
      exact ih (e + 1) n b wk A _ (by omega) (by omega) (by omega) (fun q hq => ⟨(hw q hq).1, by have := (hw q hq).2; omega⟩)
    · rw [if_neg (fun z => y ((nI_eq (by omega) (by omega)).mp z)), if_neg y]
      generalize zwd hn a e = x at hwd y
      have hx : x < hn := by omega
      obtain ⟨w1, w2⟩ := hw x hx
      obtain ⟨m1, m2⟩ := hM x hx
      have a39 : nzaI (zmS h F0 I W (some t) rd tp A) 88 (nI x) = some (nI (wk x)) := (zA_39 (show x < 6 by omega)).trans (congrArg some w1)
      have b39 : nzaI (zmS h F0 I W (some t) rd tp (va_up A 39 (upd (A 39) x (nI (wk x + 1))))) 88 (nI x) = some (nI (wk x + 1)) := by
        rw [zA_39 (show x < 6 by omega), va_up_self, upd_eq]
      have a32 : nzaI (zmS h F0 I W (some t) rd tp (va_up A 39 (upd (A 39) x (nI (wk x + 1))))) (t + (32 - 10)) (nI x) = some (B 32 x) := zda E ht (k := 32) (by decide) (by decide) (by decide) (by decide) (by decide) (show x < 5 by omega)
      have a33 : nzaI (zmS h F0 I W (some t) rd tp (va_up A 39 (upd (A 39) x (nI (wk x + 1))))) (t + (33 - 10)) (nI x) = some (nI (M x)) := (zda E ht (k := 33) (by decide) (by decide) (by decide) (by decide) (by decide) (show x < 5 by omega)).trans (congrArg some m1)
      rw [zR_39, Option.bind_some, a39, Option.bind_some, nI_1, zW_39 (show x < 6 by omega), Option.bind_some, zmS_T, Option.bind_some, zdr E ht (k := 32) (by decide) (by decide), Option.bind_some, a32, Option.bind_some, jX13_has hd, Option.bind_some]
      by_cases z1 : (B 32 x >>> (nI e &&& 31)) &&& 1 = 1
      · rw [if_pos z1, if_neg (show ¬ (1 : Int32) = 0 by decide), zR_39, Option.bind_some, b39, Option.bind_some, zmS_T, Option.bind_some, zdr E ht (k := 33) (by decide) (by decide), Option.bind_some, a33, Option.bind_some]
        by_cases z2 : wk x + 1 ≤ M x
        · rw [if_pos (nI_le z2 (by omega)), if_pos ⟨by rw [zwW, decide_eq_true_eq]; exact z1, z2⟩, Option.bind_some, b39, Option.bind_some, Option.bind_some]
          have P : ∀ q, q < hn → va_up A 39 (upd (A 39) x (nI (wk x + 1))) 39 q = nI (va_up wk x (wk x + 1) q) ∧ va_up wk x (wk x + 1) q ≤ e + 1 := fun q hq => by
            rw [va_up_self]
            by_cases z : q = x
            · rw [z, upd_eq, va_up_self]
              exact ⟨rfl, by omega⟩
            · rw [upd_ne z, va_up_ne _ _ z]
              exact ⟨(hw q hq).1, by have := (hw q hq).2; omega⟩
          by_cases z3 : wk x + 1 ≤ b
          · rw [if_pos (nI_le z3 (by omega)), if_pos z3, eX13_worthOf_143, eX13_worthOf_144, nI_1, nI_1]
            obtain ⟨w, q⟩ := ih (e + 1) (n + 1) b (va_up wk x (wk x + 1)) (va_up A 39 (upd (A 39) x (nI (wk x + 1)))) (some (.int (nI x))) (by omega) (by omega) (by omega) P
            rw [va_up_up] at q
            exact ⟨w, q⟩
          · rw [if_neg (nI_ge (by omega) (by omega)), if_neg z3, b39, Option.bind_some, eX13_worthOf_143, eX13_worthOf_144, nI_1, nI_1]
            obtain ⟨w, q⟩ := ih (e + 1) (n + 1) (wk x + 1) (va_up wk x (wk x + 1)) (va_up A 39 (upd (A 39) x (nI (wk x + 1)))) (some (.int (nI x))) (by omega) (by omega) (by omega) P
            rw [va_up_up] at q
            exact ⟨w, q⟩
        · rw [if_neg (nI_ge (by omega) (by omega)), if_neg (fun q => z2 q.2), eX13_worthOf_116]
          exact ⟨_, rfl⟩
      · rw [if_neg z1, if_pos rfl, if_neg (fun q => z1 (by have := q.1; rw [zwW, decide_eq_true_eq] at this; exact this)), eX13_worthOf_116]
        exact ⟨_, rfl⟩
theorem kX13_wo7 (E : zmd h t J B Wd) (ht : 94 ≤ t) {hn : Nat} (hh : hn ≤ 5) (en : J 9 = nI hn) (x1 x2 x3 : Int32) : ∀ (j i : Nat) (A : Nat → Nat → Int32), i + j = hn + 1 → (∀ q, q < i → A 39 q = 0) → ∃ w, nzr d nX13_worthOf 7 [some (.ref 73), some (.int x1), some (.int x2), some (.int x3), some (.int (nI i)), none] [] (zmS h F0 I W (some t) rd tp A) = nzr d nX13_worthOf 36 [some (.ref 73), some (.int x1), some (.int x2), some (.int x3), some (.int (nI 0)), none] [] (zmS h F0 I W (some t) rd tp (va_up A 39 w)) ∧ ∀ q, q < hn + 1 → w q = 0 := by
  intro j
  induction j with
  | zero =>
    intro i A hi P
    refine ⟨A 39, ?_, fun q hq => P q (by omega)⟩
    rw [eX13_worthOf_7, zmS_T, Option.bind_some, zj E ht (by decide), Option.bind_some, en, if_pos (nI_lt (by omega) (by omega)), va_up_same]
    rfl
  | succ j ih =>
    intro i A hi P
    obtain ⟨w, q1, q2⟩ := ih (i + 1) (va_up A 39 (upd (A 39) i 0)) (by omega) (fun q hq => by
      rw [va_up_self]
      by_cases z : q = i
      · rw [z, upd_eq]
      · rw [upd_ne z]
        exact P q (by omega))
    refine ⟨w, ?_, q2⟩
    rw [va_up_up] at q1
    rw [eX13_worthOf_7, zmS_T, Option.bind_some, zj E ht (by decide), Option.bind_some, en, if_neg (nI_nlt (by omega) (by omega)), zR_39, Option.bind_some, zW_39 (show i < 6 by omega), Option.bind_some, nI_1]
    exact q1
theorem kX13_worthOf (E : zmd h t J B Wd) (ht : 94 ≤ t) (hd : 1 < d) {hn a : Nat} {M : Nat → Nat} (hh : hn ≤ 5) (en : J 9 = nI hn) (ha : a < 2 ^ 31) (hM : ∀ q, q < hn → B 33 q = nI (M q) ∧ M q ≤ 7) (A : Nat → Nat → Int32) : ∃ w, nzxI d nX13_worthOf [.ref 73, .int (nI a)] (zmS h F0 I W (some t) rd tp A) = some (zob (zwv hn (zwW B) M (zwd hn a) 7 0 0 0 (fun _ => 0)), zmS h F0 I W (some t) rd tp (va_up A 39 w)) := by
  obtain ⟨w, q1, q2⟩ := kX13_wo7 (d := d - 1) (F0 := F0) (W := W) (rd := rd) (tp := tp) (I := I) E ht hh en (nI a) 0 0 (hn + 1) 0 A (by omega) (fun q hq => absurd hq (Nat.not_lt_zero _))
  obtain ⟨w', q3⟩ := kX13_wo36 (d := d - 1) (F0 := F0) (W := W) (rd := rd) (tp := tp) (I := I) E ht (by omega) hh en ha hM 7 0 0 0 (fun _ => 0) (va_up A 39 w) none rfl (Nat.le_refl _) (Nat.le_refl _) (fun q hq => ⟨by rw [va_up_self, q2 q (by omega)]; rfl, Nat.le_refl _⟩)
  refine ⟨w', iX13_worthOf (by omega) zmS_o ?_⟩
  rw [va_up_up] at q3
  rw [eX13_worthOf_0]
  exact q1.trans q3
theorem zpow7 : ∀ n, n < 6 → (n + 1) ^ 7 ≤ 279936 := by decide +kernel
theorem kX13_fi22 (E : zmd h t J B Wd) (ht : 94 ≤ t) {A : Nat → Nat → Int32} {hn : Nat} (en : J 9 = nI hn) : ∀ (j i a : Nat), i + j = 7 → nzr d nX13_fill 22 [some (.ref 73), some (.int (nI a)), some (.int (nI i)), none, none, none] [] (zmS h F0 I W (some t) rd tp A) = nzr d nX13_fill 53 [some (.ref 73), some (.int (nI (a * (hn + 1) ^ j))), some (.int (-1)), some (.int 0), some (.int 0), none] [] (zmS h F0 I W (some t) rd tp A) := by
  intro j
  induction j with
  | zero =>
    intro i a hi
    rw [eX13_fill_22, if_pos (show 7 ≤ nI i from nI_le (a := 7) (by omega) (by omega)), Nat.pow_zero, Nat.mul_one]
  | succ j ih =>
    intro i a hi
    rw [eX13_fill_22, if_neg (show ¬ 7 ≤ nI i from nI_ge (b := 7) (by omega) (by decide)), zmS_T, Option.bind_some, zj E ht (by decide), Option.bind_some, en, nI_1, pk_mul, nI_1, ih (i + 1) _ (by omega), Nat.mul_assoc, Nat.pow_succ, Nat.mul_comm (hn + 1)]
theorem kX13_fi96 (E : zmd h t J B Wd) (ht : 94 ≤ t) (hd : 0 < d) {hn b : Nat} (hh : hn ≤ 5) (en : J 9 = nI hn) (hb : b < 2 ^ 31) (x1 x2 : Int32) (u5 : Option Value) : ∀ (j e : Nat) (A : Nat → Nat → Int32), e + j = 7 → nzr d nX13_fill 96 [some (.ref 73), some (.int x1), some (.int x2), some (.int (nI b)), some (.int (nI e)), u5] [] (zmS h F0 I W (some t) rd tp A) = some (some (.int (x2 / 8)), zmS h F0 (upd (upd I 1 0) 2 (-1)) W (some t) rd tp (va_up A 38 (zit (fun e f => upd f e (zfiV hn (zwd hn b e))) e j (A 38)))) := by
  intro j
  induction j with
  | zero =>
    intro e A he
    rw [eX13_fill_96, if_pos (show 7 ≤ nI e from nI_le (a := 7) (by omega) (by omega)), zdone hd, Option.bind_some, zit, va_up_same]
  | succ j ih =>
    intro e A he
    have hwd : zwd hn b e < hn + 1 := Nat.mod_lt _ (by omega)
    rw [eX13_fill_96, if_neg (show ¬ 7 ≤ nI e from nI_ge (b := 7) (by omega) (by decide)), zR_38, Option.bind_some, kX13_whoOf E ht hd hh en (by omega) hb, Option.bind_some, zmS_T, Option.bind_some, zj E ht (by decide), Option.bind_some, en, zit]
    by_cases y : zwd hn b e = hn
    · rw [if_pos (congrArg nI y), eX13_fill_138, zW_38 (show e < 7 by omega), Option.bind_some, nI_1, ih (e + 1) _ (by omega), va_up_up, va_up_self, zfiV, if_pos y]
    · rw [if_neg (fun z => y ((nI_eq (by omega) (by omega)).mp z)), kX13_whoOf E ht hd hh en (by omega) hb, Option.bind_some, eX13_fill_138, zW_38 (show e < 7 by omega), Option.bind_some, nI_1, ih (e + 1) _ (by omega), va_up_up, va_up_self, zfiV, if_neg y]
theorem kX13_fi53 (E : zmd h t J B Wd) (ht : 94 ≤ t) (hd : 1 < d) {hn n : Nat} {M : Nat → Nat} (hh : hn ≤ 5) (en : J 9 = nI hn) (hn' : n ≤ 279936) (hM : ∀ q, q < hn → B 33 q = nI (M q) ∧ M q ≤ 7) : ∀ (j a : Nat) (s : Option Nat × Nat) (A : Nat → Nat → Int32) (u5 : Option Value), a + j = n → s.2 ≤ a → (∀ v, s.1 = some v → v < 100) → ∃ w, nzr d nX13_fill 53 [some (.ref 73), some (.int (nI n)), some (.int (zob s.1)), some (.int (nI s.2)), some (.int (nI a)), u5] [] (zmS h F0 I W (some t) rd tp A) = some (some (.int (zob (zit (zfiS hn (zwW B) M) a j s).1 / 8)), zmS h F0 (upd (upd (upd I 37 1) 1 0) 2 (-1)) W (some t) rd tp (va_up (va_up A 39 w) 38 (zit (fun e f => upd f e (zfiV hn (zwd hn (zit (zfiS hn (zwW B) M) a j s).2 e))) 0 7 (A 38)))) := by
  intro j
  induction j with
  | zero =>
    intro a s A u5 ha h2 hs
    refine ⟨A 39, ?_⟩
    rw [eX13_fill_53, if_pos (nI_le (by omega) (by omega)), zP_37, Option.bind_some, show (0 : Int32) = nI 0 from rfl, kX13_fi96 E ht (by omega) hh en (by omega) _ _ u5 7 0 A rfl, va_up_same]
    rfl
  | succ j ih =>
    intro a s A u5 ha h2 hs
    obtain ⟨w, q⟩ := kX13_worthOf (F0 := F0) (W := W) (rd := rd) (tp := tp) (I := I) E ht hd hh en (show a < 2 ^ 31 by omega) hM A
    have hv : ∀ v, zwv hn (zwW B) M (zwd hn a) 7 0 0 0 (fun _ => 0) = some v → v < 100 := fun v e => by
      have := zwv_b 7 0 0 0 (fun _ => 0) v e
      omega
    have lt := zolt_I (a := s.1) (fun v e => by have := hs v e; omega) (fun v e => by have := hv v e; omega)
    rw [eX13_fill_53, if_neg (nI_ge (by omega) (by omega)), q, Option.bind_some, zit, zfiS]
    by_cases y : zolt s.1 (zwv hn (zwW B) M (zwd hn a) 7 0 0 0 (fun _ => 0)) = true
    · rw [if_pos (lt.mpr y), if_pos y, eX13_fill_82, nI_1]
      obtain ⟨w', q'⟩ := ih (a + 1) (zwv hn (zwW B) M (zwd hn a) 7 0 0 0 (fun _ => 0), a) (va_up A 39 w) (some (.int (zob (zwv hn (zwW B) M (zwd hn a) 7 0 0 0 (fun _ => 0))))) (by omega) (Nat.le_succ a) hv
      rw [va_up_up, va_up_ne _ _ (show 38 ≠ 39 by decide)] at q'
      exact ⟨w', q'⟩
    · rw [if_neg (fun z => y (lt.mp z)), if_neg y, eX13_fill_82, nI_1]
      obtain ⟨w', q'⟩ := ih (a + 1) s (va_up A 39 w) (some (.int (zob (zwv hn (zwW B) M (zwd hn a) 7 0 0 0 (fun _ => 0))))) (by omega) (by omega) hs
      rw [va_up_up, va_up_ne _ _ (show 38 ≠ 39 by decide)] at q'
      exact ⟨w', q'⟩
theorem kX13_fi0 (E : zmd h t J B Wd) (ht : 94 ≤ t) (hd : 1 < d) {hn : Nat} {M : Nat → Nat} (hh : hn ≤ 5) (en : J 9 = nI hn) (hM : ∀ q, q < hn → B 33 q = nI (M q) ∧ M q ≤ 7) (A : Nat → Nat → Int32) : ∃ w, nzr d nX13_fill 22 [some (.ref 73), some (.int 1), some (.int 0), none, none, none] [] (zmS h F0 I W (some t) rd tp A) = some (some (.int (zob (zit (zfiS hn (zwW B) M) 0 ((hn + 1) ^ 7) (none, 0)).1 / 8)), zmS h F0 (upd (upd (upd I 37 1) 1 0) 2 (-1)) W (some t) rd tp (va_up (va_up A 39 w) 38 (zit (fun e f => upd f e (zfiV hn (zwd hn (zit (zfiS hn (zwW B) M) 0 ((hn + 1) ^ 7) (none, 0)).2 e))) 0 7 (A 38)))) := by
  have := kX13_fi22 (d := d) (F0 := F0) (W := W) (rd := rd) (tp := tp) (I := I) (A := A) E ht en 7 0 1 rfl
  rw [Nat.one_mul] at this
  obtain ⟨w, q⟩ := kX13_fi53 (F0 := F0) (W := W) (rd := rd) (tp := tp) (I := I) E ht hd hh en (zpow7 hn (by omega)) hM ((hn + 1) ^ 7) 0 (none, 0) A none (by omega) (Nat.le_refl _) (fun v e => by cases e)
  exact ⟨w, this.trans q⟩
end NZFF
