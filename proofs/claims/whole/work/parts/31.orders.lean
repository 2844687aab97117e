/-! Orders (17 .. 26): Wt worths, Pk packed, O order, kn known cars -/
def zord (h : nzH) (Wt Pk : Nat → Nat → Int32) (O : Nat → Int32) (kn : Int32) : Prop := (∃ F, zobj h 17 4 F ∧ F 0 = .ref 18 ∧ F 1 = .ref 22 ∧ F 2 = .ref 26 ∧ F 3 = .int kn) ∧ (∃ f, zgrd h 18 3 f ∧ ∀ i, i < 3 → f i = some (19 + i)) ∧ (∃ f, zgrd h 22 3 f ∧ ∀ i, i < 3 → f i = some (23 + i)) ∧ (∀ i, i < 3 → zarr h (19 + i) 64 (Wt i)) ∧ (∀ i, i < 3 → zarr h (23 + i) 64 (Pk i)) ∧ zarr h 26 6 O
theorem zord_sm {h h1 : nzH} {Wt Pk : Nat → Nat → Int32} {O : Nat → Int32} {kn : Int32} (D : zord h Wt Pk O kn) (s : zsm 17 27 h h1) : zord h1 Wt Pk O kn := by
  obtain ⟨⟨F, o, q⟩, ⟨f1, a1, b1⟩, ⟨f2, a2, b2⟩, p1, p2, p3⟩ := D
  exact ⟨⟨F, (s 17 (by omega) (by omega)).trans o, q⟩, ⟨f1, (s 18 (by omega) (by omega)).trans a1, b1⟩, ⟨f2, (s 22 (by omega) (by omega)).trans a2, b2⟩, fun i hi => (s (19 + i) (by omega) (by omega)).trans (p1 i hi), fun i hi => (s (23 + i) (by omega) (by omega)).trans (p2 i hi), (s 26 (by omega) (by omega)).trans p3⟩
theorem zbor : ∀ D, D < 64 → ∀ k, k < 6 → nI D ||| (1 <<< (nI k &&& 31)) = nI (D ||| 2 ^ k) ∧ (D ||| 2 ^ k) < 64 := by decide +kernel
theorem zpop_le : ∀ q, q < 64 → zpop q ≤ 6 := by decide +kernel
section NZO2
variable {d : Nat} {h : nzH} {Wt Pk : Nat → Nat → Int32} {O : Nat → Int32} {kn : Int32} {t : Nat} {c g : Nat → Int32}
theorem zord_W (D : zord h Wt Pk O kn) {k : Nat} (hk : k < 3) (w : Nat → Int32) : zord (nzset h (19 + k) (.inl (.int, 64, .inl w))) (va_up Wt k w) Pk O kn := by
  obtain ⟨⟨F, o, q⟩, ⟨f1, a1, b1⟩, ⟨f2, a2, b2⟩, p1, p2, p3⟩ := D
  refine ⟨⟨F, (zc_setN (by omega)).trans o, q⟩, ⟨f1, (zc_setN (by omega)).trans a1, b1⟩, ⟨f2, (zc_setN (by omega)).trans a2, b2⟩, fun i hi => ?_, fun i hi => (zc_setN (by omega)).trans (p2 i hi), (zc_setN (by omega)).trans p3⟩
  by_cases z : i = k
  · subst z
    rw [va_up_self]
    exact zc_setS _ _ _
  · rw [va_up_ne _ _ z]
    exact (zc_setN (by omega)).trans (p1 i hi)
theorem zord_P (D : zord h Wt Pk O kn) {k : Nat} (hk : k < 3) (w : Nat → Int32) : zord (nzset h (23 + k) (.inl (.int, 64, .inl w))) Wt (va_up Pk k w) O kn := by
  obtain ⟨⟨F, o, q⟩, ⟨f1, a1, b1⟩, ⟨f2, a2, b2⟩, p1, p2, p3⟩ := D
  refine ⟨⟨F, (zc_setN (by omega)).trans o, q⟩, ⟨f1, (zc_setN (by omega)).trans a1, b1⟩, ⟨f2, (zc_setN (by omega)).trans a2, b2⟩, fun i hi => (zc_setN (by omega)).trans (p1 i hi), fun i hi => ?_, (zc_setN (by omega)).trans p3⟩
  by_cases z : i = k
  · subst z
    rw [va_up_self]
    exact zc_setS _ _ _
  · rw [va_up_ne _ _ z]
    exact (zc_setN (by omega)).trans (p2 i hi)
theorem zord_O (D : zord h Wt Pk O kn) (w : Nat → Int32) : zord (nzset h 26 (.inl (.int, 6, .inl w))) Wt Pk w kn := by
  obtain ⟨⟨F, o, q⟩, ⟨f1, a1, b1⟩, ⟨f2, a2, b2⟩, p1, p2, p3⟩ := D
  exact ⟨⟨F, (zc_setN (by omega)).trans o, q⟩, ⟨f1, (zc_setN (by omega)).trans a1, b1⟩, ⟨f2, (zc_setN (by omega)).trans a2, b2⟩, fun i hi => (zc_setN (by omega)).trans (p1 i hi), fun i hi => (zc_setN (by omega)).trans (p2 i hi), zc_setS _ _ _⟩
theorem zord_K {F : Nat → Value} (D : zord h Wt Pk O kn) (o : zobj h 17 4 F) (v : Int32) : zord (nzset h 17 (.inr (4, va_up F 3 (.int v)))) Wt Pk O v := by
  obtain ⟨⟨F', o', e0, e1, e2, e3⟩, ⟨f1, a1, b1⟩, ⟨f2, a2, b2⟩, p1, p2, p3⟩ := D
  have : F = F' := by
    have := o.symm.trans o'
    simpa using this
  subst this
  exact ⟨⟨_, zc_setS _ _ _, by simp [va_up, e0], by simp [va_up, e1], by simp [va_up, e2], by simp [va_up]⟩, ⟨f1, (zc_setN (by omega)).trans a1, b1⟩, ⟨f2, (zc_setN (by omega)).trans a2, b2⟩, fun i hi => (zc_setN (by omega)).trans (p1 i hi), fun i hi => (zc_setN (by omega)).trans (p2 i hi), (zc_setN (by omega)).trans p3⟩
theorem zord_rows (D : zord h Wt Pk O kn) {k : Nat} (hk : k < 3) : nzgR h 17 4 0 = some 18 ∧ nzaR h 18 (nI k) = some (19 + k) ∧ nzgR h 17 4 1 = some 22 ∧ nzaR h 22 (nI k) = some (23 + k) ∧ nzgR h 17 4 2 = some 26 := by
  obtain ⟨⟨F, o, e0, e1, e2, e3⟩, ⟨f1, a1, b1⟩, ⟨f2, a2, b2⟩, p1, p2, p3⟩ := D
  exact ⟨zg_R o e0, za_Rn a1 hk (by decide) (b1 k hk), zg_R o e1, za_Rn a2 hk (by decide) (b2 k hk), zg_R o e2⟩
theorem jX4_forget (D : zord h Wt Pk O kn) (hd : 0 < d) : ∃ h1, nzxV d nX4_forget [.ref 17] h = some h1 ∧ zord h1 Wt Pk O 0 ∧ zfr 17 27 h h1 := by
  have o := D.1.choose_spec.1
  refine ⟨_, iX4_forget hd o ?_, zord_K D o 0, zfr_set _ _ (by decide) (by decide)⟩
  rw [eX4_forget_0, zp_of o, Option.bind_some]
theorem jX4_isInside (hd : 1 < d) {k q : Nat} (hk : k < 3) (hq : q < 64) : nzxI d nX4_isInside [.int (nI k), .int (nI q)] h = some (1, h) := by
  refine iX4_isInside (by omega) ?_
  rw [eX4_isInside_0, jX11_isWithin (by omega), show (2 : Int32) = nI 2 from rfl, zwithin (by omega) (by decide), Option.bind_some, if_neg (show ¬ (1 : Int32) = 0 by decide), jX11_isWithin (by omega), show (63 : Int32) = nI 63 from rfl, zwithin (by omega) (by decide), Option.bind_some, if_neg (show ¬ (1 : Int32) = 0 by decide)]
theorem jX4_worth (D : zord h Wt Pk O kn) (hd : 2 < d) {k q : Nat} (hk : k < 3) (hq : q < 64) : nzxI d nX4_worth [.ref 17, .int (nI k), .int (nI q)] h = some (Wt k q, h) := by
  have r := zord_rows D hk
  refine iX4_worth (by omega) D.1.choose_spec.1 ?_
  rw [eX4_worth_0, jX4_isInside (by omega) hk hq, Option.bind_some, if_neg (show ¬ (1 : Int32) = 0 by decide), r.1, Option.bind_some, r.2.1, Option.bind_some, za_In (D.2.2.2.1 k hk) hq (by decide), Option.bind_some]
theorem jX4_houseAt (D : zord h Wt Pk O kn) (hd : 2 < d) {k q i : Nat} (hk : k < 3) (hq : q < 64) (hi : i < zpop q) : nzxI d nX4_houseAt [.ref 17, .int (nI k), .int (nI q), .int (nI i)] h = some ((Pk k q >>> ((3 * nI (zpop q - 1 - i)) &&& 31)) &&& 7, h) := by
  have r := zord_rows D hk
  have hp := zpop_le q hq
  have e : nI (zpop q) - 1 - nI i = nI (zpop q - 1 - i) := by
    rw [show nI (zpop q) - 1 = nI (zpop q - 1) from pk_sub (b := 1) (by omega), pk_sub (by omega)]
  refine iX4_houseAt (by omega) D.1.choose_spec.1 ?_
  rw [eX4_houseAt_0, jJ6_bitCount (by omega) hq, Option.bind_some, jX4_isInside (by omega) hk hq, Option.bind_some, if_neg (show ¬ (1 : Int32) = 0 by decide), if_neg (nI_pos (by omega)), e, if_neg (nI_pos (by omega)), r.2.2.1, Option.bind_some, r.2.2.2.1, Option.bind_some, za_In (D.2.2.2.2.1 k hk) hq (by decide), Option.bind_some]
def zpkS (O : Nat → Int32) (i : Nat) (a : Int32) : Int32 := (a <<< (3 &&& 31)) ||| O i
/-- a found order is noted: s = (order, worths, packed) -/
abbrev zos : Type := (Nat → Int32) × (Nat → Int32) × (Nat → Int32)
def zoN (q : Nat) (w : Int32) (s : zos) : zos := if w < s.2.1 q then (s.1, upd s.2.1 q w, upd s.2.2 q (zit (zpkS s.1) 0 (zpop q) 0)) else s
theorem jX4_note19 (D : zord h Wt Pk O kn) (hd : 0 < d) {k q : Nat} (hk : k < 3) (hq : q < 64) (w : Int32) : ∀ (j i : Nat) (a : Int32), i + j = zpop q → nzr d nX4_note 19 [some (.ref 17), some (.int (nI k)), some (.int (nI q)), some (.int w), some (.int a), some (.int (nI i))] [] h = some (none, nzset (nzset h (19 + k) (.inl (.int, 64, .inl (upd (Wt k) q w)))) (23 + k) (.inl (.int, 64, .inl (upd (Pk k) q (zit (zpkS O) i j a))))) := by
  have r := zord_rows D hk
  have hp := zpop_le q hq
  intro j
  induction j with
  | zero =>
    intro i a hi
    have D2 := zord_W D hk (upd (Wt k) q w)
    have r2 := zord_rows D2 hk
    rw [eX4_note_19, jJ6_bitCount hd hq, Option.bind_some, if_pos (nI_le (by omega) (by omega)), r.1, Option.bind_some, r.2.1, Option.bind_some, zs_In (D.2.2.2.1 k hk) hq (by decide), Option.bind_some, r2.2.2.1, Option.bind_some, r2.2.2.2.1, Option.bind_some, zs_In (D2.2.2.2.2.1 k hk) hq (by decide), Option.bind_some]
    rfl
  | succ j ih =>
    intro i a hi
    rw [eX4_note_19, jJ6_bitCount hd hq, Option.bind_some, if_neg (nI_ge (by omega) (by omega)), r.2.2.2.2, Option.bind_some, za_In D.2.2.2.2.2 (show i < 6 by omega) (by decide), Option.bind_some, nI_1]
    exact ih (i + 1) _ (by omega)
theorem va_up_same {α : Type} (f : Nat → α) (k : Nat) : va_up f k (f k) = f := by
  funext i
  by_cases z : i = k
  · rw [z, va_up_self]
  · rw [va_up_ne _ _ z]
theorem va_up_up {α : Type} (f : Nat → α) (k : Nat) (a b : α) : va_up (va_up f k a) k b = va_up f k b := by
  funext i
  by_cases z : i = k
  · rw [z, va_up_self, va_up_self]
  · rw [va_up_ne _ _ z, va_up_ne _ _ z, va_up_ne _ _ z]
/-- the Orders with a car's rows told apart -/
def zorK (h : nzH) (k : Nat) (s : zos) (Wt Pk : Nat → Nat → Int32) (kn : Int32) : Prop := zord h (va_up Wt k s.2.1) (va_up Pk k s.2.2) s.1 kn
theorem jX4_note {s : zos} {k q : Nat} (D : zorK h k s Wt Pk kn) (hd : 1 < d) (hk : k < 3) (hq : q < 64) (w : Int32) : ∃ h1, nzxV d nX4_note [.ref 17, .int (nI k), .int (nI q), .int w] h = some h1 ∧ zorK h1 k (zoN q w s) Wt Pk kn ∧ zfr 17 27 h h1 := by
  have r := zord_rows D hk
  have e1 := D.2.2.2.1 k hk
  have e2 := D.2.2.2.2.1 k hk
  rw [va_up_self] at e1 e2
  by_cases z : w < s.2.1 q
  · have q1 := jX4_note19 (d := d - 1) D (by omega) hk hq w (zpop q) 0 0 (by omega)
    rw [va_up_self, va_up_self] at q1
    refine ⟨nzset (nzset h (19 + k) (.inl (.int, 64, .inl (upd s.2.1 q w)))) (23 + k) (.inl (.int, 64, .inl (upd s.2.2 q (zit (zpkS s.1) 0 (zpop q) 0)))), iX4_note (by omega) D.1.choose_spec.1 ?_, ?_, zfr_tr (zfr_set _ _ (by omega) (by omega)) (zfr_set _ _ (by omega) (by omega))⟩
    · rw [eX4_note_0, r.1, Option.bind_some, r.2.1, Option.bind_some, za_In e1 hq (by decide), Option.bind_some, if_pos z]
      exact q1
    · have := zord_P (zord_W D hk (upd s.2.1 q w)) hk (upd s.2.2 q (zit (zpkS s.1) 0 (zpop q) 0))
      rw [va_up_up, va_up_up] at this
      rw [zoN, if_pos z]
      exact this
  · refine ⟨h, iX4_note (by omega) D.1.choose_spec.1 ?_, by rw [zoN, if_neg z]; exact D, zfr_rfl _ _ _⟩
    rw [eX4_note_0, r.1, Option.bind_some, r.2.1, Option.bind_some, za_In e1 hq (by decide), Option.bind_some, if_neg z]
/-- all orders of a car, the houses' numbers first; r more houses are held -/
def zoE (c g : Nat → Int32) (nf n k : Nat) : Nat → Nat → Nat → Int32 → Int32 → zos → zos
  | 0, _, _, _, _, s => s
  | r + 1, dep, done, lv, bad, s0 => zit (fun x s => if (done ||| 2 ^ x) = done then s else
      zoE c g nf n k r (dep + 1) (done ||| 2 ^ x) (lv + zway c g nf (if dep = 0 then zget c g 0 (zget c g 4 (nI k) 0) 0 else zget c g 3 (s0.1 (dep - 1)) 0) (zget c g 3 (nI x) 0) + zstay c g (nI k) (nI x)) (bad + (if zbad c g (nI k) (lv + zway c g nf (if dep = 0 then zget c g 0 (zget c g 4 (nI k) 0) 0 else zget c g 3 (s0.1 (dep - 1)) 0) (zget c g 3 (nI x) 0)) then 1 else 0))
        (zoN (done ||| 2 ^ x) ((bad + (if zbad c g (nI k) (lv + zway c g nf (if dep = 0 then zget c g 0 (zget c g 4 (nI k) 0) 0 else zget c g 3 (s0.1 (dep - 1)) 0) (zget c g 3 (nI x) 0)) then 1 else 0)) * 10000 + (lv + zway c g nf (if dep = 0 then zget c g 0 (zget c g 4 (nI k) 0) 0 else zget c g 3 (s0.1 (dep - 1)) 0) (zget c g 3 (nI x) 0))) (upd s.1 dep (nI x), s.2))) 0 n s0
theorem jX4_extend (ht : t + 3 ≤ 17 ∨ 27 ≤ t) {nf n k H : Nat} (hnf : nf ≤ 6) (e5 : c 5 = nI nf) (hn : n ≤ 6) (en : c 3 = nI n) (hk : k < 3) (hH : H ≤ 6) (eH : zget c g 4 (nI k) 2 = nI H) : ∀ (r d dep done : Nat) (lv bad : Int32) (h : nzH) (s : zos), r + 5 < d → dep + r = H → done < 64 → zorK h k s Wt Pk kn → zday h t c g → ∃ h1, nzxV d nX4_extend [.ref 17, .ref t, .int (nI k), .int (nI dep), .int (nI done), .int lv, .int bad] h = some h1 ∧ zorK h1 k (zoE c g nf n k r dep done lv bad s) Wt Pk kn ∧ zday h1 t c g ∧ zfr 17 27 h h1 := by
  have g2 : zrow c 3 = nI n := (zrow_n c (s := 3) (by decide)).trans en
  have g3 : (if nI n < 6 then nI n else 6) = nI n := by
    by_cases z : n = 6
    · subst z; decide
    · rw [if_pos (show nI n < 6 from nI_lt (b := 6) (by omega) (by decide))]
  have g4 : (if nI H < 6 then nI H else 6) = nI H := by
    by_cases z : H = 6
    · subst z; decide
    · rw [if_pos (show nI H < 6 from nI_lt (b := 6) (by omega) (by decide))]
  intro r
  induction r with
  | zero =>
    intro d dep done lv bad h s hd hdep hdone D E
    refine ⟨h, iX4_extend (by omega) ?_, D, E, zfr_rfl _ _ _⟩
    rw [eX4_extend_0, jX0_get E (by omega), Option.bind_some, eH, g4, if_neg (nI_nlt (by omega) (by omega))]
  | succ r ih =>
    intro d dep done lv bad h s0 hd hdep hdone D E
    have loop : ∀ (pl : Int32), pl = (if dep = 0 then zget c g 0 (zget c g 4 (nI k) 0) 0 else zget c g 3 (s0.1 (dep - 1)) 0) → ∀ (j i : Nat) (h : nzH) (s : zos) (u9 u10 u11 u12 : Option Value), i + j = n → zorK h k s Wt Pk kn → zday h t c g → ∃ h1, nzr (d - 1) nX4_extend 49 [some (.ref 17), some (.ref t), some (.int (nI k)), some (.int (nI dep)), some (.int (nI done)), some (.int lv), some (.int bad), some (.int pl), some (.int (nI i)), u9, u10, u11, u12] [] h = some (none, h1) ∧ zorK h1 k (zit (fun x s => if (done ||| 2 ^ x) = done then s else
      zoE c g nf n k r (dep + 1) (done ||| 2 ^ x) (lv + zway c g nf pl (zget c g 3 (nI x) 0) + zstay c g (nI k) (nI x)) (bad + (if zbad c g (nI k) (lv + zway c g nf pl (zget c g 3 (nI x) 0)) then 1 else 0))
        (zoN (done ||| 2 ^ x) ((bad + (if zbad c g (nI k) (lv + zway c g nf pl (zget c g 3 (nI x) 0)) then 1 else 0)) * 10000 + (lv + zway c g nf pl (zget c g 3 (nI x) 0))) (upd s.1 dep (nI x), s.2))) i j s) Wt Pk kn ∧ zday h1 t c g ∧ zfr 17 27 h h1 := by
      intro pl hpl j
      induction j with
      | zero =>
        intro i h s u9 u10 u11 u12 hi D E
        refine ⟨h, ?_, D, E, zfr_rfl _ _ _⟩
        rw [eX4_extend_49, jX0_rows E (by omega), Option.bind_some, g2, g3, if_pos (nI_le (by omega) (by omega))]
      | succ j ihj =>
        intro i h s u9 u10 u11 u12 hi D E
        have hb := zbor done hdone i (by omega)
        rw [eX4_extend_49, jX0_rows E (by omega), Option.bind_some, g2, g3, if_neg (nI_ge (by omega) (by omega)), zit, hb.1]
        by_cases z : (done ||| 2 ^ i) = done
        · rw [if_pos z, if_pos (show nI (done ||| 2 ^ i) = nI done by rw [z]), eX4_extend_170, nI_1]
          exact ihj (i + 1) h s _ _ _ _ (by omega) D E
        · rw [if_neg z, if_neg (fun y => z ((nI_eq (by omega) (by omega)).mp y))]
          have D2 : zorK (nzset h 26 (.inl (.int, 6, .inl (upd s.1 dep (nI i))))) k (upd s.1 dep (nI i), s.2) Wt Pk kn := zord_O D _
          have fr : zfr 17 27 h (nzset h 26 (.inl (.int, 6, .inl (upd s.1 dep (nI i))))) := zfr_set _ _ (by decide) (by decide)
          have E2 := zday_sm E (zfr_sm fr (lo' := t) (hi' := t + 3) (by omega))
          obtain ⟨h1, q1, q2, q3⟩ := jX4_note (d := d - 1) D2 (by omega) hk hb.2 ((bad + (if zbad c g (nI k) (lv + zway c g nf pl (zget c g 3 (nI i) 0)) then 1 else 0)) * 10000 + (lv + zway c g nf pl (zget c g 3 (nI i) 0)))
          have E3 := zday_sm E2 (zfr_sm q3 (lo' := t) (hi' := t + 3) (by omega))
          obtain ⟨h2, w1, w2, w3, w4⟩ := ih (d - 1) (dep + 1) (done ||| 2 ^ i) (lv + zway c g nf pl (zget c g 3 (nI i) 0) + zstay c g (nI k) (nI i)) (bad + (if zbad c g (nI k) (lv + zway c g nf pl (zget c g 3 (nI i) 0)) then 1 else 0)) h1 _ (by omega) (by omega) hb.2 q2 E3
          obtain ⟨h3, y1, y2, y3, y4⟩ := ihj (i + 1) h2 _ (some (.int (nI (done ||| 2 ^ i)))) (some (.int (lv + zway c g nf pl (zget c g 3 (nI i) 0)))) (some (.int (bad + (if zbad c g (nI k) (lv + zway c g nf pl (zget c g 3 (nI i) 0)) then 1 else 0)))) (some (.int (lv + zway c g nf pl (zget c g 3 (nI i) 0) + zstay c g (nI k) (nI i)))) (by omega) w2 w3
          refine ⟨h3, ?_, y2, y3, zfr_tr fr (zfr_tr q3 (zfr_tr w4 y4))⟩
          have r5 := (zord_rows D hk).2.2.2.2
          rw [jX0_get E (by omega), Option.bind_some, jX0_wayBetween E (by omega) hnf e5, Option.bind_some, jX0_isBadAt E (by omega), Option.bind_some]
          have key : ∀ b01 : Int32, b01 = (if zbad c g (nI k) (lv + zway c g nf pl (zget c g 3 (nI i) 0)) then 1 else 0) → nzr (d - 1) nX4_extend 116 [some (.ref 17), some (.ref t), some (.int (nI k)), some (.int (nI dep)), some (.int (nI done)), some (.int lv), some (.int bad), some (.int pl), some (.int (nI i)), some (.int (nI (done ||| 2 ^ i))), some (.int (lv + zway c g nf pl (zget c g 3 (nI i) 0))), u11, u12] [.int b01, .int bad] h = some (none, h3) := by
            intro b01 hb01
            subst hb01
            rw [eX4_extend_116, jX0_stayWithoutTea E (by omega), Option.bind_some, r5, Option.bind_some, zs_In D.2.2.2.2.2 (show dep < 6 by omega) (by decide), Option.bind_some, q1, Option.bind_some, nI_1, w1, Option.bind_some, eX4_extend_170, nI_1]
            exact y1
          by_cases y : zbad c g (nI k) (lv + zway c g nf pl (zget c g 3 (nI i) 0)) = true
          · simp only [y, if_true, show ¬ (1 : Int32) = 0 by decide, if_false]
            exact key 1 (by simp only [y, if_true])
          · simp only [y, if_false, if_true]
            exact key 0 (by rw [if_neg y])
    obtain ⟨h1, q1, q2, q3, q4⟩ := loop _ rfl n 0 h s0 none none none none (by omega) D E
    refine ⟨h1, iX4_extend (by omega) ?_, q2, q3, q4⟩
    rw [eX4_extend_0, jX0_get E (by omega), Option.bind_some, eH, g4, if_pos (nI_lt (by omega) (by omega))]
    by_cases z : dep = 0
    · rw [if_pos z] at q1
      rw [if_neg (show ¬ (1 : Int32) ≤ nI dep by rw [z]; decide), jX0_startPlace E (by omega), Option.bind_some, eX4_extend_44]
      exact q1
    · rw [if_neg z] at q1
      rw [if_pos (show (1 : Int32) ≤ nI dep from nI_le (a := 1) (by omega) (by omega)), (zord_rows D hk).2.2.2.2, Option.bind_some, show nI dep - 1 = nI (dep - 1) from pk_sub (b := 1) (by omega), za_In D.2.2.2.2.2 (show dep - 1 < 6 by omega) (by decide), Option.bind_some, jX0_get E (by omega), Option.bind_some, eX4_extend_44]
      exact q1
/-- a car's orders learnt -/
def zolr (c g : Nat → Int32) (nf n k H : Nat) (O : Nat → Int32) (w p : Nat → Int32) : zos := zoE c g nf n k H 0 0 (zget c g 4 (nI k) 1) 0 (O, upd (fun i => if i < 64 then 1000000000 else w i) 0 (zget c g 4 (nI k) 1), p)
theorem jX4_learn (D : zord h Wt Pk O kn) (E : zday h t c g) (ht : t + 3 ≤ 17 ∨ 27 ≤ t) (hd : 12 < d) {nf n k H : Nat} (hnf : nf ≤ 6) (e5 : c 5 = nI nf) (hn : n ≤ 6) (en : c 3 = nI n) (hk : k < 3) (hH : H ≤ 6) (eH : zget c g 4 (nI k) 2 = nI H) : ∃ h1, nzxV d nX4_learn [.ref 17, .ref t, .int (nI k)] h = some h1 ∧ zday h1 t c g ∧ zfr 17 27 h h1 ∧ (if kn &&& (1 <<< (nI k &&& 31)) = 0 then zorK h1 k (zolr c g nf n k H O (Wt k) (Pk k)) Wt Pk (kn ||| (1 <<< (nI k &&& 31))) else zord h1 Wt Pk O kn) := by
  obtain ⟨F, o, e0, e1, e2, e3⟩ := D.1
  have ins := jX4_isInside (d := d - 1) (h := h) (by omega) hk (q := 0) (by decide)
  rw [nI_0] at ins
  by_cases z : kn &&& (1 <<< (nI k &&& 31)) = 0
  · simp only [if_pos z]
    have D2 := zord_K D o (kn ||| (1 <<< (nI k &&& 31)))
    have fr2 : zfr 17 27 h (nzset h 17 (.inr (4, va_up F 3 (.int (kn ||| (1 <<< (nI k &&& 31))))))) := zfr_set _ _ (by decide) (by decide)
    have r2 := zord_rows D2 hk
    obtain ⟨h3, q1, q2, q3⟩ := jJ7_fill (v := 1000000000) (d := d - 1) (by omega) (by decide) (D2.2.2.2.1 k hk)
    have D3 : zord h3 (va_up Wt k (fun i => if i < 64 then 1000000000 else Wt k i)) Pk O (kn ||| (1 <<< (nI k &&& 31))) := by
      obtain ⟨⟨F, o, q⟩, ⟨f1, a1, b1⟩, ⟨f2, a2, b2⟩, p1, p2, p3⟩ := D2
      refine ⟨⟨F, (q3.2.2.2 17 (by omega)).trans o, q⟩, ⟨f1, (q3.2.2.2 18 (by omega)).trans a1, b1⟩, ⟨f2, (q3.2.2.2 22 (by omega)).trans a2, b2⟩, fun i hi => ?_, fun i hi => (q3.2.2.2 (23 + i) (by omega)).trans (p2 i hi), (q3.2.2.2 26 (by omega)).trans p3⟩
      by_cases y : i = k
      · subst y
        rw [va_up_self]
        exact q2
      · rw [va_up_ne _ _ y]
        exact (q3.2.2.2 (19 + i) (by omega)).trans (p1 i hi)
    have r3 := zord_rows D3 hk
    have w3 := D3.2.2.2.1 k hk
    rw [va_up_self] at w3
    have D4 : zorK (nzset h3 (19 + k) (.inl (.int, 64, .inl (upd (fun i => if i < 64 then 1000000000 else Wt k i) 0 (zget c g 4 (nI k) 1))))) k (O, upd (fun i => if i < 64 then 1000000000 else Wt k i) 0 (zget c g 4 (nI k) 1), Pk k) Wt Pk (kn ||| (1 <<< (nI k &&& 31))) := by
      have := zord_W D3 hk (upd (fun i => if i < 64 then 1000000000 else Wt k i) 0 (zget c g 4 (nI k) 1))
      rw [va_up_up] at this
      rw [zorK, va_up_same]
      exact this
    have fr4 : zfr 17 27 h (nzset h3 (19 + k) (.inl (.int, 64, .inl (upd (fun i => if i < 64 then 1000000000 else Wt k i) 0 (zget c g 4 (nI k) 1))))) := zfr_tr fr2 (zfr_tr (zfr_wk q3 (by omega) (by omega)) (zfr_set _ _ (by omega) (by omega)))
    have E4 := zday_sm E (zfr_sm fr4 (lo' := t) (hi' := t + 3) (by omega))
    obtain ⟨h5, y1, y2, y3, y4⟩ := jX4_extend ht hnf e5 hn en hk hH eH H (d - 1) 0 0 (zget c g 4 (nI k) 1) 0 _ _ (by omega) (by omega) (by decide) D4 E4
    refine ⟨h5, iX4_learn (by omega) o ?_, y3, zfr_tr fr4 y4, y2⟩
    rw [nI_0] at y1
    have s3 := zs_In (x := zget c g 4 (nI k) 1) (i := 0) w3 (by decide) (by decide)
    rw [nI_0] at s3
    rw [eX4_learn_0, ins, Option.bind_some, if_neg (show ¬ (1 : Int32) = 0 by decide), zg_I o e3, Option.bind_some, if_pos z, jX0_get E (by omega), Option.bind_some, zg_I o e3, Option.bind_some, zp_of o, Option.bind_some, r2.1, Option.bind_some, r2.2.1, Option.bind_some, q1, Option.bind_some, r3.1, Option.bind_some, r3.2.1, Option.bind_some, s3, Option.bind_some, y1, Option.bind_some]
  · simp only [if_neg z]
    refine ⟨h, iX4_learn (by omega) o ?_, E, zfr_rfl _ _ _, D⟩
    rw [eX4_learn_0, ins, Option.bind_some, if_neg (show ¬ (1 : Int32) = 0 by decide), zg_I o e3, Option.bind_some, if_neg z]
end NZO2
