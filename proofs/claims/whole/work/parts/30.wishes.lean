/-! Wishes (53 .. 56): W wishers by day, L left by helper, P helpers by day -/
def zwis (h : nzH) (W L P : Nat → Int32) (told : Int32) : Prop := (∃ F, zobj h 53 10 F ∧ F 0 = .ref 54 ∧ F 1 = .ref 55 ∧ F 2 = .ref 56 ∧ F 3 = .int told) ∧ zarr h 54 7 W ∧ zarr h 55 5 L ∧ zarr h 56 7 P
theorem zwis_sm {h h1 : nzH} {W L P : Nat → Int32} {told : Int32} (D : zwis h W L P told) (s : zsm 53 57 h h1) : zwis h1 W L P told := by
  obtain ⟨⟨F, o, q⟩, p1, p2, p3⟩ := D
  exact ⟨⟨F, (s 53 (by omega) (by omega)).trans o, q⟩, (s 54 (by omega) (by omega)).trans p1, (s 55 (by omega) (by omega)).trans p2, (s 56 (by omega) (by omega)).trans p3⟩
section NZV
variable {d : Nat} {h : nzH} {W L P : Nat → Int32} {told : Int32} {t : Nat} {c g : Nat → Int32}
theorem zwis_W (D : zwis h W L P told) (W' : Nat → Int32) : zwis (nzset h 54 (.inl (.int, 7, .inl W'))) W' L P told := by
  obtain ⟨⟨F, o, q⟩, p1, p2, p3⟩ := D
  exact ⟨⟨F, (zc_setN (by decide)).trans o, q⟩, zc_setS _ _ _, (zc_setN (by decide)).trans p2, (zc_setN (by decide)).trans p3⟩
theorem zwis_L (D : zwis h W L P told) (L' : Nat → Int32) : zwis (nzset h 55 (.inl (.int, 5, .inl L'))) W L' P told := by
  obtain ⟨⟨F, o, q⟩, p1, p2, p3⟩ := D
  exact ⟨⟨F, (zc_setN (by decide)).trans o, q⟩, (zc_setN (by decide)).trans p1, zc_setS _ _ _, (zc_setN (by decide)).trans p3⟩
theorem zwis_P (D : zwis h W L P told) (P' : Nat → Int32) : zwis (nzset h 56 (.inl (.int, 7, .inl P'))) W L P' told := by
  obtain ⟨⟨F, o, q⟩, p1, p2, p3⟩ := D
  exact ⟨⟨F, (zc_setN (by decide)).trans o, q⟩, (zc_setN (by decide)).trans p1, (zc_setN (by decide)).trans p2, zc_setS _ _ _⟩
theorem zwis_T {F : Nat → Value} (D : zwis h W L P told) (o : zobj h 53 10 F) (v : Int32) : zwis (nzset h 53 (.inr (10, va_up F 3 (.int v)))) W L P v := by
  obtain ⟨⟨F', o', e0, e1, e2, e3⟩, p1, p2, p3⟩ := D
  have : F = F' := by
    have := o.symm.trans o'
    simpa using this
  subst this
  exact ⟨⟨_, zc_setS _ _ _, by simp [va_up, e0], by simp [va_up, e1], by simp [va_up, e2], by simp [va_up]⟩, (zc_setN (by decide)).trans p1, (zc_setN (by decide)).trans p2, (zc_setN (by decide)).trans p3⟩
theorem jX10_forget (D : zwis h W L P told) (hd : 0 < d) : ∃ h1, nzxV d nX10_forget [.ref 53] h = some h1 ∧ zwis h1 W L P 0 ∧ zfr 53 57 h h1 := by
  have o := D.1.choose_spec.1
  refine ⟨_, iX10_forget hd o ?_, zwis_T D o 0, zfr_set _ _ (by decide) (by decide)⟩
  rw [eX10_forget_0, zp_of o, Option.bind_some]
theorem jX10_helperOf (D : zwis h W L P told) (hd : 0 < d) (x : Int32) : nzxI d nX10_helperOf [.ref 53, .int x] h = some (if told = 0 then -1 else if x < 0 then -1 else if 7 ≤ x then -1 else P x.toNatClampNeg, h) := by
  obtain ⟨⟨F, o, e0, e1, e2, e3⟩, p1, p2, p3⟩ := D
  refine iX10_helperOf hd o ?_
  rw [eX10_helperOf_0, zg_I o e3, Option.bind_some, eX10_helperOf_26]
  split
  · rfl
  · split
    · rfl
    · split
      · rfl
      · rename_i z0 z1 z2
        obtain ⟨j, hj, rfl⟩ := z_rng (n := 7) (by decide) z1 z2
        rw [zg_R o e2, Option.bind_some, za_In p3 hj (by decide), nI_clamp (by omega)]
        rfl
/-- a cut's bound -/
def zcutH (L : Nat → Int32) (gr : Int32) (i : Nat) (a : Int32) : Int32 := a + (if gr &&& (1 <<< (nI i &&& 31)) = 0 then 0 else L i)
def zcutD (W : Nat → Int32) (gr : Int32) (i : Nat) (a : Int32) : Int32 := a + (if W i &&& (gr ^^^ (-1)) = 0 then 0 else 1)
def zcut (W L : Nat → Int32) (f : Nat) (gr : Int32) : Int32 := zit (zcutD W gr) f (7 - f) (zit (zcutH L gr) 0 5 0)
def zmostS (W L : Nat → Int32) (f : Nat) (gr : Nat) (a : Int32) : Int32 := if zcut W L f (nI gr) < a then zcut W L f (nI gr) else a
def zmost (W L : Nat → Int32) (f : Nat) : Int32 := zit (zmostS W L f) 0 32 7
theorem jX10_mf61 (D : zwis h W L P told) (x l gr : Int32) : ∀ (j i : Nat) (a : Int32), i + j = 7 → nzr d nX10_mostFrom 61 [some (.ref 53), some (.int x), some (.int l), some (.int gr), some (.int a), some (.int (nI i))] [] h = nzr d nX10_mostFrom 5 [some (.ref 53), some (.int x), some (.int (if zit (zcutD W gr) i j a < l then zit (zcutD W gr) i j a else l)), some (.int (gr + 1)), some (.int (zit (zcutD W gr) i j a)), some (.int (nI 7))] [] h := by
  obtain ⟨⟨F, o, e0, e1, e2, e3⟩, p1, p2, p3⟩ := D
  intro j
  induction j with
  | zero =>
    intro i a hi
    rw [eX10_mostFrom_61, if_pos (show 7 ≤ nI i from nI_le (a := 7) (by omega) (by omega)), show i = 7 by omega]
    rfl
  | succ j ih =>
    intro i a hi
    rw [eX10_mostFrom_61, if_neg (show ¬ 7 ≤ nI i from nI_ge (b := 7) (by omega) (by decide)), zg_R o e0, Option.bind_some, za_In p1 (show i < 7 by omega) (by decide), Option.bind_some]
    simp only [eX10_mostFrom_89, nI_1]
    rw [zit, zcutD]
    split <;> exact ih (i + 1) _ (by omega)
theorem jX10_mf17 (D : zwis h W L P told) {f : Nat} (hf : f ≤ 7) (l gr : Int32) : ∀ (j i : Nat) (a : Int32), i + j = 5 → nzr d nX10_mostFrom 17 [some (.ref 53), some (.int (nI f)), some (.int l), some (.int gr), some (.int a), some (.int (nI i))] [] h = nzr d nX10_mostFrom 5 [some (.ref 53), some (.int (nI f)), some (.int (if zit (zcutD W gr) f (7 - f) (zit (zcutH L gr) i j a) < l then zit (zcutD W gr) f (7 - f) (zit (zcutH L gr) i j a) else l)), some (.int (gr + 1)), some (.int (zit (zcutD W gr) f (7 - f) (zit (zcutH L gr) i j a))), some (.int (nI 7))] [] h := by
  have D' := D
  obtain ⟨⟨F, o, e0, e1, e2, e3⟩, p1, p2, p3⟩ := D
  have g0 : (if 0 < nI f then nI f else 0) = nI f := by
    by_cases z : f = 0
    · subst z; decide
    · rw [if_pos (show 0 < nI f from nI_lt (a := 0) (by omega) (by omega))]
  intro j
  induction j with
  | zero =>
    intro i a hi
    rw [eX10_mostFrom_17, if_pos (show 5 ≤ nI i from nI_le (a := 5) (by omega) (by omega)), g0]
    exact jX10_mf61 D' _ _ _ (7 - f) f a (by omega)
  | succ j ih =>
    intro i a hi
    rw [eX10_mostFrom_17, if_neg (show ¬ 5 ≤ nI i from nI_ge (b := 5) (by omega) (by decide)), zg_R o e1, Option.bind_some, za_In p2 (show i < 5 by omega) (by decide), Option.bind_some]
    simp only [eX10_mostFrom_45, nI_1]
    rw [zit, zcutH]
    split <;> exact ih (i + 1) _ (by omega)
theorem jX10_mf5 (D : zwis h W L P told) {f : Nat} (hf : f ≤ 7) : ∀ (j i : Nat) (a : Int32) (u v : Option Value), i + j = 32 → nzr d nX10_mostFrom 5 [some (.ref 53), some (.int (nI f)), some (.int a), some (.int (nI i)), u, v] [] h = some (some (.int (zit (zmostS W L f) i j a)), h) := by
  intro j
  induction j with
  | zero =>
    intro i a u v hi
    rw [eX10_mostFrom_5, if_pos (show 32 ≤ nI i from nI_le (a := 32) (by omega) (by omega))]
    rfl
  | succ j ih =>
    intro i a u v hi
    rw [eX10_mostFrom_5, if_neg (show ¬ 32 ≤ nI i from nI_ge (b := 32) (by omega) (by decide))]
    refine (jX10_mf17 D hf a (nI i) 5 0 0 (by omega)).trans ?_
    rw [nI_1, ih (i + 1) _ _ _ (by omega)]
    rfl
theorem jX10_mostFrom (D : zwis h W L P told) (hd : 0 < d) {f : Nat} (hf : f ≤ 7) : nzxI d nX10_mostFrom [.ref 53, .int (nI f)] h = some (zmost W L f, h) := by
  refine iX10_mostFrom (by omega) D.1.choose_spec.1 ?_
  rw [eX10_mostFrom_0]
  exact jX10_mf5 D hf 32 0 7 none none (by omega)
def zcapS (c g : Nat → Int32) (cap : Int32) (i : Nat) (L : Nat → Int32) : Nat → Int32 := upd L i (if zget c g 7 (nI i) 1 < cap then zget c g 7 (nI i) 1 else cap)
def zcap (c g : Nat → Int32) (cap : Int32) (L : Nat → Int32) : Nat → Int32 := zit (zcapS c g cap) 0 5 L
theorem jX10_cap2 (ht : t + 3 ≤ 53 ∨ 57 ≤ t) (hd : 1 < d) (cap : Int32) : ∀ (j i : Nat) (h : nzH) (L : Nat → Int32), i + j = 5 → zwis h W L P told → zday h t c g → ∃ h1, nzr d nX10_capAt 2 [some (.ref 53), some (.ref t), some (.int cap), some (.int (nI i))] [] h = some (none, h1) ∧ zwis h1 W (zit (zcapS c g cap) i j L) P told ∧ zday h1 t c g ∧ zfr 53 57 h h1 := by
  intro j
  induction j with
  | zero =>
    intro i h L hi D E
    refine ⟨h, ?_, D, E, zfr_rfl _ _ _⟩
    rw [eX10_capAt_2, if_pos (show 5 ≤ nI i from nI_le (a := 5) (by omega) (by omega))]
  | succ j ih =>
    intro i h L hi D E
    have D2 := zwis_L D (zcapS c g cap i L)
    have fr : zfr 53 57 h (nzset h 55 (.inl (.int, 5, .inl (zcapS c g cap i L)))) := zfr_set _ _ (by decide) (by decide)
    obtain ⟨⟨F, o, e0, e1, e2, e3⟩, p1, p2, p3⟩ := D
    obtain ⟨h1, q1, q2, q3, q4⟩ := ih (i + 1) _ _ (by omega) D2 (zday_sm E (zfr_sm fr (by omega)))
    refine ⟨h1, ?_, q2, q3, zfr_tr fr q4⟩
    rw [eX10_capAt_2, if_neg (show ¬ 5 ≤ nI i from nI_ge (b := 5) (by omega) (by decide)), zg_R o e1, Option.bind_some, jX0_get E hd, Option.bind_some, zs_In p2 (show i < 5 by omega) (by decide), Option.bind_some, nI_1]
    exact q1
theorem jX10_capAt (D : zwis h W L P told) (E : zday h t c g) (ht : t + 3 ≤ 53 ∨ 57 ≤ t) (hd : 2 < d) (cap : Int32) : ∃ h1, nzxV d nX10_capAt [.ref 53, .ref t, .int cap] h = some h1 ∧ zwis h1 W (zcap c g cap L) P told ∧ zday h1 t c g ∧ zfr 53 57 h h1 := by
  obtain ⟨h1, q1, q2⟩ := jX10_cap2 (d := d - 1) ht (by omega) cap 5 0 h L (by omega) D E
  refine ⟨h1, iX10_capAt (by omega) D.1.choose_spec.1 ?_, q2⟩
  rw [eX10_capAt_0]
  exact q1
/-- the caps tried: what is left to each helper -/
def zcff (c g W : Nat → Int32) (filled : Int32) : Nat → Nat → (Nat → Int32) → (Nat → Int32)
  | 0, _, L => zcap c g 7 L
  | j + 1, i, L => if zmost W (zcap c g (nI i) L) 0 = filled then zcap c g (nI i) L else zcff c g W filled j (i + 1) (zcap c g (nI i) L)
theorem jX10_cff15 (ht : t + 3 ≤ 53 ∨ 57 ≤ t) (hd : 2 < d) (filled : Int32) : ∀ (j i : Nat) (h : nzH) (L : Nat → Int32), i + j = 7 → zwis h W L P told → zday h t c g → ∃ h1, nzr d nX10_capForFewest 15 [some (.ref 53), some (.ref t), some (.int filled), some (.int (nI i))] [] h = some (some (.int filled), h1) ∧ zwis h1 W (zcff c g W filled j i L) P told ∧ zday h1 t c g ∧ zfr 53 57 h h1 := by
  intro j
  induction j with
  | zero =>
    intro i h L hi D E
    obtain ⟨h1, q1, q2, q3, q4⟩ := jX10_capAt D E ht hd 7
    refine ⟨h1, ?_, q2, q3, q4⟩
    rw [eX10_capForFewest_15, if_pos (show 7 ≤ nI i from nI_le (a := 7) (by omega) (by omega)), q1, Option.bind_some]
  | succ j ih =>
    intro i h L hi D E
    obtain ⟨h1, q1, q2, q3, q4⟩ := jX10_capAt D E ht hd (nI i)
    have m0 := jX10_mostFrom (d := d) q2 (by omega) (f := 0) (by omega)
    rw [nI_0] at m0
    rw [eX10_capForFewest_15, if_neg (show ¬ 7 ≤ nI i from nI_ge (b := 7) (by omega) (by decide)), q1, Option.bind_some, m0, Option.bind_some, zcff]
    by_cases z : zmost W (zcap c g (nI i) L) 0 = filled
    · rw [if_pos z, if_pos z]
      exact ⟨h1, rfl, q2, q3, q4⟩
    · rw [if_neg z, if_neg z, nI_1]
      obtain ⟨h2, w1, w2, w3, w4⟩ := ih (i + 1) h1 _ (by omega) q2 q3
      exact ⟨h2, w1, w2, w3, zfr_tr q4 w4⟩
theorem jX10_capForFewest (D : zwis h W L P told) (E : zday h t c g) (ht : t + 3 ≤ 53 ∨ 57 ≤ t) (hd : 3 < d) : ∃ h1, nzxI d nX10_capForFewest [.ref 53, .ref t] h = some (zmost W (zcap c g 7 L) 0, h1) ∧ zwis h1 W (zcff c g W (zmost W (zcap c g 7 L) 0) 7 0 (zcap c g 7 L)) P told ∧ zday h1 t c g ∧ zfr 53 57 h h1 := by
  obtain ⟨h1, q1, q2, q3, q4⟩ := jX10_capAt (d := d - 1) D E ht (by omega) 7
  obtain ⟨h2, w1, w2, w3, w4⟩ := jX10_cff15 (d := d - 1) ht (by omega) (zmost W (zcap c g 7 L) 0) 7 0 h1 _ (by omega) q2 q3
  refine ⟨h2, iX10_capForFewest (by omega) D.1.choose_spec.1 ?_, w2, w3, zfr_tr q4 w4⟩
  have m0 := jX10_mostFrom (d := d - 1) q2 (by omega) (f := 0) (by omega)
  rw [nI_0] at m0 w1
  rw [eX10_capForFewest_0, q1, Option.bind_some, m0, Option.bind_some, w1]
/-- the first helper for a day: (helper, what is left) -/
def zff (W : Nat → Int32) (f : Nat) (op : Int32) : Nat → Nat → (Nat → Int32) → Int32 × (Nat → Int32)
  | 0, _, L => (-2, L)
  | j + 1, i, L => if W f &&& (1 <<< (nI i &&& 31)) = 0 then zff W f op j (i + 1) L else if L i ≤ 0 then zff W f op j (i + 1) L else if zmost W (upd L i (L i - 1)) (f + 1) < op - 1 then zff W f op j (i + 1) (upd (upd L i (L i - 1)) i (L i - 1 + 1)) else (nI i, upd L i (L i - 1))
theorem jX10_ff2 (hd : 0 < d) {f : Nat} (hf : f < 7) (op : Int32) : ∀ (j i : Nat) (h : nzH) (L : Nat → Int32), i + j = 5 → zwis h W L P told → ∃ h1, nzr d nX10_firstFor 2 [some (.ref 53), some (.int (nI f)), some (.int op), some (.int (nI i))] [] h = some (some (.int (zff W f op j i L).1), h1) ∧ zwis h1 W (zff W f op j i L).2 P told ∧ zfr 53 57 h h1 := by
  intro j
  induction j with
  | zero =>
    intro i h L hi D
    refine ⟨h, ?_, D, zfr_rfl _ _ _⟩
    rw [eX10_firstFor_2, if_pos (show 5 ≤ nI i from nI_le (a := 5) (by omega) (by omega))]
    rfl
  | succ j ih =>
    intro i h L hi D
    have D' := D
    obtain ⟨⟨F, o, e0, e1, e2, e3⟩, p1, p2, p3⟩ := D
    have nx := ih (i + 1) h L (by omega) D'
    rw [eX10_firstFor_2, if_neg (show ¬ 5 ≤ nI i from nI_ge (b := 5) (by omega) (by decide)), zg_R o e0, Option.bind_some, za_In p1 hf (by decide), Option.bind_some, zff, eX10_firstFor_64, nI_1]
    by_cases z1 : W f &&& (1 <<< (nI i &&& 31)) = 0
    · simp only [if_pos z1]
      exact nx
    · simp only [if_neg z1]
      rw [zg_R o e1, Option.bind_some, za_In p2 (show i < 5 by omega) (by decide), Option.bind_some]
      by_cases z2 : L i ≤ 0
      · simp only [if_pos z2]
        exact nx
      · simp only [if_neg z2]
        have D2 := zwis_L D' (upd L i (L i - 1))
        have fr : zfr 53 57 h (nzset h 55 (.inl (.int, 5, .inl (upd L i (L i - 1))))) := zfr_set _ _ (by decide) (by decide)
        rw [Option.bind_some, za_In p2 (show i < 5 by omega) (by decide), Option.bind_some, zs_In p2 (show i < 5 by omega) (by decide), Option.bind_some, nI_1, jX10_mostFrom D2 hd (show f + 1 ≤ 7 by omega), Option.bind_some]
        by_cases z3 : zmost W (upd L i (L i - 1)) (f + 1) < op - 1
        · simp only [if_pos z3]
          obtain ⟨⟨F', o', a0, a1, a2, a3⟩, b1, b2, b3⟩ := D2
          have D3 := zwis_L (show zwis (nzset h 55 (.inl (.int, 5, .inl (upd L i (L i - 1))))) W (upd L i (L i - 1)) P told from ⟨⟨F', o', a0, a1, a2, a3⟩, b1, b2, b3⟩) (upd (upd L i (L i - 1)) i (L i - 1 + 1))
          obtain ⟨h1, w1, w2, w3⟩ := ih (i + 1) _ _ (by omega) D3
          refine ⟨h1, ?_, w2, zfr_tr fr (zfr_tr (zfr_set _ _ (by decide) (by decide)) w3)⟩
          rw [zg_R o' a1, Option.bind_some, za_In b2 (show i < 5 by omega) (by decide), Option.bind_some, zs_In b2 (show i < 5 by omega) (by decide), Option.bind_some, eX10_firstFor_64, nI_1, show upd L i (L i - 1) i = L i - 1 from if_pos rfl]
          exact w1
        · simp only [if_neg z3]
          exact ⟨_, rfl, D2, fr⟩
theorem jX10_firstFor (D : zwis h W L P told) (hd : 1 < d) {f : Nat} (hf : f < 7) (op : Int32) : ∃ h1, nzxI d nX10_firstFor [.ref 53, .int (nI f), .int op] h = some ((zff W f op 5 0 L).1, h1) ∧ zwis h1 W (zff W f op 5 0 L).2 P told ∧ zfr 53 57 h h1 := by
  obtain ⟨h1, q1, q2⟩ := jX10_ff2 (d := d - 1) (by omega) hf op 5 0 h L (by omega) D
  refine ⟨h1, iX10_firstFor (by omega) D.1.choose_spec.1 ?_, q2⟩
  rw [eX10_firstFor_0]
  exact q1
/-- the wishers of the days -/
def znwD (c g : Nat → Int32) (hp : Nat) (i : Nat) (W : Nat → Int32) : Nat → Int32 := upd W i (W i ||| (if zget c g 7 (nI hp) 0 &&& (1 <<< (nI i &&& 31)) = 0 then (0 : Int32) else 1 <<< (nI hp &&& 31)))
theorem jX10_nw22 (ht : t + 3 ≤ 53 ∨ 57 ≤ t) (hd : 1 < d) (hp : Nat) : ∀ (j i : Nat) (h : nzH) (W : Nat → Int32) (u : Option Value), i + j = 7 → zwis h W L P told → zday h t c g → ∃ h1 w, nzr d nX10_noteWishers 22 [some (.ref 53), some (.ref t), some (.int (nI hp)), some (.int (nI i)), u] [] h = nzr d nX10_noteWishers 10 [some (.ref 53), some (.ref t), some (.int (nI (hp + 1))), some (.int (nI 7)), w] [] h1 ∧ zwis h1 (zit (znwD c g hp) i j W) L P told ∧ zday h1 t c g ∧ zfr 53 57 h h1 := by
  intro j
  induction j with
  | zero =>
    intro i h W u hi D E
    refine ⟨h, u, ?_, D, E, zfr_rfl _ _ _⟩
    rw [eX10_noteWishers_22, if_pos (show 7 ≤ nI i from nI_le (a := 7) (by omega) (by omega)), nI_1, show i = 7 by omega]
  | succ j ih =>
    intro i h W u hi D E
    have D2 := zwis_W D (znwD c g hp i W)
    have fr : zfr 53 57 h (nzset h 54 (.inl (.int, 7, .inl (znwD c g hp i W)))) := zfr_set _ _ (by decide) (by decide)
    obtain ⟨⟨F, o, e0, e1, e2, e3⟩, p1, p2, p3⟩ := D
    obtain ⟨h1, w, q1, q2, q3, q4⟩ := ih (i + 1) _ _ (some (.int (if zget c g 7 (nI hp) 0 &&& (1 <<< (nI i &&& 31)) = 0 then 0 else 1))) (by omega) D2 (zday_sm E (zfr_sm fr (by omega)))
    refine ⟨h1, w, ?_, q2, q3, zfr_tr fr q4⟩
    rw [eX10_noteWishers_22, if_neg (show ¬ 7 ≤ nI i from nI_ge (b := 7) (by omega) (by decide)), jX0_get E hd, Option.bind_some]
    simp only [eX10_noteWishers_48, eX10_noteWishers_69, zg_R o e0, Option.bind_some, za_In p1 (show i < 7 by omega) (by decide), zs_In p1 (show i < 7 by omega) (by decide), nI_1, if_true, show ¬ (1 : Int32) = 0 by decide, if_false]
    refine Eq.trans ?_ q1
    by_cases z : zget c g 7 (nI hp) 0 &&& (1 <<< (nI i &&& 31)) = 0
    · simp only [if_pos z, znwD]
    · simp only [if_neg z, znwD]
theorem jX10_nw10 (ht : t + 3 ≤ 53 ∨ 57 ≤ t) (hd : 1 < d) {n : Nat} (hn : n ≤ 6) (en : c 7 = nI n) : ∀ (j i : Nat) (h : nzH) (W : Nat → Int32) (u v : Option Value), i + j = n → zwis h W L P told → zday h t c g → ∃ h1, nzr d nX10_noteWishers 10 [some (.ref 53), some (.ref t), some (.int (nI i)), u, v] [] h = some (none, h1) ∧ zwis h1 (zit (fun hp W => zit (znwD c g hp) 0 7 W) i j W) L P told ∧ zday h1 t c g ∧ zfr 53 57 h h1 := by
  have g2 : zrow c 7 = nI n := (zrow_n c (s := 7) (by decide)).trans en
  intro j
  induction j with
  | zero =>
    intro i h W u v hi D E
    refine ⟨h, ?_, D, E, zfr_rfl _ _ _⟩
    rw [eX10_noteWishers_10, jX0_rows E (by omega), Option.bind_some, g2, if_pos (nI_le (by omega) (by omega))]
  | succ j ih =>
    intro i h W u v hi D E
    obtain ⟨h1, w, q1, q2, q3, q4⟩ := jX10_nw22 (d := d) ht hd i 7 0 h W v (by omega) D E
    obtain ⟨h2, w1, w2, w3, w4⟩ := ih (i + 1) h1 _ (some (.int (nI 7))) w (by omega) q2 q3
    refine ⟨h2, ?_, w2, w3, zfr_tr q4 w4⟩
    rw [eX10_noteWishers_10, jX0_rows E (by omega), Option.bind_some, g2, if_neg (nI_ge (by omega) (by omega))]
    exact q1.trans w1
def znw (c g : Nat → Int32) (n : Nat) (W : Nat → Int32) : Nat → Int32 := zit (fun hp W => zit (znwD c g hp) 0 7 W) 0 n (fun i => if i < 7 then 0 else W i)
theorem jX10_noteWishers (D : zwis h W L P told) (E : zday h t c g) (ht : t + 3 ≤ 53 ∨ 57 ≤ t) (hd : 2 < d) {n : Nat} (hn : n ≤ 6) (en : c 7 = nI n) : ∃ h1, nzxV d nX10_noteWishers [.ref 53, .ref t] h = some h1 ∧ zwis h1 (znw c g n W) L P told ∧ zday h1 t c g ∧ zfr 53 57 h h1 := by
  obtain ⟨⟨F, o, e0, e1, e2, e3⟩, p1, p2, p3⟩ := D
  obtain ⟨h1, q1, q2, q3⟩ := jJ7_fill (v := 0) (d := d - 1) (by omega) (by decide) p1
  have D2 : zwis h1 (fun i => if i < 7 then 0 else W i) L P told := ⟨⟨F, (q3.2.2.2 53 (by decide)).trans o, e0, e1, e2, e3⟩, q2, (q3.2.2.2 55 (by decide)).trans p2, (q3.2.2.2 56 (by decide)).trans p3⟩
  have fr : zfr 53 57 h h1 := zfr_wk q3 (by decide) (by decide)
  obtain ⟨h2, w1, w2, w3, w4⟩ := jX10_nw10 (d := d - 1) ht (by omega) hn en n 0 h1 _ none none (by omega) D2 (zday_sm E (zfr_sm fr (by omega)))
  refine ⟨h2, iX10_noteWishers (by omega) o ?_, w2, w3, zfr_tr fr w4⟩
  rw [eX10_noteWishers_0, zg_R o e0, Option.bind_some, q1, Option.bind_some]
  exact w1
/-- the week: (open, left, helpers) -/
def zweek (W : Nat → Int32) (i : Nat) (s : Int32 × (Nat → Int32) × (Nat → Int32)) : Int32 × (Nat → Int32) × (Nat → Int32) := (s.1 - (if (zff W i s.1 5 0 s.2.1).1 = -2 then 0 else 1), (zff W i s.1 5 0 s.2.1).2, upd s.2.2 i (zff W i s.1 5 0 s.2.1).1)
theorem jX10_fw16 (hd : 1 < d) (filled : Int32) : ∀ (j i : Nat) (h : nzH) (op : Int32) (L P : Nat → Int32), i + j = 7 → zwis h W L P told → ∃ h1, nzr d nX10_fillWeek 16 [some (.ref 53), some (.ref t), some (.int filled), some (.int op), some (.int (nI i))] [] h = some (some (.int filled), h1) ∧ zwis h1 W (zit (zweek W) i j (op, L, P)).2.1 (zit (zweek W) i j (op, L, P)).2.2 1 ∧ zfr 53 57 h h1 := by
  intro j
  induction j with
  | zero =>
    intro i h op L P hi D
    have o := D.1.choose_spec.1
    refine ⟨_, ?_, zwis_T D o 1, zfr_set _ _ (by decide) (by decide)⟩
    rw [eX10_fillWeek_16, if_pos (show 7 ≤ nI i from nI_le (a := 7) (by omega) (by omega)), zp_of o, Option.bind_some]
  | succ j ih =>
    intro i h op L P hi D
    obtain ⟨F, o, e0, e1, e2, e3⟩ := D.1
    obtain ⟨h1, q1, q2, q3⟩ := jX10_firstFor D hd (show i < 7 by omega) op
    have D2 := zwis_P q2 (upd P i (zff W i op 5 0 L).1)
    obtain ⟨F', o', a0, a1, a2, a3⟩ := D2.1
    obtain ⟨h2, w1, w2, w3⟩ := ih (i + 1) _ (op - (if (zff W i op 5 0 L).1 = -2 then 0 else 1)) _ _ (by omega) D2
    refine ⟨h2, ?_, w2, zfr_tr q3 (zfr_tr (zfr_set _ _ (by decide) (by decide)) w3)⟩
    rw [eX10_fillWeek_16, if_neg (show ¬ 7 ≤ nI i from nI_ge (b := 7) (by omega) (by decide)), zg_R o e2, Option.bind_some, q1, Option.bind_some, zs_In q2.2.2.2 (show i < 7 by omega) (by decide), Option.bind_some, zg_R o' a2, Option.bind_some, za_In D2.2.2.2 (show i < 7 by omega) (by decide), Option.bind_some, show upd P i (zff W i op 5 0 L).1 i = (zff W i op 5 0 L).1 from if_pos rfl]
    simp only [eX10_fillWeek_55, nI_1]
    refine Eq.trans ?_ w1
    by_cases z : (zff W i op 5 0 L).1 = -2
    · simp only [if_pos z]
    · simp only [if_neg z]
theorem jX10_fillWeek (D : zwis h W L P told) (E : zday h t c g) (ht : t + 3 ≤ 53 ∨ 57 ≤ t) (hd : 4 < d) {n : Nat} (hn : n ≤ 6) (en : c 7 = nI n) : ∃ h1 L', nzxI d nX10_fillWeek [.ref 53, .ref t] h = some (zmost (znw c g n W) (zcap c g 7 L) 0, h1) ∧ zwis h1 (znw c g n W) L' (zit (zweek (znw c g n W)) 0 7 (zmost (znw c g n W) (zcap c g 7 L) 0, zcff c g (znw c g n W) (zmost (znw c g n W) (zcap c g 7 L) 0) 7 0 (zcap c g 7 L), P)).2.2 1 ∧ zfr 53 57 h h1 := by
  obtain ⟨h1, q1, q2, q3, q4⟩ := jX10_noteWishers (d := d - 1) D E ht (by omega) hn en
  obtain ⟨h2, w1, w2, w3, w4⟩ := jX10_capForFewest (d := d - 1) q2 q3 ht (by omega)
  obtain ⟨h3, r1, r2, r3⟩ := jX10_fw16 (d := d - 1) (t := t) (by omega) (zmost (znw c g n W) (zcap c g 7 L) 0) 7 0 h2 (zmost (znw c g n W) (zcap c g 7 L) 0) _ _ (by omega) w2
  refine ⟨h3, _, iX10_fillWeek (by omega) D.1.choose_spec.1 ?_, r2, zfr_tr q4 (zfr_tr w4 r3)⟩
  rw [nI_0] at r1
  rw [eX10_fillWeek_0, q1, Option.bind_some, w1, Option.bind_some, r1]
end NZV
