/-! the reader's steps; each answers (goes on, state) -/
def zrok (S : zrs) : Prop := ∃ s n, s < 9 ∧ 1 ≤ n ∧ n ≤ 6 ∧ S.2.1.1 = nI s ∧ S.2.2.2.1 s = nI n
def zisN (tp : Nat → Int32) (k : ztkn) : Bool := decide (k.1 = 1) && (decide (zsol tp k = -1) && (!(zisw tp k.1 k.2.1 k.2.2.1 [100, 111, 103]) && !(zisw tp k.1 k.2.1 k.2.2.1 [97, 102, 114, 97, 105, 100])))
def zfnd (NM : Nat → Int64) (w : Int64) : Nat → Nat → Int32
  | _, 0 => -1
  | i, j + 1 => if lg_cmp (NM i) w = 0 then nI i else zfnd NM w (i + 1) j
def zsTk (tp : Nat → Int32) (L k : Nat) (v : Int32) (S : zrs) : zrs := zsNx tp L (S.1, S.2.1, S.2.2.1, S.2.2.2.1, upd S.2.2.2.2 ((S.2.1.1.toNatClampNeg * 6 + ((S.2.2.2.1 S.2.1.1.toNatClampNeg).toNatClampNeg - 1)) * 7 + k) v)
def zpWd (tp : Nat → Int32) (L : Nat) (l : List Nat) (S : zrs) : Bool × zrs := if zisw tp S.1.1 S.1.2.1 S.1.2.2.1 l then (true, zsNx tp L S) else (false, zsFl 1 S)
def zpPh (tp : Nat → Int32) (L : Nat) (l : List Nat) (k : Nat) (S : zrs) : Bool × zrs := (true, if zisw tp S.1.1 S.1.2.1 S.1.2.2.1 l then zsTk tp L k 1 S else S)
def zpLt (tp : Nat → Int32) (L k : Nat) (S : zrs) : Bool × zrs := if S.1.1 = 1 then (true, zsTk tp L k S.1.2.2.2.2.1 S) else (false, zsFl 1 S)
def zpWh (tp : Nat → Int32) (L k : Nat) (lo hi : Int32) (S : zrs) : Bool × zrs := if S.1.1 = 2 then (if S.1.2.2.2.2.2 < lo ∨ hi < S.1.2.2.2.2.2 then (false, zsFl 4 S) else (true, zsTk tp L k S.1.2.2.2.2.2 S)) else (false, zsFl 1 S)
def zsNm (S : zrs) : zrs := if S.2.2.1.1 < 32 then (S.1, S.2.1, (S.2.2.1.1 + 1, vp_updL S.2.2.1.2.1 S.2.2.1.1 S.1.2.2.2.1, upd S.2.2.1.2.2.1 S.2.2.1.1 S.2.1.1, upd S.2.2.1.2.2.2 S.2.2.1.1 (S.2.2.2.1 S.2.1.1.toNatClampNeg - 1)), S.2.2.2) else S
def zpNn (tp : Nat → Int32) (L : Nat) (S : zrs) : Bool × zrs := if zisN tp S.1 then (if zfnd S.2.2.1.2.1 S.1.2.2.2.1 0 S.2.2.1.1 = -1 then (true, zsNx tp L (zsNm S)) else (false, zsFl 3 S)) else (false, zsFl 1 S)
def zpTn (tp : Nat → Int32) (L : Nat) (want : Int32) (k : Nat) (S : zrs) : Bool × zrs := if zisN tp S.1 then (if zfnd S.2.2.1.2.1 S.1.2.2.2.1 0 S.2.2.1.1 = -1 then (false, zsFl 2 S) else if S.2.2.1.2.2.1 (zfnd S.2.2.1.2.1 S.1.2.2.2.1 0 S.2.2.1.1).toNatClampNeg = want then (true, zsTk tp L k (S.2.2.1.2.2.2 (zfnd S.2.2.1.2.1 S.1.2.2.2.1 0 S.2.2.1.1).toNatClampNeg) S) else (false, zsFl 2 S)) else (false, zsFl 1 S)
theorem zfnd_ix (NM : Nat → Int64) (w : Int64) : ∀ (j i : Nat), zfnd NM w i j = -1 ∨ ∃ q, i ≤ q ∧ q < i + j ∧ zfnd NM w i j = nI q
  | 0, _ => .inl rfl
  | j + 1, i => by
    rw [zfnd]
    split
    · exact .inr ⟨i, Nat.le_refl i, by omega, rfl⟩
    · rcases zfnd_ix NM w j (i + 1) with h | ⟨q, h1, h2, h3⟩
      · exact .inl h
      · exact .inr ⟨q, by omega, by omega, h3⟩
theorem zstr_32 : zstr 32 [100, 111, 103] := by unfold zstr; decide +kernel
theorem zstr_34 : zstr 34 [97, 102, 114, 97, 105, 100] := by unfold zstr; decide +kernel
section NZR3
variable {d : Nat} {h : nzH} {t : Nat} {tp : Nat → Int32} {hl L : Nat} {S : zrs}
theorem zrd_kind (D : zrd h t tp hl L S) : nzgR h 1 1 0 = some 2 ∧ nzgI h 2 9 3 = some S.1.1 ∧ nzgI h 2 9 7 = some S.1.2.2.2.2.1 ∧ nzgI h 2 9 8 = some S.1.2.2.2.2.2 ∧ nzgL h 2 9 6 = some S.1.2.2.2.1 ∧ nzgR h 1 1 4 = some t ∧ nzgI h 1 1 6 = some S.2.1.1 ∧ nzgI h 1 1 5 = some (nI S.2.2.1.1) ∧ nzgR h 1 1 1 = some 4 ∧ nzgR h 1 1 2 = some 5 ∧ nzgR h 1 1 3 = some 6 := by
  obtain ⟨⟨F, o, e0, e1, e2, e3, e4, e5, e6, e7, e8⟩, ⟨⟨F2, o2, T⟩, -⟩, -⟩ := D
  obtain ⟨a0, a1, a2, a3, a4, a5, a6, a7, a8⟩ := T
  exact ⟨zg_R o e0, zg_I o2 a3, zg_I o2 a7, zg_I o2 a8, zg_L o2 a6, zg_R o e4, zg_I o e6, zg_I o e5, zg_R o e1, zg_R o e2, zg_R o e3⟩
theorem jX1_isName (D : zrd h t tp hl L S) (hd : 6 < d) : nzxI d nX1_isName [.ref 1] h = some (if zisN tp S.1 then 1 else 0, h) := by
  have g := zrd_kind D
  refine iX1_isName (by omega) D.1.choose_spec.1 ?_
  have hw : ∀ {k : UInt32} {l : List Nat}, zstr k l → nzxI (d - 1) nX9_isWord [.ref 2, .float k] h = some (if zisw tp S.1.1 S.1.2.1 S.1.2.2.1 l then 1 else 0, h) := fun s => zrd_isWord D (by omega) s
  simp only [eX1_isName_0, g.1, g.2.1, Option.bind_some, jX1_sortOfLine D (show 5 < d - 1 by omega), hw zstr_32, hw zstr_34, eX1_isName_47, zif10]
  by_cases z1 : S.1.1 = 1
  · rw [if_pos z1]
    by_cases z2 : zsol tp S.1 = -1
    · rw [if_pos z2, show zisN tp S.1 = (!(zisw tp S.1.1 S.1.2.1 S.1.2.2.1 [100, 111, 103]) && !(zisw tp S.1.1 S.1.2.1 S.1.2.2.1 [97, 102, 114, 97, 105, 100])) by rw [zisN, decide_eq_true z1, decide_eq_true z2, Bool.true_and, Bool.true_and]]
      cases zisw tp S.1.1 S.1.2.1 S.1.2.2.1 [100, 111, 103] <;> cases zisw tp S.1.1 S.1.2.1 S.1.2.2.1 [97, 102, 114, 97, 105, 100] <;> rfl
    · rw [if_neg z2, show zisN tp S.1 = false by rw [zisN, decide_eq_false z2, Bool.false_and, Bool.and_false]]
      rfl
  · rw [if_neg z1, show zisN tp S.1 = false by rw [zisN, decide_eq_false z1, Bool.false_and]]
    rfl
theorem jX1_fn2 (D : zrd h t tp hl L S) : ∀ (j i : Nat), i + j = S.2.2.1.1 → nzr d nX1_findName 2 [some (.ref 1), some (.int (nI i))] [] h = some (some (.int (zfnd S.2.2.1.2.1 S.1.2.2.2.1 i j)), h) := by
  have g := zrd_kind D
  have n4 := D.2.2.1.2.2.2
  intro j
  induction j with
  | zero =>
    intro i hi
    rw [eX1_findName_2, g.2.2.2.2.2.2.2.1, Option.bind_some, if_pos (nI_le (by omega) (by omega))]
    rfl
  | succ j ih =>
    intro i hi
    rw [eX1_findName_2, g.2.2.2.2.2.2.2.1, Option.bind_some, if_neg (nI_ge (by omega) (by omega)), g.2.2.2.2.2.2.2.2.1, Option.bind_some, za_Ln D.2.2.1.1 (show i < 32 by omega) (by decide), Option.bind_some, g.1, Option.bind_some, g.2.2.2.2.1, Option.bind_some, zfnd, nI_1]
    split
    · rfl
    · exact ih (i + 1) (by omega)
theorem jX1_findName (D : zrd h t tp hl L S) (hd : 0 < d) : nzxI d nX1_findName [.ref 1] h = some (zfnd S.2.2.1.2.1 S.1.2.2.2.1 0 S.2.2.1.1, h) := by
  refine iX1_findName hd D.1.choose_spec.1 ?_
  rw [eX1_findName_0]
  exact jX1_fn2 D S.2.2.1.1 0 (by omega)
theorem jX1_take (D : zrd h t tp hl L S) (K : zrok S) (hd : 2 < d) {k : Nat} (hk : k < 7) {x : Int32} (hx : x = nI k) (v : Int32) : ∃ h1, nzxI d nX1_take [.ref 1, .int x, .int v] h = some (1, h1) ∧ zrd h1 t tp hl L (zsTk tp L k v S) ∧ zrfr t h h1 := by
  have g := zrd_kind D
  obtain ⟨s, n, hs, h1, h6, es, en⟩ := K
  obtain ⟨DF, DT, DN, E, ht⟩ := D
  obtain ⟨h2, q1, q2, q3⟩ := jX0_putInLatest (d := d - 1) E (by omega) hs en h6 h1 hk v
  have D2 : zrd h2 t tp hl L (S.1, S.2.1, S.2.2.1, S.2.2.2.1, upd S.2.2.2.2 ((S.2.1.1.toNatClampNeg * 6 + ((S.2.2.2.1 S.2.1.1.toNatClampNeg).toNatClampNeg - 1)) * 7 + k) v) := by
    obtain ⟨F, o, e⟩ := DF
    obtain ⟨⟨F2, o2, T⟩, b, w⟩ := DT
    obtain ⟨n1, n2, n3, n4⟩ := DN
    refine ⟨⟨F, (q3.2.2.2 1 (by omega)).trans o, e⟩, ⟨⟨F2, (q3.2.2.2 2 (by omega)).trans o2, T⟩, (q3.2.2.2 3 (by omega)).trans b, w⟩, ⟨(q3.2.2.2 4 (by omega)).trans n1, (q3.2.2.2 5 (by omega)).trans n2, (q3.2.2.2 6 (by omega)).trans n3, n4⟩, ?_, ht⟩
    show zday h2 t S.2.2.2.1 (upd S.2.2.2.2 ((S.2.1.1.toNatClampNeg * 6 + ((S.2.2.2.1 S.2.1.1.toNatClampNeg).toNatClampNeg - 1)) * 7 + k) v)
    rw [es, nI_clamp (by omega), en, nI_clamp (by omega)]
    exact q2
  obtain ⟨h3, w1, w2, w3⟩ := jX1_next (d := d - 1) D2 (by omega)
  refine ⟨h3, iX1_take (by omega) DF.choose_spec.1 ?_, w2, zrfr_tr (zrfr_fr q3) w3⟩
  subst hx
  rw [eX1_take_0, g.2.2.2.2.2.1, Option.bind_some, g.2.2.2.2.2.2.1, Option.bind_some, es, q1, Option.bind_some, (zrd_kind D2).1, Option.bind_some, w1, Option.bind_some]
theorem jX1_word (D : zrd h t tp hl L S) (hd : 5 < d) {k : UInt32} {l : List Nat} (s : zstr k l) : ∃ h1, nzxI d nX1_word [.ref 1, .float k] h = some (if (zpWd tp L l S).1 then 1 else 0, h1) ∧ zrd h1 t tp hl L (zpWd tp L l S).2 ∧ zrfr t h h1 := by
  have g := zrd_kind D
  have hw := zrd_isWord (d := d - 1) D (by omega) s
  by_cases z : zisw tp S.1.1 S.1.2.1 S.1.2.2.1 l = true
  · obtain ⟨h1, q1, q2, q3⟩ := jX1_next (d := d - 1) D (by omega)
    simp only [zpWd, if_pos z]
    refine ⟨h1, iX1_word (by omega) D.1.choose_spec.1 ?_, q2, q3⟩
    rw [eX1_word_0, g.1, Option.bind_some, hw, Option.bind_some, z, if_pos rfl, if_neg (show ¬ (1 : Int32) = 0 by decide), g.1, Option.bind_some, q1, Option.bind_some]
    rfl
  · obtain ⟨h1, q1, q2, q3⟩ := jX1_fail (d := d - 1) D (by omega) 1
    simp only [zpWd, if_neg z]
    refine ⟨h1, iX1_word (by omega) D.1.choose_spec.1 ?_, q2, q3⟩
    rw [eX1_word_0, g.1, Option.bind_some, hw, Option.bind_some, if_neg z, if_pos (show (0 : Int32) = 0 from rfl), q1, Option.bind_some, if_pos zbN0]
    rfl
theorem jX1_perhaps (D : zrd h t tp hl L S) (K : zrok S) (hd : 5 < d) {q : UInt32} {l : List Nat} (s : zstr q l) {k : Nat} (hk : k < 7) {x : Int32} (hx : x = nI k) : ∃ h1, nzxI d nX1_perhaps [.ref 1, .float q, .int x] h = some (1, h1) ∧ zrd h1 t tp hl L (zpPh tp L l k S).2 ∧ zrfr t h h1 := by
  have g := zrd_kind D
  have hw := zrd_isWord (d := d - 1) D (by omega) s
  by_cases z : zisw tp S.1.1 S.1.2.1 S.1.2.2.1 l = true
  · obtain ⟨h1, q1, q2, q3⟩ := jX1_take (d := d - 1) D K (by omega) hk hx 1
    simp only [zpPh, if_pos z]
    refine ⟨h1, iX1_perhaps (by omega) D.1.choose_spec.1 ?_, q2, q3⟩
    rw [eX1_perhaps_0, g.1, Option.bind_some, hw, Option.bind_some, z, if_pos rfl, if_neg (show ¬ (1 : Int32) = 0 by decide), q1, Option.bind_some, eX1_perhaps_18]
  · simp only [zpPh, if_neg z]
    refine ⟨h, iX1_perhaps (by omega) D.1.choose_spec.1 ?_, D, zrfr_rfl _ _⟩
    rw [eX1_perhaps_0, g.1, Option.bind_some, hw, Option.bind_some, if_neg z, if_pos (show (0 : Int32) = 0 from rfl), eX1_perhaps_18]
theorem jX1_letters (D : zrd h t tp hl L S) (K : zrok S) (hd : 5 < d) {k : Nat} (hk : k < 7) {x : Int32} (hx : x = nI k) : ∃ h1, nzxI d nX1_letters [.ref 1, .int x] h = some (if (zpLt tp L k S).1 then 1 else 0, h1) ∧ zrd h1 t tp hl L (zpLt tp L k S).2 ∧ zrfr t h h1 := by
  have g := zrd_kind D
  by_cases z : S.1.1 = 1
  · obtain ⟨h1, q1, q2, q3⟩ := jX1_take (d := d - 1) D K (by omega) hk hx S.1.2.2.2.2.1
    simp only [zpLt, if_pos z]
    refine ⟨h1, iX1_letters (by omega) D.1.choose_spec.1 ?_, q2, q3⟩
    rw [eX1_letters_0, g.1, Option.bind_some, g.2.1, Option.bind_some, if_pos z, Option.bind_some, g.2.2.1, Option.bind_some, q1, Option.bind_some, if_pos zbN1]
    rfl
  · obtain ⟨h1, q1, q2, q3⟩ := jX1_fail (d := d - 1) D (by omega) 1
    simp only [zpLt, if_neg z]
    refine ⟨h1, iX1_letters (by omega) D.1.choose_spec.1 ?_, q2, q3⟩
    rw [eX1_letters_0, g.1, Option.bind_some, g.2.1, Option.bind_some, if_neg z, q1, Option.bind_some, if_pos zbN0]
    rfl
theorem jX1_whole (D : zrd h t tp hl L S) (K : zrok S) (hd : 5 < d) {k : Nat} (hk : k < 7) {x : Int32} (hx : x = nI k) (lo hi : Int32) : ∃ h1, nzxI d nX1_whole [.ref 1, .int x, .int lo, .int hi] h = some (if (zpWh tp L k lo hi S).1 then 1 else 0, h1) ∧ zrd h1 t tp hl L (zpWh tp L k lo hi S).2 ∧ zrfr t h h1 := by
  have g := zrd_kind D
  by_cases z : S.1.1 = 2
  · by_cases y : S.1.2.2.2.2.2 < lo ∨ hi < S.1.2.2.2.2.2
    · obtain ⟨h1, q1, q2, q3⟩ := jX1_fail (d := d - 1) D (by omega) 4
      simp only [zpWh, if_pos z, if_pos y]
      refine ⟨h1, iX1_whole (by omega) D.1.choose_spec.1 ?_, q2, q3⟩
      have e : (if S.1.2.2.2.2.2 < lo then (0 : Int32) else if hi < S.1.2.2.2.2.2 then 0 else 1) = 0 := by
        rcases y with y | y
        · rw [if_pos y]
        · rw [if_pos y]
          split <;> rfl
      rw [eX1_whole_0, g.1, Option.bind_some, g.2.1, Option.bind_some, if_pos z, Option.bind_some, g.2.2.2.1, Option.bind_some, jX11_isWithin (by omega), Option.bind_some, e, if_pos rfl, q1, Option.bind_some, if_pos zbN0]
      rfl
    · obtain ⟨h1, q1, q2, q3⟩ := jX1_take (d := d - 1) D K (by omega) hk hx S.1.2.2.2.2.2
      simp only [zpWh, if_pos z, if_neg y]
      refine ⟨h1, iX1_whole (by omega) D.1.choose_spec.1 ?_, q2, q3⟩
      rw [eX1_whole_0, g.1, Option.bind_some, g.2.1, Option.bind_some, if_pos z, Option.bind_some, g.2.2.2.1, Option.bind_some, jX11_isWithin (by omega), Option.bind_some, if_neg (fun w => y (.inl w)), if_neg (fun w => y (.inr w)), if_neg (show ¬ (1 : Int32) = 0 by decide), g.1, Option.bind_some, g.2.2.2.1, Option.bind_some, q1, Option.bind_some, if_pos zbN1]
      rfl
  · obtain ⟨h1, q1, q2, q3⟩ := jX1_fail (d := d - 1) D (by omega) 1
    simp only [zpWh, if_neg z]
    refine ⟨h1, iX1_whole (by omega) D.1.choose_spec.1 ?_, q2, q3⟩
    rw [eX1_whole_0, g.1, Option.bind_some, g.2.1, Option.bind_some, if_neg z, q1, Option.bind_some, if_pos zbN0]
    rfl
theorem jX1_toldName (D : zrd h t tp hl L S) (K : zrok S) (hd : 7 < d) (want : Int32) {k : Nat} (hk : k < 7) {x : Int32} (hx : x = nI k) : ∃ h1, nzxI d nX1_toldName [.ref 1, .int want, .int x] h = some (if (zpTn tp L want k S).1 then 1 else 0, h1) ∧ zrd h1 t tp hl L (zpTn tp L want k S).2 ∧ zrfr t h h1 := by
  have g := zrd_kind D
  have hn := jX1_isName (d := d - 1) D (by omega)
  have hf := jX1_findName (d := d - 1) D (by omega)
  by_cases z : zisN tp S.1 = true
  · rw [if_pos z] at hn
    by_cases y : zfnd S.2.2.1.2.1 S.1.2.2.2.1 0 S.2.2.1.1 = -1
    · obtain ⟨h1, q1, q2, q3⟩ := jX1_fail (d := d - 1) D (by omega) 2
      simp only [zpTn, if_pos z, if_pos y]
      refine ⟨h1, iX1_toldName (by omega) D.1.choose_spec.1 ?_, q2, q3⟩
      rw [eX1_toldName_0, hn, Option.bind_some, if_neg (show ¬ (1 : Int32) = 0 by decide), hf, Option.bind_some, if_pos y, eX1_toldName_33, q1, Option.bind_some, if_pos zbN0]
      rfl
    · obtain ⟨q, -, hq, eq⟩ := (zfnd_ix S.2.2.1.2.1 S.1.2.2.2.1 S.2.2.1.1 0).resolve_left y
      have hq' : q < 32 := by
        have := D.2.2.1.2.2.2
        omega
      have c : (zfnd S.2.2.1.2.1 S.1.2.2.2.1 0 S.2.2.1.1).toNatClampNeg = q := by rw [eq, nI_clamp (by omega)]
      have r1 := za_In D.2.2.1.2.1 hq' (by decide)
      have r2 := za_In D.2.2.1.2.2.1 hq' (by decide)
      rw [← eq] at r1 r2
      by_cases w : S.2.2.1.2.2.1 q = want
      · obtain ⟨h1, q1, q2, q3⟩ := jX1_take (d := d - 1) D K (by omega) hk hx (S.2.2.1.2.2.2 q)
        simp only [zpTn, if_pos z, if_neg y, c, if_pos w]
        refine ⟨h1, iX1_toldName (by omega) D.1.choose_spec.1 ?_, q2, q3⟩
        rw [eX1_toldName_0, hn, Option.bind_some, if_neg (show ¬ (1 : Int32) = 0 by decide), hf, Option.bind_some, if_neg y, g.2.2.2.2.2.2.2.2.2.1, Option.bind_some, r1, Option.bind_some, if_pos w, g.2.2.2.2.2.2.2.2.2.2, Option.bind_some, r2, Option.bind_some, q1, Option.bind_some, if_pos zbN1]
        rfl
      · obtain ⟨h1, q1, q2, q3⟩ := jX1_fail (d := d - 1) D (by omega) 2
        simp only [zpTn, if_pos z, if_neg y, c, if_neg w]
        refine ⟨h1, iX1_toldName (by omega) D.1.choose_spec.1 ?_, q2, q3⟩
        rw [eX1_toldName_0, hn, Option.bind_some, if_neg (show ¬ (1 : Int32) = 0 by decide), hf, Option.bind_some, if_neg y, g.2.2.2.2.2.2.2.2.2.1, Option.bind_some, r1, Option.bind_some, if_neg w, eX1_toldName_33, q1, Option.bind_some, if_pos zbN0]
        rfl
  · rw [if_neg z] at hn
    obtain ⟨h1, q1, q2, q3⟩ := jX1_fail (d := d - 1) D (by omega) 1
    simp only [zpTn, if_neg z]
    refine ⟨h1, iX1_toldName (by omega) D.1.choose_spec.1 ?_, q2, q3⟩
    rw [eX1_toldName_0, hn, Option.bind_some, if_pos rfl, q1, Option.bind_some, if_pos zbN0]
    rfl
end NZR3
