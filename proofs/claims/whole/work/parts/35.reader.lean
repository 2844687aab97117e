/-! the Day written; the reader's state (1 .. 6, and the draft t) -/
def zroom (s : Nat) : Nat := [3, 6, 4, 6, 3, 3, 5, 5, 1].getD s 0
theorem zroom_I : ∀ s, s < 9 → ([3, 6, 4, 6, 3, 3, 5, 5, 1] : List Int32).getD s 0 = nI (zroom s) ∧ zroom s ≤ 6 := by decide +kernel
section NZD2
variable {d : Nat} {h : nzH} {t : Nat} {c g : Nat → Int32}
theorem zcI_room {s : Nat} (hs : s < 9) : nzcI h 1 (nI s) = some (nI (zroom s)) := by
  have q := nI_in hs (by decide)
  rw [nI_clamp (by omega)] at q
  rw [nzcI, nzkI, if_neg (by decide), if_pos rfl]
  simp only [nI_clamp (show s < 2 ^ 31 by omega), if_neg q, (zroom_I s hs).1]
theorem zday_c (D : zday h t c g) {s n : Nat} (hn : n ≤ 6) : zday (nzset h (t + 1) (.inl (.int, 9, .inl (upd c s (nI n))))) t (upd c s (nI n)) g := by
  obtain ⟨⟨F, o, e0, e1⟩, hc, hg, hb⟩ := D
  refine ⟨⟨F, (zc_setN (by omega)).trans o, e0, e1⟩, zc_setS _ _ _, (zc_setN (by omega)).trans hg, fun q hq => ?_⟩
  by_cases z : q = s
  · exact ⟨n, hn, by rw [upd, if_pos z]⟩
  · rw [upd, if_neg z]
    exact hb q hq
theorem zday_g (D : zday h t c g) (g' : Nat → Int32) : zday (nzset h (t + 2) (.inl (.int, 378, .inl g'))) t c g' := by
  obtain ⟨⟨F, o, e0, e1⟩, hc, hg, hb⟩ := D
  exact ⟨⟨F, (zc_setN (by omega)).trans o, e0, e1⟩, (zc_setN (by omega)).trans hc, zc_setS _ _ _, hb⟩
theorem jX0_addRow (D : zday h t c g) (hd : 0 < d) {s n : Nat} (hs : s < 9) (en : c s = nI n) (hn : n ≤ 6) : ∃ h1, nzxI d nX0_addRow [.ref t, .int (nI s)] h = some (if n < zroom s then 1 else 0, h1) ∧ zday h1 t (if n < zroom s then upd c s (nI (n + 1)) else c) g ∧ zfr t (t + 3) h h1 := by
  have D' := D
  obtain ⟨⟨F, o, e0, e1⟩, hc, hg, hb⟩ := D
  have hr := (zroom_I s hs).2
  by_cases z : n < zroom s
  · simp only [if_pos z]
    refine ⟨_, iX0_addRow hd o ?_, zday_c D' (s := s) (show n + 1 ≤ 6 by omega), zfr_set _ _ (by omega) (by omega)⟩
    rw [eX0_addRow_0, if_neg (nI_pos (by omega)), if_neg (show ¬ 9 ≤ nI s from nI_ge hs (by decide)), zg_R o e0, Option.bind_some, za_In hc hs (by decide), Option.bind_some, zcI_room hs, Option.bind_some, en, if_pos (nI_lt z (by omega)), Option.bind_some, za_In hc hs (by decide), Option.bind_some, zs_In hc hs (by decide), Option.bind_some, en, nI_1]
  · simp only [if_neg z]
    refine ⟨h, iX0_addRow hd o ?_, D', zfr_rfl _ _ _⟩
    rw [eX0_addRow_0, if_neg (nI_pos (by omega)), if_neg (show ¬ 9 ≤ nI s from nI_ge hs (by decide)), zg_R o e0, Option.bind_some, za_In hc hs (by decide), Option.bind_some, zcI_room hs, Option.bind_some, en, if_neg (nI_nlt (by omega) (by omega)), eX0_addRow_24]
theorem jX0_putInLatest (D : zday h t c g) (hd : 1 < d) {s n k : Nat} (hs : s < 9) (en : c s = nI n) (hn : n ≤ 6) (h1 : 1 ≤ n) (hk : k < 7) (v : Int32) : ∃ h1, nzxV d nX0_putInLatest [.ref t, .int (nI s), .int (nI k), .int v] h = some h1 ∧ zday h1 t c (upd g ((s * 6 + (n - 1)) * 7 + k) v) ∧ zfr t (t + 3) h h1 := by
  have D' := D
  obtain ⟨⟨F, o, e0, e1⟩, hc, hg, hb⟩ := D
  have ec : zcel c (nI s) (nI (n - 1)) (nI k) = nI ((s * 6 + (n - 1)) * 7 + k) := by
    rw [zcel_n hs hn en hk, if_neg (nI_pos (by omega)), if_pos (nI_lt (by omega) (by omega))]
  refine ⟨_, iX0_putInLatest (by omega) o ?_, zday_g D' _, zfr_set _ _ (by omega) (by omega)⟩
  rw [eX0_putInLatest_0, jX0_rows D' (by omega), Option.bind_some, zrow_n c hs, en, show nI n - 1 = nI (n - 1) from pk_sub (b := 1) h1, jX0_cellOf D' (by omega), Option.bind_some, ec, if_neg, zg_R o e1, Option.bind_some, zs_In hg (by omega) (by decide), Option.bind_some]
  intro z
  exact nI_pos (n := (s * 6 + (n - 1)) * 7 + k) (by omega) (by rw [show nI ((s * 6 + (n - 1)) * 7 + k) = -1 from z]; decide)
theorem jX0_clear (D : zday h t c g) (hd : 1 < d) : ∃ h1, nzxV d nX0_clear [.ref t] h = some h1 ∧ zday h1 t (fun i => if i < 9 then 0 else c i) (fun i => if i < 378 then 0 else g i) ∧ zfr t (t + 3) h h1 := by
  obtain ⟨⟨F, o, e0, e1⟩, hc, hg, hb⟩ := D
  obtain ⟨h1, q1, q2, q3⟩ := jJ7_fill (v := 0) (d := d - 1) (by omega) (by decide) hc
  obtain ⟨h2, w1, w2, w3⟩ := jJ7_fill (v := 0) (d := d - 1) (by omega) (by decide) (show zarr h1 (t + 2) 378 g from (q3.2.2.2 (t + 2) (by omega)).trans hg)
  refine ⟨h2, iX0_clear (by omega) o ?_, ⟨⟨F, (w3.2.2.2 t (by omega)).trans ((q3.2.2.2 t (by omega)).trans o), e0, e1⟩, (w3.2.2.2 (t + 1) (by omega)).trans q2, w2, fun s hs => ⟨0, by decide, (if_pos hs).trans rfl⟩⟩, zfr_tr (zfr_wk q3 (by omega) (by omega)) (zfr_wk w3 (by omega) (by omega))⟩
  rw [eX0_clear_0, zg_R o e0, Option.bind_some, q1, Option.bind_some, zg_R (F := F) ((q3.2.2.2 t (by omega)).trans o) e1, Option.bind_some, w1, Option.bind_some]
end NZD2
/-- the reader: token (kind, place, end, packed, letters, value); (sort, fault, its place); (names, words, sorts, rows); (counts, cells) of the draft -/
abbrev ztkn : Type := Int32 × Nat × Nat × Int64 × Int32 × Int32
abbrev zrs : Type := ztkn × (Int32 × Int32 × Int32) × (Nat × (Nat → Int64) × (Nat → Int32) × (Nat → Int32)) × ((Nat → Int32) × (Nat → Int32))
def zrdF (h : nzH) (t : Nat) (S : zrs) : Prop := ∃ F, zobj h 1 1 F ∧ F 0 = .ref 2 ∧ F 1 = .ref 4 ∧ F 2 = .ref 5 ∧ F 3 = .ref 6 ∧ F 4 = .ref t ∧ F 5 = .int (nI S.2.2.1.1) ∧ F 6 = .int S.2.1.1 ∧ F 7 = .int S.2.1.2.1 ∧ F 8 = .int S.2.1.2.2
def zrdT (h : nzH) (tp : Nat → Int32) (hl L : Nat) (k : ztkn) : Prop := (∃ F, zobj h 2 9 F ∧ zT F hl L k.1 k.2.1 k.2.2.1 k.2.2.2.1 k.2.2.2.2.1 k.2.2.2.2.2) ∧ zbyt h 3 900 tp ∧ hl ≤ 900 ∧ L ≤ 900 ∧ k.2.1 ≤ k.2.2.1 ∧ k.2.2.1 ≤ L
def zrdN (h : nzH) (N : Nat × (Nat → Int64) × (Nat → Int32) × (Nat → Int32)) : Prop := zlon h 4 32 N.2.1 ∧ zarr h 5 32 N.2.2.1 ∧ zarr h 6 32 N.2.2.2 ∧ N.1 ≤ 32
def zrd (h : nzH) (t : Nat) (tp : Nat → Int32) (hl L : Nat) (S : zrs) : Prop := zrdF h t S ∧ zrdT h tp hl L S.1 ∧ zrdN h S.2.2.1 ∧ zday h t S.2.2.2.1 S.2.2.2.2 ∧ (t = 7 ∨ t = 70)
/-- what the reader leaves alone -/
def zrfr (t : Nat) (h h1 : nzH) : Prop := h1.1 = h.1 ∧ h1.2.1 = h.2.1 ∧ h1.2.2.2 = h.2.2.2 ∧ ∀ a, ¬ (1 ≤ a ∧ a < 7) → ¬ (t ≤ a ∧ a < t + 3) → nzcell h1 a = nzcell h a
theorem zrfr_tr {t : Nat} {h h1 h2 : nzH} (a : zrfr t h h1) (b : zrfr t h1 h2) : zrfr t h h2 := ⟨b.1.trans a.1, b.2.1.trans a.2.1, b.2.2.1.trans a.2.2.1, fun x p q => (b.2.2.2 x p q).trans (a.2.2.2 x p q)⟩
theorem zrfr_rfl (t : Nat) (h : nzH) : zrfr t h h := ⟨rfl, rfl, rfl, fun _ _ _ => rfl⟩
theorem zrfr_set {t a : Nat} (h : nzH) (e : nzE) (p : (1 ≤ a ∧ a < 7) ∨ (t ≤ a ∧ a < t + 3)) : zrfr t h (nzset h a e) := ⟨rfl, rfl, rfl, fun x q r => zc_setN (by intro z; subst z; rcases p with p | p; exact q p; exact r p)⟩
theorem zrfr_fr {t : Nat} {h h1 : nzH} (a : zfr t (t + 3) h h1) : zrfr t h h1 := ⟨a.1, a.2.1, a.2.2.1, fun x _ r => a.2.2.2 x (by omega)⟩
def ztoN (tp : Nat → Int32) (L : Nat) (k : ztkn) : ztkn := ztok tp L k.2.2.1 k.2.2.2
def zsNx (tp : Nat → Int32) (L : Nat) (S : zrs) : zrs := (ztoN tp L S.1, S.2)
def zsFl (n : Int32) (S : zrs) : zrs := (S.1, (S.2.1.1, n, nI S.1.2.1), S.2.2)
section NZR2
variable {d : Nat} {h : nzH} {t : Nat} {tp : Nat → Int32} {hl L : Nat} {S : zrs}
theorem jX1_next (D : zrd h t tp hl L S) (hd : 1 < d) : ∃ h1, nzxV d nX9_next [.ref 2] h = some h1 ∧ zrd h1 t tp hl L (zsNx tp L S) ∧ zrfr t h h1 := by
  obtain ⟨⟨F, o, e⟩, ⟨⟨F2, o2, T⟩, b, q1, q2, q3, q4⟩, ⟨n1, n2, n3, n4⟩, E, ht⟩ := D
  obtain ⟨F', w1, w2, w3, w4⟩ := jX9_next (d := d) q2 hd q4 o2 b T
  refine ⟨_, w1, ⟨⟨F, (zc_setN (by decide)).trans o, e⟩, ⟨⟨F', zc_setS _ _ _, w2⟩, (zc_setN (by decide)).trans b, q1, q2, w3, w4⟩, ⟨(zc_setN (by decide)).trans n1, (zc_setN (by decide)).trans n2, (zc_setN (by decide)).trans n3, n4⟩, zday_sm E (zsm_set _ _ (by omega)), ht⟩, zrfr_set _ _ (.inl (by decide))⟩
theorem zrd_isWord (D : zrd h t tp hl L S) (hd : 4 < d) {k : UInt32} {l : List Nat} (s : zstr k l) : nzxI d nX9_isWord [.ref 2, .float k] h = some (if zisw tp S.1.1 S.1.2.1 S.1.2.2.1 l then 1 else 0, h) := by
  obtain ⟨-, ⟨⟨F2, o2, T⟩, b, q1, q2, q3, q4⟩, -⟩ := D
  exact jX9_isWord s hd o2 b T q3 q4 q2
theorem jX1_fail (D : zrd h t tp hl L S) (hd : 0 < d) (n : Int32) : ∃ h1, nzxI d nX1_fail [.ref 1, .int n] h = some (0, h1) ∧ zrd h1 t tp hl L (zsFl n S) ∧ zrfr t h h1 := by
  obtain ⟨⟨F, o, e0, e1, e2, e3, e4, e5, e6, e7, e8⟩, ⟨⟨F2, o2, T⟩, b, q1, q2, q3, q4⟩, ⟨n1, n2, n3, n4⟩, E, ht⟩ := D
  have o1 : zobj (nzset h 1 (.inr (1, va_up F 7 (.int n)))) 1 1 _ := zc_setS _ _ _
  have o3 : zobj (nzset h 1 (.inr (1, va_up F 7 (.int n)))) 2 9 F2 := (zc_setN (by decide)).trans o2
  refine ⟨nzset h 1 (.inr (1, va_up (va_up F 7 (.int n)) 8 (.int (nI S.1.2.1)))), iX1_fail hd o ?_, ⟨⟨_, zc_setS _ _ _, by simp [va_up, e0], by simp [va_up, e1], by simp [va_up, e2], by simp [va_up, e3], by simp [va_up, e4], by simp [va_up, e5, zsFl], by simp [va_up, e6, zsFl], by simp [va_up, zsFl], by simp [va_up, zsFl]⟩, ⟨⟨F2, (zc_setN (by decide)).trans o2, T⟩, (zc_setN (by decide)).trans b, q1, q2, q3, q4⟩, ⟨(zc_setN (by decide)).trans n1, (zc_setN (by decide)).trans n2, (zc_setN (by decide)).trans n3, n4⟩, zday_sm E (zsm_set _ _ (by omega)), ht⟩, zrfr_set _ _ (.inl (by decide))⟩
  rw [eX1_fail_0, zp_of o, Option.bind_some, zg_R o1 (v := 2) (by simp [va_up, e0]), Option.bind_some, zg_I o3 T.2.2.2.2.1, Option.bind_some, zp_of o1, Option.bind_some, nzset_set]
theorem zbN0 : narrow .boolean (.int 0) = .int 0 := by decide +kernel
theorem zbN1 : narrow .boolean (.int 1) = .int 1 := by decide +kernel
/-- the word of a line's start -/
def zsol (tp : Nat → Int32) (k : ztkn) : Int32 := if zisw tp k.1 k.2.1 k.2.2.1 [108, 97, 119] then 8 else if zisw tp k.1 k.2.1 k.2.2.1 [107, 105, 116, 99, 104, 101, 110] then 0 else if zisw tp k.1 k.2.1 k.2.2.1 [102, 108, 111, 111, 100] then 5 else if zisw tp k.1 k.2.1 k.2.2.1 [100, 105, 115, 104] then 1 else if zisw tp k.1 k.2.1 k.2.2.1 [100, 105, 101, 116] then 2 else if zisw tp k.1 k.2.1 k.2.2.1 [104, 111, 117, 115, 101] then 3 else if zisw tp k.1 k.2.1 k.2.2.1 [99, 97, 114] then 4 else if zisw tp k.1 k.2.1 k.2.2.1 [99, 97, 108, 108] then 6 else if zisw tp k.1 k.2.1 k.2.2.1 [104, 101, 108, 112, 101, 114] then 7 else -1
theorem zif10 (b : Bool) : ((if b = true then (1 : Int32) else 0) = 0) ↔ b = false := by cases b <;> decide
theorem zstr_10 : zstr 10 [108, 97, 119] := by unfold zstr; decide +kernel
theorem zstr_12 : zstr 12 [107, 105, 116, 99, 104, 101, 110] := by unfold zstr; decide +kernel
theorem zstr_14 : zstr 14 [102, 108, 111, 111, 100] := by unfold zstr; decide +kernel
theorem zstr_16 : zstr 16 [100, 105, 115, 104] := by unfold zstr; decide +kernel
theorem zstr_18 : zstr 18 [100, 105, 101, 116] := by unfold zstr; decide +kernel
theorem zstr_20 : zstr 20 [104, 111, 117, 115, 101] := by unfold zstr; decide +kernel
theorem zstr_22 : zstr 22 [99, 97, 114] := by unfold zstr; decide +kernel
theorem zstr_24 : zstr 24 [99, 97, 108, 108] := by unfold zstr; decide +kernel
theorem zstr_26 : zstr 26 [104, 101, 108, 112, 101, 114] := by unfold zstr; decide +kernel
theorem jX1_sortOfLine (D : zrd h t tp hl L S) (hd : 5 < d) : nzxI d nX1_sortOfLine [.ref 1] h = some (zsol tp S.1, h) := by
  obtain ⟨F, o, e0, -⟩ := D.1
  refine iX1_sortOfLine (by omega) o ?_
  have hw : ∀ {k : UInt32} {l : List Nat}, zstr k l → nzxI (d - 1) nX9_isWord [.ref 2, .float k] h = some (if zisw tp S.1.1 S.1.2.1 S.1.2.2.1 l then 1 else 0, h) := fun s => zrd_isWord D (by omega) s
  simp only [eX1_sortOfLine_0, zg_R o e0, Option.bind_some, hw zstr_10, hw zstr_12, hw zstr_14, hw zstr_16, hw zstr_18, hw zstr_20, hw zstr_22, hw zstr_24, hw zstr_26, zif10]
  unfold zsol
  cases zisw tp S.1.1 S.1.2.1 S.1.2.2.1 [108, 97, 119] with
  | true => rfl
  | false =>
    cases zisw tp S.1.1 S.1.2.1 S.1.2.2.1 [107, 105, 116, 99, 104, 101, 110] with
    | true => rfl
    | false =>
      cases zisw tp S.1.1 S.1.2.1 S.1.2.2.1 [102, 108, 111, 111, 100] with
      | true => rfl
      | false =>
        cases zisw tp S.1.1 S.1.2.1 S.1.2.2.1 [100, 105, 115, 104] with
        | true => rfl
        | false =>
          cases zisw tp S.1.1 S.1.2.1 S.1.2.2.1 [100, 105, 101, 116] with
          | true => rfl
          | false =>
            cases zisw tp S.1.1 S.1.2.1 S.1.2.2.1 [104, 111, 117, 115, 101] with
            | true => rfl
            | false =>
              cases zisw tp S.1.1 S.1.2.1 S.1.2.2.1 [99, 97, 114] with
              | true => rfl
              | false =>
                cases zisw tp S.1.1 S.1.2.1 S.1.2.2.1 [99, 97, 108, 108] with
                | true => rfl
                | false =>
                  cases zisw tp S.1.1 S.1.2.1 S.1.2.2.1 [104, 101, 108, 112, 101, 114] <;> rfl
end NZR2
