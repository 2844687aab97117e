/-! Text: the next token, a word compared, the tape fed -/
/-- the token behind p: (kind, place, end, packed, letters, value) -/
def ztok (tp : Nat → Int32) (L p : Nat) (s : Int64 × Int32 × Int32) : Int32 × Nat × Nat × Int64 × Int32 × Int32 :=
  if zskp tp (L - p) p < L then
    (if tp (zskp tp (L - p) p) < 97 ∨ 122 < tp (zskp tp (L - p) p) then
      (if tp (zskp tp (L - p) p) < 48 ∨ 57 < tp (zskp tp (L - p) p) then
        (if tp (zskp tp (L - p) p) = 59 then 3 else if tp (zskp tp (L - p) p) = 44 then 4 else 5, zskp tp (L - p) p, zskp tp (L - p) p + 1, s.1, s.2.1, s.2.2)
      else (if 3 < (zwho tp (L - zskp tp (L - p) p) (zskp tp (L - p) p) 0).1 - zskp tp (L - p) p then 5 else 2, zskp tp (L - p) p, (zwho tp (L - zskp tp (L - p) p) (zskp tp (L - p) p) 0).1, s.1, s.2.1, (zwho tp (L - zskp tp (L - p) p) (zskp tp (L - p) p) 0).2))
    else (if 8 < (zwrd tp (L - zskp tp (L - p) p) (zskp tp (L - p) p) 0 0).1 - zskp tp (L - p) p then 5 else 1, zskp tp (L - p) p, (zwrd tp (L - zskp tp (L - p) p) (zskp tp (L - p) p) 0 0).1, (zwrd tp (L - zskp tp (L - p) p) (zskp tp (L - p) p) 0 0).2.1, (zwrd tp (L - zskp tp (L - p) p) (zskp tp (L - p) p) 0 0).2.2, s.2.2))
  else (0, zskp tp (L - p) p, zskp tp (L - p) p, s.1, s.2.1, s.2.2)
section NZT3
variable {d : Nat} {h : nzH} {F : Nat → Value} {hl L : Nat} {kd : Int32} {pl en : Nat} {pk : Int64} {le va : Int32} {tp : Nat → Int32}
theorem jX9_nx5 (hL : L ≤ 900) (o : zobj h 2 9 F) (b : zbyt h 3 900 tp) (T : zT F hl L kd pl en pk le va) : ∀ (j e : Nat), e + j = L → nzr d nX9_next 5 [some (.ref 2), some (.int (nI e))] [] h = nzr d nX9_next 30 [some (.ref 2), some (.int (nI (zskp tp j e)))] [] h := by
  obtain ⟨a0, a1, a2, a3, a4, a5, a6, a7, a8⟩ := T
  intro j
  induction j with
  | zero =>
    intro e he
    rw [eX9_next_5, zg_I o a2, Option.bind_some, if_pos (nI_le (by omega) (by omega))]
    rfl
  | succ j ih =>
    intro e he
    rw [eX9_next_5, zg_I o a2, Option.bind_some, if_neg (nI_ge (by omega) (by omega)), zg_R o a0, Option.bind_some, za_Bn b (show e < 900 by omega) (by decide), Option.bind_some, zskp, nI_1]
    split
    · exact ih (e + 1) (by omega)
    · rfl
theorem jX9_next (hL : L ≤ 900) (hd : 1 < d) (hp : en ≤ L) (o : zobj h 2 9 F) (b : zbyt h 3 900 tp) (T : zT F hl L kd pl en pk le va) : ∃ F', nzxV d nX9_next [.ref 2] h = some (nzset h 2 (.inr (9, F'))) ∧ zT F' hl L (ztok tp L en (pk, le, va)).1 (ztok tp L en (pk, le, va)).2.1 (ztok tp L en (pk, le, va)).2.2.1 (ztok tp L en (pk, le, va)).2.2.2.1 (ztok tp L en (pk, le, va)).2.2.2.2.1 (ztok tp L en (pk, le, va)).2.2.2.2.2 ∧ (ztok tp L en (pk, le, va)).2.1 ≤ (ztok tp L en (pk, le, va)).2.2.1 ∧ (ztok tp L en (pk, le, va)).2.2.1 ≤ L := by
  have hq := zskp_le tp (L - en) en
  have T1 := zT_4 T (zskp tp (L - en) en)
  have T2 := zT_5 T1 (zskp tp (L - en) en)
  have o1 : zobj (nzset h 2 (.inr (9, va_up F 4 (.int (nI (zskp tp (L - en) en)))))) 2 9 _ := zc_setS _ _ _
  have o2 : zobj (nzset h 2 (.inr (9, va_up (va_up F 4 (.int (nI (zskp tp (L - en) en)))) 5 (.int (nI (zskp tp (L - en) en)))))) 2 9 _ := zc_setS _ _ _
  have b2 : zbyt (nzset h 2 (.inr (9, va_up (va_up F 4 (.int (nI (zskp tp (L - en) en)))) 5 (.int (nI (zskp tp (L - en) en)))))) 3 900 tp := (zc_setN (by decide)).trans b
  have st : nzr (d - 1) nX9_next 0 [some (.ref 2), none] [] h = nzr (d - 1) nX9_next 30 [some (.ref 2), some (.int (nI (zskp tp (L - en) en)))] [] h := by
    rw [eX9_next_0, zg_I o T.2.2.2.2.2.1, Option.bind_some]
    exact jX9_nx5 hL o b T (L - en) en (by omega)
  have s30 : nzr (d - 1) nX9_next 30 [some (.ref 2), some (.int (nI (zskp tp (L - en) en)))] [] h = _ := eX9_next_30 _ _ _ _
  rw [zp_of o, Option.bind_some, zp_of o1, Option.bind_some, nzset_set, zg_I o2 T2.2.2.1, Option.bind_some] at s30
  by_cases z : zskp tp (L - en) en < L
  · have hb := za_Bn b2 (show zskp tp (L - en) en < 900 by omega) (by decide)
    rw [if_pos (nI_lt z (by omega)), zg_R o2 T2.1, Option.bind_some, hb, Option.bind_some] at s30
    simp only [zg_R o2 T2.1, Option.bind_some, hb, eX9_next_85, eX9_next_114] at s30
    by_cases z1 : tp (zskp tp (L - en) en) < 97 ∨ 122 < tp (zskp tp (L - en) en)
    · have s31 : nzr (d - 1) nX9_next 30 [some (.ref 2), some (.int (nI (zskp tp (L - en) en)))] [] h = if tp (zskp tp (L - en) en) < 48 ∨ 57 < tp (zskp tp (L - en) en) then (nzxV (d - 1) nX9_takeSign [.ref 2, .int (tp (zskp tp (L - en) en))] (nzset h 2 (.inr (9, va_up (va_up F 4 (.int (nI (zskp tp (L - en) en)))) 5 (.int (nI (zskp tp (L - en) en))))))).bind fun h3 => some (none, h3) else (nzxV (d - 1) nX9_takeWhole [.ref 2] (nzset h 2 (.inr (9, va_up (va_up F 4 (.int (nI (zskp tp (L - en) en)))) 5 (.int (nI (zskp tp (L - en) en))))))).bind fun h3 => some (none, h3) := by
        rw [s30]
        by_cases y1 : tp (zskp tp (L - en) en) < 97
        · rw [if_pos y1]
          by_cases y3 : tp (zskp tp (L - en) en) < 48
          · rw [if_pos y3, if_pos (.inl y3)]
          · rw [if_neg y3]
            by_cases y4 : 57 < tp (zskp tp (L - en) en)
            · rw [if_pos y4, if_pos (.inr y4)]
            · rw [if_neg y4, if_neg (by simp only [y3, y4, or_self, not_false_eq_true])]
        · rw [if_neg y1, if_pos (z1.resolve_left y1)]
          by_cases y3 : tp (zskp tp (L - en) en) < 48
          · rw [if_pos y3, if_pos (.inl y3)]
          · rw [if_neg y3]
            by_cases y4 : 57 < tp (zskp tp (L - en) en)
            · rw [if_pos y4, if_pos (.inr y4)]
            · rw [if_neg y4, if_neg (by simp only [y3, y4, or_self, not_false_eq_true])]
      by_cases z2 : tp (zskp tp (L - en) en) < 48 ∨ 57 < tp (zskp tp (L - en) en)
      · obtain ⟨F', q1, q2⟩ := jX9_takeSign (d := d - 1) (by omega) o2 T2 (tp (zskp tp (L - en) en))
        rw [nzset_set] at q1
        refine ⟨F', iX9_next (by omega) o ?_, ?_⟩
        · rw [st, s31, if_pos z2, q1, Option.bind_some]
        · simp only [ztok, if_pos z, if_pos z1, if_pos z2]
          exact ⟨q2, by omega, by omega⟩
      · obtain ⟨F', q1, q2⟩ := jX9_takeWhole (d := d - 1) hL (by omega) (by omega) o2 b2 T2
        rw [nzset_set] at q1
        have w := zwho_le tp (L - zskp tp (L - en) en) (zskp tp (L - en) en) 0
        refine ⟨F', iX9_next (by omega) o ?_, ?_⟩
        · rw [st, s31, if_neg z2, q1, Option.bind_some]
        · simp only [ztok, if_pos z, if_pos z1, if_neg z2]
          exact ⟨q2, by omega, by omega⟩
    · obtain ⟨F', q1, q2⟩ := jX9_takeWord (d := d - 1) hL (by omega) (by omega) o2 b2 T2
      rw [nzset_set] at q1
      have w := zwrd_le tp (L - zskp tp (L - en) en) (zskp tp (L - en) en) 0 0
      refine ⟨F', iX9_next (by omega) o ?_, ?_⟩
      · rw [st, s30, if_neg (fun y => z1 (.inl y)), if_neg (fun y => z1 (.inr y)), q1, Option.bind_some]
      · simp only [ztok, if_pos z, if_neg z1]
        exact ⟨q2, by omega, by omega⟩
  · rw [if_neg (nI_nlt (by omega) (by omega)), zp_of o2, Option.bind_some, nzset_set] at s30
    refine ⟨_, iX9_next (by omega) o (st.trans s30), ?_⟩
    simp only [ztok, if_neg z]
    exact ⟨zT_3 T2 0, Nat.le_refl _, by omega⟩
/-- do the bytes from p on spell l -/
def zspl (tp : Nat → Int32) (p : Nat) (l : List Nat) : Nat → Nat → Bool
  | _, 0 => true
  | i, j + 1 => if tp (p + i) = nI (l.getD i 0) then zspl tp p l (i + 1) j else false
def zisw (tp : Nat → Int32) (kd : Int32) (pl en : Nat) (l : List Nat) : Bool := decide (kd = 1) && (decide (l.length = en - pl) && zspl tp pl l 0 l.length)
theorem jX9_iw28 {k : UInt32} {l : List Nat} (s : zstr k l) (hd : 3 < d) (o : zobj h 2 9 F) (b : zbyt h 3 900 tp) (T : zT F hl L kd pl en pk le va) (hp : pl + l.length ≤ 900) : ∀ (j i : Nat), i + j = l.length → nzr d nX9_isWord 28 [some (.ref 2), some (.float k), some (.int (nI i))] [] h = some (some (.int (if zspl tp pl l i j then 1 else 0)), h) := by
  have hl := s.2.2.2.2.2.1
  intro j
  induction j with
  | zero =>
    intro i hi
    rw [eX9_isWord_28, jJ0_length s (by omega), Option.bind_some, if_pos (nI_le (by omega) (by omega))]
    rfl
  | succ j ih =>
    intro i hi
    rw [eX9_isWord_28, jJ0_length s (by omega), Option.bind_some, if_neg (nI_ge (by omega) (by omega)), zg_R o T.1, Option.bind_some, zg_I o T.2.2.2.2.1, Option.bind_some, nI_add, za_Bn b (show pl + i < 900 by omega) (by decide), Option.bind_some, jJ0_charAt s hd (show i < l.length by omega), Option.bind_some, zspl, nI_1]
    by_cases z : tp (pl + i) = nI (l.getD i 0)
    · rw [if_pos z, if_pos z]
      exact ih (i + 1) (by omega)
    · rw [if_neg z, if_neg z]
      rfl
theorem jX9_isWord {k : UInt32} {l : List Nat} (s : zstr k l) (hd : 4 < d) (o : zobj h 2 9 F) (b : zbyt h 3 900 tp) (T : zT F hl L kd pl en pk le va) (hpe : pl ≤ en) (he : en ≤ L) (hL : L ≤ 900) : nzxI d nX9_isWord [.ref 2, .float k] h = some (if zisw tp kd pl en l then 1 else 0, h) := by
  have hl := s.2.2.2.2.2.1
  refine iX9_isWord (by omega) o ?_
  rw [eX9_isWord_0, zg_I o T.2.2.2.1, Option.bind_some, zisw]
  by_cases z1 : kd = 1
  · rw [if_pos z1, jJ0_length s (by omega), Option.bind_some, zg_I o T.2.2.2.2.2.1, Option.bind_some, zg_I o T.2.2.2.2.1, Option.bind_some, pk_sub hpe]
    by_cases z2 : l.length = en - pl
    · rw [if_pos (show nI l.length = nI (en - pl) by rw [z2])]
      refine (jX9_iw28 s (d := d - 1) (by omega) o b T (by omega) l.length 0 (by omega)).trans ?_
      rw [decide_eq_true z1, decide_eq_true z2, Bool.true_and, Bool.true_and]
    · rw [if_neg (fun y => z2 ((nI_eq (by omega) (by omega)).mp y)), eX9_isWord_24, decide_eq_false z2, Bool.false_and, Bool.and_false]
      rfl
  · rw [if_neg z1, eX9_isWord_24, decide_eq_false z1, Bool.false_and]
    rfl
theorem jX9_hasRoom (hd : 0 < d) (o : zobj h 2 9 F) (T : zT F hl L kd pl en pk le va) (x : Int32) : nzxI d nX9_hasRoom [.ref 2, .int x] h = some (if 900 < nI hl + x then 0 else 1, h) := by
  refine iX9_hasRoom hd o ?_
  rw [eX9_hasRoom_0, zg_I o T.2.1, Option.bind_some]
  split <;> rfl
theorem jX9_empty (hd : 0 < d) (o : zobj h 2 9 F) (T : zT F hl L kd pl en pk le va) : ∃ F', nzxV d nX9_empty [.ref 2] h = some (nzset h 2 (.inr (9, F'))) ∧ zT F' 0 L kd pl en pk le va := by
  refine ⟨_, iX9_empty hd o ?_, zT_1 T 0⟩
  rw [eX9_empty_0, zp_of o, Option.bind_some, nI_0]
theorem jX9_open (hd : 2 < d) (hh : hl ≤ 900) {m : Nat} (hm : m ≤ hl) (o : zobj h 2 9 F) (b : zbyt h 3 900 tp) (T : zT F hl L kd pl en pk le va) : ∃ F', nzxV d nX9_open [.ref 2, .int (nI m)] h = some (nzset h 2 (.inr (9, F'))) ∧ zT F' hl m (ztok tp m 0 (pk, le, va)).1 (ztok tp m 0 (pk, le, va)).2.1 (ztok tp m 0 (pk, le, va)).2.2.1 (ztok tp m 0 (pk, le, va)).2.2.2.1 (ztok tp m 0 (pk, le, va)).2.2.2.2.1 (ztok tp m 0 (pk, le, va)).2.2.2.2.2 ∧ (ztok tp m 0 (pk, le, va)).2.1 ≤ (ztok tp m 0 (pk, le, va)).2.2.1 ∧ (ztok tp m 0 (pk, le, va)).2.2.1 ≤ m := by
  have e : (if 0 < (if nI hl < nI m then nI hl else nI m) then (if nI hl < nI m then nI hl else nI m) else 0) = nI m := by
    rw [if_neg (nI_nlt hm (by omega))]
    by_cases z : m = 0
    · subst z; decide
    · rw [if_pos (show 0 < nI m from nI_lt (a := 0) (by omega) (by omega))]
  have T1 := zT_2 T m
  have T2 := zT_5 T1 0
  have o1 : zobj (nzset h 2 (.inr (9, va_up F 2 (.int (nI m))))) 2 9 _ := zc_setS _ _ _
  obtain ⟨F', q1, q2⟩ := jX9_next (d := d - 1) (show m ≤ 900 by omega) (by omega) (Nat.zero_le m) (show zobj (nzset h 2 (.inr (9, va_up (va_up F 2 (.int (nI m))) 5 (.int (nI 0))))) 2 9 _ from zc_setS _ _ _) ((zc_setN (by decide)).trans b) T2
  rw [nzset_set] at q1
  refine ⟨F', iX9_open (by omega) o ?_, q2⟩
  rw [eX9_open_0, zg_I o T.2.1, Option.bind_some, e, zp_of o, Option.bind_some, zp_of o1, Option.bind_some, nzset_set]
  rw [nI_0] at q1
  rw [q1, Option.bind_some]
end NZT3
