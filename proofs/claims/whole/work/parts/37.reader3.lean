/-! the reader: new names, unlike days, the start of a line, what lacks -/
def zpUd (tp : Nat → Int32) (L : Nat) : Nat → Int32 → zrs → Bool × zrs
  | 0, _, S => (false, zsFl 1 S)
  | j + 1, days, S => if S.1.1 = 2 then (if S.1.2.2.2.2.2 < 7 then (if days &&& (1 <<< (S.1.2.2.2.2.2 &&& 31)) = 0 then (if (zsTk tp L 0 (days ||| (1 <<< (S.1.2.2.2.2.2 &&& 31))) S).1.1 = 4 then zpUd tp L j (days ||| (1 <<< (S.1.2.2.2.2.2 &&& 31))) (zsNx tp L (zsTk tp L 0 (days ||| (1 <<< (S.1.2.2.2.2.2 &&& 31))) S)) else (true, zsTk tp L 0 (days ||| (1 <<< (S.1.2.2.2.2.2 &&& 31))) S)) else (false, zsFl 3 S)) else (false, zsFl 4 S)) else (false, zsFl 1 S)
/-- the sort of a line set, a row added: how many there are is told by the counts -/
def zsSo (s : Int32) (S : zrs) : zrs := (S.1, (s, S.2.1.2), S.2.2)
def zsAd (s n : Nat) (S : zrs) : zrs := (S.1, S.2.1, S.2.2.1, upd S.2.2.2.1 s (nI (n + 1)), S.2.2.2.2)
section NZR4
variable {d : Nat} {h : nzH} {t : Nat} {tp : Nat → Int32} {hl L : Nat} {S : zrs}
theorem jX1_ud4 (hd : 5 < d) : ∀ (j i : Nat) (h : nzH) (S : zrs) (days : Int32), i + j = 8 → zrd h t tp hl L S → zrok S → ∃ h1, nzr d nX1_unlikeDays 4 [some (.ref 1), some (.int days), some (.int (nI i))] [] h = some (some (.int (if (zpUd tp L j days S).1 then 1 else 0)), h1) ∧ zrd h1 t tp hl L (zpUd tp L j days S).2 ∧ zrfr t h h1 := by
  intro j
  induction j with
  | zero =>
    intro i h S days hi D K
    obtain ⟨h1, q1, q2, q3⟩ := jX1_fail (d := d) D (by omega) 1
    refine ⟨h1, ?_, q2, q3⟩
    rw [eX1_unlikeDays_4, if_pos (show 7 < nI i from nI_lt (a := 7) (by omega) (by omega)), q1, Option.bind_some, if_pos zbN0]
    rfl
  | succ j ih =>
    intro i h S days hi D K
    have g := zrd_kind D
    rw [eX1_unlikeDays_4, if_neg (show ¬ 7 < nI i from nI_nlt (a := 7) (b := i) (by omega) (by decide)), g.1, Option.bind_some, g.2.1, Option.bind_some, zpUd]
    by_cases z1 : S.1.1 = 2
    · simp only [if_pos z1, Option.bind_some, g.1, g.2.2.2.1]
      by_cases z2 : S.1.2.2.2.2.2 < 7
      · simp only [if_pos z2]
        by_cases z3 : days &&& (1 <<< (S.1.2.2.2.2.2 &&& 31)) = 0
        · simp only [if_pos z3]
          obtain ⟨h1, q1, q2, q3⟩ := jX1_take (d := d) D K (by omega) (k := 0) (by decide) (show (0 : Int32) = nI 0 from rfl) (days ||| (1 <<< (S.1.2.2.2.2.2 &&& 31)))
          have g2 := zrd_kind q2
          rw [q1, Option.bind_some, g2.1, Option.bind_some, g2.2.1, Option.bind_some]
          by_cases z4 : (zsTk tp L 0 (days ||| (1 <<< (S.1.2.2.2.2.2 &&& 31))) S).1.1 = 4
          · simp only [if_pos z4]
            obtain ⟨h2, w1, w2, w3⟩ := jX1_next (d := d) q2 (by omega)
            obtain ⟨h3, y1, y2, y3⟩ := ih (i + 1) h2 _ (days ||| (1 <<< (S.1.2.2.2.2.2 &&& 31))) (by omega) w2 K
            refine ⟨h3, ?_, y2, zrfr_tr q3 (zrfr_tr w3 y3)⟩
            rw [Option.bind_some, w1, Option.bind_some, nI_1]
            exact y1
          · simp only [if_neg z4]
            exact ⟨h1, rfl, q2, q3⟩
        · simp only [if_neg z3]
          obtain ⟨h1, q1, q2, q3⟩ := jX1_fail (d := d) D (by omega) 3
          refine ⟨h1, ?_, q2, q3⟩
          rw [q1, Option.bind_some, if_pos zbN0]
          rfl
      · simp only [if_neg z2]
        obtain ⟨h1, q1, q2, q3⟩ := jX1_fail (d := d) D (by omega) 4
        refine ⟨h1, ?_, q2, q3⟩
        rw [q1, Option.bind_some, if_pos zbN0]
        rfl
    · simp only [if_neg z1]
      obtain ⟨h1, q1, q2, q3⟩ := jX1_fail (d := d) D (by omega) 1
      refine ⟨h1, ?_, q2, q3⟩
      rw [q1, Option.bind_some, if_pos zbN0]
      rfl
theorem jX1_unlikeDays (D : zrd h t tp hl L S) (K : zrok S) (hd : 6 < d) : ∃ h1, nzxI d nX1_unlikeDays [.ref 1] h = some (if (zpUd tp L 8 0 S).1 then 1 else 0, h1) ∧ zrd h1 t tp hl L (zpUd tp L 8 0 S).2 ∧ zrfr t h h1 := by
  obtain ⟨h1, q1, q2⟩ := jX1_ud4 (d := d - 1) (by omega) 8 0 h S 0 (by omega) D K
  refine ⟨h1, iX1_unlikeDays (by omega) D.1.choose_spec.1 ?_, q2⟩
  rw [eX1_unlikeDays_0]
  exact q1
theorem jX1_newName (D : zrd h t tp hl L S) (K : zrok S) (hd : 7 < d) : ∃ h1, nzxI d nX1_newName [.ref 1] h = some (if (zpNn tp L S).1 then 1 else 0, h1) ∧ zrd h1 t tp hl L (zpNn tp L S).2 ∧ zrfr t h h1 := by
  have g := zrd_kind D
  have hn := jX1_isName (d := d - 1) D (by omega)
  have hf := jX1_findName (d := d - 1) D (by omega)
  by_cases z : zisN tp S.1 = true
  · rw [if_pos z] at hn
    by_cases y : zfnd S.2.2.1.2.1 S.1.2.2.2.1 0 S.2.2.1.1 = -1
    · simp only [zpNn, if_pos z, if_pos y]
      by_cases w : S.2.2.1.1 < 32
      · obtain ⟨s, n, hs, h1', h6, es, en⟩ := K
        obtain ⟨⟨F, o, e0, e1, e2, e3, e4, e5, e6, e7, e8⟩, ⟨⟨F2, o2, T⟩, b, q1, q2, q3, q4⟩, ⟨n1, n2, n3, n4⟩, E, ht⟩ := D
        have o3 : zobj (nzset h 4 (.inl (.long, 32, .inr (.inl (vp_updL S.2.2.1.2.1 S.2.2.1.1 S.1.2.2.2.1))))) 1 1 F := (zc_setN (by decide)).trans o
        have o4 : zobj (nzset (nzset h 4 (.inl (.long, 32, .inr (.inl (vp_updL S.2.2.1.2.1 S.2.2.1.1 S.1.2.2.2.1))))) 5 (.inl (.int, 32, .inl (upd S.2.2.1.2.2.1 S.2.2.1.1 S.2.1.1)))) 1 1 F := (zc_setN (by decide)).trans o3
        have E4 : zday (nzset (nzset h 4 (.inl (.long, 32, .inr (.inl (vp_updL S.2.2.1.2.1 S.2.2.1.1 S.1.2.2.2.1))))) 5 (.inl (.int, 32, .inl (upd S.2.2.1.2.2.1 S.2.2.1.1 S.2.1.1)))) t S.2.2.2.1 S.2.2.2.2 := zday_sm (zday_sm E (zsm_set _ _ (by omega))) (zsm_set _ _ (by omega))
        have o5 : zobj (nzset (nzset (nzset h 4 (.inl (.long, 32, .inr (.inl (vp_updL S.2.2.1.2.1 S.2.2.1.1 S.1.2.2.2.1))))) 5 (.inl (.int, 32, .inl (upd S.2.2.1.2.2.1 S.2.2.1.1 S.2.1.1)))) 6 (.inl (.int, 32, .inl (upd S.2.2.1.2.2.2 S.2.2.1.1 (S.2.2.2.1 S.2.1.1.toNatClampNeg - 1))))) 1 1 F := (zc_setN (by decide)).trans o4
        have D6 : zrd (nzset (nzset (nzset (nzset h 4 (.inl (.long, 32, .inr (.inl (vp_updL S.2.2.1.2.1 S.2.2.1.1 S.1.2.2.2.1))))) 5 (.inl (.int, 32, .inl (upd S.2.2.1.2.2.1 S.2.2.1.1 S.2.1.1)))) 6 (.inl (.int, 32, .inl (upd S.2.2.1.2.2.2 S.2.2.1.1 (S.2.2.2.1 S.2.1.1.toNatClampNeg - 1))))) 1 (.inr (1, va_up F 5 (.int (nI (S.2.2.1.1 + 1)))))) t tp hl L (zsNm S) := by
          rw [zsNm, if_pos w]
          exact ⟨⟨_, zc_setS _ _ _, by simp [va_up, e0], by simp [va_up, e1], by simp [va_up, e2], by simp [va_up, e3], by simp [va_up, e4], by simp [va_up], by simp [va_up, e6], by simp [va_up, e7], by simp [va_up, e8]⟩, ⟨⟨F2, (zc_setN (by decide)).trans ((zc_setN (by decide)).trans ((zc_setN (by decide)).trans ((zc_setN (by decide)).trans o2))), T⟩, (zc_setN (by decide)).trans ((zc_setN (by decide)).trans ((zc_setN (by decide)).trans ((zc_setN (by decide)).trans b))), q1, q2, q3, q4⟩, ⟨(zc_setN (by decide)).trans ((zc_setN (by decide)).trans ((zc_setN (by decide)).trans (zc_setS _ _ _))), (zc_setN (by decide)).trans ((zc_setN (by decide)).trans (zc_setS _ _ _)), (zc_setN (by decide)).trans (zc_setS _ _ _), w⟩, zday_sm (zday_sm E4 (zsm_set _ _ (by omega))) (zsm_set _ _ (by omega)), ht⟩
        obtain ⟨h7, y1, y2, y3⟩ := jX1_next (d := d - 1) D6 (by omega)
        refine ⟨h7, iX1_newName (by omega) o ?_, y2, zrfr_tr (zrfr_tr (zrfr_tr (zrfr_tr (zrfr_set h _ (.inl (by decide))) (zrfr_set _ _ (.inl (by decide)))) (zrfr_set _ _ (.inl (by decide)))) (zrfr_set _ _ (.inl (by decide)))) y3⟩
        have ec : zrow S.2.2.2.1 S.2.1.1 = S.2.2.2.1 S.2.1.1.toNatClampNeg := by rw [es, zrow_n _ hs, nI_clamp (by omega)]
        rw [eX1_newName_0, hn, Option.bind_some, if_neg (show ¬ (1 : Int32) = 0 by decide), hf, Option.bind_some, if_pos y, zg_I o e5, Option.bind_some, if_neg (show ¬ 32 ≤ nI S.2.2.1.1 from nI_ge (b := 32) w (by decide)), zg_R o e1, Option.bind_some, Option.bind_some, zg_R o e0, Option.bind_some, zg_L o2 T.2.2.2.2.2.2.1, Option.bind_some, zs_Ln n1 w (by decide), Option.bind_some, zg_R o3 e2, Option.bind_some, zg_I o3 e5, Option.bind_some, zg_I o3 e6, Option.bind_some, zs_In (f := S.2.2.1.2.2.1) ((zc_setN (by decide)).trans n2) w (by decide), Option.bind_some, zg_R o4 e3, Option.bind_some, zg_I o4 e5, Option.bind_some, zg_R o4 e4, Option.bind_some, zg_I o4 e6, Option.bind_some, jX0_rows E4 (by omega), Option.bind_some, ec, zs_In (f := S.2.2.1.2.2.2) ((zc_setN (by decide)).trans ((zc_setN (by decide)).trans n3)) w (by decide), Option.bind_some, zg_I o5 e5, Option.bind_some, nI_1, zp_of o5, Option.bind_some, eX1_newName_97, (zrd_kind D6).1, Option.bind_some, y1, Option.bind_some]
        rfl
      · obtain ⟨h1, q1, q2, q3⟩ := jX1_next (d := d - 1) D (by omega)
        rw [zsNm, if_neg w]
        refine ⟨h1, iX1_newName (by omega) D.1.choose_spec.1 ?_, q2, q3⟩
        have n4 := D.2.2.1.2.2.2
        rw [eX1_newName_0, hn, Option.bind_some, if_neg (show ¬ (1 : Int32) = 0 by decide), hf, Option.bind_some, if_pos y, g.2.2.2.2.2.2.2.1, Option.bind_some, if_pos (show 32 ≤ nI S.2.2.1.1 from nI_le (a := 32) (by omega) (by omega)), eX1_newName_97, g.1, Option.bind_some, q1, Option.bind_some]
        rfl
    · obtain ⟨h1, q1, q2, q3⟩ := jX1_fail (d := d - 1) D (by omega) 3
      simp only [zpNn, if_pos z, if_neg y]
      refine ⟨h1, iX1_newName (by omega) D.1.choose_spec.1 ?_, q2, q3⟩
      rw [eX1_newName_0, hn, Option.bind_some, if_neg (show ¬ (1 : Int32) = 0 by decide), hf, Option.bind_some, if_neg y, q1, Option.bind_some, if_pos zbN0]
      rfl
  · rw [if_neg z] at hn
    obtain ⟨h1, q1, q2, q3⟩ := jX1_fail (d := d - 1) D (by omega) 1
    simp only [zpNn, if_neg z]
    refine ⟨h1, iX1_newName (by omega) D.1.choose_spec.1 ?_, q2, q3⟩
    rw [eX1_newName_0, hn, Option.bind_some, if_pos rfl, q1, Option.bind_some, if_pos zbN0]
    rfl
theorem jX1_lacksNothing (D : zrd h t tp hl L S) (hd : 2 < d) : ∃ h1, nzxI d nX1_lacksNothing [.ref 1] h = some (if S.2.2.2.1 8 = 0 ∨ S.2.2.2.1 3 = 0 ∨ S.2.2.2.1 4 = 0 then 0 else 1, h1) ∧ zrd h1 t tp hl L (if S.2.2.2.1 8 = 0 ∨ S.2.2.2.1 3 = 0 ∨ S.2.2.2.1 4 = 0 then zsFl 6 S else S) ∧ zrfr t h h1 := by
  have g := zrd_kind D
  have E := D.2.2.2.1
  obtain ⟨h1, q1, q2, q3⟩ := jX1_fail (d := d - 1) D (by omega) 6
  have r8 : zrow S.2.2.2.1 8 = S.2.2.2.1 8 := zrow_n _ (s := 8) (by decide)
  have r3 : zrow S.2.2.2.1 3 = S.2.2.2.1 3 := zrow_n _ (s := 3) (by decide)
  have r4 : zrow S.2.2.2.1 4 = S.2.2.2.1 4 := zrow_n _ (s := 4) (by decide)
  have st : nzr (d - 1) nX1_lacksNothing 0 [some (.ref 1), none] [] h = if S.2.2.2.1 8 = 0 ∨ S.2.2.2.1 3 = 0 ∨ S.2.2.2.1 4 = 0 then some (some (.int 0), h1) else some (some (.int 1), h) := by
    simp only [eX1_lacksNothing_0, g.2.2.2.2.2.1, Option.bind_some, jX0_rows E (show 0 < d - 1 by omega), r8, r3, r4, eX1_lacksNothing_34, eX1_lacksNothing_39, eX1_lacksNothing_53, q1, if_true, show ¬ (1 : Int32) = 0 by decide, if_false]
    by_cases z8 : S.2.2.2.1 8 = 0
    · simp only [if_pos z8, z8, true_or, if_true]
    · by_cases z3 : S.2.2.2.1 3 = 0
      · simp only [if_neg z8, if_pos z3, z3, true_or, or_true, if_true]
      · by_cases z4 : S.2.2.2.1 4 = 0
        · simp only [if_neg z8, if_neg z3, if_pos z4, z4, or_true, if_true]
        · simp only [if_neg z8, if_neg z3, if_neg z4, z8, z3, z4, or_self, if_false]
  by_cases z : S.2.2.2.1 8 = 0 ∨ S.2.2.2.1 3 = 0 ∨ S.2.2.2.1 4 = 0
  · simp only [if_pos z] at st ⊢
    exact ⟨h1, iX1_lacksNothing (by omega) D.1.choose_spec.1 st, q2, q3⟩
  · simp only [if_neg z] at st ⊢
    exact ⟨h, iX1_lacksNothing (by omega) D.1.choose_spec.1 st, D, zrfr_rfl _ _⟩
end NZR4
