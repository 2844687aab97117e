/-! the reader: a line begun, a text read -/
theorem zsol_ix (tp : Nat → Int32) (k : ztkn) : zsol tp k = -1 ∨ ∃ s, s < 9 ∧ zsol tp k = nI s := by
  unfold zsol
  repeat' split
  · exact .inr ⟨8, by decide, rfl⟩
  · exact .inr ⟨0, by decide, rfl⟩
  · exact .inr ⟨5, by decide, rfl⟩
  · exact .inr ⟨1, by decide, rfl⟩
  · exact .inr ⟨2, by decide, rfl⟩
  · exact .inr ⟨3, by decide, rfl⟩
  · exact .inr ⟨4, by decide, rfl⟩
  · exact .inr ⟨6, by decide, rfl⟩
  · exact .inr ⟨7, by decide, rfl⟩
  · exact .inl rfl
/-- a line begun -/
def zpBl (tp : Nat → Int32) (L : Nat) (S : zrs) : Bool × zrs := if zsol tp S.1 = -1 then (false, zsFl 1 (zsSo (zsol tp S.1) S)) else
  if (S.2.2.2.1 (zsol tp S.1).toNatClampNeg).toNatClampNeg < zroom (zsol tp S.1).toNatClampNeg then (true, zsNx tp L (zsAd (zsol tp S.1).toNatClampNeg (S.2.2.2.1 (zsol tp S.1).toNatClampNeg).toNatClampNeg (zsSo (zsol tp S.1) S)))
  else (false, zsFl (if zsol tp S.1 = 8 then 3 else 5) (zsSo (zsol tp S.1) S))
def zpRd (tp : Nat → Int32) (L : Nat) : Nat → zrs → Bool × zrs
  | 0, S => (false, zsFl 1 S)
  | j + 1, S => if (zpBl tp L S).1 then
      (if (zpAll (zLn tp L (zpBl tp L S).2.2.1.1.toNatClampNeg) (zpBl tp L S).2).1 then
        (if (zpAll (zLn tp L (zpBl tp L S).2.2.1.1.toNatClampNeg) (zpBl tp L S).2).2.1.1 = 0 then
          (if (zpAll (zLn tp L (zpBl tp L S).2.2.1.1.toNatClampNeg) (zpBl tp L S).2).2.2.2.2.1 8 = 0 ∨ (zpAll (zLn tp L (zpBl tp L S).2.2.1.1.toNatClampNeg) (zpBl tp L S).2).2.2.2.2.1 3 = 0 ∨ (zpAll (zLn tp L (zpBl tp L S).2.2.1.1.toNatClampNeg) (zpBl tp L S).2).2.2.2.2.1 4 = 0 then (false, zsFl 6 (zpAll (zLn tp L (zpBl tp L S).2.2.1.1.toNatClampNeg) (zpBl tp L S).2).2) else (true, (zpAll (zLn tp L (zpBl tp L S).2.2.1.1.toNatClampNeg) (zpBl tp L S).2).2))
        else if (zpAll (zLn tp L (zpBl tp L S).2.2.1.1.toNatClampNeg) (zpBl tp L S).2).2.1.1 = 3 then zpRd tp L j (zsNx tp L (zpAll (zLn tp L (zpBl tp L S).2.2.1.1.toNatClampNeg) (zpBl tp L S).2).2)
        else (false, zsFl 1 (zpAll (zLn tp L (zpBl tp L S).2.2.1.1.toNatClampNeg) (zpBl tp L S).2).2))
      else (false, (zpAll (zLn tp L (zpBl tp L S).2.2.1.1.toNatClampNeg) (zpBl tp L S).2).2))
    else (false, (zpBl tp L S).2)
section NZB
variable {d t : Nat} {tp : Nat → Int32} {hl L : Nat}
theorem jX1_beginLine {h : nzH} {S : zrs} (D : zrd h t tp hl L S) (hd : 6 < d) : ∃ h1, nzxI d nX1_beginLine [.ref 1] h = some (if (zpBl tp L S).1 then 1 else 0, h1) ∧ zrd h1 t tp hl L (zpBl tp L S).2 ∧ zrfr t h h1 ∧ ((zpBl tp L S).1 = true → zrok (zpBl tp L S).2 ∧ ∃ s, s < 9 ∧ (zpBl tp L S).2.2.1.1 = nI s) := by
  have so := jX1_sortOfLine (d := d - 1) D (by omega)
  obtain ⟨F, o, e0, e1, e2, e3, e4, e5, e6, e7, e8⟩ := D.1
  have D1 : zrd (nzset h 1 (.inr (1, va_up F 6 (.int (zsol tp S.1))))) t tp hl L (zsSo (zsol tp S.1) S) := by
    obtain ⟨-, ⟨⟨F2, o2, T⟩, b, q⟩, ⟨n1, n2, n3, n4⟩, E, ht⟩ := D
    exact ⟨⟨_, zc_setS _ _ _, by simp [va_up, e0], by simp [va_up, e1], by simp [va_up, e2], by simp [va_up, e3], by simp [va_up, e4], by simp [va_up, e5, zsSo], by simp [va_up, zsSo], by simp [va_up, e7, zsSo], by simp [va_up, e8, zsSo]⟩, ⟨⟨F2, (zc_setN (by decide)).trans o2, T⟩, (zc_setN (by decide)).trans b, q⟩, ⟨(zc_setN (by decide)).trans n1, (zc_setN (by decide)).trans n2, (zc_setN (by decide)).trans n3, n4⟩, zday_sm E (zsm_set _ _ (by omega)), ht⟩
  have fr1 : zrfr t h (nzset h 1 (.inr (1, va_up F 6 (.int (zsol tp S.1))))) := zrfr_set _ _ (.inl (by decide))
  have g1 := zrd_kind D1
  have g16 : nzgI (nzset h 1 (.inr (1, va_up F 6 (.int (zsol tp S.1))))) 1 1 6 = some (zsol tp S.1) := g1.2.2.2.2.2.2.1
  have st : nzr (d - 1) nX1_beginLine 0 [some (.ref 1)] [] h = _ := eX1_beginLine_0 _ _ _
  rw [so, Option.bind_some, zp_of o, Option.bind_some, g16, Option.bind_some] at st
  rcases zsol_ix tp S.1 with z | ⟨s, hs, z⟩
  · obtain ⟨h1, q1, q2, q3⟩ := jX1_fail (d := d - 1) D1 (by omega) 1
    simp only [zpBl, if_pos z]
    refine ⟨h1, iX1_beginLine (by omega) o ?_, q2, zrfr_tr fr1 q3, fun w => by cases w⟩
    rw [st, if_pos z, q1, Option.bind_some, if_pos zbN0]
    rfl
  · have zn : ¬ zsol tp S.1 = -1 := by
      intro w
      rw [w] at z
      exact nI_pos (n := s) (by omega) (by rw [← z]; decide)
    obtain ⟨n, hn, en⟩ := D.2.2.2.1.2.2.2 s hs
    have cs : (zsol tp S.1).toNatClampNeg = s := by rw [z, nI_clamp (by omega)]
    have cn : (S.2.2.2.1 s).toNatClampNeg = n := by rw [en, nI_clamp (by omega)]
    obtain ⟨h2, q1, q2, q3⟩ := jX0_addRow (d := d - 1) D1.2.2.2.1 (by omega) hs en hn
    rw [← z] at q1
    rw [if_neg zn, g1.2.2.2.2.2.1, Option.bind_some, Option.bind_some, q1, Option.bind_some] at st
    by_cases y : n < zroom s
    · rw [if_pos y] at q2
      rw [if_pos y, if_neg (show ¬ (1 : Int32) = 0 by decide)] at st
      have D2 : zrd h2 t tp hl L (zsAd s n (zsSo (zsol tp S.1) S)) := by
        obtain ⟨⟨F, o, e⟩, ⟨⟨F2, o2, T⟩, b, w⟩, ⟨n1, n2, n3, n4⟩, E, ht⟩ := D1
        exact ⟨⟨F, (q3.2.2.2 1 (by omega)).trans o, e⟩, ⟨⟨F2, (q3.2.2.2 2 (by omega)).trans o2, T⟩, (q3.2.2.2 3 (by omega)).trans b, w⟩, ⟨(q3.2.2.2 4 (by omega)).trans n1, (q3.2.2.2 5 (by omega)).trans n2, (q3.2.2.2 6 (by omega)).trans n3, n4⟩, q2, ht⟩
      obtain ⟨h3, w1, w2, w3⟩ := jX1_next (d := d - 1) D2 (by omega)
      have hr := (zroom_I s hs).2
      simp only [zpBl, if_neg zn, cs, cn, if_pos y]
      refine ⟨h3, iX1_beginLine (by omega) o ?_, w2, zrfr_tr fr1 (zrfr_tr (zrfr_fr q3) w3), fun _ => ⟨⟨s, n + 1, hs, by omega, by omega, z, if_pos rfl⟩, s, hs, z⟩⟩
      rw [st, (zrd_kind D2).1, Option.bind_some, w1, Option.bind_some]
      rfl
    · rw [if_neg y] at q2
      rw [if_neg y, if_pos rfl] at st
      have D2 : zrd h2 t tp hl L (zsSo (zsol tp S.1) S) := by
        obtain ⟨⟨F, o, e⟩, ⟨⟨F2, o2, T⟩, b, w⟩, ⟨n1, n2, n3, n4⟩, E, ht⟩ := D1
        exact ⟨⟨F, (q3.2.2.2 1 (by omega)).trans o, e⟩, ⟨⟨F2, (q3.2.2.2 2 (by omega)).trans o2, T⟩, (q3.2.2.2 3 (by omega)).trans b, w⟩, ⟨(q3.2.2.2 4 (by omega)).trans n1, (q3.2.2.2 5 (by omega)).trans n2, (q3.2.2.2 6 (by omega)).trans n3, n4⟩, q2, ht⟩
      obtain ⟨h3, w1, w2, w3⟩ := jX1_fail (d := d - 1) D2 (by omega) (if zsol tp S.1 = 8 then 3 else 5)
      have g26 : nzgI h2 1 1 6 = some (zsol tp S.1) := (zrd_kind D2).2.2.2.2.2.2.1
      simp only [zpBl, if_neg zn, cs, cn, if_neg y]
      refine ⟨h3, iX1_beginLine (by omega) o ?_, w2, zrfr_tr fr1 (zrfr_tr (zrfr_fr q3) w3), fun w => by cases w⟩
      rw [st, g26, Option.bind_some]
      simp only [eX1_beginLine_51]
      by_cases x : zsol tp S.1 = 8
      · rw [if_pos x] at w1
        rw [if_pos x, w1, Option.bind_some, if_pos zbN0]
        rfl
      · rw [if_neg x] at w1
        rw [if_neg x, w1, Option.bind_some, if_pos zbN0]
        rfl
theorem jX1_read32 (hd : 8 < d) (m : Int32) : ∀ (j i : Nat) (h : nzH) (S : zrs), i + j = 901 → zrd h t tp hl L S → ∃ h1, nzr d nX1_read 32 [some (.ref 1), some (.int m), some (.int (nI i))] [] h = some (some (.int (if (zpRd tp L j S).1 then 1 else 0)), h1) ∧ zrd h1 t tp hl L (zpRd tp L j S).2 ∧ zrfr t h h1 := by
  intro j
  induction j with
  | zero =>
    intro i h S hi D
    obtain ⟨h1, q1, q2, q3⟩ := jX1_fail (d := d) D (by omega) 1
    refine ⟨h1, ?_, q2, q3⟩
    rw [eX1_read_32, if_pos (show 900 < nI i from nI_lt (a := 900) (by omega) (by omega)), q1, Option.bind_some, if_pos zbN0]
    rfl
  | succ j ih =>
    intro i h S hi D
    obtain ⟨h1, q1, q2, q3, q4⟩ := jX1_beginLine (d := d) D (by omega)
    rw [eX1_read_32, if_neg (show ¬ 900 < nI i from nI_nlt (a := 900) (b := i) (by omega) (by decide)), q1, Option.bind_some, zpRd, eX1_read_53]
    by_cases z1 : (zpBl tp L S).1 = true
    · obtain ⟨K, s, hs, es⟩ := q4 z1
      have cs : (zpBl tp L S).2.2.1.1.toNatClampNeg = s := by rw [es, nI_clamp (by omega)]
      obtain ⟨h2, w1, w2, w3, w4⟩ := jX1_readRest (d := d) q2 K hd hs es
      simp only [if_pos z1, show ¬ (1 : Int32) = 0 by decide, if_false, cs]
      rw [w1, Option.bind_some]
      have g := zrd_kind w2
      by_cases z2 : (zpAll (zLn tp L s) (zpBl tp L S).2).1 = true
      · simp only [if_pos z2, show ¬ (1 : Int32) = 0 by decide, if_false, g.1, Option.bind_some, g.2.1]
        by_cases z3 : (zpAll (zLn tp L s) (zpBl tp L S).2).2.1.1 = 0
        · simp only [if_pos z3]
          obtain ⟨h3, y1, y2, y3⟩ := jX1_lacksNothing (d := d) w2 (by omega)
          rw [y1, Option.bind_some]
          by_cases z4 : (zpAll (zLn tp L s) (zpBl tp L S).2).2.2.2.2.1 8 = 0 ∨ (zpAll (zLn tp L s) (zpBl tp L S).2).2.2.2.2.1 3 = 0 ∨ (zpAll (zLn tp L s) (zpBl tp L S).2).2.2.2.2.1 4 = 0
          · simp only [if_pos z4] at y2 ⊢
            exact ⟨h3, by rw [if_pos zbN0]; rfl, y2, zrfr_tr q3 (zrfr_tr w3 y3)⟩
          · simp only [if_neg z4] at y2 ⊢
            exact ⟨h3, by rw [if_pos zbN1]; rfl, y2, zrfr_tr q3 (zrfr_tr w3 y3)⟩
        · simp only [if_neg z3]
          by_cases z5 : (zpAll (zLn tp L s) (zpBl tp L S).2).2.1.1 = 3
          · simp only [if_pos z5]
            obtain ⟨h3, y1, y2, y3⟩ := jX1_next (d := d) w2 (by omega)
            obtain ⟨h4, x1, x2, x3⟩ := ih (i + 1) h3 _ (by omega) y2
            rw [y1, Option.bind_some, nI_1]
            exact ⟨h4, x1, x2, zrfr_tr q3 (zrfr_tr w3 (zrfr_tr y3 x3))⟩
          · simp only [if_neg z5]
            obtain ⟨h3, y1, y2, y3⟩ := jX1_fail (d := d) w2 (by omega) 1
            rw [y1, Option.bind_some, if_pos zbN0]
            exact ⟨h3, rfl, y2, zrfr_tr q3 (zrfr_tr w3 y3)⟩
      · simp only [if_neg z2, if_true, eX1_read_53]
        exact ⟨h2, rfl, w2, zrfr_tr q3 w3⟩
    · simp only [if_neg z1, if_true]
      exact ⟨h1, rfl, q2, q3⟩
end NZB
