/-! NoonMeals' calls: feed, tea, size, fault, where, led, share -/
def zf4 (x : Int32) (s : Nat × (Nat → Int32)) : Nat × (Nat → Int32) := zfed x 0 (zfed x 8 (zfed x 16 (zfed x 24 s)))
def zf20 (x1 x2 x3 x4 x5 : Int32) (s : Nat × (Nat → Int32)) : Nat × (Nat → Int32) := zf4 x5 (zf4 x4 (zf4 x3 (zf4 x2 (zf4 x1 s))))
theorem nI_ne1 {a : Nat} (h : a < 6) : ¬ nI a = -1 := by
  have : ∀ a, a < 6 → ¬ nI a = -1 := by decide +kernel
  exact this a h
section NZKF
variable {d : Nat} {h : nzH} {t u : Nat} {tr : Int32} {c g : Nat → Int32} {N : Nat → Nat} {R : Nat → Nat → Nat} {tea : Int32} {nf n : Nat} {Wt Pk : Nat → Nat → Int32} {O : Nat → Int32} {kn : Int32} {Hf : Nat → Nat} {tp : Nat → Int32} {hl L : Nat} {S : zrs}
theorem jX9_append (D : zrd h u tp hl L S) (hd : 0 < d) (x : Int32) : ∃ h1, nzxV d nX9_append [.ref 2, .int x] h = some h1 ∧ zrd h1 u (zf4 x (hl, tp)).2 (zf4 x (hl, tp)).1 L S ∧ zfr 2 4 h h1 := by
  obtain ⟨⟨F1, o1, a⟩, ⟨⟨F, o, T⟩, b, hh, hL, p1, p2⟩, n1, E, hu⟩ := D
  obtain ⟨h1, F', r, q1, q2, q3, q4, q5, q6, q7⟩ := jX9_ap3 (d := d - 1) x 4 h F hl tp (by omega) hh o b T
  have er : r = zf4 x (hl, tp) := q7
  rw [er] at q3 q4 q5
  refine ⟨h1, iX9_append hd o ?_, ⟨⟨F1, (q6.2.2.2 1 (by decide)).trans o1, a⟩, ⟨⟨F', q2, q4⟩, q3, q5, hL, p1, p2⟩, ?_, zday_sm E (zfr_sm q6 (by omega)), hu⟩, q6⟩
  · rw [eX9_append_0]
    exact q1
  · obtain ⟨m1, m2, m3, m4⟩ := n1
    exact ⟨(q6.2.2.2 4 (by decide)).trans m1, (q6.2.2.2 5 (by decide)).trans m2, (q6.2.2.2 6 (by decide)).trans m3, m4⟩
theorem zap (s : Nat × (Nat → Int32)) (D : zrd h u s.2 s.1 L S) (hd : 0 < d) (x : Int32) : ∃ h1, nzxV d nX9_append [.ref 2, .int x] h = some h1 ∧ zrd h1 u (zf4 x s).2 (zf4 x s).1 L S ∧ zfr 2 4 h h1 := by
  obtain ⟨hl, tp⟩ := s
  exact jX9_append D hd x
theorem zrd_2 (D : zrd h u tp hl L S) : nzgR h 1 1 0 = some 2 := (zrd_kind D).1
theorem zrd_hl (D : zrd h u tp hl L S) : nzgI h 2 9 1 = some (nI hl) := by
  obtain ⟨-, ⟨⟨F, o, T⟩, -⟩, -⟩ := D
  exact zg_I o T.2.1
theorem zX_feed_no (K : zK h t tr) (D : zrd h u tp hl L S) (hd : 20 < d) (x1 x2 x3 x4 x5 : Int32) (z : 900 < nI hl + 20) : nzxI d nX11_feed [.ref 0, .int x1, .int x2, .int x3, .int x4, .int x5] h = some (-1, h) := by
  obtain ⟨⟨F, o, T⟩, -⟩ := D.2.1
  refine iX11_feed (by omega) K.choose_spec.1 ?_
  rw [eX11_feed_0, zkR0 K, Option.bind_some, zrd_2 D, Option.bind_some, jX9_hasRoom (by omega) o T, Option.bind_some, if_pos z, if_pos rfl]
theorem zX_feed_ok (K : zK h t tr) (D : zrd h u tp hl L S) (hd : 20 < d) (x1 x2 x3 x4 x5 : Int32) (z : ¬ 900 < nI hl + 20) : ∃ h1, nzxI d nX11_feed [.ref 0, .int x1, .int x2, .int x3, .int x4, .int x5] h = some (nI (zf20 x1 x2 x3 x4 x5 (hl, tp)).1, h1) ∧ zrd h1 u (zf20 x1 x2 x3 x4 x5 (hl, tp)).2 (zf20 x1 x2 x3 x4 x5 (hl, tp)).1 L S ∧ zfr 2 4 h h1 := by
  obtain ⟨⟨F, o, T⟩, -⟩ := D.2.1
  obtain ⟨h1, a1, a2, a3⟩ := zap (d := d - 1) (hl, tp) D (by omega) x1
  obtain ⟨h2, b1, b2, b3⟩ := zap (d := d - 1) (zf4 x1 (hl, tp)) a2 (by omega) x2
  obtain ⟨h3, c1, c2, c3⟩ := zap (d := d - 1) (zf4 x2 (zf4 x1 (hl, tp))) b2 (by omega) x3
  obtain ⟨h4, d1, d2, d3⟩ := zap (d := d - 1) (zf4 x3 (zf4 x2 (zf4 x1 (hl, tp)))) c2 (by omega) x4
  obtain ⟨h5, e1, e2, e3⟩ := zap (d := d - 1) (zf4 x4 (zf4 x3 (zf4 x2 (zf4 x1 (hl, tp))))) d2 (by omega) x5
  rw [← zf20] at e2
  have K1 := zK_sm K (a3.2.2.2 0 (by decide))
  have K2 := zK_sm K1 (b3.2.2.2 0 (by decide))
  have K3 := zK_sm K2 (c3.2.2.2 0 (by decide))
  have K4 := zK_sm K3 (d3.2.2.2 0 (by decide))
  have K5 := zK_sm K4 (e3.2.2.2 0 (by decide))
  refine ⟨h5, iX11_feed (by omega) K.choose_spec.1 ?_, e2, zfr_tr a3 (zfr_tr b3 (zfr_tr c3 (zfr_tr d3 e3)))⟩
  rw [eX11_feed_0, zkR0 K, Option.bind_some, zrd_2 D, Option.bind_some, jX9_hasRoom (by omega) o T, Option.bind_some, if_neg z, if_neg (show ¬ (1 : Int32) = 0 by decide), zkR0 K, Option.bind_some, zrd_2 D, Option.bind_some, a1, Option.bind_some, zkR0 K1, Option.bind_some, zrd_2 a2, Option.bind_some, b1, Option.bind_some, zkR0 K2, Option.bind_some, zrd_2 b2, Option.bind_some, c1, Option.bind_some, zkR0 K3, Option.bind_some, zrd_2 c2, Option.bind_some, d1, Option.bind_some, zkR0 K4, Option.bind_some, zrd_2 d2, Option.bind_some, e1, Option.bind_some, zkR0 K5, Option.bind_some, zrd_2 e2, Option.bind_some, zrd_hl e2, Option.bind_some]
theorem zX_fault (K : zK h t tr) (D : zrd h u tp hl L S) (hd : 20 < d) : nzxI d nX11_fault [.ref 0] h = some (S.2.1.2.1, h) := by
  obtain ⟨F, o, e⟩ := D.1
  refine iX11_fault (by omega) K.choose_spec.1 ?_
  rw [eX11_fault_0, zkR0 K, Option.bind_some, zg_I o e.2.2.2.2.2.2.2.1, Option.bind_some]
theorem zX_where (K : zK h t tr) (D : zrd h u tp hl L S) (hd : 20 < d) : nzxI d nX11_where [.ref 0] h = some (if tr = 4 then S.2.1.2.2 else -1, h) := by
  obtain ⟨F, o, e⟩ := D.1
  by_cases y : tr = 4
  · rw [if_pos y]
    refine iX11_where (by omega) K.choose_spec.1 ?_
    rw [eX11_where_0, zkI K, Option.bind_some, if_pos y, zkR0 K, Option.bind_some, zg_I o e.2.2.2.2.2.2.2.2, Option.bind_some]
  · rw [if_neg y]
    refine iX11_where (by omega) K.choose_spec.1 ?_
    rw [eX11_where_0, zkI K, Option.bind_some, if_neg y]
/-- tea -/
theorem zX_tea_0 (K : zK h t tr) (E : zday h t c g) (hd : 20 < d) (x : Int32) (z : zrow c 3 = 0) : nzxI d nX11_tea [.ref 0, .int x] h = some (0, zp0 h 1) := by
  refine iX11_tea (by omega) K.choose_spec.1 ?_
  rw [eX11_tea_0, jX11_noDay K E (by omega), Option.bind_some, if_pos z, if_neg (show ¬ (1 : Int32) = 0 by decide), eX11_tea_28, zp0_of K, Option.bind_some, zkI (zp0_K K 1), Option.bind_some, if_neg (show ¬ (1 : Int32) = 0 by decide), eX11_tea_46, zkI (zp0_K K 1), Option.bind_some, if_neg (show ¬ (1 : Int32) = 0 by decide)]
theorem zX_tea_1 (K : zK h t tr) (E : zday h t c g) (hd : 20 < d) (x : Int32) (z : ¬ zrow c 3 = 0) (z2 : ¬ (x &&& (((1 <<< (zrow c 3 &&& 31)) - 1) ^^^ (-1))) = 0) : nzxI d nX11_tea [.ref 0, .int x] h = some (0, zp0 h 2) := by
  refine iX11_tea (by omega) K.choose_spec.1 ?_
  rw [eX11_tea_0, jX11_noDay K E (by omega), Option.bind_some, if_neg z, if_pos rfl, zkR9 K, Option.bind_some, jX0_hasHouses E (by omega), Option.bind_some, if_neg z2, if_pos rfl, eX11_tea_28, zp0_of K, Option.bind_some, zkI (zp0_K K 2), Option.bind_some, if_neg (show ¬ (2 : Int32) = 0 by decide), eX11_tea_46, zkI (zp0_K K 2), Option.bind_some, if_neg (show ¬ (2 : Int32) = 0 by decide)]
theorem zX_tea_2 (K : zK h t tr) (E : zday h t c g) (D : zrou h N R tea) (hd : 20 < d) (x : Int32) (z : ¬ zrow c 3 = 0) (z2 : (x &&& (((1 <<< (zrow c 3 &&& 31)) - 1) ^^^ (-1))) = 0) : ∃ h1, nzxI d nX11_tea [.ref 0, .int x] h = some (1, h1) ∧ zK h1 t 0 ∧ zrou h1 N R x ∧ zfr 0 1 h (zp0 h 0) ∧ zfr 10 17 (zp0 h 0) h1 := by
  have K0 := zp0_K K 0
  have f0 := zp0_fr K 0
  obtain ⟨⟨F, o, e0, e1, e2, e3⟩, p1, p2, p3, p4⟩ := zrou_sm D (zfr_sm f0 (by omega))
  have f1 : zfr 10 17 (zp0 h 0) (nzset (zp0 h 0) 10 (.inr (6, va_up F 3 (.int x)))) := zfr_set _ _ (by decide) (by decide)
  have K1 := zK_sm K0 (f1.2.2.2 0 (by decide))
  refine ⟨_, iX11_tea (by omega) K.choose_spec.1 ?_, K1, ⟨⟨_, zc_setS _ _ _, by simp [va_up, e0], by simp [va_up, e1], by simp [va_up, e2], rfl⟩, ?_, ?_, ?_, ?_⟩, f0, f1⟩
  · rw [eX11_tea_0, jX11_noDay K E (by omega), Option.bind_some, if_neg z, if_pos rfl, zkR9 K, Option.bind_some, jX0_hasHouses E (by omega), Option.bind_some, if_pos z2, if_neg (show ¬ (1 : Int32) = 0 by decide), eX11_tea_28, zp0_of K, Option.bind_some, zkI K0, Option.bind_some, if_pos rfl, zkR1 K0, Option.bind_some, zp_of o, Option.bind_some, eX11_tea_46, zkI K1, Option.bind_some, if_pos rfl]
  · obtain ⟨f, a1, a2⟩ := p1
    exact ⟨f, (zc_setN (by decide)).trans a1, a2⟩
  · obtain ⟨f, a1, a2⟩ := p2
    exact ⟨f, (zc_setN (by decide)).trans a1, a2⟩
  · intro i hi
    obtain ⟨f, a1, a2⟩ := p3 i hi
    exact ⟨f, (zc_setN (by omega)).trans a1, a2⟩
  · obtain ⟨f, a1⟩ := p4
    exact ⟨f, (zc_setN (by decide)).trans a1⟩
/-- size -/
theorem zX_size_a (K : zK h t tr) (E : zday h t c g) (hd : 20 < d) {k : Nat} (hk : k < 8) : nzxI d nX11_size [.ref 0, .int (nI k)] h = some (zrow c (nI k), h) := by
  refine iX11_size (by omega) K.choose_spec.1 ?_
  rw [eX11_size_0, if_neg (nI_pos (by omega)), if_neg (show ¬ 8 ≤ nI k from nI_ge (b := 8) hk (by decide)), zkR9 K, Option.bind_some, jX0_rows E (by omega), Option.bind_some]
theorem zX_size_8 {pn : Nat} {pC pM pT : Nat → Int32} (K : zK h t tr) (P : zpro h pn pC pM pT) (hd : 20 < d) : nzxI d nX11_size [.ref 0, .int 8] h = some (nI pn, h) := by
  refine iX11_size (by omega) K.choose_spec.1 ?_
  rw [eX11_size_0, if_neg (by decide), if_pos (by decide), eX11_size_19, z_tabIn (m := nX11_size) (o := 28) (t := 48) dX11_size_20 (by decide) rfl rfl, eX11_size_48, zkR8 K, Option.bind_some, zpro_n P, Option.bind_some]
theorem zX_size_9 (K : zK h t tr) (D : zrou h N R tea) (hd : 20 < d) : nzxI d nX11_size [.ref 0, .int 9] h = some (tea, h) := by
  refine iX11_size (by omega) K.choose_spec.1 ?_
  rw [eX11_size_0, if_neg (by decide), if_pos (by decide), eX11_size_19, z_tabIn (m := nX11_size) (o := 36) (t := 56) dX11_size_20 (by decide) rfl rfl, eX11_size_56, zkR1 K, Option.bind_some, zrou_t D, Option.bind_some]
theorem zX_size_10 (K : zK h t tr) (D : zrd h u tp hl L S) (hd : 20 < d) : nzxI d nX11_size [.ref 0, .int 10] h = some (nI hl, h) := by
  refine iX11_size (by omega) K.choose_spec.1 ?_
  rw [eX11_size_0, if_neg (by decide), if_pos (by decide), eX11_size_19, z_tabIn (m := nX11_size) (o := 44) (t := 64) dX11_size_20 (by decide) rfl rfl, eX11_size_64, zkR0 K, Option.bind_some, zrd_2 D, Option.bind_some, zrd_hl D, Option.bind_some]
theorem zX_size_no (K : zK h t tr) (hd : 20 < d) (x : Int32) (z : x < 0 ∨ 8 ≤ x) (z2 : x.toInt < 8 ∨ 10 < x.toInt) : nzxI d nX11_size [.ref 0, .int x] h = some (-1, h) := by
  refine iX11_size (by omega) K.choose_spec.1 ?_
  have r : nzr (d - 1) nX11_size 19 [some (.ref 0), some (.int x)] [] h = some (some (.int (-1)), h) := by
    rw [eX11_size_19, z_tabOut (m := nX11_size) (t := 75) dX11_size_20 z2 rfl, eX11_size_75]
  rw [eX11_size_0]
  by_cases y : x < 0
  · rw [if_pos y]; exact r
  · rw [if_neg y, if_pos (by
      cases z with
      | inl a => exact absurd a y
      | inr a => exact a)]
    exact r
/-- led, where a house is there -/
theorem zX_led (K : zK h t tr) (D : zrou h N R tea) (hd : 20 < d) {k i : Nat} (hk : k < 3) (hi : i < N k) (h6 : N k ≤ 6) (hR : R k i < 6) : nzxI d nX11_led [.ref 0, .int (nI k), .int (nI i)] h = some (nI (R k i), h) := by
  refine iX11_led (by omega) K.choose_spec.1 ?_
  rw [eX11_led_0, zkR1 K, Option.bind_some, jX6_houseAt D (by omega), Option.bind_some, if_neg (nI_pos (by omega)), zcnt_n N hk, if_neg (nI_ge hi (by omega)), nI_clamp (by omega), nI_clamp (by omega), if_neg (show ¬ nI (R k i) = -1 from fun z => nI_ne1 hR z)]
end NZKF
