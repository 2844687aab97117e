/-! NoonMeals' calls: day; share -/
section NZKD
variable {d : Nat} {h : nzH} {t u : Nat} {tr : Int32} {c g : Nat → Int32} {N : Nat → Nat} {R : Nat → Nat → Nat} {tea : Int32} {nf n : Nat} {Wt Pk : Nat → Nat → Int32} {O : Nat → Int32} {kn : Int32} {Hf : Nat → Nat} {tp : Nat → Int32} {hl L : Nat} {S : zrs} {mC : Nat → Nat → Int32} {mS mP : Nat → Int32} {md sd : Int32} {ks : zks} {kc : Int32} {wW wL wP : Nat → Int32} {wt : Int32} {gN : Nat → Nat} {gV : Nat → Nat → Int32} {pn : Nat} {pC pM pT : Nat → Int32} {ss : zss}
theorem zforget (K : zK h t tr) (hd : 3 < d) (a1 : zrou h N R tea) (a2 : zord h Wt Pk O kn) (a3 : zsha h ss sd) (a4 : zmen h mC mS mP md) (a5 : zkno h ks kc) (a6 : zwis h wW wL wP wt) (a7 : zsig h gN gV) (a8 : zpro h pn pC pM pT) : ∃ h1, nzxV d nX11_forgetDoings [.ref 0] h = some h1 ∧ zrou h1 (fun _ => 0) R 0 ∧ zord h1 Wt Pk O 0 ∧ zsha h1 ss 0 ∧ zmen h1 mC mS mP 0 ∧ zkno h1 ks 0 ∧ zwis h1 wW wL wP 0 ∧ zsig h1 (fun _ => 0) gV ∧ zpro h1 0 pC pM pT ∧ zfr 10 70 h h1 := by
  obtain ⟨h1, b1, c1, f1⟩ := jX6_clear (d := d - 1) a1 (by omega)
  have K1 := zK_sm K (f1.2.2.2 0 (by decide))
  obtain ⟨h2, b2, c2, f2⟩ := jX4_forget (d := d - 1) (zord_sm a2 (zfr_sm f1 (by omega))) (by omega)
  have K2 := zK_sm K1 (f2.2.2.2 0 (by decide))
  obtain ⟨h3, b3, c3, f3⟩ := jX7_forget (d := d - 1) (zsha_sm (zsha_sm a3 (zfr_sm f1 (by omega))) (zfr_sm f2 (by omega))) (by omega)
  have K3 := zK_sm K2 (f3.2.2.2 0 (by decide))
  obtain ⟨h4, b4, c4, f4⟩ := jX3_forget (d := d - 1) (zmen_sm (zmen_sm (zmen_sm a4 (zfr_sm f1 (by omega))) (zfr_sm f2 (by omega))) (zfr_sm f3 (by omega))) (by omega)
  have K4 := zK_sm K3 (f4.2.2.2 0 (by decide))
  have g4 : zfr 10 50 h h4 := zfr_tr (zfr_wk f1 (by decide) (by decide)) (zfr_tr (zfr_wk f2 (by decide) (by decide)) (zfr_tr (zfr_wk f3 (by decide) (by decide)) (zfr_wk f4 (by decide) (by decide))))
  obtain ⟨h5, b5, c5, f5⟩ := jX2_forget (d := d - 1) (zkno_sm a5 (zfr_sm g4 (by omega))) (by omega)
  have K5 := zK_sm K4 (f5.2.2.2 0 (by decide))
  have g5 : zfr 10 53 h h5 := zfr_tr (zfr_wk g4 (by decide) (by decide)) (zfr_wk f5 (by decide) (by decide))
  obtain ⟨h6, b6, c6, f6⟩ := jX10_forget (d := d - 1) (zwis_sm a6 (zfr_sm g5 (by omega))) (by omega)
  have K6 := zK_sm K5 (f6.2.2.2 0 (by decide))
  have g6 : zfr 10 57 h h6 := zfr_tr (zfr_wk g5 (by decide) (by decide)) (zfr_wk f6 (by decide) (by decide))
  obtain ⟨h7, b7, c7, f7⟩ := jX8_clear (d := d - 1) (zsig_sm a7 (zfr_sm g6 (by omega))) (by omega)
  have K7 := zK_sm K6 (f7.2.2.2 0 (by decide))
  have g7 : zfr 10 66 h h7 := zfr_tr (zfr_wk g6 (by decide) (by decide)) (zfr_wk f7 (by decide) (by decide))
  obtain ⟨h8, b8, c8, f8⟩ := jX5_clear (d := d - 1) (zpro_sm a8 (zfr_sm g7 (by omega))) (by omega)
  have g8 : zfr 10 70 h h8 := zfr_tr (zfr_wk g7 (by decide) (by decide)) (zfr_wk f8 (by decide) (by decide))
  have r7 : zfr 57 70 h6 h8 := zfr_tr (zfr_wk f7 (by decide) (by decide)) (zfr_wk f8 (by decide) (by decide))
  have r6 : zfr 53 70 h5 h8 := zfr_tr (zfr_wk f6 (by decide) (by decide)) (zfr_wk r7 (by decide) (by decide))
  have r5 : zfr 50 70 h4 h8 := zfr_tr (zfr_wk f5 (by decide) (by decide)) (zfr_wk r6 (by decide) (by decide))
  have r4 : zfr 31 70 h3 h8 := zfr_tr (zfr_wk f4 (by decide) (by decide)) (zfr_wk r5 (by decide) (by decide))
  have r3 : zfr 27 70 h2 h8 := zfr_tr (zfr_wk f3 (by decide) (by decide)) (zfr_wk r4 (by decide) (by decide))
  have r2 : zfr 17 70 h1 h8 := zfr_tr (zfr_wk f2 (by decide) (by decide)) (zfr_wk r3 (by decide) (by decide))
  refine ⟨h8, iX11_forgetDoings (by omega) K.choose_spec.1 ?_, zrou_sm c1 (zfr_sm r2 (by omega)), zord_sm c2 (zfr_sm r3 (by omega)), zsha_sm c3 (zfr_sm r4 (by omega)), zmen_sm c4 (zfr_sm r5 (by omega)), zkno_sm c5 (zfr_sm r6 (by omega)), zwis_sm c6 (zfr_sm r7 (by omega)), zsig_sm c7 (zfr_sm f8 (by omega)), c8, g8⟩
  rw [eX11_forgetDoings_0, zkR1 K, Option.bind_some, b1, Option.bind_some, zkR2 K1, Option.bind_some, b2, Option.bind_some, zkR3 K2, Option.bind_some, b3, Option.bind_some, zkR4 K3, Option.bind_some, b4, Option.bind_some, zkR5 K4, Option.bind_some, b5, Option.bind_some, zkR6 K5, Option.bind_some, b6, Option.bind_some, zkR7 K6, Option.bind_some, b7, Option.bind_some, zkR8 K7, Option.bind_some, b8, Option.bind_some]
theorem zexch (D : zrd h u tp hl L S) (E : zday h t c g) (ht : t = 7 ∨ t = 70) (hd : 0 < d) : ∃ h1, nzxR d nX1_exchange [.ref 1, .ref t] h = some (u, h1) ∧ zrd h1 t tp hl L (S.1, S.2.1, S.2.2.1, (c, g)) ∧ zfr 1 2 h h1 := by
  obtain ⟨⟨F, o, e0, e1, e2, e3, e4, e5, e6, e7, e8⟩, ⟨⟨F2, o2, T⟩, b, r⟩, ⟨m1, m2, m3, m4⟩, Eu, hu⟩ := D
  have f : zfr 1 2 h (nzset h 1 (.inr (1, va_up F 4 (.ref t)))) := zfr_set _ _ (by decide) (by decide)
  refine ⟨_, iX1_exchange hd o ?_, ⟨⟨_, zc_setS _ _ _, by simp [va_up, e0], by simp [va_up, e1], by simp [va_up, e2], by simp [va_up, e3], by simp [va_up], by simp [va_up, e5], by simp [va_up, e6], by simp [va_up, e7], by simp [va_up, e8]⟩, ⟨⟨F2, (f.2.2.2 2 (by decide)).trans o2, T⟩, (f.2.2.2 3 (by decide)).trans b, r⟩, ⟨(f.2.2.2 4 (by decide)).trans m1, (f.2.2.2 5 (by decide)).trans m2, (f.2.2.2 6 (by decide)).trans m3, m4⟩, zday_sm E (zfr_sm f (by omega)), ht⟩, f⟩
  rw [eX1_exchange_0, zg_R o e4, Option.bind_some, zp_of o, Option.bind_some]
theorem zempty (D : zrd h u tp hl L S) (hd : 0 < d) : ∃ h1, nzxV d nX9_empty [.ref 2] h = some h1 ∧ zrd h1 u tp 0 L S ∧ zfr 2 3 h h1 := by
  obtain ⟨⟨F, o, e⟩, ⟨⟨F2, o2, T⟩, b, r1, r⟩, ⟨m1, m2, m3, m4⟩, Eu, hu⟩ := D
  obtain ⟨F', q1, q2⟩ := jX9_empty hd o2 T
  have f : zfr 2 3 h (nzset h 2 (.inr (9, F'))) := zfr_set _ _ (by decide) (by decide)
  exact ⟨_, q1, ⟨⟨F, (f.2.2.2 1 (by decide)).trans o, e⟩, ⟨⟨F', zc_setS _ _ _, q2⟩, (f.2.2.2 3 (by decide)).trans b, Nat.zero_le _, r⟩, ⟨(f.2.2.2 4 (by decide)).trans m1, (f.2.2.2 5 (by decide)).trans m2, (f.2.2.2 6 (by decide)).trans m3, m4⟩, zday_sm Eu (zfr_sm f (by omega)), hu⟩, f⟩
theorem zX_day_no (K : zK h t tr) (D : zrd h u tp hl L S) (hd : 20 < d) (x : Int32) (z : x < 0 ∨ ¬ x ≤ nI hl) : nzxI d nX11_day [.ref 0, .int x] h = some (-1, zp0 h 2) := by
  refine iX11_day (by omega) K.choose_spec.1 ?_
  rw [eX11_day_0]
  by_cases y : x < 0
  · rw [if_pos y, eX11_day_18, jX11_refuse K (by omega), Option.bind_some]
  · have : ¬ x ≤ nI hl := by
      cases z with
      | inl a => exact absurd a y
      | inr a => exact a
    rw [if_neg y, zkR0 K, Option.bind_some, zrd_2 D, Option.bind_some, zrd_hl D, Option.bind_some, if_neg this, eX11_day_18, jX11_refuse K (by omega), Option.bind_some]
theorem zX_day_bad (K : zK h t tr) (D : zrd h u tp hl L S) (hd : 20 < d) {m : Nat} (hm : m ≤ hl) (z : (zpRd tp m 901 (zrs0 tp m S)).1 = false) : ∃ h1, nzxI d nX11_day [.ref 0, .int (nI m)] h = some (-1, zp0 h1 4) ∧ zK h1 t tr ∧ zrd h1 u tp 0 m (zpRd tp m 901 (zrs0 tp m S)).2 ∧ zrfr u h h1 := by
  have h9 : hl ≤ 900 := D.2.1.2.2.1
  obtain ⟨h1, q1, q2, q3⟩ := jX1_read (d := d - 1) D (by omega) hm
  have hu := D.2.2.2.2
  have K1 := zK_sm K (q3.2.2.2 0 (by omega) (by omega))
  obtain ⟨h2, r1, r2, r3⟩ := zempty (d := d - 1) q2 (by omega)
  have K2 := zK_sm K1 (r3.2.2.2 0 (by decide))
  rw [z] at q1
  refine ⟨h2, iX11_day (by omega) K.choose_spec.1 ?_, K2, r2, ?_⟩
  · rw [eX11_day_0, if_neg (nI_pos (by omega)), zkR0 K, Option.bind_some, zrd_2 D, Option.bind_some, zrd_hl D, Option.bind_some, if_pos (nI_le hm (by omega)), Option.bind_some, q1, Option.bind_some, zkR0 K1, Option.bind_some, zrd_2 q2, Option.bind_some, r1, Option.bind_some, if_pos (show (if false = true then (1 : Int32) else 0) = 0 by decide), jX11_refuse K2 (by omega), Option.bind_some]
  · exact ⟨r3.1.trans q3.1, r3.2.1.trans q3.2.1, r3.2.2.1.trans q3.2.2.1, fun a x1 x2 => (r3.2.2.2 a (by omega)).trans (q3.2.2.2 a x1 x2)⟩
/-- what a day call keeps: all but 0 .. 6, both days' cells and what it forgets -/
theorem zX_day_ok (K : zK h t tr) (D : zrd h u tp hl L S) (E : zday h t c g) (htu : t = 7 ∧ u = 70 ∨ t = 70 ∧ u = 7) (hd : 20 < d) {m : Nat} (hm : m ≤ hl) (z : (zpRd tp m 901 (zrs0 tp m S)).1 = true) (a1 : zrou h N R tea) (a2 : zord h Wt Pk O kn) (a3 : zsha h ss sd) (a4 : zmen h mC mS mP md) (a5 : zkno h ks kc) (a6 : zwis h wW wL wP wt) (a7 : zsig h gN gV) (a8 : zpro h pn pC pM pT) : ∃ h1, nzxI d nX11_day [.ref 0, .int (nI m)] h = some (zrow (zpRd tp m 901 (zrs0 tp m S)).2.2.2.2.1 3, zp0 h1 0) ∧ zK h1 u tr ∧ zrd h1 t tp 0 m ((zpRd tp m 901 (zrs0 tp m S)).2.1, (zpRd tp m 901 (zrs0 tp m S)).2.2.1, (zpRd tp m 901 (zrs0 tp m S)).2.2.2.1, (c, g)) ∧ zday h1 u (zpRd tp m 901 (zrs0 tp m S)).2.2.2.2.1 (zpRd tp m 901 (zrs0 tp m S)).2.2.2.2.2 ∧ (zrou h1 (fun _ => 0) R 0 ∧ zord h1 Wt Pk O 0 ∧ zsha h1 ss 0 ∧ zmen h1 mC mS mP 0 ∧ zkno h1 ks 0 ∧ zwis h1 wW wL wP 0 ∧ zsig h1 (fun _ => 0) gV ∧ zpro h1 0 pC pM pT) ∧ zfr 0 73 h h1 := by
  have h9 : hl ≤ 900 := D.2.1.2.2.1
  obtain ⟨h1, q1, q2, q3⟩ := jX1_read (d := d - 1) D (by omega) hm
  have K1 := zK_sm K (q3.2.2.2 0 (by omega) (by omega))
  have E1 := zday_sm E (h1 := h1) (fun a x1 x2 => q3.2.2.2 a (by omega) (by omega))
  obtain ⟨h2, r1, r2, r3⟩ := zempty (d := d - 1) q2 (by omega)
  have K2 := zK_sm K1 (r3.2.2.2 0 (by decide))
  have E2 := zday_sm E1 (zfr_sm r3 (by omega))
  obtain ⟨h3, s1, s2, s3⟩ := zexch (d := d - 1) r2 E2 (by omega) (by omega)
  have K3 := zK_sm K2 (s3.2.2.2 0 (by decide))
  have U3 := zday_sm r2.2.2.2.1 (zfr_sm s3 (by omega))
  obtain ⟨F, o, e, e9, e10⟩ := K3
  have f4 : zfr 0 1 h3 (nzset h3 0 (.inr (11, va_up F 9 (.ref u)))) := zfr_set _ _ (by decide) (by decide)
  have K4 : zK (nzset h3 0 (.inr (11, va_up F 9 (.ref u)))) u tr := ⟨_, zc_setS _ _ _, by simp only [va_up]; exact e, rfl, by simp only [va_up]; exact e10⟩
  have fA : ∀ lo hi, 10 ≤ lo → hi ≤ 70 → zsm lo hi h (nzset h3 0 (.inr (11, va_up F 9 (.ref u)))) := fun lo hi b1 b2 a x1 x2 => (f4.2.2.2 a (by omega)).trans ((s3.2.2.2 a (by omega)).trans ((r3.2.2.2 a (by omega)).trans (q3.2.2.2 a (by omega) (by omega))))
  obtain ⟨h5, w1, w2, w3, w4, w5, w6, w7, w8, w9, w10⟩ := zforget (d := d - 1) K4 (by omega) (zrou_sm a1 (fA _ _ (by decide) (by decide))) (zord_sm a2 (fA _ _ (by decide) (by decide))) (zsha_sm a3 (fA _ _ (by decide) (by decide))) (zmen_sm a4 (fA _ _ (by decide) (by decide))) (zkno_sm a5 (fA _ _ (by decide) (by decide))) (zwis_sm a6 (fA _ _ (by decide) (by decide))) (zsig_sm a7 (fA _ _ (by decide) (by decide))) (zpro_sm a8 (fA _ _ (by decide) (by decide)))
  have K5 := zK_sm K4 (w10.2.2.2 0 (by decide))
  have U5 := zday_sm (zday_sm U3 (zfr_sm f4 (by omega))) (zfr_sm w10 (by omega))
  have D5 : zrd h5 t tp 0 m ((zpRd tp m 901 (zrs0 tp m S)).2.1, (zpRd tp m 901 (zrs0 tp m S)).2.2.1, (zpRd tp m 901 (zrs0 tp m S)).2.2.2.1, (c, g)) := by
    have k : ∀ a, 1 ≤ a → a < 10 → nzcell h5 a = nzcell h3 a := fun a x1 x2 => (w10.2.2.2 a (by omega)).trans (f4.2.2.2 a (by omega))
    obtain ⟨⟨G1, p1, g1⟩, ⟨⟨G2, p2, g2⟩, b, r⟩, ⟨m1, m2, m3, m4⟩, Eu, hu⟩ := s2
    exact ⟨⟨G1, (k 1 (by omega) (by omega)).trans p1, g1⟩, ⟨⟨G2, (k 2 (by omega) (by omega)).trans p2, g2⟩, (k 3 (by omega) (by omega)).trans b, r⟩, ⟨(k 4 (by omega) (by omega)).trans m1, (k 5 (by omega) (by omega)).trans m2, (k 6 (by omega) (by omega)).trans m3, m4⟩, zday_sm (zday_sm Eu (zfr_sm f4 (by omega))) (zfr_sm w10 (by omega)), hu⟩
  rw [z] at q1
  refine ⟨h5, iX11_day (by omega) K.choose_spec.1 ?_, K5, D5, U5, ⟨w2, w3, w4, w5, w6, w7, w8, w9⟩, ?_⟩
  · rw [eX11_day_0, if_neg (nI_pos (by omega)), zkR0 K, Option.bind_some, zrd_2 D, Option.bind_some, zrd_hl D, Option.bind_some, if_pos (nI_le hm (by omega)), Option.bind_some, q1, Option.bind_some, zkR0 K1, Option.bind_some, zrd_2 q2, Option.bind_some, r1, Option.bind_some, if_neg (show ¬ (if true = true then (1 : Int32) else 0) = 0 by decide), zkR0 K2, Option.bind_some, zkR9 K2, Option.bind_some, s1, Option.bind_some, zp_of o, Option.bind_some, w1, Option.bind_some, zkR9 K5, Option.bind_some, jX0_rows U5 (by omega), Option.bind_some, jX11_accept K5 (by omega), Option.bind_some]
  · exact ⟨w10.1.trans (f4.1.trans (s3.1.trans (r3.1.trans q3.1))), w10.2.1.trans (f4.2.1.trans (s3.2.1.trans (r3.2.1.trans q3.2.1))), w10.2.2.1.trans (f4.2.2.1.trans (s3.2.2.1.trans (r3.2.2.1.trans q3.2.2.1))), fun a ha => (w10.2.2.2 a (by omega)).trans ((f4.2.2.2 a (by omega)).trans ((s3.2.2.2 a (by omega)).trans ((r3.2.2.2 a (by omega)).trans (q3.2.2.2 a (by omega) (by omega)))))⟩
/-- share: all orders learnt, then the search -/
theorem zX_sh15 (ht : t = 7 ∨ t = 70) (hd : 19 < d) (hnf : nf ≤ 6) (e5 : c 5 = nI nf) (hn : n ≤ 6) (en : c 3 = nI n) {m : Nat} (hm : m ≤ 3) (em : c 4 = nI m) (hH : ∀ k, k < m → Hf k ≤ 6 ∧ zget c g 4 (nI k) 2 = nI (Hf k)) : ∀ (j i : Nat) (h : nzH) (Wt Pk : Nat → Nat → Int32) (O : Nat → Int32) (kn : Int32), i + j = m → zK h t tr → zday h t c g → zord h Wt Pk O kn → zsha h ss sd → zkn c g nf n Hf kn Wt Pk → (∀ k, k < i → ¬ kn &&& (1 <<< (nI k &&& 31)) = 0) → ∃ h1 Wt' Pk' O' kn', nzr d nX11_share 15 [some (.ref 0), some (.int (nI i))] [] h = (if (zgiv c g Wt' m n 0 (fun _ => 0, ss.2.1, ss.2.2.1, 1000000000)).2.2.2 = 1000000000 then some (some (.int (-1)), zp0 h1 6) else some (some (.int ((zgiv c g Wt' m n 0 (fun _ => 0, ss.2.1, ss.2.2.1, 1000000000)).2.2.2 / 10000)), zp0 h1 0)) ∧ zK h1 t tr ∧ zord h1 Wt' Pk' O' kn' ∧ zkn c g nf n Hf kn' Wt' Pk' ∧ (∀ k, k < m → ∃ O w p, Wt' k = (zolr c g nf n k (Hf k) O w p).2.1) ∧ zsha h1 (zgiv c g Wt' m n 0 (fun _ => 0, ss.2.1, ss.2.2.1, 1000000000)) (if (zgiv c g Wt' m n 0 (fun _ => 0, ss.2.1, ss.2.2.1, 1000000000)).2.2.2 = 1000000000 then sd else nI n) ∧ zfr 17 31 h h1 := by
  have g2 : zrow c 4 = nI m := (zrow_n c (s := 4) (by decide)).trans em
  intro j
  induction j with
  | zero =>
    intro i h Wt Pk O kn hi K E G Sh Z hb
    obtain ⟨h1, q1, q2, q3, q4, q5⟩ := jX7_search (d := d) Sh G E (by omega) (by omega) hn en hm em
    have K1 := zK_sm K (q5.2.2.2 0 (by decide))
    refine ⟨h1, Wt, Pk, O, kn, ?_, K1, q3, Z, fun k hk => ?_, q2, zfr_wk q5 (by decide) (by decide)⟩
    · rw [eX11_share_15, zkR9 K, Option.bind_some, jX0_rows E (by omega), Option.bind_some, g2, if_pos (nI_le (by omega) (by omega)), zkR3 K, Option.bind_some, zkR9 K, Option.bind_some, zkR2 K, Option.bind_some, q1, Option.bind_some]
      split
      · rw [jX11_refuse K1 (by omega), Option.bind_some]
      · rw [jX11_accept K1 (by omega), Option.bind_some]
    · obtain ⟨O', w, p, x1, x2⟩ := Z k (by omega) (hb k (by omega))
      exact ⟨O', w, p, x1⟩
  | succ j ih =>
    intro i h Wt Pk O kn hi K E G Sh Z hb
    obtain ⟨h1, Wt', Pk', O', kn', q1, q2, q3, q4, q5, q6, q7⟩ := zlearn (d := d) G E ht (by omega) hnf e5 hn en (show i < 3 by omega) (hH i (by omega)).1 (hH i (by omega)).2 Z
    have K1 := zK_sm K (q3.2.2.2 0 (by decide))
    obtain ⟨h2, W2, P2, O2, kn2, w1, w2, w3, w4, w5, w6, w7⟩ := ih (i + 1) h1 Wt' Pk' O' kn' (by omega) K1 q2 q4 (zsha_sm Sh (zfr_sm q3 (by omega))) q5 (fun k hk => by
      by_cases y : k = i
      · rw [y]; exact q6
      · exact q7 k (by omega) (hb k (by omega)))
    refine ⟨h2, W2, P2, O2, kn2, ?_, w2, w3, w4, w5, w6, zfr_tr (zfr_wk q3 (by decide) (by decide)) w7⟩
    rw [eX11_share_15, zkR9 K, Option.bind_some, jX0_rows E (by omega), Option.bind_some, g2, if_neg (nI_ge (by omega) (by omega)), zkR2 K, Option.bind_some, zkR9 K, Option.bind_some, q1, Option.bind_some, nI_1]
    exact w1
end NZKD
