/-! NoonMeals' calls, one theorem a leaf -/
section NZKL
variable {d : Nat} {h : nzH} {t : Nat} {tr : Int32} {c g : Nat → Int32} {N : Nat → Nat} {R : Nat → Nat → Nat} {tea : Int32} {nf : Nat} {mC : Nat → Nat → Int32} {mS mP : Nat → Int32} {md : Int32} {ks : zks} {kc : Int32} {wW wL wP : Nat → Int32} {wt : Int32} {gN : Nat → Nat} {gV : Nat → Nat → Int32} {pn : Nat} {pC pM pT : Nat → Int32} {ss : zss}
theorem zrou_t (D : zrou h N R tea) : nzgI h 10 6 3 = some tea := by
  obtain ⟨⟨F, o, -, -, -, e⟩, -⟩ := D
  exact zg_I o e
theorem zpro_n (P : zpro h pn pC pM pT) : nzgI h 66 5 3 = some (nI pn) := by
  obtain ⟨⟨F, o, -, -, -, e⟩, -⟩ := P
  exact zg_I o e
theorem zX_drive_0 (K : zK h t tr) (E : zday h t c g) (hd : 20 < d) (x y : Int32) (z1 : zhs c 4 x = 0) : nzxI d nX11_drive [.ref 0, .int x, .int y] h = some (-1, zp0 h 1) := by
  refine iX11_drive (by omega) K.choose_spec.1 ?_
  rw [eX11_drive_0, zkR9 K, Option.bind_some, jX0_has E (by omega), Option.bind_some, ← zhs, if_pos z1, eX11_drive_24, jX11_refuse K (by omega), Option.bind_some]
theorem zX_drive_1 (K : zK h t tr) (E : zday h t c g) (hd : 20 < d) (x y : Int32) (z1 : ¬ zhs c 4 x = 0) (z2 : zhs c 3 y = 0) : nzxI d nX11_drive [.ref 0, .int x, .int y] h = some (-1, zp0 h 1) := by
  refine iX11_drive (by omega) K.choose_spec.1 ?_
  rw [eX11_drive_0, zkR9 K, Option.bind_some, jX0_has E (by omega), Option.bind_some, ← zhs, if_neg z1, zkR9 K, Option.bind_some, jX0_has E (by omega), Option.bind_some, ← zhs, if_pos z2, eX11_drive_24, jX11_refuse K (by omega), Option.bind_some]
theorem zX_drive_2 (K : zK h t tr) (E : zday h t c g) (D : zrou h N R tea) (hd : 20 < d) (x y : Int32) (z1 : ¬ zhs c 4 x = 0) (z2 : ¬ zhs c 3 y = 0) (z3 : ¬ zcar N R y 0 3 = -1) : nzxI d nX11_drive [.ref 0, .int x, .int y] h = some (-1, zp0 h 5) := by
  refine iX11_drive (by omega) K.choose_spec.1 ?_
  rw [eX11_drive_0, zkR9 K, Option.bind_some, jX0_has E (by omega), Option.bind_some, ← zhs, if_neg z1, zkR9 K, Option.bind_some, jX0_has E (by omega), Option.bind_some, ← zhs, if_neg z2, zkR1 K, Option.bind_some, jX6_carOf D (by omega), Option.bind_some, if_neg z3, jX11_refuse K (by omega), Option.bind_some]
theorem zX_drive_3 (K : zK h t tr) (E : zday h t c g) (D : zrou h N R tea) (hd : 20 < d) (x y : Int32) (z1 : ¬ zhs c 4 x = 0) (z2 : ¬ zhs c 3 y = 0) (z3 : zcar N R y 0 3 = -1) (z4 : ¬ zcnt N x < zget c g 4 x 2) : nzxI d nX11_drive [.ref 0, .int x, .int y] h = some (-1, zp0 h 3) := by
  refine iX11_drive (by omega) K.choose_spec.1 ?_
  rw [eX11_drive_0, zkR9 K, Option.bind_some, jX0_has E (by omega), Option.bind_some, ← zhs, if_neg z1, zkR9 K, Option.bind_some, jX0_has E (by omega), Option.bind_some, ← zhs, if_neg z2, zkR1 K, Option.bind_some, jX6_carOf D (by omega), Option.bind_some, if_pos z3, zkR1 K, Option.bind_some, jX6_count D (by omega), Option.bind_some, zkR9 K, Option.bind_some, jX0_get E (by omega), Option.bind_some, if_neg z4, jX11_refuse K (by omega), Option.bind_some]
theorem zX_drive_4 (K : zK h t tr) (E : zday h t c g) (D : zrou h N R tea) {k r : Nat} (hk : k < 3) (hr : r < 6) (hN : N k < 6) (hd : 20 < d) (z1 : ¬ zhs c 4 (nI k) = 0) (z2 : ¬ zhs c 3 (nI r) = 0) (z3 : zcar N R (nI r) 0 3 = -1) (z4 : zcnt N (nI k) < zget c g 4 (nI k) 2) : ∃ h1, nzxI d nX11_drive [.ref 0, .int (nI k), .int (nI r)] h = some (nI (N k + 1), zp0 h1 0) ∧ zrou h1 (va_up N k (N k + 1)) (fun i j => if i = k ∧ j = N k then r else R i j) tea ∧ zfr 10 17 h h1 := by
  obtain ⟨h1, q1, q2, q3⟩ := jX6_append (d := d - 1) D (by omega) hk hr hN
  have K1 := zK_sm K (q3.2.2.2 0 (by decide))
  refine ⟨h1, iX11_drive (by omega) K.choose_spec.1 ?_, q2, q3⟩
  rw [eX11_drive_0, zkR9 K, Option.bind_some, jX0_has E (by omega), Option.bind_some, ← zhs, if_neg z1, zkR9 K, Option.bind_some, jX0_has E (by omega), Option.bind_some, ← zhs, if_neg z2, zkR1 K, Option.bind_some, jX6_carOf D (by omega), Option.bind_some, if_pos z3, zkR1 K, Option.bind_some, jX6_count D (by omega), Option.bind_some, zkR9 K, Option.bind_some, jX0_get E (by omega), Option.bind_some, if_pos z4, zkR1 K, Option.bind_some, q1, Option.bind_some, jX11_accept K1 (by omega), Option.bind_some]
theorem zX_unload_0 (K : zK h t tr) (E : zday h t c g) (hd : 20 < d) (x : Int32) (z1 : zhs c 4 x = 0) : nzxI d nX11_unload [.ref 0, .int x] h = some (-1, zp0 h 1) := by
  refine iX11_unload (by omega) K.choose_spec.1 ?_
  rw [eX11_unload_0, zkR9 K, Option.bind_some, jX0_has E (by omega), Option.bind_some, ← zhs, if_pos z1, jX11_refuse K (by omega), Option.bind_some]
theorem zX_unload_1 (K : zK h t tr) (E : zday h t c g) (D : zrou h N R tea) {k : Nat} (hk : k < 3) (hd : 20 < d) (z1 : ¬ zhs c 4 (nI k) = 0) : ∃ h1, nzxI d nX11_unload [.ref 0, .int (nI k)] h = some (nI (N k), zp0 h1 0) ∧ zrou h1 (va_up N k 0) R tea ∧ zfr 10 17 h h1 := by
  obtain ⟨h1, q1, q2, q3⟩ := jX6_clearRound (d := d - 1) D (by omega) hk
  have K1 := zK_sm K (q3.2.2.2 0 (by decide))
  refine ⟨h1, iX11_unload (by omega) K.choose_spec.1 ?_, q2, q3⟩
  rw [eX11_unload_0, zkR9 K, Option.bind_some, jX0_has E (by omega), Option.bind_some, ← zhs, if_neg z1, zkR1 K, Option.bind_some, q1, Option.bind_some, jX11_accept K1 (by omega), Option.bind_some]
theorem zX_comes_0 (K : zK h t tr) (E : zday h t c g) (D : zrou h N R tea) (hd : 20 < d) (x : Int32) (z1 : ¬ (if zhs c 3 x = 0 then (1 : Int32) else if zcar N R x 0 3 = -1 then 6 else 0) = 0) : nzxI d nX11_comes [.ref 0, .int x] h = some (-1, zp0 h (if zhs c 3 x = 0 then 1 else if zcar N R x 0 3 = -1 then 6 else 0)) := by
  refine iX11_comes (by omega) K.choose_spec.1 ?_
  rw [eX11_comes_0, jX11_drivenTrouble K E D (by omega), Option.bind_some, if_neg z1, jX11_refuse K (by omega), Option.bind_some]
theorem zX_heat_0 (K : zK h t tr) (E : zday h t c g) (D : zrou h N R tea) (hd : 20 < d) (x : Int32) (z1 : ¬ (if zhs c 3 x = 0 then (1 : Int32) else if zcar N R x 0 3 = -1 then 6 else 0) = 0) : nzxI d nX11_heat [.ref 0, .int x] h = some (-1000, zp0 h (if zhs c 3 x = 0 then 1 else if zcar N R x 0 3 = -1 then 6 else 0)) := by
  refine iX11_heat (by omega) K.choose_spec.1 ?_
  rw [eX11_heat_0, jX11_drivenTrouble K E D (by omega), Option.bind_some, if_neg z1, jX11_refuse K (by omega), Option.bind_some]
theorem zX_costs_0 (K : zK h t tr) (E : zday h t c g) (D : zrou h N R tea) (hd : 20 < d) (x : Int32) (z1 : ¬ (if zhs c 3 x = 0 then (1 : Int32) else if zcar N R x 0 3 = -1 then 6 else 0) = 0) : nzxI d nX11_costs [.ref 0, .int x] h = some (-1000, zp0 h (if zhs c 3 x = 0 then 1 else if zcar N R x 0 3 = -1 then 6 else 0)) := by
  refine iX11_costs (by omega) K.choose_spec.1 ?_
  rw [eX11_costs_0, jX11_drivenTrouble K E D (by omega), Option.bind_some, if_neg z1, jX11_refuse K (by omega), Option.bind_some]
theorem zX_comes_1 (K : zK h t tr) (E : zday h t c g) (D : zrou h N R tea) {nf k r : Nat} (hnf : nf ≤ 6) (e5 : c 5 = nI nf) (ht : t = 7 ∨ t = 70) (hk : k < 3) (hr : r < 6) (ec : zcar N R (nI r) 0 3 = nI k) {A : Nat → Int32} (hA : zarr h 16 6 A) (hd : 20 < d) (z1 : (if zhs c 3 (nI r) = 0 then (1 : Int32) else if zcar N R (nI r) 0 3 = -1 then 6 else 0) = 0) : ∃ h1, nzxI d nX11_comes [.ref 0, .int (nI r)] h = some ((zround c g nf k tea (N k) (R k) A).2.2.2 r, zp0 h1 0) ∧ zrou h1 N R tea ∧ zfr 10 17 h h1 := by
  obtain ⟨h1, q1, q2, q3, q4⟩ := jX6_arrival (d := d - 1) (by omega) (by omega) hnf e5 hk hr ec D E hA
  have K1 := zK_sm K (q4.2.2.2 0 (by decide))
  refine ⟨h1, iX11_comes (by omega) K.choose_spec.1 ?_, q2, zfr_wk q4 (by decide) (by decide)⟩
  rw [eX11_comes_0, jX11_drivenTrouble K E D (by omega), Option.bind_some, if_pos z1, zkR1 K, Option.bind_some, zkR9 K, Option.bind_some, q1, Option.bind_some, jX11_accept K1 (by omega), Option.bind_some]
theorem zX_heat_1 (K : zK h t tr) (E : zday h t c g) (D : zrou h N R tea) {nf k r : Nat} (hnf : nf ≤ 6) (e5 : c 5 = nI nf) (ht : t = 7 ∨ t = 70) (hk : k < 3) (hr : r < 6) (ec : zcar N R (nI r) 0 3 = nI k) {A : Nat → Int32} (hA : zarr h 16 6 A) (hd : 20 < d) (z1 : (if zhs c 3 (nI r) = 0 then (1 : Int32) else if zcar N R (nI r) 0 3 = -1 then 6 else 0) = 0) : ∃ h1, nzxI d nX11_heat [.ref 0, .int (nI r)] h = some (zheat c g (nI k) ((zround c g nf k tea (N k) (R k) A).2.2.2 r), zp0 h1 0) ∧ zrou h1 N R tea ∧ zfr 10 17 h h1 := by
  obtain ⟨h1, q1, q2, q3, q4⟩ := jX6_arrival (d := d - 1) (by omega) (by omega) hnf e5 hk hr ec D E hA
  have K1 := zK_sm K (q4.2.2.2 0 (by decide))
  refine ⟨h1, iX11_heat (by omega) K.choose_spec.1 ?_, q2, zfr_wk q4 (by decide) (by decide)⟩
  rw [eX11_heat_0, jX11_drivenTrouble K E D (by omega), Option.bind_some, if_pos z1, zkR9 K, Option.bind_some, zkR1 K, Option.bind_some, jX6_carOf D (by omega), Option.bind_some, zkR1 K, Option.bind_some, zkR9 K, Option.bind_some, q1, Option.bind_some, ec, jX0_boxHeat q3 (by omega), Option.bind_some, jX11_accept K1 (by omega), Option.bind_some]
theorem zX_bad_0 (K : zK h t tr) (E : zday h t c g) (hd : 20 < d) (x : Int32) (z1 : zhs c 4 x = 0) : nzxI d nX11_bad [.ref 0, .int x] h = some (-1, zp0 h 1) := by
  refine iX11_bad (by omega) K.choose_spec.1 ?_
  rw [eX11_bad_0, zkR9 K, Option.bind_some, jX0_has E (by omega), Option.bind_some, ← zhs, if_pos z1, jX11_refuse K (by omega), Option.bind_some]
theorem zX_bad_1 (K : zK h t tr) (E : zday h t c g) (D : zrou h N R tea) {nf k : Nat} (hnf : nf ≤ 6) (e5 : c 5 = nI nf) (ht : t = 7 ∨ t = 70) (hk : k < 3) {A : Nat → Int32} (hA : zarr h 16 6 A) (hd : 20 < d) (z1 : ¬ zhs c 4 (nI k) = 0) : ∃ h1, nzxI d nX11_bad [.ref 0, .int (nI k)] h = some ((zround c g nf k tea (N k) (R k) A).1, zp0 h1 0) ∧ zrou h1 N R tea ∧ zfr 10 17 h h1 := by
  obtain ⟨h1, q1, q2, q3, -, q4⟩ := jX6_follow (d := d - 1) (by omega) (by omega) hnf e5 hk tea D E hA
  have K1 := zK_sm K (q4.2.2.2 0 (by decide))
  refine ⟨h1, iX11_bad (by omega) K.choose_spec.1 ?_, q2, zfr_wk q4 (by decide) (by decide)⟩
  rw [eX11_bad_0, zkR9 K, Option.bind_some, jX0_has E (by omega), Option.bind_some, ← zhs, if_neg z1, zkR1 K, Option.bind_some, zkR9 K, Option.bind_some, Option.bind_some, zrou_t D, Option.bind_some, q1, Option.bind_some, jX11_accept K1 (by omega), Option.bind_some]
theorem zX_costs_1 (K : zK h t tr) (E : zday h t c g) (D : zrou h N R tea) {nf k r : Nat} (hnf : nf ≤ 6) (e5 : c 5 = nI nf) (ht : t = 7 ∨ t = 70) (hk : k < 3) (hr : r < 6) (ec : zcar N R (nI r) 0 3 = nI k) {A : Nat → Int32} (hA : zarr h 16 6 A) {n1 n2 : Nat} (hn1 : n1 < 64) (hn2 : n2 < 64) (b1 : ∀ A, (zround c g nf k (1 <<< (nI r &&& 31)) (N k) (R k) A).1 = nI n1) (b2 : ∀ A, (zround c g nf k 0 (N k) (R k) A).1 = nI n2) (hd : 20 < d) (z1 : (if zhs c 3 (nI r) = 0 then (1 : Int32) else if zcar N R (nI r) 0 3 = -1 then 6 else 0) = 0) : ∃ h1, nzxI d nX11_costs [.ref 0, .int (nI r)] h = some (nI (zpop n1) - nI (zpop n2), zp0 h1 0) ∧ zrou h1 N R tea ∧ zfr 10 17 h h1 := by
  obtain ⟨h1, q1, q2, q3, q5, q4⟩ := jX6_follow (d := d - 1) (by omega) (by omega) hnf e5 hk (1 <<< (nI r &&& 31)) D E hA
  have K1 := zK_sm K (q4.2.2.2 0 (by decide))
  obtain ⟨h2, r1, r2, r3, -, r4⟩ := jX6_follow (d := d - 1) (by omega) (by omega) hnf e5 hk 0 q2 q3 q5
  have K2 := zK_sm K1 (r4.2.2.2 0 (by decide))
  refine ⟨h2, iX11_costs (by omega) K.choose_spec.1 ?_, r2, zfr_wk (zfr_tr q4 r4) (by decide) (by decide)⟩
  rw [eX11_costs_0, jX11_drivenTrouble K E D (by omega), Option.bind_some, if_pos z1, zkR1 K, Option.bind_some, jX6_carOf D (by omega), Option.bind_some, ec, zkR1 K, Option.bind_some, zkR9 K, Option.bind_some, q1, Option.bind_some, b1, jJ6_bitCount (by omega) hn1, Option.bind_some, zkR1 K1, Option.bind_some, zkR9 K1, Option.bind_some, r1, Option.bind_some, b2, jJ6_bitCount (by omega) hn2, Option.bind_some, jX11_accept K2 (by omega), Option.bind_some]
theorem zX_odds_0 (K : zK h t tr) (E : zday h t c g) (hd : 20 < d) (x : Int32) (z1 : zhs c 4 x = 0) : nzxL d nX11_odds [.ref 0, .int x] h = some ((-1 : Int32).toInt64, zp0 h 1) := by
  refine iX11_odds (by omega) K.choose_spec.1 ?_
  rw [eX11_odds_0, zkR9 K, Option.bind_some, jX0_has E (by omega), Option.bind_some, ← zhs, if_pos z1, jX11_refuse K (by omega), Option.bind_some]
theorem zX_odds_1 (K : zK h t tr) (E : zday h t c g) (D : zrou h N R tea) {nf k : Nat} (hnf : nf ≤ 6) (e5 : c 5 = nI nf) (ht : t = 7 ∨ t = 70) (hk : k < 3) (hd : 20 < d) (z1 : ¬ zhs c 4 (nI k) = 0) : ∃ h1, nzxL d nX11_odds [.ref 0, .int (nI k)] h = some (zit (zodT c g nf k (N k) (R k)) 0 (2 ^ N k) 0, h1) ∧ zK h1 t 0 ∧ zrou h1 N R tea ∧ zfr 0 17 h h1 := by
  have K0 := zp0_K K 0
  have f0 := zp0_fr K 0
  obtain ⟨h1, q1, q2, q3, q4⟩ := jX6_oddsOf (d := d - 1) (by omega) (by omega) hnf e5 hk (zrou_sm D (zfr_sm f0 (by omega))) (zday_sm E (zfr_sm f0 (by omega)))
  refine ⟨h1, iX11_odds (by omega) K.choose_spec.1 ?_, zK_sm K0 (q4.2.2.2 0 (by decide)), q2, zfr_tr (zfr_wk f0 (by decide) (by decide)) (zfr_wk q4 (by decide) (by decide))⟩
  rw [eX11_odds_0, zkR9 K, Option.bind_some, jX0_has E (by omega), Option.bind_some, ← zhs, if_neg z1, zp0_of K, Option.bind_some, zkR1 K0, Option.bind_some, zkR9 K0, Option.bind_some, q1, Option.bind_some]
theorem zX_fits_0 (K : zK h t tr) (E : zday h t c g) (hd : 20 < d) (x y : Int32) (z1 : zhs c 3 x = 0) : nzxI d nX11_fits [.ref 0, .int x, .int y] h = some (-1, zp0 h 1) := by
  refine iX11_fits (by omega) K.choose_spec.1 ?_
  rw [eX11_fits_0, zkR9 K, Option.bind_some, jX0_has E (by omega), Option.bind_some, ← zhs, if_pos z1, eX11_fits_24, jX11_refuse K (by omega), Option.bind_some]
theorem zX_fits_1 (K : zK h t tr) (E : zday h t c g) (hd : 20 < d) (x y : Int32) (z1 : ¬ zhs c 3 x = 0) (z2 : zhs c 1 y = 0) : nzxI d nX11_fits [.ref 0, .int x, .int y] h = some (-1, zp0 h 1) := by
  refine iX11_fits (by omega) K.choose_spec.1 ?_
  rw [eX11_fits_0, zkR9 K, Option.bind_some, jX0_has E (by omega), Option.bind_some, ← zhs, if_neg z1, zkR9 K, Option.bind_some, jX0_has E (by omega), Option.bind_some, ← zhs, if_pos z2, eX11_fits_24, jX11_refuse K (by omega), Option.bind_some]
theorem zX_breach_0 (K : zK h t tr) (E : zday h t c g) (hd : 20 < d) (x y : Int32) (z1 : zhs c 3 x = 0) : nzxI d nX11_breach [.ref 0, .int x, .int y] h = some (-1, zp0 h 1) := by
  refine iX11_breach (by omega) K.choose_spec.1 ?_
  rw [eX11_breach_0, zkR9 K, Option.bind_some, jX0_has E (by omega), Option.bind_some, ← zhs, if_pos z1, eX11_breach_24, jX11_refuse K (by omega), Option.bind_some]
theorem zX_breach_1 (K : zK h t tr) (E : zday h t c g) (hd : 20 < d) (x y : Int32) (z1 : ¬ zhs c 3 x = 0) (z2 : zhs c 1 y = 0) : nzxI d nX11_breach [.ref 0, .int x, .int y] h = some (-1, zp0 h 1) := by
  refine iX11_breach (by omega) K.choose_spec.1 ?_
  rw [eX11_breach_0, zkR9 K, Option.bind_some, jX0_has E (by omega), Option.bind_some, ← zhs, if_neg z1, zkR9 K, Option.bind_some, jX0_has E (by omega), Option.bind_some, ← zhs, if_pos z2, eX11_breach_24, jX11_refuse K (by omega), Option.bind_some]
theorem zX_breach_2 (K : zK h t tr) (E : zday h t c g) (hd : 20 < d) (x y : Int32) (z1 : ¬ zhs c 3 x = 0) (z2 : ¬ zhs c 1 y = 0) : nzxI d nX11_breach [.ref 0, .int x, .int y] h = some (zbar c g (zget c g 3 x 1) y, zp0 h 0) := by
  refine iX11_breach (by omega) K.choose_spec.1 ?_
  rw [eX11_breach_0, zkR9 K, Option.bind_some, jX0_has E (by omega), Option.bind_some, ← zhs, if_neg z1, zkR9 K, Option.bind_some, jX0_has E (by omega), Option.bind_some, ← zhs, if_neg z2, zkR9 K, Option.bind_some, Option.bind_some, jX0_dietOf E (by omega), Option.bind_some, jX0_barredLetters E (by omega), Option.bind_some, jX11_accept K (by omega), Option.bind_some]
theorem zX_fits_2 (K : zK h t tr) (E : zday h t c g) (hd : 20 < d) (x y : Int32) (z1 : ¬ zhs c 3 x = 0) (z2 : ¬ zhs c 1 y = 0) (z3 : zbar c g (zget c g 3 x 1) y = 0) : nzxI d nX11_fits [.ref 0, .int x, .int y] h = some (1, zp0 h 0) := by
  refine iX11_fits (by omega) K.choose_spec.1 ?_
  rw [eX11_fits_0, zkR9 K, Option.bind_some, jX0_has E (by omega), Option.bind_some, ← zhs, if_neg z1, zkR9 K, Option.bind_some, jX0_has E (by omega), Option.bind_some, ← zhs, if_neg z2, zkR9 K, Option.bind_some, Option.bind_some, jX0_dietOf E (by omega), Option.bind_some, jX0_barredLetters E (by omega), Option.bind_some, if_pos z3, eX11_fits_55, jX11_accept K (by omega), Option.bind_some]
theorem zX_fits_3 (K : zK h t tr) (E : zday h t c g) (hd : 20 < d) (x y : Int32) (z1 : ¬ zhs c 3 x = 0) (z2 : ¬ zhs c 1 y = 0) (z3 : ¬ zbar c g (zget c g 3 x 1) y = 0) : nzxI d nX11_fits [.ref 0, .int x, .int y] h = some (0, zp0 h 0) := by
  refine iX11_fits (by omega) K.choose_spec.1 ?_
  rw [eX11_fits_0, zkR9 K, Option.bind_some, jX0_has E (by omega), Option.bind_some, ← zhs, if_neg z1, zkR9 K, Option.bind_some, jX0_has E (by omega), Option.bind_some, ← zhs, if_neg z2, zkR9 K, Option.bind_some, Option.bind_some, jX0_dietOf E (by omega), Option.bind_some, jX0_barredLetters E (by omega), Option.bind_some, if_neg z3, eX11_fits_55, jX11_accept K (by omega), Option.bind_some]
theorem zX_menu_0 (K : zK h t tr) (E : zday h t c g) (hd : 20 < d) (x y : Int32) (z1 : zhs c 2 x = 0) : nzxI d nX11_menu [.ref 0, .int x, .int y] h = some (-1, zp0 h 1) := by
  refine iX11_menu (by omega) K.choose_spec.1 ?_
  rw [eX11_menu_0, zkR9 K, Option.bind_some, jX0_has E (by omega), Option.bind_some, ← zhs, if_pos z1, jX11_refuse K (by omega), Option.bind_some]
theorem zX_menu_1 (K : zK h t tr) (E : zday h t c g) (hd : 20 < d) (x y : Int32) (z1 : ¬ zhs c 2 x = 0) (z2 : zwn y 1 14 = 0) : nzxI d nX11_menu [.ref 0, .int x, .int y] h = some (-1, zp0 h 2) := by
  refine iX11_menu (by omega) K.choose_spec.1 ?_
  rw [eX11_menu_0, zkR9 K, Option.bind_some, jX0_has E (by omega), Option.bind_some, ← zhs, if_neg z1, jX11_isWithin (by omega), Option.bind_some, ← zwn, if_pos z2, jX11_refuse K (by omega), Option.bind_some]
theorem zX_menu_2 (K : zK h t tr) (E : zday h t c g) (M : zmen h mC mS mP md) (ht : t = 7 ∨ t = 70) {m : Nat} (hm1 : 1 ≤ m) (hm : m ≤ 14) (hd : 20 < d) (x : Int32) (z1 : ¬ zhs c 2 x = 0) (z2 : ¬ zwn (nI m) 1 14 = 0) (z3 : zlb (zmrow c g x m) (-1) = 1000000000) : ∃ h1 C1, nzxI d nX11_menu [.ref 0, .int x, .int (nI m)] h = some (-1, zp0 h1 6) ∧ zmen h1 C1 mS mP md ∧ zfr 31 50 h h1 := by
  obtain ⟨h1, C1, q1, q2, q3, q4, q5⟩ := jX3_cheapest (d := d - 1) (t := t) (by omega) (by omega) x hm1 hm M E
  have K1 := zK_sm K (q4.2.2.2 0 (by decide))
  refine ⟨h1, C1, iX11_menu (by omega) K.choose_spec.1 ?_, q2, q4⟩
  rw [eX11_menu_0, zkR9 K, Option.bind_some, jX0_has E (by omega), Option.bind_some, ← zhs, if_neg z1, jX11_isWithin (by omega), Option.bind_some, ← zwn, if_neg z2, zkR4 K, Option.bind_some, zkR9 K, Option.bind_some, q1, Option.bind_some, if_pos z3, jX11_refuse K1 (by omega), Option.bind_some]
theorem zX_menu_3 (K : zK h t tr) (E : zday h t c g) (M : zmen h mC mS mP md) (ht : t = 7 ∨ t = 70) {m : Nat} (hm1 : 1 ≤ m) (hm : m ≤ 14) (hd : 20 < d) (x : Int32) (z1 : ¬ zhs c 2 x = 0) (z2 : ¬ zwn (nI m) 1 14 = 0) (z3 : ¬ zlb (zmrow c g x m) (-1) = 1000000000) : ∃ h1 C1, nzxI d nX11_menu [.ref 0, .int x, .int (nI m)] h = some (zlb (zmrow c g x m) (-1), zp0 h1 0) ∧ zmen h1 C1 (zit (ztel C1 m) 0 m (-1, mS)).2 mP (nI m) ∧ zfr 31 50 h h1 ∧ ∀ i, 1 ≤ i → i ≤ m → ∀ k, k < 6 → C1 i k = zmrow c g x i k := by
  obtain ⟨h1, C1, q1, q2, q3, q4, q5⟩ := jX3_cheapest (d := d - 1) (t := t) (by omega) (by omega) x hm1 hm M E
  have K1 := zK_sm K (q4.2.2.2 0 (by decide))
  obtain ⟨h2, r1, r2, r3⟩ := jX3_tell (d := d - 1) q2 (by omega) hm
  have K2 := zK_sm K1 (r3.2.2.2 0 (by decide))
  refine ⟨h2, C1, iX11_menu (by omega) K.choose_spec.1 ?_, r2, zfr_tr q4 r3, q5⟩
  rw [eX11_menu_0, zkR9 K, Option.bind_some, jX0_has E (by omega), Option.bind_some, ← zhs, if_neg z1, jX11_isWithin (by omega), Option.bind_some, ← zwn, if_neg z2, zkR4 K, Option.bind_some, zkR9 K, Option.bind_some, q1, Option.bind_some, if_neg z3, zkR4 K1, Option.bind_some, r1, Option.bind_some, jX11_accept K2 (by omega), Option.bind_some]
theorem zX_dropped_0 (K : zK h t tr) (E : zday h t c g) (hd : 20 < d) (x y : Int32) (z0 : zrow c 3 = 0) : nzxI d nX11_dropped [.ref 0, .int x, .int y] h = some (-1, zp0 h 1) := by
  refine iX11_dropped (by omega) K.choose_spec.1 ?_
  rw [eX11_dropped_0, jX11_noDay K E (by omega), Option.bind_some, if_pos z0, if_neg (show ¬ (1 : Int32) = 0 by decide), jX11_refuse K (by omega), Option.bind_some]
theorem zX_dropped_1 (K : zK h t tr) (E : zday h t c g) (hd : 20 < d) (x y : Int32) (z0 : ¬ zrow c 3 = 0) (z1 : zwn y 1 14 = 0) : nzxI d nX11_dropped [.ref 0, .int x, .int y] h = some (-1, zp0 h 2) := by
  refine iX11_dropped (by omega) K.choose_spec.1 ?_
  rw [eX11_dropped_0, jX11_noDay K E (by omega), Option.bind_some, if_neg z0, if_pos rfl, jX11_isWithin (by omega), Option.bind_some, ← zwn, if_pos z1, eX11_dropped_33, jX11_refuse K (by omega), Option.bind_some]
theorem zX_dropped_2 (K : zK h t tr) (E : zday h t c g) (hd : 20 < d) (x y : Int32) (z0 : ¬ zrow c 3 = 0) (z1 : ¬ zwn y 1 14 = 0) (z2 : zwn x 0 99999 = 0) : nzxI d nX11_dropped [.ref 0, .int x, .int y] h = some (-1, zp0 h 2) := by
  refine iX11_dropped (by omega) K.choose_spec.1 ?_
  rw [eX11_dropped_0, jX11_noDay K E (by omega), Option.bind_some, if_neg z0, if_pos rfl, jX11_isWithin (by omega), Option.bind_some, ← zwn, if_neg z1, jX11_isWithin (by omega), Option.bind_some, ← zwn, if_pos z2, eX11_dropped_33, jX11_refuse K (by omega), Option.bind_some]
theorem zX_dropped_3 (K : zK h t tr) (E : zday h t c g) (M : zmen h mC mS mP md) (ht : t = 7 ∨ t = 70) {m : Nat} (hm1 : 1 ≤ m) (hm : m ≤ 14) {n : Nat} (hn : n ≤ 6) (en : c 3 = nI n) (hd : 20 < d) (x : Int32) (z0 : ¬ zrow c 3 = 0) (z1 : ¬ zwn (nI m) 1 14 = 0) (z2 : ¬ zwn x 0 99999 = 0) (z3 : zprA c g m 0 n = false) : ∃ h1 C1 P1, nzxI d nX11_dropped [.ref 0, .int x, .int (nI m)] h = some (-1, zp0 h1 6) ∧ zmen h1 C1 mS P1 md ∧ zfr 31 50 h h1 := by
  obtain ⟨h1, C1, P1, q1, q2, q3, q4, q5⟩ := jX3_priceHouses (d := d - 1) (t := t) (by omega) (by omega) hm1 hm hn en M E
  have K1 := zK_sm K (q4.2.2.2 0 (by decide))
  refine ⟨h1, C1, P1, iX11_dropped (by omega) K.choose_spec.1 ?_, q2, q4⟩
  rw [eX11_dropped_0, jX11_noDay K E (by omega), Option.bind_some, if_neg z0, if_pos rfl, jX11_isWithin (by omega), Option.bind_some, ← zwn, if_neg z1, jX11_isWithin (by omega), Option.bind_some, ← zwn, if_neg z2, zkR4 K, Option.bind_some, zkR9 K, Option.bind_some, q1, Option.bind_some, z3, if_pos (show (if false = true then (1 : Int32) else 0) = 0 by decide), jX11_refuse K1 (by omega), Option.bind_some]
theorem zX_dropped_4 (K : zK h t tr) (E : zday h t c g) (M : zmen h mC mS mP md) (ht : t = 7 ∨ t = 70) {m : Nat} (hm1 : 1 ≤ m) (hm : m ≤ 14) {n : Nat} (hn : n ≤ 6) (en : c 3 = nI n) (hd : 20 < d) (x : Int32) (z0 : ¬ zrow c 3 = 0) (z1 : ¬ zwn (nI m) 1 14 = 0) (z2 : ¬ zwn x 0 99999 = 0) (z3 : zprA c g m 0 n = true) : ∃ h1 C1 P1, nzxI d nX11_dropped [.ref 0, .int x, .int (nI m)] h = some (zdro c g P1 n x 6 0, zp0 h1 0) ∧ zmen h1 C1 mS P1 md ∧ zfr 31 50 h h1 ∧ ∀ k, k < n → P1 k = zpri c g m k := by
  obtain ⟨h1, C1, P1, q1, q2, q3, q4, q5⟩ := jX3_priceHouses (d := d - 1) (t := t) (by omega) (by omega) hm1 hm hn en M E
  have K1 := zK_sm K (q4.2.2.2 0 (by decide))
  refine ⟨h1, C1, P1, iX11_dropped (by omega) K.choose_spec.1 ?_, q2, q4, q5 z3⟩
  rw [eX11_dropped_0, jX11_noDay K E (by omega), Option.bind_some, if_neg z0, if_pos rfl, jX11_isWithin (by omega), Option.bind_some, ← zwn, if_neg z1, jX11_isWithin (by omega), Option.bind_some, ← zwn, if_neg z2, zkR4 K, Option.bind_some, zkR9 K, Option.bind_some, q1, Option.bind_some, z3, if_neg (show ¬ (if true = true then (1 : Int32) else 0) = 0 by decide), zkR4 K1, Option.bind_some, zkR9 K1, Option.bind_some, jX3_dropFor q2 q3 (by omega) hn en, Option.bind_some, jX11_accept K1 (by omega), Option.bind_some]
theorem zX_knock_0 (K : zK h t tr) (E : zday h t c g) (hd : 20 < d) (z1 : ¬ (if zrow c 3 = 0 then (1 : Int32) else if zrow c 6 = 0 then 6 else 0) = 0) : nzxL d nX11_knock [.ref 0] h = some ((-1 : Int32).toInt64, zp0 h (if zrow c 3 = 0 then 1 else if zrow c 6 = 0 then 6 else 0)) := by
  refine iX11_knock (by omega) K.choose_spec.1 ?_
  rw [eX11_knock_0, jX11_callTrouble K E (by omega), Option.bind_some, if_neg z1, jX11_refuse K (by omega), Option.bind_some]
theorem zX_asTold_0 (K : zK h t tr) (E : zday h t c g) (hd : 20 < d) (z1 : ¬ (if zrow c 3 = 0 then (1 : Int32) else if zrow c 6 = 0 then 6 else 0) = 0) : nzxL d nX11_asTold [.ref 0] h = some ((-1 : Int32).toInt64, zp0 h (if zrow c 3 = 0 then 1 else if zrow c 6 = 0 then 6 else 0)) := by
  refine iX11_asTold (by omega) K.choose_spec.1 ?_
  rw [eX11_asTold_0, jX11_callTrouble K E (by omega), Option.bind_some, if_neg z1, jX11_refuse K (by omega), Option.bind_some]
theorem zX_knock_1 (K : zK h t tr) (E : zday h t c g) (Q : zkno h ks kc) (ht : t = 7 ∨ t = 70) {n : Nat} (hn : n ≤ 5) (en : c 6 = nI n) (hd : 20 < d) (z1 : (if zrow c 3 = 0 then (1 : Int32) else if zrow c 6 = 0 then 6 else 0) = 0) : ∃ h1, nzxL d nX11_knock [.ref 0] h = some ((zkE c g n n 0 0 (ks.1, ks.2.1, 1000000000000000)).2.2, h1) ∧ zK h1 t 0 ∧ zkno h1 (zkE c g n n 0 0 (ks.1, ks.2.1, 1000000000000000)) (nI n) ∧ zsm 1 50 h h1 ∧ (∀ a, 53 ≤ a → nzcell h1 a = nzcell h a) ∧ h1.1 = h.1 ∧ h1.2.1 = h.2.1 ∧ h1.2.2.2 = h.2.2.2 := by
  have K0 := zp0_K K 0
  have f0 := zp0_fr K 0
  obtain ⟨h1, q1, q2, q3, q4⟩ := jX2_search (d := d - 1) (zkno_sm Q (zfr_sm f0 (by omega))) (zday_sm E (zfr_sm f0 (by omega))) (by omega) (by omega) hn en
  refine ⟨h1, iX11_knock (by omega) K.choose_spec.1 ?_, zK_sm K0 (q4.2.2.2 0 (by decide)), q2, fun a a1 a2 => (q4.2.2.2 a (by omega)).trans (f0.2.2.2 a (by omega)), fun a a1 => (q4.2.2.2 a (by omega)).trans (f0.2.2.2 a (by omega)), q4.1.trans f0.1, q4.2.1.trans f0.2.1, q4.2.2.1.trans f0.2.2.1⟩
  rw [eX11_knock_0, jX11_callTrouble K E (by omega), Option.bind_some, if_pos z1, zp0_of K, Option.bind_some, zkR5 K0, Option.bind_some, zkR9 K0, Option.bind_some, q1, Option.bind_some]
theorem zX_asTold_1 (K : zK h t tr) (E : zday h t c g) (Q : zkno h ks kc) (ht : t = 7 ∨ t = 70) {n : Nat} (hn : n ≤ 5) (en : c 6 = nI n) (hd : 20 < d) (z1 : (if zrow c 3 = 0 then (1 : Int32) else if zrow c 6 = 0 then 6 else 0) = 0) : ∃ h1 s1, nzxL d nX11_asTold [.ref 0] h = some ((zexp c g s1.1 n (0, 1)).1, h1) ∧ zK h1 t 0 ∧ zkno h1 s1 kc ∧ (∀ k, k < 5 → s1.1 k = nI k) ∧ s1.2 = ks.2 ∧ zsm 1 50 h h1 ∧ (∀ a, 53 ≤ a → nzcell h1 a = nzcell h a) ∧ h1.1 = h.1 ∧ h1.2.1 = h.2.1 ∧ h1.2.2.2 = h.2.2.2 := by
  have K0 := zp0_K K 0
  have f0 := zp0_fr K 0
  obtain ⟨h1, s1, q1, q2, q3, q4, q5, q6⟩ := jX2_expectedAsTold (d := d - 1) (zkno_sm Q (zfr_sm f0 (by omega))) (zday_sm E (zfr_sm f0 (by omega))) (by omega) (by omega) hn en
  refine ⟨h1, s1, iX11_asTold (by omega) K.choose_spec.1 ?_, zK_sm K0 (q4.2.2.2 0 (by decide)), q2, q5, q6, fun a a1 a2 => (q4.2.2.2 a (by omega)).trans (f0.2.2.2 a (by omega)), fun a a1 => (q4.2.2.2 a (by omega)).trans (f0.2.2.2 a (by omega)), q4.1.trans f0.1, q4.2.1.trans f0.2.1, q4.2.2.1.trans f0.2.2.1⟩
  rw [eX11_asTold_0, jX11_callTrouble K E (by omega), Option.bind_some, if_pos z1, zp0_of K, Option.bind_some, zkR5 K0, Option.bind_some, zkR9 K0, Option.bind_some, q1, Option.bind_some]
theorem zX_fill_0 (K : zK h t tr) (E : zday h t c g) (hd : 20 < d) (z0 : zrow c 3 = 0) : nzxI d nX11_fill [.ref 0] h = some (-1, zp0 h 1) := by
  refine iX11_fill (by omega) K.choose_spec.1 ?_
  rw [eX11_fill_0, jX11_noDay K E (by omega), Option.bind_some, if_pos z0, if_neg (show ¬ (1 : Int32) = 0 by decide), jX11_refuse K (by omega), Option.bind_some]
theorem zX_fill_1 (K : zK h t tr) (E : zday h t c g) (V : zwis h wW wL wP wt) (ht : t = 7 ∨ t = 70) {n : Nat} (hn : n ≤ 6) (en : c 7 = nI n) (hd : 20 < d) (z0 : ¬ zrow c 3 = 0) : ∃ h1 L1, nzxI d nX11_fill [.ref 0] h = some (zmost (znw c g n wW) (zcap c g 7 wL) 0, zp0 h1 0) ∧ zwis h1 (znw c g n wW) L1 (zit (zweek (znw c g n wW)) 0 7 (zmost (znw c g n wW) (zcap c g 7 wL) 0, zcff c g (znw c g n wW) (zmost (znw c g n wW) (zcap c g 7 wL) 0) 7 0 (zcap c g 7 wL), wP)).2.2 1 ∧ zfr 53 57 h h1 := by
  obtain ⟨h1, L1, q1, q2, q3⟩ := jX10_fillWeek (d := d - 1) V E (by omega) (by omega) hn en
  have K1 := zK_sm K (q3.2.2.2 0 (by decide))
  refine ⟨h1, L1, iX11_fill (by omega) K.choose_spec.1 ?_, q2, q3⟩
  rw [eX11_fill_0, jX11_noDay K E (by omega), Option.bind_some, if_neg z0, if_pos rfl, zkR6 K, Option.bind_some, zkR9 K, Option.bind_some, q1, Option.bind_some, jX11_accept K1 (by omega), Option.bind_some]
theorem zX_sign_0 (K : zK h t tr) (E : zday h t c g) (hd : 20 < d) (x y : Int32) (z1 : zhs c 3 x = 0) : nzxI d nX11_sign [.ref 0, .int x, .int y] h = some (-1, zp0 h 1) := by
  refine iX11_sign (by omega) K.choose_spec.1 ?_
  rw [eX11_sign_0, zkR9 K, Option.bind_some, jX0_has E (by omega), Option.bind_some, ← zhs, if_pos z1, jX11_refuse K (by omega), Option.bind_some]
theorem zX_sign_1 (K : zK h t tr) (E : zday h t c g) (hd : 20 < d) (x y : Int32) (z1 : ¬ zhs c 3 x = 0) (z2 : zwn y 0 99 = 0) : nzxI d nX11_sign [.ref 0, .int x, .int y] h = some (-1, zp0 h 2) := by
  refine iX11_sign (by omega) K.choose_spec.1 ?_
  rw [eX11_sign_0, zkR9 K, Option.bind_some, jX0_has E (by omega), Option.bind_some, ← zhs, if_neg z1, jX11_isWithin (by omega), Option.bind_some, ← zwn, if_pos z2, jX11_refuse K (by omega), Option.bind_some]
theorem zX_sign_2 (K : zK h t tr) (E : zday h t c g) (G : zsig h gN gV) {k : Nat} (hk : k < 6) (hd : 20 < d) (y : Int32) (z1 : ¬ zhs c 3 (nI k) = 0) (z2 : ¬ zwn y 0 99 = 0) (z3 : ¬ nI (gN k) < 10) : nzxI d nX11_sign [.ref 0, .int (nI k), .int y] h = some (-1, zp0 h 3) := by
  refine iX11_sign (by omega) K.choose_spec.1 ?_
  rw [eX11_sign_0, zkR9 K, Option.bind_some, jX0_has E (by omega), Option.bind_some, ← zhs, if_neg z1, jX11_isWithin (by omega), Option.bind_some, ← zwn, if_neg z2, zkR7 K, Option.bind_some, jX8_count G (by omega) hk, Option.bind_some, if_neg z3, jX11_refuse K (by omega), Option.bind_some]
theorem zX_sign_3 (K : zK h t tr) (E : zday h t c g) (G : zsig h gN gV) {k : Nat} (hk : k < 6) (hN : gN k < 10) (hd : 20 < d) (y : Int32) (z1 : ¬ zhs c 3 (nI k) = 0) (z2 : ¬ zwn y 0 99 = 0) (z3 : nI (gN k) < 10) : ∃ h1, nzxI d nX11_sign [.ref 0, .int (nI k), .int y] h = some (nI (gN k + 1), zp0 h1 0) ∧ zsig h1 (va_up gN k (gN k + 1)) (fun i j => if i = k ∧ j = gN k then y else gV i j) ∧ zfr 57 66 h h1 := by
  obtain ⟨h1, q1, q2, q3⟩ := jX8_append (d := d - 1) G (by omega) y hk hN
  have K1 := zK_sm K (q3.2.2.2 0 (by decide))
  refine ⟨h1, iX11_sign (by omega) K.choose_spec.1 ?_, q2, q3⟩
  rw [eX11_sign_0, zkR9 K, Option.bind_some, jX0_has E (by omega), Option.bind_some, ← zhs, if_neg z1, jX11_isWithin (by omega), Option.bind_some, ← zwn, if_neg z2, zkR7 K, Option.bind_some, jX8_count G (by omega) hk, Option.bind_some, if_pos z3, zkR7 K, Option.bind_some, q1, Option.bind_some, jX11_accept K1 (by omega), Option.bind_some]
theorem zX_fading_0 (K : zK h t tr) (E : zday h t c g) (hd : 20 < d) (x : Int32) (z1 : zhs c 3 x = 0) : nzxI d nX11_fading [.ref 0, .int x] h = some (-1, zp0 h 1) := by
  refine iX11_fading (by omega) K.choose_spec.1 ?_
  rw [eX11_fading_0, zkR9 K, Option.bind_some, jX0_has E (by omega), Option.bind_some, ← zhs, if_pos z1, jX11_refuse K (by omega), Option.bind_some]
theorem zX_fading_1 (K : zK h t tr) (E : zday h t c g) (G : zsig h gN gV) {k : Nat} (hk : k < 6) (hd : 20 < d) (z1 : ¬ zhs c 3 (nI k) = 0) (z2 : ¬ 4 ≤ nI (gN k)) : nzxI d nX11_fading [.ref 0, .int (nI k)] h = some (-1, zp0 h 5) := by
  refine iX11_fading (by omega) K.choose_spec.1 ?_
  rw [eX11_fading_0, zkR9 K, Option.bind_some, jX0_has E (by omega), Option.bind_some, ← zhs, if_neg z1, zkR7 K, Option.bind_some, jX8_count G (by omega) hk, Option.bind_some, if_neg z2, jX11_refuse K (by omega), Option.bind_some]
theorem zX_fading_2 (K : zK h t tr) (E : zday h t c g) (G : zsig h gN gV) {k : Nat} (hk : k < 6) (h3 : 3 ≤ gN k) (hd : 20 < d) (z1 : ¬ zhs c 3 (nI k) = 0) (z2 : 4 ≤ nI (gN k)) : nzxI d nX11_fading [.ref 0, .int (nI k)] h = some (zfad (gV k) (gN k), zp0 h 0) := by
  refine iX11_fading (by omega) K.choose_spec.1 ?_
  rw [eX11_fading_0, zkR9 K, Option.bind_some, jX0_has E (by omega), Option.bind_some, ← zhs, if_neg z1, zkR7 K, Option.bind_some, jX8_count G (by omega) hk, Option.bind_some, if_pos z2, zkR7 K, Option.bind_some, jX8_choicesNoLess G (by omega) hk h3, Option.bind_some, jX11_accept K (by omega), Option.bind_some]
theorem zX_probe_0 (K : zK h t tr) (E : zday h t c g) (hd : 20 < d) (x y w : Int32) (z1 : zhs c 4 x = 0) : nzxI d nX11_probe [.ref 0, .int x, .int y, .int w] h = some (-1, zp0 h 1) := by
  refine iX11_probe (by omega) K.choose_spec.1 ?_
  rw [eX11_probe_0, zkR9 K, Option.bind_some, jX0_has E (by omega), Option.bind_some, ← zhs, if_pos z1, jX11_refuse K (by omega), Option.bind_some]
theorem zX_probe_1 (K : zK h t tr) (E : zday h t c g) (hd : 20 < d) (x y w : Int32) (z1 : ¬ zhs c 4 x = 0) (z2 : zwn y (zget c g 4 x 1) 999 = 0) : nzxI d nX11_probe [.ref 0, .int x, .int y, .int w] h = some (-1, zp0 h 2) := by
  refine iX11_probe (by omega) K.choose_spec.1 ?_
  rw [eX11_probe_0, zkR9 K, Option.bind_some, jX0_has E (by omega), Option.bind_some, ← zhs, if_neg z1, zkR9 K, Option.bind_some, jX0_get E (by omega), Option.bind_some, jX11_isWithin (by omega), Option.bind_some, ← zwn, if_pos z2, eX11_probe_52, jX11_refuse K (by omega), Option.bind_some]
theorem zX_probe_2 (K : zK h t tr) (E : zday h t c g) (hd : 20 < d) (x y w : Int32) (z1 : ¬ zhs c 4 x = 0) (z2 : ¬ zwn y (zget c g 4 x 1) 999 = 0) (z3 : zwn w 0 99 = 0) : nzxI d nX11_probe [.ref 0, .int x, .int y, .int w] h = some (-1, zp0 h 2) := by
  refine iX11_probe (by omega) K.choose_spec.1 ?_
  rw [eX11_probe_0, zkR9 K, Option.bind_some, jX0_has E (by omega), Option.bind_some, ← zhs, if_neg z1, zkR9 K, Option.bind_some, jX0_get E (by omega), Option.bind_some, jX11_isWithin (by omega), Option.bind_some, ← zwn, if_neg z2, jX11_isWithin (by omega), Option.bind_some, ← zwn, if_pos z3, eX11_probe_52, jX11_refuse K (by omega), Option.bind_some]
theorem zX_probe_3 (K : zK h t tr) (E : zday h t c g) (P : zpro h pn pC pM pT) (hd : 20 < d) (x y w : Int32) (z1 : ¬ zhs c 4 x = 0) (z2 : ¬ zwn y (zget c g 4 x 1) 999 = 0) (z3 : ¬ zwn w 0 99 = 0) (z4 : ¬ nI pn < 16) : nzxI d nX11_probe [.ref 0, .int x, .int y, .int w] h = some (-1, zp0 h 3) := by
  refine iX11_probe (by omega) K.choose_spec.1 ?_
  rw [eX11_probe_0, zkR9 K, Option.bind_some, jX0_has E (by omega), Option.bind_some, ← zhs, if_neg z1, zkR9 K, Option.bind_some, jX0_get E (by omega), Option.bind_some, jX11_isWithin (by omega), Option.bind_some, ← zwn, if_neg z2, jX11_isWithin (by omega), Option.bind_some, ← zwn, if_neg z3, zkR8 K, Option.bind_some, zpro_n P, Option.bind_some, if_neg z4, jX11_refuse K (by omega), Option.bind_some]
theorem zX_probe_4 (K : zK h t tr) (E : zday h t c g) (P : zpro h pn pC pM pT) (hN : pn < 16) (hd : 20 < d) (x y w : Int32) (z1 : ¬ zhs c 4 x = 0) (z2 : ¬ zwn y (zget c g 4 x 1) 999 = 0) (z3 : ¬ zwn w 0 99 = 0) (z4 : nI pn < 16) : ∃ h1, nzxI d nX11_probe [.ref 0, .int x, .int y, .int w] h = some (nI (pn + 1), zp0 h1 0) ∧ zpro h1 (pn + 1) (upd pC pn x) (upd pM pn y) (upd pT pn w) ∧ zfr 66 70 h h1 := by
  obtain ⟨h1, q1, q2, q3⟩ := jX5_append (d := d - 1) P (by omega) x y w hN
  have K1 := zK_sm K (q3.2.2.2 0 (by decide))
  refine ⟨h1, iX11_probe (by omega) K.choose_spec.1 ?_, q2, q3⟩
  rw [eX11_probe_0, zkR9 K, Option.bind_some, jX0_has E (by omega), Option.bind_some, ← zhs, if_neg z1, zkR9 K, Option.bind_some, jX0_get E (by omega), Option.bind_some, jX11_isWithin (by omega), Option.bind_some, ← zwn, if_neg z2, jX11_isWithin (by omega), Option.bind_some, ← zwn, if_neg z3, zkR8 K, Option.bind_some, zpro_n P, Option.bind_some, if_pos z4, Option.bind_some, q1, Option.bind_some, jX11_accept K1 (by omega), Option.bind_some]
theorem zX_faulty_0 (K : zK h t tr) (E : zday h t c g) (hd : 20 < d) (x : Int32) (z0 : zrow c 3 = 0) : nzxI d nX11_faulty [.ref 0, .int x] h = some (-1, zp0 h 1) := by
  refine iX11_faulty (by omega) K.choose_spec.1 ?_
  rw [eX11_faulty_0, jX11_noDay K E (by omega), Option.bind_some, if_pos z0, if_neg (show ¬ (1 : Int32) = 0 by decide), jX11_refuse K (by omega), Option.bind_some]
theorem zX_faulty_1 (K : zK h t tr) (E : zday h t c g) (hd : 20 < d) (x : Int32) (z0 : ¬ zrow c 3 = 0) (z1 : zwn x 0 99 = 0) : nzxI d nX11_faulty [.ref 0, .int x] h = some (-1, zp0 h 2) := by
  refine iX11_faulty (by omega) K.choose_spec.1 ?_
  rw [eX11_faulty_0, jX11_noDay K E (by omega), Option.bind_some, if_neg z0, if_pos rfl, jX11_isWithin (by omega), Option.bind_some, ← zwn, if_pos z1, jX11_refuse K (by omega), Option.bind_some]
theorem zX_faulty_2 (K : zK h t tr) (E : zday h t c g) (P : zpro h pn pC pM pT) (hd : 20 < d) (x : Int32) (z0 : ¬ zrow c 3 = 0) (z1 : ¬ zwn x 0 99 = 0) : nzxI d nX11_faulty [.ref 0, .int x] h = some (zit (zoff c g pC pM pT x) 0 pn 0, zp0 h 0) := by
  refine iX11_faulty (by omega) K.choose_spec.1 ?_
  rw [eX11_faulty_0, jX11_noDay K E (by omega), Option.bind_some, if_neg z0, if_pos rfl, jX11_isWithin (by omega), Option.bind_some, ← zwn, if_neg z1, zkR8 K, Option.bind_some, zkR9 K, Option.bind_some, jX5_offByMore P E (by omega), Option.bind_some, jX11_accept K (by omega), Option.bind_some]
theorem zX_firstCold_0 (K : zK h t tr) (E : zday h t c g) (hd : 20 < d) (z0 : zrow c 3 = 0) : nzxI d nX11_firstCold [.ref 0] h = some (-1, zp0 h 1) := by
  refine iX11_firstCold (by omega) K.choose_spec.1 ?_
  rw [eX11_firstCold_0, jX11_noDay K E (by omega), Option.bind_some, if_pos z0, if_neg (show ¬ (1 : Int32) = 0 by decide), jX11_refuse K (by omega), Option.bind_some]
theorem zX_firstCold_1 (K : zK h t tr) (E : zday h t c g) (P : zpro h pn pC pM pT) (hd : 20 < d) (z0 : ¬ zrow c 3 = 0) : nzxI d nX11_firstCold [.ref 0] h = some ((zit (zear pM pT (zget c g 8 0 0)) 0 pn (-2, 1000000000)).1, zp0 h 0) := by
  refine iX11_firstCold (by omega) K.choose_spec.1 ?_
  rw [eX11_firstCold_0, jX11_noDay K E (by omega), Option.bind_some, if_neg z0, if_pos rfl, zkR8 K, Option.bind_some, zkR9 K, Option.bind_some, jX0_get E (by omega), Option.bind_some, jX5_earliestBelow P (by omega), Option.bind_some, jX11_accept K (by omega), Option.bind_some]
theorem zX_shared_0 (K : zK h t tr) (E : zday h t c g) {n : Nat} (hn : n ≤ 6) (S : zsha h ss (nI n)) (hd : 20 < d) (x : Int32)  : nzxI d nX11_shared [.ref 0, .int x] h = some (if x < 0 then -1 else if nI n ≤ x then -1 else ss.2.2.1 x.toNatClampNeg, h) := by
  refine iX11_shared (by omega) K.choose_spec.1 ?_
  rw [eX11_shared_0, zkR3 K, Option.bind_some, jX7_carOf S hn (by omega), Option.bind_some]
theorem zX_menuAt_0 (K : zK h t tr) (E : zday h t c g) {n : Nat} (hn : n ≤ 14) (M : zmen h mC mS mP (nI n)) (hd : 20 < d) (x : Int32)  : nzxI d nX11_menuAt [.ref 0, .int x] h = some (if x < 0 then -1 else if nI n ≤ x then -1 else mS x.toNatClampNeg, h) := by
  refine iX11_menuAt (by omega) K.choose_spec.1 ?_
  rw [eX11_menuAt_0, zkR4 K, Option.bind_some, jX3_dishOn M hn (by omega), Option.bind_some]
theorem zX_callAt_0 (K : zK h t tr) (E : zday h t c g) {n : Nat} (hn : n ≤ 5) (Q : zkno h ks (nI n)) (hd : 20 < d) (x : Int32)  : nzxI d nX11_callAt [.ref 0, .int x] h = some (if x < 0 then -1 else if nI n ≤ x then -1 else ks.2.1 x.toNatClampNeg, h) := by
  refine iX11_callAt (by omega) K.choose_spec.1 ?_
  rw [eX11_callAt_0, zkR5 K, Option.bind_some, jX2_callOf Q hn (by omega), Option.bind_some]
theorem zX_helper_0 (K : zK h t tr) (E : zday h t c g) (V : zwis h wW wL wP wt) (hd : 20 < d) (x : Int32)  : nzxI d nX11_helper [.ref 0, .int x] h = some (if wt = 0 then -1 else if x < 0 then -1 else if 7 ≤ x then -1 else wP x.toNatClampNeg, h) := by
  refine iX11_helper (by omega) K.choose_spec.1 ?_
  rw [eX11_helper_0, zkR6 K, Option.bind_some, jX10_helperOf V (by omega), Option.bind_some]
end NZKL
