/-! NoonMeals' calls: orders, shares, loops over the day -/
def zkn (c g : Nat → Int32) (nf n : Nat) (Hf : Nat → Nat) (kn : Int32) (Wt Pk : Nat → Nat → Int32) : Prop := ∀ k, k < 3 → ¬ kn &&& (1 <<< (nI k &&& 31)) = 0 → ∃ O w p, Wt k = (zolr c g nf n k (Hf k) O w p).2.1 ∧ Pk k = (zolr c g nf n k (Hf k) O w p).2.2
theorem zand_or (a b x : Int32) : (a ||| b) &&& x = 0 ↔ a &&& x = 0 ∧ b &&& x = 0 := by
  have : (a ||| b) &&& x = (a &&& x) ||| (b &&& x) := by
    apply Int32.toBitVec_inj.mp
    simp only [Int32.toBitVec_and, Int32.toBitVec_or]
    ext i hi
    simp [Bool.and_or_distrib_right]
  rw [this, zor_z]
theorem zbit3 : ∀ k, k < 3 → ∀ q, q < 3 → ((1 : Int32) <<< (nI k &&& 31) &&& (1 <<< (nI q &&& 31)) = 0 ↔ ¬ k = q) := by decide +kernel
section NZKM
variable {d : Nat} {h : nzH} {t : Nat} {tr : Int32} {c g : Nat → Int32} {N : Nat → Nat} {R : Nat → Nat → Nat} {tea : Int32} {nf n : Nat} {Wt Pk : Nat → Nat → Int32} {O : Nat → Int32} {kn : Int32} {Hf : Nat → Nat}
theorem zlearn (G : zord h Wt Pk O kn) (E : zday h t c g) (ht : t = 7 ∨ t = 70) (hd : 12 < d) (hnf : nf ≤ 6) (e5 : c 5 = nI nf) (hn : n ≤ 6) (en : c 3 = nI n) {k : Nat} (hk : k < 3) (hH : Hf k ≤ 6) (eH : zget c g 4 (nI k) 2 = nI (Hf k)) (Z : zkn c g nf n Hf kn Wt Pk) : ∃ h1 Wt' Pk' O' kn', nzxV d nX4_learn [.ref 17, .ref t, .int (nI k)] h = some h1 ∧ zday h1 t c g ∧ zfr 17 27 h h1 ∧ zord h1 Wt' Pk' O' kn' ∧ zkn c g nf n Hf kn' Wt' Pk' ∧ ¬ kn' &&& (1 <<< (nI k &&& 31)) = 0 ∧ ∀ q, q < 3 → ¬ kn &&& (1 <<< (nI q &&& 31)) = 0 → ¬ kn' &&& (1 <<< (nI q &&& 31)) = 0 := by
  obtain ⟨h1, q1, q2, q3, q4⟩ := jX4_learn G E (by omega) hd hnf e5 hn en hk hH eH
  by_cases y : kn &&& (1 <<< (nI k &&& 31)) = 0
  · rw [if_pos y] at q4
    refine ⟨h1, _, _, _, _, q1, q2, q3, q4, fun q hq hz => ?_, fun z => ?_, fun q hq hz z => ?_⟩
    · by_cases e : q = k
      · subst e
        refine ⟨O, Wt q, Pk q, ?_, ?_⟩
        · rw [va_up, if_pos rfl]
        · rw [va_up, if_pos rfl]
      · have : ¬ kn &&& (1 <<< (nI q &&& 31)) = 0 := fun z => hz ((zand_or _ _ _).mpr ⟨z, (zbit3 k hk q hq).mpr (fun u => e u.symm)⟩)
        obtain ⟨O', w, p, a1, a2⟩ := Z q hq this
        refine ⟨O', w, p, ?_, ?_⟩
        · rw [va_up, if_neg e]; exact a1
        · rw [va_up, if_neg e]; exact a2
    · exact (zbit3 k hk k hk).mp ((zand_or _ _ _).mp z).2 rfl
    · exact hz ((zand_or _ _ _).mp z).1
  · rw [if_neg y] at q4
    exact ⟨h1, Wt, Pk, O, kn, q1, q2, q3, q4, Z, y, fun q _ hz => hz⟩
theorem zX_bt_0 (K : zK h t tr) (E : zday h t c g) (hd : 6 < d) (x y : Int32) (z : zhs c 4 x = 0) : nzxI d nX11_bestTrouble [.ref 0, .int x, .int y] h = some (1, h) := by
  refine iX11_bestTrouble (by omega) K.choose_spec.1 ?_
  rw [eX11_bestTrouble_0, zkR9 K, Option.bind_some, jX0_has E (by omega), Option.bind_some, ← zhs, if_pos z, eX11_bestTrouble_23]
theorem zX_bt_1 (K : zK h t tr) (E : zday h t c g) (hd : 6 < d) (x y : Int32) (z : ¬ zhs c 4 x = 0) (z2 : ¬ (y &&& (((1 <<< (zrow c 3 &&& 31)) - 1) ^^^ (-1))) = 0) : nzxI d nX11_bestTrouble [.ref 0, .int x, .int y] h = some (1, h) := by
  refine iX11_bestTrouble (by omega) K.choose_spec.1 ?_
  rw [eX11_bestTrouble_0, zkR9 K, Option.bind_some, jX0_has E (by omega), Option.bind_some, ← zhs, if_neg z, zkR9 K, Option.bind_some, jX0_hasHouses E (by omega), Option.bind_some, if_neg z2, if_pos rfl, eX11_bestTrouble_23]
theorem zX_bt_2 (K : zK h t tr) (E : zday h t c g) (hd : 6 < d) (x : Int32) {q : Nat} (hq : q < 64) (z : ¬ zhs c 4 x = 0) (z2 : (nI q &&& (((1 <<< (zrow c 3 &&& 31)) - 1) ^^^ (-1))) = 0) : nzxI d nX11_bestTrouble [.ref 0, .int x, .int (nI q)] h = some (if zget c g 4 x 2 < nI (zpop q) then 3 else 0, h) := by
  refine iX11_bestTrouble (by omega) K.choose_spec.1 ?_
  rw [eX11_bestTrouble_0, zkR9 K, Option.bind_some, jX0_has E (by omega), Option.bind_some, ← zhs, if_neg z, zkR9 K, Option.bind_some, jX0_hasHouses E (by omega), Option.bind_some, if_pos z2, if_neg (show ¬ (1 : Int32) = 0 by decide), jJ6_bitCount (by omega) hq, Option.bind_some, zkR9 K, Option.bind_some, jX0_get E (by omega), Option.bind_some]
  split
  · rw [eX11_bestTrouble_47, if_pos rfl]
  · rw [eX11_bestTrouble_47, if_neg (show ¬ (1 : Int32) = 0 by decide)]
theorem zX_best_no (K : zK h t tr) (hd : 20 < d) (x y v : Int32) (b : nzxI (d - 1) nX11_bestTrouble [.ref 0, .int x, .int y] h = some (v, h)) (hv : ¬ v = 0) : nzxI d nX11_best [.ref 0, .int x, .int y] h = some (-1, zp0 h v) := by
  refine iX11_best (by omega) K.choose_spec.1 ?_
  rw [eX11_best_0, b, Option.bind_some, if_neg hv, jX11_refuse K (by omega), Option.bind_some]
theorem zX_bestAt_no (K : zK h t tr) (hd : 20 < d) (x y w v : Int32) (b : nzxI (d - 1) nX11_bestTrouble [.ref 0, .int x, .int y] h = some (v, h)) (hv : ¬ v = 0) : nzxI d nX11_bestAt [.ref 0, .int x, .int y, .int w] h = some (-1, zp0 h v) := by
  refine iX11_bestAt (by omega) K.choose_spec.1 ?_
  rw [eX11_bestAt_0, b, Option.bind_some, if_neg hv, jX11_refuse K (by omega), Option.bind_some]
theorem zX_bestAt_out (K : zK h t tr) (hd : 20 < d) (x w : Int32) {q : Nat} (hq : q < 64) (b : nzxI (d - 1) nX11_bestTrouble [.ref 0, .int x, .int (nI q)] h = some (0, h)) (hw : w < 0 ∨ ¬ w < nI (zpop q)) : nzxI d nX11_bestAt [.ref 0, .int x, .int (nI q), .int w] h = some (-1, zp0 h 1) := by
  refine iX11_bestAt (by omega) K.choose_spec.1 ?_
  rw [eX11_bestAt_0, b, Option.bind_some, if_pos rfl]
  by_cases y : w < 0
  · rw [if_pos y, eX11_bestAt_32, jX11_refuse K (by omega), Option.bind_some]
  · have : ¬ w < nI (zpop q) := by
      cases hw with
      | inl a => exact absurd a y
      | inr a => exact a
    rw [if_neg y, jJ6_bitCount (by omega) hq, Option.bind_some, if_neg this, eX11_bestAt_32, jX11_refuse K (by omega), Option.bind_some]
theorem zX_best_ok (K : zK h t tr) (G : zord h Wt Pk O kn) (E : zday h t c g) (ht : t = 7 ∨ t = 70) (hd : 20 < d) (hnf : nf ≤ 6) (e5 : c 5 = nI nf) (hn : n ≤ 6) (en : c 3 = nI n) {k q : Nat} (hk : k < 3) (hH : Hf k ≤ 6) (eH : zget c g 4 (nI k) 2 = nI (Hf k)) (Z : zkn c g nf n Hf kn Wt Pk) (hq : q < 64) (b : nzxI (d - 1) nX11_bestTrouble [.ref 0, .int (nI k), .int (nI q)] h = some (0, h)) : ∃ h1 Wt' Pk' O' kn' O2 w p, nzxI d nX11_best [.ref 0, .int (nI k), .int (nI q)] h = some ((zolr c g nf n k (Hf k) O2 w p).2.1 q, zp0 h1 0) ∧ zK h1 t tr ∧ zfr 17 27 h h1 ∧ zord h1 Wt' Pk' O' kn' ∧ zkn c g nf n Hf kn' Wt' Pk' := by
  obtain ⟨h1, Wt', Pk', O', kn', q1, q2, q3, q4, q5, q6, q7⟩ := zlearn (d := d - 1) G E ht (by omega) hnf e5 hn en hk hH eH Z
  obtain ⟨O2, w, p, a1, a2⟩ := q5 k hk q6
  have K1 := zK_sm K (q3.2.2.2 0 (by decide))
  refine ⟨h1, Wt', Pk', O', kn', O2, w, p, iX11_best (by omega) K.choose_spec.1 ?_, K1, q3, q4, q5⟩
  rw [eX11_best_0, b, Option.bind_some, if_pos rfl, zkR2 K, Option.bind_some, zkR9 K, Option.bind_some, q1, Option.bind_some, zkR2 K1, Option.bind_some, jX4_worth q4 (by omega) hk hq, Option.bind_some, jX11_accept K1 (by omega), Option.bind_some, a1]
theorem zX_bestAt_ok (K : zK h t tr) (G : zord h Wt Pk O kn) (E : zday h t c g) (ht : t = 7 ∨ t = 70) (hd : 20 < d) (hnf : nf ≤ 6) (e5 : c 5 = nI nf) (hn : n ≤ 6) (en : c 3 = nI n) {k q i : Nat} (hk : k < 3) (hH : Hf k ≤ 6) (eH : zget c g 4 (nI k) 2 = nI (Hf k)) (Z : zkn c g nf n Hf kn Wt Pk) (hq : q < 64) (hi : i < zpop q) (h6 : zpop q ≤ 6) (b : nzxI (d - 1) nX11_bestTrouble [.ref 0, .int (nI k), .int (nI q)] h = some (0, h)) : ∃ h1 Wt' Pk' O' kn' O2 w p, nzxI d nX11_bestAt [.ref 0, .int (nI k), .int (nI q), .int (nI i)] h = some (((zolr c g nf n k (Hf k) O2 w p).2.2 q >>> ((3 * nI (zpop q - 1 - i)) &&& 31)) &&& 7, zp0 h1 0) ∧ zK h1 t tr ∧ zfr 17 27 h h1 ∧ zord h1 Wt' Pk' O' kn' ∧ zkn c g nf n Hf kn' Wt' Pk' := by
  obtain ⟨h1, Wt', Pk', O', kn', q1, q2, q3, q4, q5, q6, q7⟩ := zlearn (d := d - 1) G E ht (by omega) hnf e5 hn en hk hH eH Z
  obtain ⟨O2, w, p, a1, a2⟩ := q5 k hk q6
  have K1 := zK_sm K (q3.2.2.2 0 (by decide))
  refine ⟨h1, Wt', Pk', O', kn', O2, w, p, iX11_bestAt (by omega) K.choose_spec.1 ?_, K1, q3, q4, q5⟩
  rw [eX11_bestAt_0, b, Option.bind_some, if_pos rfl, if_neg (nI_pos (by omega)), jJ6_bitCount (by omega) hq, Option.bind_some, if_pos (nI_lt hi (by omega)), zkR2 K, Option.bind_some, zkR9 K, Option.bind_some, q1, Option.bind_some, zkR2 K1, Option.bind_some, jX4_houseAt q4 (by omega) hk hq hi, Option.bind_some, jX11_accept K1 (by omega), Option.bind_some, a2]
/-- for all -/
theorem zX_fa17 (K : zK h t tr) (E : zday h t c g) (hd : 6 < d) (hn : n ≤ 6) (en : c 3 = nI n) {m : Nat} (hm : m ≤ 6) (em : c 1 = nI m) : ∀ (j i : Nat) (a : Int32), i + j = m → nzr d nX11_forAll 17 [some (.ref 0), some (.int a), some (.int (nI i))] [] h = some (some (.int (zit (zfaC c g n) i j a)), zp0 h 0) := by
  have g2 : zrow c 1 = nI m := (zrow_n c (s := 1) (by decide)).trans em
  intro j
  induction j with
  | zero =>
    intro i a hi
    rw [eX11_forAll_17, zkR9 K, Option.bind_some, jX0_rows E (by omega), Option.bind_some, g2, if_pos (nI_le (by omega) (by omega)), jX11_accept K (by omega), Option.bind_some]
    rfl
  | succ j ih =>
    intro i a hi
    rw [eX11_forAll_17, zkR9 K, Option.bind_some, jX0_rows E (by omega), Option.bind_some, g2, if_neg (nI_ge (by omega) (by omega)), zkR9 K, Option.bind_some, jX0_isFitForAll E (by omega) hn en, Option.bind_some, zit, zfaC]
    by_cases y : zfit c g n (nI i) = 0
    · rw [if_pos y, if_neg (show ¬ (1 : Int32) = 0 by decide), if_pos y, eX11_forAll_46, nI_1]
      exact ih (i + 1) _ (by omega)
    · rw [if_neg y, if_pos rfl, if_neg y, eX11_forAll_46, nI_1]
      exact ih (i + 1) _ (by omega)
theorem zX_forAll_no (K : zK h t tr) (E : zday h t c g) (hd : 20 < d) (z : zrow c 3 = 0) : nzxI d nX11_forAll [.ref 0] h = some (-1, zp0 h 1) := by
  refine iX11_forAll (by omega) K.choose_spec.1 ?_
  rw [eX11_forAll_0, jX11_noDay K E (by omega), Option.bind_some, if_pos z, if_neg (show ¬ (1 : Int32) = 0 by decide), jX11_refuse K (by omega), Option.bind_some]
theorem zX_forAll_ok (K : zK h t tr) (E : zday h t c g) (hd : 20 < d) (z : ¬ zrow c 3 = 0) (hn : n ≤ 6) (en : c 3 = nI n) {m : Nat} (hm : m ≤ 6) (em : c 1 = nI m) : nzxI d nX11_forAll [.ref 0] h = some (zit (zfaC c g n) 0 m 0, zp0 h 0) := by
  refine iX11_forAll (by omega) K.choose_spec.1 ?_
  rw [eX11_forAll_0, jX11_noDay K E (by omega), Option.bind_some, if_neg z, if_pos rfl]
  exact zX_fa17 K E (by omega) hn en hm em m 0 0 (by omega)
/-- recall -/
theorem zX_re22 (K : zK h t tr) (E : zday h t c g) (D : zrou h N R tea) (hd : 6 < d) (x : Int32) {m : Nat} (hm : m ≤ 3) (em : c 4 = nI m) : ∀ (j i : Nat) (a : Int32), i + j = m → nzr d nX11_recall 22 [some (.ref 0), some (.int x), some (.int a), some (.int (nI i))] [] h = some (some (.int (zit (zrcC c g N R x) i j a)), zp0 h 0) := by
  have g2 : zrow c 4 = nI m := (zrow_n c (s := 4) (by decide)).trans em
  intro j
  induction j with
  | zero =>
    intro i a hi
    rw [eX11_recall_22, zkR9 K, Option.bind_some, jX0_rows E (by omega), Option.bind_some, g2, if_pos (nI_le (by omega) (by omega)), jX11_accept K (by omega), Option.bind_some]
    rfl
  | succ j ih =>
    intro i a hi
    rw [eX11_recall_22, zkR9 K, Option.bind_some, jX0_rows E (by omega), Option.bind_some, g2, if_neg (nI_ge (by omega) (by omega)), zkR9 K, Option.bind_some, jX0_get E (by omega), Option.bind_some, zit, zrcC]
    by_cases y : zget c g 4 (nI i) 0 = x
    · rw [if_pos y, if_pos y, zkR1 K, Option.bind_some, jX6_housesOf D (by omega) (show i < 3 by omega), Option.bind_some, eX11_recall_59, nI_1]
      exact ih (i + 1) _ (by omega)
    · rw [if_neg y, if_neg y, eX11_recall_59, nI_1]
      exact ih (i + 1) _ (by omega)
theorem zX_recall_no (K : zK h t tr) (E : zday h t c g) (hd : 20 < d) (x : Int32) (z : zhs c 0 x = 0) : nzxI d nX11_recall [.ref 0, .int x] h = some (-1, zp0 h 1) := by
  refine iX11_recall (by omega) K.choose_spec.1 ?_
  rw [eX11_recall_0, zkR9 K, Option.bind_some, jX0_has E (by omega), Option.bind_some, ← zhs, if_pos z, jX11_refuse K (by omega), Option.bind_some]
theorem zX_recall_ok (K : zK h t tr) (E : zday h t c g) (D : zrou h N R tea) (hd : 20 < d) (x : Int32) (z : ¬ zhs c 0 x = 0) {m : Nat} (hm : m ≤ 3) (em : c 4 = nI m) : nzxI d nX11_recall [.ref 0, .int x] h = some (zit (zrcC c g N R x) 0 m 0, zp0 h 0) := by
  refine iX11_recall (by omega) K.choose_spec.1 ?_
  rw [eX11_recall_0, zkR9 K, Option.bind_some, jX0_has E (by omega), Option.bind_some, ← zhs, if_neg z]
  exact zX_re22 K E D (by omega) x hm em m 0 0 (by omega)
end NZKM
