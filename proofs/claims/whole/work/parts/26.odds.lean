/-! arrival, odds; Signs (57 .. 65); Probes (66 .. 69) -/
section NZO1
variable {d : Nat} {h : nzH} {N : Nat → Nat} {R : Nat → Nat → Nat} {tea : Int32}
theorem zround_A (c g : Nat → Int32) (nf : Nat) (car teas : Int32) (r : Nat → Nat) : ∀ (j i : Nat) (b p m : Int32) (A B : Nat → Int32), (zit (zfol c g nf car teas r) i j (b, p, m, A)).1 = (zit (zfol c g nf car teas r) i j (b, p, m, B)).1 := by
  intro j
  induction j with
  | zero => intros; rfl
  | succ j ih =>
    intro i b p m A B
    rw [zit, zit]
    exact ih _ _ _ _ _ _
theorem jX6_arrival {t : Nat} {c g : Nat → Int32} (ht : t + 3 ≤ 10 ∨ 17 ≤ t) (hd : 5 < d) {nf : Nat} (hnf : nf ≤ 6) (e5 : c 5 = nI nf) {k r : Nat} (hk : k < 3) (hr : r < 6) (ec : zcar N R (nI r) 0 3 = nI k) {A : Nat → Int32} (D : zrou h N R tea) (E : zday h t c g) (hA : zarr h 16 6 A) : ∃ h1, nzxI d nX6_arrival [.ref 10, .ref t, .int (nI r)] h = some ((zround c g nf k tea (N k) (R k) A).2.2.2 r, h1) ∧ zrou h1 N R tea ∧ zday h1 t c g ∧ zfr 16 17 h h1 := by
  obtain ⟨h1, q1, q2, q3, q4, q5⟩ := jX6_follow (d := d - 1) ht (by omega) hnf e5 hk tea D E hA
  obtain ⟨F, o, e0, e1, e2, e3⟩ := D.1
  obtain ⟨F', o', e0', e1', e2', e3'⟩ := q2.1
  refine ⟨h1, iX6_arrival (by omega) o ?_, q2, q3, q5⟩
  rw [eX6_arrival_0, jX6_carOf D (by omega), Option.bind_some, zg_I o e3, Option.bind_some, ec, q1, Option.bind_some, jX11_isWithin (by omega), show (5 : Int32) = nI 5 from rfl, zwithin (by omega) (by decide), Option.bind_some, if_neg (show ¬ (1 : Int32) = 0 by decide), zg_R o' e2', Option.bind_some, za_In q4 hr (by decide)]
  rfl
/-- the houses that take tea in a choice, and its weight -/
def zodS (c g : Nat → Int32) (ch : Int32) (r : Nat → Nat) (i : Nat) (s : Int32 × Int64) : Int32 × Int64 := if ch &&& (1 <<< (nI i &&& 31)) = 0 then (s.1 ||| 0, s.2 * (100 - zget c g 3 (nI (r i)) 4).toInt64) else (s.1 ||| (1 <<< (nI (r i) &&& 31)), s.2 * (zget c g 3 (nI (r i)) 4).toInt64)
def zodT (c g : Nat → Int32) (nf k : Nat) (n : Nat) (r : Nat → Nat) (ch : Nat) (a : Int64) : Int64 := if (zround c g nf k (zit (zodS c g (nI ch) r) 0 n (0, 1)).1 n r (fun _ => 0)).1 = 0 then a + (zit (zodS c g (nI ch) r) 0 n (0, 1)).2 else a
theorem jX6_odds26 {t : Nat} {c g : Nat → Int32} (ht : t + 3 ≤ 10 ∨ 17 ≤ t) (hd : 5 < d) {nf : Nat} (hnf : nf ≤ 6) (e5 : c 5 = nI nf) {k : Nat} (hk : k < 3) (D : zrou h N R tea) (E : zday h t c g) (tot : Int64) (ch : Int32) (te0 : Int32) (pr0 : Int64) : ∀ (j i : Nat) (te : Int32) (pr : Int64) (u10 u11 : Option Value), i + j = N k → zit (zodS c g ch (R k)) i j (te, pr) = (te0, pr0) → ∃ h1 v9 v10 v11, nzr d nX6_oddsOf 26 [some (.ref 10), some (.ref t), some (.int (nI k)), some (.long tot), none, some (.int ch), some (.int te), some (.long pr), none, some (.int (nI i)), u10, u11] [] h = nzr d nX6_oddsOf 139 [some (.ref 10), some (.ref t), some (.int (nI k)), some (.long (if (zround c g nf k te0 (N k) (R k) (fun _ => 0)).1 = 0 then tot + pr0 else tot)), none, some (.int ch), some (.int te0), some (.long pr0), none, some (.int v9), v10, v11] [] h1 ∧ zrou h1 N R tea ∧ zday h1 t c g ∧ zfr 16 17 h h1 := by
  obtain ⟨n, hn, en⟩ := D.2.2.1
  have hN := (en k hk).2
  have rw1 := zrou_row D hk
  intro j
  induction j with
  | zero =>
    intro i te pr u10 u11 hi e
    rw [zit] at e
    cases e
    obtain ⟨A, hA⟩ := D.2.2.2.2
    obtain ⟨h1, q1, q2, q3, q4, q5⟩ := jX6_follow (d := d) ht (by omega) hnf e5 hk te0 D E hA
    rw [show (zround c g nf k te0 (N k) (R k) A).1 = (zround c g nf k te0 (N k) (R k) (fun _ => 0)).1 from zround_A _ _ _ _ _ _ _ _ _ _ _ _ _] at q1
    refine ⟨h1, nI i, u10, u11, ?_, q2, q3, q5⟩
    rw [eX6_oddsOf_26, jX6_count D (by omega), zcnt_n N hk, Option.bind_some, if_pos (nI_le (by omega) (by omega)), q1, Option.bind_some]
    by_cases z : (zround c g nf k te0 (N k) (R k) (fun _ => 0)).1 = 0
    · rw [if_pos z, if_pos z]
    · rw [if_neg z, if_neg z]
  | succ j ih =>
    intro i te pr u10 u11 hi e
    rw [zit] at e
    have cl := zrou_cell D hk (show i < N k by omega)
    rw [eX6_oddsOf_26, jX6_count D (by omega), zcnt_n N hk, Option.bind_some, if_neg (nI_ge (by omega) (by omega))]
    simp only [eX6_oddsOf_51, eX6_oddsOf_89, eX6_oddsOf_114, rw1.1, rw1.2, cl.1, Option.bind_some, jX0_get E (show 1 < d by omega), nI_1, if_true, show ¬ (1 : Int32) = 0 by decide, if_false]
    by_cases z : ch &&& (1 <<< (nI i &&& 31)) = 0
    · simp only [if_pos z]
      rw [zodS, if_pos z] at e
      exact ih (i + 1) _ _ _ _ (by omega) e
    · simp only [if_neg z]
      rw [zodS, if_neg z] at e
      exact ih (i + 1) _ _ _ _ (by omega) e
theorem jX6_odds5 {t : Nat} {c g : Nat → Int32} (ht : t + 3 ≤ 10 ∨ 17 ≤ t) (hd : 5 < d) {nf : Nat} (hnf : nf ≤ 6) (e5 : c 5 = nI nf) {k : Nat} (hk : k < 3) : ∀ (j i : Nat) (h : nzH) (tot : Int64) (u6 u7 u9 u10 u11 : Option Value), zrou h N R tea → zday h t c g → i + j = 2 ^ N k → ∃ h1, nzr d nX6_oddsOf 5 [some (.ref 10), some (.ref t), some (.int (nI k)), some (.long tot), none, some (.int (nI i)), u6, u7, none, u9, u10, u11] [] h = some (some (.long (zit (zodT c g nf k (N k) (R k)) i j tot)), h1) ∧ zrou h1 N R tea ∧ zday h1 t c g ∧ zfr 16 17 h h1 := by
  intro j
  induction j with
  | zero =>
    intro i h tot u6 u7 u9 u10 u11 D E hi
    obtain ⟨n, hn, en⟩ := D.2.2.1
    have hN := (en k hk).2
    have h2 : 2 ^ N k ≤ 2 ^ 6 := Nat.pow_le_pow_right (by decide) hN
    refine ⟨h, ?_, D, E, zfr_rfl _ _ _⟩
    rw [eX6_oddsOf_5, jX6_count D (by omega), zcnt_n N hk, Option.bind_some, zsh _ (by omega), if_pos (nI_le (by omega) (by omega))]
    rfl
  | succ j ih =>
    intro i h tot u6 u7 u9 u10 u11 D E hi
    obtain ⟨n, hn, en⟩ := D.2.2.1
    have hN := (en k hk).2
    have h2 : 2 ^ N k ≤ 2 ^ 6 := Nat.pow_le_pow_right (by decide) hN
    obtain ⟨h1, v9, v10, v11, q1, q2, q3, q5⟩ := jX6_odds26 ht hd hnf e5 hk D E tot (nI i) _ _ (N k) 0 0 1 u10 u11 (by omega) rfl
    obtain ⟨h3, p1, p2, p3, p4⟩ := ih (i + 1) h1 (zodT c g nf k (N k) (R k) i tot) (some (.int (zit (zodS c g (nI i) (R k)) 0 (N k) (0, 1)).1)) (some (.long (zit (zodS c g (nI i) (R k)) 0 (N k) (0, 1)).2)) (some (.int v9)) v10 v11 q2 q3 (by omega)
    refine ⟨h3, ?_, p2, p3, zfr_tr q5 p4⟩
    rw [eX6_oddsOf_5, jX6_count D (by omega), zcnt_n N hk, Option.bind_some, zsh _ (by omega), if_neg (nI_ge (by omega) (by omega))]
    refine q1.trans ?_
    rw [eX6_oddsOf_139, nI_1]
    exact p1
theorem jX6_oddsOf {t : Nat} {c g : Nat → Int32} (ht : t + 3 ≤ 10 ∨ 17 ≤ t) (hd : 6 < d) {nf : Nat} (hnf : nf ≤ 6) (e5 : c 5 = nI nf) {k : Nat} (hk : k < 3) (D : zrou h N R tea) (E : zday h t c g) : ∃ h1, nzxL d nX6_oddsOf [.ref 10, .ref t, .int (nI k)] h = some (zit (zodT c g nf k (N k) (R k)) 0 (2 ^ N k) 0, h1) ∧ zrou h1 N R tea ∧ zday h1 t c g ∧ zfr 16 17 h h1 := by
  obtain ⟨h1, q1, q2⟩ := jX6_odds5 (d := d - 1) ht (by omega) hnf e5 hk (2 ^ N k) 0 h 0 none none none none none D E (by omega)
  refine ⟨h1, iX6_oddsOf (by omega) D.1.choose_spec.1 ?_, q2⟩
  rw [eX6_oddsOf_0]
  exact q1
end NZO1

/-- Signs: N how many, V which -/
def zsig (h : nzH) (N : Nat → Nat) (V : Nat → Nat → Int32) : Prop := (∃ F, zobj h 57 8 F ∧ F 0 = .ref 58 ∧ F 1 = .ref 65) ∧ (∃ f, zgrd h 58 6 f ∧ ∀ i, i < 6 → f i = some (59 + i)) ∧ (∃ n, zarr h 65 6 n ∧ ∀ i, i < 6 → n i = nI (N i) ∧ N i ≤ 10) ∧ (∀ i, i < 6 → ∃ f, zarr h (59 + i) 10 f ∧ ∀ k, k < N i → f k = V i k)
theorem zsig_sm {h h1 : nzH} {N : Nat → Nat} {V : Nat → Nat → Int32} (D : zsig h N V) (s : zsm 57 66 h h1) : zsig h1 N V := by
  obtain ⟨⟨F, o, e⟩, ⟨f, hf, ef⟩, ⟨n, hn, en⟩, hr⟩ := D
  exact ⟨⟨F, (s 57 (by omega) (by omega)).trans o, e⟩, ⟨f, (s 58 (by omega) (by omega)).trans hf, ef⟩, ⟨n, (s 65 (by omega) (by omega)).trans hn, en⟩, fun i hi => let ⟨f, q⟩ := hr i hi; ⟨f, (s (59 + i) (by omega) (by omega)).trans q.1, q.2⟩⟩
section NZS1
variable {d : Nat} {h : nzH} {N : Nat → Nat} {V : Nat → Nat → Int32}
theorem jX8_count (D : zsig h N V) (hd : 0 < d) {k : Nat} (hk : k < 6) : nzxI d nX8_count [.ref 57, .int (nI k)] h = some (nI (N k), h) := by
  obtain ⟨⟨F, o, e0, e1⟩, -, ⟨n, hn, en⟩, -⟩ := D
  refine iX8_count hd o ?_
  rw [eX8_count_0, if_neg (nI_pos (by omega)), if_neg (show ¬ 6 ≤ nI k from nI_ge hk (by decide)), zg_R o e1, Option.bind_some, za_In hn hk (by decide), (en k hk).1]
  rfl
theorem zsig_row (D : zsig h N V) {j : Nat} (hj : j < 6) : nzgR h 57 8 0 = some 58 ∧ nzaR h 58 (nI j) = some (59 + j) := by
  obtain ⟨⟨F, o, e0, e1⟩, ⟨f, hf, ef⟩, -, -⟩ := D
  exact ⟨zg_R o e0, za_Rn hf hj (by decide) (ef j hj)⟩
theorem zsig_cell (D : zsig h N V) {j k : Nat} (hj : j < 6) (hk : k < N j) : nzaI h (59 + j) (nI k) = some (V j k) := by
  obtain ⟨-, -, ⟨n, hn, en⟩, hr⟩ := D
  obtain ⟨f, hf, ef⟩ := hr j hj
  have := (en j hj).2
  exact (za_In hf (show k < 10 by omega) (by decide)).trans (congrArg some (ef k hk))
theorem jX8_clear (D : zsig h N V) (hd : 1 < d) : ∃ h1, nzxV d nX8_clear [.ref 57] h = some h1 ∧ zsig h1 (fun _ => 0) V ∧ zfr 57 66 h h1 := by
  obtain ⟨⟨F, o, e0, e1⟩, ⟨q, hq, eq⟩, ⟨n, hn, en⟩, hr⟩ := D
  obtain ⟨h1, E, p, fr⟩ := jJ7_fill (v := 0) (d := d - 1) (by omega) (by decide) hn
  have s : ∀ a, a ≠ 65 → nzcell h1 a = nzcell h a := fun a ha => fr.2.2.2 a (by omega)
  refine ⟨h1, iX8_clear (by omega) o ?_, ?_, zfr_wk fr (by decide) (by decide)⟩
  · rw [eX8_clear_0, zg_R o e1, Option.bind_some, E, Option.bind_some]
  · refine ⟨⟨F, (s 57 (by decide)).trans o, e0, e1⟩, ⟨q, (s 58 (by decide)).trans hq, eq⟩, ⟨_, p, fun i hi => by simp [hi, nI_0]⟩, fun i hi => ?_⟩
    obtain ⟨w, hw, ew⟩ := hr i hi
    exact ⟨w, (s (59 + i) (by omega)).trans hw, fun k hk => absurd hk (Nat.not_lt_zero k)⟩
theorem jX8_append (D : zsig h N V) (hd : 1 < d) {k : Nat} (v : Int32) (hk : k < 6) (hN : N k < 10) : ∃ h1, nzxI d nX8_append [.ref 57, .int (nI k), .int v] h = some (nI (N k + 1), h1) ∧ zsig h1 (va_up N k (N k + 1)) (fun i j => if i = k ∧ j = N k then v else V i j) ∧ zfr 57 66 h h1 := by
  have D' := D
  obtain ⟨⟨F, o, e0, e1⟩, ⟨q, hq, eq⟩, ⟨n, hn, en⟩, hr'⟩ := D
  obtain ⟨w, hw, ew⟩ := hr' k hk
  have D2 : zsig (nzset (nzset h (59 + k) (.inl (.int, 10, .inl (upd w (N k) v)))) 65 (.inl (.int, 6, .inl (upd n k (nI (N k) + 1))))) (va_up N k (N k + 1)) (fun i j => if i = k ∧ j = N k then v else V i j) := by
    refine ⟨⟨F, (zc_setN (by omega)).trans ((zc_setN (by omega)).trans o), e0, e1⟩, ⟨q, (zc_setN (by omega)).trans ((zc_setN (by omega)).trans hq), eq⟩, ⟨_, zc_setS _ _ _, fun i hi => ?_⟩, fun i hi => ?_⟩
    · by_cases z : i = k
      · rw [z, va_up_self]
        simp only [upd, if_true]
        exact ⟨nI_1 _, by omega⟩
      · rw [va_up_ne _ _ z]
        simp only [upd, if_neg z]
        exact en i hi
    · by_cases z : i = k
      · subst z
        refine ⟨_, (zc_setN (by omega)).trans (zc_setS _ _ _), fun j hj => ?_⟩
        rw [va_up_self] at hj
        by_cases y : j = N i
        · subst y
          simp only [upd, if_true, and_self]
        · simp only [upd, if_neg y, true_and]
          exact ew j (by omega)
      · obtain ⟨w2, hw2, ew2⟩ := hr' i hi
        refine ⟨w2, (zc_setN (by omega)).trans ((zc_setN (by omega)).trans hw2), fun j hj => ?_⟩
        rw [va_up_ne _ _ z] at hj
        simp only [z, false_and, if_false]
        exact ew2 j hj
  refine ⟨_, iX8_append (by omega) o ?_, D2, zfr_tr (zfr_set _ _ (by omega) (by omega)) (zfr_set _ _ (by omega) (by omega))⟩
  have rw1 := zsig_row D' hk
  rw [eX8_append_0, jX8_count D' (by omega) hk, Option.bind_some, jX11_isWithin (by omega), show (5 : Int32) = nI 5 from rfl, zwithin (by omega) (by decide), Option.bind_some, if_neg (show ¬ (1 : Int32) = 0 by decide), if_neg (show ¬ 10 ≤ nI (N k) from nI_ge (b := 10) hN (by decide)), rw1.1, Option.bind_some, rw1.2, Option.bind_some, zs_In hw hN (by decide), Option.bind_some]
  rw [zg_R (F := F) ((zc_setN (by omega)).trans o) e1, Option.bind_some, za_In (f := n) ((zc_setN (by omega)).trans hn) hk (by decide), Option.bind_some, zs_In (f := n) ((zc_setN (by omega)).trans hn) hk (by decide), Option.bind_some, (en k hk).1, eX8_append_40, jX8_count D2 (by omega) hk, va_up_self]
  rfl
/-- the choices of three that are no less than the last three -/
def zch3 (v : Nat → Int32) (last : Int32) (i j : Nat) (k : Nat) (a : Int32) : Int32 := a + (if (v i + v j) + v k < last then 0 else 1)
def zch2 (v : Nat → Int32) (last : Int32) (n i : Nat) (j : Nat) (a : Int32) : Int32 := zit (zch3 v last i j) (j + 1) (n - (j + 1)) a
def zch1 (v : Nat → Int32) (last : Int32) (n : Nat) (i : Nat) (a : Int32) : Int32 := zit (zch2 v last n i) (i + 1) (n - (i + 1)) a
theorem jX8_ch69 (D : zsig h N V) {q : Nat} (hq : q < 6) (x : Int32) (last : Int32) {i j : Nat} (hi : i < N q) (hj : j < N q) : ∀ (m k : Nat) (a : Int32), (k + m = N q ∨ (m = 0 ∧ N q ≤ k ∧ k ≤ N q + 1)) → nzr d nX8_choicesNoLess 69 [some (.ref 57), some (.int x), some (.int (nI (N q))), some (.ref (59 + q)), some (.int last), some (.int a), some (.int (nI i)), some (.int (nI j)), some (.int (nI k))] [] h = nzr d nX8_choicesNoLess 57 [some (.ref 57), some (.int x), some (.int (nI (N q))), some (.ref (59 + q)), some (.int last), some (.int (zit (zch3 (V q) last i j) k m a)), some (.int (nI i)), some (.int (nI (j + 1))), some (.int (nI (k + m)))] [] h := by
  obtain ⟨n, hn, en⟩ := D.2.2.1
  have hN := (en q hq).2
  intro m
  induction m with
  | zero =>
    intro k a hk
    rw [eX8_choicesNoLess_69, if_pos (nI_le (by omega) (by omega)), nI_1]
    rfl
  | succ m ih =>
    intro k a hk
    rw [eX8_choicesNoLess_69, if_neg (nI_ge (by omega) (by omega)), zsig_cell D hq hi, Option.bind_some, zsig_cell D hq hj, Option.bind_some, zsig_cell D hq (show k < N q by omega), Option.bind_some]
    simp only [eX8_choicesNoLess_101, nI_1]
    rw [zit, zch3, show k + (m + 1) = k + 1 + m by omega, ← ih (k + 1) _ (by omega)]
    split <;> rfl
theorem jX8_ch57 (D : zsig h N V) {q : Nat} (hq : q < 6) (x : Int32) (last : Int32) {i : Nat} (hi : i < N q) : ∀ (m j : Nat) (a : Int32) (u : Option Value), j + m = N q → ∃ w, nzr d nX8_choicesNoLess 57 [some (.ref 57), some (.int x), some (.int (nI (N q))), some (.ref (59 + q)), some (.int last), some (.int a), some (.int (nI i)), some (.int (nI j)), u] [] h = nzr d nX8_choicesNoLess 45 [some (.ref 57), some (.int x), some (.int (nI (N q))), some (.ref (59 + q)), some (.int last), some (.int (zit (zch2 (V q) last (N q) i) j m a)), some (.int (nI (i + 1))), some (.int (nI (N q))), w] [] h := by
  obtain ⟨n, hn, en⟩ := D.2.2.1
  have hN := (en q hq).2
  intro m
  induction m with
  | zero =>
    intro j a u hj
    refine ⟨u, ?_⟩
    rw [eX8_choicesNoLess_57, if_pos (nI_le (by omega) (by omega)), nI_1, show j = N q by omega]
    rfl
  | succ m ih =>
    intro j a u hj
    obtain ⟨w, e⟩ := ih (j + 1) (zch2 (V q) last (N q) i j a) (some (.int (nI (j + 1 + (N q - (j + 1)))))) (by omega)
    refine ⟨w, ?_⟩
    rw [eX8_choicesNoLess_57, if_neg (nI_ge (by omega) (by omega)), nI_1, jX8_ch69 D hq x last hi (show j < N q by omega) (N q - (j + 1)) (j + 1) a (by omega)]
    exact e
theorem jX8_ch45 (D : zsig h N V) {q : Nat} (hq : q < 6) (x : Int32) (last : Int32) : ∀ (m i : Nat) (a : Int32) (u w : Option Value), i + m = N q → nzr d nX8_choicesNoLess 45 [some (.ref 57), some (.int x), some (.int (nI (N q))), some (.ref (59 + q)), some (.int last), some (.int a), some (.int (nI i)), u, w] [] h = some (some (.int (zit (zch1 (V q) last (N q)) i m a)), h) := by
  obtain ⟨n, hn, en⟩ := D.2.2.1
  have hN := (en q hq).2
  intro m
  induction m with
  | zero =>
    intro i a u w hi
    rw [eX8_choicesNoLess_45, if_pos (nI_le (by omega) (by omega))]
    rfl
  | succ m ih =>
    intro i a u w hi
    obtain ⟨w', e⟩ := jX8_ch57 (d := d) D hq x last (show i < N q by omega) (N q - (i + 1)) (i + 1) a w (by omega)
    rw [eX8_choicesNoLess_45, if_neg (nI_ge (by omega) (by omega)), nI_1, e]
    exact ih (i + 1) _ _ _ (by omega)
def zfad (v : Nat → Int32) (n : Nat) : Int32 := zit (zch1 v ((v (n - 1) + v (n - 2)) + v (n - 3)) n) 0 n 0
theorem jX8_choicesNoLess (D : zsig h N V) (hd : 1 < d) {q : Nat} (hq : q < 6) (h3 : 3 ≤ N q) : nzxI d nX8_choicesNoLess [.ref 57, .int (nI q)] h = some (zfad (V q) (N q), h) := by
  obtain ⟨n, hn, en⟩ := D.2.2.1
  have hN := (en q hq).2
  have rw1 := zsig_row D hq
  refine iX8_choicesNoLess (by omega) D.1.choose_spec.1 ?_
  rw [eX8_choicesNoLess_0, jX8_count D (by omega) hq, Option.bind_some, if_pos (show 3 ≤ nI (N q) from nI_le (a := 3) h3 (by omega)), rw1.1, Option.bind_some, rw1.2, Option.bind_some]
  rw [show (1 : Int32) = nI 1 from rfl, show (2 : Int32) = nI 2 from rfl, show (3 : Int32) = nI 3 from rfl, pk_sub (by omega), pk_sub (by omega), pk_sub (by omega), zsig_cell D hq (show N q - 1 < N q by omega), Option.bind_some, zsig_cell D hq (show N q - 2 < N q by omega), Option.bind_some, zsig_cell D hq (show N q - 3 < N q by omega), Option.bind_some]
  exact jX8_ch45 D hq _ _ (N q) 0 0 none none (by omega)
end NZS1
