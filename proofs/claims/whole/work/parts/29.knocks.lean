/-! Knocks (50 .. 52) -/
abbrev zks : Type := (Nat → Int32) × (Nat → Int32) × Int64
/-- Knocks: s = (order, first order, least), tc calls told -/
def zkno (h : nzH) (s : zks) (tc : Int32) : Prop := (∃ F, zobj h 50 2 F ∧ F 0 = .ref 51 ∧ F 1 = .ref 52 ∧ F 2 = .long s.2.2 ∧ F 3 = .int tc) ∧ zarr h 51 5 s.1 ∧ zarr h 52 5 s.2.1
theorem zkno_sm {h h1 : nzH} {s : zks} {tc : Int32} (D : zkno h s tc) (e : zsm 50 53 h h1) : zkno h1 s tc := by
  obtain ⟨⟨F, o, q⟩, p1, p2⟩ := D
  exact ⟨⟨F, (e 50 (by omega) (by omega)).trans o, q⟩, (e 51 (by omega) (by omega)).trans p1, (e 52 (by omega) (by omega)).trans p2⟩
section NZK
variable {d : Nat} {h : nzH} {s : zks} {tc : Int32} {t : Nat} {c g : Nat → Int32}
theorem jX2_callCount (E : zday h t c g) (hd : 1 < d) {n : Nat} (hn : n ≤ 5) (en : c 6 = nI n) : nzxI d nX2_callCount [.ref t] h = some (nI n, h) := by
  have g2 : zrow c 6 = nI n := (zrow_n c (s := 6) (by decide)).trans en
  have g3 : (if nI n < 5 then nI n else 5) = nI n := by
    by_cases z : n = 5
    · subst z; decide
    · rw [if_pos (show nI n < 5 from nI_lt (b := 5) (by omega) (by decide))]
  refine iX2_callCount (by omega) ?_
  rw [eX2_callCount_0, jX0_rows E (by omega), Option.bind_some, g2, g3]
theorem jX2_forget (D : zkno h s tc) (hd : 0 < d) : ∃ h1, nzxV d nX2_forget [.ref 50] h = some h1 ∧ zkno h1 s 0 ∧ zfr 50 53 h h1 := by
  obtain ⟨⟨F, o, e0, e1, e2, e3⟩, p1, p2⟩ := D
  refine ⟨nzset h 50 (.inr (2, va_up F 3 (.int 0))), iX2_forget hd o ?_, ⟨⟨_, zc_setS _ _ _, by simp [va_up, e0], by simp [va_up, e1], by simp [va_up, e2], by simp [va_up]⟩, (zc_setN (by decide)).trans p1, (zc_setN (by decide)).trans p2⟩, zfr_set _ _ (by decide) (by decide)⟩
  rw [eX2_forget_0, zp_of o, Option.bind_some]
theorem jX2_callOf {n : Nat} (D : zkno h s (nI n)) (hn : n ≤ 5) (hd : 0 < d) (x : Int32) : nzxI d nX2_callOf [.ref 50, .int x] h = some (if x < 0 then -1 else if nI n ≤ x then -1 else s.2.1 x.toNatClampNeg, h) := by
  obtain ⟨⟨F, o, e0, e1, e2, e3⟩, p1, p2⟩ := D
  refine iX2_callOf hd o ?_
  rw [eX2_callOf_0, zg_I o e3, Option.bind_some, eX2_callOf_21]
  split
  · rfl
  · split
    · rfl
    · rename_i z1 z2
      obtain ⟨j, hj, rfl⟩ := z_rng (n := n) (by omega) z1 z2
      rw [zg_R o e1, Option.bind_some, za_In p2 (show j < 5 by omega) (by decide), nI_clamp (by omega)]
      rfl
/-- the expected minutes, from the back: (minutes, hundreds) -/
def zexp (c g : Nat → Int32) (O : Nat → Int32) : Nat → Int64 × Int64 → Int64 × Int64
  | 0, s => s
  | k + 1, s => zexp c g O k ((zget c g 6 (O k) 0).toInt64 * (s.2 * 100) + (100 - zget c g 6 (O k) 1).toInt64 * s.1, s.2 * 100)
theorem jX2_exp13 (D : zkno h s tc) (E : zday h t c g) (hd : 1 < d) : ∀ (k : Nat) (a b : Int64) (u : Option Value), k ≤ 5 → nzr d nX2_expected 13 [some (.ref 50), some (.ref t), some (.long a), none, some (.long b), none, some (.int (nI k - 1)), u, none] [] h = some (some (.long (zexp c g s.1 k (a, b)).1), h) := by
  obtain ⟨⟨F, o, e0, e1, e2, e3⟩, p1, p2⟩ := D
  intro k
  induction k with
  | zero =>
    intro a b u hk
    rw [eX2_expected_13, if_pos (show nI 0 - 1 < 0 by decide)]
    rfl
  | succ k ih =>
    intro a b u hk
    rw [nI_pred, eX2_expected_13, if_neg (nI_pos (by omega)), zg_R o e0, Option.bind_some, za_In p1 (show k < 5 by omega) (by decide), Option.bind_some, jX0_get E hd, Option.bind_some]
    rw [zg_R o e0, Option.bind_some, za_In p1 (show k < 5 by omega) (by decide), Option.bind_some, jX0_get E hd, Option.bind_some, show nI k + (-1) = nI k - 1 from (Int32.sub_eq_add_neg _ _).symm]
    exact ih _ _ _ (by omega)
theorem jX2_expected (D : zkno h s tc) (E : zday h t c g) (hd : 2 < d) {n : Nat} (hn : n ≤ 5) (en : c 6 = nI n) : nzxL d nX2_expected [.ref 50, .ref t] h = some ((zexp c g s.1 n (0, 1)).1, h) := by
  refine iX2_expected (by omega) D.1.choose_spec.1 ?_
  rw [eX2_expected_0, jX2_callCount E (by omega) hn en, Option.bind_some]
  exact jX2_exp13 D E (by omega) n 0 1 none hn
def zkN (c g : Nat → Int32) (n : Nat) (s : zks) : zks := if 0 ≤ lg_cmp (zexp c g s.1 n (0, 1)).1 s.2.2 then s else (s.1, va_cpy s.1 s.2.1 0 0 5, (zexp c g s.1 n (0, 1)).1)
theorem jX2_note (D : zkno h s tc) (E : zday h t c g) (ht : t + 3 ≤ 50 ∨ 53 ≤ t) (hd : 3 < d) {n : Nat} (hn : n ≤ 5) (en : c 6 = nI n) : ∃ h1, nzxV d nX2_note [.ref 50, .ref t] h = some h1 ∧ zkno h1 (zkN c g n s) tc ∧ zday h1 t c g ∧ zfr 50 53 h h1 := by
  have D' := D
  obtain ⟨⟨F, o, e0, e1, e2, e3⟩, p1, p2⟩ := D
  by_cases z : 0 ≤ lg_cmp (zexp c g s.1 n (0, 1)).1 s.2.2
  · refine ⟨h, iX2_note (by omega) o ?_, by rw [zkN, if_pos z]; exact D', E, zfr_rfl _ _ _⟩
    rw [eX2_note_0, jX2_expected D' E (by omega) hn en, Option.bind_some, zg_L o e2, Option.bind_some, if_pos z]
  · have fr : zfr 50 53 h (nzset (nzset h 50 (.inr (2, va_up F 2 (.long (zexp c g s.1 n (0, 1)).1)))) 52 (.inl (.int, 5, .inl (va_cpy s.1 s.2.1 0 0 5)))) := zfr_tr (zfr_set _ _ (by decide) (by decide)) (zfr_set _ _ (by decide) (by decide))
    refine ⟨_, iX2_note (by omega) o ?_, ?_, zday_sm E (zfr_sm fr (by omega)), fr⟩
    · rw [eX2_note_0, jX2_expected D' E (by omega) hn en, Option.bind_some, zg_L o e2, Option.bind_some, if_neg z, zp_of o, Option.bind_some, zg_R (F := va_up F 2 (.long (zexp c g s.1 n (0, 1)).1)) (v := 51) (zc_setS _ _ _) (by simp [va_up, e0]), Option.bind_some, zg_R (F := va_up F 2 (.long (zexp c g s.1 n (0, 1)).1)) (v := 52) (zc_setS _ _ _) (by simp [va_up, e1]), Option.bind_some]
      have w1 : zarr (nzset h 50 (.inr (2, va_up F 2 (.long (zexp c g s.1 n (0, 1)).1)))) 51 5 s.1 := (zc_setN (by decide)).trans p1
      have w2 : zarr (nzset h 50 (.inr (2, va_up F 2 (.long (zexp c g s.1 n (0, 1)).1)))) 52 5 s.2.1 := (zc_setN (by decide)).trans p2
      rw [nzcpy, w1, w2]
      rfl
    · rw [zkN, if_neg z]
      exact ⟨⟨_, (zc_setN (by decide)).trans (zc_setS _ _ _), by simp [va_up, e0], by simp [va_up, e1], by simp [va_up], by simp [va_up, e3]⟩, (zc_setN (by decide)).trans ((zc_setN (by decide)).trans p1), zc_setS _ _ _⟩
/-- all orders, the calls' numbers first: r calls are left -/
def zkE (c g : Nat → Int32) (n : Nat) : Nat → Nat → Int32 → zks → zks
  | 0, _, _, s => zkN c g n s
  | r + 1, dep, done, s => zit (fun call s => if done &&& (1 <<< (nI call &&& 31)) = 0 then zkE c g n r (dep + 1) (done ||| (1 <<< (nI call &&& 31))) (upd s.1 dep (nI call), s.2) else s) 0 n s
theorem jX2_extend (ht : t + 3 ≤ 50 ∨ 53 ≤ t) {n : Nat} (hn : n ≤ 5) (en : c 6 = nI n) : ∀ (r d dep : Nat) (done : Int32) (h : nzH) (s : zks), r + 4 < d → dep + r = n → zkno h s tc → zday h t c g → ∃ h1, nzxV d nX2_extend [.ref 50, .ref t, .int (nI dep), .int done] h = some h1 ∧ zkno h1 (zkE c g n r dep done s) tc ∧ zday h1 t c g ∧ zfr 50 53 h h1 := by
  intro r
  induction r with
  | zero =>
    intro d dep done h s hd hdep D E
    obtain ⟨h1, q1, q2, q3, q4⟩ := jX2_note (d := d - 1) D E ht (by omega) hn en
    refine ⟨h1, iX2_extend (by omega) ?_, q2, q3, q4⟩
    rw [eX2_extend_0, jX2_callCount E (by omega) hn en, Option.bind_some, if_neg (nI_nlt (by omega) (by omega)), q1, Option.bind_some]
  | succ r ih =>
    intro d dep done h s hd hdep D E
    have loop : ∀ (j i : Nat) (h : nzH) (s : zks), i + j = n → zkno h s tc → zday h t c g → ∃ h1, nzr (d - 1) nX2_extend 17 [some (.ref 50), some (.ref t), some (.int (nI dep)), some (.int done), some (.int (nI i))] [] h = some (none, h1) ∧ zkno h1 (zit (fun call s => if done &&& (1 <<< (nI call &&& 31)) = 0 then zkE c g n r (dep + 1) (done ||| (1 <<< (nI call &&& 31))) (upd s.1 dep (nI call), s.2) else s) i j s) tc ∧ zday h1 t c g ∧ zfr 50 53 h h1 := by
      intro j
      induction j with
      | zero =>
        intro i h s hi D E
        refine ⟨h, ?_, D, E, zfr_rfl _ _ _⟩
        rw [eX2_extend_17, jX2_callCount E (by omega) hn en, Option.bind_some, if_pos (nI_le (by omega) (by omega))]
      | succ j ihj =>
        intro i h s hi D E
        rw [eX2_extend_17, jX2_callCount E (by omega) hn en, Option.bind_some, if_neg (nI_ge (by omega) (by omega)), zit]
        by_cases z : done &&& (1 <<< (nI i &&& 31)) = 0
        · rw [if_pos z, if_pos z]
          obtain ⟨⟨F, o, e0, e1, e2, e3⟩, p1, p2⟩ := D
          have fr : zfr 50 53 h (nzset h 51 (.inl (.int, 5, .inl (upd s.1 dep (nI i))))) := zfr_set _ _ (by decide) (by decide)
          have D2 : zkno (nzset h 51 (.inl (.int, 5, .inl (upd s.1 dep (nI i))))) (upd s.1 dep (nI i), s.2) tc := ⟨⟨F, (zc_setN (by decide)).trans o, e0, e1, e2, e3⟩, zc_setS _ _ _, (zc_setN (by decide)).trans p2⟩
          have E2 := zday_sm E (zfr_sm fr (lo' := t) (hi' := t + 3) (by omega))
          obtain ⟨h1, q1, q2, q3, q4⟩ := ih (d - 1) (dep + 1) (done ||| (1 <<< (nI i &&& 31))) _ _ (by omega) (by omega) D2 E2
          obtain ⟨h2, w1, w2, w3, w4⟩ := ihj (i + 1) h1 _ (by omega) q2 q3
          refine ⟨h2, ?_, w2, w3, zfr_tr (zfr_tr fr q4) w4⟩
          rw [zg_R o e0, Option.bind_some, zs_In p1 (show dep < 5 by omega) (by decide), Option.bind_some, nI_1, q1, Option.bind_some, eX2_extend_57, nI_1]
          exact w1
        · rw [if_neg z, if_neg z]
          rw [eX2_extend_57, nI_1]
          exact ihj (i + 1) h s (by omega) D E
    obtain ⟨h1, q1, q2, q3, q4⟩ := loop n 0 h s (by omega) D E
    refine ⟨h1, iX2_extend (by omega) ?_, q2, q3, q4⟩
    rw [eX2_extend_0, jX2_callCount E (by omega) hn en, Option.bind_some, if_pos (nI_lt (by omega) (by omega))]
    exact q1
theorem jX2_search (D : zkno h s tc) (E : zday h t c g) (ht : t + 3 ≤ 50 ∨ 53 ≤ t) (hd : 10 < d) {n : Nat} (hn : n ≤ 5) (en : c 6 = nI n) : ∃ h1, nzxL d nX2_search [.ref 50, .ref t] h = some ((zkE c g n n 0 0 (s.1, s.2.1, 1000000000000000)).2.2, h1) ∧ zkno h1 (zkE c g n n 0 0 (s.1, s.2.1, 1000000000000000)) (nI n) ∧ zday h1 t c g ∧ zfr 50 53 h h1 := by
  obtain ⟨⟨F, o, e0, e1, e2, e3⟩, p1, p2⟩ := D
  have fr : zfr 50 53 h (nzset h 50 (.inr (2, va_up F 2 (.long 1000000000000000)))) := zfr_set _ _ (by decide) (by decide)
  have D2 : zkno (nzset h 50 (.inr (2, va_up F 2 (.long 1000000000000000)))) (s.1, s.2.1, 1000000000000000) tc := ⟨⟨_, zc_setS _ _ _, by simp [va_up, e0], by simp [va_up, e1], by simp [va_up], by simp [va_up, e3]⟩, (zc_setN (by decide)).trans p1, (zc_setN (by decide)).trans p2⟩
  have E2 := zday_sm E (zfr_sm fr (lo' := t) (hi' := t + 3) (by omega))
  obtain ⟨h1, q1, q2, q3, q4⟩ := jX2_extend ht hn en n (d - 1) 0 0 _ _ (by omega) (by omega) D2 E2
  obtain ⟨⟨F', o', a0, a1, a2, a3⟩, b1, b2⟩ := q2
  have fr2 : zfr 50 53 h1 (nzset h1 50 (.inr (2, va_up F' 3 (.int (nI n))))) := zfr_set _ _ (by decide) (by decide)
  refine ⟨_, iX2_search (by omega) o ?_, ⟨⟨_, zc_setS _ _ _, by simp [va_up, a0], by simp [va_up, a1], by simp [va_up, a2], by simp [va_up]⟩, (zc_setN (by decide)).trans b1, (zc_setN (by decide)).trans b2⟩, zday_sm q3 (zfr_sm fr2 (lo' := t) (hi' := t + 3) (by omega)), zfr_tr (zfr_tr fr q4) fr2⟩
  rw [eX2_search_0, zp_of o, Option.bind_some]
  rw [nI_0] at q1
  rw [q1, Option.bind_some, jX2_callCount q3 (by omega) hn en, Option.bind_some, zp_of o', Option.bind_some, zg_L (F := va_up F' 3 (.int (nI n))) (v := (zkE c g n n 0 0 (s.1, s.2.1, 1000000000000000)).2.2) (zc_setS _ _ _) (by simp [va_up, a2]), Option.bind_some]
theorem jX2_told2 (E : zday h t c g) : ∀ (j i : Nat) (h : nzH) (s : zks), i + j = 5 → zkno h s tc → zday h t c g → (∀ k, k < i → s.1 k = nI k) → ∃ h1 s1, nzr d nX2_expectedAsTold 2 [some (.ref 50), some (.ref t), some (.int (nI i))] [] h = ((nzxL d nX2_expected [.ref 50, .ref t] h1).bind fun q1 => some (some (.long q1.1), q1.2)) ∧ zkno h1 s1 tc ∧ zfr 51 52 h h1 ∧ (∀ k, k < 5 → s1.1 k = nI k) ∧ s1.2 = s.2 := by
  intro j
  induction j with
  | zero =>
    intro i h s hi D E hp
    refine ⟨h, s, ?_, D, zfr_rfl _ _ _, fun k hk => hp k (by omega), rfl⟩
    rw [eX2_expectedAsTold_2, if_pos (show 5 ≤ nI i from nI_le (a := 5) (by omega) (by omega))]
  | succ j ih =>
    intro i h s hi D E hp
    obtain ⟨⟨F, o, e0, e1, e2, e3⟩, p1, p2⟩ := D
    have fr : zfr 51 52 h (nzset h 51 (.inl (.int, 5, .inl (upd s.1 i (nI i))))) := zfr_set _ _ (by decide) (by decide)
    have D2 : zkno (nzset h 51 (.inl (.int, 5, .inl (upd s.1 i (nI i))))) (upd s.1 i (nI i), s.2) tc := ⟨⟨F, (zc_setN (by decide)).trans o, e0, e1, e2, e3⟩, zc_setS _ _ _, (zc_setN (by decide)).trans p2⟩
    by_cases z : t + 3 ≤ 51 ∨ 52 ≤ t
    · obtain ⟨h1, s1, q1, q2, q3, q4, q5⟩ := ih (i + 1) _ _ (by omega) D2 (zday_sm E (zfr_sm fr (lo' := t) (hi' := t + 3) (by omega))) (fun k hk => by
        by_cases y : k = i
        · subst y
          show upd _ _ _ _ = _
          rw [upd, if_pos rfl]
        · show upd _ _ _ _ = _
          rw [upd, if_neg y]
          exact hp k (by omega))
      refine ⟨h1, s1, ?_, q2, zfr_tr fr q3, q4, q5⟩
      rw [eX2_expectedAsTold_2, if_neg (show ¬ 5 ≤ nI i from nI_ge (b := 5) (by omega) (by decide)), zg_R o e0, Option.bind_some, zs_In p1 (show i < 5 by omega) (by decide), Option.bind_some, nI_1]
      exact q1
    · exfalso
      obtain ⟨⟨F', o', -⟩, c1, c2, -⟩ := E
      have h3 : t = 51 ∨ t + 1 = 51 ∨ t + 2 = 51 := by omega
      rcases h3 with y | y | y
      · rw [y] at o'
        have := p1.symm.trans o'
        simp at this
      · rw [y] at c1
        have := p1.symm.trans c1
        simp at this
      · rw [y] at c2
        have := p1.symm.trans c2
        simp at this
theorem jX2_expectedAsTold (D : zkno h s tc) (E : zday h t c g) (ht : t + 3 ≤ 50 ∨ 53 ≤ t) (hd : 3 < d) {n : Nat} (hn : n ≤ 5) (en : c 6 = nI n) : ∃ h1 s1, nzxL d nX2_expectedAsTold [.ref 50, .ref t] h = some ((zexp c g s1.1 n (0, 1)).1, h1) ∧ zkno h1 s1 tc ∧ zday h1 t c g ∧ zfr 50 53 h h1 ∧ (∀ k, k < 5 → s1.1 k = nI k) ∧ s1.2 = s.2 := by
  obtain ⟨h1, s1, q1, q2, q3, q4, q5⟩ := jX2_told2 (d := d - 1) E 5 0 h s (by omega) D E (fun k hk => by omega)
  have E2 := zday_sm E (zfr_sm q3 (lo' := t) (hi' := t + 3) (by omega))
  refine ⟨h1, s1, iX2_expectedAsTold (by omega) D.1.choose_spec.1 ?_, q2, E2, zfr_wk q3 (by decide) (by decide), q4, q5⟩
  rw [eX2_expectedAsTold_0]
  refine q1.trans ?_
  rw [jX2_expected q2 E2 (by omega) hn en, Option.bind_some]
end NZK
