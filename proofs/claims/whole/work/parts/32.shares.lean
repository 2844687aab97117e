/-! Shares (27 .. 30): s = (held sets, cars, best cars, least), td houses told -/
abbrev zss : Type := (Nat → Nat) × (Nat → Int32) × (Nat → Int32) × Int32
def zsha (h : nzH) (s : zss) (td : Int32) : Prop := (∃ F, zobj h 27 7 F ∧ F 0 = .ref 28 ∧ F 1 = .ref 29 ∧ F 2 = .ref 30 ∧ F 3 = .int s.2.2.2 ∧ F 4 = .int td) ∧ (∃ f, zarr h 28 3 f ∧ ∀ i, i < 3 → f i = nI (s.1 i) ∧ s.1 i < 64) ∧ zarr h 29 6 s.2.1 ∧ zarr h 30 6 s.2.2.1
theorem zsha_sm {h h1 : nzH} {s : zss} {td : Int32} (D : zsha h s td) (e : zsm 27 31 h h1) : zsha h1 s td := by
  obtain ⟨⟨F, o, q⟩, ⟨f, p1, p4⟩, p2, p3⟩ := D
  exact ⟨⟨F, (e 27 (by omega) (by omega)).trans o, q⟩, ⟨f, (e 28 (by omega) (by omega)).trans p1, p4⟩, (e 29 (by omega) (by omega)).trans p2, (e 30 (by omega) (by omega)).trans p3⟩
theorem zbcl : ∀ a, a < 64 → ∀ x, x < 6 → nI a &&& ((1 <<< (nI x &&& 31)) ^^^ (-1)) = nI (a &&& (63 - 2 ^ x)) ∧ (a &&& (63 - 2 ^ x)) < 64 := by decide +kernel
section NZH
variable {d : Nat} {h : nzH} {s : zss} {td : Int32} {t : Nat} {c g : Nat → Int32} {Wt Pk : Nat → Nat → Int32} {O : Nat → Int32} {kn : Int32}
theorem zsha_held (D : zsha h s td) {k a : Nat} (hk : k < 3) (ha : a < 64) {f : Nat → Int32} (hf : zarr h 28 3 f) : zsha (nzset h 28 (.inl (.int, 3, .inl (upd f k (nI a))))) (va_up s.1 k a, s.2) td := by
  obtain ⟨⟨F, o, q⟩, ⟨f', p1, p4⟩, p2, p3⟩ := D
  have : f = f' := by
    have := hf.symm.trans p1
    simpa using this
  subst this
  refine ⟨⟨F, (zc_setN (by decide)).trans o, q⟩, ⟨_, zc_setS _ _ _, fun i hi => ?_⟩, (zc_setN (by decide)).trans p2, (zc_setN (by decide)).trans p3⟩
  show upd f k (nI a) i = nI (va_up s.1 k a i) ∧ va_up s.1 k a i < 64
  by_cases z : i = k
  · rw [z, va_up_self]
    exact ⟨if_pos rfl, ha⟩
  · rw [va_up_ne _ _ z, upd, if_neg z]
    exact p4 i hi
theorem zsha_cars (D : zsha h s td) (w : Nat → Int32) : zsha (nzset h 29 (.inl (.int, 6, .inl w))) (s.1, w, s.2.2) td := by
  obtain ⟨⟨F, o, q⟩, ⟨f', p1, p4⟩, p2, p3⟩ := D
  exact ⟨⟨F, (zc_setN (by decide)).trans o, q⟩, ⟨f', (zc_setN (by decide)).trans p1, p4⟩, zc_setS _ _ _, (zc_setN (by decide)).trans p3⟩
theorem zsha_get (D : zsha h s td) {k : Nat} (hk : k < 3) : ∃ f, nzgR h 27 7 0 = some 28 ∧ zarr h 28 3 f ∧ nzaI h 28 (nI k) = some (nI (s.1 k)) ∧ s.1 k < 64 ∧ nzgR h 27 7 1 = some 29 ∧ nzgR h 27 7 2 = some 30 ∧ nzgI h 27 7 3 = some s.2.2.2 := by
  obtain ⟨⟨F, o, e0, e1, e2, e3, e4⟩, ⟨f, p1, p4⟩, p2, p3⟩ := D
  exact ⟨f, zg_R o e0, p1, (za_In p1 hk (by decide)).trans (congrArg some (p4 k hk).1), (p4 k hk).2, zg_R o e1, zg_R o e2, zg_I o e3⟩
theorem jX7_forget (D : zsha h s td) (hd : 0 < d) : ∃ h1, nzxV d nX7_forget [.ref 27] h = some h1 ∧ zsha h1 s 0 ∧ zfr 27 31 h h1 := by
  obtain ⟨⟨F, o, e0, e1, e2, e3, e4⟩, ⟨f, p1, p4⟩, p2, p3⟩ := D
  refine ⟨nzset h 27 (.inr (7, va_up F 4 (.int 0))), iX7_forget hd o ?_, ⟨⟨_, zc_setS _ _ _, by simp [va_up, e0], by simp [va_up, e1], by simp [va_up, e2], by simp [va_up, e3], by simp [va_up]⟩, ⟨f, (zc_setN (by decide)).trans p1, p4⟩, (zc_setN (by decide)).trans p2, (zc_setN (by decide)).trans p3⟩, zfr_set _ _ (by decide) (by decide)⟩
  rw [eX7_forget_0, zp_of o, Option.bind_some]
theorem jX7_carOf {n : Nat} (D : zsha h s (nI n)) (hn : n ≤ 6) (hd : 0 < d) (x : Int32) : nzxI d nX7_carOf [.ref 27, .int x] h = some (if x < 0 then -1 else if nI n ≤ x then -1 else s.2.2.1 x.toNatClampNeg, h) := by
  obtain ⟨⟨F, o, e0, e1, e2, e3, e4⟩, ⟨f, p1, p4⟩, p2, p3⟩ := D
  refine iX7_carOf hd o ?_
  rw [eX7_carOf_0, zg_I o e4, Option.bind_some, eX7_carOf_21]
  split
  · rfl
  · split
    · rfl
    · rename_i z1 z2
      obtain ⟨j, hj, rfl⟩ := z_rng (n := n) (by omega) z1 z2
      rw [zg_R o e2, Option.bind_some, za_In p3 (show j < 6 by omega) (by decide), nI_clamp (by omega)]
      rfl
/-- the worth of what is held -/
def zshW (Wt : Nat → Nat → Int32) (A : Nat → Nat) (i : Nat) (a : Int32) : Int32 := a + (if A i = 0 then 0 else Wt i (A i))
def zshN (Wt : Nat → Nat → Int32) (s : zss) : zss := if s.2.2.2 ≤ zit (zshW Wt s.1) 0 3 0 then s else (s.1, s.2.1, va_cpy s.2.1 s.2.2.1 0 0 6, zit (zshW Wt s.1) 0 3 0)
theorem jX7_note4 (D : zsha h s td) (G : zord h Wt Pk O kn) (hd : 2 < d) : ∀ (j i : Nat) (a : Int32), i + j = 3 → ∃ h1, nzr d nX7_note 4 [some (.ref 27), some (.ref 17), some (.int a), some (.int (nI i))] [] h = some (none, h1) ∧ zsha h1 (if s.2.2.2 ≤ zit (zshW Wt s.1) i j a then s else (s.1, s.2.1, va_cpy s.2.1 s.2.2.1 0 0 6, zit (zshW Wt s.1) i j a)) td ∧ zfr 27 31 h h1 := by
  intro j
  induction j with
  | zero =>
    intro i a hi
    have D' := D
    obtain ⟨⟨F, o, e0, e1, e2, e3, e4⟩, ⟨f, p1, p4⟩, p2, p3⟩ := D
    rw [eX7_note_4, if_pos (show 3 ≤ nI i from nI_le (a := 3) (by omega) (by omega)), zg_I o e3, Option.bind_some, zit]
    by_cases z : s.2.2.2 ≤ a
    · rw [if_pos z, if_pos z]
      exact ⟨h, rfl, D', zfr_rfl _ _ _⟩
    · rw [if_neg z, if_neg z]
      refine ⟨nzset (nzset h 27 (.inr (7, va_up F 3 (.int a)))) 30 (.inl (.int, 6, .inl (va_cpy s.2.1 s.2.2.1 0 0 6))), ?_, ⟨⟨_, (zc_setN (by decide)).trans (zc_setS _ _ _), by simp [va_up, e0], by simp [va_up, e1], by simp [va_up, e2], by simp [va_up], by simp [va_up, e4]⟩, ⟨f, (zc_setN (by decide)).trans ((zc_setN (by decide)).trans p1), p4⟩, (zc_setN (by decide)).trans ((zc_setN (by decide)).trans p2), zc_setS _ _ _⟩, zfr_tr (zfr_set _ _ (by decide) (by decide)) (zfr_set _ _ (by decide) (by decide))⟩
      rw [zp_of o, Option.bind_some, zg_R (F := va_up F 3 (.int a)) (v := 29) (zc_setS _ _ _) (by simp [va_up, e1]), Option.bind_some, zg_R (F := va_up F 3 (.int a)) (v := 30) (zc_setS _ _ _) (by simp [va_up, e2]), Option.bind_some]
      have w1 : zarr (nzset h 27 (.inr (7, va_up F 3 (.int a)))) 29 6 s.2.1 := (zc_setN (by decide)).trans p2
      have w2 : zarr (nzset h 27 (.inr (7, va_up F 3 (.int a)))) 30 6 s.2.2.1 := (zc_setN (by decide)).trans p3
      rw [nzcpy, w1, w2]
      rfl
  | succ j ih =>
    intro i a hi
    obtain ⟨f, g0, g1, g2, g3, -⟩ := zsha_get D (show i < 3 by omega)
    rw [eX7_note_4, if_neg (show ¬ 3 ≤ nI i from nI_ge (b := 3) (by omega) (by decide)), g0, Option.bind_some, g2, Option.bind_some, zit, zshW]
    simp only [g2, Option.bind_some, jX4_worth G hd (show i < 3 by omega) g3, eX7_note_34, nI_1]
    by_cases z : s.1 i = 0
    · rw [if_pos z, if_pos (show nI (s.1 i) = 0 by rw [z]; rfl)]
      exact ih (i + 1) _ (by omega)
    · rw [if_neg z, if_neg (nI_ne0 (by omega) (by omega))]
      exact ih (i + 1) _ (by omega)
theorem jX7_note (D : zsha h s td) (G : zord h Wt Pk O kn) (hd : 3 < d) : ∃ h1, nzxV d nX7_note [.ref 27, .ref 17] h = some h1 ∧ zsha h1 (zshN Wt s) td ∧ zfr 27 31 h h1 := by
  obtain ⟨h1, q1, q2⟩ := jX7_note4 (d := d - 1) D G (by omega) 3 0 0 (by omega)
  refine ⟨h1, iX7_note (by omega) D.1.choose_spec.1 ?_, q2⟩
  rw [eX7_note_0]
  exact q1
/-- all shares, house by house; r houses are left, m cars -/
def zgiv (c g : Nat → Int32) (Wt : Nat → Nat → Int32) (m : Nat) : Nat → Nat → zss → zss
  | 0, _, s => zshN Wt s
  | r + 1, x, s => zit (fun car s => if zget c g 4 (nI car) 2 ≤ nI (zpop (s.1 car)) then s else
      (va_up (zgiv c g Wt m r (x + 1) (va_up s.1 car (s.1 car ||| 2 ^ x), upd s.2.1 x (nI car), s.2.2)).1 car ((zgiv c g Wt m r (x + 1) (va_up s.1 car (s.1 car ||| 2 ^ x), upd s.2.1 x (nI car), s.2.2)).1 car &&& (63 - 2 ^ x)), (zgiv c g Wt m r (x + 1) (va_up s.1 car (s.1 car ||| 2 ^ x), upd s.2.1 x (nI car), s.2.2)).2)) 0 m s
theorem jX7_give (ht : t + 3 ≤ 17 ∨ 31 ≤ t) {n m : Nat} (hn : n ≤ 6) (en : c 3 = nI n) (hm : m ≤ 3) (em : c 4 = nI m) : ∀ (r d x : Nat) (h : nzH) (s : zss), r + 4 < d → x + r = n → zsha h s td → zord h Wt Pk O kn → zday h t c g → ∃ h1, nzxV d nX7_give [.ref 27, .ref t, .ref 17, .int (nI x)] h = some h1 ∧ zsha h1 (zgiv c g Wt m r x s) td ∧ zord h1 Wt Pk O kn ∧ zday h1 t c g ∧ zfr 27 31 h h1 := by
  have g2 : zrow c 3 = nI n := (zrow_n c (s := 3) (by decide)).trans en
  have g3 : (if nI n < 6 then nI n else 6) = nI n := by
    by_cases z : n = 6
    · subst z; decide
    · rw [if_pos (show nI n < 6 from nI_lt (b := 6) (by omega) (by decide))]
  have g4 : zrow c 4 = nI m := (zrow_n c (s := 4) (by decide)).trans em
  have g5 : (if nI m < 3 then nI m else 3) = nI m := by
    by_cases z : m = 3
    · subst z; decide
    · rw [if_pos (show nI m < 3 from nI_lt (b := 3) (by omega) (by decide))]
  intro r
  induction r with
  | zero =>
    intro d x h s hd hx D G E
    obtain ⟨h1, q1, q2, q3⟩ := jX7_note (d := d - 1) D G (by omega)
    refine ⟨h1, iX7_give (by omega) ?_, q2, zord_sm G (zfr_sm q3 (by omega)), zday_sm E (zfr_sm q3 (by omega)), q3⟩
    rw [eX7_give_0, jX0_rows E (by omega), Option.bind_some, g2, g3, if_neg (nI_nlt (by omega) (by omega)), q1, Option.bind_some]
  | succ r ih =>
    intro d x h s0 hd hx D G E
    have loop : ∀ (j i : Nat) (h : nzH) (s : zss), i + j = m → zsha h s td → zord h Wt Pk O kn → zday h t c g → ∃ h1, nzr (d - 1) nX7_give 23 [some (.ref 27), some (.ref t), some (.ref 17), some (.int (nI x)), some (.int (nI i))] [] h = some (none, h1) ∧ zsha h1 (zit (fun car s => if zget c g 4 (nI car) 2 ≤ nI (zpop (s.1 car)) then s else
      (va_up (zgiv c g Wt m r (x + 1) (va_up s.1 car (s.1 car ||| 2 ^ x), upd s.2.1 x (nI car), s.2.2)).1 car ((zgiv c g Wt m r (x + 1) (va_up s.1 car (s.1 car ||| 2 ^ x), upd s.2.1 x (nI car), s.2.2)).1 car &&& (63 - 2 ^ x)), (zgiv c g Wt m r (x + 1) (va_up s.1 car (s.1 car ||| 2 ^ x), upd s.2.1 x (nI car), s.2.2)).2)) i j s) td ∧ zord h1 Wt Pk O kn ∧ zday h1 t c g ∧ zfr 27 31 h h1 := by
      intro j
      induction j with
      | zero =>
        intro i h s hi D G E
        refine ⟨h, ?_, D, G, E, zfr_rfl _ _ _⟩
        rw [eX7_give_23, jX0_rows E (by omega), Option.bind_some, g4, g5, if_pos (nI_le (by omega) (by omega))]
      | succ j ihj =>
        intro i h s hi D G E
        obtain ⟨f, r0, r1, r2, r3, r4, -⟩ := zsha_get D (show i < 3 by omega)
        have hb := zbor (s.1 i) r3 x (by omega)
        rw [eX7_give_23, jX0_rows E (by omega), Option.bind_some, g4, g5, if_neg (nI_ge (by omega) (by omega)), r0, Option.bind_some, r2, Option.bind_some, jJ6_bitCount (by omega) r3, Option.bind_some, jX0_get E (by omega), Option.bind_some, zit]
        by_cases z : zget c g 4 (nI i) 2 ≤ nI (zpop (s.1 i))
        · rw [if_pos z, if_pos z, eX7_give_103, nI_1]
          exact ihj (i + 1) h s (by omega) D G E
        · rw [if_neg z, if_neg z]
          have D2 := zsha_held D (show i < 3 by omega) hb.2 r1
          have D3 := zsha_cars D2 (upd s.2.1 x (nI i))
          have fr : zfr 27 31 h (nzset (nzset h 28 (.inl (.int, 3, .inl (upd f i (nI (s.1 i ||| 2 ^ x)))))) 29 (.inl (.int, 6, .inl (upd s.2.1 x (nI i))))) := zfr_tr (zfr_set _ _ (by decide) (by decide)) (zfr_set _ _ (by decide) (by decide))
          have sm : zsm 27 31 h h := fun _ _ _ => rfl
          obtain ⟨h1, q1, q2, q3, q4, q5⟩ := ih (d - 1) (x + 1) _ _ (by omega) (by omega) D3 (zord_sm G (zfr_sm fr (by omega))) (zday_sm E (zfr_sm fr (by omega)))
          obtain ⟨f', b0, b1, b2, b3, -⟩ := zsha_get q2 (show i < 3 by omega)
          have hc := zbcl _ b3 x (by omega)
          have D4 := zsha_held q2 (show i < 3 by omega) hc.2 b1
          have fr2 : zfr 27 31 h1 (nzset h1 28 (.inl (.int, 3, .inl (upd f' i (nI ((zgiv c g Wt m r (x + 1) (va_up s.1 i (s.1 i ||| 2 ^ x), upd s.2.1 x (nI i), s.2.2)).1 i &&& (63 - 2 ^ x))))))) := zfr_set _ _ (by decide) (by decide)
          obtain ⟨h3, y1, y2, y3, y4, y5⟩ := ihj (i + 1) _ _ (by omega) D4 (zord_sm q3 (zfr_sm fr2 (by omega))) (zday_sm q4 (zfr_sm fr2 (by omega)))
          refine ⟨h3, ?_, y2, y3, y4, zfr_tr fr (zfr_tr q5 (zfr_tr fr2 y5))⟩
          have a4 := (zsha_get D2 (show i < 3 by omega)).choose_spec.2.2.2.2.1
          rw [r0, Option.bind_some, r2, Option.bind_some, zs_In r1 (show i < 3 by omega) (by decide), Option.bind_some, hb.1, a4, Option.bind_some, zs_In D2.2.2.1 (show x < 6 by omega) (by decide), Option.bind_some, nI_1]
          rw [q1, Option.bind_some, b0, Option.bind_some, b2, Option.bind_some, zs_In b1 (show i < 3 by omega) (by decide), Option.bind_some, hc.1, eX7_give_103, nI_1]
          exact y1
    obtain ⟨h1, q1, q2, q3, q4, q5⟩ := loop m 0 h s0 (by omega) D G E
    refine ⟨h1, iX7_give (by omega) ?_, q2, q3, q4, q5⟩
    rw [eX7_give_0, jX0_rows E (by omega), Option.bind_some, g2, g3, if_pos (nI_lt (by omega) (by omega))]
    exact q1
theorem jX7_search (D : zsha h s td) (G : zord h Wt Pk O kn) (E : zday h t c g) (ht : t + 3 ≤ 17 ∨ 31 ≤ t) (hd : 12 < d) {n m : Nat} (hn : n ≤ 6) (en : c 3 = nI n) (hm : m ≤ 3) (em : c 4 = nI m) : ∃ h1, nzxI d nX7_search [.ref 27, .ref t, .ref 17] h = some ((zgiv c g Wt m n 0 (fun _ => 0, s.2.1, s.2.2.1, 1000000000)).2.2.2, h1) ∧ zsha h1 (zgiv c g Wt m n 0 (fun _ => 0, s.2.1, s.2.2.1, 1000000000)) (if (zgiv c g Wt m n 0 (fun _ => 0, s.2.1, s.2.2.1, 1000000000)).2.2.2 = 1000000000 then td else nI n) ∧ zord h1 Wt Pk O kn ∧ zday h1 t c g ∧ zfr 27 31 h h1 := by
  have g2 : zrow c 3 = nI n := (zrow_n c (s := 3) (by decide)).trans en
  have g3 : (if nI n < 6 then nI n else 6) = nI n := by
    by_cases z : n = 6
    · subst z; decide
    · rw [if_pos (show nI n < 6 from nI_lt (b := 6) (by omega) (by decide))]
  obtain ⟨⟨F, o, e0, e1, e2, e3, e4⟩, ⟨f, p1, p4⟩, p2, p3⟩ := D
  have fr1 : zfr 27 31 h (nzset h 27 (.inr (7, va_up F 3 (.int 1000000000)))) := zfr_set _ _ (by decide) (by decide)
  obtain ⟨h2, q1, q2, q3⟩ := jJ7_fill (v := 0) (d := d - 1) (by omega) (by decide) (show zarr (nzset h 27 (.inr (7, va_up F 3 (.int 1000000000)))) 28 3 f from (zc_setN (by decide)).trans p1)
  have fr2 : zfr 27 31 h h2 := zfr_tr fr1 (zfr_wk q3 (by decide) (by decide))
  have D2 : zsha h2 (fun _ => 0, s.2.1, s.2.2.1, 1000000000) td := ⟨⟨va_up F 3 (.int 1000000000), (q3.2.2.2 27 (by decide)).trans (zc_setS _ _ _), by simp [va_up, e0], by simp [va_up, e1], by simp [va_up, e2], by simp [va_up], by simp [va_up, e4]⟩, ⟨_, q2, fun i hi => by simp [hi, nI_0]⟩, (q3.2.2.2 29 (by decide)).trans ((zc_setN (by decide)).trans p2), (q3.2.2.2 30 (by decide)).trans ((zc_setN (by decide)).trans p3)⟩
  obtain ⟨h3, w1, w2, w3, w4, w5⟩ := jX7_give ht hn en hm em n (d - 1) 0 h2 _ (by omega) (by omega) D2 (zord_sm G (zfr_sm fr2 (by omega))) (zday_sm E (zfr_sm fr2 (by omega)))
  rw [nI_0] at w1
  obtain ⟨⟨F', o', a0, a1, a2, a3, a4⟩, ⟨f', b1, b4⟩, b2, b3⟩ := w2
  by_cases z : (zgiv c g Wt m n 0 (fun _ => 0, s.2.1, s.2.2.1, 1000000000)).2.2.2 = 1000000000
  · refine ⟨h3, iX7_search (by omega) o ?_, ?_, w3, w4, zfr_tr fr2 w5⟩
    · rw [eX7_search_0, zp_of o, Option.bind_some, zg_R (F := va_up F 3 (.int 1000000000)) (v := 28) (zc_setS _ _ _) (by simp [va_up, e0]), Option.bind_some, q1, Option.bind_some, w1, Option.bind_some, zg_I o' a3, Option.bind_some, if_pos z, eX7_search_44, zg_I o' a3, Option.bind_some]
    · rw [if_pos z]
      exact ⟨⟨F', o', a0, a1, a2, a3, a4⟩, ⟨f', b1, b4⟩, b2, b3⟩
  · have fr4 : zfr 27 31 h3 (nzset h3 27 (.inr (7, va_up F' 4 (.int (nI n))))) := zfr_set _ _ (by decide) (by decide)
    refine ⟨_, iX7_search (by omega) o ?_, ?_, zord_sm w3 (zfr_sm fr4 (by omega)), zday_sm w4 (zfr_sm fr4 (by omega)), zfr_tr fr2 (zfr_tr w5 fr4)⟩
    · rw [eX7_search_0, zp_of o, Option.bind_some, zg_R (F := va_up F 3 (.int 1000000000)) (v := 28) (zc_setS _ _ _) (by simp [va_up, e0]), Option.bind_some, q1, Option.bind_some, w1, Option.bind_some, zg_I o' a3, Option.bind_some, if_neg z, jX0_rows w4 (by omega), Option.bind_some, zp_of o', Option.bind_some, g2, g3, eX7_search_44, zg_I (F := va_up F' 4 (.int (nI n))) (v := (zgiv c g Wt m n 0 (fun _ => 0, s.2.1, s.2.2.1, 1000000000)).2.2.2) (zc_setS _ _ _) (by simp [va_up, a3]), Option.bind_some]
    · rw [if_neg z]
      exact ⟨⟨_, zc_setS _ _ _, by simp [va_up, a0], by simp [va_up, a1], by simp [va_up, a2], by simp [va_up, a3], by simp [va_up]⟩, ⟨f', (zc_setN (by decide)).trans b1, b4⟩, (zc_setN (by decide)).trans b2, (zc_setN (by decide)).trans b3⟩
end NZH
