/-! Menus: telling, prices, dropping -/
section NZM2
variable {d : Nat} {h : nzH} {C : Nat → Nat → Int32} {S P : Nat → Int32} {td : Int32}
theorem zmen_td {F : Nat → Value} (D : zmen h C S P td) (o : zobj h 31 3 F) (v : Int32) : zmen (nzset h 31 (.inr (3, va_up F 3 (.int v)))) C S P v := by
  obtain ⟨⟨F', o', e0, e1, e2, e3⟩, ⟨f, hf, ef⟩, hr, q1, q2⟩ := D
  have : F = F' := by
    have := o.symm.trans o'
    simpa using this
  subst this
  exact ⟨⟨_, zc_setS _ _ _, by simp [va_up, e0], by simp [va_up, e1], by simp [va_up, e2], by simp [va_up]⟩, ⟨f, (zc_setN (by omega)).trans hf, ef⟩, fun i hi => (zc_setN (by omega)).trans (hr i hi), (zc_setN (by omega)).trans q1, (zc_setN (by omega)).trans q2⟩
theorem jX3_forget (D : zmen h C S P td) (hd : 0 < d) : ∃ h1, nzxV d nX3_forget [.ref 31] h = some h1 ∧ zmen h1 C S P 0 ∧ zfr 31 50 h h1 := by
  have o := D.1.choose_spec.1
  refine ⟨_, iX3_forget hd o ?_, zmen_td D o 0, zfr_set _ _ (by decide) (by decide)⟩
  rw [eX3_forget_0, zp_of o, Option.bind_some]
theorem jX3_dishOn {n : Nat} (D : zmen h C S P (nI n)) (hn : n ≤ 14) (hd : 0 < d) (x : Int32) : nzxI d nX3_dishOn [.ref 31, .int x] h = some (if x < 0 then -1 else if nI n ≤ x then -1 else S x.toNatClampNeg, h) := by
  obtain ⟨⟨F, o, e0, e1, e2, e3⟩, -, -, q1, q2⟩ := D
  refine iX3_dishOn hd o ?_
  rw [eX3_dishOn_0, zg_I o e3, Option.bind_some, eX3_dishOn_21]
  split
  · rfl
  · split
    · rfl
    · rename_i z1 z2
      obtain ⟨j, hj, rfl⟩ := z_rng (n := n) (by omega) z1 z2
      rw [zg_R o e1, Option.bind_some, za_In q1 (show j < 14 by omega) (by decide), nI_clamp (by omega)]
      rfl
def zfcS (row : Nat → Int32) (bar least : Int32) : Nat → Nat → Int32
  | _, 0 => -1
  | i, j + 1 => if nI i = bar then zfcS row bar least (i + 1) j else if row i = least then nI i else zfcS row bar least (i + 1) j
def zfc (row : Nat → Int32) (bar : Int32) : Int32 := zfcS row bar (zlb row bar) 0 6
theorem jX3_fc10 (D : zmen h C S P td) {q : Nat} (hq : q < 15) (bar least : Int32) : ∀ (j i : Nat), i + j = 6 → nzr d nX3_firstCheapest 10 [some (.ref 31), some (.int (nI q)), some (.int bar), some (.int least), some (.int (nI i))] [] h = some (some (.int (zfcS (C q) bar least i j)), h) := by
  have rw1 := zmen_row D hq
  have hr := D.2.2.1 q hq
  intro j
  induction j with
  | zero =>
    intro i hi
    rw [eX3_firstCheapest_10, if_pos (show 6 ≤ nI i from nI_le (a := 6) (by omega) (by omega))]
    rfl
  | succ j ih =>
    intro i hi
    rw [eX3_firstCheapest_10, if_neg (show ¬ 6 ≤ nI i from nI_ge (b := 6) (by omega) (by decide)), zfcS]
    simp only [rw1.1, rw1.2, Option.bind_some, za_In hr (show i < 6 by omega) (by decide), eX3_firstCheapest_39, nI_1]
    split
    · exact ih (i + 1) (by omega)
    · split
      · rfl
      · exact ih (i + 1) (by omega)
theorem jX3_firstCheapest (D : zmen h C S P td) (hd : 1 < d) {q : Nat} (hq : q < 15) (bar : Int32) : nzxI d nX3_firstCheapest [.ref 31, .int (nI q), .int bar] h = some (zfc (C q) bar, h) := by
  refine iX3_firstCheapest (by omega) D.1.choose_spec.1 ?_
  rw [eX3_firstCheapest_0, jX3_leastBut D (by omega) hq, Option.bind_some]
  exact jX3_fc10 D hq bar _ 6 0 (by omega)
/-- telling: (the dish before, the dishes) -/
def ztel (C : Nat → Nat → Int32) (m : Nat) (i : Nat) (s : Int32 × (Nat → Int32)) : Int32 × (Nat → Int32) := (zfc (C (m - i)) s.1, upd s.2 i (zfc (C (m - i)) s.1))
theorem jX3_tell14 (hd : 1 < d) (x : Int32) {m : Nat} (hm : m ≤ 14) : ∀ (j i : Nat) (h : nzH) (b : Int32) (S : Nat → Int32), i + j = m → zmen h C S P (nI m) → ∃ h1, nzr d nX3_tell 14 [some (.ref 31), some (.int x), some (.int b), some (.int (nI i))] [] h = some (none, h1) ∧ zmen h1 C (zit (ztel C m) i j (b, S)).2 P (nI m) ∧ zfr 31 50 h h1 := by
  intro j
  induction j with
  | zero =>
    intro i h b S hi D
    obtain ⟨F, o, e0, e1, e2, e3⟩ := D.1
    refine ⟨h, ?_, D, zfr_rfl _ _ _⟩
    rw [eX3_tell_14, zg_I o e3, Option.bind_some, if_pos (nI_le (by omega) (by omega))]
  | succ j ih =>
    intro i h b S hi D
    have D' := D
    obtain ⟨⟨F, o, e0, e1, e2, e3⟩, ⟨f, hf, ef⟩, hr, q1, q2⟩ := D
    have D2 : zmen (nzset h 48 (.inl (.int, 14, .inl (upd S i (zfc (C (m - i)) b))))) C (upd S i (zfc (C (m - i)) b)) P (nI m) := ⟨⟨F, (zc_setN (by omega)).trans o, e0, e1, e2, e3⟩, ⟨f, (zc_setN (by omega)).trans hf, ef⟩, fun i hi => (zc_setN (by omega)).trans (hr i hi), zc_setS _ _ _, (zc_setN (by omega)).trans q2⟩
    obtain ⟨h1, r1, r2, r3⟩ := ih (i + 1) _ (zfc (C (m - i)) b) _ (by omega) D2
    refine ⟨h1, ?_, r2, zfr_tr (zfr_set _ _ (by decide) (by decide)) r3⟩
    rw [eX3_tell_14, zg_I o e3, Option.bind_some, if_neg (nI_ge (by omega) (by omega)), Option.bind_some, pk_sub (by omega), jX3_firstCheapest D' hd (show m - i < 15 by omega), Option.bind_some, zg_R o e1, Option.bind_some, zs_In q1 (show i < 14 by omega) (by decide), Option.bind_some, nI_1]
    exact r1
theorem jX3_tell (D : zmen h C S P td) (hd : 2 < d) {m : Nat} (hm : m ≤ 14) : ∃ h1, nzxV d nX3_tell [.ref 31, .int (nI m)] h = some h1 ∧ zmen h1 C (zit (ztel C m) 0 m (-1, S)).2 P (nI m) ∧ zfr 31 50 h h1 := by
  have o := D.1.choose_spec.1
  obtain ⟨h1, r1, r2, r3⟩ := jX3_tell14 (d := d - 1) (by omega) (nI m) hm m 0 _ (-1) S (by omega) (zmen_td D o (nI m))
  refine ⟨h1, iX3_tell (by omega) o ?_, r2, zfr_tr (zfr_set _ _ (by decide) (by decide)) r3⟩
  rw [eX3_tell_0, zp_of o, Option.bind_some, if_neg (show ¬ 14 < nI m from nI_nlt (a := 14) (b := m) (by omega) (by omega))]
  exact r1
/-- what a house's menu costs -/
def zpri (c g : Nat → Int32) (m : Nat) (i : Nat) : Int32 := zlb (zmrow c g (zget c g 3 (nI i) 1) m) (-1)
def zprA (c g : Nat → Int32) (m : Nat) : Nat → Nat → Bool
  | _, 0 => true
  | i, j + 1 => if zpri c g m i = 1000000000 then false else zprA c g m (i + 1) j
theorem jX3_ph2 {t : Nat} {c g : Nat → Int32} (ht : t + 3 ≤ 31 ∨ 50 ≤ t) (hd : 4 < d) {m n : Nat} (hm1 : 1 ≤ m) (hm : m ≤ 14) (hn : n ≤ 6) (en : c 3 = nI n) : ∀ (j i : Nat) (h : nzH) (C : Nat → Nat → Int32) (P : Nat → Int32), i + j = n → zmen h C S P td → zday h t c g → (∀ k, k < i → P k = zpri c g m k) → ∃ h1 C' P', nzr d nX3_priceHouses 2 [some (.ref 31), some (.ref t), some (.int (nI m)), some (.int (nI i))] [] h = some (some (.int (if zprA c g m i j then 1 else 0)), h1) ∧ zmen h1 C' S P' td ∧ zday h1 t c g ∧ zfr 31 50 h h1 ∧ (zprA c g m i j = true → ∀ k, k < n → P' k = zpri c g m k) := by
  have g2 : zrow c 3 = nI n := (zrow_n c (s := 3) (by decide)).trans en
  have g3 : (if nI n < 6 then nI n else 6) = nI n := by
    by_cases z : n = 6
    · subst z; decide
    · rw [if_pos (show nI n < 6 from nI_lt (b := 6) (by omega) (by decide))]
  intro j
  induction j with
  | zero =>
    intro i h C P hi D E hp
    refine ⟨h, C, P, ?_, D, E, zfr_rfl _ _ _, fun _ k hk => hp k (by omega)⟩
    rw [eX3_priceHouses_2, jX0_rows E (by omega), Option.bind_some, g2, g3, if_pos (nI_le (by omega) (by omega))]
    rfl
  | succ j ih =>
    intro i h C P hi D E hp
    obtain ⟨F0, o0, a0, a1, a2, a3⟩ := D.1
    obtain ⟨h1, C1, q1, D1, E1, fr1, q5⟩ := jX3_cheapest (d := d) ht hd (zget c g 3 (nI i) 1) hm1 hm D E
    have D1' := D1
    obtain ⟨⟨F, o, e0, e1, e2, e3⟩, ⟨f, hf, ef⟩, hr, p1, p2⟩ := D1
    have D2 : zmen (nzset h1 49 (.inl (.int, 6, .inl (upd P i (zpri c g m i))))) C1 S (upd P i (zpri c g m i)) td := ⟨⟨F, (zc_setN (by omega)).trans o, e0, e1, e2, e3⟩, ⟨f, (zc_setN (by omega)).trans hf, ef⟩, fun i hi => (zc_setN (by omega)).trans (hr i hi), (zc_setN (by omega)).trans p1, zc_setS _ _ _⟩
    have fr2 : zfr 31 50 h1 (nzset h1 49 (.inl (.int, 6, .inl (upd P i (zpri c g m i))))) := zfr_set _ _ (by decide) (by decide)
    have E2 := zday_sm E1 (zfr_sm fr2 (lo' := t) (hi' := t + 3) (by omega))
    have o2 : zobj (nzset h1 49 (.inl (.int, 6, .inl (upd P i (zpri c g m i))))) 31 3 F := (zc_setN (by omega)).trans o
    have st : nzr d nX3_priceHouses 2 [some (.ref 31), some (.ref t), some (.int (nI m)), some (.int (nI i))] [] h = if zpri c g m i = 1000000000 then some (some (.int 0), nzset h1 49 (.inl (.int, 6, .inl (upd P i (zpri c g m i))))) else nzr d nX3_priceHouses 2 [some (.ref 31), some (.ref t), some (.int (nI m)), some (.int (nI (i + 1)))] [] (nzset h1 49 (.inl (.int, 6, .inl (upd P i (zpri c g m i))))) := by
      rw [eX3_priceHouses_2, jX0_rows E (by omega), Option.bind_some, g2, g3, if_neg (nI_ge (by omega) (by omega)), zg_R o0 a2, Option.bind_some, jX0_dietOf E (by omega), Option.bind_some, q1, Option.bind_some, zs_In p2 (show i < 6 by omega) (by decide), Option.bind_some]
      rw [zg_R (F := F) (show zobj (nzset h1 49 (.inl (.int, 6, .inl (upd P i (zlb (zmrow c g (zget c g 3 (nI i) 1) m) (-1)))))) 31 3 F from o2) e2, Option.bind_some, za_In (f := upd P i (zlb (zmrow c g (zget c g 3 (nI i) 1) m) (-1))) (zc_setS _ _ _) (show i < 6 by omega) (by decide), Option.bind_some, nI_1]
      simp only [upd, if_true]
      rfl
    by_cases z : zpri c g m i = 1000000000
    · refine ⟨_, C1, _, ?_, D2, E2, zfr_tr fr1 fr2, fun w => ?_⟩
      · rw [st, if_pos z, zprA, if_pos z]
        rfl
      · rw [zprA, if_pos z] at w
        cases w
    · obtain ⟨h3, C3, P3, r1, r2, r3, r4, r5⟩ := ih (i + 1) _ _ _ (by omega) D2 E2 (fun k hk => by
        by_cases y : k = i
        · subst y
          rw [upd, if_pos rfl]
        · rw [upd, if_neg y]
          exact hp k (by omega))
      refine ⟨h3, C3, P3, ?_, r2, r3, zfr_tr (zfr_tr fr1 fr2) r4, ?_⟩
      · rw [st, if_neg z, zprA, if_neg z]
        exact r1
      · rw [zprA, if_neg z]
        exact r5
theorem jX3_priceHouses {t : Nat} {c g : Nat → Int32} (ht : t + 3 ≤ 31 ∨ 50 ≤ t) (hd : 5 < d) {m n : Nat} (hm1 : 1 ≤ m) (hm : m ≤ 14) (hn : n ≤ 6) (en : c 3 = nI n) (D : zmen h C S P td) (E : zday h t c g) : ∃ h1 C' P', nzxI d nX3_priceHouses [.ref 31, .ref t, .int (nI m)] h = some (if zprA c g m 0 n then 1 else 0, h1) ∧ zmen h1 C' S P' td ∧ zday h1 t c g ∧ zfr 31 50 h h1 ∧ (zprA c g m 0 n = true → ∀ k, k < n → P' k = zpri c g m k) := by
  obtain ⟨h1, C', P', q1, q2⟩ := jX3_ph2 (d := d - 1) ht (by omega) hm1 hm hn en n 0 h C P (by omega) D E (fun k hk => by omega)
  refine ⟨h1, C', P', iX3_priceHouses (by omega) D.1.choose_spec.1 ?_, q2⟩
  rw [eX3_priceHouses_0]
  exact q1
def zpol (P : Nat → Int32) (gone : Int32) (i : Nat) (a : Int32) : Int32 := a + (if gone &&& (1 <<< (nI i &&& 31)) = 0 then P i else 0)
theorem jX3_pol5 {t : Nat} {c g : Nat → Int32} (D : zmen h C S P td) (E : zday h t c g) (hd : 0 < d) {n : Nat} (hn : n ≤ 6) (en : c 3 = nI n) (gone : Int32) : ∀ (j i : Nat) (a : Int32), i + j = n → nzr d nX3_priceOfLeft 5 [some (.ref 31), some (.ref t), some (.int gone), some (.int a), some (.int (nI i))] [] h = some (some (.int (zit (zpol P gone) i j a)), h) := by
  obtain ⟨⟨F, o, e0, e1, e2, e3⟩, ⟨f, hf, ef⟩, hr, p1, p2⟩ := D
  have g2 : zrow c 3 = nI n := (zrow_n c (s := 3) (by decide)).trans en
  have g3 : (if nI n < 6 then nI n else 6) = nI n := by
    by_cases z : n = 6
    · subst z; decide
    · rw [if_pos (show nI n < 6 from nI_lt (b := 6) (by omega) (by decide))]
  intro j
  induction j with
  | zero =>
    intro i a hi
    rw [eX3_priceOfLeft_5, jX0_rows E (by omega), Option.bind_some, g2, g3, if_pos (nI_le (by omega) (by omega))]
    rfl
  | succ j ih =>
    intro i a hi
    rw [eX3_priceOfLeft_5, jX0_rows E (by omega), Option.bind_some, g2, g3, if_neg (nI_ge (by omega) (by omega))]
    simp only [zg_R o e2, Option.bind_some, za_In p2 (show i < 6 by omega) (by decide), eX3_priceOfLeft_41, nI_1]
    rw [zit, zpol]
    split <;> exact ih (i + 1) _ (by omega)
theorem jX3_priceOfLeft {t : Nat} {c g : Nat → Int32} (D : zmen h C S P td) (E : zday h t c g) (hd : 1 < d) {n : Nat} (hn : n ≤ 6) (en : c 3 = nI n) (gone : Int32) : nzxI d nX3_priceOfLeft [.ref 31, .ref t, .int gone] h = some (zit (zpol P gone) 0 n 0, h) := by
  refine iX3_priceOfLeft (by omega) D.1.choose_spec.1 ?_
  rw [eX3_priceOfLeft_0]
  exact jX3_pol5 D E (by omega) hn en gone n 0 0 (by omega)
def zlnS (c g : Nat → Int32) (gone : Int32) (i : Nat) (s : Int32 × Int32) : Int32 × Int32 := if gone &&& (1 <<< (nI i &&& 31)) = 0 then (if s.2 < zget c g 3 (nI i) 5 then s else (nI i, zget c g 3 (nI i) 5)) else s
theorem jX3_ln9 {t : Nat} {c g : Nat → Int32} (E : zday h t c g) (hd : 1 < d) {n : Nat} (hn : n ≤ 6) (en : c 3 = nI n) (gone : Int32) : ∀ (j i : Nat) (a b : Int32) (u : Option Value), i + j = n → nzr d nX3_leastNeeding 9 [some (.ref 31), some (.ref t), some (.int gone), some (.int a), some (.int b), some (.int (nI i)), u] [] h = some (some (.int (zit (zlnS c g gone) i j (a, b)).1), h) := by
  have g2 : zrow c 3 = nI n := (zrow_n c (s := 3) (by decide)).trans en
  intro j
  induction j with
  | zero =>
    intro i a b u hi
    rw [eX3_leastNeeding_9, jX0_rows E (by omega), Option.bind_some, g2, if_pos (nI_le (by omega) (by omega))]
    rfl
  | succ j ih =>
    intro i a b u hi
    rw [eX3_leastNeeding_9, jX0_rows E (by omega), Option.bind_some, g2, if_neg (nI_ge (by omega) (by omega)), jX0_get E hd, Option.bind_some]
    simp only [eX3_leastNeeding_52, nI_1]
    rw [zit, zlnS]
    split
    · split <;> exact ih (i + 1) _ _ _ (by omega)
    · exact ih (i + 1) _ _ _ (by omega)
theorem jX3_leastNeeding {t : Nat} {c g : Nat → Int32} (D : zmen h C S P td) (E : zday h t c g) (hd : 2 < d) {n : Nat} (hn : n ≤ 6) (en : c 3 = nI n) (gone : Int32) : nzxI d nX3_leastNeeding [.ref 31, .ref t, .int gone] h = some ((zit (zlnS c g gone) 0 n (0, 1000000000)).1, h) := by
  refine iX3_leastNeeding (by omega) D.1.choose_spec.1 ?_
  rw [eX3_leastNeeding_0]
  exact jX3_ln9 E (by omega) hn en gone n 0 _ _ _ (by omega)
def zdro (c g P : Nat → Int32) (n : Nat) (coin : Int32) : Nat → Int32 → Int32
  | 0, gone => gone
  | j + 1, gone => if coin < zit (zpol P gone) 0 n 0 then zdro c g P n coin j (gone ||| (1 <<< ((zit (zlnS c g gone) 0 n (0, 1000000000)).1 &&& 31))) else gone
theorem jX3_dr5 {t : Nat} {c g : Nat → Int32} (D : zmen h C S P td) (E : zday h t c g) (hd : 2 < d) {n : Nat} (hn : n ≤ 6) (en : c 3 = nI n) (coin : Int32) : ∀ (j i : Nat) (gone : Int32), i + j = 6 → nzr d nX3_dropFor 5 [some (.ref 31), some (.ref t), some (.int coin), some (.int gone), some (.int (nI i))] [] h = some (some (.int (zdro c g P n coin j gone)), h) := by
  intro j
  induction j with
  | zero =>
    intro i gone hi
    rw [eX3_dropFor_5, if_pos (show 6 ≤ nI i from nI_le (a := 6) (by omega) (by omega))]
    rfl
  | succ j ih =>
    intro i gone hi
    rw [eX3_dropFor_5, if_neg (show ¬ 6 ≤ nI i from nI_ge (b := 6) (by omega) (by decide)), jX3_priceOfLeft D E (by omega) hn en, Option.bind_some, zdro]
    simp only [jX3_leastNeeding D E hd hn en, Option.bind_some, nI_1]
    split
    · exact ih (i + 1) _ (by omega)
    · rfl
theorem jX3_dropFor {t : Nat} {c g : Nat → Int32} (D : zmen h C S P td) (E : zday h t c g) (hd : 3 < d) {n : Nat} (hn : n ≤ 6) (en : c 3 = nI n) (coin : Int32) : nzxI d nX3_dropFor [.ref 31, .ref t, .int coin] h = some (zdro c g P n coin 6 0, h) := by
  refine iX3_dropFor (by omega) D.1.choose_spec.1 ?_
  rw [eX3_dropFor_0]
  exact jX3_dr5 D E (by omega) hn en coin 6 0 0 (by omega)
end NZM2
