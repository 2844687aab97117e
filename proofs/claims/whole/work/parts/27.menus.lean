/-! Probes (66 .. 69); Menus (31 .. 49) -/
def zpro (h : nzH) (n : Nat) (C M T : Nat → Int32) : Prop := (∃ F, zobj h 66 5 F ∧ F 0 = .ref 67 ∧ F 1 = .ref 68 ∧ F 2 = .ref 69 ∧ F 3 = .int (nI n)) ∧ n ≤ 16 ∧ zarr h 67 16 C ∧ zarr h 68 16 M ∧ zarr h 69 16 T
theorem zpro_sm {h h1 : nzH} {n : Nat} {C M T : Nat → Int32} (D : zpro h n C M T) (s : zsm 66 70 h h1) : zpro h1 n C M T := by
  obtain ⟨⟨F, o, e⟩, hn, h1', h2, h3⟩ := D
  exact ⟨⟨F, (s 66 (by omega) (by omega)).trans o, e⟩, hn, (s 67 (by omega) (by omega)).trans h1', (s 68 (by omega) (by omega)).trans h2, (s 69 (by omega) (by omega)).trans h3⟩
section NZP
variable {d : Nat} {h : nzH} {n : Nat} {C M T : Nat → Int32}
theorem jX5_clear (D : zpro h n C M T) (hd : 0 < d) : ∃ h1, nzxV d nX5_clear [.ref 66] h = some h1 ∧ zpro h1 0 C M T ∧ zfr 66 70 h h1 := by
  obtain ⟨⟨F, o, e0, e1, e2, e3⟩, hn, p1, p2, p3⟩ := D
  refine ⟨nzset h 66 (.inr (5, va_up F 3 (.int 0))), iX5_clear hd o ?_, ⟨⟨_, zc_setS _ _ _, by simp [va_up, e0], by simp [va_up, e1], by simp [va_up, e2], by simp [va_up, nI_0]⟩, by decide, (zc_setN (by decide)).trans p1, (zc_setN (by decide)).trans p2, (zc_setN (by decide)).trans p3⟩, zfr_set _ _ (by decide) (by decide)⟩
  rw [eX5_clear_0, zp_of o, Option.bind_some]
theorem jX5_append (D : zpro h n C M T) (hd : 0 < d) (x y z : Int32) (hn : n < 16) : ∃ h1, nzxI d nX5_append [.ref 66, .int x, .int y, .int z] h = some (nI (n + 1), h1) ∧ zpro h1 (n + 1) (upd C n x) (upd M n y) (upd T n z) ∧ zfr 66 70 h h1 := by
  obtain ⟨⟨F, o, e0, e1, e2, e3⟩, -, p1, p2, p3⟩ := D
  have o1 : zobj (nzset h 67 (.inl (.int, 16, .inl (upd C n x)))) 66 5 F := (zc_setN (by decide)).trans o
  have o2 : zobj (nzset (nzset h 67 (.inl (.int, 16, .inl (upd C n x)))) 68 (.inl (.int, 16, .inl (upd M n y)))) 66 5 F := (zc_setN (by decide)).trans o1
  have o3 : zobj (nzset (nzset (nzset h 67 (.inl (.int, 16, .inl (upd C n x)))) 68 (.inl (.int, 16, .inl (upd M n y)))) 69 (.inl (.int, 16, .inl (upd T n z)))) 66 5 F := (zc_setN (by decide)).trans o2
  refine ⟨nzset (nzset (nzset (nzset h 67 (.inl (.int, 16, .inl (upd C n x)))) 68 (.inl (.int, 16, .inl (upd M n y)))) 69 (.inl (.int, 16, .inl (upd T n z)))) 66 (.inr (5, va_up F 3 (.int (nI (n + 1))))), iX5_append hd o ?_, ⟨⟨_, zc_setS _ _ _, by simp [va_up, e0], by simp [va_up, e1], by simp [va_up, e2], by simp [va_up]⟩, hn, ?_, ?_, ?_⟩, ?_⟩
  · rw [eX5_append_0, zg_I o e3, Option.bind_some, if_neg (show ¬ 16 ≤ nI n from nI_ge (b := 16) hn (by decide)), zg_R o e0, Option.bind_some, Option.bind_some, zs_In p1 hn (by decide), Option.bind_some, zg_R o1 e1, Option.bind_some, zg_I o1 e3, Option.bind_some, zs_In (f := M) ((zc_setN (by decide)).trans p2) hn (by decide), Option.bind_some, zg_R o2 e2, Option.bind_some, zg_I o2 e3, Option.bind_some, zs_In (f := T) ((zc_setN (by decide)).trans ((zc_setN (by decide)).trans p3)) hn (by decide), Option.bind_some, zg_I o3 e3, Option.bind_some, zp_of o3, Option.bind_some, nI_1, eX5_append_49, zg_I (F := va_up F 3 (.int (nI (n + 1)))) (v := nI (n + 1)) (zc_setS _ _ _) (by simp [va_up])]
    rfl
  · exact (zc_setN (by decide)).trans ((zc_setN (by decide)).trans ((zc_setN (by decide)).trans (zc_setS _ _ _)))
  · exact (zc_setN (by decide)).trans ((zc_setN (by decide)).trans (zc_setS _ _ _))
  · exact (zc_setN (by decide)).trans (zc_setS _ _ _)
  · exact zfr_tr (zfr_tr (zfr_tr (zfr_set _ _ (by decide) (by decide)) (zfr_set _ _ (by decide) (by decide))) (zfr_set _ _ (by decide) (by decide))) (zfr_set _ _ (by decide) (by decide))
def zabs (x : Int32) : Int32 := if 0 ≤ x then x else 0 - x
def zoff (c g : Nat → Int32) (C M T : Nat → Int32) (al : Int32) (i : Nat) (a : Int32) : Int32 := a ||| (if zabs (T i - zheat c g (C i) (M i)) ≤ al then (0 : Int32) else 1 <<< (nI i &&& 31))
theorem jX5_off5 {t : Nat} {c g : Nat → Int32} (D : zpro h n C M T) (E : zday h t c g) (hd : 2 < d) (al : Int32) : ∀ (j i : Nat) (a : Int32) (u : Option Value), i + j = n → nzr d nX5_offByMore 5 [some (.ref 66), some (.ref t), some (.int al), some (.int a), some (.int (nI i)), u] [] h = some (some (.int (zit (zoff c g C M T al) i j a)), h) := by
  obtain ⟨⟨F, o, e0, e1, e2, e3⟩, hn, p1, p2, p3⟩ := D
  intro j
  induction j with
  | zero =>
    intro i a u hi
    rw [eX5_offByMore_5, zg_I o e3, Option.bind_some, if_pos (nI_le (by omega) (by omega))]
    rfl
  | succ j ih =>
    intro i a u hi
    rw [eX5_offByMore_5, zg_I o e3, Option.bind_some, if_neg (nI_ge (by omega) (by omega)), zg_R o e2, Option.bind_some, za_In p3 (show i < 16 by omega) (by decide), Option.bind_some, zg_R o e0, Option.bind_some, za_In p1 (show i < 16 by omega) (by decide), Option.bind_some, zg_R o e1, Option.bind_some, za_In p2 (show i < 16 by omega) (by decide), Option.bind_some, jX0_boxHeat E hd, Option.bind_some]
    simp only [eX5_offByMore_60, nI_1]
    rw [zit, zoff]
    by_cases z : zabs (T i - zheat c g (C i) (M i)) ≤ al
    · rw [if_pos z]
      rw [zabs] at z
      rw [if_pos z]
      exact ih (i + 1) _ _ (by omega)
    · rw [if_neg z]
      rw [zabs] at z
      rw [if_neg z]
      exact ih (i + 1) _ _ (by omega)
theorem jX5_offByMore {t : Nat} {c g : Nat → Int32} (D : zpro h n C M T) (E : zday h t c g) (hd : 3 < d) (al : Int32) : nzxI d nX5_offByMore [.ref 66, .ref t, .int al] h = some (zit (zoff c g C M T al) 0 n 0, h) := by
  refine iX5_offByMore (by omega) D.1.choose_spec.1 ?_
  rw [eX5_offByMore_0]
  exact jX5_off5 D E (by omega) al n 0 0 none (by omega)
def zear (M T : Nat → Int32) (hot : Int32) (i : Nat) (s : Int32 × Int32) : Int32 × Int32 := if hot ≤ T i then s else if s.2 ≤ M i then s else (nI i, M i)
theorem jX5_ear9 (D : zpro h n C M T) (hot : Int32) : ∀ (j i : Nat) (a b : Int32), i + j = n → nzr d nX5_earliestBelow 9 [some (.ref 66), some (.int hot), some (.int a), some (.int b), some (.int (nI i))] [] h = some (some (.int (zit (zear M T hot) i j (a, b)).1), h) := by
  obtain ⟨⟨F, o, e0, e1, e2, e3⟩, hn, p1, p2, p3⟩ := D
  intro j
  induction j with
  | zero =>
    intro i a b hi
    rw [eX5_earliestBelow_9, zg_I o e3, Option.bind_some, if_pos (nI_le (by omega) (by omega))]
    rfl
  | succ j ih =>
    intro i a b hi
    rw [eX5_earliestBelow_9, zg_I o e3, Option.bind_some, if_neg (nI_ge (by omega) (by omega)), zg_R o e2, Option.bind_some, za_In p3 (show i < 16 by omega) (by decide), Option.bind_some]
    simp only [zg_R o e1, Option.bind_some, za_In p2 (show i < 16 by omega) (by decide), eX5_earliestBelow_51, nI_1]
    rw [zit, zear]
    split
    · exact ih (i + 1) _ _ (by omega)
    · split <;> exact ih (i + 1) _ _ (by omega)
theorem jX5_earliestBelow (D : zpro h n C M T) (hd : 0 < d) (hot : Int32) : nzxI d nX5_earliestBelow [.ref 66, .int hot] h = some ((zit (zear M T hot) 0 n (-2, 1000000000)).1, h) := by
  refine iX5_earliestBelow (by omega) D.1.choose_spec.1 ?_
  rw [eX5_earliestBelow_0]
  exact jX5_ear9 D hot n 0 _ _ (by omega)
end NZP
/-- Menus: C coins by days and first dish, S dishes told, P prices, td days told -/
def zmen (h : nzH) (C : Nat → Nat → Int32) (S P : Nat → Int32) (td : Int32) : Prop := (∃ F, zobj h 31 3 F ∧ F 0 = .ref 32 ∧ F 1 = .ref 48 ∧ F 2 = .ref 49 ∧ F 3 = .int td) ∧ (∃ f, zgrd h 32 15 f ∧ ∀ i, i < 15 → f i = some (33 + i)) ∧ (∀ i, i < 15 → zarr h (33 + i) 6 (C i)) ∧ zarr h 48 14 S ∧ zarr h 49 6 P
theorem zmen_sm {h h1 : nzH} {C : Nat → Nat → Int32} {S P : Nat → Int32} {td : Int32} (D : zmen h C S P td) (s : zsm 31 50 h h1) : zmen h1 C S P td := by
  obtain ⟨⟨F, o, e⟩, ⟨f, hf, ef⟩, hr, q1, q2⟩ := D
  exact ⟨⟨F, (s 31 (by omega) (by omega)).trans o, e⟩, ⟨f, (s 32 (by omega) (by omega)).trans hf, ef⟩, fun i hi => (s (33 + i) (by omega) (by omega)).trans (hr i hi), (s 48 (by omega) (by omega)).trans q1, (s 49 (by omega) (by omega)).trans q2⟩
section NZM
variable {d : Nat} {h : nzH} {C : Nat → Nat → Int32} {S P : Nat → Int32} {td : Int32}
theorem zmen_row (D : zmen h C S P td) {j : Nat} (hj : j < 15) : nzgR h 31 3 0 = some 32 ∧ nzaR h 32 (nI j) = some (33 + j) := by
  obtain ⟨⟨F, o, e0, e1⟩, ⟨f, hf, ef⟩, -⟩ := D
  exact ⟨zg_R o e0, za_Rn hf hj (by decide) (ef j hj)⟩
theorem zmen_set (D : zmen h C S P td) {i : Nat} (hi : i < 15) (w : Nat → Int32) : zmen (nzset h (33 + i) (.inl (.int, 6, .inl w))) (va_up C i w) S P td := by
  obtain ⟨⟨F, o, e⟩, ⟨f, hf, ef⟩, hr, q1, q2⟩ := D
  refine ⟨⟨F, (zc_setN (by omega)).trans o, e⟩, ⟨f, (zc_setN (by omega)).trans hf, ef⟩, fun k hk => ?_, (zc_setN (by omega)).trans q1, (zc_setN (by omega)).trans q2⟩
  by_cases z : k = i
  · subst z
    rw [va_up_self]
    exact zc_setS _ _ _
  · rw [va_up_ne _ _ z]
    exact (zc_setN (by omega)).trans (hr k hk)
def zlbS (row : Nat → Int32) (bar : Int32) (i : Nat) (a : Int32) : Int32 := if nI i = bar then a else if row i < a then row i else a
def zlb (row : Nat → Int32) (bar : Int32) : Int32 := zit (zlbS row bar) 0 6 1000000000
theorem zlb_congr {r r' : Nat → Int32} (e : ∀ i, i < 6 → r i = r' i) (bar : Int32) : zlb r bar = zlb r' bar := zit_congr 6 0 _ (fun i _ hi b => by rw [zlbS, zlbS, e i (by omega)])
theorem jX3_lb6 (D : zmen h C S P td) {q : Nat} (hq : q < 15) (bar : Int32) : ∀ (j i : Nat) (a : Int32), i + j = 6 → nzr d nX3_leastBut 6 [some (.ref 31), some (.int (nI q)), some (.int bar), some (.int a), some (.int (nI i))] [] h = some (some (.int (zit (zlbS (C q) bar) i j a)), h) := by
  have rw1 := zmen_row D hq
  have hr := D.2.2.1 q hq
  intro j
  induction j with
  | zero =>
    intro i a hi
    rw [eX3_leastBut_6, if_pos (show 6 ≤ nI i from nI_le (a := 6) (by omega) (by omega))]
    rfl
  | succ j ih =>
    intro i a hi
    rw [eX3_leastBut_6, if_neg (show ¬ 6 ≤ nI i from nI_ge (b := 6) (by omega) (by decide)), zit, zlbS]
    simp only [rw1.1, rw1.2, Option.bind_some, za_In hr (show i < 6 by omega) (by decide), eX3_leastBut_33, nI_1]
    split <;> exact ih (i + 1) _ (by omega)
theorem jX3_leastBut (D : zmen h C S P td) (hd : 0 < d) {q : Nat} (hq : q < 15) (bar : Int32) : nzxI d nX3_leastBut [.ref 31, .int (nI q), .int bar] h = some (zlb (C q) bar, h) := by
  refine iX3_leastBut (by omega) D.1.choose_spec.1 ?_
  rw [eX3_leastBut_0]
  exact jX3_lb6 D hq bar 6 0 _ (by omega)
/-- the least coin of a menu of so many days that begins with a dish, from the row of one day less -/
def zcoin (c g : Nat → Int32) (diet : Int32) (prev : Nat → Int32) (q : Nat) (dish : Nat) : Int32 := if zrow c 1 ≤ nI dish then 1000000000 else if zbar c g diet (nI dish) = 0 then (if (if q = 1 then 0 else zlb prev (nI dish)) = 1000000000 then 1000000000 else (if q = 1 then 0 else zlb prev (nI dish)) + zget c g 1 (nI dish) 1) else 1000000000
theorem jX3_coinFrom {t : Nat} {c g : Nat → Int32} (D : zmen h C S P td) (E : zday h t c g) (hd : 3 < d) (diet : Int32) {q r : Nat} (h1 : 1 ≤ q) (hq : q < 15) (hr : r < 6) : nzxI d nX3_coinFrom [.ref 31, .ref t, .int diet, .int (nI q), .int (nI r)] h = some (zcoin c g diet (C (q - 1)) q r, h) := by
  refine iX3_coinFrom (by omega) D.1.choose_spec.1 ?_
  have e1 : nI q = 1 ↔ q = 1 := nI_eq (b := 1) (by omega) (by decide)
  have e2 : nI q - 1 = nI (q - 1) := pk_sub (b := 1) h1
  rw [eX3_coinFrom_0, jX0_has E (by omega), Option.bind_some, if_neg (nI_pos (show r < 2 ^ 31 by omega)), zcoin]
  simp only [eX3_coinFrom_20, eX3_coinFrom_41, jX0_barredLetters E (show 2 < d - 1 by omega), Option.bind_some, e1, e2, jX3_leastBut D (show 0 < d - 1 by omega) (show q - 1 < 15 by omega), jX0_get E (show 1 < d - 1 by omega)]
  by_cases z1 : zrow c 1 ≤ nI r
  · simp only [if_pos z1, if_true]
  · simp only [if_neg z1, show ¬ (1 : Int32) = 0 by decide, if_false]
    by_cases z2 : zbar c g diet (nI r) = 0
    · simp only [if_pos z2]
      by_cases z3 : q = 1
      · simp only [if_pos z3]
        split <;> rfl
      · simp only [if_neg z3]
        split <;> rfl
    · simp only [if_neg z2]
/-- the rows of coins -/
def zmrow (c g : Nat → Int32) (diet : Int32) : Nat → Nat → Int32
  | 0 => fun _ => 0
  | q + 1 => fun dish => zcoin c g diet (zmrow c g diet q) (q + 1) dish
theorem zcoin_congr {c g : Nat → Int32} {diet : Int32} {r r' : Nat → Int32} {q : Nat} (e : q ≠ 1 → ∀ i, i < 6 → r i = r' i) (dish : Nat) : zcoin c g diet r q dish = zcoin c g diet r' q dish := by
  by_cases z : q = 1
  · simp only [zcoin, if_pos z]
  · simp only [zcoin, if_neg z, zlb_congr (e z)]
theorem jX3_ch21 {t : Nat} {c g : Nat → Int32} (ht : t + 3 ≤ 31 ∨ 50 ≤ t) (hd : 3 < d) (diet days last : Int32) {q : Nat} (h1 : 1 ≤ q) (hq : q < 15) : ∀ (j i : Nat) (h : nzH) (C : Nat → Nat → Int32), zmen h C S P td → zday h t c g → i + j = 6 → (q ≠ 1 → ∀ k, k < 6 → C (q - 1) k = zmrow c g diet (q - 1) k) → ∃ h1 w, nzr d nX3_cheapest 21 [some (.ref 31), some (.ref t), some (.int diet), some (.int days), some (.int last), some (.int (nI q)), some (.int (nI i))] [] h = nzr d nX3_cheapest 11 [some (.ref 31), some (.ref t), some (.int diet), some (.int days), some (.int last), some (.int (nI (q + 1))), some (.int (nI 6))] [] h1 ∧ zmen h1 (va_up C q w) S P td ∧ zday h1 t c g ∧ zfr 31 50 h h1 ∧ (∀ k, k < i → w k = C q k) ∧ ∀ k, i ≤ k → k < 6 → w k = zmrow c g diet q k := by
  intro j
  induction j with
  | zero =>
    intro i h C D E hi hp
    refine ⟨h, C q, ?_, ?_, E, zfr_rfl _ _ _, fun _ _ => rfl, fun k h1 h2 => by omega⟩
    · rw [eX3_cheapest_21, if_pos (show 6 ≤ nI i from nI_le (a := 6) (by omega) (by omega)), nI_1, show i = 6 by omega]
    · have : va_up C q (C q) = C := by
        funext k
        by_cases z : k = q
        · rw [z, va_up_self]
        · rw [va_up_ne _ _ z]
      rw [this]
      exact D
  | succ j ih =>
    intro i h C D E hi hp
    have rw1 := zmen_row D hq
    have hrow := D.2.2.1 q hq
    have D2 := zmen_set D hq (upd (C q) i (zcoin c g diet (C (q - 1)) q i))
    have fr : zfr 31 50 h (nzset h (33 + q) (.inl (.int, 6, .inl (upd (C q) i (zcoin c g diet (C (q - 1)) q i))))) := zfr_set _ _ (by omega) (by omega)
    have E2 := zday_sm E (zfr_sm fr (lo' := t) (hi' := t + 3) (by omega))
    obtain ⟨h2, w, q1, q2, q3, q4, q5, q6⟩ := ih (i + 1) _ _ D2 E2 (by omega) (fun z k hk => by rw [va_up_ne _ _ (by omega)]; exact hp z k hk)
    refine ⟨h2, w, ?_, ?_, q3, zfr_tr fr q4, fun k hk => ?_, fun k hk1 hk2 => ?_⟩
    · rw [eX3_cheapest_21, if_neg (show ¬ 6 ≤ nI i from nI_ge (b := 6) (by omega) (by decide)), rw1.1, Option.bind_some, rw1.2, Option.bind_some, jX3_coinFrom D E hd diet h1 hq (by omega), Option.bind_some, zs_In hrow (by omega) (by decide), Option.bind_some, nI_1]
      exact q1
    · have : va_up (va_up C q (upd (C q) i (zcoin c g diet (C (q - 1)) q i))) q w = va_up C q w := by
        funext k
        by_cases z : k = q
        · rw [z, va_up_self, va_up_self]
        · rw [va_up_ne _ _ z, va_up_ne _ _ z, va_up_ne _ _ z]
      rw [this] at q2
      exact q2
    · rw [q5 k (by omega), va_up_self, upd, if_neg (by omega)]
    · by_cases z : k = i
      · subst z
        rw [q5 k (by omega), va_up_self, upd, if_pos rfl]
        obtain ⟨q', rfl⟩ : ∃ q', q = q' + 1 := ⟨q - 1, by omega⟩
        exact zcoin_congr (fun z k hk => hp z k hk) k
      · exact q6 k (by omega) hk2
theorem jX3_ch11 {t : Nat} {c g : Nat → Int32} (ht : t + 3 ≤ 31 ∨ 50 ≤ t) (hd : 3 < d) (diet days : Int32) {m : Nat} (hm1 : 1 ≤ m) (hm : m ≤ 14) : ∀ (j q : Nat) (h : nzH) (C : Nat → Nat → Int32) (u : Option Value), 1 ≤ q → q + j = m + 1 → zmen h C S P td → zday h t c g → (∀ i, 1 ≤ i → i < q → ∀ k, k < 6 → C i k = zmrow c g diet i k) → ∃ h1 C', nzr d nX3_cheapest 11 [some (.ref 31), some (.ref t), some (.int diet), some (.int days), some (.int (nI m)), some (.int (nI q)), u] [] h = some (some (.int (zlb (zmrow c g diet m) (-1))), h1) ∧ zmen h1 C' S P td ∧ zday h1 t c g ∧ zfr 31 50 h h1 ∧ ∀ i, 1 ≤ i → i ≤ m → ∀ k, k < 6 → C' i k = zmrow c g diet i k := by
  intro j
  induction j with
  | zero =>
    intro q h C u h1 hq D E hp
    refine ⟨h, C, ?_, D, E, zfr_rfl _ _ _, fun i hi1 hi2 => hp i hi1 (by omega)⟩
    rw [eX3_cheapest_11, if_pos (nI_lt (by omega) (by omega)), if_pos (show 1 ≤ nI m from nI_le (a := 1) hm1 (by omega)), jX3_leastBut D (by omega) (show m < 15 by omega), Option.bind_some, zlb_congr (hp m hm1 (by omega))]
  | succ j ih =>
    intro q h C u h1 hq D E hp
    obtain ⟨h2, w, q1, q2, q3, q4, q5, q6⟩ := jX3_ch21 (d := d) ht hd diet days (nI m) h1 (show q < 15 by omega) 6 0 h C D E (by omega) (fun z k hk => hp (q - 1) (by omega) (by omega) k hk)
    obtain ⟨h3, C', r1, r2, r3, r4, r5⟩ := ih (q + 1) h2 _ (some (.int (nI 6))) (by omega) (by omega) q2 q3 (fun i hi1 hi2 k hk => by
      by_cases z : i = q
      · subst z
        rw [va_up_self]
        exact q6 k (by omega) hk
      · rw [va_up_ne _ _ z]
        exact hp i hi1 (by omega) k hk)
    refine ⟨h3, C', ?_, r2, r3, zfr_tr q4 r4, r5⟩
    rw [eX3_cheapest_11, if_neg (nI_nlt (by omega) (by omega))]
    exact q1.trans r1
theorem jX3_cheapest {t : Nat} {c g : Nat → Int32} (ht : t + 3 ≤ 31 ∨ 50 ≤ t) (hd : 4 < d) (diet : Int32) {m : Nat} (hm1 : 1 ≤ m) (hm : m ≤ 14) (D : zmen h C S P td) (E : zday h t c g) : ∃ h1 C', nzxI d nX3_cheapest [.ref 31, .ref t, .int diet, .int (nI m)] h = some (zlb (zmrow c g diet m) (-1), h1) ∧ zmen h1 C' S P td ∧ zday h1 t c g ∧ zfr 31 50 h h1 ∧ ∀ i, 1 ≤ i → i ≤ m → ∀ k, k < 6 → C' i k = zmrow c g diet i k := by
  obtain ⟨h1, C', q1, q2⟩ := jX3_ch11 (d := d - 1) ht (by omega) diet (nI m) hm1 hm m 1 h C none (by omega) (by omega) D E (fun i a b => by omega)
  refine ⟨h1, C', iX3_cheapest (by omega) D.1.choose_spec.1 ?_, q2⟩
  rw [eX3_cheapest_0, if_neg (show ¬ 14 < nI m from nI_nlt (a := 14) (b := m) (by omega) (by omega))]
  exact q1
end NZM
