/-! the reference: which houses a car has in a share; all cars weighed -/
theorem zbS_f (J : Nat → Int32) (B : Nat → Nat → Int32) (nf c k q : Nat) : ∀ (j i : Nat) (s s' : zbt), s.1 = s'.1 → s.2.1 = s'.2.1 → (zit (zbS J B nf c k q) i j s).1 = (zit (zbS J B nf c k q) i j s').1 ∧ (zit (zbS J B nf c k q) i j s).2.1 = (zit (zbS J B nf c k q) i j s').2.1 := by
  intro j
  induction j with
  | zero => intro i s s' e1 e2; exact ⟨e1, e2⟩
  | succ j ih =>
    intro i s s' e1 e2
    rw [zit, zit]
    refine ih (i + 1) _ _ ?_ ?_ <;> simp only [zbS, zbW, e1, e2] <;> split <;> first | exact e1 | exact e2 | rfl
theorem zbst_f (J : Nat → Int32) (B : Nat → Nat → Int32) (nf c k q : Nat) (f g : Nat → Int32) : (zbst J B nf c k q f).1 = (zbst J B nf c k q g).1 ∧ (zbst J B nf c k q f).2.1 = (zbst J B nf c k q g).2.1 := by
  rw [zbst, zbst]
  split
  · exact ⟨rfl, rfl⟩
  · exact zbS_f J B nf c k q _ 0 _ _ rfl rfl
def zho (m car : Nat) : Nat → Nat → Nat → Nat
  | 0, _, s => s
  | x + 1, left, s => zho m car x (left / m) (if left % m = car then s ||| 2 ^ x else s)
theorem zho_lt (m car : Nat) : ∀ (x left s : Nat), x ≤ 6 → s < 64 → zho m car x left s < 64
  | 0, _, _, _, hs => hs
  | x + 1, left, s, hx, hs => by
    rw [zho]
    refine zho_lt m car x _ _ (by omega) ?_
    split
    · exact (zbor s hs x (by omega)).2
    · exact hs
theorem z6ix : ∀ c, c < 3 → ∀ s, s < 64 → (nI c <<< (6 &&& 31)) + nI s = nI (64 * c + s) := by decide +kernel
theorem zm1 (x : Int32) : x + (-1) = x - 1 := (Int32.sub_eq_add_neg x 1).symm
section NZWF
variable {d t : Nat} {h : nzH} {F0 : Nat → Value} {W : Int64} {rd : Option Nat} {tp : Nat → Int32} {J : Nat → Int32} {B : Nat → Nat → Int32} {Wd : Nat → Int64}
theorem kX13_ho16 (E : zmd h t J B Wd) (ht : 94 ≤ t) {I : Nat → Int32} {A : Nat → Nat → Int32} {m car : Nat} (hm : m ≤ 3) (m0 : 0 < m) (em : J 6 = nI m) (hcar : car < 3) (x1 : Int32) : ∀ (x left s : Nat), x ≤ 6 → left < 1000 → s < 64 → nzr d nX13_housesOf 16 [some (.ref 73), some (.int x1), some (.int (nI car)), some (.int (nI s)), some (.int (nI left)), some (.int (nI x - 1))] [] (zmS h F0 I W (some t) rd tp A) = some (some (.int (nI (zho m car x left s))), zmS h F0 I W (some t) rd tp A) := by
  have e0 : ¬ nI m = 0 := nI_ne0 m0 (by omega)
  intro x
  induction x with
  | zero =>
    intro left s hx hl hs
    rw [eX13_housesOf_16, if_pos (show nI 0 - 1 < 0 by decide), zho]
  | succ x ih =>
    intro left s hx hl hs
    have hl' : left / m < 1000 := Nat.lt_of_le_of_lt (Nat.div_le_self _ _) hl
    have hb := zbor s hs x (by omega)
    rw [eX13_housesOf_16, nI_pred, if_neg (nI_pos (by omega)), zmS_T, Option.bind_some, zj E ht (by decide), Option.bind_some, em, if_neg e0, pk_rem (by omega) m0 (by omega), zho, hb.1]
    by_cases z : left % m = car
    · rw [if_pos (congrArg nI z), if_pos z, eX13_housesOf_42, zmS_T, Option.bind_some, zj E ht (by decide), Option.bind_some, em, if_neg e0, pk_div (by omega) m0 (by omega), zm1]
      exact ih _ _ (by omega) hl' hb.2
    · have := Nat.mod_lt left m0
      rw [if_neg (fun y => z ((nI_eq (by omega) (by omega)).mp y)), if_neg z, eX13_housesOf_42, zmS_T, Option.bind_some, zj E ht (by decide), Option.bind_some, em, if_neg e0, pk_div (by omega) m0 (by omega), zm1]
      exact ih _ _ (by omega) hl' hs
theorem kX13_housesOf (E : zmd h t J B Wd) (ht : 94 ≤ t) (hd : 0 < d) {I : Nat → Int32} {A : Nat → Nat → Int32} {m car nh all : Nat} (hm : m ≤ 3) (m0 : 0 < m) (em : J 6 = nI m) (hcar : car < 3) (hnh : nh ≤ 6) (en : J 5 = nI nh) (ha : all < 1000) : nzxI d nX13_housesOf [.ref 73, .int (nI all), .int (nI car)] (zmS h F0 I W (some t) rd tp A) = some (nI (zho m car nh all 0), zmS h F0 I W (some t) rd tp A) := by
  refine iX13_housesOf hd zmS_o ?_
  rw [eX13_housesOf_0, zmS_T, Option.bind_some, zj E ht (by decide), Option.bind_some, en]
  exact kX13_ho16 E ht hm m0 em hcar _ nh all 0 hnh ha (by decide)
theorem kX13_sh4 (E : zmd h t J B Wd) (ht : 94 ≤ t) {I : Nat → Int32} {A : Nat → Nat → Int32} {m nh : Nat} (em : J 6 = nI m) (hnh : nh ≤ 6) (en : J 5 = nI nh) : ∀ (j i a : Nat), i + j = nh → nzr d nX13_shares 4 [some (.ref 73), some (.int (nI a)), some (.int (nI i))] [] (zmS h F0 I W (some t) rd tp A) = some (some (.int (nI (a * m ^ j))), zmS h F0 I W (some t) rd tp A) := by
  intro j
  induction j with
  | zero =>
    intro i a hi
    rw [eX13_shares_4, zmS_T, Option.bind_some, zj E ht (by decide), Option.bind_some, en, if_pos (nI_le (by omega) (by omega)), Nat.pow_zero, Nat.mul_one]
  | succ j ih =>
    intro i a hi
    rw [eX13_shares_4, zmS_T, Option.bind_some, zj E ht (by decide), Option.bind_some, en, if_neg (nI_ge (by omega) (by omega)), Option.bind_some, zj E ht (by decide), Option.bind_some, em, pk_mul, nI_1, ih (i + 1) _ (by omega), Nat.mul_assoc, Nat.pow_succ, Nat.mul_comm m]
theorem kX13_shares (E : zmd h t J B Wd) (ht : 94 ≤ t) (hd : 0 < d) {I : Nat → Int32} {A : Nat → Nat → Int32} {m nh : Nat} (em : J 6 = nI m) (hnh : nh ≤ 6) (en : J 5 = nI nh) : nzxI d nX13_shares [.ref 73] (zmS h F0 I W (some t) rd tp A) = some (nI (m ^ nh), zmS h F0 I W (some t) rd tp A) := by
  refine iX13_shares hd zmS_o ?_
  rw [eX13_shares_0]
  have := kX13_sh4 (d := d - 1) (F0 := F0) (W := W) (rd := rd) (tp := tp) (I := I) (A := A) E ht em hnh en nh 0 1 (by omega)
  rw [Nat.one_mul] at this
  exact this
/-- what is weighed of a car and a set -/
def zwgB (J : Nat → Int32) (B : Nat → Nat → Int32) (nf : Nat) (K : Nat → Nat) (c s : Nat) : Int32 := (zbst J B nf c (K c) s (fun _ => 0)).1
def zwgL (J : Nat → Int32) (B : Nat → Nat → Int32) (nf : Nat) (K : Nat → Nat) (c s : Nat) : Int32 := if s = 0 then 0 else (zbst J B nf c (K c) s (fun _ => 0)).2.1
def zwc (J : Nat → Int32) (B : Nat → Nat → Int32) (nf : Nat) (K H : Nat → Nat) (nh : Nat) (A : Nat → Nat → Int32) (c s : Nat) : Prop := ∀ c' s', (c' < c ∧ s' < 2 ^ nh ∨ c' = c ∧ s' < s) → zpop s' ≤ H c' → A 29 (64 * c' + s') = zwgB J B nf K c' s' ∧ A 30 (64 * c' + s') = zwgL J B nf K c' s'
theorem kX13_wg15 (E : zmd h t J B Wd) (ht : 94 ≤ t) (hd : 3 < d) {nf nh m : Nat} {K H : Nat → Nat} (hnf : nf ≤ 3) (e7 : J 7 = nI nf) (hnh : nh ≤ 6) (en : J 5 = nI nh) (hm : m ≤ 3) (hK : ∀ c, c < m → K c < 3 ∧ B 26 c = nI (K c) ∧ B 28 c = nI (H c) ∧ H c ≤ 6) {c : Nat} (hc : c < m) (X : ∀ (I : Nat → Int32) (A : Nat → Nat → Int32) (s : Int32), zwc J B nf K H nh A (c + 1) 0 → ∀ (I0 : Nat → Int32) (A0 : Nat → Nat → Int32), (∀ a, a ≠ 20 → a ≠ 21 → a ≠ 24 → a ≠ 25 → I a = I0 a) → (∀ a, a ≠ 22 → a ≠ 23 → a ≠ 26 → a ≠ 29 → a ≠ 30 → A a = A0 a) → ∃ I' A', nzr d nX13_weighsCars 2 [some (.ref 73), some (.int (nI (c + 1))), some (.int s)] [] (zmS h F0 I W (some t) rd tp A) = some (none, zmS h F0 I' W (some t) rd tp A') ∧ (∀ a, a ≠ 20 → a ≠ 21 → a ≠ 24 → a ≠ 25 → I' a = I0 a) ∧ (∀ a, a ≠ 22 → a ≠ 23 → a ≠ 26 → a ≠ 29 → a ≠ 30 → A' a = A0 a) ∧ zwc J B nf K H nh A' m 0) : ∀ (j s : Nat) (I : Nat → Int32) (A : Nat → Nat → Int32), s + j = 2 ^ nh → zwc J B nf K H nh A c s → ∃ I' A', nzr d nX13_weighsCars 15 [some (.ref 73), some (.int (nI c)), some (.int (nI s))] [] (zmS h F0 I W (some t) rd tp A) = some (none, zmS h F0 I' W (some t) rd tp A') ∧ (∀ a, a ≠ 20 → a ≠ 21 → a ≠ 24 → a ≠ 25 → I' a = I a) ∧ (∀ a, a ≠ 22 → a ≠ 23 → a ≠ 26 → a ≠ 29 → a ≠ 30 → A' a = A a) ∧ zwc J B nf K H nh A' m 0 := by
  have h2 : (2 : Nat) ^ nh ≤ 64 := Nat.pow_le_pow_right (n := 2) (by decide) hnh
  obtain ⟨k1, k2, k3, k4⟩ := hK c hc
  have a28 : ∀ I A, nzaI (zmS h F0 I W (some t) rd tp A) (t + (28 - 10)) (nI c) = some (nI (H c)) := fun I A => (zda E ht (k := 28) (by decide) (by decide) (by decide) (by decide) (by decide) (show c < 3 by omega)).trans (congrArg some k3)
  intro j
  induction j with
  | zero =>
    intro s I A hs P
    obtain rfl : s = 2 ^ nh := by omega
    rw [eX13_weighsCars_15, zmS_T, Option.bind_some, zj E ht (by decide), Option.bind_some, en, zsh nh (by omega), if_pos (nI_le (Nat.le_refl _) (by omega)), nI_1]
    refine X I A _ (fun c' s' q => ?_) I A (fun _ _ _ _ _ => rfl) (fun _ _ _ _ _ _ => rfl)
    refine P c' s' ?_
    rcases q with q | q
    · by_cases z : c' = c
      · exact .inr ⟨z, q.2⟩
      · exact .inl ⟨by omega, q.2⟩
    · exact absurd q.2 (Nat.not_lt_zero _)
  | succ j ih =>
    intro s I A hs P
    have hs64 : s < 64 := by omega
    have hp6 := zpop_le s hs64
    rw [eX13_weighsCars_15, zmS_T, Option.bind_some, zj E ht (by decide), Option.bind_some, en, zsh nh (by omega), if_neg (nI_ge (by omega) (by omega)), jX13_bits (by omega) hs64, Option.bind_some, zmS_T, Option.bind_some, zdr E ht (k := 28) (by decide) (by decide), Option.bind_some, a28, Option.bind_some]
    by_cases z : zpop s ≤ H c
    · rw [if_pos (nI_le z (by omega))]
      obtain ⟨I1, A1, p1, p2, p3, p4⟩ := kX13_bests (F0 := F0) (W := W) (rd := rd) (tp := tp) E ht hd hnf e7 (show c < 3 by omega) k1 k2 hs64 I A
      have b1 : I1 24 = zwgB J B nf K c s := (congrArg (fun z : zbt => z.1) p4).trans (zbst_f _ _ _ _ _ _ _ _).1
      have b2 : I1 25 = (zbst J B nf c (K c) s (fun _ => 0)).2.1 := (congrArg (fun z : zbt => z.2.1) p4).trans (zbst_f _ _ _ _ _ _ _ _).2
      have fin := ih (s + 1) I1 (va_up (va_up A1 29 (upd (A1 29) (64 * c + s) (zwgB J B nf K c s))) 30 (upd (A1 30) (64 * c + s) (zwgL J B nf K c s))) (by omega) (fun c' s' q hq => by
        rw [va_up_ne _ _ (show 29 ≠ 30 by decide), va_up_self, va_up_self]
        by_cases y : c' = c ∧ s' = s
        · rw [y.1, y.2, upd_eq, upd_eq]
          exact ⟨rfl, rfl⟩
        · have hs' : s' < 64 := by omega
          rw [upd_ne (by omega), upd_ne (by omega), p3 29 (by decide) (by decide) (by decide), p3 30 (by decide) (by decide) (by decide)]
          exact P c' s' (by omega) hq)
      have g : nzr d nX13_weighsCars 15 [some (.ref 73), some (.int (nI c)), some (.int (nI (s + 1)))] [] (zmS h F0 I1 W (some t) rd tp (va_up (va_up A1 29 (upd (A1 29) (64 * c + s) (zwgB J B nf K c s))) 30 (upd (A1 30) (64 * c + s) (zwgL J B nf K c s)))) = ((nzxV d nX13_bests [.ref 73, .int (nI c), .int (nI s)] (zmS h F0 I W (some t) rd tp A)).bind fun h7 => (nzgR h7 73 13 29).bind fun v8 => (nzgI h7 73 13 24).bind fun v9 => (nzsI h7 v8 ((nI c <<< (6 &&& 31)) + nI s) v9).bind fun h10 => (nzgR h10 73 13 30).bind fun v11 => if nI s = 0 then (nzr d nX13_weighsCars 90 [some (.ref 73), some (.int (nI c)), some (.int (nI s))] [.int 0, .int ((nI c <<< (6 &&& 31)) + nI s), .ref v11] h10) else ((nzgI h10 73 13 25).bind fun v12 => nzr d nX13_weighsCars 90 [some (.ref 73), some (.int (nI c)), some (.int (nI s))] [.int v12, .int ((nI c <<< (6 &&& 31)) + nI s), .ref v11] h10)) := by
        rw [p1, Option.bind_some, zR_29, Option.bind_some, zI_24, Option.bind_some, z6ix c (by omega) s hs64, zW_29 (show 64 * c + s < 192 by omega), Option.bind_some, zR_30, Option.bind_some, b1]
        by_cases y : s = 0
        · rw [if_pos (show nI s = 0 by rw [y]; rfl), eX13_weighsCars_90, zW_30 (show 64 * c + s < 192 by omega), Option.bind_some, eX13_weighsCars_91, nI_1, va_up_ne _ _ (show 30 ≠ 29 by decide), zwgL, if_pos y]
        · rw [if_neg (nI_ne0 (by omega) (by omega)), zI_25, Option.bind_some, eX13_weighsCars_90, zW_30 (show 64 * c + s < 192 by omega), Option.bind_some, eX13_weighsCars_91, nI_1, va_up_ne _ _ (show 30 ≠ 29 by decide), zwgL, if_neg y, b2]
      rw [g] at fin
      obtain ⟨I', A', f1, f2, f3, f4⟩ := fin
      exact ⟨I', A', f1, fun a a1 a2 a3 a4 => (f2 a a1 a2 a3 a4).trans (p2 a a1 a2 a3 a4), fun a a1 a2 a3 a4 a5 => (f3 a a1 a2 a3 a4 a5).trans (by rw [va_up_ne _ _ a5, va_up_ne _ _ a4]; exact p3 a a1 a2 a3), f4⟩
    · rw [if_neg (nI_ge (by omega) (by omega)), eX13_weighsCars_91, nI_1]
      refine ih (s + 1) I A (by omega) (fun c' s' q hq => ?_)
      by_cases y : c' = c ∧ s' = s
      · exact absurd (by rw [← y.2, ← y.1]; exact hq) z
      · exact P c' s' (by omega) hq
theorem kX13_wg2 (E : zmd h t J B Wd) (ht : 94 ≤ t) (hd : 3 < d) {nf nh m : Nat} {K H : Nat → Nat} (hnf : nf ≤ 3) (e7 : J 7 = nI nf) (hnh : nh ≤ 6) (en : J 5 = nI nh) (hm : m ≤ 3) (em : J 6 = nI m) (hK : ∀ c, c < m → K c < 3 ∧ B 26 c = nI (K c) ∧ B 28 c = nI (H c) ∧ H c ≤ 6) : ∀ (j c : Nat) (I : Nat → Int32) (A : Nat → Nat → Int32) (u : Option Value), c + j = m → zwc J B nf K H nh A c 0 → ∃ I' A', nzr d nX13_weighsCars 2 [some (.ref 73), some (.int (nI c)), u] [] (zmS h F0 I W (some t) rd tp A) = some (none, zmS h F0 I' W (some t) rd tp A') ∧ (∀ a, a ≠ 20 → a ≠ 21 → a ≠ 24 → a ≠ 25 → I' a = I a) ∧ (∀ a, a ≠ 22 → a ≠ 23 → a ≠ 26 → a ≠ 29 → a ≠ 30 → A' a = A a) ∧ zwc J B nf K H nh A' m 0 := by
  intro j
  induction j with
  | zero =>
    intro c I A u hc P
    obtain rfl : c = m := by omega
    exact ⟨I, A, by rw [eX13_weighsCars_2, zmS_T, Option.bind_some, zj E ht (by decide), Option.bind_some, em, if_pos (nI_le (Nat.le_refl _) (by omega))], fun _ _ _ _ _ => rfl, fun _ _ _ _ _ _ => rfl, P⟩
  | succ j ih =>
    intro c I A u hc P
    rw [eX13_weighsCars_2, zmS_T, Option.bind_some, zj E ht (by decide), Option.bind_some, em, if_neg (nI_ge (by omega) (by omega)), show (0 : Int32) = nI 0 from rfl]
    refine kX13_wg15 E ht hd hnf e7 hnh en hm hK (show c < m by omega) (fun I A s P I0 A0 e1 e2 => ?_) (2 ^ nh) 0 I A (by omega) P
    obtain ⟨I', A', f1, f2, f3, f4⟩ := ih (c + 1) I A (some (.int s)) (by omega) P
    exact ⟨I', A', f1, fun a a1 a2 a3 a4 => (f2 a a1 a2 a3 a4).trans (e1 a a1 a2 a3 a4), fun a a1 a2 a3 a4 a5 => (f3 a a1 a2 a3 a4 a5).trans (e2 a a1 a2 a3 a4 a5), f4⟩
theorem kX13_weighsCars (E : zmd h t J B Wd) (ht : 94 ≤ t) (hd : 4 < d) {nf nh m : Nat} {K H : Nat → Nat} (hnf : nf ≤ 3) (e7 : J 7 = nI nf) (hnh : nh ≤ 6) (en : J 5 = nI nh) (hm : m ≤ 3) (em : J 6 = nI m) (hK : ∀ c, c < m → K c < 3 ∧ B 26 c = nI (K c) ∧ B 28 c = nI (H c) ∧ H c ≤ 6) (I : Nat → Int32) (A : Nat → Nat → Int32) : ∃ I' A', nzxV d nX13_weighsCars [.ref 73] (zmS h F0 I W (some t) rd tp A) = some (zmS h F0 I' W (some t) rd tp A') ∧ (∀ a, a ≠ 20 → a ≠ 21 → a ≠ 24 → a ≠ 25 → I' a = I a) ∧ (∀ a, a ≠ 22 → a ≠ 23 → a ≠ 26 → a ≠ 29 → a ≠ 30 → A' a = A a) ∧ zwc J B nf K H nh A' m 0 := by
  obtain ⟨I', A', f1, f2⟩ := kX13_wg2 (F0 := F0) (W := W) (rd := rd) (tp := tp) (d := d - 1) E ht (by omega) hnf e7 hnh en hm em hK m 0 I A none (by omega) (fun c' s' q => by omega)
  refine ⟨I', A', iX13_weighsCars (by omega) zmS_o ?_, f2⟩
  rw [eX13_weighsCars_0]
  exact f1
end NZWF
