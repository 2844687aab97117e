/-! Rounds written; a round followed -/
section NZW
variable {d : Nat} {h : nzH} {N : Nat → Nat} {R : Nat → Nat → Nat} {tea : Int32}
theorem zrou_setc {f : Nat → Int32} (D : zrou h N R tea) (f : Nat → Int32) {M : Nat → Nat} (e : ∀ i, i < 3 → f i = nI (M i) ∧ M i ≤ N i) : zrou (nzset h 15 (.inl (.int, 3, .inl f))) M R tea := by
  obtain ⟨⟨F, o, eF⟩, ⟨q, hq, eq⟩, ⟨n, hn, en⟩, hr, A, hA⟩ := D
  refine ⟨⟨F, (zc_setN (by decide)).trans o, eF⟩, ⟨q, (zc_setN (by decide)).trans hq, eq⟩, ⟨f, zc_setS _ _ _, fun i hi => ⟨(e i hi).1, Nat.le_trans (e i hi).2 (en i hi).2⟩⟩, fun i hi => ?_, A, (zc_setN (by decide)).trans hA⟩
  obtain ⟨w, hw, ew⟩ := hr i hi
  exact ⟨w, (zc_setN (by omega)).trans hw, fun k hk => ew k (Nat.lt_of_lt_of_le hk (e i hi).2)⟩
theorem zrou_tea {F : Nat → Value} (D : zrou h N R tea) (o : zobj h 10 6 F) (v : Int32) : zrou (nzset h 10 (.inr (6, va_up F 3 (.int v)))) N R v := by
  obtain ⟨⟨F', o', e0, e1, e2, e3⟩, ⟨q, hq, eq⟩, ⟨n, hn, en⟩, hr, A, hA⟩ := D
  have : F = F' := by
    have := o.symm.trans o'
    simpa using this
  subst this
  exact ⟨⟨_, zc_setS _ _ _, by simp [va_up, e0], by simp [va_up, e1], by simp [va_up, e2], by simp [va_up]⟩, ⟨q, (zc_setN (by decide)).trans hq, eq⟩, ⟨n, (zc_setN (by decide)).trans hn, en⟩, fun i hi => let ⟨w, hw, ew⟩ := hr i hi; ⟨w, (zc_setN (by omega)).trans hw, ew⟩, A, (zc_setN (by decide)).trans hA⟩
theorem jX6_clearRound (D : zrou h N R tea) (hd : 1 < d) {k : Nat} (hk : k < 3) : ∃ h1, nzxI d nX6_clearRound [.ref 10, .int (nI k)] h = some (nI (N k), h1) ∧ zrou h1 (va_up N k 0) R tea ∧ zfr 10 17 h h1 := by
  have D' := D
  obtain ⟨⟨F, o, e0, e1, e2, e3⟩, -, ⟨n, hn, en⟩, -, -⟩ := D
  by_cases z : N k = 0
  · refine ⟨h, iX6_clearRound (by omega) o ?_, ?_, zfr_rfl _ _ _⟩
    · rw [eX6_clearRound_0, jX6_count D' (by omega), zcnt_n N hk, Option.bind_some, z, if_pos (show nI 0 ≤ 0 by decide), eX6_clearRound_17]
    · have : va_up N k 0 = N := by
        funext i
        by_cases hi : i = k
        · rw [hi, va_up_self, z]
        · rw [va_up_ne _ _ hi]
      rw [this]
      exact D'
  · refine ⟨nzset h 15 (.inl (.int, 3, .inl (upd n k 0))), iX6_clearRound (by omega) o ?_, ?_, zfr_set _ _ (by decide) (by decide)⟩
    · have := (en k hk).2
      rw [eX6_clearRound_0, jX6_count D' (by omega), zcnt_n N hk, Option.bind_some, if_neg (nI_nle (by omega) (by omega)), zg_R o e1, Option.bind_some, zs_In hn hk (by decide), Option.bind_some, eX6_clearRound_17]
    · refine zrou_setc (f := n) D' _ (fun i hi => ?_)
      by_cases q : i = k
      · rw [q, va_up_self]
        simp [upd, nI_0]
      · rw [va_up_ne _ _ q]
        simp only [upd, if_neg q]
        exact ⟨(en i hi).1, Nat.le_refl _⟩
theorem jX6_clear (D : zrou h N R tea) (hd : 1 < d) : ∃ h1, nzxV d nX6_clear [.ref 10] h = some h1 ∧ zrou h1 (fun _ => 0) R 0 ∧ zfr 10 17 h h1 := by
  obtain ⟨⟨F, o, e0, e1, e2, e3⟩, ⟨q, hq, eq⟩, ⟨n, hn, en⟩, hr, A, hA⟩ := D
  obtain ⟨h1, E, p, fr⟩ := jJ7_fill (v := 0) (d := d - 1) (by omega) (by decide) hn
  have s : ∀ a, a ≠ 15 → nzcell h1 a = nzcell h a := fun a ha => fr.2.2.2 a (by omega)
  have o1 : zobj h1 10 6 F := (s 10 (by decide)).trans o
  refine ⟨nzset h1 10 (.inr (6, va_up F 3 (.int 0))), iX6_clear (by omega) o ?_, ?_, zfr_tr (zfr_wk fr (by decide) (by decide)) (zfr_set _ _ (by decide) (by decide))⟩
  · rw [eX6_clear_0, zg_R o e1, Option.bind_some, E, Option.bind_some, zp_of o1, Option.bind_some]
  · refine ⟨⟨_, zc_setS _ _ _, by simp [va_up, e0], by simp [va_up, e1], by simp [va_up, e2], by simp [va_up]⟩, ⟨q, (zc_setN (by decide)).trans ((s 11 (by decide)).trans hq), eq⟩, ⟨_, (zc_setN (by decide)).trans p, fun i hi => by simp [hi, nI_0]⟩, fun i hi => ?_, A, (zc_setN (by decide)).trans ((s 16 (by decide)).trans hA)⟩
    obtain ⟨w, hw, ew⟩ := hr i hi
    exact ⟨w, (zc_setN (by omega)).trans ((s (12 + i) (by omega)).trans hw), fun k hk => absurd hk (Nat.not_lt_zero k)⟩
theorem jX6_append (D : zrou h N R tea) (hd : 1 < d) {k r : Nat} (hk : k < 3) (hr : r < 6) (hN : N k < 6) : ∃ h1, nzxI d nX6_append [.ref 10, .int (nI k), .int (nI r)] h = some (nI (N k + 1), h1) ∧ zrou h1 (va_up N k (N k + 1)) (fun i j => if i = k ∧ j = N k then r else R i j) tea ∧ zfr 10 17 h h1 := by
  have D' := D
  obtain ⟨⟨F, o, e0, e1, e2, e3⟩, ⟨q, hq, eq⟩, ⟨n, hn, en⟩, hr', A, hA⟩ := D
  obtain ⟨w, hw, ew⟩ := hr' k hk
  have D2 : zrou (nzset (nzset h (12 + k) (.inl (.int, 6, .inl (upd w (N k) (nI r))))) 15 (.inl (.int, 3, .inl (upd n k (nI (N k) + 1))))) (va_up N k (N k + 1)) (fun i j => if i = k ∧ j = N k then r else R i j) tea := by
    refine ⟨⟨F, (zc_setN (by omega)).trans ((zc_setN (by omega)).trans o), e0, e1, e2, e3⟩, ⟨q, (zc_setN (by omega)).trans ((zc_setN (by omega)).trans hq), eq⟩, ⟨_, zc_setS _ _ _, fun i hi => ?_⟩, fun i hi => ?_, A, (zc_setN (by omega)).trans ((zc_setN (by omega)).trans hA)⟩
    · by_cases z : i = k
      · rw [z, va_up_self]
        simp only [upd, if_true]
        exact ⟨nI_1 _, by omega⟩
      · rw [va_up_ne _ _ z]
        simp only [upd, if_neg z]
        exact en i hi
    · by_cases z : i = k
      · subst z
        refine ⟨_, (zc_setN (by omega)).trans (zc_setS _ _ _), fun j hj => ?_⟩
        rw [va_up_self] at hj
        by_cases y : j = N i
        · subst y
          simp only [upd, if_true, and_self]
          exact ⟨trivial, hr⟩
        · simp only [upd, if_neg y, true_and]
          exact ew j (by omega)
      · obtain ⟨w2, hw2, ew2⟩ := hr' i hi
        refine ⟨w2, (zc_setN (by omega)).trans ((zc_setN (by omega)).trans hw2), fun j hj => ?_⟩
        rw [va_up_ne _ _ z] at hj
        simp only [z, false_and, if_false]
        exact ew2 j hj
  refine ⟨_, iX6_append (by omega) o ?_, D2, zfr_tr (zfr_set _ _ (by omega) (by omega)) (zfr_set _ _ (by omega) (by omega))⟩
  have rw1 := zrou_row D' hk
  rw [eX6_append_0, jX6_count D' (by omega), zcnt_n N hk, Option.bind_some, jX11_isWithin (by omega), show (2 : Int32) = nI 2 from rfl, zwithin (by omega) (by decide), Option.bind_some, if_neg (show ¬ (1 : Int32) = 0 by decide), jX11_isWithin (by omega), show (5 : Int32) = nI 5 from rfl, zwithin (by omega) (by decide), Option.bind_some, if_neg (show ¬ (1 : Int32) = 0 by decide), if_neg (show ¬ 6 ≤ nI (N k) from nI_ge (b := 6) hN (by decide)), rw1.1, Option.bind_some, rw1.2, Option.bind_some, zs_In hw hN (by decide), Option.bind_some]
  rw [zg_R (F := F) ((zc_setN (by omega)).trans o) e1, Option.bind_some, za_In (f := n) ((zc_setN (by omega)).trans hn) hk (by decide), Option.bind_some, zs_In (f := n) ((zc_setN (by omega)).trans hn) hk (by decide), Option.bind_some, (en k hk).1, eX6_append_49, jX6_count D2 (by omega), zcnt_n _ hk, va_up_self]
  rfl
/-- a step of a followed round: (bad houses, place, minute, arrivals) -/
def zfol (c g : Nat → Int32) (nf : Nat) (car teas : Int32) (r : Nat → Nat) (i : Nat) (s : Int32 × Int32 × Int32 × (Nat → Int32)) : Int32 × Int32 × Int32 × (Nat → Int32) :=
  (if zbad c g car (s.2.2.1 + zway c g nf s.2.1 (zget c g 3 (nI (r i)) 0)) then s.1 ||| (1 <<< (nI (r i) &&& 31)) else s.1,
   zget c g 3 (nI (r i)) 0,
   if teas &&& (1 <<< (nI (r i) &&& 31)) = 0 then s.2.2.1 + zway c g nf s.2.1 (zget c g 3 (nI (r i)) 0) + zstay c g car (nI (r i)) else s.2.2.1 + zway c g nf s.2.1 (zget c g 3 (nI (r i)) 0) + zstay c g car (nI (r i)) + zget c g 3 (nI (r i)) 3,
   upd s.2.2.2 (r i) (s.2.2.1 + zway c g nf s.2.1 (zget c g 3 (nI (r i)) 0)))
theorem jX6_follow22 {t : Nat} {c g : Nat → Int32} (ht : t + 3 ≤ 10 ∨ 17 ≤ t) (hd : 3 < d) {nf : Nat} (hnf : nf ≤ 6) (e5 : c 5 = nI nf) {k : Nat} (hk : k < 3) (teas : Int32) : ∀ (j i : Nat) (h : nzH) (b p m : Int32) (A : Nat → Int32) (u v : Option Value), i + j = N k → zrou h N R tea → zday h t c g → zarr h 16 6 A → ∃ h1, nzr d nX6_follow 22 [some (.ref 10), some (.ref t), some (.int (nI k)), some (.int teas), some (.int b), some (.int p), some (.int m), some (.int (nI i)), u, v] [] h = some (some (.int (zit (zfol c g nf (nI k) teas (R k)) i j (b, p, m, A)).1), h1) ∧ zrou h1 N R tea ∧ zday h1 t c g ∧ zarr h1 16 6 (zit (zfol c g nf (nI k) teas (R k)) i j (b, p, m, A)).2.2.2 ∧ zfr 16 17 h h1 := by
  intro j
  induction j with
  | zero =>
    intro i h b p m A u v hi D E hA
    obtain ⟨n, hn, en⟩ := D.2.2.1
    have := (en k hk).2
    refine ⟨h, ?_, D, E, hA, zfr_rfl _ _ _⟩
    rw [eX6_follow_22, jX6_count D (by omega), zcnt_n N hk, Option.bind_some, if_pos (nI_le (by omega) (by omega))]
    rfl
  | succ j ih =>
    intro i h b p m A u v hi D E hA
    obtain ⟨n, hn, en⟩ := D.2.2.1
    have := (en k hk).2
    obtain ⟨F, o, e0, e1, e2, e3⟩ := D.1
    have rw1 := zrou_row D hk
    have cl := zrou_cell D hk (show i < N k by omega)
    have fr : zfr 16 17 h (nzset h 16 (.inl (.int, 6, .inl (upd A (R k i) (m + zway c g nf p (zget c g 3 (nI (R k i)) 0)))))) := zfr_set _ _ (by decide) (by decide)
    have E2 := zday_sm E (zfr_sm fr (lo' := t) (hi' := t + 3) (by omega))
    have D2 : zrou (nzset h 16 (.inl (.int, 6, .inl (upd A (R k i) (m + zway c g nf p (zget c g 3 (nI (R k i)) 0)))))) N R tea := by
      obtain ⟨⟨F, o, eF⟩, ⟨q, hq, eq⟩, ⟨n, hn, en⟩, hr, A, hA⟩ := D
      exact ⟨⟨F, (zc_setN (by decide)).trans o, eF⟩, ⟨q, (zc_setN (by decide)).trans hq, eq⟩, ⟨n, (zc_setN (by decide)).trans hn, en⟩, fun i hi => let ⟨w, hw, ew⟩ := hr i hi; ⟨w, (zc_setN (by omega)).trans hw, ew⟩, _, zc_setS _ _ _⟩
    obtain ⟨h1, q1, q2, q3, q4, q5⟩ := ih (i + 1) _ (zfol c g nf (nI k) teas (R k) i (b, p, m, A)).1 (zfol c g nf (nI k) teas (R k) i (b, p, m, A)).2.1 (zfol c g nf (nI k) teas (R k) i (b, p, m, A)).2.2.1 (upd A (R k i) (m + zway c g nf p (zget c g 3 (nI (R k i)) 0))) (some (.int (nI (R k i)))) (some (.int (zget c g 3 (nI (R k i)) 0))) (by omega) D2 E2 (zc_setS _ _ _)
    refine ⟨h1, ?_, q2, q3, q4, zfr_tr fr q5⟩
    rw [eX6_follow_22, jX6_count D (by omega), zcnt_n N hk, Option.bind_some, if_neg (nI_ge (by omega) (by omega)), rw1.1, Option.bind_some, rw1.2, Option.bind_some, cl.1, Option.bind_some, jX0_get E (by omega), Option.bind_some, jX0_wayBetween E (by omega) hnf e5, Option.bind_some, zg_R o e2, Option.bind_some, zs_In hA cl.2.1 (by decide), Option.bind_some, jX0_isBadAt E2 (by omega), Option.bind_some]
    simp only [eX6_follow_98, eX6_follow_132, jX0_stayWithoutTea E2 (show 2 < d by omega), jX0_get E2 (show 1 < d by omega), Option.bind_some, nI_1]
    refine Eq.trans ?_ q1
    clear q1 q2 q3 q4 q5 ih
    by_cases y : zbad c g (nI k) (m + zway c g nf p (zget c g 3 (nI (R k i)) 0)) = true <;> by_cases z : teas &&& (1 <<< (nI (R k i) &&& 31)) = 0 <;> simp only [zfol, y, z, if_true, if_false, Bool.false_eq_true, show ¬ (1 : Int32) = 0 by decide]
/-- the whole round of a car -/
def zround (c g : Nat → Int32) (nf : Nat) (k : Nat) (teas : Int32) (n : Nat) (r : Nat → Nat) (A : Nat → Int32) : Int32 × Int32 × Int32 × (Nat → Int32) := zit (zfol c g nf (nI k) teas r) 0 n (0, zget c g 0 (zget c g 4 (nI k) 0) 0, zget c g 4 (nI k) 1, A)
theorem jX6_follow {t : Nat} {c g : Nat → Int32} (ht : t + 3 ≤ 10 ∨ 17 ≤ t) (hd : 4 < d) {nf : Nat} (hnf : nf ≤ 6) (e5 : c 5 = nI nf) {k : Nat} (hk : k < 3) (teas : Int32) {A : Nat → Int32} (D : zrou h N R tea) (E : zday h t c g) (hA : zarr h 16 6 A) : ∃ h1, nzxI d nX6_follow [.ref 10, .ref t, .int (nI k), .int teas] h = some ((zround c g nf k teas (N k) (R k) A).1, h1) ∧ zrou h1 N R tea ∧ zday h1 t c g ∧ zarr h1 16 6 (zround c g nf k teas (N k) (R k) A).2.2.2 ∧ zfr 16 17 h h1 := by
  obtain ⟨h1, q1, q2⟩ := jX6_follow22 (d := d - 1) ht (by omega) hnf e5 hk teas (N k) 0 h 0 (zget c g 0 (zget c g 4 (nI k) 0) 0) (zget c g 4 (nI k) 1) A none none (by omega) D E hA
  refine ⟨h1, iX6_follow (by omega) D.1.choose_spec.1 ?_, q2⟩
  rw [eX6_follow_0, jX0_startPlace E (by omega), Option.bind_some, jX0_get E (by omega), Option.bind_some]
  exact q1
end NZW
