/-! the reference: day, feed -/
def zc0 (c : Nat → Int32) : Nat → Int32 := fun i => if i < 9 then 0 else c i
def zg0 (g : Nat → Int32) : Nat → Int32 := fun i => if i < 378 then 0 else g i
theorem zcn_c0 {c : Nat → Int32} {s : Nat} (hs : s < 9) : zcn (zc0 c) s = 0 := by
  rw [zcn, zc0, if_pos hs]
  rfl
theorem zDD_0 (NN : (Nat → Int64) × (Nat → Int32) × (Nat → Int32)) (c g : Nat → Int32) : zDD (0, NN) (zc0 c) (zg0 g) zdJ0 (fun _ _ => 0) (fun _ => 0) := by
  refine ⟨⟨Nat.zero_le _, by rw [zdJ0, upd_ne (by decide)]; rfl, fun i hi => absurd hi (Nat.not_lt_zero i)⟩, ⟨fun s hs => ?_, fun s hs => ?_, fun s r k hs hr => ?_, fun s r k a b hs hr => ?_, fun r hr => ?_, fun r hr => ?_, fun s r k hs hr h6 hk => ?_, fun _ => upd_eq _ _ _, fun z => ?_⟩, ?_⟩
  · rw [zcn_c0 hs, zc0, if_pos hs]
    exact ⟨rfl, Nat.zero_le _⟩
  · have := zcf_lt s hs
    rw [zdJ0, upd_ne (by omega), zc0, if_pos (by omega)]
  · rw [zcn_c0 (by omega)] at hr
    exact absurd hr (Nat.not_lt_zero r)
  · rw [zcn_c0 (by omega)] at hr
    exact absurd hr (Nat.not_lt_zero r)
  · rw [zcn_c0 (by omega)] at hr
    exact absurd hr (Nat.not_lt_zero r)
  · rw [zcn_c0 (by omega)] at hr
    exact absurd hr (Nat.not_lt_zero r)
  · rw [zg0, if_pos (by omega)]
  · rw [zcn_c0 (by omega)] at z
    exact absurd z (Nat.not_lt_zero 0)
  · rw [zSm, zcn_c0 (by decide), zcn_c0 (by decide), zcn_c0 (by decide), zcn_c0 (by decide), zcn_c0 (by decide), zcn_c0 (by decide), zcn_c0 (by decide)]
section NZDY
variable {d t : Nat} {h : nzH} {F0 G0 : Nat → Value} {td rd : Option Nat} {tp : Nat → Int32} {J : Nat → Int32} {B : Nat → Nat → Int32} {Wd : Nat → Int64} {W : Int64}
theorem kX13_dy99 {I : Nat → Int32} (x : Int32) : ∀ (j i : Nat) (A : Nat → Nat → Int32), i + j = 3 → (∀ q, q < i → A 17 q = 0) → ∃ w, nzr d nX13_day 99 [some (.ref 73), some (.int x), some (.int (nI i))] [] (zmS h F0 I W td rd tp A) = nzr d nX13_day 119 [some (.ref 73), some (.int x), some (.int (nI 0))] [] (zmS h F0 I W td rd tp (va_up A 17 w)) ∧ ∀ q, q < 3 → w q = 0 := by
  intro j
  induction j with
  | zero =>
    intro i A hi P
    refine ⟨A 17, ?_, fun q hq => P q (by omega)⟩
    rw [eX13_day_99, if_pos (show 3 ≤ nI i from nI_le (a := 3) (by omega) (by omega)), va_up_same]
    rfl
  | succ j ih =>
    intro i A hi P
    obtain ⟨w, q1, q2⟩ := ih (i + 1) (va_up A 17 (upd (A 17) i 0)) (by omega) (fun q hq => by
      rw [va_up_self]
      by_cases z : q = i
      · rw [z, upd_eq]
      · rw [upd_ne z]
        exact P q (by omega))
    refine ⟨w, ?_, q2⟩
    rw [va_up_up] at q1
    rw [eX13_day_99, if_neg (show ¬ 3 ≤ nI i from nI_ge (b := 3) (by omega) (by decide)), zR_17, Option.bind_some, zW_17 (show i < 3 by omega), Option.bind_some, nI_1]
    exact q1
theorem kX13_dy119 (E : zmd h t J B Wd) (ht : 94 ≤ t) (hd : 0 < d) {I : Nat → Int32} (x : Int32) : ∀ (j i : Nat) (A : Nat → Nat → Int32), i + j = 6 → (∀ q, q < i → A 40 q = 0) → ∃ w, nzr d nX13_day 119 [some (.ref 73), some (.int x), some (.int (nI i))] [] (zmS h F0 I W (some t) rd tp A) = some (some (.int (J 5)), zmS h F0 (upd (upd (upd (upd (upd (upd (upd (upd I 19 0) 42 0) 33 0) 34 0) 37 0) 27 0) 1 0) 2 (-1)) W (some t) rd tp (va_up A 40 w)) ∧ ∀ q, q < 6 → w q = 0 := by
  intro j
  induction j with
  | zero =>
    intro i A hi P
    refine ⟨A 40, ?_, fun q hq => P q (by omega)⟩
    rw [eX13_day_119, if_pos (show 6 ≤ nI i from nI_le (a := 6) (by omega) (by omega)), zP_19, Option.bind_some, zP_42, Option.bind_some, zP_33, Option.bind_some, zP_34, Option.bind_some, zP_37, Option.bind_some, zP_27, Option.bind_some, zmS_T, Option.bind_some, zj E ht (by decide), Option.bind_some, zdone hd, Option.bind_some, va_up_same]
  | succ j ih =>
    intro i A hi P
    obtain ⟨w, q1, q2⟩ := ih (i + 1) (va_up A 40 (upd (A 40) i 0)) (by omega) (fun q hq => by
      rw [va_up_self]
      by_cases z : q = i
      · rw [z, upd_eq]
      · rw [upd_ne z]
        exact P q (by omega))
    refine ⟨w, ?_, q2⟩
    rw [va_up_up] at q1
    rw [eX13_day_119, if_neg (show ¬ 6 ≤ nI i from nI_ge (b := 6) (by omega) (by decide)), zR_40, Option.bind_some, zW_40 (show i < 6 by omega), Option.bind_some, nI_1]
    exact q1
theorem kX13_day_no (hd : 1 < d) {I : Nat → Int32} {A : Nat → Nat → Int32} {x : Int32} (hx : x < 0 ∨ ¬ x ≤ I 6) : nzxI d nX13_day [.ref 73, .int x] (zmS h F0 I W td rd tp A) = some (-1, zmS h F0 (upd (upd (upd I 0 0) 1 2) 2 (-1)) W td rd tp A) := by
  refine iX13_day (by omega) zmS_o ?_
  rw [eX13_day_0, zP_0, Option.bind_some]
  by_cases y : x < 0
  · rw [if_pos y, eX13_day_17, zrefu (by omega), Option.bind_some]
  · rw [if_neg y, zI_6, Option.bind_some, upd_ne (by decide), if_neg (hx.resolve_left y), eX13_day_17, zrefu (by omega), Option.bind_some]
theorem kX13_day (ht : 94 ≤ h.1) (hd : 13 < d) (hb : ∀ i, zby (tp i)) {I : Nat → Int32} {A : Nat → Nat → Int32} {hl m : Nat} (hhl : hl ≤ 900) (e6 : I 6 = nI hl) (hm : m ≤ hl) (s0 : Int64 × Int32 × Int32) (x0 : Int32) (NN : (Nat → Int64) × (Nat → Int32) × (Nat → Int32)) (c g : Nat → Int32) : ∃ v hh, nzxI d nX13_day [.ref 73, .int (nI m)] (zmS h F0 I W td rd tp A) = some (v, hh) ∧ ((zpRd tp m 901 (ztok tp m 0 s0, (x0, 0, -1), (0, NN), zc0 c, zg0 g)).1 = true → ∃ k' x' N' c' g' I' W' J' B' Wd' A', hh = zmS (zdS (zdG h) h.1 zdG0 J' B' Wd') F0 I' W' (some h.1) (some h.1) tp A' ∧ (zpRd tp m 901 (ztok tp m 0 s0, (x0, 0, -1), (0, NN), zc0 c, zg0 g)).2 = (k', (x', 0, -1), N', c', g') ∧ zDD N' c' g' J' B' Wd' ∧ ¬ (c' 8 = 0 ∨ c' 3 = 0 ∨ c' 4 = 0) ∧ v = c' 3 ∧ I' 6 = 0 ∧ I' 0 = 0 ∧ I' 1 = 0 ∧ I' 2 = -1 ∧ I' 13 = 0 ∧ I' 19 = 0 ∧ I' 42 = 0 ∧ I' 33 = 0 ∧ I' 34 = 0 ∧ I' 37 = 0 ∧ I' 27 = 0 ∧ (∀ i, i < 3 → A' 17 i = 0) ∧ ∀ i, i < 6 → A' 40 i = 0) ∧ ((zpRd tp m 901 (ztok tp m 0 s0, (x0, 0, -1), (0, NN), zc0 c, zg0 g)).1 = false → ∃ I' W' J' B' Wd', hh = zmS (zdS (zdG h) h.1 zdG0 J' B' Wd') F0 I' W' td (some h.1) tp A ∧ v = -1 ∧ I' 6 = 0 ∧ I' 0 = 0 ∧ I' 1 = 4 ∧ I' 2 = (zpRd tp m 901 (ztok tp m 0 s0, (x0, 0, -1), (0, NN), zc0 c, zg0 g)).2.2.1.2.2 ∧ I' 13 = (zpRd tp m 901 (ztok tp m 0 s0, (x0, 0, -1), (0, NN), zc0 c, zg0 g)).2.2.1.2.1 ∧ ∀ a, 15 < a → I' a = I a) := by
  have hm9 : m ≤ 900 := by omega
  have e1 : nzxV (d - 1) nX12_init [.ref h.1] (nznew (zmS h F0 (upd (upd (upd (upd (upd I 0 0) 7 (nI m)) 6 0) 8 0) 13 0) W td rd tp A) 37 (.inr (12, zdG0))) = some (zmS (zdS (zdG h) h.1 zdG0 zdJ0 (fun _ _ => 0) (fun _ => 0)) F0 (upd (upd (upd (upd (upd I 0 0) 7 (nI m)) 6 0) 8 0) 13 0) W td rd tp A) := by
    have := jX12_init (d := d - 1) (zmS h F0 (upd (upd (upd (upd (upd I 0 0) 7 (nI m)) 6 0) 8 0) 13 0) W td rd tp A) (by omega)
    rw [zdX_S ht] at this
    exact this
  obtain ⟨I1, W1, g1, g2, g3⟩ := kX13_goesOn (d := d - 1) (h := zdS (zdG h) h.1 zdG0 zdJ0 (fun _ _ => 0) (fun _ => 0)) (F0 := F0) (td := td) (rd := some h.1) (A := A) (W := W) (L := m) (by omega) hm9 hb (I := upd (upd (upd (upd (upd (upd I 0 0) 7 (nI m)) 6 0) 8 0) 13 0) 9 0) (by simp [upd_at]) (p := 0) (Nat.zero_le _) (by simp [upd_at]; rfl) (by simp [upd_at]) s0
  have tw := (ztok_w tp (Nat.zero_le m) s0).1
  have k13 : I1 13 = 0 := by rw [g2 13 (by decide) (by decide) (by decide) (by decide) (by decide) (by decide)]; simp [upd_at]
  have k7 : I1 7 = nI m := by rw [g2 7 (by decide) (by decide) (by decide) (by decide) (by decide) (by decide)]; simp [upd_at]
  obtain ⟨hh, u1, u2⟩ := kX13_rd2 (d := d - 2) (h := zdG h) (t := h.1) (F0 := F0) (G0 := zdG0) (td := td) (A := A) (ff := (0, -1)) ht (by omega) hm9 hb 901 (ztok tp m 0 s0) x0 (0, NN) (zc0 c) (zg0 g) I1 W1 zdJ0 (fun _ _ => 0) (fun _ => 0) g3 tw k7 k13 (zDD_0 NN c g) (by omega)
  have st : nzr (d - 1) nX13_day 0 [some (.ref 73), some (.int (nI m)), none] [] (zmS h F0 I W td rd tp A) = ((nzgI hh 73 13 13).bind fun v13 => if v13 ≤ 0 then ((nzgR hh 73 13 4).bind fun v14 => (nzput hh 73 13 3 (.ref v14)).bind fun h15 => nzr (d - 1) nX13_day 99 [some (.ref 73), some (.int (nI m)), some (.int 0)] [] h15) else ((nzput hh 73 13 1 (.int 4)).bind fun h16 => (nzgI h16 73 13 14).bind fun v17 => (nzput h16 73 13 2 (.int v17)).bind fun h18 => some (some (.int (-1)), h18))) := by
    rw [eX13_day_0, zP_0, Option.bind_some, if_neg (nI_pos (by omega)), zI_6, Option.bind_some, upd_ne (show 6 ≠ 0 by decide), e6, if_pos (nI_le hm (by omega)), zP_7, Option.bind_some, zP_6, Option.bind_some, zP_8, Option.bind_some, zP_13, Option.bind_some, show nznewo (zmS h F0 (upd (upd (upd (upd (upd I 0 0) 7 (nI m)) 6 0) 8 0) 13 0) W td rd tp A) 12 = some (nznew (zmS h F0 (upd (upd (upd (upd (upd I 0 0) 7 (nI m)) 6 0) 8 0) 13 0) W td rd tp A) 37 (.inr (12, zdG0))) from rfl, Option.bind_some, show (zmS h F0 (upd (upd (upd (upd (upd I 0 0) 7 (nI m)) 6 0) 8 0) 13 0) W td rd tp A).1 = h.1 from rfl, e1, Option.bind_some, zPR, Option.bind_some, zP_9, Option.bind_some, g1, Option.bind_some, iX13_readDay (d := d - 1) (by omega) zmS_o (show nzr (d - 1 - 1) nX13_readDay 0 [some (.ref 73), none] [] _ = some (none, hh) by rw [eX13_readDay_0]; exact u1), Option.bind_some]
  have i0 : ∀ I' : Nat → Int32, zIs I1 I' → (∀ a, 15 < a → I' a = I a) ∧ I' 6 = 0 ∧ I' 0 = 0 := fun I' z => by
    refine ⟨fun a ha => ?_, ?_, ?_⟩
    · rw [z a (.inr ha), g2 a (by omega) (by omega) (by omega) (by omega) (by omega) (by omega)]
      simp only [upd_at]
      rw [if_neg (by omega), if_neg (by omega), if_neg (by omega), if_neg (by omega), if_neg (by omega), if_neg (by omega)]
    · rw [z 6 (by decide), g2 6 (by decide) (by decide) (by decide) (by decide) (by decide) (by decide)]
      simp [upd_at]
    · rw [z 0 (by decide), g2 0 (by decide) (by decide) (by decide) (by decide) (by decide) (by decide)]
      simp [upd_at]
  cases hz : (zpRd tp m 901 (ztok tp m 0 s0, (x0, 0, -1), (0, NN), zc0 c, zg0 g)).1 with
  | true =>
    obtain ⟨k', x', N', c', g', I', W', J', B', Wd', r1, r2, r3, r4, r5, r6⟩ := u2.1 hz
    subst r1
    obtain ⟨j1, j2, j3⟩ := i0 I' r3
    obtain ⟨w1, v1, v2⟩ := kX13_dy99 (d := d - 1) (h := zdS (zdG h) h.1 zdG0 J' B' Wd') (F0 := F0) (W := W') (td := some h.1) (rd := some h.1) (tp := tp) (I := I') (nI m) 3 0 A rfl (fun q hq => absurd hq (Nat.not_lt_zero q))
    obtain ⟨w2, v3, v4⟩ := kX13_dy119 (d := d - 1) (h := zdS (zdG h) h.1 zdG0 J' B' Wd') (F0 := F0) (W := W') (rd := some h.1) (tp := tp) (I := I') zmd_dS ht (by omega) (nI m) 6 0 (va_up A 17 w1) rfl (fun q hq => absurd hq (Nat.not_lt_zero q))
    have j5 : J' 5 = c' 3 := r5.2.1.2.1 3 (by decide)
    refine ⟨J' 5, zmS (zdS (zdG h) h.1 zdG0 J' B' Wd') F0 (upd (upd (upd (upd (upd (upd (upd (upd I' 19 0) 42 0) 33 0) 34 0) 37 0) 27 0) 1 0) 2 (-1)) W' (some h.1) (some h.1) tp (va_up (va_up A 17 w1) 40 w2), iX13_day (by omega) zmS_o (st.trans ?_), fun _ => ⟨k', x', N', c', g', (upd (upd (upd (upd (upd (upd (upd (upd I' 19 0) 42 0) 33 0) 34 0) 37 0) 27 0) 1 0) 2 (-1)), W', J', B', Wd', (va_up (va_up A 17 w1) 40 w2), rfl, r2, r5, r6, j5, ?_, ?_, ?_, ?_, ?_, ?_, ?_, ?_, ?_, ?_, ?_, fun i hi => ?_, fun i hi => ?_⟩, fun z => (by cases z)⟩
    rotate_left
    · simp [upd_at, j2]
    · simp [upd_at, j3]
    · simp [upd_at]
    · simp [upd_at]
    · simp [upd_at, r4]
    · simp [upd_at]
    · simp [upd_at]
    · simp [upd_at]
    · simp [upd_at]
    · simp [upd_at]
    · simp [upd_at]
    · rw [va_up_ne _ _ (by decide), va_up_self]
      exact v2 i hi
    · rw [va_up_self]
      exact v4 i hi
    · rw [zI_13, Option.bind_some, r4, if_pos (by decide), zIR, Option.bind_some, zPT, Option.bind_some]
      exact v1.trans v3
  | false =>
    obtain ⟨I', W', J', B', Wd', r1, r3, r4, r5⟩ := u2.2 hz
    subst r1
    obtain ⟨j1, j2, j3⟩ := i0 I' r3
    obtain ⟨n, n1, n2, n3⟩ := zFs_rd (tp := tp) (L := m) 901 _ hz
    refine ⟨-1, zmS (zdS (zdG h) h.1 zdG0 J' B' Wd') F0 (upd (upd I' 1 4) 2 (I' 14)) W' td (some h.1) tp A, iX13_day (by omega) zmS_o (st.trans ?_), fun z => (by cases z), fun _ => ⟨upd (upd I' 1 4) 2 (I' 14), W', J', B', Wd', rfl, rfl, ?_, ?_, ?_, ?_, ?_, fun a ha => ?_⟩⟩
    · rw [zI_13, Option.bind_some, r4, n3, if_neg (nI_nle (by omega) (by omega)), zP_1, Option.bind_some, zI_14, Option.bind_some, upd_ne (by decide), zP_2, Option.bind_some]
    · simp [upd_at, j2]
    · simp [upd_at, j3]
    · simp [upd_at]
    · rw [upd_eq]
      exact r5
    · rw [upd_ne (by decide), upd_ne (by decide)]
      exact r4
    · rw [upd_ne (by omega), upd_ne (by omega)]
      exact j1 a ha
end NZDY
