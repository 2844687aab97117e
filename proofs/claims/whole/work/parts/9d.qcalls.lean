/-! coupling: calls (drive, comes, heat, bad, costs, odds) -/
section NZQD0
variable {c g J : Nat → Int32} {B : Nat → Nat → Int32}
theorem qkit (D : zDR c g J B) {k : Nat} (hk : k < zcn c 4) : B 26 k = nI (zNv g 4 k 0) ∧ zNv g 4 k 0 < 3 := ⟨(D.2.2.1 4 k 0 (by decide) hk (by decide)).trans (zNv_kit D hk).1, (zNv_kit D hk).2.2⟩
theorem qhol (D : zDR c g J B) {k : Nat} (hk : k < zcn c 4) : zget c g 4 (nI k) 2 = nI (zNv g 4 k 2) ∧ B 28 k = nI (zNv g 4 k 2) ∧ 1 ≤ zNv g 4 k 2 ∧ zNv g 4 k 2 ≤ 6 := by
  have q := zNg D (s := 4) (r := k) (k := 2) (a := 1) (b := 6) (by decide) hk (by decide) rfl (by decide)
  exact ⟨q.1, q.2.1 (by decide), q.2.2⟩
theorem zNs_lo (D : zDR c g J B) {q T n : Nat} (hq : q < zcn c 4) {r : Nat → Nat} (hn : n ≤ 6) (hr : ∀ i, i < n → r i < zcn c 3) : ∀ (j i : Nat) (s : zNt), i + j = n → zNI g q i s → (∀ p, p < i → zNv g 4 q 1 ≤ s.2.2.2 p) → ∀ p, p < n → zNv g 4 q 1 ≤ (zit (zNs g (zcn c 5) q T r) i j s).2.2.2 p := by
  intro j
  induction j with
  | zero => exact fun i s hi _ h p hp => h p (by omega)
  | succ j ih =>
    intro i s hi S h
    have w := zNs_I D hq (T := T) (i := i) (by omega) (hr i (by omega)) S
    refine ih (i + 1) _ (by omega) w.1 (fun p hp => ?_)
    show zNv g 4 q 1 ≤ va_up s.2.2.2 i (zNm1 g (zcn c 5) r i s) p
    rw [va_up_at]
    by_cases y : p = i
    · rw [if_pos y]; exact w.2.2
    · rw [if_neg y]; exact h p (by omega)
theorem zNr_lo (D : zDR c g J B) {q T n : Nat} (hq : q < zcn c 4) {r : Nat → Nat} (hn : n ≤ 6) (hr : ∀ i, i < n → r i < zcn c 3) {p : Nat} (hp : p < n) : zNv g 4 q 1 ≤ (zNr g (zcn c 5) q T r n).2.2.2 p := zNs_lo D hq hn hr n 0 _ (by omega) (zNI_0 D hq) (fun p hp => by omega) p hp
end NZQD0
section NZQD
variable {d : Nat} {h : nzH}
theorem qX_drive (Q : zQX h) (hd : 20 < d) (x y : Int32) : zCI d nX11_drive nX13_drive [.int x, .int y] h := by
  obtain ⟨t, u, tr, c, g, hl, L, S, F0, I, W, td, rd, tp, A, Q⟩ := Q
  obtain ⟨e0, h9, K, D, E, tu, qd, hb, qt, q1, q2, q3, q4, q5, q6, q7, q8⟩ := id Q
  have ht : t = 7 ∨ t = 70 := by omega
  rcases qd with ⟨rfl, z0⟩ | ⟨t', J, B, Wd, rfl, t9, t27, M, DD, c8, c3, c4⟩
  · exact ⟨-1, zp0 h 1, _, zX_drive_0 K E hd x y (qz4 z0 x), zXeI (zQ_e0 Q 1) (mX_drive_0 hd x y), zQ_ref Q (by decide)⟩
  · have qf := qF DD
    have qj := qJ DD
    have hc0 := qf.1.2
    have hc1 := qf.2.1.2
    have hc2 := qf.2.2.1.2
    have hc3 := qf.2.2.2.1.2
    have hc4 := qf.2.2.2.2.1.2
    have hc5 := qf.2.2.2.2.2.1.2
    have hc6 := qf.2.2.2.2.2.2.1.2
    have hc7 := qf.2.2.2.2.2.2.2.1.2
    have rn := qrn DD c3
    by_cases z1 : zhs c 4 x = 0
    · exact ⟨-1, zp0 h 1, _, zX_drive_0 K E hd x y z1, zXeI (zQ_e0 Q 1) (mX_drive_1 (zmd_0 M t9 K 1) t9 hd x y ((qh4 DD x).trans z1)), zQ_ref Q (by decide)⟩
    · have z1' : ¬ zmh (J 6) x = 0 := fun w => z1 ((qh4 DD _).symm.trans w)
      by_cases z2 : zhs c 3 y = 0
      · exact ⟨-1, zp0 h 1, _, zX_drive_1 K E hd x y z1 z2, zXeI (zQ_e0 Q 1) (mX_drive_2 (zmd_0 M t9 K 1) t9 hd x y z1' ((qh3 DD y).trans z2)), zQ_ref Q (by decide)⟩
      · have z2' : ¬ zmh (J 5) y = 0 := fun w => z2 ((qh3 DD _).symm.trans w)
        obtain ⟨k, hk, rfl⟩ := qe4 DD z1
        obtain ⟨r, hr, rfl⟩ := qe3 DD z2
        obtain ⟨N, R, T, r1, r2, r3, r4, r5, r6, r7, r8⟩ := id q1
        have e3 := zcar_3 (N := N) (R := R) (nI r) hc4 r5
        have Rb : ∀ q i, 0 ≤ q → q < 0 + zcn c 4 → i < N q → R q i < 2 ^ 31 := fun q i _ a b => by have := r7 q i (by omega) b; omega
        have hol := qhol DD hk
        rcases zcar_sp (N := N) (R := R) (x := r) (by omega) (zcn c 4) 0 (by omega) Rb with ⟨w, no⟩ | ⟨q, p, -, hq, hp, er, w⟩
        · have zc : zcnt N (nI k) = nI (N k) := zcnt_n N (by omega)
          have A17 := (r2 k (by omega)).1
          have N6 := r6 k hk
          by_cases z4 : N k < zNv g 4 k 2
          · have z4' : zcnt N (nI k) < zget c g 4 (nI k) 2 := by
              rw [zc, hol.1]
              exact nI_lt z4 (by omega)
            obtain ⟨h1, w1, w2, w3⟩ := zX_drive_4 K E r1 (k := k) (r := r) (by omega) (by omega) (by omega) hd z1 z2 (e3.trans w) z4'
            have K1 := zK_sm K (w3.2.2.2 0 (by decide))
            have f := zf2_p0 w3 K1 0
            refine ⟨_, zp0 h1 0, _, w1, zXeI (zQ_e Q f (by decide)) (mX_drive (zmd_f M t9 f (by decide)) t9 hd (c := k) (by omega) r2 hc4 qj.2.2.2.2.1 (by omega) w z1' z2' (fun v => by rw [hol.2.1, nI_eq (by omega) (by omega)] at v; omega)), zQ_R Q (by decide) f (zp0_K K1 0) ⟨rfl, rfl, rfl, rfl, rfl, rfl, rfl⟩ rfl rfl ⟨rfl, rfl, rfl, rfl, rfl, rfl, rfl, rfl, rfl⟩ ⟨_, _, T, zrou_sm w2 (zfr_sm (zp0_fr K1 0) (by decide)), ?_, r3, r4, ?_, ?_, ?_, ?_⟩⟩
            · intro i hi
              have ri := r2 i hi
              show upd (A 17) k (nI (N k + 1)) i = nI (va_up N k (N k + 1) i) ∧ va_up N k (N k + 1) i ≤ 6 ∧ ∀ j, j < va_up N k (N k + 1) i → upd (A 18) (6 * k + N k) (nI r) (6 * i + j) = nI (if i = k ∧ j = N k then r else R i j) ∧ (if i = k ∧ j = N k then r else R i j) < 6
              rw [upd_at, va_up_at]
              by_cases y : i = k
              · subst y
                rw [if_pos rfl, if_pos rfl]
                refine ⟨rfl, by omega, fun j hj => ?_⟩
                by_cases y2 : j = N i
                · subst y2
                  rw [if_pos ⟨rfl, rfl⟩, upd_eq]
                  exact ⟨rfl, by omega⟩
                · rw [if_neg (fun v => y2 v.2), upd_ne (by omega)]
                  exact ri.2.2 j (by omega)
              · rw [if_neg y, if_neg y]
                refine ⟨ri.1, ri.2.1, fun j hj => ?_⟩
                rw [if_neg (fun v => y v.1), upd_ne (by omega)]
                exact ri.2.2 j hj
            · intro i hi hi2
              rw [va_up_ne _ _ (by omega)]
              exact r5 i hi hi2
            · intro i hi
              rw [va_up_at]
              by_cases y : i = k
              · rw [if_pos y, y]; omega
              · rw [if_neg y]; exact r6 i hi
            · intro i j hi hj
              rw [va_up_at] at hj
              show (if i = k ∧ j = N k then r else R i j) < zcn c 3
              by_cases y : i = k ∧ j = N k
              · rw [if_pos y]; exact hr
              · rw [if_neg y]
                by_cases y2 : i = k
                · rw [if_pos y2] at hj
                  exact r7 i j hi (by subst y2; omega)
                · rw [if_neg y2] at hj
                  exact r7 i j hi hj
            · intro i i' j j' hi hi' hj hj' he
              rw [va_up_at] at hj hj'
              have he : (if i = k ∧ j = N k then r else R i j) = (if i' = k ∧ j' = N k then r else R i' j') := he
              have lt : ∀ a b, b < (if a = k then N k + 1 else N a) → ¬ (a = k ∧ b = N k) → b < N a := fun a b hb hn => by
                by_cases y : a = k
                · rw [if_pos y] at hb; subst y; omega
                · rw [if_neg y] at hb; exact hb
              have new : ∀ a b, a < 3 → b < N a → R a b ≠ r := fun a b ha hb => by
                by_cases y : a < zcn c 4
                · exact no a b (by omega) (by omega) hb
                · have := r5 a ha (by omega)
                  omega
              by_cases y : i = k ∧ j = N k
              · by_cases y' : i' = k ∧ j' = N k
                · exact ⟨y.1.trans y'.1.symm, y.2.trans y'.2.symm⟩
                · rw [if_pos y, if_neg y'] at he
                  exact absurd he.symm (new i' j' hi' (lt i' j' hj' y'))
              · by_cases y' : i' = k ∧ j' = N k
                · rw [if_neg y, if_pos y'] at he
                  exact absurd he (new i j hi (lt i j hj y))
                · rw [if_neg y, if_neg y'] at he
                  exact r8 i i' j j' hi hi' (lt i j hj y) (lt i' j' hj' y') he
          · have z4' : ¬ zcnt N (nI k) < zget c g 4 (nI k) 2 := by
              rw [zc, hol.1]
              exact nI_nlt (by omega) (by omega)
            exact ⟨-1, zp0 h 3, _, zX_drive_3 K E r1 hd (nI k) (nI r) z1 z2 (e3.trans w) z4', zXeI (zQ_e0 Q 3) (mX_drive_4 (zmd_0 M t9 K 3) t9 r2 hc4 qj.2.2.2.2.1 (by omega) hd _ z1' z2' w (A17.trans ((congrArg nI (show N k = zNv g 4 k 2 by omega)).trans hol.2.1.symm))), zQ_ref Q (by decide)⟩
        · have w' : ¬ zcar N R (nI r) 0 3 = -1 := fun v => nI_c3 q (by omega) (w.symm.trans (e3.symm.trans v))
          exact ⟨-1, zp0 h 5, _, zX_drive_2 K E r1 hd (nI k) (nI r) z1 z2 w', zXeI (zQ_e0 Q 5) (mX_drive_3 (zmd_0 M t9 K 5) t9 r2 hc4 qj.2.2.2.2.1 hd _ _ z1' z2' (fun v => w' (e3.trans v))), zQ_ref Q (by decide)⟩
/-- a round's facts, both sides -/
theorem qRnd {c g J : Nat → Int32} {B : Nat → Nat → Int32} (DD : zDR c g J B) (c8 : 0 < zcn c 8) {N : Nat → Nat} {R : Nat → Nat → Nat} (r6 : ∀ k, k < zcn c 4 → N k ≤ zNv g 4 k 2) (r7 : ∀ k i, k < 3 → i < N k → R k i < zcn c 3) (r8 : ∀ k k' i i', k < 3 → k' < 3 → i < N k → i' < N k' → R k i = R k' i' → k = k' ∧ i = i') {k T : Nat} (hk : k < zcn c 4) (hT : T < 64) (f f' : Nat → Int32) : ∃ b, b < 64 ∧ (zround c g (zcn c 5) k (nI T) (N k) (R k) f).1 = nI b ∧ (zmgR J B (zcn c 5) k (zNv g 4 k 0) (nI T) (R k) (N k) f').1 = nI b ∧ ∀ p, p < N k → ∃ m, zNv g 4 k 1 ≤ m ∧ m ≤ 9999 ∧ (zround c g (zcn c 5) k (nI T) (N k) (R k) f).2.2.2 (R k p) = nI m ∧ (zmgR J B (zcn c 5) k (zNv g 4 k 0) (nI T) (R k) (N k) f').2.2.2 p = nI m := by
  have hol := qhol DD hk
  have hc4 := (qF DD).2.2.2.2.1.2
  have n6 : N k ≤ 6 := by have := r6 k hk; omega
  have a := zNr_c DD c8 hk hT n6 (fun i hi => r7 k i (by omega) hi) (fun i j hi hj he => (r8 k k i j (by omega) (by omega) hi hj he).2) f
  have b := zNr_m DD c8 hk hT n6 (fun i hi => r7 k i (by omega) hi) f'
  refine ⟨_, b.2.2.1, a.1, b.1, fun p hp => ⟨_, zNr_lo DD hk n6 (fun i hi => r7 k i (by omega) hi) hp, ?_, a.2 p hp, b.2.1 p hp⟩⟩
  have := b.2.2.2.2.2.2 p hp
  omega
theorem qX_bad (Q : zQX h) (hd : 20 < d) (x : Int32) : zCI d nX11_bad nX13_bad [.int x] h := by
  obtain ⟨t, u, tr, c, g, hl, L, S, F0, I, W, td, rd, tp, A, Q⟩ := Q
  obtain ⟨e0, h9, K, D, E, tu, qd, hb, qt, q1, q2, q3, q4, q5, q6, q7, q8⟩ := id Q
  have ht : t = 7 ∨ t = 70 := by omega
  rcases qd with ⟨rfl, z0⟩ | ⟨t', J, B, Wd, rfl, t9, t27, M, DD, c8, c3, c4⟩
  · exact ⟨-1, zp0 h 1, _, zX_bad_0 K E hd x (qz4 z0 x), zXeI (zQ_e0 Q 1) (mX_bad_0 hd x), zQ_ref Q (by decide)⟩
  · have qf := qF DD
    have qj := qJ DD
    have hc0 := qf.1.2
    have hc1 := qf.2.1.2
    have hc2 := qf.2.2.1.2
    have hc3 := qf.2.2.2.1.2
    have hc4 := qf.2.2.2.2.1.2
    have hc5 := qf.2.2.2.2.2.1.2
    have hc6 := qf.2.2.2.2.2.2.1.2
    have hc7 := qf.2.2.2.2.2.2.2.1.2
    have rn := qrn DD c3
    by_cases z1 : zhs c 4 x = 0
    · exact ⟨-1, zp0 h 1, _, zX_bad_0 K E hd x z1, zXeI (zQ_e0 Q 1) (mX_bad_1 (zmd_0 M t9 K 1) t9 hd x ((qh4 DD x).trans z1)), zQ_ref Q (by decide)⟩
    · have z1' : ¬ zmh (J 6) x = 0 := fun w => z1 ((qh4 DD _).symm.trans w)
      obtain ⟨k, hk, rfl⟩ := qe4 DD z1
      obtain ⟨N, R, T, r1, r2, r3, r4, r5, r6, r7, r8⟩ := id q1
      have T6 : T < 64 := by have := (qhB (zcn c 3) (by omega)).2; omega
      obtain ⟨A0, hA⟩ := r1.2.2.2.2
      obtain ⟨h1, w1, w2, w3⟩ := zX_bad_1 K E r1 (nf := zcn c 5) (k := k) (by omega) qf.2.2.2.2.2.1.1 ht (by omega) hA hd z1
      have K1 := zK_sm K (w3.2.2.2 0 (by decide))
      have f := zf2_p0 w3 K1 0
      obtain ⟨I', A', m1, m2, m3, m4, m5⟩ := mX_bad (F0 := F0) (I := I) (W := W) (rd := rd) (tp := tp) (A := A) (zmd_f M t9 f (by decide)) t9 hd hc5 qj.2.2.2.2.2.1 (c := k) (by omega) (qkit DD hk).2 (qkit DD hk).1 r2 z1'
      obtain ⟨b, -, b1, b2, -⟩ := qRnd DD c8 r6 r7 r8 hk T6 A0 (A 23)
      rw [r3] at m1
      exact ⟨_, zp0 h1 0, _, w1, zXeI (zQ_e Q f (by decide)) (zXv (b1.trans b2.symm) m1), zQ_RS Q (by decide) f (zp0_K K1 0) ⟨m2 6 (by decide) (by decide) (by decide) (by decide) (by decide), m2 13 (by decide) (by decide) (by decide) (by decide) (by decide), m2 19 (by decide) (by decide) (by decide) (by decide) (by decide), m2 27 (by decide) (by decide) (by decide) (by decide) (by decide), m2 33 (by decide) (by decide) (by decide) (by decide) (by decide), m2 34 (by decide) (by decide) (by decide) (by decide) (by decide), m2 37 (by decide) (by decide) (by decide) (by decide) (by decide), m2 42 (by decide) (by decide) (by decide) (by decide) (by decide)⟩ m3 m4 ⟨m5 17 (by decide) (by decide), m5 18 (by decide) (by decide), m5 28 (by decide) (by decide), m5 32 (by decide) (by decide), m5 36 (by decide) (by decide), m5 38 (by decide) (by decide), m5 40 (by decide) (by decide), m5 41 (by decide) (by decide), m5 43 (by decide) (by decide), m5 44 (by decide) (by decide), m5 45 (by decide) (by decide)⟩ ⟨N, R, T, zrou_sm w2 (zfr_sm (zp0_fr K1 0) (by decide)), r2, r3, r4, r5, r6, r7, r8⟩⟩
theorem zX_odds_s {t : Nat} {tr : Int32} {c g : Nat → Int32} {N : Nat → Nat} {R : Nat → Nat → Nat} {tea : Int32} (K : zK h t tr) (E : zday h t c g) (D : zrou h N R tea) {nf k : Nat} (hnf : nf ≤ 6) (e5 : c 5 = nI nf) (ht : t = 7 ∨ t = 70) (hk : k < 3) (hd : 20 < d) (z1 : ¬ zhs c 4 (nI k) = 0) : ∃ h1, nzxL d nX11_odds [.ref 0, .int (nI k)] h = some (zit (zodT c g nf k (N k) (R k)) 0 (2 ^ N k) 0, h1) ∧ zK h1 t 0 ∧ zrou h1 N R tea ∧ zf2 10 17 h h1 := by
  have K0 := zp0_K K 0
  have f0 := zp0_fr K 0
  obtain ⟨h1, q1, q2, q3, q4⟩ := jX6_oddsOf (d := d - 1) (by omega) (by omega) hnf e5 hk (zrou_sm D (zfr_sm f0 (by omega))) (zday_sm E (zfr_sm f0 (by omega)))
  refine ⟨h1, iX11_odds (by omega) K.choose_spec.1 ?_, zK_sm K0 (q4.2.2.2 0 (by decide)), q2, zf2_tr (zf2_01 f0) (zf2_wk (zf2_of q4) (by decide) (by decide))⟩
  rw [eX11_odds_0, zkR9 K, Option.bind_some, jX0_has E (by omega), Option.bind_some, ← zhs, if_neg z1, zp0_of K, Option.bind_some, zkR1 K0, Option.bind_some, zkR9 K0, Option.bind_some, q1, Option.bind_some]
theorem qX_odds (Q : zQX h) (hd : 20 < d) (x : Int32) : zCL d nX11_odds nX13_odds [.int x] h := by
  obtain ⟨t, u, tr, c, g, hl, L, S, F0, I, W, td, rd, tp, A, Q⟩ := Q
  obtain ⟨e0, h9, K, D, E, tu, qd, hb, qt, q1, q2, q3, q4, q5, q6, q7, q8⟩ := id Q
  have ht : t = 7 ∨ t = 70 := by omega
  rcases qd with ⟨rfl, z0⟩ | ⟨t', J, B, Wd, rfl, t9, t27, M, DD, c8, c3, c4⟩
  · exact ⟨_, zp0 h 1, _, zX_odds_0 K E hd x (qz4 z0 x), zXeL (zQ_e0 Q 1) (mX_odds_0 hd x), zQ_ref Q (by decide)⟩
  · have qf := qF DD
    have qj := qJ DD
    have hc0 := qf.1.2
    have hc1 := qf.2.1.2
    have hc2 := qf.2.2.1.2
    have hc3 := qf.2.2.2.1.2
    have hc4 := qf.2.2.2.2.1.2
    have hc5 := qf.2.2.2.2.2.1.2
    have hc6 := qf.2.2.2.2.2.2.1.2
    have hc7 := qf.2.2.2.2.2.2.2.1.2
    have rn := qrn DD c3
    by_cases z1 : zhs c 4 x = 0
    · exact ⟨_, zp0 h 1, _, zX_odds_0 K E hd x z1, zXeL (zQ_e0 Q 1) (mX_odds_1 (zmd_0 M t9 K 1) t9 hd x ((qh4 DD x).trans z1)), zQ_ref Q (by decide)⟩
    · have z1' : ¬ zmh (J 6) x = 0 := fun w => z1 ((qh4 DD _).symm.trans w)
      obtain ⟨k, hk, rfl⟩ := qe4 DD z1
      obtain ⟨N, R, T, r1, r2, r3, r4, r5, r6, r7, r8⟩ := id q1
      obtain ⟨h1, w1, K1, w2, w3⟩ := zX_odds_s K E r1 (nf := zcn c 5) (k := k) (by omega) qf.2.2.2.2.2.1.1 ht (by omega) hd z1
      have f : zf2 10 17 h h1 := w3
      · obtain ⟨I', A', m1, m2, m3, m4, m5⟩ := mX_odds (F0 := F0) (I := I) (W := W) (rd := rd) (tp := tp) (A := A) (zmd_f M t9 f (by decide)) t9 hd hc5 qj.2.2.2.2.2.1 (c := k) (by omega) (qkit DD hk).2 (qkit DD hk).1 r2 z1'
        have hol := qhol DD hk
        have eq := zod_eq DD c8 hk (n := N k) (r := R k) (by have := r6 k hk; omega) (fun i hi => r7 k i (by omega) hi) (fun i j hi hj he => (r8 k k i j (by omega) (by omega) hi hj he).2) (2 ^ N k) 0 0 (by omega)
        exact ⟨_, h1, _, w1, zXeL (zQ_e Q f (by decide)) (zXvL eq m1), zQ_RS Q (by decide) f K1 ⟨m2 6 (by decide) (by decide) (by decide) (by decide) (by decide), m2 13 (by decide) (by decide) (by decide) (by decide) (by decide), m2 19 (by decide) (by decide) (by decide) (by decide) (by decide), m2 27 (by decide) (by decide) (by decide) (by decide) (by decide), m2 33 (by decide) (by decide) (by decide) (by decide) (by decide), m2 34 (by decide) (by decide) (by decide) (by decide) (by decide), m2 37 (by decide) (by decide) (by decide) (by decide) (by decide), m2 42 (by decide) (by decide) (by decide) (by decide) (by decide)⟩ m3 m4 ⟨m5 17 (by decide) (by decide), m5 18 (by decide) (by decide), m5 28 (by decide) (by decide), m5 32 (by decide) (by decide), m5 36 (by decide) (by decide), m5 38 (by decide) (by decide), m5 40 (by decide) (by decide), m5 41 (by decide) (by decide), m5 43 (by decide) (by decide), m5 44 (by decide) (by decide), m5 45 (by decide) (by decide)⟩ ⟨N, R, T, w2, r2, r3, r4, r5, r6, r7, r8⟩⟩
theorem qX_comes (Q : zQX h) (hd : 20 < d) (x : Int32) : zCI d nX11_comes nX13_comes [.int x] h := by
  obtain ⟨t, u, tr, c, g, hl, L, S, F0, I, W, td, rd, tp, A, Q⟩ := Q
  obtain ⟨e0, h9, K, D, E, tu, qd, hb, qt, q1, q2, q3, q4, q5, q6, q7, q8⟩ := id Q
  have ht : t = 7 ∨ t = 70 := by omega
  obtain ⟨N, R, T, r1, r2, r3, r4, r5, r6, r7, r8⟩ := id q1
  rcases qd with ⟨rfl, z0⟩ | ⟨t', J, B, Wd, rfl, t9, t27, M, DD, c8, c3, c4⟩
  · have ee : (if zhs c 3 x = 0 then (1 : Int32) else if zcar N R x 0 3 = -1 then 6 else 0) = 1 := if_pos (qz3 z0 x)
    have w := zX_comes_0 K E r1 hd x (by rw [ee]; decide)
    rw [ee] at w
    exact ⟨-1, zp0 h 1, _, w, zXeI (zQ_e0 Q 1) (mX_comes_0 hd x), zQ_ref Q (by decide)⟩
  · have qf := qF DD
    have qj := qJ DD
    have hc0 := qf.1.2
    have hc1 := qf.2.1.2
    have hc2 := qf.2.2.1.2
    have hc3 := qf.2.2.2.1.2
    have hc4 := qf.2.2.2.2.1.2
    have hc5 := qf.2.2.2.2.2.1.2
    have hc6 := qf.2.2.2.2.2.2.1.2
    have hc7 := qf.2.2.2.2.2.2.2.1.2
    have rn := qrn DD c3
    by_cases z1 : zhs c 3 x = 0
    · have ee : (if zhs c 3 x = 0 then (1 : Int32) else if zcar N R x 0 3 = -1 then 6 else 0) = 1 := if_pos z1
      have w := zX_comes_0 K E r1 hd x (by rw [ee]; decide)
      rw [ee] at w
      exact ⟨-1, zp0 h 1, _, w, zXeI (zQ_e0 Q 1) (mX_comes_1 (zmd_0 M t9 K 1) t9 hd x ((qh3 DD x).trans z1)), zQ_ref Q (by decide)⟩
    · have z1' : ¬ zmh (J 5) x = 0 := fun w => z1 ((qh3 DD _).symm.trans w)
      obtain ⟨r, hr, rfl⟩ := qe3 DD z1
      have T6 : T < 64 := by have := (qhB (zcn c 3) (by omega)).2; omega
      obtain ⟨A0, hA⟩ := r1.2.2.2.2
      have e3 := zcar_3 (N := N) (R := R) (nI r) hc4 r5
      have Rb : ∀ q i, 0 ≤ q → q < 0 + zcn c 4 → i < N q → R q i < 2 ^ 31 := fun q i _ a b => by have := r7 q i (by omega) b; omega
      rcases zcar_sp (N := N) (R := R) (x := r) (by omega) (zcn c 4) 0 (by omega) Rb with ⟨w, no⟩ | ⟨k, p, -, hk, hp, er, w⟩
      · have ee : (if zhs c 3 (nI r) = 0 then (1 : Int32) else if zcar N R (nI r) 0 3 = -1 then 6 else 0) = 6 := by rw [if_neg z1, if_pos (e3.trans w)]
        have v := zX_comes_0 K E r1 hd (nI r) (by rw [ee]; decide)
        rw [ee] at v
        exact ⟨-1, zp0 h 6, _, v, zXeI (zQ_e0 Q 6) (mX_comes_2 (zmd_0 M t9 K 6) t9 r2 hc4 qj.2.2.2.2.1 hd _ z1' w), zQ_ref Q (by decide)⟩
      · have hk : k < zcn c 4 := by omega
        have ee : (if zhs c 3 (nI r) = 0 then (1 : Int32) else if zcar N R (nI r) 0 3 = -1 then 6 else 0) = 0 := by rw [if_neg z1, if_neg (fun v => nI_c3 k (by omega) (w.symm.trans (e3.symm.trans v)))]
        have hu : ∀ q, q < p → R k q ≠ R k p := fun q hq he => by have := (r8 k k q p (by omega) (by omega) (by omega) hp he).2; omega
        obtain ⟨h1, w1, w2, w3⟩ := zX_comes_1 K E r1 (nf := zcn c 5) (k := k) (r := r) (by omega) qf.2.2.2.2.2.1.1 ht (by omega) (by omega) (e3.trans w) hA hd ee
        have K1 := zK_sm K (w3.2.2.2 0 (by decide))
        have f := zf2_p0 w3 K1 0
        subst er
        obtain ⟨I', A', m1, m2, m3, m4, m5⟩ := mX_comes (F0 := F0) (I := I) (W := W) (rd := rd) (tp := tp) (A := A) (zmd_f M t9 f (by decide)) t9 hd hc5 qj.2.2.2.2.2.1 (c := k) (by omega) (qkit DD hk).2 (qkit DD hk).1 r2 hc4 qj.2.2.2.2.1 w hp hu z1'
        obtain ⟨b, -, -, -, bb⟩ := qRnd DD c8 r6 r7 r8 hk T6 A0 (A 23)
        obtain ⟨m, l1, l2, b1, b2⟩ := bb p hp
        rw [r3] at m1
        exact ⟨_, zp0 h1 0, _, w1, zXeI (zQ_e Q f (by decide)) (zXv (b1.trans b2.symm) m1), zQ_RS Q (by decide) f (zp0_K K1 0) ⟨m2 6 (by decide) (by decide) (by decide) (by decide) (by decide), m2 13 (by decide) (by decide) (by decide) (by decide) (by decide), m2 19 (by decide) (by decide) (by decide) (by decide) (by decide), m2 27 (by decide) (by decide) (by decide) (by decide) (by decide), m2 33 (by decide) (by decide) (by decide) (by decide) (by decide), m2 34 (by decide) (by decide) (by decide) (by decide) (by decide), m2 37 (by decide) (by decide) (by decide) (by decide) (by decide), m2 42 (by decide) (by decide) (by decide) (by decide) (by decide)⟩ m3 m4 ⟨m5 17 (by decide) (by decide), m5 18 (by decide) (by decide), m5 28 (by decide) (by decide), m5 32 (by decide) (by decide), m5 36 (by decide) (by decide), m5 38 (by decide) (by decide), m5 40 (by decide) (by decide), m5 41 (by decide) (by decide), m5 43 (by decide) (by decide), m5 44 (by decide) (by decide), m5 45 (by decide) (by decide)⟩ ⟨N, R, T, zrou_sm w2 (zfr_sm (zp0_fr K1 0) (by decide)), r2, r3, r4, r5, r6, r7, r8⟩⟩
theorem qX_heat (Q : zQX h) (hd : 20 < d) (x : Int32) : zCI d nX11_heat nX13_heat [.int x] h := by
  obtain ⟨t, u, tr, c, g, hl, L, S, F0, I, W, td, rd, tp, A, Q⟩ := Q
  obtain ⟨e0, h9, K, D, E, tu, qd, hb, qt, q1, q2, q3, q4, q5, q6, q7, q8⟩ := id Q
  have ht : t = 7 ∨ t = 70 := by omega
  obtain ⟨N, R, T, r1, r2, r3, r4, r5, r6, r7, r8⟩ := id q1
  rcases qd with ⟨rfl, z0⟩ | ⟨t', J, B, Wd, rfl, t9, t27, M, DD, c8, c3, c4⟩
  · have ee : (if zhs c 3 x = 0 then (1 : Int32) else if zcar N R x 0 3 = -1 then 6 else 0) = 1 := if_pos (qz3 z0 x)
    have w := zX_heat_0 K E r1 hd x (by rw [ee]; decide)
    rw [ee] at w
    exact ⟨-1000, zp0 h 1, _, w, zXeI (zQ_e0 Q 1) (mX_heat_0 hd x), zQ_ref Q (by decide)⟩
  · have qf := qF DD
    have qj := qJ DD
    have hc0 := qf.1.2
    have hc1 := qf.2.1.2
    have hc2 := qf.2.2.1.2
    have hc3 := qf.2.2.2.1.2
    have hc4 := qf.2.2.2.2.1.2
    have hc5 := qf.2.2.2.2.2.1.2
    have hc6 := qf.2.2.2.2.2.2.1.2
    have hc7 := qf.2.2.2.2.2.2.2.1.2
    have rn := qrn DD c3
    by_cases z1 : zhs c 3 x = 0
    · have ee : (if zhs c 3 x = 0 then (1 : Int32) else if zcar N R x 0 3 = -1 then 6 else 0) = 1 := if_pos z1
      have w := zX_heat_0 K E r1 hd x (by rw [ee]; decide)
      rw [ee] at w
      exact ⟨-1000, zp0 h 1, _, w, zXeI (zQ_e0 Q 1) (mX_heat_1 (zmd_0 M t9 K 1) t9 hd x ((qh3 DD x).trans z1)), zQ_ref Q (by decide)⟩
    · have z1' : ¬ zmh (J 5) x = 0 := fun w => z1 ((qh3 DD _).symm.trans w)
      obtain ⟨r, hr, rfl⟩ := qe3 DD z1
      have T6 : T < 64 := by have := (qhB (zcn c 3) (by omega)).2; omega
      obtain ⟨A0, hA⟩ := r1.2.2.2.2
      have e3 := zcar_3 (N := N) (R := R) (nI r) hc4 r5
      have Rb : ∀ q i, 0 ≤ q → q < 0 + zcn c 4 → i < N q → R q i < 2 ^ 31 := fun q i _ a b => by have := r7 q i (by omega) b; omega
      rcases zcar_sp (N := N) (R := R) (x := r) (by omega) (zcn c 4) 0 (by omega) Rb with ⟨w, no⟩ | ⟨k, p, -, hk, hp, er, w⟩
      · have ee : (if zhs c 3 (nI r) = 0 then (1 : Int32) else if zcar N R (nI r) 0 3 = -1 then 6 else 0) = 6 := by rw [if_neg z1, if_pos (e3.trans w)]
        have v := zX_heat_0 K E r1 hd (nI r) (by rw [ee]; decide)
        rw [ee] at v
        exact ⟨-1000, zp0 h 6, _, v, zXeI (zQ_e0 Q 6) (mX_heat_2 (zmd_0 M t9 K 6) t9 r2 hc4 qj.2.2.2.2.1 hd _ z1' w), zQ_ref Q (by decide)⟩
      · have hk : k < zcn c 4 := by omega
        have ee : (if zhs c 3 (nI r) = 0 then (1 : Int32) else if zcar N R (nI r) 0 3 = -1 then 6 else 0) = 0 := by rw [if_neg z1, if_neg (fun v => nI_c3 k (by omega) (w.symm.trans (e3.symm.trans v)))]
        have hu : ∀ q, q < p → R k q ≠ R k p := fun q hq he => by have := (r8 k k q p (by omega) (by omega) (by omega) hp he).2; omega
        obtain ⟨h1, w1, w2, w3⟩ := zX_heat_1 K E r1 (nf := zcn c 5) (k := k) (r := r) (by omega) qf.2.2.2.2.2.1.1 ht (by omega) (by omega) (e3.trans w) hA hd ee
        have K1 := zK_sm K (w3.2.2.2 0 (by decide))
        have f := zf2_p0 w3 K1 0
        subst er
        obtain ⟨I', A', m1, m2, m3, m4, m5⟩ := mX_heat (F0 := F0) (I := I) (W := W) (rd := rd) (tp := tp) (A := A) (zmd_f M t9 f (by decide)) t9 hd hc5 qj.2.2.2.2.2.1 (c := k) (by omega) (qkit DD hk).2 (qkit DD hk).1 r2 hc4 qj.2.2.2.2.1 w hp hu z1'
        obtain ⟨b, -, -, -, bb⟩ := qRnd DD c8 r6 r7 r8 hk T6 A0 (A 23)
        obtain ⟨m, l1, l2, b1, b2⟩ := bb p hp
        rw [r3] at m1
        exact ⟨_, zp0 h1 0, _, w1, zXeI (zQ_e Q f (by decide)) (zXv (by rw [b1, b2]; exact (zNbd_c DD c8 hk l1 l2).2.2.2) m1), zQ_RS Q (by decide) f (zp0_K K1 0) ⟨m2 6 (by decide) (by decide) (by decide) (by decide) (by decide), m2 13 (by decide) (by decide) (by decide) (by decide) (by decide), m2 19 (by decide) (by decide) (by decide) (by decide) (by decide), m2 27 (by decide) (by decide) (by decide) (by decide) (by decide), m2 33 (by decide) (by decide) (by decide) (by decide) (by decide), m2 34 (by decide) (by decide) (by decide) (by decide) (by decide), m2 37 (by decide) (by decide) (by decide) (by decide) (by decide), m2 42 (by decide) (by decide) (by decide) (by decide) (by decide)⟩ m3 m4 ⟨m5 17 (by decide) (by decide), m5 18 (by decide) (by decide), m5 28 (by decide) (by decide), m5 32 (by decide) (by decide), m5 36 (by decide) (by decide), m5 38 (by decide) (by decide), m5 40 (by decide) (by decide), m5 41 (by decide) (by decide), m5 43 (by decide) (by decide), m5 44 (by decide) (by decide), m5 45 (by decide) (by decide)⟩ ⟨N, R, T, zrou_sm w2 (zfr_sm (zp0_fr K1 0) (by decide)), r2, r3, r4, r5, r6, r7, r8⟩⟩
theorem qX_costs (Q : zQX h) (hd : 20 < d) (x : Int32) : zCI d nX11_costs nX13_costs [.int x] h := by
  obtain ⟨t, u, tr, c, g, hl, L, S, F0, I, W, td, rd, tp, A, Q⟩ := Q
  obtain ⟨e0, h9, K, D, E, tu, qd, hb, qt, q1, q2, q3, q4, q5, q6, q7, q8⟩ := id Q
  have ht : t = 7 ∨ t = 70 := by omega
  obtain ⟨N, R, T, r1, r2, r3, r4, r5, r6, r7, r8⟩ := id q1
  rcases qd with ⟨rfl, z0⟩ | ⟨t', J, B, Wd, rfl, t9, t27, M, DD, c8, c3, c4⟩
  · have ee : (if zhs c 3 x = 0 then (1 : Int32) else if zcar N R x 0 3 = -1 then 6 else 0) = 1 := if_pos (qz3 z0 x)
    have w := zX_costs_0 K E r1 hd x (by rw [ee]; decide)
    rw [ee] at w
    exact ⟨-1000, zp0 h 1, _, w, zXeI (zQ_e0 Q 1) (mX_costs_0 hd x), zQ_ref Q (by decide)⟩
  · have qf := qF DD
    have qj := qJ DD
    have hc0 := qf.1.2
    have hc1 := qf.2.1.2
    have hc2 := qf.2.2.1.2
    have hc3 := qf.2.2.2.1.2
    have hc4 := qf.2.2.2.2.1.2
    have hc5 := qf.2.2.2.2.2.1.2
    have hc6 := qf.2.2.2.2.2.2.1.2
    have hc7 := qf.2.2.2.2.2.2.2.1.2
    have rn := qrn DD c3
    by_cases z1 : zhs c 3 x = 0
    · have ee : (if zhs c 3 x = 0 then (1 : Int32) else if zcar N R x 0 3 = -1 then 6 else 0) = 1 := if_pos z1
      have w := zX_costs_0 K E r1 hd x (by rw [ee]; decide)
      rw [ee] at w
      exact ⟨-1000, zp0 h 1, _, w, zXeI (zQ_e0 Q 1) (mX_costs_1 (zmd_0 M t9 K 1) t9 hd x ((qh3 DD x).trans z1)), zQ_ref Q (by decide)⟩
    · have z1' : ¬ zmh (J 5) x = 0 := fun w => z1 ((qh3 DD _).symm.trans w)
      obtain ⟨r, hr, rfl⟩ := qe3 DD z1
      have T6 : T < 64 := by have := (qhB (zcn c 3) (by omega)).2; omega
      obtain ⟨A0, hA⟩ := r1.2.2.2.2
      have e3 := zcar_3 (N := N) (R := R) (nI r) hc4 r5
      have Rb : ∀ q i, 0 ≤ q → q < 0 + zcn c 4 → i < N q → R q i < 2 ^ 31 := fun q i _ a b => by have := r7 q i (by omega) b; omega
      rcases zcar_sp (N := N) (R := R) (x := r) (by omega) (zcn c 4) 0 (by omega) Rb with ⟨w, no⟩ | ⟨k, p, -, hk, hp, er, w⟩
      · have ee : (if zhs c 3 (nI r) = 0 then (1 : Int32) else if zcar N R (nI r) 0 3 = -1 then 6 else 0) = 6 := by rw [if_neg z1, if_pos (e3.trans w)]
        have v := zX_costs_0 K E r1 hd (nI r) (by rw [ee]; decide)
        rw [ee] at v
        exact ⟨-1000, zp0 h 6, _, v, zXeI (zQ_e0 Q 6) (mX_costs_2 (zmd_0 M t9 K 6) t9 r2 hc4 qj.2.2.2.2.1 hd _ z1' w), zQ_ref Q (by decide)⟩
      · have hk : k < zcn c 4 := by omega
        have ee : (if zhs c 3 (nI r) = 0 then (1 : Int32) else if zcar N R (nI r) 0 3 = -1 then 6 else 0) = 0 := by rw [if_neg z1, if_neg (fun v => nI_c3 k (by omega) (w.symm.trans (e3.symm.trans v)))]
        have hu : ∀ q, q < p → R k q ≠ R k p := fun q hq he => by have := (r8 k k q p (by omega) (by omega) (by omega) hp he).2; omega
        have Tr : 2 ^ r < 64 := by have : (2 : Nat) ^ r ≤ 2 ^ 5 := Nat.pow_le_pow_right (by decide) (by omega); omega
        have sh := (qhB r (by omega)).1
        obtain ⟨n1, l1, a1, b1, -⟩ := qRnd DD c8 r6 r7 r8 hk Tr A0 (A 23)
        obtain ⟨n0, l0, a0, b0, -⟩ := qRnd DD c8 r6 r7 r8 hk (T := 0) (by decide) A0 (A 23)
        have a1' : ∀ f, (zround c g (zcn c 5) k (1 <<< (nI r &&& 31)) (N k) (R k) f).1 = nI n1 := fun f => by
          obtain ⟨n', l', a', b', -⟩ := qRnd DD c8 r6 r7 r8 hk Tr f (A 23)
          rw [sh, a', ← b', b1]
        have a0' : ∀ f, (zround c g (zcn c 5) k 0 (N k) (R k) f).1 = nI n0 := fun f => by
          obtain ⟨n', l', a', b', -⟩ := qRnd DD c8 r6 r7 r8 hk (T := 0) (by decide) f (A 23)
          exact a'.trans (b'.symm.trans b0)
        have b1' : ∀ f, (zmgR J B (zcn c 5) k (zNv g 4 k 0) (1 <<< (nI r &&& 31)) (R k) (N k) f).1 = nI n1 := fun f => by
          obtain ⟨n', l', a', b', -⟩ := qRnd DD c8 r6 r7 r8 hk Tr A0 f
          rw [sh, b', ← a', a1]
        have b0' : ∀ f, (zmgR J B (zcn c 5) k (zNv g 4 k 0) 0 (R k) (N k) f).1 = nI n0 := fun f => by
          obtain ⟨n', l', a', b', -⟩ := qRnd DD c8 r6 r7 r8 hk (T := 0) (by decide) A0 f
          exact b'.trans (a'.symm.trans a0)
        obtain ⟨h1, w1, w2, w3⟩ := zX_costs_1 K E r1 (nf := zcn c 5) (k := k) (r := r) (by omega) qf.2.2.2.2.2.1.1 ht (by omega) (by omega) (e3.trans w) hA l1 l0 a1' a0' hd ee
        have K1 := zK_sm K (w3.2.2.2 0 (by decide))
        have f := zf2_p0 w3 K1 0
        obtain ⟨I', A', m1, m2, m3, m4, m5⟩ := mX_costs (F0 := F0) (I := I) (W := W) (rd := rd) (tp := tp) (A := A) (zmd_f M t9 f (by decide)) t9 hd hc5 qj.2.2.2.2.2.1 (c := k) (by omega) (qkit DD hk).2 (qkit DD hk).1 r2 hc4 qj.2.2.2.2.1 w l0 l1 b0' b1' z1'
        exact ⟨_, zp0 h1 0, _, w1, zXeI (zQ_e Q f (by decide)) (m1), zQ_RS Q (by decide) f (zp0_K K1 0) ⟨m2 6 (by decide) (by decide) (by decide) (by decide) (by decide), m2 13 (by decide) (by decide) (by decide) (by decide) (by decide), m2 19 (by decide) (by decide) (by decide) (by decide) (by decide), m2 27 (by decide) (by decide) (by decide) (by decide) (by decide), m2 33 (by decide) (by decide) (by decide) (by decide) (by decide), m2 34 (by decide) (by decide) (by decide) (by decide) (by decide), m2 37 (by decide) (by decide) (by decide) (by decide) (by decide), m2 42 (by decide) (by decide) (by decide) (by decide) (by decide)⟩ m3 m4 ⟨m5 17 (by decide) (by decide), m5 18 (by decide) (by decide), m5 28 (by decide) (by decide), m5 32 (by decide) (by decide), m5 36 (by decide) (by decide), m5 38 (by decide) (by decide), m5 40 (by decide) (by decide), m5 41 (by decide) (by decide), m5 43 (by decide) (by decide), m5 44 (by decide) (by decide), m5 45 (by decide) (by decide)⟩ ⟨N, R, T, zrou_sm w2 (zfr_sm (zp0_fr K1 0) (by decide)), r2, r3, r4, r5, r6, r7, r8⟩⟩
end NZQD
