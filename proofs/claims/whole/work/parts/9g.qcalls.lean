/-! coupling: calls (best, bestAt, share) -/
section NZQG
variable {d : Nat} {h : nzH}
theorem qpopI : ∀ q, q < 64 → zpop q ≤ 6 := zpop_le
/-- the refusals of best and bestAt, both sides -/
theorem qX_best (Q : zQX h) (hd : 20 < d) (x y : Int32) : zCI d nX11_best nX13_best [.int x, .int y] h := by
  obtain ⟨t, u, tr, c, g, hl, L, S, F0, I, W, td, rd, tp, A, Q⟩ := Q
  obtain ⟨e0, h9, K, D, E, tu, qd, hb, qt, q1, q2, q3, q4, q5, q6, q7, q8⟩ := id Q
  have ht : t = 7 ∨ t = 70 := by omega
  rcases qd with ⟨rfl, z0⟩ | ⟨t', J, B, Wd, rfl, t9, t27, M, DD, c8, c3, c4⟩
  · exact ⟨-1, zp0 h 1, _, zX_best_no K hd x y 1 (zX_bt_0 K E (by omega) x y (qz4 z0 x)) (by decide), zXeI (zQ_e0 Q 1) (mX_best_no hd x y 1 (mX_rb_n (by omega) x y) (by decide)), zQ_ref Q (by decide)⟩
  · have qf := qF DD
    have qj := qJ DD
    have hc0 := qf.1.2
    have hc1 := qf.2.1.2
    have hc2 := qf.2.2.1.2
    have hc3 := qf.2.2.2.1.2
    have hc4 := qf.2.2.2.2.1.2
    have hc5 := qf.2.2.2.2.2.1.2
    have hc6 := qf.2.2.2.2.2.2.1.2
    have hc7 := qf.2.2.2.2.2.2.2.1.2
    have rn := qrn DD c3
    have zr : zrow c 3 = nI (zcn c 3) := (zrow_n c (s := 3) (by decide)).trans qf.2.2.2.1.1
    have i1 := qhI hc3 y
    have i2 := qhJ hc3 y
    rw [← zr] at i1
    rw [← qj.2.2.2.1] at i2
    by_cases z1 : zhs c 4 x = 0
    · exact ⟨-1, zp0 h 1, _, zX_best_no K hd x y 1 (zX_bt_0 K E (by omega) x y z1) (by decide), zXeI (zQ_e0 Q 1) (mX_best_no hd x y 1 (mX_rb_0 (zmd_0 M t9 K 1) t9 (by omega) x y ((qh4 DD x).trans z1)) (by decide)), zQ_ref Q (by decide)⟩
    · have z1' : ¬ zmh (J 6) x = 0 := fun w => z1 ((qh4 DD _).symm.trans w)
      by_cases z2 : ∃ q, q < 2 ^ zcn c 3 ∧ y = nI q
      · have i1' := i1.mpr z2
        have i2' := i2.mpr z2
        obtain ⟨k, hk, rfl⟩ := qe4 DD z1
        obtain ⟨q, hq, rfl⟩ := z2
        have h64 := (qhB (zcn c 3) (by omega)).2
        have hol := qhol DD hk
        have p6 := qpopI q (by omega)
        have bc := zX_bt_2 (d := d - 1) K E (by omega) (nI k) (q := q) (by omega) z1 i1'
        rw [hol.1] at bc
        by_cases z3 : zpop q ≤ zNv g 4 k 2
        · rw [if_neg (nI_nlt z3 (by omega))] at bc
          obtain ⟨Wt, Pk, O, kn, o1, o2⟩ := id q2
          obtain ⟨h1, Wt', Pk', O', kn', O2, w, p, w1, K1, w3, w4, w5⟩ := zX_best_ok (nf := zcn c 5) (n := zcn c 3) (Hf := fun k => zNv g 4 k 2) K o1 E ht hd (by omega) qf.2.2.2.2.2.1.1 hc3 qf.2.2.2.1.1 (k := k) (q := q) (by omega) hol.2.2.2 hol.1 o2 (by omega) bc
          have f := zf2_p0 w3 K1 0
          have M1 := zmd_f M t9 f (by decide)
          have br := mX_rb_2 (F0 := F0) (I := upd I 0 0) (W := W) (rd := rd) (tp := tp) (A := A) (d := d - 1) M1 t9 (by omega) (c := k) (q := q) (by omega) (by omega) z1' i2'.2
          rw [hol.2.1, if_pos (nI_le z3 (by omega))] at br
          obtain ⟨I', A', m1, m2, m3, m4, m5⟩ := mX_best M1 t9 hd hc5 qj.2.2.2.2.2.1 (c := k) (by omega) (qkit DD hk).2 (qkit DD hk).1 (by omega) br
          obtain ⟨b, tt, l, b6, t32, e1, e2, e3, -⟩ := zbest_eq DD c8 hk hq z3 O2 w p (A 26)
          rw [e2, e3, qmul b (by omega), nI_add] at m1
          exact ⟨_, zp0 h1 0, _, w1, zXeI (zQ_e Q f (by decide)) (zXv e1 m1), zQ_O Q (by decide) f (zp0_K K1 0) ⟨m2 6 (by decide) (by decide) (by decide) (by decide) (by decide) (by decide) (by decide), m2 13 (by decide) (by decide) (by decide) (by decide) (by decide) (by decide) (by decide), m2 19 (by decide) (by decide) (by decide) (by decide) (by decide) (by decide) (by decide), m2 27 (by decide) (by decide) (by decide) (by decide) (by decide) (by decide) (by decide), m2 33 (by decide) (by decide) (by decide) (by decide) (by decide) (by decide) (by decide), m2 34 (by decide) (by decide) (by decide) (by decide) (by decide) (by decide) (by decide), m2 37 (by decide) (by decide) (by decide) (by decide) (by decide) (by decide) (by decide), m2 42 (by decide) (by decide) (by decide) (by decide) (by decide) (by decide) (by decide)⟩ m3 m4 ⟨m5 17 (by decide) (by decide) (by decide), m5 18 (by decide) (by decide) (by decide), m5 28 (by decide) (by decide) (by decide), m5 32 (by decide) (by decide) (by decide), m5 36 (by decide) (by decide) (by decide), m5 38 (by decide) (by decide) (by decide), m5 40 (by decide) (by decide) (by decide), m5 41 (by decide) (by decide) (by decide), m5 43 (by decide) (by decide) (by decide), m5 44 (by decide) (by decide) (by decide), m5 45 (by decide) (by decide) (by decide)⟩ ⟨Wt', Pk', O', kn', zord_sm w4 (zfr_sm (zp0_fr K1 0) (by decide)), w5⟩⟩
        · rw [if_pos (nI_lt (by omega) (by omega))] at bc
          have br := mX_rb_2 (F0 := F0) (I := upd I 0 0) (W := W) (rd := rd) (tp := tp) (A := A) (d := d - 1) (zmd_0 M t9 K 3) t9 (by omega) (c := k) (q := q) (by omega) (by omega) z1' i2'.2
          rw [hol.2.1, if_neg (nI_ge (by omega) (by omega))] at br
          exact ⟨-1, zp0 h 3, _, zX_best_no K hd _ _ 3 bc (by decide), zXeI (zQ_e0 Q 3) (mX_best_no hd _ _ 3 br (by decide)), zQ_ref Q (by decide)⟩
      · have j2 : y < 0 ∨ ¬ y < (1 <<< (J 5 &&& 31)) := by
          by_cases y0 : y < 0
          · exact .inl y0
          · exact .inr (fun w => z2 (i2.mp ⟨y0, w⟩))
        exact ⟨-1, zp0 h 1, _, zX_best_no K hd x y 1 (zX_bt_1 K E (by omega) x y z1 (fun w => z2 (i1.mp w))) (by decide), zXeI (zQ_e0 Q 1) (mX_best_no hd x y 1 (mX_rb_1 (zmd_0 M t9 K 1) t9 (by omega) x y z1' j2) (by decide)), zQ_ref Q (by decide)⟩
theorem qX_bestAt (Q : zQX h) (hd : 20 < d) (x y v : Int32) : zCI d nX11_bestAt nX13_bestAt [.int x, .int y, .int v] h := by
  obtain ⟨t, u, tr, c, g, hl, L, S, F0, I, W, td, rd, tp, A, Q⟩ := Q
  obtain ⟨e0, h9, K, D, E, tu, qd, hb, qt, q1, q2, q3, q4, q5, q6, q7, q8⟩ := id Q
  have ht : t = 7 ∨ t = 70 := by omega
  rcases qd with ⟨rfl, z0⟩ | ⟨t', J, B, Wd, rfl, t9, t27, M, DD, c8, c3, c4⟩
  · exact ⟨-1, zp0 h 1, _, zX_bestAt_no K hd x y v 1 (zX_bt_0 K E (by omega) x y (qz4 z0 x)) (by decide), zXeI (zQ_e0 Q 1) (mX_bestAt_no hd x y v 1 (mX_rb_n (by omega) x y) (by decide)), zQ_ref Q (by decide)⟩
  · have qf := qF DD
    have qj := qJ DD
    have hc0 := qf.1.2
    have hc1 := qf.2.1.2
    have hc2 := qf.2.2.1.2
    have hc3 := qf.2.2.2.1.2
    have hc4 := qf.2.2.2.2.1.2
    have hc5 := qf.2.2.2.2.2.1.2
    have hc6 := qf.2.2.2.2.2.2.1.2
    have hc7 := qf.2.2.2.2.2.2.2.1.2
    have rn := qrn DD c3
    have zr : zrow c 3 = nI (zcn c 3) := (zrow_n c (s := 3) (by decide)).trans qf.2.2.2.1.1
    have i1 := qhI hc3 y
    have i2 := qhJ hc3 y
    rw [← zr] at i1
    rw [← qj.2.2.2.1] at i2
    by_cases z1 : zhs c 4 x = 0
    · exact ⟨-1, zp0 h 1, _, zX_bestAt_no K hd x y v 1 (zX_bt_0 K E (by omega) x y z1) (by decide), zXeI (zQ_e0 Q 1) (mX_bestAt_no hd x y v 1 (mX_rb_0 (zmd_0 M t9 K 1) t9 (by omega) x y ((qh4 DD x).trans z1)) (by decide)), zQ_ref Q (by decide)⟩
    · have z1' : ¬ zmh (J 6) x = 0 := fun w => z1 ((qh4 DD _).symm.trans w)
      by_cases z2 : ∃ q, q < 2 ^ zcn c 3 ∧ y = nI q
      · have i1' := i1.mpr z2
        have i2' := i2.mpr z2
        obtain ⟨k, hk, rfl⟩ := qe4 DD z1
        obtain ⟨q, hq, rfl⟩ := z2
        have h64 := (qhB (zcn c 3) (by omega)).2
        have hol := qhol DD hk
        have p6 := qpopI q (by omega)
        have bc := zX_bt_2 (d := d - 1) K E (by omega) (nI k) (q := q) (by omega) z1 i1'
        rw [hol.1] at bc
        by_cases z3 : zpop q ≤ zNv g 4 k 2
        · rw [if_neg (nI_nlt z3 (by omega))] at bc
          by_cases z4 : v < 0 ∨ ¬ v < nI (zpop q)
          · have br := mX_rb_2 (F0 := F0) (I := upd I 0 0) (W := W) (rd := rd) (tp := tp) (A := A) (d := d - 1) (zmd_0 M t9 K 1) t9 (by omega) (c := k) (q := q) (by omega) (by omega) z1' i2'.2
            rw [hol.2.1, if_pos (nI_le z3 (by omega))] at br
            exact ⟨-1, zp0 h 1, _, zX_bestAt_out K hd _ v (by omega) bc z4, zXeI (zQ_e0 Q 1) (mX_bestAt_out hd _ v (by omega) br z4), zQ_ref Q (by decide)⟩
          · obtain ⟨i, hi2, rfl⟩ := nI_of (x := v) (fun w => z4 (.inl w))
            have hi : i < zpop q := by
              rcases Nat.lt_or_ge i (zpop q) with w | w
              · exact w
              · exact absurd (.inr (nI_nlt w hi2)) z4
            obtain ⟨Wt, Pk, O, kn, o1, o2⟩ := id q2
            obtain ⟨h1, Wt', Pk', O', kn', O2, w, p, w1, K1, w3, w4, w5⟩ := zX_bestAt_ok (nf := zcn c 5) (n := zcn c 3) (Hf := fun k => zNv g 4 k 2) K o1 E ht hd (by omega) qf.2.2.2.2.2.1.1 hc3 qf.2.2.2.1.1 (k := k) (q := q) (by omega) hol.2.2.2 hol.1 o2 (by omega) hi p6 bc
            have f := zf2_p0 w3 K1 0
            have M1 := zmd_f M t9 f (by decide)
            have br := mX_rb_2 (F0 := F0) (I := upd I 0 0) (W := W) (rd := rd) (tp := tp) (A := A) (d := d - 1) M1 t9 (by omega) (c := k) (q := q) (by omega) (by omega) z1' i2'.2
            rw [hol.2.1, if_pos (nI_le z3 (by omega))] at br
            obtain ⟨I', A', m1, m2, m3, m4, m5⟩ := mX_bestAt M1 t9 hd hc5 qj.2.2.2.2.2.1 (c := k) (by omega) (qkit DD hk).2 (qkit DD hk).1 (by omega) hi p6 br
            obtain ⟨b, tt, l, b6, t32, e1, e2, e3, e4⟩ := zbest_eq DD c8 hk hq z3 O2 w p (A 26)
            exact ⟨_, zp0 h1 0, _, w1, zXeI (zQ_e Q f (by decide)) (zXv ((e4 i hi).1.trans (e4 i hi).2.symm) m1), zQ_O Q (by decide) f (zp0_K K1 0) ⟨m2 6 (by decide) (by decide) (by decide) (by decide) (by decide) (by decide) (by decide), m2 13 (by decide) (by decide) (by decide) (by decide) (by decide) (by decide) (by decide), m2 19 (by decide) (by decide) (by decide) (by decide) (by decide) (by decide) (by decide), m2 27 (by decide) (by decide) (by decide) (by decide) (by decide) (by decide) (by decide), m2 33 (by decide) (by decide) (by decide) (by decide) (by decide) (by decide) (by decide), m2 34 (by decide) (by decide) (by decide) (by decide) (by decide) (by decide) (by decide), m2 37 (by decide) (by decide) (by decide) (by decide) (by decide) (by decide) (by decide), m2 42 (by decide) (by decide) (by decide) (by decide) (by decide) (by decide) (by decide)⟩ m3 m4 ⟨m5 17 (by decide) (by decide) (by decide), m5 18 (by decide) (by decide) (by decide), m5 28 (by decide) (by decide) (by decide), m5 32 (by decide) (by decide) (by decide), m5 36 (by decide) (by decide) (by decide), m5 38 (by decide) (by decide) (by decide), m5 40 (by decide) (by decide) (by decide), m5 41 (by decide) (by decide) (by decide), m5 43 (by decide) (by decide) (by decide), m5 44 (by decide) (by decide) (by decide), m5 45 (by decide) (by decide) (by decide)⟩ ⟨Wt', Pk', O', kn', zord_sm w4 (zfr_sm (zp0_fr K1 0) (by decide)), w5⟩⟩
        · rw [if_pos (nI_lt (by omega) (by omega))] at bc
          have br := mX_rb_2 (F0 := F0) (I := upd I 0 0) (W := W) (rd := rd) (tp := tp) (A := A) (d := d - 1) (zmd_0 M t9 K 3) t9 (by omega) (c := k) (q := q) (by omega) (by omega) z1' i2'.2
          rw [hol.2.1, if_neg (nI_ge (by omega) (by omega))] at br
          exact ⟨-1, zp0 h 3, _, zX_bestAt_no K hd _ _ v 3 bc (by decide), zXeI (zQ_e0 Q 3) (mX_bestAt_no hd _ _ v 3 br (by decide)), zQ_ref Q (by decide)⟩
      · have j2 : y < 0 ∨ ¬ y < (1 <<< (J 5 &&& 31)) := by
          by_cases y0 : y < 0
          · exact .inl y0
          · exact .inr (fun w => z2 (i2.mp ⟨y0, w⟩))
        exact ⟨-1, zp0 h 1, _, zX_bestAt_no K hd x y v 1 (zX_bt_1 K E (by omega) x y z1 (fun w => z2 (i1.mp w))) (by decide), zXeI (zQ_e0 Q 1) (mX_bestAt_no hd x y v 1 (mX_rb_1 (zmd_0 M t9 K 1) t9 (by omega) x y z1' j2) (by decide)), zQ_ref Q (by decide)⟩
theorem mX_share_n {F0 : Nat → Value} {I : Nat → Int32} {W : Int64} {rd : Option Nat} {tp : Nat → Int32} {A : Nat → Nat → Int32} (hd : 20 < d) : nzxI d nX13_share [.ref 73] (zmS h F0 I W none rd tp A) = some (-1, zmS h F0 (upd (upd (upd I 0 0) 1 1) 2 (-1)) W none rd tp A) := by
  refine iX13_share (by omega) zmS_o ?_
  rw [eX13_share_0, zP_0, Option.bind_some, zmS_N0, Option.bind_some, if_pos rfl, zrefu (by omega), Option.bind_some]
theorem qX_share (Q : zQX h) (hd : 20 < d) : zCI d nX11_share nX13_share [] h := by
  obtain ⟨t, u, tr, c, g, hl, L, S, F0, I, W, td, rd, tp, A, Q⟩ := Q
  obtain ⟨e0, h9, K, D, E, tu, qd, hb, qt, q1, q2, q3, q4, q5, q6, q7, q8⟩ := id Q
  have ht : t = 7 ∨ t = 70 := by omega
  rcases qd with ⟨rfl, z0⟩ | ⟨t', J, B, Wd, rfl, t9, t27, M, DD, c8, c3, c4⟩
  · exact ⟨-1, zp0 h 1, _, zX_share_no K E hd (qzr z0), zXeI (zQ_e0 Q 1) (mX_share_n hd), zQ_ref Q (by decide)⟩
  · have qf := qF DD
    have qj := qJ DD
    have hc0 := qf.1.2
    have hc1 := qf.2.1.2
    have hc2 := qf.2.2.1.2
    have hc3 := qf.2.2.2.1.2
    have hc4 := qf.2.2.2.2.1.2
    have hc5 := qf.2.2.2.2.2.1.2
    have hc6 := qf.2.2.2.2.2.2.1.2
    have hc7 := qf.2.2.2.2.2.2.2.1.2
    have rn := qrn DD c3
    obtain ⟨Wt, Pk, O, kn, o1, o2⟩ := id q2
    obtain ⟨ss, n, s1, s2, s3⟩ := id q3
    have hH : ∀ k, k < zcn c 4 → zNv g 4 k 2 ≤ 6 ∧ zget c g 4 (nI k) 2 = nI (zNv g 4 k 2) := fun k hk => ⟨(qhol DD hk).2.2.2, (qhol DD hk).1⟩
    obtain ⟨h1, Wt', Pk', O', kn', w1, K1, w2, w3, w4, w5, w6⟩ := zX_share_ok (nf := zcn c 5) (n := zcn c 3) (Hf := fun k => zNv g 4 k 2) K E o1 s1 o2 ht hd rn (by omega) qf.2.2.2.2.2.1.1 hc3 qf.2.2.2.1.1 hc4 qf.2.2.2.2.1.1 hH
    have M1 : ∀ x, zmd (zp0 h1 x) t' J B Wd := fun x => zmd_f M t9 (zf2_p0 w6 K1 x) (by decide)
    have hK : ∀ k, k < zcn c 4 → zNv g 4 k 0 < 3 ∧ B 26 k = nI (zNv g 4 k 0) ∧ B 28 k = nI (zNv g 4 k 2) ∧ zNv g 4 k 2 ≤ 6 := fun k hk => ⟨(qkit DD hk).2, (qkit DD hk).1, (qhol DD hk).2.1, (qhol DD hk).2.2.2⟩
    have main := fun x => kX13_share (F0 := F0) (W := W) (rd := rd) (tp := tp) (d := d) (M1 x) t9 (by omega) hc5 qj.2.2.2.2.2.1 hc3 qj.2.2.2.1 hc4 c4 qj.2.2.2.2.1 (K := fun k => zNv g 4 k 0) (H := fun k => zNv g 4 k 2) hK I A
    generalize eZ : zgiv c g Wt' (zcn c 4) (zcn c 3) 0 (fun _ => 0, ss.2.1, ss.2.2.1, 1000000000) = Z at w1 w5
    have key : ∀ P Q' : Nat → Int32, (∀ c' s', c' < zcn c 4 → s' < 2 ^ zcn c 3 → zpop s' ≤ zNv g 4 c' 2 → P (64 * c' + s') = zwgB J B (zcn c 5) (fun k => zNv g 4 k 0) c' s' ∧ Q' (64 * c' + s') = zwgL J B (zcn c 5) (fun k => zNv g 4 k 0) c' s') → zsR (zcn c 4) (zcn c 3) Z (zit (zshO P Q' (fun k => zNv g 4 k 2) (zcn c 4) (zcn c 3)) 0 (zcn c 4 ^ zcn c 3) (none, 0, 0)) := by
      intro P Q' hPQ
      have hW : zsW Wt' P Q' (fun k => zNv g 4 k 2) (zcn c 4) (zcn c 3) (fun q S => (zwgB J B (zcn c 5) (fun k => zNv g 4 k 0) q S).toNatClampNeg) (fun q S => (zwgL J B (zcn c 5) (fun k => zNv g 4 k 0) q S).toNatClampNeg) := by
        intro q hq S hS hp
        obtain ⟨a1, a2⟩ := hPQ q S hq hS hp
        obtain ⟨O2, w, p, ew⟩ := w4 q hq
        obtain ⟨b, tt, l, b6, t32, e1, e2, e3, -⟩ := zbest_eq DD c8 hq hS hp O2 w p (fun _ => 0)
        have f1 : zwgB J B (zcn c 5) (fun k => zNv g 4 k 0) q S = nI b := e2
        by_cases y : S = 0
        · have f0 : zwgB J B (zcn c 5) (fun k => zNv g 4 k 0) q S = nI 0 := by
            rw [zwgB, zbst, if_pos y]; rfl
          have f2 : zwgL J B (zcn c 5) (fun k => zNv g 4 k 0) q S = nI 0 := by
            rw [zwgL, if_pos y]; rfl
          rw [if_pos y, a1, a2]
          dsimp only
          rw [f0, f2, nI_clamp (n := 0) (by decide)]
          exact ⟨rfl, rfl, rfl, by decide, by decide⟩
        · have f2 : zwgL J B (zcn c 5) (fun k => zNv g 4 k 0) q S = nI tt := by
            rw [zwgL, if_neg y]; exact e3
          rw [if_neg y, a1, a2]
          dsimp only
          rw [f1, f2, nI_clamp (n := b) (by omega), nI_clamp (n := tt) (by omega), ew]
          exact ⟨e1, rfl, rfl, b6, t32⟩
      have r := (zgiv_eq (c := c) (g := g) hc3 hc4 c4 hW (fun q hq => ⟨(hH q hq).2, (hH q hq).1⟩) (zcn c 3) 0 0 (fun _ => 0, ss.2.1, ss.2.2.1, 1000000000) (none, 0, 0) (by omega) (by rw [Nat.pow_zero]; decide) (by
        funext q
        show 0 = if q < zcn c 4 then zhp (zcn c 4) q 0 0 else 0
        rw [zhp]; split <;> rfl) (fun q hq => by rw [zhp]; exact Nat.zero_le _) (fun x hx => by omega) (.inl ⟨rfl, rfl⟩)).1
      rw [Nat.zero_mul, eZ] at r
      exact r
    by_cases zw : Z.2.2.2 = 1000000000
    · rw [if_pos zw] at w1 w5
      have f := zf2_p0 w6 K1 6
      obtain ⟨v, I', A', P, Q', m1, m2, m3, m4, m5, m6, m7⟩ := main 6
      have r := key P Q' m4
      have g1 := (qgiv (c := c) (g := g) (Wt := Wt') (m := zcn c 4) (zcn c 3) 0 (fun _ => 0, ss.2.1, ss.2.2.1, 1000000000) (show (1000000000 : Int32) ≤ 1000000000 by decide)).2 (by rw [eZ]; exact zw)
      rw [eZ] at g1
      rcases r with ⟨-, r2⟩ | ⟨all, b, tt, r1, r2, r3, r4, r5, r6⟩
      · generalize zit (zshO P Q' (fun k => zNv g 4 k 2) (zcn c 4) (zcn c 3)) 0 (zcn c 4 ^ zcn c 3) (none, 0, 0) = zz at m7 r2
        obtain ⟨o, a, b⟩ := zz
        have r2 : o = none := r2
        subst r2
        obtain ⟨n1, n2, n3, n4⟩ := m7
        subst n1
        exact ⟨_, zp0 h1 6, _, w1, zXeI (zQ_e Q f (by decide)) m1, zQ_OS Q (by decide) f (zp0_K K1 6) ⟨m2 6 (by decide) (by decide) (by decide) (by decide) (by decide) (by decide) (by decide) (by decide), m2 13 (by decide) (by decide) (by decide) (by decide) (by decide) (by decide) (by decide) (by decide), m2 19 (by decide) (by decide) (by decide) (by decide) (by decide) (by decide) (by decide) (by decide), m2 33 (by decide) (by decide) (by decide) (by decide) (by decide) (by decide) (by decide) (by decide), m2 34 (by decide) (by decide) (by decide) (by decide) (by decide) (by decide) (by decide) (by decide), m2 37 (by decide) (by decide) (by decide) (by decide) (by decide) (by decide) (by decide) (by decide), m2 42 (by decide) (by decide) (by decide) (by decide) (by decide) (by decide) (by decide) (by decide)⟩ n2 m6 ⟨m3 17 (by decide) (by decide) (by decide) (by decide) (by decide) (by decide), m3 18 (by decide) (by decide) (by decide) (by decide) (by decide) (by decide), m3 32 (by decide) (by decide) (by decide) (by decide) (by decide) (by decide), m3 36 (by decide) (by decide) (by decide) (by decide) (by decide) (by decide), m3 38 (by decide) (by decide) (by decide) (by decide) (by decide) (by decide), m3 40 (by decide) (by decide) (by decide) (by decide) (by decide) (by decide), m3 41 (by decide) (by decide) (by decide) (by decide) (by decide) (by decide), m3 43 (by decide) (by decide) (by decide) (by decide) (by decide) (by decide), m3 44 (by decide) (by decide) (by decide) (by decide) (by decide) (by decide), m3 45 (by decide) (by decide) (by decide) (by decide) (by decide) (by decide)⟩ ⟨Wt', Pk', O', kn', zord_sm w2 (zfr_sm (zp0_fr K1 6) (by decide)), w3⟩ ⟨Z, n, zsha_sm w5 (zfr_sm (zp0_fr K1 6) (by decide)), s2, by rw [n3, n4, g1.2]; exact s3⟩⟩
      · rw [r5] at zw
        have := (nI_eq (a := 10000 * b + tt) (b := 1000000000) (by omega) (by decide)).mp zw
        omega
    · rw [if_neg zw] at w1 w5
      have f := zf2_p0 w6 K1 0
      obtain ⟨v, I', A', P, Q', m1, m2, m3, m4, m5, m6, m7⟩ := main 0
      have r := key P Q' m4
      rcases r with ⟨r1, -⟩ | ⟨all, b, tt, r1, r2, r3, r4, r5, r6⟩
      · exact absurd r1 zw
      · rw [r4] at m7
        obtain ⟨n1, n2, n3, n4, n5⟩ := m7
        subst n1
        have ev : Z.2.2.2 / 10000 = nI b := by rw [r5]; exact qdiv r2 r3
        exact ⟨_, zp0 h1 0, _, w1, zXeI (zQ_e Q f (by decide)) (zXv ev m1), zQ_OS Q (by decide) f (zp0_K K1 0) ⟨m2 6 (by decide) (by decide) (by decide) (by decide) (by decide) (by decide) (by decide) (by decide), m2 13 (by decide) (by decide) (by decide) (by decide) (by decide) (by decide) (by decide) (by decide), m2 19 (by decide) (by decide) (by decide) (by decide) (by decide) (by decide) (by decide) (by decide), m2 33 (by decide) (by decide) (by decide) (by decide) (by decide) (by decide) (by decide) (by decide), m2 34 (by decide) (by decide) (by decide) (by decide) (by decide) (by decide) (by decide) (by decide), m2 37 (by decide) (by decide) (by decide) (by decide) (by decide) (by decide) (by decide) (by decide), m2 42 (by decide) (by decide) (by decide) (by decide) (by decide) (by decide) (by decide) (by decide)⟩ n2 m6 ⟨m3 17 (by decide) (by decide) (by decide) (by decide) (by decide) (by decide), m3 18 (by decide) (by decide) (by decide) (by decide) (by decide) (by decide), m3 32 (by decide) (by decide) (by decide) (by decide) (by decide) (by decide), m3 36 (by decide) (by decide) (by decide) (by decide) (by decide) (by decide), m3 38 (by decide) (by decide) (by decide) (by decide) (by decide) (by decide), m3 40 (by decide) (by decide) (by decide) (by decide) (by decide) (by decide), m3 41 (by decide) (by decide) (by decide) (by decide) (by decide) (by decide), m3 43 (by decide) (by decide) (by decide) (by decide) (by decide) (by decide), m3 44 (by decide) (by decide) (by decide) (by decide) (by decide) (by decide), m3 45 (by decide) (by decide) (by decide) (by decide) (by decide) (by decide)⟩ ⟨Wt', Pk', O', kn', zord_sm w2 (zfr_sm (zp0_fr K1 0) (by decide)), w3⟩ ⟨Z, zcn c 3, zsha_sm w5 (zfr_sm (zp0_fr K1 0) (by decide)), hc3, .inr ⟨n3, rfl, fun x hx => by rw [n4, r6 x hx]; exact ((qshF hc3 c4 (zcn c 4) 0 (A 28) (by omega) x hx).1 (by omega)).symm⟩⟩⟩
end NZQG
