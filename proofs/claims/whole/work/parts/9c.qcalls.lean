/-! coupling: calls (trouble, fault, where, size, feed, way, unload, drive, tea) -/
theorem zXv {d : Nat} {m : nzM} {as : List Value} {h h2 : nzH} {v w : Int32} (e : v = w) (q : nzxI d m as h = some (w, h2)) : nzxI d m as h = some (v, h2) := by rw [e]; exact q
theorem zXvL {d : Nat} {m : nzM} {as : List Value} {h h2 : nzH} {v w : Int64} (e : v = w) (q : nzxL d m as h = some (w, h2)) : nzxL d m as h = some (v, h2) := by rw [e]; exact q
section NZQC
variable {d : Nat} {h : nzH}
theorem qX_trouble (Q : zQX h) (hd : 20 < d) : zCI d nX11_trouble nX13_trouble [] h := by
  obtain ⟨t, u, tr, c, g, hl, L, S, F0, I, W, td, rd, tp, A, Q⟩ := Q
  obtain ⟨e0, h9, K, D, E, tu, qd, hb, qt, q1, q2, q3, q4, q5, q6, q7, q8⟩ := id Q
  have ht : t = 7 ∨ t = 70 := by omega
  exact ⟨tr, h, _, jX11_trouble K (by omega), zXeI e0 (zXv qt.2.2.1.symm (mX_trouble hd)), zQ_nul Q 0⟩
theorem qX_fault (Q : zQX h) (hd : 20 < d) : zCI d nX11_fault nX13_fault [] h := by
  obtain ⟨t, u, tr, c, g, hl, L, S, F0, I, W, td, rd, tp, A, Q⟩ := Q
  obtain ⟨e0, h9, K, D, E, tu, qd, hb, qt, q1, q2, q3, q4, q5, q6, q7, q8⟩ := id Q
  have ht : t = 7 ∨ t = 70 := by omega
  exact ⟨_, h, _, zX_fault K D hd, zXeI e0 (zXv qt.2.1.symm (mX_fault hd)), zQ_nul Q 0⟩
theorem qX_where (Q : zQX h) (hd : 20 < d) : zCI d nX11_where nX13_where [] h := by
  obtain ⟨t, u, tr, c, g, hl, L, S, F0, I, W, td, rd, tp, A, Q⟩ := Q
  obtain ⟨e0, h9, K, D, E, tu, qd, hb, qt, q1, q2, q3, q4, q5, q6, q7, q8⟩ := id Q
  have ht : t = 7 ∨ t = 70 := by omega
  exact ⟨_, h, _, zX_where K D hd, zXeI e0 (zXv qt.2.2.2.symm (mX_where hd)), zQ_nul Q 0⟩
theorem qP_none {c g I : Nat → Int32} {A : Nat → Nat → Int32} (z : ∀ s, s < 9 → c s = 0) (q : qP h c g I A) : I 42 = 0 ∧ ∃ pC pM pT, zpro h 0 pC pM pT := by
  obtain ⟨n, pC, pM, pT, a, b, f⟩ := q
  have z4 : zcn c 4 = 0 := by rw [zcn, z 4 (by decide)]; rfl
  have n0 : n = 0 := by
    rcases Nat.eq_zero_or_pos n with y | y
    · exact y
    · obtain ⟨-, q, m, -, y2, -⟩ := f 0 y
      omega
  subst n0
  exact ⟨b, pC, pM, pT, a⟩
theorem qR_none {c g I : Nat → Int32} {A : Nat → Nat → Int32} (z : ∀ s, s < 9 → c s = 0) (q : qR h c g I A) : I 19 = 0 ∧ ∃ N R, zrou h N R 0 := by
  obtain ⟨N, R, T, a, b, f, f2, -⟩ := q
  have z3 : zcn c 3 = 0 := by rw [zcn, z 3 (by decide)]; rfl
  rw [z3] at f2
  have n0 : T = 0 := by
    have : (2 : Nat) ^ 0 = 1 := rfl
    omega
  subst n0
  exact ⟨f, N, R, a⟩
theorem qX_size (Q : zQX h) (hd : 20 < d) (x : Int32) : zCI d nX11_size nX13_size [.int x] h := by
  obtain ⟨t, u, tr, c, g, hl, L, S, F0, I, W, td, rd, tp, A, Q⟩ := Q
  obtain ⟨e0, h9, K, D, E, tu, qd, hb, qt, q1, q2, q3, q4, q5, q6, q7, q8⟩ := id Q
  have ht : t = 7 ∨ t = 70 := by omega
  by_cases y : zwn x (nI 0) (nI 10) = 0
  · have y2 : x < 0 ∨ nI 10 < x := by
      rw [zwn] at y
      by_cases a : x < nI 0
      · exact .inl a
      · rw [if_neg a] at y
        by_cases b : nI 10 < x
        · exact .inr b
        · rw [if_neg b] at y
          exact absurd y (by decide)
    have z1 : x < 0 ∨ 8 ≤ x := y2.imp id (fun w => by
      rw [Int32.lt_iff_toInt_lt] at w
      rw [Int32.le_iff_toInt_le]
      have e1 : (nI 10).toInt = 10 := rfl
      have e2 : (8 : Int32).toInt = 8 := rfl
      omega)
    have z2 : x.toInt < 8 ∨ 10 < x.toInt := y2.imp (fun w => by
      rw [Int32.lt_iff_toInt_lt] at w
      have e2 : (0 : Int32).toInt = 0 := rfl
      omega) (fun w => by
      rw [Int32.lt_iff_toInt_lt] at w
      have e1 : (nI 10).toInt = 10 := rfl
      omega)
    have z3 : ¬ x = 10 := fun w => by
      subst w
      exact absurd y2 (by decide)
    have z4 : zwn x 0 9 = 0 := by
      rw [zwn]
      by_cases a : x < 0
      · rw [if_pos a]
      · rw [if_neg a, if_pos (show (9 : Int32) < x by
          have w := y2.resolve_left a
          rw [Int32.lt_iff_toInt_lt] at w ⊢
          have e1 : (nI 10).toInt = 10 := rfl
          have e2 : (9 : Int32).toInt = 9 := rfl
          omega)]
    exact ⟨-1, h, _, zX_size_no K hd x z1 z2, zXeI e0 (mX_size_no hd x z3 z4), zQ_nul Q 0⟩
  · obtain ⟨k, -, k10, rfl⟩ := qw_ex (by decide) (by decide) y
    clear y
    by_cases ka : k = 10
    · subst ka
      exact ⟨_, h, _, zX_size_10 K D hd, zXeI e0 (zXv qt.1.symm (mX_size_10 hd)), zQ_nul Q 0⟩
    · have w1 : ¬ nI k = 10 := fun w => ka ((nI_eq (b := 10) (by omega) (by decide)).mp w)
      have w2 : ¬ zwn (nI k) 0 9 = 0 := by
        rw [zwn, if_neg (nI_pos (by omega)), if_neg (show ¬ (9 : Int32) < nI k from nI_nlt (a := 9) (b := k) (by omega) (by decide))]
        decide
      rcases qd with ⟨rfl, z0⟩ | ⟨t', J, B, Wd, rfl, t9, t27, M, DD, c8, c3, c4⟩
      · by_cases k8 : k < 8
        · exact ⟨0, h, _, zXv ((zrow_n c (by omega)).trans (z0 k (by omega))).symm (zX_size_a K E hd k8), zXeI e0 (mX_size_n hd _ w1 w2), zQ_nul Q 0⟩
        · rcases (show k = 8 ∨ k = 9 by omega) with rfl | rfl
          · obtain ⟨a, pC, pM, pT, P⟩ := qP_none z0 q8
            exact ⟨0, h, _, zX_size_8 K P hd, zXeI e0 (mX_size_n hd _ w1 w2), zQ_nul Q 0⟩
          · obtain ⟨a, N, R, P⟩ := qR_none z0 q1
            exact ⟨0, h, _, zX_size_9 K P hd, zXeI e0 (mX_size_n hd _ w1 w2), zQ_nul Q 0⟩
      · have j := DD.2.1
        rcases (show k = 0 ∨ k = 1 ∨ k = 2 ∨ k = 3 ∨ k = 4 ∨ k = 5 ∨ k = 6 ∨ k = 7 ∨ k = 8 ∨ k = 9 by omega) with rfl | rfl | rfl | rfl | rfl | rfl | rfl | rfl | rfl | rfl
        · exact ⟨_, h, _, zX_size_a (k := 0) K E hd (by decide), zXeI e0 (zXv ((zrow_n c (by decide)).trans (j 0 (by decide)).symm) (mX_size_d0 M t9 hd)), zQ_nul Q 0⟩
        · exact ⟨_, h, _, zX_size_a (k := 1) K E hd (by decide), zXeI e0 (zXv ((zrow_n c (by decide)).trans (j 1 (by decide)).symm) (mX_size_d1 M t9 hd)), zQ_nul Q 0⟩
        · exact ⟨_, h, _, zX_size_a (k := 2) K E hd (by decide), zXeI e0 (zXv ((zrow_n c (by decide)).trans (j 2 (by decide)).symm) (mX_size_d2 M t9 hd)), zQ_nul Q 0⟩
        · exact ⟨_, h, _, zX_size_a (k := 3) K E hd (by decide), zXeI e0 (zXv ((zrow_n c (by decide)).trans (j 3 (by decide)).symm) (mX_size_d3 M t9 hd)), zQ_nul Q 0⟩
        · exact ⟨_, h, _, zX_size_a (k := 4) K E hd (by decide), zXeI e0 (zXv ((zrow_n c (by decide)).trans (j 4 (by decide)).symm) (mX_size_d4 M t9 hd)), zQ_nul Q 0⟩
        · exact ⟨_, h, _, zX_size_a (k := 5) K E hd (by decide), zXeI e0 (zXv ((zrow_n c (by decide)).trans (j 5 (by decide)).symm) (mX_size_d5 M t9 hd)), zQ_nul Q 0⟩
        · exact ⟨_, h, _, zX_size_a (k := 6) K E hd (by decide), zXeI e0 (zXv ((zrow_n c (by decide)).trans (j 6 (by decide)).symm) (mX_size_d6 M t9 hd)), zQ_nul Q 0⟩
        · exact ⟨_, h, _, zX_size_a (k := 7) K E hd (by decide), zXeI e0 (zXv ((zrow_n c (by decide)).trans (j 7 (by decide)).symm) (mX_size_d7 M t9 hd)), zQ_nul Q 0⟩
        · obtain ⟨n, pC, pM, pT, P, en, -⟩ := q8
          exact ⟨_, h, _, zX_size_8 K P hd, zXeI e0 (zXv en.symm (mX_size_d8 M t9 hd)), zQ_nul Q 0⟩
        · obtain ⟨N, R, T, P, -, en, -⟩ := q1
          exact ⟨_, h, _, zX_size_9 K P hd, zXeI e0 (zXv en.symm (mX_size_d9 M t9 hd)), zQ_nul Q 0⟩
theorem qX_feed (Q : zQX h) (hd : 20 < d) (x1 x2 x3 x4 x5 : Int32) : zCI d nX11_feed nX13_feed [.int x1, .int x2, .int x3, .int x4, .int x5] h := by
  obtain ⟨t, u, tr, c, g, hl, L, S, F0, I, W, td, rd, tp, A, Q⟩ := Q
  obtain ⟨e0, h9, K, D, E, tu, qd, hb, qt, q1, q2, q3, q4, q5, q6, q7, q8⟩ := id Q
  have ht : t = 7 ∨ t = 70 := by omega
  have hl9 : hl ≤ 900 := D.2.1.2.2.1
  have ea : nI hl + 20 = nI (hl + 20) := nI_add hl 20
  by_cases y : hl + 20 ≤ 900
  · obtain ⟨h1, c1, c2, c3⟩ := zX_feed_ok K D hd x1 x2 x3 x4 x5 (by rw [ea]; exact nI_nlt (a := 900) (b := hl + 20) y (by decide))
    have f : zfr 2 4 h h1 := c3
    have e1 : h1 = zmS h1 F0 I W td rd tp A := zmS_fix e0 (zfr_sm f (by decide))
    refine ⟨_, h1, _, c1, zXeI e1 (kX13_feed (by omega) qt.1 y x1 x2 x3 x4 x5), ⟨⟨t, u, tr, c, g, _, L, S, F0, _, W, td, rd, _, A, zmS_mS.symm, (show 94 ≤ h1.1 by rw [f.1]; exact h9), zK_sm (zK_sm K (f.2.2.2 0 (by decide))) (zmS_c (by decide)), zrd_sm c2 (zmS_sm (by decide)) (zmS_sm (by omega)), zday_sm (zday_sm E (zfr_sm f (by omega))) (zmS_sm (by omega)), tu, qD_sm (qD_sm qd (by rw [f.1]; omega) (fun a a1 _ => f.2.2.2 a (by omega))) (Nat.le_refl _) (fun a a1 _ => zmS_c (by omega)), zby_f20 hb, ⟨rfl, qt.2.1, qt.2.2⟩, qR_k (qR_k q1 (zfr_sm f (by decide)) rfl rfl rfl) (zmS_sm (by decide)) rfl rfl rfl, qO_k (qO_k q2 (zfr_sm f (by decide))) (zmS_sm (by decide)), qS_k (qS_k q3 (zfr_sm f (by decide)) rfl rfl) (zmS_sm (by decide)) rfl rfl, qM_k (qM_k q4 (zfr_sm f (by decide)) rfl rfl) (zmS_sm (by decide)) rfl rfl, qK_k (qK_k q5 (zfr_sm f (by decide)) rfl rfl) (zmS_sm (by decide)) rfl rfl, qW_k (qW_k q6 (zfr_sm f (by decide)) rfl rfl) (zmS_sm (by decide)) rfl rfl, qG_k (qG_k q7 (zfr_sm f (by decide)) rfl rfl) (zmS_sm (by decide)) rfl rfl, qP_k (qP_k q8 (zfr_sm f (by decide)) rfl rfl rfl rfl) (zmS_sm (by decide)) rfl rfl rfl rfl⟩, ?_, ?_, ?_, f.2.2.1, Nat.le_of_eq f.1.symm, fun a a1 _ => (zmS_c (by omega)).trans (f.2.2.2 a (by omega))⟩⟩
    · show h1.1 ≤ _
      rw [f.1]; omega
    · show h1.2.1.1 ≤ _
      rw [f.2.1]; omega
    · show h1.2.1.2 ≤ _
      rw [f.2.1]; omega
  · exact ⟨-1, h, _, zX_feed_no K D hd x1 x2 x3 x4 x5 (by rw [ea]; exact nI_lt (a := 900) (by omega) (by omega)), zXeI e0 (kX13_feed_no (by omega) qt.1 hl9 (by omega) x1 x2 x3 x4 x5), zQ_nul Q 0⟩
theorem qX_way (Q : zQX h) (hd : 20 < d) (x y : Int32) : zCI d nX11_way nX13_way [.int x, .int y] h := by
  obtain ⟨t, u, tr, c, g, hl, L, S, F0, I, W, td, rd, tp, A, Q⟩ := Q
  obtain ⟨e0, h9, K, D, E, tu, qd, hb, qt, q1, q2, q3, q4, q5, q6, q7, q8⟩ := id Q
  have ht : t = 7 ∨ t = 70 := by omega
  rcases qd with ⟨rfl, z0⟩ | ⟨t', J, B, Wd, rfl, t9, t27, M, DD, c8, c3, c4⟩
  · have c5 : c 5 = nI 0 := z0 5 (by decide)
    exact ⟨-1, zp0 h 1, _, (zX_way K E (by omega) (by decide) c5 x y).trans (if_pos (qzr z0)), zXeI (zQ_e0 Q 1) (mX_way_0 hd x y), zQ_ref Q (by decide)⟩
  · have qf := qF DD
    have qj := qJ DD
    have hc0 := qf.1.2
    have hc1 := qf.2.1.2
    have hc2 := qf.2.2.1.2
    have hc3 := qf.2.2.2.1.2
    have hc4 := qf.2.2.2.2.1.2
    have hc5 := qf.2.2.2.2.2.1.2
    have hc6 := qf.2.2.2.2.2.2.1.2
    have hc7 := qf.2.2.2.2.2.2.2.1.2
    have rn := qrn DD c3
    have wc := zX_way (d := d) K E (by omega) (by omega) qf.2.2.2.2.2.1.1 x y
    rw [if_neg rn] at wc
    by_cases w1 : zwn x 0 99 = 0
    · rw [if_pos w1] at wc
      exact ⟨-1, zp0 h 2, _, wc, zXeI (zQ_e0 Q 2) (mX_way_1 (zmd_0 M t9 K 2) t9 hd x y w1), zQ_ref Q (by decide)⟩
    · rw [if_neg w1] at wc
      by_cases w2 : zwn y 0 99 = 0
      · rw [if_pos w2] at wc
        exact ⟨-1, zp0 h 2, _, wc, zXeI (zQ_e0 Q 2) (mX_way_2 (zmd_0 M t9 K 2) t9 hd x y w1 w2), zQ_ref Q (by decide)⟩
      · rw [if_neg w2] at wc
        obtain ⟨X, -, hX, rfl⟩ := qw_ex (a := 0) (b := 99) (by decide) (by decide) w1
        obtain ⟨Y, -, hY, rfl⟩ := qw_ex (a := 0) (b := 99) (by decide) (by decide) w2
        exact ⟨_, zp0 h 0, _, wc, zXeI (zQ_e0 Q 0) (zXv ((zNw_c DD hX hY).trans (zNw_m DD hX hY).1.symm) (mX_way_3 (zmd_0 M t9 K 0) t9 hc5 qj.2.2.2.2.2.1 hd _ _ w1 w2)), zQ_ref Q (by decide)⟩
theorem qX_unload (Q : zQX h) (hd : 20 < d) (x : Int32) : zCI d nX11_unload nX13_unload [.int x] h := by
  obtain ⟨t, u, tr, c, g, hl, L, S, F0, I, W, td, rd, tp, A, Q⟩ := Q
  obtain ⟨e0, h9, K, D, E, tu, qd, hb, qt, q1, q2, q3, q4, q5, q6, q7, q8⟩ := id Q
  have ht : t = 7 ∨ t = 70 := by omega
  rcases qd with ⟨rfl, z0⟩ | ⟨t', J, B, Wd, rfl, t9, t27, M, DD, c8, c3, c4⟩
  · exact ⟨-1, zp0 h 1, _, zX_unload_0 K E hd x (qz4 z0 x), zXeI (zQ_e0 Q 1) (mX_unload_0 hd x), zQ_ref Q (by decide)⟩
  · have qf := qF DD
    have qj := qJ DD
    have hc0 := qf.1.2
    have hc1 := qf.2.1.2
    have hc2 := qf.2.2.1.2
    have hc3 := qf.2.2.2.1.2
    have hc4 := qf.2.2.2.2.1.2
    have hc5 := qf.2.2.2.2.2.1.2
    have hc6 := qf.2.2.2.2.2.2.1.2
    have hc7 := qf.2.2.2.2.2.2.2.1.2
    have rn := qrn DD c3
    by_cases z1 : zhs c 4 x = 0
    · exact ⟨-1, zp0 h 1, _, zX_unload_0 K E hd x z1, zXeI (zQ_e0 Q 1) (mX_unload_1 (zmd_0 M t9 K 1) t9 hd x ((qh4 DD x).trans z1)), zQ_ref Q (by decide)⟩
    · obtain ⟨k, hk, rfl⟩ := qe4 DD z1
      obtain ⟨N, R, T, r1, r2, r3, r4, r5, r6, r7, r8⟩ := id q1
      obtain ⟨h1, w1, w2, w3⟩ := zX_unload_1 K E r1 (k := k) (by omega) hd z1
      have K1 := zK_sm K (w3.2.2.2 0 (by decide))
      have f := zf2_p0 w3 K1 0
      have e1 := zQ_e Q f (by decide)
      refine ⟨_, zp0 h1 0, _, w1, zXeI e1 (zXv (r2 k (by omega)).1.symm (mX_unload_2 (zmd_f M t9 f (by decide)) t9 (k := k) (by omega) hd (fun w => z1 ((qh4 DD _).symm.trans w)))), zQ_R Q (by decide) f (zp0_K K1 0) ⟨rfl, rfl, rfl, rfl, rfl, rfl, rfl⟩ rfl rfl ⟨rfl, rfl, rfl, rfl, rfl, rfl, rfl, rfl, rfl⟩ ⟨va_up N k 0, R, T, zrou_sm w2 (zfr_sm (zp0_fr K1 0) (by decide)), ?_, r3, r4, ?_, ?_, ?_, ?_⟩⟩
      · intro i hi
        show (va_up A 17 (upd (A 17) k 0)) 17 i = _ ∧ _
        rw [va_up_self, upd_at, va_up_at]
        by_cases y : i = k
        · rw [if_pos y, if_pos y]
          exact ⟨rfl, by omega, fun q hq => by omega⟩
        · rw [if_neg y, if_neg y]
          exact r2 i hi
      · intro i hi hi2
        rw [va_up_at]
        by_cases y : i = k
        · rw [if_pos y]
        · rw [if_neg y]; exact r5 i hi hi2
      · intro i hi
        rw [va_up_at]
        by_cases y : i = k
        · rw [if_pos y]; omega
        · rw [if_neg y]; exact r6 i hi
      · intro i q hi hq
        rw [va_up_at] at hq
        by_cases y : i = k
        · rw [if_pos y] at hq; omega
        · rw [if_neg y] at hq; exact r7 i q hi hq
      · intro i i' q q' hi hi' hq hq' he
        rw [va_up_at] at hq hq'
        by_cases y : i = k
        · rw [if_pos y] at hq; omega
        · by_cases y' : i' = k
          · rw [if_pos y'] at hq'; omega
          · rw [if_neg y] at hq
            rw [if_neg y'] at hq'
            exact r8 i i' q q' hi hi' hq hq' he
theorem qX_tea (Q : zQX h) (hd : 20 < d) (x : Int32) : zCI d nX11_tea nX13_tea [.int x] h := by
  obtain ⟨t, u, tr, c, g, hl, L, S, F0, I, W, td, rd, tp, A, Q⟩ := Q
  obtain ⟨e0, h9, K, D, E, tu, qd, hb, qt, q1, q2, q3, q4, q5, q6, q7, q8⟩ := id Q
  have ht : t = 7 ∨ t = 70 := by omega
  rcases qd with ⟨rfl, z0⟩ | ⟨t', J, B, Wd, rfl, t9, t27, M, DD, c8, c3, c4⟩
  · exact ⟨0, zp0 h 1, _, zX_tea_0 K E hd x (qzr z0), zXeI (zQ_e0 Q 1) (mX_tea_0 hd x), zQ_ref Q (by decide)⟩
  · have qf := qF DD
    have qj := qJ DD
    have hc0 := qf.1.2
    have hc1 := qf.2.1.2
    have hc2 := qf.2.2.1.2
    have hc3 := qf.2.2.2.1.2
    have hc4 := qf.2.2.2.2.1.2
    have hc5 := qf.2.2.2.2.2.1.2
    have hc6 := qf.2.2.2.2.2.2.1.2
    have hc7 := qf.2.2.2.2.2.2.2.1.2
    have rn := qrn DD c3
    have zr : zrow c 3 = nI (zcn c 3) := (zrow_n c (s := 3) (by decide)).trans qf.2.2.2.1.1
    have i1 := qhI hc3 x
    have i2 := qhJ hc3 x
    rw [← zr] at i1
    rw [← qj.2.2.2.1] at i2
    by_cases y : ∃ q, q < 2 ^ zcn c 3 ∧ x = nI q
    · obtain ⟨N, R, T, r1, r2, r3, r4, r5⟩ := id q1
      obtain ⟨h1, w1, w2, w3, w4, w5⟩ := zX_tea_2 K E r1 hd x rn (i1.mpr y)
      have f : zf2 10 17 h h1 := zf2_tr (zf2_01 w4) (zf2_of w5)
      obtain ⟨q, hq, rfl⟩ := y
      have ii := i2.mpr ⟨q, hq, rfl⟩
      exact ⟨1, h1, _, w1, zXeI (zQ_e Q f (by decide)) (mX_tea_3 (zmd_f M t9 f (by decide)) t9 hd _ ii.1 ii.2), zQ_R Q (by decide) f w2 ⟨rfl, rfl, rfl, rfl, rfl, rfl, rfl⟩ rfl rfl ⟨rfl, rfl, rfl, rfl, rfl, rfl, rfl, rfl, rfl⟩ ⟨N, R, q, w3, r2, rfl, hq, r5⟩⟩
    · by_cases y1 : x < 0
      · exact ⟨0, zp0 h 2, _, zX_tea_1 K E hd x rn (fun w => y (i1.mp w)), zXeI (zQ_e0 Q 2) (mX_tea_1 (zmd_0 M t9 K 2) t9 hd x y1), zQ_ref Q (by decide)⟩
      · exact ⟨0, zp0 h 2, _, zX_tea_1 K E hd x rn (fun w => y (i1.mp w)), zXeI (zQ_e0 Q 2) (mX_tea_2 (zmd_0 M t9 K 2) t9 hd x y1 (fun w => y (i2.mp ⟨y1, w⟩))), zQ_ref Q (by decide)⟩
end NZQC
