/-! coupling: calls (diets, menus, knocks, helpers, signs, probes) -/
theorem q_if {f f' : Nat → Int32} {n : Nat} (hn : n < 2 ^ 31) (e : ∀ k, k < n → f k = f' k) (x : Int32) : (if x < 0 then (-1 : Int32) else if nI n ≤ x then -1 else f x.toNatClampNeg) = (if x < 0 then -1 else if nI n ≤ x then -1 else f' x.toNatClampNeg) := by
  by_cases y : x < 0
  · rw [if_pos y, if_pos y]
  · rw [if_neg y, if_neg y]
    obtain ⟨k, hk, rfl⟩ := nI_of y
    by_cases z : nI n ≤ nI k
    · rw [if_pos z, if_pos z]
    · rw [if_neg z, if_neg z, nI_clamp hk]
      rw [nI_leI hn hk] at z
      exact e k (by omega)
theorem q_ext {α : Type} {f f' : Nat → α → α} : ∀ (j k : Nat) (a : α), (∀ i, k ≤ i → i < k + j → ∀ a, f i a = f' i a) → zit f k j a = zit f' k j a := by
  intro j
  induction j with
  | zero => exact fun _ _ _ => rfl
  | succ j ih =>
    intro k a h
    rw [zit, zit, h k (by omega) (by omega), ih (k + 1) _ (fun i a b => h i (by omega) (by omega))]
theorem qch2 {v v' : Nat → Int32} {last : Int32} {n i : Nat} (hn : i < n) (e : ∀ i, i < n → v i = v' i) : ∀ (j k : Nat) (a : Int32), k + j = n → zit (zch2 v last n i) k j a = zit (zch2 v' last n i) k j a := fun j k a hk => q_ext j k a (fun b _ hb a => by
  unfold zch2
  exact q_ext _ _ _ (fun x _ hx a => by
    unfold zch3
    rw [e i hn, e b (by omega), e x (by omega)]))
theorem qfad {v v' : Nat → Int32} (n : Nat) (hn : 3 ≤ n) (e : ∀ i, i < n → v i = v' i) : zfad v n = zfad v' n := by
  rw [zfad, zfad, e (n - 1) (by omega), e (n - 2) (by omega), e (n - 3) (by omega)]
  exact q_ext n 0 0 (fun i _ hi a => by
    unfold zch1
    exact qch2 (by omega) e _ _ _ (by omega))
section NZQE0
variable {c g J : Nat → Int32} {B : Nat → Nat → Int32}
theorem qdie (D : zDR c g J B) {k : Nat} (hk : k < zcn c 3) : B 19 k = nI (zNv g 3 k 1) ∧ zNv g 3 k 1 < 4 := ⟨(D.2.2.1 3 k 1 (by decide) hk (by decide)).trans (zNv_diet D hk).1, (zNv_diet D hk).2.2⟩
theorem qbar (D : zDR c g J B) {k q : Nat} (hk : k < zcn c 3) (hq : q < zcn c 1) : zbar c g (zget c g 3 (nI k) 1) (nI q) = B 13 q &&& B 15 (zNv g 3 k 1) := by
  obtain ⟨d1, d2, d3⟩ := zNv_diet D hk
  have e1 : zget c g 3 (nI k) 1 = nI (zNv g 3 k 1) := (zget_g D (s := 3) (r := k) (k := 1) (by decide) hk (by decide)).trans d1
  have e2 : zget c g 2 (nI (zNv g 3 k 1)) 0 = B 15 (zNv g 3 k 1) := (zget_g D (s := 2) (k := 0) (by decide) d2 (by decide)).trans (D.2.2.1 2 _ 0 (by decide) d2 (by decide)).symm
  have e3 : zget c g 1 (nI q) 0 = B 13 q := (zget_g D (s := 1) (k := 0) (by decide) hq (by decide)).trans (D.2.2.1 1 q 0 (by decide) hq (by decide)).symm
  rw [zbar, e1, e2, e3, Int32.and_comm]
theorem qh_no {s : Nat} (hs : s < 9) {x : Int32} (z : zhs c (nI s) x = 0) : x < 0 ∨ ¬ x < c s := by
  rw [zhs, zrow_n c hs] at z
  by_cases y : x < 0
  · exact .inl y
  · rw [if_neg y] at z
    by_cases w : c s ≤ x
    · exact .inr (Int32.not_lt.mpr w)
    · rw [if_neg w] at z
      exact absurd z (by decide)
theorem qcost (D : zDR c g J B) : ∀ i, i < zcn c 1 → B 14 i = nI (zNc g i) ∧ zNc g i ≤ 99 := fun i hi => by
  have q := zNg D (s := 1) (r := i) (k := 1) (a := 1) (b := 99) (by decide) hi (by decide) rfl (by decide)
  exact ⟨q.2.1 (by decide), q.2.2.2⟩
theorem qneed (D : zDR c g J B) : ∀ i, i < zcn c 3 → (zget c g 3 (nI i) 5 = nI (zNv g 3 i 5) ∧ zNv g 3 i 5 ≤ 9) ∧ B 23 i = nI (zNv g 3 i 5) ∧ zNv g 3 i 5 ≤ 9 := fun i hi => by
  have q := zNg D (s := 3) (r := i) (k := 5) (a := 1) (b := 9) (by decide) hi (by decide) rfl (by decide)
  exact ⟨⟨q.1, q.2.2.2⟩, q.2.1 (by decide), q.2.2.2⟩
theorem qstart (D : zDR c g J B) {k : Nat} (hk : k < zcn c 4) : zget c g 4 (nI k) 1 = nI (zNv g 4 k 1) ∧ B 27 k = nI (zNv g 4 k 1) ∧ zNv g 4 k 1 ≤ 800 := by
  have q := zNg D (s := 4) (r := k) (k := 1) (a := 500) (b := 800) (by decide) hk (by decide) rfl (by decide)
  exact ⟨q.1, q.2.1 (by decide), q.2.2.2⟩
theorem qprs {pr : Nat → Option Nat} : ∀ (j i : Nat) (T : Nat), zprs pr i j = some T → ∀ x, i ≤ x → x < i + j → pr x = some ((pr x).getD 0) := by
  intro j
  induction j with
  | zero => intro i T _ x a b; omega
  | succ j ih =>
    intro i T e x a b
    rw [zprs] at e
    cases e1 : pr i with
    | none => rw [e1] at e; cases e
    | some v =>
      rw [e1] at e
      cases e2 : zprs pr (i + 1) j with
      | none => rw [e2] at e; cases e
      | some w =>
        by_cases y : x = i
        · rw [y, e1]; rfl
        · exact ih (i + 1) w e2 x (by omega) (by omega)
end NZQE0
section NZQE
variable {d : Nat} {h : nzH}
theorem qX_fits (Q : zQX h) (hd : 20 < d) (x y : Int32) : zCI d nX11_fits nX13_fits [.int x, .int y] h := by
  obtain ⟨t, u, tr, c, g, hl, L, S, F0, I, W, td, rd, tp, A, Q⟩ := Q
  obtain ⟨e0, h9, K, D, E, tu, qd, hb, qt, q1, q2, q3, q4, q5, q6, q7, q8⟩ := id Q
  have ht : t = 7 ∨ t = 70 := by omega
  rcases qd with ⟨rfl, z0⟩ | ⟨t', J, B, Wd, rfl, t9, t27, M, DD, c8, c3, c4⟩
  · exact ⟨-1, zp0 h 1, _, zX_fits_0 K E hd x y (qz3 z0 x), zXeI (zQ_e0 Q 1) (mX_fits_0 hd x y), zQ_ref Q (by decide)⟩
  · have qf := qF DD
    have qj := qJ DD
    have hc0 := qf.1.2
    have hc1 := qf.2.1.2
    have hc2 := qf.2.2.1.2
    have hc3 := qf.2.2.2.1.2
    have hc4 := qf.2.2.2.2.1.2
    have hc5 := qf.2.2.2.2.2.1.2
    have hc6 := qf.2.2.2.2.2.2.1.2
    have hc7 := qf.2.2.2.2.2.2.2.1.2
    have rn := qrn DD c3
    by_cases z1 : zhs c 3 x = 0
    · exact ⟨-1, zp0 h 1, _, zX_fits_0 K E hd x y z1, zXeI (zQ_e0 Q 1) (mX_fits_1 (zmd_0 M t9 K 1) t9 hd x y ((qh3 DD x).trans z1)), zQ_ref Q (by decide)⟩
    · have z1' : ¬ zmh (J 5) x = 0 := fun w => z1 ((qh3 DD _).symm.trans w)
      by_cases z2 : zhs c 1 y = 0
      · exact ⟨-1, zp0 h 1, _, zX_fits_1 K E hd x y z1 z2, zXeI (zQ_e0 Q 1) (mX_fits_2 (zmd_0 M t9 K 1) t9 hd x y z1' ((qh1 DD y).trans z2)), zQ_ref Q (by decide)⟩
      · have z2' : ¬ zmh (J 3) y = 0 := fun w => z2 ((qh1 DD _).symm.trans w)
        obtain ⟨k, hk, rfl⟩ := qe3 DD z1
        obtain ⟨q, hq, rfl⟩ := qe1 DD z2
        have eb := qbar DD hk hq
        by_cases z3 : zbar c g (zget c g 3 (nI k) 1) (nI q) = 0
        · exact ⟨1, zp0 h 0, _, zX_fits_2 K E hd _ _ z1 z2 z3, zXeI (zQ_e0 Q 0) (mX_fits_3 (zmd_0 M t9 K 0) t9 (by omega) (by omega) (qdie DD hk).2 (qdie DD hk).1 hd z1' z2' (eb.symm.trans z3)), zQ_ref Q (by decide)⟩
        · exact ⟨0, zp0 h 0, _, zX_fits_3 K E hd _ _ z1 z2 z3, zXeI (zQ_e0 Q 0) (mX_fits_4 (zmd_0 M t9 K 0) t9 (by omega) (by omega) (qdie DD hk).2 (qdie DD hk).1 hd z1' z2' (fun v => z3 (eb.trans v))), zQ_ref Q (by decide)⟩
theorem qX_breach (Q : zQX h) (hd : 20 < d) (x y : Int32) : zCI d nX11_breach nX13_breach [.int x, .int y] h := by
  obtain ⟨t, u, tr, c, g, hl, L, S, F0, I, W, td, rd, tp, A, Q⟩ := Q
  obtain ⟨e0, h9, K, D, E, tu, qd, hb, qt, q1, q2, q3, q4, q5, q6, q7, q8⟩ := id Q
  have ht : t = 7 ∨ t = 70 := by omega
  rcases qd with ⟨rfl, z0⟩ | ⟨t', J, B, Wd, rfl, t9, t27, M, DD, c8, c3, c4⟩
  · exact ⟨-1, zp0 h 1, _, zX_breach_0 K E hd x y (qz3 z0 x), zXeI (zQ_e0 Q 1) (mX_breach_0 hd x y), zQ_ref Q (by decide)⟩
  · have qf := qF DD
    have qj := qJ DD
    have hc0 := qf.1.2
    have hc1 := qf.2.1.2
    have hc2 := qf.2.2.1.2
    have hc3 := qf.2.2.2.1.2
    have hc4 := qf.2.2.2.2.1.2
    have hc5 := qf.2.2.2.2.2.1.2
    have hc6 := qf.2.2.2.2.2.2.1.2
    have hc7 := qf.2.2.2.2.2.2.2.1.2
    have rn := qrn DD c3
    by_cases z1 : zhs c 3 x = 0
    · exact ⟨-1, zp0 h 1, _, zX_breach_0 K E hd x y z1, zXeI (zQ_e0 Q 1) (mX_breach_1 (zmd_0 M t9 K 1) t9 hd x y ((qh3 DD x).trans z1)), zQ_ref Q (by decide)⟩
    · have z1' : ¬ zmh (J 5) x = 0 := fun w => z1 ((qh3 DD _).symm.trans w)
      by_cases z2 : zhs c 1 y = 0
      · exact ⟨-1, zp0 h 1, _, zX_breach_1 K E hd x y z1 z2, zXeI (zQ_e0 Q 1) (mX_breach_2 (zmd_0 M t9 K 1) t9 hd x y z1' ((qh1 DD y).trans z2)), zQ_ref Q (by decide)⟩
      · have z2' : ¬ zmh (J 3) y = 0 := fun w => z2 ((qh1 DD _).symm.trans w)
        obtain ⟨k, hk, rfl⟩ := qe3 DD z1
        obtain ⟨q, hq, rfl⟩ := qe1 DD z2
        exact ⟨_, zp0 h 0, _, zX_breach_2 K E hd _ _ z1 z2, zXeI (zQ_e0 Q 0) (zXv (qbar DD hk hq) (mX_breach_3 (zmd_0 M t9 K 0) t9 (by omega) (by omega) (qdie DD hk).2 (qdie DD hk).1 hd z1' z2')), zQ_ref Q (by decide)⟩
theorem qX_forAll (Q : zQX h) (hd : 20 < d) : zCI d nX11_forAll nX13_forAll [] h := by
  obtain ⟨t, u, tr, c, g, hl, L, S, F0, I, W, td, rd, tp, A, Q⟩ := Q
  obtain ⟨e0, h9, K, D, E, tu, qd, hb, qt, q1, q2, q3, q4, q5, q6, q7, q8⟩ := id Q
  have ht : t = 7 ∨ t = 70 := by omega
  rcases qd with ⟨rfl, z0⟩ | ⟨t', J, B, Wd, rfl, t9, t27, M, DD, c8, c3, c4⟩
  · exact ⟨-1, zp0 h 1, _, zX_forAll_no K E hd (qzr z0), zXeI (zQ_e0 Q 1) (mX_forAll_0 hd), zQ_ref Q (by decide)⟩
  · have qf := qF DD
    have qj := qJ DD
    have hc0 := qf.1.2
    have hc1 := qf.2.1.2
    have hc2 := qf.2.2.1.2
    have hc3 := qf.2.2.2.1.2
    have hc4 := qf.2.2.2.2.1.2
    have hc5 := qf.2.2.2.2.2.1.2
    have hc6 := qf.2.2.2.2.2.2.1.2
    have hc7 := qf.2.2.2.2.2.2.2.1.2
    have rn := qrn DD c3
    exact ⟨_, zp0 h 0, _, zX_forAll_ok K E hd rn hc3 qf.2.2.2.1.1 hc1 qf.2.1.1, zXeI (zQ_e0 Q 0) (zXv (q_ext _ 0 _ (fun i _ hi a => zfa_eq DD (by omega) a)) (mX_forAll (zmd_0 M t9 K 0) t9 hd hc3 qj.2.2.2.1 hc1 qj.2.1 (fun i hi => qdie DD hi))), zQ_ref Q (by decide)⟩
theorem qX_recall (Q : zQX h) (hd : 20 < d) (x : Int32) : zCI d nX11_recall nX13_recall [.int x] h := by
  obtain ⟨t, u, tr, c, g, hl, L, S, F0, I, W, td, rd, tp, A, Q⟩ := Q
  obtain ⟨e0, h9, K, D, E, tu, qd, hb, qt, q1, q2, q3, q4, q5, q6, q7, q8⟩ := id Q
  have ht : t = 7 ∨ t = 70 := by omega
  obtain ⟨N, R, T, r1, r2, r3⟩ := id q1
  rcases qd with ⟨rfl, z0⟩ | ⟨t', J, B, Wd, rfl, t9, t27, M, DD, c8, c3, c4⟩
  · exact ⟨-1, zp0 h 1, _, zX_recall_no K E hd x (qz0 z0 x), zXeI (zQ_e0 Q 1) (mX_recall_0 hd x), zQ_ref Q (by decide)⟩
  · have qf := qF DD
    have qj := qJ DD
    have hc0 := qf.1.2
    have hc1 := qf.2.1.2
    have hc2 := qf.2.2.1.2
    have hc3 := qf.2.2.2.1.2
    have hc4 := qf.2.2.2.2.1.2
    have hc5 := qf.2.2.2.2.2.1.2
    have hc6 := qf.2.2.2.2.2.2.1.2
    have hc7 := qf.2.2.2.2.2.2.2.1.2
    have rn := qrn DD c3
    by_cases z1 : zhs c 0 x = 0
    · rcases qh_no (s := 0) (by decide) z1 with y | y
      · exact ⟨-1, zp0 h 1, _, zX_recall_no K E hd x z1, zXeI (zQ_e0 Q 1) (mX_recall_1 (zmd_0 M t9 K 1) t9 hd x y), zQ_ref Q (by decide)⟩
      · by_cases y1 : x < 0
        · exact ⟨-1, zp0 h 1, _, zX_recall_no K E hd x z1, zXeI (zQ_e0 Q 1) (mX_recall_1 (zmd_0 M t9 K 1) t9 hd x y1), zQ_ref Q (by decide)⟩
        · exact ⟨-1, zp0 h 1, _, zX_recall_no K E hd x z1, zXeI (zQ_e0 Q 1) (mX_recall_2 (zmd_0 M t9 K 1) t9 hd x y1 (by rw [show J 2 = c 0 from DD.2.1 0 (by decide)]; exact y)), zQ_ref Q (by decide)⟩
    · obtain ⟨k, hk, rfl⟩ := qe0 DD z1
      exact ⟨_, zp0 h 0, _, zX_recall_ok K E r1 hd _ z1 hc4 qf.2.2.2.2.1.1, zXeI (zQ_e0 Q 0) (zXv (q_ext _ 0 _ (fun i _ hi a => zrc_eq DD (by omega) N R _ a)) (mX_recall (zmd_0 M t9 K 0) t9 hd r2 _ (nI_pos (by omega)) (by rw [qj.1]; exact nI_lt hk (by omega)) hc4 qj.2.2.2.2.1)), zQ_ref Q (by decide)⟩
theorem qX_menuAt (Q : zQX h) (hd : 20 < d) (x : Int32) : zCI d nX11_menuAt nX13_menuAt [.int x] h := by
  obtain ⟨t, u, tr, c, g, hl, L, S, F0, I, W, td, rd, tp, A, Q⟩ := Q
  obtain ⟨e0, h9, K, D, E, tu, qd, hb, qt, q1, q2, q3, q4, q5, q6, q7, q8⟩ := id Q
  have ht : t = 7 ∨ t = 70 := by omega
  obtain ⟨mC, mS, mP, n, m1, m2, m3, m4⟩ := q4
  exact ⟨_, h, _, zX_menuAt_0 K E m2 m1 hd x, zXeI e0 (zXv (q_if (by omega) m4 x) (mX_menuAt hd x m2 m3)), zQ_nul Q 0⟩
theorem qX_callAt (Q : zQX h) (hd : 20 < d) (x : Int32) : zCI d nX11_callAt nX13_callAt [.int x] h := by
  obtain ⟨t, u, tr, c, g, hl, L, S, F0, I, W, td, rd, tp, A, Q⟩ := Q
  obtain ⟨e0, h9, K, D, E, tu, qd, hb, qt, q1, q2, q3, q4, q5, q6, q7, q8⟩ := id Q
  have ht : t = 7 ∨ t = 70 := by omega
  obtain ⟨ks, n, m1, m2, m3, m4⟩ := q5
  exact ⟨_, h, _, zX_callAt_0 K E m2 m1 hd x, zXeI e0 (zXv (q_if (by omega) m4 x) (mX_callAt hd x m2 m3)), zQ_nul Q 0⟩
theorem qX_helper (Q : zQX h) (hd : 20 < d) (x : Int32) : zCI d nX11_helper nX13_helper [.int x] h := by
  obtain ⟨t, u, tr, c, g, hl, L, S, F0, I, W, td, rd, tp, A, Q⟩ := Q
  obtain ⟨e0, h9, K, D, E, tu, qd, hb, qt, q1, q2, q3, q4, q5, q6, q7, q8⟩ := id Q
  have ht : t = 7 ∨ t = 70 := by omega
  obtain ⟨wW, wL, wP, m1, m2⟩ := q6
  have w := zX_helper_0 K E m1 hd x
  by_cases y : I 37 = 0
  · rw [if_pos y] at w
    exact ⟨_, h, _, w, zXeI e0 (mX_helper_0 hd x y), zQ_nul Q 0⟩
  · rw [if_neg y] at w
    by_cases z : zwn x 0 6 = 0
    · have e : (if x < 0 then (-1 : Int32) else if 7 ≤ x then -1 else wP x.toNatClampNeg) = -1 := by
        by_cases a : x < 0
        · rw [if_pos a]
        · rw [if_neg a]
          by_cases b : (6 : Int32) < x
          · rw [if_pos (show (7 : Int32) ≤ x by
              rw [Int32.lt_iff_toInt_lt] at b
              rw [Int32.le_iff_toInt_le]
              have e1 : (6 : Int32).toInt = 6 := rfl
              have e2 : (7 : Int32).toInt = 7 := rfl
              omega)]
          · rw [zwn, if_neg a, if_neg b] at z
            exact absurd z (by decide)
      rw [e] at w
      exact ⟨_, h, _, w, zXeI e0 (mX_helper_1 hd x y z), zQ_nul Q 0⟩
    · obtain ⟨k, -, hk, rfl⟩ := qw_ex (a := 0) (b := 6) (by decide) (by decide) z
      rw [if_neg (nI_pos (by omega)), if_neg (show ¬ (7 : Int32) ≤ nI k from nI_ge (a := k) (b := 7) (by omega) (by decide)), nI_clamp (by omega)] at w
      exact ⟨_, h, _, w, zXeI e0 (zXv (m2 y k (by omega)) (mX_helper_2 hd (by omega) y z)), zQ_nul Q 0⟩
theorem qX_shared (Q : zQX h) (hd : 20 < d) (x : Int32) : zCI d nX11_shared nX13_shared [.int x] h := by
  obtain ⟨t, u, tr, c, g, hl, L, S, F0, I, W, td, rd, tp, A, Q⟩ := Q
  obtain ⟨e0, h9, K, D, E, tu, qd, hb, qt, q1, q2, q3, q4, q5, q6, q7, q8⟩ := id Q
  have ht : t = 7 ∨ t = 70 := by omega
  obtain ⟨ss, n, m1, m2, m3⟩ := q3
  have w := zX_shared_0 K E m2 m1 hd x
  have no : ∀ a : Int32, a = 0 → (x < 0 ∨ ¬ x < a) → (if x < 0 then (-1 : Int32) else if a ≤ x then -1 else ss.2.2.1 x.toNatClampNeg) = -1 := fun a _ q => by
    by_cases y : x < 0
    · rw [if_pos y]
    · rw [if_neg y, if_pos (Int32.not_lt.mp (q.resolve_left y))]
  have no' : ∀ a : Int32, (x < 0 ∨ ¬ x < a) → (if x < 0 then (-1 : Int32) else if a ≤ x then -1 else ss.2.2.1 x.toNatClampNeg) = -1 := fun a q => by
    by_cases y : x < 0
    · rw [if_pos y]
    · rw [if_neg y, if_pos (Int32.not_lt.mp (q.resolve_left y))]
  have n0 : x < 0 ∨ ¬ x < nI 0 := by
    by_cases y : x < 0
    · exact .inl y
    · exact .inr y
  rcases qd with ⟨rfl, z0⟩ | ⟨t', J, B, Wd, rfl, t9, t27, M, DD, c8, c3, c4⟩
  · have e : n = 0 := by
      have z3 : zcn c 3 = 0 := by rw [zcn, z0 3 (by decide)]; rfl
      rcases m3 with m3 | m3
      · exact m3.2
      · omega
    subst e
    rw [no' _ n0] at w
    exact ⟨_, h, _, w, zXeI e0 (mX_shared_n hd x), zQ_nul Q 0⟩
  · have qf := qF DD
    have qj := qJ DD
    have hc0 := qf.1.2
    have hc1 := qf.2.1.2
    have hc2 := qf.2.2.1.2
    have hc3 := qf.2.2.2.1.2
    have hc4 := qf.2.2.2.2.1.2
    have hc5 := qf.2.2.2.2.2.1.2
    have hc6 := qf.2.2.2.2.2.2.1.2
    have hc7 := qf.2.2.2.2.2.2.2.1.2
    have rn := qrn DD c3
    by_cases z : zhs c 3 x = 0
    · have y := qh_no (s := 3) (by decide) z
      have e : (if x < 0 then (-1 : Int32) else if nI n ≤ x then -1 else ss.2.2.1 x.toNatClampNeg) = -1 := by
        rcases m3 with m3 | m3
        · rw [m3.2]; exact no' _ n0
        · rw [m3.2.1, ← qf.2.2.2.1.1]; exact no' _ y
      rw [e] at w
      exact ⟨_, h, _, w, zXeI e0 (mX_shared_0 M t9 hd x ((qh3 DD x).trans z)), zQ_nul Q 0⟩
    · have z' : ¬ zmh (J 5) x = 0 := fun w => z ((qh3 DD _).symm.trans w)
      rcases m3 with m3 | m3
      · rw [m3.2, no' _ n0] at w
        exact ⟨_, h, _, w, zXeI e0 (mX_shared_1 M t9 hd x z' m3.1), zQ_nul Q 0⟩
      · obtain ⟨k, hk, rfl⟩ := qe3 DD z
        rw [if_neg (nI_pos (by omega)), if_neg (nI_ge (by omega) (by omega)), nI_clamp (by omega)] at w
        exact ⟨_, h, _, w, zXeI e0 (zXv (m3.2.2 k (by omega)) (mX_shared_2 M t9 hd (by omega) z' (by rw [m3.1]; decide))), zQ_nul Q 0⟩
theorem qX_sign (Q : zQX h) (hd : 20 < d) (x y : Int32) : zCI d nX11_sign nX13_sign [.int x, .int y] h := by
  obtain ⟨t, u, tr, c, g, hl, L, S, F0, I, W, td, rd, tp, A, Q⟩ := Q
  obtain ⟨e0, h9, K, D, E, tu, qd, hb, qt, q1, q2, q3, q4, q5, q6, q7, q8⟩ := id Q
  have ht : t = 7 ∨ t = 70 := by omega
  rcases qd with ⟨rfl, z0⟩ | ⟨t', J, B, Wd, rfl, t9, t27, M, DD, c8, c3, c4⟩
  · exact ⟨-1, zp0 h 1, _, zX_sign_0 K E hd x y (qz3 z0 x), zXeI (zQ_e0 Q 1) (mX_sign_0 hd x y), zQ_ref Q (by decide)⟩
  · have qf := qF DD
    have qj := qJ DD
    have hc0 := qf.1.2
    have hc1 := qf.2.1.2
    have hc2 := qf.2.2.1.2
    have hc3 := qf.2.2.2.1.2
    have hc4 := qf.2.2.2.2.1.2
    have hc5 := qf.2.2.2.2.2.1.2
    have hc6 := qf.2.2.2.2.2.2.1.2
    have hc7 := qf.2.2.2.2.2.2.2.1.2
    have rn := qrn DD c3
    by_cases z1 : zhs c 3 x = 0
    · exact ⟨-1, zp0 h 1, _, zX_sign_0 K E hd x y z1, zXeI (zQ_e0 Q 1) (mX_sign_1 (zmd_0 M t9 K 1) t9 hd x y ((qh3 DD x).trans z1)), zQ_ref Q (by decide)⟩
    · have z1' : ¬ zmh (J 5) x = 0 := fun w => z1 ((qh3 DD _).symm.trans w)
      by_cases z2 : zwn y 0 99 = 0
      · exact ⟨-1, zp0 h 2, _, zX_sign_1 K E hd x y z1 z2, zXeI (zQ_e0 Q 2) (mX_sign_2 (zmd_0 M t9 K 2) t9 hd x y z1' z2), zQ_ref Q (by decide)⟩
      · obtain ⟨k, hk, rfl⟩ := qe3 DD z1
        obtain ⟨gN, gV, m1, m2⟩ := id q7
        have mk := m2 k (by omega)
        by_cases z3 : gN k < 10
        · obtain ⟨h1, w1, w2, w3⟩ := zX_sign_3 K E m1 (k := k) (by omega) z3 hd y z1 z2 (nI_lt (b := 10) z3 (by decide))
          have K1 := zK_sm K (w3.2.2.2 0 (by decide))
          have f := zf2_p0 w3 K1 0
          refine ⟨_, zp0 h1 0, _, w1, zXeI (zQ_e Q f (by decide)) (mX_sign (zmd_f M t9 f (by decide)) t9 hd (k := k) (by omega) z3 mk.1 y z1' z2), zQ_G Q (by decide) f (zp0_K K1 0) ⟨rfl, rfl, rfl, rfl, rfl, rfl, rfl, rfl⟩ rfl rfl ⟨rfl, rfl, rfl, rfl, rfl, rfl, rfl, rfl, rfl⟩ ⟨_, _, zsig_sm w2 (zfr_sm (zp0_fr K1 0) (by decide)), ?_⟩⟩
          intro i hi
          have mi := m2 i hi
          show upd (A 40) k (nI (gN k + 1)) i = nI (va_up gN k (gN k + 1) i) ∧ va_up gN k (gN k + 1) i ≤ 10 ∧ ∀ j, j < va_up gN k (gN k + 1) i → (if i = k ∧ j = gN k then y else gV i j) = upd (A 41) (10 * k + gN k) y (10 * i + j)
          rw [upd_at, va_up_at]
          by_cases e : i = k
          · subst e
            rw [if_pos rfl, if_pos rfl]
            refine ⟨rfl, by omega, fun j hj => ?_⟩
            by_cases e2 : j = gN i
            · subst e2
              rw [if_pos ⟨rfl, rfl⟩, upd_eq]
            · rw [if_neg (fun v => e2 v.2), upd_ne (by omega)]
              exact mi.2.2 j (by omega)
          · rw [if_neg e, if_neg e]
            refine ⟨mi.1, mi.2.1, fun j hj => ?_⟩
            rw [if_neg (fun v => e v.1), upd_ne (by omega)]
            exact mi.2.2 j hj
        · have g10 : gN k = 10 := by omega
          exact ⟨-1, zp0 h 3, _, zX_sign_2 K E m1 (k := k) (by omega) hd y z1 z2 (nI_nlt (b := 10) (by omega) (by omega)), zXeI (zQ_e0 Q 3) (mX_sign_3 (zmd_0 M t9 K 3) t9 (k := k) (by omega) hd y z1' z2 (mk.1.trans (congrArg nI g10))), zQ_ref Q (by decide)⟩
theorem qX_fading (Q : zQX h) (hd : 20 < d) (x : Int32) : zCI d nX11_fading nX13_fading [.int x] h := by
  obtain ⟨t, u, tr, c, g, hl, L, S, F0, I, W, td, rd, tp, A, Q⟩ := Q
  obtain ⟨e0, h9, K, D, E, tu, qd, hb, qt, q1, q2, q3, q4, q5, q6, q7, q8⟩ := id Q
  have ht : t = 7 ∨ t = 70 := by omega
  rcases qd with ⟨rfl, z0⟩ | ⟨t', J, B, Wd, rfl, t9, t27, M, DD, c8, c3, c4⟩
  · exact ⟨-1, zp0 h 1, _, zX_fading_0 K E hd x (qz3 z0 x), zXeI (zQ_e0 Q 1) (mX_fading_0 hd x), zQ_ref Q (by decide)⟩
  · have qf := qF DD
    have qj := qJ DD
    have hc0 := qf.1.2
    have hc1 := qf.2.1.2
    have hc2 := qf.2.2.1.2
    have hc3 := qf.2.2.2.1.2
    have hc4 := qf.2.2.2.2.1.2
    have hc5 := qf.2.2.2.2.2.1.2
    have hc6 := qf.2.2.2.2.2.2.1.2
    have hc7 := qf.2.2.2.2.2.2.2.1.2
    have rn := qrn DD c3
    by_cases z1 : zhs c 3 x = 0
    · exact ⟨-1, zp0 h 1, _, zX_fading_0 K E hd x z1, zXeI (zQ_e0 Q 1) (mX_fading_1 (zmd_0 M t9 K 1) t9 hd x ((qh3 DD x).trans z1)), zQ_ref Q (by decide)⟩
    · have z1' : ¬ zmh (J 5) x = 0 := fun w => z1 ((qh3 DD _).symm.trans w)
      obtain ⟨k, hk, rfl⟩ := qe3 DD z1
      obtain ⟨gN, gV, m1, m2⟩ := id q7
      have mk := m2 k (by omega)
      by_cases z3 : 4 ≤ gN k
      · have ef : zfad (gV k) (gN k) = zfad (fun i => A 41 (10 * k + i)) (gN k) := qfad (gN k) (by omega) (fun i hi => mk.2.2 i hi)
        exact ⟨_, zp0 h 0, _, zX_fading_2 K E m1 (k := k) (by omega) (by omega) hd z1 (nI_le (a := 4) z3 (by omega)), zXeI (zQ_e0 Q 0) (zXv ef (mX_fading (zmd_0 M t9 K 0) t9 hd (k := k) (by omega) mk.2.1 z3 mk.1 z1')), zQ_ref Q (by decide)⟩
      · have z4 : ¬ (4 : Int32) ≤ nI (gN k) := nI_ge (b := 4) (by omega) (by decide)
        exact ⟨-1, zp0 h 5, _, zX_fading_1 K E m1 (k := k) (by omega) hd z1 z4, zXeI (zQ_e0 Q 5) (mX_fading_2 (zmd_0 M t9 K 5) t9 (k := k) (by omega) hd z1' (by rw [mk.1]; exact z4)), zQ_ref Q (by decide)⟩
theorem qX_probe (Q : zQX h) (hd : 20 < d) (x y w : Int32) : zCI d nX11_probe nX13_probe [.int x, .int y, .int w] h := by
  obtain ⟨t, u, tr, c, g, hl, L, S, F0, I, W, td, rd, tp, A, Q⟩ := Q
  obtain ⟨e0, h9, K, D, E, tu, qd, hb, qt, q1, q2, q3, q4, q5, q6, q7, q8⟩ := id Q
  have ht : t = 7 ∨ t = 70 := by omega
  rcases qd with ⟨rfl, z0⟩ | ⟨t', J, B, Wd, rfl, t9, t27, M, DD, c8, c3, c4⟩
  · exact ⟨-1, zp0 h 1, _, zX_probe_0 K E hd x y w (qz4 z0 x), zXeI (zQ_e0 Q 1) (mX_probe_0 hd x y w), zQ_ref Q (by decide)⟩
  · have qf := qF DD
    have qj := qJ DD
    have hc0 := qf.1.2
    have hc1 := qf.2.1.2
    have hc2 := qf.2.2.1.2
    have hc3 := qf.2.2.2.1.2
    have hc4 := qf.2.2.2.2.1.2
    have hc5 := qf.2.2.2.2.2.1.2
    have hc6 := qf.2.2.2.2.2.2.1.2
    have hc7 := qf.2.2.2.2.2.2.2.1.2
    have rn := qrn DD c3
    by_cases z1 : zhs c 4 x = 0
    · exact ⟨-1, zp0 h 1, _, zX_probe_0 K E hd x y w z1, zXeI (zQ_e0 Q 1) (mX_probe_1 (zmd_0 M t9 K 1) t9 hd x y w ((qh4 DD x).trans z1)), zQ_ref Q (by decide)⟩
    · have z1' : ¬ zmh (J 6) x = 0 := fun w => z1 ((qh4 DD _).symm.trans w)
      obtain ⟨k, hk, rfl⟩ := qe4 DD z1
      have qs := qstart DD hk
      by_cases z2 : zwn y (zget c g 4 (nI k) 1) 999 = 0
      · exact ⟨-1, zp0 h 2, _, zX_probe_1 K E hd _ y w z1 z2, zXeI (zQ_e0 Q 2) (mX_probe_2 (zmd_0 M t9 K 2) t9 (k := k) (by omega) hd y w z1' (by rw [qs.2.1, ← qs.1]; exact z2)), zQ_ref Q (by decide)⟩
      · have z2' : ¬ zwn y (B 27 k) 999 = 0 := by rw [qs.2.1, ← qs.1]; exact z2
        by_cases z3 : zwn w 0 99 = 0
        · exact ⟨-1, zp0 h 2, _, zX_probe_2 K E hd _ y w z1 z2 z3, zXeI (zQ_e0 Q 2) (mX_probe_3 (zmd_0 M t9 K 2) t9 (k := k) (by omega) hd y w z1' z2' z3), zQ_ref Q (by decide)⟩
        · obtain ⟨n, pC, pM, pT, m1, m2, m3⟩ := id q8
          have n16 : n ≤ 16 := m1.2.1
          by_cases z4 : n < 16
          · obtain ⟨h1, w1, w2, w3⟩ := zX_probe_4 K E m1 z4 hd (nI k) y w z1 z2 z3 (nI_lt (b := 16) z4 (by decide))
            have K1 := zK_sm K (w3.2.2.2 0 (by decide))
            have f := zf2_p0 w3 K1 0
            rw [qs.1] at z2
            obtain ⟨Y, y1, y2, rfl⟩ := qw_ex (b := 999) (by omega) (by decide) z2
            refine ⟨_, zp0 h1 0, _, w1, zXeI (zQ_e Q f (by decide)) (mX_probe (zmd_f M t9 f (by decide)) t9 hd (k := k) (by omega) z4 m2 _ w z1' z2' z3), zQ_P Q (by decide) f (zp0_K K1 0) ⟨rfl, rfl, rfl, rfl, rfl, rfl, rfl⟩ rfl rfl ⟨rfl, rfl, rfl, rfl, rfl, rfl, rfl, rfl⟩ ⟨n + 1, _, _, _, zpro_sm w2 (zfr_sm (zp0_fr K1 0) (by decide)), rfl, ?_⟩⟩
            intro i hi
            show (upd pC n (nI k) i = upd (A 43) n (nI k) i ∧ upd pM n (nI Y) i = upd (A 44) n (nI Y) i ∧ upd pT n w i = upd (A 45) n w i) ∧ ∃ q m, upd pC n (nI k) i = nI q ∧ q < zcn c 4 ∧ upd pM n (nI Y) i = nI m ∧ zNv g 4 q 1 ≤ m ∧ m ≤ 999
            by_cases e : i = n
            · subst e
              simp only [upd_eq]
              exact ⟨⟨trivial, trivial, trivial⟩, k, Y, rfl, hk, rfl, y1, y2⟩
            · simp only [upd_ne e]
              exact m3 i (by omega)
          · have n6 : n = 16 := by omega
            exact ⟨-1, zp0 h 3, _, zX_probe_3 K E m1 hd _ y w z1 z2 z3 (nI_nlt (b := 16) (by omega) (by omega)), zXeI (zQ_e0 Q 3) (mX_probe_4 (zmd_0 M t9 K 3) t9 (k := k) (by omega) hd y w z1' z2' z3 (m2.trans (congrArg nI n6))), zQ_ref Q (by decide)⟩
theorem qX_faulty (Q : zQX h) (hd : 20 < d) (x : Int32) : zCI d nX11_faulty nX13_faulty [.int x] h := by
  obtain ⟨t, u, tr, c, g, hl, L, S, F0, I, W, td, rd, tp, A, Q⟩ := Q
  obtain ⟨e0, h9, K, D, E, tu, qd, hb, qt, q1, q2, q3, q4, q5, q6, q7, q8⟩ := id Q
  have ht : t = 7 ∨ t = 70 := by omega
  rcases qd with ⟨rfl, z0⟩ | ⟨t', J, B, Wd, rfl, t9, t27, M, DD, c8, c3, c4⟩
  · exact ⟨-1, zp0 h 1, _, zX_faulty_0 K E hd x (qzr z0), zXeI (zQ_e0 Q 1) (mX_faulty_0 hd x), zQ_ref Q (by decide)⟩
  · have qf := qF DD
    have qj := qJ DD
    have hc0 := qf.1.2
    have hc1 := qf.2.1.2
    have hc2 := qf.2.2.1.2
    have hc3 := qf.2.2.2.1.2
    have hc4 := qf.2.2.2.2.1.2
    have hc5 := qf.2.2.2.2.2.1.2
    have hc6 := qf.2.2.2.2.2.2.1.2
    have hc7 := qf.2.2.2.2.2.2.2.1.2
    have rn := qrn DD c3
    by_cases z1 : zwn x 0 99 = 0
    · exact ⟨-1, zp0 h 2, _, zX_faulty_1 K E hd x rn z1, zXeI (zQ_e0 Q 2) (mX_faulty_1 (zmd_0 M t9 K 2) t9 hd x z1), zQ_ref Q (by decide)⟩
    · obtain ⟨n, pC, pM, pT, m1, m2, m3⟩ := id q8
      obtain ⟨X, -, hX, rfl⟩ := qw_ex (a := 0) (b := 99) (by decide) (by decide) z1
      have eq := zfy_eq DD c8 (n := n) (al := nI X) (nI_pos' (by omega)) (fun i hi => (m3 i hi).1) (fun i hi => by
        obtain ⟨q, m, a1, a2, a3, a4, a5⟩ := (m3 i hi).2
        exact ⟨q, m, a1, a2, a3, a4, by omega⟩) n 0 0 (by omega)
      exact ⟨_, zp0 h 0, _, zX_faulty_2 K E m1 hd _ rn z1, zXeI (zQ_e0 Q 0) (zXv eq (mX_faulty (zmd_0 M t9 K 0) t9 hd m1.2.1 m2 (fun i hi => by
        obtain ⟨q, m, a1, a2, -⟩ := (m3 i hi).2
        exact ⟨q, by omega, (m3 i hi).1.1.symm.trans a1, (qkit DD a2).2, (qkit DD a2).1⟩) _ z1)), zQ_ref Q (by decide)⟩
theorem qX_firstCold (Q : zQX h) (hd : 20 < d) : zCI d nX11_firstCold nX13_firstCold [] h := by
  obtain ⟨t, u, tr, c, g, hl, L, S, F0, I, W, td, rd, tp, A, Q⟩ := Q
  obtain ⟨e0, h9, K, D, E, tu, qd, hb, qt, q1, q2, q3, q4, q5, q6, q7, q8⟩ := id Q
  have ht : t = 7 ∨ t = 70 := by omega
  rcases qd with ⟨rfl, z0⟩ | ⟨t', J, B, Wd, rfl, t9, t27, M, DD, c8, c3, c4⟩
  · exact ⟨-1, zp0 h 1, _, zX_firstCold_0 K E hd (qzr z0), zXeI (zQ_e0 Q 1) (mX_firstCold_0 hd), zQ_ref Q (by decide)⟩
  · have qf := qF DD
    have qj := qJ DD
    have hc0 := qf.1.2
    have hc1 := qf.2.1.2
    have hc2 := qf.2.2.1.2
    have hc3 := qf.2.2.2.1.2
    have hc4 := qf.2.2.2.2.1.2
    have hc5 := qf.2.2.2.2.2.1.2
    have hc6 := qf.2.2.2.2.2.2.1.2
    have hc7 := qf.2.2.2.2.2.2.2.1.2
    have rn := qrn DD c3
    obtain ⟨n, pC, pM, pT, m1, m2, m3⟩ := id q8
    have e8 : zget c g 8 0 0 = J 0 := (zget_g DD (s := 8) (r := 0) (k := 0) (by decide) c8 (by decide)).trans (DD.2.2.2.2.2.2.2.2 c8).1.symm
    have eq := zfc_eq (hot := zget c g 8 0 0) (n := n) (fun i hi => (m3 i hi).1.2) (fun i hi => by
        obtain ⟨q, m, a1, a2, a3, a4, a5⟩ := (m3 i hi).2
        exact ⟨m, a3, by omega⟩) n 0 none (by omega) (fun v e => by cases e)
    exact ⟨_, zp0 h 0, _, zX_firstCold_1 K E m1 hd rn, zXeI (zQ_e0 Q 0) (zXv (eq.trans (by rw [e8])) (mX_firstCold (zmd_0 M t9 K 0) t9 hd m1.2.1 m2)), zQ_ref Q (by decide)⟩
end NZQE
