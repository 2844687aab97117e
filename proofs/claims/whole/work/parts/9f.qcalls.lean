/-! coupling: calls (menu, dropped, knock, asTold, fill, best, bestAt, share) -/
theorem qfat {V : Nat → Int32} : ∀ (j k : Nat) (f : Nat → Int32) (x : Nat), zit (fun e f => upd f e (V e)) k j f x = if k ≤ x ∧ x < k + j then V x else f x := by
  intro j
  induction j with
  | zero => exact fun k f x => by rw [if_neg (by omega)]; rfl
  | succ j ih =>
    intro k f x
    rw [zit, ih (k + 1)]
    by_cases y : k + 1 ≤ x ∧ x < k + 1 + j
    · rw [if_pos y, if_pos (by omega)]
    · rw [if_neg y, upd_at]
      by_cases z : x = k
      · rw [if_pos z, if_pos (by omega), z]
      · rw [if_neg z, if_neg (by omega)]
theorem qmul : ∀ b, b < 19 → 10000 * nI b = nI (10000 * b) := by decide +kernel
theorem qdiv {b t : Nat} (hb : b ≤ 18) (ht : t < 10000) : nI (10000 * b + t) / 10000 = nI b := by
  apply Int32.toInt_inj.mp
  rw [Int32.toInt_div, nI_toInt (by omega), nI_toInt (by omega), show (10000 : Int32).toInt = 10000 from rfl]
  rw [show ((10000 * b + t : Nat) : Int).tdiv 10000 = ((10000 * b + t) / 10000 : Nat) from rfl, show (10000 * b + t) / 10000 = b by omega]
  rw [Int.bmod_eq_of_le (by omega) (by omega)]
theorem qow {v : Nat} (hv : v ≤ 1400) : ¬ zow (some v) = 1000000000 := fun e => by
  have := (nI_eq (a := v) (b := 1000000000) (by omega) (by decide)).mp e
  omega
theorem qgiv {c g : Nat → Int32} {Wt : Nat → Nat → Int32} {m : Nat} : ∀ (r x : Nat) (s : zss), s.2.2.2 ≤ 1000000000 → (zgiv c g Wt m r x s).2.2.2 ≤ 1000000000 ∧ ((zgiv c g Wt m r x s).2.2.2 = 1000000000 → s.2.2.2 = 1000000000 ∧ (zgiv c g Wt m r x s).2.2.1 = s.2.2.1) := by
  intro r
  induction r with
  | zero =>
    intro x s hs
    rw [zgiv, zshN]
    by_cases y : s.2.2.2 ≤ zit (zshW Wt s.1) 0 3 0
    · rw [if_pos y]
      exact ⟨hs, fun e => ⟨e, rfl⟩⟩
    · rw [if_neg y]
      have y2 : ¬ s.2.2.2.toInt ≤ (zit (zshW Wt s.1) 0 3 0).toInt := fun z => y (Int32.le_iff_toInt_le.mpr z)
      have h1 : (1000000000 : Int32).toInt = 1000000000 := rfl
      have h2 := Int32.le_iff_toInt_le.mp hs
      refine ⟨?_, fun e => ?_⟩
      · show zit (zshW Wt s.1) 0 3 0 ≤ 1000000000
        rw [Int32.le_iff_toInt_le]
        omega
      · have e : zit (zshW Wt s.1) 0 3 0 = 1000000000 := e
        rw [e] at y2
        omega
  | succ r ih =>
    intro x s hs
    rw [zgiv]
    have := zit_inv (P := fun _ a => a.2.2.2 ≤ 1000000000 ∧ (a.2.2.2 = 1000000000 → s.2.2.2 = 1000000000 ∧ a.2.2.1 = s.2.2.1)) (f := fun car s => if zget c g 4 (nI car) 2 ≤ nI (zpop (s.1 car)) then s else
      (va_up (zgiv c g Wt m r (x + 1) (va_up s.1 car (s.1 car ||| 2 ^ x), upd s.2.1 x (nI car), s.2.2)).1 car ((zgiv c g Wt m r (x + 1) (va_up s.1 car (s.1 car ||| 2 ^ x), upd s.2.1 x (nI car), s.2.2)).1 car &&& (63 - 2 ^ x)), (zgiv c g Wt m r (x + 1) (va_up s.1 car (s.1 car ||| 2 ^ x), upd s.2.1 x (nI car), s.2.2)).2)) m 0 s ⟨hs, fun e => ⟨e, rfl⟩⟩ (fun i _ _ b hb => by
        by_cases y : zget c g 4 (nI i) 2 ≤ nI (zpop (b.1 i))
        · rw [if_pos y]; exact hb
        · rw [if_neg y]
          have q := ih (x + 1) (va_up b.1 i (b.1 i ||| 2 ^ x), upd b.2.1 x (nI i), b.2.2) hb.1
          refine ⟨q.1, fun e => ?_⟩
          have q := q.2 e
          have p := hb.2 q.1
          exact ⟨p.1, q.2.trans p.2⟩)
    exact this
/-- a share's digits -/
theorem qhpb (m c : Nat) : ∀ n, n ≤ 6 → ∀ all x, x < n → (zhp m c n all / 2 ^ x % 2 = 1 ↔ all / m ^ (n - 1 - x) % m = c)
  | 0, _, _, _, h => by omega
  | n + 1, hn, all, x, hx => by
    have hl := zhp_lt m c n (by omega) (all / m)
    have h64 := z2le (x := n) (by omega)
    have bb := zbb6 (zhp m c n (all / m)) (by omega) n (by omega) x (by omega)
    rw [zhp]
    by_cases y : x = n
    · subst y
      rw [show x + 1 - 1 - x = 0 by omega, Nat.pow_zero, Nat.div_one]
      by_cases z : all % m = c
      · rw [if_pos z, bb, if_pos rfl]
        exact ⟨fun _ => z, fun _ => rfl⟩
      · rw [if_neg z]
        exact ⟨fun w => absurd w (zhp_bit x (by omega) _ hl), fun w => absurd w z⟩
    · have ih := qhpb m c n (by omega) (all / m) x (by omega)
      rw [show n + 1 - 1 - x = (n - 1 - x) + 1 by omega, Nat.pow_succ', ← Nat.div_div_eq_div_mul, ← ih]
      by_cases z : all % m = c
      · rw [if_pos z, bb, if_neg y]
      · rw [if_neg z]
theorem qshX {m n b c : Nat} (hn : n ≤ 6) : ∀ (j k : Nat) (f : Nat → Int32) (x : Nat), k + j ≤ n → zit (zshX m n b c) k j f x = if (k ≤ x ∧ x < k + j) ∧ b / m ^ (n - 1 - x) % m = c then nI c else f x := by
  intro j
  induction j with
  | zero => exact fun k f x _ => by rw [if_neg (by omega)]; rfl
  | succ j ih =>
    intro k f x hk
    have e := qhpb m c n hn b k (by omega)
    have e2 : zho m c n b 0 = zhp m c n b := by rw [zho_p m c n hn b 0 (by decide), Nat.or_zero]
    rw [zit, ih (k + 1) _ x (by omega), zshX, e2]
    by_cases y : x = k
    · subst y
      rw [if_neg (by omega)]
      by_cases z : zhp m c n b / 2 ^ x % 2 = 1
      · rw [if_pos z, upd_eq, if_pos ⟨by omega, e.mp z⟩]
      · rw [if_neg z, if_neg (fun w => z (e.mpr w.2))]
    · have e3 : (if zhp m c n b / 2 ^ k % 2 = 1 then upd f k (nI c) else f) x = f x := by
        split
        · exact upd_ne y
        · rfl
      rw [e3]
      by_cases z : (k + 1 ≤ x ∧ x < k + 1 + j) ∧ b / m ^ (n - 1 - x) % m = c
      · rw [if_pos z, if_pos ⟨by omega, z.2⟩]
      · rw [if_neg z, if_neg (fun w => z ⟨by omega, w.2⟩)]
theorem qshF {m n b : Nat} (hn : n ≤ 6) (m0 : 0 < m) : ∀ (j k : Nat) (f : Nat → Int32), k + j = m → ∀ x, x < n → (k ≤ zdg m n b x → zit (zshF m n b) k j f x = nI (zdg m n b x)) ∧ (zdg m n b x < k → zit (zshF m n b) k j f x = f x) := by
  intro j
  induction j with
  | zero =>
    intro k f hk x hx
    have : zdg m n b x < m := Nat.mod_lt _ m0
    exact ⟨fun w => by omega, fun _ => rfl⟩
  | succ j ih =>
    intro k f hk x hx
    have i1 := ih (k + 1) (zshF m n b k f) (by omega) x hx
    have e := qshX (m := m) (b := b) (c := k) hn n 0 f x (by omega)
    rw [zit]
    refine ⟨fun w => ?_, fun w => ?_⟩
    · by_cases y : k = zdg m n b x
      · rw [i1.2 (by omega), zshF, e, if_pos ⟨by omega, y.symm⟩, ← y]
      · exact i1.1 (by omega)
    · rw [i1.2 (by omega), zshF, e, if_neg (fun v => by
        have : zdg m n b x = k := v.2
        omega)]
section NZQF
variable {d : Nat} {h : nzH}
theorem qX_menu (Q : zQX h) (hd : 20 < d) (x y : Int32) : zCI d nX11_menu nX13_menu [.int x, .int y] h := by
  obtain ⟨t, u, tr, c, g, hl, L, S, F0, I, W, td, rd, tp, A, Q⟩ := Q
  obtain ⟨e0, h9, K, D, E, tu, qd, hb, qt, q1, q2, q3, q4, q5, q6, q7, q8⟩ := id Q
  have ht : t = 7 ∨ t = 70 := by omega
  obtain ⟨mC, mS, mP, n, v1, v2, v3, v4⟩ := id q4
  rcases qd with ⟨rfl, z0⟩ | ⟨t', J, B, Wd, rfl, t9, t27, M, DD, c8, c3, c4⟩
  · exact ⟨-1, zp0 h 1, _, zX_menu_0 K E hd x y (qz2 z0 x), zXeI (zQ_e0 Q 1) (mX_menu_0 hd x y), zQ_ref Q (by decide)⟩
  · have qf := qF DD
    have qj := qJ DD
    have hc0 := qf.1.2
    have hc1 := qf.2.1.2
    have hc2 := qf.2.2.1.2
    have hc3 := qf.2.2.2.1.2
    have hc4 := qf.2.2.2.2.1.2
    have hc5 := qf.2.2.2.2.2.1.2
    have hc6 := qf.2.2.2.2.2.2.1.2
    have hc7 := qf.2.2.2.2.2.2.2.1.2
    have rn := qrn DD c3
    by_cases z1 : zhs c 2 x = 0
    · by_cases y1 : x < 0
      · exact ⟨-1, zp0 h 1, _, zX_menu_0 K E hd x y z1, zXeI (zQ_e0 Q 1) (mX_menu_1 (zmd_0 M t9 K 1) t9 hd x y y1), zQ_ref Q (by decide)⟩
      · exact ⟨-1, zp0 h 1, _, zX_menu_0 K E hd x y z1, zXeI (zQ_e0 Q 1) (mX_menu_2 (zmd_0 M t9 K 1) t9 hd x y y1 (by rw [show J 4 = c 2 from DD.2.1 2 (by decide)]; exact (qh_no (s := 2) (by decide) z1).resolve_left y1)), zQ_ref Q (by decide)⟩
    · obtain ⟨e, he, rfl⟩ := qe2 DD z1
      have xe : nI e < J 4 := by rw [qj.2.2.1]; exact nI_lt he (by omega)
      by_cases z2 : zwn y 1 14 = 0
      · exact ⟨-1, zp0 h 2, _, zX_menu_1 K E hd _ y z1 z2, zXeI (zQ_e0 Q 2) (mX_menu_3 (zmd_0 M t9 K 2) t9 hd _ y (nI_pos (by omega)) xe z2), zQ_ref Q (by decide)⟩
      · obtain ⟨m, m0, m14, rfl⟩ := qw_ex (a := 1) (b := 14) (by decide) (by decide) z2
        have mc := zmenu_c DD he (m := m) (by omega) m14
        cases ev : zNp c g B e m with
        | none =>
          rw [ev] at mc
          obtain ⟨h1, C1, w1, w2, w3⟩ := zX_menu_2 K E v1 ht m0 m14 hd (nI e) z1 z2 mc
          have K1 := zK_sm K (w3.2.2.2 0 (by decide))
          have f := zf2_p0 w3 K1 6
          obtain ⟨w, mm⟩ := mX_menu_6 (F0 := F0) (I := I) (W := W) (rd := rd) (tp := tp) (A := A) (zmd_f M t9 f (by decide)) t9 hd hc1 qj.2.1 (show e < 4 by omega) m14 (by omega) (qcost DD) xe z2 ev
          exact ⟨_, zp0 h1 6, _, w1, zXeI (zQ_e Q f (by decide)) mm, zQ_M Q (by decide) f (zp0_K K1 6) ⟨rfl, rfl, rfl, rfl, rfl, rfl, rfl⟩ rfl rfl ⟨rfl, rfl, rfl, rfl, rfl, rfl, rfl, rfl, rfl, rfl⟩ ⟨C1, mS, mP, n, zmen_sm w2 (zfr_sm (zp0_fr K1 6) (by decide)), v2, v3, v4⟩⟩
        | some v =>
          rw [ev] at mc
          have vb := zNp_lt DD m14 ev
          obtain ⟨h1, C1, w1, w2, w3, w4⟩ := zX_menu_3 K E v1 ht m0 m14 hd (nI e) z1 z2 (by rw [mc]; exact qow (by omega))
          have K1 := zK_sm K (w3.2.2.2 0 (by decide))
          have f := zf2_p0 w3 K1 0
          obtain ⟨w, mm⟩ := mX_menu (F0 := F0) (I := I) (W := W) (rd := rd) (tp := tp) (A := A) (zmd_f M t9 f (by decide)) t9 hd hc1 qj.2.1 (show e < 4 by omega) m14 (by omega) (qcost DD) xe z2 ev (by omega)
          exact ⟨_, zp0 h1 0, _, w1, zXeI (zQ_e Q f (by decide)) (zXv mc mm), zQ_M Q (by decide) f (zp0_K K1 0) ⟨rfl, rfl, rfl, rfl, rfl, rfl, rfl⟩ rfl rfl ⟨rfl, rfl, rfl, rfl, rfl, rfl, rfl, rfl, rfl, rfl⟩ ⟨C1, _, mP, m, zmen_sm w2 (zfr_sm (zp0_fr K1 0) (by decide)), m14, rfl, fun k hk => zmenu_t DD he m14 w4 m 0 none mS (A 32) (by omega) (fun v e => by cases e) (fun _ z => by have z : zNp c g B e m = none := z; rw [ev] at z; cases z) (fun k hk => by omega) k hk⟩⟩
theorem qX_dropped (Q : zQX h) (hd : 20 < d) (x y : Int32) : zCI d nX11_dropped nX13_dropped [.int x, .int y] h := by
  obtain ⟨t, u, tr, c, g, hl, L, S, F0, I, W, td, rd, tp, A, Q⟩ := Q
  obtain ⟨e0, h9, K, D, E, tu, qd, hb, qt, q1, q2, q3, q4, q5, q6, q7, q8⟩ := id Q
  have ht : t = 7 ∨ t = 70 := by omega
  obtain ⟨mC, mS, mP, n, v1, v2, v3, v4⟩ := id q4
  rcases qd with ⟨rfl, z0⟩ | ⟨t', J, B, Wd, rfl, t9, t27, M, DD, c8, c3, c4⟩
  · exact ⟨-1, zp0 h 1, _, zX_dropped_0 K E hd x y (qzr z0), zXeI (zQ_e0 Q 1) (mX_dropped_0 hd x y), zQ_ref Q (by decide)⟩
  · have qf := qF DD
    have qj := qJ DD
    have hc0 := qf.1.2
    have hc1 := qf.2.1.2
    have hc2 := qf.2.2.1.2
    have hc3 := qf.2.2.2.1.2
    have hc4 := qf.2.2.2.2.1.2
    have hc5 := qf.2.2.2.2.2.1.2
    have hc6 := qf.2.2.2.2.2.2.1.2
    have hc7 := qf.2.2.2.2.2.2.2.1.2
    have rn := qrn DD c3
    by_cases z1 : zwn y 1 14 = 0
    · exact ⟨-1, zp0 h 2, _, zX_dropped_1 K E hd x y rn z1, zXeI (zQ_e0 Q 2) (mX_dropped_1 (zmd_0 M t9 K 2) t9 hd x y z1), zQ_ref Q (by decide)⟩
    · by_cases z2 : zwn x 0 99999 = 0
      · exact ⟨-1, zp0 h 2, _, zX_dropped_2 K E hd x y rn z1 z2, zXeI (zQ_e0 Q 2) (mX_dropped_2 (zmd_0 M t9 K 2) t9 hd x y z1 z2), zQ_ref Q (by decide)⟩
      · obtain ⟨m, m0, m14, rfl⟩ := qw_ex (a := 1) (b := 14) (by decide) (by decide) z1
        obtain ⟨X, -, hX, rfl⟩ := qw_ex (a := 0) (b := 99999) (by decide) (by decide) z2
        obtain ⟨pc, pp⟩ := zprs_c DD (m := m) (by omega) m14 (zcn c 3) 0 (by omega)
        cases ev : zprs (fun i => zNp c g B (zNv g 3 i 1) m) 0 (zcn c 3) with
        | none =>
          rw [ev] at pc
          obtain ⟨h1, C1, P1, w1, w2, w3⟩ := zX_dropped_3 K E v1 ht m0 m14 hc3 qf.2.2.2.1.1 hd (nI X) rn z1 z2 pc
          have K1 := zK_sm K (w3.2.2.2 0 (by decide))
          have f := zf2_p0 w3 K1 6
          obtain ⟨w, mm⟩ := mX_dropped_6 (F0 := F0) (I := I) (W := W) (rd := rd) (tp := tp) (A := A) (zmd_f M t9 f (by decide)) t9 hd hc1 qj.2.1 hc3 qj.2.2.2.1 m14 (by omega) (qcost DD) (fun i hi => qdie DD hi) (nI X) z1 z2 ev
          exact ⟨_, zp0 h1 6, _, w1, zXeI (zQ_e Q f (by decide)) mm, zQ_M Q (by decide) f (zp0_K K1 6) ⟨rfl, rfl, rfl, rfl, rfl, rfl, rfl⟩ rfl rfl ⟨rfl, rfl, rfl, rfl, rfl, rfl, rfl, rfl, rfl, rfl⟩ ⟨C1, mS, P1, n, zmen_sm w2 (zfr_sm (zp0_fr K1 6) (by decide)), v2, v3, v4⟩⟩
        | some T =>
          rw [ev] at pc
          have ps : ∀ i, i < zcn c 3 → zNp c g B (zNv g 3 i 1) m = some ((zNp c g B (zNv g 3 i 1) m).getD 0) := fun i hi => qprs (pr := fun i => zNp c g B (zNv g 3 i 1) m) (zcn c 3) 0 T ev i (by omega) (by omega)
          obtain ⟨h1, C1, P1, w1, w2, w3, w4⟩ := zX_dropped_4 K E v1 ht m0 m14 hc3 qf.2.2.2.1.1 hd (nI X) rn z1 z2 pc
          have K1 := zK_sm K (w3.2.2.2 0 (by decide))
          have f := zf2_p0 w3 K1 0
          obtain ⟨w, mm⟩ := mX_dropped (F0 := F0) (I := I) (W := W) (rd := rd) (tp := tp) (A := A) (zmd_f M t9 f (by decide)) t9 hd hc1 qj.2.1 hc3 qj.2.2.2.1 m14 (by omega) (coin := X) (by omega) (qcost DD) (fun i hi => (qneed DD i hi).2) (fun i hi => qdie DD hi) (p := fun i => (zNp c g B (zNv g 3 i 1) m).getD 0) (fun i hi => ps i hi) z1 z2
          have eq := zdrop_eq (c := c) (g := g) (P := P1) (p := fun i => (zNp c g B (zNv g 3 i 1) m).getD 0) (need := fun i => zNv g 3 i 5) (n := zcn c 3) (coin := X) hc3 (by omega) (fun i hi => (qneed DD i hi).1) (fun i hi => by
            have a := ps i hi
            refine ⟨?_, by have := zNp_lt DD m14 a; omega⟩
            rw [w4 i hi, pp i (by omega) hi]
            exact congrArg zow a) 6 0 (by decide)
          exact ⟨_, zp0 h1 0, _, w1, zXeI (zQ_e Q f (by decide)) (zXv eq mm), zQ_M Q (by decide) f (zp0_K K1 0) ⟨rfl, rfl, rfl, rfl, rfl, rfl, rfl⟩ rfl rfl ⟨rfl, rfl, rfl, rfl, rfl, rfl, rfl, rfl, rfl, rfl⟩ ⟨C1, mS, P1, n, zmen_sm w2 (zfr_sm (zp0_fr K1 0) (by decide)), v2, v3, v4⟩⟩
theorem qcl0 {c : Nat → Int32} (z : zrow c 3 = 0) : (if zrow c 3 = 0 then (1 : Int32) else if zrow c 6 = 0 then 6 else 0) = 1 := if_pos z
theorem qX_knock (Q : zQX h) (hd : 20 < d) : zCL d nX11_knock nX13_knock [] h := by
  obtain ⟨t, u, tr, c, g, hl, L, S, F0, I, W, td, rd, tp, A, Q⟩ := Q
  obtain ⟨e0, h9, K, D, E, tu, qd, hb, qt, q1, q2, q3, q4, q5, q6, q7, q8⟩ := id Q
  have ht : t = 7 ∨ t = 70 := by omega
  obtain ⟨ks, kc, k1, k2, k3, k4⟩ := id q5
  rcases qd with ⟨rfl, z0⟩ | ⟨t', J, B, Wd, rfl, t9, t27, M, DD, c8, c3, c4⟩
  · have w := zX_knock_0 K E hd (by rw [qcl0 (qzr z0)]; decide)
    rw [qcl0 (qzr z0)] at w
    exact ⟨_, zp0 h 1, _, w, zXeL (zQ_e0 Q 1) (mX_knock_0 hd), zQ_ref Q (by decide)⟩
  · have qf := qF DD
    have qj := qJ DD
    have hc0 := qf.1.2
    have hc1 := qf.2.1.2
    have hc2 := qf.2.2.1.2
    have hc3 := qf.2.2.2.1.2
    have hc4 := qf.2.2.2.2.1.2
    have hc5 := qf.2.2.2.2.2.1.2
    have hc6 := qf.2.2.2.2.2.2.1.2
    have hc7 := qf.2.2.2.2.2.2.2.1.2
    have rn := qrn DD c3
    have r6 : zrow c 6 = nI (zcn c 6) := (zrow_n c (s := 6) (by decide)).trans qf.2.2.2.2.2.2.1.1
    by_cases n0 : zcn c 6 = 0
    · have ee : (if zrow c 3 = 0 then (1 : Int32) else if zrow c 6 = 0 then 6 else 0) = 6 := by rw [if_neg rn, if_pos (by rw [r6, n0]; rfl)]
      have w := zX_knock_0 K E hd (by rw [ee]; decide)
      rw [ee] at w
      exact ⟨_, zp0 h 6, _, w, zXeL (zQ_e0 Q 6) (mX_knock_1 (zmd_0 M t9 K 6) t9 hd (by rw [qj.2.2.2.2.2.2.1, n0]; rfl)), zQ_ref Q (by decide)⟩
    · have nz : ¬ nI (zcn c 6) = 0 := nI_ne0 (by omega) (by omega)
      have ee : (if zrow c 3 = 0 then (1 : Int32) else if zrow c 6 = 0 then 6 else 0) = 0 := by rw [if_neg rn, if_neg (by rw [r6]; exact nz)]
      obtain ⟨h1, w1, K1, w2, s1, s2, f1, f2, f3⟩ := zX_knock_1 K E k1 ht hc6 qf.2.2.2.2.2.2.1.1 hd ee
      have f : zf2 50 53 h h1 := ⟨f1, f2, f3, fun a a0 x => by
        rcases x with x | x
        · exact s1 a (by omega) x
        · exact s2 a x⟩
      obtain ⟨I', A', m1, m2, m3, m4, m6, m5, m7⟩ := mX_knock (F0 := F0) (I := I) (W := W) (rd := rd) (tp := tp) (A := A) (zmd_f M t9 f (by decide)) t9 hd hc6 (by omega) qj.2.2.2.2.2.2.1 (by rw [qj.2.2.2.2.2.2.1]; exact nz)
      have eq := zknock_eq DD rfl (by omega) ks (A 36)
      exact ⟨_, h1, _, w1, zXeL (zQ_e Q f (by decide)) (zXvL eq.1 m1), zQ_K Q (by decide) f K1 ⟨m2 6 (by decide) (by decide) (by decide) (by decide) (by decide), m2 13 (by decide) (by decide) (by decide) (by decide) (by decide), m2 19 (by decide) (by decide) (by decide) (by decide) (by decide), m2 27 (by decide) (by decide) (by decide) (by decide) (by decide), m2 33 (by decide) (by decide) (by decide) (by decide) (by decide), m2 37 (by decide) (by decide) (by decide) (by decide) (by decide), m2 42 (by decide) (by decide) (by decide) (by decide) (by decide)⟩ m3 m4 ⟨m5 17 (by decide) (by decide) (by decide), m5 18 (by decide) (by decide) (by decide), m5 28 (by decide) (by decide) (by decide), m5 32 (by decide) (by decide) (by decide), m5 38 (by decide) (by decide) (by decide), m5 40 (by decide) (by decide) (by decide), m5 41 (by decide) (by decide) (by decide), m5 43 (by decide) (by decide) (by decide), m5 44 (by decide) (by decide) (by decide), m5 45 (by decide) (by decide) (by decide)⟩ ⟨_, zcn c 6, w2, hc6, m6, fun i hi => by rw [m7]; exact eq.2 i hi⟩⟩
theorem qX_asTold (Q : zQX h) (hd : 20 < d) : zCL d nX11_asTold nX13_asTold [] h := by
  obtain ⟨t, u, tr, c, g, hl, L, S, F0, I, W, td, rd, tp, A, Q⟩ := Q
  obtain ⟨e0, h9, K, D, E, tu, qd, hb, qt, q1, q2, q3, q4, q5, q6, q7, q8⟩ := id Q
  have ht : t = 7 ∨ t = 70 := by omega
  obtain ⟨ks, kc, k1, k2, k3, k4⟩ := id q5
  rcases qd with ⟨rfl, z0⟩ | ⟨t', J, B, Wd, rfl, t9, t27, M, DD, c8, c3, c4⟩
  · have w := zX_asTold_0 K E hd (by rw [qcl0 (qzr z0)]; decide)
    rw [qcl0 (qzr z0)] at w
    exact ⟨_, zp0 h 1, _, w, zXeL (zQ_e0 Q 1) (mX_asTold_0 hd), zQ_ref Q (by decide)⟩
  · have qf := qF DD
    have qj := qJ DD
    have hc0 := qf.1.2
    have hc1 := qf.2.1.2
    have hc2 := qf.2.2.1.2
    have hc3 := qf.2.2.2.1.2
    have hc4 := qf.2.2.2.2.1.2
    have hc5 := qf.2.2.2.2.2.1.2
    have hc6 := qf.2.2.2.2.2.2.1.2
    have hc7 := qf.2.2.2.2.2.2.2.1.2
    have rn := qrn DD c3
    have r6 : zrow c 6 = nI (zcn c 6) := (zrow_n c (s := 6) (by decide)).trans qf.2.2.2.2.2.2.1.1
    by_cases n0 : zcn c 6 = 0
    · have ee : (if zrow c 3 = 0 then (1 : Int32) else if zrow c 6 = 0 then 6 else 0) = 6 := by rw [if_neg rn, if_pos (by rw [r6, n0]; rfl)]
      have w := zX_asTold_0 K E hd (by rw [ee]; decide)
      rw [ee] at w
      exact ⟨_, zp0 h 6, _, w, zXeL (zQ_e0 Q 6) (mX_asTold_1 (zmd_0 M t9 K 6) t9 hd (by rw [qj.2.2.2.2.2.2.1, n0]; rfl)), zQ_ref Q (by decide)⟩
    · have nz : ¬ nI (zcn c 6) = 0 := nI_ne0 (by omega) (by omega)
      have ee : (if zrow c 3 = 0 then (1 : Int32) else if zrow c 6 = 0 then 6 else 0) = 0 := by rw [if_neg rn, if_neg (by rw [r6]; exact nz)]
      obtain ⟨h1, ns, w1, K1, w2, w3, w4, s1, s2, f1, f2, f3⟩ := zX_asTold_1 K E k1 ht hc6 qf.2.2.2.2.2.2.1.1 hd ee
      have f : zf2 50 53 h h1 := ⟨f1, f2, f3, fun a a0 x => by
        rcases x with x | x
        · exact s1 a (by omega) x
        · exact s2 a x⟩
      obtain ⟨w, mm⟩ := mX_asTold (F0 := F0) (I := I) (W := W) (rd := rd) (tp := tp) (A := A) (zmd_f M t9 f (by decide)) t9 hd hc6 qj.2.2.2.2.2.2.1 (by rw [qj.2.2.2.2.2.2.1]; exact nz)
      have eq := zexp_R DD rfl (O := fun q => q) (fun i hi => hi) (Oc := ns.1) (fun i hi => w3 i (by omega))
      exact ⟨_, h1, _, w1, zXeL (zQ_e Q f (by decide)) (zXvL eq mm), zQ_K Q (by decide) f K1 ⟨rfl, rfl, rfl, rfl, rfl, rfl, rfl⟩ rfl rfl ⟨rfl, rfl, rfl, rfl, rfl, rfl, rfl, rfl, rfl, rfl⟩ ⟨ns, kc, w2, k2, k3, fun i hi => by rw [w4]; exact k4 i hi⟩⟩
theorem qX_fill (Q : zQX h) (hd : 20 < d) : zCI d nX11_fill nX13_fill [] h := by
  obtain ⟨t, u, tr, c, g, hl, L, S, F0, I, W, td, rd, tp, A, Q⟩ := Q
  obtain ⟨e0, h9, K, D, E, tu, qd, hb, qt, q1, q2, q3, q4, q5, q6, q7, q8⟩ := id Q
  have ht : t = 7 ∨ t = 70 := by omega
  obtain ⟨wW, wL, wP, v1, v2⟩ := id q6
  rcases qd with ⟨rfl, z0⟩ | ⟨t', J, B, Wd, rfl, t9, t27, M, DD, c8, c3, c4⟩
  · exact ⟨-1, zp0 h 1, _, zX_fill_0 K E hd (qzr z0), zXeI (zQ_e0 Q 1) (mX_fill_0 hd), zQ_ref Q (by decide)⟩
  · have qf := qF DD
    have qj := qJ DD
    have hc0 := qf.1.2
    have hc1 := qf.2.1.2
    have hc2 := qf.2.2.1.2
    have hc3 := qf.2.2.2.1.2
    have hc4 := qf.2.2.2.2.1.2
    have hc5 := qf.2.2.2.2.2.1.2
    have hc6 := qf.2.2.2.2.2.2.1.2
    have hc7 := qf.2.2.2.2.2.2.2.1.2
    have rn := qrn DD c3
    obtain ⟨h1, L1, w1, w2, w3⟩ := zX_fill_1 K E v1 ht (n := zcn c 7) (by omega) qf.2.2.2.2.2.2.2.1.1 hd rn
    have K1 := zK_sm K (w3.2.2.2 0 (by decide))
    have f := zf2_p0 w3 K1 0
    obtain ⟨w, mm⟩ := mX_fill (F0 := F0) (I := I) (W := W) (rd := rd) (tp := tp) (A := A) (zmd_f M t9 f (by decide)) t9 hd hc7 qj.2.2.2.2.2.2.2 (zfM_m DD)
    obtain ⟨n, n7, e1, e2, e3⟩ := zfill_eq DD wW wL wP
    exact ⟨_, zp0 h1 0, _, w1, zXeI (zQ_e Q f (by decide)) (zXv (e1.trans e2.symm) mm), zQ_W Q (by decide) f (zp0_K K1 0) ⟨rfl, rfl, rfl, rfl, rfl, rfl, rfl⟩ rfl rfl ⟨rfl, rfl, rfl, rfl, rfl, rfl, rfl, rfl, rfl, rfl⟩ ⟨_, L1, _, zwis_sm w2 (zfr_sm (zp0_fr K1 0) (by decide)), fun _ x hx => by rw [va_up_self, qfat (V := fun e => zfiV (zcn c 7) (zwd (zcn c 7) (zit (zfiS (zcn c 7) (zwW B) (zfM g (zcn c 7))) 0 ((zcn c 7 + 1) ^ 7) (none, 0)).2 e)), if_pos ⟨by omega, by omega⟩]; exact e3 x hx⟩⟩
end NZQF
