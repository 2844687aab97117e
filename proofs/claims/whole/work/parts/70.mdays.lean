/-! the lines without names; unlike days -/
theorem zD7 : ∀ D, D < 128 → ∀ v, v < 7 → nI D ||| (1 <<< (nI v &&& 31)) = nI (D ||| 2 ^ v) ∧ (D ||| 2 ^ v) < 128 ∧ (nI D &&& (1 <<< (nI v &&& 31)) = 0 ↔ ¬ ((nI D >>> (nI v &&& 31)) &&& 1) = 1) := by decide +kernel
def zp7 (D : Nat) : Nat := D % 2 + D / 2 % 2 + D / 4 % 2 + D / 8 % 2 + D / 16 % 2 + D / 32 % 2 + D / 64 % 2
theorem zp7_le : ∀ D, D < 128 → zp7 D ≤ 7 := by decide +kernel
theorem zp7_up : ∀ D, D < 128 → ∀ v, v < 7 → ¬ ((nI D >>> (nI v &&& 31)) &&& 1) = 1 → zp7 (D ||| 2 ^ v) = zp7 D + 1 := by decide +kernel
section NZBA
variable {d t : Nat} {h : nzH} {F0 G0 : Nat → Value} {td : Option Nat} {tp : Nat → Int32} {A : Nat → Nat → Int32} {L : Nat} {J : Nat → Int32} {B : Nat → Nat → Int32} {Wd : Nat → Int64} {fs : List (zrs → Bool × zrs)} {P P1 : zPS} {s : Nat} {ff : Int32 × Int32} {c c1 : Nat → Int32} {Fin : zFT} {N : zNT} {g : Nat → Int32} {m : Nat}
theorem zCk_eq {f f' : zrs → Bool × zrs} {kont kont' : nzH → nzO} {k k1 : ztkn} {I I1 : Nat → Int32} {W W1 : Int64} (e : f (k, P) = f' (k1, P1)) (ek : kont (zHH h t F0 G0 td tp A I W J B Wd) = kont' (zHH h t F0 G0 td tp A I1 W1 J B Wd)) (mo : k.2.1 ≤ k1.2.1) (is : zIs I I1) (C : zCk h t F0 G0 td tp A L (f' :: fs) kont' P1 s ff c J B Wd Fin k1 I1 W1) : zCk h t F0 G0 td tp A L (f :: fs) kont P s ff c J B Wd Fin k I W := by
  have ez : zpAll (f :: fs) (k, P) = zpAll (f' :: fs) (k1, P1) := by
    rw [zpAll, zpAll, e]
  rw [zCk] at C ⊢
  rw [ez, ek]
  refine ⟨fun z => ?_, fun z => ?_⟩
  · obtain ⟨k', N', g', I', W', J', B', Wd', q1, q2, q3, q4, q5, q6, q7⟩ := C.1 z
    exact ⟨k', N', g', I', W', J', B', Wd', q1, q2, q3, q4, Nat.le_trans mo q5, zIs_tr is q6, q7⟩
  · obtain ⟨I', W', J', B', Wd', q1, q2, q3⟩ := C.2 z
    exact ⟨I', W', J', B', Wd', q1, zIs_tr is q2, q3⟩
theorem zCt_cg {kont kont' : nzH → nzO} (e : ∀ I W, ¬ I 9 = 5 → kont (zHH h t F0 G0 td tp A I W J B Wd) = kont' (zHH h t F0 G0 td tp A I W J B Wd)) (C : zCt h t F0 G0 td tp A L fs kont' P s ff c J B Wd Fin) : zCt h t F0 G0 td tp A L fs kont P s ff c J B Wd Fin := by
  intro k I W T w e7 e13
  have := C k I W T w e7 e13
  rw [zCk] at this ⊢
  rw [e I W (zTr_9 T).2.2.2.1]
  exact this
theorem zCk0_bare (hd : 1 < d) (hL : L ≤ 900) (hb : ∀ i, zby (tp i)) {k : ztkn} {I : Nat → Int32} {W : Int64} (T : zTr k I W) (w : zTw tp L k) (e7 : I 7 = nI L) (e13 : I 13 = 0) {x : Int32} (hs : s < 9) (hk : zsol tp k = nI s) (hJ : zN32 J) (hm : m ≤ zroom s) (hc : c s = nI m) {kont kont1 : nzH → nzO} (o : zOv h t F0 G0 td tp A kont1) (hf : ¬ m < zroom s → kont (zHH h t F0 G0 td tp A I W J B Wd) = (nzxV d nX13_goesOn [.ref 73] (zHH h t F0 G0 td tp A (zfI I (if s = 8 then 3 else 5)) W J B Wd)).bind kont1) (hr : m < zroom s → kont (zHH h t F0 G0 td tp A I W J B Wd) = (nzxV d nX13_goesOn [.ref 73] (zHH h t F0 G0 td tp A I W J B Wd)).bind kont1) (C : m < zroom s → zCt h t F0 G0 td tp A L fs kont1 ((nI s, ff), N, upd c s (nI (m + 1)), g) s ff (upd c s (nI (m + 1))) J B Wd Fin) : zCk0 h t F0 G0 td tp A L (zpBl tp L :: fs) kont ((x, ff), N, c, g) s ff (upd c s (nI (m + 1))) J B Wd Fin k I W := by
  have r6 := (zroom_I s (by omega)).2
  have k1 := zsol_1 hk (by omega)
  have eb := zpBl_P (tp := tp) (L := L) (ff := ff) (N := N) (g := g) (x := x) hs hk (show m ≤ 6 by omega) hc
  by_cases y : m < zroom s
  · rw [if_pos y] at eb
    obtain ⟨I1, W1, q1, q2, q3, q4, q5, q6, q7⟩ := kAdv (d := d) (h := zdS h t G0 J B Wd) (F0 := F0) (td := td) (rd := some t) (A := A) (by omega) hL hb T w e7 (by rw [k1]; decide)
    refine zCk0_ok (k1 := ztoN tp L k) (P1 := ((nI s, ff), N, upd c s (nI (m + 1)), g)) (kont1 := kont1) ?_ ?_ ?_ q4 q5 q7 q2 (q3.trans e13) e7 (C y)
    · rw [eb]
    · rw [eb]
    · rw [hr y, q1, Option.bind_some]
  · rw [if_neg y] at eb
    refine zCk0_no (I1 := zfI I (if s = 8 then 3 else 5)) (W1 := W) (J1 := J) (B1 := B) (Wd1 := Wd) ?_ ?_ (zfI_s _ _) (zfI_9 _ _) ?_ ?_
    · rw [eb]
    · rw [hf y, kX13_goesOn5 (by omega) (zfI_9 _ _), Option.bind_some]
      exact o _ _ _ _ _ hJ (zfI_9 _ _)
    · rw [eb, zfI_13]
    · rw [eb, zfI_14]
      exact T.1
theorem zCt_days (hd : 6 < d) (hL : L ≤ 900) (hb : ∀ i, zby (tp i)) (hs : s < 9) (hm : m < 6) (hc : c s = nI (m + 1)) {K : Int32 → nzH → nzO} (eK : ∀ D u H, nzr d nX13_readHelper 36 [some (.ref 73), some (.int D), some (.int 0), u] [] H = K D H) (hJ : zN32 J) (C : ∀ D, D < 128 → zCt h t F0 G0 td tp A L fs (K (nI D)) ((nI s, ff), N, c, upd g ((s * 6 + m) * 7 + 0) (nI D)) s ff c J B Wd Fin) : ∀ (j D : Nat) (g0 : Nat → Int32) (u : Option Value), D < 128 → zp7 D + j = 8 → (∀ v, upd g0 ((s * 6 + m) * 7 + 0) v = upd g ((s * 6 + m) * 7 + 0) v) → zCt h t F0 G0 td tp A L (zpUd tp L j (nI D) :: fs) (fun H => nzr d nX13_readHelper 36 [some (.ref 73), some (.int (nI D)), some (.int 1), u] [] H) ((nI s, ff), N, c, g0) s ff c J B Wd Fin := by
  intro j
  induction j with
  | zero =>
    intro D g0 u hD hj hg
    have := zp7_le D hD
    omega
  | succ j ih =>
    intro D g0 u hD hj hg k I W T w e7 e13
    have t9 := zTr_9 T
    have fl : ∀ n : Int32, zpUd tp L (j + 1) (nI D) (k, (nI s, ff), N, c, g0) = (false, zsFl n (k, (nI s, ff), N, c, g0)) → nzr d nX13_readHelper 36 [some (.ref 73), some (.int (nI D)), some (.int 1), u] [] (zHH h t F0 G0 td tp A I W J B Wd) = some (none, zHH h t F0 G0 td tp A (zfI I n) W J B Wd) → zCk h t F0 G0 td tp A L (zpUd tp L (j + 1) (nI D) :: fs) (fun H => nzr d nX13_readHelper 36 [some (.ref 73), some (.int (nI D)), some (.int 1), u] [] H) ((nI s, ff), N, c, g0) s ff c J B Wd Fin k I W := by
      intro n ef q1
      refine zCk_no (I1 := zfI I n) (W1 := W) (J1 := J) (B1 := B) (Wd1 := Wd) ?_ q1 (zfI_s _ _) (zfI_9 _ _) ?_ ?_
      · rw [ef]
      · rw [ef, zfI_13]
        rfl
      · rw [ef, zfI_14]
        exact T.1
    have s74 : ∀ (n : Int32) x, nzxI d nX13_readWhole [.ref 73, .int 0, .int 6] (zHH h t F0 G0 td tp A I W J B Wd) = some (x, zHH h t F0 G0 td tp A (zfI I n) W J B Wd) → nzr d nX13_readHelper 74 [some (.ref 73), some (.int (nI D)), some (.int 1), u] [] (zHH h t F0 G0 td tp A I W J B Wd) = some (none, zHH h t F0 G0 td tp A (zfI I n) W J B Wd) := fun n x e => by
      rw [eX13_readHelper_74, e, Option.bind_some, zI_9, Option.bind_some, if_pos (zfI_9 _ _)]
    by_cases y : k.1 = 2
    · obtain ⟨v, hv, ev⟩ := w.2.2.2.2 y
      have e12 : I 12 = nI v := (T.2.2.2.2.1 y).2.trans ev
      by_cases y7 : v < 7
      · obtain ⟨d1, d2, d3⟩ := zD7 D hD v y7
        by_cases yb : ((nI D >>> (nI v &&& 31)) &&& 1) = 1
        · refine fl 3 ?_ ?_
          · show (if k.1 = 2 then if k.2.2.2.2.2 < 7 then if nI D &&& (1 <<< (k.2.2.2.2.2 &&& 31)) = 0 then _ else _ else _ else _) = _
            rw [if_pos y, ev, if_pos (show nI v < 7 from nI_lt (b := 7) y7 (by decide)), if_neg (fun z => d3.mp z yb)]
          · rw [eX13_readHelper_36, if_neg (show ¬ (1 : Int32) = 0 by decide), zI_9, Option.bind_some, if_pos (t9.2.1.mpr y), zI_12, Option.bind_some, e12, if_neg (show ¬ 7 ≤ nI v from nI_ge (b := 7) y7 (by decide)), Option.bind_some, if_pos yb, kWr (by omega) t9.2.2.2.1, Option.bind_some, eX13_readHelper_74, kX13_readWhole5 (by omega) (zfI_9 _ _), Option.bind_some, zI_9, Option.bind_some, if_pos (zfI_9 _ _)]
        · have y6 : ¬ (k.2.2.2.2.2 < (0 : Int32) ∨ (6 : Int32) < k.2.2.2.2.2) := by
            rw [ev]
            exact fun z => z.elim (nI_pos (by omega)) (show ¬ 6 < nI v from nI_nlt (a := 6) (by omega) (by decide))
          obtain ⟨I1, W1, q1, q2, q3, q4, q5, q6, q7⟩ := kX13_readWhole_ok (h := zdS h t G0 J B Wd) (F0 := F0) (td := td) (rd := some t) (A := A) (d := d) (by omega) hL hb T w e7 0 6 y y6
          have t91 := zTr_9 q4
          have st : nzr d nX13_readHelper 36 [some (.ref 73), some (.int (nI D)), some (.int 1), u] [] (zHH h t F0 G0 td tp A I W J B Wd) = ((nzxI d nX13_eatsSign [.ref 73, .int 44] (zHH h t F0 G0 td tp A I1 W1 J B Wd)).bind fun q3 => nzr d nX13_readHelper 36 [some (.ref 73), some (.int (nI (D ||| 2 ^ v))), some (.int q3.1), some (.int (nI v))] [] q3.2) := by
            rw [eX13_readHelper_36, if_neg (show ¬ (1 : Int32) = 0 by decide), zI_9, Option.bind_some, if_pos (t9.2.1.mpr y), zI_12, Option.bind_some, e12, if_neg (show ¬ 7 ≤ nI v from nI_ge (b := 7) y7 (by decide)), Option.bind_some, if_neg yb, eX13_readHelper_74, q1, Option.bind_some, zI_9, Option.bind_some, if_neg t91.2.2.2.1, ev, d1]
          have gt : upd g0 ((s * 6 + m) * 7 + 0) (nI (D ||| 2 ^ v)) = upd g ((s * 6 + m) * 7 + 0) (nI (D ||| 2 ^ v)) := hg _
          have ek : zsTk tp L 0 (nI (D ||| 2 ^ v)) (k, (nI s, ff), N, c, g0) = (ztoN tp L k, (nI s, ff), N, c, upd g ((s * 6 + m) * 7 + 0) (nI (D ||| 2 ^ v))) := by
            rw [zsTk_P tp L 0 _ k hs hm hc, gt]
          by_cases y4 : (ztoN tp L k).1 = 4
          · obtain ⟨I2, W2, r1, r2, r3, r4, r5, r6, r7⟩ := kX13_eatsSign_ok (h := zdS h t G0 J B Wd) (F0 := F0) (td := td) (rd := some t) (A := A) (d := d) (by omega) hL hb q4 q5 ((q2 7 (by decide)).trans e7) 44 (t91.2.2.2.2.2.mpr y4)
            refine zCk_eq (f' := zpUd tp L j (nI (D ||| 2 ^ v))) (k1 := ztoN tp L (ztoN tp L k)) (P1 := ((nI s, ff), N, c, upd g ((s * 6 + m) * 7 + 0) (nI (D ||| 2 ^ v)))) (kont' := fun H => nzr d nX13_readHelper 36 [some (.ref 73), some (.int (nI (D ||| 2 ^ v))), some (.int 1), some (.int (nI v))] [] H) ?_ ?_ (Nat.le_trans q6 r6) (zIs_tr q2 r2) (ih (D ||| 2 ^ v) _ _ d2 (by rw [zp7_up D hD v y7 yb]; omega) (fun x => upd_upd _ _ _ _) _ _ _ r4 r5 ((r2 7 (by decide)).trans ((q2 7 (by decide)).trans e7)) (r3.trans (q3.trans e13)))
            · show (if k.1 = 2 then if k.2.2.2.2.2 < 7 then if nI D &&& (1 <<< (k.2.2.2.2.2 &&& 31)) = 0 then if (zsTk tp L 0 (nI D ||| (1 <<< (k.2.2.2.2.2 &&& 31))) (k, (nI s, ff), N, c, g0)).1.1 = 4 then zpUd tp L j (nI D ||| (1 <<< (k.2.2.2.2.2 &&& 31))) (zsNx tp L (zsTk tp L 0 (nI D ||| (1 <<< (k.2.2.2.2.2 &&& 31))) (k, (nI s, ff), N, c, g0))) else _ else _ else _ else _) = _
              rw [if_pos y, ev, if_pos (show nI v < 7 from nI_lt (b := 7) y7 (by decide)), if_pos (d3.mpr yb), d1, ek]
              exact if_pos y4
            · show nzr d nX13_readHelper 36 [some (.ref 73), some (.int (nI D)), some (.int 1), u] [] (zHH h t F0 G0 td tp A I W J B Wd) = _
              rw [st, r1, Option.bind_some]
          · have r1 := kX13_eatsSign_no (h := zdS h t G0 J B Wd) (F0 := F0) (td := td) (rd := some t) (tp := tp) (A := A) (d := d) (W := W1) (by omega) 44 (fun z => y4 (t91.2.2.2.2.2.mp z))
            have ef : zpUd tp L (j + 1) (nI D) (k, (nI s, ff), N, c, g0) = (true, (ztoN tp L k, (nI s, ff), N, c, upd g ((s * 6 + m) * 7 + 0) (nI (D ||| 2 ^ v)))) := by
              show (if k.1 = 2 then if k.2.2.2.2.2 < 7 then if nI D &&& (1 <<< (k.2.2.2.2.2 &&& 31)) = 0 then if (zsTk tp L 0 (nI D ||| (1 <<< (k.2.2.2.2.2 &&& 31))) (k, (nI s, ff), N, c, g0)).1.1 = 4 then zpUd tp L j (nI D ||| (1 <<< (k.2.2.2.2.2 &&& 31))) (zsNx tp L (zsTk tp L 0 (nI D ||| (1 <<< (k.2.2.2.2.2 &&& 31))) (k, (nI s, ff), N, c, g0))) else (true, zsTk tp L 0 (nI D ||| (1 <<< (k.2.2.2.2.2 &&& 31))) (k, (nI s, ff), N, c, g0)) else _ else _ else _) = _
              rw [if_pos y, ev, if_pos (show nI v < 7 from nI_lt (b := 7) y7 (by decide)), if_pos (d3.mpr yb), d1, ek]
              exact if_neg y4
            refine zCk_ok (k1 := ztoN tp L k) (P1 := ((nI s, ff), N, c, upd g ((s * 6 + m) * 7 + 0) (nI (D ||| 2 ^ v)))) (kont1 := K (nI (D ||| 2 ^ v))) ?_ ?_ ?_ q4 q5 q6 q2 (q3.trans e13) e7 (C _ d2)
            · rw [ef]
            · rw [ef]
            · show nzr d nX13_readHelper 36 [some (.ref 73), some (.int (nI D)), some (.int 1), u] [] (zHH h t F0 G0 td tp A I W J B Wd) = _
              rw [st, r1, Option.bind_some, eK]
      · refine fl 4 ?_ ?_
        · show (if k.1 = 2 then if k.2.2.2.2.2 < 7 then _ else _ else _) = _
          rw [if_pos y, ev, if_neg (show ¬ nI v < 7 from nI_nlt (b := 7) (by omega) (by omega))]
        · obtain ⟨x, q1⟩ := kX13_readWhole_out (h := zdS h t G0 J B Wd) (F0 := F0) (td := td) (rd := some t) (tp := tp) (A := A) (d := d) (by omega) T 0 6 y (.inr (by rw [ev]; exact nI_lt (a := 6) (by omega) (by omega)))
          rw [eX13_readHelper_36, if_neg (show ¬ (1 : Int32) = 0 by decide), zI_9, Option.bind_some, if_pos (t9.2.1.mpr y), zI_12, Option.bind_some, e12, if_pos (show 7 ≤ nI v from nI_le (a := 7) (by omega) (by omega))]
          exact s74 4 x q1
    · refine fl 1 ?_ ?_
      · show (if k.1 = 2 then _ else _) = _
        rw [if_neg y]
      · obtain ⟨x, q1⟩ := kX13_readWhole_no (h := zdS h t G0 J B Wd) (F0 := F0) (td := td) (rd := some t) (tp := tp) (A := A) (d := d) (by omega) T 0 6 y
        rw [eX13_readHelper_36, if_neg (show ¬ (1 : Int32) = 0 by decide), zI_9, Option.bind_some, if_neg (fun z => y (t9.2.1.mp z))]
        exact s74 1 x q1
end NZBA
