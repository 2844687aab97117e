/-! a line begun; what a day that is read says -/
def zCk0 (h : nzH) (t : Nat) (F0 G0 : Nat → Value) (td : Option Nat) (tp : Nat → Int32) (A : Nat → Nat → Int32) (L : Nat) (fs : List (zrs → Bool × zrs)) (kont : nzH → nzO) (P : zPS) (s : Nat) (ff : Int32 × Int32) (c : Nat → Int32) (J : Nat → Int32) (B : Nat → Nat → Int32) (Wd : Nat → Int64) (Fin : zFT) (k : ztkn) (I : Nat → Int32) (W : Int64) : Prop :=
  ((zpAll fs (k, P)).1 = true → ∃ k' N' g' I' W' J' B' Wd', kont (zHH h t F0 G0 td tp A I W J B Wd) = some (none, zHH h t F0 G0 td tp A I' W' J' B' Wd') ∧ (zpAll fs (k, P)).2 = (k', (nI s, ff), N', c, g') ∧ zTr k' I' W' ∧ zTw tp L k' ∧ k.2.2.1 ≤ k'.2.1 ∧ zIs I I' ∧ I' 13 = 0 ∧ Fin N' g' J' B' Wd') ∧
  ((zpAll fs (k, P)).1 = false → ∃ I' W' J' B' Wd', kont (zHH h t F0 G0 td tp A I W J B Wd) = some (none, zHH h t F0 G0 td tp A I' W' J' B' Wd') ∧ zIs I I' ∧ I' 9 = 5 ∧ I' 13 = (zpAll fs (k, P)).2.2.1.2.1 ∧ I' 14 = (zpAll fs (k, P)).2.2.1.2.2)
def zf0 (tp : Nat → Int32) (L : Nat) (S : zrs) : Bool × zrs := if (zpBl tp L S).1 then zpNn tp L (zpBl tp L S).2 else zpBl tp L S
section NZLI
variable {d t : Nat} {h : nzH} {F0 G0 : Nat → Value} {td : Option Nat} {tp : Nat → Int32} {A : Nat → Nat → Int32} {L : Nat} {J : Nat → Int32} {B : Nat → Nat → Int32} {Wd : Nat → Int64} {fs : List (zrs → Bool × zrs)} {P P1 : zPS} {s : Nat} {ff : Int32 × Int32} {c c1 : Nat → Int32} {Fin : zFT}
theorem zCk0_ok {f : zrs → Bool × zrs} {kont kont1 : nzH → nzO} {k k1 : ztkn} {I I1 : Nat → Int32} {W W1 : Int64} {J1 : Nat → Int32} {B1 : Nat → Nat → Int32} {Wd1 : Nat → Int64} (e : (f (k, P)).1 = true) (e2 : (f (k, P)).2 = (k1, P1)) (ek : kont (zHH h t F0 G0 td tp A I W J B Wd) = kont1 (zHH h t F0 G0 td tp A I1 W1 J1 B1 Wd1)) (T1 : zTr k1 I1 W1) (w1 : zTw tp L k1) (mo : k.2.2.1 ≤ k1.2.1) (is : zIs I I1) (i13 : I1 13 = 0) (e7 : I 7 = nI L) (C : zCt h t F0 G0 td tp A L fs kont1 P1 s ff c J1 B1 Wd1 Fin) : zCk0 h t F0 G0 td tp A L (f :: fs) kont P s ff c J B Wd Fin k I W := by
  have C1 := C k1 I1 W1 T1 w1 ((is 7 (by decide)).trans e7) i13
  have ez : zpAll (f :: fs) (k, P) = zpAll fs (k1, P1) := by
    rw [zpAll, if_pos e, e2]
  rw [zCk0, ez]
  refine ⟨fun z => ?_, fun z => ?_⟩
  · obtain ⟨k', N', g', I', W', J', B', Wd', q1, q2, q3, q4, q5, q6, q7⟩ := C1.1 z
    exact ⟨k', N', g', I', W', J', B', Wd', ek.trans q1, q2, q3, q4, Nat.le_trans mo q5, zIs_tr is q6, q7⟩
  · obtain ⟨I', W', J', B', Wd', q1, q2, q3⟩ := C1.2 z
    exact ⟨I', W', J', B', Wd', ek.trans q1, zIs_tr is q2, q3⟩
theorem zCk0_no {f : zrs → Bool × zrs} {kont : nzH → nzO} {k : ztkn} {I I1 : Nat → Int32} {W W1 : Int64} {J1 : Nat → Int32} {B1 : Nat → Nat → Int32} {Wd1 : Nat → Int64} (e : (f (k, P)).1 = false) (ek : kont (zHH h t F0 G0 td tp A I W J B Wd) = some (none, zHH h t F0 G0 td tp A I1 W1 J1 B1 Wd1)) (is : zIs I I1) (i9 : I1 9 = 5) (i13 : I1 13 = (f (k, P)).2.2.1.2.1) (i14 : I1 14 = (f (k, P)).2.2.1.2.2) : zCk0 h t F0 G0 td tp A L (f :: fs) kont P s ff c J B Wd Fin k I W := by
  have ez : zpAll (f :: fs) (k, P) = (false, (f (k, P)).2) := by
    rw [zpAll, if_neg (by rw [e]; decide)]
  rw [zCk0, ez]
  exact ⟨fun z => (by cases z), fun _ => ⟨I1, W1, J1, B1, Wd1, ek, is, i9, i13, i14⟩⟩
theorem zCk0_cg {kont kont' : nzH → nzO} {k : ztkn} {I : Nat → Int32} {W : Int64} (e : kont (zHH h t F0 G0 td tp A I W J B Wd) = kont' (zHH h t F0 G0 td tp A I W J B Wd)) (C : zCk0 h t F0 G0 td tp A L fs kont' P s ff c J B Wd Fin k I W) : zCk0 h t F0 G0 td tp A L fs kont P s ff c J B Wd Fin k I W := by
  rw [zCk0] at C ⊢
  rw [e]
  exact C
variable {N : zNT} {g : Nat → Int32} {m : Nat}
theorem zCt_nil {kont : nzH → nzO} (e : ∀ I W, ¬ I 9 = 5 → ∃ J' B' Wd', kont (zHH h t F0 G0 td tp A I W J B Wd) = some (none, zHH h t F0 G0 td tp A I W J' B' Wd') ∧ Fin N g J' B' Wd') : zCt h t F0 G0 td tp A L [] kont ((nI s, ff), N, c, g) s ff c J B Wd Fin := by
  intro k I W T w e7 e13
  obtain ⟨J', B', Wd', q1, q2⟩ := e I W (zTr_9 T).2.2.2.1
  exact ⟨fun _ => ⟨k, N, g, I, W, J', B', Wd', q1, rfl, T, w, Nat.le_refl _, zIs_rfl _, e13, q2⟩, fun z => (by cases z)⟩
theorem zpBl_P {k : ztkn} {x : Int32} (hs : s < 9) (hk : zsol tp k = nI s) (hm : m ≤ 6) (hc : c s = nI m) : zpBl tp L (k, (x, ff), N, c, g) = if m < zroom s then (true, (ztoN tp L k, (nI s, ff), N, upd c s (nI (m + 1)), g)) else (false, (k, (nI s, (if s = 8 then 3 else 5), nI k.2.1), N, c, g)) := by
  show (if zsol tp k = -1 then _ else if (c (zsol tp k).toNatClampNeg).toNatClampNeg < zroom (zsol tp k).toNatClampNeg then (true, zsNx tp L (zsAd (zsol tp k).toNatClampNeg (c (zsol tp k).toNatClampNeg).toNatClampNeg (zsSo (zsol tp k) (k, (x, ff), N, c, g)))) else (false, zsFl (if zsol tp k = 8 then 3 else 5) (zsSo (zsol tp k) (k, (x, ff), N, c, g)))) = _
  rw [hk, if_neg (zob_ne (by omega)), nI_clamp (by omega), hc, nI_clamp (by omega)]
  have e8 : (nI s = 8) ↔ s = 8 := nI_eq (b := 8) (by omega) (by decide)
  by_cases y : m < zroom s
  · rw [if_pos y, if_pos y]
    rfl
  · rw [if_neg y, if_neg y]
    by_cases z : s = 8
    · rw [if_pos (e8.mpr z), if_pos z]
      rfl
    · rw [if_neg (fun q => z (e8.mp q)), if_neg z]
      rfl
theorem zsol_1 {k : ztkn} (hk : zsol tp k = nI s) (hs : s < 9) : k.1 = 1 := by
  refine Classical.byContradiction fun y => ?_
  have e : ∀ l, zisw tp k.1 k.2.1 k.2.2.1 l = false := fun l => by rw [zisw, decide_eq_false y, Bool.false_and]
  rw [zsol] at hk
  simp only [e] at hk
  exact zob_ne (b := s) (by omega) hk.symm
/-- a line with a name: begun, and the name read -/
theorem zCk0_named (ht : 94 ≤ t) (hd : 8 < d) (hL : L ≤ 900) (hb : ∀ i, zby (tp i)) {k : ztkn} {I : Nat → Int32} {W : Int64} (T : zTr k I W) (w : zTw tp L k) (e7 : I 7 = nI L) (e13 : I 13 = 0) {x : Int32} (hs : s < 8) (hk : zsol tp k = nI s) (M : zNm N c J B Wd) (hN : m < zroom s → N.1 < 32) (hm : m ≤ zroom s) (hc : c s = nI m) {kont1 : nzH → nzO} (o : zOv h t F0 G0 td tp A kont1) (C : m < zroom s → ∀ pk, zCt h t F0 G0 td tp A L fs kont1 ((nI s, ff), (N.1 + 1, vp_updL N.2.1 N.1 pk, upd N.2.2.1 N.1 (nI s), upd N.2.2.2 N.1 (nI m)), upd c s (nI (m + 1)), g) s ff (upd c s (nI (m + 1))) (upd J 10 (nI (N.1 + 1))) (va_up (va_up B 35 (upd (B 35) N.1 (nI (zs3 s)))) 36 (upd (B 36) N.1 (nI m))) (vp_updL Wd N.1 pk) Fin) : zCk0 h t F0 G0 td tp A L (zf0 tp L :: fs) (fun h => (nzxV d nX13_readNamed [.ref 73, .int (nI m), .int (nI (zroom s)), .int (nI (zs3 s))] h).bind kont1) ((x, ff), N, c, g) s ff (upd c s (nI (m + 1))) J B Wd Fin k I W := by
  have r6 := (zroom_I s (by omega)).2
  have k1 := zsol_1 hk (by omega)
  have hJ : zN32 J := ⟨N.1, M.1, M.2.1⟩
  have eb := zpBl_P (tp := tp) (L := L) (ff := ff) (N := N) (g := g) (x := x) (show s < 9 by omega) hk (show m ≤ 6 by omega) hc
  by_cases y : m < zroom s
  · rw [if_pos y] at eb
    obtain ⟨I1, W1, p1, p2, p3, p4, p5, p6, n1, n3, n0⟩ := kX13_readNamed (d := d) (h := h) (t := t) (F0 := F0) (G0 := G0) (td := td) (A := A) (J := J) (B := B) (Wd := Wd) ht hd M.1 M.2.1 T w k1 hL hb e7 (x1 := nI m) (x2 := nI (zroom s)) (nI (zs3 s)) (fun z => by have := (nI_eq (by omega) (by omega)).mp z; omega)
    have ef : zfnd Wd (ztoN tp L k).2.2.2.1 0 N.1 = zfnd N.2.1 (ztoN tp L k).2.2.2.1 0 N.1 := zfnd_congr _ _ _ (fun q _ hq => (M.2.2 q (by omega)).1)
    rw [ef] at n3 n0
    have fl : ∀ n : Int32, zpNn tp L (ztoN tp L k, (nI s, ff), N, upd c s (nI (m + 1)), g) = (false, zsFl n (ztoN tp L k, (nI s, ff), N, upd c s (nI (m + 1)), g)) → nzxV d nX13_readNamed [.ref 73, .int (nI m), .int (nI (zroom s)), .int (nI (zs3 s))] (zHH h t F0 G0 td tp A I W J B Wd) = some (zHH h t F0 G0 td tp A (zfI I1 n) W1 J B Wd) → zCk0 h t F0 G0 td tp A L (zf0 tp L :: fs) (fun h => (nzxV d nX13_readNamed [.ref 73, .int (nI m), .int (nI (zroom s)), .int (nI (zs3 s))] h).bind kont1) ((x, ff), N, c, g) s ff (upd c s (nI (m + 1))) J B Wd Fin k I W := by
      intro n en q1
      have ez : zf0 tp L (k, (x, ff), N, c, g) = (false, zsFl n (ztoN tp L k, (nI s, ff), N, upd c s (nI (m + 1)), g)) := by
        rw [zf0, eb, if_pos rfl]
        exact en
      refine zCk0_no (I1 := zfI I1 n) (W1 := W1) (J1 := J) (B1 := B) (Wd1 := Wd) ?_ ?_ (zIs_tr p1 (zfI_s _ _)) (zfI_9 _ _) ?_ ?_
      · rw [ez]
      · show (nzxV d nX13_readNamed [.ref 73, .int (nI m), .int (nI (zroom s)), .int (nI (zs3 s))] (zHH h t F0 G0 td tp A I W J B Wd)).bind kont1 = _
        rw [q1, Option.bind_some]
        exact o _ _ _ _ _ hJ (zfI_9 _ _)
      · rw [ez, zfI_13]
        rfl
      · rw [ez, zfI_14]
        exact p3.1
    by_cases y1 : zisN tp (ztoN tp L k) = true
    · by_cases y2 : zfnd N.2.1 (ztoN tp L k).2.2.2.1 0 N.1 = -1
      · obtain ⟨I2, W2, q1, q2, q3, q4, q5, q6⟩ := n0 y1 y2 (hN y)
        refine zCk0_ok (k1 := ztoN tp L (ztoN tp L k)) (P1 := ((nI s, ff), (N.1 + 1, vp_updL N.2.1 N.1 (ztoN tp L k).2.2.2.1, upd N.2.2.1 N.1 (nI s), upd N.2.2.2 N.1 (nI m)), upd c s (nI (m + 1)), g)) (kont1 := kont1) ?_ ?_ ?_ q4 q5 (Nat.le_trans p6 q6) (zIs_tr p1 q2) (q3.trans (p2.trans e13)) e7 (C y _)
        all_goals
          have ez : zf0 tp L (k, (x, ff), N, c, g) = (true, (ztoN tp L (ztoN tp L k), (nI s, ff), (N.1 + 1, vp_updL N.2.1 N.1 (ztoN tp L k).2.2.2.1, upd N.2.2.1 N.1 (nI s), upd N.2.2.2 N.1 (nI m)), upd c s (nI (m + 1)), g)) := by
            rw [zf0, eb, if_pos rfl]
            show (if zisN tp (ztoN tp L k) = true then _ else _) = _
            rw [if_pos y1]
            show (if zfnd N.2.1 (ztoN tp L k).2.2.2.1 0 N.1 = -1 then _ else _) = _
            rw [if_pos y2]
            show (true, zsNx tp L (if N.1 < 32 then _ else _)) = _
            rw [if_pos (hN y)]
            show (true, (ztoN tp L (ztoN tp L k), (nI s, ff), (N.1 + 1, vp_updL N.2.1 N.1 (ztoN tp L k).2.2.2.1, upd N.2.2.1 N.1 (nI s), upd N.2.2.2 N.1 (upd c s (nI (m + 1)) (nI s).toNatClampNeg - 1)), upd c s (nI (m + 1)), g)) = _
            rw [nI_clamp (show s < 2 ^ 31 by omega), upd_eq, nI_pred]
        · rw [ez]
        · rw [ez]
        · show (nzxV d nX13_readNamed [.ref 73, .int (nI m), .int (nI (zroom s)), .int (nI (zs3 s))] (zHH h t F0 G0 td tp A I W J B Wd)).bind kont1 = _
          rw [q1, Option.bind_some]
      · refine fl 3 ?_ (n3 y1 y2)
        show (if zisN tp (ztoN tp L k) = true then _ else _) = _
        rw [if_pos y1]
        show (if zfnd N.2.1 (ztoN tp L k).2.2.2.1 0 N.1 = -1 then _ else _) = _
        rw [if_neg y2]
    · refine fl 1 ?_ (n1 y1)
      show (if zisN tp (ztoN tp L k) = true then _ else _) = _
      rw [if_neg y1]
  · rw [if_neg y] at eb
    have em : m = zroom s := by omega
    have q1 := kX13_readNamed_full (d := d) (h := h) (t := t) (F0 := F0) (G0 := G0) (td := td) (tp := tp) (A := A) (B := B) (Wd := Wd) (W := W) ht (by omega) M.1 M.2.1 (zTr_9 T).2.2.2.1 (nI m) (nI (zs3 s))
    have ez : zf0 tp L (k, (x, ff), N, c, g) = (false, (k, (nI s, (if s = 8 then 3 else 5), nI k.2.1), N, c, g)) := by
      rw [zf0, eb, if_neg Bool.false_ne_true]
    refine zCk0_no (I1 := zfI I 5) (W1 := W) (J1 := J) (B1 := B) (Wd1 := Wd) ?_ ?_ (zfI_s _ _) (zfI_9 _ _) ?_ ?_
    · rw [ez]
    · show (nzxV d nX13_readNamed [.ref 73, .int (nI m), .int (nI (zroom s)), .int (nI (zs3 s))] (zHH h t F0 G0 td tp A I W J B Wd)).bind kont1 = _
      rw [← em, q1, Option.bind_some]
      exact o _ _ _ _ _ hJ (zfI_9 _ _)
    · rw [ez, zfI_13, if_neg (show ¬ s = 8 by omega)]
    · rw [ez, zfI_14]
      exact T.1
theorem zOv_part {q : UInt32} {K : Int32 → nzH → nzO} (hd : 2 < d) (lo hi : Int32) (o : ∀ x, zOv h t F0 G0 td tp A (K x)) : zOv h t F0 G0 td tp A (fun h => (nzxI d nX13_readPart [.ref 73, .float q, .int lo, .int hi] h).bind fun q => K q.1 q.2) := fun I W J B Wd n e => by
  show (nzxI d nX13_readPart [.ref 73, .float q, .int lo, .int hi] (zHH h t F0 G0 td tp A I W J B Wd)).bind _ = _
  rw [kX13_readPart5 hd e, Option.bind_some]
  exact o _ _ _ _ _ _ n e
theorem zOv_whole {K : Int32 → nzH → nzO} (hd : 1 < d) (lo hi : Int32) (o : ∀ x, zOv h t F0 G0 td tp A (K x)) : zOv h t F0 G0 td tp A (fun h => (nzxI d nX13_readWhole [.ref 73, .int lo, .int hi] h).bind fun q => K q.1 q.2) := fun I W J B Wd n e => by
  show (nzxI d nX13_readWhole [.ref 73, .int lo, .int hi] (zHH h t F0 G0 td tp A I W J B Wd)).bind _ = _
  rw [kX13_readWhole5 hd e, Option.bind_some]
  exact o _ _ _ _ _ _ n e
theorem zOv_needs {q : UInt32} {K : nzH → nzO} (hd : 1 < d) (o : zOv h t F0 G0 td tp A K) : zOv h t F0 G0 td tp A (fun h => (nzxV d nX13_needs [.ref 73, .float q] h).bind K) := fun I W J B Wd n e => by
  show (nzxV d nX13_needs [.ref 73, .float q] (zHH h t F0 G0 td tp A I W J B Wd)).bind _ = _
  rw [kX13_needs5 hd e, Option.bind_some]
  exact o _ _ _ _ _ n e
theorem zOv_letters {K : Int32 → nzH → nzO} (hd : 1 < d) (o : ∀ x, zOv h t F0 G0 td tp A (K x)) : zOv h t F0 G0 td tp A (fun h => (nzxI d nX13_readLetters [.ref 73] h).bind fun q => K q.1 q.2) := fun I W J B Wd n e => by
  show (nzxI d nX13_readLetters [.ref 73] (zHH h t F0 G0 td tp A I W J B Wd)).bind _ = _
  rw [kX13_readLetters5 hd e, Option.bind_some]
  exact o _ _ _ _ _ _ n e
theorem zOv_known {K : Int32 → nzH → nzO} (ht : 94 ≤ t) (hd : 2 < d) (x : Int32) (o : ∀ x, zOv h t F0 G0 td tp A (K x)) : zOv h t F0 G0 td tp A (fun h => (nzxI d nX13_readKnown [.ref 73, .int x] h).bind fun q => K q.1 q.2) := fun I W J B Wd n e => by
  show (nzxI d nX13_readKnown [.ref 73, .int x] (zHH h t F0 G0 td tp A I W J B Wd)).bind _ = _
  obtain ⟨n', h1, h2⟩ := n
  rw [kX13_readKnown5 ht hd h1 h2 e, Option.bind_some]
  exact o _ _ _ _ _ _ ⟨n', h1, h2⟩ e
theorem zOv_perhaps {q : UInt32} {K : Int32 → nzH → nzO} (hd : 1 < d) (o : ∀ x, zOv h t F0 G0 td tp A (K x)) : zOv h t F0 G0 td tp A (fun h => (nzxI d nX13_eatsWord [.ref 73, .float q] h).bind fun q => K q.1 q.2) := fun I W J B Wd n e => by
  show (nzxI d nX13_eatsWord [.ref 73, .float q] (zHH h t F0 G0 td tp A I W J B Wd)).bind _ = _
  rw [kX13_eatsWord5 hd e, Option.bind_some]
  exact o _ _ _ _ _ _ n e
end NZLI
