/-! class and reference read the same line: rules, step by step -/
abbrev zPS : Type := (Int32 × Int32 × Int32) × zNT × ((Nat → Int32) × (Nat → Int32))
abbrev zFT : Type := zNT → (Nat → Int32) → (Nat → Int32) → (Nat → Nat → Int32) → (Nat → Int64) → Prop
def zCk (h : nzH) (t : Nat) (F0 G0 : Nat → Value) (td : Option Nat) (tp : Nat → Int32) (A : Nat → Nat → Int32) (L : Nat) (fs : List (zrs → Bool × zrs)) (kont : nzH → nzO) (P : zPS) (s : Nat) (ff : Int32 × Int32) (c : Nat → Int32) (J : Nat → Int32) (B : Nat → Nat → Int32) (Wd : Nat → Int64) (Fin : zFT) (k : ztkn) (I : Nat → Int32) (W : Int64) : Prop :=
  ((zpAll fs (k, P)).1 = true → ∃ k' N' g' I' W' J' B' Wd', kont (zHH h t F0 G0 td tp A I W J B Wd) = some (none, zHH h t F0 G0 td tp A I' W' J' B' Wd') ∧ (zpAll fs (k, P)).2 = (k', (nI s, ff), N', c, g') ∧ zTr k' I' W' ∧ zTw tp L k' ∧ k.2.1 ≤ k'.2.1 ∧ zIs I I' ∧ I' 13 = 0 ∧ Fin N' g' J' B' Wd') ∧
  ((zpAll fs (k, P)).1 = false → ∃ I' W' J' B' Wd', kont (zHH h t F0 G0 td tp A I W J B Wd) = some (none, zHH h t F0 G0 td tp A I' W' J' B' Wd') ∧ zIs I I' ∧ I' 9 = 5 ∧ I' 13 = (zpAll fs (k, P)).2.2.1.2.1 ∧ I' 14 = (zpAll fs (k, P)).2.2.1.2.2)
def zCt (h : nzH) (t : Nat) (F0 G0 : Nat → Value) (td : Option Nat) (tp : Nat → Int32) (A : Nat → Nat → Int32) (L : Nat) (fs : List (zrs → Bool × zrs)) (kont : nzH → nzO) (P : zPS) (s : Nat) (ff : Int32 × Int32) (c : Nat → Int32) (J : Nat → Int32) (B : Nat → Nat → Int32) (Wd : Nat → Int64) (Fin : zFT) : Prop := ∀ k I W, zTr k I W → zTw tp L k → I 7 = nI L → I 13 = 0 → zCk h t F0 G0 td tp A L fs kont P s ff c J B Wd Fin k I W
def zN32 (J : Nat → Int32) : Prop := ∃ n, n ≤ 32 ∧ J 10 = nI n
def zOv (h : nzH) (t : Nat) (F0 G0 : Nat → Value) (td : Option Nat) (tp : Nat → Int32) (A : Nat → Nat → Int32) (kont : nzH → nzO) : Prop := ∀ I W J B Wd, zN32 J → I 9 = 5 → kont (zHH h t F0 G0 td tp A I W J B Wd) = some (none, zHH h t F0 G0 td tp A I W J B Wd)
section NZRU
variable {d t : Nat} {h : nzH} {F0 G0 : Nat → Value} {td : Option Nat} {tp : Nat → Int32} {A : Nat → Nat → Int32} {L : Nat} {J : Nat → Int32} {B : Nat → Nat → Int32} {Wd : Nat → Int64} {fs : List (zrs → Bool × zrs)} {P P1 : zPS} {s : Nat} {ff : Int32 × Int32} {c : Nat → Int32} {Fin : zFT}
theorem zCk_ok {f : zrs → Bool × zrs} {kont kont1 : nzH → nzO} {k k1 : ztkn} {I I1 : Nat → Int32} {W W1 : Int64} {J1 : Nat → Int32} {B1 : Nat → Nat → Int32} {Wd1 : Nat → Int64} (e : (f (k, P)).1 = true) (e2 : (f (k, P)).2 = (k1, P1)) (ek : kont (zHH h t F0 G0 td tp A I W J B Wd) = kont1 (zHH h t F0 G0 td tp A I1 W1 J1 B1 Wd1)) (T1 : zTr k1 I1 W1) (w1 : zTw tp L k1) (mo : k.2.1 ≤ k1.2.1) (is : zIs I I1) (i13 : I1 13 = 0) (e7 : I 7 = nI L) (C : zCt h t F0 G0 td tp A L fs kont1 P1 s ff c J1 B1 Wd1 Fin) : zCk h t F0 G0 td tp A L (f :: fs) kont P s ff c J B Wd Fin k I W := by
  have C1 := C k1 I1 W1 T1 w1 ((is 7 (by decide)).trans e7) i13
  have ez : zpAll (f :: fs) (k, P) = zpAll fs (k1, P1) := by
    rw [zpAll, if_pos e, e2]
  rw [zCk, ez]
  refine ⟨fun z => ?_, fun z => ?_⟩
  · obtain ⟨k', N', g', I', W', J', B', Wd', q1, q2, q3, q4, q5, q6, q7⟩ := C1.1 z
    exact ⟨k', N', g', I', W', J', B', Wd', ek.trans q1, q2, q3, q4, Nat.le_trans mo q5, zIs_tr is q6, q7⟩
  · obtain ⟨I', W', J', B', Wd', q1, q2, q3⟩ := C1.2 z
    exact ⟨I', W', J', B', Wd', ek.trans q1, zIs_tr is q2, q3⟩
theorem zCk_no {f : zrs → Bool × zrs} {kont : nzH → nzO} {k : ztkn} {I I1 : Nat → Int32} {W W1 : Int64} {J1 : Nat → Int32} {B1 : Nat → Nat → Int32} {Wd1 : Nat → Int64} (e : (f (k, P)).1 = false) (ek : kont (zHH h t F0 G0 td tp A I W J B Wd) = some (none, zHH h t F0 G0 td tp A I1 W1 J1 B1 Wd1)) (is : zIs I I1) (i9 : I1 9 = 5) (i13 : I1 13 = (f (k, P)).2.2.1.2.1) (i14 : I1 14 = (f (k, P)).2.2.1.2.2) : zCk h t F0 G0 td tp A L (f :: fs) kont P s ff c J B Wd Fin k I W := by
  have ez : zpAll (f :: fs) (k, P) = (false, (f (k, P)).2) := by
    rw [zpAll, if_neg (by rw [e]; decide)]
  rw [zCk, ez]
  exact ⟨fun z => (by cases z), fun _ => ⟨I1, W1, J1, B1, Wd1, ek, is, i9, i13, i14⟩⟩
theorem zCt_needs {q : UInt32} {l : List Nat} (str : zstr q l) (hl : l.length ≤ 8) (hd : 6 < d) (hL : L ≤ 900) (hb : ∀ i, zby (tp i)) {kont1 : nzH → nzO} (o : zOv h t F0 G0 td tp A kont1) (hJ : zN32 J) (C : zCt h t F0 G0 td tp A L fs kont1 P s ff c J B Wd Fin) : zCt h t F0 G0 td tp A L (zpWd tp L l :: fs) (fun h => (nzxV d nX13_needs [.ref 73, .float q] h).bind kont1) P s ff c J B Wd Fin := by
  intro k I W T w e7 e13
  by_cases y : zisw tp k.1 k.2.1 k.2.2.1 l = true
  · obtain ⟨I1, W1, q1, q2, q3, q4, q5, q6, q7⟩ := kX13_needs_ok (h := zdS h t G0 J B Wd) (F0 := F0) (td := td) (rd := some t) (A := A) str hl hd hL hb T w e7 y
    refine zCk_ok (k1 := ztoN tp L k) (P1 := P) (kont1 := kont1) ?_ ?_ ?_ q4 q5 q6 q2 (q3.trans e13) e7 C
    · show (zpWd tp L l (k, P)).1 = true
      rw [zpWd, if_pos y]
    · show (zpWd tp L l (k, P)).2 = _
      rw [zpWd, if_pos y]
      rfl
    · show (nzxV d nX13_needs [.ref 73, .float q] (zHH h t F0 G0 td tp A I W J B Wd)).bind kont1 = _
      rw [q1, Option.bind_some]
  · have q1 := kX13_needs_no (h := zdS h t G0 J B Wd) (F0 := F0) (td := td) (rd := some t) (A := A) str hl hd T w y
    refine zCk_no (I1 := zfI I 1) (W1 := W) (J1 := J) (B1 := B) (Wd1 := Wd) ?_ ?_ (zfI_s _ _) (zfI_9 _ _) ?_ ?_
    · show (zpWd tp L l (k, P)).1 = false
      rw [zpWd, if_neg y]
    · show (nzxV d nX13_needs [.ref 73, .float q] (zHH h t F0 G0 td tp A I W J B Wd)).bind kont1 = _
      rw [q1, Option.bind_some]
      exact o _ _ _ _ _ hJ (zfI_9 _ _)
    · show _ = (zpWd tp L l (k, P)).2.2.1.2.1
      rw [zpWd, if_neg y, zfI_13]
      rfl
    · show _ = (zpWd tp L l (k, P)).2.2.1.2.2
      rw [zpWd, if_neg y, zfI_14]
      exact T.1
variable {N : zNT} {g : Nat → Int32} {m : Nat}
theorem zsTk_P (tp : Nat → Int32) (L col : Nat) (v : Int32) (k : ztkn) (hs : s < 9) (hm : m < 6) (hc : c s = nI (m + 1)) : zsTk tp L col v (k, (nI s, ff), N, c, g) = (ztoN tp L k, (nI s, ff), N, c, upd g ((s * 6 + m) * 7 + col) v) := by
  show (ztoN tp L k, (nI s, ff), N, c, upd g (((nI s).toNatClampNeg * 6 + ((c (nI s).toNatClampNeg).toNatClampNeg - 1)) * 7 + col) v) = _
  rw [nI_clamp (show s < 2 ^ 31 by omega), hc, nI_clamp (by omega), Nat.add_sub_cancel]
theorem zCt_whole {lo hi col : Nat} (hhi : hi < 2 ^ 31) (hlo : lo ≤ hi) (hd : 2 < d) (hL : L ≤ 900) (hb : ∀ i, zby (tp i)) (hs : s < 9) (hm : m < 6) (hc : c s = nI (m + 1)) {K : Int32 → nzH → nzO} (o : ∀ x, zOv h t F0 G0 td tp A (K x)) (hJ : zN32 J) (C : ∀ v, lo ≤ v → v ≤ hi → zCt h t F0 G0 td tp A L fs (K (nI v)) ((nI s, ff), N, c, upd g ((s * 6 + m) * 7 + col) (nI v)) s ff c J B Wd Fin) : zCt h t F0 G0 td tp A L (zpWh tp L col (nI lo) (nI hi) :: fs) (fun h => (nzxI d nX13_readWhole [.ref 73, .int (nI lo), .int (nI hi)] h).bind fun q => K q.1 q.2) ((nI s, ff), N, c, g) s ff c J B Wd Fin := by
  intro k I W T w e7 e13
  by_cases y : k.1 = 2
  · obtain ⟨v, hv, ev⟩ := w.2.2.2.2 y
    by_cases z : k.2.2.2.2.2 < nI lo ∨ nI hi < k.2.2.2.2.2
    · obtain ⟨x, q1⟩ := kX13_readWhole_out (h := zdS h t G0 J B Wd) (F0 := F0) (td := td) (rd := some t) (tp := tp) (A := A) (d := d) (by omega) T (nI lo) (nI hi) y z
      have ef : zpWh tp L col (nI lo) (nI hi) (k, (nI s, ff), N, c, g) = (false, zsFl 4 (k, (nI s, ff), N, c, g)) := by
        show (if k.1 = 2 then _ else _) = _
        rw [if_pos y]
        show (if k.2.2.2.2.2 < nI lo ∨ nI hi < k.2.2.2.2.2 then _ else _) = _
        rw [if_pos z]
      refine zCk_no (I1 := zfI I 4) (W1 := W) (J1 := J) (B1 := B) (Wd1 := Wd) ?_ ?_ (zfI_s _ _) (zfI_9 _ _) ?_ ?_
      · rw [ef]
      · show (nzxI d nX13_readWhole [.ref 73, .int (nI lo), .int (nI hi)] (zHH h t F0 G0 td tp A I W J B Wd)).bind _ = _
        rw [q1, Option.bind_some]
        exact o _ _ _ _ _ _ hJ (zfI_9 _ _)
      · rw [ef, zfI_13]
        rfl
      · rw [ef, zfI_14]
        exact T.1
    · obtain ⟨I1, W1, q1, q2, q3, q4, q5, q6, q7⟩ := kX13_readWhole_ok (h := zdS h t G0 J B Wd) (F0 := F0) (td := td) (rd := some t) (A := A) hd hL hb T w e7 (nI lo) (nI hi) y z
      have hlv : lo ≤ v ∧ v ≤ hi := by
        rw [ev] at z
        refine ⟨?_, ?_⟩
        · refine Nat.le_of_not_lt fun q => z (.inl (nI_lt q (by omega)))
        · refine Nat.le_of_not_lt fun q => z (.inr (nI_lt q (by omega)))
      have ef : zpWh tp L col (nI lo) (nI hi) (k, (nI s, ff), N, c, g) = (true, (ztoN tp L k, (nI s, ff), N, c, upd g ((s * 6 + m) * 7 + col) (nI v))) := by
        show (if k.1 = 2 then _ else _) = _
        rw [if_pos y]
        show (if k.2.2.2.2.2 < nI lo ∨ nI hi < k.2.2.2.2.2 then _ else _) = _
        rw [if_neg z]
        show (true, zsTk tp L col k.2.2.2.2.2 (k, (nI s, ff), N, c, g)) = _
        rw [zsTk_P tp L col _ k hs hm hc, ev]
      refine zCk_ok (k1 := ztoN tp L k) (P1 := ((nI s, ff), N, c, upd g ((s * 6 + m) * 7 + col) (nI v))) (kont1 := K (nI v)) ?_ ?_ ?_ q4 q5 q6 q2 (q3.trans e13) e7 (C v hlv.1 hlv.2)
      · rw [ef]
      · rw [ef]
      · show (nzxI d nX13_readWhole [.ref 73, .int (nI lo), .int (nI hi)] (zHH h t F0 G0 td tp A I W J B Wd)).bind _ = _
        rw [q1, Option.bind_some, ev]
  · obtain ⟨x, q1⟩ := kX13_readWhole_no (h := zdS h t G0 J B Wd) (F0 := F0) (td := td) (rd := some t) (tp := tp) (A := A) (d := d) (by omega) T (nI lo) (nI hi) y
    have ef : zpWh tp L col (nI lo) (nI hi) (k, (nI s, ff), N, c, g) = (false, zsFl 1 (k, (nI s, ff), N, c, g)) := by
      show (if k.1 = 2 then _ else _) = _
      rw [if_neg y]
    refine zCk_no (I1 := zfI I 1) (W1 := W) (J1 := J) (B1 := B) (Wd1 := Wd) ?_ ?_ (zfI_s _ _) (zfI_9 _ _) ?_ ?_
    · rw [ef]
    · show (nzxI d nX13_readWhole [.ref 73, .int (nI lo), .int (nI hi)] (zHH h t F0 G0 td tp A I W J B Wd)).bind _ = _
      rw [q1, Option.bind_some]
      exact o _ _ _ _ _ _ hJ (zfI_9 _ _)
    · rw [ef, zfI_13]
      rfl
    · rw [ef, zfI_14]
      exact T.1
theorem kX13_readWhole_tot (hd : 2 < d) (hL : L ≤ 900) (hb : ∀ i, zby (tp i)) {h : nzH} {rd : Option Nat} {I : Nat → Int32} {W : Int64} {k : ztkn} (T : zTr k I W) (w : zTw tp L k) (e7 : I 7 = nI L) (lo hi : Int32) : ∃ r, nzxI d nX13_readWhole [.ref 73, .int lo, .int hi] (zmS h F0 I W td rd tp A) = some r := by
  by_cases y : k.1 = 2
  · by_cases z : k.2.2.2.2.2 < lo ∨ hi < k.2.2.2.2.2
    · obtain ⟨x, q⟩ := kX13_readWhole_out (h := h) (F0 := F0) (td := td) (rd := rd) (tp := tp) (A := A) (d := d) (by omega) T lo hi y z
      exact ⟨_, q⟩
    · obtain ⟨I1, W1, q, _⟩ := kX13_readWhole_ok (h := h) (F0 := F0) (td := td) (rd := rd) (A := A) hd hL hb T w e7 lo hi y z
      exact ⟨_, q⟩
  · obtain ⟨x, q⟩ := kX13_readWhole_no (h := h) (F0 := F0) (td := td) (rd := rd) (tp := tp) (A := A) (d := d) (by omega) T lo hi y
    exact ⟨_, q⟩
theorem kPart {h h1 : nzH} {rd : Option Nat} {I : Nat → Int32} {W : Int64} {q : UInt32} {lo hi : Int32} {r : Int32 × nzH} (hd : 0 < d) (e1 : nzxV (d - 1) nX13_needs [.ref 73, .float q] (zmS h F0 I W td rd tp A) = some h1) (e2 : nzxI (d - 1) nX13_readWhole [.ref 73, .int lo, .int hi] h1 = some r) : nzxI d nX13_readPart [.ref 73, .float q, .int lo, .int hi] (zmS h F0 I W td rd tp A) = some r := by
  refine iX13_readPart hd zmS_o ?_
  rw [eX13_readPart_0, e1, Option.bind_some, e2, Option.bind_some]
theorem kX13_readPart5 {h : nzH} {rd : Option Nat} {q : UInt32} (hd : 2 < d) {I : Nat → Int32} {W : Int64} (e9 : I 9 = 5) (lo hi : Int32) : nzxI d nX13_readPart [.ref 73, .float q, .int lo, .int hi] (zmS h F0 I W td rd tp A) = some (I 12, zmS h F0 I W td rd tp A) := kPart (by omega) (kX13_needs5 (by omega) e9) (kX13_readWhole5 (by omega) e9 lo hi)
theorem zCt_part {q : UInt32} {l : List Nat} (str : zstr q l) (hl : l.length ≤ 8) {lo hi col : Nat} (hhi : hi < 2 ^ 31) (hlo : lo ≤ hi) (hd : 7 < d) (hL : L ≤ 900) (hb : ∀ i, zby (tp i)) (hs : s < 9) (hm : m < 6) (hc : c s = nI (m + 1)) {K : Int32 → nzH → nzO} (o : ∀ x, zOv h t F0 G0 td tp A (K x)) (hJ : zN32 J) (C : ∀ v, lo ≤ v → v ≤ hi → zCt h t F0 G0 td tp A L fs (K (nI v)) ((nI s, ff), N, c, upd g ((s * 6 + m) * 7 + col) (nI v)) s ff c J B Wd Fin) : zCt h t F0 G0 td tp A L (zpWd tp L l :: zpWh tp L col (nI lo) (nI hi) :: fs) (fun h => (nzxI d nX13_readPart [.ref 73, .float q, .int (nI lo), .int (nI hi)] h).bind fun q => K q.1 q.2) ((nI s, ff), N, c, g) s ff c J B Wd Fin := by
  intro k I W T w e7 e13
  by_cases y : zisw tp k.1 k.2.1 k.2.2.1 l = true
  · obtain ⟨I1, W1, q1, q2, q3, q4, q5, q6, q7⟩ := kX13_needs_ok (d := d - 1) (h := zdS h t G0 J B Wd) (F0 := F0) (td := td) (rd := some t) (A := A) str hl (by omega) hL hb T w e7 y
    obtain ⟨r, er⟩ := kX13_readWhole_tot (d := d - 1) (h := zdS h t G0 J B Wd) (F0 := F0) (td := td) (rd := some t) (A := A) (by omega) hL hb q4 q5 ((q2 7 (by decide)).trans e7) (nI lo) (nI hi)
    refine zCk_ok (k1 := ztoN tp L k) (P1 := ((nI s, ff), N, c, g)) (kont1 := fun h => (nzxI (d - 1) nX13_readWhole [.ref 73, .int (nI lo), .int (nI hi)] h).bind fun q => K q.1 q.2) ?_ ?_ ?_ q4 q5 q6 q2 (q3.trans e13) e7 (zCt_whole hhi hlo (by omega) hL hb hs hm hc o hJ C)
    · show (zpWd tp L l (k, (nI s, ff), N, c, g)).1 = true
      rw [zpWd, if_pos y]
    · show (zpWd tp L l (k, (nI s, ff), N, c, g)).2 = _
      rw [zpWd, if_pos y]
      rfl
    · show (nzxI d nX13_readPart [.ref 73, .float q, .int (nI lo), .int (nI hi)] (zHH h t F0 G0 td tp A I W J B Wd)).bind _ = (nzxI (d - 1) nX13_readWhole [.ref 73, .int (nI lo), .int (nI hi)] (zHH h t F0 G0 td tp A I1 W1 J B Wd)).bind _
      rw [kPart (by omega) q1 er, er]
  · have q1 := kX13_needs_no (d := d - 1) (h := zdS h t G0 J B Wd) (F0 := F0) (td := td) (rd := some t) (A := A) str hl (by omega) T w y
    refine zCk_no (I1 := zfI I 1) (W1 := W) (J1 := J) (B1 := B) (Wd1 := Wd) ?_ ?_ (zfI_s _ _) (zfI_9 _ _) ?_ ?_
    · show (zpWd tp L l (k, (nI s, ff), N, c, g)).1 = false
      rw [zpWd, if_neg y]
    · show (nzxI d nX13_readPart [.ref 73, .float q, .int (nI lo), .int (nI hi)] (zHH h t F0 G0 td tp A I W J B Wd)).bind _ = _
      rw [kPart (by omega) q1 (kX13_readWhole5 (by omega) (zfI_9 _ _) (nI lo) (nI hi)), Option.bind_some]
      exact o _ _ _ _ _ _ hJ (zfI_9 _ _)
    · show _ = (zpWd tp L l (k, (nI s, ff), N, c, g)).2.2.1.2.1
      rw [zpWd, if_neg y, zfI_13]
      rfl
    · show _ = (zpWd tp L l (k, (nI s, ff), N, c, g)).2.2.1.2.2
      rw [zpWd, if_neg y, zfI_14]
      exact T.1
theorem zCt_letters {col : Nat} (hd : 2 < d) (hL : L ≤ 900) (hb : ∀ i, zby (tp i)) (hs : s < 9) (hm : m < 6) (hc : c s = nI (m + 1)) {K : Int32 → nzH → nzO} (o : ∀ x, zOv h t F0 G0 td tp A (K x)) (hJ : zN32 J) (C : ∀ v, zCt h t F0 G0 td tp A L fs (K v) ((nI s, ff), N, c, upd g ((s * 6 + m) * 7 + col) v) s ff c J B Wd Fin) : zCt h t F0 G0 td tp A L (zpLt tp L col :: fs) (fun h => (nzxI d nX13_readLetters [.ref 73] h).bind fun q => K q.1 q.2) ((nI s, ff), N, c, g) s ff c J B Wd Fin := by
  intro k I W T w e7 e13
  by_cases y : k.1 = 1
  · obtain ⟨I1, W1, q1, q2, q3, q4, q5, q6, q7⟩ := kX13_readLetters_ok (h := zdS h t G0 J B Wd) (F0 := F0) (td := td) (rd := some t) (A := A) hd hL hb T w e7 y
    have ef : zpLt tp L col (k, (nI s, ff), N, c, g) = (true, (ztoN tp L k, (nI s, ff), N, c, upd g ((s * 6 + m) * 7 + col) k.2.2.2.2.1)) := by
      show (if k.1 = 1 then _ else _) = _
      rw [if_pos y]
      show (true, zsTk tp L col k.2.2.2.2.1 (k, (nI s, ff), N, c, g)) = _
      rw [zsTk_P tp L col _ k hs hm hc]
    refine zCk_ok (k1 := ztoN tp L k) (P1 := ((nI s, ff), N, c, upd g ((s * 6 + m) * 7 + col) k.2.2.2.2.1)) (kont1 := K k.2.2.2.2.1) ?_ ?_ ?_ q4 q5 q6 q2 (q3.trans e13) e7 (C _)
    · rw [ef]
    · rw [ef]
    · show (nzxI d nX13_readLetters [.ref 73] (zHH h t F0 G0 td tp A I W J B Wd)).bind _ = _
      rw [q1, Option.bind_some]
  · obtain ⟨x, q1⟩ := kX13_readLetters_no (h := zdS h t G0 J B Wd) (F0 := F0) (td := td) (rd := some t) (tp := tp) (A := A) (d := d) (by omega) T y
    have ef : zpLt tp L col (k, (nI s, ff), N, c, g) = (false, zsFl 1 (k, (nI s, ff), N, c, g)) := by
      show (if k.1 = 1 then _ else _) = _
      rw [if_neg y]
    refine zCk_no (I1 := zfI I 1) (W1 := W) (J1 := J) (B1 := B) (Wd1 := Wd) ?_ ?_ (zfI_s _ _) (zfI_9 _ _) ?_ ?_
    · rw [ef]
    · show (nzxI d nX13_readLetters [.ref 73] (zHH h t F0 G0 td tp A I W J B Wd)).bind _ = _
      rw [q1, Option.bind_some]
      exact o _ _ _ _ _ _ hJ (zfI_9 _ _)
    · rw [ef, zfI_13]
      rfl
    · rw [ef, zfI_14]
      exact T.1
theorem zCt_perhaps {q : UInt32} {l : List Nat} (str : zstr q l) (hl : l.length ≤ 8) {col : Nat} (hd : 6 < d) (hL : L ≤ 900) (hb : ∀ i, zby (tp i)) (hs : s < 9) (hm : m < 6) (hc : c s = nI (m + 1)) {K : Int32 → nzH → nzO} (C1 : zCt h t F0 G0 td tp A L fs (K 1) ((nI s, ff), N, c, upd g ((s * 6 + m) * 7 + col) 1) s ff c J B Wd Fin) (C0 : zCt h t F0 G0 td tp A L fs (K 0) ((nI s, ff), N, c, g) s ff c J B Wd Fin) : zCt h t F0 G0 td tp A L (zpPh tp L l col :: fs) (fun h => (nzxI d nX13_eatsWord [.ref 73, .float q] h).bind fun q => K q.1 q.2) ((nI s, ff), N, c, g) s ff c J B Wd Fin := by
  intro k I W T w e7 e13
  by_cases y : zisw tp k.1 k.2.1 k.2.2.1 l = true
  · obtain ⟨I1, W1, q1, q2, q3, q4, q5, q6, q7⟩ := kX13_eatsWord_ok (h := zdS h t G0 J B Wd) (F0 := F0) (td := td) (rd := some t) (A := A) str hl hd hL hb T w e7 y
    have ef : zpPh tp L l col (k, (nI s, ff), N, c, g) = (true, (ztoN tp L k, (nI s, ff), N, c, upd g ((s * 6 + m) * 7 + col) 1)) := by
      show (true, if zisw tp k.1 k.2.1 k.2.2.1 l = true then _ else _) = _
      rw [if_pos y, zsTk_P tp L col _ k hs hm hc]
    refine zCk_ok (k1 := ztoN tp L k) (P1 := ((nI s, ff), N, c, upd g ((s * 6 + m) * 7 + col) 1)) (kont1 := K 1) ?_ ?_ ?_ q4 q5 q6 q2 (q3.trans e13) e7 C1
    · rw [ef]
    · rw [ef]
    · show (nzxI d nX13_eatsWord [.ref 73, .float q] (zHH h t F0 G0 td tp A I W J B Wd)).bind _ = _
      rw [q1, Option.bind_some]
  · have q1 := kX13_eatsWord_no (h := zdS h t G0 J B Wd) (F0 := F0) (td := td) (rd := some t) (A := A) str hl hd T w y
    have ef : zpPh tp L l col (k, (nI s, ff), N, c, g) = (true, (k, (nI s, ff), N, c, g)) := by
      show (true, if zisw tp k.1 k.2.1 k.2.2.1 l = true then _ else _) = _
      rw [if_neg y]
    refine zCk_ok (k1 := k) (P1 := ((nI s, ff), N, c, g)) (kont1 := K 0) ?_ ?_ ?_ T w (Nat.le_refl _) (zIs_rfl _) e13 e7 C0
    · rw [ef]
    · rw [ef]
    · show (nzxI d nX13_eatsWord [.ref 73, .float q] (zHH h t F0 G0 td tp A I W J B Wd)).bind _ = _
      rw [q1, Option.bind_some]
theorem zCt_known {want : Nat} {col : Nat} (ht : 94 ≤ t) (hw : want = 0 ∨ want = 2) (hd : 7 < d) (hL : L ≤ 900) (hb : ∀ i, zby (tp i)) (hs : s < 9) (hm : m < 6) (hc : c s = nI (m + 1)) {K : Int32 → nzH → nzO} (o : ∀ x, zOv h t F0 G0 td tp A (K x)) (M : zNm N c J B Wd) (C : ∀ r n, c want = nI n → r < n → n ≤ 6 → zCt h t F0 G0 td tp A L fs (K (nI r)) ((nI s, ff), N, c, upd g ((s * 6 + m) * 7 + col) (nI r)) s ff c J B Wd Fin) : zCt h t F0 G0 td tp A L (zpTn tp L (nI want) col :: fs) (fun h => (nzxI d nX13_readKnown [.ref 73, .int (nI want)] h).bind fun q => K q.1 q.2) ((nI s, ff), N, c, g) s ff c J B Wd Fin := by
  intro k I W T w e7 e13
  have hJ : zN32 J := ⟨N.1, M.1, M.2.1⟩
  have fl : ∀ n : Int32, zpTn tp L (nI want) col (k, (nI s, ff), N, c, g) = (false, zsFl n (k, (nI s, ff), N, c, g)) → nzxI d nX13_readKnown [.ref 73, .int (nI want)] (zHH h t F0 G0 td tp A I W J B Wd) = some (0, zHH h t F0 G0 td tp A (zfI I n) W J B Wd) → zCk h t F0 G0 td tp A L (zpTn tp L (nI want) col :: fs) (fun h => (nzxI d nX13_readKnown [.ref 73, .int (nI want)] h).bind fun q => K q.1 q.2) ((nI s, ff), N, c, g) s ff c J B Wd Fin k I W := by
    intro n ef q1
    refine zCk_no (I1 := zfI I n) (W1 := W) (J1 := J) (B1 := B) (Wd1 := Wd) ?_ ?_ (zfI_s _ _) (zfI_9 _ _) ?_ ?_
    · rw [ef]
    · show (nzxI d nX13_readKnown [.ref 73, .int (nI want)] (zHH h t F0 G0 td tp A I W J B Wd)).bind _ = _
      rw [q1, Option.bind_some]
      exact o _ _ _ _ _ _ hJ (zfI_9 _ _)
    · rw [ef, zfI_13]
      rfl
    · rw [ef, zfI_14]
      exact T.1
  by_cases y : zisN tp k = true
  · have hx : nI want = 0 ∨ nI want = 2 := by
      rcases hw with rfl | rfl
      · exact .inl rfl
      · exact .inr rfl
    have KY := kX13_readKnown_yes (d := d) (h := h) (t := t) (F0 := F0) (G0 := G0) (td := td) (A := A) ht hd M T w hx y hL hb e7
    by_cases z1 : zfnd N.2.1 k.2.2.2.1 0 N.1 = -1
    · refine fl 2 ?_ (KY.1 (.inl z1))
      show (if zisN tp k = true then _ else _) = _
      rw [if_pos y]
      show (if zfnd N.2.1 k.2.2.2.1 0 N.1 = -1 then _ else _) = _
      rw [if_pos z1]
    · by_cases z2 : N.2.2.1 (zfnd N.2.1 k.2.2.2.1 0 N.1).toNatClampNeg = nI want
      · obtain ⟨r, n, s', s9, es, cs, rn, n6, nr, I1, W1, q1, q2, q3, q4, q5, q6, q7⟩ := KY.2 z1 z2
        have es' : want = s' := (nI_eq (by omega) (by omega)).mp es
        subst es'
        have ef : zpTn tp L (nI want) col (k, (nI s, ff), N, c, g) = (true, (ztoN tp L k, (nI s, ff), N, c, upd g ((s * 6 + m) * 7 + col) (nI r))) := by
          show (if zisN tp k = true then _ else _) = _
          rw [if_pos y]
          show (if zfnd N.2.1 k.2.2.2.1 0 N.1 = -1 then _ else if N.2.2.1 (zfnd N.2.1 k.2.2.2.1 0 N.1).toNatClampNeg = nI want then _ else _) = _
          rw [if_neg z1, if_pos z2]
          show (true, zsTk tp L col (N.2.2.2 (zfnd N.2.1 k.2.2.2.1 0 N.1).toNatClampNeg) (k, (nI s, ff), N, c, g)) = _
          rw [zsTk_P tp L col _ k hs hm hc, nr]
        refine zCk_ok (k1 := ztoN tp L k) (P1 := ((nI s, ff), N, c, upd g ((s * 6 + m) * 7 + col) (nI r))) (kont1 := K (nI r)) ?_ ?_ ?_ q4 q5 q6 q2 (q3.trans e13) e7 (C r n cs rn n6)
        · rw [ef]
        · rw [ef]
        · show (nzxI d nX13_readKnown [.ref 73, .int (nI want)] (zHH h t F0 G0 td tp A I W J B Wd)).bind _ = _
          rw [q1, Option.bind_some]
      · refine fl 2 ?_ (KY.1 (.inr z2))
        show (if zisN tp k = true then _ else _) = _
        rw [if_pos y]
        show (if zfnd N.2.1 k.2.2.2.1 0 N.1 = -1 then _ else if N.2.2.1 (zfnd N.2.1 k.2.2.2.1 0 N.1).toNatClampNeg = nI want then _ else _) = _
        rw [if_neg z1, if_neg z2]
  · refine fl 1 ?_ (kX13_readKnown_no1 ht hd M.1 M.2.1 T w _ y)
    show (if zisN tp k = true then _ else _) = _
    rw [if_neg y]
end NZRU
