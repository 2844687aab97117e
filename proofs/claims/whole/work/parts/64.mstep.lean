/-! the reference: the steps of a line -/
def zIs (I I' : Nat → Int32) : Prop := ∀ a, a < 8 ∨ 15 < a → I' a = I a
theorem zIs_tr {I I' I'' : Nat → Int32} (a : zIs I I') (b : zIs I' I'') : zIs I I'' := fun q hq => (b q hq).trans (a q hq)
theorem zIs_rfl (I : Nat → Int32) : zIs I I := fun _ _ => rfl
/-- wrong, at this place -/
def zfI (I : Nat → Int32) (f : Int32) : Nat → Int32 := upd (upd (upd I 13 f) 14 (I 10)) 9 5
theorem zfI_s (I : Nat → Int32) (f : Int32) : zIs I (zfI I f) := fun a ha => by rw [zfI, upd_ne (by omega), upd_ne (by omega), upd_ne (by omega)]
theorem zfI_9 (I : Nat → Int32) (f : Int32) : zfI I f 9 = 5 := upd_eq _ _ _
theorem zfI_13 (I : Nat → Int32) (f : Int32) : zfI I f 13 = f := by rw [zfI, upd_ne (by decide), upd_ne (by decide), upd_eq]
theorem zfI_14 (I : Nat → Int32) (f : Int32) : zfI I f 14 = I 10 := by rw [zfI, upd_ne (by decide), upd_eq]
section NZST
variable {d : Nat} {h : nzH} {F0 : Nat → Value} {td rd : Option Nat} {tp : Nat → Int32} {A : Nat → Nat → Int32} {L : Nat}
theorem kWr (hd : 0 < d) {I : Nat → Int32} {W : Int64} (e9 : ¬ I 9 = 5) (x : Int32) : nzxV d nX13_wrong [.ref 73, .int x] (zmS h F0 I W td rd tp A) = some (zmS h F0 (zfI I x) W td rd tp A) := kX13_wrong hd e9 x
/-- the next token -/
theorem kAdv (hd : 1 < d) (hL : L ≤ 900) (hb : ∀ i, zby (tp i)) {I : Nat → Int32} {W : Int64} {k : ztkn} (T : zTr k I W) (w : zTw tp L k) (e7 : I 7 = nI L) (k5 : k.1 ≠ 5) : ∃ I' W', nzxV d nX13_goesOn [.ref 73] (zmS h F0 I W td rd tp A) = some (zmS h F0 I' W' td rd tp A) ∧ zIs I I' ∧ I' 13 = I 13 ∧ zTr (ztoN tp L k) I' W' ∧ zTw tp L (ztoN tp L k) ∧ k.2.1 ≤ (ztoN tp L k).2.1 ∧ k.2.2.1 ≤ (ztoN tp L k).2.1 := by
  obtain ⟨I', W', q1, q2, q3⟩ := kX13_goesOn (h := h) (F0 := F0) (td := td) (rd := rd) (A := A) (W := W) hd hL hb e7 w.2.1 (T.2.1 k5) (zTr_9 T).2.2.2.1 k.2.2.2
  have tw := ztok_w tp w.2.1 k.2.2.2
  exact ⟨I', W', q1, fun a ha => q2 a (by omega) (by omega) (by omega) (by omega) (by omega) (by omega), q2 13 (by decide) (by decide) (by decide) (by decide) (by decide) (by decide), q3, tw.1, Nat.le_trans w.1 tw.2, tw.2⟩
theorem kX13_needs5 {q : UInt32} (hd : 1 < d) {I : Nat → Int32} {W : Int64} (e9 : I 9 = 5) : nzxV d nX13_needs [.ref 73, .float q] (zmS h F0 I W td rd tp A) = some (zmS h F0 I W td rd tp A) := by
  refine iX13_needs (by omega) zmS_o ?_
  rw [eX13_needs_0, kX13_isWord5 (by omega) e9, Option.bind_some, if_pos rfl, kX13_wrong5 (by omega) e9, Option.bind_some, eX13_needs_13, kX13_goesOn5 (by omega) e9, Option.bind_some]
theorem kX13_needs_no {q : UInt32} {l : List Nat} (s : zstr q l) (hl : l.length ≤ 8) (hd : 6 < d) {I : Nat → Int32} {W : Int64} {k : ztkn} (T : zTr k I W) (w : zTw tp L k) (y : ¬ zisw tp k.1 k.2.1 k.2.2.1 l = true) : nzxV d nX13_needs [.ref 73, .float q] (zmS h F0 I W td rd tp A) = some (zmS h F0 (zfI I 1) W td rd tp A) := by
  refine iX13_needs (by omega) zmS_o ?_
  rw [eX13_needs_0, kX13_isWord s (by omega) hl T w, Option.bind_some, if_neg y, if_pos rfl, kWr (by omega) (zTr_9 T).2.2.2.1, Option.bind_some, eX13_needs_13]
  rw [kX13_goesOn5 (by omega) (zfI_9 _ _), Option.bind_some]
theorem kX13_needs_ok {q : UInt32} {l : List Nat} (s : zstr q l) (hl : l.length ≤ 8) (hd : 6 < d) (hL : L ≤ 900) (hb : ∀ i, zby (tp i)) {I : Nat → Int32} {W : Int64} {k : ztkn} (T : zTr k I W) (w : zTw tp L k) (e7 : I 7 = nI L) (y : zisw tp k.1 k.2.1 k.2.2.1 l = true) : ∃ I' W', nzxV d nX13_needs [.ref 73, .float q] (zmS h F0 I W td rd tp A) = some (zmS h F0 I' W' td rd tp A) ∧ zIs I I' ∧ I' 13 = I 13 ∧ zTr (ztoN tp L k) I' W' ∧ zTw tp L (ztoN tp L k) ∧ k.2.1 ≤ (ztoN tp L k).2.1 ∧ k.2.2.1 ≤ (ztoN tp L k).2.1 := by
  have k1 := ((zisw_iff w hl s.2.2.2.2.2.2).mp y).1
  obtain ⟨I', W', q1, q2⟩ := kAdv (d := d - 1) (h := h) (F0 := F0) (td := td) (rd := rd) (A := A) (by omega) hL hb T w e7 (by rw [k1]; decide)
  refine ⟨I', W', iX13_needs (by omega) zmS_o ?_, q2⟩
  rw [eX13_needs_0, kX13_isWord s (by omega) hl T w, Option.bind_some, if_pos y, if_neg (show ¬ (1 : Int32) = 0 by decide), eX13_needs_13, q1, Option.bind_some]
theorem kX13_readWhole5 (hd : 1 < d) {I : Nat → Int32} {W : Int64} (e9 : I 9 = 5) (lo hi : Int32) : nzxI d nX13_readWhole [.ref 73, .int lo, .int hi] (zmS h F0 I W td rd tp A) = some (I 12, zmS h F0 I W td rd tp A) := by
  refine iX13_readWhole (by omega) zmS_o ?_
  rw [eX13_readWhole_0, zI_9, Option.bind_some, e9, if_neg (by decide), kX13_wrong5 (by omega) e9, Option.bind_some, eX13_readWhole_33, zI_12, Option.bind_some, kX13_goesOn5 (by omega) e9, Option.bind_some]
theorem kX13_readWhole_no (hd : 1 < d) {I : Nat → Int32} {W : Int64} {k : ztkn} (T : zTr k I W) (lo hi : Int32) (y : ¬ k.1 = 2) : ∃ x, nzxI d nX13_readWhole [.ref 73, .int lo, .int hi] (zmS h F0 I W td rd tp A) = some (x, zmS h F0 (zfI I 1) W td rd tp A) := by
  have t9 := zTr_9 T
  refine ⟨zfI I 1 12, iX13_readWhole (by omega) zmS_o ?_⟩
  rw [eX13_readWhole_0, zI_9, Option.bind_some, if_neg (fun z => y (t9.2.1.mp z)), kWr (by omega) t9.2.2.2.1, Option.bind_some, eX13_readWhole_33]
  rw [zI_12, Option.bind_some, kX13_goesOn5 (by omega) (zfI_9 _ _), Option.bind_some]
theorem kX13_readWhole_out (hd : 1 < d) {I : Nat → Int32} {W : Int64} {k : ztkn} (T : zTr k I W) (lo hi : Int32) (y : k.1 = 2) (z : k.2.2.2.2.2 < lo ∨ hi < k.2.2.2.2.2) : ∃ x, nzxI d nX13_readWhole [.ref 73, .int lo, .int hi] (zmS h F0 I W td rd tp A) = some (x, zmS h F0 (zfI I 4) W td rd tp A) := by
  have t9 := zTr_9 T
  refine ⟨zfI I 4 12, iX13_readWhole (by omega) zmS_o ?_⟩
  have e0 : (if k.2.2.2.2.2 < lo then (0 : Int32) else if hi < k.2.2.2.2.2 then 0 else 1) = 0 := by
    by_cases z1 : k.2.2.2.2.2 < lo
    · rw [if_pos z1]
    · rw [if_neg z1, if_pos (z.resolve_left z1)]
  rw [eX13_readWhole_0, zI_9, Option.bind_some, if_pos (t9.2.1.mpr y), zI_12, Option.bind_some, (T.2.2.2.2.1 y).2, jX13_in (by omega), Option.bind_some, e0, if_pos rfl, kWr (by omega) t9.2.2.2.1, Option.bind_some, eX13_readWhole_33]
  rw [zI_12, Option.bind_some, kX13_goesOn5 (by omega) (zfI_9 _ _), Option.bind_some]
theorem kX13_readWhole_ok (hd : 2 < d) (hL : L ≤ 900) (hb : ∀ i, zby (tp i)) {I : Nat → Int32} {W : Int64} {k : ztkn} (T : zTr k I W) (w : zTw tp L k) (e7 : I 7 = nI L) (lo hi : Int32) (y : k.1 = 2) (z : ¬ (k.2.2.2.2.2 < lo ∨ hi < k.2.2.2.2.2)) : ∃ I' W', nzxI d nX13_readWhole [.ref 73, .int lo, .int hi] (zmS h F0 I W td rd tp A) = some (k.2.2.2.2.2, zmS h F0 I' W' td rd tp A) ∧ zIs I I' ∧ I' 13 = I 13 ∧ zTr (ztoN tp L k) I' W' ∧ zTw tp L (ztoN tp L k) ∧ k.2.1 ≤ (ztoN tp L k).2.1 ∧ k.2.2.1 ≤ (ztoN tp L k).2.1 := by
  have t9 := zTr_9 T
  obtain ⟨I', W', q1, q2⟩ := kAdv (d := d - 1) (h := h) (F0 := F0) (td := td) (rd := rd) (A := A) (by omega) hL hb T w e7 (by rw [y]; decide)
  refine ⟨I', W', iX13_readWhole (by omega) zmS_o ?_, q2⟩
  have e0 : (if k.2.2.2.2.2 < lo then (0 : Int32) else if hi < k.2.2.2.2.2 then 0 else 1) = 1 := by
    rw [if_neg (fun q => z (.inl q)), if_neg (fun q => z (.inr q))]
  rw [eX13_readWhole_0, zI_9, Option.bind_some, if_pos (t9.2.1.mpr y), zI_12, Option.bind_some, (T.2.2.2.2.1 y).2, jX13_in (by omega), Option.bind_some, e0, if_neg (show ¬ (1 : Int32) = 0 by decide), eX13_readWhole_33, zI_12, Option.bind_some, (T.2.2.2.2.1 y).2, q1, Option.bind_some]
theorem kX13_readLetters5 (hd : 1 < d) {I : Nat → Int32} {W : Int64} (e9 : I 9 = 5) : nzxI d nX13_readLetters [.ref 73] (zmS h F0 I W td rd tp A) = some (I 15, zmS h F0 I W td rd tp A) := by
  refine iX13_readLetters (by omega) zmS_o ?_
  rw [eX13_readLetters_0, zI_9, Option.bind_some, e9, if_neg (by decide), kX13_wrong5 (by omega) e9, Option.bind_some, eX13_readLetters_13, zI_15, Option.bind_some, kX13_goesOn5 (by omega) e9, Option.bind_some]
theorem kX13_readLetters_no (hd : 1 < d) {I : Nat → Int32} {W : Int64} {k : ztkn} (T : zTr k I W) (y : ¬ k.1 = 1) : ∃ x, nzxI d nX13_readLetters [.ref 73] (zmS h F0 I W td rd tp A) = some (x, zmS h F0 (zfI I 1) W td rd tp A) := by
  have t9 := zTr_9 T
  refine ⟨zfI I 1 15, iX13_readLetters (by omega) zmS_o ?_⟩
  rw [eX13_readLetters_0, zI_9, Option.bind_some, if_neg (fun z => y (t9.1.mp z)), kWr (by omega) t9.2.2.2.1, Option.bind_some, eX13_readLetters_13]
  rw [zI_15, Option.bind_some, kX13_goesOn5 (by omega) (zfI_9 _ _), Option.bind_some]
theorem kX13_readLetters_ok (hd : 2 < d) (hL : L ≤ 900) (hb : ∀ i, zby (tp i)) {I : Nat → Int32} {W : Int64} {k : ztkn} (T : zTr k I W) (w : zTw tp L k) (e7 : I 7 = nI L) (y : k.1 = 1) : ∃ I' W', nzxI d nX13_readLetters [.ref 73] (zmS h F0 I W td rd tp A) = some (k.2.2.2.2.1, zmS h F0 I' W' td rd tp A) ∧ zIs I I' ∧ I' 13 = I 13 ∧ zTr (ztoN tp L k) I' W' ∧ zTw tp L (ztoN tp L k) ∧ k.2.1 ≤ (ztoN tp L k).2.1 ∧ k.2.2.1 ≤ (ztoN tp L k).2.1 := by
  have t9 := zTr_9 T
  obtain ⟨I', W', q1, q2⟩ := kAdv (d := d - 1) (h := h) (F0 := F0) (td := td) (rd := rd) (A := A) (by omega) hL hb T w e7 (by rw [y]; decide)
  refine ⟨I', W', iX13_readLetters (by omega) zmS_o ?_, q2⟩
  rw [eX13_readLetters_0, zI_9, Option.bind_some, if_pos (t9.1.mpr y), eX13_readLetters_13, zI_15, Option.bind_some, (T.2.2.2.1 y).2.2, q1, Option.bind_some]
theorem kX13_eatsWord5 {q : UInt32} (hd : 1 < d) {I : Nat → Int32} {W : Int64} (e9 : I 9 = 5) : nzxI d nX13_eatsWord [.ref 73, .float q] (zmS h F0 I W td rd tp A) = some (0, zmS h F0 I W td rd tp A) := by
  refine iX13_eatsWord (by omega) zmS_o ?_
  rw [eX13_eatsWord_0, kX13_isWord5 (by omega) e9, Option.bind_some, if_pos rfl, eX13_eatsWord_14, if_pos zbN0]
theorem kX13_eatsWord_no {q : UInt32} {l : List Nat} (s : zstr q l) (hl : l.length ≤ 8) (hd : 6 < d) {I : Nat → Int32} {W : Int64} {k : ztkn} (T : zTr k I W) (w : zTw tp L k) (y : ¬ zisw tp k.1 k.2.1 k.2.2.1 l = true) : nzxI d nX13_eatsWord [.ref 73, .float q] (zmS h F0 I W td rd tp A) = some (0, zmS h F0 I W td rd tp A) := by
  refine iX13_eatsWord (by omega) zmS_o ?_
  rw [eX13_eatsWord_0, kX13_isWord s (by omega) hl T w, Option.bind_some, if_neg y, if_pos rfl, eX13_eatsWord_14, if_pos zbN0]
theorem kX13_eatsWord_ok {q : UInt32} {l : List Nat} (s : zstr q l) (hl : l.length ≤ 8) (hd : 6 < d) (hL : L ≤ 900) (hb : ∀ i, zby (tp i)) {I : Nat → Int32} {W : Int64} {k : ztkn} (T : zTr k I W) (w : zTw tp L k) (e7 : I 7 = nI L) (y : zisw tp k.1 k.2.1 k.2.2.1 l = true) : ∃ I' W', nzxI d nX13_eatsWord [.ref 73, .float q] (zmS h F0 I W td rd tp A) = some (1, zmS h F0 I' W' td rd tp A) ∧ zIs I I' ∧ I' 13 = I 13 ∧ zTr (ztoN tp L k) I' W' ∧ zTw tp L (ztoN tp L k) ∧ k.2.1 ≤ (ztoN tp L k).2.1 ∧ k.2.2.1 ≤ (ztoN tp L k).2.1 := by
  have k1 := ((zisw_iff w hl s.2.2.2.2.2.2).mp y).1
  obtain ⟨I', W', q1, q2⟩ := kAdv (d := d - 1) (h := h) (F0 := F0) (td := td) (rd := rd) (A := A) (by omega) hL hb T w e7 (by rw [k1]; decide)
  refine ⟨I', W', iX13_eatsWord (by omega) zmS_o ?_, q2⟩
  rw [eX13_eatsWord_0, kX13_isWord s (by omega) hl T w, Option.bind_some, if_pos y, if_neg (show ¬ (1 : Int32) = 0 by decide), q1, Option.bind_some, eX13_eatsWord_14, if_pos zbN1]
theorem kX13_eatsSign5 (hd : 0 < d) {I : Nat → Int32} {W : Int64} (e9 : I 9 = 5) (x : Int32) : nzxI d nX13_eatsSign [.ref 73, .int x] (zmS h F0 I W td rd tp A) = some (0, zmS h F0 I W td rd tp A) := by
  refine iX13_eatsSign hd zmS_o ?_
  rw [eX13_eatsSign_0, zI_9, Option.bind_some, e9, if_neg (by decide), eX13_eatsSign_20, eX13_eatsSign_21, if_pos rfl, eX13_eatsSign_30, if_pos zbN0]
theorem kX13_eatsSign_no (hd : 0 < d) {I : Nat → Int32} {W : Int64} (x : Int32) (y : ¬ (I 9 = 4 ∧ I 11 = x)) : nzxI d nX13_eatsSign [.ref 73, .int x] (zmS h F0 I W td rd tp A) = some (0, zmS h F0 I W td rd tp A) := by
  refine iX13_eatsSign hd zmS_o ?_
  rw [eX13_eatsSign_0, zI_9, Option.bind_some, zI_11, Option.bind_some]
  by_cases y1 : I 9 = 4
  · rw [if_pos y1, if_neg (fun z => y ⟨y1, z⟩), eX13_eatsSign_20, eX13_eatsSign_21, if_pos rfl, eX13_eatsSign_30, if_pos zbN0]
  · rw [if_neg y1, eX13_eatsSign_20, eX13_eatsSign_21, if_pos rfl, eX13_eatsSign_30, if_pos zbN0]
theorem kX13_eatsSign_ok (hd : 2 < d) (hL : L ≤ 900) (hb : ∀ i, zby (tp i)) {I : Nat → Int32} {W : Int64} {k : ztkn} (T : zTr k I W) (w : zTw tp L k) (e7 : I 7 = nI L) (x : Int32) (y : I 9 = 4 ∧ I 11 = x) : ∃ I' W', nzxI d nX13_eatsSign [.ref 73, .int x] (zmS h F0 I W td rd tp A) = some (1, zmS h F0 I' W' td rd tp A) ∧ zIs I I' ∧ I' 13 = I 13 ∧ zTr (ztoN tp L k) I' W' ∧ zTw tp L (ztoN tp L k) ∧ k.2.1 ≤ (ztoN tp L k).2.1 ∧ k.2.2.1 ≤ (ztoN tp L k).2.1 := by
  have k5 : k.1 ≠ 5 := fun z => by have := T.2.2.2.2.2.2.2.1 z; rw [y.1] at this; exact absurd this (by decide)
  obtain ⟨I', W', q1, q2⟩ := kAdv (d := d - 1) (h := h) (F0 := F0) (td := td) (rd := rd) (A := A) (by omega) hL hb T w e7 k5
  refine ⟨I', W', iX13_eatsSign (by omega) zmS_o ?_, q2⟩
  rw [eX13_eatsSign_0, zI_9, Option.bind_some, if_pos y.1, zI_11, Option.bind_some, if_pos y.2, eX13_eatsSign_21, if_neg (show ¬ (1 : Int32) = 0 by decide), q1, Option.bind_some, eX13_eatsSign_30, if_pos zbN1]
end NZST
