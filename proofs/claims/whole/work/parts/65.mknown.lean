/-! the reference: names told and new -/
abbrev zNT : Type := Nat × (Nat → Int64) × (Nat → Int32) × (Nat → Int32)
def zs3 (s : Nat) : Nat := if s < 3 then s else 3
def zNm (N : zNT) (c : Nat → Int32) (J : Nat → Int32) (B : Nat → Nat → Int32) (Wd : Nat → Int64) : Prop := N.1 ≤ 32 ∧ J 10 = nI N.1 ∧ ∀ i, i < N.1 → Wd i = N.2.1 i ∧ ∃ s r n, s < 9 ∧ c s = nI n ∧ r < n ∧ n ≤ 6 ∧ N.2.2.1 i = nI s ∧ B 35 i = nI (zs3 s) ∧ N.2.2.2 i = nI r ∧ B 36 i = nI r
theorem zfnd_congr {P Q : Nat → Int64} (w : Int64) : ∀ (j i : Nat), (∀ q, i ≤ q → q < i + j → P q = Q q) → zfnd P w i j = zfnd Q w i j
  | 0, _, _ => rfl
  | j + 1, i, e => by
    rw [zfnd, zfnd, e i (Nat.le_refl _) (by omega), zfnd_congr w j (i + 1) (fun q h1 h2 => e q (by omega) (by omega))]
theorem zs3_eq : ∀ s, s < 9 → (nI (zs3 s) = 0 ↔ nI s = 0) ∧ (nI (zs3 s) = 2 ↔ nI s = 2) := by decide +kernel
section NZKN
variable {d t : Nat} {h : nzH} {F0 G0 : Nat → Value} {td : Option Nat} {tp : Nat → Int32} {A : Nat → Nat → Int32} {L : Nat} {J : Nat → Int32} {B : Nat → Nat → Int32} {Wd : Nat → Int64}
theorem kFnd (ht : 94 ≤ t) (hd : 0 < d) {I : Nat → Int32} {W : Int64} {n : Nat} (hn : n ≤ 32) (en : J 10 = nI n) (w : Int64) : nzxI d nX12_find [.ref t, .long w] (zHH h t F0 G0 td tp A I W J B Wd) = some (zfnd Wd w 0 n, zHH h t F0 G0 td tp A I W J B Wd) := jX12_find (zmd_S zmd_dS ht) hd hn en w
theorem kX13_kn12 (ht : 94 ≤ t) (hd : 1 < d) {I : Nat → Int32} {W : Int64} {n : Nat} (hn : n ≤ 32) (en : J 10 = nI n) (e9 : I 9 = 5) (x : Int32) : nzr d nX13_readKnown 12 [some (.ref 73), some (.int x), none, none] [] (zHH h t F0 G0 td tp A I W J B Wd) = some (some (.int 0), zHH h t F0 G0 td tp A I W J B Wd) := by
  have fin : ∀ y : Int32, nzr d nX13_readKnown 47 [some (.ref 73), some (.int x), some (.int y), none] [] (zHH h t F0 G0 td tp A I W J B Wd) = some (some (.int 0), zHH h t F0 G0 td tp A I W J B Wd) := fun y => by
    rw [eX13_readKnown_47, zI_9, Option.bind_some, if_pos e9, eX13_readKnown_68, kX13_goesOn5 (by omega) e9, Option.bind_some]
  have fin2 : ∀ y : Int32, nzr d nX13_readKnown 42 [some (.ref 73), some (.int x), some (.int y), none] [] (zHH h t F0 G0 td tp A I W J B Wd) = some (some (.int 0), zHH h t F0 G0 td tp A I W J B Wd) := fun y => by
    rw [eX13_readKnown_42, kX13_wrong5 (by omega) e9, Option.bind_some, fin y]
  rw [eX13_readKnown_12, zIR, Option.bind_some, zIW, Option.bind_some, kFnd ht (by omega) hn en, Option.bind_some]
  rcases zfnd_ix Wd W n 0 with e | ⟨q, h1, h2, e⟩
  · rw [e, if_pos rfl]
    exact fin2 _
  · rw [e, if_neg (zob_ne (by omega)), zIR, Option.bind_some, zdr zmd_dS ht (k := 35) (by decide) (by decide), Option.bind_some, zda zmd_dS ht (k := 35) (by decide) (by decide) (by decide) (by decide) (by decide) (show q < 32 by omega), Option.bind_some]
    by_cases y : B 35 q = x
    · rw [if_pos y]
      exact fin _
    · rw [if_neg y]
      exact fin2 _
theorem kX13_readKnown5 (ht : 94 ≤ t) (hd : 2 < d) {I : Nat → Int32} {W : Int64} {n : Nat} (hn : n ≤ 32) (en : J 10 = nI n) (e9 : I 9 = 5) (x : Int32) : nzxI d nX13_readKnown [.ref 73, .int x] (zHH h t F0 G0 td tp A I W J B Wd) = some (0, zHH h t F0 G0 td tp A I W J B Wd) := by
  refine iX13_readKnown (by omega) zmS_o ?_
  rw [eX13_readKnown_0, kX13_isName5 (by omega) e9, Option.bind_some, if_pos rfl, kX13_wrong5 (by omega) e9, Option.bind_some, kX13_kn12 ht (by omega) hn en e9]
theorem kX13_readKnown_no1 (ht : 94 ≤ t) (hd : 7 < d) {I : Nat → Int32} {W : Int64} {n : Nat} (hn : n ≤ 32) (en : J 10 = nI n) {k : ztkn} (T : zTr k I W) (w : zTw tp L k) (x : Int32) (y : ¬ zisN tp k = true) : nzxI d nX13_readKnown [.ref 73, .int x] (zHH h t F0 G0 td tp A I W J B Wd) = some (0, zHH h t F0 G0 td tp A (zfI I 1) W J B Wd) := by
  refine iX13_readKnown (by omega) zmS_o ?_
  rw [eX13_readKnown_0, kX13_isName (by omega) T w, Option.bind_some, if_neg y, if_pos rfl, kWr (by omega) (zTr_9 T).2.2.2.1, Option.bind_some, kX13_kn12 ht (by omega) hn en (zfI_9 _ _)]
/-- the name that is looked for: -1, or its number -/
theorem kX13_readKnown_yes (ht : 94 ≤ t) (hd : 7 < d) {I : Nat → Int32} {W : Int64} {c : Nat → Int32} {N : zNT} (M : zNm N c J B Wd) {k : ztkn} (T : zTr k I W) (w : zTw tp L k) {x : Int32} (hx : x = 0 ∨ x = 2) (y : zisN tp k = true) (hL : L ≤ 900) (hb : ∀ i, zby (tp i)) (e7 : I 7 = nI L) : ((zfnd N.2.1 k.2.2.2.1 0 N.1 = -1 ∨ ¬ N.2.2.1 (zfnd N.2.1 k.2.2.2.1 0 N.1).toNatClampNeg = x) → nzxI d nX13_readKnown [.ref 73, .int x] (zHH h t F0 G0 td tp A I W J B Wd) = some (0, zHH h t F0 G0 td tp A (zfI I 2) W J B Wd)) ∧ (¬ zfnd N.2.1 k.2.2.2.1 0 N.1 = -1 → N.2.2.1 (zfnd N.2.1 k.2.2.2.1 0 N.1).toNatClampNeg = x → ∃ r n s, s < 9 ∧ x = nI s ∧ c s = nI n ∧ r < n ∧ n ≤ 6 ∧ N.2.2.2 (zfnd N.2.1 k.2.2.2.1 0 N.1).toNatClampNeg = nI r ∧ ∃ I' W', nzxI d nX13_readKnown [.ref 73, .int x] (zHH h t F0 G0 td tp A I W J B Wd) = some (nI r, zHH h t F0 G0 td tp A I' W' J B Wd) ∧ zIs I I' ∧ I' 13 = I 13 ∧ zTr (ztoN tp L k) I' W' ∧ zTw tp L (ztoN tp L k) ∧ k.2.1 ≤ (ztoN tp L k).2.1 ∧ k.2.2.1 ≤ (ztoN tp L k).2.1) := by
  obtain ⟨hn, en, hi⟩ := M
  have t9 := (zTr_9 T).2.2.2.1
  have k1 : k.1 = 1 := by
    rw [zisN, Bool.and_eq_true, decide_eq_true_eq] at y
    exact y.1
  have eW : W = k.2.2.2.1 := (T.2.2.2.1 k1).2.1
  have ef : zfnd Wd W 0 N.1 = zfnd N.2.1 k.2.2.2.1 0 N.1 := by
    rw [eW]
    exact zfnd_congr _ _ _ (fun q _ hq => (hi q (by omega)).1)
  have st : nzr (d - 1) nX13_readKnown 0 [some (.ref 73), some (.int x), none, none] [] (zHH h t F0 G0 td tp A I W J B Wd) = if zfnd N.2.1 k.2.2.2.1 0 N.1 = -1 then nzr (d - 1) nX13_readKnown 42 [some (.ref 73), some (.int x), some (.int (zfnd N.2.1 k.2.2.2.1 0 N.1)), none] [] (zHH h t F0 G0 td tp A I W J B Wd) else ((nzgR (zHH h t F0 G0 td tp A I W J B Wd) t 12 35).bind fun v5 => (nzaI (zHH h t F0 G0 td tp A I W J B Wd) v5 (zfnd N.2.1 k.2.2.2.1 0 N.1)).bind fun v6 => if v6 = x then nzr (d - 1) nX13_readKnown 47 [some (.ref 73), some (.int x), some (.int (zfnd N.2.1 k.2.2.2.1 0 N.1)), none] [] (zHH h t F0 G0 td tp A I W J B Wd) else nzr (d - 1) nX13_readKnown 42 [some (.ref 73), some (.int x), some (.int (zfnd N.2.1 k.2.2.2.1 0 N.1)), none] [] (zHH h t F0 G0 td tp A I W J B Wd)) := by
    rw [eX13_readKnown_0, kX13_isName (by omega) T w, Option.bind_some, if_pos y, if_neg (show ¬ (1 : Int32) = 0 by decide), eX13_readKnown_12, zIR, Option.bind_some, zIW, Option.bind_some, kFnd ht (by omega) hn en, Option.bind_some, ef, zIR, Option.bind_some]
  have fin2 : ∀ z : Int32, nzr (d - 1) nX13_readKnown 42 [some (.ref 73), some (.int x), some (.int z), none] [] (zHH h t F0 G0 td tp A I W J B Wd) = some (some (.int 0), zHH h t F0 G0 td tp A (zfI I 2) W J B Wd) := fun z => by
    rw [eX13_readKnown_42, kWr (by omega) t9, Option.bind_some, eX13_readKnown_47, zI_9, Option.bind_some, if_pos (zfI_9 _ _), eX13_readKnown_68, kX13_goesOn5 (by omega) (zfI_9 _ _), Option.bind_some]
  rcases zfnd_ix N.2.1 k.2.2.2.1 N.1 0 with e | ⟨q, h1, h2, e⟩
  · refine ⟨fun _ => iX13_readKnown (by omega) zmS_o ?_, fun z => absurd e z⟩
    rw [st, if_pos e]
    exact fin2 _
  · rw [Nat.zero_add] at h2
    rw [e, nI_clamp (by omega)]
    rw [e, if_neg (zob_ne (by omega)), zdr zmd_dS ht (k := 35) (by decide) (by decide), Option.bind_some, zda zmd_dS ht (k := 35) (by decide) (by decide) (by decide) (by decide) (by decide) (show q < 32 by omega), Option.bind_some] at st
    obtain ⟨-, s, r, n, s9, cs, rn, n6, ns, bs, nr, br⟩ := hi q h2
    have sx : B 35 q = x ↔ N.2.2.1 q = x := by
      rw [bs, ns]
      rcases hx with rfl | rfl
      · exact (zs3_eq s s9).1
      · exact (zs3_eq s s9).2
    refine ⟨fun z => iX13_readKnown (by omega) zmS_o ?_, fun _ z => ?_⟩
    · rw [st, if_neg (fun v => (z.elim (fun u => absurd u (zob_ne (by omega))) (fun u => u (sx.mp v))))]
      exact fin2 _
    · obtain ⟨I', W', q1, q2⟩ := kAdv (d := d - 1) (h := zdS h t G0 J B Wd) (F0 := F0) (td := td) (rd := some t) (A := A) (by omega) hL hb T w e7 (by rw [k1]; decide)
      refine ⟨r, n, s, s9, by rw [← z]; exact ns, cs, rn, n6, nr, I', W', iX13_readKnown (by omega) zmS_o ?_, q2⟩
      rw [st, if_pos (sx.mpr z), eX13_readKnown_47, zI_9, Option.bind_some, if_neg t9, zIR, Option.bind_some, zdr zmd_dS ht (k := 36) (by decide) (by decide), Option.bind_some, zda zmd_dS ht (k := 36) (by decide) (by decide) (by decide) (by decide) (by decide) (show q < 32 by omega), Option.bind_some, br, eX13_readKnown_68, q1, Option.bind_some]
theorem kX13_nm26 (ht : 94 ≤ t) (hd : 1 < d) {I : Nat → Int32} {W : Int64} {n : Nat} (hn : n ≤ 32) (en : J 10 = nI n) (e9 : I 9 = 5) (x1 x2 x3 : Int32) : nzr d nX13_readNamed 26 [some (.ref 73), some (.int x1), some (.int x2), some (.int x3)] [] (zHH h t F0 G0 td tp A I W J B Wd) = some (none, zHH h t F0 G0 td tp A I W J B Wd) := by
  have fin : nzr d nX13_readNamed 46 [some (.ref 73), some (.int x1), some (.int x2), some (.int x3)] [] (zHH h t F0 G0 td tp A I W J B Wd) = some (none, zHH h t F0 G0 td tp A I W J B Wd) := by
    rw [eX13_readNamed_46, zI_9, Option.bind_some, if_pos e9]
  rw [eX13_readNamed_26, zIR, Option.bind_some, zIW, Option.bind_some, kFnd ht (by omega) hn en, Option.bind_some]
  by_cases y : zfnd Wd W 0 n = -1
  · rw [if_pos y]
    exact fin
  · rw [if_neg y, kX13_wrong5 (by omega) e9, Option.bind_some]
    exact fin
theorem kX13_nm10 (ht : 94 ≤ t) (hd : 1 < d) {I : Nat → Int32} {W : Int64} {n : Nat} (hn : n ≤ 32) (en : J 10 = nI n) (e9 : I 9 = 5) (x1 x2 x3 : Int32) : nzr d nX13_readNamed 10 [some (.ref 73), some (.int x1), some (.int x2), some (.int x3)] [] (zHH h t F0 G0 td tp A I W J B Wd) = some (none, zHH h t F0 G0 td tp A I W J B Wd) := by
  rw [eX13_readNamed_10, kX13_goesOn5 (by omega) e9, Option.bind_some, kX13_isName5 (by omega) e9, Option.bind_some, if_pos rfl, kX13_wrong5 (by omega) e9, Option.bind_some]
  exact kX13_nm26 ht hd hn en e9 x1 x2 x3
theorem kX13_readNamed5 (ht : 94 ≤ t) (hd : 2 < d) {I : Nat → Int32} {W : Int64} {n : Nat} (hn : n ≤ 32) (en : J 10 = nI n) (e9 : I 9 = 5) (x1 x2 x3 : Int32) : nzxV d nX13_readNamed [.ref 73, .int x1, .int x2, .int x3] (zHH h t F0 G0 td tp A I W J B Wd) = some (zHH h t F0 G0 td tp A I W J B Wd) := by
  refine iX13_readNamed (by omega) zmS_o ?_
  rw [eX13_readNamed_0, kX13_wrong5 (by omega) e9, Option.bind_some, kX13_nm10 ht (by omega) hn en e9, ite_self]
theorem kX13_readNamed_full (ht : 94 ≤ t) (hd : 2 < d) {I : Nat → Int32} {W : Int64} {n : Nat} (hn : n ≤ 32) (en : J 10 = nI n) (t9 : ¬ I 9 = 5) (x1 x3 : Int32) : nzxV d nX13_readNamed [.ref 73, .int x1, .int x1, .int x3] (zHH h t F0 G0 td tp A I W J B Wd) = some (zHH h t F0 G0 td tp A (zfI I 5) W J B Wd) := by
  refine iX13_readNamed (by omega) zmS_o ?_
  rw [eX13_readNamed_0, if_pos rfl, kWr (by omega) t9, Option.bind_some, kX13_nm10 ht (by omega) hn en (zfI_9 _ _)]
theorem kX13_readNamed (ht : 94 ≤ t) (hd : 8 < d) {I : Nat → Int32} {W : Int64} {n : Nat} (hn : n ≤ 32) (en : J 10 = nI n) {k : ztkn} (T : zTr k I W) (w : zTw tp L k) (k1 : k.1 = 1) (hL : L ≤ 900) (hb : ∀ i, zby (tp i)) (e7 : I 7 = nI L) {x1 x2 : Int32} (x3 : Int32) (hx : ¬ x1 = x2) : ∃ I1 W1, zIs I I1 ∧ I1 13 = I 13 ∧ zTr (ztoN tp L k) I1 W1 ∧ zTw tp L (ztoN tp L k) ∧ k.2.1 ≤ (ztoN tp L k).2.1 ∧ k.2.2.1 ≤ (ztoN tp L k).2.1 ∧ (¬ zisN tp (ztoN tp L k) = true → nzxV d nX13_readNamed [.ref 73, .int x1, .int x2, .int x3] (zHH h t F0 G0 td tp A I W J B Wd) = some (zHH h t F0 G0 td tp A (zfI I1 1) W1 J B Wd)) ∧ (zisN tp (ztoN tp L k) = true → ¬ zfnd Wd (ztoN tp L k).2.2.2.1 0 n = -1 → nzxV d nX13_readNamed [.ref 73, .int x1, .int x2, .int x3] (zHH h t F0 G0 td tp A I W J B Wd) = some (zHH h t F0 G0 td tp A (zfI I1 3) W1 J B Wd)) ∧ (zisN tp (ztoN tp L k) = true → zfnd Wd (ztoN tp L k).2.2.2.1 0 n = -1 → n < 32 → ∃ I2 W2, nzxV d nX13_readNamed [.ref 73, .int x1, .int x2, .int x3] (zHH h t F0 G0 td tp A I W J B Wd) = some (zHH h t F0 G0 td tp A I2 W2 (upd J 10 (nI (n + 1))) (va_up (va_up B 35 (upd (B 35) n x3)) 36 (upd (B 36) n x1)) (vp_updL Wd n (ztoN tp L k).2.2.2.1)) ∧ zIs I1 I2 ∧ I2 13 = I1 13 ∧ zTr (ztoN tp L (ztoN tp L k)) I2 W2 ∧ zTw tp L (ztoN tp L (ztoN tp L k)) ∧ (ztoN tp L k).2.1 ≤ (ztoN tp L (ztoN tp L k)).2.1) := by
  obtain ⟨I1, W1, q1, q2, q3, q4, q5, q6, q7⟩ := kAdv (d := d - 1) (h := zdS h t G0 J B Wd) (F0 := F0) (td := td) (rd := some t) (A := A) (by omega) hL hb T w e7 (by rw [k1]; decide)
  have t9 := (zTr_9 q4).2.2.2.1
  have st : nzr (d - 1) nX13_readNamed 0 [some (.ref 73), some (.int x1), some (.int x2), some (.int x3)] [] (zHH h t F0 G0 td tp A I W J B Wd) = if (if zisN tp (ztoN tp L k) = true then (1 : Int32) else 0) = 0 then nzr (d - 1) nX13_readNamed 26 [some (.ref 73), some (.int x1), some (.int x2), some (.int x3)] [] (zHH h t F0 G0 td tp A (zfI I1 1) W1 J B Wd) else nzr (d - 1) nX13_readNamed 26 [some (.ref 73), some (.int x1), some (.int x2), some (.int x3)] [] (zHH h t F0 G0 td tp A I1 W1 J B Wd) := by
    rw [eX13_readNamed_0, if_neg hx, eX13_readNamed_10, q1, Option.bind_some, kX13_isName (by omega) q4 q5, Option.bind_some, kWr (by omega) t9, Option.bind_some]
  refine ⟨I1, W1, q2, q3, q4, q5, q6, q7, fun y => ?_, fun y z => ?_, fun y z n32 => ?_⟩
  · refine iX13_readNamed (by omega) zmS_o ?_
    rw [st, if_neg y, if_pos rfl]
    exact kX13_nm26 ht (by omega) hn en (zfI_9 _ _) x1 x2 x3
  all_goals
    have kk : (ztoN tp L k).1 = 1 := by
      have y' := y
      rw [zisN, Bool.and_eq_true, decide_eq_true_eq] at y'
      exact y'.1
    have eW : W1 = (ztoN tp L k).2.2.2.1 := (q4.2.2.2.1 kk).2.1
    rw [if_pos y, if_neg (show ¬ (1 : Int32) = 0 by decide), eX13_readNamed_26, zIR, Option.bind_some, zIW, Option.bind_some, kFnd ht (by omega) hn en, Option.bind_some, eW] at st
  · refine iX13_readNamed (by omega) zmS_o ?_
    rw [st, if_neg z, kWr (by omega) t9, Option.bind_some, eX13_readNamed_46, zI_9, Option.bind_some, if_pos (zfI_9 _ _), eW]
  · obtain ⟨I2, W2, r1, r2, r3, r4, r5, r6, r7⟩ := kAdv (d := d - 1) (h := zdS h t G0 (upd J 10 (nI (n + 1))) (va_up (va_up B 35 (upd (B 35) n x3)) 36 (upd (B 36) n x1)) (vp_updL Wd n (ztoN tp L k).2.2.2.1)) (F0 := F0) (td := td) (rd := some t) (A := A) (W := (ztoN tp L k).2.2.2.1) (by omega) hL hb (by rw [← eW]; exact q4) q5 ((q2 7 (by decide)).trans e7) (by rw [kk]; decide)
    refine ⟨I2, W2, iX13_readNamed (by omega) zmS_o ?_, r2, r3, r4, r5, r6⟩
    rw [st, if_pos z, eX13_readNamed_46, zI_9, Option.bind_some, if_neg t9, zIR, Option.bind_some, zdr zmd_dS ht (k := 34) (by decide) (by decide), Option.bind_some, Option.bind_some, zj zmd_dS ht (by decide), Option.bind_some, en, zIW, Option.bind_some, zDL ht n32, Option.bind_some, zIR, Option.bind_some, zdr zmd_dS ht (k := 35) (by decide) (by decide), Option.bind_some, Option.bind_some, zj zmd_dS ht (by decide), Option.bind_some, en, zDW ht (k := 35) (by decide) (by decide) (by decide) (by decide) (by decide) n32, Option.bind_some, zIR, Option.bind_some, zdr zmd_dS ht (k := 36) (by decide) (by decide), Option.bind_some, Option.bind_some, zj zmd_dS ht (by decide), Option.bind_some, en, zDW ht (k := 36) (by decide) (by decide) (by decide) (by decide) (by decide) n32, Option.bind_some, zIR, Option.bind_some, zj zmd_dS ht (by decide), Option.bind_some, en, nI_1, zDP ht (by decide), Option.bind_some, va_up_ne _ _ (show 36 ≠ 35 by decide), r1, Option.bind_some]
end NZKN
