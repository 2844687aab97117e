/-! a whole text read by class and reference -/
def zFg (S : zrs) : Prop := ∃ n, 1 ≤ n ∧ n ≤ 6 ∧ S.2.1.2.1 = nI n
theorem zFg_Fl (S : zrs) {n : Nat} (h1 : 1 ≤ n) (h2 : n ≤ 6) : zFg (zsFl (nI n) S) := ⟨n, h1, h2, rfl⟩
def zFs (f : zrs → Bool × zrs) : Prop := ∀ S, (f S).1 = false → zFg (f S).2
theorem zFs_all : ∀ (fs : List (zrs → Bool × zrs)), (∀ f, f ∈ fs → zFs f) → zFs (zpAll fs)
  | [], _ => fun S z => (by cases z)
  | f :: fs, e => fun S z => by
    rw [zpAll] at z ⊢
    by_cases y : (f S).1 = true
    · rw [if_pos y] at z ⊢
      exact zFs_all fs (fun f hf => e f (List.mem_cons_of_mem _ hf)) _ z
    · rw [if_neg y]
      exact e f (List.mem_cons_self ..) S (by cases h : (f S).1 with | true => exact absurd h y | false => rfl)
section NZFS
variable {tp : Nat → Int32} {L : Nat}
theorem zFs_w (l : List Nat) : zFs (zpWd tp L l) := fun S z => by
  rw [zpWd] at z ⊢
  split at z
  · cases z
  · rename_i y
    rw [if_neg y]
    exact zFg_Fl S (n := 1) (by decide) (by decide)
theorem zFs_h (k : Nat) (a b : Int32) : zFs (zpWh tp L k a b) := fun S z => by
  rw [zpWh] at z ⊢
  split at z
  · rename_i y
    rw [if_pos y]
    split at z
    · rename_i y2
      rw [if_pos y2]
      exact zFg_Fl S (n := 4) (by decide) (by decide)
    · cases z
  · rename_i y
    rw [if_neg y]
    exact zFg_Fl S (n := 1) (by decide) (by decide)
theorem zFs_l (k : Nat) : zFs (zpLt tp L k) := fun S z => by
  rw [zpLt] at z ⊢
  split at z
  · cases z
  · rename_i y
    rw [if_neg y]
    exact zFg_Fl S (n := 1) (by decide) (by decide)
theorem zFs_n : zFs (zpNn tp L) := fun S z => by
  rw [zpNn] at z ⊢
  split at z
  · rename_i y
    rw [if_pos y]
    split at z
    · cases z
    · rename_i y2
      rw [if_neg y2]
      exact zFg_Fl S (n := 3) (by decide) (by decide)
  · rename_i y
    rw [if_neg y]
    exact zFg_Fl S (n := 1) (by decide) (by decide)
theorem zFs_t (a : Int32) (k : Nat) : zFs (zpTn tp L a k) := fun S z => by
  rw [zpTn] at z ⊢
  split at z
  · rename_i y
    rw [if_pos y]
    split at z
    · rename_i y2
      rw [if_pos y2]
      exact zFg_Fl S (n := 2) (by decide) (by decide)
    · rename_i y2
      rw [if_neg y2]
      split at z
      · cases z
      · rename_i y3
        rw [if_neg y3]
        exact zFg_Fl S (n := 2) (by decide) (by decide)
  · rename_i y
    rw [if_neg y]
    exact zFg_Fl S (n := 1) (by decide) (by decide)
theorem zFs_p (l : List Nat) (k : Nat) : zFs (zpPh tp L l k) := fun S z => (by cases z)
theorem zFs_u : ∀ (j : Nat) (x : Int32), zFs (zpUd tp L j x)
  | 0, _ => fun S _ => zFg_Fl S (n := 1) (by decide) (by decide)
  | j + 1, x => fun S z => by
    rw [zpUd] at z ⊢
    split at z
    · rename_i y
      rw [if_pos y]
      split at z
      · rename_i y2
        rw [if_pos y2]
        split at z
        · rename_i y3
          rw [if_pos y3]
          split at z
          · rename_i y4
            rw [if_pos y4]
            exact zFs_u j _ _ z
          · cases z
        · rename_i y3
          rw [if_neg y3]
          exact zFg_Fl S (n := 3) (by decide) (by decide)
      · rename_i y2
        rw [if_neg y2]
        exact zFg_Fl S (n := 4) (by decide) (by decide)
    · rename_i y
      rw [if_neg y]
      exact zFg_Fl S (n := 1) (by decide) (by decide)
theorem zFs_ln (s : Nat) : zFs (zpAll (zLn tp L s)) := by
  refine zFs_all _ (fun f hf => ?_)
  match s, hf with
  | 0, hf =>
    simp only [zLn, List.mem_cons, List.not_mem_nil, or_false] at hf
    rcases hf with rfl | rfl | rfl | rfl | rfl
    · exact zFs_n
    · exact zFs_w _
    · exact zFs_h _ _ _
    · exact zFs_w _
    · exact zFs_h _ _ _
  | 1, hf =>
    simp only [zLn, List.mem_cons, List.not_mem_nil, or_false] at hf
    rcases hf with rfl | rfl | rfl | rfl | rfl
    · exact zFs_n
    · exact zFs_w _
    · exact zFs_l _
    · exact zFs_w _
    · exact zFs_h _ _ _
  | 2, hf =>
    simp only [zLn, List.mem_cons, List.not_mem_nil, or_false] at hf
    rcases hf with rfl | rfl | rfl
    · exact zFs_n
    · exact zFs_w _
    · exact zFs_l _
  | 3, hf =>
    simp only [zLn, List.mem_cons, List.not_mem_nil, or_false] at hf
    rcases hf with rfl | rfl | rfl | rfl | rfl | rfl | rfl | rfl | rfl | rfl | rfl | rfl | rfl | rfl
    · exact zFs_n
    · exact zFs_w _
    · exact zFs_h _ _ _
    · exact zFs_w _
    · exact zFs_t _ _
    · exact zFs_w _
    · exact zFs_h _ _ _
    · exact zFs_w _
    · exact zFs_h _ _ _
    · exact zFs_w _
    · exact zFs_h _ _ _
    · exact zFs_w _
    · exact zFs_h _ _ _
    · exact zFs_p _ _
  | 4, hf =>
    simp only [zLn, List.mem_cons, List.not_mem_nil, or_false] at hf
    rcases hf with rfl | rfl | rfl | rfl | rfl | rfl | rfl | rfl | rfl | rfl
    · exact zFs_n
    · exact zFs_w _
    · exact zFs_t _ _
    · exact zFs_w _
    · exact zFs_h _ _ _
    · exact zFs_w _
    · exact zFs_h _ _ _
    · exact zFs_w _
    · exact zFs_h _ _ _
    · exact zFs_p _ _
  | 5, hf =>
    simp only [zLn, List.mem_cons, List.not_mem_nil, or_false] at hf
    rcases hf with rfl | rfl | rfl
    · exact zFs_h _ _ _
    · exact zFs_w _
    · exact zFs_h _ _ _
  | 6, hf =>
    simp only [zLn, List.mem_cons, List.not_mem_nil, or_false] at hf
    rcases hf with rfl | rfl | rfl | rfl | rfl
    · exact zFs_n
    · exact zFs_w _
    · exact zFs_h _ _ _
    · exact zFs_w _
    · exact zFs_h _ _ _
  | 7, hf =>
    simp only [zLn, List.mem_cons, List.not_mem_nil, or_false] at hf
    rcases hf with rfl | rfl | rfl | rfl | rfl
    · exact zFs_n
    · exact zFs_w _
    · exact zFs_u _ _
    · exact zFs_w _
    · exact zFs_h _ _ _
  | 8, hf =>
    simp only [zLn, List.mem_cons, List.not_mem_nil, or_false] at hf
    rcases hf with rfl | rfl | rfl | rfl
    · exact zFs_w _
    · exact zFs_h _ _ _
    · exact zFs_w _
    · exact zFs_h _ _ _
  | n + 9, hf => simp [zLn] at hf
theorem zFs_b : zFs (zpBl tp L) := fun S z => by
  rw [zpBl] at z ⊢
  split at z
  · rename_i y
    rw [if_pos y]
    exact zFg_Fl _ (n := 1) (by decide) (by decide)
  · rename_i y
    rw [if_neg y]
    split at z
    · cases z
    · rename_i y2
      rw [if_neg y2]
      split
      · exact zFg_Fl _ (n := 3) (by decide) (by decide)
      · exact zFg_Fl _ (n := 5) (by decide) (by decide)
theorem zFs_cl : zFs (zcl tp L) := fun S z => by
  rw [zcl] at z ⊢
  by_cases y : (zpBl tp L S).1 = true
  · rw [if_pos y] at z ⊢
    exact zFs_ln _ _ z
  · rw [if_neg y]
    exact zFs_b S (by cases h : (zpBl tp L S).1 with | true => exact absurd h y | false => rfl)
theorem zFs_rd : ∀ j, zFs (zpRd tp L j)
  | 0 => fun S _ => zFg_Fl S (n := 1) (by decide) (by decide)
  | j + 1 => fun S z => by
    rw [zpRd_cl] at z ⊢
    by_cases y : (zcl tp L S).1 = true
    · rw [if_pos y] at z ⊢
      split at z
      · rename_i y2
        rw [if_pos y2]
        split at z
        · rename_i y3
          rw [if_pos y3]
          exact zFg_Fl _ (n := 6) (by decide) (by decide)
        · cases z
      · rename_i y2
        rw [if_neg y2]
        split at z
        · rename_i y3
          rw [if_pos y3]
          exact zFs_rd j _ z
        · rename_i y3
          rw [if_neg y3]
          exact zFg_Fl _ (n := 1) (by decide) (by decide)
    · rw [if_neg y]
      exact zFs_cl S (by cases h : (zcl tp L S).1 with | true => exact absurd h y | false => rfl)
end NZFS
/-- what is left when a text is read -/
def zRR (h : nzH) (t : Nat) (F0 G0 : Nat → Value) (td : Option Nat) (tp : Nat → Int32) (A : Nat → Nat → Int32) (R : Bool × zrs) (ff : Int32 × Int32) (I : Nat → Int32) (hh : nzH) : Prop :=
  (R.1 = true → ∃ k' x' N' c' g' I' W' J' B' Wd', hh = zHH h t F0 G0 td tp A I' W' J' B' Wd' ∧ R.2 = (k', (x', ff), N', c', g') ∧ zIs I I' ∧ I' 13 = 0 ∧ zDD N' c' g' J' B' Wd' ∧ ¬ (c' 8 = 0 ∨ c' 3 = 0 ∨ c' 4 = 0)) ∧
  (R.1 = false → ∃ I' W' J' B' Wd', hh = zHH h t F0 G0 td tp A I' W' J' B' Wd' ∧ zIs I I' ∧ I' 13 = R.2.2.1.2.1 ∧ I' 14 = R.2.2.1.2.2)
section NZRD
variable {d t : Nat} {h : nzH} {F0 G0 : Nat → Value} {td : Option Nat} {tp : Nat → Int32} {A : Nat → Nat → Int32} {L : Nat} {ff : Int32 × Int32}
theorem kX13_rd5 (ht : 94 ≤ t) (hd : 0 < d) {I : Nat → Int32} {W : Int64} {J : Nat → Int32} {B : Nat → Nat → Int32} {Wd : Nat → Int64} (e9 : I 9 = 5) (x : Int32) : nzr d nX13_readDay 33 [some (.ref 73), some (.int x)] [] (zHH h t F0 G0 td tp A I W J B Wd) = some (none, zHH h t F0 G0 td tp A I W J B Wd) := by
  have fin : nzr d nX13_readDay 64 [some (.ref 73), some (.int x)] [] (zHH h t F0 G0 td tp A I W J B Wd) = some (none, zHH h t F0 G0 td tp A I W J B Wd) := by
    rw [eX13_readDay_64, kX13_wrong5 hd e9, Option.bind_some]
  rw [eX13_readDay_33, zIR, Option.bind_some, zj zmd_dS ht (by decide), Option.bind_some, Option.bind_some, zj zmd_dS ht (by decide), Option.bind_some, Option.bind_some, zj zmd_dS ht (by decide), Option.bind_some, fin]
  simp
theorem zcn_0 {c : Nat → Int32} {s : Nat} (e : c s = nI (zcn c s)) (h6 : zcn c s ≤ 6) : c s = 0 ↔ zcn c s = 0 := by
  rw [e, show (0 : Int32) = nI 0 from rfl, nI_eq (by rw [zcn]; rw [← zcn]; omega) (by decide)]
theorem kX13_rd2 (ht : 94 ≤ t) (hd : 11 < d) (hL : L ≤ 900) (hb : ∀ i, zby (tp i)) : ∀ (j : Nat) (k : ztkn) (x : Int32) (N : zNT) (c g : Nat → Int32) (I : Nat → Int32) (W : Int64) (J : Nat → Int32) (B : Nat → Nat → Int32) (Wd : Nat → Int64), zTr k I W → zTw tp L k → I 7 = nI L → I 13 = 0 → zDD N c g J B Wd → L < k.2.2.1 + j → ∃ hh, nzr d nX13_readDay 2 [some (.ref 73), some (.int 1)] [] (zHH h t F0 G0 td tp A I W J B Wd) = some (none, hh) ∧ zRR h t F0 G0 td tp A (zpRd tp L j (k, (x, ff), N, c, g)) ff I hh := by
  intro j
  induction j with
  | zero =>
    intro k x N c g I W J B Wd T w e7 e13 D hj
    have := w.2.1
    omega
  | succ j ih =>
    intro k x N c g I W J B Wd T w e7 e13 D hj
    obtain ⟨hh, q1, q2⟩ := kX13_readLine (d := d) (h := h) (t := t) (F0 := F0) (G0 := G0) (td := td) (A := A) (ff := ff) (x := x) ht hd hL hb T w e7 e13 D
    rw [zpRd_cl, eX13_readDay_2, if_neg (show ¬ (1 : Int32) = 0 by decide), q1, Option.bind_some]
    cases hz : (zcl tp L (k, (x, ff), N, c, g)).1 with
    | false =>
      obtain ⟨I', W', J', B', Wd', r1, r2, r3, r4, r5⟩ := q2.2 hz
      subst r1
      refine ⟨zHH h t F0 G0 td tp A I' W' J' B' Wd', ?_, fun z => ?_, fun _ => ⟨I', W', J', B', Wd', rfl, r2, ?_, ?_⟩⟩
      · rw [kX13_eatsSign5 (by omega) r3, Option.bind_some, eX13_readDay_2, if_pos rfl, zI_9, Option.bind_some, r3, if_neg (by decide), kX13_wrong5 (by omega) r3, Option.bind_some, kX13_rd5 ht (by omega) r3]
      · rw [if_neg Bool.false_ne_true] at z
        cases z
      · rw [if_neg Bool.false_ne_true]
        exact r4
      · rw [if_neg Bool.false_ne_true]
        exact r5
    | true =>
      obtain ⟨k', s, N', c', g', I', W', J', B', Wd', r1, r2, r3, r4, r5, r6, r7, r8⟩ := q2.1 hz
      subst r1
      rw [r2, if_pos rfl]
      have t9 := zTr_9 r3
      have i7 : I' 7 = nI L := (r6 7 (by decide)).trans e7
      have w3 : k'.1 = 3 → k'.2.2.1 = k'.2.1 + 1 := r4.2.2.1
      dsimp only
      by_cases y3 : k'.1 = 3
      · obtain ⟨I2, W2, p1, p2, p3, p4, p5, p6, p7⟩ := kX13_eatsSign_ok (h := zdS h t G0 J' B' Wd') (F0 := F0) (td := td) (rd := some t) (A := A) (d := d) (by omega) hL hb r3 r4 i7 59 (t9.2.2.2.2.1.mpr y3)
        obtain ⟨h2, u1, u2⟩ := ih (ztoN tp L k') (nI s) N' c' g' I2 W2 J' B' Wd' p4 p5 ((p2 7 (by decide)).trans i7) (p3.trans r7) r8 (by have := p5.1; have := w3 y3; omega)
        refine ⟨h2, ?_, ?_⟩
        · rw [p1, Option.bind_some]
          exact u1
        · rw [if_neg (show ¬ k'.1 = 0 by rw [y3]; decide), if_pos y3]
          exact ⟨fun z => by
            obtain ⟨a1, a2, a3, a4, a5, a6, a7, a8, a9, a10, b1, b2, b3, b4⟩ := u2.1 z
            exact ⟨a1, a2, a3, a4, a5, a6, a7, a8, a9, a10, b1, b2, zIs_tr (zIs_tr r6 p2) b3, b4⟩, fun z => by
            obtain ⟨a6, a7, a8, a9, a10, b1, b3, b4⟩ := u2.2 z
            exact ⟨a6, a7, a8, a9, a10, b1, zIs_tr (zIs_tr r6 p2) b3, b4⟩⟩
      · have es := kX13_eatsSign_no (h := zdS h t G0 J' B' Wd') (F0 := F0) (td := td) (rd := some t) (tp := tp) (A := A) (d := d) (W := W') (by omega) 59 (fun z => y3 (t9.2.2.2.2.1.mp z))
        by_cases y0 : k'.1 = 0
        · obtain ⟨M', R', S'⟩ := r8
          have r6' : ∀ q, q < 9 → c' q = nI (zcn c' q) ∧ zcn c' q ≤ 6 := fun q hq => ⟨(R'.1 q hq).1, Nat.le_trans (R'.1 q hq).2 (zroom_I q hq).2⟩
          have j5 : J' 5 = c' 3 := R'.2.1 3 (by decide)
          have j6 : J' 6 = c' 4 := R'.2.1 4 (by decide)
          have j0 : J' 0 = -1 ↔ c' 8 = 0 := by
            rw [zcn_0 (r6' 8 (by decide)).1 (r6' 8 (by decide)).2]
            constructor
            · intro z
              refine Classical.byContradiction fun q => ?_
              obtain ⟨v, v1, v2, v3⟩ := R'.2.2.2.1 8 0 0 40 90 (by decide) (by omega) (by decide) rfl
              rw [(R'.2.2.2.2.2.2.2.2 (by omega)).1, show g' 336 = nI v from v3] at z
              exact zob_ne (by omega) z
            · exact R'.2.2.2.2.2.2.2.1
          have st : nzr d nX13_readDay 2 [some (.ref 73), some (.int 0)] [] (zHH h t F0 G0 td tp A I' W' J' B' Wd') = if c' 8 = 0 ∨ c' 3 = 0 ∨ c' 4 = 0 then some (none, zHH h t F0 G0 td tp A (zfI I' 6) W' J' B' Wd') else some (none, zHH h t F0 G0 td tp A I' W' J' B' Wd') := by
            rw [eX13_readDay_2, if_pos rfl, zI_9, Option.bind_some, if_pos (t9.2.2.1.mpr y0), eX13_readDay_33, zIR, Option.bind_some, zj zmd_dS ht (by decide), Option.bind_some, Option.bind_some, zj zmd_dS ht (by decide), Option.bind_some, Option.bind_some, zj zmd_dS ht (by decide), Option.bind_some, eX13_readDay_64, kWr (by omega) t9.2.2.2.1, Option.bind_some, j5, j6]
            by_cases z8 : c' 8 = 0
            · rw [if_pos (j0.mpr z8), if_pos (.inl z8)]
            · rw [if_neg (fun q => z8 (j0.mp q))]
              by_cases z3 : c' 3 = 0
              · rw [if_pos z3, if_pos (.inr (.inl z3))]
              · rw [if_neg z3]
                by_cases z4 : c' 4 = 0
                · rw [if_pos z4, if_pos (.inr (.inr z4))]
                · rw [if_neg z4, if_neg (fun q => q.elim z8 (fun q => q.elim z3 z4))]
          rw [if_pos y0]
          by_cases z : c' 8 = 0 ∨ c' 3 = 0 ∨ c' 4 = 0
          · refine ⟨zHH h t F0 G0 td tp A (zfI I' 6) W' J' B' Wd', ?_, fun q => ?_, fun _ => ⟨_, _, _, _, _, rfl, zIs_tr r6 (zfI_s _ _), ?_, ?_⟩⟩
            · rw [es, Option.bind_some]
              exact st.trans (if_pos z)
            · rw [if_pos z] at q
              cases q
            · rw [if_pos z, zfI_13]
              rfl
            · rw [if_pos z, zfI_14]
              exact r3.1
          · refine ⟨zHH h t F0 G0 td tp A I' W' J' B' Wd', ?_, fun _ => ⟨k', nI s, N', c', g', I', W', J', B', Wd', rfl, ?_, r6, r7, ⟨M', R', S'⟩, z⟩, fun q => ?_⟩
            · rw [es, Option.bind_some]
              exact st.trans (if_neg z)
            · rw [if_neg z]
            · rw [if_neg z] at q
              cases q
        · rw [if_neg y0, if_neg y3]
          refine ⟨zHH h t F0 G0 td tp A (zfI I' 1) W' J' B' Wd', ?_, fun q => (by cases q), fun _ => ⟨_, _, _, _, _, rfl, zIs_tr r6 (zfI_s _ _), ?_, ?_⟩⟩
          · rw [es, Option.bind_some, eX13_readDay_2, if_pos rfl, zI_9, Option.bind_some, if_neg (fun q => y0 (t9.2.2.1.mp q)), kWr (by omega) t9.2.2.2.1, Option.bind_some, kX13_rd5 ht (by omega) (zfI_9 _ _)]
          · rw [zfI_13]
            rfl
          · rw [zfI_14]
            exact r3.1
end NZRD
