/-! a line, by its first word; written by wip/gen/gen_readline.py -/
/-- the class reads a line -/
def zcl (tp : Nat → Int32) (L : Nat) (S : zrs) : Bool × zrs := if (zpBl tp L S).1 then zpAll (zLn tp L (zpBl tp L S).2.2.1.1.toNatClampNeg) (zpBl tp L S).2 else (false, (zpBl tp L S).2)
theorem zpRd_cl (tp : Nat → Int32) (L j : Nat) (S : zrs) : zpRd tp L (j + 1) S = if (zcl tp L S).1 then (if (zcl tp L S).2.1.1 = 0 then (if (zcl tp L S).2.2.2.2.1 8 = 0 ∨ (zcl tp L S).2.2.2.2.1 3 = 0 ∨ (zcl tp L S).2.2.2.2.1 4 = 0 then (false, zsFl 6 (zcl tp L S).2) else (true, (zcl tp L S).2)) else if (zcl tp L S).2.1.1 = 3 then zpRd tp L j (zsNx tp L (zcl tp L S).2) else (false, zsFl 1 (zcl tp L S).2)) else (false, (zcl tp L S).2) := by
  rw [zpRd, zcl]
  by_cases y : (zpBl tp L S).1 = true
  · simp only [if_pos y]
  · simp only [if_neg y]
    rfl
def zLR (h : nzH) (t : Nat) (F0 G0 : Nat → Value) (td : Option Nat) (tp : Nat → Int32) (A : Nat → Nat → Int32) (L : Nat) (R : Bool × zrs) (ff : Int32 × Int32) (e0 : Nat) (I : Nat → Int32) (hh : nzH) : Prop :=
  (R.1 = true → ∃ k' s N' c' g' I' W' J' B' Wd', hh = zHH h t F0 G0 td tp A I' W' J' B' Wd' ∧ R.2 = (k', (nI s, ff), N', c', g') ∧ zTr k' I' W' ∧ zTw tp L k' ∧ e0 ≤ k'.2.1 ∧ zIs I I' ∧ I' 13 = 0 ∧ zDD N' c' g' J' B' Wd') ∧
  (R.1 = false → ∃ I' W' J' B' Wd', hh = zHH h t F0 G0 td tp A I' W' J' B' Wd' ∧ zIs I I' ∧ I' 9 = 5 ∧ I' 13 = R.2.2.1.2.1 ∧ I' 14 = R.2.2.1.2.2)
section NZRL
variable {d t : Nat} {h : nzH} {F0 G0 : Nat → Value} {td : Option Nat} {tp : Nat → Int32} {A : Nat → Nat → Int32} {L : Nat} {J : Nat → Int32} {B : Nat → Nat → Int32} {Wd : Nat → Int64} {ff : Int32 × Int32} {c g : Nat → Int32} {N : zNT} {x : Int32} {k : ztkn} {I : Nat → Int32} {W : Int64}
theorem zLR_of {fs : List (zrs → Bool × zrs)} {kont : nzH → nzO} {s : Nat} {c1 : Nat → Int32} (e : zpAll fs (k, (x, ff), N, c, g) = zcl tp L (k, (x, ff), N, c, g)) (C : zCk0 h t F0 G0 td tp A L fs kont ((x, ff), N, c, g) s ff c1 J B Wd (fun N' g' J' B' Wd' => zDD N' c1 g' J' B' Wd') k I W) : ∃ hh, kont (zHH h t F0 G0 td tp A I W J B Wd) = some (none, hh) ∧ zLR h t F0 G0 td tp A L (zcl tp L (k, (x, ff), N, c, g)) ff k.2.2.1 I hh := by
  rw [zCk0, e] at C
  cases hz : (zcl tp L (k, (x, ff), N, c, g)).1 with
  | true =>
    obtain ⟨k', N', g', I', W', J', B', Wd', q1, q2, q3, q4, q5, q6, q7, q8⟩ := C.1 hz
    exact ⟨_, q1, fun _ => ⟨k', s, N', c1, g', I', W', J', B', Wd', rfl, q2, q3, q4, q5, q6, q7, q8⟩, fun z => by rw [hz] at z; cases z⟩
  | false =>
    obtain ⟨I', W', J', B', Wd', q1, q2⟩ := C.2 hz
    exact ⟨_, q1, fun z => (by rw [hz] at z; cases z), fun _ => ⟨I', W', J', B', Wd', rfl, q2⟩⟩
theorem zcl_named {s : Nat} {tail : List (zrs → Bool × zrs)} (hs : s < 9) (hk : zsol tp k = nI s) (hm : zcn c s ≤ 6) (hc : c s = nI (zcn c s)) (el : zLn tp L s = zpNn tp L :: tail) : zpAll (zf0 tp L :: tail) (k, (x, ff), N, c, g) = zcl tp L (k, (x, ff), N, c, g) := by
  have eb := zpBl_P (tp := tp) (L := L) (ff := ff) (N := N) (g := g) (x := x) hs hk hm hc
  rw [zpAll, zf0, zcl]
  by_cases y : zcn c s < zroom s
  · rw [if_pos y] at eb
    rw [eb]
    simp only [if_true]
    rw [nI_clamp (show s < 2 ^ 31 by omega), el, zpAll]
  · rw [if_neg y] at eb
    rw [eb]
    simp
theorem zcl_bare {s : Nat} {tail : List (zrs → Bool × zrs)} (hs : s < 9) (hk : zsol tp k = nI s) (hm : zcn c s ≤ 6) (hc : c s = nI (zcn c s)) (el : zLn tp L s = tail) : zpAll (zpBl tp L :: tail) (k, (x, ff), N, c, g) = zcl tp L (k, (x, ff), N, c, g) := by
  have eb := zpBl_P (tp := tp) (L := L) (ff := ff) (N := N) (g := g) (x := x) hs hk hm hc
  rw [zpAll, zcl]
  by_cases y : zcn c s < zroom s
  · rw [if_pos y] at eb
    rw [eb]
    simp only [if_true]
    rw [nI_clamp (show s < 2 ^ 31 by omega), el]
  · rw [if_neg y] at eb
    rw [eb]
    simp
theorem kX13_readLine (ht : 94 ≤ t) (hd : 11 < d) (hL : L ≤ 900) (hb : ∀ i, zby (tp i)) (T : zTr k I W) (w : zTw tp L k) (e7 : I 7 = nI L) (e13 : I 13 = 0) (D : zDD N c g J B Wd) : ∃ hh, nzxV d nX13_readLine [.ref 73] (zHH h t F0 G0 td tp A I W J B Wd) = some hh ∧ zLR h t F0 G0 td tp A L (zcl tp L (k, (x, ff), N, c, g)) ff k.2.2.1 I hh := by
  have r6 : ∀ q, q < 9 → zcn c q ≤ 6 := fun q hq => Nat.le_trans (D.2.1.1 q hq).2 (zroom_I q hq).2
  have top : ∀ hh, nzr (d - 1) nX13_readLine 0 [some (.ref 73)] [] (zHH h t F0 G0 td tp A I W J B Wd) = some (none, hh) → nzxV d nX13_readLine [.ref 73] (zHH h t F0 G0 td tp A I W J B Wd) = some hh := fun hh e => iX13_readLine (by omega) zmS_o e
  have st := eX13_readLine_0 (d := d - 1) (x0 := 73) (h := zHH h t F0 G0 td tp A I W J B Wd)
  rw [kX13_isWord zstr_70 (by omega) (by decide) T w, Option.bind_some] at st
  by_cases y0 : zisw tp k.1 k.2.1 k.2.2.1 [108, 97, 119] = true
  · have hk : zsol tp k = nI 8 := by simp only [zsol, if_pos y0]; rfl
    obtain ⟨hh, q1, q2⟩ := zLR_of (zcl_bare (by decide) hk (r6 8 (by decide)) (D.2.1.1 8 (by decide)).1 rfl) (zLk_8 (d := d - 2) (h := h) (t := t) (F0 := F0) (G0 := G0) (td := td) (A := A) (ff := ff) (x := x) ht (by omega) hL hb T w e7 e13 hk D)
    refine ⟨hh, top hh ?_, q2⟩
    rw [st, if_pos y0, if_neg (show ¬ (1 : Int32) = 0 by decide), iX13_readLaw (d := d - 1) (by omega) zmS_o q1, Option.bind_some]
  · rw [if_neg y0, if_pos rfl] at st
    rw [kX13_isWord zstr_76 (by omega) (by decide) T w, Option.bind_some] at st
    by_cases y1 : zisw tp k.1 k.2.1 k.2.2.1 [107, 105, 116, 99, 104, 101, 110] = true
    · have hk : zsol tp k = nI 0 := by simp only [zsol, if_neg y0, if_pos y1]; rfl
      obtain ⟨hh, q1, q2⟩ := zLR_of (zcl_named (by decide) hk (r6 0 (by decide)) (D.2.1.1 0 (by decide)).1 rfl) (zLk_0 (d := d - 2) (h := h) (t := t) (F0 := F0) (G0 := G0) (td := td) (A := A) (ff := ff) (x := x) ht (by omega) hL hb T w e7 e13 hk D)
      refine ⟨hh, top hh ?_, q2⟩
      rw [st, if_pos y1, if_neg (show ¬ (1 : Int32) = 0 by decide), iX13_readKitchen (d := d - 1) (by omega) zmS_o q1, Option.bind_some]
    · rw [if_neg y1, if_pos rfl] at st
      rw [kX13_isWord zstr_78 (by omega) (by decide) T w, Option.bind_some] at st
      by_cases y2 : zisw tp k.1 k.2.1 k.2.2.1 [102, 108, 111, 111, 100] = true
      · have hk : zsol tp k = nI 5 := by simp only [zsol, if_neg y0, if_neg y1, if_pos y2]; rfl
        obtain ⟨hh, q1, q2⟩ := zLR_of (zcl_bare (by decide) hk (r6 5 (by decide)) (D.2.1.1 5 (by decide)).1 rfl) (zLk_5 (d := d - 2) (h := h) (t := t) (F0 := F0) (G0 := G0) (td := td) (A := A) (ff := ff) (x := x) ht (by omega) hL hb T w e7 e13 hk D)
        refine ⟨hh, top hh ?_, q2⟩
        rw [st, if_pos y2, if_neg (show ¬ (1 : Int32) = 0 by decide), iX13_readFlood (d := d - 1) (by omega) zmS_o q1, Option.bind_some]
      · rw [if_neg y2, if_pos rfl] at st
        rw [kX13_isWord zstr_80 (by omega) (by decide) T w, Option.bind_some] at st
        by_cases y3 : zisw tp k.1 k.2.1 k.2.2.1 [100, 105, 115, 104] = true
        · have hk : zsol tp k = nI 1 := by simp only [zsol, if_neg y0, if_neg y1, if_neg y2, if_pos y3]; rfl
          obtain ⟨hh, q1, q2⟩ := zLR_of (zcl_named (by decide) hk (r6 1 (by decide)) (D.2.1.1 1 (by decide)).1 rfl) (zLk_1 (d := d - 2) (h := h) (t := t) (F0 := F0) (G0 := G0) (td := td) (A := A) (ff := ff) (x := x) ht (by omega) hL hb T w e7 e13 hk D)
          refine ⟨hh, top hh ?_, q2⟩
          rw [st, if_pos y3, if_neg (show ¬ (1 : Int32) = 0 by decide), iX13_readDish (d := d - 1) (by omega) zmS_o q1, Option.bind_some]
        · rw [if_neg y3, if_pos rfl] at st
          rw [kX13_isWord zstr_82 (by omega) (by decide) T w, Option.bind_some] at st
          by_cases y4 : zisw tp k.1 k.2.1 k.2.2.1 [100, 105, 101, 116] = true
          · have hk : zsol tp k = nI 2 := by simp only [zsol, if_neg y0, if_neg y1, if_neg y2, if_neg y3, if_pos y4]; rfl
            obtain ⟨hh, q1, q2⟩ := zLR_of (zcl_named (by decide) hk (r6 2 (by decide)) (D.2.1.1 2 (by decide)).1 rfl) (zLk_2 (d := d - 2) (h := h) (t := t) (F0 := F0) (G0 := G0) (td := td) (A := A) (ff := ff) (x := x) ht (by omega) hL hb T w e7 e13 hk D)
            refine ⟨hh, top hh ?_, q2⟩
            rw [st, if_pos y4, if_neg (show ¬ (1 : Int32) = 0 by decide), iX13_readDiet (d := d - 1) (by omega) zmS_o q1, Option.bind_some]
          · rw [if_neg y4, if_pos rfl] at st
            rw [kX13_isWord zstr_84 (by omega) (by decide) T w, Option.bind_some] at st
            by_cases y5 : zisw tp k.1 k.2.1 k.2.2.1 [104, 111, 117, 115, 101] = true
            · have hk : zsol tp k = nI 3 := by simp only [zsol, if_neg y0, if_neg y1, if_neg y2, if_neg y3, if_neg y4, if_pos y5]; rfl
              obtain ⟨hh, q1, q2⟩ := zLR_of (zcl_named (by decide) hk (r6 3 (by decide)) (D.2.1.1 3 (by decide)).1 rfl) (zLk_3 (d := d - 2) (h := h) (t := t) (F0 := F0) (G0 := G0) (td := td) (A := A) (ff := ff) (x := x) ht (by omega) hL hb T w e7 e13 hk D)
              refine ⟨hh, top hh ?_, q2⟩
              rw [st, if_pos y5, if_neg (show ¬ (1 : Int32) = 0 by decide), iX13_readHouse (d := d - 1) (by omega) zmS_o q1, Option.bind_some]
            · rw [if_neg y5, if_pos rfl] at st
              rw [kX13_isWord zstr_86 (by omega) (by decide) T w, Option.bind_some] at st
              by_cases y6 : zisw tp k.1 k.2.1 k.2.2.1 [99, 97, 114] = true
              · have hk : zsol tp k = nI 4 := by simp only [zsol, if_neg y0, if_neg y1, if_neg y2, if_neg y3, if_neg y4, if_neg y5, if_pos y6]; rfl
                obtain ⟨hh, q1, q2⟩ := zLR_of (zcl_named (by decide) hk (r6 4 (by decide)) (D.2.1.1 4 (by decide)).1 rfl) (zLk_4 (d := d - 2) (h := h) (t := t) (F0 := F0) (G0 := G0) (td := td) (A := A) (ff := ff) (x := x) ht (by omega) hL hb T w e7 e13 hk D)
                refine ⟨hh, top hh ?_, q2⟩
                rw [st, if_pos y6, if_neg (show ¬ (1 : Int32) = 0 by decide), iX13_readCar (d := d - 1) (by omega) zmS_o q1, Option.bind_some]
              · rw [if_neg y6, if_pos rfl] at st
                rw [kX13_isWord zstr_88 (by omega) (by decide) T w, Option.bind_some] at st
                by_cases y7 : zisw tp k.1 k.2.1 k.2.2.1 [99, 97, 108, 108] = true
                · have hk : zsol tp k = nI 6 := by simp only [zsol, if_neg y0, if_neg y1, if_neg y2, if_neg y3, if_neg y4, if_neg y5, if_neg y6, if_pos y7]; rfl
                  obtain ⟨hh, q1, q2⟩ := zLR_of (zcl_named (by decide) hk (r6 6 (by decide)) (D.2.1.1 6 (by decide)).1 rfl) (zLk_6 (d := d - 2) (h := h) (t := t) (F0 := F0) (G0 := G0) (td := td) (A := A) (ff := ff) (x := x) ht (by omega) hL hb T w e7 e13 hk D)
                  refine ⟨hh, top hh ?_, q2⟩
                  rw [st, if_pos y7, if_neg (show ¬ (1 : Int32) = 0 by decide), iX13_readCall (d := d - 1) (by omega) zmS_o q1, Option.bind_some]
                · rw [if_neg y7, if_pos rfl] at st
                  rw [kX13_isWord zstr_90 (by omega) (by decide) T w, Option.bind_some] at st
                  by_cases y8 : zisw tp k.1 k.2.1 k.2.2.1 [104, 101, 108, 112, 101, 114] = true
                  · have hk : zsol tp k = nI 7 := by simp only [zsol, if_neg y0, if_neg y1, if_neg y2, if_neg y3, if_neg y4, if_neg y5, if_neg y6, if_neg y7, if_pos y8]; rfl
                    obtain ⟨hh, q1, q2⟩ := zLR_of (zcl_named (by decide) hk (r6 7 (by decide)) (D.2.1.1 7 (by decide)).1 rfl) (zLk_7 (d := d - 2) (h := h) (t := t) (F0 := F0) (G0 := G0) (td := td) (A := A) (ff := ff) (x := x) ht (by omega) hL hb T w e7 e13 hk D)
                    refine ⟨hh, top hh ?_, q2⟩
                    rw [st, if_pos y8, if_neg (show ¬ (1 : Int32) = 0 by decide), iX13_readHelper (d := d - 1) (by omega) zmS_o q1, Option.bind_some]
                  · rw [if_neg y8, if_pos rfl] at st
                    have hk : zsol tp k = -1 := by simp only [zsol, if_neg y0, if_neg y1, if_neg y2, if_neg y3, if_neg y4, if_neg y5, if_neg y6, if_neg y7, if_neg y8]
                    have eb : zcl tp L (k, (x, ff), N, c, g) = (false, zsFl 1 (zsSo (-1) (k, (x, ff), N, c, g))) := by
                      have e1 : zpBl tp L (k, (x, ff), N, c, g) = (false, zsFl 1 (zsSo (zsol tp k) (k, (x, ff), N, c, g))) := if_pos hk
                      rw [zcl, e1, hk]
                      simp
                    refine ⟨zHH h t F0 G0 td tp A (zfI I 1) W J B Wd, top _ ?_, fun z => ?_, fun _ => ⟨zfI I 1, W, J, B, Wd, rfl, zfI_s _ _, zfI_9 _ _, ?_, ?_⟩⟩
                    · rw [st, kWr (by omega) (zTr_9 T).2.2.2.1, Option.bind_some]
                    · rw [eb] at z; cases z
                    · rw [eb, zfI_13]; rfl
                    · rw [eb, zfI_14]; exact T.1
end NZRL
