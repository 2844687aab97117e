/-! the lines with names, read by class and reference; written by wip/gen/gen_lines.py -/
theorem zBw (X : Nat → Nat → Int32) (f m : Nat) (v : Int32) (q r : Nat) : va_up X f (upd (X f) m v) q r = if q = f ∧ r = m then v else X q r := by
  by_cases y : q = f
  · subst y
    rw [va_up_self, upd_at]
    by_cases z : r = m
    · rw [if_pos z, if_pos ⟨rfl, z⟩]
    · rw [if_neg z, if_neg (fun q => z q.2)]
  · rw [va_up_ne _ _ y, if_neg (fun q => y q.1)]
theorem zcf_lt : ∀ s, s < 8 → 2 ≤ zcf s ∧ zcf s < 10 := by decide +kernel
theorem zbN01 : vp_nar .boolean 1 = 1 ∧ vp_nar .boolean 0 = 0 := by decide +kernel
theorem zSm_lt {c g J : Nat → Int32} {B : Nat → Nat → Int32} (R : zDR c g J B) {s : Nat} (hs : s < 8) (h5 : s ≠ 5) (hm : zcn c s < zroom s) : zSm c < 32 := by
  have h0 : zcn c 0 ≤ 3 := (R.1 0 (by decide)).2
  have h1 : zcn c 1 ≤ 6 := (R.1 1 (by decide)).2
  have h2 : zcn c 2 ≤ 4 := (R.1 2 (by decide)).2
  have h3 : zcn c 3 ≤ 6 := (R.1 3 (by decide)).2
  have h4 : zcn c 4 ≤ 3 := (R.1 4 (by decide)).2
  have h6 : zcn c 6 ≤ 5 := (R.1 6 (by decide)).2
  have h7 : zcn c 7 ≤ 5 := (R.1 7 (by decide)).2
  unfold zSm
  rcases (show s = 0 ∨ s = 1 ∨ s = 2 ∨ s = 3 ∨ s = 4 ∨ s = 6 ∨ s = 7 by omega) with rfl | rfl | rfl | rfl | rfl | rfl | rfl
  · have : zcn c 0 < 3 := hm; omega
  · have : zcn c 1 < 6 := hm; omega
  · have : zcn c 2 < 4 := hm; omega
  · have : zcn c 3 < 6 := hm; omega
  · have : zcn c 4 < 3 := hm; omega
  · have : zcn c 6 < 5 := hm; omega
  · have : zcn c 7 < 5 := hm; omega
theorem zSm_up {c : Nat → Int32} {s : Nat} (hs : s < 8) (h5 : s ≠ 5) (hm : zcn c s < 6) : zSm (upd c s (nI (zcn c s + 1))) = zSm c + 1 := by
  unfold zSm
  simp only [zcn_up c s (zcn c s) _ hm]
  rcases (show s = 0 ∨ s = 1 ∨ s = 2 ∨ s = 3 ∨ s = 4 ∨ s = 6 ∨ s = 7 by omega) with rfl | rfl | rfl | rfl | rfl | rfl | rfl <;> simp <;> omega
def zKf_Kitchen (a0 a1 : Int32) (h : nzH) : nzO := (nzgI h 73 13 9).bind fun v6 => if v6 = 5 then (some (none, h)) else ((nzgR h 73 13 4).bind fun v7 => (nzgR h v7 12 11).bind fun v8 => (nzgR h 73 13 4).bind fun v9 => (nzgI h v9 12 2).bind fun v10 => (nzsI h v8 v10 a0).bind fun h11 => (nzgR h11 73 13 4).bind fun v12 => (nzgR h11 v12 12 12).bind fun v13 => (nzgR h11 73 13 4).bind fun v14 => (nzgI h11 v14 12 2).bind fun v15 => (nzsI h11 v13 v15 a1).bind fun h16 => (nzgR h16 73 13 4).bind fun v17 => (nzgI h16 v17 12 2).bind fun v18 => (nzput h16 v17 12 2 (.int (v18 + 1))).bind fun h19 => some (none, h19))
theorem zKw_Kitchen {t : Nat} {h : nzH} {F0 G0 : Nat → Value} {td : Option Nat} {tp : Nat → Int32} {A : Nat → Nat → Int32} {J : Nat → Int32} {B : Nat → Nat → Int32} {Wd : Nat → Int64} (ht : 94 ≤ t) {I : Nat → Int32} {W : Int64} (e9 : ¬ I 9 = 5) {m : Nat} (hm : m < 3) (eJ : J 2 = nI m) (a0 a1 : Int32) : zKf_Kitchen a0 a1 (zHH h t F0 G0 td tp A I W J B Wd) = some (none, zHH h t F0 G0 td tp A I W (upd J 2 (nI (m + 1))) (va_up (va_up B 11 (upd (B 11) m a0)) 12 (upd ((va_up B 11 (upd (B 11) m a0)) 12) m a1)) Wd) := by
  simp only [zKf_Kitchen, zI_9, Option.bind_some, if_neg e9, zIR, zj zmd_dS ht (k := 2) (by decide), eJ, nI_1, zDP ht (k := 2) (by decide), zdr zmd_dS ht (k := 11) (by decide) (by decide), zdr zmd_dS ht (k := 12) (by decide) (by decide), zDW ht (k := 11) (by decide) (by decide) (by decide) (by decide) (by decide) (show m < zml 11 from hm), zDW ht (k := 12) (by decide) (by decide) (by decide) (by decide) (by decide) (show m < zml 12 from hm)]
theorem zKo_Kitchen {t : Nat} {h : nzH} {F0 G0 : Nat → Value} {td : Option Nat} {tp : Nat → Int32} {A : Nat → Nat → Int32} (a0 a1 : Int32) : zOv h t F0 G0 td tp A (zKf_Kitchen a0 a1) := fun I W J B Wd n e => by
  rw [zKf_Kitchen, zI_9, Option.bind_some, if_pos e]
theorem zLk_0 {d t : Nat} {h : nzH} {F0 G0 : Nat → Value} {td : Option Nat} {tp : Nat → Int32} {A : Nat → Nat → Int32} {L : Nat} {J : Nat → Int32} {B : Nat → Nat → Int32} {Wd : Nat → Int64} {ff : Int32 × Int32} {c g : Nat → Int32} {N : zNT} (ht : 94 ≤ t) (hd : 8 < d) (hL : L ≤ 900) (hb : ∀ i, zby (tp i)) {k : ztkn} {I : Nat → Int32} {W : Int64} (T : zTr k I W) (w : zTw tp L k) (e7 : I 7 = nI L) (e13 : I 13 = 0) {x : Int32} (hk : zsol tp k = nI 0) (D : zDD N c g J B Wd) : zCk0 h t F0 G0 td tp A L (zf0 tp L :: [zpWd tp L [97, 116], zpWh tp L 0 (nI 0) (nI 99), zpWd tp L [104, 111, 116], zpWh tp L 1 (nI 60) (nI 99)]) (fun h => nzr d nX13_readKitchen 0 [some (.ref 73), none, none] [] h) ((x, ff), N, c, g) 0 ff (upd c 0 (nI (zcn c 0 + 1))) J B Wd (fun N' g' J' B' Wd' => zDD N' (upd c 0 (nI (zcn c 0 + 1))) g' J' B' Wd') k I W := by
  obtain ⟨M, R, Sm⟩ := D
  have hc := R.1 0 (by decide)
  have eJ : J 2 = nI (zcn c 0) := (R.2.1 0 (by decide)).trans hc.1
  have h6 : zcn c 0 ≤ 3 := hc.2
  refine zCk0_cg (kont' := fun h => (nzxV d nX13_readNamed [.ref 73, .int (nI (zcn c 0)), .int (nI (zroom 0)), .int (nI (zs3 0))] h).bind (fun h => (nzxI d nX13_readPart [.ref 73, .float 96, .int (nI 0), .int (nI 99)] h).bind fun q => (fun (a0 : Int32) => fun h => (nzxI d nX13_readPart [.ref 73, .float 72, .int (nI 60), .int (nI 99)] h).bind fun q => (fun (a1 : Int32) => zKf_Kitchen a0 a1) q.1 q.2) q.1 q.2)) ?_ (zCk0_named ht hd hL hb T w e7 e13 (by decide) hk M (fun hm => by have := zSm_lt R (by decide) (by decide) hm; omega) hc.2 hc.1 ?_ (fun hm pk => ?_))
  · show nzr d nX13_readKitchen 0 [some (.ref 73), none, none] [] (zHH h t F0 G0 td tp A I W J B Wd) = _
    rw [eX13_readKitchen_0, zIR, Option.bind_some, zj zmd_dS ht (by decide), Option.bind_some, eJ]
    rfl
  · exact zOv_part (K := fun (a0 : Int32) => fun h => (nzxI d nX13_readPart [.ref 73, .float 72, .int (nI 60), .int (nI 99)] h).bind fun q => (fun (a1 : Int32) => zKf_Kitchen a0 a1) q.1 q.2) (by omega) _ _ (fun a0 => zOv_part (K := fun (a1 : Int32) => zKf_Kitchen a0 a1) (by omega) _ _ (fun a1 => zKo_Kitchen a0 a1))
  · have hm : zcn c 0 < 3 := hm
    have M1 := zNm_add M (s := 0) (by decide) (by omega) hc.1 (by have := zSm_lt R (s := 0) (by decide) (by decide) hm; omega) pk
    have eJ1 : upd J 10 (nI (N.1 + 1)) 2 = nI (zcn c 0) := by rw [upd_ne (by decide)]; exact eJ
    have hJ1 : zN32 (upd J 10 (nI (N.1 + 1))) := ⟨_, M1.1, M1.2.1⟩
    have hcc : upd c 0 (nI (zcn c 0 + 1)) 0 = nI (zcn c 0 + 1) := upd_eq _ _ _
    refine zCt_part (K := fun (a0 : Int32) => fun h => (nzxI d nX13_readPart [.ref 73, .float 72, .int (nI 60), .int (nI 99)] h).bind fun q => (fun (a1 : Int32) => zKf_Kitchen a0 a1) q.1 q.2) zstr_96 (by decide) (by decide) (by decide) (by omega) hL hb (by decide) (by omega) hcc (fun a0 => zOv_part (K := fun (a1 : Int32) => zKf_Kitchen a0 a1) (by omega) _ _ (fun a1 => zKo_Kitchen a0 a1)) hJ1 (fun v0 l0 u0 => ?_)
    refine zCt_part (K := fun (a1 : Int32) => zKf_Kitchen (nI v0) a1) zstr_72 (by decide) (by decide) (by decide) (by omega) hL hb (by decide) (by omega) hcc (fun a1 => zKo_Kitchen (nI v0) a1) hJ1 (fun v1 l1 u1 => ?_)
    refine zCt_nil (fun I W e9 => ⟨_, _, _, zKw_Kitchen ht e9 (show zcn c 0 < 3 from hm) eJ1 (nI v0) (nI v1), ?_, ?_, ?_⟩)
    · exact zNm_cg M1 (fun s n _ e h6 => ⟨n, Nat.le_refl _, h6, e⟩) (upd_ne (by decide)) ⟨by rw [va_up_ne _ _ (by decide), va_up_ne _ _ (by decide)], by rw [va_up_ne _ _ (by decide), va_up_ne _ _ (by decide)]⟩
    · refine zDR_add R (by decide) rfl hm (fun i hi => ?_) (upd_eq _ _ _) (fun q hq ne => ?_) ⟨?_, ?_⟩ (fun k hk => ?_) (fun f r hf hr => ?_) (fun k x y hk hb => ?_) ?_ ?_
      · rw [upd_ne (by omega), upd_ne (by omega)]
      · have := zcf_lt q hq
        rw [upd_ne (show zcf q ≠ 2 from zcf_ok 0 (by decide) q hq ne), upd_ne (by omega)]
      · rw [upd_ne (by decide), upd_ne (by decide)]
      · rw [upd_ne (by decide), upd_ne (by decide)]
      · have hk : k < 2 := hk
        rcases (show k = 0 ∨ k = 1 by omega) with rfl | rfl
        · rw [show zfl 0 0 = 11 from rfl, zBw, if_neg (fun z => absurd z.1 (by decide)), zBw, if_pos ⟨rfl, rfl⟩, upd_ne (by omega), upd_eq]
        · rw [show zfl 0 1 = 12 from rfl, zBw, if_pos ⟨rfl, rfl⟩, upd_eq]
      · have n0 : ¬ (f = 11 ∧ r = zcn c 0) := fun z => hr.elim (fun y => by omega) (fun y => y 0 (by decide) z.1)
        have n1 : ¬ (f = 12 ∧ r = zcn c 0) := fun z => hr.elim (fun y => by omega) (fun y => y 1 (by decide) z.1)
        rw [zBw, if_neg n1, zBw, if_neg n0, va_up_ne _ _ (show f ≠ 36 by omega), va_up_ne _ _ (show f ≠ 35 by omega)]
      · have hk : k < 2 := hk
        rcases (show k = 0 ∨ k = 1 by omega) with rfl | rfl
        · cases (show (some (0, 99) : Option (Nat × Nat)) = some (x, y) from hb)
          exact ⟨v0, l0, u0, by rw [upd_ne (by omega), upd_eq]⟩
        · cases (show (some (60, 99) : Option (Nat × Nat)) = some (x, y) from hb)
          exact ⟨v1, l1, u1, by rw [upd_eq]⟩
      · exact fun z => absurd z (by decide)
      · exact fun z => absurd z (by decide)
    · exact (congrArg (· + 1) Sm).trans (zSm_up (by decide) (by decide) (by omega)).symm
def zKf_Dish (a0 a1 : Int32) (h : nzH) : nzO := (nzgI h 73 13 9).bind fun v7 => if v7 = 5 then (some (none, h)) else ((nzgR h 73 13 4).bind fun v8 => (nzgR h v8 12 13).bind fun v9 => (nzgR h 73 13 4).bind fun v10 => (nzgI h v10 12 3).bind fun v11 => (nzsI h v9 v11 a0).bind fun h12 => (nzgR h12 73 13 4).bind fun v13 => (nzgR h12 v13 12 14).bind fun v14 => (nzgR h12 73 13 4).bind fun v15 => (nzgI h12 v15 12 3).bind fun v16 => (nzsI h12 v14 v16 a1).bind fun h17 => (nzgR h17 73 13 4).bind fun v18 => (nzgI h17 v18 12 3).bind fun v19 => (nzput h17 v18 12 3 (.int (v19 + 1))).bind fun h20 => some (none, h20))
theorem zKw_Dish {t : Nat} {h : nzH} {F0 G0 : Nat → Value} {td : Option Nat} {tp : Nat → Int32} {A : Nat → Nat → Int32} {J : Nat → Int32} {B : Nat → Nat → Int32} {Wd : Nat → Int64} (ht : 94 ≤ t) {I : Nat → Int32} {W : Int64} (e9 : ¬ I 9 = 5) {m : Nat} (hm : m < 6) (eJ : J 3 = nI m) (a0 a1 : Int32) : zKf_Dish a0 a1 (zHH h t F0 G0 td tp A I W J B Wd) = some (none, zHH h t F0 G0 td tp A I W (upd J 3 (nI (m + 1))) (va_up (va_up B 13 (upd (B 13) m a0)) 14 (upd ((va_up B 13 (upd (B 13) m a0)) 14) m a1)) Wd) := by
  simp only [zKf_Dish, zI_9, Option.bind_some, if_neg e9, zIR, zj zmd_dS ht (k := 3) (by decide), eJ, nI_1, zDP ht (k := 3) (by decide), zdr zmd_dS ht (k := 13) (by decide) (by decide), zdr zmd_dS ht (k := 14) (by decide) (by decide), zDW ht (k := 13) (by decide) (by decide) (by decide) (by decide) (by decide) (show m < zml 13 from hm), zDW ht (k := 14) (by decide) (by decide) (by decide) (by decide) (by decide) (show m < zml 14 from hm)]
theorem zKo_Dish {t : Nat} {h : nzH} {F0 G0 : Nat → Value} {td : Option Nat} {tp : Nat → Int32} {A : Nat → Nat → Int32} (a0 a1 : Int32) : zOv h t F0 G0 td tp A (zKf_Dish a0 a1) := fun I W J B Wd n e => by
  rw [zKf_Dish, zI_9, Option.bind_some, if_pos e]
theorem zLk_1 {d t : Nat} {h : nzH} {F0 G0 : Nat → Value} {td : Option Nat} {tp : Nat → Int32} {A : Nat → Nat → Int32} {L : Nat} {J : Nat → Int32} {B : Nat → Nat → Int32} {Wd : Nat → Int64} {ff : Int32 × Int32} {c g : Nat → Int32} {N : zNT} (ht : 94 ≤ t) (hd : 8 < d) (hL : L ≤ 900) (hb : ∀ i, zby (tp i)) {k : ztkn} {I : Nat → Int32} {W : Int64} (T : zTr k I W) (w : zTw tp L k) (e7 : I 7 = nI L) (e13 : I 13 = 0) {x : Int32} (hk : zsol tp k = nI 1) (D : zDD N c g J B Wd) : zCk0 h t F0 G0 td tp A L (zf0 tp L :: [zpWd tp L [111, 102], zpLt tp L 0, zpWd tp L [99, 111, 115, 116, 115], zpWh tp L 1 (nI 1) (nI 99)]) (fun h => nzr d nX13_readDish 0 [some (.ref 73), none, none] [] h) ((x, ff), N, c, g) 1 ff (upd c 1 (nI (zcn c 1 + 1))) J B Wd (fun N' g' J' B' Wd' => zDD N' (upd c 1 (nI (zcn c 1 + 1))) g' J' B' Wd') k I W := by
  obtain ⟨M, R, Sm⟩ := D
  have hc := R.1 1 (by decide)
  have eJ : J 3 = nI (zcn c 1) := (R.2.1 1 (by decide)).trans hc.1
  have h6 : zcn c 1 ≤ 6 := hc.2
  refine zCk0_cg (kont' := fun h => (nzxV d nX13_readNamed [.ref 73, .int (nI (zcn c 1)), .int (nI (zroom 1)), .int (nI (zs3 1))] h).bind (fun h => (nzxV d nX13_needs [.ref 73, .float 100] h).bind (fun h => (nzxI d nX13_readLetters [.ref 73] h).bind fun q => (fun (a0 : Int32) => fun h => (nzxI d nX13_readPart [.ref 73, .float 102, .int (nI 1), .int (nI 99)] h).bind fun q => (fun (a1 : Int32) => zKf_Dish a0 a1) q.1 q.2) q.1 q.2))) ?_ (zCk0_named ht hd hL hb T w e7 e13 (by decide) hk M (fun hm => by have := zSm_lt R (by decide) (by decide) hm; omega) hc.2 hc.1 ?_ (fun hm pk => ?_))
  · show nzr d nX13_readDish 0 [some (.ref 73), none, none] [] (zHH h t F0 G0 td tp A I W J B Wd) = _
    rw [eX13_readDish_0, zIR, Option.bind_some, zj zmd_dS ht (by decide), Option.bind_some, eJ]
    rfl
  · exact zOv_needs (by omega) (zOv_letters (K := fun (a0 : Int32) => fun h => (nzxI d nX13_readPart [.ref 73, .float 102, .int (nI 1), .int (nI 99)] h).bind fun q => (fun (a1 : Int32) => zKf_Dish a0 a1) q.1 q.2) (by omega) (fun a0 => zOv_part (K := fun (a1 : Int32) => zKf_Dish a0 a1) (by omega) _ _ (fun a1 => zKo_Dish a0 a1)))
  · have hm : zcn c 1 < 6 := hm
    have M1 := zNm_add M (s := 1) (by decide) (by omega) hc.1 (by have := zSm_lt R (s := 1) (by decide) (by decide) hm; omega) pk
    have eJ1 : upd J 10 (nI (N.1 + 1)) 3 = nI (zcn c 1) := by rw [upd_ne (by decide)]; exact eJ
    have hJ1 : zN32 (upd J 10 (nI (N.1 + 1))) := ⟨_, M1.1, M1.2.1⟩
    have hcc : upd c 1 (nI (zcn c 1 + 1)) 1 = nI (zcn c 1 + 1) := upd_eq _ _ _
    refine zCt_needs zstr_100 (by decide) (by omega) hL hb (zOv_letters (K := fun (a0 : Int32) => fun h => (nzxI d nX13_readPart [.ref 73, .float 102, .int (nI 1), .int (nI 99)] h).bind fun q => (fun (a1 : Int32) => zKf_Dish a0 a1) q.1 q.2) (by omega) (fun a0 => zOv_part (K := fun (a1 : Int32) => zKf_Dish a0 a1) (by omega) _ _ (fun a1 => zKo_Dish a0 a1))) hJ1 ?_
    refine zCt_letters (K := fun (a0 : Int32) => fun h => (nzxI d nX13_readPart [.ref 73, .float 102, .int (nI 1), .int (nI 99)] h).bind fun q => (fun (a1 : Int32) => zKf_Dish a0 a1) q.1 q.2) (by omega) hL hb (by decide) (by omega) hcc (fun a0 => zOv_part (K := fun (a1 : Int32) => zKf_Dish a0 a1) (by omega) _ _ (fun a1 => zKo_Dish a0 a1)) hJ1 (fun v0 => ?_)
    refine zCt_part (K := fun (a1 : Int32) => zKf_Dish v0 a1) zstr_102 (by decide) (by decide) (by decide) (by omega) hL hb (by decide) (by omega) hcc (fun a1 => zKo_Dish v0 a1) hJ1 (fun v1 l1 u1 => ?_)
    refine zCt_nil (fun I W e9 => ⟨_, _, _, zKw_Dish ht e9 (show zcn c 1 < 6 from hm) eJ1 v0 (nI v1), ?_, ?_, ?_⟩)
    · exact zNm_cg M1 (fun s n _ e h6 => ⟨n, Nat.le_refl _, h6, e⟩) (upd_ne (by decide)) ⟨by rw [va_up_ne _ _ (by decide), va_up_ne _ _ (by decide)], by rw [va_up_ne _ _ (by decide), va_up_ne _ _ (by decide)]⟩
    · refine zDR_add R (by decide) rfl hm (fun i hi => ?_) (upd_eq _ _ _) (fun q hq ne => ?_) ⟨?_, ?_⟩ (fun k hk => ?_) (fun f r hf hr => ?_) (fun k x y hk hb => ?_) ?_ ?_
      · rw [upd_ne (by omega), upd_ne (by omega)]
      · have := zcf_lt q hq
        rw [upd_ne (show zcf q ≠ 3 from zcf_ok 1 (by decide) q hq ne), upd_ne (by omega)]
      · rw [upd_ne (by decide), upd_ne (by decide)]
      · rw [upd_ne (by decide), upd_ne (by decide)]
      · have hk : k < 2 := hk
        rcases (show k = 0 ∨ k = 1 by omega) with rfl | rfl
        · rw [show zfl 1 0 = 13 from rfl, zBw, if_neg (fun z => absurd z.1 (by decide)), zBw, if_pos ⟨rfl, rfl⟩, upd_ne (by omega), upd_eq]
        · rw [show zfl 1 1 = 14 from rfl, zBw, if_pos ⟨rfl, rfl⟩, upd_eq]
      · have n0 : ¬ (f = 13 ∧ r = zcn c 1) := fun z => hr.elim (fun y => by omega) (fun y => y 0 (by decide) z.1)
        have n1 : ¬ (f = 14 ∧ r = zcn c 1) := fun z => hr.elim (fun y => by omega) (fun y => y 1 (by decide) z.1)
        rw [zBw, if_neg n1, zBw, if_neg n0, va_up_ne _ _ (show f ≠ 36 by omega), va_up_ne _ _ (show f ≠ 35 by omega)]
      · have hk : k < 2 := hk
        rcases (show k = 0 ∨ k = 1 by omega) with rfl | rfl
        · cases (show (none : Option (Nat × Nat)) = some (x, y) from hb)
        · cases (show (some (1, 99) : Option (Nat × Nat)) = some (x, y) from hb)
          exact ⟨v1, l1, u1, by rw [upd_eq]⟩
      · exact fun z => absurd z (by decide)
      · exact fun z => absurd z (by decide)
    · exact (congrArg (· + 1) Sm).trans (zSm_up (by decide) (by decide) (by omega)).symm
def zKf_Diet (a0 : Int32) (h : nzH) : nzO := (nzgI h 73 13 9).bind fun v6 => if v6 = 5 then (some (none, h)) else ((nzgR h 73 13 4).bind fun v7 => (nzgR h v7 12 15).bind fun v8 => (nzgR h 73 13 4).bind fun v9 => (nzgI h v9 12 4).bind fun v10 => (nzsI h v8 v10 a0).bind fun h11 => (nzgR h11 73 13 4).bind fun v12 => (nzgI h11 v12 12 4).bind fun v13 => (nzput h11 v12 12 4 (.int (v13 + 1))).bind fun h14 => some (none, h14))
theorem zKw_Diet {t : Nat} {h : nzH} {F0 G0 : Nat → Value} {td : Option Nat} {tp : Nat → Int32} {A : Nat → Nat → Int32} {J : Nat → Int32} {B : Nat → Nat → Int32} {Wd : Nat → Int64} (ht : 94 ≤ t) {I : Nat → Int32} {W : Int64} (e9 : ¬ I 9 = 5) {m : Nat} (hm : m < 4) (eJ : J 4 = nI m) (a0 : Int32) : zKf_Diet a0 (zHH h t F0 G0 td tp A I W J B Wd) = some (none, zHH h t F0 G0 td tp A I W (upd J 4 (nI (m + 1))) (va_up B 15 (upd (B 15) m a0)) Wd) := by
  simp only [zKf_Diet, zI_9, Option.bind_some, if_neg e9, zIR, zj zmd_dS ht (k := 4) (by decide), eJ, nI_1, zDP ht (k := 4) (by decide), zdr zmd_dS ht (k := 15) (by decide) (by decide), zDW ht (k := 15) (by decide) (by decide) (by decide) (by decide) (by decide) (show m < zml 15 from hm)]
theorem zKo_Diet {t : Nat} {h : nzH} {F0 G0 : Nat → Value} {td : Option Nat} {tp : Nat → Int32} {A : Nat → Nat → Int32} (a0 : Int32) : zOv h t F0 G0 td tp A (zKf_Diet a0) := fun I W J B Wd n e => by
  rw [zKf_Diet, zI_9, Option.bind_some, if_pos e]
theorem zLk_2 {d t : Nat} {h : nzH} {F0 G0 : Nat → Value} {td : Option Nat} {tp : Nat → Int32} {A : Nat → Nat → Int32} {L : Nat} {J : Nat → Int32} {B : Nat → Nat → Int32} {Wd : Nat → Int64} {ff : Int32 × Int32} {c g : Nat → Int32} {N : zNT} (ht : 94 ≤ t) (hd : 8 < d) (hL : L ≤ 900) (hb : ∀ i, zby (tp i)) {k : ztkn} {I : Nat → Int32} {W : Int64} (T : zTr k I W) (w : zTw tp L k) (e7 : I 7 = nI L) (e13 : I 13 = 0) {x : Int32} (hk : zsol tp k = nI 2) (D : zDD N c g J B Wd) : zCk0 h t F0 G0 td tp A L (zf0 tp L :: [zpWd tp L [98, 97, 114, 115], zpLt tp L 0]) (fun h => nzr d nX13_readDiet 0 [some (.ref 73), none] [] h) ((x, ff), N, c, g) 2 ff (upd c 2 (nI (zcn c 2 + 1))) J B Wd (fun N' g' J' B' Wd' => zDD N' (upd c 2 (nI (zcn c 2 + 1))) g' J' B' Wd') k I W := by
  obtain ⟨M, R, Sm⟩ := D
  have hc := R.1 2 (by decide)
  have eJ : J 4 = nI (zcn c 2) := (R.2.1 2 (by decide)).trans hc.1
  have h6 : zcn c 2 ≤ 4 := hc.2
  refine zCk0_cg (kont' := fun h => (nzxV d nX13_readNamed [.ref 73, .int (nI (zcn c 2)), .int (nI (zroom 2)), .int (nI (zs3 2))] h).bind (fun h => (nzxV d nX13_needs [.ref 73, .float 104] h).bind (fun h => (nzxI d nX13_readLetters [.ref 73] h).bind fun q => (fun (a0 : Int32) => zKf_Diet a0) q.1 q.2))) ?_ (zCk0_named ht hd hL hb T w e7 e13 (by decide) hk M (fun hm => by have := zSm_lt R (by decide) (by decide) hm; omega) hc.2 hc.1 ?_ (fun hm pk => ?_))
  · show nzr d nX13_readDiet 0 [some (.ref 73), none] [] (zHH h t F0 G0 td tp A I W J B Wd) = _
    rw [eX13_readDiet_0, zIR, Option.bind_some, zj zmd_dS ht (by decide), Option.bind_some, eJ]
    rfl
  · exact zOv_needs (by omega) (zOv_letters (K := fun (a0 : Int32) => zKf_Diet a0) (by omega) (fun a0 => zKo_Diet a0))
  · have hm : zcn c 2 < 4 := hm
    have M1 := zNm_add M (s := 2) (by decide) (by omega) hc.1 (by have := zSm_lt R (s := 2) (by decide) (by decide) hm; omega) pk
    have eJ1 : upd J 10 (nI (N.1 + 1)) 4 = nI (zcn c 2) := by rw [upd_ne (by decide)]; exact eJ
    have hJ1 : zN32 (upd J 10 (nI (N.1 + 1))) := ⟨_, M1.1, M1.2.1⟩
    have hcc : upd c 2 (nI (zcn c 2 + 1)) 2 = nI (zcn c 2 + 1) := upd_eq _ _ _
    refine zCt_needs zstr_104 (by decide) (by omega) hL hb (zOv_letters (K := fun (a0 : Int32) => zKf_Diet a0) (by omega) (fun a0 => zKo_Diet a0)) hJ1 ?_
    refine zCt_letters (K := fun (a0 : Int32) => zKf_Diet a0) (by omega) hL hb (by decide) (by omega) hcc (fun a0 => zKo_Diet a0) hJ1 (fun v0 => ?_)
    refine zCt_nil (fun I W e9 => ⟨_, _, _, zKw_Diet ht e9 (show zcn c 2 < 4 from hm) eJ1 v0, ?_, ?_, ?_⟩)
    · exact zNm_cg M1 (fun s n _ e h6 => ⟨n, Nat.le_refl _, h6, e⟩) (upd_ne (by decide)) ⟨by rw [va_up_ne _ _ (by decide)], by rw [va_up_ne _ _ (by decide)]⟩
    · refine zDR_add R (by decide) rfl hm (fun i hi => ?_) (upd_eq _ _ _) (fun q hq ne => ?_) ⟨?_, ?_⟩ (fun k hk => ?_) (fun f r hf hr => ?_) (fun k x y hk hb => ?_) ?_ ?_
      · rw [upd_ne (by omega)]
      · have := zcf_lt q hq
        rw [upd_ne (show zcf q ≠ 4 from zcf_ok 2 (by decide) q hq ne), upd_ne (by omega)]
      · rw [upd_ne (by decide), upd_ne (by decide)]
      · rw [upd_ne (by decide), upd_ne (by decide)]
      · have hk : k < 1 := hk
        obtain rfl : k = 0 := by omega
        rw [show zfl 2 0 = 15 from rfl, zBw, if_pos ⟨rfl, rfl⟩, upd_eq]
      · have n0 : ¬ (f = 15 ∧ r = zcn c 2) := fun z => hr.elim (fun y => by omega) (fun y => y 0 (by decide) z.1)
        rw [zBw, if_neg n0, va_up_ne _ _ (show f ≠ 36 by omega), va_up_ne _ _ (show f ≠ 35 by omega)]
      · have hk : k < 1 := hk
        obtain rfl : k = 0 := by omega
        cases (show (none : Option (Nat × Nat)) = some (x, y) from hb)
      · exact fun z => absurd z (by decide)
      · exact fun z => absurd z (by decide)
    · exact (congrArg (· + 1) Sm).trans (zSm_up (by decide) (by decide) (by omega)).symm
def zKf_Call (a0 a1 : Int32) (h : nzH) : nzO := (nzgI h 73 13 9).bind fun v6 => if v6 = 5 then (some (none, h)) else ((nzgR h 73 13 4).bind fun v7 => (nzgR h v7 12 30).bind fun v8 => (nzgR h 73 13 4).bind fun v9 => (nzgI h v9 12 8).bind fun v10 => (nzsI h v8 v10 a0).bind fun h11 => (nzgR h11 73 13 4).bind fun v12 => (nzgR h11 v12 12 31).bind fun v13 => (nzgR h11 73 13 4).bind fun v14 => (nzgI h11 v14 12 8).bind fun v15 => (nzsI h11 v13 v15 a1).bind fun h16 => (nzgR h16 73 13 4).bind fun v17 => (nzgI h16 v17 12 8).bind fun v18 => (nzput h16 v17 12 8 (.int (v18 + 1))).bind fun h19 => some (none, h19))
theorem zKw_Call {t : Nat} {h : nzH} {F0 G0 : Nat → Value} {td : Option Nat} {tp : Nat → Int32} {A : Nat → Nat → Int32} {J : Nat → Int32} {B : Nat → Nat → Int32} {Wd : Nat → Int64} (ht : 94 ≤ t) {I : Nat → Int32} {W : Int64} (e9 : ¬ I 9 = 5) {m : Nat} (hm : m < 5) (eJ : J 8 = nI m) (a0 a1 : Int32) : zKf_Call a0 a1 (zHH h t F0 G0 td tp A I W J B Wd) = some (none, zHH h t F0 G0 td tp A I W (upd J 8 (nI (m + 1))) (va_up (va_up B 30 (upd (B 30) m a0)) 31 (upd ((va_up B 30 (upd (B 30) m a0)) 31) m a1)) Wd) := by
  simp only [zKf_Call, zI_9, Option.bind_some, if_neg e9, zIR, zj zmd_dS ht (k := 8) (by decide), eJ, nI_1, zDP ht (k := 8) (by decide), zdr zmd_dS ht (k := 30) (by decide) (by decide), zdr zmd_dS ht (k := 31) (by decide) (by decide), zDW ht (k := 30) (by decide) (by decide) (by decide) (by decide) (by decide) (show m < zml 30 from hm), zDW ht (k := 31) (by decide) (by decide) (by decide) (by decide) (by decide) (show m < zml 31 from hm)]
theorem zKo_Call {t : Nat} {h : nzH} {F0 G0 : Nat → Value} {td : Option Nat} {tp : Nat → Int32} {A : Nat → Nat → Int32} (a0 a1 : Int32) : zOv h t F0 G0 td tp A (zKf_Call a0 a1) := fun I W J B Wd n e => by
  rw [zKf_Call, zI_9, Option.bind_some, if_pos e]
theorem zLk_6 {d t : Nat} {h : nzH} {F0 G0 : Nat → Value} {td : Option Nat} {tp : Nat → Int32} {A : Nat → Nat → Int32} {L : Nat} {J : Nat → Int32} {B : Nat → Nat → Int32} {Wd : Nat → Int64} {ff : Int32 × Int32} {c g : Nat → Int32} {N : zNT} (ht : 94 ≤ t) (hd : 8 < d) (hL : L ≤ 900) (hb : ∀ i, zby (tp i)) {k : ztkn} {I : Nat → Int32} {W : Int64} (T : zTr k I W) (w : zTw tp L k) (e7 : I 7 = nI L) (e13 : I 13 = 0) {x : Int32} (hk : zsol tp k = nI 6) (D : zDD N c g J B Wd) : zCk0 h t F0 G0 td tp A L (zf0 tp L :: [zpWd tp L [116, 97, 107, 101, 115], zpWh tp L 0 (nI 1) (nI 60), zpWd tp L [99, 104, 97, 110, 99, 101], zpWh tp L 1 (nI 0) (nI 100)]) (fun h => nzr d nX13_readCall 0 [some (.ref 73), none, none] [] h) ((x, ff), N, c, g) 6 ff (upd c 6 (nI (zcn c 6 + 1))) J B Wd (fun N' g' J' B' Wd' => zDD N' (upd c 6 (nI (zcn c 6 + 1))) g' J' B' Wd') k I W := by
  obtain ⟨M, R, Sm⟩ := D
  have hc := R.1 6 (by decide)
  have eJ : J 8 = nI (zcn c 6) := (R.2.1 6 (by decide)).trans hc.1
  have h6 : zcn c 6 ≤ 5 := hc.2
  refine zCk0_cg (kont' := fun h => (nzxV d nX13_readNamed [.ref 73, .int (nI (zcn c 6)), .int (nI (zroom 6)), .int (nI (zs3 6))] h).bind (fun h => (nzxI d nX13_readPart [.ref 73, .float 124, .int (nI 1), .int (nI 60)] h).bind fun q => (fun (a0 : Int32) => fun h => (nzxI d nX13_readPart [.ref 73, .float 112, .int (nI 0), .int (nI 100)] h).bind fun q => (fun (a1 : Int32) => zKf_Call a0 a1) q.1 q.2) q.1 q.2)) ?_ (zCk0_named ht hd hL hb T w e7 e13 (by decide) hk M (fun hm => by have := zSm_lt R (by decide) (by decide) hm; omega) hc.2 hc.1 ?_ (fun hm pk => ?_))
  · show nzr d nX13_readCall 0 [some (.ref 73), none, none] [] (zHH h t F0 G0 td tp A I W J B Wd) = _
    rw [eX13_readCall_0, zIR, Option.bind_some, zj zmd_dS ht (by decide), Option.bind_some, eJ]
    rfl
  · exact zOv_part (K := fun (a0 : Int32) => fun h => (nzxI d nX13_readPart [.ref 73, .float 112, .int (nI 0), .int (nI 100)] h).bind fun q => (fun (a1 : Int32) => zKf_Call a0 a1) q.1 q.2) (by omega) _ _ (fun a0 => zOv_part (K := fun (a1 : Int32) => zKf_Call a0 a1) (by omega) _ _ (fun a1 => zKo_Call a0 a1))
  · have hm : zcn c 6 < 5 := hm
    have M1 := zNm_add M (s := 6) (by decide) (by omega) hc.1 (by have := zSm_lt R (s := 6) (by decide) (by decide) hm; omega) pk
    have eJ1 : upd J 10 (nI (N.1 + 1)) 8 = nI (zcn c 6) := by rw [upd_ne (by decide)]; exact eJ
    have hJ1 : zN32 (upd J 10 (nI (N.1 + 1))) := ⟨_, M1.1, M1.2.1⟩
    have hcc : upd c 6 (nI (zcn c 6 + 1)) 6 = nI (zcn c 6 + 1) := upd_eq _ _ _
    refine zCt_part (K := fun (a0 : Int32) => fun h => (nzxI d nX13_readPart [.ref 73, .float 112, .int (nI 0), .int (nI 100)] h).bind fun q => (fun (a1 : Int32) => zKf_Call a0 a1) q.1 q.2) zstr_124 (by decide) (by decide) (by decide) (by omega) hL hb (by decide) (by omega) hcc (fun a0 => zOv_part (K := fun (a1 : Int32) => zKf_Call a0 a1) (by omega) _ _ (fun a1 => zKo_Call a0 a1)) hJ1 (fun v0 l0 u0 => ?_)
    refine zCt_part (K := fun (a1 : Int32) => zKf_Call (nI v0) a1) zstr_112 (by decide) (by decide) (by decide) (by omega) hL hb (by decide) (by omega) hcc (fun a1 => zKo_Call (nI v0) a1) hJ1 (fun v1 l1 u1 => ?_)
    refine zCt_nil (fun I W e9 => ⟨_, _, _, zKw_Call ht e9 (show zcn c 6 < 5 from hm) eJ1 (nI v0) (nI v1), ?_, ?_, ?_⟩)
    · exact zNm_cg M1 (fun s n _ e h6 => ⟨n, Nat.le_refl _, h6, e⟩) (upd_ne (by decide)) ⟨by rw [va_up_ne _ _ (by decide), va_up_ne _ _ (by decide)], by rw [va_up_ne _ _ (by decide), va_up_ne _ _ (by decide)]⟩
    · refine zDR_add R (by decide) rfl hm (fun i hi => ?_) (upd_eq _ _ _) (fun q hq ne => ?_) ⟨?_, ?_⟩ (fun k hk => ?_) (fun f r hf hr => ?_) (fun k x y hk hb => ?_) ?_ ?_
      · rw [upd_ne (by omega), upd_ne (by omega)]
      · have := zcf_lt q hq
        rw [upd_ne (show zcf q ≠ 8 from zcf_ok 6 (by decide) q hq ne), upd_ne (by omega)]
      · rw [upd_ne (by decide), upd_ne (by decide)]
      · rw [upd_ne (by decide), upd_ne (by decide)]
      · have hk : k < 2 := hk
        rcases (show k = 0 ∨ k = 1 by omega) with rfl | rfl
        · rw [show zfl 6 0 = 30 from rfl, zBw, if_neg (fun z => absurd z.1 (by decide)), zBw, if_pos ⟨rfl, rfl⟩, upd_ne (by omega), upd_eq]
        · rw [show zfl 6 1 = 31 from rfl, zBw, if_pos ⟨rfl, rfl⟩, upd_eq]
      · have n0 : ¬ (f = 30 ∧ r = zcn c 6) := fun z => hr.elim (fun y => by omega) (fun y => y 0 (by decide) z.1)
        have n1 : ¬ (f = 31 ∧ r = zcn c 6) := fun z => hr.elim (fun y => by omega) (fun y => y 1 (by decide) z.1)
        rw [zBw, if_neg n1, zBw, if_neg n0, va_up_ne _ _ (show f ≠ 36 by omega), va_up_ne _ _ (show f ≠ 35 by omega)]
      · have hk : k < 2 := hk
        rcases (show k = 0 ∨ k = 1 by omega) with rfl | rfl
        · cases (show (some (1, 60) : Option (Nat × Nat)) = some (x, y) from hb)
          exact ⟨v0, l0, u0, by rw [upd_ne (by omega), upd_eq]⟩
        · cases (show (some (0, 100) : Option (Nat × Nat)) = some (x, y) from hb)
          exact ⟨v1, l1, u1, by rw [upd_eq]⟩
      · exact fun z => absurd z (by decide)
      · exact fun z => absurd z (by decide)
    · exact (congrArg (· + 1) Sm).trans (zSm_up (by decide) (by decide) (by omega)).symm
