/-! the lines of a helper, a flood, the law -/
def zKf_Helper (a0 a1 : Int32) (h : nzH) : nzO := (nzgI h 73 13 9).bind fun v2 => if v2 = 5 then (some (none, h)) else ((nzgR h 73 13 4).bind fun v3 => (nzgR h v3 12 32).bind fun v4 => (nzgR h 73 13 4).bind fun v5 => (nzgI h v5 12 9).bind fun v6 => (nzsI h v4 v6 a0).bind fun h7 => (nzgR h7 73 13 4).bind fun v8 => (nzgR h7 v8 12 33).bind fun v9 => (nzgR h7 73 13 4).bind fun v10 => (nzgI h7 v10 12 9).bind fun v11 => (nzsI h7 v9 v11 a1).bind fun h12 => (nzgR h12 73 13 4).bind fun v13 => (nzgI h12 v13 12 9).bind fun v14 => (nzput h12 v13 12 9 (.int (v14 + 1))).bind fun h15 => some (none, h15))
def zKf_Flood (a0 a1 : Int32) (h : nzH) : nzO := (nzgI h 73 13 9).bind fun v4 => if v4 = 5 then (some (none, h)) else ((nzgR h 73 13 4).bind fun v5 => (nzgR h v5 12 16).bind fun v6 => (nzgR h 73 13 4).bind fun v7 => (nzgI h v7 12 7).bind fun v8 => (nzsI h v6 v8 a0).bind fun h9 => (nzgR h9 73 13 4).bind fun v10 => (nzgR h9 v10 12 17).bind fun v11 => (nzgR h9 73 13 4).bind fun v12 => (nzgI h9 v12 12 7).bind fun v13 => (nzsI h9 v11 v13 a1).bind fun h14 => (nzgR h14 73 13 4).bind fun v15 => (nzgI h14 v15 12 7).bind fun v16 => (nzput h14 v15 12 7 (.int (v16 + 1))).bind fun h17 => some (none, h17))
def zKf_Law (a0 a1 : Int32) (h : nzH) : nzO := (nzgI h 73 13 9).bind fun v4 => if v4 = 5 then (some (none, h)) else ((nzgR h 73 13 4).bind fun v5 => (nzput h v5 12 0 (.int a0)).bind fun h6 => (nzgR h6 73 13 4).bind fun v7 => (nzput h6 v7 12 1 (.int a1)).bind fun h8 => some (none, h8))
theorem zKw_Helper {t : Nat} {h : nzH} {F0 G0 : Nat → Value} {td : Option Nat} {tp : Nat → Int32} {A : Nat → Nat → Int32} {J : Nat → Int32} {B : Nat → Nat → Int32} {Wd : Nat → Int64} (ht : 94 ≤ t) {I : Nat → Int32} {W : Int64} (e9 : ¬ I 9 = 5) {m : Nat} (hm : m < 5) (eJ : J 9 = nI m) (a0 a1 : Int32) : zKf_Helper a0 a1 (zHH h t F0 G0 td tp A I W J B Wd) = some (none, zHH h t F0 G0 td tp A I W (upd J 9 (nI (m + 1))) (va_up (va_up B 32 (upd (B 32) m a0)) 33 (upd ((va_up B 32 (upd (B 32) m a0)) 33) m a1)) Wd) := by
  simp only [zKf_Helper, zI_9, Option.bind_some, if_neg e9, zIR, zj zmd_dS ht (k := 9) (by decide), eJ, nI_1, zDP ht (k := 9) (by decide), zdr zmd_dS ht (k := 32) (by decide) (by decide), zdr zmd_dS ht (k := 33) (by decide) (by decide), zDW ht (k := 32) (by decide) (by decide) (by decide) (by decide) (by decide) (show m < zml 32 from hm), zDW ht (k := 33) (by decide) (by decide) (by decide) (by decide) (by decide) (show m < zml 33 from hm)]
theorem zKw_Flood {t : Nat} {h : nzH} {F0 G0 : Nat → Value} {td : Option Nat} {tp : Nat → Int32} {A : Nat → Nat → Int32} {J : Nat → Int32} {B : Nat → Nat → Int32} {Wd : Nat → Int64} (ht : 94 ≤ t) {I : Nat → Int32} {W : Int64} (e9 : ¬ I 9 = 5) {m : Nat} (hm : m < 3) (eJ : J 7 = nI m) (a0 a1 : Int32) : zKf_Flood a0 a1 (zHH h t F0 G0 td tp A I W J B Wd) = some (none, zHH h t F0 G0 td tp A I W (upd J 7 (nI (m + 1))) (va_up (va_up B 16 (upd (B 16) m a0)) 17 (upd ((va_up B 16 (upd (B 16) m a0)) 17) m a1)) Wd) := by
  simp only [zKf_Flood, zI_9, Option.bind_some, if_neg e9, zIR, zj zmd_dS ht (k := 7) (by decide), eJ, nI_1, zDP ht (k := 7) (by decide), zdr zmd_dS ht (k := 16) (by decide) (by decide), zdr zmd_dS ht (k := 17) (by decide) (by decide), zDW ht (k := 16) (by decide) (by decide) (by decide) (by decide) (by decide) (show m < zml 16 from hm), zDW ht (k := 17) (by decide) (by decide) (by decide) (by decide) (by decide) (show m < zml 17 from hm)]
theorem zKw_Law {t : Nat} {h : nzH} {F0 G0 : Nat → Value} {td : Option Nat} {tp : Nat → Int32} {A : Nat → Nat → Int32} {J : Nat → Int32} {B : Nat → Nat → Int32} {Wd : Nat → Int64} (ht : 94 ≤ t) {I : Nat → Int32} {W : Int64} (e9 : ¬ I 9 = 5) (a0 a1 : Int32) : zKf_Law a0 a1 (zHH h t F0 G0 td tp A I W J B Wd) = some (none, zHH h t F0 G0 td tp A I W (upd (upd J 0 a0) 1 a1) B Wd) := by
  simp only [zKf_Law, zI_9, Option.bind_some, if_neg e9, zIR, zDP ht (k := 0) (by decide), zDP ht (k := 1) (by decide)]
theorem zKo_Helper {t : Nat} {h : nzH} {F0 G0 : Nat → Value} {td : Option Nat} {tp : Nat → Int32} {A : Nat → Nat → Int32} (a0 a1 : Int32) : zOv h t F0 G0 td tp A (zKf_Helper a0 a1) := fun I W J B Wd n e => by
  rw [zKf_Helper, zI_9, Option.bind_some, if_pos e]
theorem zKo_Flood {t : Nat} {h : nzH} {F0 G0 : Nat → Value} {td : Option Nat} {tp : Nat → Int32} {A : Nat → Nat → Int32} (a0 a1 : Int32) : zOv h t F0 G0 td tp A (zKf_Flood a0 a1) := fun I W J B Wd n e => by
  rw [zKf_Flood, zI_9, Option.bind_some, if_pos e]
theorem zKo_Law {t : Nat} {h : nzH} {F0 G0 : Nat → Value} {td : Option Nat} {tp : Nat → Int32} {A : Nat → Nat → Int32} (a0 a1 : Int32) : zOv h t F0 G0 td tp A (zKf_Law a0 a1) := fun I W J B Wd n e => by
  rw [zKf_Law, zI_9, Option.bind_some, if_pos e]
theorem zKh_d {d t : Nat} {h : nzH} {F0 G0 : Nat → Value} {td : Option Nat} {tp : Nat → Int32} {A : Nat → Nat → Int32} (hd : 2 < d) : zOv h t F0 G0 td tp A (fun h => (nzgI h 73 13 9).bind fun v5 => if v5 = 5 then nzr d nX13_readHelper 35 [some (.ref 73), some (.int 0), none, none] [.int 0] h else nzr d nX13_readHelper 35 [some (.ref 73), some (.int 0), none, none] [.int 1] h) := fun I W J B Wd n e => by
  show ((nzgI (zHH h t F0 G0 td tp A I W J B Wd) 73 13 9).bind fun v5 => if v5 = 5 then nzr d nX13_readHelper 35 [some (.ref 73), some (.int 0), none, none] [.int 0] (zHH h t F0 G0 td tp A I W J B Wd) else nzr d nX13_readHelper 35 [some (.ref 73), some (.int 0), none, none] [.int 1] (zHH h t F0 G0 td tp A I W J B Wd)) = _
  rw [zI_9, Option.bind_some, if_pos e, eX13_readHelper_35, eX13_readHelper_36, if_pos rfl, kX13_readPart5 hd e, Option.bind_some, zI_9, Option.bind_some, if_pos e]
theorem zLk_7 {d t : Nat} {h : nzH} {F0 G0 : Nat → Value} {td : Option Nat} {tp : Nat → Int32} {A : Nat → Nat → Int32} {L : Nat} {J : Nat → Int32} {B : Nat → Nat → Int32} {Wd : Nat → Int64} {ff : Int32 × Int32} {c g : Nat → Int32} {N : zNT} (ht : 94 ≤ t) (hd : 8 < d) (hL : L ≤ 900) (hb : ∀ i, zby (tp i)) {k : ztkn} {I : Nat → Int32} {W : Int64} (T : zTr k I W) (w : zTw tp L k) (e7 : I 7 = nI L) (e13 : I 13 = 0) {x : Int32} (hk : zsol tp k = nI 7) (D : zDD N c g J B Wd) : zCk0 h t F0 G0 td tp A L (zf0 tp L :: [zpWd tp L [100, 97, 121, 115], zpUd tp L 8 (nI 0), zpWd tp L [109, 111, 115, 116], zpWh tp L 1 (nI 1) (nI 7)]) (fun h => nzr d nX13_readHelper 0 [some (.ref 73), none, none, none] [] h) ((x, ff), N, c, g) 7 ff (upd c 7 (nI (zcn c 7 + 1))) J B Wd (fun N' g' J' B' Wd' => zDD N' (upd c 7 (nI (zcn c 7 + 1))) g' J' B' Wd') k I W := by
  obtain ⟨M, R, Sm⟩ := D
  have hc := R.1 7 (by decide)
  have eJ : J 9 = nI (zcn c 7) := (R.2.1 7 (by decide)).trans hc.1
  have h6 : zcn c 7 ≤ 5 := hc.2
  refine zCk0_cg (kont' := fun h => (nzxV d nX13_readNamed [.ref 73, .int (nI (zcn c 7)), .int (nI (zroom 7)), .int (nI (zs3 7))] h).bind (fun h => (nzxV d nX13_needs [.ref 73, .float 126] h).bind (fun h => (nzgI h 73 13 9).bind fun v5 => if v5 = 5 then nzr d nX13_readHelper 35 [some (.ref 73), some (.int 0), none, none] [.int 0] h else nzr d nX13_readHelper 35 [some (.ref 73), some (.int 0), none, none] [.int 1] h))) ?_ (zCk0_named ht hd hL hb T w e7 e13 (by decide) hk M (fun hm => by have := zSm_lt R (by decide) (by decide) hm; omega) hc.2 hc.1 ?_ (fun hm pk => ?_))
  · show nzr d nX13_readHelper 0 [some (.ref 73), none, none, none] [] (zHH h t F0 G0 td tp A I W J B Wd) = _
    rw [eX13_readHelper_0, zIR, Option.bind_some, zj zmd_dS ht (by decide), Option.bind_some, eJ]
    rfl
  · exact zOv_needs (by omega) (zKh_d (by omega))
  · have hm : zcn c 7 < 5 := hm
    have M1 := zNm_add M (s := 7) (by decide) (by omega) hc.1 (by have := zSm_lt R (s := 7) (by decide) (by decide) hm; omega) pk
    have eJ1 : upd J 10 (nI (N.1 + 1)) 9 = nI (zcn c 7) := by rw [upd_ne (by decide)]; exact eJ
    have hJ1 : zN32 (upd J 10 (nI (N.1 + 1))) := ⟨_, M1.1, M1.2.1⟩
    have hcc : upd c 7 (nI (zcn c 7 + 1)) 7 = nI (zcn c 7 + 1) := upd_eq _ _ _
    refine zCt_needs zstr_126 (by decide) (by omega) hL hb (zKh_d (by omega)) hJ1 ?_
    refine zCt_cg (kont' := fun H => nzr d nX13_readHelper 36 [some (.ref 73), some (.int (nI 0)), some (.int 1), none] [] H) (fun I W e9 => ?_) (zCt_days (K := fun D => (fun h => (nzxI d nX13_readPart [.ref 73, .float 128, .int (nI 1), .int (nI 7)] h).bind fun q => (fun (a1 : Int32) => zKf_Helper D a1) q.1 q.2)) (by omega) hL hb (by decide) (by omega) hcc (fun D u H => ?_) hJ1 (fun v0 u0 => ?_) 8 0 g none (by decide) (by decide) (fun _ => rfl))
    · show ((nzgI (zHH h t F0 G0 td tp A I W _ _ _) 73 13 9).bind fun v5 => if v5 = 5 then nzr d nX13_readHelper 35 [some (.ref 73), some (.int 0), none, none] [.int 0] (zHH h t F0 G0 td tp A I W _ _ _) else nzr d nX13_readHelper 35 [some (.ref 73), some (.int 0), none, none] [.int 1] (zHH h t F0 G0 td tp A I W _ _ _)) = _
      rw [zI_9, Option.bind_some, if_neg e9, eX13_readHelper_35]
      rfl
    · rw [eX13_readHelper_36, if_pos rfl]
      rfl
    refine zCt_part (K := fun (a1 : Int32) => zKf_Helper (nI v0) a1) zstr_128 (by decide) (by decide) (by decide) (by omega) hL hb (by decide) (by omega) hcc (fun a1 => zKo_Helper _ a1) hJ1 (fun v1 l1 u1 => ?_)
    refine zCt_nil (fun I W e9 => ⟨_, _, _, zKw_Helper ht e9 (show zcn c 7 < 5 from hm) eJ1 (nI v0) (nI v1), ?_, ?_, ?_⟩)
    · exact zNm_cg M1 (fun s n _ e h6 => ⟨n, Nat.le_refl _, h6, e⟩) (upd_ne (by decide)) ⟨by rw [va_up_ne _ _ (by decide), va_up_ne _ _ (by decide)], by rw [va_up_ne _ _ (by decide), va_up_ne _ _ (by decide)]⟩
    · refine zDR_add R (by decide) rfl hm (fun i hi => ?_) (upd_eq _ _ _) (fun q hq ne => ?_) ⟨?_, ?_⟩ (fun k hk => ?_) (fun f r hf hr => ?_) (fun k x y hk hb => ?_) ?_ ?_
      · rw [upd_ne (by omega), upd_ne (by omega)]
      · have := zcf_lt q hq
        rw [upd_ne (show zcf q ≠ 9 from zcf_ok 7 (by decide) q hq ne), upd_ne (by omega)]
      · rw [upd_ne (by decide), upd_ne (by decide)]
      · rw [upd_ne (by decide), upd_ne (by decide)]
      · have hk : k < 2 := hk
        rcases (show k = 0 ∨ k = 1 by omega) with rfl | rfl
        · rw [show zfl 7 0 = 32 from rfl, zBw, if_neg (fun z => absurd z.1 (by decide)), zBw, if_pos ⟨rfl, rfl⟩, upd_ne (by omega), upd_eq]
        · rw [show zfl 7 1 = 33 from rfl, zBw, if_pos ⟨rfl, rfl⟩, upd_eq]
      · have n0 : ¬ (f = 32 ∧ r = zcn c 7) := fun z => hr.elim (fun y => by omega) (fun y => y 0 (by decide) z.1)
        have n1 : ¬ (f = 33 ∧ r = zcn c 7) := fun z => hr.elim (fun y => by omega) (fun y => y 1 (by decide) z.1)
        rw [zBw, if_neg n1, zBw, if_neg n0, va_up_ne _ _ (show f ≠ 36 by omega), va_up_ne _ _ (show f ≠ 35 by omega)]
      · have hk : k < 2 := hk
        rcases (show k = 0 ∨ k = 1 by omega) with rfl | rfl
        · cases (show (some (0, 127) : Option (Nat × Nat)) = some (x, y) from hb)
          exact ⟨v0, Nat.zero_le _, by omega, by rw [upd_ne (by omega), upd_eq]⟩
        · cases (show (some (1, 7) : Option (Nat × Nat)) = some (x, y) from hb)
          exact ⟨v1, l1, u1, by rw [upd_eq]⟩
      · exact fun z => absurd z (by decide)
      · exact fun z => absurd z (by decide)
    · exact (congrArg (· + 1) Sm).trans (zSm_up (by decide) (by decide) (by omega)).symm
theorem zLk_5 {d t : Nat} {h : nzH} {F0 G0 : Nat → Value} {td : Option Nat} {tp : Nat → Int32} {A : Nat → Nat → Int32} {L : Nat} {J : Nat → Int32} {B : Nat → Nat → Int32} {Wd : Nat → Int64} {ff : Int32 × Int32} {c g : Nat → Int32} {N : zNT} (ht : 94 ≤ t) (hd : 8 < d) (hL : L ≤ 900) (hb : ∀ i, zby (tp i)) {k : ztkn} {I : Nat → Int32} {W : Int64} (T : zTr k I W) (w : zTw tp L k) (e7 : I 7 = nI L) (e13 : I 13 = 0) {x : Int32} (hk : zsol tp k = nI 5) (D : zDD N c g J B Wd) : zCk0 h t F0 G0 td tp A L (zpBl tp L :: [zpWh tp L 0 (nI 0) (nI 98), zpWd tp L [97, 100, 100, 115], zpWh tp L 1 (nI 1) (nI 60)]) (fun h => nzr d nX13_readFlood 0 [some (.ref 73), none, none] [] h) ((x, ff), N, c, g) 5 ff (upd c 5 (nI (zcn c 5 + 1))) J B Wd (fun N' g' J' B' Wd' => zDD N' (upd c 5 (nI (zcn c 5 + 1))) g' J' B' Wd') k I W := by
  obtain ⟨M, R, Sm⟩ := D
  have hc := R.1 5 (by decide)
  have eJ : J 7 = nI (zcn c 5) := (R.2.1 5 (by decide)).trans hc.1
  have h6 : zcn c 5 ≤ 3 := hc.2
  have hJ1 : zN32 J := ⟨_, M.1, M.2.1⟩
  have hcc : upd c 5 (nI (zcn c 5 + 1)) 5 = nI (zcn c 5 + 1) := upd_eq _ _ _
  refine zCk0_bare (d := d) (kont1 := (fun h => (nzxI d nX13_readWhole [.ref 73, .int (nI 0), .int (nI 98)] h).bind fun q => (fun (a0 : Int32) => fun h => (nzxI d nX13_readPart [.ref 73, .float 98, .int (nI 1), .int (nI 60)] h).bind fun q => (fun (a1 : Int32) => zKf_Flood a0 a1) q.1 q.2) q.1 q.2)) (by omega) hL hb T w e7 e13 (by decide) hk hJ1 hc.2 hc.1 (zOv_whole (K := fun (a0 : Int32) => fun h => (nzxI d nX13_readPart [.ref 73, .float 98, .int (nI 1), .int (nI 60)] h).bind fun q => (fun (a1 : Int32) => zKf_Flood a0 a1) q.1 q.2) (by omega) _ _ (fun a0 => zOv_part (K := fun (a1 : Int32) => zKf_Flood a0 a1) (by omega) _ _ (fun a1 => zKo_Flood a0 a1))) (fun hm => ?_) (fun hm => ?_) (fun hm => ?_)
  · have hm : ¬ zcn c 5 < 3 := hm
    show nzr d nX13_readFlood 0 [some (.ref 73), none, none] [] (zHH h t F0 G0 td tp A I W J B Wd) = _
    rw [eX13_readFlood_0, zIR, Option.bind_some, zj zmd_dS ht (by decide), Option.bind_some, eJ, if_pos (show nI (zcn c 5) = 3 from congrArg nI (show zcn c 5 = 3 by omega)), kWr (by omega) (zTr_9 T).2.2.2.1, Option.bind_some, eX13_readFlood_16, if_neg (show ¬ 5 = 8 by decide)]
    rfl
  · have hm : zcn c 5 < 3 := hm
    show nzr d nX13_readFlood 0 [some (.ref 73), none, none] [] (zHH h t F0 G0 td tp A I W J B Wd) = _
    rw [eX13_readFlood_0, zIR, Option.bind_some, zj zmd_dS ht (by decide), Option.bind_some, eJ, if_neg (show ¬ nI (zcn c 5) = 3 from fun z => by have := (nI_eq (b := 3) (by omega) (by decide)).mp z; omega), eX13_readFlood_16]
    rfl
  · have hm : zcn c 5 < 3 := hm
    refine zCt_whole (K := fun (a0 : Int32) => fun h => (nzxI d nX13_readPart [.ref 73, .float 98, .int (nI 1), .int (nI 60)] h).bind fun q => (fun (a1 : Int32) => zKf_Flood a0 a1) q.1 q.2) (by decide) (by decide) (by omega) hL hb (by decide) (by omega) hcc (fun a0 => zOv_part (K := fun (a1 : Int32) => zKf_Flood a0 a1) (by omega) _ _ (fun a1 => zKo_Flood a0 a1)) hJ1 (fun v0 l0 u0 => ?_)
    refine zCt_part (K := fun (a1 : Int32) => zKf_Flood (nI v0) a1) zstr_98 (by decide) (by decide) (by decide) (by omega) hL hb (by decide) (by omega) hcc (fun a1 => zKo_Flood _ a1) hJ1 (fun v1 l1 u1 => ?_)
    refine zCt_nil (fun I W e9 => ⟨_, _, _, zKw_Flood ht e9 (show zcn c 5 < 3 from hm) eJ (nI v0) (nI v1), ?_, ?_, ?_⟩)
    · exact zNm_cg M (fun q n _ e h6 => by
        by_cases y : q = 5
        · refine ⟨zcn c 5 + 1, ?_, by omega, by rw [y, upd_eq]⟩
          rw [y, hc.1, nI_eq (by omega) (by omega)] at e
          omega
        · exact ⟨n, Nat.le_refl _, h6, by rw [upd_ne y]; exact e⟩) (upd_ne (by decide)) ⟨by rw [va_up_ne _ _ (by decide), va_up_ne _ _ (by decide)], by rw [va_up_ne _ _ (by decide), va_up_ne _ _ (by decide)]⟩
    · refine zDR_add R (by decide) rfl hm (fun i hi => ?_) (upd_eq _ _ _) (fun q hq ne => ?_) ⟨?_, ?_⟩ (fun k hk => ?_) (fun f r hf hr => ?_) (fun k x y hk hb => ?_) ?_ ?_
      · rw [upd_ne (by omega), upd_ne (by omega)]
      · have := zcf_lt q hq
        rw [upd_ne (show zcf q ≠ 7 from zcf_ok 5 (by decide) q hq ne)]
      · rw [upd_ne (by decide)]
      · rw [upd_ne (by decide)]
      · have hk : k < 2 := hk
        rcases (show k = 0 ∨ k = 1 by omega) with rfl | rfl
        · rw [show zfl 5 0 = 16 from rfl, zBw, if_neg (fun z => absurd z.1 (by decide)), zBw, if_pos ⟨rfl, rfl⟩, upd_ne (by omega), upd_eq]
        · rw [show zfl 5 1 = 17 from rfl, zBw, if_pos ⟨rfl, rfl⟩, upd_eq]
      · have n0 : ¬ (f = 16 ∧ r = zcn c 5) := fun z => hr.elim (fun y => by omega) (fun y => y 0 (by decide) z.1)
        have n1 : ¬ (f = 17 ∧ r = zcn c 5) := fun z => hr.elim (fun y => by omega) (fun y => y 1 (by decide) z.1)
        rw [zBw, if_neg n1, zBw, if_neg n0]
      · have hk : k < 2 := hk
        rcases (show k = 0 ∨ k = 1 by omega) with rfl | rfl
        · cases (show (some (0, 98) : Option (Nat × Nat)) = some (x, y) from hb)
          exact ⟨v0, l0, u0, by rw [upd_ne (by omega), upd_eq]⟩
        · cases (show (some (1, 60) : Option (Nat × Nat)) = some (x, y) from hb)
          exact ⟨v1, l1, u1, by rw [upd_eq]⟩
      · exact fun z => absurd z (by decide)
      · exact fun z => absurd z (by decide)
    · rw [Sm, zSm, zSm]
      simp only [zcn_up c 5 (zcn c 5) _ (show zcn c 5 < 6 by omega)]
      rfl
theorem zDR_law {c g J : Nat → Int32} {B : Nat → Nat → Int32} (R : zDR c g J B) (h0 : zcn c 8 = 0) {v0 v1 : Nat} (l0 : 40 ≤ v0) (u0 : v0 ≤ 90) (l1 : 600 ≤ v1) (u1 : v1 ≤ 900) : zDR (upd c 8 (nI (0 + 1))) (upd (upd g 336 (nI v0)) 337 (nI v1)) (upd (upd J 0 (nI v0)) 1 (nI v1)) B := by
  obtain ⟨d1, d2, d3, d4, d5, d6, d7, d8, d9⟩ := R
  have cu := fun q => zcn_up c 8 0 q (by decide)
  have r6 : ∀ q, q < 9 → zcn c q ≤ 6 := fun q hq => Nat.le_trans (d1 q hq).2 (zroom_I q hq).2
  refine ⟨fun q hq => ?_, fun q hq => ?_, fun q r k hq hr hk => ?_, fun q r k a b hq hr hk hb => ?_, fun r hr => ?_, fun r hr => ?_, fun q r k hq hr hr6 hk => ?_, fun z => ?_, fun z => ?_⟩
  · rw [cu q]
    by_cases y : q = 8
    · rw [if_pos y, y, upd_eq]
      exact ⟨rfl, by decide⟩
    · rw [if_neg y, upd_ne y]
      exact d1 q hq
  · have := zcf_lt q hq
    rw [upd_ne (show q ≠ 8 by omega), upd_ne (by omega), upd_ne (by omega)]
    exact d2 q hq
  · rw [cu q, if_neg (by omega)] at hr
    have := r6 q (by omega)
    have := zcol_7 q (by omega)
    rw [upd_ne (by omega), upd_ne (by omega)]
    exact d3 q r k hq hr hk
  · rw [cu q] at hr
    have := zcol_7 q (by omega)
    by_cases y : q = 8
    · rw [if_pos y] at hr
      subst y
      obtain rfl : r = 0 := by omega
      have hk : k < 2 := hk
      rcases (show k = 0 ∨ k = 1 by omega) with rfl | rfl
      · cases (show (some (40, 90) : Option (Nat × Nat)) = some (a, b) from hb)
        exact ⟨v0, l0, u0, by rw [upd_ne (by decide)]; exact upd_eq _ _ _⟩
      · cases (show (some (600, 900) : Option (Nat × Nat)) = some (a, b) from hb)
        exact ⟨v1, l1, u1, upd_eq _ _ _⟩
    · rw [if_neg y] at hr
      have := r6 q (by omega)
      rw [upd_ne (by omega), upd_ne (by omega)]
      exact d4 q r k a b hq hr hk hb
  · rw [cu 3, if_neg (by decide)] at hr
    have := r6 3 (by omega)
    rw [cu 2, if_neg (by decide), upd_ne (by omega), upd_ne (by omega)]
    exact d5 r hr
  · rw [cu 4, if_neg (by decide)] at hr
    have := r6 4 (by omega)
    rw [cu 0, if_neg (by decide), upd_ne (by omega), upd_ne (by omega)]
    exact d6 r hr
  · rw [cu q] at hr
    by_cases y : q = 8
    · rw [if_pos y] at hr
      rw [upd_ne (by omega), upd_ne (by omega)]
      exact d7 q r k hq (by rw [y]; omega) hr6 hk
    · rw [if_neg y] at hr
      rw [upd_ne (by omega), upd_ne (by omega)]
      exact d7 q r k hq hr hr6 hk
  · rw [cu 8, if_pos rfl] at z
    omega
  · exact ⟨by rw [upd_ne (by decide), upd_eq, upd_ne (by decide), upd_eq], by rw [upd_eq, upd_eq]⟩
theorem zLk_8 {d t : Nat} {h : nzH} {F0 G0 : Nat → Value} {td : Option Nat} {tp : Nat → Int32} {A : Nat → Nat → Int32} {L : Nat} {J : Nat → Int32} {B : Nat → Nat → Int32} {Wd : Nat → Int64} {ff : Int32 × Int32} {c g : Nat → Int32} {N : zNT} (ht : 94 ≤ t) (hd : 8 < d) (hL : L ≤ 900) (hb : ∀ i, zby (tp i)) {k : ztkn} {I : Nat → Int32} {W : Int64} (T : zTr k I W) (w : zTw tp L k) (e7 : I 7 = nI L) (e13 : I 13 = 0) {x : Int32} (hk : zsol tp k = nI 8) (D : zDD N c g J B Wd) : zCk0 h t F0 G0 td tp A L (zpBl tp L :: [zpWd tp L [104, 111, 116], zpWh tp L 0 (nI 40) (nI 90), zpWd tp L [98, 121], zpWh tp L 1 (nI 600) (nI 900)]) (fun h => nzr d nX13_readLaw 0 [some (.ref 73), none, none] [] h) ((x, ff), N, c, g) 8 ff (upd c 8 (nI (zcn c 8 + 1))) J B Wd (fun N' g' J' B' Wd' => zDD N' (upd c 8 (nI (zcn c 8 + 1))) g' J' B' Wd') k I W := by
  obtain ⟨M, R, Sm⟩ := D
  have hc := R.1 8 (by decide)
  have h6 : zcn c 8 ≤ 1 := hc.2
  have hJ1 : zN32 J := ⟨_, M.1, M.2.1⟩
  have hcc : upd c 8 (nI (zcn c 8 + 1)) 8 = nI (zcn c 8 + 1) := upd_eq _ _ _
  refine zCk0_bare (d := d) (kont1 := (fun h => (nzxI d nX13_readPart [.ref 73, .float 72, .int (nI 40), .int (nI 90)] h).bind fun q => (fun (a0 : Int32) => fun h => (nzxI d nX13_readPart [.ref 73, .float 74, .int (nI 600), .int (nI 900)] h).bind fun q => (fun (a1 : Int32) => zKf_Law a0 a1) q.1 q.2) q.1 q.2)) (by omega) hL hb T w e7 e13 (by decide) hk hJ1 hc.2 hc.1 (zOv_part (K := fun (a0 : Int32) => fun h => (nzxI d nX13_readPart [.ref 73, .float 74, .int (nI 600), .int (nI 900)] h).bind fun q => (fun (a1 : Int32) => zKf_Law a0 a1) q.1 q.2) (by omega) _ _ (fun a0 => zOv_part (K := fun (a1 : Int32) => zKf_Law a0 a1) (by omega) _ _ (fun a1 => zKo_Law a0 a1))) (fun hm => ?_) (fun hm => ?_) (fun hm => ?_)
  · have hm : ¬ zcn c 8 < 1 := hm
    have j0 := (R.2.2.2.2.2.2.2.2 (by omega)).1
    obtain ⟨v, v1, v2, v3⟩ := R.2.2.2.1 8 0 0 40 90 (by decide) (by omega) (by decide) rfl
    have jn : ¬ J 0 = -1 := by
      rw [j0, show g 336 = nI v from v3]
      exact zob_ne (by omega)
    show nzr d nX13_readLaw 0 [some (.ref 73), none, none] [] (zHH h t F0 G0 td tp A I W J B Wd) = _
    rw [eX13_readLaw_0, zIR, Option.bind_some, zj zmd_dS ht (by decide), Option.bind_some, if_neg jn, kWr (by omega) (zTr_9 T).2.2.2.1, Option.bind_some, eX13_readLaw_16, if_pos rfl]
    rfl
  · have hm : zcn c 8 < 1 := hm
    have j0 := R.2.2.2.2.2.2.2.1 (by omega)
    show nzr d nX13_readLaw 0 [some (.ref 73), none, none] [] (zHH h t F0 G0 td tp A I W J B Wd) = _
    rw [eX13_readLaw_0, zIR, Option.bind_some, zj zmd_dS ht (by decide), Option.bind_some, if_pos j0, eX13_readLaw_16]
    rfl
  · have hm : zcn c 8 < 1 := hm
    have h0 : zcn c 8 = 0 := by omega
    rw [h0] at hcc ⊢
    refine zCt_part (K := fun (a0 : Int32) => fun h => (nzxI d nX13_readPart [.ref 73, .float 74, .int (nI 600), .int (nI 900)] h).bind fun q => (fun (a1 : Int32) => zKf_Law a0 a1) q.1 q.2) zstr_72 (by decide) (by decide) (by decide) (by omega) hL hb (by decide) (show 0 < 6 by decide) hcc (fun a0 => zOv_part (K := fun (a1 : Int32) => zKf_Law a0 a1) (by omega) _ _ (fun a1 => zKo_Law a0 a1)) hJ1 (fun v0 l0 u0 => ?_)
    refine zCt_part (K := fun (a1 : Int32) => zKf_Law (nI v0) a1) zstr_74 (by decide) (by decide) (by decide) (by omega) hL hb (by decide) (show 0 < 6 by decide) hcc (fun a1 => zKo_Law _ a1) hJ1 (fun v1 l1 u1 => ?_)
    refine zCt_nil (fun I W e9 => ⟨_, _, _, zKw_Law ht e9 (nI v0) (nI v1), ?_, zDR_law R h0 l0 u0 l1 u1, ?_⟩)
    · exact zNm_cg M (fun q n _ e h6 => by
        by_cases y : q = 8
        · refine ⟨1, ?_, by omega, by rw [y, upd_eq]⟩
          rw [y, hc.1, h0, nI_eq (by omega) (by omega)] at e
          omega
        · exact ⟨n, Nat.le_refl _, h6, by rw [upd_ne y]; exact e⟩) (by rw [upd_ne (by decide), upd_ne (by decide)]) ⟨rfl, rfl⟩
    · rw [Sm, zSm, zSm]
      simp only [zcn_up c 8 0 _ (show 0 < 6 by decide)]
      rfl
