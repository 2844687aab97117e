/-! the reference's Strings; is the token a name -/
theorem zstr_70 : zstr 70 [108, 97, 119] := by unfold zstr; decide +kernel
theorem zstr_72 : zstr 72 [104, 111, 116] := by unfold zstr; decide +kernel
theorem zstr_74 : zstr 74 [98, 121] := by unfold zstr; decide +kernel
theorem zstr_76 : zstr 76 [107, 105, 116, 99, 104, 101, 110] := by unfold zstr; decide +kernel
theorem zstr_78 : zstr 78 [102, 108, 111, 111, 100] := by unfold zstr; decide +kernel
theorem zstr_80 : zstr 80 [100, 105, 115, 104] := by unfold zstr; decide +kernel
theorem zstr_82 : zstr 82 [100, 105, 101, 116] := by unfold zstr; decide +kernel
theorem zstr_84 : zstr 84 [104, 111, 117, 115, 101] := by unfold zstr; decide +kernel
theorem zstr_86 : zstr 86 [99, 97, 114] := by unfold zstr; decide +kernel
theorem zstr_88 : zstr 88 [99, 97, 108, 108] := by unfold zstr; decide +kernel
theorem zstr_90 : zstr 90 [104, 101, 108, 112, 101, 114] := by unfold zstr; decide +kernel
theorem zstr_92 : zstr 92 [100, 111, 103] := by unfold zstr; decide +kernel
theorem zstr_94 : zstr 94 [97, 102, 114, 97, 105, 100] := by unfold zstr; decide +kernel
theorem zstr_96 : zstr 96 [97, 116] := by unfold zstr; decide +kernel
theorem zstr_98 : zstr 98 [97, 100, 100, 115] := by unfold zstr; decide +kernel
theorem zstr_100 : zstr 100 [111, 102] := by unfold zstr; decide +kernel
theorem zstr_102 : zstr 102 [99, 111, 115, 116, 115] := by unfold zstr; decide +kernel
theorem zstr_104 : zstr 104 [98, 97, 114, 115] := by unfold zstr; decide +kernel
theorem zstr_106 : zstr 106 [101, 97, 116, 115] := by unfold zstr; decide +kernel
theorem zstr_108 : zstr 108 [100, 111, 111, 114, 115] := by unfold zstr; decide +kernel
theorem zstr_110 : zstr 110 [116, 101, 97] := by unfold zstr; decide +kernel
theorem zstr_112 : zstr 112 [99, 104, 97, 110, 99, 101] := by unfold zstr; decide +kernel
theorem zstr_114 : zstr 114 [110, 101, 101, 100] := by unfold zstr; decide +kernel
theorem zstr_116 : zstr 116 [102, 114, 111, 109] := by unfold zstr; decide +kernel
theorem zstr_118 : zstr 118 [115, 116, 97, 114, 116, 115] := by unfold zstr; decide +kernel
theorem zstr_120 : zstr 120 [104, 111, 108, 100, 115] := by unfold zstr; decide +kernel
theorem zstr_122 : zstr 122 [99, 111, 111, 108, 115] := by unfold zstr; decide +kernel
theorem zstr_124 : zstr 124 [116, 97, 107, 101, 115] := by unfold zstr; decide +kernel
theorem zstr_126 : zstr 126 [100, 97, 121, 115] := by unfold zstr; decide +kernel
theorem zstr_128 : zstr 128 [109, 111, 115, 116] := by unfold zstr; decide +kernel
section NZIN
variable {d : Nat} {h : nzH} {F0 : Nat → Value} {td rd : Option Nat} {tp : Nat → Int32} {A : Nat → Nat → Int32} {L : Nat}
theorem kX13_isName (hd : 6 < d) {I : Nat → Int32} {W : Int64} {k : ztkn} (T : zTr k I W) (w : zTw tp L k) : nzxI d nX13_isName [.ref 73] (zmS h F0 I W td rd tp A) = some (if zisN tp k then 1 else 0, zmS h F0 I W td rd tp A) := by
  have t9 := zTr_9 T
  refine iX13_isName (by omega) zmS_o ?_
  rw [eX13_isName_0, zI_9, Option.bind_some, eX13_isName_62]
  by_cases y : k.1 = 1
  · rw [if_pos (t9.1.mpr y)]
    rw [kX13_isWord zstr_70 (by omega) (by decide) T w, Option.bind_some]
    by_cases y0 : zisw tp k.1 k.2.1 k.2.2.1 [108, 97, 119] = true
    · have e : zisN tp k = false := by simp [zisN, zsol, y0]
      rw [if_pos y0, if_neg (show ¬ (1 : Int32) = 0 by decide), e]
      rw [eX13_isName_62]
      rfl
    · rw [if_neg y0, if_pos rfl]
      rw [kX13_isWord zstr_76 (by omega) (by decide) T w, Option.bind_some]
      by_cases y1 : zisw tp k.1 k.2.1 k.2.2.1 [107, 105, 116, 99, 104, 101, 110] = true
      · have e : zisN tp k = false := by simp [zisN, zsol, y0, y1]
        rw [if_pos y1, if_neg (show ¬ (1 : Int32) = 0 by decide), e]
        rw [eX13_isName_62]
        rfl
      · rw [if_neg y1, if_pos rfl]
        rw [kX13_isWord zstr_78 (by omega) (by decide) T w, Option.bind_some]
        by_cases y2 : zisw tp k.1 k.2.1 k.2.2.1 [102, 108, 111, 111, 100] = true
        · have e : zisN tp k = false := by simp [zisN, zsol, y0, y1, y2]
          rw [if_pos y2, if_neg (show ¬ (1 : Int32) = 0 by decide), e]
          rw [eX13_isName_62]
          rfl
        · rw [if_neg y2, if_pos rfl]
          rw [kX13_isWord zstr_80 (by omega) (by decide) T w, Option.bind_some]
          by_cases y3 : zisw tp k.1 k.2.1 k.2.2.1 [100, 105, 115, 104] = true
          · have e : zisN tp k = false := by simp [zisN, zsol, y0, y1, y2, y3]
            rw [if_pos y3, if_neg (show ¬ (1 : Int32) = 0 by decide), e]
            rw [eX13_isName_62]
            rfl
          · rw [if_neg y3, if_pos rfl]
            rw [kX13_isWord zstr_82 (by omega) (by decide) T w, Option.bind_some]
            by_cases y4 : zisw tp k.1 k.2.1 k.2.2.1 [100, 105, 101, 116] = true
            · have e : zisN tp k = false := by simp [zisN, zsol, y0, y1, y2, y3, y4]
              rw [if_pos y4, if_neg (show ¬ (1 : Int32) = 0 by decide), e]
              rw [eX13_isName_62]
              rfl
            · rw [if_neg y4, if_pos rfl]
              rw [kX13_isWord zstr_84 (by omega) (by decide) T w, Option.bind_some]
              by_cases y5 : zisw tp k.1 k.2.1 k.2.2.1 [104, 111, 117, 115, 101] = true
              · have e : zisN tp k = false := by simp [zisN, zsol, y0, y1, y2, y3, y4, y5]
                rw [if_pos y5, if_neg (show ¬ (1 : Int32) = 0 by decide), e]
                rw [eX13_isName_62]
                rfl
              · rw [if_neg y5, if_pos rfl]
                rw [kX13_isWord zstr_86 (by omega) (by decide) T w, Option.bind_some]
                by_cases y6 : zisw tp k.1 k.2.1 k.2.2.1 [99, 97, 114] = true
                · have e : zisN tp k = false := by simp [zisN, zsol, y0, y1, y2, y3, y4, y5, y6]
                  rw [if_pos y6, if_neg (show ¬ (1 : Int32) = 0 by decide), e]
                  rw [eX13_isName_113]
                  rfl
                · rw [if_neg y6, if_pos rfl]
                  rw [kX13_isWord zstr_88 (by omega) (by decide) T w, Option.bind_some]
                  by_cases y7 : zisw tp k.1 k.2.1 k.2.2.1 [99, 97, 108, 108] = true
                  · have e : zisN tp k = false := by simp [zisN, zsol, y0, y1, y2, y3, y4, y5, y6, y7]
                    rw [if_pos y7, if_neg (show ¬ (1 : Int32) = 0 by decide), e]
                    rw [eX13_isName_113]
                    rfl
                  · rw [if_neg y7, if_pos rfl]
                    rw [kX13_isWord zstr_90 (by omega) (by decide) T w, Option.bind_some]
                    by_cases y8 : zisw tp k.1 k.2.1 k.2.2.1 [104, 101, 108, 112, 101, 114] = true
                    · have e : zisN tp k = false := by simp [zisN, zsol, y0, y1, y2, y3, y4, y5, y6, y7, y8]
                      rw [if_pos y8, if_neg (show ¬ (1 : Int32) = 0 by decide), e]
                      rw [eX13_isName_113]
                      rfl
                    · rw [if_neg y8, if_pos rfl]
                      rw [kX13_isWord zstr_92 (by omega) (by decide) T w, Option.bind_some]
                      by_cases y9 : zisw tp k.1 k.2.1 k.2.2.1 [100, 111, 103] = true
                      · have e : zisN tp k = false := by simp [zisN, zsol, y0, y1, y2, y3, y4, y5, y6, y7, y8, y9]
                        rw [if_pos y9, if_neg (show ¬ (1 : Int32) = 0 by decide), e]
                        rw [eX13_isName_113]
                        rfl
                      · rw [if_neg y9, if_pos rfl]
                        rw [kX13_isWord zstr_94 (by omega) (by decide) T w, Option.bind_some]
                        by_cases y10 : zisw tp k.1 k.2.1 k.2.2.1 [97, 102, 114, 97, 105, 100] = true
                        · have e : zisN tp k = false := by simp [zisN, zsol, y0, y1, y2, y3, y4, y5, y6, y7, y8, y9, y10]
                          rw [if_pos y10, if_neg (show ¬ (1 : Int32) = 0 by decide), e]
                          rw [eX13_isName_113]
                          rfl
                        · rw [if_neg y10, if_pos rfl]
                          have e : zisN tp k = true := by simp [zisN, zsol, y0, y1, y2, y3, y4, y5, y6, y7, y8, y9, y10]; exact y
                          rw [e]
                          rfl
  · have e : zisN tp k = false := by simp [zisN, y]
    rw [if_neg (fun z => y (t9.1.mp z)), e]
    rfl
theorem kX13_isName5 (hd : 0 < d) {I : Nat → Int32} {W : Int64} (e9 : I 9 = 5) : nzxI d nX13_isName [.ref 73] (zmS h F0 I W td rd tp A) = some (0, zmS h F0 I W td rd tp A) := by
  refine iX13_isName hd zmS_o ?_
  rw [eX13_isName_0, zI_9, Option.bind_some, e9, if_neg (by decide), eX13_isName_62]
end NZIN
