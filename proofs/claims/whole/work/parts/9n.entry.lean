/-! the law's entry: classes and constants as the Statement gives them; written by wip/gen/gen_entry.py -/
theorem zentK {s : State} {args : Array Value} (hts : ∀ w ∈ lw_tbl, w.before args s = true) : ∃ (D : va_G) (cA : FieldType → ClassId), va_K D vwCl (nzTys cA) s := by
  obtain ⟨c0, i0, k0⟩ := u_known (C := RX0) (T := TX0) (N := 2) (n := 2) hts nzin0 (hts (.instantiable RX0 2) (by decide +kernel))
  obtain ⟨c1, i1, k1⟩ := u_known (C := RX1) (T := TX1) (N := 9) (n := 9) hts nzin1 (hts (.instantiable RX1 9) (by decide +kernel))
  obtain ⟨c2, i2, k2⟩ := u_known (C := RX2) (T := TX2) (N := 4) (n := 4) hts nzin2 (hts (.instantiable RX2 4) (by decide +kernel))
  obtain ⟨c3, i3, k3⟩ := u_known (C := RX3) (T := TX3) (N := 4) (n := 4) hts nzin3 (hts (.instantiable RX3 4) (by decide +kernel))
  obtain ⟨c4, i4, k4⟩ := u_known (C := RX4) (T := TX4) (N := 4) (n := 4) hts nzin4 (hts (.instantiable RX4 4) (by decide +kernel))
  obtain ⟨c5, i5, k5⟩ := u_known (C := RX5) (T := TX5) (N := 4) (n := 4) hts nzin5 (hts (.instantiable RX5 4) (by decide +kernel))
  obtain ⟨c6, i6, k6⟩ := u_known (C := RX6) (T := TX6) (N := 4) (n := 4) hts nzin6 (hts (.instantiable RX6 4) (by decide +kernel))
  obtain ⟨c7, i7, k7⟩ := u_known (C := RX7) (T := TX7) (N := 5) (n := 5) hts nzin7 (hts (.instantiable RX7 5) (by decide +kernel))
  obtain ⟨c8, i8, k8⟩ := u_known (C := RX8) (T := TX8) (N := 2) (n := 2) hts nzin8 (hts (.instantiable RX8 2) (by decide +kernel))
  obtain ⟨c9, i9, k9⟩ := u_known (C := RX9) (T := TX9) (N := 9) (n := 9) hts nzin9 (hts (.instantiable RX9 9) (by decide +kernel))
  obtain ⟨c10, i10, k10⟩ := u_known (C := RX10) (T := TX10) (N := 4) (n := 4) hts nzin10 (hts (.instantiable RX10 4) (by decide +kernel))
  obtain ⟨c11, i11, k11⟩ := u_known (C := RX11) (T := TX11) (N := 11) (n := 11) hts nzin11 (hts (.instantiable RX11 11) (by decide +kernel))
  obtain ⟨c12, i12, k12⟩ := u_known (C := RX12) (T := TX12) (N := 37) (n := 37) hts nzin12 (hts (.instantiable RX12 37) (by decide +kernel))
  obtain ⟨c13, i13, k13⟩ := u_known (C := RX13) (T := TX13) (N := 46) (n := 46) hts nzin13 (hts (.instantiable RX13 46) (by decide +kernel))
  obtain ⟨a0, x0, y0, f0, g0, e0⟩ := Cond.arrayClass_spec (hts _ nzac_int)
  obtain ⟨a1, x1, y1, f1, g1, e1⟩ := Cond.arrayClass_spec (hts _ nzac_long)
  obtain ⟨a2, x2, y2, f2, g2, e2⟩ := Cond.arrayClass_spec (hts _ nzac_byte)
  obtain ⟨a3, x3, y3, f3, g3, e3⟩ := Cond.arrayClass_spec (hts _ nzac_bool)
  obtain ⟨y4, a4, x4, -, g4, e4, f4⟩ := Cond.arrayOver_specA (hts _ nzao_int)
  refine ⟨(fun k => [c0, c1, c2, c3, c4, c5, c6, c7, c8, c9, c10, c11, c12, c13].getD k c0, fun k => [i0, i1, i2, i3, i4, i5, i6, i7, i8, i9, i10, i11, i12, i13].getD k i0), fun ty => match ty with | .int => a0 | .long => a1 | .byte => a2 | .boolean => a3 | _ => a4, fun k q hq => ?_, fun k q hq => ?_⟩
  · match k, hq with
    | 0, hq => cases hq; exact k0
    | 1, hq => cases hq; exact k1
    | 2, hq => cases hq; exact k2
    | 3, hq => cases hq; exact k3
    | 4, hq => cases hq; exact k4
    | 5, hq => cases hq; exact k5
    | 6, hq => cases hq; exact k6
    | 7, hq => cases hq; exact k7
    | 8, hq => cases hq; exact k8
    | 9, hq => cases hq; exact k9
    | 10, hq => cases hq; exact k10
    | 11, hq => cases hq; exact k11
    | 12, hq => cases hq; exact k12
    | 13, hq => cases hq; exact k13
    | k + 14, hq => simp [vwCl] at hq
  · match k, hq with
    | 0, hq => cases hq; exact ⟨fun n z => ⟨fun k h => (by cases h), x0, g0, y0, e0⟩, f0⟩
    | 1, hq => cases hq; exact ⟨fun n z => ⟨fun k h => (by cases h), x1, g1, y1, e1⟩, f1⟩
    | 2, hq => cases hq; exact ⟨fun n z => ⟨fun k h => (by cases h), x2, g2, y2, e2⟩, f2⟩
    | 3, hq => cases hq; exact ⟨fun n z => ⟨fun k h => (by cases h), x3, g3, y3, e3⟩, f3⟩
    | 4, hq => cases hq; exact ⟨fun n z => ⟨fun k h => (by cases h), x4, g4, y4, e4⟩, f4⟩
    | k + 5, hq => simp [nzTys] at hq
def zflat : List Cond := flatC (Jvm.Cond.and given_1 narrow_1)
def zsT (z : String × Nat × String) : Term := .string z.1 z.2.1
def zsV (z : String × Nat × String) : Term := .field (zsT z) "java/lang/String" "value" "[B"
def zsE (z : String × Nat × String) (l : List Nat) (j : Nat) : Cond := .eq (.elem (zsV z) (.int (Int32.ofNat j))) (.int (nI (l.getD j 0)))
def zsC (z : String × Nat × String) (l : List Nat) : List Cond := [.exactly (zsT z) "java/lang/String", .eq (.field (zsT z) "java/lang/String" "coder" "B") (.int 0), .arrayOf (zsV z) .byte, .eq (.length (zsV z)) (.int (Int32.ofNat l.length))] ++ (List.range l.length).map (zsE z l)
theorem zsQ_0 : zsC ("NoonMeals$DayReader", 83, "law") [108, 97, 119] = [37, 38, 39, 40, 41, 42, 43].filterMap (fun i => zflat[i]?) := by decide +kernel
theorem zsR_0 : Cond.stringRef "NoonMeals$DayReader" 83 "law" ∈ lw_tbl := by decide +kernel
theorem zsQ_1 : zsC ("NoonMeals$DayReader", 89, "kitchen") [107, 105, 116, 99, 104, 101, 110] = [44, 45, 46, 47, 48, 49, 50, 51, 52, 53, 54].filterMap (fun i => zflat[i]?) := by decide +kernel
theorem zsR_1 : Cond.stringRef "NoonMeals$DayReader" 89 "kitchen" ∈ lw_tbl := by decide +kernel
theorem zsQ_2 : zsC ("NoonMeals$DayReader", 91, "flood") [102, 108, 111, 111, 100] = [55, 56, 57, 58, 59, 60, 61, 62, 63].filterMap (fun i => zflat[i]?) := by decide +kernel
theorem zsR_2 : Cond.stringRef "NoonMeals$DayReader" 91 "flood" ∈ lw_tbl := by decide +kernel
theorem zsQ_3 : zsC ("NoonMeals$DayReader", 93, "dish") [100, 105, 115, 104] = [64, 65, 66, 67, 68, 69, 70, 71].filterMap (fun i => zflat[i]?) := by decide +kernel
theorem zsR_3 : Cond.stringRef "NoonMeals$DayReader" 93 "dish" ∈ lw_tbl := by decide +kernel
theorem zsQ_4 : zsC ("NoonMeals$DayReader", 95, "diet") [100, 105, 101, 116] = [72, 73, 74, 75, 76, 77, 78, 79].filterMap (fun i => zflat[i]?) := by decide +kernel
theorem zsR_4 : Cond.stringRef "NoonMeals$DayReader" 95 "diet" ∈ lw_tbl := by decide +kernel
theorem zsQ_5 : zsC ("NoonMeals$DayReader", 97, "house") [104, 111, 117, 115, 101] = [80, 81, 82, 83, 84, 85, 86, 87, 88].filterMap (fun i => zflat[i]?) := by decide +kernel
theorem zsR_5 : Cond.stringRef "NoonMeals$DayReader" 97 "house" ∈ lw_tbl := by decide +kernel
theorem zsQ_6 : zsC ("NoonMeals$DayReader", 99, "car") [99, 97, 114] = [89, 90, 91, 92, 93, 94, 95].filterMap (fun i => zflat[i]?) := by decide +kernel
theorem zsR_6 : Cond.stringRef "NoonMeals$DayReader" 99 "car" ∈ lw_tbl := by decide +kernel
theorem zsQ_7 : zsC ("NoonMeals$DayReader", 101, "call") [99, 97, 108, 108] = [96, 97, 98, 99, 100, 101, 102, 103].filterMap (fun i => zflat[i]?) := by decide +kernel
theorem zsR_7 : Cond.stringRef "NoonMeals$DayReader" 101 "call" ∈ lw_tbl := by decide +kernel
theorem zsQ_8 : zsC ("NoonMeals$DayReader", 103, "helper") [104, 101, 108, 112, 101, 114] = [104, 105, 106, 107, 108, 109, 110, 111, 112, 113].filterMap (fun i => zflat[i]?) := by decide +kernel
theorem zsR_8 : Cond.stringRef "NoonMeals$DayReader" 103 "helper" ∈ lw_tbl := by decide +kernel
theorem zsQ_9 : zsC ("NoonMeals$DayReader", 105, "hot") [104, 111, 116] = [114, 115, 116, 117, 118, 119, 120].filterMap (fun i => zflat[i]?) := by decide +kernel
theorem zsR_9 : Cond.stringRef "NoonMeals$DayReader" 105 "hot" ∈ lw_tbl := by decide +kernel
theorem zsQ_10 : zsC ("NoonMeals$DayReader", 114, "by") [98, 121] = [121, 122, 123, 124, 125, 126].filterMap (fun i => zflat[i]?) := by decide +kernel
theorem zsR_10 : Cond.stringRef "NoonMeals$DayReader" 114 "by" ∈ lw_tbl := by decide +kernel
theorem zsQ_11 : zsC ("NoonMeals$DayReader", 146, "dog") [100, 111, 103] = [127, 128, 129, 130, 131, 132, 133].filterMap (fun i => zflat[i]?) := by decide +kernel
theorem zsR_11 : Cond.stringRef "NoonMeals$DayReader" 146 "dog" ∈ lw_tbl := by decide +kernel
theorem zsQ_12 : zsC ("NoonMeals$DayReader", 160, "afraid") [97, 102, 114, 97, 105, 100] = [134, 135, 136, 137, 138, 139, 140, 141, 142, 143].filterMap (fun i => zflat[i]?) := by decide +kernel
theorem zsR_12 : Cond.stringRef "NoonMeals$DayReader" 160 "afraid" ∈ lw_tbl := by decide +kernel
theorem zsQ_13 : zsC ("NoonMeals$DayReader", 119, "at") [97, 116] = [144, 145, 146, 147, 148, 149].filterMap (fun i => zflat[i]?) := by decide +kernel
theorem zsR_13 : Cond.stringRef "NoonMeals$DayReader" 119 "at" ∈ lw_tbl := by decide +kernel
theorem zsQ_14 : zsC ("NoonMeals$DayReader", 121, "adds") [97, 100, 100, 115] = [150, 151, 152, 153, 154, 155, 156, 157].filterMap (fun i => zflat[i]?) := by decide +kernel
theorem zsR_14 : Cond.stringRef "NoonMeals$DayReader" 121 "adds" ∈ lw_tbl := by decide +kernel
theorem zsQ_15 : zsC ("NoonMeals$DayReader", 123, "of") [111, 102] = [158, 159, 160, 161, 162, 163].filterMap (fun i => zflat[i]?) := by decide +kernel
theorem zsR_15 : Cond.stringRef "NoonMeals$DayReader" 123 "of" ∈ lw_tbl := by decide +kernel
theorem zsQ_16 : zsC ("NoonMeals$DayReader", 128, "costs") [99, 111, 115, 116, 115] = [164, 165, 166, 167, 168, 169, 170, 171, 172].filterMap (fun i => zflat[i]?) := by decide +kernel
theorem zsR_16 : Cond.stringRef "NoonMeals$DayReader" 128 "costs" ∈ lw_tbl := by decide +kernel
theorem zsQ_17 : zsC ("NoonMeals$DayReader", 130, "bars") [98, 97, 114, 115] = [173, 174, 175, 176, 177, 178, 179, 180].filterMap (fun i => zflat[i]?) := by decide +kernel
theorem zsR_17 : Cond.stringRef "NoonMeals$DayReader" 130 "bars" ∈ lw_tbl := by decide +kernel
theorem zsQ_18 : zsC ("NoonMeals$DayReader", 132, "eats") [101, 97, 116, 115] = [181, 182, 183, 184, 185, 186, 187, 188].filterMap (fun i => zflat[i]?) := by decide +kernel
theorem zsR_18 : Cond.stringRef "NoonMeals$DayReader" 132 "eats" ∈ lw_tbl := by decide +kernel
theorem zsQ_19 : zsC ("NoonMeals$DayReader", 138, "doors") [100, 111, 111, 114, 115] = [189, 190, 191, 192, 193, 194, 195, 196, 197].filterMap (fun i => zflat[i]?) := by decide +kernel
theorem zsR_19 : Cond.stringRef "NoonMeals$DayReader" 138 "doors" ∈ lw_tbl := by decide +kernel
theorem zsQ_20 : zsC ("NoonMeals$DayReader", 140, "tea") [116, 101, 97] = [198, 199, 200, 201, 202, 203, 204].filterMap (fun i => zflat[i]?) := by decide +kernel
theorem zsR_20 : Cond.stringRef "NoonMeals$DayReader" 140 "tea" ∈ lw_tbl := by decide +kernel
theorem zsQ_21 : zsC ("NoonMeals$DayReader", 142, "chance") [99, 104, 97, 110, 99, 101] = [205, 206, 207, 208, 209, 210, 211, 212, 213, 214].filterMap (fun i => zflat[i]?) := by decide +kernel
theorem zsR_21 : Cond.stringRef "NoonMeals$DayReader" 142 "chance" ∈ lw_tbl := by decide +kernel
theorem zsQ_22 : zsC ("NoonMeals$DayReader", 144, "need") [110, 101, 101, 100] = [215, 216, 217, 218, 219, 220, 221, 222].filterMap (fun i => zflat[i]?) := by decide +kernel
theorem zsR_22 : Cond.stringRef "NoonMeals$DayReader" 144 "need" ∈ lw_tbl := by decide +kernel
theorem zsQ_23 : zsC ("NoonMeals$DayReader", 152, "from") [102, 114, 111, 109] = [223, 224, 225, 226, 227, 228, 229, 230].filterMap (fun i => zflat[i]?) := by decide +kernel
theorem zsR_23 : Cond.stringRef "NoonMeals$DayReader" 152 "from" ∈ lw_tbl := by decide +kernel
theorem zsQ_24 : zsC ("NoonMeals$DayReader", 154, "starts") [115, 116, 97, 114, 116, 115] = [231, 232, 233, 234, 235, 236, 237, 238, 239, 240].filterMap (fun i => zflat[i]?) := by decide +kernel
theorem zsR_24 : Cond.stringRef "NoonMeals$DayReader" 154 "starts" ∈ lw_tbl := by decide +kernel
theorem zsQ_25 : zsC ("NoonMeals$DayReader", 156, "holds") [104, 111, 108, 100, 115] = [241, 242, 243, 244, 245, 246, 247, 248, 249].filterMap (fun i => zflat[i]?) := by decide +kernel
theorem zsR_25 : Cond.stringRef "NoonMeals$DayReader" 156 "holds" ∈ lw_tbl := by decide +kernel
theorem zsQ_26 : zsC ("NoonMeals$DayReader", 158, "cools") [99, 111, 111, 108, 115] = [250, 251, 252, 253, 254, 255, 256, 257, 258].filterMap (fun i => zflat[i]?) := by decide +kernel
theorem zsR_26 : Cond.stringRef "NoonMeals$DayReader" 158 "cools" ∈ lw_tbl := by decide +kernel
theorem zsQ_27 : zsC ("NoonMeals$DayReader", 162, "takes") [116, 97, 107, 101, 115] = [259, 260, 261, 262, 263, 264, 265, 266, 267].filterMap (fun i => zflat[i]?) := by decide +kernel
theorem zsR_27 : Cond.stringRef "NoonMeals$DayReader" 162 "takes" ∈ lw_tbl := by decide +kernel
theorem zsQ_28 : zsC ("NoonMeals$DayReader", 164, "days") [100, 97, 121, 115] = [268, 269, 270, 271, 272, 273, 274, 275].filterMap (fun i => zflat[i]?) := by decide +kernel
theorem zsR_28 : Cond.stringRef "NoonMeals$DayReader" 164 "days" ∈ lw_tbl := by decide +kernel
theorem zsQ_29 : zsC ("NoonMeals$DayReader", 169, "most") [109, 111, 115, 116] = [276, 277, 278, 279, 280, 281, 282, 283].filterMap (fun i => zflat[i]?) := by decide +kernel
theorem zsR_29 : Cond.stringRef "NoonMeals$DayReader" 169 "most" ∈ lw_tbl := by decide +kernel
theorem zsQ_30 : zsC ("NoonMealsModel", 165, "law") [108, 97, 119] = [312, 313, 314, 315, 316, 317, 318].filterMap (fun i => zflat[i]?) := by decide +kernel
theorem zsR_30 : Cond.stringRef "NoonMealsModel" 165 "law" ∈ lw_tbl := by decide +kernel
theorem zsQ_31 : zsC ("NoonMealsModel", 256, "hot") [104, 111, 116] = [320, 321, 322, 323, 324, 325, 326].filterMap (fun i => zflat[i]?) := by decide +kernel
theorem zsR_31 : Cond.stringRef "NoonMealsModel" 256 "hot" ∈ lw_tbl := by decide +kernel
theorem zsQ_32 : zsC ("NoonMealsModel", 261, "by") [98, 121] = [328, 329, 330, 331, 332, 333].filterMap (fun i => zflat[i]?) := by decide +kernel
theorem zsR_32 : Cond.stringRef "NoonMealsModel" 261 "by" ∈ lw_tbl := by decide +kernel
theorem zsQ_33 : zsC ("NoonMealsModel", 167, "kitchen") [107, 105, 116, 99, 104, 101, 110] = [335, 336, 337, 338, 339, 340, 341, 342, 343, 344, 345].filterMap (fun i => zflat[i]?) := by decide +kernel
theorem zsR_33 : Cond.stringRef "NoonMealsModel" 167 "kitchen" ∈ lw_tbl := by decide +kernel
theorem zsQ_34 : zsC ("NoonMealsModel", 169, "flood") [102, 108, 111, 111, 100] = [347, 348, 349, 350, 351, 352, 353, 354, 355].filterMap (fun i => zflat[i]?) := by decide +kernel
theorem zsR_34 : Cond.stringRef "NoonMealsModel" 169 "flood" ∈ lw_tbl := by decide +kernel
theorem zsQ_35 : zsC ("NoonMealsModel", 171, "dish") [100, 105, 115, 104] = [357, 358, 359, 360, 361, 362, 363, 364].filterMap (fun i => zflat[i]?) := by decide +kernel
theorem zsR_35 : Cond.stringRef "NoonMealsModel" 171 "dish" ∈ lw_tbl := by decide +kernel
theorem zsQ_36 : zsC ("NoonMealsModel", 173, "diet") [100, 105, 101, 116] = [366, 367, 368, 369, 370, 371, 372, 373].filterMap (fun i => zflat[i]?) := by decide +kernel
theorem zsR_36 : Cond.stringRef "NoonMealsModel" 173 "diet" ∈ lw_tbl := by decide +kernel
theorem zsQ_37 : zsC ("NoonMealsModel", 175, "house") [104, 111, 117, 115, 101] = [375, 376, 377, 378, 379, 380, 381, 382, 383].filterMap (fun i => zflat[i]?) := by decide +kernel
theorem zsR_37 : Cond.stringRef "NoonMealsModel" 175 "house" ∈ lw_tbl := by decide +kernel
theorem zsQ_38 : zsC ("NoonMealsModel", 177, "car") [99, 97, 114] = [385, 386, 387, 388, 389, 390, 391].filterMap (fun i => zflat[i]?) := by decide +kernel
theorem zsR_38 : Cond.stringRef "NoonMealsModel" 177 "car" ∈ lw_tbl := by decide +kernel
theorem zsQ_39 : zsC ("NoonMealsModel", 179, "call") [99, 97, 108, 108] = [393, 394, 395, 396, 397, 398, 399, 400].filterMap (fun i => zflat[i]?) := by decide +kernel
theorem zsR_39 : Cond.stringRef "NoonMealsModel" 179 "call" ∈ lw_tbl := by decide +kernel
theorem zsQ_40 : zsC ("NoonMealsModel", 181, "helper") [104, 101, 108, 112, 101, 114] = [402, 403, 404, 405, 406, 407, 408, 409, 410, 411].filterMap (fun i => zflat[i]?) := by decide +kernel
theorem zsR_40 : Cond.stringRef "NoonMealsModel" 181 "helper" ∈ lw_tbl := by decide +kernel
theorem zsQ_41 : zsC ("NoonMealsModel", 183, "dog") [100, 111, 103] = [413, 414, 415, 416, 417, 418, 419].filterMap (fun i => zflat[i]?) := by decide +kernel
theorem zsR_41 : Cond.stringRef "NoonMealsModel" 183 "dog" ∈ lw_tbl := by decide +kernel
theorem zsQ_42 : zsC ("NoonMealsModel", 185, "afraid") [97, 102, 114, 97, 105, 100] = [421, 422, 423, 424, 425, 426, 427, 428, 429, 430].filterMap (fun i => zflat[i]?) := by decide +kernel
theorem zsR_42 : Cond.stringRef "NoonMealsModel" 185 "afraid" ∈ lw_tbl := by decide +kernel
theorem zsQ_43 : zsC ("NoonMealsModel", 272, "at") [97, 116] = [432, 433, 434, 435, 436, 437].filterMap (fun i => zflat[i]?) := by decide +kernel
theorem zsR_43 : Cond.stringRef "NoonMealsModel" 272 "at" ∈ lw_tbl := by decide +kernel
theorem zsQ_44 : zsC ("NoonMealsModel", 282, "adds") [97, 100, 100, 115] = [439, 440, 441, 442, 443, 444, 445, 446].filterMap (fun i => zflat[i]?) := by decide +kernel
theorem zsR_44 : Cond.stringRef "NoonMealsModel" 282 "adds" ∈ lw_tbl := by decide +kernel
theorem zsQ_45 : zsC ("NoonMealsModel", 293, "of") [111, 102] = [448, 449, 450, 451, 452, 453].filterMap (fun i => zflat[i]?) := by decide +kernel
theorem zsR_45 : Cond.stringRef "NoonMealsModel" 293 "of" ∈ lw_tbl := by decide +kernel
theorem zsQ_46 : zsC ("NoonMealsModel", 298, "costs") [99, 111, 115, 116, 115] = [455, 456, 457, 458, 459, 460, 461, 462, 463].filterMap (fun i => zflat[i]?) := by decide +kernel
theorem zsR_46 : Cond.stringRef "NoonMealsModel" 298 "costs" ∈ lw_tbl := by decide +kernel
theorem zsQ_47 : zsC ("NoonMealsModel", 309, "bars") [98, 97, 114, 115] = [465, 466, 467, 468, 469, 470, 471, 472].filterMap (fun i => zflat[i]?) := by decide +kernel
theorem zsR_47 : Cond.stringRef "NoonMealsModel" 309 "bars" ∈ lw_tbl := by decide +kernel
theorem zsQ_48 : zsC ("NoonMealsModel", 313, "eats") [101, 97, 116, 115] = [474, 475, 476, 477, 478, 479, 480, 481].filterMap (fun i => zflat[i]?) := by decide +kernel
theorem zsR_48 : Cond.stringRef "NoonMealsModel" 313 "eats" ∈ lw_tbl := by decide +kernel
theorem zsQ_49 : zsC ("NoonMealsModel", 318, "doors") [100, 111, 111, 114, 115] = [483, 484, 485, 486, 487, 488, 489, 490, 491].filterMap (fun i => zflat[i]?) := by decide +kernel
theorem zsR_49 : Cond.stringRef "NoonMealsModel" 318 "doors" ∈ lw_tbl := by decide +kernel
theorem zsQ_50 : zsC ("NoonMealsModel", 320, "tea") [116, 101, 97] = [493, 494, 495, 496, 497, 498, 499].filterMap (fun i => zflat[i]?) := by decide +kernel
theorem zsR_50 : Cond.stringRef "NoonMealsModel" 320 "tea" ∈ lw_tbl := by decide +kernel
theorem zsQ_51 : zsC ("NoonMealsModel", 322, "chance") [99, 104, 97, 110, 99, 101] = [501, 502, 503, 504, 505, 506, 507, 508, 509, 510].filterMap (fun i => zflat[i]?) := by decide +kernel
theorem zsR_51 : Cond.stringRef "NoonMealsModel" 322 "chance" ∈ lw_tbl := by decide +kernel
theorem zsQ_52 : zsC ("NoonMealsModel", 324, "need") [110, 101, 101, 100] = [512, 513, 514, 515, 516, 517, 518, 519].filterMap (fun i => zflat[i]?) := by decide +kernel
theorem zsR_52 : Cond.stringRef "NoonMealsModel" 324 "need" ∈ lw_tbl := by decide +kernel
theorem zsQ_53 : zsC ("NoonMealsModel", 346, "from") [102, 114, 111, 109] = [521, 522, 523, 524, 525, 526, 527, 528].filterMap (fun i => zflat[i]?) := by decide +kernel
theorem zsR_53 : Cond.stringRef "NoonMealsModel" 346 "from" ∈ lw_tbl := by decide +kernel
theorem zsQ_54 : zsC ("NoonMealsModel", 348, "starts") [115, 116, 97, 114, 116, 115] = [530, 531, 532, 533, 534, 535, 536, 537, 538, 539].filterMap (fun i => zflat[i]?) := by decide +kernel
theorem zsR_54 : Cond.stringRef "NoonMealsModel" 348 "starts" ∈ lw_tbl := by decide +kernel
theorem zsQ_55 : zsC ("NoonMealsModel", 350, "holds") [104, 111, 108, 100, 115] = [541, 542, 543, 544, 545, 546, 547, 548, 549].filterMap (fun i => zflat[i]?) := by decide +kernel
theorem zsR_55 : Cond.stringRef "NoonMealsModel" 350 "holds" ∈ lw_tbl := by decide +kernel
theorem zsQ_56 : zsC ("NoonMealsModel", 352, "cools") [99, 111, 111, 108, 115] = [551, 552, 553, 554, 555, 556, 557, 558, 559].filterMap (fun i => zflat[i]?) := by decide +kernel
theorem zsR_56 : Cond.stringRef "NoonMealsModel" 352 "cools" ∈ lw_tbl := by decide +kernel
theorem zsQ_57 : zsC ("NoonMealsModel", 368, "takes") [116, 97, 107, 101, 115] = [561, 562, 563, 564, 565, 566, 567, 568, 569].filterMap (fun i => zflat[i]?) := by decide +kernel
theorem zsR_57 : Cond.stringRef "NoonMealsModel" 368 "takes" ∈ lw_tbl := by decide +kernel
theorem zsQ_58 : zsC ("NoonMealsModel", 378, "days") [100, 97, 121, 115] = [571, 572, 573, 574, 575, 576, 577, 578].filterMap (fun i => zflat[i]?) := by decide +kernel
theorem zsR_58 : Cond.stringRef "NoonMealsModel" 378 "days" ∈ lw_tbl := by decide +kernel
theorem zsQ_59 : zsC ("NoonMealsModel", 380, "most") [109, 111, 115, 116] = [580, 581, 582, 583, 584, 585, 586, 587].filterMap (fun i => zflat[i]?) := by decide +kernel
theorem zsR_59 : Cond.stringRef "NoonMealsModel" 380 "most" ∈ lw_tbl := by decide +kernel
theorem zsIn {ws : List Cond} {ps : List Nat} (h : ws = ps.filterMap (fun i => zflat[i]?)) : ∀ w ∈ ws, w ∈ zflat := fun w hw => by
  rw [h] at hw
  obtain ⟨i, -, hi⟩ := List.mem_filterMap.mp hw
  exact List.mem_of_getElem? hi
theorem zsA : ∀ (j : Nat) (z : String × Nat × String) (l : List Nat), nzStrAt[j]? = some z → nzStr[j]? = some l → (∀ w ∈ zsC z l, w ∈ zflat) ∧ Cond.stringRef z.1 z.2.1 z.2.2 ∈ lw_tbl ∧ l.length < 2 ^ 31 := by
  intro j z l hz hl
  match j, hz, hl with
  | 0, hz, hl => cases hz; cases hl; exact ⟨zsIn zsQ_0, zsR_0, by decide⟩
  | 1, hz, hl => cases hz; cases hl; exact ⟨zsIn zsQ_1, zsR_1, by decide⟩
  | 2, hz, hl => cases hz; cases hl; exact ⟨zsIn zsQ_2, zsR_2, by decide⟩
  | 3, hz, hl => cases hz; cases hl; exact ⟨zsIn zsQ_3, zsR_3, by decide⟩
  | 4, hz, hl => cases hz; cases hl; exact ⟨zsIn zsQ_4, zsR_4, by decide⟩
  | 5, hz, hl => cases hz; cases hl; exact ⟨zsIn zsQ_5, zsR_5, by decide⟩
  | 6, hz, hl => cases hz; cases hl; exact ⟨zsIn zsQ_6, zsR_6, by decide⟩
  | 7, hz, hl => cases hz; cases hl; exact ⟨zsIn zsQ_7, zsR_7, by decide⟩
  | 8, hz, hl => cases hz; cases hl; exact ⟨zsIn zsQ_8, zsR_8, by decide⟩
  | 9, hz, hl => cases hz; cases hl; exact ⟨zsIn zsQ_9, zsR_9, by decide⟩
  | 10, hz, hl => cases hz; cases hl; exact ⟨zsIn zsQ_10, zsR_10, by decide⟩
  | 11, hz, hl => cases hz; cases hl; exact ⟨zsIn zsQ_11, zsR_11, by decide⟩
  | 12, hz, hl => cases hz; cases hl; exact ⟨zsIn zsQ_12, zsR_12, by decide⟩
  | 13, hz, hl => cases hz; cases hl; exact ⟨zsIn zsQ_13, zsR_13, by decide⟩
  | 14, hz, hl => cases hz; cases hl; exact ⟨zsIn zsQ_14, zsR_14, by decide⟩
  | 15, hz, hl => cases hz; cases hl; exact ⟨zsIn zsQ_15, zsR_15, by decide⟩
  | 16, hz, hl => cases hz; cases hl; exact ⟨zsIn zsQ_16, zsR_16, by decide⟩
  | 17, hz, hl => cases hz; cases hl; exact ⟨zsIn zsQ_17, zsR_17, by decide⟩
  | 18, hz, hl => cases hz; cases hl; exact ⟨zsIn zsQ_18, zsR_18, by decide⟩
  | 19, hz, hl => cases hz; cases hl; exact ⟨zsIn zsQ_19, zsR_19, by decide⟩
  | 20, hz, hl => cases hz; cases hl; exact ⟨zsIn zsQ_20, zsR_20, by decide⟩
  | 21, hz, hl => cases hz; cases hl; exact ⟨zsIn zsQ_21, zsR_21, by decide⟩
  | 22, hz, hl => cases hz; cases hl; exact ⟨zsIn zsQ_22, zsR_22, by decide⟩
  | 23, hz, hl => cases hz; cases hl; exact ⟨zsIn zsQ_23, zsR_23, by decide⟩
  | 24, hz, hl => cases hz; cases hl; exact ⟨zsIn zsQ_24, zsR_24, by decide⟩
  | 25, hz, hl => cases hz; cases hl; exact ⟨zsIn zsQ_25, zsR_25, by decide⟩
  | 26, hz, hl => cases hz; cases hl; exact ⟨zsIn zsQ_26, zsR_26, by decide⟩
  | 27, hz, hl => cases hz; cases hl; exact ⟨zsIn zsQ_27, zsR_27, by decide⟩
  | 28, hz, hl => cases hz; cases hl; exact ⟨zsIn zsQ_28, zsR_28, by decide⟩
  | 29, hz, hl => cases hz; cases hl; exact ⟨zsIn zsQ_29, zsR_29, by decide⟩
  | 30, hz, hl => cases hz; cases hl; exact ⟨zsIn zsQ_30, zsR_30, by decide⟩
  | 31, hz, hl => cases hz; cases hl; exact ⟨zsIn zsQ_31, zsR_31, by decide⟩
  | 32, hz, hl => cases hz; cases hl; exact ⟨zsIn zsQ_32, zsR_32, by decide⟩
  | 33, hz, hl => cases hz; cases hl; exact ⟨zsIn zsQ_33, zsR_33, by decide⟩
  | 34, hz, hl => cases hz; cases hl; exact ⟨zsIn zsQ_34, zsR_34, by decide⟩
  | 35, hz, hl => cases hz; cases hl; exact ⟨zsIn zsQ_35, zsR_35, by decide⟩
  | 36, hz, hl => cases hz; cases hl; exact ⟨zsIn zsQ_36, zsR_36, by decide⟩
  | 37, hz, hl => cases hz; cases hl; exact ⟨zsIn zsQ_37, zsR_37, by decide⟩
  | 38, hz, hl => cases hz; cases hl; exact ⟨zsIn zsQ_38, zsR_38, by decide⟩
  | 39, hz, hl => cases hz; cases hl; exact ⟨zsIn zsQ_39, zsR_39, by decide⟩
  | 40, hz, hl => cases hz; cases hl; exact ⟨zsIn zsQ_40, zsR_40, by decide⟩
  | 41, hz, hl => cases hz; cases hl; exact ⟨zsIn zsQ_41, zsR_41, by decide⟩
  | 42, hz, hl => cases hz; cases hl; exact ⟨zsIn zsQ_42, zsR_42, by decide⟩
  | 43, hz, hl => cases hz; cases hl; exact ⟨zsIn zsQ_43, zsR_43, by decide⟩
  | 44, hz, hl => cases hz; cases hl; exact ⟨zsIn zsQ_44, zsR_44, by decide⟩
  | 45, hz, hl => cases hz; cases hl; exact ⟨zsIn zsQ_45, zsR_45, by decide⟩
  | 46, hz, hl => cases hz; cases hl; exact ⟨zsIn zsQ_46, zsR_46, by decide⟩
  | 47, hz, hl => cases hz; cases hl; exact ⟨zsIn zsQ_47, zsR_47, by decide⟩
  | 48, hz, hl => cases hz; cases hl; exact ⟨zsIn zsQ_48, zsR_48, by decide⟩
  | 49, hz, hl => cases hz; cases hl; exact ⟨zsIn zsQ_49, zsR_49, by decide⟩
  | 50, hz, hl => cases hz; cases hl; exact ⟨zsIn zsQ_50, zsR_50, by decide⟩
  | 51, hz, hl => cases hz; cases hl; exact ⟨zsIn zsQ_51, zsR_51, by decide⟩
  | 52, hz, hl => cases hz; cases hl; exact ⟨zsIn zsQ_52, zsR_52, by decide⟩
  | 53, hz, hl => cases hz; cases hl; exact ⟨zsIn zsQ_53, zsR_53, by decide⟩
  | 54, hz, hl => cases hz; cases hl; exact ⟨zsIn zsQ_54, zsR_54, by decide⟩
  | 55, hz, hl => cases hz; cases hl; exact ⟨zsIn zsQ_55, zsR_55, by decide⟩
  | 56, hz, hl => cases hz; cases hl; exact ⟨zsIn zsQ_56, zsR_56, by decide⟩
  | 57, hz, hl => cases hz; cases hl; exact ⟨zsIn zsQ_57, zsR_57, by decide⟩
  | 58, hz, hl => cases hz; cases hl; exact ⟨zsIn zsQ_58, zsR_58, by decide⟩
  | 59, hz, hl => cases hz; cases hl; exact ⟨zsIn zsQ_59, zsR_59, by decide⟩
  | j + 60, hz, hl => exact absurd (List.getElem?_eq_some_iff.mp hz).1 (by rw [show nzStrAt.length = 60 from rfl]; omega)
theorem zsN : nzStrAt.length = 60 ∧ nzStr.length = 60 := by decide +kernel
theorem zs_of {s : State} {args : Array Value} (hts : ∀ w ∈ lw_tbl, w.before args s = true) (hs : ∀ w ∈ zflat, w.before args s = true) {A : Nat → Prop} (hA : ∀ a : Nat, a < s.heap.size → ¬ A a) {j : Nat} {z : String × Nat × String} {l : List Nat} (hz : nzStrAt[j]? = some z) (hl : nzStr[j]? = some l) : ∃ q : Nat × Nat, vk_R z.1 z.2.1 z.2.2 q.1 s ∧ va_O "java/lang/String" q.1 A s s.heap ∧ va_OF "java/lang/String" "coder" "B" (.int 0) q.1 A s s.heap ∧ va_OF "java/lang/String" "value" "[B" (.ref q.2) q.1 A s s.heap ∧ va_T .byte q.2 l.length (fun j => .int (nI (l.getD j 0))) A s s.heap := by
  obtain ⟨h1, h2, h3⟩ := zsA j z l hz hl
  have h4 : ∀ w ∈ zsC z l, w.before args s = true := fun w hw => hs w (h1 w hw)
  have hex := h4 (.exactly (zsT z) "java/lang/String") (by simp [zsC])
  have hco := h4 (.eq (.field (zsT z) "java/lang/String" "coder" "B") (.int 0)) (by simp [zsC])
  have har := h4 (.arrayOf (zsV z) .byte) (by simp [zsC])
  have hle := h4 (.eq (.length (zsV z)) (.int (Int32.ofNat l.length))) (by simp [zsC])
  have hel : ∀ j, j < l.length → (zsE z l j).before args s = true := fun j hj => h4 _ (by
    unfold zsC
    exact List.mem_append_right _ (List.mem_map.mpr ⟨j, List.mem_range.mpr hj, rfl⟩))
  obtain ⟨a, c, cA, kA, q1, q2, q3, q4, q5, q6, -⟩ := Cond.exactly_spec (args := args) (first := s) (o := none) (s := s) (idx := []) (t := zsT z) (cls := "java/lang/String") hex
  obtain ⟨t, ht, hT⟩ := va_Tof (f := fun j => .int (nI (l.getD j 0))) (A := A) h3 har (va_eqt hle) (fun j hj => va_eqt (hel j hj)) hA
  exact ⟨(a, t), vk_R.of (hts _ h2) q1, ⟨cA, q3, q5, by rw [q6]; exact q2, hA a (Array.getElem?_eq_some_iff.mp q3).1⟩, vk_OFof q1 (va_eqt hco) hA, vk_OFof q1 ht hA, hT⟩
theorem zs_u : ∀ j, j < 60 → (UInt32.ofNat (10 + 2 * j)).toNat = 10 + 2 * j ∧ (UInt32.ofNat (11 + 2 * j)).toNat = 11 + 2 * j := by decide +kernel
theorem zentC {s : State} {a L : Nat} {xs : Nat → Int32} (hts : ∀ w ∈ lw_tbl, w.before #[Value.ref a] s = true) (hs : ∀ w ∈ zflat, w.before #[Value.ref a] s = true) (hX : va_X a L xs s s.heap) (hal : a < s.heap.size) : ∃ ck, nzCst s.heap.size ck (L, xs) s s.heap ∧ ck 0 = .ref a := by
  have hA : ∀ q : Nat, q < s.heap.size → ¬ nzFA s.heap.size q := fun q h => Nat.not_le.mpr h
  have h0 : ∀ j : Nat, ∃ q : Nat × Nat, ∀ z l, nzStrAt[j]? = some z → nzStr[j]? = some l → vk_R z.1 z.2.1 z.2.2 q.1 s ∧ va_O "java/lang/String" q.1 (nzFA s.heap.size) s s.heap ∧ va_OF "java/lang/String" "coder" "B" (.int 0) q.1 (nzFA s.heap.size) s s.heap ∧ va_OF "java/lang/String" "value" "[B" (.ref q.2) q.1 (nzFA s.heap.size) s s.heap ∧ va_T .byte q.2 l.length (fun j => .int (nI (l.getD j 0))) (nzFA s.heap.size) s s.heap := by
    intro j
    cases hz : nzStrAt[j]? with
    | none => exact ⟨(0, 0), fun z l e => by cases e⟩
    | some z =>
      cases hl : nzStr[j]? with
      | none => exact ⟨(0, 0), fun z l _ e => by cases e⟩
      | some l =>
        obtain ⟨q, hq⟩ := zs_of hts hs hA hz hl
        exact ⟨q, fun z' l' e1 e2 => by cases e1; cases e2; exact hq⟩
  obtain ⟨ad, had⟩ := Classical.axiomOfChoice h0
  obtain ⟨rt, hrt, hrT⟩ := va_Tof (args := #[Value.ref a]) (s := s) (tm := .static "NoonMeals" "ROOM" "[I") (ty := .int) (N := 9) (f := fun j => .int ([3, 6, 4, 6, 3, 3, 5, 5, 1].getD j 0)) (A := nzFA s.heap.size) (by decide) (hs _ (by decide +kernel)) (va_eqt (hs _ (by decide +kernel))) (fun j hj => by
    rcases (show j = 0 ∨ j = 1 ∨ j = 2 ∨ j = 3 ∨ j = 4 ∨ j = 5 ∨ j = 6 ∨ j = 7 ∨ j = 8 by omega) with rfl | rfl | rfl | rfl | rfl | rfl | rfl | rfl | rfl <;> exact va_eqt (hs _ (by decide +kernel))) hA
  have hrZ : va_Z "NoonMeals" "ROOM" "[I" (.ref rt) (nzFA s.heap.size) s s.heap := va_Zof (hts _ (by decide +kernel)) (hts _ (by decide +kernel)) hrt hA
  have hcZ : va_Z "java/lang/String" "COMPACT_STRINGS" "Z" (.int 1) (nzFA s.heap.size) s s.heap := va_Zof (hts _ (by decide +kernel)) (hts _ (by decide +kernel)) (va_eqt (hs _ (by decide +kernel))) hA
  have hfZ : ∃ v : Value, (v = .null ∨ ∃ t, v = .ref t) ∧ va_Z "jdk/internal/util/Preconditions" "SIOOBE_FORMATTER" "Ljava/util/function/BiFunction;" v (nzFA s.heap.size) s s.heap := by
    rcases va_Zqof (A := nzFA s.heap.size) (hts (.laysStatic "jdk/internal/util/Preconditions" "SIOOBE_FORMATTER" "Ljava/util/function/BiFunction;") (by decide +kernel)) (hts _ (by decide +kernel)) (hs _ (by decide +kernel)) hA with h | ⟨t, h⟩
    · exact ⟨.null, .inl rfl, h⟩
    · exact ⟨.ref t, .inr ⟨t, rfl⟩, h⟩
  obtain ⟨fv, hfv, hfZ⟩ := hfZ
  refine ⟨fun k => if k = 0 then .ref a else if k = 1 then .ref rt else if k = 2 then fv else if k.toNat < 10 then .null else if k.toNat % 2 = 0 then .ref (ad ((k.toNat - 10) / 2)).1 else .ref (ad ((k.toNat - 11) / 2)).2, ⟨fun k => ?_, ?_, ⟨rt, rfl, hrT⟩, hrZ, hcZ, hfZ, fun j z l hz hl => ?_, fun w hw hn => ?_, ?_⟩, rfl⟩
  · dsimp only
    split
    · exact .inr ⟨_, rfl⟩
    · split
      · exact .inr ⟨_, rfl⟩
      · split
        · exact hfv
        · split
          · exact .inl rfl
          · split
            · exact .inr ⟨_, rfl⟩
            · exact .inr ⟨_, rfl⟩
  · obtain ⟨scr, g1, g2, g3, g4, g5⟩ := hX
    exact ⟨a, rfl, scr, g1, g2, g3, Nat.le_of_eq g4.symm, by rw [g4], g5, hA a hal⟩
  · have hj : j < 60 := by
      have := (List.getElem?_eq_some_iff.mp hz).1
      rw [zsN.1] at this
      exact this
    have u := zs_u j hj
    have nz : ∀ k : UInt32, 10 ≤ k.toNat → ¬ k = 0 ∧ ¬ k = 1 ∧ ¬ k = 2 := fun k hk => ⟨fun e => by subst e; exact absurd hk (by decide), fun e => by subst e; exact absurd hk (by decide), fun e => by subst e; exact absurd hk (by decide)⟩
    obtain ⟨n0, n1, n2⟩ := nz (UInt32.ofNat (10 + 2 * j)) (by omega)
    obtain ⟨m0, m1, m2⟩ := nz (UInt32.ofNat (11 + 2 * j)) (by omega)
    obtain ⟨d1, d2, d3, d4, d5⟩ := had j z l hz hl
    refine ⟨(ad j).1, (ad j).2, ?_, ?_, d1, d2, d3, d4, d5⟩
    · dsimp only
      rw [if_neg n0, if_neg n1, if_neg n2, u.1, if_neg (by omega), if_pos (by omega), show (10 + 2 * j - 10) / 2 = j by omega]
    · dsimp only
      rw [if_neg m0, if_neg m1, if_neg m2, u.2, if_neg (by omega), if_neg (by omega), show (11 + 2 * j - 11) / 2 = j by omega]
  · match w, hn with
    | .fieldLinkNest a i c n d x, _ => exact va_Nw.of rfl (hts _ hw)
    | .methodLinkNest a i y x, _ => exact va_Nw.of rfl (hts _ hw)
  · exact hts _ nzao_int
