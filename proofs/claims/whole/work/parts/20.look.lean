/-! facts of the tables, a row each; written by wip/gen/gen_eq.py -/
theorem z_tr {α : Type} {a b c : α} (h1 : a = b) (h2 : b = c) : a = c := h1.trans h2
def nzntI : Instr → Bool
  | .ifnull _ => true
  | .ifnonnull _ => true
  | _ => false
theorem z_nt {m : nzM} {pc len : Nat} {i : Instr} (hd : decode m.2.2.1 pc = .ok (i, len)) : nznt m pc = nzntI i := by
  unfold nznt
  rw [hd]
  cases i <;> rfl
theorem z_ntF {m : nzM} {pc len : Nat} {i : Instr} (hd : decode m.2.2.1 pc = .ok (i, len)) (hi : nzntI i = false) : nznt m pc = false := (z_nt hd).trans hi
theorem z_ntT {m : nzM} {pc len : Nat} {i : Instr} (hd : decode m.2.2.1 pc = .ok (i, len)) (hi : nzntI i = true) : nznt m pc = true := (z_nt hd).trans hi
theorem z_getSVV {d : Nat} {m : nzM} {pc : Nat} {ls : nzL} {st : List Value} {h : nzH} {k kd : Nat} {a : UInt32} (hd : decode m.2.2.1 pc = .ok (.getfield k, 3)) (hk : nzlk nzTF m.1 k = some (kd, 18, 0, 2)) : nzr d m pc ls (.float a :: st) h = if nzkS a then nzr d m (pc + 3) ls (.float (a + 1) :: st) h else none := by
  rw [nzr_of hd]; simp only [nzact, nzgetf, hk, nzg]
  split <;> rfl
theorem z_getSCV {d : Nat} {m : nzM} {pc : Nat} {ls : nzL} {st : List Value} {h : nzH} {k kd : Nat} {a : UInt32} (hd : decode m.2.2.1 pc = .ok (.getfield k, 3)) (hk : nzlk nzTF m.1 k = some (kd, 18, 1, 0)) : nzr d m pc ls (.float a :: st) h = if nzkS a then nzr d m (pc + 3) ls (.int 0 :: st) h else none := by
  rw [nzr_of hd]; simp only [nzact, nzgetf, hk, nzg]
  split <;> rfl
theorem lF_0_9 : nzlk nzTF 0 9 = some (0, 0, 0, 2) := rfl
theorem lF_0_15 : nzlk nzTF 0 15 = some (0, 0, 1, 2) := rfl
theorem lM_0_3 : nzlk nzTM 0 3 = some (6, 0, nX0_init) := rfl
theorem lM_0_18 : nzlk nzTM 0 18 = some (1, 2, nJ7_fill_53178) := rfl
theorem lM_0_24 : nzlk nzTM 0 24 = some (0, 1, nX0_rows) := rfl
theorem lM_0_28 : nzlk nzTM 0 28 = some (0, 0, nX0_allHouses) := rfl
theorem lM_0_35 : nzlk nzTM 0 35 = some (0, 3, nX0_cellOf) := rfl
theorem lM_0_39 : nzlk nzTM 0 39 = some (9, 2, nX0_init) := rfl
theorem lM_0_45 : nzlk nzTM 0 45 = some (10, 2, nX0_init) := rfl
theorem lM_0_48 : nzlk nzTM 0 48 = some (0, 3, nX0_get) := rfl
theorem lM_0_51 : nzlk nzTM 0 51 = some (1, 2, nJ9_floorDiv_7cf53) := rfl
theorem lM_0_54 : nzlk nzTM 0 54 = some (0, 2, nX0_boxHeat) := rfl
theorem lM_0_57 : nzlk nzTM 0 57 = some (0, 1, nX0_dietOf) := rfl
theorem lM_0_60 : nzlk nzTM 0 60 = some (0, 2, nX0_barredLetters) := rfl
theorem lS_0_32 : nzlk nzTS 0 32 = some (.float 1) := rfl
theorem lF_1_12 : nzlk nzTF 1 12 = some (0, 1, 0, 2) := rfl
theorem lF_1_18 : nzlk nzTF 1 18 = some (0, 1, 1, 2) := rfl
theorem lF_1_22 : nzlk nzTF 1 22 = some (0, 1, 2, 2) := rfl
theorem lF_1_26 : nzlk nzTF 1 26 = some (0, 1, 3, 2) := rfl
theorem lF_1_32 : nzlk nzTF 1 32 = some (0, 1, 4, 2) := rfl
theorem lF_1_39 : nzlk nzTF 1 39 = some (0, 1, 5, 0) := rfl
theorem lF_1_43 : nzlk nzTF 1 43 = some (0, 1, 7, 0) := rfl
theorem lF_1_46 : nzlk nzTF 1 46 = some (0, 1, 8, 0) := rfl
theorem lF_1_60 : nzlk nzTF 1 60 = some (1, 9, 3, 0) := rfl
theorem lF_1_77 : nzlk nzTF 1 77 = some (0, 1, 6, 0) := rfl
theorem lF_1_174 : nzlk nzTF 1 174 = some (1, 9, 7, 0) := rfl
theorem lF_1_176 : nzlk nzTF 1 176 = some (1, 9, 8, 0) := rfl
theorem lF_1_188 : nzlk nzTF 1 188 = some (1, 9, 6, 1) := rfl
theorem lF_1_200 : nzlk nzTF 1 200 = some (1, 9, 4, 0) := rfl
theorem lM_1_3 : nzlk nzTM 1 3 = some (6, 0, nX0_init) := rfl
theorem lM_1_11 : nzlk nzTM 1 11 = some (5, 0, nX9_init) := rfl
theorem lM_1_31 : nzlk nzTM 1 31 = some (5, 0, nX0_init) := rfl
theorem lM_1_36 : nzlk nzTM 1 36 = some (0, 0, nX0_clear) := rfl
theorem lM_1_49 : nzlk nzTM 1 49 = some (0, 1, nX9_open) := rfl
theorem lM_1_53 : nzlk nzTM 1 53 = some (0, 0, nX1_beginLine) := rfl
theorem lM_1_57 : nzlk nzTM 1 57 = some (0, 0, nX1_readRest) := rfl
theorem lM_1_63 : nzlk nzTM 1 63 = some (0, 0, nX1_lacksNothing) := rfl
theorem lM_1_66 : nzlk nzTM 1 66 = some (0, 1, nX1_fail) := rfl
theorem lM_1_70 : nzlk nzTM 1 70 = some (0, 0, nX9_next) := rfl
theorem lM_1_73 : nzlk nzTM 1 73 = some (0, 0, nX1_sortOfLine) := rfl
theorem lM_1_80 : nzlk nzTM 1 80 = some (0, 1, nX0_addRow) := rfl
theorem lM_1_85 : nzlk nzTM 1 85 = some (0, 1, nX9_isWord) := rfl
theorem lM_1_107 : nzlk nzTM 1 107 = some (0, 1, nX1_word) := rfl
theorem lM_1_110 : nzlk nzTM 1 110 = some (0, 3, nX1_whole) := rfl
theorem lM_1_116 : nzlk nzTM 1 116 = some (0, 0, nX1_newName) := rfl
theorem lM_1_125 : nzlk nzTM 1 125 = some (0, 1, nX1_letters) := rfl
theorem lM_1_134 : nzlk nzTM 1 134 = some (0, 2, nX1_toldName) := rfl
theorem lM_1_148 : nzlk nzTM 1 148 = some (0, 2, nX1_perhaps) := rfl
theorem lM_1_166 : nzlk nzTM 1 166 = some (0, 0, nX1_unlikeDays) := rfl
theorem lM_1_171 : nzlk nzTM 1 171 = some (0, 2, nX1_take) := rfl
theorem lM_1_179 : nzlk nzTM 1 179 = some (4, 3, nX11_isWithin) := rfl
theorem lM_1_182 : nzlk nzTM 1 182 = some (0, 0, nX1_isName) := rfl
theorem lM_1_185 : nzlk nzTM 1 185 = some (0, 0, nX1_findName) := rfl
theorem lM_1_192 : nzlk nzTM 1 192 = some (0, 1, nX0_rows) := rfl
theorem lM_1_196 : nzlk nzTM 1 196 = some (0, 3, nX0_putInLatest) := rfl
theorem lC_1_83 : nzlk nzTC 1 83 = some (.float 10) := rfl
theorem lC_1_89 : nzlk nzTC 1 89 = some (.float 12) := rfl
theorem lC_1_91 : nzlk nzTC 1 91 = some (.float 14) := rfl
theorem lC_1_93 : nzlk nzTC 1 93 = some (.float 16) := rfl
theorem lC_1_95 : nzlk nzTC 1 95 = some (.float 18) := rfl
theorem lC_1_97 : nzlk nzTC 1 97 = some (.float 20) := rfl
theorem lC_1_99 : nzlk nzTC 1 99 = some (.float 22) := rfl
theorem lC_1_101 : nzlk nzTC 1 101 = some (.float 24) := rfl
theorem lC_1_103 : nzlk nzTC 1 103 = some (.float 26) := rfl
theorem lC_1_105 : nzlk nzTC 1 105 = some (.float 28) := rfl
theorem lC_1_114 : nzlk nzTC 1 114 = some (.float 30) := rfl
theorem lC_1_119 : nzlk nzTC 1 119 = some (.float 36) := rfl
theorem lC_1_121 : nzlk nzTC 1 121 = some (.float 38) := rfl
theorem lC_1_123 : nzlk nzTC 1 123 = some (.float 40) := rfl
theorem lC_1_128 : nzlk nzTC 1 128 = some (.float 42) := rfl
theorem lC_1_130 : nzlk nzTC 1 130 = some (.float 44) := rfl
theorem lC_1_132 : nzlk nzTC 1 132 = some (.float 46) := rfl
theorem lC_1_138 : nzlk nzTC 1 138 = some (.float 48) := rfl
theorem lC_1_140 : nzlk nzTC 1 140 = some (.float 50) := rfl
theorem lC_1_142 : nzlk nzTC 1 142 = some (.float 52) := rfl
theorem lC_1_144 : nzlk nzTC 1 144 = some (.float 54) := rfl
theorem lC_1_146 : nzlk nzTC 1 146 = some (.float 32) := rfl
theorem lC_1_152 : nzlk nzTC 1 152 = some (.float 56) := rfl
theorem lC_1_154 : nzlk nzTC 1 154 = some (.float 58) := rfl
theorem lC_1_156 : nzlk nzTC 1 156 = some (.float 60) := rfl
theorem lC_1_158 : nzlk nzTC 1 158 = some (.float 62) := rfl
theorem lC_1_160 : nzlk nzTC 1 160 = some (.float 34) := rfl
theorem lC_1_162 : nzlk nzTC 1 162 = some (.float 64) := rfl
theorem lC_1_164 : nzlk nzTC 1 164 = some (.float 66) := rfl
theorem lC_1_169 : nzlk nzTC 1 169 = some (.float 68) := rfl
theorem lN_1_9 : nzlk nzTN 1 9 = some 9 := rfl
theorem lN_1_29 : nzlk nzTN 1 29 = some 0 := rfl
theorem lF_2_9 : nzlk nzTF 2 9 = some (0, 2, 0, 2) := rfl
theorem lF_2_15 : nzlk nzTF 2 15 = some (0, 2, 1, 2) := rfl
theorem lF_2_18 : nzlk nzTF 2 18 = some (0, 2, 3, 0) := rfl
theorem lF_2_24 : nzlk nzTF 2 24 = some (0, 2, 2, 1) := rfl
theorem lM_2_3 : nzlk nzTM 2 3 = some (6, 0, nX0_init) := rfl
theorem lM_2_28 : nzlk nzTM 2 28 = some (1, 4, nX2_extend) := rfl
theorem lM_2_32 : nzlk nzTM 2 32 = some (1, 1, nX2_callCount) := rfl
theorem lM_2_36 : nzlk nzTM 2 36 = some (0, 1, nX2_expected) := rfl
theorem lM_2_40 : nzlk nzTM 2 40 = some (0, 1, nX2_note) := rfl
theorem lM_2_44 : nzlk nzTM 2 44 = some (7, 5, nX0_init) := rfl
theorem lM_2_52 : nzlk nzTM 2 52 = some (0, 3, nX0_get) := rfl
theorem lM_2_58 : nzlk nzTM 2 58 = some (0, 1, nX0_rows) := rfl
theorem lM_2_62 : nzlk nzTM 2 62 = some (9, 2, nX0_init) := rfl
theorem lL_2_22 : nzlk nzTL 2 22 = some (1000000000000000) := rfl
theorem lL_2_50 : nzlk nzTL 2 50 = some (100) := rfl
theorem lF_3_11 : nzlk nzTF 3 11 = some (0, 3, 0, 2) := rfl
theorem lF_3_16 : nzlk nzTF 3 16 = some (0, 3, 1, 2) := rfl
theorem lF_3_20 : nzlk nzTF 3 20 = some (0, 3, 2, 2) := rfl
theorem lF_3_23 : nzlk nzTF 3 23 = some (0, 3, 3, 0) := rfl
theorem lM_3_3 : nzlk nzTM 3 3 = some (6, 0, nX0_init) := rfl
theorem lM_3_27 : nzlk nzTM 3 27 = some (9, 2, nX0_init) := rfl
theorem lM_3_33 : nzlk nzTM 3 33 = some (0, 4, nX3_coinFrom) := rfl
theorem lM_3_38 : nzlk nzTM 3 38 = some (0, 2, nX3_leastBut) := rfl
theorem lM_3_41 : nzlk nzTM 3 41 = some (0, 2, nX0_has) := rfl
theorem lM_3_47 : nzlk nzTM 3 47 = some (0, 2, nX0_barredLetters) := rfl
theorem lM_3_50 : nzlk nzTM 3 50 = some (0, 3, nX0_get) := rfl
theorem lM_3_54 : nzlk nzTM 3 54 = some (0, 2, nX3_firstCheapest) := rfl
theorem lM_3_57 : nzlk nzTM 3 57 = some (0, 1, nX0_rows) := rfl
theorem lM_3_61 : nzlk nzTM 3 61 = some (0, 1, nX0_dietOf) := rfl
theorem lM_3_64 : nzlk nzTM 3 64 = some (0, 3, nX3_cheapest) := rfl
theorem lM_3_68 : nzlk nzTM 3 68 = some (0, 2, nX3_priceOfLeft) := rfl
theorem lM_3_72 : nzlk nzTM 3 72 = some (0, 2, nX3_leastNeeding) := rfl
theorem lC_3_37 : nzlk nzTC 3 37 = some (.int 1000000000) := rfl
theorem lA_3_9 : nzlk nzTA 3 9 = some 0 := rfl
theorem lF_4_11 : nzlk nzTF 4 11 = some (0, 4, 0, 2) := rfl
theorem lF_4_16 : nzlk nzTF 4 16 = some (0, 4, 1, 2) := rfl
theorem lF_4_19 : nzlk nzTF 4 19 = some (0, 4, 2, 2) := rfl
theorem lF_4_23 : nzlk nzTF 4 23 = some (0, 4, 3, 0) := rfl
theorem lM_4_3 : nzlk nzTM 4 3 = some (6, 0, nX0_init) := rfl
theorem lM_4_27 : nzlk nzTM 4 27 = some (1, 2, nX4_isInside) := rfl
theorem lM_4_32 : nzlk nzTM 4 32 = some (1, 1, nJ6_bitCount_0f7a4) := rfl
theorem lM_4_38 : nzlk nzTM 4 38 = some (4, 3, nX11_isWithin) := rfl
theorem lM_4_42 : nzlk nzTM 4 42 = some (0, 3, nX0_get) := rfl
theorem lM_4_48 : nzlk nzTM 4 48 = some (1, 2, nJ7_fill_53178) := rfl
theorem lM_4_54 : nzlk nzTM 4 54 = some (1, 7, nX4_extend) := rfl
theorem lM_4_58 : nzlk nzTM 4 58 = some (9, 2, nX0_init) := rfl
theorem lM_4_64 : nzlk nzTM 4 64 = some (0, 1, nX0_startPlace) := rfl
theorem lM_4_67 : nzlk nzTM 4 67 = some (0, 1, nX0_rows) := rfl
theorem lM_4_70 : nzlk nzTM 4 70 = some (0, 2, nX0_wayBetween) := rfl
theorem lM_4_73 : nzlk nzTM 4 73 = some (0, 2, nX0_isBadAt) := rfl
theorem lM_4_76 : nzlk nzTM 4 76 = some (0, 2, nX0_stayWithoutTea) := rfl
theorem lM_4_79 : nzlk nzTM 4 79 = some (0, 3, nX4_note) := rfl
theorem lC_4_31 : nzlk nzTC 4 31 = some (.int 1000000000) := rfl
theorem lA_4_9 : nzlk nzTA 4 9 = some 0 := rfl
theorem lF_5_9 : nzlk nzTF 5 9 = some (0, 5, 0, 2) := rfl
theorem lF_5_15 : nzlk nzTF 5 15 = some (0, 5, 1, 2) := rfl
theorem lF_5_18 : nzlk nzTF 5 18 = some (0, 5, 2, 2) := rfl
theorem lF_5_21 : nzlk nzTF 5 21 = some (0, 5, 3, 0) := rfl
theorem lM_5_3 : nzlk nzTM 5 3 = some (6, 0, nX0_init) := rfl
theorem lM_5_25 : nzlk nzTM 5 25 = some (0, 2, nX0_boxHeat) := rfl
theorem lM_5_31 : nzlk nzTM 5 31 = some (11, 1, nX0_init) := rfl
theorem lC_5_37 : nzlk nzTC 5 37 = some (.int 1000000000) := rfl
theorem lF_6_11 : nzlk nzTF 6 11 = some (0, 6, 0, 2) := rfl
theorem lF_6_16 : nzlk nzTF 6 16 = some (0, 6, 1, 2) := rfl
theorem lF_6_20 : nzlk nzTF 6 20 = some (0, 6, 2, 2) := rfl
theorem lF_6_29 : nzlk nzTF 6 29 = some (0, 6, 3, 0) := rfl
theorem lM_6_3 : nzlk nzTM 6 3 = some (6, 0, nX0_init) := rfl
theorem lM_6_23 : nzlk nzTM 6 23 = some (1, 2, nJ7_fill_53178) := rfl
theorem lM_6_33 : nzlk nzTM 6 33 = some (0, 1, nX6_count) := rfl
theorem lM_6_37 : nzlk nzTM 6 37 = some (4, 3, nX11_isWithin) := rfl
theorem lM_6_41 : nzlk nzTM 6 41 = some (0, 1, nX6_carOf) := rfl
theorem lM_6_44 : nzlk nzTM 6 44 = some (0, 3, nX6_follow) := rfl
theorem lM_6_48 : nzlk nzTM 6 48 = some (0, 1, nX0_startPlace) := rfl
theorem lM_6_53 : nzlk nzTM 6 53 = some (0, 3, nX0_get) := rfl
theorem lM_6_57 : nzlk nzTM 6 57 = some (0, 2, nX0_wayBetween) := rfl
theorem lM_6_61 : nzlk nzTM 6 61 = some (0, 2, nX0_isBadAt) := rfl
theorem lM_6_65 : nzlk nzTM 6 65 = some (0, 2, nX0_stayWithoutTea) := rfl
theorem lA_6_9 : nzlk nzTA 6 9 = some 0 := rfl
theorem lF_7_9 : nzlk nzTF 7 9 = some (0, 7, 0, 2) := rfl
theorem lF_7_15 : nzlk nzTF 7 15 = some (0, 7, 1, 2) := rfl
theorem lF_7_18 : nzlk nzTF 7 18 = some (0, 7, 2, 2) := rfl
theorem lF_7_21 : nzlk nzTF 7 21 = some (0, 7, 4, 0) := rfl
theorem lF_7_26 : nzlk nzTF 7 26 = some (0, 7, 3, 0) := rfl
theorem lM_7_3 : nzlk nzTM 7 3 = some (6, 0, nX0_init) := rfl
theorem lM_7_29 : nzlk nzTM 7 29 = some (1, 2, nJ7_fill_53178) := rfl
theorem lM_7_35 : nzlk nzTM 7 35 = some (1, 4, nX7_give) := rfl
theorem lM_7_39 : nzlk nzTM 7 39 = some (0, 1, nX0_rows) := rfl
theorem lM_7_45 : nzlk nzTM 7 45 = some (9, 2, nX0_init) := rfl
theorem lM_7_51 : nzlk nzTM 7 51 = some (0, 1, nX7_note) := rfl
theorem lM_7_55 : nzlk nzTM 7 55 = some (1, 1, nJ6_bitCount_0f7a4) := rfl
theorem lM_7_60 : nzlk nzTM 7 60 = some (0, 3, nX0_get) := rfl
theorem lM_7_64 : nzlk nzTM 7 64 = some (0, 2, nX4_worth) := rfl
theorem lM_7_69 : nzlk nzTM 7 69 = some (7, 5, nX0_init) := rfl
theorem lC_7_25 : nzlk nzTC 7 25 = some (.int 1000000000) := rfl
theorem lF_8_11 : nzlk nzTF 8 11 = some (0, 8, 0, 2) := rfl
theorem lF_8_16 : nzlk nzTF 8 16 = some (0, 8, 1, 2) := rfl
theorem lM_8_3 : nzlk nzTM 8 3 = some (6, 0, nX0_init) := rfl
theorem lM_8_20 : nzlk nzTM 8 20 = some (1, 2, nJ7_fill_53178) := rfl
theorem lM_8_26 : nzlk nzTM 8 26 = some (0, 1, nX8_count) := rfl
theorem lM_8_30 : nzlk nzTM 8 30 = some (4, 3, nX11_isWithin) := rfl
theorem lA_8_9 : nzlk nzTA 8 9 = some 0 := rfl
theorem lF_9_9 : nzlk nzTF 9 9 = some (0, 9, 0, 2) := rfl
theorem lF_9_15 : nzlk nzTF 9 15 = some (0, 9, 1, 0) := rfl
theorem lF_9_28 : nzlk nzTF 9 28 = some (0, 9, 2, 0) := rfl
theorem lF_9_31 : nzlk nzTF 9 31 = some (0, 9, 5, 0) := rfl
theorem lF_9_37 : nzlk nzTF 9 37 = some (0, 9, 4, 0) := rfl
theorem lF_9_40 : nzlk nzTF 9 40 = some (0, 9, 3, 0) := rfl
theorem lF_9_62 : nzlk nzTF 9 62 = some (0, 9, 6, 1) := rfl
theorem lF_9_66 : nzlk nzTF 9 66 = some (0, 9, 7, 0) := rfl
theorem lF_9_71 : nzlk nzTF 9 71 = some (0, 9, 8, 0) := rfl
theorem lM_9_3 : nzlk nzTM 9 3 = some (6, 0, nX0_init) := rfl
theorem lM_9_19 : nzlk nzTM 9 19 = some (9, 2, nX0_init) := rfl
theorem lM_9_25 : nzlk nzTM 9 25 = some (10, 2, nX0_init) := rfl
theorem lM_9_34 : nzlk nzTM 9 34 = some (0, 0, nX9_next) := rfl
theorem lM_9_43 : nzlk nzTM 9 43 = some (0, 0, nX9_takeWord) := rfl
theorem lM_9_46 : nzlk nzTM 9 46 = some (0, 0, nX9_takeWhole) := rfl
theorem lM_9_49 : nzlk nzTM 9 49 = some (0, 1, nX9_takeSign) := rfl
theorem lM_9_53 : nzlk nzTM 9 53 = some (0, 0, nJ0_length_8abf5) := rfl
theorem lM_9_58 : nzlk nzTM 9 58 = some (0, 1, nJ0_charAt_5068e) := rfl
theorem lL_9_69 : nzlk nzTL 9 69 = some (32) := rfl
theorem lF_10_9 : nzlk nzTF 10 9 = some (0, 10, 0, 2) := rfl
theorem lF_10_15 : nzlk nzTF 10 15 = some (0, 10, 1, 2) := rfl
theorem lF_10_18 : nzlk nzTF 10 18 = some (0, 10, 2, 2) := rfl
theorem lF_10_21 : nzlk nzTF 10 21 = some (0, 10, 3, 0) := rfl
theorem lM_10_3 : nzlk nzTM 10 3 = some (6, 0, nX0_init) := rfl
theorem lM_10_25 : nzlk nzTM 10 25 = some (0, 1, nX10_noteWishers) := rfl
theorem lM_10_29 : nzlk nzTM 10 29 = some (0, 1, nX10_capForFewest) := rfl
theorem lM_10_33 : nzlk nzTM 10 33 = some (0, 2, nX10_firstFor) := rfl
theorem lM_10_37 : nzlk nzTM 10 37 = some (1, 2, nJ7_fill_53178) := rfl
theorem lM_10_43 : nzlk nzTM 10 43 = some (0, 1, nX0_rows) := rfl
theorem lM_10_49 : nzlk nzTM 10 49 = some (0, 3, nX0_get) := rfl
theorem lM_10_53 : nzlk nzTM 10 53 = some (0, 2, nX10_capAt) := rfl
theorem lM_10_57 : nzlk nzTM 10 57 = some (0, 1, nX10_mostFrom) := rfl
theorem lM_10_60 : nzlk nzTM 10 60 = some (9, 2, nX0_init) := rfl
theorem lM_10_65 : nzlk nzTM 10 65 = some (10, 2, nX0_init) := rfl
theorem lF_11_10 : nzlk nzTF 11 10 = some (0, 11, 0, 2) := rfl
theorem lF_11_19 : nzlk nzTF 11 19 = some (0, 11, 1, 2) := rfl
theorem lF_11_26 : nzlk nzTF 11 26 = some (0, 11, 2, 2) := rfl
theorem lF_11_33 : nzlk nzTF 11 33 = some (0, 11, 3, 2) := rfl
theorem lF_11_40 : nzlk nzTF 11 40 = some (0, 11, 4, 2) := rfl
theorem lF_11_47 : nzlk nzTF 11 47 = some (0, 11, 5, 2) := rfl
theorem lF_11_54 : nzlk nzTF 11 54 = some (0, 11, 6, 2) := rfl
theorem lF_11_61 : nzlk nzTF 11 61 = some (0, 11, 7, 2) := rfl
theorem lF_11_68 : nzlk nzTF 11 68 = some (0, 11, 8, 2) := rfl
theorem lF_11_75 : nzlk nzTF 11 75 = some (0, 11, 9, 2) := rfl
theorem lF_11_79 : nzlk nzTF 11 79 = some (0, 11, 10, 0) := rfl
theorem lF_11_83 : nzlk nzTF 11 83 = some (1, 1, 0, 2) := rfl
theorem lF_11_97 : nzlk nzTF 11 97 = some (1, 9, 1, 0) := rfl
theorem lF_11_123 : nzlk nzTF 11 123 = some (1, 1, 7, 0) := rfl
theorem lF_11_126 : nzlk nzTF 11 126 = some (1, 1, 8, 0) := rfl
theorem lF_11_156 : nzlk nzTF 11 156 = some (1, 6, 3, 0) := rfl
theorem lF_11_259 : nzlk nzTF 11 259 = some (1, 5, 3, 0) := rfl
theorem lM_11_1 : nzlk nzTM 11 1 = some (6, 0, nX0_init) := rfl
theorem lM_11_9 : nzlk nzTM 11 9 = some (5, 0, nX1_init) := rfl
theorem lM_11_18 : nzlk nzTM 11 18 = some (5, 0, nX6_init) := rfl
theorem lM_11_25 : nzlk nzTM 11 25 = some (5, 0, nX4_init) := rfl
theorem lM_11_32 : nzlk nzTM 11 32 = some (5, 0, nX7_init) := rfl
theorem lM_11_39 : nzlk nzTM 11 39 = some (5, 0, nX3_init) := rfl
theorem lM_11_46 : nzlk nzTM 11 46 = some (5, 0, nX2_init) := rfl
theorem lM_11_53 : nzlk nzTM 11 53 = some (5, 0, nX10_init) := rfl
theorem lM_11_60 : nzlk nzTM 11 60 = some (5, 0, nX8_init) := rfl
theorem lM_11_67 : nzlk nzTM 11 67 = some (5, 0, nX5_init) := rfl
theorem lM_11_74 : nzlk nzTM 11 74 = some (5, 0, nX0_init) := rfl
theorem lM_11_87 : nzlk nzTM 11 87 = some (0, 1, nX9_hasRoom) := rfl
theorem lM_11_93 : nzlk nzTM 11 93 = some (0, 1, nX9_append) := rfl
theorem lM_11_100 : nzlk nzTM 11 100 = some (0, 1, nX11_refuse) := rfl
theorem lM_11_104 : nzlk nzTM 11 104 = some (0, 1, nX1_read) := rfl
theorem lM_11_107 : nzlk nzTM 11 107 = some (0, 0, nX9_empty) := rfl
theorem lM_11_110 : nzlk nzTM 11 110 = some (0, 1, nX1_exchange) := rfl
theorem lM_11_114 : nzlk nzTM 11 114 = some (0, 0, nX11_forgetDoings) := rfl
theorem lM_11_117 : nzlk nzTM 11 117 = some (0, 1, nX0_rows) := rfl
theorem lM_11_120 : nzlk nzTM 11 120 = some (0, 1, nX11_accept) := rfl
theorem lM_11_129 : nzlk nzTM 11 129 = some (0, 2, nX0_has) := rfl
theorem lM_11_133 : nzlk nzTM 11 133 = some (0, 1, nX6_carOf) := rfl
theorem lM_11_136 : nzlk nzTM 11 136 = some (0, 1, nX6_count) := rfl
theorem lM_11_139 : nzlk nzTM 11 139 = some (0, 3, nX0_get) := rfl
theorem lM_11_143 : nzlk nzTM 11 143 = some (0, 2, nX6_append) := rfl
theorem lM_11_146 : nzlk nzTM 11 146 = some (0, 1, nX6_clearRound) := rfl
theorem lM_11_149 : nzlk nzTM 11 149 = some (0, 0, nX11_noDay) := rfl
theorem lM_11_153 : nzlk nzTM 11 153 = some (0, 1, nX0_hasHouses) := rfl
theorem lM_11_159 : nzlk nzTM 11 159 = some (0, 1, nX11_drivenTrouble) := rfl
theorem lM_11_162 : nzlk nzTM 11 162 = some (0, 2, nX6_arrival) := rfl
theorem lM_11_166 : nzlk nzTM 11 166 = some (0, 2, nX0_boxHeat) := rfl
theorem lM_11_169 : nzlk nzTM 11 169 = some (0, 3, nX6_follow) := rfl
theorem lM_11_173 : nzlk nzTM 11 173 = some (1, 3, nX11_isWithin) := rfl
theorem lM_11_177 : nzlk nzTM 11 177 = some (0, 2, nX0_wayBetween) := rfl
theorem lM_11_180 : nzlk nzTM 11 180 = some (0, 2, nX11_bestTrouble) := rfl
theorem lM_11_183 : nzlk nzTM 11 183 = some (0, 2, nX4_learn) := rfl
theorem lM_11_187 : nzlk nzTM 11 187 = some (0, 2, nX4_worth) := rfl
theorem lM_11_190 : nzlk nzTM 11 190 = some (1, 1, nJ6_bitCount_0f7a4) := rfl
theorem lM_11_195 : nzlk nzTM 11 195 = some (0, 3, nX4_houseAt) := rfl
theorem lM_11_198 : nzlk nzTM 11 198 = some (0, 2, nX7_search) := rfl
theorem lM_11_203 : nzlk nzTM 11 203 = some (0, 1, nX7_carOf) := rfl
theorem lM_11_204 : nzlk nzTM 11 204 = some (0, 2, nX6_oddsOf) := rfl
theorem lM_11_208 : nzlk nzTM 11 208 = some (0, 1, nX0_dietOf) := rfl
theorem lM_11_211 : nzlk nzTM 11 211 = some (0, 2, nX0_barredLetters) := rfl
theorem lM_11_214 : nzlk nzTM 11 214 = some (0, 1, nX0_isFitForAll) := rfl
theorem lM_11_217 : nzlk nzTM 11 217 = some (0, 3, nX3_cheapest) := rfl
theorem lM_11_220 : nzlk nzTM 11 220 = some (0, 1, nX3_tell) := rfl
theorem lM_11_223 : nzlk nzTM 11 223 = some (0, 1, nX3_dishOn) := rfl
theorem lM_11_227 : nzlk nzTM 11 227 = some (0, 2, nX3_priceHouses) := rfl
theorem lM_11_231 : nzlk nzTM 11 231 = some (0, 2, nX3_dropFor) := rfl
theorem lM_11_234 : nzlk nzTM 11 234 = some (0, 0, nX11_callTrouble) := rfl
theorem lM_11_238 : nzlk nzTM 11 238 = some (0, 1, nX2_search) := rfl
theorem lM_11_241 : nzlk nzTM 11 241 = some (0, 1, nX2_callOf) := rfl
theorem lM_11_244 : nzlk nzTM 11 244 = some (0, 1, nX2_expectedAsTold) := rfl
theorem lM_11_247 : nzlk nzTM 11 247 = some (0, 1, nX10_fillWeek) := rfl
theorem lM_11_251 : nzlk nzTM 11 251 = some (0, 1, nX10_helperOf) := rfl
theorem lM_11_254 : nzlk nzTM 11 254 = some (0, 1, nX8_count) := rfl
theorem lM_11_255 : nzlk nzTM 11 255 = some (0, 2, nX8_append) := rfl
theorem lM_11_256 : nzlk nzTM 11 256 = some (0, 1, nX8_choicesNoLess) := rfl
theorem lM_11_261 : nzlk nzTM 11 261 = some (0, 3, nX5_append) := rfl
theorem lM_11_263 : nzlk nzTM 11 263 = some (0, 2, nX5_offByMore) := rfl
theorem lM_11_266 : nzlk nzTM 11 266 = some (0, 1, nX5_earliestBelow) := rfl
theorem lM_11_269 : nzlk nzTM 11 269 = some (0, 1, nX6_housesOf) := rfl
theorem lM_11_272 : nzlk nzTM 11 272 = some (0, 2, nX6_houseAt) := rfl
theorem lM_11_281 : nzlk nzTM 11 281 = some (0, 0, nX6_clear) := rfl
theorem lM_11_284 : nzlk nzTM 11 284 = some (0, 0, nX4_forget) := rfl
theorem lM_11_287 : nzlk nzTM 11 287 = some (0, 0, nX7_forget) := rfl
theorem lM_11_288 : nzlk nzTM 11 288 = some (0, 0, nX3_forget) := rfl
theorem lM_11_289 : nzlk nzTM 11 289 = some (0, 0, nX2_forget) := rfl
theorem lM_11_290 : nzlk nzTM 11 290 = some (0, 0, nX10_forget) := rfl
theorem lM_11_291 : nzlk nzTM 11 291 = some (0, 0, nX8_clear) := rfl
theorem lM_11_292 : nzlk nzTM 11 292 = some (0, 0, nX5_clear) := rfl
theorem lC_11_202 : nzlk nzTC 11 202 = some (.int 1000000000) := rfl
theorem lC_11_226 : nzlk nzTC 11 226 = some (.int 99999) := rfl
theorem lN_11_7 : nzlk nzTN 11 7 = some 1 := rfl
theorem lN_11_16 : nzlk nzTN 11 16 = some 6 := rfl
theorem lN_11_23 : nzlk nzTN 11 23 = some 4 := rfl
theorem lN_11_30 : nzlk nzTN 11 30 = some 7 := rfl
theorem lN_11_37 : nzlk nzTN 11 37 = some 3 := rfl
theorem lN_11_44 : nzlk nzTN 11 44 = some 2 := rfl
theorem lN_11_51 : nzlk nzTN 11 51 = some 10 := rfl
theorem lN_11_58 : nzlk nzTN 11 58 = some 8 := rfl
theorem lN_11_65 : nzlk nzTN 11 65 = some 5 := rfl
theorem lN_11_72 : nzlk nzTN 11 72 = some 0 := rfl
theorem lF_12_9 : nzlk nzTF 12 9 = some (0, 12, 0, 0) := rfl
theorem lF_12_15 : nzlk nzTF 12 15 = some (0, 12, 11, 2) := rfl
theorem lF_12_19 : nzlk nzTF 12 19 = some (0, 12, 12, 2) := rfl
theorem lF_12_22 : nzlk nzTF 12 22 = some (0, 12, 13, 2) := rfl
theorem lF_12_25 : nzlk nzTF 12 25 = some (0, 12, 14, 2) := rfl
theorem lF_12_28 : nzlk nzTF 12 28 = some (0, 12, 15, 2) := rfl
theorem lF_12_31 : nzlk nzTF 12 31 = some (0, 12, 16, 2) := rfl
theorem lF_12_34 : nzlk nzTF 12 34 = some (0, 12, 17, 2) := rfl
theorem lF_12_37 : nzlk nzTF 12 37 = some (0, 12, 18, 2) := rfl
theorem lF_12_40 : nzlk nzTF 12 40 = some (0, 12, 19, 2) := rfl
theorem lF_12_43 : nzlk nzTF 12 43 = some (0, 12, 20, 2) := rfl
theorem lF_12_46 : nzlk nzTF 12 46 = some (0, 12, 21, 2) := rfl
theorem lF_12_49 : nzlk nzTF 12 49 = some (0, 12, 22, 2) := rfl
theorem lF_12_52 : nzlk nzTF 12 52 = some (0, 12, 23, 2) := rfl
theorem lF_12_55 : nzlk nzTF 12 55 = some (0, 12, 24, 2) := rfl
theorem lF_12_59 : nzlk nzTF 12 59 = some (0, 12, 25, 2) := rfl
theorem lF_12_62 : nzlk nzTF 12 62 = some (0, 12, 26, 2) := rfl
theorem lF_12_65 : nzlk nzTF 12 65 = some (0, 12, 27, 2) := rfl
theorem lF_12_68 : nzlk nzTF 12 68 = some (0, 12, 28, 2) := rfl
theorem lF_12_71 : nzlk nzTF 12 71 = some (0, 12, 29, 2) := rfl
theorem lF_12_74 : nzlk nzTF 12 74 = some (0, 12, 30, 2) := rfl
theorem lF_12_77 : nzlk nzTF 12 77 = some (0, 12, 31, 2) := rfl
theorem lF_12_80 : nzlk nzTF 12 80 = some (0, 12, 32, 2) := rfl
theorem lF_12_83 : nzlk nzTF 12 83 = some (0, 12, 33, 2) := rfl
theorem lF_12_86 : nzlk nzTF 12 86 = some (0, 12, 34, 2) := rfl
theorem lF_12_90 : nzlk nzTF 12 90 = some (0, 12, 35, 2) := rfl
theorem lF_12_93 : nzlk nzTF 12 93 = some (0, 12, 36, 2) := rfl
theorem lF_12_96 : nzlk nzTF 12 96 = some (0, 12, 10, 0) := rfl
theorem lF_12_99 : nzlk nzTF 12 99 = some (0, 12, 7, 0) := rfl
theorem lM_12_3 : nzlk nzTM 12 3 = some (6, 0, nX0_init) := rfl
theorem lF_13_9 : nzlk nzTF 13 9 = some (0, 13, 2, 0) := rfl
theorem lF_13_13 : nzlk nzTF 13 13 = some (0, 13, 5, 2) := rfl
theorem lF_13_17 : nzlk nzTF 13 17 = some (0, 13, 17, 2) := rfl
theorem lF_13_21 : nzlk nzTF 13 21 = some (0, 13, 18, 2) := rfl
theorem lF_13_24 : nzlk nzTF 13 24 = some (0, 13, 22, 2) := rfl
theorem lF_13_27 : nzlk nzTF 13 27 = some (0, 13, 23, 2) := rfl
theorem lF_13_30 : nzlk nzTF 13 30 = some (0, 13, 26, 2) := rfl
theorem lF_13_33 : nzlk nzTF 13 33 = some (0, 13, 28, 2) := rfl
theorem lF_13_36 : nzlk nzTF 13 36 = some (0, 13, 29, 2) := rfl
theorem lF_13_39 : nzlk nzTF 13 39 = some (0, 13, 30, 2) := rfl
theorem lF_13_42 : nzlk nzTF 13 42 = some (0, 13, 31, 2) := rfl
theorem lF_13_45 : nzlk nzTF 13 45 = some (0, 13, 32, 2) := rfl
theorem lF_13_48 : nzlk nzTF 13 48 = some (0, 13, 35, 2) := rfl
theorem lF_13_51 : nzlk nzTF 13 51 = some (0, 13, 36, 2) := rfl
theorem lF_13_54 : nzlk nzTF 13 54 = some (0, 13, 38, 2) := rfl
theorem lF_13_57 : nzlk nzTF 13 57 = some (0, 13, 39, 2) := rfl
theorem lF_13_60 : nzlk nzTF 13 60 = some (0, 13, 40, 2) := rfl
theorem lF_13_63 : nzlk nzTF 13 63 = some (0, 13, 41, 2) := rfl
theorem lF_13_66 : nzlk nzTF 13 66 = some (0, 13, 43, 2) := rfl
theorem lF_13_69 : nzlk nzTF 13 69 = some (0, 13, 44, 2) := rfl
theorem lF_13_72 : nzlk nzTF 13 72 = some (0, 13, 45, 2) := rfl
theorem lF_13_75 : nzlk nzTF 13 75 = some (0, 13, 0, 0) := rfl
theorem lF_13_78 : nzlk nzTF 13 78 = some (0, 13, 1, 0) := rfl
theorem lF_13_85 : nzlk nzTF 13 85 = some (0, 13, 7, 0) := rfl
theorem lF_13_100 : nzlk nzTF 13 100 = some (0, 13, 9, 0) := rfl
theorem lF_13_103 : nzlk nzTF 13 103 = some (0, 13, 8, 0) := rfl
theorem lF_13_109 : nzlk nzTF 13 109 = some (0, 13, 10, 0) := rfl
theorem lF_13_112 : nzlk nzTF 13 112 = some (0, 13, 11, 0) := rfl
theorem lF_13_119 : nzlk nzTF 13 119 = some (0, 13, 16, 1) := rfl
theorem lF_13_123 : nzlk nzTF 13 123 = some (0, 13, 15, 0) := rfl
theorem lF_13_129 : nzlk nzTF 13 129 = some (0, 13, 12, 0) := rfl
theorem lF_13_132 : nzlk nzTF 13 132 = some (0, 13, 13, 0) := rfl
theorem lF_13_135 : nzlk nzTF 13 135 = some (0, 13, 14, 0) := rfl
theorem lF_13_191 : nzlk nzTF 13 191 = some (0, 13, 4, 2) := rfl
theorem lF_13_201 : nzlk nzTF 13 201 = some (1, 12, 34, 2) := rfl
theorem lF_13_205 : nzlk nzTF 13 205 = some (1, 12, 10, 0) := rfl
theorem lF_13_208 : nzlk nzTF 13 208 = some (1, 12, 35, 2) := rfl
theorem lF_13_211 : nzlk nzTF 13 211 = some (1, 12, 36, 2) := rfl
theorem lF_13_220 : nzlk nzTF 13 220 = some (1, 12, 0, 0) := rfl
theorem lF_13_223 : nzlk nzTF 13 223 = some (1, 12, 5, 0) := rfl
theorem lF_13_226 : nzlk nzTF 13 226 = some (1, 12, 6, 0) := rfl
theorem lF_13_263 : nzlk nzTF 13 263 = some (1, 12, 1, 0) := rfl
theorem lF_13_265 : nzlk nzTF 13 265 = some (1, 12, 2, 0) := rfl
theorem lF_13_273 : nzlk nzTF 13 273 = some (1, 12, 11, 2) := rfl
theorem lF_13_276 : nzlk nzTF 13 276 = some (1, 12, 12, 2) := rfl
theorem lF_13_279 : nzlk nzTF 13 279 = some (1, 12, 7, 0) := rfl
theorem lF_13_284 : nzlk nzTF 13 284 = some (1, 12, 16, 2) := rfl
theorem lF_13_287 : nzlk nzTF 13 287 = some (1, 12, 17, 2) := rfl
theorem lF_13_290 : nzlk nzTF 13 290 = some (1, 12, 3, 0) := rfl
theorem lF_13_300 : nzlk nzTF 13 300 = some (1, 12, 13, 2) := rfl
theorem lF_13_303 : nzlk nzTF 13 303 = some (1, 12, 14, 2) := rfl
theorem lF_13_306 : nzlk nzTF 13 306 = some (1, 12, 4, 0) := rfl
theorem lF_13_311 : nzlk nzTF 13 311 = some (1, 12, 15, 2) := rfl
theorem lF_13_329 : nzlk nzTF 13 329 = some (1, 12, 18, 2) := rfl
theorem lF_13_332 : nzlk nzTF 13 332 = some (1, 12, 19, 2) := rfl
theorem lF_13_334 : nzlk nzTF 13 334 = some (1, 12, 20, 2) := rfl
theorem lF_13_336 : nzlk nzTF 13 336 = some (1, 12, 21, 2) := rfl
theorem lF_13_338 : nzlk nzTF 13 338 = some (1, 12, 22, 2) := rfl
theorem lF_13_340 : nzlk nzTF 13 340 = some (1, 12, 23, 2) := rfl
theorem lF_13_342 : nzlk nzTF 13 342 = some (1, 12, 24, 2) := rfl
theorem lF_13_354 : nzlk nzTF 13 354 = some (1, 12, 26, 2) := rfl
theorem lF_13_356 : nzlk nzTF 13 356 = some (1, 12, 27, 2) := rfl
theorem lF_13_358 : nzlk nzTF 13 358 = some (1, 12, 28, 2) := rfl
theorem lF_13_360 : nzlk nzTF 13 360 = some (1, 12, 29, 2) := rfl
theorem lF_13_362 : nzlk nzTF 13 362 = some (1, 12, 25, 2) := rfl
theorem lF_13_365 : nzlk nzTF 13 365 = some (1, 12, 8, 0) := rfl
theorem lF_13_370 : nzlk nzTF 13 370 = some (1, 12, 30, 2) := rfl
theorem lF_13_372 : nzlk nzTF 13 372 = some (1, 12, 31, 2) := rfl
theorem lF_13_375 : nzlk nzTF 13 375 = some (1, 12, 9, 0) := rfl
theorem lF_13_382 : nzlk nzTF 13 382 = some (1, 12, 32, 2) := rfl
theorem lF_13_385 : nzlk nzTF 13 385 = some (1, 12, 33, 2) := rfl
theorem lF_13_387 : nzlk nzTF 13 387 = some (0, 13, 6, 0) := rfl
theorem lF_13_394 : nzlk nzTF 13 394 = some (0, 13, 3, 2) := rfl
theorem lF_13_397 : nzlk nzTF 13 397 = some (0, 13, 19, 0) := rfl
theorem lF_13_400 : nzlk nzTF 13 400 = some (0, 13, 42, 0) := rfl
theorem lF_13_403 : nzlk nzTF 13 403 = some (0, 13, 33, 0) := rfl
theorem lF_13_406 : nzlk nzTF 13 406 = some (0, 13, 34, 0) := rfl
theorem lF_13_409 : nzlk nzTF 13 409 = some (0, 13, 37, 0) := rfl
theorem lF_13_413 : nzlk nzTF 13 413 = some (0, 13, 27, 0) := rfl
theorem lF_13_428 : nzlk nzTF 13 428 = some (0, 13, 21, 0) := rfl
theorem lF_13_431 : nzlk nzTF 13 431 = some (0, 13, 20, 0) := rfl
theorem lF_13_463 : nzlk nzTF 13 463 = some (0, 13, 24, 0) := rfl
theorem lF_13_466 : nzlk nzTF 13 466 = some (0, 13, 25, 0) := rfl
theorem lM_13_1 : nzlk nzTM 13 1 = some (6, 0, nX0_init) := rfl
theorem lM_13_81 : nzlk nzTM 13 81 = some (0, 1, nX13_refused) := rfl
theorem lM_13_88 : nzlk nzTM 13 88 = some (0, 0, nJ0_length_8abf5) := rfl
theorem lM_13_96 : nzlk nzTM 13 96 = some (0, 1, nJ0_charAt_5068e) := rfl
theorem lM_13_106 : nzlk nzTM 13 106 = some (0, 1, nX13_byteAt) := rfl
theorem lM_13_115 : nzlk nzTM 13 115 = some (1, 1, nX13_isLetter) := rfl
theorem lM_13_126 : nzlk nzTM 13 126 = some (1, 1, nX13_isDigit) := rfl
theorem lM_13_138 : nzlk nzTM 13 138 = some (1, 1, nX13_wordOf) := rfl
theorem lM_13_142 : nzlk nzTM 13 142 = some (0, 1, nX13_isWord) := rfl
theorem lM_13_146 : nzlk nzTM 13 146 = some (0, 0, nX13_goesOn) := rfl
theorem lM_13_149 : nzlk nzTM 13 149 = some (0, 1, nX13_wrong) := rfl
theorem lM_13_153 : nzlk nzTM 13 153 = some (1, 3, nX13_in) := rfl
theorem lM_13_157 : nzlk nzTM 13 157 = some (0, 1, nX13_needs) := rfl
theorem lM_13_161 : nzlk nzTM 13 161 = some (0, 2, nX13_readWhole) := rfl
theorem lM_13_187 : nzlk nzTM 13 187 = some (0, 0, nX13_isName) := rfl
theorem lM_13_195 : nzlk nzTM 13 195 = some (0, 1, nX12_find) := rfl
theorem lM_13_214 : nzlk nzTM 13 214 = some (0, 0, nX13_readLine) := rfl
theorem lM_13_217 : nzlk nzTM 13 217 = some (0, 1, nX13_eatsSign) := rfl
theorem lM_13_229 : nzlk nzTM 13 229 = some (0, 0, nX13_readLaw) := rfl
theorem lM_13_232 : nzlk nzTM 13 232 = some (0, 0, nX13_readKitchen) := rfl
theorem lM_13_235 : nzlk nzTM 13 235 = some (0, 0, nX13_readFlood) := rfl
theorem lM_13_238 : nzlk nzTM 13 238 = some (0, 0, nX13_readDish) := rfl
theorem lM_13_241 : nzlk nzTM 13 241 = some (0, 0, nX13_readDiet) := rfl
theorem lM_13_244 : nzlk nzTM 13 244 = some (0, 0, nX13_readHouse) := rfl
theorem lM_13_247 : nzlk nzTM 13 247 = some (0, 0, nX13_readCar) := rfl
theorem lM_13_250 : nzlk nzTM 13 250 = some (0, 0, nX13_readCall) := rfl
theorem lM_13_253 : nzlk nzTM 13 253 = some (0, 0, nX13_readHelper) := rfl
theorem lM_13_257 : nzlk nzTM 13 257 = some (0, 3, nX13_readPart) := rfl
theorem lM_13_268 : nzlk nzTM 13 268 = some (0, 3, nX13_readNamed) := rfl
theorem lM_13_295 : nzlk nzTM 13 295 = some (0, 0, nX13_readLetters) := rfl
theorem lM_13_315 : nzlk nzTM 13 315 = some (0, 1, nX13_readKnown) := rfl
theorem lM_13_326 : nzlk nzTM 13 326 = some (0, 1, nX13_eatsWord) := rfl
theorem lM_13_390 : nzlk nzTM 13 390 = some (5, 0, nX12_init) := rfl
theorem lM_13_391 : nzlk nzTM 13 391 = some (0, 0, nX13_readDay) := rfl
theorem lM_13_416 : nzlk nzTM 13 416 = some (0, 1, nX13_done) := rfl
theorem lM_13_419 : nzlk nzTM 13 419 = some (0, 1, nX13_isCar) := rfl
theorem lM_13_422 : nzlk nzTM 13 422 = some (0, 1, nX13_isHouse) := rfl
theorem lM_13_425 : nzlk nzTM 13 425 = some (0, 1, nX13_carOf) := rfl
theorem lM_13_434 : nzlk nzTM 13 434 = some (0, 2, nX12_way) := rfl
theorem lM_13_437 : nzlk nzTM 13 437 = some (0, 2, nX13_heatBy) := rfl
theorem lM_13_440 : nzlk nzTM 13 440 = some (1, 2, nX13_has) := rfl
theorem lM_13_444 : nzlk nzTM 13 444 = some (0, 2, nX13_goes) := rfl
theorem lM_13_448 : nzlk nzTM 13 448 = some (0, 2, nX13_goesAsDriven) := rfl
theorem lM_13_451 : nzlk nzTM 13 451 = some (0, 1, nX13_comesTo) := rfl
theorem lM_13_454 : nzlk nzTM 13 454 = some (0, 1, nX13_lost) := rfl
theorem lM_13_457 : nzlk nzTM 13 457 = some (1, 1, nX13_bits) := rfl
theorem lM_13_460 : nzlk nzTM 13 460 = some (1, 1, nX13_orders) := rfl
theorem lM_13_469 : nzlk nzTM 13 469 = some (0, 2, nX13_ordered) := rfl
theorem lM_13_472 : nzlk nzTM 13 472 = some (0, 2, nX13_refusesBest) := rfl
theorem lM_13_475 : nzlk nzTM 13 475 = some (0, 2, nX13_bests) := rfl
theorem lM_13_478 : nzlk nzTM 13 478 = some (0, 0, nX13_weighsCars) := rfl
theorem lM_13_481 : nzlk nzTM 13 481 = some (0, 0, nX13_shares) := rfl
theorem lM_13_484 : nzlk nzTM 13 484 = some (0, 2, nX13_housesOf) := rfl
theorem lM_13_487 : nzlk nzTM 13 487 = some (0, 1, nX13_isDish) := rfl
theorem lM_13_490 : nzlk nzTM 13 490 = some (0, 2, nX13_barred) := rfl
theorem lM_13_493 : nzlk nzTM 13 493 = some (0, 2, nX13_cheapest) := rfl
theorem lM_13_496 : nzlk nzTM 13 496 = some (0, 2, nX13_coinOf) := rfl
theorem lM_13_504 : nzlk nzTM 13 504 = some (0, 1, nX13_expected) := rfl
theorem lM_13_508 : nzlk nzTM 13 508 = some (0, 2, nX13_whoOf) := rfl
theorem lM_13_511 : nzlk nzTM 13 511 = some (0, 1, nX13_worthOf) := rfl
theorem lC_13_165 : nzlk nzTC 13 165 = some (.float 70) := rfl
theorem lC_13_167 : nzlk nzTC 13 167 = some (.float 76) := rfl
theorem lC_13_169 : nzlk nzTC 13 169 = some (.float 78) := rfl
theorem lC_13_171 : nzlk nzTC 13 171 = some (.float 80) := rfl
theorem lC_13_173 : nzlk nzTC 13 173 = some (.float 82) := rfl
theorem lC_13_175 : nzlk nzTC 13 175 = some (.float 84) := rfl
theorem lC_13_177 : nzlk nzTC 13 177 = some (.float 86) := rfl
theorem lC_13_179 : nzlk nzTC 13 179 = some (.float 88) := rfl
theorem lC_13_181 : nzlk nzTC 13 181 = some (.float 90) := rfl
theorem lC_13_183 : nzlk nzTC 13 183 = some (.float 92) := rfl
theorem lC_13_185 : nzlk nzTC 13 185 = some (.float 94) := rfl
theorem lC_13_256 : nzlk nzTC 13 256 = some (.float 72) := rfl
theorem lC_13_261 : nzlk nzTC 13 261 = some (.float 74) := rfl
theorem lC_13_272 : nzlk nzTC 13 272 = some (.float 96) := rfl
theorem lC_13_282 : nzlk nzTC 13 282 = some (.float 98) := rfl
theorem lC_13_293 : nzlk nzTC 13 293 = some (.float 100) := rfl
theorem lC_13_298 : nzlk nzTC 13 298 = some (.float 102) := rfl
theorem lC_13_309 : nzlk nzTC 13 309 = some (.float 104) := rfl
theorem lC_13_313 : nzlk nzTC 13 313 = some (.float 106) := rfl
theorem lC_13_318 : nzlk nzTC 13 318 = some (.float 108) := rfl
theorem lC_13_320 : nzlk nzTC 13 320 = some (.float 110) := rfl
theorem lC_13_322 : nzlk nzTC 13 322 = some (.float 112) := rfl
theorem lC_13_324 : nzlk nzTC 13 324 = some (.float 114) := rfl
theorem lC_13_346 : nzlk nzTC 13 346 = some (.float 116) := rfl
theorem lC_13_348 : nzlk nzTC 13 348 = some (.float 118) := rfl
theorem lC_13_350 : nzlk nzTC 13 350 = some (.float 120) := rfl
theorem lC_13_352 : nzlk nzTC 13 352 = some (.float 122) := rfl
theorem lC_13_368 : nzlk nzTC 13 368 = some (.float 124) := rfl
theorem lC_13_378 : nzlk nzTC 13 378 = some (.float 126) := rfl
theorem lC_13_380 : nzlk nzTC 13 380 = some (.float 128) := rfl
theorem lC_13_499 : nzlk nzTC 13 499 = some (.int 99999) := rfl
theorem lL_13_94 : nzlk nzTL 13 94 = some (32) := rfl
theorem lL_13_500 : nzlk nzTL 13 500 = some (100) := rfl
theorem lL_13_502 : nzlk nzTL 13 502 = some ((-1)) := rfl
theorem lN_13_196 : nzlk nzTN 13 196 = some 12 := rfl
theorem lM_14_7 : nzlk nzTM 14 7 = some (0, 2, nX11_led) := rfl
theorem lM_14_15 : nzlk nzTM 14 15 = some (2, 0, nX11_init) := rfl
theorem lM_14_18 : nzlk nzTM 14 18 = some (2, 0, nX13_init) := rfl
theorem lM_14_19 : nzlk nzTM 14 19 = some (0, 5, nX11_feed) := rfl
theorem lM_14_23 : nzlk nzTM 14 23 = some (0, 5, nX13_feed) := rfl
theorem lM_14_24 : nzlk nzTM 14 24 = some (0, 1, nX11_day) := rfl
theorem lM_14_28 : nzlk nzTM 14 28 = some (0, 1, nX13_day) := rfl
theorem lM_14_29 : nzlk nzTM 14 29 = some (0, 0, nX11_fault) := rfl
theorem lM_14_33 : nzlk nzTM 14 33 = some (0, 0, nX13_fault) := rfl
theorem lM_14_34 : nzlk nzTM 14 34 = some (0, 0, nX11_where) := rfl
theorem lM_14_37 : nzlk nzTM 14 37 = some (0, 0, nX13_where) := rfl
theorem lM_14_38 : nzlk nzTM 14 38 = some (0, 2, nX11_drive) := rfl
theorem lM_14_41 : nzlk nzTM 14 41 = some (0, 2, nX13_drive) := rfl
theorem lM_14_42 : nzlk nzTM 14 42 = some (0, 1, nX11_unload) := rfl
theorem lM_14_45 : nzlk nzTM 14 45 = some (0, 1, nX13_unload) := rfl
theorem lM_14_46 : nzlk nzTM 14 46 = some (0, 1, nX11_tea) := rfl
theorem lM_14_50 : nzlk nzTM 14 50 = some (0, 1, nX13_tea) := rfl
theorem lM_14_51 : nzlk nzTM 14 51 = some (0, 1, nX11_comes) := rfl
theorem lM_14_54 : nzlk nzTM 14 54 = some (0, 1, nX13_comes) := rfl
theorem lM_14_55 : nzlk nzTM 14 55 = some (0, 1, nX11_heat) := rfl
theorem lM_14_58 : nzlk nzTM 14 58 = some (0, 1, nX13_heat) := rfl
theorem lM_14_59 : nzlk nzTM 14 59 = some (0, 1, nX11_bad) := rfl
theorem lM_14_62 : nzlk nzTM 14 62 = some (0, 1, nX13_bad) := rfl
theorem lM_14_63 : nzlk nzTM 14 63 = some (0, 2, nX11_way) := rfl
theorem lM_14_66 : nzlk nzTM 14 66 = some (0, 2, nX13_way) := rfl
theorem lM_14_67 : nzlk nzTM 14 67 = some (0, 2, nX11_best) := rfl
theorem lM_14_70 : nzlk nzTM 14 70 = some (0, 2, nX13_best) := rfl
theorem lM_14_71 : nzlk nzTM 14 71 = some (0, 3, nX11_bestAt) := rfl
theorem lM_14_75 : nzlk nzTM 14 75 = some (0, 3, nX13_bestAt) := rfl
theorem lM_14_76 : nzlk nzTM 14 76 = some (0, 0, nX11_share) := rfl
theorem lM_14_79 : nzlk nzTM 14 79 = some (0, 0, nX13_share) := rfl
theorem lM_14_80 : nzlk nzTM 14 80 = some (0, 1, nX11_shared) := rfl
theorem lM_14_83 : nzlk nzTM 14 83 = some (0, 1, nX13_shared) := rfl
theorem lM_14_84 : nzlk nzTM 14 84 = some (0, 1, nX11_odds) := rfl
theorem lM_14_88 : nzlk nzTM 14 88 = some (0, 1, nX13_odds) := rfl
theorem lM_14_89 : nzlk nzTM 14 89 = some (0, 1, nX11_costs) := rfl
theorem lM_14_92 : nzlk nzTM 14 92 = some (0, 1, nX13_costs) := rfl
theorem lM_14_93 : nzlk nzTM 14 93 = some (0, 2, nX11_fits) := rfl
theorem lM_14_96 : nzlk nzTM 14 96 = some (0, 2, nX13_fits) := rfl
theorem lM_14_97 : nzlk nzTM 14 97 = some (0, 2, nX11_breach) := rfl
theorem lM_14_100 : nzlk nzTM 14 100 = some (0, 2, nX13_breach) := rfl
theorem lM_14_101 : nzlk nzTM 14 101 = some (0, 0, nX11_forAll) := rfl
theorem lM_14_104 : nzlk nzTM 14 104 = some (0, 0, nX13_forAll) := rfl
theorem lM_14_105 : nzlk nzTM 14 105 = some (0, 2, nX11_menu) := rfl
theorem lM_14_108 : nzlk nzTM 14 108 = some (0, 2, nX13_menu) := rfl
theorem lM_14_109 : nzlk nzTM 14 109 = some (0, 1, nX11_menuAt) := rfl
theorem lM_14_112 : nzlk nzTM 14 112 = some (0, 1, nX13_menuAt) := rfl
theorem lM_14_113 : nzlk nzTM 14 113 = some (0, 2, nX11_dropped) := rfl
theorem lM_14_116 : nzlk nzTM 14 116 = some (0, 2, nX13_dropped) := rfl
theorem lM_14_117 : nzlk nzTM 14 117 = some (0, 0, nX11_knock) := rfl
theorem lM_14_121 : nzlk nzTM 14 121 = some (0, 0, nX13_knock) := rfl
theorem lM_14_122 : nzlk nzTM 14 122 = some (0, 1, nX11_callAt) := rfl
theorem lM_14_125 : nzlk nzTM 14 125 = some (0, 1, nX13_callAt) := rfl
theorem lM_14_126 : nzlk nzTM 14 126 = some (0, 0, nX11_asTold) := rfl
theorem lM_14_129 : nzlk nzTM 14 129 = some (0, 0, nX13_asTold) := rfl
theorem lM_14_130 : nzlk nzTM 14 130 = some (0, 0, nX11_fill) := rfl
theorem lM_14_133 : nzlk nzTM 14 133 = some (0, 0, nX13_fill) := rfl
theorem lM_14_134 : nzlk nzTM 14 134 = some (0, 1, nX11_helper) := rfl
theorem lM_14_137 : nzlk nzTM 14 137 = some (0, 1, nX13_helper) := rfl
theorem lM_14_138 : nzlk nzTM 14 138 = some (0, 2, nX11_sign) := rfl
theorem lM_14_141 : nzlk nzTM 14 141 = some (0, 2, nX13_sign) := rfl
theorem lM_14_142 : nzlk nzTM 14 142 = some (0, 1, nX11_fading) := rfl
theorem lM_14_145 : nzlk nzTM 14 145 = some (0, 1, nX13_fading) := rfl
theorem lM_14_146 : nzlk nzTM 14 146 = some (0, 3, nX11_probe) := rfl
theorem lM_14_149 : nzlk nzTM 14 149 = some (0, 3, nX13_probe) := rfl
theorem lM_14_150 : nzlk nzTM 14 150 = some (0, 1, nX11_faulty) := rfl
theorem lM_14_153 : nzlk nzTM 14 153 = some (0, 1, nX13_faulty) := rfl
theorem lM_14_154 : nzlk nzTM 14 154 = some (0, 0, nX11_firstCold) := rfl
theorem lM_14_157 : nzlk nzTM 14 157 = some (0, 0, nX13_firstCold) := rfl
theorem lM_14_158 : nzlk nzTM 14 158 = some (0, 1, nX11_recall) := rfl
theorem lM_14_161 : nzlk nzTM 14 161 = some (0, 1, nX13_recall) := rfl
theorem lM_14_162 : nzlk nzTM 14 162 = some (8, 4, nX0_init) := rfl
theorem lM_14_167 : nzlk nzTM 14 167 = some (0, 2, nX13_led) := rfl
theorem lM_14_168 : nzlk nzTM 14 168 = some (0, 0, nX13_thrown) := rfl
theorem lM_14_171 : nzlk nzTM 14 171 = some (0, 1, nX11_size) := rfl
theorem lM_14_174 : nzlk nzTM 14 174 = some (0, 1, nX13_size) := rfl
theorem lM_14_175 : nzlk nzTM 14 175 = some (0, 0, nX11_trouble) := rfl
theorem lM_14_178 : nzlk nzTM 14 178 = some (0, 0, nX13_trouble) := rfl
theorem lN_14_8 : nzlk nzTN 14 8 = some 11 := rfl
theorem lN_14_16 : nzlk nzTN 14 16 = some 13 := rfl
theorem lC_15_265 : nzlk nzTC 15 265 = some (.int 1431655765) := rfl
theorem lC_15_266 : nzlk nzTC 15 266 = some (.int 858993459) := rfl
theorem lC_15_267 : nzlk nzTC 15 267 = some (.int 252645135) := rfl
theorem lF_18_9 : nzlk nzTF 18 9 = some (0, 18, 0, 2) := rfl
theorem lF_18_15 : nzlk nzTF 18 15 = some (0, 18, 1, 0) := rfl
theorem lM_18_335 : nzlk nzTM 18 335 = some (0, 0, nJ0_coder_7d493) := rfl
theorem lM_18_492 : nzlk nzTM 18 492 = some (0, 0, nJ0_isLatin1_aae02) := rfl
theorem lM_18_495 : nzlk nzTM 18 495 = some (1, 2, nJ1_charAt_3b067) := rfl
theorem lM_18_1059 : nzlk nzTM 18 1059 = some (1, 3, nJ3_checkIndex_8e157) := rfl
theorem lS_18_38 : nzlk nzTS 18 38 = some (.int 1) := rfl
theorem lS_18_1053 : nzlk nzTS 18 1053 = some (.float 2) := rfl
theorem lM_19_9 : nzlk nzTM 19 9 = some (1, 2, nJ0_checkIndex_df160) := rfl
