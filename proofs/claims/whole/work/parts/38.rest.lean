/-! the reader's lines; written by wip/gen/gen_rest.py -/
def zpAll : List (zrs → Bool × zrs) → zrs → Bool × zrs
  | [], S => (true, S)
  | f :: r, S => if (f S).1 then zpAll r (f S).2 else (false, (f S).2)
def zStp (d t : Nat) (tp : Nat → Int32) (hl L : Nat) (m : nzM) (as : List Value) (f : zrs → Bool × zrs) : Prop := ∀ h S, zrd h t tp hl L S → zrok S → ∃ h1, nzxI d m as h = some (if (f S).1 then 1 else 0, h1) ∧ zrd h1 t tp hl L (f S).2 ∧ zrfr t h h1 ∧ zrok (f S).2
def zRst (t : Nat) (tp : Nat → Int32) (hl L : Nat) (k : nzH → nzO) (fs : List (zrs → Bool × zrs)) : Prop := ∀ h S, zrd h t tp hl L S → zrok S → ∃ h1, k h = some (some (.int (if (zpAll fs S).1 then 1 else 0)), h1) ∧ zrd h1 t tp hl L (zpAll fs S).2 ∧ zrfr t h h1 ∧ zrok (zpAll fs S).2
section NZL
variable {d t : Nat} {tp : Nat → Int32} {hl L : Nat}
theorem zrst_nil : zRst t tp hl L (fun h => some (some (.int 1), h)) [] := fun h S D K => ⟨h, rfl, D, zrfr_rfl _ _, K⟩
theorem zrst_cons {m : nzM} {as : List Value} {f : zrs → Bool × zrs} {fs : List (zrs → Bool × zrs)} {k0 k1 : nzH → nzO} (a : zStp d t tp hl L m as f) (b : ∀ h, k0 h = some (some (.int 0), h)) (c : zRst t tp hl L k1 fs) : zRst t tp hl L (fun h => (nzxI d m as h).bind fun q => if q.1 = 0 then k0 q.2 else k1 q.2) (f :: fs) := by
  intro h S D K
  obtain ⟨h1, q1, q2, q3, q4⟩ := a h S D K
  by_cases e : (f S).1 = true
  · simp only [zpAll, if_pos e]
    rw [if_pos e] at q1
    obtain ⟨h2, w1, w2, w3, w4⟩ := c h1 _ q2 q4
    refine ⟨h2, ?_, w2, zrfr_tr q3 w3, w4⟩
    rw [q1, Option.bind_some, if_neg (show ¬ (1 : Int32) = 0 by decide)]
    exact w1
  · simp only [zpAll, if_neg e]
    rw [if_neg e] at q1
    refine ⟨h1, ?_, q2, q3, q4⟩
    rw [q1, Option.bind_some]
    exact b h1
theorem zrok_n {S : zrs} (K : zrok S) : zrok (zpNn tp L S).2 := by
  unfold zpNn
  split
  · split
    · unfold zsNm
      split
      · exact K
      · exact K
    · exact K
  · exact K
theorem zrok_w {S : zrs} (K : zrok S) (l : List Nat) : zrok (zpWd tp L l S).2 := by
  unfold zpWd
  split <;> exact K
theorem zrok_h {S : zrs} (K : zrok S) (k : Nat) (a b : Int32) : zrok (zpWh tp L k a b S).2 := by
  unfold zpWh
  split
  · split <;> exact K
  · exact K
theorem zrok_l {S : zrs} (K : zrok S) (k : Nat) : zrok (zpLt tp L k S).2 := by
  unfold zpLt
  split <;> exact K
theorem zrok_t {S : zrs} (K : zrok S) (w : Int32) (k : Nat) : zrok (zpTn tp L w k S).2 := by
  unfold zpTn
  split
  · split
    · exact K
    · split <;> exact K
  · exact K
theorem zrok_p {S : zrs} (K : zrok S) (l : List Nat) (k : Nat) : zrok (zpPh tp L l k S).2 := by
  unfold zpPh
  show zrok (if _ then _ else _)
  split <;> exact K
theorem zrok_u : ∀ (j : Nat) (x : Int32) (S : zrs), zrok S → zrok (zpUd tp L j x S).2
  | 0, _, _, K => K
  | j + 1, x, S, K => by
    rw [zpUd]
    split
    · split
      · split
        · split
          · exact zrok_u j _ _ K
          · exact K
        · exact K
      · exact K
    · exact K
theorem zst_n (hd : 7 < d) : zStp d t tp hl L nX1_newName [.ref 1] (zpNn tp L) := fun h S D K => let ⟨h1, a, b, c⟩ := jX1_newName D K hd; ⟨h1, a, b, c, zrok_n K⟩
theorem zst_w {k : UInt32} {l : List Nat} (s : zstr k l) (hd : 5 < d) : zStp d t tp hl L nX1_word [.ref 1, .float k] (zpWd tp L l) := fun h S D K => let ⟨h1, a, b, c⟩ := jX1_word D hd s; ⟨h1, a, b, c, zrok_w K l⟩
theorem zst_h {k : Nat} (hk : k < 7) {x : Int32} (hx : x = nI k) (lo hi : Int32) (hd : 5 < d) : zStp d t tp hl L nX1_whole [.ref 1, .int x, .int lo, .int hi] (zpWh tp L k lo hi) := fun h S D K => let ⟨h1, a, b, c⟩ := jX1_whole D K hd hk hx lo hi; ⟨h1, a, b, c, zrok_h K k lo hi⟩
theorem zst_l {k : Nat} (hk : k < 7) {x : Int32} (hx : x = nI k) (hd : 5 < d) : zStp d t tp hl L nX1_letters [.ref 1, .int x] (zpLt tp L k) := fun h S D K => let ⟨h1, a, b, c⟩ := jX1_letters D K hd hk hx; ⟨h1, a, b, c, zrok_l K k⟩
theorem zst_t {k : Nat} (hk : k < 7) {x : Int32} (hx : x = nI k) (w : Int32) (hd : 7 < d) : zStp d t tp hl L nX1_toldName [.ref 1, .int w, .int x] (zpTn tp L w k) := fun h S D K => let ⟨h1, a, b, c⟩ := jX1_toldName D K hd w hk hx; ⟨h1, a, b, c, zrok_t K w k⟩
theorem zst_p {q : UInt32} {l : List Nat} (s : zstr q l) {k : Nat} (hk : k < 7) {x : Int32} (hx : x = nI k) (hd : 5 < d) : zStp d t tp hl L nX1_perhaps [.ref 1, .float q, .int x] (zpPh tp L l k) := fun h S D K => let ⟨h1, a, b, c⟩ := jX1_perhaps D K hd s hk hx; ⟨h1, a, b, c, zrok_p K l k⟩
theorem zst_u (hd : 6 < d) : zStp d t tp hl L nX1_unlikeDays [.ref 1] (zpUd tp L 8 0) := fun h S D K => let ⟨h1, a, b, c⟩ := jX1_unlikeDays D K hd; ⟨h1, a, b, c, zrok_u 8 0 S K⟩
theorem zstr_28 : zstr 28 [104, 111, 116] := by unfold zstr; decide +kernel
theorem zstr_30 : zstr 30 [98, 121] := by unfold zstr; decide +kernel
theorem zstr_36 : zstr 36 [97, 116] := by unfold zstr; decide +kernel
theorem zstr_38 : zstr 38 [97, 100, 100, 115] := by unfold zstr; decide +kernel
theorem zstr_40 : zstr 40 [111, 102] := by unfold zstr; decide +kernel
theorem zstr_42 : zstr 42 [99, 111, 115, 116, 115] := by unfold zstr; decide +kernel
theorem zstr_44 : zstr 44 [98, 97, 114, 115] := by unfold zstr; decide +kernel
theorem zstr_46 : zstr 46 [101, 97, 116, 115] := by unfold zstr; decide +kernel
theorem zstr_48 : zstr 48 [100, 111, 111, 114, 115] := by unfold zstr; decide +kernel
theorem zstr_50 : zstr 50 [116, 101, 97] := by unfold zstr; decide +kernel
theorem zstr_52 : zstr 52 [99, 104, 97, 110, 99, 101] := by unfold zstr; decide +kernel
theorem zstr_54 : zstr 54 [110, 101, 101, 100] := by unfold zstr; decide +kernel
theorem zstr_56 : zstr 56 [102, 114, 111, 109] := by unfold zstr; decide +kernel
theorem zstr_58 : zstr 58 [115, 116, 97, 114, 116, 115] := by unfold zstr; decide +kernel
theorem zstr_60 : zstr 60 [104, 111, 108, 100, 115] := by unfold zstr; decide +kernel
theorem zstr_62 : zstr 62 [99, 111, 111, 108, 115] := by unfold zstr; decide +kernel
theorem zstr_64 : zstr 64 [116, 97, 107, 101, 115] := by unfold zstr; decide +kernel
theorem zstr_66 : zstr 66 [100, 97, 121, 115] := by unfold zstr; decide +kernel
theorem zstr_68 : zstr 68 [109, 111, 115, 116] := by unfold zstr; decide +kernel
/-- the lines, by sort -/
def zLn (tp : Nat → Int32) (L : Nat) : Nat → List (zrs → Bool × zrs)
  | 0 => [zpNn tp L, zpWd tp L [97, 116], zpWh tp L 0 0 99, zpWd tp L [104, 111, 116], zpWh tp L 1 60 99]
  | 1 => [zpNn tp L, zpWd tp L [111, 102], zpLt tp L 0, zpWd tp L [99, 111, 115, 116, 115], zpWh tp L 1 1 99]
  | 2 => [zpNn tp L, zpWd tp L [98, 97, 114, 115], zpLt tp L 0]
  | 3 => [zpNn tp L, zpWd tp L [97, 116], zpWh tp L 0 0 99, zpWd tp L [101, 97, 116, 115], zpTn tp L 2 1, zpWd tp L [100, 111, 111, 114, 115], zpWh tp L 2 0 30, zpWd tp L [116, 101, 97], zpWh tp L 3 0 60, zpWd tp L [99, 104, 97, 110, 99, 101], zpWh tp L 4 0 100, zpWd tp L [110, 101, 101, 100], zpWh tp L 5 1 9, zpPh tp L [100, 111, 103] 6]
  | 4 => [zpNn tp L, zpWd tp L [102, 114, 111, 109], zpTn tp L 0 0, zpWd tp L [115, 116, 97, 114, 116, 115], zpWh tp L 1 500 800, zpWd tp L [104, 111, 108, 100, 115], zpWh tp L 2 1 6, zpWd tp L [99, 111, 111, 108, 115], zpWh tp L 3 0 50, zpPh tp L [97, 102, 114, 97, 105, 100] 4]
  | 5 => [zpWh tp L 0 0 98, zpWd tp L [97, 100, 100, 115], zpWh tp L 1 1 60]
  | 6 => [zpNn tp L, zpWd tp L [116, 97, 107, 101, 115], zpWh tp L 0 1 60, zpWd tp L [99, 104, 97, 110, 99, 101], zpWh tp L 1 0 100]
  | 7 => [zpNn tp L, zpWd tp L [100, 97, 121, 115], zpUd tp L 8 0, zpWd tp L [109, 111, 115, 116], zpWh tp L 1 1 7]
  | 8 => [zpWd tp L [104, 111, 116], zpWh tp L 0 40 90, zpWd tp L [98, 121], zpWh tp L 1 600 900]
  | _ => []
theorem zln_0 (hd : 7 < d) : zRst t tp hl L (fun h => nzr d nX1_readRest 106 [some (.ref 1)] [] h) (zLn tp L 0) := by
  intro h S D K
  have := (zrst_cons (zst_n (d := d) (by omega)) (fun h => eX1_readRest_158 d 1 h) (zrst_cons (zst_w (d := d) zstr_36 (by omega)) (fun h => eX1_readRest_158 d 1 h) (zrst_cons (zst_h (d := d) (k := 0) (x := 0) (by decide) rfl 0 99 (by omega)) (fun h => eX1_readRest_158 d 1 h) (zrst_cons (zst_w (d := d) zstr_28 (by omega)) (fun h => eX1_readRest_158 d 1 h) (zrst_cons (zst_h (d := d) (k := 1) (x := 1) (by decide) rfl 60 99 (by omega)) (fun h => eX1_readRest_158 d 1 h) (zrst_nil))))) : zRst t tp hl L _ _) h S D K
  simp only [eX1_readRest_106]
  exact this
theorem zln_1 (hd : 7 < d) : zRst t tp hl L (fun h => nzr d nX1_readRest 197 [some (.ref 1)] [] h) (zLn tp L 1) := by
  intro h S D K
  have := (zrst_cons (zst_n (d := d) (by omega)) (fun h => eX1_readRest_245 d 1 h) (zrst_cons (zst_w (d := d) zstr_40 (by omega)) (fun h => eX1_readRest_245 d 1 h) (zrst_cons (zst_l (d := d) (k := 0) (x := 0) (by decide) rfl (by omega)) (fun h => eX1_readRest_245 d 1 h) (zrst_cons (zst_w (d := d) zstr_42 (by omega)) (fun h => eX1_readRest_245 d 1 h) (zrst_cons (zst_h (d := d) (k := 1) (x := 1) (by decide) rfl 1 99 (by omega)) (fun h => eX1_readRest_245 d 1 h) (zrst_nil))))) : zRst t tp hl L _ _) h S D K
  simp only [eX1_readRest_197]
  exact this
theorem zln_2 (hd : 7 < d) : zRst t tp hl L (fun h => nzr d nX1_readRest 247 [some (.ref 1)] [] h) (zLn tp L 2) := by
  intro h S D K
  have := (zrst_cons (zst_n (d := d) (by omega)) (fun h => eX1_readRest_275 d 1 h) (zrst_cons (zst_w (d := d) zstr_44 (by omega)) (fun h => eX1_readRest_275 d 1 h) (zrst_cons (zst_l (d := d) (k := 0) (x := 0) (by decide) rfl (by omega)) (fun h => eX1_readRest_275 d 1 h) (zrst_nil))) : zRst t tp hl L _ _) h S D K
  simp only [eX1_readRest_247]
  exact this
theorem zln_3 (hd : 7 < d) : zRst t tp hl L (fun h => nzr d nX1_readRest 277 [some (.ref 1)] [] h) (zLn tp L 3) := by
  intro h S D K
  have := (zrst_cons (zst_n (d := d) (by omega)) (fun h => eX1_readRest_417 d 1 h) (zrst_cons (zst_w (d := d) zstr_36 (by omega)) (fun h => eX1_readRest_417 d 1 h) (zrst_cons (zst_h (d := d) (k := 0) (x := 0) (by decide) rfl 0 99 (by omega)) (fun h => eX1_readRest_417 d 1 h) (zrst_cons (zst_w (d := d) zstr_46 (by omega)) (fun h => eX1_readRest_417 d 1 h) (zrst_cons (zst_t (d := d) (k := 1) (x := 1) (by decide) rfl 2 (by omega)) (fun h => eX1_readRest_417 d 1 h) (zrst_cons (zst_w (d := d) zstr_48 (by omega)) (fun h => eX1_readRest_417 d 1 h) (zrst_cons (zst_h (d := d) (k := 2) (x := 2) (by decide) rfl 0 30 (by omega)) (fun h => eX1_readRest_417 d 1 h) (zrst_cons (zst_w (d := d) zstr_50 (by omega)) (fun h => eX1_readRest_417 d 1 h) (zrst_cons (zst_h (d := d) (k := 3) (x := 3) (by decide) rfl 0 60 (by omega)) (fun h => eX1_readRest_417 d 1 h) (zrst_cons (zst_w (d := d) zstr_52 (by omega)) (fun h => eX1_readRest_417 d 1 h) (zrst_cons (zst_h (d := d) (k := 4) (x := 4) (by decide) rfl 0 100 (by omega)) (fun h => eX1_readRest_417 d 1 h) (zrst_cons (zst_w (d := d) zstr_54 (by omega)) (fun h => eX1_readRest_417 d 1 h) (zrst_cons (zst_h (d := d) (k := 5) (x := 5) (by decide) rfl 1 9 (by omega)) (fun h => eX1_readRest_417 d 1 h) (zrst_cons (zst_p (d := d) zstr_32 (k := 6) (x := 6) (by decide) rfl (by omega)) (fun h => eX1_readRest_417 d 1 h) (zrst_nil)))))))))))))) : zRst t tp hl L _ _) h S D K
  simp only [eX1_readRest_277]
  exact this
theorem zln_4 (hd : 7 < d) : zRst t tp hl L (fun h => nzr d nX1_readRest 419 [some (.ref 1)] [] h) (zLn tp L 4) := by
  intro h S D K
  have := (zrst_cons (zst_n (d := d) (by omega)) (fun h => eX1_readRest_521 d 1 h) (zrst_cons (zst_w (d := d) zstr_56 (by omega)) (fun h => eX1_readRest_521 d 1 h) (zrst_cons (zst_t (d := d) (k := 0) (x := 0) (by decide) rfl 0 (by omega)) (fun h => eX1_readRest_521 d 1 h) (zrst_cons (zst_w (d := d) zstr_58 (by omega)) (fun h => eX1_readRest_521 d 1 h) (zrst_cons (zst_h (d := d) (k := 1) (x := 1) (by decide) rfl 500 800 (by omega)) (fun h => eX1_readRest_521 d 1 h) (zrst_cons (zst_w (d := d) zstr_60 (by omega)) (fun h => eX1_readRest_521 d 1 h) (zrst_cons (zst_h (d := d) (k := 2) (x := 2) (by decide) rfl 1 6 (by omega)) (fun h => eX1_readRest_521 d 1 h) (zrst_cons (zst_w (d := d) zstr_62 (by omega)) (fun h => eX1_readRest_521 d 1 h) (zrst_cons (zst_h (d := d) (k := 3) (x := 3) (by decide) rfl 0 50 (by omega)) (fun h => eX1_readRest_521 d 1 h) (zrst_cons (zst_p (d := d) zstr_34 (k := 4) (x := 4) (by decide) rfl (by omega)) (fun h => eX1_readRest_521 d 1 h) (zrst_nil)))))))))) : zRst t tp hl L _ _) h S D K
  simp only [eX1_readRest_419]
  exact this
theorem zln_5 (hd : 7 < d) : zRst t tp hl L (fun h => nzr d nX1_readRest 160 [some (.ref 1)] [] h) (zLn tp L 5) := by
  intro h S D K
  have := (zrst_cons (zst_h (d := d) (k := 0) (x := 0) (by decide) rfl 0 98 (by omega)) (fun h => eX1_readRest_195 d 1 h) (zrst_cons (zst_w (d := d) zstr_38 (by omega)) (fun h => eX1_readRest_195 d 1 h) (zrst_cons (zst_h (d := d) (k := 1) (x := 1) (by decide) rfl 1 60 (by omega)) (fun h => eX1_readRest_195 d 1 h) (zrst_nil))) : zRst t tp hl L _ _) h S D K
  simp only [eX1_readRest_160]
  exact this
theorem zln_6 (hd : 7 < d) : zRst t tp hl L (fun h => nzr d nX1_readRest 523 [some (.ref 1)] [] h) (zLn tp L 6) := by
  intro h S D K
  have := (zrst_cons (zst_n (d := d) (by omega)) (fun h => eX1_readRest_574 d 1 h) (zrst_cons (zst_w (d := d) zstr_64 (by omega)) (fun h => eX1_readRest_574 d 1 h) (zrst_cons (zst_h (d := d) (k := 0) (x := 0) (by decide) rfl 1 60 (by omega)) (fun h => eX1_readRest_574 d 1 h) (zrst_cons (zst_w (d := d) zstr_52 (by omega)) (fun h => eX1_readRest_574 d 1 h) (zrst_cons (zst_h (d := d) (k := 1) (x := 1) (by decide) rfl 0 100 (by omega)) (fun h => eX1_readRest_574 d 1 h) (zrst_nil))))) : zRst t tp hl L _ _) h S D K
  simp only [eX1_readRest_523]
  exact this
theorem zln_7 (hd : 7 < d) : zRst t tp hl L (fun h => nzr d nX1_readRest 576 [some (.ref 1)] [] h) (zLn tp L 7) := by
  intro h S D K
  have := (zrst_cons (zst_n (d := d) (by omega)) (fun h => eX1_readRest_623 d 1 h) (zrst_cons (zst_w (d := d) zstr_66 (by omega)) (fun h => eX1_readRest_623 d 1 h) (zrst_cons (zst_u (d := d) (by omega)) (fun h => eX1_readRest_623 d 1 h) (zrst_cons (zst_w (d := d) zstr_68 (by omega)) (fun h => eX1_readRest_623 d 1 h) (zrst_cons (zst_h (d := d) (k := 1) (x := 1) (by decide) rfl 1 7 (by omega)) (fun h => eX1_readRest_623 d 1 h) (zrst_nil))))) : zRst t tp hl L _ _) h S D K
  simp only [eX1_readRest_576]
  exact this
theorem zln_8 (hd : 7 < d) : zRst t tp hl L (fun h => nzr d nX1_readRest 56 [some (.ref 1)] [] h) (zLn tp L 8) := by
  intro h S D K
  have := (zrst_cons (zst_w (d := d) zstr_28 (by omega)) (fun h => eX1_readRest_104 d 1 h) (zrst_cons (zst_h (d := d) (k := 0) (x := 0) (by decide) rfl 40 90 (by omega)) (fun h => eX1_readRest_104 d 1 h) (zrst_cons (zst_w (d := d) zstr_30 (by omega)) (fun h => eX1_readRest_104 d 1 h) (zrst_cons (zst_h (d := d) (k := 1) (x := 1) (by decide) rfl 600 900 (by omega)) (fun h => eX1_readRest_104 d 1 h) (zrst_nil)))) : zRst t tp hl L _ _) h S D K
  simp only [eX1_readRest_56]
  exact this
theorem zln_go {s : Nat} (hs : s < 9) {h : nzH} : ∃ pc, (pc = [106, 197, 247, 277, 419, 160, 523, 576, 56].getD s 0) ∧ nzr d nX1_readRest 4 [some (.ref 1)] [.int (nI s)] h = nzr d nX1_readRest pc [some (.ref 1)] [] h := by
  have e : (nI s).toInt = (s : Int) := nI_toInt (by omega)
  have h0 : ¬ ((nI s).toInt < 0 ∨ 8 < (nI s).toInt) := by omega
  have e2 : ((nI s).toInt - 0).toNat = s := by omega
  have hh : ∀ q, q < 9 → ∃ of, (#[102, 193, 243, 273, 415, 156, 519, 572, 52] : Array Int)[q]? = some of ∧ nzj 4 of = some ([106, 197, 247, 277, 419, 160, 523, 576, 56].getD q 0) := by
    intro q hq
    match q, hq with
    | 0, _ => exact ⟨102, rfl, rfl⟩
    | 1, _ => exact ⟨193, rfl, rfl⟩
    | 2, _ => exact ⟨243, rfl, rfl⟩
    | 3, _ => exact ⟨273, rfl, rfl⟩
    | 4, _ => exact ⟨415, rfl, rfl⟩
    | 5, _ => exact ⟨156, rfl, rfl⟩
    | 6, _ => exact ⟨519, rfl, rfl⟩
    | 7, _ => exact ⟨572, rfl, rfl⟩
    | 8, _ => exact ⟨52, rfl, rfl⟩
  obtain ⟨of, a, b⟩ := hh s hs
  exact ⟨_, rfl, z_tabIn dX1_readRest_4 h0 (by rw [e2]; exact a) b⟩
theorem jX1_readRest {h : nzH} {S : zrs} (D : zrd h t tp hl L S) (K : zrok S) (hd : 8 < d) {s : Nat} (hs : s < 9) (es : S.2.1.1 = nI s) : ∃ h1, nzxI d nX1_readRest [.ref 1] h = some (if (zpAll (zLn tp L s) S).1 then 1 else 0, h1) ∧ zrd h1 t tp hl L (zpAll (zLn tp L s) S).2 ∧ zrfr t h h1 ∧ zrok (zpAll (zLn tp L s) S).2 := by
  have g := zrd_kind D
  obtain ⟨pc, epc, e⟩ := zln_go (d := d - 1) hs (h := h)
  have key : zRst t tp hl L (fun h => nzr (d - 1) nX1_readRest pc [some (.ref 1)] [] h) (zLn tp L s) := by
    subst epc
    match s, hs with
    | 0, _ => exact zln_0 (by omega)
    | 1, _ => exact zln_1 (by omega)
    | 2, _ => exact zln_2 (by omega)
    | 3, _ => exact zln_3 (by omega)
    | 4, _ => exact zln_4 (by omega)
    | 5, _ => exact zln_5 (by omega)
    | 6, _ => exact zln_6 (by omega)
    | 7, _ => exact zln_7 (by omega)
    | 8, _ => exact zln_8 (by omega)
  obtain ⟨h1, q1, q2⟩ := key h S D K
  refine ⟨h1, iX1_readRest (by omega) D.1.choose_spec.1 ?_, q2⟩
  rw [eX1_readRest_0, g.2.2.2.2.2.2.1, Option.bind_some, es, e]
  exact q1
end NZL
