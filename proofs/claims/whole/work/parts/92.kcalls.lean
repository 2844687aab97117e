/-! NoonMeals (object 0): its small calls -/
def zK (h : nzH) (t : Nat) (tr : Int32) : Prop := ∃ F, zobj h 0 11 F ∧ (F 0 = .ref 1 ∧ F 1 = .ref 10 ∧ F 2 = .ref 17 ∧ F 3 = .ref 27 ∧ F 4 = .ref 31 ∧ F 5 = .ref 50 ∧ F 6 = .ref 53 ∧ F 7 = .ref 57 ∧ F 8 = .ref 66) ∧ F 9 = .ref t ∧ F 10 = .int tr
/-- the trouble set -/
def zp0 (h : nzH) (x : Int32) : nzH := (nzput h 0 11 10 (.int x)).getD h
def zwn (x a b : Int32) : Int32 := if x < a then 0 else if b < x then 0 else 1
def zhs (c : Nat → Int32) (s r : Int32) : Int32 := if r < 0 then 0 else if zrow c s ≤ r then 0 else 1
section NZK
variable {d : Nat} {h : nzH} {t : Nat} {tr : Int32} {c g : Nat → Int32}
theorem zK_o (K : zK h t tr) : ∃ F, zobj h 0 11 F := ⟨K.choose, K.choose_spec.1⟩
theorem zkR0 (K : zK h t tr) : nzgR h 0 11 0 = some 1 := by obtain ⟨F, o, e, -⟩ := K; exact zg_R o e.1
theorem zkR1 (K : zK h t tr) : nzgR h 0 11 1 = some 10 := by obtain ⟨F, o, e, -⟩ := K; exact zg_R o e.2.1
theorem zkR2 (K : zK h t tr) : nzgR h 0 11 2 = some 17 := by obtain ⟨F, o, e, -⟩ := K; exact zg_R o e.2.2.1
theorem zkR3 (K : zK h t tr) : nzgR h 0 11 3 = some 27 := by obtain ⟨F, o, e, -⟩ := K; exact zg_R o e.2.2.2.1
theorem zkR4 (K : zK h t tr) : nzgR h 0 11 4 = some 31 := by obtain ⟨F, o, e, -⟩ := K; exact zg_R o e.2.2.2.2.1
theorem zkR5 (K : zK h t tr) : nzgR h 0 11 5 = some 50 := by obtain ⟨F, o, e, -⟩ := K; exact zg_R o e.2.2.2.2.2.1
theorem zkR6 (K : zK h t tr) : nzgR h 0 11 6 = some 53 := by obtain ⟨F, o, e, -⟩ := K; exact zg_R o e.2.2.2.2.2.2.1
theorem zkR7 (K : zK h t tr) : nzgR h 0 11 7 = some 57 := by obtain ⟨F, o, e, -⟩ := K; exact zg_R o e.2.2.2.2.2.2.2.1
theorem zkR8 (K : zK h t tr) : nzgR h 0 11 8 = some 66 := by obtain ⟨F, o, e, -⟩ := K; exact zg_R o e.2.2.2.2.2.2.2.2
theorem zkR9 (K : zK h t tr) : nzgR h 0 11 9 = some t := by obtain ⟨F, o, -, e, -⟩ := K; exact zg_R o e
theorem zkI (K : zK h t tr) : nzgI h 0 11 10 = some tr := by obtain ⟨F, o, -, -, e⟩ := K; exact zg_I o e
theorem zp0_of (K : zK h t tr) (x : Int32) : nzput h 0 11 10 (.int x) = some (zp0 h x) := by
  obtain ⟨F, o, -⟩ := K
  rw [zp0, zp_of o]
  rfl
theorem zp0_K (K : zK h t tr) (x : Int32) : zK (zp0 h x) t x := by
  obtain ⟨F, o, e, e9, e10⟩ := K
  rw [zp0, zp_of o]
  refine ⟨_, zc_setS _ _ _, ?_, ?_, ?_⟩
  · simp only [va_up]
    exact e
  · simp only [va_up]
    exact e9
  · rfl
theorem zp0_fr (K : zK h t tr) (x : Int32) : zfr 0 1 h (zp0 h x) := by
  obtain ⟨F, o, e, e9, e10⟩ := K
  rw [zp0, zp_of o]
  exact zfr_set _ _ (by decide) (by decide)
theorem zK_sm {h1 : nzH} (K : zK h t tr) (s : nzcell h1 0 = nzcell h 0) : zK h1 t tr := by
  obtain ⟨F, o, e⟩ := K
  exact ⟨F, s.trans o, e⟩
theorem jX11_refuse (K : zK h t tr) (hd : 0 < d) (x : Int32) : nzxI d nX11_refuse [.ref 0, .int x] h = some (-1, zp0 h x) := by
  refine iX11_refuse hd K.choose_spec.1 ?_
  rw [eX11_refuse_0, zp0_of K, Option.bind_some]
theorem jX11_accept (K : zK h t tr) (hd : 0 < d) (x : Int32) : nzxI d nX11_accept [.ref 0, .int x] h = some (x, zp0 h 0) := by
  refine iX11_accept hd K.choose_spec.1 ?_
  rw [eX11_accept_0, zp0_of K, Option.bind_some]
theorem jX11_noDay (K : zK h t tr) (E : zday h t c g) (hd : 1 < d) : nzxI d nX11_noDay [.ref 0] h = some (if zrow c 3 = 0 then 1 else 0, h) := by
  refine iX11_noDay (by omega) K.choose_spec.1 ?_
  rw [eX11_noDay_0, zkR9 K, Option.bind_some, jX0_rows E (by omega), Option.bind_some]
  split <;> rfl
theorem jX11_trouble (K : zK h t tr) (hd : 0 < d) : nzxI d nX11_trouble [.ref 0] h = some (tr, h) := by
  refine iX11_trouble hd K.choose_spec.1 ?_
  rw [eX11_trouble_0, zkI K, Option.bind_some]
theorem jX11_drivenTrouble (K : zK h t tr) (E : zday h t c g) {N : Nat → Nat} {R : Nat → Nat → Nat} {tea : Int32} (D : zrou h N R tea) (hd : 2 < d) (x : Int32) : nzxI d nX11_drivenTrouble [.ref 0, .int x] h = some (if zhs c 3 x = 0 then 1 else if zcar N R x 0 3 = -1 then 6 else 0, h) := by
  refine iX11_drivenTrouble (by omega) K.choose_spec.1 ?_
  rw [eX11_drivenTrouble_0, zkR9 K, Option.bind_some, jX0_has E (by omega), Option.bind_some, ← zhs]
  by_cases y : zhs c 3 x = 0
  · rw [if_pos y, if_pos y]
  · rw [if_neg y, if_neg y, zkR1 K, Option.bind_some, jX6_carOf D (by omega), Option.bind_some]
    split <;> rfl
theorem jX11_callTrouble (K : zK h t tr) (E : zday h t c g) (hd : 2 < d) : nzxI d nX11_callTrouble [.ref 0] h = some (if zrow c 3 = 0 then 1 else if zrow c 6 = 0 then 6 else 0, h) := by
  refine iX11_callTrouble (by omega) K.choose_spec.1 ?_
  rw [eX11_callTrouble_0, jX11_noDay K E (by omega), Option.bind_some]
  by_cases y : zrow c 3 = 0
  · rw [if_pos y, if_neg (show ¬ (1 : Int32) = 0 by decide), if_pos y]
  · rw [if_neg y, if_pos rfl, if_neg y, zkR9 K, Option.bind_some, jX0_rows E (by omega), Option.bind_some]
    split <;> rfl
theorem zX_way (K : zK h t tr) (E : zday h t c g) (hd : 4 < d) {nf : Nat} (hnf : nf ≤ 6) (e5 : c 5 = nI nf) (x y : Int32) : nzxI d nX11_way [.ref 0, .int x, .int y] h = if zrow c 3 = 0 then some (-1, zp0 h 1) else if zwn x 0 99 = 0 then some (-1, zp0 h 2) else if zwn y 0 99 = 0 then some (-1, zp0 h 2) else some (zway c g nf x y, zp0 h 0) := by
  by_cases z : zrow c 3 = 0
  · rw [if_pos z]
    refine iX11_way (by omega) K.choose_spec.1 ?_
    rw [eX11_way_0, jX11_noDay K E (by omega), Option.bind_some, if_pos z, if_neg (show ¬ (1 : Int32) = 0 by decide), jX11_refuse K (by omega), Option.bind_some]
  · rw [if_neg z]
    by_cases u : zwn x 0 99 = 0
    · rw [if_pos u]
      refine iX11_way (by omega) K.choose_spec.1 ?_
      rw [eX11_way_0, jX11_noDay K E (by omega), Option.bind_some, if_neg z, if_pos rfl, jX11_isWithin (by omega), Option.bind_some, ← zwn, if_pos u, eX11_way_33, jX11_refuse K (by omega), Option.bind_some]
    · rw [if_neg u]
      by_cases v : zwn y 0 99 = 0
      · rw [if_pos v]
        refine iX11_way (by omega) K.choose_spec.1 ?_
        rw [eX11_way_0, jX11_noDay K E (by omega), Option.bind_some, if_neg z, if_pos rfl, jX11_isWithin (by omega), Option.bind_some, ← zwn, if_neg u, jX11_isWithin (by omega), Option.bind_some, ← zwn, if_pos v, eX11_way_33, jX11_refuse K (by omega), Option.bind_some]
      · rw [if_neg v]
        refine iX11_way (by omega) K.choose_spec.1 ?_
        rw [eX11_way_0, jX11_noDay K E (by omega), Option.bind_some, if_neg z, if_pos rfl, jX11_isWithin (by omega), Option.bind_some, ← zwn, if_neg u, jX11_isWithin (by omega), Option.bind_some, ← zwn, if_neg v, zkR9 K, Option.bind_some, jX0_wayBetween E (by omega) hnf e5, Option.bind_some, jX11_accept K (by omega), Option.bind_some]
end NZK
