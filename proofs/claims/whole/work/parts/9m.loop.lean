/-! the law's loop; written by wip/gen/gen_loop.py -/
theorem nzcall_le {d : Nat} {m : nzM} {as : List Value} {h h1 : nzH} {r : Option Value} (e : nzcall d m as h = some (r, h1)) : nzle h h1 := by
  cases d with
  | zero => cases e
  | succ d =>
    unfold nzcall at e
    dsimp only at e
    split at e
    · obtain ⟨l, -, e2⟩ := Option.bind_eq_some_iff.mp e
      obtain ⟨n, hn⟩ := nzr_some.mp e2
      exact nzgo_heap _ _ _ _ _ _ _ _ _ hn
    · cases e
theorem nzxI_le {d : Nat} {m : nzM} {as : List Value} {h h1 : nzH} {v : Int32} (e : nzxI d m as h = some (v, h1)) : nzle h h1 := by
  unfold nzxI at e
  obtain ⟨⟨r, h2⟩, e1, e2⟩ := Option.bind_eq_some_iff.mp e
  dsimp only at e2
  split at e2
  · cases e2; exact nzcall_le e1
  · cases e2
theorem nzxL_le {d : Nat} {m : nzM} {as : List Value} {h h1 : nzH} {v : Int64} (e : nzxL d m as h = some (v, h1)) : nzle h h1 := by
  unfold nzxL at e
  obtain ⟨⟨r, h2⟩, e1, e2⟩ := Option.bind_eq_some_iff.mp e
  dsimp only at e2
  split at e2
  · cases e2; exact nzcall_le e1
  · cases e2
def zJ (L : Nat) (xs : Nat → Int32) (h : nzH) : Prop := zQX h ∧ (∃ f, zlon h 94 1 f) ∧ 95 ≤ h.1 ∧ h.2.2.2 = (L, xs)
abbrev zlo (i : Nat) (u5 u6 : Option Value) : nzL := [some (.float 0), some (.ref 0), some (.ref 73), some (.ref 94), some (.int (nI i)), u5, u6]
def zJs (L : Nat) (xs : Nat → Int32) (h h2 : nzH) : Prop := zJ L xs h2 ∧ h2.2.1.1 ≤ h.2.1.1 + 27 ∧ h2.2.1.2 ≤ h.2.1.2 + 238
theorem zJ_step {L : Nat} {xs : Nat → Int32} {h h2 : nzH} (j : zJ L xs h) (s : zstep h h2) : zJs L xs h h2 := by
  obtain ⟨q, ⟨f, hf⟩, n, sc⟩ := j
  obtain ⟨s1, s2, s3, s4, s5, s6, s7⟩ := s
  exact ⟨⟨s1, ⟨f, (s7 94 (by decide) (by omega)).trans hf⟩, by omega, s5.trans sc⟩, s3, s4⟩
section NZLP
variable {d L i : Nat} {xs : Nat → Int32} {h : nzH} {u5 u6 : Option Value}
theorem zrdS (sc : h.2.2.2 = (L, xs)) {j : Nat} (hj : j < L) (hL : L ≤ 3072) : nzcI h 0 (nI j) = some (xs j) := by
  rw [nzcI, show nzkI h 0 = some h.2.2.2 from rfl, sc]
  show (if nI j < 0 ∨ L ≤ (nI j).toNatClampNeg then none else some (xs (nI j).toNatClampNeg)) = _
  rw [nI_clamp (by omega), if_neg (fun q => q.elim (nI_pos (by omega)) (fun q => by omega))]
theorem zrd1 (sc : h.2.2.2 = (L, xs)) (hi : i + 6 ≤ L) (hL : L ≤ 3072) : nzcI h 0 (nI i + 1) = some (xs (i + 1)) := by
  rw [show nI i + 1 = nI (i + 1) from nI_add i 1]
  exact zrdS sc (by omega) hL
theorem zrd2 (sc : h.2.2.2 = (L, xs)) (hi : i + 6 ≤ L) (hL : L ≤ 3072) : nzcI h 0 (nI i + 2) = some (xs (i + 2)) := by
  rw [show nI i + 2 = nI (i + 2) from nI_add i 2]
  exact zrdS sc (by omega) hL
theorem zrd3 (sc : h.2.2.2 = (L, xs)) (hi : i + 6 ≤ L) (hL : L ≤ 3072) : nzcI h 0 (nI i + 3) = some (xs (i + 3)) := by
  rw [show nI i + 3 = nI (i + 3) from nI_add i 3]
  exact zrdS sc (by omega) hL
theorem zrd4 (sc : h.2.2.2 = (L, xs)) (hi : i + 6 ≤ L) (hL : L ≤ 3072) : nzcI h 0 (nI i + 4) = some (xs (i + 4)) := by
  rw [show nI i + 4 = nI (i + 4) from nI_add i 4]
  exact zrdS sc (by omega) hL
theorem zrd5 (sc : h.2.2.2 = (L, xs)) (hi : i + 6 ≤ L) (hL : L ≤ 3072) : nzcI h 0 (nI i + 5) = some (xs (i + 5)) := by
  rw [show nI i + 5 = nI (i + 5) from nI_add i 5]
  exact zrdS sc (by omega) hL
theorem zL_0 (hd : 20 < d) (hL : L ≤ 3072) (hi : i + 6 ≤ L) (j : zJ L xs h) : ∃ h2 w5 w6, nzr d nL_law 204 (zlo i u5 u6) [] h = nzr d nL_law 1259 (zlo i w5 w6) [] h2 ∧ zJs L xs h h2 := by
  have sc := j.2.2.2
  obtain ⟨v, h1, h2, c1, c2, st⟩ := qX_feed j.1 hd (xs (i + 1)) (xs (i + 2)) (xs (i + 3)) (xs (i + 4)) (xs (i + 5))
  have s1 := (nzxI_le c1).2.2.2.trans sc
  refine ⟨h2, u5, u6, ?_, zJ_step j st⟩
  rw [eL_law_204, zrd1 sc hi hL, Option.bind_some, zrd2 sc hi hL, Option.bind_some, zrd3 sc hi hL, Option.bind_some, zrd4 sc hi hL, Option.bind_some, zrd5 sc hi hL, Option.bind_some, c1, Option.bind_some]
  dsimp only
  rw [zrd1 s1 hi hL, Option.bind_some, zrd2 s1 hi hL, Option.bind_some, zrd3 s1 hi hL, Option.bind_some, zrd4 s1 hi hL, Option.bind_some, zrd5 s1 hi hL, Option.bind_some]
  rw [c2, Option.bind_some]
  exact if_pos rfl
theorem zL_1 (hd : 20 < d) (hL : L ≤ 3072) (hi : i + 6 ≤ L) (j : zJ L xs h) : ∃ h2 w5 w6, nzr d nL_law 277 (zlo i u5 u6) [] h = nzr d nL_law 1259 (zlo i w5 w6) [] h2 ∧ zJs L xs h h2 := by
  have sc := j.2.2.2
  obtain ⟨v, h1, h2, c1, c2, st⟩ := qX_day j.1 hd (xs (i + 1))
  have s1 := (nzxI_le c1).2.2.2.trans sc
  refine ⟨h2, u5, u6, ?_, zJ_step j st⟩
  rw [eL_law_277, zrd1 sc hi hL, Option.bind_some, c1, Option.bind_some]
  dsimp only
  rw [zrd1 s1 hi hL, Option.bind_some]
  rw [c2, Option.bind_some]
  exact if_pos rfl
theorem zL_2 (hd : 20 < d) (hL : L ≤ 3072) (hi : i + 6 ≤ L) (j : zJ L xs h) : ∃ h2 w5 w6, nzr d nL_law 302 (zlo i u5 u6) [] h = nzr d nL_law 1259 (zlo i w5 w6) [] h2 ∧ zJs L xs h h2 := by
  have sc := j.2.2.2
  obtain ⟨v, h1, h2, c1, c2, st⟩ := qX_fault j.1 hd 
  have s1 := (nzxI_le c1).2.2.2.trans sc
  refine ⟨h2, u5, u6, ?_, zJ_step j st⟩
  rw [eL_law_302, c1, Option.bind_some]
  dsimp only
  rw [c2, Option.bind_some]
  exact if_pos rfl
theorem zL_3 (hd : 20 < d) (hL : L ≤ 3072) (hi : i + 6 ≤ L) (j : zJ L xs h) : ∃ h2 w5 w6, nzr d nL_law 315 (zlo i u5 u6) [] h = nzr d nL_law 1259 (zlo i w5 w6) [] h2 ∧ zJs L xs h h2 := by
  have sc := j.2.2.2
  obtain ⟨v, h1, h2, c1, c2, st⟩ := qX_where j.1 hd 
  have s1 := (nzxI_le c1).2.2.2.trans sc
  refine ⟨h2, u5, u6, ?_, zJ_step j st⟩
  rw [eL_law_315, c1, Option.bind_some]
  dsimp only
  rw [c2, Option.bind_some]
  exact if_pos rfl
theorem zL_4 (hd : 20 < d) (hL : L ≤ 3072) (hi : i + 6 ≤ L) (j : zJ L xs h) : ∃ h2 w5 w6, nzr d nL_law 328 (zlo i u5 u6) [] h = nzr d nL_law 1259 (zlo i w5 w6) [] h2 ∧ zJs L xs h h2 := by
  have sc := j.2.2.2
  obtain ⟨v, h1, h2, c1, c2, st⟩ := qX_drive j.1 hd (xs (i + 1)) (xs (i + 2))
  have s1 := (nzxI_le c1).2.2.2.trans sc
  refine ⟨h2, u5, u6, ?_, zJ_step j st⟩
  rw [eL_law_328, zrd1 sc hi hL, Option.bind_some, zrd2 sc hi hL, Option.bind_some, c1, Option.bind_some]
  dsimp only
  rw [zrd1 s1 hi hL, Option.bind_some, zrd2 s1 hi hL, Option.bind_some]
  rw [c2, Option.bind_some]
  exact if_pos rfl
theorem zL_5 (hd : 20 < d) (hL : L ≤ 3072) (hi : i + 6 ≤ L) (j : zJ L xs h) : ∃ h2 w5 w6, nzr d nL_law 365 (zlo i u5 u6) [] h = nzr d nL_law 1259 (zlo i w5 w6) [] h2 ∧ zJs L xs h h2 := by
  have sc := j.2.2.2
  obtain ⟨v, h1, h2, c1, c2, st⟩ := qX_unload j.1 hd (xs (i + 1))
  have s1 := (nzxI_le c1).2.2.2.trans sc
  refine ⟨h2, u5, u6, ?_, zJ_step j st⟩
  rw [eL_law_365, zrd1 sc hi hL, Option.bind_some, c1, Option.bind_some]
  dsimp only
  rw [zrd1 s1 hi hL, Option.bind_some]
  rw [c2, Option.bind_some]
  exact if_pos rfl
theorem zL_6 (hd : 20 < d) (hL : L ≤ 3072) (hi : i + 6 ≤ L) (j : zJ L xs h) : ∃ h2 w5 w6, nzr d nL_law 390 (zlo i u5 u6) [] h = nzr d nL_law 1259 (zlo i w5 w6) [] h2 ∧ zJs L xs h h2 := by
  have sc := j.2.2.2
  obtain ⟨v, h1, h2, c1, c2, st⟩ := qX_tea j.1 hd (xs (i + 1))
  have s1 := (nzxI_le c1).2.2.2.trans sc
  refine ⟨h2, u5, u6, ?_, zJ_step j st⟩
  rw [eL_law_390, zrd1 sc hi hL, Option.bind_some, c1, Option.bind_some]
  dsimp only
  rw [zrd1 s1 hi hL, Option.bind_some]
  rw [c2, Option.bind_some]
  exact if_pos rfl
theorem zL_7 (hd : 20 < d) (hL : L ≤ 3072) (hi : i + 6 ≤ L) (j : zJ L xs h) : ∃ h2 w5 w6, nzr d nL_law 415 (zlo i u5 u6) [] h = nzr d nL_law 1259 (zlo i w5 w6) [] h2 ∧ zJs L xs h h2 := by
  have sc := j.2.2.2
  obtain ⟨v, h1, h2, c1, c2, st⟩ := qX_comes j.1 hd (xs (i + 1))
  have s1 := (nzxI_le c1).2.2.2.trans sc
  refine ⟨h2, u5, u6, ?_, zJ_step j st⟩
  rw [eL_law_415, zrd1 sc hi hL, Option.bind_some, c1, Option.bind_some]
  dsimp only
  rw [zrd1 s1 hi hL, Option.bind_some]
  rw [c2, Option.bind_some]
  exact if_pos rfl
theorem zL_8 (hd : 20 < d) (hL : L ≤ 3072) (hi : i + 6 ≤ L) (j : zJ L xs h) : ∃ h2 w5 w6, nzr d nL_law 440 (zlo i u5 u6) [] h = nzr d nL_law 1259 (zlo i w5 w6) [] h2 ∧ zJs L xs h h2 := by
  have sc := j.2.2.2
  obtain ⟨v, h1, h2, c1, c2, st⟩ := qX_heat j.1 hd (xs (i + 1))
  have s1 := (nzxI_le c1).2.2.2.trans sc
  refine ⟨h2, u5, u6, ?_, zJ_step j st⟩
  rw [eL_law_440, zrd1 sc hi hL, Option.bind_some, c1, Option.bind_some]
  dsimp only
  rw [zrd1 s1 hi hL, Option.bind_some]
  rw [c2, Option.bind_some]
  exact if_pos rfl
theorem zL_9 (hd : 20 < d) (hL : L ≤ 3072) (hi : i + 6 ≤ L) (j : zJ L xs h) : ∃ h2 w5 w6, nzr d nL_law 465 (zlo i u5 u6) [] h = nzr d nL_law 1259 (zlo i w5 w6) [] h2 ∧ zJs L xs h h2 := by
  have sc := j.2.2.2
  obtain ⟨v, h1, h2, c1, c2, st⟩ := qX_bad j.1 hd (xs (i + 1))
  have s1 := (nzxI_le c1).2.2.2.trans sc
  refine ⟨h2, u5, u6, ?_, zJ_step j st⟩
  rw [eL_law_465, zrd1 sc hi hL, Option.bind_some, c1, Option.bind_some]
  dsimp only
  rw [zrd1 s1 hi hL, Option.bind_some]
  rw [c2, Option.bind_some]
  exact if_pos rfl
theorem zL_10 (hd : 20 < d) (hL : L ≤ 3072) (hi : i + 6 ≤ L) (j : zJ L xs h) : ∃ h2 w5 w6, nzr d nL_law 490 (zlo i u5 u6) [] h = nzr d nL_law 1259 (zlo i w5 w6) [] h2 ∧ zJs L xs h h2 := by
  have sc := j.2.2.2
  obtain ⟨v, h1, h2, c1, c2, st⟩ := qX_way j.1 hd (xs (i + 1)) (xs (i + 2))
  have s1 := (nzxI_le c1).2.2.2.trans sc
  refine ⟨h2, u5, u6, ?_, zJ_step j st⟩
  rw [eL_law_490, zrd1 sc hi hL, Option.bind_some, zrd2 sc hi hL, Option.bind_some, c1, Option.bind_some]
  dsimp only
  rw [zrd1 s1 hi hL, Option.bind_some, zrd2 s1 hi hL, Option.bind_some]
  rw [c2, Option.bind_some]
  exact if_pos rfl
theorem zL_11 (hd : 20 < d) (hL : L ≤ 3072) (hi : i + 6 ≤ L) (j : zJ L xs h) : ∃ h2 w5 w6, nzr d nL_law 527 (zlo i u5 u6) [] h = nzr d nL_law 1259 (zlo i w5 w6) [] h2 ∧ zJs L xs h h2 := by
  have sc := j.2.2.2
  obtain ⟨v, h1, h2, c1, c2, st⟩ := qX_best j.1 hd (xs (i + 1)) (xs (i + 2))
  have s1 := (nzxI_le c1).2.2.2.trans sc
  refine ⟨h2, u5, u6, ?_, zJ_step j st⟩
  rw [eL_law_527, zrd1 sc hi hL, Option.bind_some, zrd2 sc hi hL, Option.bind_some, c1, Option.bind_some]
  dsimp only
  rw [zrd1 s1 hi hL, Option.bind_some, zrd2 s1 hi hL, Option.bind_some]
  rw [c2, Option.bind_some]
  exact if_pos rfl
theorem zL_12 (hd : 20 < d) (hL : L ≤ 3072) (hi : i + 6 ≤ L) (j : zJ L xs h) : ∃ h2 w5 w6, nzr d nL_law 564 (zlo i u5 u6) [] h = nzr d nL_law 1259 (zlo i w5 w6) [] h2 ∧ zJs L xs h h2 := by
  have sc := j.2.2.2
  obtain ⟨v, h1, h2, c1, c2, st⟩ := qX_bestAt j.1 hd (xs (i + 1)) (xs (i + 2)) (xs (i + 3))
  have s1 := (nzxI_le c1).2.2.2.trans sc
  refine ⟨h2, u5, u6, ?_, zJ_step j st⟩
  rw [eL_law_564, zrd1 sc hi hL, Option.bind_some, zrd2 sc hi hL, Option.bind_some, zrd3 sc hi hL, Option.bind_some, c1, Option.bind_some]
  dsimp only
  rw [zrd1 s1 hi hL, Option.bind_some, zrd2 s1 hi hL, Option.bind_some, zrd3 s1 hi hL, Option.bind_some]
  rw [c2, Option.bind_some]
  exact if_pos rfl
theorem zL_13 (hd : 20 < d) (hL : L ≤ 3072) (hi : i + 6 ≤ L) (j : zJ L xs h) : ∃ h2 w5 w6, nzr d nL_law 613 (zlo i u5 u6) [] h = nzr d nL_law 1259 (zlo i w5 w6) [] h2 ∧ zJs L xs h h2 := by
  have sc := j.2.2.2
  obtain ⟨v, h1, h2, c1, c2, st⟩ := qX_share j.1 hd 
  have s1 := (nzxI_le c1).2.2.2.trans sc
  refine ⟨h2, u5, u6, ?_, zJ_step j st⟩
  rw [eL_law_613, c1, Option.bind_some]
  dsimp only
  rw [c2, Option.bind_some]
  exact if_pos rfl
theorem zL_14 (hd : 20 < d) (hL : L ≤ 3072) (hi : i + 6 ≤ L) (j : zJ L xs h) : ∃ h2 w5 w6, nzr d nL_law 626 (zlo i u5 u6) [] h = nzr d nL_law 1259 (zlo i w5 w6) [] h2 ∧ zJs L xs h h2 := by
  have sc := j.2.2.2
  obtain ⟨v, h1, h2, c1, c2, st⟩ := qX_shared j.1 hd (xs (i + 1))
  have s1 := (nzxI_le c1).2.2.2.trans sc
  refine ⟨h2, u5, u6, ?_, zJ_step j st⟩
  rw [eL_law_626, zrd1 sc hi hL, Option.bind_some, c1, Option.bind_some]
  dsimp only
  rw [zrd1 s1 hi hL, Option.bind_some]
  rw [c2, Option.bind_some]
  exact if_pos rfl
theorem zL_15 (hd : 20 < d) (hL : L ≤ 3072) (hi : i + 6 ≤ L) (j : zJ L xs h) : ∃ h2 w5 w6, nzr d nL_law 651 (zlo i u5 u6) [] h = nzr d nL_law 1259 (zlo i w5 w6) [] h2 ∧ zJs L xs h h2 := by
  have sc := j.2.2.2
  obtain ⟨v, h1, h2, c1, c2, st⟩ := qX_odds j.1 hd (xs (i + 1))
  have s1 := (nzxL_le c1).2.2.2.trans sc
  refine ⟨h2, u5, u6, ?_, zJ_step j st⟩
  rw [eL_law_651, zrd1 sc hi hL, Option.bind_some, c1, Option.bind_some]
  dsimp only
  rw [zrd1 s1 hi hL, Option.bind_some]
  rw [c2, Option.bind_some]
  exact if_pos ((lg_cmp_eq _ _).mpr rfl)
theorem zL_16 (hd : 20 < d) (hL : L ≤ 3072) (hi : i + 6 ≤ L) (j : zJ L xs h) : ∃ h2 w5 w6, nzr d nL_law 677 (zlo i u5 u6) [] h = nzr d nL_law 1259 (zlo i w5 w6) [] h2 ∧ zJs L xs h h2 := by
  have sc := j.2.2.2
  obtain ⟨v, h1, h2, c1, c2, st⟩ := qX_costs j.1 hd (xs (i + 1))
  have s1 := (nzxI_le c1).2.2.2.trans sc
  refine ⟨h2, u5, u6, ?_, zJ_step j st⟩
  rw [eL_law_677, zrd1 sc hi hL, Option.bind_some, c1, Option.bind_some]
  dsimp only
  rw [zrd1 s1 hi hL, Option.bind_some]
  rw [c2, Option.bind_some]
  exact if_pos rfl
theorem zL_17 (hd : 20 < d) (hL : L ≤ 3072) (hi : i + 6 ≤ L) (j : zJ L xs h) : ∃ h2 w5 w6, nzr d nL_law 702 (zlo i u5 u6) [] h = nzr d nL_law 1259 (zlo i w5 w6) [] h2 ∧ zJs L xs h h2 := by
  have sc := j.2.2.2
  obtain ⟨v, h1, h2, c1, c2, st⟩ := qX_fits j.1 hd (xs (i + 1)) (xs (i + 2))
  have s1 := (nzxI_le c1).2.2.2.trans sc
  refine ⟨h2, u5, u6, ?_, zJ_step j st⟩
  rw [eL_law_702, zrd1 sc hi hL, Option.bind_some, zrd2 sc hi hL, Option.bind_some, c1, Option.bind_some]
  dsimp only
  rw [zrd1 s1 hi hL, Option.bind_some, zrd2 s1 hi hL, Option.bind_some]
  rw [c2, Option.bind_some]
  exact if_pos rfl
theorem zL_18 (hd : 20 < d) (hL : L ≤ 3072) (hi : i + 6 ≤ L) (j : zJ L xs h) : ∃ h2 w5 w6, nzr d nL_law 739 (zlo i u5 u6) [] h = nzr d nL_law 1259 (zlo i w5 w6) [] h2 ∧ zJs L xs h h2 := by
  have sc := j.2.2.2
  obtain ⟨v, h1, h2, c1, c2, st⟩ := qX_breach j.1 hd (xs (i + 1)) (xs (i + 2))
  have s1 := (nzxI_le c1).2.2.2.trans sc
  refine ⟨h2, u5, u6, ?_, zJ_step j st⟩
  rw [eL_law_739, zrd1 sc hi hL, Option.bind_some, zrd2 sc hi hL, Option.bind_some, c1, Option.bind_some]
  dsimp only
  rw [zrd1 s1 hi hL, Option.bind_some, zrd2 s1 hi hL, Option.bind_some]
  rw [c2, Option.bind_some]
  exact if_pos rfl
theorem zL_19 (hd : 20 < d) (hL : L ≤ 3072) (hi : i + 6 ≤ L) (j : zJ L xs h) : ∃ h2 w5 w6, nzr d nL_law 776 (zlo i u5 u6) [] h = nzr d nL_law 1259 (zlo i w5 w6) [] h2 ∧ zJs L xs h h2 := by
  have sc := j.2.2.2
  obtain ⟨v, h1, h2, c1, c2, st⟩ := qX_forAll j.1 hd 
  have s1 := (nzxI_le c1).2.2.2.trans sc
  refine ⟨h2, u5, u6, ?_, zJ_step j st⟩
  rw [eL_law_776, c1, Option.bind_some]
  dsimp only
  rw [c2, Option.bind_some]
  exact if_pos rfl
theorem zL_20 (hd : 20 < d) (hL : L ≤ 3072) (hi : i + 6 ≤ L) (j : zJ L xs h) : ∃ h2 w5 w6, nzr d nL_law 789 (zlo i u5 u6) [] h = nzr d nL_law 1259 (zlo i w5 w6) [] h2 ∧ zJs L xs h h2 := by
  have sc := j.2.2.2
  obtain ⟨v, h1, h2, c1, c2, st⟩ := qX_menu j.1 hd (xs (i + 1)) (xs (i + 2))
  have s1 := (nzxI_le c1).2.2.2.trans sc
  refine ⟨h2, u5, u6, ?_, zJ_step j st⟩
  rw [eL_law_789, zrd1 sc hi hL, Option.bind_some, zrd2 sc hi hL, Option.bind_some, c1, Option.bind_some]
  dsimp only
  rw [zrd1 s1 hi hL, Option.bind_some, zrd2 s1 hi hL, Option.bind_some]
  rw [c2, Option.bind_some]
  exact if_pos rfl
theorem zL_21 (hd : 20 < d) (hL : L ≤ 3072) (hi : i + 6 ≤ L) (j : zJ L xs h) : ∃ h2 w5 w6, nzr d nL_law 826 (zlo i u5 u6) [] h = nzr d nL_law 1259 (zlo i w5 w6) [] h2 ∧ zJs L xs h h2 := by
  have sc := j.2.2.2
  obtain ⟨v, h1, h2, c1, c2, st⟩ := qX_menuAt j.1 hd (xs (i + 1))
  have s1 := (nzxI_le c1).2.2.2.trans sc
  refine ⟨h2, u5, u6, ?_, zJ_step j st⟩
  rw [eL_law_826, zrd1 sc hi hL, Option.bind_some, c1, Option.bind_some]
  dsimp only
  rw [zrd1 s1 hi hL, Option.bind_some]
  rw [c2, Option.bind_some]
  exact if_pos rfl
theorem zL_22 (hd : 20 < d) (hL : L ≤ 3072) (hi : i + 6 ≤ L) (j : zJ L xs h) : ∃ h2 w5 w6, nzr d nL_law 851 (zlo i u5 u6) [] h = nzr d nL_law 1259 (zlo i w5 w6) [] h2 ∧ zJs L xs h h2 := by
  have sc := j.2.2.2
  obtain ⟨v, h1, h2, c1, c2, st⟩ := qX_dropped j.1 hd (xs (i + 1)) (xs (i + 2))
  have s1 := (nzxI_le c1).2.2.2.trans sc
  refine ⟨h2, u5, u6, ?_, zJ_step j st⟩
  rw [eL_law_851, zrd1 sc hi hL, Option.bind_some, zrd2 sc hi hL, Option.bind_some, c1, Option.bind_some]
  dsimp only
  rw [zrd1 s1 hi hL, Option.bind_some, zrd2 s1 hi hL, Option.bind_some]
  rw [c2, Option.bind_some]
  exact if_pos rfl
theorem zL_23 (hd : 20 < d) (hL : L ≤ 3072) (hi : i + 6 ≤ L) (j : zJ L xs h) : ∃ h2 w5 w6, nzr d nL_law 888 (zlo i u5 u6) [] h = nzr d nL_law 1259 (zlo i w5 w6) [] h2 ∧ zJs L xs h h2 := by
  have sc := j.2.2.2
  obtain ⟨v, h1, h2, c1, c2, st⟩ := qX_knock j.1 hd 
  have s1 := (nzxL_le c1).2.2.2.trans sc
  refine ⟨h2, u5, u6, ?_, zJ_step j st⟩
  rw [eL_law_888, c1, Option.bind_some]
  dsimp only
  rw [c2, Option.bind_some]
  exact if_pos ((lg_cmp_eq _ _).mpr rfl)
theorem zL_24 (hd : 20 < d) (hL : L ≤ 3072) (hi : i + 6 ≤ L) (j : zJ L xs h) : ∃ h2 w5 w6, nzr d nL_law 902 (zlo i u5 u6) [] h = nzr d nL_law 1259 (zlo i w5 w6) [] h2 ∧ zJs L xs h h2 := by
  have sc := j.2.2.2
  obtain ⟨v, h1, h2, c1, c2, st⟩ := qX_callAt j.1 hd (xs (i + 1))
  have s1 := (nzxI_le c1).2.2.2.trans sc
  refine ⟨h2, u5, u6, ?_, zJ_step j st⟩
  rw [eL_law_902, zrd1 sc hi hL, Option.bind_some, c1, Option.bind_some]
  dsimp only
  rw [zrd1 s1 hi hL, Option.bind_some]
  rw [c2, Option.bind_some]
  exact if_pos rfl
theorem zL_25 (hd : 20 < d) (hL : L ≤ 3072) (hi : i + 6 ≤ L) (j : zJ L xs h) : ∃ h2 w5 w6, nzr d nL_law 927 (zlo i u5 u6) [] h = nzr d nL_law 1259 (zlo i w5 w6) [] h2 ∧ zJs L xs h h2 := by
  have sc := j.2.2.2
  obtain ⟨v, h1, h2, c1, c2, st⟩ := qX_asTold j.1 hd 
  have s1 := (nzxL_le c1).2.2.2.trans sc
  refine ⟨h2, u5, u6, ?_, zJ_step j st⟩
  rw [eL_law_927, c1, Option.bind_some]
  dsimp only
  rw [c2, Option.bind_some]
  exact if_pos ((lg_cmp_eq _ _).mpr rfl)
theorem zL_26 (hd : 20 < d) (hL : L ≤ 3072) (hi : i + 6 ≤ L) (j : zJ L xs h) : ∃ h2 w5 w6, nzr d nL_law 941 (zlo i u5 u6) [] h = nzr d nL_law 1259 (zlo i w5 w6) [] h2 ∧ zJs L xs h h2 := by
  have sc := j.2.2.2
  obtain ⟨v, h1, h2, c1, c2, st⟩ := qX_fill j.1 hd 
  have s1 := (nzxI_le c1).2.2.2.trans sc
  refine ⟨h2, u5, u6, ?_, zJ_step j st⟩
  rw [eL_law_941, c1, Option.bind_some]
  dsimp only
  rw [c2, Option.bind_some]
  exact if_pos rfl
theorem zL_27 (hd : 20 < d) (hL : L ≤ 3072) (hi : i + 6 ≤ L) (j : zJ L xs h) : ∃ h2 w5 w6, nzr d nL_law 954 (zlo i u5 u6) [] h = nzr d nL_law 1259 (zlo i w5 w6) [] h2 ∧ zJs L xs h h2 := by
  have sc := j.2.2.2
  obtain ⟨v, h1, h2, c1, c2, st⟩ := qX_helper j.1 hd (xs (i + 1))
  have s1 := (nzxI_le c1).2.2.2.trans sc
  refine ⟨h2, u5, u6, ?_, zJ_step j st⟩
  rw [eL_law_954, zrd1 sc hi hL, Option.bind_some, c1, Option.bind_some]
  dsimp only
  rw [zrd1 s1 hi hL, Option.bind_some]
  rw [c2, Option.bind_some]
  exact if_pos rfl
theorem zL_28 (hd : 20 < d) (hL : L ≤ 3072) (hi : i + 6 ≤ L) (j : zJ L xs h) : ∃ h2 w5 w6, nzr d nL_law 979 (zlo i u5 u6) [] h = nzr d nL_law 1259 (zlo i w5 w6) [] h2 ∧ zJs L xs h h2 := by
  have sc := j.2.2.2
  obtain ⟨v, h1, h2, c1, c2, st⟩ := qX_sign j.1 hd (xs (i + 1)) (xs (i + 2))
  have s1 := (nzxI_le c1).2.2.2.trans sc
  refine ⟨h2, u5, u6, ?_, zJ_step j st⟩
  rw [eL_law_979, zrd1 sc hi hL, Option.bind_some, zrd2 sc hi hL, Option.bind_some, c1, Option.bind_some]
  dsimp only
  rw [zrd1 s1 hi hL, Option.bind_some, zrd2 s1 hi hL, Option.bind_some]
  rw [c2, Option.bind_some]
  exact if_pos rfl
theorem zL_29 (hd : 20 < d) (hL : L ≤ 3072) (hi : i + 6 ≤ L) (j : zJ L xs h) : ∃ h2 w5 w6, nzr d nL_law 1016 (zlo i u5 u6) [] h = nzr d nL_law 1259 (zlo i w5 w6) [] h2 ∧ zJs L xs h h2 := by
  have sc := j.2.2.2
  obtain ⟨v, h1, h2, c1, c2, st⟩ := qX_fading j.1 hd (xs (i + 1))
  have s1 := (nzxI_le c1).2.2.2.trans sc
  refine ⟨h2, u5, u6, ?_, zJ_step j st⟩
  rw [eL_law_1016, zrd1 sc hi hL, Option.bind_some, c1, Option.bind_some]
  dsimp only
  rw [zrd1 s1 hi hL, Option.bind_some]
  rw [c2, Option.bind_some]
  exact if_pos rfl
theorem zL_30 (hd : 20 < d) (hL : L ≤ 3072) (hi : i + 6 ≤ L) (j : zJ L xs h) : ∃ h2 w5 w6, nzr d nL_law 1041 (zlo i u5 u6) [] h = nzr d nL_law 1259 (zlo i w5 w6) [] h2 ∧ zJs L xs h h2 := by
  have sc := j.2.2.2
  obtain ⟨v, h1, h2, c1, c2, st⟩ := qX_probe j.1 hd (xs (i + 1)) (xs (i + 2)) (xs (i + 3))
  have s1 := (nzxI_le c1).2.2.2.trans sc
  refine ⟨h2, u5, u6, ?_, zJ_step j st⟩
  rw [eL_law_1041, zrd1 sc hi hL, Option.bind_some, zrd2 sc hi hL, Option.bind_some, zrd3 sc hi hL, Option.bind_some, c1, Option.bind_some]
  dsimp only
  rw [zrd1 s1 hi hL, Option.bind_some, zrd2 s1 hi hL, Option.bind_some, zrd3 s1 hi hL, Option.bind_some]
  rw [c2, Option.bind_some]
  exact if_pos rfl
theorem zL_31 (hd : 20 < d) (hL : L ≤ 3072) (hi : i + 6 ≤ L) (j : zJ L xs h) : ∃ h2 w5 w6, nzr d nL_law 1090 (zlo i u5 u6) [] h = nzr d nL_law 1259 (zlo i w5 w6) [] h2 ∧ zJs L xs h h2 := by
  have sc := j.2.2.2
  obtain ⟨v, h1, h2, c1, c2, st⟩ := qX_faulty j.1 hd (xs (i + 1))
  have s1 := (nzxI_le c1).2.2.2.trans sc
  refine ⟨h2, u5, u6, ?_, zJ_step j st⟩
  rw [eL_law_1090, zrd1 sc hi hL, Option.bind_some, c1, Option.bind_some]
  dsimp only
  rw [zrd1 s1 hi hL, Option.bind_some]
  rw [c2, Option.bind_some]
  exact if_pos rfl
theorem zL_32 (hd : 20 < d) (hL : L ≤ 3072) (hi : i + 6 ≤ L) (j : zJ L xs h) : ∃ h2 w5 w6, nzr d nL_law 1115 (zlo i u5 u6) [] h = nzr d nL_law 1259 (zlo i w5 w6) [] h2 ∧ zJs L xs h h2 := by
  have sc := j.2.2.2
  obtain ⟨v, h1, h2, c1, c2, st⟩ := qX_firstCold j.1 hd 
  have s1 := (nzxI_le c1).2.2.2.trans sc
  refine ⟨h2, u5, u6, ?_, zJ_step j st⟩
  rw [eL_law_1115, c1, Option.bind_some]
  dsimp only
  rw [c2, Option.bind_some]
  exact if_pos rfl
theorem zL_33 (hd : 20 < d) (hL : L ≤ 3072) (hi : i + 6 ≤ L) (j : zJ L xs h) : ∃ h2 w5 w6, nzr d nL_law 1128 (zlo i u5 u6) [] h = nzr d nL_law 1259 (zlo i w5 w6) [] h2 ∧ zJs L xs h h2 := by
  have sc := j.2.2.2
  obtain ⟨v, h1, h2, c1, c2, st⟩ := qX_recall j.1 hd (xs (i + 1))
  have s1 := (nzxI_le c1).2.2.2.trans sc
  refine ⟨h2, u5, u6, ?_, zJ_step j st⟩
  rw [eL_law_1128, zrd1 sc hi hL, Option.bind_some, c1, Option.bind_some]
  dsimp only
  rw [zrd1 s1 hi hL, Option.bind_some]
  rw [c2, Option.bind_some]
  exact if_pos rfl
theorem zL_35 (hd : 20 < d) (hL : L ≤ 3072) (hi : i + 6 ≤ L) (j : zJ L xs h) : ∃ h2 w5 w6, nzr d nL_law 1221 (zlo i u5 u6) [] h = nzr d nL_law 1259 (zlo i w5 w6) [] h2 ∧ zJs L xs h h2 := by
  have sc := j.2.2.2
  obtain ⟨v, h1, h2, c1, c2, st⟩ := qX_size j.1 hd (xs (i + 1))
  have s1 := (nzxI_le c1).2.2.2.trans sc
  refine ⟨h2, u5, u6, ?_, zJ_step j st⟩
  rw [eL_law_1221, zrd1 sc hi hL, Option.bind_some, c1, Option.bind_some]
  dsimp only
  rw [zrd1 s1 hi hL, Option.bind_some]
  rw [c2, Option.bind_some]
  exact if_pos rfl
theorem zL_36 (hd : 20 < d) (hL : L ≤ 3072) (hi : i + 6 ≤ L) (j : zJ L xs h) : ∃ h2 w5 w6, nzr d nL_law 1246 (zlo i u5 u6) [] h = nzr d nL_law 1259 (zlo i w5 w6) [] h2 ∧ zJs L xs h h2 := by
  have sc := j.2.2.2
  obtain ⟨v, h1, h2, c1, c2, st⟩ := qX_trouble j.1 hd 
  have s1 := (nzxI_le c1).2.2.2.trans sc
  refine ⟨h2, u5, u6, ?_, zJ_step j st⟩
  rw [eL_law_1246, c1, Option.bind_some]
  dsimp only
  rw [c2, Option.bind_some]
  exact if_pos rfl
theorem zQ_gr {h h1 : nzH} {t u : Nat} {tr : Int32} {c g : Nat → Int32} {hl L : Nat} {S : zrs} {F0 : Nat → Value} {I : Nat → Int32} {W : Int64} {td rd : Option Nat} {tp : Nat → Int32} {A : Nat → Nat → Int32} (Q : zQ h t u tr c g hl L S F0 I W td rd tp A) (l : h.1 ≤ h1.1) (s : ∀ a, a ≠ 94 → nzcell h1 a = nzcell h a) (ne : td ≠ some 94) : zQ h1 t u tr c g hl L S F0 I W td rd tp A := by
  obtain ⟨e0, h9, K, D, E, tu, qd, hb, qt, q1, q2, q3, q4, q5, q6, q7, q8⟩ := Q
  have sm : ∀ {a b}, b ≤ 94 → zsm a b h h1 := fun hb x _ x2 => s x (by omega)
  refine ⟨zmS_fix e0 (sm (by decide)), by omega, zK_sm K (s 0 (by decide)), zrd_sm D (sm (by decide)) (sm (by omega)), zday_sm E (sm (by omega)), tu, ?_, hb, qt, qR_k q1 (sm (by decide)) rfl rfl rfl, qO_k q2 (sm (by decide)), qS_k q3 (sm (by decide)) rfl rfl, qM_k q4 (sm (by decide)) rfl rfl, qK_k q5 (sm (by decide)) rfl rfl, qW_k q6 (sm (by decide)) rfl rfl, qG_k q7 (sm (by decide)) rfl rfl, qP_k q8 (sm (by decide)) rfl rfl rfl rfl⟩
  rcases qd with q | ⟨t', J, B, Wd, rfl, a2, a3, a4, a5⟩
  · exact .inl q
  · have : t' ≠ 94 := fun w => ne (by rw [w])
    exact .inr ⟨t', J, B, Wd, rfl, a2, by omega, zmd_sm a4 (fun x x1 x2 => s x (by omega)), a5⟩
theorem zQ_94 {h : nzH} {t u : Nat} {tr : Int32} {c g : Nat → Int32} {hl L : Nat} {S : zrs} {F0 : Nat → Value} {I : Nat → Int32} {W : Int64} {td rd : Option Nat} {tp : Nat → Int32} {A : Nat → Nat → Int32} (Q : zQ h t u tr c g hl L S F0 I W td rd tp A) {f : Nat → Int64} (z : zlon h 94 1 f) : td ≠ some 94 := fun e => by
  rcases Q.2.2.2.2.2.2.1 with q | ⟨t', J, B, Wd, e', a2, a3, ⟨⟨F, o, -⟩, -⟩, a5⟩
  · rw [q.1] at e; cases e
  · rw [e'] at e
    cases e
    have := z.symm.trans o
    cases this
section NZLD
variable {t : Nat} {tr : Int32} {N : Nat → Nat} {R : Nat → Nat → Nat} {tea : Int32}
theorem zled_a (K : zK h t tr) (D : zrou h N R tea) (x y : Int32) (z : x < 0 ∨ 3 ≤ x) : nzledv h 0 x y = some none := by
  obtain ⟨F, o, e0, e1, -⟩ := D.1
  rw [nzledv, zkR1 K, Option.bind_some, zg_R o e1, Option.bind_some, zg_R o e0, Option.bind_some, if_pos z]
  split <;> rfl
theorem zled_b (K : zK h t tr) (D : zrou h N R tea) {k : Nat} (hk : k < 3) (y : Int32) (z : y < 0 ∨ nI (N k) ≤ y) : nzledv h 0 (nI k) y = some none := by
  obtain ⟨F, o, e0, e1, -⟩ := D.1
  obtain ⟨n, hn, en⟩ := D.2.2.1
  rw [nzledv, zkR1 K, Option.bind_some, zg_R o e1, Option.bind_some, zg_R o e0, Option.bind_some, if_neg (fun q => q.elim (nI_pos (by omega)) (fun q => nI_ge (a := k) (b := 3) hk (by decide) q)), za_In hn hk (by decide), Option.bind_some, (en k hk).1, if_pos z]
theorem zled_c (K : zK h t tr) (D : zrou h N R tea) {k j : Nat} (hk : k < 3) (hj : j < N k) : nzledv h 0 (nI k) (nI j) = some (some (nI (R k j))) := by
  obtain ⟨F, o, e0, e1, -⟩ := D.1
  obtain ⟨n, hn, en⟩ := D.2.2.1
  have ce := zrou_cell D hk hj
  have n6 := (en k hk).2
  rw [nzledv, zkR1 K, Option.bind_some, zg_R o e1, Option.bind_some, zg_R o e0, Option.bind_some, if_neg (fun q => q.elim (nI_pos (by omega)) (fun q => nI_ge (a := k) (b := 3) hk (by decide) q)), za_In hn hk (by decide), Option.bind_some, (en k hk).1, if_neg (fun q => q.elim (nI_pos (by omega)) (fun q => nI_ge hj (by omega) q)), (zrou_row D hk).2, Option.bind_some, ce.1, Option.bind_some, if_neg (nI_ne1 ce.2.1)]
end NZLD
theorem kX13_thrown {F0 : Nat → Value} {I : Nat → Int32} {W : Int64} {td rd : Option Nat} {tp : Nat → Int32} {A : Nat → Nat → Int32} (hd : 20 < d) : nzxI d nX13_thrown [.ref 73] (zmS h F0 I W td rd tp A) = some (I 0, zmS h F0 I W td rd tp A) := by
  refine iX13_thrown (by omega) zmS_o ?_
  rw [eX13_thrown_0, zI_0, Option.bind_some]
/-- led, both sides: where a house is there, and where it isn't -/
theorem zled_2 (hd : 20 < d) (j : zJ L xs h) (x y : Int32) : (nzledv h 0 x y = some none ∧ ∀ h1 : nzH, h1.1 = h.1 + 1 → h1.2.1 = (h.2.1.1 + 1, h.2.1.2 + 6) → h1.2.2 = h.2.2 → ∃ v h2, nzxI d nX13_led [.ref 73, .int x, .int y] h1 = some (v, h2) ∧ nzxI d nX13_thrown [.ref 73] h2 = some (1, h2) ∧ zJs L xs h h2) ∨ ∃ v, nzledv h 0 x y = some (some v) ∧ ∃ h1, nzsL h 94 0 v.toInt64 = some h1 ∧ ∃ h2, nzxI d nX13_led [.ref 73, .int x, .int y] h1 = some (v, h2) ∧ nzxI d nX13_thrown [.ref 73] h2 = some (0, h2) ∧ nzaL h2 94 0 = some v.toInt64 ∧ zJs L xs h h2 := by
  obtain ⟨Q0, ⟨f, hf⟩, n95, sc⟩ := id j
  obtain ⟨t, u, tr, c, g, hl, L', S, F0, I, W, td, rd, tp, A, Q⟩ := Q0
  obtain ⟨e0, h9, K, D, E, tu, qd, hb, qt, q1, q2, q3, q4, q5, q6, q7, q8⟩ := id Q
  have ne := zQ_94 Q hf
  obtain ⟨N, R, T, r1, r2, r3, r4, r5, r6, r7, r8⟩ := id q1
  -- a house that isn't there
  have bad : ∀ (no : nzledv h 0 x y = some none) (hm : ∀ h1 : nzH, h1.2.2 = h.2.2 → ∃ v, nzxI d nX13_led [.ref 73, .int x, .int y] (zmS h1 F0 I W td rd tp A) = some (v, zmS h1 F0 (upd I 0 1) W td rd tp A)), (nzledv h 0 x y = some none ∧ ∀ h1 : nzH, h1.1 = h.1 + 1 → h1.2.1 = (h.2.1.1 + 1, h.2.1.2 + 6) → h1.2.2 = h.2.2 → ∃ v h2, nzxI d nX13_led [.ref 73, .int x, .int y] h1 = some (v, h2) ∧ nzxI d nX13_thrown [.ref 73] h2 = some (1, h2) ∧ zJs L xs h h2) := by
    intro no hm
    refine ⟨no, fun h1 a1 a2 a3 => ?_⟩
    have cell : ∀ a, nzcell h1 a = nzcell h a := fun a => congrFun (congrArg Prod.fst a3) a
    have Q1 := zQ_gr Q (by omega) (fun a _ => cell a) ne
    obtain ⟨v, hv⟩ := hm h1 a3
    have st := zQ_nul Q1 1
    refine ⟨v, _, zXeI Q1.1 hv, kX13_thrown hd, ⟨st.1, ⟨f, (zmS_c (.inr (by decide))).trans ((cell 94).trans hf)⟩, ?_, ?_⟩, ?_, ?_⟩
    · show 95 ≤ h1.1
      omega
    · show h1.2.2.2 = _
      rw [a3]; exact sc
    · show h1.2.1.1 ≤ _
      rw [a2]; show h.2.1.1 + 1 ≤ _; omega
    · show h1.2.1.2 ≤ _
      rw [a2]; show h.2.1.2 + 6 ≤ _; omega
  rcases qd with ⟨rfl, z0⟩ | ⟨t', J, B, Wd, rfl, t9, t27, M, DD, c8, c3, c4⟩
  · refine .inl (bad ?_ (fun h1 _ => ⟨0, mX_led_n hd x y⟩))
    have z4 : zcn c 4 = 0 := by rw [zcn, z0 4 (by decide)]; rfl
    by_cases w : x < 0 ∨ 3 ≤ x
    · exact zled_a K r1 x y w
    · obtain ⟨k, hk, rfl⟩ := nI_of (x := x) (fun q => w (.inl q))
      have k3 : k < 3 := by
        rcases Nat.lt_or_ge k 3 with q | q
        · exact q
        · exact absurd (.inr (nI_le (a := 3) q hk)) w
      refine zled_b K r1 k3 y ?_
      rw [r5 k k3 (by omega)]
      by_cases q : y < 0
      · exact .inl q
      · exact .inr (Int32.not_lt.mp q)
  · have qf := qF DD
    have hc4 := qf.2.2.2.2.1.2
    have Mh : ∀ h1 : nzH, h1.2.2 = h.2.2 → zmd h1 t' J B Wd := fun h1 a3 => zmd_sm M (fun a _ _ => congrFun (congrArg Prod.fst a3) a)
    by_cases z1 : zhs c 4 x = 0
    · refine .inl (bad ?_ (fun h1 a3 => ⟨0, mX_led_0 (Mh h1 a3) t9 hd x y ((qh4 DD x).trans z1)⟩))
      by_cases w : x < 0 ∨ 3 ≤ x
      · exact zled_a K r1 x y w
      · obtain ⟨k, hk, rfl⟩ := nI_of (x := x) (fun q => w (.inl q))
        have k3 : k < 3 := by
          rcases Nat.lt_or_ge k 3 with q | q
          · exact q
          · exact absurd (.inr (nI_le (a := 3) q hk)) w
        have k4 : zcn c 4 ≤ k := by
          rcases qh_no (s := 4) (by decide) z1 with q | q
          · exact absurd (.inl q) w
          · rw [qf.2.2.2.2.1.1, nI_ltI hk (by omega)] at q
            omega
        refine zled_b K r1 k3 y ?_
        rw [r5 k k3 k4]
        by_cases q : y < 0
        · exact .inl q
        · exact .inr (Int32.not_lt.mp q)
    · have z1' : ¬ zmh (J 6) x = 0 := fun w => z1 ((qh4 DD _).symm.trans w)
      obtain ⟨k, hk, rfl⟩ := qe4 DD z1
      have A17 := (r2 k (by omega)).1
      by_cases z2 : y < 0 ∨ nI (N k) ≤ y
      · exact .inl (bad (zled_b K r1 (by omega) y z2) (fun h1 a3 => ⟨0, mX_led_1 (Mh h1 a3) t9 hd (by omega) y z1' (by rw [A17]; exact z2)⟩))
      · obtain ⟨p, hp, rfl⟩ := nI_of (x := y) (fun q => z2 (.inl q))
        have pN : p < N k := by
          rcases Nat.lt_or_ge p (N k) with q | q
          · exact q
          · exact absurd (.inr (nI_le q hp)) z2
        refine .inr ⟨nI (R k p), zled_c K r1 (by omega) pN, _, zs_Ln (i := 0) hf (by decide) (by decide), ?_⟩
        have cell : ∀ a, a ≠ 94 → nzcell (nzset h 94 (.inl (.long, 1, .inr (.inl (vp_updL f 0 (nI (R k p)).toInt64))))) a = nzcell h a := fun a ha => zc_setN ha
        have Q1 := zQ_gr (h1 := nzset h 94 (.inl (.long, 1, .inr (.inl (vp_updL f 0 (nI (R k p)).toInt64))))) Q (Nat.le_refl _) cell ne
        have M1 : zmd (nzset h 94 (.inl (.long, 1, .inr (.inl (vp_updL f 0 (nI (R k p)).toInt64))))) t' J B Wd := zmd_sm M (fun a a1 _ => cell a (fun w => ne (by rw [show t' = 94 by omega])))
        have st := zQ_nul Q1 0
        have z94 : zlon (zmS (nzset h 94 (.inl (.long, 1, .inr (.inl (vp_updL f 0 (nI (R k p)).toInt64))))) F0 (upd I 0 0) W (some t') rd tp A) 94 1 (vp_updL f 0 (nI (R k p)).toInt64) := (zmS_c (.inr (by decide))).trans (zc_setS _ _ _)
        refine ⟨_, zXeI Q1.1 (mX_led M1 t9 hd (c := k) (by omega) r2 pN z1'), kX13_thrown hd, ?_, ⟨st.1, ⟨_, z94⟩, n95, sc⟩, ?_, ?_⟩
        · refine (za_Ln (i := 0) z94 (by decide) (by decide)).trans ?_
          exact congrArg some (if_pos rfl)
        · show h.2.1.1 ≤ _
          omega
        · show h.2.1.2 ≤ _
          omega
theorem zL_34 (hd : 20 < d) (hL : L ≤ 3072) (hi : i + 6 ≤ L) (j : zJ L xs h) : ∃ h2 w5 w6, nzr d nL_law 1153 (zlo i u5 u6) [] h = nzr d nL_law 1259 (zlo i w5 w6) [] h2 ∧ zJs L xs h h2 := by
  have sc := j.2.2.2
  rw [eL_law_1153, zrd1 sc hi hL, Option.bind_some, zrd2 sc hi hL, Option.bind_some, z_led (m := nL_law) dL_law_1167 lM_14_162 rfl]
  rcases zled_2 hd j (xs (i + 1)) (xs (i + 2)) with ⟨no, hb⟩ | ⟨v, yes, h1, w1, h2, w2, w3, w4, w5⟩
  · obtain ⟨v, h2, c1, c2, js⟩ := hb (h.1 + 1, (h.2.1.1 + 1, h.2.1.2 + 6), h.2.2) rfl rfl rfl
    refine ⟨h2, some (.int 1), some (.int v), ?_, js⟩
    rw [nzled, no, Option.bind_some]
    show nzr d nL_law 1170 (zlo i u5 u6) [.int 1] (h.1 + 1, (h.2.1.1 + 1, h.2.1.2 + 6), h.2.2) = _
    rw [eL_law_1170, zrd1 (h := (h.1 + 1, (h.2.1.1 + 1, h.2.1.2 + 6), h.2.2)) sc hi hL, Option.bind_some, zrd2 (h := (h.1 + 1, (h.2.1.1 + 1, h.2.1.2 + 6), h.2.2)) sc hi hL, Option.bind_some, c1, Option.bind_some]
    dsimp only
    rw [c2, Option.bind_some, if_pos rfl, if_neg (by decide), eL_law_1218]
  · have s1 : h1.2.2.2 = (L, xs) := by
      obtain ⟨Q0, ⟨f, hf⟩, n95, sc⟩ := j
      rw [show (0 : Int32) = nI 0 from rfl, zs_Ln hf (by decide) (by decide)] at w1
      cases w1
      exact sc
    refine ⟨h2, some (.int 0), some (.int v), ?_, w5⟩
    rw [nzled, yes, Option.bind_some]
    dsimp only
    rw [w1, Option.bind_some, Option.bind_some]
    show nzr d nL_law 1170 (zlo i u5 u6) [.int 0] h1 = _
    rw [eL_law_1170, zrd1 s1 hi hL, Option.bind_some, zrd2 s1 hi hL, Option.bind_some, w2, Option.bind_some]
    dsimp only
    rw [w3, Option.bind_some, if_pos rfl, if_pos rfl]
    dsimp only
    rw [w4, Option.bind_some, if_pos ((lg_cmp_eq _ _).mpr rfl), eL_law_1218]
theorem zL_sw (hd : 20 < d) (hL : L ≤ 3072) (hi : i + 6 ≤ L) (j : zJ L xs h) {k : Nat} (hk : k < 64) : ∃ h2 w5 w6, nzr d nL_law 40 (zlo i u5 u6) [.int (nI k)] h = nzr d nL_law 1259 (zlo i w5 w6) [] h2 ∧ zJs L xs h h2 := by
  by_cases y : k < 37
  · rcases (show k = 0 ∨ k = 1 ∨ k = 2 ∨ k = 3 ∨ k = 4 ∨ k = 5 ∨ k = 6 ∨ k = 7 ∨ k = 8 ∨ k = 9 ∨ k = 10 ∨ k = 11 ∨ k = 12 ∨ k = 13 ∨ k = 14 ∨ k = 15 ∨ k = 16 ∨ k = 17 ∨ k = 18 ∨ k = 19 ∨ k = 20 ∨ k = 21 ∨ k = 22 ∨ k = 23 ∨ k = 24 ∨ k = 25 ∨ k = 26 ∨ k = 27 ∨ k = 28 ∨ k = 29 ∨ k = 30 ∨ k = 31 ∨ k = 32 ∨ k = 33 ∨ k = 34 ∨ k = 35 ∨ k = 36 by omega) with rfl | rfl | rfl | rfl | rfl | rfl | rfl | rfl | rfl | rfl | rfl | rfl | rfl | rfl | rfl | rfl | rfl | rfl | rfl | rfl | rfl | rfl | rfl | rfl | rfl | rfl | rfl | rfl | rfl | rfl | rfl | rfl | rfl | rfl | rfl | rfl | rfl
    · rw [z_tabIn (m := nL_law) (o := 164) (t := 204) dL_law_40 (by decide) rfl rfl]
      exact zL_0 hd hL hi j
    · rw [z_tabIn (m := nL_law) (o := 237) (t := 277) dL_law_40 (by decide) rfl rfl]
      exact zL_1 hd hL hi j
    · rw [z_tabIn (m := nL_law) (o := 262) (t := 302) dL_law_40 (by decide) rfl rfl]
      exact zL_2 hd hL hi j
    · rw [z_tabIn (m := nL_law) (o := 275) (t := 315) dL_law_40 (by decide) rfl rfl]
      exact zL_3 hd hL hi j
    · rw [z_tabIn (m := nL_law) (o := 288) (t := 328) dL_law_40 (by decide) rfl rfl]
      exact zL_4 hd hL hi j
    · rw [z_tabIn (m := nL_law) (o := 325) (t := 365) dL_law_40 (by decide) rfl rfl]
      exact zL_5 hd hL hi j
    · rw [z_tabIn (m := nL_law) (o := 350) (t := 390) dL_law_40 (by decide) rfl rfl]
      exact zL_6 hd hL hi j
    · rw [z_tabIn (m := nL_law) (o := 375) (t := 415) dL_law_40 (by decide) rfl rfl]
      exact zL_7 hd hL hi j
    · rw [z_tabIn (m := nL_law) (o := 400) (t := 440) dL_law_40 (by decide) rfl rfl]
      exact zL_8 hd hL hi j
    · rw [z_tabIn (m := nL_law) (o := 425) (t := 465) dL_law_40 (by decide) rfl rfl]
      exact zL_9 hd hL hi j
    · rw [z_tabIn (m := nL_law) (o := 450) (t := 490) dL_law_40 (by decide) rfl rfl]
      exact zL_10 hd hL hi j
    · rw [z_tabIn (m := nL_law) (o := 487) (t := 527) dL_law_40 (by decide) rfl rfl]
      exact zL_11 hd hL hi j
    · rw [z_tabIn (m := nL_law) (o := 524) (t := 564) dL_law_40 (by decide) rfl rfl]
      exact zL_12 hd hL hi j
    · rw [z_tabIn (m := nL_law) (o := 573) (t := 613) dL_law_40 (by decide) rfl rfl]
      exact zL_13 hd hL hi j
    · rw [z_tabIn (m := nL_law) (o := 586) (t := 626) dL_law_40 (by decide) rfl rfl]
      exact zL_14 hd hL hi j
    · rw [z_tabIn (m := nL_law) (o := 611) (t := 651) dL_law_40 (by decide) rfl rfl]
      exact zL_15 hd hL hi j
    · rw [z_tabIn (m := nL_law) (o := 637) (t := 677) dL_law_40 (by decide) rfl rfl]
      exact zL_16 hd hL hi j
    · rw [z_tabIn (m := nL_law) (o := 662) (t := 702) dL_law_40 (by decide) rfl rfl]
      exact zL_17 hd hL hi j
    · rw [z_tabIn (m := nL_law) (o := 699) (t := 739) dL_law_40 (by decide) rfl rfl]
      exact zL_18 hd hL hi j
    · rw [z_tabIn (m := nL_law) (o := 736) (t := 776) dL_law_40 (by decide) rfl rfl]
      exact zL_19 hd hL hi j
    · rw [z_tabIn (m := nL_law) (o := 749) (t := 789) dL_law_40 (by decide) rfl rfl]
      exact zL_20 hd hL hi j
    · rw [z_tabIn (m := nL_law) (o := 786) (t := 826) dL_law_40 (by decide) rfl rfl]
      exact zL_21 hd hL hi j
    · rw [z_tabIn (m := nL_law) (o := 811) (t := 851) dL_law_40 (by decide) rfl rfl]
      exact zL_22 hd hL hi j
    · rw [z_tabIn (m := nL_law) (o := 848) (t := 888) dL_law_40 (by decide) rfl rfl]
      exact zL_23 hd hL hi j
    · rw [z_tabIn (m := nL_law) (o := 862) (t := 902) dL_law_40 (by decide) rfl rfl]
      exact zL_24 hd hL hi j
    · rw [z_tabIn (m := nL_law) (o := 887) (t := 927) dL_law_40 (by decide) rfl rfl]
      exact zL_25 hd hL hi j
    · rw [z_tabIn (m := nL_law) (o := 901) (t := 941) dL_law_40 (by decide) rfl rfl]
      exact zL_26 hd hL hi j
    · rw [z_tabIn (m := nL_law) (o := 914) (t := 954) dL_law_40 (by decide) rfl rfl]
      exact zL_27 hd hL hi j
    · rw [z_tabIn (m := nL_law) (o := 939) (t := 979) dL_law_40 (by decide) rfl rfl]
      exact zL_28 hd hL hi j
    · rw [z_tabIn (m := nL_law) (o := 976) (t := 1016) dL_law_40 (by decide) rfl rfl]
      exact zL_29 hd hL hi j
    · rw [z_tabIn (m := nL_law) (o := 1001) (t := 1041) dL_law_40 (by decide) rfl rfl]
      exact zL_30 hd hL hi j
    · rw [z_tabIn (m := nL_law) (o := 1050) (t := 1090) dL_law_40 (by decide) rfl rfl]
      exact zL_31 hd hL hi j
    · rw [z_tabIn (m := nL_law) (o := 1075) (t := 1115) dL_law_40 (by decide) rfl rfl]
      exact zL_32 hd hL hi j
    · rw [z_tabIn (m := nL_law) (o := 1088) (t := 1128) dL_law_40 (by decide) rfl rfl]
      exact zL_33 hd hL hi j
    · rw [z_tabIn (m := nL_law) (o := 1113) (t := 1153) dL_law_40 (by decide) rfl rfl]
      exact zL_34 hd hL hi j
    · rw [z_tabIn (m := nL_law) (o := 1181) (t := 1221) dL_law_40 (by decide) rfl rfl]
      exact zL_35 hd hL hi j
    · rw [z_tabIn (m := nL_law) (o := 1206) (t := 1246) dL_law_40 (by decide) rfl rfl]
      exact zL_36 hd hL hi j
  · rw [z_tabOut (m := nL_law) (t := 1259) dL_law_40 (.inr (by rw [nI_toInt (by omega)]; omega)) rfl]
    exact ⟨h, u5, u6, rfl, j, by omega, by omega⟩
theorem zmask (x : Int32) : ∃ k, k < 64 ∧ x &&& 63 = nI k := by
  have : (x &&& 63) &&& (-64) = 0 := by
    rw [Int32.and_assoc, show (63 : Int32) &&& (-64) = 0 by decide, Int32.and_zero]
  exact qhC (x := x &&& 63) (M := -64) (n := 6) (m := 26) (by decide +kernel) rfl this
theorem zcmp6 {L i : Nat} (hL : L ≤ 3072) (hi : i ≤ 4000) : (nI L - 6 < nI i) ↔ L < i + 6 := by
  rw [Int32.lt_iff_toInt_lt, Int32.toInt_sub, nI_toInt (by omega), nI_toInt (by omega), show (6 : Int32).toInt = 6 from rfl, Int.bmod_eq_of_le (by omega) (by omega)]
  omega
theorem zL_lp (hd : 20 < d) (hL : L ≤ 3072) : ∀ (n i : Nat) (h : nzH) (u5 u6 : Option Value), i ≤ 4000 → L < i + 6 * n + 6 → zJ L xs h → ∃ h2, nzr d nL_law 23 (zlo i u5 u6) [] h = some (some (.int 1), h2) ∧ h2.2.1.1 ≤ h.2.1.1 + 27 * n ∧ h2.2.1.2 ≤ h.2.1.2 + 238 * n := by
  intro n
  induction n with
  | zero =>
    intro i h u5 u6 hi hn j
    have sc := j.2.2.2
    refine ⟨h, ?_, by omega, by omega⟩
    rw [eL_law_23, show nzclen h 0 = some (nI L) by rw [nzclen, show nzkI h 0 = some h.2.2.2 from rfl, sc]; rfl, Option.bind_some, if_pos ((zcmp6 hL hi).mpr (by omega))]
  | succ n ih =>
    intro i h u5 u6 hi hn j
    have sc := j.2.2.2
    rw [eL_law_23, show nzclen h 0 = some (nI L) by rw [nzclen, show nzkI h 0 = some h.2.2.2 from rfl, sc]; rfl, Option.bind_some]
    by_cases y : L < i + 6
    · exact ⟨h, if_pos ((zcmp6 hL hi).mpr y), by omega, by omega⟩
    · rw [if_neg (fun w => y ((zcmp6 hL hi).mp w)), zrdS sc (by omega) hL, Option.bind_some]
      obtain ⟨k, hk, ek⟩ := zmask (xs i)
      rw [ek]
      obtain ⟨h2, w5, w6, e, js, b1, b2⟩ := zL_sw (i := i) (u5 := u5) (u6 := u6) hd hL (by omega) j hk
      rw [e, eL_law_1259, show nI i + 6 = nI (i + 6) from nI_add i 6]
      obtain ⟨h3, e3, b3, b4⟩ := ih (i + 6) h2 w5 w6 (by omega) (by omega) js
      exact ⟨h3, e3, by omega, by omega⟩
theorem zL_all (hd : 20 < d) (hL : L ≤ 3072) : ∃ h2, nzr d nL_law 0 [some (.float 0), none, none, none, none, none, none] [] (zh0 (L, xs)) = some (some (.int 1), h2) ∧ h2.2.1.1 ≤ 601024 ∧ h2.2.1.2 ≤ 7293034 := by
  have e1 := jX11_init (d := d) (zh0 (L, xs)) 0 rfl (by omega)
  have e2 := jX13_init (d := d) (zh1 (L, xs)) 73 zh1_1 (by omega)
  obtain ⟨h2, e3, b1, b2⟩ := zL_lp (xs := xs) hd hL 512 0 (zh3 (L, xs)) none none (by omega) (by omega) ⟨zq_all, ⟨_, zq_o⟩, by rw [zh3_1]; decide, rfl⟩
  rw [zh3_2] at b1 b2
  refine ⟨h2, ?_, by omega, by omega⟩
  rw [eL_law_0]
  cases a1 : nznewo (zh0 (L, xs)) 11 with
  | none => rw [a1] at e1; cases e1
  | some g1 =>
    rw [a1, Option.bind_some] at e1
    rw [Option.bind_some, e1, Option.bind_some]
    show ((nznewo (zh1 (L, xs)) 13).bind fun h3 => (nzxV d nX13_init [.ref (zh1 (L, xs)).1] h3).bind fun h4 => (nznewa h4 .long 1).bind fun h5 => nzr d nL_law 23 [some (.float 0), some (.ref (zh0 (L, xs)).1), some (.ref (zh1 (L, xs)).1), some (.ref h4.1), some (.int 0), none, none] [] h5) = _
    cases a2 : nznewo (zh1 (L, xs)) 13 with
    | none => rw [a2] at e2; cases e2
    | some g2 =>
      rw [a2, Option.bind_some] at e2
      rw [Option.bind_some, e2, Option.bind_some]
      have e4 : nznewa (zoX (zh1 (L, xs)) 13 46 (zIF13 73) zIL13 1564) .long 1 = some (zh3 (L, xs)) := rfl
      rw [e4, Option.bind_some, show (zoX (zh1 (L, xs)) 13 46 (zIF13 73) zIL13 1564).1 = 94 from zh2_1, zh1_1]
      exact e3
end NZLP
