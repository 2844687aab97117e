/-! both objects in one heap: what is alike, part by part -/
def qD (h : nzH) (td : Option Nat) (c g : Nat → Int32) : Prop := (td = none ∧ ∀ s, s < 9 → c s = 0) ∨ ∃ t J B Wd, td = some t ∧ 94 ≤ t ∧ t + 27 ≤ h.1 ∧ zmd h t J B Wd ∧ zDR c g J B ∧ 0 < zcn c 8 ∧ 0 < zcn c 3 ∧ 0 < zcn c 4
def qT (I : Nat → Int32) (tr : Int32) (S : zrs) (hl : Nat) : Prop := I 6 = nI hl ∧ I 13 = S.2.1.2.1 ∧ I 1 = tr ∧ I 2 = (if tr = 4 then S.2.1.2.2 else -1)
def qR (h : nzH) (c g I : Nat → Int32) (A : Nat → Nat → Int32) : Prop := ∃ N R T, zrou h N R (nI T) ∧ zmrr A N R ∧ I 19 = nI T ∧ T < 2 ^ zcn c 3 ∧ (∀ k, k < 3 → zcn c 4 ≤ k → N k = 0) ∧ (∀ k, k < zcn c 4 → N k ≤ zNv g 4 k 2) ∧ (∀ k i, k < 3 → i < N k → R k i < zcn c 3) ∧ (∀ k k' i i', k < 3 → k' < 3 → i < N k → i' < N k' → R k i = R k' i' → k = k' ∧ i = i')
def qO (h : nzH) (c g : Nat → Int32) : Prop := ∃ Wt Pk O kn, zord h Wt Pk O kn ∧ zkn c g (zcn c 5) (zcn c 3) (fun k => zNv g 4 k 2) kn Wt Pk
def qS (h : nzH) (c I : Nat → Int32) (A : Nat → Nat → Int32) : Prop := ∃ ss n, zsha h ss (nI n) ∧ n ≤ 6 ∧ ((I 27 = 0 ∧ n = 0) ∨ (I 27 = 1 ∧ n = zcn c 3 ∧ ∀ x, x < n → ss.2.2.1 x = A 28 x))
def qM (h : nzH) (I : Nat → Int32) (A : Nat → Nat → Int32) : Prop := ∃ mC mS mP n, zmen h mC mS mP (nI n) ∧ n ≤ 14 ∧ I 33 = nI n ∧ ∀ x, x < n → mS x = A 32 x
def qK (h : nzH) (I : Nat → Int32) (A : Nat → Nat → Int32) : Prop := ∃ ks n, zkno h ks (nI n) ∧ n ≤ 5 ∧ I 34 = nI n ∧ ∀ x, x < n → ks.2.1 x = A 36 x
def qW (h : nzH) (I : Nat → Int32) (A : Nat → Nat → Int32) : Prop := ∃ wW wL wP, zwis h wW wL wP (I 37) ∧ (¬ I 37 = 0 → ∀ x, x < 7 → wP x = A 38 x)
def qG (h : nzH) (A : Nat → Nat → Int32) : Prop := ∃ gN gV, zsig h gN gV ∧ ∀ k, k < 6 → A 40 k = nI (gN k) ∧ gN k ≤ 10 ∧ ∀ x, x < gN k → gV k x = A 41 (10 * k + x)
def qP (h : nzH) (c g I : Nat → Int32) (A : Nat → Nat → Int32) : Prop := ∃ n pC pM pT, zpro h n pC pM pT ∧ I 42 = nI n ∧ ∀ x, x < n → (pC x = A 43 x ∧ pM x = A 44 x ∧ pT x = A 45 x) ∧ ∃ q m, pC x = nI q ∧ q < zcn c 4 ∧ pM x = nI m ∧ zNv g 4 q 1 ≤ m ∧ m ≤ 999
def zQ (h : nzH) (t u : Nat) (tr : Int32) (c g : Nat → Int32) (hl L : Nat) (S : zrs) (F0 : Nat → Value) (I : Nat → Int32) (W : Int64) (td rd : Option Nat) (tp : Nat → Int32) (A : Nat → Nat → Int32) : Prop :=
  h = zmS h F0 I W td rd tp A ∧ 94 ≤ h.1 ∧ zK h t tr ∧ zrd h u tp hl L S ∧ zday h t c g ∧ (t = 7 ∧ u = 70 ∨ t = 70 ∧ u = 7) ∧ qD h td c g ∧ (∀ i, zby (tp i)) ∧ qT I tr S hl ∧ qR h c g I A ∧ qO h c g ∧ qS h c I A ∧ qM h I A ∧ qK h I A ∧ qW h I A ∧ qG h A ∧ qP h c g I A
def zQX (h : nzH) : Prop := ∃ t u tr c g hl L S F0 I W td rd tp A, zQ h t u tr c g hl L S F0 I W td rd tp A
def zstep (h h2 : nzH) : Prop := zQX h2 ∧ h2.1 ≤ h.1 + 27 ∧ h2.2.1.1 ≤ h.2.1.1 + 27 ∧ h2.2.1.2 ≤ h.2.1.2 + 238 ∧ h2.2.2.2 = h.2.2.2 ∧ h.1 ≤ h2.1 ∧ ∀ a, 94 ≤ a → a < h.1 → nzcell h2 a = nzcell h a
def zCI (d : Nat) (m m' : nzM) (as : List Value) (h : nzH) : Prop := ∃ v h1 h2, nzxI d m (.ref 0 :: as) h = some (v, h1) ∧ nzxI d m' (.ref 73 :: as) h1 = some (v, h2) ∧ zstep h h2
def zCL (d : Nat) (m m' : nzM) (as : List Value) (h : nzH) : Prop := ∃ v h1 h2, nzxL d m (.ref 0 :: as) h = some (v, h1) ∧ nzxL d m' (.ref 73 :: as) h1 = some (v, h2) ∧ zstep h h2
/-- all but object 0 and a range -/
def zf2 (lo hi : Nat) (h h1 : nzH) : Prop := h1.1 = h.1 ∧ h1.2.1 = h.2.1 ∧ h1.2.2.2 = h.2.2.2 ∧ ∀ a, a ≠ 0 → (a < lo ∨ hi ≤ a) → nzcell h1 a = nzcell h a
theorem zf2_rfl (lo hi : Nat) (h : nzH) : zf2 lo hi h h := ⟨rfl, rfl, rfl, fun _ _ _ => rfl⟩
theorem zf2_of {lo hi : Nat} {h h1 : nzH} (f : zfr lo hi h h1) : zf2 lo hi h h1 := ⟨f.1, f.2.1, f.2.2.1, fun a _ x => f.2.2.2 a x⟩
theorem zf2_tr {lo hi : Nat} {h h1 h2 : nzH} (a : zf2 lo hi h h1) (b : zf2 lo hi h1 h2) : zf2 lo hi h h2 := ⟨b.1.trans a.1, b.2.1.trans a.2.1, b.2.2.1.trans a.2.2.1, fun x x0 x1 => (b.2.2.2 x x0 x1).trans (a.2.2.2 x x0 x1)⟩
theorem zf2_wk {lo hi lo' hi' : Nat} {h h1 : nzH} (a : zf2 lo hi h h1) (l1 : lo' ≤ lo) (l2 : hi ≤ hi') : zf2 lo' hi' h h1 := ⟨a.1, a.2.1, a.2.2.1, fun x x0 x1 => a.2.2.2 x x0 (by omega)⟩
theorem zf2_01 {lo hi : Nat} {h h1 : nzH} (f : zfr 0 1 h h1) : zf2 lo hi h h1 := ⟨f.1, f.2.1, f.2.2.1, fun a a0 _ => f.2.2.2 a (by omega)⟩
theorem zf2_p0 {lo hi t : Nat} {tr : Int32} {h h1 : nzH} (f : zfr lo hi h h1) (K : zK h1 t tr) (x : Int32) : zf2 lo hi h (zp0 h1 x) := zf2_tr (zf2_of f) (zf2_01 (zp0_fr K x))
theorem zf2_sm {lo hi a b : Nat} {h h1 : nzH} (f : zf2 lo hi h h1) (a0 : 0 < a) (q : b ≤ lo ∨ hi ≤ a) : zsm a b h h1 := fun x x0 x1 => f.2.2.2 x (by omega) (by omega)
section NZQ
variable {h h1 : nzH} {t u : Nat} {tr : Int32} {c g : Nat → Int32} {hl L : Nat} {S : zrs} {F0 : Nat → Value} {I I' : Nat → Int32} {W : Int64} {td rd : Option Nat} {tp : Nat → Int32} {A A' : Nat → Nat → Int32} {lo hi : Nat}
theorem zmS_mS {I2 : Nat → Int32} {W2 : Int64} {td2 rd2 : Option Nat} {tp2 : Nat → Int32} {A2 : Nat → Nat → Int32} {F2 : Nat → Value} : zmS (zmS h F0 I W td rd tp A) F2 I2 W2 td2 rd2 tp2 A2 = zmS h F2 I2 W2 td2 rd2 tp2 A2 := by
  refine Prod.ext rfl (Prod.ext rfl (Prod.ext (funext fun a => ?_) rfl))
  show (if 73 ≤ a ∧ a < 94 then zmC F2 I2 W2 td2 rd2 tp2 A2 a else (if 73 ≤ a ∧ a < 94 then zmC F0 I W td rd tp A a else h.2.2.1 a)) = (if 73 ≤ a ∧ a < 94 then zmC F2 I2 W2 td2 rd2 tp2 A2 a else h.2.2.1 a)
  by_cases x : 73 ≤ a ∧ a < 94
  · rw [if_pos x, if_pos x]
  · rw [if_neg x, if_neg x, if_neg x]
theorem zmS_fix (e : h = zmS h F0 I W td rd tp A) (s : zsm 73 94 h h1) : h1 = zmS h1 F0 I W td rd tp A := by
  refine Prod.ext rfl (Prod.ext rfl (Prod.ext (funext fun a => ?_) rfl))
  show nzcell h1 a = (if 73 ≤ a ∧ a < 94 then zmC F0 I W td rd tp A a else nzcell h1 a)
  by_cases x : 73 ≤ a ∧ a < 94
  · rw [if_pos x, s a x.1 x.2, e]
    exact if_pos x
  · rw [if_neg x]
theorem zmS_sm {a b : Nat} (q : b ≤ 73 ∨ 94 ≤ a) : zsm a b h (zmS h F0 I W td rd tp A) := fun x x0 x1 => zmS_c (by omega)
theorem zrd_sm (D : zrd h u tp hl L S) (s1 : zsm 1 7 h h1) (s2 : zsm u (u + 3) h h1) : zrd h1 u tp hl L S := by
  obtain ⟨⟨F, o, e⟩, ⟨⟨G, o2, e2⟩, b, r⟩, ⟨n1, n2, n3, n4⟩, E, v⟩ := D
  exact ⟨⟨F, (s1 1 (by omega) (by omega)).trans o, e⟩, ⟨⟨G, (s1 2 (by omega) (by omega)).trans o2, e2⟩, (s1 3 (by omega) (by omega)).trans b, r⟩, ⟨(s1 4 (by omega) (by omega)).trans n1, (s1 5 (by omega) (by omega)).trans n2, (s1 6 (by omega) (by omega)).trans n3, n4⟩, zday_sm E s2, v⟩
theorem qD_sm (q : qD h td c g) (e : h.1 ≤ h1.1) (s : ∀ a, 94 ≤ a → a < h.1 → nzcell h1 a = nzcell h a) : qD h1 td c g := by
  rcases q with q | ⟨t, J, B, Wd, q1, q2, q3, q4, q5⟩
  · exact .inl q
  · exact .inr ⟨t, J, B, Wd, q1, q2, by omega, zmd_sm q4 (fun a a1 a2 => s a (by omega) (by omega)), q5⟩
theorem qR_k (q : qR h c g I A) (s : zsm 10 17 h h1) (i1 : I' 19 = I 19) (a1 : A' 17 = A 17) (a2 : A' 18 = A 18) : qR h1 c g I' A' := by
  obtain ⟨N, R, T, q1, q2, q3, q4⟩ := q
  exact ⟨N, R, T, zrou_sm q1 s, fun i hi => by rw [a1, a2]; exact q2 i hi, i1.trans q3, q4⟩
theorem qO_k (q : qO h c g) (s : zsm 17 27 h h1) : qO h1 c g := by
  obtain ⟨Wt, Pk, O, kn, q1, q2⟩ := q
  exact ⟨Wt, Pk, O, kn, zord_sm q1 s, q2⟩
theorem qS_k (q : qS h c I A) (s : zsm 27 31 h h1) (i1 : I' 27 = I 27) (a1 : A' 28 = A 28) : qS h1 c I' A' := by
  obtain ⟨ss, n, q1, q2⟩ := q
  exact ⟨ss, n, zsha_sm q1 s, by rw [i1, a1]; exact q2⟩
theorem qM_k (q : qM h I A) (s : zsm 31 50 h h1) (i1 : I' 33 = I 33) (a1 : A' 32 = A 32) : qM h1 I' A' := by
  obtain ⟨C, S, P, n, q1, q2⟩ := q
  exact ⟨C, S, P, n, zmen_sm q1 s, by rw [i1, a1]; exact q2⟩
theorem qK_k (q : qK h I A) (s : zsm 50 53 h h1) (i1 : I' 34 = I 34) (a1 : A' 36 = A 36) : qK h1 I' A' := by
  obtain ⟨ks, n, q1, q2⟩ := q
  exact ⟨ks, n, zkno_sm q1 s, by rw [i1, a1]; exact q2⟩
theorem qW_k (q : qW h I A) (s : zsm 53 57 h h1) (i1 : I' 37 = I 37) (a1 : A' 38 = A 38) : qW h1 I' A' := by
  obtain ⟨a, b, p, q1, q2⟩ := q
  exact ⟨a, b, p, by rw [i1]; exact zwis_sm q1 s, by rw [i1, a1]; exact q2⟩
theorem qG_k (q : qG h A) (s : zsm 57 66 h h1) (a1 : A' 40 = A 40) (a2 : A' 41 = A 41) : qG h1 A' := by
  obtain ⟨a, b, q1, q2⟩ := q
  exact ⟨a, b, zsig_sm q1 s, by rw [a1, a2]; exact q2⟩
theorem qP_k (q : qP h c g I A) (s : zsm 66 70 h h1) (i1 : I' 42 = I 42) (a1 : A' 43 = A 43) (a2 : A' 44 = A 44) (a3 : A' 45 = A 45) : qP h1 c g I' A' := by
  obtain ⟨n, C, M, T, q1, q2⟩ := q
  exact ⟨n, C, M, T, zpro_sm q1 s, by rw [i1, a1, a2, a3]; exact q2⟩
theorem zQ_e (Q : zQ h t u tr c g hl L S F0 I W td rd tp A) (f : zf2 lo hi h h1) (l2 : hi ≤ 73) : h1 = zmS h1 F0 I W td rd tp A := zmS_fix Q.1 (zf2_sm f (by decide) (.inr l2))
theorem zQ_e0 (Q : zQ h t u tr c g hl L S F0 I W td rd tp A) (x : Int32) : zp0 h x = zmS (zp0 h x) F0 I W td rd tp A := zQ_e Q (zf2_01 (lo := 0) (hi := 0) (zp0_fr Q.2.2.1 x)) (by decide)
/-- the end of a call: the parts at the class's heap, with the reference's new state -/
theorem zQ_fin (Q : zQ h t u tr c g hl L S F0 I W td rd tp A) {x : Int32} (f : zf2 lo hi h h1) (l1 : 10 ≤ lo) (l2 : hi ≤ 70) (K : zK h1 t x) (qt : qT I' x S hl) (q1 : qR h1 c g I' A') (q2 : qO h1 c g) (q3 : qS h1 c I' A') (q4 : qM h1 I' A') (q5 : qK h1 I' A') (q6 : qW h1 I' A') (q7 : qG h1 A') (q8 : qP h1 c g I' A') : zstep h (zmS h1 F0 I' W td rd tp A') := by
  obtain ⟨e, h9, K0, D, E, tu, qd, hb, -⟩ := Q
  have s : ∀ {a b}, b ≤ 73 ∨ 94 ≤ a → zsm a b h1 (zmS h1 F0 I' W td rd tp A') := fun q => zmS_sm q
  have D1 : zrd h1 u tp hl L S := zrd_sm D (zf2_sm f (by decide) (by omega)) (zf2_sm f (by omega) (by omega))
  have E1 : zday h1 t c g := zday_sm E (zf2_sm f (by omega) (by omega))
  have qd1 : qD h1 td c g := qD_sm qd (by rw [f.1]; omega) (fun a a1 _ => f.2.2.2 a (by omega) (by omega))
  refine ⟨⟨t, u, x, c, g, hl, L, S, F0, I', W, td, rd, tp, A', zmS_mS.symm, ?_, zK_sm K (zmS_c (.inl (by decide))), zrd_sm D1 (s (by omega)) (s (by omega)), zday_sm E1 (s (by omega)), tu, qD_sm qd1 (Nat.le_refl _) (fun a a1 _ => zmS_c (by omega)), hb, qt, qR_k q1 (s (by omega)) rfl rfl rfl, qO_k q2 (s (by omega)), qS_k q3 (s (by omega)) rfl rfl, qM_k q4 (s (by omega)) rfl rfl, qK_k q5 (s (by omega)) rfl rfl, qW_k q6 (s (by omega)) rfl rfl, qG_k q7 (s (by omega)) rfl rfl, qP_k q8 (s (by omega)) rfl rfl rfl rfl⟩, ?_, ?_, ?_, f.2.2.1, Nat.le_of_eq f.1.symm, fun a a1 _ => (zmS_c (by omega)).trans (f.2.2.2 a (by omega) (by omega))⟩
  · show 94 ≤ h1.1
    rw [f.1]; exact h9
  · show h1.1 ≤ _
    rw [f.1]; omega
  · show h1.2.1.1 ≤ _
    rw [f.2.1]; omega
  · show h1.2.1.2 ≤ _
    rw [f.2.1]; omega
/-- what a call of the reference leaves as it was -/
def qI (I I' : Nat → Int32) : Prop := I' 6 = I 6 ∧ I' 13 = I 13 ∧ I' 19 = I 19 ∧ I' 27 = I 27 ∧ I' 33 = I 33 ∧ I' 34 = I 34 ∧ I' 37 = I 37 ∧ I' 42 = I 42
def qA (A A' : Nat → Nat → Int32) : Prop := A' 17 = A 17 ∧ A' 18 = A 18 ∧ A' 28 = A 28 ∧ A' 32 = A 32 ∧ A' 36 = A 36 ∧ A' 38 = A 38 ∧ A' 40 = A 40 ∧ A' 41 = A 41 ∧ A' 43 = A 43 ∧ A' 44 = A 44 ∧ A' 45 = A 45
theorem qA_r (A : Nat → Nat → Int32) : qA A A := ⟨rfl, rfl, rfl, rfl, rfl, rfl, rfl, rfl, rfl, rfl, rfl⟩
theorem qT_0 (Q : zQ h t u tr c g hl L S F0 I W td rd tp A) {x : Int32} (hx : x ≠ 4) (i : I' 6 = I 6 ∧ I' 13 = I 13) (i1 : I' 1 = x) (i2 : I' 2 = -1) : qT I' x S hl := by
  obtain ⟨q1, q2, q3, q4⟩ := Q.2.2.2.2.2.2.2.2.1
  exact ⟨i.1.trans q1, i.2.trans q2, i1, by rw [if_neg hx]; exact i2⟩
/-- only scratch and the trouble -/
theorem zQ_same (Q : zQ h t u tr c g hl L S F0 I W td rd tp A) {x : Int32} (hx : x ≠ 4) (f : zf2 10 10 h h1) (K : zK h1 t x) (i : qI I I') (i1 : I' 1 = x) (i2 : I' 2 = -1) (a : qA A A') : zstep h (zmS h1 F0 I' W td rd tp A') := by
  obtain ⟨e, h9, K0, D, E, tu, qd, hb, qt, q1, q2, q3, q4, q5, q6, q7, q8⟩ := id Q
  obtain ⟨j1, j2, j3, j4, j5, j6, j7, j8⟩ := i
  obtain ⟨b1, b2, b3, b4, b5, b6, b7, b8, b9, b10, b11⟩ := a
  exact zQ_fin Q f (by decide) (by decide) K (qT_0 Q hx ⟨j1, j2⟩ i1 i2) (qR_k q1 (zf2_sm f (by decide) (by decide)) j3 b1 b2) (qO_k q2 (zf2_sm f (by decide) (by decide))) (qS_k q3 (zf2_sm f (by decide) (by decide)) j4 b3) (qM_k q4 (zf2_sm f (by decide) (by decide)) j5 b4) (qK_k q5 (zf2_sm f (by decide) (by decide)) j6 b5) (qW_k q6 (zf2_sm f (by decide) (by decide)) j7 b6) (qG_k q7 (zf2_sm f (by decide) (by decide)) b7 b8) (qP_k q8 (zf2_sm f (by decide) (by decide)) j8 b9 b10 b11)
theorem zQ_ref (Q : zQ h t u tr c g hl L S F0 I W td rd tp A) {x : Int32} (hx : x ≠ 4) : zstep h (zmS (zp0 h x) F0 (upd (upd (upd I 0 0) 1 x) 2 (-1)) W td rd tp A) := zQ_same Q hx (zf2_01 (zp0_fr Q.2.2.1 x)) (zp0_K Q.2.2.1 x) ⟨rfl, rfl, rfl, rfl, rfl, rfl, rfl, rfl⟩ rfl rfl (qA_r A)
/-- nothing but the reference's own flag -/
theorem zQ_nul (Q : zQ h t u tr c g hl L S F0 I W td rd tp A) (y : Int32) : zstep h (zmS h F0 (upd I 0 y) W td rd tp A) := by
  obtain ⟨e, h9, K0, D, E, tu, qd, hb, qt, q1, q2, q3, q4, q5, q6, q7, q8⟩ := id Q
  exact zQ_fin (lo := 10) (hi := 10) Q (zf2_rfl _ _ _) (by decide) (by decide) K0 qt q1 q2 q3 q4 q5 q6 q7 q8
theorem zXeI {d : Nat} {m : nzM} {as : List Value} {h2 : nzH} {r : Option (Int32 × nzH)} (e : h1 = h2) (q : nzxI d m as h2 = r) : nzxI d m as h1 = r := by rw [e]; exact q
theorem zXeL {d : Nat} {m : nzM} {as : List Value} {h2 : nzH} {r : Option (Int64 × nzH)} (e : h1 = h2) (q : nzxL d m as h2 = r) : nzxL d m as h1 = r := by rw [e]; exact q
end NZQ
