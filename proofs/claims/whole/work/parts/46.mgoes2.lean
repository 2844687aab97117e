/-! the reference: goes, goesAsDriven -/
def zmgR (J : Nat → Int32) (B : Nat → Nat → Int32) (nf c k : Nat) (tea : Int32) (r : Nat → Nat) (n : Nat) (C : Nat → Int32) : Int32 × Int32 × Int32 × (Nat → Int32) := zit (zmgo J B nf c k tea r) 0 n (0, B 11 k, B 27 c, C)
section NZMH
variable {d t : Nat} {h : nzH} {I : Nat → Int32} {W : Int64} {rd : Option Nat} {tp : Nat → Int32} {A : Nat → Nat → Int32} {J : Nat → Int32} {B : Nat → Nat → Int32} {Wd : Nat → Int64}
theorem upd_upd (f : Nat → Int32) (k : Nat) (x y : Int32) : upd (upd f k x) k y = upd f k y := by
  funext q
  by_cases z : q = k <;> simp [upd, z]
theorem jX13_goes (D : zmo h I W (some t) rd tp A) (E : zmd h t J B Wd) (hd : 2 < d) {nf c k n : Nat} (hnf : nf ≤ 3) (e7 : J 7 = nI nf) (hc : c < 3) (hk : k < 3) (ek : B 26 c = nI k) (hn : n ≤ 6) (ht : 94 ≤ t) (tea : Int32) {r : Nat → Nat} (en : I 20 = nI n) (hr : ∀ q, q < n → A 22 q = nI (r q) ∧ r q < 6) : ∃ h1, nzxV d nX13_goes [.ref 73, .int (nI c), .int tea] h = some h1 ∧ zmo h1 (upd I 21 (zmgR J B nf c k tea r n (A 23)).1) W (some t) rd tp (va_up A 23 (zmgR J B nf c k tea r n (A 23)).2.2.2) ∧ zmd h1 t J B Wd ∧ zfr 73 94 h h1 := by
  have g := zmo_td D
  have a27 := zmd_A E (k := 27) (i := c) (by decide) (by decide) (by decide) (by decide) (by decide) hc
  have a26 := zmd_A E (k := 26) (i := c) (by decide) (by decide) (by decide) (by decide) (by decide) hc
  have a11 := zmd_A E (k := 11) (i := k) (by decide) (by decide) (by decide) (by decide) (by decide) hk
  rw [ek] at a26
  obtain ⟨h1, q1, D1, f1⟩ := zmo_pI D (k := 21) (by decide) (by decide) 0
  obtain ⟨h2, w1, w2, w3, w4⟩ := jX13_go37 (d := d - 1) (by omega) hnf e7 hc hk ek hn ht tea n 0 h1 (upd I 21 0) A (B 11 k) (B 27 c) none (by omega) en hr D1 (zmd_sm E (zfr_sm f1 (by omega)))
  rw [show upd I 21 0 21 = 0 from if_pos rfl, upd_upd] at w2
  refine ⟨h2, iX13_goes (by omega) D.1.choose_spec.1 ?_, w2, w3, zfr_tr f1 w4⟩
  simp only [eX13_goes_0, g.2, Option.bind_some, zmd_R E (k := 27) (by decide) (by decide), zmd_R E (k := 26) (by decide) (by decide), zmd_R E (k := 11) (by decide) (by decide), a27, a26, a11, q1]
  exact w1
theorem jX13_gad12 (hd : 2 < d) {nf c k : Nat} (hnf : nf ≤ 3) (e7 : J 7 = nI nf) (hc : c < 3) (hk : k < 3) (ek : B 26 c = nI k) (ht : 94 ≤ t) (tea : Int32) {N : Nat → Nat} {R : Nat → Nat → Nat} : ∀ (j i : Nat) (h : nzH) (A : Nat → Nat → Int32), i + j = N c → I 20 = nI (N c) → zmrr A N R → (∀ q, q < i → A 22 q = nI (R c q)) → zmo h I W (some t) rd tp A → zmd h t J B Wd → ∃ h1 w, nzr d nX13_goesAsDriven 12 [some (.ref 73), some (.int (nI c)), some (.int tea), some (.int (nI i))] [] h = some (none, h1) ∧ (∀ q, q < N c → w q = nI (R c q)) ∧ zmo h1 (upd I 21 (zmgR J B nf c k tea (R c) (N c) (A 23)).1) W (some t) rd tp (va_up (va_up A 22 w) 23 (zmgR J B nf c k tea (R c) (N c) (A 23)).2.2.2) ∧ zmd h1 t J B Wd ∧ zfr 73 94 h h1 := by
  intro j
  induction j with
  | zero =>
    intro i h A hi en M hp D E
    obtain ⟨m1, m2, m3⟩ := M c hc
    obtain ⟨h1, q1, q2, q3, q4⟩ := jX13_goes (d := d) D E hd hnf e7 hc hk ek m2 ht tea (r := R c) en (fun q hq => ⟨hp q (by omega), (m3 q hq).2⟩)
    refine ⟨h1, A 22, ?_, fun q hq => hp q (by omega), ?_, q3, q4⟩
    · rw [eX13_goesAsDriven_12, zmo_gI D (by decide) (by decide), Option.bind_some, en, if_pos (nI_le (by omega) (by omega)), q1, Option.bind_some]
    · rw [va_up_same]
      exact q2
  | succ j ih =>
    intro i h A hi en M hp D E
    obtain ⟨m1, m2, m3⟩ := M c hc
    have a18 := zmo_gA D (k := 18) (i := 6 * c + i) (by decide) (by decide) (show 6 * c + i < 18 by omega)
    rw [(m3 i (by omega)).1] at a18
    obtain ⟨h1, q1, D1, f1⟩ := zmo_pA D (k := 22) (i := i) (by decide) (by decide) (show i < 6 by omega) (nI (R c i))
    obtain ⟨h2, w, w1, w2, w3, w4, w5⟩ := ih (i + 1) h1 _ (by omega) en (fun q hq => by
      have := M q hq
      rw [va_up_ne _ _ (by decide), va_up_ne _ _ (by decide)]
      exact this) (fun q hq => by
      rw [va_up_self]
      by_cases z : q = i
      · rw [z, upd, if_pos rfl]
      · rw [upd, if_neg z]
        exact hp q (by omega)) D1 (zmd_sm E (zfr_sm f1 (by omega)))
    rw [va_up_up, va_up_ne _ _ (show 23 ≠ 22 by decide)] at w3
    refine ⟨h2, w, ?_, w2, w3, w4, zfr_tr f1 w5⟩
    rw [eX13_goesAsDriven_12, zmo_gI D (by decide) (by decide), Option.bind_some, en, if_neg (nI_ge (by omega) (by omega)), zmo_gR D (k := 22) (by decide) (by decide), Option.bind_some, zmo_gR D (k := 18) (by decide) (by decide), Option.bind_some, show 6 * nI c + nI i = nI (6 * c + i) by rw [show (6 : Int32) = nI 6 from rfl, pk_mul, nI_add], a18, Option.bind_some, q1, Option.bind_some, nI_1]
    exact w1
theorem jX13_goesAsDriven (D : zmo h I W (some t) rd tp A) (E : zmd h t J B Wd) (hd : 3 < d) {nf c k : Nat} (hnf : nf ≤ 3) (e7 : J 7 = nI nf) (hc : c < 3) (hk : k < 3) (ek : B 26 c = nI k) (ht : 94 ≤ t) (tea : Int32) {N : Nat → Nat} {R : Nat → Nat → Nat} (M : zmrr A N R) : ∃ h1 w, nzxV d nX13_goesAsDriven [.ref 73, .int (nI c), .int tea] h = some h1 ∧ (∀ q, q < N c → w q = nI (R c q)) ∧ zmo h1 (upd (upd I 20 (nI (N c))) 21 (zmgR J B nf c k tea (R c) (N c) (A 23)).1) W (some t) rd tp (va_up (va_up A 22 w) 23 (zmgR J B nf c k tea (R c) (N c) (A 23)).2.2.2) ∧ zmd h1 t J B Wd ∧ zfr 73 94 h h1 := by
  have a17 := zmo_gA D (k := 17) (i := c) (by decide) (by decide) hc
  rw [(M c hc).1] at a17
  obtain ⟨h1, q1, D1, f1⟩ := zmo_pI D (k := 20) (by decide) (by decide) (nI (N c))
  obtain ⟨h2, w, w1, w2, w3, w4, w5⟩ := jX13_gad12 (d := d - 1) (by omega) hnf e7 hc hk ek ht tea (N c) 0 h1 A (by omega) (show upd I 20 (nI (N c)) 20 = nI (N c) from if_pos rfl) M (fun q hq => by omega) D1 (zmd_sm E (zfr_sm f1 (by omega)))
  refine ⟨h2, w, iX13_goesAsDriven (by omega) D.1.choose_spec.1 ?_, w2, w3, w4, zfr_tr f1 w5⟩
  rw [eX13_goesAsDriven_0, zmo_gR D (k := 17) (by decide) (by decide), Option.bind_some, a17, Option.bind_some, q1, Option.bind_some]
  exact w1
end NZMH
