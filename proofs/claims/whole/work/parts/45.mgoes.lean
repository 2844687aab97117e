/-! the reference: a round gone -/
def zmht (B : Nat → Nat → Int32) (i k : Nat) (x : Int32) : Int32 := B 12 k - (B 29 i * (x - B 27 i)) / 10
/-- a step: (bad, place, minute, arrivals by place in the row) -/
def zmgm (B : Nat → Nat → Int32) (nf : Nat) (r : Nat → Nat) (i : Nat) (s : Int32 × Int32 × Int32 × (Nat → Int32)) : Int32 := s.2.2.1 + zmway B nf s.2.1 (B 18 (r i))
def zmgo (J : Nat → Int32) (B : Nat → Nat → Int32) (nf c k : Nat) (tea : Int32) (r : Nat → Nat) (i : Nat) (s : Int32 × Int32 × Int32 × (Nat → Int32)) : Int32 × Int32 × Int32 × (Nat → Int32) :=
  (if J 1 < zmgm B nf r i s then s.1 ||| (1 <<< (nI (r i) &&& 31)) else if J 0 ≤ zmht B c k (zmgm B nf r i s) then s.1 else s.1 ||| (1 <<< (nI (r i) &&& 31)),
   B 18 (r i),
   zmgm B nf r i s + ((B 20 (r i) + (if B 24 (r i) = 0 then 0 else if B 25 c = 0 then 0 else 5)) + (if (tea >>> (nI (r i) &&& 31)) &&& 1 = 1 then B 21 (r i) else 0)),
   upd s.2.2.2 i (zmgm B nf r i s))
section NZMG
variable {d t : Nat} {h : nzH} {I : Nat → Int32} {W : Int64} {rd : Option Nat} {tp : Nat → Int32} {A : Nat → Nat → Int32} {J : Nat → Int32} {B : Nat → Nat → Int32} {Wd : Nat → Int64}
theorem jX13_go125 (D : zmo h I W (some t) rd tp A) (E : zmd h t J B Wd) (hd : 0 < d) {c q i : Nat} (hc : c < 3) (hq : q < 6) (tea m p : Int32) : nzr d nX13_goes 125 [some (.ref 73), some (.int (nI c)), some (.int tea), some (.int m), some (.int p), some (.int (nI i)), some (.int (nI q))] [] h = nzr d nX13_goes 37 [some (.ref 73), some (.int (nI c)), some (.int tea), some (.int (m + ((B 20 q + (if B 24 q = 0 then 0 else if B 25 c = 0 then 0 else 5)) + (if (tea >>> (nI q &&& 31)) &&& 1 = 1 then B 21 q else 0)))), some (.int (B 18 q)), some (.int (nI (i + 1))), some (.int (nI q))] [] h := by
  have g := zmo_td D
  have a18 := zmd_A E (k := 18) (i := q) (by decide) (by decide) (by decide) (by decide) (by decide) hq
  have a20 := zmd_A E (k := 20) (i := q) (by decide) (by decide) (by decide) (by decide) (by decide) hq
  have a21 := zmd_A E (k := 21) (i := q) (by decide) (by decide) (by decide) (by decide) (by decide) hq
  have a24 : nzaB h (t + (24 - 10)) (nI q) = some (B 24 q) := za_On E.2.2.1 hq (by decide)
  have a25 : nzaB h (t + (25 - 10)) (nI c) = some (B 25 c) := za_On E.2.2.2.1 hc (by decide)
  simp only [eX13_goes_125, eX13_goes_165, eX13_goes_166, eX13_goes_190, g.2, Option.bind_some, zmd_R E (k := 18) (by decide) (by decide), zmd_R E (k := 20) (by decide) (by decide), zmd_R E (k := 21) (by decide) (by decide), zmd_R E (k := 24) (by decide) (by decide), zmd_R E (k := 25) (by decide) (by decide), a18, a20, a21, a24, a25, jX13_has hd, nI_1]
  by_cases z1 : B 24 q = 0 <;> by_cases z2 : B 25 c = 0 <;> by_cases z3 : (tea >>> (nI q &&& 31)) &&& 1 = 1 <;> simp only [z1, z2, z3, if_true, if_false, show ¬ (1 : Int32) = 0 by decide]
theorem jX13_go37 (hd : 1 < d) {nf c k n : Nat} (hnf : nf ≤ 3) (e7 : J 7 = nI nf) (hc : c < 3) (hk : k < 3) (ek : B 26 c = nI k) (hn : n ≤ 6) (ht : 94 ≤ t) (tea : Int32) {r : Nat → Nat} : ∀ (j i : Nat) (h : nzH) (I : Nat → Int32) (A : Nat → Nat → Int32) (p m : Int32) (u : Option Value), i + j = n → I 20 = nI n → (∀ q, q < n → A 22 q = nI (r q) ∧ r q < 6) → zmo h I W (some t) rd tp A → zmd h t J B Wd → ∃ h1, nzr d nX13_goes 37 [some (.ref 73), some (.int (nI c)), some (.int tea), some (.int m), some (.int p), some (.int (nI i)), u] [] h = some (none, h1) ∧ zmo h1 (upd I 21 (zit (zmgo J B nf c k tea r) i j (I 21, p, m, A 23)).1) W (some t) rd tp (va_up A 23 (zit (zmgo J B nf c k tea r) i j (I 21, p, m, A 23)).2.2.2) ∧ zmd h1 t J B Wd ∧ zfr 73 94 h h1 := by
  intro j
  induction j with
  | zero =>
    intro i h I A p m u hi en hr D E
    refine ⟨h, ?_, ?_, E, zfr_rfl _ _ _⟩
    · rw [eX13_goes_37, zmo_gI D (by decide) (by decide), Option.bind_some, en, if_pos (nI_le (by omega) (by omega))]
    · rw [zit]
      show zmo h (upd I 21 (I 21)) W (some t) rd tp (va_up A 23 (A 23))
      rw [va_up_same, show upd I 21 (I 21) = I by funext q; by_cases z : q = 21 <;> simp [upd, z]]
      exact D
  | succ j ih =>
    intro i h I A p m u hi en hr D E
    obtain ⟨r1, r2⟩ := hr i (by omega)
    have g := zmo_td D
    have a22 := zmo_gA D (k := 22) (i := i) (by decide) (by decide) (show i < 6 by omega)
    rw [r1] at a22
    have a18 := zmd_A E (k := 18) (i := r i) (by decide) (by decide) (by decide) (by decide) (by decide) r2
    obtain ⟨h1, q1, D1, f1⟩ := zmo_pA D (k := 23) (i := i) (by decide) (by decide) (show i < 6 by omega) (zmgm B nf r i (I 21, p, m, A 23))
    have E1 := zmd_sm E (zfr_sm f1 (lo' := t) (hi' := t + 27) (by omega))
    have g1 := zmo_td D1
    obtain ⟨h2, w1, D2, f2⟩ := zmo_pI D1 (k := 21) (by decide) (by decide) (I 21 ||| (1 <<< (nI (r i) &&& 31)))
    have E2 := zmd_sm E1 (zfr_sm f2 (lo' := t) (hi' := t + 27) (by omega))
    have st : nzr d nX13_goes 37 [some (.ref 73), some (.int (nI c)), some (.int tea), some (.int m), some (.int p), some (.int (nI i)), u] [] h = if J 1 < zmgm B nf r i (I 21, p, m, A 23) then nzr d nX13_goes 125 [some (.ref 73), some (.int (nI c)), some (.int tea), some (.int (zmgm B nf r i (I 21, p, m, A 23))), some (.int p), some (.int (nI i)), some (.int (nI (r i)))] [] h2 else if J 0 ≤ zmht B c k (zmgm B nf r i (I 21, p, m, A 23)) then nzr d nX13_goes 125 [some (.ref 73), some (.int (nI c)), some (.int tea), some (.int (zmgm B nf r i (I 21, p, m, A 23))), some (.int p), some (.int (nI i)), some (.int (nI (r i)))] [] h1 else nzr d nX13_goes 125 [some (.ref 73), some (.int (nI c)), some (.int tea), some (.int (zmgm B nf r i (I 21, p, m, A 23))), some (.int p), some (.int (nI i)), some (.int (nI (r i)))] [] h2 := by
      rw [eX13_goes_37, zmo_gI D (by decide) (by decide), Option.bind_some, en, if_neg (nI_ge (by omega) (by omega)), zmo_gR D (k := 22) (by decide) (by decide), Option.bind_some, a22, Option.bind_some, g.2, Option.bind_some, Option.bind_some, zmd_R E (k := 18) (by decide) (by decide), Option.bind_some, a18, Option.bind_some, jX12_way E (by omega) hnf e7, Option.bind_some, zmo_gR D (k := 23) (by decide) (by decide), Option.bind_some]
      rw [show m + zmway B nf p (B 18 (r i)) = zmgm B nf r i (I 21, p, m, A 23) from rfl, q1, Option.bind_some, g1.2, Option.bind_some, zmd_I E1 (by decide), Option.bind_some, jX13_heatBy D1 E1 (by omega) hc hk ek, Option.bind_some, g1.2, Option.bind_some, zmd_I E1 (by decide), Option.bind_some, eX13_goes_112, zmo_gI D1 (by decide) (by decide), Option.bind_some, w1, Option.bind_some]
      rfl
    have fin1 := ih (i + 1) h1 I (va_up A 23 (upd (A 23) i (zmgm B nf r i (I 21, p, m, A 23)))) (B 18 (r i)) (zmgo J B nf c k tea r i (I 21, p, m, A 23)).2.2.1 (some (.int (nI (r i)))) (by omega) en (fun q hq => by rw [va_up_ne _ _ (by decide)]; exact hr q hq) D1 E1
    have fin2 := ih (i + 1) h2 (upd I 21 (I 21 ||| (1 <<< (nI (r i) &&& 31)))) (va_up A 23 (upd (A 23) i (zmgm B nf r i (I 21, p, m, A 23)))) (B 18 (r i)) (zmgo J B nf c k tea r i (I 21, p, m, A 23)).2.2.1 (some (.int (nI (r i)))) (by omega) en (fun q hq => by rw [va_up_ne _ _ (by decide)]; exact hr q hq) D2 E2
    rw [va_up_up, va_up_self] at fin1 fin2
    have uu : ∀ x y : Int32, upd (upd I 21 x) 21 y = upd I 21 y := by
      intro x y
      funext q
      by_cases z : q = 21 <;> simp [upd, z]
    rw [show upd I 21 (I 21 ||| (1 <<< (nI (r i) &&& 31))) 21 = I 21 ||| (1 <<< (nI (r i) &&& 31)) from if_pos rfl, uu] at fin2
    rw [zit, st, jX13_go125 D1 E1 (by omega) hc r2, jX13_go125 D2 E2 (by omega) hc r2]
    by_cases z1 : J 1 < zmgm B nf r i (I 21, p, m, A 23)
    · obtain ⟨h3, y1, y2, y3, y4⟩ := fin2
      refine ⟨h3, ?_, ?_, y3, zfr_tr f1 (zfr_tr f2 y4)⟩
      · rw [if_pos z1]
        exact y1
      · simp only [zmgo, if_pos z1]
        simp only [zmgo] at y2
        exact y2
    · by_cases z2 : J 0 ≤ zmht B c k (zmgm B nf r i (I 21, p, m, A 23))
      · obtain ⟨h3, y1, y2, y3, y4⟩ := fin1
        refine ⟨h3, ?_, ?_, y3, zfr_tr f1 y4⟩
        · rw [if_neg z1, if_pos z2]
          exact y1
        · simp only [zmgo, if_neg z1, if_pos z2]
          simp only [zmgo] at y2
          exact y2
      · obtain ⟨h3, y1, y2, y3, y4⟩ := fin2
        refine ⟨h3, ?_, ?_, y3, zfr_tr f1 (zfr_tr f2 y4)⟩
        · rw [if_neg z1, if_neg z2]
          exact y1
        · simp only [zmgo, if_neg z1, if_neg z2]
          simp only [zmgo] at y2
          exact y2
end NZMG
