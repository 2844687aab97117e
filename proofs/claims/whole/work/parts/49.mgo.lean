/-! the reference: a round gone, told as a function -/
section NZMGF
variable {d t : Nat} {h : nzH} {F0 : Nat → Value} {W : Int64} {rd : Option Nat} {tp : Nat → Int32} {J : Nat → Int32} {B : Nat → Nat → Int32} {Wd : Nat → Int64}
theorem kX13_go37 (E : zmd h t J B Wd) (ht : 94 ≤ t) (hd : 1 < d) {nf c k n : Nat} (hnf : nf ≤ 3) (e7 : J 7 = nI nf) (hc : c < 3) (hk : k < 3) (ek : B 26 c = nI k) (hn : n ≤ 6) (tea : Int32) {r : Nat → Nat} : ∀ (j i : Nat) (I : Nat → Int32) (A : Nat → Nat → Int32) (p m : Int32) (u : Option Value), i + j = n → I 20 = nI n → (∀ q, q < n → A 22 q = nI (r q) ∧ r q < 6) → nzr d nX13_goes 37 [some (.ref 73), some (.int (nI c)), some (.int tea), some (.int m), some (.int p), some (.int (nI i)), u] [] (zmS h F0 I W (some t) rd tp A) = some (none, zmS h F0 (upd I 21 (zit (zmgo J B nf c k tea r) i j (I 21, p, m, A 23)).1) W (some t) rd tp (va_up A 23 (zit (zmgo J B nf c k tea r) i j (I 21, p, m, A 23)).2.2.2)) := by
  intro j
  induction j with
  | zero =>
    intro i I A p m u hi en hr
    rw [eX13_goes_37, zI_20, Option.bind_some, en, if_pos (nI_le (by omega) (by omega)), zit]
    show _ = some (none, zmS h F0 (upd I 21 (I 21)) W (some t) rd tp (va_up A 23 (A 23)))
    rw [va_up_same, upd_id]
  | succ j ih =>
    intro i I A p m u hi en hr
    obtain ⟨r1, r2⟩ := hr i (by omega)
    have a22 : nzaI (zmS h F0 I W (some t) rd tp A) 77 (nI i) = some (nI (r i)) := (zA_22 (show i < 6 by omega)).trans (congrArg some r1)
    have a18 : ∀ I A, nzaI (zmS h F0 I W (some t) rd tp A) (t + (18 - 10)) (nI (r i)) = some (B 18 (r i)) := fun I A => zda E ht (k := 18) (by decide) (by decide) (by decide) (by decide) (by decide) r2
    have st : nzr d nX13_goes 37 [some (.ref 73), some (.int (nI c)), some (.int tea), some (.int m), some (.int p), some (.int (nI i)), u] [] (zmS h F0 I W (some t) rd tp A) = if J 1 < zmgm B nf r i (I 21, p, m, A 23) then nzr d nX13_goes 125 [some (.ref 73), some (.int (nI c)), some (.int tea), some (.int (zmgm B nf r i (I 21, p, m, A 23))), some (.int p), some (.int (nI i)), some (.int (nI (r i)))] [] (zmS h F0 (upd I 21 (I 21 ||| (1 <<< (nI (r i) &&& 31)))) W (some t) rd tp (va_up A 23 (upd (A 23) i (zmgm B nf r i (I 21, p, m, A 23))))) else if J 0 ≤ zmht B c k (zmgm B nf r i (I 21, p, m, A 23)) then nzr d nX13_goes 125 [some (.ref 73), some (.int (nI c)), some (.int tea), some (.int (zmgm B nf r i (I 21, p, m, A 23))), some (.int p), some (.int (nI i)), some (.int (nI (r i)))] [] (zmS h F0 I W (some t) rd tp (va_up A 23 (upd (A 23) i (zmgm B nf r i (I 21, p, m, A 23))))) else nzr d nX13_goes 125 [some (.ref 73), some (.int (nI c)), some (.int tea), some (.int (zmgm B nf r i (I 21, p, m, A 23))), some (.int p), some (.int (nI i)), some (.int (nI (r i)))] [] (zmS h F0 (upd I 21 (I 21 ||| (1 <<< (nI (r i) &&& 31)))) W (some t) rd tp (va_up A 23 (upd (A 23) i (zmgm B nf r i (I 21, p, m, A 23))))) := by
      rw [eX13_goes_37, zI_20, Option.bind_some, en, if_neg (nI_ge (by omega) (by omega)), zR_22, Option.bind_some, a22, Option.bind_some, zmS_T, Option.bind_some, Option.bind_some, zdr E ht (k := 18) (by decide) (by decide), Option.bind_some, a18, Option.bind_some, jX12_way (zmd_S E ht) (by omega) hnf e7, Option.bind_some, zR_23, Option.bind_some]
      rw [show m + zmway B nf p (B 18 (r i)) = zmgm B nf r i (I 21, p, m, A 23) from rfl, zW_23 (show i < 6 by omega), Option.bind_some, zmS_T, Option.bind_some, zj E ht (by decide), Option.bind_some, jX13_heatBy zmo_S (zmd_S E ht) (by omega) hc hk ek, Option.bind_some, zmS_T, Option.bind_some, zj E ht (by decide), Option.bind_some, eX13_goes_112, zI_21, Option.bind_some, zP_21, Option.bind_some]
      rfl
    have fin1 := ih (i + 1) I (va_up A 23 (upd (A 23) i (zmgm B nf r i (I 21, p, m, A 23)))) (B 18 (r i)) (zmgo J B nf c k tea r i (I 21, p, m, A 23)).2.2.1 (some (.int (nI (r i)))) (by omega) en (fun q hq => by rw [va_up_ne _ _ (by decide)]; exact hr q hq)
    have fin2 := ih (i + 1) (upd I 21 (I 21 ||| (1 <<< (nI (r i) &&& 31)))) (va_up A 23 (upd (A 23) i (zmgm B nf r i (I 21, p, m, A 23)))) (B 18 (r i)) (zmgo J B nf c k tea r i (I 21, p, m, A 23)).2.2.1 (some (.int (nI (r i)))) (by omega) en (fun q hq => by rw [va_up_ne _ _ (by decide)]; exact hr q hq)
    rw [va_up_up, va_up_self] at fin1 fin2
    rw [upd_eq, upd_upd] at fin2
    rw [zit, st, jX13_go125 zmo_S (zmd_S E ht) (by omega) hc r2, jX13_go125 zmo_S (zmd_S E ht) (by omega) hc r2]
    by_cases z1 : J 1 < zmgm B nf r i (I 21, p, m, A 23)
    · rw [if_pos z1]
      simp only [zmgo, if_pos z1]
      simp only [zmgo] at fin2
      exact fin2
    · by_cases z2 : J 0 ≤ zmht B c k (zmgm B nf r i (I 21, p, m, A 23))
      · rw [if_neg z1, if_pos z2]
        simp only [zmgo, if_neg z1, if_pos z2]
        simp only [zmgo] at fin1
        exact fin1
      · rw [if_neg z1, if_neg z2]
        simp only [zmgo, if_neg z1, if_neg z2]
        simp only [zmgo] at fin2
        exact fin2
theorem kX13_goes (E : zmd h t J B Wd) (ht : 94 ≤ t) (hd : 2 < d) {nf c k n : Nat} (hnf : nf ≤ 3) (e7 : J 7 = nI nf) (hc : c < 3) (hk : k < 3) (ek : B 26 c = nI k) (hn : n ≤ 6) (tea : Int32) {r : Nat → Nat} {I : Nat → Int32} {A : Nat → Nat → Int32} (en : I 20 = nI n) (hr : ∀ q, q < n → A 22 q = nI (r q) ∧ r q < 6) : nzxV d nX13_goes [.ref 73, .int (nI c), .int tea] (zmS h F0 I W (some t) rd tp A) = some (zmS h F0 (upd I 21 (zmgR J B nf c k tea r n (A 23)).1) W (some t) rd tp (va_up A 23 (zmgR J B nf c k tea r n (A 23)).2.2.2)) := by
  have a26 : ∀ I A, nzaI (zmS h F0 I W (some t) rd tp A) (t + (26 - 10)) (nI c) = some (nI k) := fun I A => (zda E ht (k := 26) (by decide) (by decide) (by decide) (by decide) (by decide) hc).trans (congrArg some ek)
  have w := kX13_go37 (F0 := F0) (W := W) (rd := rd) (tp := tp) (d := d - 1) E ht (by omega) hnf e7 hc hk ek hn tea n 0 (upd I 21 0) A (B 11 k) (B 27 c) none (by omega) en hr
  rw [upd_eq, upd_upd] at w
  refine iX13_goes (by omega) zmS_o ?_
  simp only [eX13_goes_0, zmS_T, Option.bind_some, zdr E ht (k := 27) (by decide) (by decide), zdr E ht (k := 26) (by decide) (by decide), zdr E ht (k := 11) (by decide) (by decide), a26, zda E ht (k := 27) (i := c) (by decide) (by decide) (by decide) (by decide) (by decide) hc, zda E ht (k := 11) (i := k) (by decide) (by decide) (by decide) (by decide) (by decide) hk, zP_21]
  exact w
def zmrw (A : Nat → Nat → Int32) (r : Nat → Nat) (n : Nat) : Nat → Int32 := fun q => if q < n then nI (r q) else A 22 q
theorem kX13_gad12 (E : zmd h t J B Wd) (ht : 94 ≤ t) (hd : 2 < d) {nf c k : Nat} (hnf : nf ≤ 3) (e7 : J 7 = nI nf) (hc : c < 3) (hk : k < 3) (ek : B 26 c = nI k) (tea : Int32) {N : Nat → Nat} {R : Nat → Nat → Nat} {I : Nat → Int32} : ∀ (j i : Nat) (A : Nat → Nat → Int32), i + j = N c → I 20 = nI (N c) → zmrr A N R → (∀ q, q < i → A 22 q = nI (R c q)) → nzr d nX13_goesAsDriven 12 [some (.ref 73), some (.int (nI c)), some (.int tea), some (.int (nI i))] [] (zmS h F0 I W (some t) rd tp A) = some (none, zmS h F0 (upd I 21 (zmgR J B nf c k tea (R c) (N c) (A 23)).1) W (some t) rd tp (va_up (va_up A 22 (zmrw A (R c) (N c))) 23 (zmgR J B nf c k tea (R c) (N c) (A 23)).2.2.2)) := by
  intro j
  induction j with
  | zero =>
    intro i A hi en M hp
    obtain ⟨m1, m2, m3⟩ := M c hc
    rw [eX13_goesAsDriven_12, zI_20, Option.bind_some, en, if_pos (nI_le (by omega) (by omega)), kX13_goes E ht hd hnf e7 hc hk ek m2 tea (r := R c) en (fun q hq => ⟨hp q (by omega), (m3 q hq).2⟩), Option.bind_some]
    have : zmrw A (R c) (N c) = A 22 := by
      funext q
      rw [zmrw]
      split
      · exact (hp q (by omega)).symm
      · rfl
    rw [this, va_up_same]
  | succ j ih =>
    intro i A hi en M hp
    obtain ⟨m1, m2, m3⟩ := M c hc
    have a18 : nzaI (zmS h F0 I W (some t) rd tp A) 76 (nI (6 * c + i)) = some (nI (R c i)) := (zA_18 (show 6 * c + i < 18 by omega)).trans (congrArg some (m3 i (by omega)).1)
    have w := ih (i + 1) (va_up A 22 (upd (A 22) i (nI (R c i)))) (by omega) en (fun q hq => by
      have := M q hq
      rw [va_up_ne _ _ (by decide), va_up_ne _ _ (by decide)]
      exact this) (fun q hq => by
      rw [va_up_self]
      by_cases z : q = i
      · rw [z, upd_eq]
      · rw [upd_ne z]
        exact hp q (by omega))
    have e : zmrw (va_up A 22 (upd (A 22) i (nI (R c i)))) (R c) (N c) = zmrw A (R c) (N c) := by
      funext q
      simp only [zmrw, va_up_self]
      split
      · rfl
      · rw [upd_ne (by omega)]
    rw [va_up_up, va_up_ne _ _ (show 23 ≠ 22 by decide), e] at w
    rw [eX13_goesAsDriven_12, zI_20, Option.bind_some, en, if_neg (nI_ge (by omega) (by omega)), zR_22, Option.bind_some, zR_18, Option.bind_some, show 6 * nI c + nI i = nI (6 * c + i) by rw [show (6 : Int32) = nI 6 from rfl, pk_mul, nI_add], a18, Option.bind_some, zW_22 (show i < 6 by omega), Option.bind_some, nI_1]
    exact w
theorem kX13_goesAsDriven (E : zmd h t J B Wd) (ht : 94 ≤ t) (hd : 3 < d) {nf c k : Nat} (hnf : nf ≤ 3) (e7 : J 7 = nI nf) (hc : c < 3) (hk : k < 3) (ek : B 26 c = nI k) (tea : Int32) {N : Nat → Nat} {R : Nat → Nat → Nat} {I : Nat → Int32} {A : Nat → Nat → Int32} (M : zmrr A N R) : nzxV d nX13_goesAsDriven [.ref 73, .int (nI c), .int tea] (zmS h F0 I W (some t) rd tp A) = some (zmS h F0 (upd (upd I 20 (nI (N c))) 21 (zmgR J B nf c k tea (R c) (N c) (A 23)).1) W (some t) rd tp (va_up (va_up A 22 (zmrw A (R c) (N c))) 23 (zmgR J B nf c k tea (R c) (N c) (A 23)).2.2.2)) := by
  have a17 : nzaI (zmS h F0 I W (some t) rd tp A) 75 (nI c) = some (nI (N c)) := (zA_17 hc).trans (congrArg some (M c hc).1)
  have w := kX13_gad12 (F0 := F0) (W := W) (rd := rd) (tp := tp) (d := d - 1) E ht (by omega) hnf e7 hc hk ek tea (N c) 0 A (by omega) (upd_eq I 20 (nI (N c))) M (fun q hq => by omega)
  refine iX13_goesAsDriven (by omega) zmS_o ?_
  rw [eX13_goesAsDriven_0, zR_17, Option.bind_some, a17, Option.bind_some, zP_20, Option.bind_some]
  exact w
/-- which place in the row a house has -/
theorem kX13_ct2 {I : Nat → Int32} {A : Nat → Nat → Int32} {n p : Nat} (hn : n ≤ 6) {r : Nat → Nat} (hr : ∀ q, q < n → A 22 q = nI (r q) ∧ r q < 6) (hp : p < n) (hu : ∀ q, q < p → r q ≠ r p) : ∀ (j i : Nat), i + j = p → nzr d nX13_comesTo 2 [some (.ref 73), some (.int (nI (r p))), some (.int (nI i))] [] (zmS h F0 I W (some t) rd tp A) = some (some (.int (A 23 p)), zmS h F0 I W (some t) rd tp A) := by
  intro j
  induction j with
  | zero =>
    intro i hi
    obtain rfl : i = p := by omega
    rw [eX13_comesTo_2, zR_22, Option.bind_some, zA_22 (show i < 6 by omega), Option.bind_some, (hr i hp).1, if_pos rfl, zR_23, Option.bind_some, zA_23 (show i < 6 by omega), Option.bind_some]
  | succ j ih =>
    intro i hi
    have h1 := hr i (by omega)
    have h2 := hr p hp
    rw [eX13_comesTo_2, zR_22, Option.bind_some, zA_22 (show i < 6 by omega), Option.bind_some, h1.1, if_neg (fun z => hu i (by omega) ((nI_eq (by omega) (by omega)).mp z)), nI_1]
    exact ih (i + 1) (by omega)
theorem kX13_comesTo (hd : 0 < d) {I : Nat → Int32} {A : Nat → Nat → Int32} {n p : Nat} (hn : n ≤ 6) {r : Nat → Nat} (hr : ∀ q, q < n → A 22 q = nI (r q) ∧ r q < 6) (hp : p < n) (hu : ∀ q, q < p → r q ≠ r p) : nzxI d nX13_comesTo [.ref 73, .int (nI (r p))] (zmS h F0 I W (some t) rd tp A) = some (A 23 p, zmS h F0 I W (some t) rd tp A) := by
  refine iX13_comesTo hd zmS_o ?_
  rw [eX13_comesTo_0]
  exact kX13_ct2 hn hr hp hu p 0 (by omega)
end NZMGF
