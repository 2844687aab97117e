/-! the reference's calls that succeed -/
section NZMK
variable {d t : Nat} {h : nzH} {F0 : Nat → Value} {I : Nat → Int32} {W : Int64} {td rd : Option Nat} {tp : Nat → Int32} {A : Nat → Nat → Int32} {J : Nat → Int32} {B : Nat → Nat → Int32} {Wd : Nat → Int64} {N : Nat → Nat} {R : Nat → Nat → Nat}
theorem mX_trouble (hd : 20 < d) : nzxI d nX13_trouble [.ref 73] (zmS h F0 I W td rd tp A) = some (I 1, zmS h F0 (upd I 0 0) W td rd tp A) := by
  refine iX13_trouble (by omega) zmS_o ?_
  rw [eX13_trouble_0, zP_0, Option.bind_some, zI_1, Option.bind_some, upd_ne (show 1 ≠ 0 by decide)]
theorem mX_fault (hd : 20 < d) : nzxI d nX13_fault [.ref 73] (zmS h F0 I W td rd tp A) = some (I 13, zmS h F0 (upd I 0 0) W td rd tp A) := by
  refine iX13_fault (by omega) zmS_o ?_
  rw [eX13_fault_0, zP_0, Option.bind_some, zI_13, Option.bind_some, upd_ne (show 13 ≠ 0 by decide)]
theorem mX_where (hd : 20 < d) : nzxI d nX13_where [.ref 73] (zmS h F0 I W td rd tp A) = some (I 2, zmS h F0 (upd I 0 0) W td rd tp A) := by
  refine iX13_where (by omega) zmS_o ?_
  rw [eX13_where_0, zP_0, Option.bind_some, zI_2, Option.bind_some, upd_ne (show 2 ≠ 0 by decide)]
theorem mX_forAll (E : zmd h t J B Wd) (ht : 94 ≤ t) (hd : 20 < d) {nh nd : Nat} {e : Nat → Nat} (hn : nh ≤ 6) (en : J 5 = nI nh) (hnd : nd ≤ 6) (end_ : J 3 = nI nd) (hE : ∀ i, i < nh → B 19 i = nI (e i) ∧ e i < 4) : nzxI d nX13_forAll [.ref 73] (zmS h F0 I W (some t) rd tp A) = some (zit (zfoS B e nh) 0 nd 0, zmS h F0 (upd (upd (upd I 0 0) 1 0) 2 (-1)) W (some t) rd tp A) := by
  refine iX13_forAll (by omega) zmS_o ?_
  rw [eX13_forAll_0, zP_0, Option.bind_some, zmS_N, Option.bind_some, if_neg (show ¬ some t = none from fun z => by cases z)]
  exact kX13_fo22 E ht (by omega) hn en hnd end_ hE nd 0 0 none none (by omega)
theorem mX_firstCold (E : zmd h t J B Wd) (ht : 94 ≤ t) (hd : 20 < d) {n : Nat} (hn : n ≤ 16) (en : I 42 = nI n) : nzxI d nX13_firstCold [.ref 73] (zmS h F0 I W (some t) rd tp A) = some (zob2 (zit (zfcB (A 44) (A 45) (J 0)) 0 n none), zmS h F0 (upd (upd (upd I 0 0) 1 0) 2 (-1)) W (some t) rd tp A) := by
  refine iX13_firstCold (by omega) zmS_o ?_
  rw [eX13_firstCold_0, zP_0, Option.bind_some, zmS_N, Option.bind_some, if_neg (show ¬ some t = none from fun z => by cases z)]
  exact kX13_fc23 E ht (by omega) hn ((upd_ne (by decide)).trans en) n 0 none (by omega) (fun v ev => by cases ev)
theorem mX_faulty (E : zmd h t J B Wd) (ht : 94 ≤ t) (hd : 20 < d) {n : Nat} {K : Nat → Nat} (hn : n ≤ 16) (en : I 42 = nI n) (hC : ∀ i, i < n → ∃ c, c < 3 ∧ A 43 i = nI c ∧ K c < 3 ∧ B 26 c = nI (K c)) (x : Int32) (z : ¬ zwn x 0 99 = 0) : nzxI d nX13_faulty [.ref 73, .int x] (zmS h F0 I W (some t) rd tp A) = some (zit (zfyS B K (A 43) (A 44) (A 45) x) 0 n 0, zmS h F0 (upd (upd (upd I 0 0) 1 0) 2 (-1)) W (some t) rd tp A) := by
  refine iX13_faulty (by omega) zmS_o ?_
  rw [eX13_faulty_0, zP_0, Option.bind_some, zmS_N, Option.bind_some, if_neg (show ¬ some t = none from fun z => by cases z), jX13_in (by omega), Option.bind_some, ← zwn, if_neg z]
  exact kX13_fy38 E ht (by omega) hn ((upd_ne (by decide)).trans en) hC x n 0 0 none (by omega)
theorem mX_recall (E : zmd h t J B Wd) (ht : 94 ≤ t) (hd : 20 < d) (M : zmrr A N R) (x : Int32) (z1 : ¬ x < 0) (z2 : x < J 2) {m : Nat} (hm : m ≤ 3) (em : J 6 = nI m) : nzxI d nX13_recall [.ref 73, .int x] (zmS h F0 I W (some t) rd tp A) = some (zit (zreC B N R x) 0 m 0, zmS h F0 (upd (upd (upd I 0 0) 1 0) 2 (-1)) W (some t) rd tp A) := by
  refine iX13_recall (by omega) zmS_o ?_
  rw [eX13_recall_0, zP_0, Option.bind_some, zmS_N, Option.bind_some, if_neg (show ¬ some t = none from fun z => by cases z), if_neg z1, zmS_T, Option.bind_some, zj E ht (k := 2) (by decide), Option.bind_some, if_pos z2]
  exact kX13_re37 E ht (by omega) M x hm em m 0 0 none (by omega)
theorem mX_odds (E : zmd h t J B Wd) (ht : 94 ≤ t) (hd : 20 < d) {nf c k : Nat} (hnf : nf ≤ 3) (e7 : J 7 = nI nf) (hc : c < 3) (hk : k < 3) (ek : B 26 c = nI k) (M : zmrr A N R) (z : ¬ zmh (J 6) (nI c) = 0) : ∃ I' A', nzxL d nX13_odds [.ref 73, .int (nI c)] (zmS h F0 I W (some t) rd tp A) = some (zit (zooS J B nf c k (N c) (R c)) 0 (2 ^ N c) 0, zmS h F0 I' W (some t) rd tp A') ∧ (∀ a, a ≠ 0 → a ≠ 1 → a ≠ 2 → a ≠ 20 → a ≠ 21 → I' a = I a) ∧ I' 1 = 0 ∧ I' 2 = -1 ∧ (∀ a, a ≠ 22 → a ≠ 23 → A' a = A a) := by
  obtain ⟨I', A', q1, q2, q3, q4, q5⟩ := kX13_od25 (d := d - 1) (F0 := F0) (W := W) (rd := rd) (tp := tp) E ht (by omega) hnf e7 hc hk ek (2 ^ N c) 0 0 (upd I 0 0) A none none none none M (by omega)
  refine ⟨I', A', iX13_odds (by omega) zmS_o ?_, fun a a0 a1 a2 a3 a4 => (q2 a a1 a2 a3 a4).trans (upd_ne a0), q3, q4, q5⟩
  rw [eX13_odds_0, zP_0, Option.bind_some, jX13_isCar zmo_S (zmd_S E ht) (by omega), Option.bind_some, ← zmh, if_neg z]
  exact q1
theorem mX_fill (E : zmd h t J B Wd) (ht : 94 ≤ t) (hd : 20 < d) {hn : Nat} {M : Nat → Nat} (hh : hn ≤ 5) (en : J 9 = nI hn) (hM : ∀ q, q < hn → B 33 q = nI (M q) ∧ M q ≤ 7) : ∃ w, nzxI d nX13_fill [.ref 73] (zmS h F0 I W (some t) rd tp A) = some (zob (zit (zfiS hn (zwW B) M) 0 ((hn + 1) ^ 7) (none, 0)).1 / 8, zmS h F0 (upd (upd (upd (upd I 0 0) 37 1) 1 0) 2 (-1)) W (some t) rd tp (va_up (va_up A 39 w) 38 (zit (fun e f => upd f e (zfiV hn (zwd hn (zit (zfiS hn (zwW B) M) 0 ((hn + 1) ^ 7) (none, 0)).2 e))) 0 7 (A 38)))) := by
  obtain ⟨w, q⟩ := kX13_fi0 (d := d - 1) (F0 := F0) (I := upd I 0 0) (W := W) (rd := rd) (tp := tp) E ht (by omega) hh en hM A
  refine ⟨w, iX13_fill (by omega) zmS_o ?_⟩
  rw [eX13_fill_0, zP_0, Option.bind_some, zmS_N, Option.bind_some, if_neg (show ¬ some t = none from fun z => by cases z)]
  exact q
theorem mX_asTold (E : zmd h t J B Wd) (ht : 94 ≤ t) (hd : 20 < d) {n : Nat} (hn : n ≤ 5) (en : J 8 = nI n) (z : ¬ J 8 = 0) : ∃ w, nzxL d nX13_asTold [.ref 73] (zmS h F0 I W (some t) rd tp A) = some (zexR B (fun q => q) n, zmS h F0 (upd (upd (upd I 0 0) 1 0) 2 (-1)) W (some t) rd tp (va_up A 35 w)) := by
  obtain ⟨w, q⟩ := kX13_at39 (d := d - 1) (F0 := F0) (I := upd I 0 0) (W := W) (rd := rd) (tp := tp) E ht (by omega) hn en n 0 A (by omega) (fun q hq => by omega)
  refine ⟨w, iX13_asTold (by omega) zmS_o ?_⟩
  rw [eX13_asTold_0, zP_0, Option.bind_some, zmS_N, Option.bind_some, if_neg (show ¬ some t = none from fun z => by cases z), zmS_T, Option.bind_some, zj E ht (k := 8) (by decide), Option.bind_some, if_neg z]
  exact q
theorem mX_knock (E : zmd h t J B Wd) (ht : 94 ≤ t) (hd : 20 < d) {n : Nat} (hn : n ≤ 5) (n0 : 0 < n) (en : J 8 = nI n) (z : ¬ J 8 = 0) : ∃ I' A', nzxL d nX13_knock [.ref 73] (zmS h F0 I W (some t) rd tp A) = some ((zit (zkS B n) 0 (zfac n) (-1, A 36)).1, zmS h F0 I' W (some t) rd tp A') ∧ (∀ a, a ≠ 0 → a ≠ 1 → a ≠ 2 → a ≠ 20 → a ≠ 34 → I' a = I a) ∧ I' 1 = 0 ∧ I' 2 = -1 ∧ I' 34 = nI n ∧ (∀ a, a ≠ 22 → a ≠ 35 → a ≠ 36 → A' a = A a) ∧ A' 36 = (zit (zkS B n) 0 (zfac n) (-1, A 36)).2 := by
  obtain ⟨I', A', q1, q2, q3, q4, q5, q6, q7⟩ := kX13_kn43 (d := d - 1) (F0 := F0) (W := W) (rd := rd) (tp := tp) E ht (by omega) hn n0 en (zfac n) 0 (-1, A 36) (upd I 0 0) A none none (by omega) rfl
  refine ⟨I', A', iX13_knock (by omega) zmS_o ?_, fun a a0 a1 a2 a3 a4 => (q2 a a1 a2 a3 a4).trans (upd_ne a0), q3, q4, q5, q6, q7⟩
  rw [eX13_knock_0, zP_0, Option.bind_some, zmS_N, Option.bind_some, if_neg (show ¬ some t = none from fun z => by cases z), zmS_T, Option.bind_some, zj E ht (k := 8) (by decide), Option.bind_some, if_neg z]
  exact q1
end NZMK
