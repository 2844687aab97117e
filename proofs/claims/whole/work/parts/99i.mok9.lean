/-! dropped and size (reference) -/
theorem zprs_sm {pr : Nat → Option Nat} {p : Nat → Nat} : ∀ (j i a : Nat), (∀ x, i ≤ x → x < i + j → pr x = some (p x)) → ∃ T, zprs pr i j = some T ∧ zit (zsmS p 0) i j a = a + T := by
  intro j
  induction j with
  | zero => intro i a _; exact ⟨0, rfl, rfl⟩
  | succ j ih =>
    intro i a h
    obtain ⟨T, t1, t2⟩ := ih (i + 1) (a + p i) (fun x h1 h2 => h x (by omega) (by omega))
    refine ⟨p i + T, ?_, ?_⟩
    · rw [zprs, h i (by omega) (by omega), t1]
    · rw [zit, zsmS, Nat.zero_div, if_neg (by decide), t2, Nat.add_assoc]
section NZMK9
variable {d t : Nat} {h : nzH} {F0 : Nat → Value} {I : Nat → Int32} {W : Int64} {td rd : Option Nat} {tp : Nat → Int32} {A : Nat → Nat → Int32} {J : Nat → Int32} {B : Nat → Nat → Int32} {Wd : Nat → Int64}
theorem mX_dropped (E : zmd h t J B Wd) (ht : 94 ≤ t) (hd : 20 < d) {nd nh m coin : Nat} {cost need e p : Nat → Nat} (hnd : nd ≤ 6) (end_ : J 3 = nI nd) (hn : nh ≤ 6) (en : J 5 = nI nh) (hm : m ≤ 14) (m0 : 0 < m) (hcoin : coin < 100000) (hc : ∀ i, i < nd → B 14 i = nI (cost i) ∧ cost i ≤ 99) (hN : ∀ i, i < nh → B 23 i = nI (need i) ∧ need i ≤ 9) (hE : ∀ i, i < nh → B 19 i = nI (e i) ∧ e i < 4) (hp : ∀ i, i < nh → zomin nd (zor nd (zdok B (e i)) cost m) none = some (p i)) (z1 : ¬ zwn (nI m) 1 14 = 0) (z2 : ¬ zwn (nI coin) 0 99999 = 0) : ∃ w, nzxI d nX13_dropped [.ref 73, .int (nI coin), .int (nI m)] (zmS h F0 I W (some t) rd tp A) = some (nI (zdrN p need nh coin 6 0), zmS h F0 (upd (upd (upd I 0 0) 1 0) 2 (-1)) W (some t) rd tp (va_up A 31 w)) := by
  obtain ⟨T, t1, t2⟩ := zprs_sm (pr := fun i => zomin nd (zor nd (zdok B (e i)) cost m) none) (p := p) nh 0 0 (fun x _ hx => hp x (by omega))
  obtain ⟨w, q⟩ := kX13_d50 (d := d - 1) (F0 := F0) (I := upd I 0 0) (W := W) (rd := rd) (tp := tp) E ht (by omega) hnd end_ hn en hm m0 hc hE (nI coin) nh 0 0 A none (by omega)
  rw [t1] at q
  obtain ⟨w5, q⟩ := q
  obtain ⟨w', r⟩ := kX13_d106 (d := d - 1) (F0 := F0) (I := upd I 0 0) (W := W) (rd := rd) (tp := tp) E ht (by omega) hnd end_ hn en hm m0 hcoin hc hN hE hp 6 0 (va_up A 31 w) w5 none (Nat.pow_pos (by decide)) (by decide)
  rw [zsmN, t2] at r
  refine ⟨w', iX13_dropped (by omega) zmS_o ?_⟩
  rw [eX13_dropped_0, zP_0, Option.bind_some, zmS_N, Option.bind_some, if_neg (show ¬ some t = none from fun z => by cases z), jX13_in (by omega), Option.bind_some, ← zwn, if_neg z1, jX13_in (by omega), Option.bind_some, ← zwn, if_neg z2]
  rw [va_up_up] at r
  exact q.trans r
theorem mX_size_10 (hd : 20 < d) : nzxI d nX13_size [.ref 73, .int 10] (zmS h F0 I W td rd tp A) = some (I 6, zmS h F0 (upd I 0 0) W td rd tp A) := by
  refine iX13_size (by omega) zmS_o ?_
  rw [eX13_size_0, zP_0, Option.bind_some, if_pos rfl, zI_6, Option.bind_some, upd_ne (show 6 ≠ 0 by decide)]
theorem mX_size_no (hd : 20 < d) (x : Int32) (z : ¬ x = 10) (z2 : zwn x 0 9 = 0) : nzxI d nX13_size [.ref 73, .int x] (zmS h F0 I W td rd tp A) = some (-1, zmS h F0 (upd I 0 0) W td rd tp A) := by
  refine iX13_size (by omega) zmS_o ?_
  rw [eX13_size_0, zP_0, Option.bind_some, if_neg z, jX13_in (by omega), Option.bind_some, ← zwn, if_pos z2]
theorem mX_size_n (hd : 20 < d) (x : Int32) (z : ¬ x = 10) (z2 : ¬ zwn x 0 9 = 0) : nzxI d nX13_size [.ref 73, .int x] (zmS h F0 I W none rd tp A) = some (0, zmS h F0 (upd I 0 0) W none rd tp A) := by
  refine iX13_size (by omega) zmS_o ?_
  rw [eX13_size_0, zP_0, Option.bind_some, if_neg z, jX13_in (by omega), Option.bind_some, ← zwn, if_neg z2, zmS_N0, Option.bind_some, if_pos rfl]
end NZMK9
