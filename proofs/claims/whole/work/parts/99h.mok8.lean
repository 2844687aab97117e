/-! dropped (reference); share's entries (class) -/
section NZMK8
variable {d t : Nat} {h : nzH} {F0 : Nat → Value} {I : Nat → Int32} {W : Int64} {td rd : Option Nat} {tp : Nat → Int32} {A : Nat → Nat → Int32} {J : Nat → Int32} {B : Nat → Nat → Int32} {Wd : Nat → Int64}
theorem mX_dropped_6 (E : zmd h t J B Wd) (ht : 94 ≤ t) (hd : 20 < d) {nd nh m : Nat} {cost e : Nat → Nat} (hnd : nd ≤ 6) (end_ : J 3 = nI nd) (hn : nh ≤ 6) (en : J 5 = nI nh) (hm : m ≤ 14) (m0 : 0 < m) (hc : ∀ i, i < nd → B 14 i = nI (cost i) ∧ cost i ≤ 99) (hE : ∀ i, i < nh → B 19 i = nI (e i) ∧ e i < 4) (x : Int32) (z1 : ¬ zwn (nI m) 1 14 = 0) (z2 : ¬ zwn x 0 99999 = 0) (z3 : zprs (fun i => zomin nd (zor nd (zdok B (e i)) cost m) none) 0 nh = none) : ∃ w, nzxI d nX13_dropped [.ref 73, .int x, .int (nI m)] (zmS h F0 I W (some t) rd tp A) = some (-1, zmS h F0 (upd (upd (upd I 0 0) 1 6) 2 (-1)) W (some t) rd tp (va_up A 31 w)) := by
  obtain ⟨w, q⟩ := kX13_d50 (d := d - 1) (F0 := F0) (I := upd I 0 0) (W := W) (rd := rd) (tp := tp) E ht (by omega) hnd end_ hn en hm m0 hc hE x nh 0 0 A none (by omega)
  rw [z3] at q
  refine ⟨w, iX13_dropped (by omega) zmS_o ?_⟩
  rw [eX13_dropped_0, zP_0, Option.bind_some, zmS_N, Option.bind_some, if_neg (show ¬ some t = none from fun z => by cases z), jX13_in (by omega), Option.bind_some, ← zwn, if_neg z1, jX13_in (by omega), Option.bind_some, ← zwn, if_neg z2]
  exact q
end NZMK8
section NZKS
variable {d : Nat} {h : nzH} {t : Nat} {tr : Int32} {c g : Nat → Int32} {nf n : Nat} {Wt Pk : Nat → Nat → Int32} {O : Nat → Int32} {kn : Int32} {Hf : Nat → Nat} {ss : zss} {sd : Int32}
theorem zX_share_no (K : zK h t tr) (E : zday h t c g) (hd : 20 < d) (z : zrow c 3 = 0) : nzxI d nX11_share [.ref 0] h = some (-1, zp0 h 1) := by
  refine iX11_share (by omega) K.choose_spec.1 ?_
  rw [eX11_share_0, jX11_noDay K E (by omega), Option.bind_some, if_pos z, if_neg (show ¬ (1 : Int32) = 0 by decide), jX11_refuse K (by omega), Option.bind_some]
theorem zX_share_ok (K : zK h t tr) (E : zday h t c g) (G : zord h Wt Pk O kn) (Sh : zsha h ss sd) (Z : zkn c g nf n Hf kn Wt Pk) (ht : t = 7 ∨ t = 70) (hd : 20 < d) (z : ¬ zrow c 3 = 0) (hnf : nf ≤ 6) (e5 : c 5 = nI nf) (hn : n ≤ 6) (en : c 3 = nI n) {m : Nat} (hm : m ≤ 3) (em : c 4 = nI m) (hH : ∀ k, k < m → Hf k ≤ 6 ∧ zget c g 4 (nI k) 2 = nI (Hf k)) : ∃ h1 Wt' Pk' O' kn', (if (zgiv c g Wt' m n 0 (fun _ => 0, ss.2.1, ss.2.2.1, 1000000000)).2.2.2 = 1000000000 then nzxI d nX11_share [.ref 0] h = some (-1, zp0 h1 6) else nzxI d nX11_share [.ref 0] h = some ((zgiv c g Wt' m n 0 (fun _ => 0, ss.2.1, ss.2.2.1, 1000000000)).2.2.2 / 10000, zp0 h1 0)) ∧ zK h1 t tr ∧ zord h1 Wt' Pk' O' kn' ∧ zkn c g nf n Hf kn' Wt' Pk' ∧ (∀ k, k < m → ∃ O w p, Wt' k = (zolr c g nf n k (Hf k) O w p).2.1) ∧ zsha h1 (zgiv c g Wt' m n 0 (fun _ => 0, ss.2.1, ss.2.2.1, 1000000000)) (if (zgiv c g Wt' m n 0 (fun _ => 0, ss.2.1, ss.2.2.1, 1000000000)).2.2.2 = 1000000000 then sd else nI n) ∧ zfr 17 31 h h1 := by
  obtain ⟨h1, W', P', O', kn', q1, q2⟩ := zX_sh15 (d := d - 1) ht (by omega) hnf e5 hn en hm em hH m 0 h Wt Pk O kn (by omega) K E G Sh Z (fun k hk => by omega)
  have e0 : nzr (d - 1) nX11_share 0 [some (.ref 0), none] [] h = nzr (d - 1) nX11_share 15 [some (.ref 0), some (.int (nI 0))] [] h := by
    rw [eX11_share_0, jX11_noDay K E (by omega), Option.bind_some, if_neg z, if_pos rfl]
    rfl
  refine ⟨h1, W', P', O', kn', ?_, q2⟩
  by_cases y : (zgiv c g W' m n 0 (fun _ => 0, ss.2.1, ss.2.2.1, 1000000000)).2.2.2 = 1000000000
  · rw [if_pos y] at q1 ⊢
    exact iX11_share (by omega) K.choose_spec.1 (e0.trans q1)
  · rw [if_neg y] at q1 ⊢
    exact iX11_share (by omega) K.choose_spec.1 (e0.trans q1)
end NZKS
