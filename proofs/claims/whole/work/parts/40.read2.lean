/-! the reader's entry; the tape fed -/
section NZB2
variable {d t : Nat} {h : nzH} {tp : Nat → Int32} {hl L : Nat} {S : zrs}
/-- the state in which the reading of m bytes begins -/
def zrs0 (tp : Nat → Int32) (m : Nat) (S : zrs) : zrs := (ztok tp m 0 S.1.2.2.2, (S.2.1.1, 0, -1), (0, S.2.2.1.2), ((fun i => if i < 9 then 0 else S.2.2.2.1 i), (fun i => if i < 378 then 0 else S.2.2.2.2 i)))
theorem jX1_read (D : zrd h t tp hl L S) (hd : 9 < d) {m : Nat} (hm : m ≤ hl) : ∃ h1, nzxI d nX1_read [.ref 1, .int (nI m)] h = some (if (zpRd tp m 901 (zrs0 tp m S)).1 then 1 else 0, h1) ∧ zrd h1 t tp hl m (zpRd tp m 901 (zrs0 tp m S)).2 ∧ zrfr t h h1 := by
  have g := zrd_kind D
  obtain ⟨⟨F, o, e0, e1, e2, e3, e4, e5, e6, e7, e8⟩, ⟨⟨F2, o2, T⟩, b, hh, q2, q3, q4⟩, ⟨n1, n2, n3, n4⟩, E, ht⟩ := D
  obtain ⟨h2, c1, c2, c3⟩ := jX0_clear (d := d - 1) E (by omega)
  have p1 : zobj h2 1 1 F := (c3.2.2.2 1 (by omega)).trans o
  have p2 : zobj (nzset h2 1 (.inr (1, va_up F 5 (.int 0)))) 1 1 _ := zc_setS _ _ _
  have p3 : zobj (nzset h2 1 (.inr (1, va_up (va_up F 5 (.int 0)) 7 (.int 0)))) 1 1 _ := zc_setS _ _ _
  have p4 : zobj (nzset h2 1 (.inr (1, va_up (va_up (va_up F 5 (.int 0)) 7 (.int 0)) 8 (.int (-1))))) 1 1 _ := zc_setS _ _ _
  have p5 : zobj (nzset h2 1 (.inr (1, va_up (va_up (va_up F 5 (.int 0)) 7 (.int 0)) 8 (.int (-1))))) 2 9 F2 := (zc_setN (by decide)).trans ((c3.2.2.2 2 (by omega)).trans o2)
  have p6 : zbyt (nzset h2 1 (.inr (1, va_up (va_up (va_up F 5 (.int 0)) 7 (.int 0)) 8 (.int (-1))))) 3 900 tp := (zc_setN (by decide)).trans ((c3.2.2.2 3 (by omega)).trans b)
  obtain ⟨F', w1, w2, w3, w4⟩ := jX9_open (d := d - 1) (by omega) hh hm p5 p6 T
  have D2 : zrd (nzset (nzset h2 1 (.inr (1, va_up (va_up (va_up F 5 (.int 0)) 7 (.int 0)) 8 (.int (-1))))) 2 (.inr (9, F'))) t tp hl m (zrs0 tp m S) := by
    refine ⟨⟨_, (zc_setN (by decide)).trans (zc_setS _ _ _), by simp [va_up, e0], by simp [va_up, e1], by simp [va_up, e2], by simp [va_up, e3], by simp [va_up, e4], by simp [va_up, zrs0, nI_0], by simp [va_up, zrs0, e6], by simp [va_up, zrs0], by simp [va_up, zrs0]⟩, ⟨⟨F', zc_setS _ _ _, w2⟩, (zc_setN (by decide)).trans p6, hh, by omega, w3, w4⟩, ⟨(zc_setN (by decide)).trans ((zc_setN (by decide)).trans ((c3.2.2.2 4 (by omega)).trans n1)), (zc_setN (by decide)).trans ((zc_setN (by decide)).trans ((c3.2.2.2 5 (by omega)).trans n2)), (zc_setN (by decide)).trans ((zc_setN (by decide)).trans ((c3.2.2.2 6 (by omega)).trans n3)), Nat.zero_le _⟩, zday_sm (zday_sm c2 (zsm_set _ _ (by omega))) (zsm_set _ _ (by omega)), ht⟩
  obtain ⟨h3, y1, y2, y3⟩ := jX1_read32 (d := d - 1) (by omega) (nI m) 901 0 _ _ (by omega) D2
  refine ⟨h3, iX1_read (by omega) o ?_, y2, zrfr_tr (zrfr_tr (zrfr_tr (zrfr_fr c3) (zrfr_set _ _ (.inl (by decide)))) (zrfr_set _ _ (.inl (by decide)))) y3⟩
  rw [nI_0] at y1
  rw [eX1_read_0, zg_R o e4, Option.bind_some, c1, Option.bind_some, zp_of p1, Option.bind_some, zp_of p2, Option.bind_some, nzset_set, zp_of p3, Option.bind_some, nzset_set, zg_R p4 (v := 2) (by simp [va_up, e0]), Option.bind_some, w1, Option.bind_some]
  exact y1
/-- four bytes fed: (held, tape) -/
def zfed (x : Int32) (sh : Nat) (s : Nat × (Nat → Int32)) : Nat × (Nat → Int32) := if s.1 < 900 then (s.1 + 1, upd s.2 s.1 (vp_nar .byte (x >>> (nI sh &&& 31)).toInt8.toInt32)) else s
variable {kd : Int32} {pl en : Nat} {pk : Int64} {le va : Int32}
theorem jX9_ap3 (x : Int32) : ∀ (j : Nat) (h : nzH) (F : Nat → Value) (hl : Nat) (tp : Nat → Int32), j ≤ 4 → hl ≤ 900 → zobj h 2 9 F → zbyt h 3 900 tp → zT F hl L kd pl en pk le va → ∃ h1 F' r, nzr d nX9_append 3 [some (.ref 2), some (.int x), some (.int (8 * nI j - 8))] [] h = some (none, h1) ∧ zobj h1 2 9 F' ∧ zbyt h1 3 900 r.2 ∧ zT F' r.1 L kd pl en pk le va ∧ r.1 ≤ 900 ∧ zfr 2 4 h h1 ∧ r = Nat.rec (motive := fun _ => Nat × (Nat → Int32) → Nat × (Nat → Int32)) id (fun k f s => f (zfed x (8 * k) s)) j (hl, tp) := by
  intro j
  induction j with
  | zero =>
    intro h F hl tp _ hh o b T
    refine ⟨h, F, (hl, tp), ?_, o, b, T, hh, zfr_rfl _ _ _, rfl⟩
    rw [eX9_append_3, if_pos (show 8 * nI 0 - 8 < 0 by decide)]
  | succ j ih =>
    intro h F hl tp hj hh o b T
    have e : 8 * nI (j + 1) - 8 = nI (8 * j) := by
      rw [show (8 : Int32) = nI 8 from rfl, pk_mul, pk_sub (by omega), show 8 * (j + 1) - 8 = 8 * j by omega]
    have e2 : nI (8 * j) + (-8) = 8 * nI j - 8 := by
      rw [show nI (8 * j) = 8 * nI j from (pk_mul 8 j).symm, Int32.sub_eq_add_neg]
    rw [e, eX9_append_3, if_neg (nI_pos (by omega)), zg_I o T.2.1, Option.bind_some]
    by_cases z : hl < 900
    · have o1 : zobj (nzset h 3 (.inl (.byte, 900, .inl (upd tp hl (vp_nar .byte (x >>> (nI (8 * j) &&& 31)).toInt8.toInt32))))) 2 9 F := (zc_setN (by decide)).trans o
      have fr : zfr 2 4 h (nzset (nzset h 3 (.inl (.byte, 900, .inl (upd tp hl (vp_nar .byte (x >>> (nI (8 * j) &&& 31)).toInt8.toInt32))))) 2 (.inr (9, va_up F 1 (.int (nI (hl + 1)))))) := zfr_tr (zfr_set _ _ (by decide) (by decide)) (zfr_set _ _ (by decide) (by decide))
      obtain ⟨h1, F', r, q1, q2, q3, q4, q5, q6, q7⟩ := ih (nzset (nzset h 3 (.inl (.byte, 900, .inl (upd tp hl (vp_nar .byte (x >>> (nI (8 * j) &&& 31)).toInt8.toInt32))))) 2 (.inr (9, va_up F 1 (.int (nI (hl + 1)))))) _ (hl + 1) _ (by omega) (by omega) (zc_setS _ _ _) ((zc_setN (by decide)).trans (zc_setS _ _ _)) (zT_1 T (hl + 1))
      refine ⟨h1, F', r, ?_, q2, q3, q4, q5, zfr_tr fr q6, ?_⟩
      · rw [if_neg (show ¬ 900 ≤ nI hl from nI_ge (b := 900) z (by decide)), zg_R o T.1, Option.bind_some, Option.bind_some, zs_Bn b z (by decide), Option.bind_some, zg_I o1 T.2.1, Option.bind_some, nI_1, zp_of o1, Option.bind_some, eX9_append_40, e2]
        exact q1
      · rw [q7]
        show _ = Nat.rec (motive := fun _ => Nat × (Nat → Int32) → Nat × (Nat → Int32)) id (fun k f s => f (zfed x (8 * k) s)) j (zfed x (8 * j) (hl, tp))
        rw [zfed, if_pos z]
    · obtain ⟨h1, F', r, q1, q2, q3, q4, q5, q6, q7⟩ := ih h F hl tp (by omega) hh o b T
      refine ⟨h1, F', r, ?_, q2, q3, q4, q5, q6, ?_⟩
      · rw [if_pos (show 900 ≤ nI hl from nI_le (a := 900) (by omega) (by omega)), eX9_append_40, e2]
        exact q1
      · rw [q7]
        show _ = Nat.rec (motive := fun _ => Nat × (Nat → Int32) → Nat × (Nat → Int32)) id (fun k f s => f (zfed x (8 * k) s)) j (zfed x (8 * j) (hl, tp))
        rw [zfed, if_neg z]
end NZB2
