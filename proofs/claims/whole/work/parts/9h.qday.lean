/-! coupling: day -/
section NZQH
variable {d : Nat} {h : nzH}
theorem qX_day (Q : zQX h) (hd : 20 < d) (x : Int32) : zCI d nX11_day nX13_day [.int x] h := by
  obtain ⟨t, u, tr, c, g, hl, L, S, F0, I, W, td, rd, tp, A, Q⟩ := Q
  obtain ⟨e0, h9, K, D, E, tu, qd, hb, qt, q1, q2, q3, q4, q5, q6, q7, q8⟩ := id Q
  have ht : t = 7 ∨ t = 70 := by omega
  have hl9 : hl ≤ 900 := D.2.1.2.2.1
  by_cases y : x < 0 ∨ ¬ x ≤ nI hl
  · exact ⟨-1, zp0 h 2, _, zX_day_no K D hd x y, zXeI (zQ_e0 Q 2) (kX13_day_no (by omega) (by rw [qt.1]; exact y)), zQ_ref Q (by decide)⟩
  · have y0 : ¬ x < 0 := fun w => y (.inl w)
    obtain ⟨m, hm2, rfl⟩ := nI_of y0
    have hm : m ≤ hl := by
      rcases Nat.lt_or_ge hl m with w | w
      · exact absurd (.inr (nI_ge w hm2)) y
      · exact w
    have ez : zrs0 tp m S = (ztok tp m 0 S.1.2.2.2, (S.2.1.1, 0, -1), (0, S.2.2.1.2), zc0 S.2.2.2.1, zg0 S.2.2.2.2) := rfl
    cases z : (zpRd tp m 901 (zrs0 tp m S)).1 with
    | false =>
      obtain ⟨h1, w1, K1, w2, w3⟩ := zX_day_bad K D hd hm z
      have f0 := zp0_fr K1 4
      have f9 : 94 ≤ (zp0 h1 4).1 := by rw [f0.1, w3.1]; exact h9
      have cl : ∀ a, a ≠ 0 → ¬ (1 ≤ a ∧ a < 7) → ¬ (u ≤ a ∧ a < u + 3) → nzcell (zp0 h1 4) a = nzcell h a := fun a a0 a1 a2 => (f0.2.2.2 a (by omega)).trans (w3.2.2.2 a a1 a2)
      have e1 : zp0 h1 4 = zmS (zp0 h1 4) F0 I W td rd tp A := zmS_fix e0 (fun a a1 a2 => cl a (by omega) (by omega) (by omega))
      obtain ⟨v, hh, k1, -, k2⟩ := kX13_day (F0 := F0) (W := W) (td := td) (rd := rd) (d := d) f9 (by omega) hb (I := I) (A := A) hl9 qt.1 hm S.1.2.2.2 S.2.1.1 S.2.2.1.2 S.2.2.2.1 S.2.2.2.2
      rw [← ez] at k2
      obtain ⟨I', W', J', B', Wd', rfl, rfl, i6, i0, i1, i2, i13, iR⟩ := k2 z
      generalize zpRd tp m 901 (zrs0 tp m S) = P at z w2 i2 i13
      have n1 : (zp0 h1 4).1 = h.1 := f0.1.trans w3.1
      have n2 : (zp0 h1 4).2.1 = h.2.1 := f0.2.1.trans w3.2.1
      have hc : ∀ a, a < 73 ∨ (94 ≤ a ∧ a < h.1) → nzcell (zmS (zdS (zdG (zp0 h1 4)) (zp0 h1 4).1 zdG0 J' B' Wd') F0 I' W' td (some (zp0 h1 4).1) tp A) a = nzcell (zp0 h1 4) a := fun a ha => (zmS_c (by omega)).trans ((zdS_c (by omega)).trans rfl)
      have sm : ∀ {a b}, b ≤ 73 → zsm a b (zp0 h1 4) (zmS (zdS (zdG (zp0 h1 4)) (zp0 h1 4).1 zdG0 J' B' Wd') F0 I' W' td (some (zp0 h1 4).1) tp A) := fun hb a _ a2 => hc a (by omega)
      have sq : ∀ {a b}, 10 ≤ a → b ≤ 70 → zsm a b h (zmS (zdS (zdG (zp0 h1 4)) (zp0 h1 4).1 zdG0 J' B' Wd') F0 I' W' td (some (zp0 h1 4).1) tp A) := fun ha hb a _ a2 => (hc a (by omega)).trans (cl a (by omega) (by omega) (by omega))
      refine ⟨-1, zp0 h1 4, _, w1, zXeI e1 k1, ⟨t, u, 4, c, g, 0, m, P.2, F0, I', W', td, _, tp, A, zmS_mS.symm, ?_, zK_sm (zp0_K K1 4) (sm (by decide) 0 (Nat.le_refl 0) Nat.zero_lt_one), zrd_sm (zrd_sm w2 (zfr_sm f0 (by decide)) (zfr_sm f0 (by omega))) (sm (by decide)) (sm (by omega)), zday_sm E (fun a a1 a2 => (hc a (by omega)).trans (cl a (by omega) (by omega) (by omega))), tu, qD_sm qd ?_ (fun a a1 a2 => (hc a (.inr ⟨a1, a2⟩)).trans (cl a (by omega) (by omega) (by omega))), hb, ⟨i6, i13, i1, by rw [if_pos rfl]; exact i2⟩, qR_k q1 (sq (by decide) (by decide)) (iR 19 (by decide)) rfl rfl, qO_k q2 (sq (by decide) (by decide)), qS_k q3 (sq (by decide) (by decide)) (iR 27 (by decide)) rfl, qM_k q4 (sq (by decide) (by decide)) (iR 33 (by decide)) rfl, qK_k q5 (sq (by decide) (by decide)) (iR 34 (by decide)) rfl, qW_k q6 (sq (by decide) (by decide)) (iR 37 (by decide)) rfl, qG_k q7 (sq (by decide) (by decide)) rfl rfl, qP_k q8 (sq (by decide) (by decide)) (iR 42 (by decide)) rfl rfl rfl⟩, ?_, ?_, ?_, f0.2.2.1.trans w3.2.2.1, ?_, fun a a1 a2 => (hc a (.inr ⟨a1, a2⟩)).trans (cl a (by omega) (by omega) (by omega))⟩
      · show 94 ≤ (zp0 h1 4).1 + 27
        omega
      · show h.1 ≤ (zp0 h1 4).1 + 27
        omega
      · show (zp0 h1 4).1 + 27 ≤ h.1 + 27
        omega
      · show (zp0 h1 4).2.1.1 + 27 ≤ h.2.1.1 + 27
        rw [n2]; omega
      · show (zp0 h1 4).2.1.2 + 238 ≤ h.2.1.2 + 238
        rw [n2]; omega
      · show h.1 ≤ (zp0 h1 4).1 + 27
        omega
    | true =>
      obtain ⟨N, R, T, a1, -⟩ := q1
      obtain ⟨Wt, Pk, O, kn, a2, -⟩ := q2
      obtain ⟨ss, sn, a3, -⟩ := q3
      obtain ⟨mC, mS, mP, mn, a4, -⟩ := q4
      obtain ⟨ks, kn', a5, -⟩ := q5
      obtain ⟨wW, wL, wP, a6, -⟩ := q6
      obtain ⟨gN, gV, a7, -⟩ := q7
      obtain ⟨pn, pC, pM, pT, a8, -⟩ := q8
      obtain ⟨h1, w1, K1, w2, w3, ⟨b1, b2, b3, b4, b5, b6, b7, b8⟩, w4⟩ := zX_day_ok K D E tu hd hm z a1 a2 a3 a4 a5 a6 a7 a8
      have f0 := zp0_fr K1 0
      have f9 : 94 ≤ (zp0 h1 0).1 := by rw [f0.1, w4.1]; exact h9
      have cl : ∀ a, 73 ≤ a → nzcell (zp0 h1 0) a = nzcell h a := fun a a0 => (f0.2.2.2 a (by omega)).trans (w4.2.2.2 a (by omega))
      have e1 : zp0 h1 0 = zmS (zp0 h1 0) F0 I W td rd tp A := zmS_fix e0 (fun a a1 a2 => cl a (by omega))
      obtain ⟨v, hh, k1, k2, -⟩ := kX13_day (F0 := F0) (W := W) (td := td) (rd := rd) (d := d) f9 (by omega) hb (I := I) (A := A) hl9 qt.1 hm S.1.2.2.2 S.2.1.1 S.2.2.1.2 S.2.2.2.1 S.2.2.2.2
      rw [← ez] at k2
      obtain ⟨k', x', N', c', g', I', W', J', B', Wd', A', rfl, eP, dd, nz, rfl, i6, i0, i1, i2, i13, i19, i42, i33, i34, i37, i27, iA, iB⟩ := k2 z
      generalize zpRd tp m 901 (zrs0 tp m S) = P at z w1 w2 w3 eP
      rw [eP] at w1 w2 w3
      have n1 : (zp0 h1 0).1 = h.1 := f0.1.trans w4.1
      have n2 : (zp0 h1 0).2.1 = h.2.1 := f0.2.1.trans w4.2.1
      have hc : ∀ a, a < 73 ∨ (94 ≤ a ∧ a < h.1) → nzcell (zmS (zdS (zdG (zp0 h1 0)) (zp0 h1 0).1 zdG0 J' B' Wd') F0 I' W' (some (zp0 h1 0).1) (some (zp0 h1 0).1) tp A') a = nzcell (zp0 h1 0) a := fun a ha => (zmS_c (by omega)).trans ((zdS_c (by omega)).trans rfl)
      have sm : ∀ {a b}, 0 < a → b ≤ 73 → zsm a b h1 (zmS (zdS (zdG (zp0 h1 0)) (zp0 h1 0).1 zdG0 J' B' Wd') F0 I' W' (some (zp0 h1 0).1) (some (zp0 h1 0).1) tp A') := fun ha hb a _ a2 => (hc a (by omega)).trans (f0.2.2.2 a (by omega))
      have DD := dd.2.1
      have zc : ∀ s, s < 9 → ¬ c' s = 0 → 0 < zcn c' s := fun s hs hz => by
        have a := DD.1 s hs
        rcases Nat.eq_zero_or_pos (zcn c' s) with w | w
        · rw [w] at a; exact absurd a.1 hz
        · exact w
      refine ⟨_, zp0 h1 0, _, w1, zXeI e1 (zXv (zrow_n c' (s := 3) (by decide)) k1), ⟨u, t, 0, c', g', 0, m, _, F0, I', W', _, _, tp, A', zmS_mS.symm, ?_, zK_sm (zp0_K K1 0) (hc 0 (.inl (by decide))), zrd_sm w2 (sm (by decide) (by decide)) (sm (by omega) (by omega)), zday_sm w3 (sm (by omega) (by omega)), (by omega), .inr ⟨_, J', B', Wd', rfl, f9, ?_, zmd_S zmd_dS f9, DD, zc 8 (by decide) (fun w => nz (.inl w)), zc 3 (by decide) (fun w => nz (.inr (.inl w))), zc 4 (by decide) (fun w => nz (.inr (.inr w)))⟩, hb, ⟨i6, i13, i1, i2⟩, ⟨fun _ => 0, R, 0, zrou_sm b1 (sm (by decide) (by decide)), fun i hi => ⟨iA i hi, Nat.zero_le _, fun k hk => absurd hk (Nat.not_lt_zero _)⟩, i19, Nat.two_pow_pos _, fun _ _ _ => rfl, fun _ _ => Nat.zero_le _, fun k i _ hi => absurd hi (Nat.not_lt_zero _), fun k k' i i' _ _ hi => absurd hi (Nat.not_lt_zero _)⟩, ⟨Wt, Pk, O, 0, zord_sm b2 (sm (by decide) (by decide)), fun k hk hz => absurd (Int32.zero_and) hz⟩, ⟨ss, 0, zsha_sm b3 (sm (by decide) (by decide)), by decide, .inl ⟨i27, rfl⟩⟩, ⟨mC, mS, mP, 0, zmen_sm b4 (sm (by decide) (by decide)), by decide, i33, fun x hx => absurd hx (Nat.not_lt_zero _)⟩, ⟨ks, 0, zkno_sm b5 (sm (by decide) (by decide)), by decide, i34, fun x hx => absurd hx (Nat.not_lt_zero _)⟩, ⟨wW, wL, wP, by rw [i37]; exact zwis_sm b6 (sm (by decide) (by decide)), fun w => absurd i37 w⟩, ⟨fun _ => 0, gV, zsig_sm b7 (sm (by decide) (by decide)), fun k hk => ⟨iB k hk, Nat.zero_le _, fun x hx => absurd hx (Nat.not_lt_zero _)⟩⟩, ⟨0, pC, pM, pT, zpro_sm b8 (sm (by decide) (by decide)), i42, fun x hx => absurd hx (Nat.not_lt_zero _)⟩⟩, ?_, ?_, ?_, f0.2.2.1.trans w4.2.2.1, ?_, fun a a1 a2 => (hc a (.inr ⟨a1, a2⟩)).trans (cl a (by omega))⟩
      · show 94 ≤ (zp0 h1 0).1 + 27
        omega
      · show (zp0 h1 0).1 + 27 ≤ (zp0 h1 0).1 + 27
        omega
      · show (zp0 h1 0).1 + 27 ≤ h.1 + 27
        omega
      · show (zp0 h1 0).2.1.1 + 27 ≤ h.2.1.1 + 27
        rw [n2]; omega
      · show (zp0 h1 0).2.1.2 + 238 ≤ h.2.1.2 + 238
        rw [n2]; omega
      · show h.1 ≤ (zp0 h1 0).1 + 27
        omega
end NZQH
