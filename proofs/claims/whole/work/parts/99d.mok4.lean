/-! the reference's calls that succeed: comes, heat, costs, drive -/
section NZMK4
variable {d t : Nat} {h : nzH} {F0 : Nat → Value} {I : Nat → Int32} {W : Int64} {td rd : Option Nat} {tp : Nat → Int32} {A : Nat → Nat → Int32} {J : Nat → Int32} {B : Nat → Nat → Int32} {Wd : Nat → Int64} {N : Nat → Nat} {R : Nat → Nat → Nat}
theorem nI_c3 : ∀ c, c < 3 → ¬ nI c = -1 := by decide +kernel
theorem mX_comes (E : zmd h t J B Wd) (ht : 94 ≤ t) (hd : 20 < d) {nf c k m p : Nat} (hnf : nf ≤ 3) (e7 : J 7 = nI nf) (hc : c < 3) (hk : k < 3) (ek : B 26 c = nI k) (M : zmrr A N R) (hm : m ≤ 3) (em : J 6 = nI m) (ec : zcar N R (nI (R c p)) 0 m = nI c) (hp : p < N c) (hu : ∀ q, q < p → R c q ≠ R c p) (z : ¬ zmh (J 5) (nI (R c p)) = 0) : ∃ I' A', nzxI d nX13_comes [.ref 73, .int (nI (R c p))] (zmS h F0 I W (some t) rd tp A) = some ((zmgR J B nf c k (I 19) (R c) (N c) (A 23)).2.2.2 p, zmS h F0 I' W (some t) rd tp A') ∧ (∀ a, a ≠ 0 → a ≠ 1 → a ≠ 2 → a ≠ 20 → a ≠ 21 → I' a = I a) ∧ I' 1 = 0 ∧ I' 2 = -1 ∧ (∀ a, a ≠ 22 → a ≠ 23 → A' a = A a) := by
  obtain ⟨-, m2, m3⟩ := M c hc
  refine ⟨upd (upd (upd (upd (upd I 0 0) 20 (nI (N c))) 21 (zmgR J B nf c k (I 19) (R c) (N c) (A 23)).1) 1 0) 2 (-1), va_up (va_up A 22 (zmrw A (R c) (N c))) 23 (zmgR J B nf c k (I 19) (R c) (N c) (A 23)).2.2.2, iX13_comes (by omega) zmS_o ?_, fun a a0 a1 a2 a3 a4 => ?_, ?_, upd_eq _ _ _, fun a a1 a2 => ?_⟩
  · have hr : ∀ q, q < N c → va_up (va_up A 22 (zmrw A (R c) (N c))) 23 (zmgR J B nf c k (I 19) (R c) (N c) (A 23)).2.2.2 22 q = nI (R c q) ∧ R c q < 6 := fun q hq => by
      refine ⟨?_, (m3 q hq).2⟩
      rw [va_up_at, if_neg (show ¬ 22 = 23 by decide), va_up_at, if_pos rfl, zmrw, if_pos hq]
    rw [eX13_comes_0, zP_0, Option.bind_some, jX13_isHouse zmo_S (zmd_S E ht) (by omega), Option.bind_some, ← zmh, if_neg z, jX13_carOf zmo_S (zmd_S E ht) M hm em (by omega), Option.bind_some, ec, if_neg (nI_c3 c hc), zI_19, Option.bind_some, upd_ne (show 19 ≠ 0 by decide), kX13_goesAsDriven E ht (by omega) hnf e7 hc hk ek _ M, Option.bind_some, kX13_comesTo (by omega) m2 hr hp hu, Option.bind_some, va_up_at, if_pos rfl, zdone (by omega), Option.bind_some]
  · rw [upd_ne a2, upd_ne a1, upd_ne a4, upd_ne a3, upd_ne a0]
  · rw [upd_ne (by decide), upd_eq]
  · rw [va_up_at, if_neg a2, va_up_at, if_neg a1]
theorem mX_heat (E : zmd h t J B Wd) (ht : 94 ≤ t) (hd : 20 < d) {nf c k m p : Nat} (hnf : nf ≤ 3) (e7 : J 7 = nI nf) (hc : c < 3) (hk : k < 3) (ek : B 26 c = nI k) (M : zmrr A N R) (hm : m ≤ 3) (em : J 6 = nI m) (ec : zcar N R (nI (R c p)) 0 m = nI c) (hp : p < N c) (hu : ∀ q, q < p → R c q ≠ R c p) (z : ¬ zmh (J 5) (nI (R c p)) = 0) : ∃ I' A', nzxI d nX13_heat [.ref 73, .int (nI (R c p))] (zmS h F0 I W (some t) rd tp A) = some (zmht B c k ((zmgR J B nf c k (I 19) (R c) (N c) (A 23)).2.2.2 p), zmS h F0 I' W (some t) rd tp A') ∧ (∀ a, a ≠ 0 → a ≠ 1 → a ≠ 2 → a ≠ 20 → a ≠ 21 → I' a = I a) ∧ I' 1 = 0 ∧ I' 2 = -1 ∧ (∀ a, a ≠ 22 → a ≠ 23 → A' a = A a) := by
  obtain ⟨-, m2, m3⟩ := M c hc
  refine ⟨upd (upd (upd (upd (upd I 0 0) 20 (nI (N c))) 21 (zmgR J B nf c k (I 19) (R c) (N c) (A 23)).1) 1 0) 2 (-1), va_up (va_up A 22 (zmrw A (R c) (N c))) 23 (zmgR J B nf c k (I 19) (R c) (N c) (A 23)).2.2.2, iX13_heat (by omega) zmS_o ?_, fun a a0 a1 a2 a3 a4 => ?_, ?_, upd_eq _ _ _, fun a a1 a2 => ?_⟩
  · have hr : ∀ q, q < N c → va_up (va_up A 22 (zmrw A (R c) (N c))) 23 (zmgR J B nf c k (I 19) (R c) (N c) (A 23)).2.2.2 22 q = nI (R c q) ∧ R c q < 6 := fun q hq => by
      refine ⟨?_, (m3 q hq).2⟩
      rw [va_up_at, if_neg (show ¬ 22 = 23 by decide), va_up_at, if_pos rfl, zmrw, if_pos hq]
    rw [eX13_heat_0, zP_0, Option.bind_some, jX13_isHouse zmo_S (zmd_S E ht) (by omega), Option.bind_some, ← zmh, if_neg z, jX13_carOf zmo_S (zmd_S E ht) M hm em (by omega), Option.bind_some, ec, if_neg (nI_c3 c hc), zI_19, Option.bind_some, upd_ne (show 19 ≠ 0 by decide), kX13_goesAsDriven E ht (by omega) hnf e7 hc hk ek _ M, Option.bind_some, kX13_comesTo (by omega) m2 hr hp hu, Option.bind_some, va_up_at, if_pos rfl, jX13_heatBy zmo_S (zmd_S E ht) (by omega) hc hk ek, Option.bind_some, zdone (by omega), Option.bind_some, zmht]
  · rw [upd_ne a2, upd_ne a1, upd_ne a4, upd_ne a3, upd_ne a0]
  · rw [upd_ne (by decide), upd_eq]
  · rw [va_up_at, if_neg a2, va_up_at, if_neg a1]
theorem mX_drive (E : zmd h t J B Wd) (ht : 94 ≤ t) (hd : 20 < d) {c m r : Nat} (hc : c < 3) (M : zmrr A N R) (hm : m ≤ 3) (em : J 6 = nI m) (hN : N c < 6) (ec : zcar N R (nI r) 0 m = -1) (z1 : ¬ zmh (J 6) (nI c) = 0) (z2 : ¬ zmh (J 5) (nI r) = 0) (z4 : ¬ nI (N c) = B 28 c) : nzxI d nX13_drive [.ref 73, .int (nI c), .int (nI r)] (zmS h F0 I W (some t) rd tp A) = some (nI (N c + 1), zmS h F0 (upd (upd (upd I 0 0) 1 0) 2 (-1)) W (some t) rd tp (va_up (va_up A 18 (upd (A 18) (6 * c + N c) (nI r))) 17 (upd (A 17) c (nI (N c + 1))))) := by
  have en := (M c hc).1
  have i1 : 6 * nI c + nI (N c) = nI (6 * c + N c) := by rw [show (6 : Int32) = nI 6 from rfl, pk_mul, nI_add]
  refine iX13_drive (by omega) zmS_o ?_
  rw [eX13_drive_0, zP_0, Option.bind_some, jX13_isCar zmo_S (zmd_S E ht) (by omega), Option.bind_some, ← zmh, if_neg z1, jX13_isHouse zmo_S (zmd_S E ht) (by omega), Option.bind_some, ← zmh, if_neg z2, jX13_carOf zmo_S (zmd_S E ht) M hm em (by omega), Option.bind_some, if_pos ec, zR_17, Option.bind_some, zA_17 hc, Option.bind_some, zmS_T, Option.bind_some, zdr E ht (k := 28) (by decide) (by decide), Option.bind_some, zda E ht (k := 28) (by decide) (by decide) (by decide) (by decide) (by decide) hc, Option.bind_some, en, if_neg z4, zR_18, Option.bind_some, Option.bind_some, zA_17 hc, Option.bind_some, en, i1, zW_18 (show 6 * c + N c < 18 by omega), Option.bind_some, zR_17, Option.bind_some, zA_17 hc, Option.bind_some, va_up_at, if_neg (show ¬ 17 = 18 by decide), en, nI_1, zW_17 hc, Option.bind_some, zR_17, Option.bind_some, zA_17 hc, Option.bind_some, va_up_at, if_pos rfl, upd_eq, zdone (by omega), Option.bind_some, va_up_at, if_neg (show ¬ 17 = 18 by decide)]
end NZMK4
