/-! the reference's calls that succeed: costs, fading, dropped -/
section NZMK5
variable {d t : Nat} {h : nzH} {F0 : Nat → Value} {I : Nat → Int32} {W : Int64} {td rd : Option Nat} {tp : Nat → Int32} {A : Nat → Nat → Int32} {J : Nat → Int32} {B : Nat → Nat → Int32} {Wd : Nat → Int64} {N : Nat → Nat} {R : Nat → Nat → Nat}
theorem zmrr_2 (M : zmrr A N R) (f g : Nat → Int32) : zmrr (va_up (va_up A 22 f) 23 g) N R := fun i hi => by
  obtain ⟨m1, m2, m3⟩ := M i hi
  exact ⟨m1, m2, m3⟩
theorem mX_costs (E : zmd h t J B Wd) (ht : 94 ≤ t) (hd : 20 < d) {nf c k m r n0 n1 : Nat} (hnf : nf ≤ 3) (e7 : J 7 = nI nf) (hc : c < 3) (hk : k < 3) (ek : B 26 c = nI k) (M : zmrr A N R) (hm : m ≤ 3) (em : J 6 = nI m) (ec : zcar N R (nI r) 0 m = nI c) (h0 : n0 < 64) (h1 : n1 < 64) (b0 : ∀ f, (zmgR J B nf c k 0 (R c) (N c) f).1 = nI n0) (b1 : ∀ f, (zmgR J B nf c k (1 <<< (nI r &&& 31)) (R c) (N c) f).1 = nI n1) (z : ¬ zmh (J 5) (nI r) = 0) : ∃ I' A', nzxI d nX13_costs [.ref 73, .int (nI r)] (zmS h F0 I W (some t) rd tp A) = some (nI (zpop n1) - nI (zpop n0), zmS h F0 I' W (some t) rd tp A') ∧ (∀ a, a ≠ 0 → a ≠ 1 → a ≠ 2 → a ≠ 20 → a ≠ 21 → I' a = I a) ∧ I' 1 = 0 ∧ I' 2 = -1 ∧ (∀ a, a ≠ 22 → a ≠ 23 → A' a = A a) := by
  refine ⟨_, _, iX13_costs (by omega) zmS_o (by
    rw [eX13_costs_0, zP_0, Option.bind_some, jX13_isHouse zmo_S (zmd_S E ht) (by omega), Option.bind_some, ← zmh, if_neg z, jX13_carOf zmo_S (zmd_S E ht) M hm em (by omega), Option.bind_some, ec, if_neg (nI_c3 c hc), kX13_goesAsDriven E ht (by omega) hnf e7 hc hk ek _ M, Option.bind_some, zI_21, Option.bind_some, upd_eq, b0, jX13_bits (by omega) h0, Option.bind_some, kX13_goesAsDriven E ht (by omega) hnf e7 hc hk ek _ (zmrr_2 M _ _), Option.bind_some, zI_21, Option.bind_some, upd_eq, b1, jX13_bits (by omega) h1, Option.bind_some, zdone (by omega), Option.bind_some]), fun a a0 a1 a2 a3 a4 => ?_, ?_, upd_eq _ _ _, fun a a1 a2 => ?_⟩
  · rw [upd_ne a2, upd_ne a1, upd_ne a4, upd_ne a3, upd_ne a4, upd_ne a3, upd_ne a0]
  · rw [upd_ne (by decide), upd_eq]
  · rw [va_up_at, if_neg a2, va_up_at, if_neg a1, va_up_at, if_neg a2, va_up_at, if_neg a1]
theorem mX_fading (E : zmd h t J B Wd) (ht : 94 ≤ t) (hd : 20 < d) {k n : Nat} (hk : k < 6) (hn : n ≤ 10) (h4 : 4 ≤ n) (en : A 40 k = nI n) (z1 : ¬ zmh (J 5) (nI k) = 0) : nzxI d nX13_fading [.ref 73, .int (nI k)] (zmS h F0 I W (some t) rd tp A) = some (zfad (fun i => A 41 (10 * k + i)) n, zmS h F0 (upd (upd (upd I 0 0) 1 0) 2 (-1)) W (some t) rd tp A) := by
  have i0 : 10 * nI k = nI (10 * k) := by rw [show (10 : Int32) = nI 10 from rfl, pk_mul]
  have i1 : nI (10 * k) + nI n - 1 = nI (10 * k + (n - 1)) := by rw [nI_add, show (1 : Int32) = nI 1 from rfl, nI_sub (by omega), Nat.add_sub_assoc (by omega)]
  have i2 : nI (10 * k) + nI n - 2 = nI (10 * k + (n - 2)) := by rw [nI_add, show (2 : Int32) = nI 2 from rfl, nI_sub (by omega), Nat.add_sub_assoc (by omega)]
  have i3 : nI (10 * k) + nI n - 3 = nI (10 * k + (n - 3)) := by rw [nI_add, show (3 : Int32) = nI 3 from rfl, nI_sub (by omega), Nat.add_sub_assoc (by omega)]
  refine iX13_fading (by omega) zmS_o ?_
  rw [eX13_fading_0, zP_0, Option.bind_some, jX13_isHouse zmo_S (zmd_S E ht) (by omega), Option.bind_some, ← zmh, if_neg z1, zR_40, Option.bind_some, zA_40 hk, Option.bind_some, en, if_pos (show 4 ≤ nI n from nI_le (a := 4) h4 (by omega)), i0, i1, i2, i3, zR_41, Option.bind_some, zA_41 (show 10 * k + (n - 1) < 60 by omega), Option.bind_some, Option.bind_some, zA_41 (show 10 * k + (n - 2) < 60 by omega), Option.bind_some, Option.bind_some, zA_41 (show 10 * k + (n - 3) < 60 by omega), Option.bind_some]
  exact kX13_fa82 (by omega) hk hn _ _ n 0 0 none none (by omega)
end NZMK5
