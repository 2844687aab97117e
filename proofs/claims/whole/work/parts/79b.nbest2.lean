/-! the best order: class and reference say the same -/
theorem zit_range {α : Type} (f : Nat → α → α) (a : α) : ∀ n, (List.range n).foldl (fun e i => f i e) a = zit f 0 n a
  | 0 => rfl
  | n + 1 => by
    rw [List.range_succ, List.foldl_append, zit_range f a n, zit_last, Nat.zero_add]
    rfl
/-- two loops side by side -/
theorem zit_two {α β : Type} {f : Nat → α → α} {f' : Nat → β → β} {P : Nat → α → β → Prop} : ∀ (j k : Nat) (a : α) (b : β), P k a b → (∀ i, k ≤ i → i < k + j → ∀ a b, P i a b → P (i + 1) (f i a) (f' i b)) → P (k + j) (zit f k j a) (zit f' k j b)
  | 0, _, _, _, h, _ => h
  | j + 1, k, a, b, h, e => by
    have := zit_two j (k + 1) (f k a) (f' k b) (e k (Nat.le_refl k) (by omega) a b h) (fun i h1 h2 => e i (by omega) (by omega))
    rw [zit, zit]
    rwa [show k + (j + 1) = k + 1 + j by omega]
section NZN2
variable {c g J : Nat → Int32} {B : Nat → Nat → Int32}
theorem zev_n (D : zDR c g J B) (h8 : 0 < zcn c 8) {q : Nat} (hq : q < zcn c 4) {l : List Nat} (h0 : 0 < l.length) (hl : l.length ≤ 6) (hx : ∀ i, i < l.length → l.getD i 0 < zcn c 3) : zevb J B (zcn c 5) q (zNv g 4 q 0) l = nI (zpop (zNq g (zcn c 5) q l).1) ∧ zevt J B (zcn c 5) q (zNv g 4 q 0) l = nI ((zNq g (zcn c 5) q l).2.2.2 (l.length - 1)) ∧ (zNq g (zcn c 5) q l).2.2.2 (l.length - 1) < 3200 ∧ zpop (zNq g (zcn c 5) q l).1 ≤ 6 := by
  obtain ⟨m1, m2, m3⟩ := zNr_m D h8 hq (T := 0) (by decide) (r := zgl l) hl hx (fun _ => 0)
  have m1' : (zmgR J B (zcn c 5) q (zNv g 4 q 0) 0 (zgl l) l.length (fun _ => 0)).1 = nI (zNq g (zcn c 5) q l).1 := m1
  have s64 : (zNq g (zcn c 5) q l).1 < 64 := m3.1
  have t4 := m3.2.2.2.2 (l.length - 1) (by omega)
  have hp := zpop_le _ s64
  refine ⟨?_, m2 _ (by omega), ?_, hp⟩
  · rw [zevb, m1', nI_clamp (by omega)]
  · show (zNr g (zcn c 5) q 0 (zgl l) l.length).2.2.2 (l.length - 1) < 3200
    omega
/-- what is told of a best order -/
def zBR (g : Nat → Int32) (nf q Q : Nat) (e : Int32 × Int32) (s : zbt) : Prop := ∃ k, k < zfac (zpop Q) ∧ e = (nI (zNwo g nf q (zpl (zpop Q) Q k)), zpkP (zpl (zpop Q) Q k)) ∧ s.1 = nI (zpop (zNq g nf q (zpl (zpop Q) Q k)).1) ∧ s.2.1 = nI ((zNq g nf q (zpl (zpop Q) Q k)).2.2.2 (zpop Q - 1)) ∧ ∀ p, p < zpop Q → s.2.2 p = nI ((zpl (zpop Q) Q k).getD p 0)
theorem zbst_at (D : zDR c g J B) (h8 : 0 < zcn c 8) {q Q : Nat} (hq : q < zcn c 4) (hQ : Q < 2 ^ zcn c 3) (h0 : 0 < Q) (e0 : Int32) (f : Nat → Int32) : zBR g (zcn c 5) q Q ((zpm (zcn c 3) (zpop Q) Q).foldl (fun e p => zNe g (zcn c 5) q e p) (1000000000, e0)) (zbst J B (zcn c 5) q (zNv g 4 q 0) Q f) := by
  have h6 : zcn c 3 ≤ 6 := (D.1 3 (by decide)).2
  have hQ64 : Q < 64 := Nat.lt_of_lt_of_le hQ (Nat.pow_le_pow_right (n := 2) (by decide) h6)
  have hp6 := zpop_le Q hQ64
  have hp0 : 0 < zpop Q := by
    have : ∀ q, q < 64 → 0 < q → 0 < zpop q := by decide +kernel
    exact this Q hQ64 h0
  have hf := zfac_le (zpop Q) hp6
  have pi : ∀ k, k < zfac (zpop Q) → _ := fun k hk => zpl_in (zcn c 3) (by omega) Q hQ k hk
  have ev : ∀ k, k < zfac (zpop Q) → _ := fun k hk => zev_n D h8 hq (l := zpl (zpop Q) Q k) (by rw [(pi k hk).1]; exact hp0) (by rw [(pi k hk).1]; exact hp6) (fun i hi => (pi k hk).2 i (by rw [(pi k hk).1] at hi; exact hi))
  rw [zpm_all (zcn c 3) (by omega) Q hQ, List.foldl_map, zit_range (fun i e => zNe g (zcn c 5) q e (zpl (zpop Q) Q i)), zbst, if_neg (by omega)]
  obtain ⟨n, hn⟩ : ∃ n, zfac (zpop Q) = n + 1 := ⟨zfac (zpop Q) - 1, by omega⟩
  have rowE : ∀ k, k < zfac (zpop Q) → ∀ (r : Nat → Int32) p, p < zpop Q → zpw (zpl (zpop Q) Q k) 0 r p = nI ((zpl (zpop Q) Q k).getD p 0) := fun k hk r p hp => by
    rw [zpw_at, (pi k hk).1, if_pos (by omega)]
    rfl
  have wb : ∀ k, k < zfac (zpop Q) → zNwo g (zcn c 5) q (zpl (zpop Q) Q k) < 100000 := fun k hk => by
    have := ev k hk
    rw [zNwo]
    omega
  rw [hn, zit, zit]
  have first : zBR g (zcn c 5) q Q (zNe g (zcn c 5) q (1000000000, e0) (zpl (zpop Q) Q 0)) (zbS J B (zcn c 5) q (zNv g 4 q 0) Q 0 (0, B 27 q, f)) := by
    have e := ev 0 hf.1
    refine ⟨0, hf.1, ?_, ?_, ?_, fun p hp => ?_⟩
    · rw [zNe, if_pos (show nI (zNwo g (zcn c 5) q (zpl (zpop Q) Q 0)) < 1000000000 from nI_lt (b := 1000000000) (by have := wb 0 hf.1; omega) (by decide))]
    · rw [zbS, zbW, if_neg (by simp)]
      exact e.1
    · rw [zbS, zbW, if_neg (by simp)]
      have e2 := e.2.1
      rw [(pi 0 hf.1).1] at e2
      exact e2
    · rw [zbS, zbW, if_neg (by simp)]
      exact rowE 0 hf.1 f p hp
  refine zit_two (P := fun _ e s => zBR g (zcn c 5) q Q e s) n (0 + 1) _ _ first (fun i h1 h2 e s P => ?_)
  obtain ⟨k, hk, p1, p2, p3, p4⟩ := P
  have hi : i < zfac (zpop Q) := by omega
  obtain ⟨a1, a2, a3, a4⟩ := ev i hi
  obtain ⟨-, -, b3, b4⟩ := ev k hk
  rw [(pi i hi).1] at a2 a3
  rw [(pi k hk).1] at b3
  have wi : zNwo g (zcn c 5) q (zpl (zpop Q) Q i) = 10000 * zpop (zNq g (zcn c 5) q (zpl (zpop Q) Q i)).1 + (zNq g (zcn c 5) q (zpl (zpop Q) Q i)).2.2.2 (zpop Q - 1) := by rw [zNwo, (pi i hi).1]
  have wk : zNwo g (zcn c 5) q (zpl (zpop Q) Q k) = 10000 * zpop (zNq g (zcn c 5) q (zpl (zpop Q) Q k)).1 + (zNq g (zcn c 5) q (zpl (zpop Q) Q k)).2.2.2 (zpop Q - 1) := by rw [zNwo, (pi k hk).1]
  have cond : (((i == 0) = false ∧ (s.1 < zevb J B (zcn c 5) q (zNv g 4 q 0) (zpl (zpop Q) Q i) ∨ (zevb J B (zcn c 5) q (zNv g 4 q 0) (zpl (zpop Q) Q i) = s.1 ∧ ¬ zevt J B (zcn c 5) q (zNv g 4 q 0) (zpl (zpop Q) Q i) < s.2.1))) ↔ ¬ zNwo g (zcn c 5) q (zpl (zpop Q) Q i) < zNwo g (zcn c 5) q (zpl (zpop Q) Q k)) := by
    rw [a1, a2, p2, p3, nI_ltI (by omega) (by omega), nI_eq (by omega) (by omega), nI_ltI (by omega) (by omega), wi, wk]
    have : (i == 0) = false := by simp; omega
    rw [this]
    simp only [true_and]
    omega
  by_cases y : zNwo g (zcn c 5) q (zpl (zpop Q) Q i) < zNwo g (zcn c 5) q (zpl (zpop Q) Q k)
  · refine ⟨i, hi, ?_, ?_, ?_, fun p hp => ?_⟩
    · rw [zNe, p1, if_pos (nI_lt y (by have := wb k hk; omega))]
    · rw [zbS, zbW, if_neg (fun z => cond.mp z y)]
      exact a1
    · rw [zbS, zbW, if_neg (fun z => cond.mp z y)]
      exact a2
    · rw [zbS, zbW, if_neg (fun z => cond.mp z y)]
      exact rowE i hi s.2.2 p hp
  · refine ⟨k, hk, ?_, ?_, ?_, fun p hp => ?_⟩
    · rw [zNe, p1, if_neg (nI_nlt (by omega) (by have := wb i hi; omega))]
    · rw [zbS, zbW, if_pos (cond.mpr y)]
      exact p2
    · rw [zbS, zbW, if_pos (cond.mpr y)]
      exact p3
    · rw [zbS, zbW, if_pos (cond.mpr y)]
      exact p4 p hp
/-- the best of a set, on both sides -/
theorem zbest_eq (D : zDR c g J B) (h8 : 0 < zcn c 8) {q Q : Nat} (hq : q < zcn c 4) (hQ : Q < 2 ^ zcn c 3) (hH : zpop Q ≤ zNv g 4 q 2) (O w p : Nat → Int32) (f : Nat → Int32) : ∃ b t, ∃ l : Nat → Nat, b ≤ 6 ∧ t < 3200 ∧ (zolr c g (zcn c 5) (zcn c 3) q (zNv g 4 q 2) O w p).2.1 Q = nI (10000 * b + t) ∧ (zbst J B (zcn c 5) q (zNv g 4 q 0) Q f).1 = nI b ∧ (zbst J B (zcn c 5) q (zNv g 4 q 0) Q f).2.1 = nI t ∧ ∀ i, i < zpop Q → ((zolr c g (zcn c 5) (zcn c 3) q (zNv g 4 q 2) O w p).2.2 Q >>> ((3 * nI (zpop Q - 1 - i)) &&& 31)) &&& 7 = nI (l i) ∧ (zbst J B (zcn c 5) q (zNv g 4 q 0) Q f).2.2 i = nI (l i) := by
  have h6 : zcn c 3 ≤ 6 := (D.1 3 (by decide)).2
  have hQ64 : Q < 64 := Nat.lt_of_lt_of_le hQ (Nat.pow_le_pow_right (n := 2) (by decide) h6)
  obtain ⟨s1, s2, s3, s4⟩ := zNg D (s := 4) (r := q) (k := 1) (by decide) hq (by decide) rfl (by decide)
  obtain ⟨-, -, -, t4⟩ := zNg D (s := 4) (r := q) (k := 2) (by decide) hq (by decide) rfl (by decide)
  have at0 := zoE_at D h8 hq hQ (H := zNv g 4 q 2) t4 (zNv g 4 q 2) [] 0 (O, upd (fun i => if i < 64 then 1000000000 else w i) 0 (nI (zNv g 4 q 1)), p) (by simp) (by decide) (by decide) (fun i hi => absurd hi (Nat.not_lt_zero i)) (fun y hy z => by
    have : (zNq g (zcn c 5) q []).1 = 0 := rfl
    rw [this, Nat.zero_div] at z
    cases z) (fun i hi => absurd hi (Nat.not_lt_zero i))
  have n1 : (zNq g (zcn c 5) q []).2.2.1 = zNv g 4 q 1 := rfl
  have n2 : nI (zpop (zNq g (zcn c 5) q []).1) = 0 := by
    rw [show (zNq g (zcn c 5) q []).1 = 0 from rfl]
    decide
  simp only [n1, n2, List.length_nil, List.nil_append, Nat.sub_zero] at at0
  have ez : zolr c g (zcn c 5) (zcn c 3) q (zNv g 4 q 2) O w p = zoE c g (zcn c 5) (zcn c 3) q (zNv g 4 q 2) 0 0 (nI (zNv g 4 q 1)) 0 (O, upd (fun i => if i < 64 then 1000000000 else w i) 0 (nI (zNv g 4 q 1)), p) := by
    rw [zolr, show zget c g 4 (nI q) 1 = nI (zNv g 4 q 1) from s1]
  by_cases y : Q = 0
  · subst y
    have := at0.2 (.inr rfl)
    refine ⟨0, zNv g 4 q 1, fun _ => 0, by decide, by omega, ?_, ?_, ?_, fun i hi => absurd hi (Nat.not_lt_zero i)⟩
    · rw [ez]
      have e := congrArg Prod.fst this
      dsimp only at e
      rw [upd_eq] at e
      rw [Nat.mul_zero, Nat.zero_add]
      exact e
    · rw [zbst, if_pos rfl]
      rfl
    · rw [zbst, if_pos rfl]
      exact s2 (by decide)
  · have zs : zsub 0 Q = true := by
      have : ∀ Q, Q < 64 → zsub 0 Q = true := by decide +kernel
      exact this Q hQ64
    have zd : Q &&& (63 - 0) = Q := by
      have : ∀ Q, Q < 64 → Q &&& (63 - 0) = Q := by decide +kernel
      exact this Q hQ64
    have a := at0.1 ⟨zs, fun z => y z.symm, hH⟩
    rw [zd] at a
    rw [upd_ne y, if_pos hQ64] at a
    obtain ⟨k, hk, p1, p2, p3, p4⟩ := zbst_at D h8 hq hQ (by omega) (p Q) f
    have hp6 := zpop_le Q hQ64
    have pi := zpl_in (zcn c 3) (by omega) Q hQ k hk
    have hp0 : 0 < zpop Q := by
      have : ∀ q, q < 64 → 0 < q → 0 < zpop q := by decide +kernel
      exact this Q hQ64 (by omega)
    obtain ⟨-, -, b3, b4⟩ := zev_n D h8 hq (l := zpl (zpop Q) Q k) (by rw [pi.1]; exact hp0) (by rw [pi.1]; exact hp6) (fun i hi => pi.2 i (by rw [pi.1] at hi; exact hi))
    rw [pi.1] at b3
    have a' : ((zolr c g (zcn c 5) (zcn c 3) q (zNv g 4 q 2) O w p).2.1 Q, (zolr c g (zcn c 5) (zcn c 3) q (zNv g 4 q 2) O w p).2.2 Q) = (nI (zNwo g (zcn c 5) q (zpl (zpop Q) Q k)), zpkP (zpl (zpop Q) Q k)) := by
      rw [ez, ← p1]
      exact a
    refine ⟨_, _, fun i => (zpl (zpop Q) Q k).getD i 0, b4, b3, ?_, p2, p3, fun i hi => ⟨?_, p4 i hi⟩⟩
    · have a1 : (zolr c g (zcn c 5) (zcn c 3) q (zNv g 4 q 2) O w p).2.1 Q = nI (zNwo g (zcn c 5) q (zpl (zpop Q) Q k)) := congrArg Prod.fst a'
      rw [a1, zNwo, pi.1]
    · have a2 : (zolr c g (zcn c 5) (zcn c 3) q (zNv g 4 q 2) O w p).2.2 Q = zpkP (zpl (zpop Q) Q k) := congrArg Prod.snd a'
      rw [a2]
      exact zpk_at Q hQ64 k hk i hi
end NZN2
