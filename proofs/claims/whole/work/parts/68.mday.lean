/-! what both days say: counts, cells, bounds -/
def zcol (s : Nat) : Nat := [2, 2, 1, 7, 5, 2, 2, 2, 2].getD s 0
def zfl (s k : Nat) : Nat := ([[11, 12], [13, 14], [15], [18, 19, 20, 21, 22, 23, 24], [26, 27, 28, 29, 25], [16, 17], [30, 31], [32, 33]].getD s []).getD k 0
def zcf (s : Nat) : Nat := [2, 3, 4, 5, 6, 7, 8, 9].getD s 0
/-- least and most of a column; none for letters and names -/
def zbd (s k : Nat) : Option (Nat × Nat) := ([[some (0, 99), some (60, 99)], [none, some (1, 99)], [none], [some (0, 99), none, some (0, 30), some (0, 60), some (0, 100), some (1, 9), some (0, 1)], [none, some (500, 800), some (1, 6), some (0, 50), some (0, 1)], [some (0, 98), some (1, 60)], [some (1, 60), some (0, 100)], [some (0, 127), some (1, 7)], [some (40, 90), some (600, 900)]].getD s []).getD k none
def zcn (c : Nat → Int32) (s : Nat) : Nat := (c s).toNatClampNeg
def zDR (c g J : Nat → Int32) (B : Nat → Nat → Int32) : Prop :=
  (∀ s, s < 9 → c s = nI (zcn c s) ∧ zcn c s ≤ zroom s) ∧
  (∀ s, s < 8 → J (zcf s) = c s) ∧
  (∀ s r k, s < 8 → r < zcn c s → k < zcol s → B (zfl s k) r = g ((s * 6 + r) * 7 + k)) ∧
  (∀ s r k a b, s < 9 → r < zcn c s → k < zcol s → zbd s k = some (a, b) → ∃ v, a ≤ v ∧ v ≤ b ∧ g ((s * 6 + r) * 7 + k) = nI v) ∧
  (∀ r, r < zcn c 3 → ∃ v, v < zcn c 2 ∧ g ((3 * 6 + r) * 7 + 1) = nI v) ∧
  (∀ r, r < zcn c 4 → ∃ v, v < zcn c 0 ∧ g ((4 * 6 + r) * 7 + 0) = nI v) ∧
  (∀ s r k, s < 9 → zcn c s ≤ r → r < 6 → k < 7 → g ((s * 6 + r) * 7 + k) = 0) ∧
  (zcn c 8 = 0 → J 0 = -1) ∧ (0 < zcn c 8 → J 0 = g 336 ∧ J 1 = g 337)
def zSm (c : Nat → Int32) : Nat := zcn c 0 + zcn c 1 + zcn c 2 + zcn c 3 + zcn c 4 + zcn c 6 + zcn c 7
def zDD (N : zNT) (c g J : Nat → Int32) (B : Nat → Nat → Int32) (Wd : Nat → Int64) : Prop := zNm N c J B Wd ∧ zDR c g J B ∧ N.1 = zSm c
theorem zcn_up (c : Nat → Int32) (s m q : Nat) (hm : m < 6) : zcn (upd c s (nI (m + 1))) q = if q = s then m + 1 else zcn c q := by
  rw [zcn, upd_at]
  split
  · exact nI_clamp (by omega)
  · rfl
theorem zcol_7 : ∀ s, s < 9 → zcol s ≤ 7 := by decide +kernel
theorem zfl_35 : ∀ s, s < 8 → ∀ k, k < zcol s → zfl s k < 35 := by decide +kernel
theorem zfl_ne : ∀ s, s < 8 → ∀ q, q < 8 → (q = s ∨ ∀ k, k < zcol s → ∀ k', k' < zcol q → ¬ zfl q k' = zfl s k) := by decide +kernel
theorem zfl_ok (s : Nat) (hs : s < 8) (k : Nat) (hk : k < zcol s) : zfl s k < 35 ∧ ∀ s', s' < 8 → s' ≠ s → ∀ k', k' < zcol s' → zfl s' k' ≠ zfl s k := ⟨zfl_35 s hs k hk, fun q hq ne k' hk' => (zfl_ne s hs q hq).elim (fun z => absurd z ne) (fun z => z k hk k' hk')⟩
theorem zcf_ok : ∀ s, s < 8 → ∀ s', s' < 8 → s' ≠ s → zcf s' ≠ zcf s := by decide +kernel
/-- a row more -/
theorem zDR_add {c g J : Nat → Int32} {B : Nat → Nat → Int32} {g' J' : Nat → Int32} {B' : Nat → Nat → Int32} (D : zDR c g J B) {s m : Nat} (hs : s < 8) (em : zcn c s = m) (hm : m < zroom s) (hg : ∀ i, i < (s * 6 + m) * 7 ∨ (s * 6 + m) * 7 + 7 ≤ i → g' i = g i) (hJ : J' (zcf s) = nI (m + 1)) (hJ' : ∀ s', s' < 8 → s' ≠ s → J' (zcf s') = J (zcf s')) (hJ0 : J' 0 = J 0 ∧ J' 1 = J 1) (hB : ∀ k, k < zcol s → B' (zfl s k) m = g' ((s * 6 + m) * 7 + k)) (hB' : ∀ f r, f < 35 → (r < m ∨ ∀ k, k < zcol s → f ≠ zfl s k) → B' f r = B f r) (hv : ∀ k a b, k < zcol s → zbd s k = some (a, b) → ∃ v, a ≤ v ∧ v ≤ b ∧ g' ((s * 6 + m) * 7 + k) = nI v) (h3 : s = 3 → ∃ v, v < zcn c 2 ∧ g' ((3 * 6 + m) * 7 + 1) = nI v) (h4 : s = 4 → ∃ v, v < zcn c 0 ∧ g' ((4 * 6 + m) * 7 + 0) = nI v) : zDR (upd c s (nI (m + 1))) g' J' B' := by
  obtain ⟨d1, d2, d3, d4, d5, d6, d7, d8, d9⟩ := D
  have r6 : ∀ q, q < 9 → zroom q ≤ 6 := fun q hq => (zroom_I q hq).2
  have hm6 : m < 6 := Nat.lt_of_lt_of_le hm (r6 s (by omega))
  have cu := fun q => zcn_up c s m q hm6
  have gE : ∀ q r k, q < 9 → r < 6 → k < 7 → (q ≠ s ∨ r ≠ m) → g' ((q * 6 + r) * 7 + k) = g ((q * 6 + r) * 7 + k) := fun q r k hq hr hk ne => hg _ (by omega)
  refine ⟨fun q hq => ?_, fun q hq => ?_, fun q r k hq hr hk => ?_, fun q r k a b hq hr hk hb => ?_, fun r hr => ?_, fun r hr => ?_, fun q r k hq hr hr6 hk => ?_, fun z => ?_, fun z => ?_⟩
  · rw [cu q]
    by_cases y : q = s
    · rw [if_pos y, y, upd_eq]
      exact ⟨rfl, by omega⟩
    · rw [if_neg y, upd_ne y]
      exact d1 q hq
  · by_cases y : q = s
    · rw [y, upd_eq]
      exact hJ
    · rw [upd_ne y, hJ' q hq y]
      exact d2 q hq
  · rw [cu q] at hr
    have k7 := zcol_7 q (by omega)
    by_cases y : q = s
    · rw [if_pos y] at hr
      subst y
      by_cases x : r = m
      · subst x
        exact hB k hk
      · rw [hB' _ _ (zfl_ok q hq k hk).1 (.inl (by omega)), gE q r k (by omega) (by omega) (by omega) (.inr x)]
        exact d3 q r k hq (by omega) hk
    · rw [if_neg y] at hr
      have := d1 q (by omega)
      have := r6 q (by omega)
      rw [hB' _ _ (zfl_ok q hq k hk).1 (.inr (fun k' hk' => ((zfl_ok s hs k' hk').2 q hq y k hk))), gE q r k (by omega) (by omega) (by omega) (.inl y)]
      exact d3 q r k hq hr hk
  · rw [cu q] at hr
    have k7 := zcol_7 q (by omega)
    by_cases y : q = s
    · rw [if_pos y] at hr
      subst y
      by_cases x : r = m
      · subst x
        exact hv k a b hk hb
      · rw [gE q r k (by omega) (by omega) (by omega) (.inr x)]
        exact d4 q r k a b hq (by omega) hk hb
    · rw [if_neg y] at hr
      have := d1 q (by omega)
      have := r6 q (by omega)
      rw [gE q r k (by omega) (by omega) (by omega) (.inl y)]
      exact d4 q r k a b hq hr hk hb
  · rw [cu 3] at hr
    rw [cu 2]
    have two : ∀ v, v < zcn c 2 → v < if 2 = s then m + 1 else zcn c 2 := fun v hv => by
      split
      · rename_i y; subst y; omega
      · exact hv
    by_cases y : 3 = s
    · rw [if_pos y] at hr
      by_cases x : r = m
      · subst x
        obtain ⟨v, v1, v2⟩ := h3 y.symm
        exact ⟨v, two v v1, v2⟩
      · rw [gE 3 r 1 (by decide) (by omega) (by decide) (.inr x)]
        obtain ⟨v, v1, v2⟩ := d5 r (by rw [y, em]; omega)
        exact ⟨v, two v v1, v2⟩
    · rw [if_neg y] at hr
      have := d1 3 (by omega)
      have := r6 3 (by omega)
      rw [gE 3 r 1 (by decide) (by omega) (by decide) (.inl y)]
      obtain ⟨v, v1, v2⟩ := d5 r hr
      exact ⟨v, two v v1, v2⟩
  · rw [cu 4] at hr
    rw [cu 0]
    have two : ∀ v, v < zcn c 0 → v < if 0 = s then m + 1 else zcn c 0 := fun v hv => by
      split
      · rename_i y; subst y; omega
      · exact hv
    by_cases y : 4 = s
    · rw [if_pos y] at hr
      by_cases x : r = m
      · subst x
        obtain ⟨v, v1, v2⟩ := h4 y.symm
        exact ⟨v, two v v1, v2⟩
      · rw [gE 4 r 0 (by decide) (by omega) (by decide) (.inr x)]
        obtain ⟨v, v1, v2⟩ := d6 r (by rw [y, em]; omega)
        exact ⟨v, two v v1, v2⟩
    · rw [if_neg y] at hr
      have := d1 4 (by omega)
      have := r6 4 (by omega)
      rw [gE 4 r 0 (by decide) (by omega) (by decide) (.inl y)]
      obtain ⟨v, v1, v2⟩ := d6 r hr
      exact ⟨v, two v v1, v2⟩
  · rw [cu q] at hr
    by_cases y : q = s
    · rw [if_pos y] at hr
      rw [gE q r k hq hr6 hk (.inr (by omega))]
      exact d7 q r k hq (by rw [y, em]; omega) hr6 hk
    · rw [if_neg y] at hr
      rw [gE q r k hq hr6 hk (.inl y)]
      exact d7 q r k hq hr hr6 hk
  · rw [cu 8, if_neg (by omega)] at z
    rw [hJ0.1]
    exact d8 z
  · rw [cu 8, if_neg (by omega)] at z
    have e1 := gE 8 0 0 (by decide) (by decide) (by decide) (.inl (by omega))
    have e2 := gE 8 0 1 (by decide) (by decide) (by decide) (.inl (by omega))
    rw [hJ0.1, hJ0.2, show (336 : Nat) = (8 * 6 + 0) * 7 + 0 from rfl, show (337 : Nat) = (8 * 6 + 0) * 7 + 1 from rfl, e1, e2]
    exact d9 z
theorem zNm_add {N : zNT} {c J : Nat → Int32} {B : Nat → Nat → Int32} {Wd : Nat → Int64} (M : zNm N c J B Wd) {s m : Nat} (hs : s < 8) (hm : m < 6) (hc : c s = nI m) (hN : N.1 < 32) (pk : Int64) : zNm (N.1 + 1, vp_updL N.2.1 N.1 pk, upd N.2.2.1 N.1 (nI s), upd N.2.2.2 N.1 (nI m)) (upd c s (nI (m + 1))) (upd J 10 (nI (N.1 + 1))) (va_up (va_up B 35 (upd (B 35) N.1 (nI (zs3 s)))) 36 (upd (B 36) N.1 (nI m))) (vp_updL Wd N.1 pk) := by
  refine ⟨by dsimp only; omega, upd_eq _ _ _, fun i hi => ?_⟩
  have hi : i < N.1 + 1 := hi
  dsimp only
  rw [va_up_ne _ _ (show 35 ≠ 36 by decide), va_up_self, va_up_self]
  by_cases y : i = N.1
  · subst y
    refine ⟨by simp [vp_updL], s, m, m + 1, by omega, upd_eq _ _ _, by omega, by omega, upd_eq _ _ _, upd_eq _ _ _, upd_eq _ _ _, upd_eq _ _ _⟩
  · obtain ⟨h1, s', r, n, s1, s2, s3, s4, s5, s6, s7, s8⟩ := M.2.2 i (by omega)
    refine ⟨by simp only [vp_updL, if_neg y]; exact h1, s', r, if s' = s then m + 1 else n, s1, ?_, ?_, ?_, by rw [upd_ne y]; exact s5, by rw [upd_ne y]; exact s6, by rw [upd_ne y]; exact s7, by rw [upd_ne y]; exact s8⟩
    · rw [upd_at]
      split
      · rfl
      · exact s2
    · split
      · rename_i z
        rw [z, hc, nI_eq (by omega) (by omega)] at s2
        omega
      · exact s3
    · split
      · omega
      · exact s4
theorem zNm_cg {N : zNT} {c c' J J' : Nat → Int32} {B B' : Nat → Nat → Int32} {Wd : Nat → Int64} (M : zNm N c J B Wd) (hc : ∀ s n, s < 9 → c s = nI n → n ≤ 6 → ∃ n', n ≤ n' ∧ n' ≤ 6 ∧ c' s = nI n') (hJ : J' 10 = J 10) (hB : B' 35 = B 35 ∧ B' 36 = B 36) : zNm N c' J' B' Wd := by
  refine ⟨M.1, hJ.trans M.2.1, fun i hi => ?_⟩
  obtain ⟨h1, s', r, n, s1, s2, s3, s4, s5, s6, s7, s8⟩ := M.2.2 i hi
  obtain ⟨n', n1, n2, n3⟩ := hc s' n s1 s2 s4
  exact ⟨h1, s', r, n', s1, n3, by omega, n2, s5, by rw [hB.1]; exact s6, s7, by rw [hB.2]; exact s8⟩
