/-! the reference's choice: the first of the best weeks -/
section NZFIRST
variable {Wi : Nat → Nat → Bool} {hn : Nat}
def zen (hn : Nat) (who : Nat → Nat) : Nat → Nat
  | 0 => 0
  | e + 1 => zen hn who e * (hn + 1) + who e
theorem zen_lt {who : Nat → Nat} (hw : ∀ e, who e ≤ hn) : ∀ e, zen hn who e < (hn + 1) ^ e := by
  intro e
  induction e with
  | zero => exact Nat.one_pos
  | succ e ih =>
    have h1 := hw e
    have : zen hn who e * (hn + 1) + who e < (zen hn who e + 1) * (hn + 1) := by
      rw [Nat.succ_mul]
      omega
    rw [zen, Nat.pow_succ]
    exact Nat.lt_of_lt_of_le this (Nat.mul_le_mul_right _ ih)
theorem zen_div {who : Nat → Nat} (hw : ∀ e, who e ≤ hn) : ∀ k, k ≤ 7 → zen hn who 7 / (hn + 1) ^ k = zen hn who (7 - k) := by
  intro k
  induction k with
  | zero => intro _; rw [Nat.pow_zero, Nat.div_one]
  | succ k ih =>
    intro hk
    rw [Nat.pow_succ, ← Nat.div_div_eq_div_mul, ih (by omega), show 7 - k = (7 - (k + 1)) + 1 by omega, zen, Nat.mul_comm, Nat.mul_add_div (by omega), Nat.div_eq_of_lt (by have := hw (7 - (k + 1)); omega), Nat.add_zero]
theorem zen_d {who : Nat → Nat} (hw : ∀ e, who e ≤ hn) {e : Nat} (he : e < 7) : zwd hn (zen hn who 7) e = who e := by
  have := hw e
  rw [zwd, zen_div hw (6 - e) (by omega), show 7 - (6 - e) = e + 1 by omega, zen, Nat.mul_comm, Nat.mul_add_mod, Nat.mod_eq_of_lt (by omega)]
theorem zwd_le (a e : Nat) : zwd hn a e ≤ hn := by
  have := Nat.mod_lt (a / (hn + 1) ^ (6 - e)) (show 0 < hn + 1 by omega)
  rw [zwd]
  omega
theorem zwd_pre {a b : Nat} (ha : a < (hn + 1) ^ 7) (hb : b < (hn + 1) ^ 7) : ∀ e, e ≤ 7 → (∀ y, y < e → zwd hn a y = zwd hn b y) → a / (hn + 1) ^ (7 - e) = b / (hn + 1) ^ (7 - e) := by
  intro e
  induction e with
  | zero => intro _ _; rw [Nat.div_eq_of_lt ha, Nat.div_eq_of_lt hb]
  | succ e ih =>
    intro he h
    have h1 := ih (by omega) (fun y hy => h y (by omega))
    have h2 := h e (by omega)
    rw [zwd, zwd] at h2
    rw [show 7 - e = (6 - e) + 1 by omega, Nat.pow_succ, ← Nat.div_div_eq_div_mul, ← Nat.div_div_eq_div_mul] at h1
    rw [show 7 - (e + 1) = 6 - e by omega, ← Nat.div_add_mod (a / (hn + 1) ^ (6 - e)) (hn + 1), ← Nat.div_add_mod (b / (hn + 1) ^ (6 - e)) (hn + 1), h1, h2]
theorem zwd_lt {a b x : Nat} (ha : a < (hn + 1) ^ 7) (hb : b < (hn + 1) ^ 7) (hx : x < 7) (he : ∀ y, y < x → zwd hn b y = zwd hn a y) (hl : zwd hn a x < zwd hn b x) : a < b := by
  have h1 := zwd_pre ha hb x (by omega) (fun y hy => (he y hy).symm)
  rw [show 7 - x = (6 - x) + 1 by omega, Nat.pow_succ, ← Nat.div_div_eq_div_mul, ← Nat.div_div_eq_div_mul] at h1
  rw [zwd, zwd] at hl
  have h2 : a / (hn + 1) ^ (6 - x) < b / (hn + 1) ^ (6 - x) := by
    rw [← Nat.div_add_mod (a / (hn + 1) ^ (6 - x)) (hn + 1), ← Nat.div_add_mod (b / (hn + 1) ^ (6 - x)) (hn + 1), h1]
    omega
  apply Decidable.byContradiction
  intro h
  have := Nat.div_le_div_right (c := (hn + 1) ^ (6 - x)) (show b ≤ a by omega)
  omega
theorem zwd_eq {a b : Nat} (ha : a < (hn + 1) ^ 7) (hb : b < (hn + 1) ^ 7) (he : ∀ y, y < 7 → zwd hn b y = zwd hn a y) : a = b := by
  have := zwd_pre ha hb 7 (by omega) (fun y hy => (he y hy).symm)
  rw [Nat.sub_self, Nat.pow_zero, Nat.div_one, Nat.div_one] at this
  exact this
def zol (a b : Option Nat) : Prop := zolt a b = true
theorem zfi_ge {M : Nat → Nat} {V : Nat} : ∀ (j a : Nat), (∀ x, a ≤ x → x < a + j → zolt (some V) (zwv hn Wi M (zwd hn x) 7 0 0 0 (fun _ => 0)) = false) → ∀ b, zit (zfiS hn Wi M) a j (some V, b) = (some V, b) := by
  intro j
  induction j with
  | zero => intro a _ b; rfl
  | succ j ih =>
    intro a h b
    rw [zit, zfiS, if_neg (by rw [h a (by omega) (by omega)]; decide)]
    exact ih (a + 1) (fun x h1 h2 => h x (by omega) (by omega)) b
theorem zfi_lt {M : Nat → Nat} {V : Nat} : ∀ (j a : Nat), (∀ x, a ≤ x → x < a + j → zolt (zwv hn Wi M (zwd hn x) 7 0 0 0 (fun _ => 0)) (some V) = true) → ∀ s, zolt s.1 (some V) = true → zolt (zit (zfiS hn Wi M) a j s).1 (some V) = true := by
  intro j
  induction j with
  | zero => intro a _ s hs; exact hs
  | succ j ih =>
    intro a h s hs
    rw [zit]
    refine ih (a + 1) (fun x h1 h2 => h x (by omega) (by omega)) _ ?_
    rw [zfiS]
    split
    · exact h a (by omega) (by omega)
    · exact hs
theorem zfi_first {M : Nat → Nat} {V N a : Nat} (ha : a < N) (hv : zwv hn Wi M (zwd hn a) 7 0 0 0 (fun _ => 0) = some V) (h1 : ∀ x, x < a → zolt (zwv hn Wi M (zwd hn x) 7 0 0 0 (fun _ => 0)) (some V) = true) (h2 : ∀ x, x < N → zolt (some V) (zwv hn Wi M (zwd hn x) 7 0 0 0 (fun _ => 0)) = false) : zit (zfiS hn Wi M) 0 N (none, 0) = (some V, a) := by
  have l := zfi_lt (hn := hn) (Wi := Wi) (M := M) (V := V) a 0 (fun x _ h => h1 x (by omega)) (none, 0) rfl
  obtain ⟨k, rfl⟩ : ∃ k, N = a + (1 + k) := ⟨N - a - 1, by omega⟩
  rw [zit_add, zit_add, Nat.zero_add]
  have e1 : zit (zfiS hn Wi M) a 1 (zit (zfiS hn Wi M) 0 a (none, 0)) = (some V, a) := by
    rw [zit, zit, zfiS, hv, if_pos l]
  rw [e1]
  exact zfi_ge k (a + 1) (fun x h3 h4 => h2 x (by omega)) a
/-- the week chosen -/
theorem zfi_eq {M : Nat → Nat} {who : Nat → Nat} {c : Nat} (h5 : hn ≤ 5) (hw : ∀ e, who e ≤ hn) (hc : c ≤ 7) (c1 : zF Wi 5 7 0 (fun q => min (M q) c) = zF Wi 5 7 0 M) (c2 : ∀ b, b < c → zF Wi 5 7 0 (fun q => min (M q) b) ≠ zF Wi 5 7 0 M) (g : zgr Wi hn who 7 0 (fun q => min (M q) c)) : zit (zfiS hn Wi M) 0 ((hn + 1) ^ 7) (none, 0) = (some (8 * zF Wi 5 7 0 M + 7 - c), zen hn who 7) := by
  have dg : ∀ e, e < 7 → zwd hn (zen hn who 7) e = who e := fun e he => zen_d hw he
  have up : ∀ (w : Nat → Nat) (v : Nat), (∀ e, w e ≤ hn) → zwv hn Wi M w 7 0 0 0 (fun _ => 0) = some v → v ≤ 8 * zF Wi 5 7 0 M + 7 - c ∧ (v = 8 * zF Wi 5 7 0 M + 7 - c → zvk Wi hn w 7 0 (fun q => min (M q) c) = some (zF Wi 5 7 0 M)) := by
    intro w v hw' hv
    obtain ⟨n', b', a1, a2, a3, a4, a5⟩ := zwv_some 7 0 0 0 (fun _ => 0) v (fun q => Nat.le_refl _) (Nat.le_refl _) hv
    have l1 := zvk_le h5 hw' _ _ _ _ a5
    have e0 : (fun q => min (M q) b' - 0) = fun q => min (M q) b' := rfl
    rw [e0] at l1 a5
    have l2 : zF Wi 5 7 0 (fun q => min (M q) b') ≤ zF Wi 5 7 0 M := zF_mono (fun q _ => Nat.min_le_left _ _) 7 0
    by_cases y : n' = zF Wi 5 7 0 M
    · have l3 : ¬ b' < c := fun z => c2 b' z (by omega)
      refine ⟨by omega, fun z => ?_⟩
      have : b' = c := by omega
      rw [← this, a5, y]
    · refine ⟨by omega, fun z => by omega⟩
  have digits : zwv hn Wi M (zwd hn (zen hn who 7)) 7 0 0 0 (fun _ => 0) = zwv hn Wi M who 7 0 0 0 (fun _ => 0) := by
    have : ∀ (j e n b : Nat) (wk : Nat → Nat), e + j = 7 → zwv hn Wi M (zwd hn (zen hn who 7)) j e n b wk = zwv hn Wi M who j e n b wk := by
      intro j
      induction j with
      | zero => intro e n b wk _; rfl
      | succ j ih =>
        intro e n b wk he
        rw [zwv, zwv, dg e (by omega), ih (e + 1) _ _ _ (by omega), ih (e + 1) _ _ _ (by omega)]
    exact this 7 0 0 0 _ rfl
  have val : zwv hn Wi M who 7 0 0 0 (fun _ => 0) = some (8 * zF Wi 5 7 0 M + 7 - c) := by
    have k := zgr_vk 7 0 _ g
    rw [c1] at k
    obtain ⟨b', h1, h2⟩ := zwv_of (M := M) (c := c) 7 0 0 0 (fun _ => 0) (zF Wi 5 7 0 M) (fun q => Nat.le_refl _) (Nat.zero_le _) k
    have := (up who _ hw h1).1
    rw [h1, show 8 * (0 + zF Wi 5 7 0 M) + 7 - b' = 8 * zF Wi 5 7 0 M + 7 - c by omega]
  have ha := zen_lt hw 7
  refine zfi_first ha (digits.trans val) (fun x hx => ?_) (fun x hx => ?_)
  · cases ev : zwv hn Wi M (zwd hn x) 7 0 0 0 (fun _ => 0) with
    | none => rfl
    | some v =>
      obtain ⟨u1, u2⟩ := up _ v (zwd_le x) ev
      show decide (v < _) = true
      rw [decide_eq_true_eq]
      apply Decidable.byContradiction
      intro z
      have k := u2 (by omega)
      rw [← c1] at k
      cases zgr_lex (who := zwd hn x) (wh := who) h5 (zwd_le x) 7 0 _ g k with
      | inl e =>
        have := zwd_eq (hn := hn) (a := x) (b := zen hn who 7) (by omega) ha (fun y hy => by rw [dg y hy]; exact (e y (Nat.zero_le _) (by omega)).symm)
        omega
      | inr e =>
        obtain ⟨e1, q1, q2, q3, q4⟩ := e
        have := zwd_lt (hn := hn) (a := zen hn who 7) (b := x) (x := e1) ha (by omega) (by omega) (fun y hy => by rw [dg y (by omega)]; exact q3 y (Nat.zero_le _) hy) (by rw [dg e1 (by omega)]; exact q4)
        omega
  · cases ev : zwv hn Wi M (zwd hn x) 7 0 0 0 (fun _ => 0) with
    | none => rfl
    | some v =>
      obtain ⟨u1, u2⟩ := up _ v (zwd_le x) ev
      show decide (_ < v) = false
      rw [decide_eq_false_iff_not]
      omega
end NZFIRST
