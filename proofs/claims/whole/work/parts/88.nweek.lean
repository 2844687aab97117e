/-! the first of the best weeks -/
def zpd (Wi : Nat → Nat → Bool) (e : Nat) (L : Nat → Nat) (q : Nat) : Prop := Wi q e = true ∧ 0 < L q
/-- who: the day's first helper that leaves the most, or nobody (hn) -/
def zgr (Wi : Nat → Nat → Bool) (hn : Nat) (who : Nat → Nat) : Nat → Nat → (Nat → Nat) → Prop
  | 0, _, _ => True
  | j + 1, e, L => (who e < hn ∧ zpd Wi e L (who e) ∧ zF Wi 5 (j + 1) e L = 1 + zF Wi 5 j (e + 1) (zdc L (who e)) ∧ (∀ q, q < who e → zpd Wi e L q → 1 + zF Wi 5 j (e + 1) (zdc L q) < zF Wi 5 (j + 1) e L) ∧ zgr Wi hn who j (e + 1) (zdc L (who e))) ∨ (who e = hn ∧ (∀ q, q < hn → zpd Wi e L q → 1 + zF Wi 5 j (e + 1) (zdc L q) < zF Wi 5 (j + 1) e L) ∧ zF Wi 5 (j + 1) e L = zF Wi 5 j (e + 1) L ∧ zgr Wi hn who j (e + 1) L)
/-- the days filled, if all are allowed -/
def zvk (Wi : Nat → Nat → Bool) (hn : Nat) (who : Nat → Nat) : Nat → Nat → (Nat → Nat) → Option Nat
  | 0, _, _ => some 0
  | j + 1, e, L => if who e = hn then zvk Wi hn who j (e + 1) L else if Wi (who e) e = true ∧ 0 < L (who e) then (zvk Wi hn who j (e + 1) (zdc L (who e))).map (fun n => 1 + n) else none
section NZWEEK
variable {Wi : Nat → Nat → Bool} {hn : Nat} {who : Nat → Nat}
theorem zF_0 {j e : Nat} {L : Nat → Nat} : zF Wi 5 j (e + 1) L ≤ zF Wi 5 (j + 1) e L := by
  rw [zF]
  exact zbx_a 5
theorem zF_1 {j e q : Nat} {L : Nat → Nat} (hq : q < 5) (hp : zpd Wi e L q) : 1 + zF Wi 5 j (e + 1) (zdc L q) ≤ zF Wi 5 (j + 1) e L := by
  rw [zF]
  exact zbx_q (p := fun q => Wi q e && decide (0 < L q)) (f := fun q => 1 + zF Wi 5 j (e + 1) (zdc L q)) (a := zF Wi 5 j (e + 1) L) 5 q hq (by rw [hp.1, decide_eq_true hp.2]; rfl)
theorem zF_ex {j e : Nat} {L : Nat → Nat} : zF Wi 5 (j + 1) e L = zF Wi 5 j (e + 1) L ∨ ∃ q, q < 5 ∧ zpd Wi e L q ∧ zF Wi 5 (j + 1) e L = 1 + zF Wi 5 j (e + 1) (zdc L q) := by
  rw [zF]
  cases zbx_ex (p := fun q => Wi q e && decide (0 < L q)) (f := fun q => 1 + zF Wi 5 j (e + 1) (zdc L q)) (a := zF Wi 5 j (e + 1) L) 5 with
  | inl z => exact Or.inl z
  | inr z =>
    obtain ⟨q, q1, q2, q3⟩ := z
    rw [Bool.and_eq_true, decide_eq_true_eq] at q2
    exact Or.inr ⟨q, q1, q2, q3⟩
theorem zvk_le (h5 : hn ≤ 5) (hw : ∀ e, who e ≤ hn) : ∀ j e L n, zvk Wi hn who j e L = some n → n ≤ zF Wi 5 j e L := by
  intro j
  induction j with
  | zero => intro e L n h; cases h; exact Nat.le_refl _
  | succ j ih =>
    intro e L n h
    rw [zvk] at h
    split at h
    · exact Nat.le_trans (ih _ _ _ h) zF_0
    · rename_i y
      split at h
      · rename_i z
        cases er : zvk Wi hn who j (e + 1) (zdc L (who e)) with
        | none => rw [er] at h; cases h
        | some k =>
          rw [er] at h
          cases h
          have := ih _ _ _ er
          have := hw e
          have := zF_1 (j := j) (q := who e) (L := L) (by omega) z
          show 1 + k ≤ _
          omega
      · cases h
theorem zgr_vk : ∀ j e L, zgr Wi hn who j e L → zvk Wi hn who j e L = some (zF Wi 5 j e L) := by
  intro j
  induction j with
  | zero => intro e L _; rfl
  | succ j ih =>
    intro e L h
    rw [zgr] at h
    rw [zvk]
    cases h with
    | inl h =>
      obtain ⟨h1, h2, h3, h4, h5⟩ := h
      rw [if_neg (by omega), if_pos (show Wi (who e) e = true ∧ 0 < L (who e) from h2), ih _ _ h5, h3]
      rfl
    | inr h =>
      obtain ⟨h1, h2, h3, h4⟩ := h
      rw [if_pos h1, ih _ _ h4, h3]
theorem zgr_lex {wh : Nat → Nat} (h5 : hn ≤ 5) (hw : ∀ e, who e ≤ hn) : ∀ j e L, zgr Wi hn wh j e L → zvk Wi hn who j e L = some (zF Wi 5 j e L) → (∀ x, e ≤ x → x < e + j → who x = wh x) ∨ ∃ x, e ≤ x ∧ x < e + j ∧ (∀ y, e ≤ y → y < x → who y = wh y) ∧ wh x < who x := by
  intro j
  induction j with
  | zero => intro e L _ _; exact Or.inl (fun x h1 h2 => by omega)
  | succ j ih =>
    intro e L h v
    have step : ∀ L', who e = wh e → zgr Wi hn wh j (e + 1) L' → zvk Wi hn who j (e + 1) L' = some (zF Wi 5 j (e + 1) L') → (∀ x, e ≤ x → x < e + (j + 1) → who x = wh x) ∨ ∃ x, e ≤ x ∧ x < e + (j + 1) ∧ (∀ y, e ≤ y → y < x → who y = wh y) ∧ wh x < who x := by
      intro L' we g1 v1
      cases ih (e + 1) L' g1 v1 with
      | inl a =>
        refine Or.inl (fun x h1 h2 => ?_)
        by_cases z : x = e
        · rw [z]; exact we
        · exact a x (by omega) (by omega)
      | inr a =>
        obtain ⟨x, x1, x2, x3, x4⟩ := a
        refine Or.inr ⟨x, by omega, by omega, fun y h1 h2 => ?_, x4⟩
        by_cases z : y = e
        · rw [z]; exact we
        · exact x3 y (by omega) (by omega)
    have hwe := hw e
    rw [zvk] at v
    rw [zgr] at h
    by_cases y : who e = hn
    · rw [if_pos y] at v
      have b := zvk_le h5 hw _ _ _ _ v
      cases h with
      | inl h => exact Or.inr ⟨e, by omega, by omega, fun y h1 h2 => by omega, by omega⟩
      | inr h =>
        obtain ⟨h1, h2, h3, h4⟩ := h
        rw [h3] at v
        exact step L (by omega) h4 v
    · rw [if_neg y] at v
      by_cases z : Wi (who e) e = true ∧ 0 < L (who e)
      · rw [if_pos z] at v
        cases er : zvk Wi hn who j (e + 1) (zdc L (who e)) with
        | none => rw [er] at v; cases v
        | some k =>
          rw [er] at v
          have ek : 1 + k = zF Wi 5 (j + 1) e L := Option.some.inj v
          have b := zvk_le h5 hw _ _ _ _ er
          cases h with
          | inl h =>
            obtain ⟨h1, h2, h3, h4, h6⟩ := h
            by_cases l1 : who e < wh e
            · have := h4 (who e) l1 z
              omega
            · by_cases l2 : who e = wh e
              · rw [l2] at er b
                refine step (zdc L (wh e)) l2 h6 ?_
                rw [er, show k = zF Wi 5 j (e + 1) (zdc L (wh e)) by omega]
              · exact Or.inr ⟨e, by omega, by omega, fun y h1 h2 => by omega, by omega⟩
          | inr h =>
            obtain ⟨h1, h2, h3, h4⟩ := h
            have := h2 (who e) (by omega) z
            omega
      · rw [if_neg z] at v
        cases v
/-- what a week is worth -/
theorem zwv_some {M : Nat → Nat} : ∀ (j e n b : Nat) (wk : Nat → Nat) (v : Nat), (∀ q, wk q ≤ b) → b ≤ e → zwv hn Wi M who j e n b wk = some v → ∃ n' b', v = 8 * (n + n') + 7 - b' ∧ b ≤ b' ∧ b' ≤ e + j ∧ n' ≤ j ∧ zvk Wi hn who j e (fun q => min (M q) b' - wk q) = some n' := by
  intro j
  induction j with
  | zero =>
    intro e n b wk v hb he h
    cases h
    exact ⟨0, b, rfl, Nat.le_refl _, he, Nat.le_refl _, rfl⟩
  | succ j ih =>
    intro e n b wk v hb he h
    rw [zwv] at h
    by_cases y : who e = hn
    · rw [if_pos y] at h
      obtain ⟨n', b', h1, h2, h3, h4, h5⟩ := ih (e + 1) n b wk v hb (by omega) h
      refine ⟨n', b', h1, h2, by omega, by omega, ?_⟩
      rw [zvk, if_pos y]
      exact h5
    · rw [if_neg y] at h
      by_cases z : Wi (who e) e = true ∧ wk (who e) + 1 ≤ M (who e)
      · rw [if_pos z] at h
        have hbe := hb (who e)
        obtain ⟨n', b', h1, h2, h3, h4, h5⟩ := ih (e + 1) (n + 1) _ _ v (fun q => by
          have := hb q
          rw [va_up]
          split
          · split <;> omega
          · split <;> omega) (by split <;> omega) h
        have hb' : b ≤ b' ∧ wk (who e) + 1 ≤ b' := by
          split at h2 <;> omega
        refine ⟨1 + n', b', by omega, hb'.1, by omega, by omega, ?_⟩
        rw [zvk, if_neg y, if_pos ⟨z.1, by show 0 < min (M (who e)) b' - wk (who e); omega⟩]
        have : zdc (fun q => min (M q) b' - wk q) (who e) = fun q => min (M q) b' - va_up wk (who e) (wk (who e) + 1) q := by
          funext q
          rw [zdc, va_up]
          split
          · rename_i w
            subst w
            show min (M (who e)) b' - wk (who e) - 1 = _
            omega
          · rfl
        rw [this, h5]
        rfl
      · rw [if_neg z] at h
        cases h
theorem zwv_of {M : Nat → Nat} {c : Nat} : ∀ (j e n b : Nat) (wk : Nat → Nat) (n' : Nat), (∀ q, wk q ≤ b) → b ≤ c → zvk Wi hn who j e (fun q => min (M q) c - wk q) = some n' → ∃ b', zwv hn Wi M who j e n b wk = some (8 * (n + n') + 7 - b') ∧ b' ≤ c := by
  intro j
  induction j with
  | zero =>
    intro e n b wk n' hb hc h
    cases h
    exact ⟨b, rfl, hc⟩
  | succ j ih =>
    intro e n b wk n' hb hc h
    rw [zvk] at h
    rw [zwv]
    by_cases y : who e = hn
    · rw [if_pos y] at h
      rw [if_pos y]
      exact ih (e + 1) n b wk n' hb hc h
    · rw [if_neg y] at h
      rw [if_neg y]
      by_cases z : Wi (who e) e = true ∧ 0 < min (M (who e)) c - wk (who e)
      · rw [if_pos z] at h
        have hbe := hb (who e)
        have this : zdc (fun q => min (M q) c - wk q) (who e) = fun q => min (M q) c - va_up wk (who e) (wk (who e) + 1) q := by
          funext q
          rw [zdc, va_up]
          split
          · rename_i w
            subst w
            show min (M (who e)) c - wk (who e) - 1 = _
            omega
          · rfl
        rw [this] at h
        cases er : zvk Wi hn who j (e + 1) (fun q => min (M q) c - va_up wk (who e) (wk (who e) + 1) q) with
        | none => rw [er] at h; cases h
        | some k =>
          rw [er] at h
          have ek : 1 + k = n' := Option.some.inj h
          rw [if_pos (show Wi (who e) e = true ∧ wk (who e) + 1 ≤ M (who e) from ⟨z.1, by omega⟩)]
          obtain ⟨b', h1, h2⟩ := ih (e + 1) (n + 1) (if wk (who e) + 1 ≤ b then b else wk (who e) + 1) _ k (fun q => by
            have := hb q
            rw [va_up]
            split
            · split <;> omega
            · split <;> omega) (by split <;> omega) er
          refine ⟨b', ?_, h2⟩
          rw [h1, ← ek, Nat.add_assoc]
      · rw [if_neg z] at h
        cases h
end NZWEEK
