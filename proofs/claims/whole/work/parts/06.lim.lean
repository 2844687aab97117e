/-! the limit over the fuel, and its equation -/
theorem nzgo_mono : ∀ (n d : Nat) (m : nzM) (pc : Nat) (ls : nzL) (st : List Value) (h : nzH) (r : Option Value × nzH), nzgo n d m pc ls st h = some r → nzgo (n + 1) d m pc ls st h = some r := by
  intro n
  induction n with
  | zero => intro d m pc ls st h r hr; simp [nzgo] at hr
  | succ n ih =>
    intro d m pc ls st h r hr
    rw [nzgo] at hr ⊢
    cases hd : decode m.2.2.1 pc with
    | error e => rw [hd] at hr; simp at hr
    | ok q =>
      obtain ⟨i, len⟩ := q
      rw [hd] at hr
      dsimp only at hr ⊢
      cases ha : nzstep m pc len i ls st h with
      | none => rw [ha] at hr; simp at hr
      | some a =>
        rw [ha] at hr
        simp only [Option.bind_some] at hr ⊢
        match a, hr with
        | .inl (pc', ls', st', h'), hr => exact ih _ _ _ _ _ _ _ hr
        | .inr (.inl r'), hr => exact hr
        | .inr (.inr (m', as, rest)), hr =>
          cases d with
          | zero => simp at hr
          | succ d' =>
            dsimp only at hr ⊢
            by_cases hrc : nzrc m' as h = true
            · rw [if_pos hrc] at hr ⊢
              cases hin : nzin m' as with
              | none => rw [hin] at hr; simp at hr
              | some l =>
                rw [hin] at hr
                simp only [Option.bind_some] at hr ⊢
                cases hc : nzgo n d' m' 0 l [] h with
                | none => rw [hc] at hr; simp at hr
                | some q =>
                  rw [hc] at hr
                  rw [ih _ _ _ _ _ _ _ hc]
                  simp only [Option.bind_some] at hr ⊢
                  cases hp : nzpush m' q.1 rest with
                  | none => rw [hp] at hr; simp at hr
                  | some st' =>
                    rw [hp] at hr
                    simp only [Option.bind_some] at hr ⊢
                    exact ih _ _ _ _ _ _ _ hr
            · rw [if_neg hrc] at hr; simp at hr
theorem nzgo_le {n k d : Nat} {m : nzM} {pc : Nat} {ls : nzL} {st : List Value} {h : nzH} {r : Option Value × nzH} (hnk : n ≤ k) (hr : nzgo n d m pc ls st h = some r) : nzgo k d m pc ls st h = some r := by
  induction hnk with
  | refl => exact hr
  | step _ ih => exact nzgo_mono _ _ _ _ _ _ _ _ ih
noncomputable def nzr (d : Nat) (m : nzM) (pc : Nat) (ls : nzL) (st : List Value) (h : nzH) : nzO :=
  @dite _ (∃ r : Option Value × nzH, ∃ n : Nat, nzgo n d m pc ls st h = some r) (Classical.propDecidable _) (fun H => some (Classical.choose H)) (fun _ => none)
theorem nzr_some {d : Nat} {m : nzM} {pc : Nat} {ls : nzL} {st : List Value} {h : nzH} {r : Option Value × nzH} : nzr d m pc ls st h = some r ↔ ∃ n, nzgo n d m pc ls st h = some r := by
  unfold nzr
  constructor
  · intro hh
    by_cases H : ∃ r : Option Value × nzH, ∃ n : Nat, nzgo n d m pc ls st h = some r
    · rw [dif_pos H] at hh
      have := Classical.choose_spec H
      rw [Option.some.inj hh] at this
      exact this
    · rw [dif_neg H] at hh; cases hh
  · intro hh
    have H : ∃ r : Option Value × nzH, ∃ n : Nat, nzgo n d m pc ls st h = some r := ⟨r, hh⟩
    rw [dif_pos H]
    obtain ⟨n, hn⟩ := hh
    obtain ⟨k, hk⟩ := Classical.choose_spec H
    have h1 := nzgo_le (Nat.le_max_left n k) hn
    have h2 := nzgo_le (Nat.le_max_right n k) hk
    rw [h1] at h2
    exact h2.symm
noncomputable def nzcall (d : Nat) (m : nzM) (as : List Value) (h : nzH) : nzO := match d with
  | 0 => none
  | d' + 1 => if nzrc m as h then (nzin m as).bind fun l => nzr d' m 0 l [] h else none
noncomputable def nzk (d : Nat) (m : nzM) (pc : Nat) (ls : nzL) (h : nzH) (a : nzA) : nzO := match a with
  | .inl (pc', ls', st', h') => nzr d m pc' ls' st' h'
  | .inr (.inl r) => some r
  | .inr (.inr (m', as, rest)) => (nzcall d m' as h).bind fun q => (nzpush m' q.1 rest).bind fun st' => nzr d m (pc + 3) ls st' q.2
theorem nzr_of0 {d : Nat} {m : nzM} {pc : Nat} {ls : nzL} {st : List Value} {h : nzH} {i : Instr} {len : Nat} (hd : decode m.2.2.1 pc = .ok (i, len)) : nzr d m pc ls st h = (nzstep m pc len i ls st h).bind (nzk d m pc ls h) := by
  apply Option.ext
  intro r
  rw [nzr_some]
  constructor
  · intro hh
    obtain ⟨n, hn⟩ := hh
    cases n with
    | zero => simp [nzgo] at hn
    | succ n =>
      rw [nzgo, hd] at hn
      dsimp only at hn
      cases ha : nzstep m pc len i ls st h with
      | none => rw [ha] at hn; simp at hn
      | some a =>
        rw [ha] at hn
        simp only [Option.bind_some] at hn ⊢
        match a, hn with
        | .inl (pc', ls', st', h'), hn => exact nzr_some.mpr ⟨n, hn⟩
        | .inr (.inl r'), hn => exact hn
        | .inr (.inr (m', as, rest)), hn =>
          cases d with
          | zero => simp at hn
          | succ d' =>
            dsimp only at hn
            show (nzcall (d' + 1) m' as h).bind _ = some r
            by_cases hrc : nzrc m' as h = true
            · rw [if_pos hrc] at hn
              cases hin : nzin m' as with
              | none => rw [hin] at hn; simp at hn
              | some l =>
                rw [hin] at hn
                simp only [Option.bind_some] at hn
                cases hc : nzgo n d' m' 0 l [] h with
                | none => rw [hc] at hn; simp at hn
                | some q =>
                  rw [hc] at hn
                  simp only [Option.bind_some] at hn
                  have e : nzcall (d' + 1) m' as h = some q := by
                    simp only [nzcall, hrc, if_true, hin, Option.bind_some]
                    exact nzr_some.mpr ⟨n, hc⟩
                  rw [e]
                  simp only [Option.bind_some]
                  cases hp : nzpush m' q.1 rest with
                  | none => rw [hp] at hn; simp at hn
                  | some st' =>
                    rw [hp] at hn
                    simp only [Option.bind_some] at hn ⊢
                    exact nzr_some.mpr ⟨n, hn⟩
            · rw [if_neg hrc] at hn; simp at hn
  · intro hh
    cases ha : nzstep m pc len i ls st h with
    | none => rw [ha] at hh; simp at hh
    | some a =>
      rw [ha] at hh
      simp only [Option.bind_some] at hh
      match a, ha, hh with
      | .inl (pc', ls', st', h'), ha, hh =>
        obtain ⟨n, hn⟩ := nzr_some.mp hh
        exact ⟨n + 1, by rw [nzgo, hd]; dsimp only; rw [ha]; exact hn⟩
      | .inr (.inl r'), ha, hh => exact ⟨1, by rw [nzgo, hd]; dsimp only; rw [ha]; exact hh⟩
      | .inr (.inr (m', as, rest)), ha, hh =>
        have hh : (nzcall d m' as h).bind (fun q => (nzpush m' q.1 rest).bind fun st' => nzr d m (pc + 3) ls st' q.2) = some r := hh
        cases d with
        | zero => simp [nzcall] at hh
        | succ d' =>
          by_cases hrc : nzrc m' as h = true
          · cases hin : nzin m' as with
            | none => simp [nzcall, hrc, hin] at hh
            | some l =>
              have e : nzcall (d' + 1) m' as h = nzr d' m' 0 l [] h := by simp [nzcall, hrc, hin]
              rw [e] at hh
              cases hq : nzr d' m' 0 l [] h with
              | none => rw [hq] at hh; simp at hh
              | some q =>
                rw [hq] at hh
                simp only [Option.bind_some] at hh
                cases hp : nzpush m' q.1 rest with
                | none => rw [hp] at hh; simp at hh
                | some st' =>
                  rw [hp] at hh
                  simp only [Option.bind_some] at hh
                  obtain ⟨n, hn⟩ := nzr_some.mp hq
                  obtain ⟨k, hk⟩ := nzr_some.mp hh
                  refine ⟨max n k + 1, ?_⟩
                  rw [nzgo, hd]
                  dsimp only
                  rw [ha]
                  simp only [Option.bind_some, hrc, if_true, hin]
                  rw [nzgo_le (Nat.le_max_left n k) hn]
                  simp only [Option.bind_some, hp]
                  exact nzgo_le (Nat.le_max_right n k) hk
          · simp [nzcall, hrc] at hh
theorem nzr_of {d : Nat} {m : nzM} {pc : Nat} {ls : nzL} {st : List Value} {h : nzH} {i : Instr} {len : Nat} (hd : decode m.2.2.1 pc = .ok (i, len)) (hl : nzil i len = true := by rfl) : nzr d m pc ls st h = (nzact m pc len i ls st h).bind (nzk d m pc ls h) := by
  rw [nzr_of0 hd, nzstep, if_pos hl]
