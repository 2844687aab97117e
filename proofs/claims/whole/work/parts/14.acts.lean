/-! SOUNDNESS, 5: calls, returns, the induction on the fuel; written by wip/gen/gen_main3.py -/
theorem nzact_ret {M : nzM} {pc len : Nat} {i : Instr} {ls : nzL} {st : List Value} {h : nzH} {r : Option Value} {h1 : nzH} (ha : nzact M pc len i ls st h = some (.inr (.inl (r, h1)))) : h1 = h ∧ ((i = .ireturn ∧ ∃ v ty, st = [.int v] ∧ r = some (.int v) ∧ M.2.2.2.2.1 = some ty ∧ narrow ty (.int v) = .int v) ∨ (i = .lreturn ∧ ∃ v, st = [.long v] ∧ r = some (.long v) ∧ M.2.2.2.2.1 = some .long) ∨ (i = .areturn ∧ ∃ v C, st = [.ref v] ∧ r = some (.ref v) ∧ M.2.2.2.2.1 = some (.object C)) ∨ (i = .return_ ∧ st = [] ∧ r = none ∧ M.2.2.2.2.1 = none)) := by
  cases i
  case ireturn =>
    simp only [nzact] at ha
    split at ha
    · rename_i v ty hty
      split at ha
      · rename_i hn
        simp only [Option.some.injEq, Sum.inr.injEq, Sum.inl.injEq, Prod.mk.injEq] at ha
        obtain ⟨rfl, rfl⟩ := ha
        exact ⟨rfl, Or.inl ⟨rfl, v, ty, rfl, rfl, hty, hn⟩⟩
      · cases ha
    · cases ha
  case lreturn =>
    simp only [nzact] at ha
    split at ha
    · rename_i v hty
      simp only [Option.some.injEq, Sum.inr.injEq, Sum.inl.injEq, Prod.mk.injEq] at ha
      obtain ⟨rfl, rfl⟩ := ha
      exact ⟨rfl, Or.inr (Or.inl ⟨rfl, v, rfl, rfl, hty⟩)⟩
    · cases ha
  case areturn =>
    simp only [nzact] at ha
    split at ha
    · rename_i v C hty
      simp only [Option.some.injEq, Sum.inr.injEq, Sum.inl.injEq, Prod.mk.injEq] at ha
      obtain ⟨rfl, rfl⟩ := ha
      exact ⟨rfl, Or.inr (Or.inr (Or.inl ⟨rfl, v, C, rfl, rfl, hty⟩))⟩
    · cases ha
  case return_ =>
    simp only [nzact] at ha
    split at ha
    · rename_i hty
      simp only [Option.some.injEq, Sum.inr.injEq, Sum.inl.injEq, Prod.mk.injEq] at ha
      obtain ⟨rfl, rfl⟩ := ha
      exact ⟨rfl, Or.inr (Or.inr (Or.inr ⟨rfl, rfl, rfl, hty⟩))⟩
    · cases ha
  case multianewarray q dm =>
    exfalso
    rcases Nat.lt_trichotomy dm 2 with hdm | rfl | hdm
    · rcases (show dm = 0 ∨ dm = 1 by omega) with rfl | rfl <;> simp [nzact] at ha
    · simp only [nzact, nzg] at ha
      repeat' split at ha
      all_goals (simp [Option.bind_eq_some_iff] at ha)
    · obtain ⟨z, rfl⟩ : ∃ z, dm = z + 3 := ⟨dm - 3, by omega⟩
      simp [nzact] at ha
  all_goals exfalso
  all_goals
    (simp only [nzact, nz2, nz1, nz2l, nzli, nzll, nzla, nzsi, nzsa, nzst2, nzjmp, nziff, nzgetf, nzputf, nzinvS, nzinvV, nzinvI, nzg] at ha
     repeat' split at ha
     all_goals (simp [Option.bind_eq_some_iff] at ha))
/-- a call, as the abstract machine makes it -/
theorem nzact_call {M : nzM} {pc len : Nat} {i : Instr} {ls : nzL} {st : List Value} {h : nzH} {M1 : nzM} {as rest : List Value} (ha : nzact M pc len i ls st h = some (.inr (.inr (M1, as, rest)))) : ∃ q kd n, nzlk nzTM M.1 q = some (kd, n, M1) ∧ st = as.reverse ++ rest ∧ nzcat rest = true ∧ ((i = .invokevirtual q ∧ (kd = 0 ∨ kd = 3) ∧ as.length = n + 1) ∨ (i = .invokestatic q ∧ (kd = 1 ∨ kd = 4) ∧ as.length = n) ∨ (i = .invokespecial q ∧ (kd = 2 ∨ kd = 5) ∧ as.length = n + 1)) := by
  cases i
  case invokevirtual q =>
    simp only [nzact, nzinvV] at ha
    split at ha
    · rename_i n m1 hq
      split at ha
      · rename_i hc
        simp only [Option.some.injEq, Sum.inr.injEq, Prod.mk.injEq] at ha
        obtain ⟨rfl, rfl, rfl⟩ := ha
        exact ⟨q, 0, n, hq, by rw [List.reverse_reverse, List.take_append_drop], hc.2, Or.inl ⟨rfl, Or.inl rfl, by rw [List.length_reverse]; exact hc.1⟩⟩
      · cases ha
    · rename_i n m1 hq
      split at ha
      · rename_i hc
        simp only [Option.some.injEq, Sum.inr.injEq, Prod.mk.injEq] at ha
        obtain ⟨rfl, rfl, rfl⟩ := ha
        exact ⟨q, 3, n, hq, by rw [List.reverse_reverse, List.take_append_drop], hc.2, Or.inl ⟨rfl, Or.inr rfl, by rw [List.length_reverse]; exact hc.1⟩⟩
      · cases ha
    all_goals (first | (cases ha; done) | (exfalso; repeat' split at ha) <;> (simp [Option.bind_eq_some_iff, nzg] at ha))
  case invokestatic q =>
    simp only [nzact, nzinvS] at ha
    split at ha
    · rename_i n m1 hq
      split at ha
      · rename_i hc
        simp only [Option.some.injEq, Sum.inr.injEq, Prod.mk.injEq] at ha
        obtain ⟨rfl, rfl, rfl⟩ := ha
        exact ⟨q, 1, n, hq, by rw [List.reverse_reverse, List.take_append_drop], hc.2, Or.inr (Or.inl ⟨rfl, Or.inl rfl, by rw [List.length_reverse]; exact hc.1⟩)⟩
      · cases ha
    · rename_i n m1 hq
      split at ha
      · rename_i hc
        simp only [Option.some.injEq, Sum.inr.injEq, Prod.mk.injEq] at ha
        obtain ⟨rfl, rfl, rfl⟩ := ha
        exact ⟨q, 4, n, hq, by rw [List.reverse_reverse, List.take_append_drop], hc.2, Or.inr (Or.inl ⟨rfl, Or.inr rfl, by rw [List.length_reverse]; exact hc.1⟩)⟩
      · cases ha
    all_goals (first | (cases ha; done) | (exfalso; repeat' split at ha) <;> (simp [Option.bind_eq_some_iff, nzg] at ha))
  case invokespecial q =>
    simp only [nzact, nzinvI] at ha
    split at ha
    · rename_i n m1 hq
      split at ha
      · rename_i hc
        simp only [Option.some.injEq, Sum.inr.injEq, Prod.mk.injEq] at ha
        obtain ⟨rfl, rfl, rfl⟩ := ha
        exact ⟨q, 2, n, hq, by rw [List.reverse_reverse, List.take_append_drop], hc.2, Or.inr (Or.inr ⟨rfl, Or.inl rfl, by rw [List.length_reverse]; exact hc.1⟩)⟩
      · cases ha
    · rename_i n m1 hq
      split at ha
      · rename_i hc
        simp only [Option.some.injEq, Sum.inr.injEq, Prod.mk.injEq] at ha
        obtain ⟨rfl, rfl, rfl⟩ := ha
        exact ⟨q, 5, n, hq, by rw [List.reverse_reverse, List.take_append_drop], hc.2, Or.inr (Or.inr ⟨rfl, Or.inr rfl, by rw [List.length_reverse]; exact hc.1⟩)⟩
      · cases ha
    all_goals (first | (cases ha; done) | (exfalso; repeat' split at ha) <;> (simp [Option.bind_eq_some_iff, nzg] at ha))
  case multianewarray q dm =>
    exfalso
    rcases Nat.lt_trichotomy dm 2 with hdm | rfl | hdm
    · rcases (show dm = 0 ∨ dm = 1 by omega) with rfl | rfl <;> simp [nzact] at ha
    · simp only [nzact, nzg] at ha
      repeat' split at ha
      all_goals (simp [Option.bind_eq_some_iff] at ha)
    · obtain ⟨z, rfl⟩ : ∃ z, dm = z + 3 := ⟨dm - 3, by omega⟩
      simp [nzact] at ha
  all_goals exfalso
  all_goals
    (simp only [nzact, nz2, nz1, nz2l, nzli, nzll, nzla, nzsi, nzsa, nzst2, nzjmp, nziff, nzgetf, nzputf, nzinvS, nzinvV, nzinvI, nzg] at ha
     repeat' split at ha
     all_goals (simp [Option.bind_eq_some_iff] at ha))
theorem nzact_le {M : nzM} {pc len : Nat} {i : Instr} {ls ls1 : nzL} {st st1 : List Value} {h h1 : nzH} {pc1 : Nat} (ha : nzact M pc len i ls st h = some (.inl (pc1, ls1, st1, h1))) : nzle h h1 := by
  cases i
  case putfield q =>
    simp only [nzact, nzputf, nzg] at ha
    repeat' split at ha
    all_goals (simp only [Option.bind_eq_some_iff, Option.some.injEq, Sum.inl.injEq, Prod.mk.injEq, reduceCtorEq, and_false, exists_false] at ha)
    obtain ⟨h2, hv, -, -, -, rfl⟩ := ha
    exact nzput_le hv
  case iastore =>
    simp only [nzact, nzg] at ha
    repeat' split at ha
    all_goals (simp only [Option.bind_eq_some_iff, Option.some.injEq, Sum.inl.injEq, Prod.mk.injEq, reduceCtorEq, and_false, exists_false] at ha)
    obtain ⟨h2, hv, -, -, -, rfl⟩ := ha
    obtain ⟨n, f, -, -, rfl⟩ := nzsI_at hv
    exact nzle_set _ _ _
  case lastore =>
    simp only [nzact, nzg] at ha
    repeat' split at ha
    all_goals (simp only [Option.bind_eq_some_iff, Option.some.injEq, Sum.inl.injEq, Prod.mk.injEq, reduceCtorEq, and_false, exists_false] at ha)
    obtain ⟨h2, hv, -, -, -, rfl⟩ := ha
    obtain ⟨n, f, -, -, rfl⟩ := nzsL_at hv
    exact nzle_set _ _ _
  case bastore =>
    simp only [nzact, nzg] at ha
    repeat' split at ha
    all_goals (simp only [Option.bind_eq_some_iff, Option.some.injEq, Sum.inl.injEq, Prod.mk.injEq, reduceCtorEq, and_false, exists_false] at ha)
    obtain ⟨h2, hv, -, -, -, rfl⟩ := ha
    rcases nzsB_at hv with ⟨n, f, -, -, rfl⟩ | ⟨n, f, -, -, rfl⟩ <;> exact nzle_set _ _ _
  case newarray t =>
    simp only [nzact, nzg] at ha
    repeat' split at ha
    all_goals (simp only [Option.bind_eq_some_iff, Option.some.injEq, Sum.inl.injEq, Prod.mk.injEq, reduceCtorEq, and_false, exists_false] at ha)
    obtain ⟨h2, hv, -, -, -, rfl⟩ := ha
    exact nznewa_le hv
  case multianewarray q dm =>
    rcases Nat.lt_trichotomy dm 2 with hdm | rfl | hdm
    · rcases (show dm = 0 ∨ dm = 1 by omega) with rfl | rfl <;> simp [nzact] at ha
    · simp only [nzact, nzg] at ha
      repeat' split at ha
      all_goals (simp only [Option.bind_eq_some_iff, Option.some.injEq, Sum.inl.injEq, Prod.mk.injEq, reduceCtorEq, and_false, exists_false] at ha)
      obtain ⟨x, -, h2, hv, -, -, -, rfl⟩ := ha
      exact nznewm_le hv
    · obtain ⟨z, rfl⟩ : ∃ z, dm = z + 3 := ⟨dm - 3, by omega⟩
      simp [nzact] at ha
  case new q =>
    simp only [nzact, nzg, Option.bind_eq_some_iff, Option.some.injEq, Sum.inl.injEq, Prod.mk.injEq] at ha
    obtain ⟨x, -, h2, hv, -, -, -, rfl⟩ := ha
    exact nznewo_le hv
  case invokestatic q =>
    simp only [nzact, nzinvS, nzg] at ha
    repeat' split at ha
    all_goals (simp only [Option.bind_eq_some_iff, Option.some.injEq, Sum.inl.injEq, Prod.mk.injEq, reduceCtorEq, and_false, exists_false] at ha)
    all_goals first
      | (obtain ⟨h2, hv, -, -, -, rfl⟩ := ha; exact nzcpy_le hv)
      | (obtain ⟨⟨st2, h2⟩, hv, -, -, -, rfl⟩ := ha; exact nzled_le hv)
      | (obtain ⟨-, -, -, rfl⟩ := ha; exact nzle.rfl' _)
  all_goals
    (simp only [nzact, nz2, nz1, nz2l, nzli, nzll, nzla, nzsi, nzsa, nzst2, nzjmp, nziff, nzgetf, nzinvV, nzinvI, nzg] at ha
     repeat' split at ha
     all_goals (simp only [Option.bind_eq_some_iff, Option.some.injEq, Sum.inl.injEq, Prod.mk.injEq, reduceCtorEq, and_false, exists_false] at ha)
     all_goals first
       | (obtain ⟨-, -, -, rfl⟩ := ha; exact nzle.rfl' _)
       | (obtain ⟨_, -, -, -, -, rfl⟩ := ha; exact nzle.rfl' _))
theorem nzstep_act {M : nzM} {pc len : Nat} {i : Instr} {ls : nzL} {st : List Value} {h : nzH} {a : nzA} (hs : nzstep M pc len i ls st h = some a) : nzil i len = true ∧ nzact M pc len i ls st h = some a := by
  unfold nzstep at hs
  split at hs
  · rename_i hl; exact ⟨hl, hs⟩
  · cases hs
theorem nzgo_heap : ∀ (n d : Nat) (M : nzM) (pc : Nat) (ls : nzL) (st : List Value) (h : nzH) (r : Option Value) (h1 : nzH), nzgo n d M pc ls st h = some (r, h1) → nzle h h1 := by
  intro n
  induction n with
  | zero => intro d m pc ls st h r h1 hr; simp [nzgo] at hr
  | succ n ih =>
    intro d m pc ls st h r h1 hr
    rw [nzgo] at hr
    cases hd : decode m.2.2.1 pc with
    | error e => rw [hd] at hr; simp at hr
    | ok q =>
      obtain ⟨i, len⟩ := q
      rw [hd] at hr
      dsimp only at hr
      cases ha : nzstep m pc len i ls st h with
      | none => rw [ha] at hr; simp at hr
      | some a =>
        rw [ha] at hr
        simp only [Option.bind_some] at hr
        have ha := (nzstep_act ha).2
        match a, ha, hr with
        | .inl (pc', ls', st', h'), ha, hr => exact (nzact_le ha).tr (ih _ _ _ _ _ _ _ _ hr)
        | .inr (.inl (r', h')), ha, hr =>
          cases hr
          rw [(nzact_ret ha).1]
          exact nzle.rfl' _
        | .inr (.inr (m', as, rest)), ha, hr =>
          cases d with
          | zero => simp at hr
          | succ d' =>
            dsimp only at hr
            split at hr
            · simp only [Option.bind_eq_some_iff] at hr
              obtain ⟨l, -, q, hc, st', -, hk⟩ := hr
              exact (ih _ _ _ _ _ _ _ _ hc).tr (ih _ _ _ _ _ _ _ _ hk)
            · cases hr
