/-! NoonMeals.led on the machine: what its body sees -/
def zov : Option Int32 → Int32
  | none => -1
  | some v => v
theorem zgR_at {h : nzH} {a ci k v : Nat} (e : nzgR h a ci k = some v) : ∃ F, zobj h a ci F ∧ F k = .ref v := by
  unfold nzgR at e
  cases e1 : nzfld h a ci k with
  | none => rw [e1] at e; cases e
  | some w =>
    rw [e1] at e
    obtain ⟨F, f1, f2⟩ := nzfld_at e1
    cases w with
    | ref x => cases e; exact ⟨F, f1, f2⟩
    | _ => cases e
theorem zhouse {d x : Nat} {h : nzH} {car i : Int32} {q : Option Int32} (hd : 2 < d) (e : nzledv h x car i = some q) : ∃ r, nzgR h x 11 1 = some r ∧ (∃ F, zobj h r 6 F) ∧ nzxI d nX6_houseAt [.ref r, .int car, .int i] h = some (zov q, h) ∧ ∀ v, q = some v → v ≠ -1 := by
  unfold nzledv at e
  obtain ⟨r, e1, e⟩ := Option.bind_eq_some_iff.mp e
  obtain ⟨cs, e2, e⟩ := Option.bind_eq_some_iff.mp e
  obtain ⟨rt, e3, e⟩ := Option.bind_eq_some_iff.mp e
  obtain ⟨F, o, -⟩ := zgR_at e2
  refine ⟨r, e1, ⟨F, o⟩, ?_⟩
  have cnt : ∀ (u : car < 0 ∨ 3 ≤ car), nzxI (d - 1) nX6_count [.ref r, .int car] h = some (0, h) := fun u => by
    refine iX6_count (by omega) o ?_
    rw [eX6_count_0]
    by_cases a : car < 0
    · rw [if_pos a, eX6_count_18]
    · rw [if_neg a, if_pos (u.resolve_left a), eX6_count_18]
  by_cases u : car < 0 ∨ 3 ≤ car
  · rw [if_pos u] at e
    have q0 : q = none := by
      split at e <;> (cases e; rfl)
    subst q0
    refine ⟨iX6_houseAt (by omega) o ?_, fun v hv => by cases hv⟩
    rw [eX6_houseAt_0]
    by_cases a : i < 0
    · rw [if_pos a, eX6_houseAt_24]; rfl
    · rw [if_neg a, cnt u, Option.bind_some, if_pos (Int32.not_lt.mp a), eX6_houseAt_24]; rfl
  · rw [if_neg u] at e
    obtain ⟨n, e4, e⟩ := Option.bind_eq_some_iff.mp e
    have cn : nzxI (d - 1) nX6_count [.ref r, .int car] h = some (n, h) := by
      refine iX6_count (by omega) o ?_
      rw [eX6_count_0, if_neg (fun a => u (.inl a)), if_neg (fun a => u (.inr a)), e2, Option.bind_some, e4, Option.bind_some]
    by_cases a : i < 0 ∨ n ≤ i
    · rw [if_pos a] at e
      cases e
      refine ⟨iX6_houseAt (by omega) o ?_, fun v hv => by cases hv⟩
      rw [eX6_houseAt_0]
      by_cases a1 : i < 0
      · rw [if_pos a1, eX6_houseAt_24]; rfl
      · rw [if_neg a1, cn, Option.bind_some, if_pos (a.resolve_left a1), eX6_houseAt_24]; rfl
    · rw [if_neg a] at e
      obtain ⟨row, e5, e⟩ := Option.bind_eq_some_iff.mp e
      obtain ⟨v, e6, e⟩ := Option.bind_eq_some_iff.mp e
      have hh : nzxI d nX6_houseAt [.ref r, .int car, .int i] h = some (v, h) := by
        refine iX6_houseAt (by omega) o ?_
        rw [eX6_houseAt_0, if_neg (fun b => a (.inl b)), cn, Option.bind_some, if_neg (fun b => a (.inr b)), e3, Option.bind_some, e5, Option.bind_some, e6, Option.bind_some]
      by_cases b : v = -1
      · rw [if_pos b] at e
        cases e
        exact ⟨by rw [hh, b]; rfl, fun v hv => by cases hv⟩
      · rw [if_neg b] at e
        cases e
        exact ⟨hh, fun w hw => by cases hw; exact b⟩
