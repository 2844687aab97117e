/-! SOUNDNESS, 4: calls, returns, and the induction on the fuel; written by wip/gen/gen_main2.py -/
theorem nzled_le {h : nzH} {st st1 : List Value} {h1 : nzH} (hv : nzled h st = some (st1, h1)) : nzle h h1 := by
  unfold nzled at hv
  split at hv
  · rename_i out i car x r
    cases hq : nzledv h x car i with
    | none => rw [hq] at hv; simp at hv
    | some q =>
      rw [hq] at hv
      simp only [Option.bind_some] at hv
      split at hv
      · rename_i v
        cases hs : nzsL h out 0 v.toInt64 with
        | none => rw [hs] at hv; simp at hv
        | some h2 =>
          rw [hs] at hv
          simp only [Option.bind_some, Option.some.injEq, Prod.mk.injEq] at hv
          obtain ⟨-, rfl⟩ := hv
          unfold nzsL at hs
          split at hs
          · split at hs
            · cases hs
            · cases hs; exact nzle_set _ _ _
          · cases hs
      · simp only [Option.some.injEq, Prod.mk.injEq] at hv
        obtain ⟨-, rfl⟩ := hv
        exact ⟨Nat.le_succ _, Nat.le_succ _, Nat.le_add_right _ _, rfl⟩
  · cases hv
theorem nzput_le {h h1 : nzH} {a ci k : Nat} {v : Value} (hv : nzput h a ci k v = some h1) : nzle h h1 := by
  obtain ⟨F, -, rfl⟩ := nzput_at hv
  exact nzle_set _ _ _
theorem nzsI_at {h h1 : nzH} {a : Nat} {i x : Int32} (hv : nzsI h a i x = some h1) : ∃ n f, nzcell h a = some (.inl (.int, n, .inl f)) ∧ ¬ (i < 0 ∨ n ≤ i.toNatClampNeg) ∧ h1 = nzset h a (.inl (.int, n, .inl (upd f i.toNatClampNeg x))) := by
  unfold nzsI at hv
  split at hv
  · rename_i n f hc
    split at hv
    · cases hv
    · rename_i hi; cases hv; exact ⟨n, f, hc, hi, rfl⟩
  · cases hv
theorem nzsL_at {h h1 : nzH} {a : Nat} {i : Int32} {x : Int64} (hv : nzsL h a i x = some h1) : ∃ n f, nzcell h a = some (.inl (.long, n, .inr (.inl f))) ∧ ¬ (i < 0 ∨ n ≤ i.toNatClampNeg) ∧ h1 = nzset h a (.inl (.long, n, .inr (.inl (vp_updL f i.toNatClampNeg x)))) := by
  unfold nzsL at hv
  split at hv
  · rename_i n f hc
    split at hv
    · cases hv
    · rename_i hi; cases hv; exact ⟨n, f, hc, hi, rfl⟩
  · cases hv
theorem nzsB_at {h h1 : nzH} {a : Nat} {i x : Int32} (hv : nzsB h a i x = some h1) : (∃ n f, nzcell h a = some (.inl (.byte, n, .inl f)) ∧ ¬ (i < 0 ∨ n ≤ i.toNatClampNeg) ∧ h1 = nzset h a (.inl (.byte, n, .inl (upd f i.toNatClampNeg (vp_nar .byte x))))) ∨ (∃ n f, nzcell h a = some (.inl (.boolean, n, .inl f)) ∧ ¬ (i < 0 ∨ n ≤ i.toNatClampNeg) ∧ h1 = nzset h a (.inl (.boolean, n, .inl (upd f i.toNatClampNeg (vp_nar .boolean x))))) := by
  unfold nzsB at hv
  split at hv
  · rename_i n f hc
    split at hv
    · cases hv
    · rename_i hi; cases hv; exact Or.inl ⟨n, f, hc, hi, rfl⟩
  · rename_i n f hc
    split at hv
    · cases hv
    · rename_i hi; cases hv; exact Or.inr ⟨n, f, hc, hi, rfl⟩
  · cases hv
theorem nzaI_at {h : nzH} {a : Nat} {i v : Int32} (hv : nzaI h a i = some v) : ∃ n f, nzcell h a = some (.inl (.int, n, .inl f)) ∧ ¬ (i < 0 ∨ n ≤ i.toNatClampNeg) ∧ v = f i.toNatClampNeg := by
  unfold nzaI at hv
  split at hv
  · rename_i n f hc
    split at hv
    · cases hv
    · rename_i hi; cases hv; exact ⟨n, f, hc, hi, rfl⟩
  · cases hv
theorem nzaL_at {h : nzH} {a : Nat} {i : Int32} {v : Int64} (hv : nzaL h a i = some v) : ∃ n f, nzcell h a = some (.inl (.long, n, .inr (.inl f))) ∧ ¬ (i < 0 ∨ n ≤ i.toNatClampNeg) ∧ v = f i.toNatClampNeg := by
  unfold nzaL at hv
  split at hv
  · rename_i n f hc
    split at hv
    · cases hv
    · rename_i hi; cases hv; exact ⟨n, f, hc, hi, rfl⟩
  · cases hv
theorem nzaB_at {h : nzH} {a : Nat} {i v : Int32} (hv : nzaB h a i = some v) : (∃ n f, nzcell h a = some (.inl (.byte, n, .inl f)) ∧ ¬ (i < 0 ∨ n ≤ i.toNatClampNeg) ∧ v = f i.toNatClampNeg) ∨ (∃ n f, nzcell h a = some (.inl (.boolean, n, .inl f)) ∧ ¬ (i < 0 ∨ n ≤ i.toNatClampNeg) ∧ v = f i.toNatClampNeg) := by
  unfold nzaB at hv
  split at hv
  · rename_i n f hc
    split at hv
    · cases hv
    · rename_i hi; cases hv; exact Or.inl ⟨n, f, hc, hi, rfl⟩
  · rename_i n f hc
    split at hv
    · cases hv
    · rename_i hi; cases hv; exact Or.inr ⟨n, f, hc, hi, rfl⟩
  · cases hv
theorem nzaR_at {h : nzH} {a v : Nat} {i : Int32} (hv : nzaR h a i = some v) : ∃ n f, nzcell h a = some (.inl (.array .int, n, .inr (.inr (.inr (.inr f))))) ∧ ¬ (i < 0 ∨ n ≤ i.toNatClampNeg) ∧ f i.toNatClampNeg = some v := by
  unfold nzaR at hv
  split at hv
  · rename_i n f hc
    split at hv
    · cases hv
    · rename_i hi; exact ⟨n, f, hc, hi, hv⟩
  · cases hv
theorem nzcI_at {h : nzH} {k : UInt32} {i v : Int32} (hv : nzcI h k i = some v) : ∃ n f, nzkI h k = some (n, f) ∧ ¬ (i < 0 ∨ n ≤ i.toNatClampNeg) ∧ v = f i.toNatClampNeg := by
  unfold nzcI at hv
  split at hv
  · rename_i n f hc
    split at hv
    · cases hv
    · rename_i hi; cases hv; exact ⟨n, f, hc, hi, rfl⟩
  · cases hv
theorem nzcB_at {k : UInt32} {i v : Int32} (hv : nzcB k i = some v) : ∃ n f, nzkB k = some (n, f) ∧ ¬ (i < 0 ∨ n ≤ i.toNatClampNeg) ∧ v = f i.toNatClampNeg := by
  unfold nzcB at hv
  split at hv
  · rename_i n f hc
    split at hv
    · cases hv
    · rename_i hi; cases hv; exact ⟨n, f, hc, hi, rfl⟩
  · cases hv
theorem nzcpy_le {h h1 : nzH} {a0 a : Nat} {sp dp n : Int32} (hv : nzcpy h a0 sp a dp n = some h1) : nzle h h1 := by
  unfold nzcpy at hv
  split at hv
  · split at hv
    · cases hv
    · cases hv; exact nzle_set _ _ _
  · cases hv
theorem nznewa_le {h h1 : nzH} {ty : FieldType} {n : Int32} (hv : nznewa h ty n = some h1) : nzle h h1 := by
  unfold nznewa at hv
  split at hv
  · split at hv
    · cases hv
    · cases hv; exact nzle_new _ _ _
  · cases hv
theorem nznewm_le {h h1 : nzH} {n k : Int32} (hv : nznewm h n k = some h1) : nzle h h1 := by
  unfold nznewm at hv
  split at hv
  · cases hv
  · have e0 : h1 = nzgrid h n.toNatClampNeg k.toNatClampNeg := (Option.some.inj hv).symm
    subst e0
    obtain ⟨g1, g2, g3, g4⟩ := nzgrid_n h n.toNatClampNeg k.toNatClampNeg
    exact ⟨by omega, by omega, by omega, g4⟩
theorem nznewo_le {h h1 : nzH} {ci : Nat} (hv : nznewo h ci = some h1) : nzle h h1 := by
  unfold nznewo at hv
  split at hv
  · cases hv; exact nzle_new _ _ _
  · cases hv
section NZI
variable {p : Program} {l : Launch} {e : Env} {R : Room} {s : State} {m : MethodId} {args : Array Value} {below : List Frame} {meth : Method} {c : Code} {Q : State → Prop} {D : va_G} {cA : FieldType → ClassId} {b : Nat} {ck : UInt32 → Value} {sc : Nat × (Nat → Int32)} {M : nzM} {kc ks : Nat}
/-- the law's led, where the frame is the law's -/
def nzLedOK (p : Program) (l : Launch) (e : Env) (R : Room) (s : State) (m : MethodId) (args : Array Value) (below : List Frame) (meth : Method) (c : Code) (Q : State → Prop) (D : va_G) (cA : FieldType → ClassId) (b : Nat) (ck : UInt32 → Value) (sc : Nat × (Nat → Int32)) (M : nzM) (kc ks : Nat) : Prop :=
  ∀ (pc : Nat) (ls : nzL) (st : List Value) (h : nzH) (q x : Nat) (y : nzM) (st1 : List Value) (h1 : nzH), decode M.2.2.1 pc = .ok (.invokestatic q, 3) → nzlk nzTM M.1 q = some (8, x, y) → nzcat (st.drop 4) = true → nzled h st = some (st1, h1) → h1.2.1.1 - kc ≤ R.cells → h1.2.1.2 - ks ≤ R.slots → nzOK p l e R s m args below meth c Q D cA b ck sc M kc ks (pc + 3) ls st1 h1 → nzOK p l e R s m args below meth c Q D cA b ck sc M kc ks pc ls st h
theorem nz_inl (F : nzFr p R s m args meth c D cA b ck sc M) (hled : nzLedOK p l e R s m args below meth c Q D cA b ck sc M kc ks) {pc len : Nat} {i : Instr} {ls ls1 : nzL} {st st1 : List Value} {h h1 : nzH} {pc1 : Nat} (hd : decode M.2.2.1 pc = .ok (i, len)) (hil : nzil i len = true) (ha : nzact M pc len i ls st h = some (.inl (pc1, ls1, st1, h1))) (hrc : h1.2.1.1 - kc ≤ R.cells) (hrs : h1.2.1.2 - ks ≤ R.slots) (k : nzOK p l e R s m args below meth c Q D cA b ck sc M kc ks pc1 ls1 st1 h1) : nzOK p l e R s m args below meth c Q D cA b ck sc M kc ks pc ls st h := by
  cases i
  case iconst n =>
    have hl : len = 1 := of_decide_eq_true hil
    subst hl
    simp only [nzact] at ha
    simp only [nzg, Option.some.injEq, Sum.inl.injEq, Prod.mk.injEq] at ha
    obtain ⟨rfl, rfl, rfl, rfl⟩ := ha
    exact nzs_iconst F hd k
  case bipush n =>
    have hl : len = 2 := of_decide_eq_true hil
    subst hl
    simp only [nzact] at ha
    simp only [nzg, Option.some.injEq, Sum.inl.injEq, Prod.mk.injEq] at ha
    obtain ⟨rfl, rfl, rfl, rfl⟩ := ha
    exact nzs_bipush F hd k
  case sipush n =>
    have hl : len = 3 := of_decide_eq_true hil
    subst hl
    simp only [nzact] at ha
    simp only [nzg, Option.some.injEq, Sum.inl.injEq, Prod.mk.injEq] at ha
    obtain ⟨rfl, rfl, rfl, rfl⟩ := ha
    exact nzs_sipush F hd k
  case lconst n =>
    have hl : len = 1 := of_decide_eq_true hil
    subst hl
    simp only [nzact] at ha
    simp only [nzg, Option.some.injEq, Sum.inl.injEq, Prod.mk.injEq] at ha
    obtain ⟨rfl, rfl, rfl, rfl⟩ := ha
    exact nzs_lconst F hd k
  case ldc q =>
    have hl : len = 2 := of_decide_eq_true hil
    subst hl
    simp only [nzact] at ha
    cases hq : nzlk nzTC M.1 q with
    | none => rw [hq] at ha; simp at ha
    | some v =>
      rw [hq] at ha
      simp only [Option.bind_some] at ha
      simp only [nzg, Option.some.injEq, Sum.inl.injEq, Prod.mk.injEq] at ha
      obtain ⟨rfl, rfl, rfl, rfl⟩ := ha
      cases v with
      | int v => exact nzs_ldcI F hd hq k
      | float v => exact nzs_ldcS F hd hq k
      | _ => obtain ⟨j, hj⟩ := nzall_of nzTC_all hq; cases hj
  case ldc_w q =>
    have hl : len = 3 := of_decide_eq_true hil
    subst hl
    simp only [nzact] at ha
    cases hq : nzlk nzTC M.1 q with
    | none => rw [hq] at ha; simp at ha
    | some v =>
      rw [hq] at ha
      simp only [Option.bind_some] at ha
      simp only [nzg, Option.some.injEq, Sum.inl.injEq, Prod.mk.injEq] at ha
      obtain ⟨rfl, rfl, rfl, rfl⟩ := ha
      cases v with
      | int v => exact nzs_ldcwI F hd hq k
      | float v => exact nzs_ldcwS F hd hq k
      | _ => obtain ⟨j, hj⟩ := nzall_of nzTC_all hq; cases hj
  case ldc2_w q =>
    have hl : len = 3 := of_decide_eq_true hil
    subst hl
    simp only [nzact] at ha
    cases hq : nzlk nzTL M.1 q with
    | none => rw [hq] at ha; simp at ha
    | some v =>
      rw [hq] at ha
      simp only [Option.bind_some] at ha
      simp only [nzg, Option.some.injEq, Sum.inl.injEq, Prod.mk.injEq] at ha
      obtain ⟨rfl, rfl, rfl, rfl⟩ := ha
      exact nzs_ldc2 F hd hq k
  case iload_n q =>
    have hl : len = 1 := of_decide_eq_true hil
    subst hl
    simp only [nzact, nzli] at ha
    split at ha
    · rename_i v hq
      simp only [nzg, Option.some.injEq, Sum.inl.injEq, Prod.mk.injEq] at ha
      obtain ⟨rfl, rfl, rfl, rfl⟩ := ha
      exact nzs_iload_n F hd hq k
    · cases ha
  case iload q =>
    have hl : len = 2 := of_decide_eq_true hil
    subst hl
    simp only [nzact, nzli] at ha
    split at ha
    · rename_i v hq
      simp only [nzg, Option.some.injEq, Sum.inl.injEq, Prod.mk.injEq] at ha
      obtain ⟨rfl, rfl, rfl, rfl⟩ := ha
      exact nzs_iload F hd hq k
    · cases ha
  case lload_n q =>
    have hl : len = 1 := of_decide_eq_true hil
    subst hl
    simp only [nzact, nzll] at ha
    split at ha
    · rename_i v hq
      simp only [nzg, Option.some.injEq, Sum.inl.injEq, Prod.mk.injEq] at ha
      obtain ⟨rfl, rfl, rfl, rfl⟩ := ha
      exact nzs_lload_n F hd hq k
    · cases ha
  case lload q =>
    have hl : len = 2 := of_decide_eq_true hil
    subst hl
    simp only [nzact, nzll] at ha
    split at ha
    · rename_i v hq
      simp only [nzg, Option.some.injEq, Sum.inl.injEq, Prod.mk.injEq] at ha
      obtain ⟨rfl, rfl, rfl, rfl⟩ := ha
      exact nzs_lload F hd hq k
    · cases ha
  case aload_n q =>
    have hl : len = 1 := of_decide_eq_true hil
    subst hl
    simp only [nzact, nzla] at ha
    split at ha
    · rename_i v hq
      simp only [nzg, Option.some.injEq, Sum.inl.injEq, Prod.mk.injEq] at ha
      obtain ⟨rfl, rfl, rfl, rfl⟩ := ha
      exact nzs_aload_n F hd hq k
    · rename_i v hq
      simp only [nzg, Option.some.injEq, Sum.inl.injEq, Prod.mk.injEq] at ha
      obtain ⟨rfl, rfl, rfl, rfl⟩ := ha
      exact nzs_aload_nF F hd hq k
    · cases ha
  case aload q =>
    have hl : len = 2 := of_decide_eq_true hil
    subst hl
    simp only [nzact, nzla] at ha
    split at ha
    · rename_i v hq
      simp only [nzg, Option.some.injEq, Sum.inl.injEq, Prod.mk.injEq] at ha
      obtain ⟨rfl, rfl, rfl, rfl⟩ := ha
      exact nzs_aload F hd hq k
    · rename_i v hq
      simp only [nzg, Option.some.injEq, Sum.inl.injEq, Prod.mk.injEq] at ha
      obtain ⟨rfl, rfl, rfl, rfl⟩ := ha
      exact nzs_aloadF F hd hq k
    · cases ha
  case istore_n q =>
    have hl : len = 1 := of_decide_eq_true hil
    subst hl
    simp only [nzact, nzsi] at ha
    split at ha
    · rename_i v r
      cases hq : nzp1 ls (q : Nat) (.int v) with
      | none => rw [hq] at ha; simp at ha
      | some lt =>
        rw [hq] at ha
        simp only [Option.bind_some] at ha
        simp only [nzg, Option.some.injEq, Sum.inl.injEq, Prod.mk.injEq] at ha
        obtain ⟨rfl, rfl, rfl, rfl⟩ := ha
        exact nzs_istore_n F hd hq k
    · cases ha
  case istore q =>
    have hl : len = 2 := of_decide_eq_true hil
    subst hl
    simp only [nzact, nzsi] at ha
    split at ha
    · rename_i v r
      cases hq : nzp1 ls q (.int v) with
      | none => rw [hq] at ha; simp at ha
      | some lt =>
        rw [hq] at ha
        simp only [Option.bind_some] at ha
        simp only [nzg, Option.some.injEq, Sum.inl.injEq, Prod.mk.injEq] at ha
        obtain ⟨rfl, rfl, rfl, rfl⟩ := ha
        exact nzs_istore F hd hq k
    · cases ha
  case astore_n q =>
    have hl : len = 1 := of_decide_eq_true hil
    subst hl
    simp only [nzact, nzsa] at ha
    split at ha
    · rename_i v r
      cases hq : nzp1 ls (q : Nat) (.ref v) with
      | none => rw [hq] at ha; simp at ha
      | some lt =>
        rw [hq] at ha
        simp only [Option.bind_some] at ha
        simp only [nzg, Option.some.injEq, Sum.inl.injEq, Prod.mk.injEq] at ha
        obtain ⟨rfl, rfl, rfl, rfl⟩ := ha
        exact nzs_astore_n F hd hq k
    · cases ha
  case astore q =>
    have hl : len = 2 := of_decide_eq_true hil
    subst hl
    simp only [nzact, nzsa] at ha
    split at ha
    · rename_i v r
      cases hq : nzp1 ls q (.ref v) with
      | none => rw [hq] at ha; simp at ha
      | some lt =>
        rw [hq] at ha
        simp only [Option.bind_some] at ha
        simp only [nzg, Option.some.injEq, Sum.inl.injEq, Prod.mk.injEq] at ha
        obtain ⟨rfl, rfl, rfl, rfl⟩ := ha
        exact nzs_astore F hd hq k
    · cases ha
  case lstore_n q =>
    have hl : len = 1 := of_decide_eq_true hil
    subst hl
    simp only [nzact, nzst2] at ha
    split at ha
    · rename_i v r
      cases hq : nzp2 ls (q : Nat) (.long v) with
      | none => rw [hq] at ha; simp at ha
      | some lt =>
        rw [hq] at ha
        simp only [Option.bind_some] at ha
        simp only [nzg, Option.some.injEq, Sum.inl.injEq, Prod.mk.injEq] at ha
        obtain ⟨rfl, rfl, rfl, rfl⟩ := ha
        exact nzs_lstore_n F hd hq k
    · cases ha
  case lstore q =>
    have hl : len = 2 := of_decide_eq_true hil
    subst hl
    simp only [nzact, nzst2] at ha
    split at ha
    · rename_i v r
      cases hq : nzp2 ls q (.long v) with
      | none => rw [hq] at ha; simp at ha
      | some lt =>
        rw [hq] at ha
        simp only [Option.bind_some] at ha
        simp only [nzg, Option.some.injEq, Sum.inl.injEq, Prod.mk.injEq] at ha
        obtain ⟨rfl, rfl, rfl, rfl⟩ := ha
        exact nzs_lstore F hd hq k
    · cases ha
  case iinc q n =>
    have hl : len = 3 := of_decide_eq_true hil
    subst hl
    simp only [nzact] at ha
    split at ha
    · rename_i v hv
      cases hq : nzp1 ls q (.int (v + Int32.ofInt n)) with
      | none => rw [hq] at ha; simp at ha
      | some lt =>
        rw [hq] at ha
        simp only [Option.bind_some] at ha
        simp only [nzg, Option.some.injEq, Sum.inl.injEq, Prod.mk.injEq] at ha
        obtain ⟨rfl, rfl, rfl, rfl⟩ := ha
        exact nzs_iinc F hd hv hq k
    · cases ha
  case iadd =>
    have hl : len = 1 := of_decide_eq_true hil
    subst hl
    simp only [nzact, nz2] at ha
    split at ha
    · simp only [Option.bind_some] at ha
      simp only [nzg, Option.some.injEq, Sum.inl.injEq, Prod.mk.injEq] at ha
      obtain ⟨rfl, rfl, rfl, rfl⟩ := ha
      exact nzs_iadd F hd k
    · cases ha
  case isub =>
    have hl : len = 1 := of_decide_eq_true hil
    subst hl
    simp only [nzact, nz2] at ha
    split at ha
    · simp only [Option.bind_some] at ha
      simp only [nzg, Option.some.injEq, Sum.inl.injEq, Prod.mk.injEq] at ha
      obtain ⟨rfl, rfl, rfl, rfl⟩ := ha
      exact nzs_isub F hd k
    · cases ha
  case imul =>
    have hl : len = 1 := of_decide_eq_true hil
    subst hl
    simp only [nzact, nz2] at ha
    split at ha
    · simp only [Option.bind_some] at ha
      simp only [nzg, Option.some.injEq, Sum.inl.injEq, Prod.mk.injEq] at ha
      obtain ⟨rfl, rfl, rfl, rfl⟩ := ha
      exact nzs_imul F hd k
    · cases ha
  case iand =>
    have hl : len = 1 := of_decide_eq_true hil
    subst hl
    simp only [nzact, nz2] at ha
    split at ha
    · simp only [Option.bind_some] at ha
      simp only [nzg, Option.some.injEq, Sum.inl.injEq, Prod.mk.injEq] at ha
      obtain ⟨rfl, rfl, rfl, rfl⟩ := ha
      exact nzs_iand F hd k
    · cases ha
  case ior =>
    have hl : len = 1 := of_decide_eq_true hil
    subst hl
    simp only [nzact, nz2] at ha
    split at ha
    · simp only [Option.bind_some] at ha
      simp only [nzg, Option.some.injEq, Sum.inl.injEq, Prod.mk.injEq] at ha
      obtain ⟨rfl, rfl, rfl, rfl⟩ := ha
      exact nzs_ior F hd k
    · cases ha
  case ixor =>
    have hl : len = 1 := of_decide_eq_true hil
    subst hl
    simp only [nzact, nz2] at ha
    split at ha
    · simp only [Option.bind_some] at ha
      simp only [nzg, Option.some.injEq, Sum.inl.injEq, Prod.mk.injEq] at ha
      obtain ⟨rfl, rfl, rfl, rfl⟩ := ha
      exact nzs_ixor F hd k
    · cases ha
  case ishl =>
    have hl : len = 1 := of_decide_eq_true hil
    subst hl
    simp only [nzact, nz2] at ha
    split at ha
    · simp only [Option.bind_some] at ha
      simp only [nzg, Option.some.injEq, Sum.inl.injEq, Prod.mk.injEq] at ha
      obtain ⟨rfl, rfl, rfl, rfl⟩ := ha
      exact nzs_ishl F hd k
    · cases ha
  case ishr =>
    have hl : len = 1 := of_decide_eq_true hil
    subst hl
    simp only [nzact, nz2] at ha
    split at ha
    · simp only [Option.bind_some] at ha
      simp only [nzg, Option.some.injEq, Sum.inl.injEq, Prod.mk.injEq] at ha
      obtain ⟨rfl, rfl, rfl, rfl⟩ := ha
      exact nzs_ishr F hd k
    · cases ha
  case iushr =>
    have hl : len = 1 := of_decide_eq_true hil
    subst hl
    simp only [nzact, nz2] at ha
    split at ha
    · simp only [Option.bind_some] at ha
      simp only [nzg, Option.some.injEq, Sum.inl.injEq, Prod.mk.injEq] at ha
      obtain ⟨rfl, rfl, rfl, rfl⟩ := ha
      exact nzs_iushr F hd k
    · cases ha
  case idiv =>
    have hl : len = 1 := of_decide_eq_true hil
    subst hl
    simp only [nzact, nz2] at ha
    split at ha
    · rename_i y x r
      by_cases hy : y = 0
      · rw [if_pos hy] at ha; simp at ha
      · rw [if_neg hy] at ha
        simp only [Option.bind_some] at ha
        simp only [nzg, Option.some.injEq, Sum.inl.injEq, Prod.mk.injEq] at ha
        obtain ⟨rfl, rfl, rfl, rfl⟩ := ha
        exact nzs_idiv F hd hy k
    · cases ha
  case irem =>
    have hl : len = 1 := of_decide_eq_true hil
    subst hl
    simp only [nzact, nz2] at ha
    split at ha
    · rename_i y x r
      by_cases hy : y = 0
      · rw [if_pos hy] at ha; simp at ha
      · rw [if_neg hy] at ha
        simp only [Option.bind_some] at ha
        simp only [nzg, Option.some.injEq, Sum.inl.injEq, Prod.mk.injEq] at ha
        obtain ⟨rfl, rfl, rfl, rfl⟩ := ha
        exact nzs_irem F hd hy k
    · cases ha
  case ineg =>
    have hl : len = 1 := of_decide_eq_true hil
    subst hl
    simp only [nzact, nz1] at ha
    split at ha
    · simp only [nzg, Option.some.injEq, Sum.inl.injEq, Prod.mk.injEq] at ha
      obtain ⟨rfl, rfl, rfl, rfl⟩ := ha
      exact nzs_ineg F hd k
    · cases ha
  case i2l =>
    have hl : len = 1 := of_decide_eq_true hil
    subst hl
    simp only [nzact, nz1] at ha
    split at ha
    · simp only [nzg, Option.some.injEq, Sum.inl.injEq, Prod.mk.injEq] at ha
      obtain ⟨rfl, rfl, rfl, rfl⟩ := ha
      exact nzs_i2l F hd k
    · cases ha
  case i2b =>
    have hl : len = 1 := of_decide_eq_true hil
    subst hl
    simp only [nzact, nz1] at ha
    split at ha
    · simp only [nzg, Option.some.injEq, Sum.inl.injEq, Prod.mk.injEq] at ha
      obtain ⟨rfl, rfl, rfl, rfl⟩ := ha
      exact nzs_i2b F hd k
    · cases ha
  case i2c =>
    have hl : len = 1 := of_decide_eq_true hil
    subst hl
    simp only [nzact, nz1] at ha
    split at ha
    · simp only [nzg, Option.some.injEq, Sum.inl.injEq, Prod.mk.injEq] at ha
      obtain ⟨rfl, rfl, rfl, rfl⟩ := ha
      exact nzs_i2c F hd k
    · cases ha
  case ladd =>
    have hl : len = 1 := of_decide_eq_true hil
    subst hl
    simp only [nzact, nz2l] at ha
    split at ha
    · simp only [nzg, Option.some.injEq, Sum.inl.injEq, Prod.mk.injEq] at ha
      obtain ⟨rfl, rfl, rfl, rfl⟩ := ha
      exact nzs_ladd F hd k
    · cases ha
  case lmul =>
    have hl : len = 1 := of_decide_eq_true hil
    subst hl
    simp only [nzact, nz2l] at ha
    split at ha
    · simp only [nzg, Option.some.injEq, Sum.inl.injEq, Prod.mk.injEq] at ha
      obtain ⟨rfl, rfl, rfl, rfl⟩ := ha
      exact nzs_lmul F hd k
    · cases ha
  case lcmp =>
    have hl : len = 1 := of_decide_eq_true hil
    subst hl
    simp only [nzact, nz2l] at ha
    split at ha
    · simp only [nzg, Option.some.injEq, Sum.inl.injEq, Prod.mk.injEq] at ha
      obtain ⟨rfl, rfl, rfl, rfl⟩ := ha
      exact nzs_lcmp F hd k
    · cases ha
  case dup =>
    have hl : len = 1 := of_decide_eq_true hil
    subst hl
    simp only [nzact] at ha
    split at ha
    · split at ha
      · rename_i hv
        simp only [nzg, Option.some.injEq, Sum.inl.injEq, Prod.mk.injEq] at ha
        obtain ⟨rfl, rfl, rfl, rfl⟩ := ha
        exact nzs_dup F hd hv k
      · cases ha
    · cases ha
  case pop =>
    have hl : len = 1 := of_decide_eq_true hil
    subst hl
    simp only [nzact] at ha
    split at ha
    · split at ha
      · rename_i hv
        simp only [nzg, Option.some.injEq, Sum.inl.injEq, Prod.mk.injEq] at ha
        obtain ⟨rfl, rfl, rfl, rfl⟩ := ha
        exact nzs_pop F hd hv k
      · cases ha
    · cases ha
  case dup2 =>
    have hl : len = 1 := of_decide_eq_true hil
    subst hl
    simp only [nzact] at ha
    split at ha
    · split at ha
      · rename_i hv
        simp only [nzg, Option.some.injEq, Sum.inl.injEq, Prod.mk.injEq] at ha
        obtain ⟨rfl, rfl, rfl, rfl⟩ := ha
        exact nzs_dup2 F hd hv.1 hv.2 k
      · cases ha
    · cases ha
  case goto q =>
    have hl : len = 3 := of_decide_eq_true hil
    subst hl
    simp only [nzact, nzjmp] at ha
    split at ha
    · rename_i t ht
      simp only [nzg, Option.some.injEq, Sum.inl.injEq, Prod.mk.injEq] at ha
      obtain ⟨rfl, rfl, rfl, rfl⟩ := ha
      exact nzs_goto F hd ht k
    · cases ha
  case ifCond cc q =>
    have hl : len = 3 := of_decide_eq_true hil
    subst hl
    simp only [nzact] at ha
    split at ha
    · rename_i hj
      cases cc <;> simp only [nziff] at ha <;> split at ha <;> rename_i hcd
      · simp only [nzg, Option.some.injEq, Sum.inl.injEq, Prod.mk.injEq] at ha
        obtain ⟨rfl, rfl, rfl, rfl⟩ := ha
        exact nzs_if_eq F hd hj (fun _ => k) (fun z => absurd hcd z)
      · simp only [nzg, Option.some.injEq, Sum.inl.injEq, Prod.mk.injEq] at ha
        obtain ⟨rfl, rfl, rfl, rfl⟩ := ha
        exact nzs_if_eq F hd hj (fun z => absurd z hcd) (fun _ => k)
      · simp only [nzg, Option.some.injEq, Sum.inl.injEq, Prod.mk.injEq] at ha
        obtain ⟨rfl, rfl, rfl, rfl⟩ := ha
        exact nzs_if_ne F hd hj (fun z => absurd hcd z) (fun _ => k)
      · simp only [nzg, Option.some.injEq, Sum.inl.injEq, Prod.mk.injEq] at ha
        obtain ⟨rfl, rfl, rfl, rfl⟩ := ha
        exact nzs_if_ne F hd hj (fun _ => k) (fun z => absurd z hcd)
      · simp only [nzg, Option.some.injEq, Sum.inl.injEq, Prod.mk.injEq] at ha
        obtain ⟨rfl, rfl, rfl, rfl⟩ := ha
        exact nzs_if_lt F hd hj (fun _ => k) (fun z => absurd hcd z)
      · simp only [nzg, Option.some.injEq, Sum.inl.injEq, Prod.mk.injEq] at ha
        obtain ⟨rfl, rfl, rfl, rfl⟩ := ha
        exact nzs_if_lt F hd hj (fun z => absurd z hcd) (fun _ => k)
      · simp only [nzg, Option.some.injEq, Sum.inl.injEq, Prod.mk.injEq] at ha
        obtain ⟨rfl, rfl, rfl, rfl⟩ := ha
        exact nzs_if_ge F hd hj (fun _ => k) (fun z => absurd hcd z)
      · simp only [nzg, Option.some.injEq, Sum.inl.injEq, Prod.mk.injEq] at ha
        obtain ⟨rfl, rfl, rfl, rfl⟩ := ha
        exact nzs_if_ge F hd hj (fun z => absurd z hcd) (fun _ => k)
      · simp only [nzg, Option.some.injEq, Sum.inl.injEq, Prod.mk.injEq] at ha
        obtain ⟨rfl, rfl, rfl, rfl⟩ := ha
        exact nzs_if_gt F hd hj (fun _ => k) (fun z => absurd hcd z)
      · simp only [nzg, Option.some.injEq, Sum.inl.injEq, Prod.mk.injEq] at ha
        obtain ⟨rfl, rfl, rfl, rfl⟩ := ha
        exact nzs_if_gt F hd hj (fun z => absurd z hcd) (fun _ => k)
      · simp only [nzg, Option.some.injEq, Sum.inl.injEq, Prod.mk.injEq] at ha
        obtain ⟨rfl, rfl, rfl, rfl⟩ := ha
        exact nzs_if_le F hd hj (fun _ => k) (fun z => absurd hcd z)
      · simp only [nzg, Option.some.injEq, Sum.inl.injEq, Prod.mk.injEq] at ha
        obtain ⟨rfl, rfl, rfl, rfl⟩ := ha
        exact nzs_if_le F hd hj (fun z => absurd z hcd) (fun _ => k)
    · cases ha
  case if_icmp cc q =>
    have hl : len = 3 := of_decide_eq_true hil
    subst hl
    simp only [nzact] at ha
    split at ha
    · rename_i hj
      cases cc <;> simp only [nziff] at ha <;> split at ha <;> rename_i hcd
      · simp only [nzg, Option.some.injEq, Sum.inl.injEq, Prod.mk.injEq] at ha
        obtain ⟨rfl, rfl, rfl, rfl⟩ := ha
        exact nzs_ic_eq F hd hj (fun _ => k) (fun z => absurd hcd z)
      · simp only [nzg, Option.some.injEq, Sum.inl.injEq, Prod.mk.injEq] at ha
        obtain ⟨rfl, rfl, rfl, rfl⟩ := ha
        exact nzs_ic_eq F hd hj (fun z => absurd z hcd) (fun _ => k)
      · simp only [nzg, Option.some.injEq, Sum.inl.injEq, Prod.mk.injEq] at ha
        obtain ⟨rfl, rfl, rfl, rfl⟩ := ha
        exact nzs_ic_ne F hd hj (fun z => absurd hcd z) (fun _ => k)
      · simp only [nzg, Option.some.injEq, Sum.inl.injEq, Prod.mk.injEq] at ha
        obtain ⟨rfl, rfl, rfl, rfl⟩ := ha
        exact nzs_ic_ne F hd hj (fun _ => k) (fun z => absurd z hcd)
      · simp only [nzg, Option.some.injEq, Sum.inl.injEq, Prod.mk.injEq] at ha
        obtain ⟨rfl, rfl, rfl, rfl⟩ := ha
        exact nzs_ic_lt F hd hj (fun _ => k) (fun z => absurd hcd z)
      · simp only [nzg, Option.some.injEq, Sum.inl.injEq, Prod.mk.injEq] at ha
        obtain ⟨rfl, rfl, rfl, rfl⟩ := ha
        exact nzs_ic_lt F hd hj (fun z => absurd z hcd) (fun _ => k)
      · simp only [nzg, Option.some.injEq, Sum.inl.injEq, Prod.mk.injEq] at ha
        obtain ⟨rfl, rfl, rfl, rfl⟩ := ha
        exact nzs_ic_ge F hd hj (fun _ => k) (fun z => absurd hcd z)
      · simp only [nzg, Option.some.injEq, Sum.inl.injEq, Prod.mk.injEq] at ha
        obtain ⟨rfl, rfl, rfl, rfl⟩ := ha
        exact nzs_ic_ge F hd hj (fun z => absurd z hcd) (fun _ => k)
      · simp only [nzg, Option.some.injEq, Sum.inl.injEq, Prod.mk.injEq] at ha
        obtain ⟨rfl, rfl, rfl, rfl⟩ := ha
        exact nzs_ic_gt F hd hj (fun _ => k) (fun z => absurd hcd z)
      · simp only [nzg, Option.some.injEq, Sum.inl.injEq, Prod.mk.injEq] at ha
        obtain ⟨rfl, rfl, rfl, rfl⟩ := ha
        exact nzs_ic_gt F hd hj (fun z => absurd z hcd) (fun _ => k)
      · simp only [nzg, Option.some.injEq, Sum.inl.injEq, Prod.mk.injEq] at ha
        obtain ⟨rfl, rfl, rfl, rfl⟩ := ha
        exact nzs_ic_le F hd hj (fun _ => k) (fun z => absurd hcd z)
      · simp only [nzg, Option.some.injEq, Sum.inl.injEq, Prod.mk.injEq] at ha
        obtain ⟨rfl, rfl, rfl, rfl⟩ := ha
        exact nzs_ic_le F hd hj (fun z => absurd z hcd) (fun _ => k)
    · cases ha
  case ifnull q =>
    have hl : len = 3 := of_decide_eq_true hil
    subst hl
    simp only [nzact, nzjmp] at ha
    split at ha
    · split at ha
      · rename_i t ht
        simp only [nzg, Option.some.injEq, Sum.inl.injEq, Prod.mk.injEq] at ha
        obtain ⟨rfl, rfl, rfl, rfl⟩ := ha
        exact nzs_ifnull0 F hd ht k
      · cases ha
    · simp only [nzg, Option.some.injEq, Sum.inl.injEq, Prod.mk.injEq] at ha
      obtain ⟨rfl, rfl, rfl, rfl⟩ := ha
      exact nzs_ifnull1 F hd k
    · cases ha
  case ifnonnull q =>
    have hl : len = 3 := of_decide_eq_true hil
    subst hl
    simp only [nzact, nzjmp] at ha
    split at ha
    · simp only [nzg, Option.some.injEq, Sum.inl.injEq, Prod.mk.injEq] at ha
      obtain ⟨rfl, rfl, rfl, rfl⟩ := ha
      exact nzs_ifnonnull0 F hd k
    · split at ha
      · rename_i t ht
        simp only [nzg, Option.some.injEq, Sum.inl.injEq, Prod.mk.injEq] at ha
        obtain ⟨rfl, rfl, rfl, rfl⟩ := ha
        exact nzs_ifnonnull1 F hd ht k
      · cases ha
    · cases ha
  case tableswitch f lo hi offs =>
    simp only [nzact, nzjmp] at ha
    split at ha
    · split at ha
      · rename_i hz
        split at ha
        · rename_i t ht
          simp only [nzg, Option.some.injEq, Sum.inl.injEq, Prod.mk.injEq] at ha
          obtain ⟨rfl, rfl, rfl, rfl⟩ := ha
          exact nzs_tabOut F hd hz ht k
        · cases ha
      · rename_i hz
        split at ha
        · rename_i w hw
          split at ha
          · rename_i t ht
            simp only [nzg, Option.some.injEq, Sum.inl.injEq, Prod.mk.injEq] at ha
            obtain ⟨rfl, rfl, rfl, rfl⟩ := ha
            exact nzs_tabIn F hd hz hw ht k
          · cases ha
        · cases ha
    · cases ha
  case getstatic q =>
    have hl : len = 3 := of_decide_eq_true hil
    subst hl
    simp only [nzact] at ha
    cases hq : nzlk nzTS M.1 q with
    | none => rw [hq] at ha; simp at ha
    | some v =>
      rw [hq] at ha
      simp only [Option.bind_some] at ha
      simp only [nzg, Option.some.injEq, Sum.inl.injEq, Prod.mk.injEq] at ha
      obtain ⟨rfl, rfl, rfl, rfl⟩ := ha
      exact nzs_gets F hd hq k
  case getfield q =>
    have hl : len = 3 := of_decide_eq_true hil
    subst hl
    simp only [nzact, nzgetf] at ha
    split at ha
    · rename_i kd ci j a r hq
      cases hv : nzgI h a ci j with
      | none => rw [hv] at ha; simp at ha
      | some v =>
        rw [hv] at ha
        simp only [Option.bind_some] at ha
        simp only [nzg, Option.some.injEq, Sum.inl.injEq, Prod.mk.injEq] at ha
        obtain ⟨rfl, rfl, rfl, rfl⟩ := ha
        unfold nzgI at hv
        split at hv
        · rename_i v1 hv1
          cases hv
          exact nzs_getf F hd hq hv1 k
        · cases hv
    · rename_i kd ci j a r hq
      cases hv : nzgL h a ci j with
      | none => rw [hv] at ha; simp at ha
      | some v =>
        rw [hv] at ha
        simp only [Option.bind_some] at ha
        simp only [nzg, Option.some.injEq, Sum.inl.injEq, Prod.mk.injEq] at ha
        obtain ⟨rfl, rfl, rfl, rfl⟩ := ha
        unfold nzgL at hv
        split at hv
        · rename_i v1 hv1
          cases hv
          exact nzs_getf F hd hq hv1 k
        · cases hv
    · rename_i kd ci j a r hq
      split at ha
      · cases hv : nzgN h a ci j with
        | none => rw [hv] at ha; simp at ha
        | some v =>
          rw [hv] at ha
          simp only [Option.bind_some] at ha
          simp only [nzg, Option.some.injEq, Sum.inl.injEq, Prod.mk.injEq] at ha
          obtain ⟨rfl, rfl, rfl, rfl⟩ := ha
          unfold nzgN at hv
          split at hv
          · rename_i v1 hv1
            cases hv
            exact nzs_getf F hd hq hv1 k
          · rename_i hv1
            cases hv
            exact nzs_getf F hd hq hv1 k
          · cases hv
      · cases hv : nzgR h a ci j with
        | none => rw [hv] at ha; simp at ha
        | some v =>
          rw [hv] at ha
          simp only [Option.bind_some] at ha
          simp only [nzg, Option.some.injEq, Sum.inl.injEq, Prod.mk.injEq] at ha
          obtain ⟨rfl, rfl, rfl, rfl⟩ := ha
          unfold nzgR at hv
          split at hv
          · rename_i v1 hv1
            cases hv
            exact nzs_getf F hd hq hv1 k
          · cases hv
    · rename_i kd a r hq
      split at ha
      · rename_i hs
        simp only [nzg, Option.some.injEq, Sum.inl.injEq, Prod.mk.injEq] at ha
        obtain ⟨rfl, rfl, rfl, rfl⟩ := ha
        exact nzs_getSV F hd hq hs k
      · cases ha
    · rename_i kd a r hq
      split at ha
      · rename_i hs
        simp only [nzg, Option.some.injEq, Sum.inl.injEq, Prod.mk.injEq] at ha
        obtain ⟨rfl, rfl, rfl, rfl⟩ := ha
        exact nzs_getSC F hd hq hs k
      · cases ha
    · cases ha
  case putfield q =>
    have hl : len = 3 := of_decide_eq_true hil
    subst hl
    simp only [nzact, nzputf] at ha
    split at ha
    · rename_i kd ci j t v a r hq
      split at ha
      · rename_i hf
        rw [Bool.and_eq_true] at hf
        cases hv : nzput h a ci j v with
        | none => rw [hv] at ha; simp at ha
        | some h2 =>
          rw [hv] at ha
          simp only [Option.bind_some] at ha
          simp only [nzg, Option.some.injEq, Sum.inl.injEq, Prod.mk.injEq] at ha
          obtain ⟨rfl, rfl, rfl, rfl⟩ := ha
          exact nzs_putf F hd hq hf.1 hf.2 hv k
      · cases ha
    · cases ha
  case iaload =>
    have hl : len = 1 := of_decide_eq_true hil
    subst hl
    simp only [nzact] at ha
    split at ha
    · rename_i i a r
      cases hv : nzaI h a i with
      | none => rw [hv] at ha; simp at ha
      | some v =>
        rw [hv] at ha
        simp only [Option.bind_some] at ha
        simp only [nzg, Option.some.injEq, Sum.inl.injEq, Prod.mk.injEq] at ha
        obtain ⟨rfl, rfl, rfl, rfl⟩ := ha
        obtain ⟨n, f, h1, h2, rfl⟩ := nzaI_at hv
        exact nzs_iald F hd h1 h2 k
    · rename_i i a r
      cases hv : nzcI h a i with
      | none => rw [hv] at ha; simp at ha
      | some v =>
        rw [hv] at ha
        simp only [Option.bind_some] at ha
        simp only [nzg, Option.some.injEq, Sum.inl.injEq, Prod.mk.injEq] at ha
        obtain ⟨rfl, rfl, rfl, rfl⟩ := ha
        obtain ⟨n, f, h1, h2, rfl⟩ := nzcI_at hv
        exact nzs_ialdK F hd h1 h2 k
    · cases ha
  case baload =>
    have hl : len = 1 := of_decide_eq_true hil
    subst hl
    simp only [nzact] at ha
    split at ha
    · rename_i i a r
      cases hv : nzaB h a i with
      | none => rw [hv] at ha; simp at ha
      | some v =>
        rw [hv] at ha
        simp only [Option.bind_some] at ha
        simp only [nzg, Option.some.injEq, Sum.inl.injEq, Prod.mk.injEq] at ha
        obtain ⟨rfl, rfl, rfl, rfl⟩ := ha
        rcases nzaB_at hv with ⟨n, f, h1, h2, rfl⟩ | ⟨n, f, h1, h2, rfl⟩
        · exact nzs_bald F hd h1 h2 k
        · exact nzs_zald F hd h1 h2 k
    · rename_i i a r
      cases hv : nzcB a i with
      | none => rw [hv] at ha; simp at ha
      | some v =>
        rw [hv] at ha
        simp only [Option.bind_some] at ha
        simp only [nzg, Option.some.injEq, Sum.inl.injEq, Prod.mk.injEq] at ha
        obtain ⟨rfl, rfl, rfl, rfl⟩ := ha
        obtain ⟨n, f, h1, h2, rfl⟩ := nzcB_at hv
        exact nzs_baldK F hd h1 h2 k
    · cases ha
  case laload =>
    have hl : len = 1 := of_decide_eq_true hil
    subst hl
    simp only [nzact] at ha
    split at ha
    · rename_i i a r
      cases hv : nzaL h a i with
      | none => rw [hv] at ha; simp at ha
      | some v =>
        rw [hv] at ha
        simp only [Option.bind_some] at ha
        simp only [nzg, Option.some.injEq, Sum.inl.injEq, Prod.mk.injEq] at ha
        obtain ⟨rfl, rfl, rfl, rfl⟩ := ha
        obtain ⟨n, f, h1, h2, rfl⟩ := nzaL_at hv
        exact nzs_lald F hd h1 h2 k
    · cases ha
  case aaload =>
    have hl : len = 1 := of_decide_eq_true hil
    subst hl
    simp only [nzact] at ha
    split at ha
    · rename_i i a r
      cases hv : nzaR h a i with
      | none => rw [hv] at ha; simp at ha
      | some v =>
        rw [hv] at ha
        simp only [Option.bind_some] at ha
        simp only [nzg, Option.some.injEq, Sum.inl.injEq, Prod.mk.injEq] at ha
        obtain ⟨rfl, rfl, rfl, rfl⟩ := ha
        obtain ⟨n, f, h1, h2, h3⟩ := nzaR_at hv
        exact nzs_aald F hd h1 h2 h3 k
    · cases ha
  case iastore =>
    have hl : len = 1 := of_decide_eq_true hil
    subst hl
    simp only [nzact] at ha
    split at ha
    · rename_i x i a r
      cases hv : nzsI h a i x with
      | none => rw [hv] at ha; simp at ha
      | some h2 =>
        rw [hv] at ha
        simp only [Option.bind_some] at ha
        simp only [nzg, Option.some.injEq, Sum.inl.injEq, Prod.mk.injEq] at ha
        obtain ⟨rfl, rfl, rfl, rfl⟩ := ha
        obtain ⟨n, f, h1, h2, rfl⟩ := nzsI_at hv
        exact nzs_iast F hd h1 h2 k
    · cases ha
  case bastore =>
    have hl : len = 1 := of_decide_eq_true hil
    subst hl
    simp only [nzact] at ha
    split at ha
    · rename_i x i a r
      cases hv : nzsB h a i x with
      | none => rw [hv] at ha; simp at ha
      | some h2 =>
        rw [hv] at ha
        simp only [Option.bind_some] at ha
        simp only [nzg, Option.some.injEq, Sum.inl.injEq, Prod.mk.injEq] at ha
        obtain ⟨rfl, rfl, rfl, rfl⟩ := ha
        rcases nzsB_at hv with ⟨n, f, h1, h2, rfl⟩ | ⟨n, f, h1, h2, rfl⟩
        · exact nzs_bast F hd h1 h2 k
        · exact nzs_zast F hd h1 h2 k
    · cases ha
  case lastore =>
    have hl : len = 1 := of_decide_eq_true hil
    subst hl
    simp only [nzact] at ha
    split at ha
    · rename_i x i a r
      cases hv : nzsL h a i x with
      | none => rw [hv] at ha; simp at ha
      | some h2 =>
        rw [hv] at ha
        simp only [Option.bind_some] at ha
        simp only [nzg, Option.some.injEq, Sum.inl.injEq, Prod.mk.injEq] at ha
        obtain ⟨rfl, rfl, rfl, rfl⟩ := ha
        obtain ⟨n, f, h1, h2, rfl⟩ := nzsL_at hv
        exact nzs_last F hd h1 h2 k
    · cases ha
  case arraylength =>
    have hl : len = 1 := of_decide_eq_true hil
    subst hl
    simp only [nzact] at ha
    split at ha
    · rename_i a r
      cases hv : nzlen h a with
      | none => rw [hv] at ha; simp at ha
      | some v =>
        rw [hv] at ha
        simp only [Option.bind_some] at ha
        simp only [nzg, Option.some.injEq, Sum.inl.injEq, Prod.mk.injEq] at ha
        obtain ⟨rfl, rfl, rfl, rfl⟩ := ha
        unfold nzlen at hv
        split at hv
        · rename_i x hc
          cases hv
          exact nzs_alen F hd hc k
        · cases hv
    · rename_i a r
      cases hv : nzclen h a with
      | none => rw [hv] at ha; simp at ha
      | some v =>
        rw [hv] at ha
        simp only [Option.bind_some] at ha
        simp only [nzg, Option.some.injEq, Sum.inl.injEq, Prod.mk.injEq] at ha
        obtain ⟨rfl, rfl, rfl, rfl⟩ := ha
        exact nzs_alenK F hd hv k
    · cases ha
  case newarray t =>
    have hl : len = 2 := of_decide_eq_true hil
    subst hl
    simp only [nzact] at ha
    split at ha
    · rename_i n r
      cases hv : nznewa h (newarray.typeOf t) n with
      | none => rw [hv] at ha; simp at ha
      | some h2 =>
        rw [hv] at ha
        simp only [Option.bind_some] at ha
        simp only [nzg, Option.some.injEq, Sum.inl.injEq, Prod.mk.injEq] at ha
        obtain ⟨rfl, rfl, rfl, rfl⟩ := ha
        exact nzs_newa F hd hv hrc hrs k
    · cases ha
  case multianewarray q dm =>
    have hl : len = 4 := of_decide_eq_true hil
    subst hl
    rcases Nat.lt_trichotomy dm 2 with hdm | rfl | hdm
    · rcases (show dm = 0 ∨ dm = 1 by omega) with rfl | rfl <;> simp [nzact] at ha
    · simp only [nzact] at ha
      split at ha
      · rename_i w n r
        cases hq : nzlk nzTA M.1 q with
        | none => rw [hq] at ha; simp at ha
        | some v =>
          rw [hq] at ha
          simp only [Option.bind_some] at ha
          cases hv : nznewm h n w with
          | none => rw [hv] at ha; simp at ha
          | some h2 =>
            rw [hv] at ha
            simp only [Option.bind_some] at ha
            simp only [nzg, Option.some.injEq, Sum.inl.injEq, Prod.mk.injEq] at ha
            obtain ⟨rfl, rfl, rfl, rfl⟩ := ha
            exact nzs_newm F hd hq hv hrc hrs k
      · cases ha
    · obtain ⟨z, rfl⟩ : ∃ z, dm = z + 3 := ⟨dm - 3, by omega⟩
      simp [nzact] at ha
  case new q =>
    have hl : len = 3 := of_decide_eq_true hil
    subst hl
    simp only [nzact] at ha
    cases hq : nzlk nzTN M.1 q with
    | none => rw [hq] at ha; simp at ha
    | some v =>
      rw [hq] at ha
      simp only [Option.bind_some] at ha
      cases hv : nznewo h v with
      | none => rw [hv] at ha; simp at ha
      | some h2 =>
        rw [hv] at ha
        simp only [Option.bind_some] at ha
        simp only [nzg, Option.some.injEq, Sum.inl.injEq, Prod.mk.injEq] at ha
        obtain ⟨rfl, rfl, rfl, rfl⟩ := ha
        exact nzs_new F hd hq hv hrc hrs k
  case invokestatic q =>
    have hl : len = 3 := of_decide_eq_true hil
    subst hl
    simp only [nzact, nzinvS] at ha
    split at ha
    · split at ha <;> simp at ha
    · split at ha <;> simp at ha
    · rename_i x y hq
      split at ha
      · rename_i n dp a sp a0 r
        split at ha
        · rename_i hct
          cases hv : nzcpy h a0 sp a dp n with
          | none => rw [hv] at ha; simp at ha
          | some h2 =>
            rw [hv] at ha
            simp only [Option.bind_some] at ha
            simp only [nzg, Option.some.injEq, Sum.inl.injEq, Prod.mk.injEq] at ha
            obtain ⟨rfl, rfl, rfl, rfl⟩ := ha
            exact nzs_copy F hd hq hct hv k
        · cases ha
      · cases ha
    · rename_i x y hq
      split at ha
      · split at ha
        · rename_i hct
          simp only [nzg, Option.some.injEq, Sum.inl.injEq, Prod.mk.injEq] at ha
          obtain ⟨rfl, rfl, rfl, rfl⟩ := ha
          exact nzs_mmin F hd hq hct hrc hrs k
        · cases ha
      · cases ha
    · rename_i x y hq
      split at ha
      · split at ha
        · rename_i hct
          simp only [nzg, Option.some.injEq, Sum.inl.injEq, Prod.mk.injEq] at ha
          obtain ⟨rfl, rfl, rfl, rfl⟩ := ha
          exact nzs_mmax F hd hq hct hrc hrs k
        · cases ha
      · cases ha
    · rename_i x y hq
      split at ha
      · split at ha
        · rename_i hct
          simp only [nzg, Option.some.injEq, Sum.inl.injEq, Prod.mk.injEq] at ha
          obtain ⟨rfl, rfl, rfl, rfl⟩ := ha
          exact nzs_mabs F hd hq hct hrc hrs k
        · cases ha
      · cases ha
    · rename_i x y hq
      split at ha
      · rename_i hct
        cases hv : nzled h st with
        | none => rw [hv] at ha; simp at ha
        | some v =>
          rw [hv] at ha
          simp only [Option.bind_some] at ha
          simp only [nzg, Option.some.injEq, Sum.inl.injEq, Prod.mk.injEq] at ha
          obtain ⟨rfl, rfl, rfl, rfl⟩ := ha
          obtain ⟨st2, h2⟩ := v
          exact hled pc ls st h q x y _ _ hd hq hct hv hrc hrs k
      · cases ha
    · cases ha
  case invokespecial q =>
    have hl : len = 3 := of_decide_eq_true hil
    subst hl
    simp only [nzact, nzinvI] at ha
    split at ha
    · split at ha <;> simp at ha
    · split at ha <;> simp at ha
    · rename_i x y hq
      split at ha
      · split at ha
        · rename_i hct
          simp only [nzg, Option.some.injEq, Sum.inl.injEq, Prod.mk.injEq] at ha
          obtain ⟨rfl, rfl, rfl, rfl⟩ := ha
          exact nzs_objInit F hd hq hct k
        · cases ha
      · cases ha
    · cases ha
  case invokevirtual q =>
    simp only [nzact, nzinvV] at ha
    split at ha
    · split at ha <;> simp at ha
    · split at ha <;> simp at ha
    · cases ha
  case ireturn =>
    simp only [nzact] at ha
    split at ha <;> first | (split at ha <;> simp at ha; done) | (simp at ha; done)
  case lreturn =>
    simp only [nzact] at ha
    split at ha <;> first | (split at ha <;> simp at ha; done) | (simp at ha; done)
  case areturn =>
    simp only [nzact] at ha
    split at ha <;> first | (split at ha <;> simp at ha; done) | (simp at ha; done)
  case return_ =>
    simp only [nzact] at ha
    split at ha <;> first | (split at ha <;> simp at ha; done) | (simp at ha; done)
  all_goals (simp [nzact] at ha)
end NZI
