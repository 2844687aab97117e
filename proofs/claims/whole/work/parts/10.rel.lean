/-! SOUNDNESS, 1: how a heap of numbered cells lies in the machine's heap, from the address b on -/
def nzFA (b : Nat) : Nat → Prop := fun q => b ≤ q
def nzcv (b : Nat) (ck : UInt32 → Value) : Value → Value
  | .ref i => .ref (b + i)
  | .float k => ck k
  | v => v
def nzcx (b : Nat) (x : vp_A) : vp_A := match x with
  | (n, .inr (.inr (.inr (.inr f)))) => (n, .inr (.inr (.inr (.inr (fun j => (f j).map (fun a => b + a))))))
  | x => x
def nzAt (D : va_G) (cA : FieldType → ClassId) (b : Nat) (ck : UInt32 → Value) (H : Heap) (i : Nat) (e : nzE) : Prop := match e with
  | .inl (ty, x) => H[b + i]? = some (vp_cell (cA ty) (nzcx b x))
  | .inr (ci, F) => ∃ q, vwCl[ci]? = some q ∧ t_OB (b + i) (D.1 ci) q.2.2 (D.2 ci) H (fun k => nzcv b ck (F k))
def nzRel (D : va_G) (cA : FieldType → ClassId) (b : Nat) (ck : UInt32 → Value) (h : nzH) (H : Heap) : Prop := H.size = b + h.1 ∧ ∀ i e, nzcell h i = some e → nzAt D cA b ck H i e
theorem nzAt.kept {D : va_G} {cA : FieldType → ClassId} {b : Nat} {ck : UInt32 → Value} {H H1 : Heap} {i : Nat} {e : nzE} (h : nzAt D cA b ck H i e) (hq : H1[b + i]? = H[b + i]?) : nzAt D cA b ck H1 i e := by
  match e, h with
  | .inl (ty, x), h => exact hq.trans h
  | .inr (ci, F), ⟨q, h1, h2⟩ => exact ⟨q, h1, h2.kept hq⟩
theorem nzAt.lt {D : va_G} {cA : FieldType → ClassId} {b : Nat} {ck : UInt32 → Value} {H : Heap} {i : Nat} {e : nzE} (h : nzAt D cA b ck H i e) : b + i < H.size := by
  match e, h with
  | .inl (ty, x), h => exact (Array.getElem?_eq_some_iff.mp h).1
  | .inr (ci, F), ⟨q, h1, c0, h2, _⟩ => exact (Array.getElem?_eq_some_iff.mp h2).1
theorem nzcell_set (h : nzH) (a : Nat) (e : nzE) (i : Nat) : nzcell (nzset h a e) i = if i = a then some e else nzcell h i := rfl
theorem nzcell_new (h : nzH) (k : Nat) (e : nzE) (i : Nat) : nzcell (nznew h k e) i = if i = h.1 then some e else nzcell h i := rfl
theorem nzRel.set {D : va_G} {cA : FieldType → ClassId} {b : Nat} {ck : UInt32 → Value} {h : nzH} {H H1 : Heap} {a : Nat} {e : nzE} (hR : nzRel D cA b ck h H) (z : H1.size = H.size) (oq : ∀ q : Nat, q ≠ b + a → H1[q]? = H[q]?) (he : nzAt D cA b ck H1 a e) : nzRel D cA b ck (nzset h a e) H1 := by
  refine ⟨z.trans hR.1, fun i e' hi => ?_⟩
  rw [nzcell_set] at hi
  by_cases hia : i = a
  · rw [if_pos hia] at hi
    cases hi
    rw [hia]
    exact he
  · rw [if_neg hia] at hi
    exact (hR.2 i e' hi).kept (oq _ (by omega))
theorem nzRel.new {D : va_G} {cA : FieldType → ClassId} {b : Nat} {ck : UInt32 → Value} {h : nzH} {H H1 : Heap} {k : Nat} {e : nzE} (hR : nzRel D cA b ck h H) (z : H1.size = H.size + 1) (oq : ∀ q : Nat, q < H.size → H1[q]? = H[q]?) (he : nzAt D cA b ck H1 h.1 e) : nzRel D cA b ck (nznew h k e) H1 := by
  refine ⟨by rw [z, hR.1]; show b + h.1 + 1 = b + (h.1 + 1); omega, fun i e' hi => ?_⟩
  rw [nzcell_new] at hi
  by_cases hia : i = h.1
  · rw [if_pos hia] at hi
    cases hi
    rw [hia]
    exact he
  · rw [if_neg hia] at hi
    exact (hR.2 i e' hi).kept (oq _ (hR.2 i e' hi).lt)
def nzTys (cA : FieldType → ClassId) : List (ClassId × FieldType) := [(cA .int, .int), (cA .long, .long), (cA .byte, .byte), (cA .boolean, .boolean), (cA (.array .int), .array .int)]
/-- what lies in the heap from the start and is only read -/
def nzisN : Cond → Bool
  | .fieldLinkNest .. => true
  | .methodLinkNest .. => true
  | _ => false
def nzStrOK (b : Nat) (ck : UInt32 → Value) (U : State) (H : Heap) (j : Nat) (z : String × Nat × String) (l : List Nat) : Prop :=
  ∃ a v : Nat, ck (UInt32.ofNat (10 + 2 * j)) = .ref a ∧ ck (UInt32.ofNat (11 + 2 * j)) = .ref v ∧ vk_R z.1 z.2.1 z.2.2 a U ∧ va_O "java/lang/String" a (nzFA b) U H ∧ va_OF "java/lang/String" "coder" "B" (.int 0) a (nzFA b) U H ∧ va_OF "java/lang/String" "value" "[B" (.ref v) a (nzFA b) U H ∧ va_T .byte v l.length (fun j => .int (nI (l.getD j 0))) (nzFA b) U H
def nzCst (b : Nat) (ck : UInt32 → Value) (sc : Nat × (Nat → Int32)) (U : State) (H : Heap) : Prop :=
  (∀ k, ck k = .null ∨ ∃ a, ck k = .ref a) ∧ (∃ t, ck 0 = .ref t ∧ va_T .int t sc.1 (fun j => .int (sc.2 j)) (nzFA b) U H) ∧ (∃ t, ck 1 = .ref t ∧ va_T .int t 9 (fun j => .int ([3, 6, 4, 6, 3, 3, 5, 5, 1].getD j 0)) (nzFA b) U H) ∧
  va_Z "NoonMeals" "ROOM" "[I" (ck 1) (nzFA b) U H ∧ va_Z "java/lang/String" "COMPACT_STRINGS" "Z" (.int 1) (nzFA b) U H ∧ va_Z "jdk/internal/util/Preconditions" "SIOOBE_FORMATTER" "Ljava/util/function/BiFunction;" (ck 2) (nzFA b) U H ∧
  (∀ j z l, nzStrAt[j]? = some z → nzStr[j]? = some l → nzStrOK b ck U H j z l) ∧ (∀ w ∈ lw_tbl, nzisN w = true → va_Nw w U) ∧ va_Nw (.arrayOver (.array .int)) U
theorem nzNw_warm {w : Cond} (hw : nzisN w = true) {s U : State} (hW : s.WarmedH U.vm) (h : va_Nw w s) : va_Nw w U := by
  match w, hw, h with
  | .fieldLinkNest a i c n d x, _, h => exact h.warmF hW
  | .methodLinkNest a i y x, _, h => exact h.warmM hW
theorem nzAO_warm {s U : State} (hW : s.WarmedH U.vm) (h : va_Nw (.arrayOver (.array .int)) s) : va_Nw (.arrayOver (.array .int)) U :=
  (show (Cond.arrayOver (.array .int)).before #[] U = (Cond.arrayOver (.array .int)).before #[] (s.setVm U.vm) from rfl).trans ((Cond.arrayOver_setVmC hW.alike (.array .int)).trans h)
theorem nzCst.to {b : Nat} {ck : UInt32 → Value} {sc : Nat × (Nat → Int32)} {U U1 : State} {H H1 : Heap} (h : nzCst b ck sc U H) (hW : U.WarmedH U1.vm) (hq : ∀ a : Nat, a < H.size → ¬ nzFA b a → H1[a]? = H[a]?) : nzCst b ck sc U1 H1 := by
  obtain ⟨h1, ⟨t2, e2, h2⟩, ⟨t3, e3, h3⟩, h4, h5, h6, h7, h8, h9⟩ := h
  have hv := hW.alike
  refine ⟨h1, ⟨t2, e2, (h2.kept hq).moved hv⟩, ⟨t3, e3, (h3.kept hq).moved hv⟩, (h4.kept hq).moved hv, (h5.kept hq).moved hv, (h6.kept hq).moved hv, fun j z l hz hl => ?_, fun w hw hn => nzNw_warm hn hW (h8 w hw hn), nzAO_warm hW h9⟩
  obtain ⟨a, v, g1, g2, g3, g4, g5, g6, g7⟩ := h7 j z l hz hl
  exact ⟨a, v, g1, g2, g3.warm hW, (g4.kept hq).moved hv, (g5.kept hq).moved hv, (g6.kept hq).moved hv, (g7.kept hq).moved hv⟩
theorem nzcv_cat {b : Nat} {ck : UInt32 → Value} (hck : ∀ k, ck k = .null ∨ ∃ a, ck k = .ref a) (v : Value) : (nzcv b ck v).category = v.category := by
  cases v with
  | float k =>
    show (ck k).category = 1
    rcases hck k with e | ⟨a, e⟩ <;> rw [e] <;> rfl
  | _ => rfl
theorem nzcat_map {b : Nat} {ck : UInt32 → Value} (hck : ∀ k, ck k = .null ∨ ∃ a, ck k = .ref a) {st : List Value} (h : nzcat st = true) : ((st.map (nzcv b ck)).map fun v => v.category).sum ≤ 8 := by
  have e : ((st.map (nzcv b ck)).map fun v => v.category) = st.map fun v => v.category := by
    rw [List.map_map]
    apply List.map_congr_left
    intro v _
    exact nzcv_cat hck v
  rw [e]
  exact of_decide_eq_true h
-- locals
def nzLoc (b : Nat) (ck : UInt32 → Value) (ls : nzL) (cls : Array Slot) : Prop := cls.size = ls.length ∧ lv_wf cls ∧ ∀ i v, nzlv ls i = some v → cls[i]? = some (.val (nzcv b ck v))
def nzprs (b : Nat) (ck : UInt32 → Value) (ls : nzL) : List (Nat × Value) := (List.range ls.length).filterMap (fun i => (nzlv ls i).map (fun v => (i, nzcv b ck v)))
theorem nzlv_lt {ls : nzL} {i : Nat} {v : Value} (h : nzlv ls i = some v) : ls[i]? = some (some v) := by
  unfold nzlv at h
  split at h
  · rename_i w e; cases h; exact e
  · cases h
theorem nzlv_of {ls : nzL} {i : Nat} {v : Value} (h : ls[i]? = some (some v)) : nzlv ls i = some v := by
  unfold nzlv; rw [h]
theorem nzprs_mem {b : Nat} {ck : UInt32 → Value} {ls : nzL} {i : Nat} {v : Value} (h : nzlv ls i = some v) : (i, nzcv b ck v) ∈ nzprs b ck ls := by
  refine List.mem_filterMap.mpr ⟨i, List.mem_range.mpr (List.getElem?_eq_some_iff.mp (nzlv_lt h)).1, ?_⟩
  rw [h]; rfl
theorem nzLoc.has {b : Nat} {ck : UInt32 → Value} {ls : nzL} {cls : Array Slot} (h : nzLoc b ck ls cls) : lv_has cls ls.length (nzprs b ck ls) := by
  refine ⟨h.1, h.2.1, fun q hq => ?_⟩
  obtain ⟨i, _, hi⟩ := List.mem_filterMap.mp hq
  cases hv : nzlv ls i with
  | none => rw [hv] at hi; cases hi
  | some v =>
    rw [hv] at hi
    cases hi
    exact h.2.2 i v hv
theorem nzclr_len (ls : nzL) (i : Nat) : (nzclr ls i).length = ls.length := by
  unfold nzclr
  split
  · rfl
  · split
    · split
      · exact List.length_set
      · rfl
    · rfl
theorem nzclr_at {ls : nzL} {i j : Nat} {w : Value} (h : (nzclr ls i)[j]? = some (some w)) : ls[j]? = some (some w) ∧ ¬ (j + 1 = i ∧ w.category = 2) := by
  unfold nzclr at h
  split at h
  · exact ⟨h, fun q => by omega⟩
  · rename_i k
    split at h
    · rename_i v hv
      split at h
      · rename_i hc
        by_cases hjk : j = k
        · subst hjk
          rw [List.getElem?_set_self (List.getElem?_eq_some_iff.mp hv).1] at h
          cases h
        · rw [List.getElem?_set_ne (Ne.symm hjk)] at h
          exact ⟨h, fun q => hjk (by omega)⟩
      · rename_i hc
        refine ⟨h, fun q => ?_⟩
        have : j = k := by omega
        subst this
        rw [hv] at h
        cases h
        exact hc q.2
    · rename_i hv
      refine ⟨h, fun q => ?_⟩
      have : j = k := by omega
      subst this
      exact hv w h
theorem nzLoc.put1 {b : Nat} {ck : UInt32 → Value} (hck : ∀ k, ck k = .null ∨ ∃ a, ck k = .ref a) {ls l : nzL} {cls1 : Array Slot} {i : Nat} {v : Value} (hl : nzp1 ls i v = some l) (h : lv_has cls1 ls.length ((i, nzcv b ck v) :: (nzprs b ck ls).filter (fun q => !(q.1 == i) && !(q.1 + 1 == i && q.2.category == 2)))) : nzLoc b ck l cls1 ∧ l.length = ls.length := by
  unfold nzp1 at hl
  split at hl
  · rename_i hi
    cases hl
    have hlen : ((nzclr ls i).set i (some v)).length = ls.length := by rw [List.length_set, nzclr_len]
    refine ⟨⟨h.1.trans hlen.symm, h.2.1, fun j w hj => ?_⟩, hlen⟩
    have hj := nzlv_lt hj
    by_cases hji : j = i
    · subst hji
      rw [List.getElem?_set_self (by rw [nzclr_len]; exact hi)] at hj
      cases hj
      exact h.2.2 _ List.mem_cons_self
    · rw [List.getElem?_set_ne (Ne.symm hji)] at hj
      obtain ⟨h1, h2⟩ := nzclr_at hj
      refine h.2.2 (j, nzcv b ck w) (List.mem_cons_of_mem _ (List.mem_filter.mpr ⟨nzprs_mem (nzlv_of h1), ?_⟩))
      rw [nzcv_cat hck]
      simp only [Bool.and_eq_true, Bool.not_eq_true', beq_eq_false_iff_ne, ne_eq, hji, not_false_eq_true, true_and, Bool.and_eq_false_iff]
      by_cases q : j + 1 = i
      · exact Or.inr (fun z => h2 ⟨q, z⟩)
      · exact Or.inl q
  · cases hl
theorem nzLoc.put2 {b : Nat} {ck : UInt32 → Value} (hck : ∀ k, ck k = .null ∨ ∃ a, ck k = .ref a) {ls l : nzL} {cls1 : Array Slot} {i : Nat} {v : Value} (hl : nzp2 ls i v = some l) (h : lv_has cls1 ls.length ((i, nzcv b ck v) :: (nzprs b ck ls).filter (fun q => !(q.1 == i) && (!(q.1 == i + 1) && !(q.1 + 1 == i && q.2.category == 2))))) : nzLoc b ck l cls1 ∧ l.length = ls.length := by
  unfold nzp2 at hl
  split at hl
  · rename_i hi
    cases hl
    have hlen : (((nzclr ls i).set i (some v)).set (i + 1) none).length = ls.length := by rw [List.length_set, List.length_set, nzclr_len]
    refine ⟨⟨h.1.trans hlen.symm, h.2.1, fun j w hj => ?_⟩, hlen⟩
    have hj := nzlv_lt hj
    by_cases hj1 : j = i + 1
    · subst hj1
      rw [List.getElem?_set_self (by rw [List.length_set, nzclr_len]; exact hi)] at hj
      cases hj
    · rw [List.getElem?_set_ne (Ne.symm hj1)] at hj
      by_cases hji : j = i
      · subst hji
        rw [List.getElem?_set_self (by rw [nzclr_len]; omega)] at hj
        cases hj
        exact h.2.2 _ List.mem_cons_self
      · rw [List.getElem?_set_ne (Ne.symm hji)] at hj
        obtain ⟨h1, h2⟩ := nzclr_at hj
        refine h.2.2 (j, nzcv b ck w) (List.mem_cons_of_mem _ (List.mem_filter.mpr ⟨nzprs_mem (nzlv_of h1), ?_⟩))
        rw [nzcv_cat hck]
        simp only [Bool.and_eq_true, Bool.not_eq_true', beq_eq_false_iff_ne, ne_eq, hji, hj1, not_false_eq_true, true_and, Bool.and_eq_false_iff]
        by_cases q : j + 1 = i
        · exact Or.inr (fun z => h2 ⟨q, z⟩)
        · exact Or.inl q
  · cases hl
-- the heap grows
def nzle (h h1 : nzH) : Prop := h.1 ≤ h1.1 ∧ h.2.1.1 ≤ h1.2.1.1 ∧ h.2.1.2 ≤ h1.2.1.2 ∧ h1.2.2.2 = h.2.2.2
theorem nzle.rfl' (h : nzH) : nzle h h := ⟨Nat.le_refl _, Nat.le_refl _, Nat.le_refl _, rfl⟩
theorem nzle.tr {h h1 h2 : nzH} (a : nzle h h1) (c : nzle h1 h2) : nzle h h2 := ⟨Nat.le_trans a.1 c.1, Nat.le_trans a.2.1 c.2.1, Nat.le_trans a.2.2.1 c.2.2.1, c.2.2.2.trans a.2.2.2⟩
theorem nzle_set (h : nzH) (a : Nat) (e : nzE) : nzle h (nzset h a e) := ⟨Nat.le_refl _, Nat.le_refl _, Nat.le_refl _, rfl⟩
theorem nzle_new (h : nzH) (k : Nat) (e : nzE) : nzle h (nznew h k e) := ⟨Nat.le_succ _, Nat.le_succ _, Nat.le_add_right _ _, rfl⟩
