/-! SOUNDNESS, 2: each step of the abstract machine is a step of the machine; written by wip/gen/gen_sound.py -/
section NZS
variable {p : Program} {l : Launch} {e : Env} {R : Room} {s : State} {m : MethodId} {args : Array Value} {below : List Frame} {meth : Method} {c : Code} {Q : State → Prop} {D : va_G} {cA : FieldType → ClassId} {b : Nat} {ck : UInt32 → Value} {sc : Nat × (Nat → Int32)} {M : nzM} {kc ks : Nat}
def nzFr (p : Program) (R : Room) (s : State) (m : MethodId) (args : Array Value) (meth : Method) (c : Code) (D : va_G) (cA : FieldType → ClassId) (b : Nat) (ck : UInt32 → Value) (sc : Nat × (Nat → Int32)) (M : nzM) : Prop :=
  p.tables.exec = Jvm.exec ∧ c.code = M.2.2.1 ∧ meth.sig.returnType = M.2.2.2.2.1 ∧ c.maxLocals = M.2.2.2.1 ∧ s.vm.findClass (nzown M.1) = some m.cls ∧ (∀ w ∈ lw_tbl, goodWord w = true → w.before args s = true) ∧ meth.locks = false ∧ (M.2.1.name = "<init>" → meth.name = "<init>") ∧ va_K D vwCl (nzTys cA) s ∧ nzCst b ck sc s s.heap ∧ b ≤ s.heap.size ∧ 1 ≤ R.frames ∧ 64 ≤ R.locals
def nzOK (p : Program) (l : Launch) (e : Env) (R : Room) (s : State) (m : MethodId) (args : Array Value) (below : List Frame) (meth : Method) (c : Code) (Q : State → Prop) (D : va_G) (cA : FieldType → ClassId) (b : Nat) (ck : UInt32 → Value) (sc : Nat × (Nat → Int32)) (M : nzM) (kc ks : Nat) (pc : Nat) (ls : nzL) (st : List Value) (h : nzH) : Prop :=
  kc ≤ h.2.1.1 → ks ≤ h.2.1.2 → h.2.2.2 = sc → ls.length = M.2.2.2.1 → ∀ (H : Heap) (locs : List Loc) (cls : Array Slot), nzRel D cA b ck h H → va_S (nzFA b) s.heap H locs → nzLoc b ck ls cls → W p l e R s m args below meth c H locs (h.2.1.1 - kc) (h.2.1.2 - ks) Q (F0 m pc cls (st.map (nzcv b ck)))
theorem nzj_eq {pc t : Nat} {o : Int} (h : nzj pc o = some t) : (pc : Int) + o = (t : Int) := by
  unfold nzj at h
  split at h
  · rename_i q; cases h; exact (Int.toNat_of_nonneg q).symm
  · cases h
theorem nzgw {w : Cond} {a : Array Value} {U : State} (hts : ∀ w ∈ lw_tbl, goodWord w = true → w.before a U = true) (hm : w ∈ lw_tbl) (hg : goodWord w = true) : w.before a U = true := hts w hm hg
theorem nzm_min : Cond.code Lib.Math.min.name Lib.Math.min.code 2 (some .int) ∈ lw_tbl := by
  have h : Cond.code Lib.Math.min.name Lib.Math.min.code 2 (some .int) ∈ [Cond.code Lib.Math.min.name Lib.Math.min.code 2 (some .int), Cond.code Lib.Math.max.name Lib.Math.max.code 2 (some .int), Cond.code Lib.Math.abs.name Lib.Math.abs.code 1 (some .int)] := List.mem_cons_self
  rw [nzMath_code] at h
  obtain ⟨i, -, hi⟩ := List.mem_filterMap.mp h
  exact List.mem_of_getElem? hi
theorem nzm_max : Cond.code Lib.Math.max.name Lib.Math.max.code 2 (some .int) ∈ lw_tbl := by
  have h : Cond.code Lib.Math.max.name Lib.Math.max.code 2 (some .int) ∈ [Cond.code Lib.Math.min.name Lib.Math.min.code 2 (some .int), Cond.code Lib.Math.max.name Lib.Math.max.code 2 (some .int), Cond.code Lib.Math.abs.name Lib.Math.abs.code 1 (some .int)] := List.mem_cons_of_mem _ List.mem_cons_self
  rw [nzMath_code] at h
  obtain ⟨i, -, hi⟩ := List.mem_filterMap.mp h
  exact List.mem_of_getElem? hi
theorem nzm_abs : Cond.code Lib.Math.abs.name Lib.Math.abs.code 1 (some .int) ∈ lw_tbl := by
  have h : Cond.code Lib.Math.abs.name Lib.Math.abs.code 1 (some .int) ∈ [Cond.code Lib.Math.min.name Lib.Math.min.code 2 (some .int), Cond.code Lib.Math.max.name Lib.Math.max.code 2 (some .int), Cond.code Lib.Math.abs.name Lib.Math.abs.code 1 (some .int)] := List.mem_cons_of_mem _ (List.mem_cons_of_mem _ List.mem_cons_self)
  rw [nzMath_code] at h
  obtain ⟨i, -, hi⟩ := List.mem_filterMap.mp h
  exact List.mem_of_getElem? hi
theorem nz_dflt {b : Nat} {ck : UInt32 → Value} {ty : FieldType} (hf : ty ≠ .float) : defaultValue ty = nzcv b ck (defaultValue ty) := by
  cases ty <;> first | exact absurd rfl hf | rfl
theorem nz_arr {ty : FieldType} {z} (hz : nzzero ty = some z) (cA : FieldType → ClassId) (b n : Nat) : Cond.arrayClass ty ∈ lw_tbl ∧ (arrV (cA ty) n (fun _ => defaultValue ty)) = vp_cell (cA ty) (nzcx b (n, z)) := by
  cases ty <;> simp only [nzzero, Option.some.injEq, reduceCtorEq] at hz <;> subst hz
  · exact ⟨nzac_byte, rfl⟩
  · exact ⟨nzac_int, rfl⟩
  · exact ⟨nzac_long, rfl⟩
  · exact ⟨nzac_bool, rfl⟩
theorem nz_arrc {ty : FieldType} {z} (hz : nzzero ty = some z) {D : va_G} {cA : FieldType → ClassId} {s : State} (hK : va_K D vwCl (nzTys cA) s) {cB : ClassId} (h : s.vm.findClass ("[" ++ ty.toString) = some cB) : cB = cA ty := by
  cases ty <;> simp only [nzzero, Option.some.injEq, reduceCtorEq] at hz
  · exact Option.some.inj (h.symm.trans (hK.2 2 _ rfl).2)
  · exact Option.some.inj (h.symm.trans (hK.2 0 _ rfl).2)
  · exact Option.some.inj (h.symm.trans (hK.2 1 _ rfl).2)
  · exact Option.some.inj (h.symm.trans (hK.2 3 _ rfl).2)
theorem nzs_iconst (F : nzFr p R s m args meth c D cA b ck sc M) {pc : Nat} {ls : nzL} {st : List Value} {h : nzH} {n : Int} (hd : decode M.2.2.1 pc = .ok (.iconst n, 1)) (k : nzOK p l e R s m args below meth c Q D cA b ck sc M kc ks (pc + 1) ls (.int (Int32.ofInt n) :: st) h) : nzOK p l e R s m args below meth c Q D cA b ck sc M kc ks pc ls st h := by
  obtain ⟨hx, hb, hr, hml, hown, hts, hlk, hin, hK, hC, hbs, hfr, hlo⟩ := F
  intro a1 a2 a3 a4 H locs cls hR hS hL
  exact lv_iconst hx hb hd rfl (k a1 a2 a3 a4 H locs cls hR hS hL)
theorem nzs_bipush (F : nzFr p R s m args meth c D cA b ck sc M) {pc : Nat} {ls : nzL} {st : List Value} {h : nzH} {n : Int} (hd : decode M.2.2.1 pc = .ok (.bipush n, 2)) (k : nzOK p l e R s m args below meth c Q D cA b ck sc M kc ks (pc + 2) ls (.int (Int8.ofInt n).toInt32 :: st) h) : nzOK p l e R s m args below meth c Q D cA b ck sc M kc ks pc ls st h := by
  obtain ⟨hx, hb, hr, hml, hown, hts, hlk, hin, hK, hC, hbs, hfr, hlo⟩ := F
  intro a1 a2 a3 a4 H locs cls hR hS hL
  exact lv_bipush hx hb hd rfl (k a1 a2 a3 a4 H locs cls hR hS hL)
theorem nzs_sipush (F : nzFr p R s m args meth c D cA b ck sc M) {pc : Nat} {ls : nzL} {st : List Value} {h : nzH} {n : Int} (hd : decode M.2.2.1 pc = .ok (.sipush n, 3)) (k : nzOK p l e R s m args below meth c Q D cA b ck sc M kc ks (pc + 3) ls (.int (Int16.ofInt n).toInt32 :: st) h) : nzOK p l e R s m args below meth c Q D cA b ck sc M kc ks pc ls st h := by
  obtain ⟨hx, hb, hr, hml, hown, hts, hlk, hin, hK, hC, hbs, hfr, hlo⟩ := F
  intro a1 a2 a3 a4 H locs cls hR hS hL
  exact lv_sipush hx hb hd rfl (k a1 a2 a3 a4 H locs cls hR hS hL)
theorem nzs_lconst (F : nzFr p R s m args meth c D cA b ck sc M) {pc : Nat} {ls : nzL} {st : List Value} {h : nzH} {n : Fin 2} (hd : decode M.2.2.1 pc = .ok (.lconst n, 1)) (k : nzOK p l e R s m args below meth c Q D cA b ck sc M kc ks (pc + 1) ls (.long (Int64.ofNat (n : Nat)) :: st) h) : nzOK p l e R s m args below meth c Q D cA b ck sc M kc ks pc ls st h := by
  obtain ⟨hx, hb, hr, hml, hown, hts, hlk, hin, hK, hC, hbs, hfr, hlo⟩ := F
  intro a1 a2 a3 a4 H locs cls hR hS hL
  exact lv_lconst hx hb hd rfl (k a1 a2 a3 a4 H locs cls hR hS hL)
theorem nzs_iload_n (F : nzFr p R s m args meth c D cA b ck sc M) {pc : Nat} {ls : nzL} {st : List Value} {h : nzH} {q : Fin 4} {v : Int32} (hd : decode M.2.2.1 pc = .ok (.iload_n q, 1)) (hl : nzlv ls (q : Nat) = some (.int v)) (k : nzOK p l e R s m args below meth c Q D cA b ck sc M kc ks (pc + 1) ls (.int v :: st) h) : nzOK p l e R s m args below meth c Q D cA b ck sc M kc ks pc ls st h := by
  obtain ⟨hx, hb, hr, hml, hown, hts, hlk, hin, hK, hC, hbs, hfr, hlo⟩ := F
  intro a1 a2 a3 a4 H locs cls hR hS hL
  exact lv_iload_n hx hb hd rfl (hL.2.2 _ _ hl) (k a1 a2 a3 a4 H locs cls hR hS hL)
theorem nzs_iload (F : nzFr p R s m args meth c D cA b ck sc M) {pc : Nat} {ls : nzL} {st : List Value} {h : nzH} {q : Nat} {v : Int32} (hd : decode M.2.2.1 pc = .ok (.iload q, 2)) (hl : nzlv ls q = some (.int v)) (k : nzOK p l e R s m args below meth c Q D cA b ck sc M kc ks (pc + 2) ls (.int v :: st) h) : nzOK p l e R s m args below meth c Q D cA b ck sc M kc ks pc ls st h := by
  obtain ⟨hx, hb, hr, hml, hown, hts, hlk, hin, hK, hC, hbs, hfr, hlo⟩ := F
  intro a1 a2 a3 a4 H locs cls hR hS hL
  exact lv_iload hx hb hd (hL.2.2 _ _ hl) (k a1 a2 a3 a4 H locs cls hR hS hL)
theorem nzs_lload_n (F : nzFr p R s m args meth c D cA b ck sc M) {pc : Nat} {ls : nzL} {st : List Value} {h : nzH} {q : Fin 4} {v : Int64} (hd : decode M.2.2.1 pc = .ok (.lload_n q, 1)) (hl : nzlv ls (q : Nat) = some (.long v)) (k : nzOK p l e R s m args below meth c Q D cA b ck sc M kc ks (pc + 1) ls (.long v :: st) h) : nzOK p l e R s m args below meth c Q D cA b ck sc M kc ks pc ls st h := by
  obtain ⟨hx, hb, hr, hml, hown, hts, hlk, hin, hK, hC, hbs, hfr, hlo⟩ := F
  intro a1 a2 a3 a4 H locs cls hR hS hL
  exact lv_lload_n hx hb hd rfl (hL.2.2 _ _ hl) (k a1 a2 a3 a4 H locs cls hR hS hL)
theorem nzs_lload (F : nzFr p R s m args meth c D cA b ck sc M) {pc : Nat} {ls : nzL} {st : List Value} {h : nzH} {q : Nat} {v : Int64} (hd : decode M.2.2.1 pc = .ok (.lload q, 2)) (hl : nzlv ls q = some (.long v)) (k : nzOK p l e R s m args below meth c Q D cA b ck sc M kc ks (pc + 2) ls (.long v :: st) h) : nzOK p l e R s m args below meth c Q D cA b ck sc M kc ks pc ls st h := by
  obtain ⟨hx, hb, hr, hml, hown, hts, hlk, hin, hK, hC, hbs, hfr, hlo⟩ := F
  intro a1 a2 a3 a4 H locs cls hR hS hL
  exact lv_lload hx hb hd (hL.2.2 _ _ hl) (k a1 a2 a3 a4 H locs cls hR hS hL)
theorem nzs_aload_n (F : nzFr p R s m args meth c D cA b ck sc M) {pc : Nat} {ls : nzL} {st : List Value} {h : nzH} {q : Fin 4} {v : Nat} (hd : decode M.2.2.1 pc = .ok (.aload_n q, 1)) (hl : nzlv ls (q : Nat) = some (.ref v)) (k : nzOK p l e R s m args below meth c Q D cA b ck sc M kc ks (pc + 1) ls (.ref v :: st) h) : nzOK p l e R s m args below meth c Q D cA b ck sc M kc ks pc ls st h := by
  obtain ⟨hx, hb, hr, hml, hown, hts, hlk, hin, hK, hC, hbs, hfr, hlo⟩ := F
  intro a1 a2 a3 a4 H locs cls hR hS hL
  exact lv_aload_n hx hb hd rfl (hL.2.2 _ _ hl) (k a1 a2 a3 a4 H locs cls hR hS hL)
theorem nzs_aload (F : nzFr p R s m args meth c D cA b ck sc M) {pc : Nat} {ls : nzL} {st : List Value} {h : nzH} {q : Nat} {v : Nat} (hd : decode M.2.2.1 pc = .ok (.aload q, 2)) (hl : nzlv ls q = some (.ref v)) (k : nzOK p l e R s m args below meth c Q D cA b ck sc M kc ks (pc + 2) ls (.ref v :: st) h) : nzOK p l e R s m args below meth c Q D cA b ck sc M kc ks pc ls st h := by
  obtain ⟨hx, hb, hr, hml, hown, hts, hlk, hin, hK, hC, hbs, hfr, hlo⟩ := F
  intro a1 a2 a3 a4 H locs cls hR hS hL
  exact lv_aload hx hb hd (hL.2.2 _ _ hl) (k a1 a2 a3 a4 H locs cls hR hS hL)
theorem nzs_aload_nF (F : nzFr p R s m args meth c D cA b ck sc M) {pc : Nat} {ls : nzL} {st : List Value} {h : nzH} {q : Fin 4} {v : UInt32} (hd : decode M.2.2.1 pc = .ok (.aload_n q, 1)) (hl : nzlv ls (q : Nat) = some (.float v)) (k : nzOK p l e R s m args below meth c Q D cA b ck sc M kc ks (pc + 1) ls (.float v :: st) h) : nzOK p l e R s m args below meth c Q D cA b ck sc M kc ks pc ls st h := by
  obtain ⟨hx, hb, hr, hml, hown, hts, hlk, hin, hK, hC, hbs, hfr, hlo⟩ := F
  intro a1 a2 a3 a4 H locs cls hR hS hL
  have h1 := hL.2.2 _ _ hl
  have kk := k a1 a2 a3 a4 H locs cls hR hS hL
  rw [List.map_cons, show nzcv b ck (.float v) = ck v from rfl] at kk
  rw [show nzcv b ck (.float v) = ck v from rfl] at h1
  rcases hC.1 v with e1 | ⟨a, e1⟩
  · rw [e1] at h1 kk
    exact lv_aload_nN hx hb hd rfl h1 kk
  · rw [e1] at h1 kk
    exact lv_aload_n hx hb hd rfl h1 kk
theorem nzs_aloadF (F : nzFr p R s m args meth c D cA b ck sc M) {pc : Nat} {ls : nzL} {st : List Value} {h : nzH} {q : Nat} {v : UInt32} (hd : decode M.2.2.1 pc = .ok (.aload q, 2)) (hl : nzlv ls q = some (.float v)) (k : nzOK p l e R s m args below meth c Q D cA b ck sc M kc ks (pc + 2) ls (.float v :: st) h) : nzOK p l e R s m args below meth c Q D cA b ck sc M kc ks pc ls st h := by
  obtain ⟨hx, hb, hr, hml, hown, hts, hlk, hin, hK, hC, hbs, hfr, hlo⟩ := F
  intro a1 a2 a3 a4 H locs cls hR hS hL
  have h1 := hL.2.2 _ _ hl
  have kk := k a1 a2 a3 a4 H locs cls hR hS hL
  rw [List.map_cons, show nzcv b ck (.float v) = ck v from rfl] at kk
  rw [show nzcv b ck (.float v) = ck v from rfl] at h1
  rcases hC.1 v with e1 | ⟨a, e1⟩
  · rw [e1] at h1 kk
    exact lv_aloadN hx hb hd h1 kk
  · rw [e1] at h1 kk
    exact lv_aload hx hb hd h1 kk
theorem nzs_istore_n (F : nzFr p R s m args meth c D cA b ck sc M) {pc : Nat} {ls : nzL} {st : List Value} {h : nzH} {q : Fin 4} {v : Int32} {lt : nzL} (hd : decode M.2.2.1 pc = .ok (.istore_n q, 1)) (hl : nzp1 ls (q : Nat) (.int v) = some lt) (k : nzOK p l e R s m args below meth c Q D cA b ck sc M kc ks (pc + 1) lt st h) : nzOK p l e R s m args below meth c Q D cA b ck sc M kc ks pc ls (.int v :: st) h := by
  obtain ⟨hx, hb, hr, hml, hown, hts, hlk, hin, hK, hC, hbs, hfr, hlo⟩ := F
  intro a1 a2 a3 a4 H locs cls hR hS hL
  have hi : (q : Nat) < ls.length := by
    unfold nzp1 at hl
    split at hl
    · assumption
    · cases hl
  refine lv_istore_n hx hb hd rfl hL.has hi rfl (fun cls1 h1 => ?_)
  obtain ⟨g1, g2⟩ := nzLoc.put1 hC.1 hl h1
  exact k a1 a2 a3 (g2.trans a4) H locs cls1 hR hS g1
theorem nzs_istore (F : nzFr p R s m args meth c D cA b ck sc M) {pc : Nat} {ls : nzL} {st : List Value} {h : nzH} {q : Nat} {v : Int32} {lt : nzL} (hd : decode M.2.2.1 pc = .ok (.istore q, 2)) (hl : nzp1 ls q (.int v) = some lt) (k : nzOK p l e R s m args below meth c Q D cA b ck sc M kc ks (pc + 2) lt st h) : nzOK p l e R s m args below meth c Q D cA b ck sc M kc ks pc ls (.int v :: st) h := by
  obtain ⟨hx, hb, hr, hml, hown, hts, hlk, hin, hK, hC, hbs, hfr, hlo⟩ := F
  intro a1 a2 a3 a4 H locs cls hR hS hL
  have hi : q < ls.length := by
    unfold nzp1 at hl
    split at hl
    · assumption
    · cases hl
  refine lv_istore hx hb hd hL.has hi rfl (fun cls1 h1 => ?_)
  obtain ⟨g1, g2⟩ := nzLoc.put1 hC.1 hl h1
  exact k a1 a2 a3 (g2.trans a4) H locs cls1 hR hS g1
theorem nzs_lstore_n (F : nzFr p R s m args meth c D cA b ck sc M) {pc : Nat} {ls : nzL} {st : List Value} {h : nzH} {q : Fin 4} {v : Int64} {lt : nzL} (hd : decode M.2.2.1 pc = .ok (.lstore_n q, 1)) (hl : nzp2 ls (q : Nat) (.long v) = some lt) (k : nzOK p l e R s m args below meth c Q D cA b ck sc M kc ks (pc + 1) lt st h) : nzOK p l e R s m args below meth c Q D cA b ck sc M kc ks pc ls (.long v :: st) h := by
  obtain ⟨hx, hb, hr, hml, hown, hts, hlk, hin, hK, hC, hbs, hfr, hlo⟩ := F
  intro a1 a2 a3 a4 H locs cls hR hS hL
  have hi : (q : Nat) + 1 < ls.length := by
    unfold nzp2 at hl
    split at hl
    · assumption
    · cases hl
  refine lv_lstore_n hx hb hd rfl hL.has hi rfl (fun cls1 h1 => ?_)
  obtain ⟨g1, g2⟩ := nzLoc.put2 hC.1 hl h1
  exact k a1 a2 a3 (g2.trans a4) H locs cls1 hR hS g1
theorem nzs_lstore (F : nzFr p R s m args meth c D cA b ck sc M) {pc : Nat} {ls : nzL} {st : List Value} {h : nzH} {q : Nat} {v : Int64} {lt : nzL} (hd : decode M.2.2.1 pc = .ok (.lstore q, 2)) (hl : nzp2 ls q (.long v) = some lt) (k : nzOK p l e R s m args below meth c Q D cA b ck sc M kc ks (pc + 2) lt st h) : nzOK p l e R s m args below meth c Q D cA b ck sc M kc ks pc ls (.long v :: st) h := by
  obtain ⟨hx, hb, hr, hml, hown, hts, hlk, hin, hK, hC, hbs, hfr, hlo⟩ := F
  intro a1 a2 a3 a4 H locs cls hR hS hL
  have hi : q + 1 < ls.length := by
    unfold nzp2 at hl
    split at hl
    · assumption
    · cases hl
  refine lv_lstore hx hb hd hL.has hi rfl (fun cls1 h1 => ?_)
  obtain ⟨g1, g2⟩ := nzLoc.put2 hC.1 hl h1
  exact k a1 a2 a3 (g2.trans a4) H locs cls1 hR hS g1
theorem nzs_astore_n (F : nzFr p R s m args meth c D cA b ck sc M) {pc : Nat} {ls : nzL} {st : List Value} {h : nzH} {q : Fin 4} {v : Nat} {lt : nzL} (hd : decode M.2.2.1 pc = .ok (.astore_n q, 1)) (hl : nzp1 ls (q : Nat) (.ref v) = some lt) (k : nzOK p l e R s m args below meth c Q D cA b ck sc M kc ks (pc + 1) lt st h) : nzOK p l e R s m args below meth c Q D cA b ck sc M kc ks pc ls (.ref v :: st) h := by
  obtain ⟨hx, hb, hr, hml, hown, hts, hlk, hin, hK, hC, hbs, hfr, hlo⟩ := F
  intro a1 a2 a3 a4 H locs cls hR hS hL
  have hi : (q : Nat) < ls.length := by
    unfold nzp1 at hl
    split at hl
    · assumption
    · cases hl
  refine lv_astore_n hx hb hd rfl hL.has hi rfl (fun cls1 h1 => ?_)
  obtain ⟨g1, g2⟩ := nzLoc.put1 hC.1 hl h1
  exact k a1 a2 a3 (g2.trans a4) H locs cls1 hR hS g1
theorem nzs_astore (F : nzFr p R s m args meth c D cA b ck sc M) {pc : Nat} {ls : nzL} {st : List Value} {h : nzH} {q : Nat} {v : Nat} {lt : nzL} (hd : decode M.2.2.1 pc = .ok (.astore q, 2)) (hl : nzp1 ls q (.ref v) = some lt) (k : nzOK p l e R s m args below meth c Q D cA b ck sc M kc ks (pc + 2) lt st h) : nzOK p l e R s m args below meth c Q D cA b ck sc M kc ks pc ls (.ref v :: st) h := by
  obtain ⟨hx, hb, hr, hml, hown, hts, hlk, hin, hK, hC, hbs, hfr, hlo⟩ := F
  intro a1 a2 a3 a4 H locs cls hR hS hL
  have hi : q < ls.length := by
    unfold nzp1 at hl
    split at hl
    · assumption
    · cases hl
  refine lv_astore hx hb hd hL.has hi rfl (fun cls1 h1 => ?_)
  obtain ⟨g1, g2⟩ := nzLoc.put1 hC.1 hl h1
  exact k a1 a2 a3 (g2.trans a4) H locs cls1 hR hS g1
theorem nzs_iinc (F : nzFr p R s m args meth c D cA b ck sc M) {pc : Nat} {ls : nzL} {st : List Value} {h : nzH} {q : Nat} {n : Int} {v : Int32} {lt : nzL} (hd : decode M.2.2.1 pc = .ok (.iinc q n, 3)) (hv : nzlv ls q = some (.int v)) (hl : nzp1 ls q (.int (v + Int32.ofInt n)) = some lt) (k : nzOK p l e R s m args below meth c Q D cA b ck sc M kc ks (pc + 3) lt st h) : nzOK p l e R s m args below meth c Q D cA b ck sc M kc ks pc ls st h := by
  obtain ⟨hx, hb, hr, hml, hown, hts, hlk, hin, hK, hC, hbs, hfr, hlo⟩ := F
  intro a1 a2 a3 a4 H locs cls hR hS hL
  have hi : q < ls.length := by
    unfold nzp1 at hl
    split at hl
    · assumption
    · cases hl
  obtain ⟨j, hj⟩ := List.getElem?_of_mem (nzprs_mem (b := b) (ck := ck) hv)
  refine lv_iinc hx hb hd hL.has hj rfl hi rfl (fun cls1 h1 => ?_)
  obtain ⟨g1, g2⟩ := nzLoc.put1 hC.1 hl h1
  exact k a1 a2 a3 (g2.trans a4) H locs cls1 hR hS g1
theorem nzs_iadd (F : nzFr p R s m args meth c D cA b ck sc M) {pc : Nat} {ls : nzL} {st : List Value} {h : nzH} {x y : Int32} (hd : decode M.2.2.1 pc = .ok (.iadd, 1)) (k : nzOK p l e R s m args below meth c Q D cA b ck sc M kc ks (pc + 1) ls (.int (x + y) :: st) h) : nzOK p l e R s m args below meth c Q D cA b ck sc M kc ks pc ls (.int y :: .int x :: st) h := by
  obtain ⟨hx, hb, hr, hml, hown, hts, hlk, hin, hK, hC, hbs, hfr, hlo⟩ := F
  intro a1 a2 a3 a4 H locs cls hR hS hL
  exact lv_iadd hx hb hd (k a1 a2 a3 a4 H locs cls hR hS hL)
theorem nzs_isub (F : nzFr p R s m args meth c D cA b ck sc M) {pc : Nat} {ls : nzL} {st : List Value} {h : nzH} {x y : Int32} (hd : decode M.2.2.1 pc = .ok (.isub, 1)) (k : nzOK p l e R s m args below meth c Q D cA b ck sc M kc ks (pc + 1) ls (.int (x - y) :: st) h) : nzOK p l e R s m args below meth c Q D cA b ck sc M kc ks pc ls (.int y :: .int x :: st) h := by
  obtain ⟨hx, hb, hr, hml, hown, hts, hlk, hin, hK, hC, hbs, hfr, hlo⟩ := F
  intro a1 a2 a3 a4 H locs cls hR hS hL
  exact lv_isub hx hb hd (k a1 a2 a3 a4 H locs cls hR hS hL)
theorem nzs_imul (F : nzFr p R s m args meth c D cA b ck sc M) {pc : Nat} {ls : nzL} {st : List Value} {h : nzH} {x y : Int32} (hd : decode M.2.2.1 pc = .ok (.imul, 1)) (k : nzOK p l e R s m args below meth c Q D cA b ck sc M kc ks (pc + 1) ls (.int (x * y) :: st) h) : nzOK p l e R s m args below meth c Q D cA b ck sc M kc ks pc ls (.int y :: .int x :: st) h := by
  obtain ⟨hx, hb, hr, hml, hown, hts, hlk, hin, hK, hC, hbs, hfr, hlo⟩ := F
  intro a1 a2 a3 a4 H locs cls hR hS hL
  exact lv_imul hx hb hd (k a1 a2 a3 a4 H locs cls hR hS hL)
theorem nzs_iand (F : nzFr p R s m args meth c D cA b ck sc M) {pc : Nat} {ls : nzL} {st : List Value} {h : nzH} {x y : Int32} (hd : decode M.2.2.1 pc = .ok (.iand, 1)) (k : nzOK p l e R s m args below meth c Q D cA b ck sc M kc ks (pc + 1) ls (.int (x &&& y) :: st) h) : nzOK p l e R s m args below meth c Q D cA b ck sc M kc ks pc ls (.int y :: .int x :: st) h := by
  obtain ⟨hx, hb, hr, hml, hown, hts, hlk, hin, hK, hC, hbs, hfr, hlo⟩ := F
  intro a1 a2 a3 a4 H locs cls hR hS hL
  exact lv_iand hx hb hd (k a1 a2 a3 a4 H locs cls hR hS hL)
theorem nzs_ior (F : nzFr p R s m args meth c D cA b ck sc M) {pc : Nat} {ls : nzL} {st : List Value} {h : nzH} {x y : Int32} (hd : decode M.2.2.1 pc = .ok (.ior, 1)) (k : nzOK p l e R s m args below meth c Q D cA b ck sc M kc ks (pc + 1) ls (.int (x ||| y) :: st) h) : nzOK p l e R s m args below meth c Q D cA b ck sc M kc ks pc ls (.int y :: .int x :: st) h := by
  obtain ⟨hx, hb, hr, hml, hown, hts, hlk, hin, hK, hC, hbs, hfr, hlo⟩ := F
  intro a1 a2 a3 a4 H locs cls hR hS hL
  exact lv_ior hx hb hd (k a1 a2 a3 a4 H locs cls hR hS hL)
theorem nzs_ixor (F : nzFr p R s m args meth c D cA b ck sc M) {pc : Nat} {ls : nzL} {st : List Value} {h : nzH} {x y : Int32} (hd : decode M.2.2.1 pc = .ok (.ixor, 1)) (k : nzOK p l e R s m args below meth c Q D cA b ck sc M kc ks (pc + 1) ls (.int (x ^^^ y) :: st) h) : nzOK p l e R s m args below meth c Q D cA b ck sc M kc ks pc ls (.int y :: .int x :: st) h := by
  obtain ⟨hx, hb, hr, hml, hown, hts, hlk, hin, hK, hC, hbs, hfr, hlo⟩ := F
  intro a1 a2 a3 a4 H locs cls hR hS hL
  exact lv_ixor hx hb hd (k a1 a2 a3 a4 H locs cls hR hS hL)
theorem nzs_ishl (F : nzFr p R s m args meth c D cA b ck sc M) {pc : Nat} {ls : nzL} {st : List Value} {h : nzH} {x y : Int32} (hd : decode M.2.2.1 pc = .ok (.ishl, 1)) (k : nzOK p l e R s m args below meth c Q D cA b ck sc M kc ks (pc + 1) ls (.int (x <<< (y &&& 31)) :: st) h) : nzOK p l e R s m args below meth c Q D cA b ck sc M kc ks pc ls (.int y :: .int x :: st) h := by
  obtain ⟨hx, hb, hr, hml, hown, hts, hlk, hin, hK, hC, hbs, hfr, hlo⟩ := F
  intro a1 a2 a3 a4 H locs cls hR hS hL
  exact lv_ishl hx hb hd (k a1 a2 a3 a4 H locs cls hR hS hL)
theorem nzs_ishr (F : nzFr p R s m args meth c D cA b ck sc M) {pc : Nat} {ls : nzL} {st : List Value} {h : nzH} {x y : Int32} (hd : decode M.2.2.1 pc = .ok (.ishr, 1)) (k : nzOK p l e R s m args below meth c Q D cA b ck sc M kc ks (pc + 1) ls (.int (x >>> (y &&& 31)) :: st) h) : nzOK p l e R s m args below meth c Q D cA b ck sc M kc ks pc ls (.int y :: .int x :: st) h := by
  obtain ⟨hx, hb, hr, hml, hown, hts, hlk, hin, hK, hC, hbs, hfr, hlo⟩ := F
  intro a1 a2 a3 a4 H locs cls hR hS hL
  exact lv_ishr hx hb hd (k a1 a2 a3 a4 H locs cls hR hS hL)
theorem nzs_iushr (F : nzFr p R s m args meth c D cA b ck sc M) {pc : Nat} {ls : nzL} {st : List Value} {h : nzH} {x y : Int32} (hd : decode M.2.2.1 pc = .ok (.iushr, 1)) (k : nzOK p l e R s m args below meth c Q D cA b ck sc M kc ks (pc + 1) ls (.int ((x.toUInt32 >>> (y.toUInt32 &&& Int32.toUInt32 31)).toInt32) :: st) h) : nzOK p l e R s m args below meth c Q D cA b ck sc M kc ks pc ls (.int y :: .int x :: st) h := by
  obtain ⟨hx, hb, hr, hml, hown, hts, hlk, hin, hK, hC, hbs, hfr, hlo⟩ := F
  intro a1 a2 a3 a4 H locs cls hR hS hL
  exact lv_iushr hx hb hd rfl (k a1 a2 a3 a4 H locs cls hR hS hL)
theorem nzs_idiv (F : nzFr p R s m args meth c D cA b ck sc M) {pc : Nat} {ls : nzL} {st : List Value} {h : nzH} {x y : Int32} (hd : decode M.2.2.1 pc = .ok (.idiv, 1)) (hy : ¬ y = 0) (k : nzOK p l e R s m args below meth c Q D cA b ck sc M kc ks (pc + 1) ls (.int (x / y) :: st) h) : nzOK p l e R s m args below meth c Q D cA b ck sc M kc ks pc ls (.int y :: .int x :: st) h := by
  obtain ⟨hx, hb, hr, hml, hown, hts, hlk, hin, hK, hC, hbs, hfr, hlo⟩ := F
  intro a1 a2 a3 a4 H locs cls hR hS hL
  exact lv_idiv hx hb hd hy (k a1 a2 a3 a4 H locs cls hR hS hL)
theorem nzs_irem (F : nzFr p R s m args meth c D cA b ck sc M) {pc : Nat} {ls : nzL} {st : List Value} {h : nzH} {x y : Int32} (hd : decode M.2.2.1 pc = .ok (.irem, 1)) (hy : ¬ y = 0) (k : nzOK p l e R s m args below meth c Q D cA b ck sc M kc ks (pc + 1) ls (.int (x - x / y * y) :: st) h) : nzOK p l e R s m args below meth c Q D cA b ck sc M kc ks pc ls (.int y :: .int x :: st) h := by
  obtain ⟨hx, hb, hr, hml, hown, hts, hlk, hin, hK, hC, hbs, hfr, hlo⟩ := F
  intro a1 a2 a3 a4 H locs cls hR hS hL
  exact lv_irem hx hb hd hy (k a1 a2 a3 a4 H locs cls hR hS hL)
theorem nzs_ineg (F : nzFr p R s m args meth c D cA b ck sc M) {pc : Nat} {ls : nzL} {st : List Value} {h : nzH} {x : Int32} (hd : decode M.2.2.1 pc = .ok (.ineg, 1)) (k : nzOK p l e R s m args below meth c Q D cA b ck sc M kc ks (pc + 1) ls (.int (-x) :: st) h) : nzOK p l e R s m args below meth c Q D cA b ck sc M kc ks pc ls (.int x :: st) h := by
  obtain ⟨hx, hb, hr, hml, hown, hts, hlk, hin, hK, hC, hbs, hfr, hlo⟩ := F
  intro a1 a2 a3 a4 H locs cls hR hS hL
  exact lv_ineg hx hb hd (k a1 a2 a3 a4 H locs cls hR hS hL)
theorem nzs_i2l (F : nzFr p R s m args meth c D cA b ck sc M) {pc : Nat} {ls : nzL} {st : List Value} {h : nzH} {x : Int32} (hd : decode M.2.2.1 pc = .ok (.i2l, 1)) (k : nzOK p l e R s m args below meth c Q D cA b ck sc M kc ks (pc + 1) ls (.long x.toInt64 :: st) h) : nzOK p l e R s m args below meth c Q D cA b ck sc M kc ks pc ls (.int x :: st) h := by
  obtain ⟨hx, hb, hr, hml, hown, hts, hlk, hin, hK, hC, hbs, hfr, hlo⟩ := F
  intro a1 a2 a3 a4 H locs cls hR hS hL
  exact lv_i2l hx hb hd rfl (k a1 a2 a3 a4 H locs cls hR hS hL)
theorem nzs_i2b (F : nzFr p R s m args meth c D cA b ck sc M) {pc : Nat} {ls : nzL} {st : List Value} {h : nzH} {x : Int32} (hd : decode M.2.2.1 pc = .ok (.i2b, 1)) (k : nzOK p l e R s m args below meth c Q D cA b ck sc M kc ks (pc + 1) ls (.int x.toInt8.toInt32 :: st) h) : nzOK p l e R s m args below meth c Q D cA b ck sc M kc ks pc ls (.int x :: st) h := by
  obtain ⟨hx, hb, hr, hml, hown, hts, hlk, hin, hK, hC, hbs, hfr, hlo⟩ := F
  intro a1 a2 a3 a4 H locs cls hR hS hL
  exact lv_i2b hx hb hd rfl (k a1 a2 a3 a4 H locs cls hR hS hL)
theorem nzs_i2c (F : nzFr p R s m args meth c D cA b ck sc M) {pc : Nat} {ls : nzL} {st : List Value} {h : nzH} {x : Int32} (hd : decode M.2.2.1 pc = .ok (.i2c, 1)) (k : nzOK p l e R s m args below meth c Q D cA b ck sc M kc ks (pc + 1) ls (.int (x.toUInt32 % 65536).toInt32 :: st) h) : nzOK p l e R s m args below meth c Q D cA b ck sc M kc ks pc ls (.int x :: st) h := by
  obtain ⟨hx, hb, hr, hml, hown, hts, hlk, hin, hK, hC, hbs, hfr, hlo⟩ := F
  intro a1 a2 a3 a4 H locs cls hR hS hL
  exact lv_i2c hx hb hd rfl (k a1 a2 a3 a4 H locs cls hR hS hL)
theorem nzs_ladd (F : nzFr p R s m args meth c D cA b ck sc M) {pc : Nat} {ls : nzL} {st : List Value} {h : nzH} {x y : Int64} (hd : decode M.2.2.1 pc = .ok (.ladd, 1)) (k : nzOK p l e R s m args below meth c Q D cA b ck sc M kc ks (pc + 1) ls (.long (x + y) :: st) h) : nzOK p l e R s m args below meth c Q D cA b ck sc M kc ks pc ls (.long y :: .long x :: st) h := by
  obtain ⟨hx, hb, hr, hml, hown, hts, hlk, hin, hK, hC, hbs, hfr, hlo⟩ := F
  intro a1 a2 a3 a4 H locs cls hR hS hL
  exact lv_ladd hx hb hd (k a1 a2 a3 a4 H locs cls hR hS hL)
theorem nzs_lmul (F : nzFr p R s m args meth c D cA b ck sc M) {pc : Nat} {ls : nzL} {st : List Value} {h : nzH} {x y : Int64} (hd : decode M.2.2.1 pc = .ok (.lmul, 1)) (k : nzOK p l e R s m args below meth c Q D cA b ck sc M kc ks (pc + 1) ls (.long (x * y) :: st) h) : nzOK p l e R s m args below meth c Q D cA b ck sc M kc ks pc ls (.long y :: .long x :: st) h := by
  obtain ⟨hx, hb, hr, hml, hown, hts, hlk, hin, hK, hC, hbs, hfr, hlo⟩ := F
  intro a1 a2 a3 a4 H locs cls hR hS hL
  exact lv_lmul hx hb hd (k a1 a2 a3 a4 H locs cls hR hS hL)
theorem nzs_lcmp (F : nzFr p R s m args meth c D cA b ck sc M) {pc : Nat} {ls : nzL} {st : List Value} {h : nzH} {x y : Int64} (hd : decode M.2.2.1 pc = .ok (.lcmp, 1)) (k : nzOK p l e R s m args below meth c Q D cA b ck sc M kc ks (pc + 1) ls (.int (lg_cmp x y) :: st) h) : nzOK p l e R s m args below meth c Q D cA b ck sc M kc ks pc ls (.long y :: .long x :: st) h := by
  obtain ⟨hx, hb, hr, hml, hown, hts, hlk, hin, hK, hC, hbs, hfr, hlo⟩ := F
  intro a1 a2 a3 a4 H locs cls hR hS hL
  exact W.lcmp hx hb hd (k a1 a2 a3 a4 H locs cls hR hS hL)
theorem nzs_dup (F : nzFr p R s m args meth c D cA b ck sc M) {pc : Nat} {ls : nzL} {st : List Value} {h : nzH} {v : Value} (hd : decode M.2.2.1 pc = .ok (.dup, 1)) (hv : v.category = 1) (k : nzOK p l e R s m args below meth c Q D cA b ck sc M kc ks (pc + 1) ls (v :: v :: st) h) : nzOK p l e R s m args below meth c Q D cA b ck sc M kc ks pc ls (v :: st) h := by
  obtain ⟨hx, hb, hr, hml, hown, hts, hlk, hin, hK, hC, hbs, hfr, hlo⟩ := F
  intro a1 a2 a3 a4 H locs cls hR hS hL
  exact lv_dup hx hb hd (by rw [nzcv_cat hC.1]; exact hv) (k a1 a2 a3 a4 H locs cls hR hS hL)
theorem nzs_dup2 (F : nzFr p R s m args meth c D cA b ck sc M) {pc : Nat} {ls : nzL} {st : List Value} {h : nzH} {v w : Value} (hd : decode M.2.2.1 pc = .ok (.dup2, 1)) (hv : v.category = 1) (hw : w.category = 1) (k : nzOK p l e R s m args below meth c Q D cA b ck sc M kc ks (pc + 1) ls (v :: w :: v :: w :: st) h) : nzOK p l e R s m args below meth c Q D cA b ck sc M kc ks pc ls (v :: w :: st) h := by
  obtain ⟨hx, hb, hr, hml, hown, hts, hlk, hin, hK, hC, hbs, hfr, hlo⟩ := F
  intro a1 a2 a3 a4 H locs cls hR hS hL
  exact lv_dup2_11 hx hb hd (by rw [nzcv_cat hC.1]; exact hv) (by rw [nzcv_cat hC.1]; exact hw) (k a1 a2 a3 a4 H locs cls hR hS hL)
theorem nzs_pop (F : nzFr p R s m args meth c D cA b ck sc M) {pc : Nat} {ls : nzL} {st : List Value} {h : nzH} {v : Value} (hd : decode M.2.2.1 pc = .ok (.pop, 1)) (hv : v.category = 1) (k : nzOK p l e R s m args below meth c Q D cA b ck sc M kc ks (pc + 1) ls st h) : nzOK p l e R s m args below meth c Q D cA b ck sc M kc ks pc ls (v :: st) h := by
  obtain ⟨hx, hb, hr, hml, hown, hts, hlk, hin, hK, hC, hbs, hfr, hlo⟩ := F
  intro a1 a2 a3 a4 H locs cls hR hS hL
  exact lv_pop hx hb hd (by rw [nzcv_cat hC.1]; exact hv) (k a1 a2 a3 a4 H locs cls hR hS hL)
theorem nzs_goto (F : nzFr p R s m args meth c D cA b ck sc M) {pc : Nat} {ls : nzL} {st : List Value} {h : nzH} {q : Int} {t : Nat} (hd : decode M.2.2.1 pc = .ok (.goto q, 3)) (ht : nzj pc q = some t) (k : nzOK p l e R s m args below meth c Q D cA b ck sc M kc ks t ls st h) : nzOK p l e R s m args below meth c Q D cA b ck sc M kc ks pc ls st h := by
  obtain ⟨hx, hb, hr, hml, hown, hts, hlk, hin, hK, hC, hbs, hfr, hlo⟩ := F
  intro a1 a2 a3 a4 H locs cls hR hS hL
  exact lv_goto hx hb hd (nzj_eq ht) (k a1 a2 a3 a4 H locs cls hR hS hL)
theorem nzs_if_eq (F : nzFr p R s m args meth c D cA b ck sc M) {pc : Nat} {ls : nzL} {st : List Value} {h : nzH} {x : Int32} {q : Int} {t : Nat} (hd : decode M.2.2.1 pc = .ok (.ifCond .eq q, 3)) (ht : nzj pc q = some t) (k1 : x = 0 → nzOK p l e R s m args below meth c Q D cA b ck sc M kc ks t ls st h) (k2 : ¬ x = 0 → nzOK p l e R s m args below meth c Q D cA b ck sc M kc ks (pc + 3) ls st h) : nzOK p l e R s m args below meth c Q D cA b ck sc M kc ks pc ls (.int x :: st) h := by
  obtain ⟨hx, hb, hr, hml, hown, hts, hlk, hin, hK, hC, hbs, hfr, hlo⟩ := F
  intro a1 a2 a3 a4 H locs cls hR hS hL
  exact lv_if_eq hx hb hd (nzj_eq ht) (fun z => k1 z a1 a2 a3 a4 H locs cls hR hS hL) (fun z => k2 z a1 a2 a3 a4 H locs cls hR hS hL)
theorem nzs_ic_eq (F : nzFr p R s m args meth c D cA b ck sc M) {pc : Nat} {ls : nzL} {st : List Value} {h : nzH} {x y : Int32} {q : Int} {t : Nat} (hd : decode M.2.2.1 pc = .ok (.if_icmp .eq q, 3)) (ht : nzj pc q = some t) (k1 : x = y → nzOK p l e R s m args below meth c Q D cA b ck sc M kc ks t ls st h) (k2 : ¬ x = y → nzOK p l e R s m args below meth c Q D cA b ck sc M kc ks (pc + 3) ls st h) : nzOK p l e R s m args below meth c Q D cA b ck sc M kc ks pc ls (.int y :: .int x :: st) h := by
  obtain ⟨hx, hb, hr, hml, hown, hts, hlk, hin, hK, hC, hbs, hfr, hlo⟩ := F
  intro a1 a2 a3 a4 H locs cls hR hS hL
  exact lv_icmp_eq hx hb hd (nzj_eq ht) (fun z => k1 z a1 a2 a3 a4 H locs cls hR hS hL) (fun z => k2 z a1 a2 a3 a4 H locs cls hR hS hL)
theorem nzs_if_ne (F : nzFr p R s m args meth c D cA b ck sc M) {pc : Nat} {ls : nzL} {st : List Value} {h : nzH} {x : Int32} {q : Int} {t : Nat} (hd : decode M.2.2.1 pc = .ok (.ifCond .ne q, 3)) (ht : nzj pc q = some t) (k1 : ¬ x = 0 → nzOK p l e R s m args below meth c Q D cA b ck sc M kc ks t ls st h) (k2 : x = 0 → nzOK p l e R s m args below meth c Q D cA b ck sc M kc ks (pc + 3) ls st h) : nzOK p l e R s m args below meth c Q D cA b ck sc M kc ks pc ls (.int x :: st) h := by
  obtain ⟨hx, hb, hr, hml, hown, hts, hlk, hin, hK, hC, hbs, hfr, hlo⟩ := F
  intro a1 a2 a3 a4 H locs cls hR hS hL
  exact lv_if_ne hx hb hd (nzj_eq ht) (fun z => k1 z a1 a2 a3 a4 H locs cls hR hS hL) (fun z => k2 z a1 a2 a3 a4 H locs cls hR hS hL)
theorem nzs_ic_ne (F : nzFr p R s m args meth c D cA b ck sc M) {pc : Nat} {ls : nzL} {st : List Value} {h : nzH} {x y : Int32} {q : Int} {t : Nat} (hd : decode M.2.2.1 pc = .ok (.if_icmp .ne q, 3)) (ht : nzj pc q = some t) (k1 : ¬ x = y → nzOK p l e R s m args below meth c Q D cA b ck sc M kc ks t ls st h) (k2 : x = y → nzOK p l e R s m args below meth c Q D cA b ck sc M kc ks (pc + 3) ls st h) : nzOK p l e R s m args below meth c Q D cA b ck sc M kc ks pc ls (.int y :: .int x :: st) h := by
  obtain ⟨hx, hb, hr, hml, hown, hts, hlk, hin, hK, hC, hbs, hfr, hlo⟩ := F
  intro a1 a2 a3 a4 H locs cls hR hS hL
  exact lv_icmp_ne hx hb hd (nzj_eq ht) (fun z => k1 z a1 a2 a3 a4 H locs cls hR hS hL) (fun z => k2 z a1 a2 a3 a4 H locs cls hR hS hL)
theorem nzs_if_lt (F : nzFr p R s m args meth c D cA b ck sc M) {pc : Nat} {ls : nzL} {st : List Value} {h : nzH} {x : Int32} {q : Int} {t : Nat} (hd : decode M.2.2.1 pc = .ok (.ifCond .lt q, 3)) (ht : nzj pc q = some t) (k1 : x < 0 → nzOK p l e R s m args below meth c Q D cA b ck sc M kc ks t ls st h) (k2 : ¬ x < 0 → nzOK p l e R s m args below meth c Q D cA b ck sc M kc ks (pc + 3) ls st h) : nzOK p l e R s m args below meth c Q D cA b ck sc M kc ks pc ls (.int x :: st) h := by
  obtain ⟨hx, hb, hr, hml, hown, hts, hlk, hin, hK, hC, hbs, hfr, hlo⟩ := F
  intro a1 a2 a3 a4 H locs cls hR hS hL
  exact lv_if_lt hx hb hd (nzj_eq ht) (fun z => k1 z a1 a2 a3 a4 H locs cls hR hS hL) (fun z => k2 z a1 a2 a3 a4 H locs cls hR hS hL)
theorem nzs_ic_lt (F : nzFr p R s m args meth c D cA b ck sc M) {pc : Nat} {ls : nzL} {st : List Value} {h : nzH} {x y : Int32} {q : Int} {t : Nat} (hd : decode M.2.2.1 pc = .ok (.if_icmp .lt q, 3)) (ht : nzj pc q = some t) (k1 : x < y → nzOK p l e R s m args below meth c Q D cA b ck sc M kc ks t ls st h) (k2 : ¬ x < y → nzOK p l e R s m args below meth c Q D cA b ck sc M kc ks (pc + 3) ls st h) : nzOK p l e R s m args below meth c Q D cA b ck sc M kc ks pc ls (.int y :: .int x :: st) h := by
  obtain ⟨hx, hb, hr, hml, hown, hts, hlk, hin, hK, hC, hbs, hfr, hlo⟩ := F
  intro a1 a2 a3 a4 H locs cls hR hS hL
  exact lv_icmp_lt hx hb hd (nzj_eq ht) (fun z => k1 z a1 a2 a3 a4 H locs cls hR hS hL) (fun z => k2 z a1 a2 a3 a4 H locs cls hR hS hL)
theorem nzs_if_ge (F : nzFr p R s m args meth c D cA b ck sc M) {pc : Nat} {ls : nzL} {st : List Value} {h : nzH} {x : Int32} {q : Int} {t : Nat} (hd : decode M.2.2.1 pc = .ok (.ifCond .ge q, 3)) (ht : nzj pc q = some t) (k1 : 0 ≤ x → nzOK p l e R s m args below meth c Q D cA b ck sc M kc ks t ls st h) (k2 : ¬ 0 ≤ x → nzOK p l e R s m args below meth c Q D cA b ck sc M kc ks (pc + 3) ls st h) : nzOK p l e R s m args below meth c Q D cA b ck sc M kc ks pc ls (.int x :: st) h := by
  obtain ⟨hx, hb, hr, hml, hown, hts, hlk, hin, hK, hC, hbs, hfr, hlo⟩ := F
  intro a1 a2 a3 a4 H locs cls hR hS hL
  exact lv_if_ge hx hb hd (nzj_eq ht) (fun z => k1 z a1 a2 a3 a4 H locs cls hR hS hL) (fun z => k2 z a1 a2 a3 a4 H locs cls hR hS hL)
theorem nzs_ic_ge (F : nzFr p R s m args meth c D cA b ck sc M) {pc : Nat} {ls : nzL} {st : List Value} {h : nzH} {x y : Int32} {q : Int} {t : Nat} (hd : decode M.2.2.1 pc = .ok (.if_icmp .ge q, 3)) (ht : nzj pc q = some t) (k1 : y ≤ x → nzOK p l e R s m args below meth c Q D cA b ck sc M kc ks t ls st h) (k2 : ¬ y ≤ x → nzOK p l e R s m args below meth c Q D cA b ck sc M kc ks (pc + 3) ls st h) : nzOK p l e R s m args below meth c Q D cA b ck sc M kc ks pc ls (.int y :: .int x :: st) h := by
  obtain ⟨hx, hb, hr, hml, hown, hts, hlk, hin, hK, hC, hbs, hfr, hlo⟩ := F
  intro a1 a2 a3 a4 H locs cls hR hS hL
  exact lv_icmp_ge hx hb hd (nzj_eq ht) (fun z => k1 z a1 a2 a3 a4 H locs cls hR hS hL) (fun z => k2 z a1 a2 a3 a4 H locs cls hR hS hL)
theorem nzs_if_gt (F : nzFr p R s m args meth c D cA b ck sc M) {pc : Nat} {ls : nzL} {st : List Value} {h : nzH} {x : Int32} {q : Int} {t : Nat} (hd : decode M.2.2.1 pc = .ok (.ifCond .gt q, 3)) (ht : nzj pc q = some t) (k1 : 0 < x → nzOK p l e R s m args below meth c Q D cA b ck sc M kc ks t ls st h) (k2 : ¬ 0 < x → nzOK p l e R s m args below meth c Q D cA b ck sc M kc ks (pc + 3) ls st h) : nzOK p l e R s m args below meth c Q D cA b ck sc M kc ks pc ls (.int x :: st) h := by
  obtain ⟨hx, hb, hr, hml, hown, hts, hlk, hin, hK, hC, hbs, hfr, hlo⟩ := F
  intro a1 a2 a3 a4 H locs cls hR hS hL
  exact lv_if_gt hx hb hd (nzj_eq ht) (fun z => k1 z a1 a2 a3 a4 H locs cls hR hS hL) (fun z => k2 z a1 a2 a3 a4 H locs cls hR hS hL)
theorem nzs_ic_gt (F : nzFr p R s m args meth c D cA b ck sc M) {pc : Nat} {ls : nzL} {st : List Value} {h : nzH} {x y : Int32} {q : Int} {t : Nat} (hd : decode M.2.2.1 pc = .ok (.if_icmp .gt q, 3)) (ht : nzj pc q = some t) (k1 : y < x → nzOK p l e R s m args below meth c Q D cA b ck sc M kc ks t ls st h) (k2 : ¬ y < x → nzOK p l e R s m args below meth c Q D cA b ck sc M kc ks (pc + 3) ls st h) : nzOK p l e R s m args below meth c Q D cA b ck sc M kc ks pc ls (.int y :: .int x :: st) h := by
  obtain ⟨hx, hb, hr, hml, hown, hts, hlk, hin, hK, hC, hbs, hfr, hlo⟩ := F
  intro a1 a2 a3 a4 H locs cls hR hS hL
  exact lv_icmp_gt hx hb hd (nzj_eq ht) (fun z => k1 z a1 a2 a3 a4 H locs cls hR hS hL) (fun z => k2 z a1 a2 a3 a4 H locs cls hR hS hL)
theorem nzs_if_le (F : nzFr p R s m args meth c D cA b ck sc M) {pc : Nat} {ls : nzL} {st : List Value} {h : nzH} {x : Int32} {q : Int} {t : Nat} (hd : decode M.2.2.1 pc = .ok (.ifCond .le q, 3)) (ht : nzj pc q = some t) (k1 : x ≤ 0 → nzOK p l e R s m args below meth c Q D cA b ck sc M kc ks t ls st h) (k2 : ¬ x ≤ 0 → nzOK p l e R s m args below meth c Q D cA b ck sc M kc ks (pc + 3) ls st h) : nzOK p l e R s m args below meth c Q D cA b ck sc M kc ks pc ls (.int x :: st) h := by
  obtain ⟨hx, hb, hr, hml, hown, hts, hlk, hin, hK, hC, hbs, hfr, hlo⟩ := F
  intro a1 a2 a3 a4 H locs cls hR hS hL
  exact lv_if_le hx hb hd (nzj_eq ht) (fun z => k1 z a1 a2 a3 a4 H locs cls hR hS hL) (fun z => k2 z a1 a2 a3 a4 H locs cls hR hS hL)
theorem nzs_ic_le (F : nzFr p R s m args meth c D cA b ck sc M) {pc : Nat} {ls : nzL} {st : List Value} {h : nzH} {x y : Int32} {q : Int} {t : Nat} (hd : decode M.2.2.1 pc = .ok (.if_icmp .le q, 3)) (ht : nzj pc q = some t) (k1 : x ≤ y → nzOK p l e R s m args below meth c Q D cA b ck sc M kc ks t ls st h) (k2 : ¬ x ≤ y → nzOK p l e R s m args below meth c Q D cA b ck sc M kc ks (pc + 3) ls st h) : nzOK p l e R s m args below meth c Q D cA b ck sc M kc ks pc ls (.int y :: .int x :: st) h := by
  obtain ⟨hx, hb, hr, hml, hown, hts, hlk, hin, hK, hC, hbs, hfr, hlo⟩ := F
  intro a1 a2 a3 a4 H locs cls hR hS hL
  exact lv_icmp_le hx hb hd (nzj_eq ht) (fun z => k1 z a1 a2 a3 a4 H locs cls hR hS hL) (fun z => k2 z a1 a2 a3 a4 H locs cls hR hS hL)
theorem nzs_ifnull0 (F : nzFr p R s m args meth c D cA b ck sc M) {pc : Nat} {ls : nzL} {st : List Value} {h : nzH} {q : Int} {t : Nat} (hd : decode M.2.2.1 pc = .ok (.ifnull q, 3)) (ht : nzj pc q = some t) (k : nzOK p l e R s m args below meth c Q D cA b ck sc M kc ks t ls st h) : nzOK p l e R s m args below meth c Q D cA b ck sc M kc ks pc ls (.null :: st) h := by
  obtain ⟨hx, hb, hr, hml, hown, hts, hlk, hin, hK, hC, hbs, hfr, hlo⟩ := F
  intro a1 a2 a3 a4 H locs cls hR hS hL
  exact lv_ifnullN hx hb hd (nzj_eq ht) (k a1 a2 a3 a4 H locs cls hR hS hL)
theorem nzs_ifnull1 (F : nzFr p R s m args meth c D cA b ck sc M) {pc : Nat} {ls : nzL} {st : List Value} {h : nzH} {q : Int} {a : Nat} (hd : decode M.2.2.1 pc = .ok (.ifnull q, 3)) (k : nzOK p l e R s m args below meth c Q D cA b ck sc M kc ks (pc + 3) ls st h) : nzOK p l e R s m args below meth c Q D cA b ck sc M kc ks pc ls (.ref a :: st) h := by
  obtain ⟨hx, hb, hr, hml, hown, hts, hlk, hin, hK, hC, hbs, hfr, hlo⟩ := F
  intro a1 a2 a3 a4 H locs cls hR hS hL
  exact lv_ifnull hx hb hd (k a1 a2 a3 a4 H locs cls hR hS hL)
theorem nzs_ifnonnull0 (F : nzFr p R s m args meth c D cA b ck sc M) {pc : Nat} {ls : nzL} {st : List Value} {h : nzH} {q : Int} (hd : decode M.2.2.1 pc = .ok (.ifnonnull q, 3)) (k : nzOK p l e R s m args below meth c Q D cA b ck sc M kc ks (pc + 3) ls st h) : nzOK p l e R s m args below meth c Q D cA b ck sc M kc ks pc ls (.null :: st) h := by
  obtain ⟨hx, hb, hr, hml, hown, hts, hlk, hin, hK, hC, hbs, hfr, hlo⟩ := F
  intro a1 a2 a3 a4 H locs cls hR hS hL
  exact lv_ifnonnullN hx hb hd (k a1 a2 a3 a4 H locs cls hR hS hL)
theorem nzs_ifnonnull1 (F : nzFr p R s m args meth c D cA b ck sc M) {pc : Nat} {ls : nzL} {st : List Value} {h : nzH} {q : Int} {t a : Nat} (hd : decode M.2.2.1 pc = .ok (.ifnonnull q, 3)) (ht : nzj pc q = some t) (k : nzOK p l e R s m args below meth c Q D cA b ck sc M kc ks t ls st h) : nzOK p l e R s m args below meth c Q D cA b ck sc M kc ks pc ls (.ref a :: st) h := by
  obtain ⟨hx, hb, hr, hml, hown, hts, hlk, hin, hK, hC, hbs, hfr, hlo⟩ := F
  intro a1 a2 a3 a4 H locs cls hR hS hL
  exact lv_ifnonnull hx hb hd (nzj_eq ht) (k a1 a2 a3 a4 H locs cls hR hS hL)
theorem nzs_tabOut (F : nzFr p R s m args meth c D cA b ck sc M) {pc : Nat} {ls : nzL} {st : List Value} {h : nzH} {x : Int32} {f lo hi : Int} {offs : Array Int} {len t : Nat} (hd : decode M.2.2.1 pc = .ok (.tableswitch f lo hi offs, len)) (hz : x.toInt < lo ∨ hi < x.toInt) (ht : nzj pc f = some t) (k : nzOK p l e R s m args below meth c Q D cA b ck sc M kc ks t ls st h) : nzOK p l e R s m args below meth c Q D cA b ck sc M kc ks pc ls (.int x :: st) h := by
  obtain ⟨hx, hb, hr, hml, hown, hts, hlk, hin, hK, hC, hbs, hfr, hlo⟩ := F
  intro a1 a2 a3 a4 H locs cls hR hS hL
  exact lv_tableOut hx hb hd hz (nzj_eq ht) (k a1 a2 a3 a4 H locs cls hR hS hL)
theorem nzs_tabIn (F : nzFr p R s m args meth c D cA b ck sc M) {pc : Nat} {ls : nzL} {st : List Value} {h : nzH} {x : Int32} {f lo hi q : Int} {offs : Array Int} {len t : Nat} (hd : decode M.2.2.1 pc = .ok (.tableswitch f lo hi offs, len)) (hz : ¬ (x.toInt < lo ∨ hi < x.toInt)) (ho : offs[(x.toInt - lo).toNat]? = some q) (ht : nzj pc q = some t) (k : nzOK p l e R s m args below meth c Q D cA b ck sc M kc ks t ls st h) : nzOK p l e R s m args below meth c Q D cA b ck sc M kc ks pc ls (.int x :: st) h := by
  obtain ⟨hx, hb, hr, hml, hown, hts, hlk, hin, hK, hC, hbs, hfr, hlo⟩ := F
  intro a1 a2 a3 a4 H locs cls hR hS hL
  exact lv_tableIn hx hb hd (fun z => hz (Or.inl z)) (fun z => hz (Or.inr z)) ho (nzj_eq ht) (k a1 a2 a3 a4 H locs cls hR hS hL)
theorem nzs_ldcI (F : nzFr p R s m args meth c D cA b ck sc M) {pc : Nat} {ls : nzL} {st : List Value} {h : nzH} {q : Nat} {v : Int32} (hd : decode M.2.2.1 pc = .ok (.ldc q, 2)) (hq : nzlk nzTC M.1 q = some (.int v)) (k : nzOK p l e R s m args below meth c Q D cA b ck sc M kc ks (pc + 2) ls (.int v :: st) h) : nzOK p l e R s m args below meth c Q D cA b ck sc M kc ks pc ls st h := by
  obtain ⟨hx, hb, hr, hml, hown, hts, hlk, hin, hK, hC, hbs, hfr, hlo⟩ := F
  intro a1 a2 a3 a4 H locs cls hR hS hL
  obtain ⟨j, hj⟩ := nzall_of nzTC_all hq
  exact lv_ldc hx hb hown (hts _ (nzat_mem hj) rfl) hd (k a1 a2 a3 a4 H locs cls hR hS hL)
theorem nzs_ldcwI (F : nzFr p R s m args meth c D cA b ck sc M) {pc : Nat} {ls : nzL} {st : List Value} {h : nzH} {q : Nat} {v : Int32} (hd : decode M.2.2.1 pc = .ok (.ldc_w q, 3)) (hq : nzlk nzTC M.1 q = some (.int v)) (k : nzOK p l e R s m args below meth c Q D cA b ck sc M kc ks (pc + 3) ls (.int v :: st) h) : nzOK p l e R s m args below meth c Q D cA b ck sc M kc ks pc ls st h := by
  obtain ⟨hx, hb, hr, hml, hown, hts, hlk, hin, hK, hC, hbs, hfr, hlo⟩ := F
  intro a1 a2 a3 a4 H locs cls hR hS hL
  obtain ⟨j, hj⟩ := nzall_of nzTC_all hq
  exact lv_ldcw hx hb hown (hts _ (nzat_mem hj) rfl) hd (k a1 a2 a3 a4 H locs cls hR hS hL)
theorem nzs_ldc2 (F : nzFr p R s m args meth c D cA b ck sc M) {pc : Nat} {ls : nzL} {st : List Value} {h : nzH} {q : Nat} {v : Int64} (hd : decode M.2.2.1 pc = .ok (.ldc2_w q, 3)) (hq : nzlk nzTL M.1 q = some v) (k : nzOK p l e R s m args below meth c Q D cA b ck sc M kc ks (pc + 3) ls (.long v :: st) h) : nzOK p l e R s m args below meth c Q D cA b ck sc M kc ks pc ls st h := by
  obtain ⟨hx, hb, hr, hml, hown, hts, hlk, hin, hK, hC, hbs, hfr, hlo⟩ := F
  intro a1 a2 a3 a4 H locs cls hR hS hL
  obtain ⟨j, hj⟩ := nzall_of nzTL_all hq
  exact lv_ldc2 hx hb hown (hts _ (nzat_mem hj) rfl) hd (k a1 a2 a3 a4 H locs cls hR hS hL)
theorem nzs_ldcS (F : nzFr p R s m args meth c D cA b ck sc M) {pc : Nat} {ls : nzL} {st : List Value} {h : nzH} {q : Nat} {v : UInt32} (hd : decode M.2.2.1 pc = .ok (.ldc q, 2)) (hq : nzlk nzTC M.1 q = some (.float v)) (k : nzOK p l e R s m args below meth c Q D cA b ck sc M kc ks (pc + 2) ls (.float v :: st) h) : nzOK p l e R s m args below meth c Q D cA b ck sc M kc ks pc ls st h := by
  obtain ⟨hx, hb, hr, hml, hown, hts, hlk, hin, hK, hC, hbs, hfr, hlo⟩ := F
  intro a1 a2 a3 a4 H locs cls hR hS hL
  obtain ⟨j, hj⟩ := nzall_of nzTC_all hq
  simp only [nzokC, Bool.and_eq_true, decide_eq_true_eq] at hj
  obtain ⟨⟨h1, h2⟩, h3⟩ := hj
  cases hz : nzStrAt[(v.toNat - 10) / 2]? with
  | none => rw [hz] at h3; simp at h3
  | some z =>
    rw [hz] at h3
    simp only [Bool.and_eq_true, decide_eq_true_eq] at h3
    have hlt : (v.toNat - 10) / 2 < nzStr.length := by
      have : nzStrAt.length = nzStr.length := rfl
      rw [← this]
      exact (List.getElem?_eq_some_iff.mp hz).1
    obtain ⟨a, w, g1, -, g3, -⟩ := hC.2.2.2.2.2.2.1 _ z _ hz (List.getElem?_eq_getElem hlt)
    have ev : UInt32.ofNat (10 + 2 * ((v.toNat - 10) / 2)) = v := by
      rw [show 10 + 2 * ((v.toNat - 10) / 2) = v.toNat by omega]
      exact UInt32.ofNat_toNat
    rw [ev] at g1
    rw [h3.1, h3.2] at g3
    have kk := k a1 a2 a3 a4 H locs cls hR hS hL
    rw [List.map_cons, show nzcv b ck (.float v) = ck v from rfl, g1] at kk
    exact va_ldcS hx hb hown g3 hd kk
theorem nzs_ldcwS (F : nzFr p R s m args meth c D cA b ck sc M) {pc : Nat} {ls : nzL} {st : List Value} {h : nzH} {q : Nat} {v : UInt32} (hd : decode M.2.2.1 pc = .ok (.ldc_w q, 3)) (hq : nzlk nzTC M.1 q = some (.float v)) (k : nzOK p l e R s m args below meth c Q D cA b ck sc M kc ks (pc + 3) ls (.float v :: st) h) : nzOK p l e R s m args below meth c Q D cA b ck sc M kc ks pc ls st h := by
  obtain ⟨hx, hb, hr, hml, hown, hts, hlk, hin, hK, hC, hbs, hfr, hlo⟩ := F
  intro a1 a2 a3 a4 H locs cls hR hS hL
  obtain ⟨j, hj⟩ := nzall_of nzTC_all hq
  simp only [nzokC, Bool.and_eq_true, decide_eq_true_eq] at hj
  obtain ⟨⟨h1, h2⟩, h3⟩ := hj
  cases hz : nzStrAt[(v.toNat - 10) / 2]? with
  | none => rw [hz] at h3; simp at h3
  | some z =>
    rw [hz] at h3
    simp only [Bool.and_eq_true, decide_eq_true_eq] at h3
    have hlt : (v.toNat - 10) / 2 < nzStr.length := by
      have : nzStrAt.length = nzStr.length := rfl
      rw [← this]
      exact (List.getElem?_eq_some_iff.mp hz).1
    obtain ⟨a, w, g1, -, g3, -⟩ := hC.2.2.2.2.2.2.1 _ z _ hz (List.getElem?_eq_getElem hlt)
    have ev : UInt32.ofNat (10 + 2 * ((v.toNat - 10) / 2)) = v := by
      rw [show 10 + 2 * ((v.toNat - 10) / 2) = v.toNat by omega]
      exact UInt32.ofNat_toNat
    rw [ev] at g1
    rw [h3.1, h3.2] at g3
    have kk := k a1 a2 a3 a4 H locs cls hR hS hL
    rw [List.map_cons, show nzcv b ck (.float v) = ck v from rfl, g1] at kk
    intro T hT X
    obtain ⟨t, a1, b1⟩ := kk T hT X
    exact ⟨t, Jvm.Stand.ldcStringW X hx hown g3.1 g3.2 (g := F0 _ pc _ _) rfl (by rw [hb]; exact hd) t a1, b1⟩
theorem nzs_gets (F : nzFr p R s m args meth c D cA b ck sc M) {pc : Nat} {ls : nzL} {st : List Value} {h : nzH} {q : Nat} {v : Value} (hd : decode M.2.2.1 pc = .ok (.getstatic q, 3)) (hq : nzlk nzTS M.1 q = some v) (k : nzOK p l e R s m args below meth c Q D cA b ck sc M kc ks (pc + 3) ls (v :: st) h) : nzOK p l e R s m args below meth c Q D cA b ck sc M kc ks pc ls st h := by
  obtain ⟨hx, hb, hr, hml, hown, hts, hlk, hin, hK, hC, hbs, hfr, hlo⟩ := F
  intro a1 a2 a3 a4 H locs cls hR hS hL
  obtain ⟨j, hj⟩ := nzall_of nzTS_all hq
  have kk := k a1 a2 a3 a4 H locs cls hR hS hL
  unfold nzokS at hj
  dsimp only at hj
  split at hj
  · rename_i ev
    rw [ev] at kk
    exact va_gets hx hb hC.2.2.2.2.1 hS hown (hts _ (nzat_mem hj) rfl) (fun _ z => z) hd kk
  · split at hj
    · rename_i ev
      rw [ev] at kk
      exact va_getsN hx hb hC.2.2.2.1 hS hown (va_Nw.use rfl (hC.2.2.2.2.2.2.2.1 _ (nzat_mem hj) rfl)) (fun _ z => z) hd kk
    · split at hj
      · rename_i ev
        rw [ev] at kk
        exact va_gets hx hb hC.2.2.2.2.2.1 hS hown (hts _ (nzat_mem hj) rfl) (fun _ z => z) hd kk
      · cases hj
theorem nzfld_at {h : nzH} {a ci k : Nat} {v : Value} (hv : nzfld h a ci k = some v) : ∃ F, nzcell h a = some (.inr (ci, F)) ∧ F k = v := by
  unfold nzfld at hv
  split at hv
  · rename_i c0 F hc
    split at hv
    · rename_i e; subst e; cases hv; exact ⟨F, hc, rfl⟩
    · cases hv
  · cases hv
theorem nzs_getf (F : nzFr p R s m args meth c D cA b ck sc M) {pc : Nat} {ls : nzL} {st : List Value} {h : nzH} {q kd ci j t a : Nat} {v : Value} (hd : decode M.2.2.1 pc = .ok (.getfield q, 3)) (hq : nzlk nzTF M.1 q = some (kd, ci, j, t)) (hv : nzfld h a ci j = some v) (k : nzOK p l e R s m args below meth c Q D cA b ck sc M kc ks (pc + 3) ls (v :: st) h) : nzOK p l e R s m args below meth c Q D cA b ck sc M kc ks pc ls (.ref a :: st) h := by
  obtain ⟨hx, hb, hr, hml, hown, hts, hlk, hin, hK, hC, hbs, hfr, hlo⟩ := F
  intro a1 a2 a3 a4 H locs cls hR hS hL
  obtain ⟨G, hc, rfl⟩ := nzfld_at hv
  have hat := hR.2 a _ hc
  obtain ⟨w, hw, cell, q1, q2, q3, q4⟩ := hat
  obtain ⟨P, hP⟩ := nzall_of nzTF_all hq
  simp only [nzokF, hw, Bool.and_eq_true, decide_eq_true_eq] at hP
  obtain ⟨⟨hj, hdc⟩, hl⟩ := hP
  obtain ⟨ty, hcl⟩ := nzCl_of hw
  obtain ⟨-, -, -, -, -, hinw, -⟩ := hcl
  obtain ⟨hSl, hfc, kC, hkC, hkind⟩ := hK.1 ci _ hw
  obtain ⟨cf, kf, fi, f, hi, hsl⟩ := hSl j hj
  have hgt : ∀ w' ∈ lw_tbl.filter goodWord, w'.before args s = true := fun w' h' => hts w' (List.mem_filter.mp h').1 (List.mem_filter.mp h').2
  have hin2 : ∀ w' ∈ u_ws w.1 w.2.1 w.2.2, w' ∈ lw_tbl.filter goodWord := fun w' h' => List.mem_filter.mpr ⟨hinw w' h', by
    obtain ⟨z, -, hz⟩ := List.mem_map.mp h'
    rw [← hz]
    unfold u_lay
    split <;> rfl⟩
  have hst := (u_facts hfc hkC (u_lays hgt hin2 hj) hi).1
  rw [hdc] at hi
  have hsv : cell.slots[f.slot]? = some (nzcv b ck (G j)) := by rw [hsl]; exact q4 j hj
  by_cases hk0 : kd = 0
  · rw [if_pos hk0] at hl
    exact W.getf hx hb hown (hts _ (nzat_mem hl) rfl) hi hst q1 (by rw [q3]; exact fun z => by cases z) hsv rfl rfl hd (k a1 a2 a3 a4 H locs cls hR hS hL)
  · rw [if_neg hk0] at hl
    exact va_Wgetf hx hb hown (va_Nw.use rfl (hC.2.2.2.2.2.2.2.1 _ (nzat_mem hl) rfl)) hi hst q1 (by rw [q3]; exact fun z => by cases z) hsv rfl rfl hd (k a1 a2 a3 a4 H locs cls hR hS hL)
theorem nzkS_at {v : UInt32} (h : nzkS v = true) : ∃ j z l, nzStrAt[j]? = some z ∧ nzStr[j]? = some l ∧ UInt32.ofNat (10 + 2 * j) = v ∧ UInt32.ofNat (11 + 2 * j) = v + 1 := by
  simp only [nzkS, Bool.and_eq_true, decide_eq_true_eq] at h
  obtain ⟨⟨h1, h2⟩, h3⟩ := h
  have hl1 : (v.toNat - 10) / 2 < nzStrAt.length := by show _ < 60; omega
  have hl2 : (v.toNat - 10) / 2 < nzStr.length := by show _ < 60; omega
  refine ⟨(v.toNat - 10) / 2, _, _, List.getElem?_eq_getElem hl1, List.getElem?_eq_getElem hl2, ?_, ?_⟩
  · rw [show 10 + 2 * ((v.toNat - 10) / 2) = v.toNat by omega]
    exact UInt32.ofNat_toNat
  · rw [show 11 + 2 * ((v.toNat - 10) / 2) = v.toNat + 1 by omega]
    rw [UInt32.ofNat_add, UInt32.ofNat_toNat]
    rfl
theorem nzs_getSV (F : nzFr p R s m args meth c D cA b ck sc M) {pc : Nat} {ls : nzL} {st : List Value} {h : nzH} {q kd : Nat} {v : UInt32} (hd : decode M.2.2.1 pc = .ok (.getfield q, 3)) (hq : nzlk nzTF M.1 q = some (kd, 18, 0, 2)) (hv : nzkS v = true) (k : nzOK p l e R s m args below meth c Q D cA b ck sc M kc ks (pc + 3) ls (.float (v + 1) :: st) h) : nzOK p l e R s m args below meth c Q D cA b ck sc M kc ks pc ls (.float v :: st) h := by
  obtain ⟨hx, hb, hr, hml, hown, hts, hlk, hin, hK, hC, hbs, hfr, hlo⟩ := F
  intro a1 a2 a3 a4 H locs cls hR hS hL
  obtain ⟨j, z, tx, hz, ht, e1, e2⟩ := nzkS_at hv
  obtain ⟨a, w, g1, g2, -, -, -, g6, -⟩ := hC.2.2.2.2.2.2.1 j z tx hz ht
  rw [e1] at g1
  rw [e2] at g2
  obtain ⟨P, hP⟩ := nzall_of nzTF_all hq
  have hP : (decide ((18 : Nat) = 18) && nzat P (.fieldLink (nzown M.1) q "java/lang/String" "value" "[B")) = true := hP
  simp only [decide_true, Bool.true_and] at hP
  have kk := k a1 a2 a3 a4 H locs cls hR hS hL
  rw [List.map_cons, show nzcv b ck (.float (v + 1)) = ck (v + 1) from rfl, g2] at kk
  rw [List.map_cons, show nzcv b ck (.float v) = ck v from rfl, g1]
  exact vk_getf hx hb g6 hS hown (hts _ (nzat_mem hP) rfl) (fun _ z => z) hd kk
theorem nzs_getSC (F : nzFr p R s m args meth c D cA b ck sc M) {pc : Nat} {ls : nzL} {st : List Value} {h : nzH} {q kd : Nat} {v : UInt32} (hd : decode M.2.2.1 pc = .ok (.getfield q, 3)) (hq : nzlk nzTF M.1 q = some (kd, 18, 1, 0)) (hv : nzkS v = true) (k : nzOK p l e R s m args below meth c Q D cA b ck sc M kc ks (pc + 3) ls (.int 0 :: st) h) : nzOK p l e R s m args below meth c Q D cA b ck sc M kc ks pc ls (.float v :: st) h := by
  obtain ⟨hx, hb, hr, hml, hown, hts, hlk, hin, hK, hC, hbs, hfr, hlo⟩ := F
  intro a1 a2 a3 a4 H locs cls hR hS hL
  obtain ⟨j, z, tx, hz, ht, e1, e2⟩ := nzkS_at hv
  obtain ⟨a, w, g1, g2, -, -, g5, -, -⟩ := hC.2.2.2.2.2.2.1 j z tx hz ht
  rw [e1] at g1
  obtain ⟨P, hP⟩ := nzall_of nzTF_all hq
  have hP : (decide ((18 : Nat) = 18) && (decide ((1 : Nat) = 1) && nzat P (.fieldLink (nzown M.1) q "java/lang/String" "coder" "B"))) = true := hP
  simp only [decide_true, Bool.true_and] at hP
  have kk := k a1 a2 a3 a4 H locs cls hR hS hL
  rw [List.map_cons, show nzcv b ck (.float v) = ck v from rfl, g1]
  exact vk_getf hx hb g5 hS hown (hts _ (nzat_mem hP) rfl) (fun _ z => z) hd kk
theorem nzput_at {h h1 : nzH} {a ci k : Nat} {v : Value} (hv : nzput h a ci k v = some h1) : ∃ F, nzcell h a = some (.inr (ci, F)) ∧ h1 = nzset h a (.inr (ci, va_up F k v)) := by
  unfold nzput at hv
  split at hv
  · rename_i c0 F hc
    split at hv
    · rename_i e; subst e; cases hv; exact ⟨F, hc, rfl⟩
    · cases hv
  · cases hv
theorem nzfits_cv {b : Nat} {ck : UInt32 → Value} {ty : FieldType} {v : Value} (hn : narrow ty v = v) (hf : fits ty v = true) (hfl : ty ≠ .float) : narrow ty (nzcv b ck v) = nzcv b ck v ∧ fits ty (nzcv b ck v) = true := by
  cases v with
  | ref a => cases ty <;> first | exact ⟨rfl, rfl⟩ | (simp [fits] at hf)
  | float k => cases ty <;> first | exact absurd rfl hfl | (simp [fits] at hf)
  | _ => exact ⟨hn, hf⟩
theorem nzs_putf (F : nzFr p R s m args meth c D cA b ck sc M) {pc : Nat} {ls : nzL} {st : List Value} {h : nzH} {q kd ci j t a : Nat} {v : Value} {h1 : nzH} (hd : decode M.2.2.1 pc = .ok (.putfield q, 3)) (hq : nzlk nzTF M.1 q = some (kd, ci, j, t)) (hf : nzfit ci j v = true) (hpk : nzpok M ci j = true) (hv : nzput h a ci j v = some h1) (k : nzOK p l e R s m args below meth c Q D cA b ck sc M kc ks (pc + 3) ls st h1) : nzOK p l e R s m args below meth c Q D cA b ck sc M kc ks pc ls (v :: .ref a :: st) h := by
  obtain ⟨hx, hb, hr, hml, hown, hts, hlk, hin, hK, hC, hbs, hfr, hlo⟩ := F
  intro a1 a2 a3 a4 H locs cls hR hS hL
  obtain ⟨G, hc, rfl⟩ := nzput_at hv
  have hat := hR.2 a _ hc
  obtain ⟨w, hw, cell, q1, q2, q3, q4⟩ := hat
  obtain ⟨P, hP⟩ := nzall_of nzTF_all hq
  simp only [nzokF, hw, Bool.and_eq_true, decide_eq_true_eq] at hP
  obtain ⟨⟨hj, hdc⟩, hl⟩ := hP
  obtain ⟨ty, hcl⟩ := nzCl_of hw
  obtain ⟨-, hty, hNF, hpd, hnm, hinw, hwn, hnf⟩ := hcl
  simp only [nzfit, hNF, hty, Bool.and_eq_true, decide_eq_true_eq] at hf
  obtain ⟨⟨-, hn1⟩, hn2⟩ := hf
  have hfl : ty j ≠ .float := hnf j hj
  obtain ⟨hn1, hn2⟩ := nzfits_cv (b := b) (ck := ck) hn1 hn2 hfl
  obtain ⟨hSl, hfc, kC, hkC, hkind⟩ := hK.1 ci _ hw
  obtain ⟨cf, kf, fi, f, hi, hsl⟩ := hSl j hj
  have hgt : ∀ w' ∈ lw_tbl.filter goodWord, w'.before args s = true := fun w' h' => hts w' (List.mem_filter.mp h').1 (List.mem_filter.mp h').2
  have hin2 : ∀ w' ∈ u_ws w.1 w.2.1 w.2.2, w' ∈ lw_tbl.filter goodWord := fun w' h' => List.mem_filter.mpr ⟨hinw w' h', by
    obtain ⟨z, -, hz⟩ := List.mem_map.mp h'
    rw [← hz]
    unfold u_lay
    split <;> rfl⟩
  have hap := va_apart (own := w.1) hgt hin2 ty hpd hnm hK hw
  have hst := (u_facts hfc hkC (u_lays hgt hin2 hj) hi).1
  have hlay := hgt _ (hin2 _ (u_in_lay hj))
  have hi' := hi
  rw [hdc] at hi'
  have kk : ∀ H1 : Heap, H1[b + a]? = some (cell.setSlot f.slot (nzcv b ck v)) → H1.size = H.size → (∀ z, z ≠ b + a → H1[z]? = H[z]?) → W p l e R s m args below meth c H1 (locs ++ [⟨b + a, f.slot⟩]) (h.2.1.1 - kc) (h.2.1.2 - ks) Q (F0 m (pc + 3) cls (st.map (nzcv b ck))) := by
    intro H1 e1 e2 e3
    refine k a1 a2 a3 a4 H1 _ cls (hR.set e2 e3 ⟨w, hw, t_OB.to (V := updV (fun z => nzcv b ck (G z)) j (nzcv b ck v)) ⟨_, e1, q2, q3, ?_⟩ ?_⟩) (hS.put e2 e3 (Nat.le_add_right b a)) hL
    · rw [hsl]
      exact t_set q4 hap hj _
    · intro z _
      unfold updV va_up
      by_cases hz : z = j <;> simp [hz]
  unfold u_lay at hlay
  by_cases hfin : (w.2.1 j).2.2.2 = true
  · rw [if_pos hfin] at hlay
    simp only [nzpok, hw, hfin, Bool.not_true, Bool.false_or, Bool.and_eq_true, decide_eq_true_eq] at hpk
    obtain ⟨hnm1, hci⟩ := hpk
    have hown' : s.vm.findClass w.1 = some m.cls := by rw [hwn, hci]; exact hown
    have hcf : m.cls = cf := by
      obtain ⟨_, _, c', _, _, _, -, -, hf', -, -, -, hown2, -⟩ := Cond.laysFinal_spec hlay
      have e1 : c' = cf := by have := hi.symm.trans hf'; simp at this; exact this.1.symm
      rw [hdc] at hown2
      rw [← e1]; exact Option.some.inj (hown'.symm.trans hown2)
    have h6 := u_fits hfc hkC hkind (Or.inr hlay) hi (hpd j hj) hn1 hn2
    by_cases hk0 : kd = 0
    · rw [if_pos hk0] at hl
      exact W.putFinK hx hb hown (hts _ (nzat_mem hl) rfl) hi' hst hcf (hin hnm1) (by rw [q2]; exact h6) q1 q3 (by rw [hsl]; exact k2_hasslot (q4 j hj)) rfl rfl hd kk
    · rw [if_neg hk0] at hl
      have hlt : b + a < H.size := (Array.getElem?_eq_some_iff.mp q1).1
      refine va_Wputf hx hb hown (va_Nw.use rfl (hC.2.2.2.2.2.2.2.1 _ (nzat_mem hl) rfl)) hi' hst (Or.inr ⟨hcf, hin hnm1⟩) q1 (by rw [q3]; exact fun z => by cases z) (by rw [hsl]; exact k2_hasslot (q4 j hj)) h6.1 (by rw [q3, q2]; exact h6.2) rfl rfl hd (kk _ (by simp [Array.getElem?_setIfInBounds, hlt]) (by simp) (fun z hz => by simp [Array.getElem?_setIfInBounds, Ne.symm hz]))
  · rw [if_neg hfin] at hlay
    have h6 := u_store hfc hkC hkind hlay hi (hpd j hj) hn1 hn2
    by_cases hk0 : kd = 0
    · rw [if_pos hk0] at hl
      exact W.putK hx hb (f := f) ⟨hown, hts _ (nzat_mem hl) rfl, ⟨_, _, _, hi'⟩, hst⟩ (by rw [q2]; exact h6) q1 q3 (by rw [hsl]; exact k2_hasslot (q4 j hj)) rfl rfl hd kk
    · rw [if_neg hk0] at hl
      exact va_WputK hx hb (f := f) hown (va_Nw.use rfl (hC.2.2.2.2.2.2.2.1 _ (nzat_mem hl) rfl)) hi' hst (by rw [q2]; exact h6) q1 q3 (by rw [hsl]; exact k2_hasslot (q4 j hj)) rfl rfl hd kk
theorem nzs_iald (F : nzFr p R s m args meth c D cA b ck sc M) {pc : Nat} {ls : nzL} {st : List Value} {h : nzH} {a n : Nat} {i : Int32} {f : Nat → Int32} (hd : decode M.2.2.1 pc = .ok (.iaload, 1)) (hc : nzcell h a = some (.inl (.int, n, .inl f))) (hi : ¬ (i < 0 ∨ n ≤ i.toNatClampNeg)) (k : nzOK p l e R s m args below meth c Q D cA b ck sc M kc ks (pc + 1) ls (.int (f i.toNatClampNeg) :: st) h) : nzOK p l e R s m args below meth c Q D cA b ck sc M kc ks pc ls (.int i :: .ref a :: st) h := by
  obtain ⟨hx, hb, hr, hml, hown, hts, hlk, hin, hK, hC, hbs, hfr, hlo⟩ := F
  intro a1 a2 a3 a4 H locs cls hR hS hL
  have hat : H[b + a]? = some (vp_cell (cA .int) (n, .inl f)) := hR.2 a _ hc
  exact va_iald hx hb hK (D := D) (cl := vwCl) (ws := [(b + a, .inl (cA .int, n, .inl f))]) (fun z y hz => by
    cases z with
    | zero => cases hz; exact hat
    | succ z => cases hz) 0 0 rfl rfl hi hd (k a1 a2 a3 a4 H locs cls hR hS hL)
theorem nzs_bald (F : nzFr p R s m args meth c D cA b ck sc M) {pc : Nat} {ls : nzL} {st : List Value} {h : nzH} {a n : Nat} {i : Int32} {f : Nat → Int32} (hd : decode M.2.2.1 pc = .ok (.baload, 1)) (hc : nzcell h a = some (.inl (.byte, n, .inl f))) (hi : ¬ (i < 0 ∨ n ≤ i.toNatClampNeg)) (k : nzOK p l e R s m args below meth c Q D cA b ck sc M kc ks (pc + 1) ls (.int (f i.toNatClampNeg) :: st) h) : nzOK p l e R s m args below meth c Q D cA b ck sc M kc ks pc ls (.int i :: .ref a :: st) h := by
  obtain ⟨hx, hb, hr, hml, hown, hts, hlk, hin, hK, hC, hbs, hfr, hlo⟩ := F
  intro a1 a2 a3 a4 H locs cls hR hS hL
  have hat : H[b + a]? = some (vp_cell (cA .byte) (n, .inl f)) := hR.2 a _ hc
  exact va_bald hx hb hK (D := D) (cl := vwCl) (ws := [(b + a, .inl (cA .byte, n, .inl f))]) (fun z y hz => by
    cases z with
    | zero => cases hz; exact hat
    | succ z => cases hz) 0 2 rfl rfl hi hd (k a1 a2 a3 a4 H locs cls hR hS hL)
theorem nzs_zald (F : nzFr p R s m args meth c D cA b ck sc M) {pc : Nat} {ls : nzL} {st : List Value} {h : nzH} {a n : Nat} {i : Int32} {f : Nat → Int32} (hd : decode M.2.2.1 pc = .ok (.baload, 1)) (hc : nzcell h a = some (.inl (.boolean, n, .inl f))) (hi : ¬ (i < 0 ∨ n ≤ i.toNatClampNeg)) (k : nzOK p l e R s m args below meth c Q D cA b ck sc M kc ks (pc + 1) ls (.int (f i.toNatClampNeg) :: st) h) : nzOK p l e R s m args below meth c Q D cA b ck sc M kc ks pc ls (.int i :: .ref a :: st) h := by
  obtain ⟨hx, hb, hr, hml, hown, hts, hlk, hin, hK, hC, hbs, hfr, hlo⟩ := F
  intro a1 a2 a3 a4 H locs cls hR hS hL
  have hat : H[b + a]? = some (vp_cell (cA .boolean) (n, .inl f)) := hR.2 a _ hc
  exact va_zald hx hb hK (D := D) (cl := vwCl) (ws := [(b + a, .inl (cA .boolean, n, .inl f))]) (fun z y hz => by
    cases z with
    | zero => cases hz; exact hat
    | succ z => cases hz) 0 3 rfl rfl hi hd (k a1 a2 a3 a4 H locs cls hR hS hL)
theorem nzs_lald (F : nzFr p R s m args meth c D cA b ck sc M) {pc : Nat} {ls : nzL} {st : List Value} {h : nzH} {a n : Nat} {i : Int32} {f : Nat → Int64} (hd : decode M.2.2.1 pc = .ok (.laload, 1)) (hc : nzcell h a = some (.inl (.long, n, .inr (.inl f)))) (hi : ¬ (i < 0 ∨ n ≤ i.toNatClampNeg)) (k : nzOK p l e R s m args below meth c Q D cA b ck sc M kc ks (pc + 1) ls (.long (f i.toNatClampNeg) :: st) h) : nzOK p l e R s m args below meth c Q D cA b ck sc M kc ks pc ls (.int i :: .ref a :: st) h := by
  obtain ⟨hx, hb, hr, hml, hown, hts, hlk, hin, hK, hC, hbs, hfr, hlo⟩ := F
  intro a1 a2 a3 a4 H locs cls hR hS hL
  have hat : H[b + a]? = some (vp_cell (cA .long) (n, .inr (.inl f))) := hR.2 a _ hc
  exact va_lald hx hb hK (D := D) (cl := vwCl) (ws := [(b + a, .inl (cA .long, n, .inr (.inl f)))]) (fun z y hz => by
    cases z with
    | zero => cases hz; exact hat
    | succ z => cases hz) 0 1 rfl rfl hi hd (k a1 a2 a3 a4 H locs cls hR hS hL)
theorem nzs_aald (F : nzFr p R s m args meth c D cA b ck sc M) {pc : Nat} {ls : nzL} {st : List Value} {h : nzH} {a n v : Nat} {i : Int32} {f : Nat → Option Nat} (hd : decode M.2.2.1 pc = .ok (.aaload, 1)) (hc : nzcell h a = some (.inl (.array .int, n, .inr (.inr (.inr (.inr f)))))) (hi : ¬ (i < 0 ∨ n ≤ i.toNatClampNeg)) (hv : f i.toNatClampNeg = some v) (k : nzOK p l e R s m args below meth c Q D cA b ck sc M kc ks (pc + 1) ls (.ref v :: st) h) : nzOK p l e R s m args below meth c Q D cA b ck sc M kc ks pc ls (.int i :: .ref a :: st) h := by
  obtain ⟨hx, hb, hr, hml, hown, hts, hlk, hin, hK, hC, hbs, hfr, hlo⟩ := F
  intro a1 a2 a3 a4 H locs cls hR hS hL
  have hat : H[b + a]? = some (arrV (cA (.array .int)) n (fun j => va_rf ((f j).map (fun z => b + z)))) := hR.2 a _ hc
  have hlt : i.toNatClampNeg < n := Nat.not_le.mp fun q => hi (Or.inr q)
  refine W.aald (v := .ref (b + v)) (ty := .array .int) hx hb hat ((hK.2 4 _ rfl).1 n _) rfl (fun q => by cases q) (by rw [arrV_size]; exact hi) ?_ rfl rfl hd (k a1 a2 a3 a4 H locs cls hR hS hL)
  rw [arrV_read _ _ hlt, hv]
  rfl
theorem nzs_ialdK (F : nzFr p R s m args meth c D cA b ck sc M) {pc : Nat} {ls : nzL} {st : List Value} {h : nzH} {n : Nat} {v : UInt32} {i : Int32} {f : Nat → Int32} (hd : decode M.2.2.1 pc = .ok (.iaload, 1)) (hc : nzkI h v = some (n, f)) (hi : ¬ (i < 0 ∨ n ≤ i.toNatClampNeg)) (k : nzOK p l e R s m args below meth c Q D cA b ck sc M kc ks (pc + 1) ls (.int (f i.toNatClampNeg) :: st) h) : nzOK p l e R s m args below meth c Q D cA b ck sc M kc ks pc ls (.int i :: .float v :: st) h := by
  obtain ⟨hx, hb, hr, hml, hown, hts, hlk, hin, hK, hC, hbs, hfr, hlo⟩ := F
  intro a1 a2 a3 a4 H locs cls hR hS hL
  have kk := k a1 a2 a3 a4 H locs cls hR hS hL
  rw [List.map_cons, List.map_cons, show nzcv b ck (.float v) = ck v from rfl]
  unfold nzkI at hc
  split at hc
  · rename_i ev
    rw [a3] at hc
    have ec := Option.some.inj hc
    obtain ⟨t, e1, hT⟩ := hC.2.1
    rw [ev, e1]
    rw [ec] at hT
    exact va_ti hx hb hT hS hi rfl hd kk
  · split at hc
    · rename_i ev
      cases hc
      obtain ⟨t, e1, hT⟩ := hC.2.2.1
      rw [ev, e1]
      exact va_ti hx hb hT hS hi rfl hd kk
    · cases hc
theorem nzkB_at {v : UInt32} {n : Nat} {f : Nat → Int32} (h : nzkB v = some (n, f)) : ∃ j z l, nzStrAt[j]? = some z ∧ nzStr[j]? = some l ∧ UInt32.ofNat (11 + 2 * j) = v ∧ n = l.length ∧ f = fun i => nI (l.getD i 0) := by
  unfold nzkB at h
  split at h
  · cases h
  · rename_i hv
    split at h
    · rename_i tx ht
      cases h
      have hlt : (v.toNat - 11) / 2 < nzStrAt.length := (List.getElem?_eq_some_iff.mp ht).1
      refine ⟨(v.toNat - 11) / 2, _, tx, List.getElem?_eq_getElem hlt, ht, ?_, rfl, rfl⟩
      rw [show 11 + 2 * ((v.toNat - 11) / 2) = v.toNat by omega]
      exact UInt32.ofNat_toNat
    · cases h
theorem nzs_baldK (F : nzFr p R s m args meth c D cA b ck sc M) {pc : Nat} {ls : nzL} {st : List Value} {h : nzH} {n : Nat} {v : UInt32} {i : Int32} {f : Nat → Int32} (hd : decode M.2.2.1 pc = .ok (.baload, 1)) (hc : nzkB v = some (n, f)) (hi : ¬ (i < 0 ∨ n ≤ i.toNatClampNeg)) (k : nzOK p l e R s m args below meth c Q D cA b ck sc M kc ks (pc + 1) ls (.int (f i.toNatClampNeg) :: st) h) : nzOK p l e R s m args below meth c Q D cA b ck sc M kc ks pc ls (.int i :: .float v :: st) h := by
  obtain ⟨hx, hb, hr, hml, hown, hts, hlk, hin, hK, hC, hbs, hfr, hlo⟩ := F
  intro a1 a2 a3 a4 H locs cls hR hS hL
  have kk := k a1 a2 a3 a4 H locs cls hR hS hL
  rw [List.map_cons, List.map_cons, show nzcv b ck (.float v) = ck v from rfl]
  obtain ⟨j, z, tx, hz, ht, e1, rfl, rfl⟩ := nzkB_at hc
  obtain ⟨a, w, g1, g2, -, -, -, -, g7⟩ := hC.2.2.2.2.2.2.1 j z tx hz ht
  rw [e1] at g2
  rw [g2]
  exact va_tb hx hb g7 hS hi rfl hd kk
theorem nzs_alen (F : nzFr p R s m args meth c D cA b ck sc M) {pc : Nat} {ls : nzL} {st : List Value} {h : nzH} {a : Nat} {x : vp_A} (hd : decode M.2.2.1 pc = .ok (.arraylength, 1)) (hc : nzcell h a = some (.inl (.int, x))) (k : nzOK p l e R s m args below meth c Q D cA b ck sc M kc ks (pc + 1) ls (.int (Int32.ofNat x.1) :: st) h) : nzOK p l e R s m args below meth c Q D cA b ck sc M kc ks pc ls (.ref a :: st) h := by
  obtain ⟨hx, hb, hr, hml, hown, hts, hlk, hin, hK, hC, hbs, hfr, hlo⟩ := F
  intro a1 a2 a3 a4 H locs cls hR hS hL
  have hat : H[b + a]? = some (vp_cell (cA .int) (nzcx b x)) := hR.2 a _ hc
  refine va_alen hx hb hK (D := D) (cl := vwCl) (ws := [(b + a, .inl (cA .int, nzcx b x))]) (fun z y hz => by
    cases z with
    | zero => cases hz; exact hat
    | succ z => cases hz) 0 0 rfl rfl ?_ hd (k a1 a2 a3 a4 H locs cls hR hS hL)
  unfold nzcx
  split <;> rfl
theorem nzs_alenK (F : nzFr p R s m args meth c D cA b ck sc M) {pc : Nat} {ls : nzL} {st : List Value} {h : nzH} {v : UInt32} {n : Int32} (hd : decode M.2.2.1 pc = .ok (.arraylength, 1)) (hc : nzclen h v = some n) (k : nzOK p l e R s m args below meth c Q D cA b ck sc M kc ks (pc + 1) ls (.int n :: st) h) : nzOK p l e R s m args below meth c Q D cA b ck sc M kc ks pc ls (.float v :: st) h := by
  obtain ⟨hx, hb, hr, hml, hown, hts, hlk, hin, hK, hC, hbs, hfr, hlo⟩ := F
  intro a1 a2 a3 a4 H locs cls hR hS hL
  have kk := k a1 a2 a3 a4 H locs cls hR hS hL
  rw [List.map_cons, show nzcv b ck (.float v) = ck v from rfl]
  unfold nzclen at hc
  cases hk : nzkI h v with
  | some q =>
    rw [hk] at hc
    cases hc
    unfold nzkI at hk
    split at hk
    · rename_i ev
      rw [a3] at hk
      have ec := Option.some.inj hk
      obtain ⟨t, e1, hT⟩ := hC.2.1
      rw [ev, e1]
      rw [ec] at hT
      exact va_tlen hx hb hT hS rfl hd kk
    · split at hk
      · rename_i ev
        cases hk
        obtain ⟨t, e1, hT⟩ := hC.2.2.1
        rw [ev, e1]
        exact va_tlen hx hb hT hS rfl hd kk
      · cases hk
  | none =>
    rw [hk] at hc
    dsimp only at hc
    cases hB : nzkB v with
    | none => rw [hB] at hc; cases hc
    | some q =>
      rw [hB] at hc
      cases hc
      obtain ⟨n0, f0⟩ := q
      obtain ⟨j, z, tx, hz, ht, e1, rfl, rfl⟩ := nzkB_at hB
      obtain ⟨a, w, g1, g2, -, -, -, -, g7⟩ := hC.2.2.2.2.2.2.1 j z tx hz ht
      rw [e1] at g2
      rw [g2]
      exact va_tlen hx hb g7 hS rfl hd kk
theorem nzs_iast (F : nzFr p R s m args meth c D cA b ck sc M) {pc : Nat} {ls : nzL} {st : List Value} {h : nzH} {a n : Nat} {i : Int32} {x : Int32} {f : Nat → Int32} (hd : decode M.2.2.1 pc = .ok (.iastore, 1)) (hc : nzcell h a = some (.inl (.int, n, .inl f))) (hi : ¬ (i < 0 ∨ n ≤ i.toNatClampNeg)) (k : nzOK p l e R s m args below meth c Q D cA b ck sc M kc ks (pc + 1) ls st (nzset h a (.inl (.int, n, .inl (upd f i.toNatClampNeg x))))) : nzOK p l e R s m args below meth c Q D cA b ck sc M kc ks pc ls (.int x :: .int i :: .ref a :: st) h := by
  obtain ⟨hx, hb, hr, hml, hown, hts, hlk, hin, hK, hC, hbs, hfr, hlo⟩ := F
  intro a1 a2 a3 a4 H locs cls hR hS hL
  have hat : H[b + a]? = some (vp_cell (cA .int) (n, .inl f)) := hR.2 a _ hc
  refine W.iast hx hb hat ((hK.2 0 _ rfl).1 n _) (fun q => by cases q) (by show ¬ (i < 0 ∨ (arrV _ _ _).slots.size ≤ _); rw [arrV_size]; exact hi) rfl rfl hd fun H1 e z oq => ?_
  refine k a1 a2 a3 a4 H1 _ cls (hR.set z oq ?_) (hS.put z oq (Nat.le_add_right b a)) hL
  show H1[b + a]? = some (vp_cell _ _)
  rw [e, show nzcx b (n, .inl (upd f i.toNatClampNeg x)) = (n, .inl (upd f i.toNatClampNeg x)) from rfl, vp_cell_i, vp_cell_i, arrV_store]
  congr 2
  funext q
  by_cases hq : q = i.toNatClampNeg
  · subst hq
    simp [updV, upd]
    
  · simp [updV, upd, hq]
theorem nzs_bast (F : nzFr p R s m args meth c D cA b ck sc M) {pc : Nat} {ls : nzL} {st : List Value} {h : nzH} {a n : Nat} {i : Int32} {x : Int32} {f : Nat → Int32} (hd : decode M.2.2.1 pc = .ok (.bastore, 1)) (hc : nzcell h a = some (.inl (.byte, n, .inl f))) (hi : ¬ (i < 0 ∨ n ≤ i.toNatClampNeg)) (k : nzOK p l e R s m args below meth c Q D cA b ck sc M kc ks (pc + 1) ls st (nzset h a (.inl (.byte, n, .inl (upd f i.toNatClampNeg (vp_nar .byte x)))))) : nzOK p l e R s m args below meth c Q D cA b ck sc M kc ks pc ls (.int x :: .int i :: .ref a :: st) h := by
  obtain ⟨hx, hb, hr, hml, hown, hts, hlk, hin, hK, hC, hbs, hfr, hlo⟩ := F
  intro a1 a2 a3 a4 H locs cls hR hS hL
  have hat : H[b + a]? = some (vp_cell (cA .byte) (n, .inl f)) := hR.2 a _ hc
  refine W.bast hx hb hat ((hK.2 2 _ rfl).1 n _) (fun q => by cases q) (by show ¬ (i < 0 ∨ (arrV _ _ _).slots.size ≤ _); rw [arrV_size]; exact hi) rfl rfl hd fun H1 e z oq => ?_
  refine k a1 a2 a3 a4 H1 _ cls (hR.set z oq ?_) (hS.put z oq (Nat.le_add_right b a)) hL
  show H1[b + a]? = some (vp_cell _ _)
  rw [e, show nzcx b (n, .inl (upd f i.toNatClampNeg (vp_nar .byte x))) = (n, .inl (upd f i.toNatClampNeg (vp_nar .byte x))) from rfl, vp_cell_i, vp_cell_i, arrV_store]
  congr 2
  funext q
  by_cases hq : q = i.toNatClampNeg
  · subst hq
    simp [updV, upd, vp_nar]
    try rfl
  · simp [updV, upd, vp_nar, hq]
theorem nzs_zast (F : nzFr p R s m args meth c D cA b ck sc M) {pc : Nat} {ls : nzL} {st : List Value} {h : nzH} {a n : Nat} {i : Int32} {x : Int32} {f : Nat → Int32} (hd : decode M.2.2.1 pc = .ok (.bastore, 1)) (hc : nzcell h a = some (.inl (.boolean, n, .inl f))) (hi : ¬ (i < 0 ∨ n ≤ i.toNatClampNeg)) (k : nzOK p l e R s m args below meth c Q D cA b ck sc M kc ks (pc + 1) ls st (nzset h a (.inl (.boolean, n, .inl (upd f i.toNatClampNeg (vp_nar .boolean x)))))) : nzOK p l e R s m args below meth c Q D cA b ck sc M kc ks pc ls (.int x :: .int i :: .ref a :: st) h := by
  obtain ⟨hx, hb, hr, hml, hown, hts, hlk, hin, hK, hC, hbs, hfr, hlo⟩ := F
  intro a1 a2 a3 a4 H locs cls hR hS hL
  have hat : H[b + a]? = some (vp_cell (cA .boolean) (n, .inl f)) := hR.2 a _ hc
  refine W.zast hx hb hat ((hK.2 3 _ rfl).1 n _) (fun q => by cases q) (by show ¬ (i < 0 ∨ (arrV _ _ _).slots.size ≤ _); rw [arrV_size]; exact hi) rfl rfl hd fun H1 e z oq => ?_
  refine k a1 a2 a3 a4 H1 _ cls (hR.set z oq ?_) (hS.put z oq (Nat.le_add_right b a)) hL
  show H1[b + a]? = some (vp_cell _ _)
  rw [e, show nzcx b (n, .inl (upd f i.toNatClampNeg (vp_nar .boolean x))) = (n, .inl (upd f i.toNatClampNeg (vp_nar .boolean x))) from rfl, vp_cell_i, vp_cell_i, arrV_store]
  congr 2
  funext q
  by_cases hq : q = i.toNatClampNeg
  · subst hq
    simp [updV, upd, vp_nar]
    try rfl
  · simp [updV, upd, vp_nar, hq]
theorem nzs_last (F : nzFr p R s m args meth c D cA b ck sc M) {pc : Nat} {ls : nzL} {st : List Value} {h : nzH} {a n : Nat} {i : Int32} {x : Int64} {f : Nat → Int64} (hd : decode M.2.2.1 pc = .ok (.lastore, 1)) (hc : nzcell h a = some (.inl (.long, n, .inr (.inl f)))) (hi : ¬ (i < 0 ∨ n ≤ i.toNatClampNeg)) (k : nzOK p l e R s m args below meth c Q D cA b ck sc M kc ks (pc + 1) ls st (nzset h a (.inl (.long, n, .inr (.inl (vp_updL f i.toNatClampNeg x)))))) : nzOK p l e R s m args below meth c Q D cA b ck sc M kc ks pc ls (.long x :: .int i :: .ref a :: st) h := by
  obtain ⟨hx, hb, hr, hml, hown, hts, hlk, hin, hK, hC, hbs, hfr, hlo⟩ := F
  intro a1 a2 a3 a4 H locs cls hR hS hL
  have hat : H[b + a]? = some (vp_cell (cA .long) (n, .inr (.inl f))) := hR.2 a _ hc
  refine W.last hx hb hat ((hK.2 1 _ rfl).1 n _) (fun q => by cases q) (by show ¬ (i < 0 ∨ (arrV _ _ _).slots.size ≤ _); rw [arrV_size]; exact hi) rfl rfl hd fun H1 e z oq => ?_
  refine k a1 a2 a3 a4 H1 _ cls (hR.set z oq ?_) (hS.put z oq (Nat.le_add_right b a)) hL
  show H1[b + a]? = some (vp_cell _ _)
  rw [e, show nzcx b (n, .inr (.inl (vp_updL f i.toNatClampNeg x))) = (n, .inr (.inl (vp_updL f i.toNatClampNeg x))) from rfl, vp_cell_l, vp_cell_l, arrV_store]
  congr 2
  funext q
  by_cases hq : q = i.toNatClampNeg
  · subst hq
    simp [updV, vp_updL]
    
  · simp [updV, vp_updL, hq]
theorem nzs_copy (F : nzFr p R s m args meth c D cA b ck sc M) {pc : Nat} {ls : nzL} {st : List Value} {h : nzH} {q x a a0 : Nat} {y : nzM} {sp dp n : Int32} {h1 : nzH} (hd : decode M.2.2.1 pc = .ok (.invokestatic q, 3)) (hq : nzlk nzTM M.1 q = some (7, x, y)) (hct : nzcat st = true) (hv : nzcpy h a0 sp a dp n = some h1) (k : nzOK p l e R s m args below meth c Q D cA b ck sc M kc ks (pc + 3) ls st h1) : nzOK p l e R s m args below meth c Q D cA b ck sc M kc ks pc ls (.int n :: .int dp :: .ref a :: .int sp :: .ref a0 :: st) h := by
  obtain ⟨hx, hb, hr, hml, hown, hts, hlk, hin, hK, hC, hbs, hfr, hlo⟩ := F
  intro a1 a2 a3 a4 H locs cls hR hS hL
  obtain ⟨P, hP⟩ := nzall_of nzTM_all hq
  have hP : (nzat (P.getD 0 0) (.methodLink (nzown M.1) q arraycopyName) && nzat (P.getD 1 0) (.native arraycopyName) && nzat (P.getD 2 0) (.static arraycopyName) && nzat (P.getD 3 0) (.initialized "java/lang/System")) = true := hP
  simp only [Bool.and_eq_true] at hP
  obtain ⟨⟨⟨p1, p2⟩, p3⟩, p4⟩ := hP
  have nn : ∀ z : Int32, ¬ z < 0 → z.toInt = (z.toNatClampNeg : Int) := fun z hz => by
    have hz0 : (0 : Int) ≤ z.toInt := by simpa using Int32.le_iff_toInt_le.mp (Int32.not_lt.mp hz)
    show z.toInt = ((z.toInt.toNat : Nat) : Int)
    omega
  unfold nzcpy at hv
  split at hv
  · rename_i n0 f n1 g hc0 hc1
    split at hv
    · cases hv
    · rename_i hcond
      cases hv
      have w1 : ¬ sp < 0 := fun z => hcond (Or.inl z)
      have w2 : ¬ dp < 0 := fun z => hcond (Or.inr (Or.inl z))
      have w3 : ¬ n < 0 := fun z => hcond (Or.inr (Or.inr (Or.inl z)))
      have w4 : sp.toNatClampNeg + n.toNatClampNeg ≤ n0 := Nat.not_lt.mp fun z => hcond (Or.inr (Or.inr (Or.inr (Or.inl z))))
      have w5 : dp.toNatClampNeg + n.toNatClampNeg ≤ n1 := Nat.not_lt.mp fun z => hcond (Or.inr (Or.inr (Or.inr (Or.inr z))))
      have hat0 : H[b + a0]? = some (vp_cell (cA .int) (n0, .inl f)) := hR.2 a0 _ hc0
      have hat1 : H[b + a]? = some (vp_cell (cA .int) (n1, .inl g)) := hR.2 a _ hc1
      have hsum := nzcat_map (b := b) hC.1 hct
      obtain ⟨-, k0, hk0, cm0, hkk0⟩ := (hK.2 0 _ rfl).1 n0 (fun j => .int (f j))
      obtain ⟨-, k1, hk1, cm1, hkk1⟩ := (hK.2 0 _ rfl).1 n1 (fun j => .int (g j))
      intro T hT X
      obtain ⟨vm', X', step⟩ := X.arraycopy hx hown (hts _ (nzat_mem p1) rfl) (hts _ (nzat_mem p2) rfl) (hts _ (nzat_mem p3) rfl) (hts _ (nzat_mem p4) rfl) (src := b + a0) (dst := b + a) (cs := vp_cell (cA .int) (n0, .inl f)) (cd := vp_cell (cA .int) (n1, .inl g)) (srcPos := sp) (destPos := dp) (n := n) (by rw [hT]; exact hat0) (by rw [hT]; exact hat1)
        (fun _ h => by cases h) (fun _ h => by cases h) (fun h => by cases h) (fun h => by cases h) hk0 hk1 hkk0 hkk1 (by simp [refKind]) w1 w2 w3
        (by rw [nn sp w1, nn n w3, vp_cell_i, arrV_size]; omega)
        (by rw [nn dp w2, nn n w3, vp_cell_i, arrV_size]; omega)
        (fun vm₁ _ i hi => by
          have e : (vp_cell (cA .int) (n0, .inl f)).slots.getD (sp.toNatClampNeg + i) .null = .int (f (sp.toNatClampNeg + i)) := by
            rw [vp_cell_i, Array.getD_eq_getD_getElem?, arrV_read _ _ (by omega)]
            rfl
          exact ⟨by rw [e]; rfl, by rw [e]; exact trivial⟩)
        (g := F0 m pc cls (.int n :: .int dp :: .ref (b + a) :: .int sp :: .ref (b + a0) :: st.map (nzcv b ck))) rfl (by rw [hml]; exact hL.1.trans a4) (rest := st.map (nzcv b ck)) rfl (by rw [hb]; exact hd) hfr (by rw [show nativeFrameWords "java/lang/System" "arraycopy" 5 = 7 from by decide]; show 2 * 0 + _ + _ ≤ _; omega)
      rw [show copied (vp_cell (cA .int) (n0, .inl f)) (vp_cell (cA .int) (n1, .inl g)) sp dp n = vp_cell (cA .int) (n1, .inl (va_cpy f g sp.toNatClampNeg dp.toNatClampNeg n.toNatClampNeg)) from va_copied (fun z => .int z) (cA .int) (cA .int) f g w4] at X' step
      have hlt : b + a < T.heap.size := by rw [hT]; exact (Array.getElem?_eq_some_iff.mp hat1).1
      have oq : ∀ z : Nat, z ≠ b + a → ((T.setVm vm').setCell (b + a) (vp_cell (cA .int) (n1, .inl (va_cpy f g sp.toNatClampNeg dp.toNatClampNeg n.toNatClampNeg)))).heap[z]? = H[z]? := fun z hz => by rw [heapAt_setCell_ne _ (Ne.symm hz)]; show T.heap[z]? = _; rw [hT]
      have z1 : ((T.setVm vm').setCell (b + a) (vp_cell (cA .int) (n1, .inl (va_cpy f g sp.toNatClampNeg dp.toNatClampNeg n.toNatClampNeg)))).heap.size = H.size := by rw [size_setCell]; show T.heap.size = _; rw [hT]
      obtain ⟨t, g1, g2⟩ := k a1 a2 a3 a4 _ _ cls (hR.set (a := a) (e := .inl (.int, n1, .inl (va_cpy f g sp.toNatClampNeg dp.toNatClampNeg n.toNatClampNeg))) z1 oq (heapAt_setCell_self _ hlt)) ⟨by rw [z1]; exact hS.1, fun z g1 g2 => (oq z (fun e => g2 (by rw [e]; exact Nat.le_add_right b a))).trans (hS.2.1 z g1 g2), fun z hz => by
        rcases List.mem_append.mp hz with hz | hz
        · exact hS.2.2 z hz
        · obtain ⟨w, -, hw⟩ := List.mem_map.mp hz
          rw [← hw]
          exact Nat.le_add_right b a⟩ hL _ rfl X'
      exact ⟨t, step t g1, g2⟩
  · cases hv
theorem nzs_mmin (F : nzFr p R s m args meth c D cA b ck sc M) {pc : Nat} {ls : nzL} {st : List Value} {h : nzH} {q z : Nat} {w : nzM} {x y : Int32} (hd : decode M.2.2.1 pc = .ok (.invokestatic q, 3)) (hq : nzlk nzTM M.1 q = some (9, z, w)) (hct : nzcat st = true) (hrc : h.2.1.1 - kc ≤ R.cells) (hrs : h.2.1.2 - ks ≤ R.slots) (k : nzOK p l e R s m args below meth c Q D cA b ck sc M kc ks (pc + 3) ls (.int (if y < x then y else x) :: st) h) : nzOK p l e R s m args below meth c Q D cA b ck sc M kc ks pc ls (.int y :: .int x :: st) h := by
  obtain ⟨hx, hb, hr, hml, hown, hts, hlk, hin, hK, hC, hbs, hfr, hlo⟩ := F
  intro a1 a2 a3 a4 H locs cls hR hS hL
  obtain ⟨P, hP⟩ := nzall_of nzTM_all hq
  have hP : (nzat (P.getD 0 0) (.methodLink (nzown M.1) q Lib.Math.min.name) && nzat (P.getD 1 0) (.static Lib.Math.min.name) && nzat (P.getD 2 0) (.initialized "java/lang/Math")) = true := hP
  simp only [Bool.and_eq_true] at hP
  obtain ⟨⟨p1, p2⟩, p3⟩ := hP
  have hsum := nzcat_map (b := b) hC.1 hct
  exact va_mmin hx hb (by rw [hml]; exact (hL.1.trans a4).symm) hown (hts _ (nzat_mem p1) rfl) (hts _ (nzat_mem p2) rfl) (hts _ (nzat_mem p3) rfl) (hts _ nzm_min rfl) hfr (by omega) hrc hrs hd (k a1 a2 a3 a4 H locs cls hR hS hL)
theorem nzs_mmax (F : nzFr p R s m args meth c D cA b ck sc M) {pc : Nat} {ls : nzL} {st : List Value} {h : nzH} {q z : Nat} {w : nzM} {x y : Int32} (hd : decode M.2.2.1 pc = .ok (.invokestatic q, 3)) (hq : nzlk nzTM M.1 q = some (10, z, w)) (hct : nzcat st = true) (hrc : h.2.1.1 - kc ≤ R.cells) (hrs : h.2.1.2 - ks ≤ R.slots) (k : nzOK p l e R s m args below meth c Q D cA b ck sc M kc ks (pc + 3) ls (.int (if x < y then y else x) :: st) h) : nzOK p l e R s m args below meth c Q D cA b ck sc M kc ks pc ls (.int y :: .int x :: st) h := by
  obtain ⟨hx, hb, hr, hml, hown, hts, hlk, hin, hK, hC, hbs, hfr, hlo⟩ := F
  intro a1 a2 a3 a4 H locs cls hR hS hL
  obtain ⟨P, hP⟩ := nzall_of nzTM_all hq
  have hP : (nzat (P.getD 0 0) (.methodLink (nzown M.1) q Lib.Math.max.name) && nzat (P.getD 1 0) (.static Lib.Math.max.name) && nzat (P.getD 2 0) (.initialized "java/lang/Math")) = true := hP
  simp only [Bool.and_eq_true] at hP
  obtain ⟨⟨p1, p2⟩, p3⟩ := hP
  have hsum := nzcat_map (b := b) hC.1 hct
  exact va_mmax hx hb (by rw [hml]; exact (hL.1.trans a4).symm) hown (hts _ (nzat_mem p1) rfl) (hts _ (nzat_mem p2) rfl) (hts _ (nzat_mem p3) rfl) (hts _ nzm_max rfl) hfr (by omega) hrc hrs hd (k a1 a2 a3 a4 H locs cls hR hS hL)
theorem nzs_mabs (F : nzFr p R s m args meth c D cA b ck sc M) {pc : Nat} {ls : nzL} {st : List Value} {h : nzH} {q z : Nat} {w : nzM} {x : Int32} (hd : decode M.2.2.1 pc = .ok (.invokestatic q, 3)) (hq : nzlk nzTM M.1 q = some (11, z, w)) (hct : nzcat st = true) (hrc : h.2.1.1 - kc ≤ R.cells) (hrs : h.2.1.2 - ks ≤ R.slots) (k : nzOK p l e R s m args below meth c Q D cA b ck sc M kc ks (pc + 3) ls (.int (if 0 ≤ x then x else 0 - x) :: st) h) : nzOK p l e R s m args below meth c Q D cA b ck sc M kc ks pc ls (.int x :: st) h := by
  obtain ⟨hx, hb, hr, hml, hown, hts, hlk, hin, hK, hC, hbs, hfr, hlo⟩ := F
  intro a1 a2 a3 a4 H locs cls hR hS hL
  obtain ⟨P, hP⟩ := nzall_of nzTM_all hq
  have hP : (nzat (P.getD 0 0) (.methodLink (nzown M.1) q Lib.Math.abs.name) && nzat (P.getD 1 0) (.static Lib.Math.abs.name) && nzat (P.getD 2 0) (.initialized "java/lang/Math")) = true := hP
  simp only [Bool.and_eq_true] at hP
  obtain ⟨⟨p1, p2⟩, p3⟩ := hP
  have hsum := nzcat_map (b := b) hC.1 hct
  exact va_mabs hx hb (by rw [hml]; exact (hL.1.trans a4).symm) hown (hts _ (nzat_mem p1) rfl) (hts _ (nzat_mem p2) rfl) (hts _ (nzat_mem p3) rfl) (hts _ nzm_abs rfl) hfr (by omega) hrc hrs hd (k a1 a2 a3 a4 H locs cls hR hS hL)
theorem nzs_objInit (F : nzFr p R s m args meth c D cA b ck sc M) {pc : Nat} {ls : nzL} {st : List Value} {h : nzH} {q x a : Nat} {y : nzM} (hd : decode M.2.2.1 pc = .ok (.invokespecial q, 3)) (hq : nzlk nzTM M.1 q = some (6, x, y)) (hct : nzcat st = true) (k : nzOK p l e R s m args below meth c Q D cA b ck sc M kc ks (pc + 3) ls st h) : nzOK p l e R s m args below meth c Q D cA b ck sc M kc ks pc ls (.ref a :: st) h := by
  obtain ⟨hx, hb, hr, hml, hown, hts, hlk, hin, hK, hC, hbs, hfr, hlo⟩ := F
  intro a1 a2 a3 a4 H locs cls hR hS hL
  obtain ⟨P, hP⟩ := nzall_of nzTM_all hq
  have hP : (nzat (P.getD 0 0) (.methodLink (nzown M.1) q Lib.objectInit) && nzat (P.getD 1 0) (.instanceMethod Lib.objectInit) && nzat (P.getD 2 0) (.code Lib.objectInit ⟨#[0xb1]⟩ 1 none)) = true := hP
  simp only [Bool.and_eq_true] at hP
  obtain ⟨⟨p1, p2⟩, p3⟩ := hP
  have hsum := nzcat_map (b := b) hC.1 hct
  exact W.objInit hx hb hown (hts _ (nzat_mem p1) rfl) (hts _ (nzat_mem p2) rfl) (hts _ (nzat_mem p3) rfl) rfl (by rw [hml]; exact hL.1.trans a4) rfl hd hfr (by show 2 * 0 + _ + 12 ≤ _; omega) (k a1 a2 a3 a4 H locs cls hR hS hL)
theorem nzs_new (F : nzFr p R s m args meth c D cA b ck sc M) {pc : Nat} {ls : nzL} {st : List Value} {h : nzH} {q ci : Nat} {h1 : nzH} (hd : decode M.2.2.1 pc = .ok (.new q, 3)) (hq : nzlk nzTN M.1 q = some ci) (hv : nznewo h ci = some h1) (hrc : h1.2.1.1 - kc ≤ R.cells) (hrs : h1.2.1.2 - ks ≤ R.slots) (k : nzOK p l e R s m args below meth c Q D cA b ck sc M kc ks (pc + 3) ls (.ref h.1 :: st) h1) : nzOK p l e R s m args below meth c Q D cA b ck sc M kc ks pc ls st h := by
  obtain ⟨hx, hb, hr, hml, hown, hts, hlk, hin, hK, hC, hbs, hfr, hlo⟩ := F
  intro a1 a2 a3 a4 H locs cls hR hS hL
  obtain ⟨P, hP⟩ := nzall_of nzTN_all hq
  unfold nzokN at hP
  dsimp only at hP
  cases hw : vwCl[ci]? with
  | none => rw [hw] at hP; cases hP
  | some w =>
    rw [hw] at hP
    simp only [Bool.and_eq_true] at hP
    obtain ⟨⟨p1, p2⟩, p3⟩ := hP
    obtain ⟨ty, hcl⟩ := nzCl_of hw
    obtain ⟨-, hty, hNF, hpd, hnm, hinw, hwn, hnf⟩ := hcl
    simp only [nznewo, hNF, hty, Option.some.injEq] at hv
    subst hv
    have e1 : (nznew h w.2.2 (.inr (ci, fun k => defaultValue (ty k)))).2.1.1 = h.2.1.1 + 1 := rfl
    have e2 : (nznew h w.2.2 (.inr (ci, fun k => defaultValue (ty k)))).2.1.2 = h.2.1.2 + w.2.2 := rfl
    rw [e1] at hrc
    rw [e2] at hrs
    have hgt : ∀ w' ∈ lw_tbl.filter goodWord, w'.before args s = true := fun w' h' => hts w' (List.mem_filter.mp h').1 (List.mem_filter.mp h').2
    have hin2 : ∀ w' ∈ u_ws w.1 w.2.1 w.2.2, w' ∈ lw_tbl.filter goodWord := fun w' h' => List.mem_filter.mpr ⟨hinw w' h', by
      obtain ⟨z, -, hz⟩ := List.mem_map.mp h'
      rw [← hz]
      unfold u_lay
      split <;> rfl⟩
    have hKn := hK.1 ci _ hw
    refine W.newcK hx hb hown (hts _ (nzat_mem p1) rfl) (hts _ (nzat_mem p2) rfl) (hts _ (nzat_mem p3) rfl) rfl hd (by omega) (by omega) hKn.2.1 hR.1 fun H1 kC hkC g1 z1 o1 => ?_
    have kk := k (Nat.le_succ_of_le a1) (Nat.le_trans a2 (Nat.le_add_right _ _)) a3 a4 H1 locs cls (hR.new (by rw [z1, hR.1]) (fun z hz => o1 z (by rw [← hR.1]; exact hz)) ⟨w, hw, (u_born ty hgt hin2 hKn hkC g1 hpd).to (fun j hj => nz_dflt (hnf j hj))⟩) ⟨by rw [z1]; have := hS.1; rw [hR.1] at this; omega, fun z y1 y2 => (o1 z (by rw [← hR.1]; exact Nat.lt_of_lt_of_le y1 hS.1)).trans (hS.2.1 z y1 y2), hS.2.2⟩ hL
    rw [e1, e2, show h.2.1.1 + 1 - kc = h.2.1.1 - kc + 1 by omega, show h.2.1.2 + w.2.2 - ks = h.2.1.2 - ks + w.2.2 by omega] at kk
    exact kk
theorem nzs_newa (F : nzFr p R s m args meth c D cA b ck sc M) {pc : Nat} {ls : nzL} {st : List Value} {h : nzH} {t : ArrayType} {n : Int32} {h1 : nzH} (hd : decode M.2.2.1 pc = .ok (.newarray t, 2)) (hv : nznewa h (newarray.typeOf t) n = some h1) (hrc : h1.2.1.1 - kc ≤ R.cells) (hrs : h1.2.1.2 - ks ≤ R.slots) (k : nzOK p l e R s m args below meth c Q D cA b ck sc M kc ks (pc + 2) ls (.ref h.1 :: st) h1) : nzOK p l e R s m args below meth c Q D cA b ck sc M kc ks pc ls (.int n :: st) h := by
  obtain ⟨hx, hb, hr, hml, hown, hts, hlk, hin, hK, hC, hbs, hfr, hlo⟩ := F
  intro a1 a2 a3 a4 H locs cls hR hS hL
  unfold nznewa at hv
  cases hz : nzzero (newarray.typeOf t) with
  | none => rw [hz] at hv; cases hv
  | some z =>
    rw [hz] at hv
    dsimp only at hv
    split at hv
    · cases hv
    · rename_i hc
      cases hv
      have e1 : (nznew h n.toNatClampNeg (.inl (newarray.typeOf t, n.toNatClampNeg, z))).2.1.1 = h.2.1.1 + 1 := rfl
      have e2 : (nznew h n.toNatClampNeg (.inl (newarray.typeOf t, n.toNatClampNeg, z))).2.1.2 = h.2.1.2 + n.toNatClampNeg := rfl
      rw [e1] at hrc
      rw [e2] at hrs
      have hn0 : ¬ n < 0 := fun q => hc (Or.inl q)
      have hn1 : n.toNatClampNeg ≤ 100000 := Nat.not_lt.mp fun q => hc (Or.inr q)
      have hcb : componentBytes (newarray.typeOf t) ≤ 8 := by cases t <;> decide
      obtain ⟨hac, hz2⟩ := nz_arr hz cA b n.toNatClampNeg
      refine va_newaK hx hb (hts _ hac rfl) rfl hd rfl hn0 rfl (Nat.le_trans (Nat.mul_le_mul hn1 hcb) (by decide)) (by omega) (by omega) hR.1 fun H1 cB g1 z1 o1 hAr hNm => ?_
      have ec : cB = cA (newarray.typeOf t) := nz_arrc hz hK hNm
      subst ec
      have kk := k (Nat.le_succ_of_le a1) (Nat.le_trans a2 (Nat.le_add_right _ _)) a3 a4 H1 locs cls (hR.new (by rw [z1, hR.1]) (fun z hz => o1 z (by rw [← hR.1]; exact hz)) (by rw [hz2] at g1; exact g1)) ⟨by rw [z1]; have := hS.1; rw [hR.1] at this; omega, fun z y1 y2 => (o1 z (by rw [← hR.1]; exact Nat.lt_of_lt_of_le y1 hS.1)).trans (hS.2.1 z y1 y2), hS.2.2⟩ hL
      rw [e1, e2, show h.2.1.1 + 1 - kc = h.2.1.1 - kc + 1 by omega, show h.2.1.2 + n.toNatClampNeg - ks = h.2.1.2 - ks + n.toNatClampNeg by omega] at kk
      exact kk
end NZS
