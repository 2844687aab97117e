/-! NoSuchElementException(text), made and thrown: its constructor names its super's by the constant 13 (the ready rows take 7) -/
abbrev zNS : String := "java/util/NoSuchElementException"
abbrev zRT : String := "java/lang/RuntimeException"
abbrev zEX : String := "java/lang/Exception"
def zb13 : ByteArray := ⟨#[0x2a, 0x2b, 0xb7, 0x00, 0x0d, 0xb1]⟩
theorem zb13_0 : decode zb13 0 = .ok (.aload_n 0, 1) := by decide +kernel
theorem zb13_1 : decode zb13 1 = .ok (.aload_n 1, 1) := by decide +kernel
theorem zb13_2 : decode zb13 2 = .ok (.invokespecial 13, 3) := by decide +kernel
theorem zb13_5 : decode zb13 5 = .ok (.return_, 1) := by decide +kernel
def zthP : List Cond := Bundle.passSAtoms zNS zRT 13 zb13
def zthC : List Cond := Bundle.chainSAtoms zRT [zEX]
def zthO : List Cond := [.methodLink "NoonMeals" 278 (Bundle.initS zNS), .instantiable zNS 6, .castable zNS zNS, .selects zNS Bundle.tFill0 Bundle.tFill0, .selects zNS Bundle.tFill Bundle.tFill,
  .lays zNS Bundle.tN "cause" "Ljava/lang/Throwable;", .lays zNS Bundle.tN "stackTrace" Bundle.steD, .lays zNS Bundle.tN "suppressedExceptions" Bundle.listD, .lays zNS Bundle.tN "detailMessage" "Ljava/lang/String;",
  .fieldLink Bundle.tN 198 Bundle.tN "backtrace" "Ljava/lang/Object;", .lays Bundle.tN Bundle.tN "backtrace" "Ljava/lang/Object;", .lays zNS Bundle.tN "backtrace" "Ljava/lang/Object;"]
theorem zthQ {ws : List Cond} {ps : List Nat} (h : ws = ps.filterMap (fun i => tables_1[i]?)) : ∀ w ∈ ws, w ∈ lw_tbl := fun w hw => by
  rw [h] at hw
  obtain ⟨i, -, hi⟩ := List.mem_filterMap.mp hw
  exact List.mem_append_right _ (List.mem_of_getElem? hi)
theorem zthA_in : ∀ w ∈ Bundle.throwableAtoms.filter vx_no, w ∈ lw_tbl := zthQ (ps := [23, 1086, 1095, 1097, 1100, 1102, 1087, 1088, 33, 34, 1089, 1094, 1098, 1118, 1076, 1119, 1078, 1120, 1080, 1090, 1092, 1082]) (by decide +kernel)
theorem zthB_in : ∀ w ∈ Bundle.throwableSAtoms, w ∈ lw_tbl := zthQ (ps := [1114, 1115, 1117, 1082]) (by decide +kernel)
theorem zthP_in : ∀ w ∈ zthP, w ∈ lw_tbl := zthQ (ps := [1105, 1106, 1107, 1108, 1068]) (by decide +kernel)
theorem zthC_in : ∀ w ∈ zthC, w ∈ lw_tbl := zthQ (ps := [1108, 1109, 1110, 1111, 1070, 1111, 1112, 1113, 1114, 1072]) (by decide +kernel)
theorem zthO_in : ∀ w ∈ zthO, w ∈ lw_tbl := zthQ (ps := [1104, 1065, 1066, 1073, 1074, 1075, 1077, 1079, 1081, 1085, 1084, 1083]) (by decide +kernel)
/-- all the words of tables that the throw needs -/
def zth : List Cond := Bundle.throwableAtoms.filter vx_no ++ (Bundle.throwableSAtoms ++ (zthP ++ (zthC ++ zthO)))
theorem zth_in : ∀ w ∈ zth, w ∈ lw_tbl := List.forall_mem_append.mpr ⟨zthA_in, List.forall_mem_append.mpr ⟨zthB_in, List.forall_mem_append.mpr ⟨zthP_in, List.forall_mem_append.mpr ⟨zthC_in, zthO_in⟩⟩⟩⟩
/-- the words of them that go along by themselves; the others are four -/
theorem zth_ok : ∀ w ∈ zth, goodWord w = true ∨ w = .castable zNS zNS ∨ w = .declares (Bundle.initS zRT) ∨ w = .declares (Bundle.initS zEX) ∨ w = .declares (Bundle.initS Bundle.tN) := by decide +kernel
theorem zth_tab : ∀ w ∈ zth, w.onTables = true := by decide +kernel
section ZTH
variable {p : Program} {l : Launch} {e : Env} {R : Room} {s : State} {m : MethodId} {args : Array Value} {below : List Frame} {meth : Method} {c : Code} {cells slots : Nat}
set_option maxHeartbeats 1000000 in
theorem zctor {V : State} (X : Stand p l e R s m args below meth c V [] cells slots) (hexec : p.tables.exec = Jvm.exec) (htr : e.platform.stackTraces = false) (hown : s.vm.findClass "NoonMeals" = some m.cls)
    (hA : ∀ w ∈ Bundle.throwableAtoms, w.before args s = true) (hB : ∀ w ∈ Bundle.throwableSAtoms, w.before args s = true) (hP : ∀ w ∈ zthP, w.before args s = true) (hC : ∀ w ∈ zthC, w.before args s = true) (hO : ∀ w ∈ zthO, w.before args s = true)
    (hU : (Cond.isRef (.static Bundle.tN "UNASSIGNED_STACK" Bundle.steD)).before args s = true) (hN : (Cond.isRef (.static Bundle.tN "SUPPRESSED_SENTINEL" Bundle.listD)).before args s = true)
    {a : Addr} {cX : ClassId} {kX : Class} (fX : s.vm.findClass zNS = some cX) (kkX : s.vm.classes[cX]? = some kX) (hcell : V.heap[a]? = some (freshCell cX kX)) (hnew : s.heap.size ≤ a) {msg : Value} (hmsg : msg.isRef = true)
    {pc : Nat} {ls : Array Slot} (hsize : ls.size = c.maxLocals) {rest : List Value} (d1 : decode c.code pc = .ok (.invokespecial 278, 3)) (d2 : decode c.code (pc + 3) = .ok (.athrow, 1)) (hout : ∀ x ∈ c.exceptionTable.toList, covers x (pc + 3) = false)
    (hRf : 5 < R.frames) (hRl : (rest.map fun v => v.category).sum + 82 ≤ R.locals) (hlocks : meth.locks = false) :
    ∃ U : State, Steps p.tables e below (V.setTop (F0 m pc ls (msg :: .ref a :: .ref a :: rest))) U ∧ U.status = .running ∧ Ended U below (.threw a) ∧ s.WarmedH U.vm ∧ s.sameButNew ({ U with vm := s.vm } : State) [] cells slots ∧ ∃ ce, U.heap[a]? = some ce ∧ ce.vm = .none ∧ s.vm.findClass zNS = some ce.cls := by
  have hpl : e.platform.magicAccessors = ({} : Platform).magicAccessors := by rw [X.admits.platform]
  obtain ⟨T, Z0, L, -, Y⟩ := ThrowableC.of_atoms (args := args) (by rw [X.admits.platform]) (by rw [X.admits.platform]) hpl hA
  obtain ⟨Z, M, LZ, LM, nZ⟩ := Init0T.ofS_atoms (args := args) hpl L Y hB
  -- the three constructors above Throwable's
  obtain ⟨P1, L1, n1, n2⟩ := PassC.ofS_atoms (args := args) (s := s) hpl (X := zNS) (Y := zRT) (by decide +kernel) (by decide) zb13_0 zb13_1 zb13_2 zb13_5 hP
  obtain ⟨P2, Ps, hlen, L2, hL, n3, k2, k3⟩ := Bundle.chainS (args := args) hpl nZ [zEX] zRT (by decide +kernel) (fun n hn => by rw [List.mem_singleton.mp hn]; decide +kernel) hC
  have hsup : P1.sup = P2.m := Option.some.inj (n2.symm.trans n3)
  have hlen : Ps.length = 1 := hlen
  have fP : s.vm.findClass zNS = some P1.m.cls := findClass_of_methodNamed n1
  cases Option.some.inj (fX.symm.trans fP)
  obtain ⟨c1, k1, g1, hk, hord, -⟩ := Cond.instantiable_spec (hO (.instantiable zNS 6) (by simp [zthO]))
  cases Option.some.inj (g1.symm.trans fP)
  cases Option.some.inj (kkX.symm.trans hk)
  have hsel : ∀ (x : MethodName) (r : MethodId), Cond.selects zNS x x ∈ zthO → s.methodNamed? x = some r → (x.cls ≠ "java/lang/invoke/MethodHandle" ∧ x.cls ≠ "java/lang/invoke/VarHandle") → selectMethod e.platform s.vm P1.m.cls r = .method r := by
    intro x r hw hx hy
    obtain ⟨c2, r2, m2, q1, q2, q3, q4, -⟩ := Cond.selects_spec (hO _ hw)
    cases Option.some.inj (q1.symm.trans fP)
    cases Option.some.inj (q2.symm.trans (State.methodFound?_of_named hx hy))
    cases Option.some.inj (q3.symm.trans hx)
    rw [Launch.admits_selectMethod X.admits]; exact q4
  -- the statics of Throwable
  obtain ⟨cS0, s1, s2⟩ := Y.statics
  obtain ⟨u0, v1⟩ := Cond.staticRefV Y.unassigned L.unassignedStatic L.statics s1 s2 hU
  obtain ⟨sen, v2⟩ := Cond.staticRefV Y.sentinel L.sentinelStatic L.statics s1 s2 hN
  obtain ⟨cS, s3, s4, -, s5⟩ := X.same.2.2.2.2.2 T.aS cS0 s1
  have s3 : V.heap[T.aS]? = some cS := s3
  have s6 : cS.vm ≠ .unknown := fun z => by
    rw [s4] at z
    rw [show cS0.vm = .unknown from z] at s2
    cases s2
  have s7 : T.aS ≠ a := Nat.ne_of_lt (Nat.lt_of_lt_of_le (Array.getElem?_eq_some_iff.mp s1).1 hnew)
  -- the fields
  obtain ⟨iM, fM⟩ := Y.msg
  obtain ⟨cb, ib, fB, b1, b2, b3, b4, -, b5, b6, b7⟩ := Cond.ownField (t := .object "java/lang/Object") Y.found L.cls (by decide +kernel) (hO (.fieldLink Bundle.tN 198 Bundle.tN "backtrace" "Ljava/lang/Object;") (by simp [zthO])) (hO (.lays Bundle.tN Bundle.tN "backtrace" "Ljava/lang/Object;") (by simp [zthO])) e.platform hpl
  obtain ⟨tC, dC, eC, oC⟩ := Cond.laysAt fP hk Y.cause (hO (.lays zNS Bundle.tN "cause" "Ljava/lang/Throwable;") (by simp [zthO]))
  obtain ⟨tS, dS, eS, oS⟩ := Cond.laysAt fP hk Y.stack (hO (.lays zNS Bundle.tN "stackTrace" Bundle.steD) (by simp [zthO]))
  obtain ⟨tP, dP, eP, oP⟩ := Cond.laysAt fP hk Y.supp (hO (.lays zNS Bundle.tN "suppressedExceptions" Bundle.listD) (by simp [zthO]))
  obtain ⟨tM, -⟩ := Cond.laysAt fP hk fM (hO (.lays zNS Bundle.tN "detailMessage" "Ljava/lang/String;") (by simp [zthO]))
  obtain ⟨tB, dB, eB, oB⟩ := Cond.laysAt fP hk b7 (hO (.lays zNS Bundle.tN "backtrace" "Ljava/lang/Object;") (by simp [zthO]))
  have w1 := Cond.laysApart eB eC oB oC (by rw [b5, Y.causeName]; decide)
  have w2 := Cond.laysApart eB eS oB oS (by rw [b5, Y.stackName]; decide)
  have w3 := Cond.laysApart eB eP oB oP (by rw [b5, Y.suppName]; decide)
  have hnull : ((preparedCellV T.toThrowableT (freshCell P1.m.cls kX) a u0 sen).withEntry V.cur).slots[fB.slot]? = some .null := by
    have q := fresh_default (c := P1.m.cls) tB
    rw [b6] at q
    simpa [preparedCellV, Cell.setSlot, Cell.withEntry, Array.getElem?_setIfInBounds, w1, w2, w3, w1.symm, w2.symm, w3.symm, defaultValue] using q
  -- the constructor is entered, run, left; then athrow
  obtain ⟨tm, mC, cC, kC, vm1, x1, -, -, -, -, -, -, -, x2, st1⟩ := Steps.initColdS (tb := p.tables) (e := e) (below := below) (s := s) (U := V) X.here hexec X.warmed hpl hown (t := Bundle.initS zNS) rfl rfl (by decide)
    (hO (.methodLink "NoonMeals" 278 (Bundle.initS zNS)) (by simp [zthO])) (hP (.instanceMethod (Bundle.initS zNS)) (by simp [zthP, Bundle.passSAtoms])) (bytes := zb13) (maxL := 2) (hP (.code (Bundle.initS zNS) zb13 2 none) (by simp [zthP, Bundle.passSAtoms]))
    (f := F0 m pc ls (msg :: .ref a :: .ref a :: rest)) rfl (a := a) (msg := msg) (rest := .ref a :: rest) rfl d1
  cases Option.some.inj (x1.symm.trans n1)
  have X1 := X.noted x2
  obtain ⟨vm2, X2, st2⟩ := X1.ctorMessageOffV hexec (g := F0 m pc ls (.ref a :: rest)) rfl hsize T L Z LZ M LM (P1 :: P2 :: Ps)
    (fun P hP => by
      rcases List.mem_cons.mp hP with rfl | hP
      · exact L1
      · rcases List.mem_cons.mp hP with rfl | hP
        · exact L2
        · exact hL P hP) ⟨hsup, k2, k3⟩ (u0 := u0) (sen := sen) (self := a) hmsg (cell := freshCell P1.m.cls kX) (cellS := cS)
    hcell (fun _ => by simp) (by simp) rfl rfl (hsel _ _ (by simp [zthO]) Y.fill0 (by decide)) (hsel _ _ (by simp [zthO]) Y.fill (by decide)) s3 s7 s6 (by rw [s5 _ (by simp)]; exact v1) (by rw [s5 _ (by simp)]; exact v2)
    (Takes.of_laid hk hord tC (by rw [Y.causeType]; rfl)) (Takes.of_laid hk hord tS (by rw [Y.stackType]; exact fits_refV_array _ u0)) (Takes.of_laid hk hord tP (by rw [Y.suppType]; exact fits_refV_object _ sen))
    (Takes.of_laid hk hord tM (by rw [Y.msgType]; exact fits_refV_object _ ⟨msg, hmsg⟩)) Y.objLocals ⟨{ ci198 := cb, i198 := ib, fBack := fB }, ⟨b1, b2, b3, b4⟩, hnull, fun _ _ => rfl⟩ htr [] d1
    (by simp only [List.length_cons, hlen]; omega) (by simp only [List.length_cons, hlen, List.map_cons, List.sum_cons, show (Value.ref a).category = 1 from rfl]; omega)
  obtain ⟨y1, y2, y3, y4, y5⟩ := X2.athrowLeaves hexec (g := F0 m (pc + 3) ls (.ref a :: rest)) rfl rfl rfl hout (a := a) (rest := rest) rfl d2 hlocks
  have hlt : a < ((V.setVm vm1).setVm vm2).heap.size := (Array.getElem?_eq_some_iff.mp hcell).1
  refine ⟨_, st1 _ (fun acts => ?_), y2, y3, y4, y5.weaken (fun y hy hy2 => ?_) (Nat.le_refl _) (Nat.le_refl _), _, heapAt_setCell_self (s := (V.setVm vm1).setVm vm2) (plainBareV T.toThrowableT (freshCell P1.m.cls kX) a u0 sen msg) hlt, rfl, fP⟩
  · rw [doInvoke_state]
    exact st2 _ y1
  · exfalso
    have hb : y.base = a := by
      simp only [List.nil_append, List.mem_cons, List.not_mem_nil, or_false] at hy
      rcases hy with rfl | rfl | rfl | rfl | rfl <;> rfl
    rw [hb] at hy2
    exact Nat.not_lt.mpr hnew hy2
theorem zthrow {H : Heap} {locs : List Loc} {mc ms sa pc : Nat} {free A : Nat → Prop} {Qc : Array Value → State → Outcome → State → Prop} {XC : String → State → State → Prop} {ls : Array Slot} {rest : List Value} {text : String} (hexec : p.tables.exec = Jvm.exec) (hl : l.stackTraces = false) (hown : s.vm.findClass "NoonMeals" = some m.cls)
    (hk : (Cond.classLink "NoonMeals" 274 zNS).before args s = true) (hini : (Cond.initialized zNS).before args s = true) (hstr : vk_R "NoonMeals" 276 text sa s) (hat : ∀ w ∈ zth, w.before args s = true)
    (hU : vx_Zq Bundle.tN "UNASSIGNED_STACK" Bundle.steD A s s.heap) (hN : vx_Zq Bundle.tN "SUPPRESSED_SENTINEL" Bundle.listD A s s.heap) (hS : va_S A s.heap H locs) (hsize : ls.size = c.maxLocals)
    (d0 : decode c.code pc = .ok (.new 274, 3)) (d3 : decode c.code (pc + 3) = .ok (.dup, 1)) (d4 : decode c.code (pc + 4) = .ok (.ldc_w 276, 3)) (d7 : decode c.code (pc + 7) = .ok (.invokespecial 278, 3)) (d10 : decode c.code (pc + 10) = .ok (.athrow, 1))
    (hout : ∀ x ∈ c.exceptionTable.toList, covers x (pc + 10) = false) (hRf : 5 < R.frames) (hRl : (rest.map fun v => v.category).sum + 82 ≤ R.locals) (hRc : cells + 1 ≤ R.cells) (hRs : slots + 6 ≤ R.slots) (hlocks : meth.locks = false)
    (hx : ∀ t : State, s.vm.Alike t.vm → t.heap.size = H.size + 1 → (∀ q : Nat, q < H.size → t.heap[q]? = H[q]?) → XC zNS s t) (hf : ∀ z ∈ locs, free z.base) (hc : cells + 1 ≤ mc) (hs : slots + 6 ≤ ms) :
    W p l e R s m args below meth c H locs cells slots (vx_MQ below Qc XC args s mc ms free) (F0 m pc ls rest) := by
  intro T hT X
  have htr : e.platform.stackTraces = false := (show e.platform.stackTraces = l.stackTraces by rw [X.admits.platform]).trans hl
  have Y := vx_rebase X (R' := { frames := R.frames, locals := R.locals, cells := 1, slots := 6 }) (Nat.le_refl _) (Nat.le_refl _) hRc hRs
  obtain ⟨s', hA⟩ : ∃ z, z = (T.setVm s.vm).setFrames (.invoking m args :: below) := ⟨_, rfl⟩
  rw [← hA] at Y
  have hvm : s'.vm = s.vm := by rw [hA]; rfl
  have hhp : s'.heap = H := by rw [hA]; exact hT
  have hW0 : s.WarmedH s'.vm := by rw [hvm]; exact State.WarmedH.refl s
  have hat' : ∀ w ∈ zth, w.before args s' = true := fun w hw => va_tabs (zth_tab w hw) hvm.symm (hat w hw)
  obtain ⟨aA, aB⟩ := List.forall_mem_append.mp hat'
  obtain ⟨aB, aP⟩ := List.forall_mem_append.mp aB
  obtain ⟨aP, aC⟩ := List.forall_mem_append.mp aP
  obtain ⟨aC, aO⟩ := List.forall_mem_append.mp aC
  have hk' : (Cond.classLink "NoonMeals" 274 zNS).before args s' = true := va_tabs rfl hvm.symm hk
  have hini' : (Cond.initialized zNS).before args s' = true := va_tabs rfl hvm.symm hini
  have hU' : vx_Zq Bundle.tN "UNASSIGNED_STACK" Bundle.steD A s' s'.heap := by rw [hhp]; exact vx_Zq.moved hW0.alike (hU.kept hS.2.1)
  have hN' : vx_Zq Bundle.tN "SUPPRESSED_SENTINEL" Bundle.listD A s' s'.heap := by rw [hhp]; exact vx_Zq.moved hW0.alike (hN.kept hS.2.1)
  have hown' : s'.vm.findClass "NoonMeals" = some m.cls := by rw [hvm]; exact hown
  obtain ⟨vm₁, cX, kX, hfX, hkX, -, -, X₁, st1⟩ := Y.newCold hexec (own := "NoonMeals") (C := zNS) (index := 274) (n := 6) hown' hk' (aO (.instantiable zNS 6) (by simp [zthO])) hini'
    (g := F0 m pc ls rest) rfl d0 (Nat.le_refl _) (Nat.le_refl _)
  generalize hT1 : (T.setVm vm₁).pushCell { cls := cX, slots := kX.instanceTypes.map defaultValue, vm := .none } = T1 at X₁ st1
  have hcellA : T1.heap[T.heap.size]? = some (freshCell cX kX) := by rw [← hT1]; exact State.heap_pushCell_size _ _
  have hstr' : vk_R "NoonMeals" 276 text sa s' := vk_R.warm hW0 hstr
  obtain ⟨U, hsteps, hrun, hend, hW, hsame, ce, hce, hcv, hcls⟩ := zctor X₁ hexec htr hown' (vx_own aA (vx_isRefq hU'.1) (vx_isRefq hN'.1) hU'.2.word hN'.2.word) aB aP aC aO (vx_isRefq hU'.1) (vx_isRefq hN'.1) hfX hkX hcellA (by rw [hhp, hT]; exact Nat.le_refl _) (msg := .ref sa) rfl
    (pc := pc + 7) (ls := ls) hsize (rest := rest) d7 d10 hout hRf hRl hlocks
  obtain ⟨f1, f2⟩ := vx_frame hsame
  have f3 : U.heap.size ≤ s'.heap.size + (0 + 1) := hsame.2.2.1
  have f4 : T.heap.size < U.heap.size := (Array.getElem?_eq_some_iff.mp hce).1
  rw [hhp] at f1 f2 f3
  rw [hT] at f4
  have hWs : s.WarmedH U.vm := State.WarmedH.trans hW0 hW
  have hcl : s.vm.findClass zNS = some ce.cls := by rw [hvm] at hcls; exact hcls
  have hall : s.sameButNew ({ U with vm := s.vm } : State) locs mc ms := by
    subst hA
    obtain ⟨e1, e2⟩ := hsame
    rw [State.setFrames_setFrames] at e1
    have h2 : (T.setVm s.vm).sameButNew ({ U with vm := s.vm } : State) [] (0 + 1) (0 + 6) := ⟨e1, e2⟩
    have h3 := X.same.trans h2
    rw [List.append_nil] at h3
    exact h3.mono hc hs
  refine ⟨U, ?_, .threw T.heap.size, hrun, hend, Or.inr ⟨T.heap.size, rfl, zNS, ce, locs, hx U hWs.alike (by omega) (fun q hq => f2 q hq (fun z hz => nomatch hz)), hce, hcv, hcl, hWs, hall, hf⟩⟩
  refine st1 _ ?_
  show Steps p.tables e below (T1.setTop { method := m, pc := pc + 3, locals := ls, stack := .ref T.heap.size :: rest, locked := none }) _
  jvm_step X₁.here [X₁.here.top, hexec, d3, Value.category]
  exact X₁.ldcStringW hexec (own := "NoonMeals") (text := text) (index := 276) (a := sa) hown' hstr'.1 hstr'.2
    (g := { method := m, pc := pc + 4, locals := ls, stack := .ref T.heap.size :: .ref T.heap.size :: rest, locked := none }) rfl d4 _ hsteps
end ZTH
