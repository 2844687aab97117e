/-! NoonMeals.led that throws, and the law's own led that catches it -/
theorem nz_met {l : Launch} {D : va_G} {cA : FieldType → ClassId} {b : Nat} {ck : UInt32 → Value} {sc : Nat × (Nat → Int32)} {n d c0 q kd nn : Nat} {M1 : nzM} {as : List Value} {lc : nzL} {h : nzH} {rc : Option Value} {hc : nzH} (hq : nzlk nzTM c0 q = some (kd, nn, M1)) (hk6 : kd < 6) (hlc : nzin M1 as = some lc) (hcall : nzgo n d M1 0 lc [] h = some (rc, hc)) : nzMet l D cA b ck sc d M1 as h rc hc := by
  obtain ⟨c1, c2, c3, c4, c5, c6, c7, c8, c9, c10, c11, c12, c13⟩ := nzCal_of hq hk6
  refine va_MetF (cc := M1.2.2.1) (maxL := M1.2.2.2.1) (ret := M1.2.2.2.2.1) c8 rfl ?_
  intro p2 e2 s2 m2 args2 below2 meth2 cd2 s₁ B hml hv
  obtain ⟨rfl, g1, g2, g3, g4, g5⟩ := hv
  have hts2 := atoms_spec (ws := nzwsM M1) B.pre
  obtain ⟨hlen, hloc⟩ := nzLoc_entry (b := b) g3.1 hlc
  have F2 : nzFr p2 (nzRm d h hc) s2 m2 (as.map (nzcv b ck)).toArray meth2 cd2 D cA b ck sc M1 := ⟨B.exec, B.bytes, B.returns, hml, by rw [← c7]; exact findClass_of_methodNamed B.named, fun w hw hg => hts2 w (List.mem_cons_of_mem _ (nzgt_mem hw hg)), B.notSynchronized, fun hn => by rw [← hn]; exact (name_of_methodNamed B.named B.method).1, g2, g3, g4, by show 1 ≤ d + 1; omega, by show 64 ≤ 64 * (d + 1); omega⟩
  have hok := nz_main n d M1 0 lc [] h rc hc hcall p2 l e2 (nzRm d h hc) s2 m2 (as.map (nzcv b ck)).toArray below2 meth2 cd2 (MQ below2 (nzQc D cA b ck rc hc) (as.map (nzcv b ck)).toArray s2 (hc.2.1.1 - h.2.1.1) (hc.2.1.2 - h.2.1.2) (nzFA b)) D cA b ck sc h.2.1.1 h.2.1.2 F2 (Nat.le_refl _) (Nat.le_refl _) (Nat.le_refl _) (Nat.le_refl _) (fun pc ls st h0 q x y st1 h1 _ hq8 => absurd (nzTM_led hq8) (nzMs_14 M1 c13)) (nzs_ret F2) (Nat.le_refl _) (Nat.le_refl _) g5 hlen s2.heap [] _ g1 va_S.rf hloc
  rw [Nat.sub_self, Nat.sub_self] at hok
  rw [lg_entry_eq]
  exact hok
theorem nz_metI {l : Launch} {D : va_G} {cA : FieldType → ClassId} {b : Nat} {ck : UInt32 → Value} {sc : Nat × (Nat → Int32)} {d c0 q kd nn : Nat} {M1 : nzM} {as : List Value} {h h1 : nzH} {v : Int32} (hq : nzlk nzTM c0 q = some (kd, nn, M1)) (hk6 : kd < 6) (e : nzxI (d + 1) M1 as h = some (v, h1)) : nzrc M1 as h = true ∧ nzMet l D cA b ck sc d M1 as h (some (.int v)) h1 ∧ nzle h h1 := by
  unfold nzxI at e
  obtain ⟨⟨r, h2⟩, e1, e2⟩ := Option.bind_eq_some_iff.mp e
  have hr : r = some (.int v) ∧ h2 = h1 := by
    dsimp only at e2
    split at e2
    · rename_i w
      cases e2
      exact ⟨rfl, rfl⟩
    · cases e2
  obtain ⟨rfl, rfl⟩ := hr
  unfold nzcall at e1
  dsimp only at e1
  by_cases hrc : nzrc M1 as h = true
  · rw [if_pos hrc] at e1
    obtain ⟨lc, hlc, e3⟩ := Option.bind_eq_some_iff.mp e1
    obtain ⟨n, hn⟩ := nzr_some.mp e3
    exact ⟨hrc, nz_met hq hk6 hlc hn, nzgo_heap _ _ _ _ _ _ _ _ _ hn⟩
  · rw [if_neg hrc] at e1
    cases e1
def zX (b : Nat) (U : State) (H : Heap) : Prop := vx_Zq Bundle.tN "UNASSIGNED_STACK" Bundle.steD (nzFA b) U H ∧ vx_Zq Bundle.tN "SUPPRESSED_SENTINEL" Bundle.listD (nzFA b) U H ∧ (∃ a, vk_R "NoonMeals" 276 "no such house in a round" a U) ∧ va_Nw (.castable zNS zNS) U ∧ va_Nw (.declares (Bundle.initS zRT)) U ∧ va_Nw (.declares (Bundle.initS zEX)) U ∧ va_Nw (.declares (Bundle.initS Bundle.tN)) U
theorem zX.to {b : Nat} {U U1 : State} {H H1 : Heap} (h : zX b U H) (hW : U.WarmedH U1.vm) (hq : ∀ a : Nat, a < H.size → ¬ nzFA b a → H1[a]? = H[a]?) : zX b U1 H1 := by
  obtain ⟨h1, h2, ⟨a, h3⟩, h4, h5, h6, h7⟩ := h
  exact ⟨vx_Zq.moved hW.alike (h1.kept hq), vx_Zq.moved hW.alike (h2.kept hq), ⟨a, h3.warm hW⟩, va_Nw.warmC hW h4, va_Nw.warmD hW h5, va_Nw.warmD hW h6, va_Nw.warmD hW h7⟩
theorem zth_at {b : Nat} {s : State} {args : Array Value} (hts : ∀ w ∈ lw_tbl, goodWord w = true → w.before args s = true) (hX : zX b s s.heap) : ∀ w ∈ zth, w.before args s = true := by
  intro w hw
  obtain ⟨-, -, -, h4, h5, h6, h7⟩ := hX
  rcases zth_ok w hw with g | g | g | g | g
  · exact hts w (zth_in w hw) g
  · rw [g]; exact va_Nw.use rfl h4
  · rw [g]; exact va_Nw.use rfl h5
  · rw [g]; exact va_Nw.use rfl h6
  · rw [g]; exact va_Nw.use rfl h7
def zPX (D : va_G) (cA : FieldType → ClassId) (b : Nat) (ck : UInt32 → Value) (sc : Nat × (Nat → Int32)) (h : nzH) (as : List Value) : Array Value → State → Prop := fun v U => nzPc D cA b ck sc h as v U ∧ zX b U U.heap
theorem zPX_blind {D : va_G} {cA : FieldType → ClassId} {b : Nat} {ck : UInt32 → Value} {sc : Nat × (Nat → Int32)} {h : nzH} {as : List Value} : FrameBlind (zPX D cA b ck sc h as) := by
  intro a U g mk ⟨h1, h2⟩
  exact ⟨nzPc_blind a U g mk h1, h2.to (U1 := U.calling g mk a) (State.WarmedH.refl U) (fun _ _ _ => rfl)⟩
/-- one cell of 6 slots more, that nobody names -/
def zh6 (h : nzH) : nzH := (h.1 + 1, (h.2.1.1 + 1, h.2.1.2 + 6), h.2.2)
theorem zrel6 {D : va_G} {cA : FieldType → ClassId} {b : Nat} {ck : UInt32 → Value} {h : nzH} {H H1 : Heap} (hR : nzRel D cA b ck h H) (z : H1.size = H.size + 1) (k : ∀ q : Nat, q < H.size → H1[q]? = H[q]?) : nzRel D cA b ck (zh6 h) H1 :=
  ⟨by rw [z, hR.1]; show b + h.1 + 1 = b + (h.1 + 1); omega, fun i e' hi => (hR.2 i e' hi).kept (k _ (hR.2 i e' hi).lt)⟩
def zXC (D : va_G) (cA : FieldType → ClassId) (b : Nat) (ck : UInt32 → Value) (h : nzH) : String → State → State → Prop := fun E st t => E = zNS ∧ nzRel D cA b ck (zh6 h) t.heap ∧ va_F (nzFA b) st t
def zrmX : Room := { frames := 10, cells := 1, slots := 6, locals := 640 }
theorem zgR_fld {h : nzH} {a ci k v : Nat} (e : nzgR h a ci k = some v) : nzfld h a ci k = some (.ref v) := by
  unfold nzgR at e
  cases e1 : nzfld h a ci k with
  | none => rw [e1] at e; cases e
  | some w =>
    rw [e1] at e
    cases w with
    | ref x => cases e; rfl
    | _ => cases e
theorem zth_k : Cond.classLink "NoonMeals" 274 zNS ∈ lw_tbl := zthQ (ws := [.classLink "NoonMeals" 274 zNS]) (ps := [1064]) (by decide +kernel) _ List.mem_cons_self
theorem zth_i : Cond.initialized zNS ∈ lw_tbl := zthQ (ws := [.initialized zNS]) (ps := [26]) (by decide +kernel) _ List.mem_cons_self
/-- NoonMeals.led where no such house is: it throws -/
theorem zled_thr {l : Launch} (hl : l.stackTraces = false) {D : va_G} {cA : FieldType → ClassId} {b : Nat} {ck : UInt32 → Value} {sc : Nat × (Nat → Int32)} {h : nzH} {x : Nat} {car i : Int32} (e : nzledv h x car i = some none) :
    vx_Met l yX11_led (nzwsM nX11_led) zrmX (zPX D cA b ck sc h [.ref x, .int car, .int i]) (fun _ _ _ _ => False) (zXC D cA b ck h) 1 6 (nzFA b) := by
  refine vx_ofW (cc := cX11_led) (maxL := 4) (ret := some .int) (by decide +kernel) rfl ?_
  intro p e0 s m args below meth c s₁ B hml htab hv
  obtain ⟨⟨rfl, g1, g2, g3, g4, g5⟩, gX⟩ := hv
  have hts2 := atoms_spec (ws := nzwsM nX11_led) B.pre
  have hts : ∀ w ∈ lw_tbl, goodWord w = true → w.before _ s = true := fun w hw hg => hts2 w (List.mem_cons_of_mem _ (nzgt_mem hw hg))
  have hown : s.vm.findClass "NoonMeals" = some m.cls := findClass_of_methodNamed B.named
  have F : nzFr p zrmX s m (([.ref x, .int car, .int i] : List Value).map (nzcv b ck)).toArray meth c D cA b ck sc nX11_led := ⟨B.exec, B.bytes, B.returns, hml, hown, hts, B.notSynchronized, fun hn => absurd hn (by decide), g2, g3, g4, by decide, by decide⟩
  obtain ⟨hlen, hloc⟩ := nzLoc_entry (b := b) g3.1 (M := nX11_led) (as := [.ref x, .int car, .int i]) (l := [some (.ref x), some (.int car), some (.int i), none]) rfl
  obtain ⟨r, e1, -, e2, -⟩ := zhouse (d := 3) (by decide) e
  obtain ⟨q1, q2, q3⟩ := nz_metI (l := l) (D := D) (cA := cA) (b := b) (ck := ck) (sc := sc) lM_11_272 (by decide) e2
  have ok : nzOK p l e0 zrmX s m (([.ref x, .int car, .int i] : List Value).map (nzcv b ck)).toArray below meth c (vx_MQ below (fun _ _ _ _ => False) (zXC D cA b ck h) (([.ref x, .int car, .int i] : List Value).map (nzcv b ck)).toArray s 1 6 (nzFA b)) D cA b ck sc nX11_led h.2.1.1 h.2.1.2 0 [some (.ref x), some (.int car), some (.int i), none] [] h := by
    refine nzs_aload_n F dX11_led_0 rfl ?_
    refine nzs_getf F dX11_led_1 lF_11_19 (zgR_fld e1) ?_
    refine nzs_iload_n F dX11_led_4 rfl ?_
    refine nzs_iload_n F dX11_led_5 rfl ?_
    refine nzs_call F (as := [.ref r, .int car, .int i]) (rest := []) (st1 := [.int (-1)]) dX11_led_6 lM_11_272 rfl (.inl ⟨rfl, .inl rfl, rfl⟩) q1 q2 q3 (by decide) (by decide) (by rw [Nat.sub_self]; exact Nat.zero_le _) (by rw [Nat.sub_self]; exact Nat.zero_le _) rfl ?_
    refine nzs_istore_n F (lt := [some (.ref x), some (.int car), some (.int i), some (.int (-1))]) dX11_led_9 rfl ?_
    refine nzs_iload_n F dX11_led_10 rfl ?_
    refine nzs_iconst F dX11_led_11 ?_
    refine nzs_ic_ne F (t := 26) dX11_led_12 rfl (fun z => absurd (by decide) z) (fun _ => ?_)
    intro a1 a2 a3 a4 H locs cls hR hS hL
    obtain ⟨sa, hsa⟩ := gX.2.2.1
    have hb : c.code = cX11_led := B.bytes
    rw [Nat.sub_self, Nat.sub_self]
    exact zthrow (A := nzFA b) B.exec hl hown (hts _ zth_k rfl) (hts _ zth_i rfl) hsa (zth_at hts gX) gX.1 gX.2.1 hS (hL.1.trans (a4.trans hml.symm)) (by rw [hb]; exact dX11_led_15) (by rw [hb]; exact dX11_led_18) (by rw [hb]; exact dX11_led_19) (by rw [hb]; exact dX11_led_22) (by rw [hb]; exact dX11_led_25)
      (fun x hx => (htab x hx).elim) (by decide) (show 0 + 82 ≤ 640 by decide) (by decide) (by decide) B.notSynchronized
      (fun t _ t1 t2 => ⟨rfl, zrel6 hR t1 t2, ⟨Nat.le_trans hS.1 (by rw [t1]; exact Nat.le_succ _), fun q h1 h2 => (t2 q (Nat.lt_of_lt_of_le h1 hS.1)).trans (hS.2.1 q h1 h2)⟩⟩) hS.2.2 (Nat.le_refl _) (Nat.le_refl _)
  have w := ok (Nat.le_refl _) (Nat.le_refl _) g5 hlen s.heap [] _ g1 va_S.rf hloc
  rw [Nat.sub_self, Nat.sub_self] at w
  rw [lg_entry_eq]
  exact w
