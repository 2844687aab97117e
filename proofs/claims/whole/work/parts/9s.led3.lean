/-! the law's own led, and its call -/
def nL_led : nzM := (14, yL_led, cL_led, 5, some .int, 0)
def zhh : List (Nat × Nat × Nat × Nat) := [(0, 10, 13, 13)]
def zwsL : List Cond := Cond.codeWith yL_led cL_led 5 (some .int) zhh :: nzgt
def zrmL (h h1 : nzH) : Room := { frames := 20, cells := h1.2.1.1 - h.2.1.1, slots := h1.2.1.2 - h.2.1.2, locals := 1280 }
theorem zL_code : Cond.codeWith yL_led cL_led 5 (some .int) zhh ∈ lw_tbl := zthQ (ws := [.codeWith yL_led cL_led 5 (some .int) zhh]) (ps := [1054]) (by decide +kernel) _ List.mem_cons_self
theorem zL_link : Cond.methodLink "NoonMealsLaw" 162 yL_led ∈ lw_tbl := zthQ (ws := [.methodLink "NoonMealsLaw" 162 yL_led]) (ps := [1052]) (by decide +kernel) _ List.mem_cons_self
theorem zL_stat : Cond.static yL_led ∈ lw_tbl := zthQ (ws := [.static yL_led]) (ps := [1053]) (by decide +kernel) _ List.mem_cons_self
theorem zL_init : Cond.initialized "NoonMealsLaw" ∈ lw_tbl := zthQ (ws := [.initialized "NoonMealsLaw"]) (ps := [0]) (by decide +kernel) _ List.mem_cons_self
theorem zL_nse : Cond.classLink "NoonMealsLaw" 13 zNS ∈ lw_tbl := zthQ (ws := [.classLink "NoonMealsLaw" 13 zNS]) (ps := [1055]) (by decide +kernel) _ List.mem_cons_self
theorem zsL_at {h h1 : nzH} {out : Nat} {w : Int64} (e : nzsL h out 0 w = some h1) : ∃ (n : Nat) (f : Nat → Int64), nzcell h out = some (.inl (.long, n, .inr (.inl f))) ∧ ¬ ((0 : Int32) < 0 ∨ n ≤ (0 : Int32).toNatClampNeg) ∧ h1 = nzset h out (.inl (.long, n, .inr (.inl (vp_updL f (0 : Int32).toNatClampNeg w)))) := by
  unfold nzsL at e
  split at e
  · rename_i n f hc
    split at e
    · cases e
    · rename_i hi
      cases e
      exact ⟨n, f, hc, hi, rfl⟩
  · cases e
theorem zLloc {b : Nat} {ck : UInt32 → Value} {x out q9 : Nat} {car i : Int32} {cls1 : Array Slot} (h : lv_has cls1 5 ((4, .ref q9) :: (nzprs b ck [some (.ref x), some (.int car), some (.int i), some (.ref out), none]).filter (fun q => !(q.1 == 4) && !(q.1 + 1 == 4 && q.2.category == 2)))) : nzLoc b ck [some (.ref x), some (.int car), some (.int i), some (.ref out), none] cls1 := by
  refine ⟨h.1, h.2.1, fun j w hj => ?_⟩
  refine h.2.2 (j, nzcv b ck w) (List.mem_cons_of_mem _ (List.mem_filter.mpr ⟨nzprs_mem hj, ?_⟩))
  match j, hj with
  | 0, hj => rfl
  | 1, hj => rfl
  | 2, hj => rfl
  | 3, hj => cases hj; rfl
  | 4, hj => cases hj
  | j + 5, hj => simp [nzlv] at hj
theorem zLled {l : Launch} (hl : l.stackTraces = false) {D : va_G} {cA : FieldType → ClassId} {b : Nat} {ck : UInt32 → Value} {sc : Nat × (Nat → Int32)} {h h1 : nzH} {x out : Nat} {car i rv : Int32} {q : Option Int32} (e : nzledv h x car i = some q)
    (hq : (q = none ∧ rv = 1 ∧ h1 = zh6 h) ∨ ∃ v, q = some v ∧ rv = 0 ∧ nzsL h out 0 v.toInt64 = some h1) :
    vx_Met l yL_led zwsL (zrmL h h1) (zPX D cA b ck sc h [.ref x, .int car, .int i, .ref out]) (nzQc D cA b ck (some (.int rv)) h1) (fun _ _ _ => False) (h1.2.1.1 - h.2.1.1) (h1.2.1.2 - h.2.1.2) (nzFA b) := by
  refine vx_ofWH (cc := cL_led) (maxL := 5) (ret := some .int) (hh := zhh) (by decide +kernel) rfl ?_
  intro p e0 s m args below meth c s₁ B hml hv
  obtain ⟨⟨rfl, g1, g2, g3, g4, g5⟩, gX⟩ := hv
  have hts2 := atoms_spec (ws := zwsL) B.pre
  generalize hAS : (([.ref x, .int car, .int i, .ref out] : List Value).map (nzcv b ck)).toArray = AS at *
  have hts : ∀ w ∈ lw_tbl, goodWord w = true → w.before AS s = true := fun w hw hg => hts2 w (List.mem_cons_of_mem _ (nzgt_mem hw hg))
  have hown : s.vm.findClass "NoonMealsLaw" = some m.cls := findClass_of_methodNamed B.named
  have F : nzFr p (zrmL h h1) s m AS meth c D cA b ck sc nL_led := ⟨B.exec, B.bytes, B.returns, hml, hown, hts, B.notSynchronized, fun hn => absurd hn (by decide), g2, g3, g4, by show 1 ≤ 20; decide, by show 64 ≤ 1280; decide⟩
  have htab : c.exceptionTable.toList = tableOf zhh := vx_table (x := yL_led) B (hts2 _ List.mem_cons_self)
  obtain ⟨hlen, hloc⟩ := nzLoc_entry (b := b) g3.1 (M := nL_led) (as := [.ref x, .int car, .int i, .ref out]) (l := [some (.ref x), some (.int car), some (.int i), some (.ref out), none]) rfl
  have ret : nzRet p l e0 (zrmL h h1) s m AS below meth c (MQ below (nzQc D cA b ck (some (.int rv)) h1) AS s (h1.2.1.1 - h.2.1.1) (h1.2.1.2 - h.2.1.2) (nzFA b)) D cA b ck sc nL_led h.2.1.1 h.2.1.2 (some (.int rv)) h1 := nzs_ret F
  have up : ∀ {pc : Nat} {ls : nzL} {st : List Value} {h2 : nzH}, nzOK p l e0 (zrmL h h1) s m AS below meth c (MQ below (nzQc D cA b ck (some (.int rv)) h1) AS s (h1.2.1.1 - h.2.1.1) (h1.2.1.2 - h.2.1.2) (nzFA b)) D cA b ck sc nL_led h.2.1.1 h.2.1.2 pc ls st h2 → nzOK p l e0 (zrmL h h1) s m AS below meth c (vx_MQ below (nzQc D cA b ck (some (.int rv)) h1) (fun _ _ _ => False) AS s (h1.2.1.1 - h.2.1.1) (h1.2.1.2 - h.2.1.2) (nzFA b)) D cA b ck sc nL_led h.2.1.1 h.2.1.2 pc ls st h2 := fun k a1 a2 a3 a4 H locs cls hR hS hL => vx_ret (k a1 a2 a3 a4 H locs cls hR hS hL)
  obtain ⟨r, e1, -, e2, e3⟩ := zhouse (d := 3) (by decide) e
  obtain ⟨Fo, o, -⟩ := zgR_at e1
  have ok : nzOK p l e0 (zrmL h h1) s m AS below meth c (vx_MQ below (nzQc D cA b ck (some (.int rv)) h1) (fun _ _ _ => False) AS s (h1.2.1.1 - h.2.1.1) (h1.2.1.2 - h.2.1.2) (nzFA b)) D cA b ck sc nL_led h.2.1.1 h.2.1.2 0 [some (.ref x), some (.int car), some (.int i), some (.ref out), none] [] h := by
    refine nzs_aload_n F dL_led_0 rfl ?_
    refine nzs_iconst F dL_led_1 ?_
    rw [show Int32.ofInt 0 = 0 from rfl]
    refine nzs_aload_n F dL_led_2 rfl ?_
    refine nzs_iload_n F dL_led_3 rfl ?_
    refine nzs_iload_n F dL_led_4 rfl ?_
    rcases hq with ⟨rfl, rfl, rfl⟩ | ⟨v, rfl, rfl, hs⟩
    · -- it throws
      obtain ⟨c1, c2, c3, c4, c5, c6, c7, c8, c9, c10, c11, c12, c13⟩ := nzCal_of lM_14_7 (by decide)
      rw [if_pos (by decide)] at c1
      rw [if_neg (by decide)] at c3
      intro a1 a2 a3 a4 H locs cls hR hS hL
      have hsz : cls.size = 5 := hL.1
      have hPc : ∀ U : State, U.heap = H → s.WarmedH U.vm → zPX D cA b ck sc h [.ref x, .int car, .int i] (([.ref x, .int car, .int i] : List Value).map (nzcv b ck)).toArray U := fun U hU hW => ⟨⟨rfl, by rw [hU]; exact hR, va_K.moved hW.alike g2, by rw [hU]; exact g3.to hW (fun a z1 z2 => hS.2.1 a z1 z2), by rw [hU]; exact Nat.le_trans g4 hS.1, a3⟩, by rw [hU]; exact gX.to hW (fun a z1 z2 => hS.2.1 a z1 z2)⟩
      have hcB : ∃ cellB : Cell, H[b + x]? = some cellB ∧ cellB.vm.isStatics = false ∧ s.vm.findClass "NoonMeals" = some cellB.cls := by
        obtain ⟨w, hw, c00, q1, q2, q3, -⟩ := hR.2 x _ o
        obtain ⟨ty, hcl⟩ := nzCl_of hw
        refine ⟨c00, q1, by rw [q3]; rfl, ?_⟩
        have z := (g2.1 11 _ hw).2.1
        rw [hcl.2.2.2.2.2.2.1] at z
        rw [q2]
        exact z
      have k1 : h.2.1.1 - h.2.1.1 + 1 = (zh6 h).2.1.1 - h.2.1.1 := by show h.2.1.1 - h.2.1.1 + 1 = h.2.1.1 + 1 - h.2.1.1; omega
      have k2 : h.2.1.2 - h.2.1.2 + 6 = (zh6 h).2.1.2 - h.2.1.2 := by show h.2.1.2 - h.2.1.2 + 6 = h.2.1.2 + 6 - h.2.1.2; omega
      have hSS : CallFix p m c cL_led 5 s AS nzgt "NoonMealsLaw" := ⟨B.exec, B.bytes, hml, hown, fun w hw => hts w (List.mem_filter.mp hw).1 (List.mem_filter.mp hw).2⟩
      have hsum2 : (([.int 0, .ref (b + out)] : List Value).map fun v => v.category).sum ≤ 8 := (show 1 + (1 + 0) ≤ 8 by decide)
      have run := vx_runV (p := p) (l := l) (e := e0) (R := zrmL h (zh6 h)) (below := below) (meth := meth) (locs := locs) (cells := h.2.1.1 - h.2.1.1) (slots := h.2.1.2 - h.2.1.2) (bytes := cX11_led) (maxL := 4) (ret := some .int) (n := 2) (index := 7) (C := "NoonMeals") (b := b + x) (As := [.int car, .int i]) (rest := [.int 0, .ref (b + out)]) (g := F0 m 5 cls [.int i, .int car, .ref (b + x), .int 0, .ref (b + out)])
        hSS (zled_thr (l := l) hl (D := D) (cA := cA) (b := b) (ck := ck) (sc := sc) e) ⟨⟨rfl, rfl, by show 11 ≤ 20; decide, by show 8 + (4 + 11) + 640 ≤ 1280; decide, nzws_ok c13 hts, List.mem_cons_self, hts _ (nzMs_in c13) rfl, hts _ c2 rfl, ⟨c9, c10⟩, fun sig hsig => by rw [show parseMethodDescriptor nX11_led.2.1.desc = some sig from hsig] at c11; exact (Option.some.inj c11).symm, hts _ c1 rfl⟩, hts _ c3 rfl, hts _ (c4 rfl) rfl⟩ ⟨zPX_blind, hcB, hPc⟩ rfl rfl hsz rfl (lv_room hsum2) dL_led_5 ⟨Nat.le_of_eq k1, Nat.le_of_eq k2⟩
      intro T hT X
      rcases run T hT X with ⟨-, -, -, -, -, -, -, -, -, -, hno, -⟩ | ⟨q9, st₀, t, T', L, E, ce, h0, X', hL9, e5, e6, ⟨rfl, hrel, hF⟩, hce, hcv, hcl, st⟩
      · exact hno.elim
      · have hS1 : va_S (nzFA b) s.heap T'.heap (locs ++ L) := (vx_keep h0 e5 hS (fun _ _ z => z) (fun _ z => z) hL9 hF).2.2
        have hR1 : nzRel D cA b ck (zh6 h) T'.heap := by rw [e5]; exact hrel
        have kk : W p l e0 (zrmL h (zh6 h)) s m AS below meth c T'.heap (locs ++ L) (h.2.1.1 - h.2.1.1 + 1) (h.2.1.2 - h.2.1.2 + 6) (vx_MQ below (nzQc D cA b ck (some (.int 1)) (zh6 h)) (fun _ _ _ => False) AS s ((zh6 h).2.1.1 - h.2.1.1) ((zh6 h).2.1.2 - h.2.1.2) (nzFA b)) (F0 m 13 cls [.ref q9]) := by
          refine lv_astore B.exec B.bytes dL_led_13 hL.has (show 4 < 5 by decide) rfl (fun cls1 h9 => ?_)
          rw [k1, k2]
          exact up (nzs_iconst F dL_led_15 (ret 16 1 .ireturn _ [.int 1] (zh6 h) dL_led_16 rfl rfl)) (Nat.le_succ _) (Nat.le_add_right _ _) a3 a4 T'.heap (locs ++ L) cls1 hR1 hS1 (zLloc h9)
        have cat := vx_catch (p := p) (l := l) (e := e0) (pc := 5) (ls := cls) (rest := [.int 0, .ref (b + out)]) (name := zNS) hown [] ⟨0, 10, 13, 13⟩ [] htab (fun z hz => nomatch hz) (by decide) (by decide) (hts _ zL_nse rfl) (va_Nw.use rfl gX.2.2.2.1) (by rw [e5]; exact hce) hcv hcl kk
        obtain ⟨t2, z1, z2⟩ := cat T' rfl X'
        exact ⟨t2, st.trans z1, z2⟩
    · -- it answers
      have e4 : nzxI 4 nX11_led [.ref x, .int car, .int i] h = some (v, h) := by
        refine iX11_led (by decide) o ?_
        rw [eX11_led_0, e1, Option.bind_some, e2, Option.bind_some]
        exact (if_neg (e3 v rfl)).trans rfl
      obtain ⟨q1, q2, q3⟩ := nz_metI (l := l) (D := D) (cA := cA) (b := b) (ck := ck) (sc := sc) lM_14_7 (by decide) e4
      obtain ⟨n, f, hc, hi, rfl⟩ := zsL_at hs
      refine up ?_
      refine nzs_call F (as := [.ref x, .int car, .int i]) (rest := [.int 0, .ref out]) (st1 := [.int v, .int 0, .ref out]) dL_led_5 lM_14_7 rfl (.inl ⟨rfl, .inl rfl, rfl⟩) q1 q2 q3 (by show 3 + 2 ≤ 20; decide) (by show 64 * (3 + 2) ≤ 1280; decide) (by rw [Nat.sub_self]; exact Nat.zero_le _) (by rw [Nat.sub_self]; exact Nat.zero_le _) rfl ?_
      refine nzs_i2l F dL_led_8 ?_
      refine nzs_last F dL_led_9 hc hi ?_
      refine nzs_goto F (t := 17) dL_led_10 rfl ?_
      exact nzs_iconst F dL_led_17 (ret 18 1 .ireturn _ [.int 0] _ dL_led_18 rfl rfl)
  have w := ok (Nat.le_refl _) (Nat.le_refl _) g5 hlen s.heap [] _ g1 va_S.rf hloc
  rw [Nat.sub_self, Nat.sub_self] at w
  subst hAS
  rw [lg_entry_eq]
  exact w
theorem zTM8 {q x : Nat} {y : nzM} (h : nzlk nzTM 14 q = some (8, x, y)) : q = 162 := by
  have hall : (nzTM.getD 14 []).all (fun z => decide (z.2.1 ≠ 8) || decide (z.1 = 162)) = true := by decide +kernel
  have hm : (q, 8, x, y) ∈ nzTM.getD 14 [] := by
    unfold nzlk at h
    generalize nzTM.getD 14 [] = l at h
    induction l with
    | nil => simp at h
    | cons a l ih =>
      obtain ⟨k, w⟩ := a
      rw [List.lookup_cons] at h
      by_cases hk : q = k
      · subst hk
        simp at h
        subst h
        exact List.mem_cons_self
      · rw [show (q == k) = false from by simpa using hk] at h
        exact List.mem_cons_of_mem _ (ih h)
  have h2 := List.all_eq_true.mp hall _ hm
  rw [Bool.or_eq_true] at h2
  rcases h2 with h2 | h2
  · exact absurd rfl (of_decide_eq_true h2)
  · exact of_decide_eq_true h2
theorem nzled_at {h h1 : nzH} {st st1 : List Value} (e : nzled h st = some (st1, h1)) : ∃ (out x : Nat) (i car rv : Int32) (r : List Value) (q : Option Int32), st = .ref out :: .int i :: .int car :: .ref x :: r ∧ nzledv h x car i = some q ∧ st1 = .int rv :: r ∧ ((q = none ∧ rv = 1 ∧ h1 = zh6 h) ∨ ∃ v, q = some v ∧ rv = 0 ∧ nzsL h out 0 v.toInt64 = some h1) := by
  unfold nzled at e
  split at e
  · rename_i out i car x r
    obtain ⟨q, e1, e2⟩ := Option.bind_eq_some_iff.mp e
    cases q with
    | none => cases e2; exact ⟨out, x, i, car, 1, r, none, rfl, e1, rfl, .inl ⟨rfl, rfl, rfl⟩⟩
    | some v =>
      obtain ⟨h2, e3, e4⟩ := Option.bind_eq_some_iff.mp e2
      cases e4
      exact ⟨out, x, i, car, 0, r, some v, rfl, e1, rfl, .inr ⟨v, rfl, rfl, e3⟩⟩
  · cases e
theorem zledQ {p : Program} {l : Launch} {e : Env} {R : Room} {s : State} {m : MethodId} {args : Array Value} {below : List Frame} {meth : Method} {c : Code} {Q : State → Prop} {D : va_G} {cA : FieldType → ClassId} {b : Nat} {ck : UInt32 → Value} {sc : Nat × (Nat → Int32)} {kc ks : Nat} (hl : l.stackTraces = false) (F : nzFr p R s m args meth c D cA b ck sc nL_law) (hX : zX b s s.heap) (hRf : 21 ≤ R.frames) (hRl : 1304 ≤ R.locals) : nzLedOK p l e R s m args below meth c Q D cA b ck sc nL_law kc ks := by
  intro pc ls st h q x0 y st1 h1 hd hq hct hv hc hs k
  cases zTM8 hq
  obtain ⟨hx, hb, hr, hml, hown, hts, hlk, hin, hK, hC, hbs, hfr, hlo⟩ := F
  obtain ⟨out, x, i, car, rv, r, qv, rfl, e1, rfl, hq9⟩ := nzled_at hv
  have hle : nzle h h1 := by
    rcases hq9 with ⟨-, -, rfl⟩ | ⟨v, -, -, e3⟩
    · exact ⟨Nat.le_succ _, Nat.le_succ _, Nat.le_add_right _ _, rfl⟩
    · obtain ⟨n, f, -, -, rfl⟩ := zsL_at e3
      exact nzle_set _ _ _
  obtain ⟨-, le1, le2, le3⟩ := hle
  have hM := zLled (l := l) hl (D := D) (cA := cA) (b := b) (ck := ck) (sc := sc) e1 hq9
  have hct : nzcat r = true := hct
  have hsum := nzcat_map (b := b) hC.1 hct
  intro a1 a2 a3 a4 H locs cls hR hS hL
  have hsz : cls.size = 7 := hL.1.trans a4
  have hws : ∀ w ∈ zwsL, ∀ (a' : Array Value) (U : State), s.WarmedH U.vm → w.before a' U = true := by
    intro w hw a' U hW
    rcases List.mem_cons.mp hw with rfl | hw
    · exact word_at hW (good_of_word rfl) (hts _ zL_code rfl)
    · obtain ⟨h1, h2⟩ := List.mem_filter.mp hw
      exact word_at hW (good_of_word h2) (hts w h1 h2)
  have hPc : ∀ U : State, U.heap = H → s.WarmedH U.vm → zPX D cA b ck sc h [.ref x, .int car, .int i, .ref out] (([.ref x, .int car, .int i, .ref out] : List Value).map (nzcv b ck)).toArray U := fun U hU hW => ⟨⟨rfl, by rw [hU]; exact hR, va_K.moved hW.alike hK, by rw [hU]; exact hC.to hW (fun a z1 z2 => hS.2.1 a z1 z2), by rw [hU]; exact Nat.le_trans hbs hS.1, a3⟩, by rw [hU]; exact hX.to hW (fun a z1 z2 => hS.2.1 a z1 z2)⟩
  have hSS : CallFix p m c cL_law 7 s args nzgt "NoonMealsLaw" := ⟨hx, hb, hml, hown, fun w hw => hts w (List.mem_filter.mp hw).1 (List.mem_filter.mp hw).2⟩
  have hn4 : ∀ sig, parseMethodDescriptor yL_led.desc = some sig → 4 = sig.parameters.length := fun sig hsig => by
    have z : (parseMethodDescriptor yL_led.desc).map (fun d => d.parameters.length) = some 4 := by decide +kernel
    rw [hsig] at z
    exact (Option.some.inj z).symm
  have run := vx_runSX (p := p) (l := l) (e := e) (R := R) (below := below) (meth := meth) (locs := locs) (cells := h.2.1.1 - kc) (slots := h.2.1.2 - ks) (hh := zhh) (bytes := cL_led) (maxL := 5) (ret := some .int) (n := 4) (index := 162) (As := [.ref (b + x), .int car, .int i, .ref (b + out)]) (rest := r.map (nzcv b ck)) (g := F0 m pc cls (.ref (b + out) :: .int i :: .int car :: .ref (b + x) :: r.map (nzcv b ck)))
    hSS hM ⟨⟨rfl, rfl, hRf, hRl, hws, List.mem_cons_self⟩, hts _ zL_code rfl, hts _ zL_init rfl, ⟨by decide, by decide⟩, hn4, hts _ zL_link rfl, hts _ zL_stat rfl⟩ ⟨zPX_blind, hPc⟩ rfl rfl hsz rfl (lv_room hsum) hd ⟨by omega, by omega⟩
  intro T hT X
  rcases run T hT X with ⟨v, st₀, t, T', L, h0, X', hL9, e5, e6, ⟨hv9, hrel, hF⟩, st⟩ | ⟨q9, st₀, t, T', L, E, ce, h0, X', hL9, e5, e6, hno, -⟩
  · cases hv9
    have hS1 : va_S (nzFA b) s.heap T'.heap (locs ++ L) := (vx_keep h0 e5 hS (fun _ _ z => z) (fun _ z => z) hL9 hF).2.2
    have kk := k (Nat.le_trans a1 le1) (Nat.le_trans a2 le2) (le3.trans a3) a4 T'.heap (locs ++ L) cls (by rw [e5]; exact hrel) hS1 hL
    rw [show h1.2.1.1 - kc = h.2.1.1 - kc + (h1.2.1.1 - h.2.1.1) by omega, show h1.2.1.2 - ks = h.2.1.2 - ks + (h1.2.1.2 - h.2.1.2) by omega] at kk
    obtain ⟨t2, z1, z2⟩ := kk T' rfl X'
    exact ⟨t2, st t2 z1, z2⟩
  · exact hno.elim
/-- what the throw needs, at the law's entry -/
theorem zentX {s : State} {args : Array Value} (hts : ∀ w ∈ lw_tbl, w.before args s = true) (hs : ∀ w ∈ zflat, w.before args s = true) : zX s.heap.size s s.heap := by
  have hA : ∀ q : Nat, q < s.heap.size → ¬ nzFA s.heap.size q := fun q h => Nat.not_le.mpr h
  obtain ⟨a, c, cA, kA, q1, -⟩ := Cond.exactly_spec (args := args) (first := s) (o := none) (s := s) (idx := []) (t := .string "NoonMeals" 276) (cls := "java/lang/String") (hs (.exactly (.string "NoonMeals" 276) "java/lang/String") (by decide +kernel))
  have hi : (Cond.initialized Bundle.tN).before args s = true := hts _ (zthA_in _ (by decide +kernel))
  have hin : ∀ {ws : List Cond} {ps : List Nat}, ws = ps.filterMap (fun i => tables_1[i]?) → ∀ w ∈ ws, w.before args s = true := fun h w hw => hts w (zthQ h w hw)
  refine ⟨vx_Zqof (hin (ws := [.laysStatic Bundle.tN "UNASSIGNED_STACK" Bundle.steD]) (ps := [1091]) (by decide +kernel) _ List.mem_cons_self) hi (hs _ (by decide +kernel)) hA, vx_Zqof (hin (ws := [.laysStatic Bundle.tN "SUPPRESSED_SENTINEL" Bundle.listD]) (ps := [1093]) (by decide +kernel) _ List.mem_cons_self) hi (hs _ (by decide +kernel)) hA, ⟨a, vk_R.of (hin (ws := [.stringRef "NoonMeals" 276 "no such house in a round"]) (ps := [1103]) (by decide +kernel) _ List.mem_cons_self) q1⟩,
    va_Nw.of rfl (hts _ (zthO_in _ (by simp [zthO]))), va_Nw.of rfl (hts _ (zthP_in _ (by simp [zthP, Bundle.passSAtoms]))), va_Nw.of rfl (hts _ (zthC_in _ (by simp [zthC, Bundle.chainSAtoms, Bundle.passSAtoms]))), va_Nw.of rfl (hts _ (zthC_in _ (by simp [zthC, Bundle.chainSAtoms, Bundle.passSAtoms])))⟩
