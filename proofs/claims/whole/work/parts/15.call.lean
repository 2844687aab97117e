/-! SOUNDNESS, 6: a call, a return, the induction -/
theorem nzMs_14 : ∀ m ∈ nzMs, m.1 ≠ 14 := by
  intro m hm
  have h : (nzMs.map (fun m => m.1)).all (fun c => decide (c ≠ 14)) = true := by decide +kernel
  exact of_decide_eq_true (List.all_eq_true.mp h m.1 (List.mem_map.mpr ⟨m, hm, rfl⟩))
theorem nzTM_led {c i x : Nat} {y : nzM} (h : nzlk nzTM c i = some (8, x, y)) : c = 14 := by
  have hall : (List.range 21).all (fun c => decide (c = 14) || (nzTM.getD c []).all (fun q => decide (q.2.1 ≠ 8))) = true := by decide +kernel
  have hm : (i, 8, x, y) ∈ nzTM.getD c [] := by
    unfold nzlk at h
    generalize nzTM.getD c [] = l at h
    induction l with
    | nil => simp at h
    | cons a l ih =>
      obtain ⟨k, w⟩ := a
      rw [List.lookup_cons] at h
      by_cases hk : i = k
      · subst hk
        simp at h
        subst h
        exact List.mem_cons_self
      · rw [show (i == k) = false from by simpa using hk] at h
        exact List.mem_cons_of_mem _ (ih h)
  rcases Nat.lt_or_ge c 21 with hc | hc
  · have h2 := List.all_eq_true.mp hall c (List.mem_range.mpr hc)
    rw [Bool.or_eq_true] at h2
    rcases h2 with h2 | h2
    · exact of_decide_eq_true h2
    · exact absurd rfl (of_decide_eq_true (List.all_eq_true.mp h2 _ hm))
  · exfalso
    rw [List.getD_eq_getElem?_getD, List.getElem?_eq_none (show nzTM.length ≤ c from hc)] at hm
    cases hm
/-- what the tables say of a callee -/
def nzCal (c q kd n : Nat) (M1 : nzM) : Prop :=
  (if kd < 3 then Cond.methodLink (nzown c) q M1.2.1 ∈ lw_tbl else Cond.methodLinkNest (nzown c) q M1.2.1 (nzhost c) ∈ lw_tbl) ∧ Cond.initialized M1.2.1.cls ∈ lw_tbl ∧
  (if kd % 3 = 1 then Cond.static M1.2.1 ∈ lw_tbl else Cond.instanceMethod M1.2.1 ∈ lw_tbl) ∧ (kd % 3 = 0 → Cond.selects M1.2.1.cls M1.2.1 M1.2.1 ∈ lw_tbl) ∧ M1.2.2.2.2.2 = [1, 0, 2].getD (kd % 3) 3 ∧
  (if kd % 3 = 2 then M1.2.1.name = "<init>" ∧ M1.2.2.2.2.1 = none else M1.2.1.name ≠ "<init>") ∧ M1.2.1.cls = nzown M1.1 ∧ plainFor M1.2.1 = true ∧ M1.2.1.cls ≠ "java/lang/invoke/MethodHandle" ∧ M1.2.1.cls ≠ "java/lang/invoke/VarHandle" ∧
  (parseMethodDescriptor M1.2.1.desc).map (fun d => d.parameters.length) = some n ∧ M1.2.2.2.1 ≤ 40 ∧ M1 ∈ nzMs
theorem nzCal_of {c q kd n : Nat} {M1 : nzM} (h : nzlk nzTM c q = some (kd, n, M1)) (hk : kd < 6) : nzCal c q kd n M1 := by
  obtain ⟨ps, hp⟩ := nzall_of nzTM_all h
  simp only [nzokM, show ¬ kd = 6 by omega, show ¬ kd = 7 by omega, show ¬ kd = 8 by omega, show ¬ kd = 9 by omega, show ¬ kd = 10 by omega, show ¬ kd = 11 by omega, if_false, Bool.and_eq_true, decide_eq_true_eq, Bool.or_eq_true] at hp
  obtain ⟨⟨⟨⟨⟨⟨⟨⟨⟨⟨⟨⟨p1, p2⟩, p3⟩, p4⟩, p5⟩, p6⟩, p7⟩, p8⟩, p9⟩, p10⟩, p11⟩, p12⟩, p13⟩ := hp
  refine ⟨?_, nzat_mem p2, ?_, ?_, p5, ?_, p7, ?_, p10, p11, p12, p13, nzTM_in h⟩
  · by_cases h3 : kd < 3
    · rw [if_pos h3] at p1 ⊢; exact nzat_mem p1
    · rw [if_neg h3] at p1 ⊢; exact nzat_mem p1
  · by_cases h3 : kd % 3 = 1
    · rw [if_pos h3] at p3 ⊢; exact nzat_mem p3
    · rw [if_neg h3] at p3 ⊢; exact nzat_mem p3
  · intro h3; rw [if_pos h3] at p4; exact nzat_mem p4
  · by_cases h3 : kd % 3 = 2
    · rw [if_pos h3] at p6 ⊢
      simp only [Bool.and_eq_true, decide_eq_true_eq] at p6
      exact p6
    · rw [if_neg h3] at p6 ⊢
      exact of_decide_eq_true p6
  · rcases p9 with p9 | p9
    · exact plainFor_of_name p9
    · rw [p9]; exact nzpf_floorDiv
theorem nzgt_mem {w : Cond} (h : w ∈ lw_tbl) (hg : goodWord w = true) : w ∈ nzgt := List.mem_filter.mpr ⟨h, hg⟩
section NZC
variable {p : Program} {l : Launch} {e : Env} {R : Room} {s : State} {m : MethodId} {args : Array Value} {below : List Frame} {meth : Method} {c : Code} {Q : State → Prop} {D : va_G} {cA : FieldType → ClassId} {b : Nat} {ck : UInt32 → Value} {sc : Nat × (Nat → Int32)} {M : nzM} {kc ks : Nat}
theorem nzws_ok {M1 : nzM} (hM1 : M1 ∈ nzMs) (hts : ∀ w ∈ lw_tbl, goodWord w = true → w.before args s = true) : ∀ w ∈ nzwsM M1, ∀ (a' : Array Value) (U : State), s.WarmedH U.vm → w.before a' U = true := by
  intro w hw a' U hW
  rcases List.mem_cons.mp hw with rfl | hw
  · exact word_at hW (good_of_word rfl) (hts _ (nzMs_in hM1) rfl)
  · obtain ⟨h1, h2⟩ := List.mem_filter.mp hw
    exact word_at hW (good_of_word h2) (hts w h1 h2)
theorem nz_stk {as rest : List Value} : (as.reverse ++ rest).map (nzcv b ck) = (as.map (nzcv b ck)).reverse ++ rest.map (nzcv b ck) := by
  rw [List.map_append, List.map_reverse]
theorem nzs_call (F : nzFr p R s m args meth c D cA b ck sc M) {pc q kd n d : Nat} {i : Instr} {ls : nzL} {rest st1 as : List Value} {h : nzH} {M1 : nzM} {r : Option Value} {h1 : nzH} (hd : decode M.2.2.1 pc = .ok (i, 3)) (hq : nzlk nzTM M.1 q = some (kd, n, M1)) (hct : nzcat rest = true)
    (hi : (i = .invokevirtual q ∧ (kd = 0 ∨ kd = 3) ∧ as.length = n + 1) ∨ (i = .invokestatic q ∧ (kd = 1 ∨ kd = 4) ∧ as.length = n) ∨ (i = .invokespecial q ∧ (kd = 2 ∨ kd = 5) ∧ as.length = n + 1)) (hrc : nzrc M1 as h = true) (hM : nzMet l D cA b ck sc d M1 as h r h1) (hle : nzle h h1)
    (hfr2 : d + 2 ≤ R.frames) (hlo2 : 64 * (d + 2) ≤ R.locals) (hcl : h1.2.1.1 - kc ≤ R.cells) (hsl : h1.2.1.2 - ks ≤ R.slots) (hpu : nzpush M1 r rest = some st1) (k : nzOK p l e R s m args below meth c Q D cA b ck sc M kc ks (pc + 3) ls st1 h1) : nzOK p l e R s m args below meth c Q D cA b ck sc M kc ks pc ls (as.reverse ++ rest) h := by
  obtain ⟨hx, hb, hr, hml, hown, hts, hlk, hin, hK, hC, hbs, hfr, hlo⟩ := F
  intro a1 a2 a3 a4 H locs cls hR hS hL
  have hk6 : kd < 6 := by rcases hi with ⟨-, z, -⟩ | ⟨-, z, -⟩ | ⟨-, z, -⟩ <;> rcases z with rfl | rfl <;> omega
  obtain ⟨c1, c2, c3, c4, c5, c6, c7, c8, c9, c10, c11, c12, c13⟩ := nzCal_of hq hk6
  have hws := nzws_ok c13 hts
  have hsum := nzcat_map (b := b) hC.1 hct
  obtain ⟨-, le1, le2, le3⟩ := hle
  have hst1 : st1 = r.toList ++ rest := by
    unfold nzpush at hpu
    split at hpu <;> first | (cases hpu; rfl) | cases hpu
  have hlen : ∀ sig, parseMethodDescriptor M1.2.1.desc = some sig → n = sig.parameters.length := fun sig hs => by
    rw [hs] at c11
    exact (Option.some.inj c11).symm
  have hPc : ∀ U : State, U.heap = H → s.WarmedH U.vm → nzPc D cA b ck sc h as (as.map (nzcv b ck)).toArray U := fun U hU hW => ⟨rfl, by rw [hU]; exact hR, va_K.moved hW.alike hK, by rw [hU]; exact hC.to hW (fun a g1 g2 => hS.2.1 a g1 g2), by rw [hU]; exact Nat.le_trans hbs hS.1, a3⟩
  have hkk : ∀ (H1 : Heap) (locs1 : List Loc), nzRel D cA b ck h1 H1 → va_S (nzFA b) s.heap H1 locs1 → W p l e R s m args below meth c H1 locs1 (h.2.1.1 - kc + (h1.2.1.1 - h.2.1.1)) (h.2.1.2 - ks + (h1.2.1.2 - h.2.1.2)) Q (F0 m (pc + 3) cls ((r.map (nzcv b ck)).toList ++ rest.map (nzcv b ck))) := by
    intro H1 locs1 hR1 hS1
    have kk := k (Nat.le_trans a1 le1) (Nat.le_trans a2 le2) (le3.trans a3) a4 H1 locs1 cls hR1 hS1 hL
    rw [hst1, List.map_append] at kk
    rw [show h.2.1.1 - kc + (h1.2.1.1 - h.2.1.1) = h1.2.1.1 - kc by omega, show h.2.1.2 - ks + (h1.2.1.2 - h.2.1.2) = h1.2.1.2 - ks by omega]
    have e : (r.map (nzcv b ck)).toList = r.toList.map (nzcv b ck) := by cases r <;> rfl
    rw [e]
    exact kk
  have hCB1 : (nzRm d h h1).cells = h1.2.1.1 - h.2.1.1 := rfl
  have hCB2 : (nzRm d h h1).slots = h1.2.1.2 - h.2.1.2 := rfl
  have hCB3 : (nzRm d h h1).frames + 1 ≤ R.frames := hfr2
  have hCB4 : 8 + (M1.2.2.2.1 + 11) + (nzRm d h h1).locals ≤ R.locals := by show 8 + (M1.2.2.2.1 + 11) + 64 * (d + 1) ≤ R.locals; omega
  have hcin : Cond.code M1.2.1 M1.2.2.1 M1.2.2.2.1 M1.2.2.2.2.1 ∈ nzwsM M1 := List.mem_cons_self
  have hcode : (Cond.code M1.2.1 M1.2.2.1 M1.2.2.2.1 M1.2.2.2.2.1).before args s = true := hts _ (nzMs_in c13) rfl
  have hini : (Cond.initialized M1.2.1.cls).before args s = true := hts _ c2 rfl
  have hf : h.2.1.1 - kc + (h1.2.1.1 - h.2.1.1) ≤ R.cells ∧ h.2.1.2 - ks + (h1.2.1.2 - h.2.1.2) ≤ R.slots := ⟨by omega, by omega⟩
  have hsize : cls.size = M.2.2.2.1 := hL.1.trans a4
  have hSS : CallFix p m c M.2.2.1 M.2.2.2.1 s args nzgt (nzown M.1) := ⟨hx, hb, hml, hown, fun w hw => hts w (List.mem_filter.mp hw).1 (List.mem_filter.mp hw).2⟩
  rw [nz_stk]
  rcases hi with ⟨rfl, hkd, hal⟩ | ⟨rfl, hkd, hal⟩ | ⟨rfl, hkd, hal⟩
  · -- virtual
    have hm3 : kd % 3 = 0 := by rcases hkd with rfl | rfl <;> rfl
    rw [if_neg (by omega)] at c3
    rw [hm3] at c5
    have c5 : M1.2.2.2.2.2 = 1 := c5
    obtain ⟨rv, As, rfl⟩ : ∃ rv As, as = rv :: As := by
      cases as with
      | nil => simp at hal
      | cons x xs => exact ⟨x, xs, rfl⟩
    have hrecv : ∃ a, nzcv b ck rv = .ref a ∧ ∃ cellB : Cell, H[a]? = some cellB ∧ cellB.vm.isStatics = false ∧ s.vm.findClass M1.2.1.cls = some cellB.cls := by
      simp only [nzrc, c5] at hrc
      split at hrc
      · rename_i a xs e0
        cases e0
        split at hrc
        · rename_i c0 G hc
          have hc0 : c0 = M1.1 := of_decide_eq_true hrc
          obtain ⟨w, hw, c00, q1, q2, q3, -⟩ := hR.2 a _ hc
          obtain ⟨ty, hcl⟩ := nzCl_of hw
          refine ⟨b + a, rfl, c00, q1, by rw [q3]; rfl, ?_⟩
          rw [q2, c7, ← hc0, ← hcl.2.2.2.2.2.2.1]
          exact (hK.1 c0 _ hw).2.1
        · cases hrc
      · rename_i v xs e0
        cases e0
        rw [Bool.and_eq_true] at hrc
        have h18 : M1.1 = 18 := of_decide_eq_true hrc.1
        obtain ⟨j, z, tx, hz, ht, e1, e2⟩ := nzkS_at hrc.2
        obtain ⟨a, w, g1, -, -, g4, -⟩ := hC.2.2.2.2.2.2.1 j z tx hz ht
        rw [e1] at g1
        obtain ⟨c00, q1, q2, q3, -⟩ := g4.kept hS.2.1
        exact ⟨a, g1, c00, q1, q2, by rw [c7, h18]; exact q3⟩
      · cases hrc
    obtain ⟨a, hra, hcellB⟩ := hrecv
    rw [List.map_cons, hra] at hPc ⊢
    rw [List.reverse_cons, List.append_assoc]
    have hpv : PreV s H M1.2.1.cls a (nzPc D cA b ck sc h (rv :: As)) (As.map (nzcv b ck)) := ⟨nzPc_blind, hcellB, hPc⟩
    have hn : (As.map (nzcv b ck)).length = n := by rw [List.length_map]; simpa using hal
    rcases hkd with rfl | rfl
    · rw [if_pos (by omega)] at c1
      exact nz_cont (va_runV hSS hM ⟨⟨hCB1, hCB2, hCB3, hCB4, hws, hcin, hcode, hini, ⟨c9, c10⟩, hlen, hts _ c1 rfl⟩, hts _ c3 rfl, hts _ (c4 rfl) rfl⟩ hpv rfl hn hsize rfl (lv_room hsum) hd hf) hS hkk
    · rw [if_neg (by omega)] at c1
      exact nz_cont (va_runVN hSS hM ⟨⟨⟨hCB1, hCB2, hCB3, hCB4, hws, hcin⟩, hcode, hini, ⟨c9, c10⟩, hlen, va_Nw.use rfl (hC.2.2.2.2.2.2.2.1 _ c1 rfl)⟩, hts _ c3 rfl, hts _ (c4 rfl) rfl⟩ hpv rfl hn hsize rfl (lv_room hsum) hd hf) hS hkk
  · -- static
    have hm3 : kd % 3 = 1 := by rcases hkd with rfl | rfl <;> rfl
    rw [if_pos hm3] at c3
    have hps : PreS s H (nzPc D cA b ck sc h as) (as.map (nzcv b ck)) := ⟨nzPc_blind, hPc⟩
    have hn : (as.map (nzcv b ck)).length = n := by rw [List.length_map]; exact hal
    rcases hkd with rfl | rfl
    · rw [if_pos (by omega)] at c1
      exact nz_cont (va_runS hSS hM ⟨⟨hCB1, hCB2, hCB3, hCB4, hws, hcin, hcode, hini, ⟨c9, c10⟩, hlen, hts _ c1 rfl⟩, hts _ c3 rfl⟩ hps rfl hn hsize rfl (lv_room hsum) hd hf) hS hkk
    · rw [if_neg (by omega)] at c1
      exact nz_cont (va_runSN hSS hM ⟨⟨⟨hCB1, hCB2, hCB3, hCB4, hws, hcin⟩, hcode, hini, ⟨c9, c10⟩, hlen, va_Nw.use rfl (hC.2.2.2.2.2.2.2.1 _ c1 rfl)⟩, hts _ c3 rfl, trivial⟩ hps rfl hn hsize rfl (lv_room hsum) hd hf) hS hkk
  · -- a constructor
    have hm3 : kd % 3 = 2 := by rcases hkd with rfl | rfl <;> rfl
    rw [if_neg (by omega)] at c3
    rw [if_pos hm3] at c6
    rw [hm3] at c5
    have c5 : M1.2.2.2.2.2 = 2 := c5
    obtain ⟨c61, c62⟩ := c6
    obtain ⟨a, As, rfl⟩ : ∃ a As, as = .ref a :: As := by
      simp only [nzrc, c5] at hrc
      split at hrc
      · rename_i a xs; exact ⟨a, xs, rfl⟩
      · cases hrc
    rw [List.map_cons, show nzcv b ck (.ref a) = .ref (b + a) from rfl] at hPc ⊢
    rw [List.reverse_cons, List.append_assoc]
    have hps : PreS s H (nzPc D cA b ck sc h (.ref a :: As)) (.ref (b + a) :: As.map (nzcv b ck)) := ⟨nzPc_blind, hPc⟩
    have hn : (As.map (nzcv b ck)).length = n := by rw [List.length_map]; simpa using hal
    rw [c62] at hcin hcode
    rcases hkd with rfl | rfl
    · rw [if_pos (by omega)] at c1
      exact nz_cont (va_runI hSS hM ⟨⟨hCB1, hCB2, hCB3, hCB4, hws, hcin, hcode, hini, ⟨c9, c10⟩, hlen, hts _ c1 rfl⟩, c61, hts _ c3 rfl⟩ hps rfl hn hsize rfl (lv_room hsum) hd hf) hS hkk
    · rw [if_neg (by omega)] at c1
      exact nz_cont (va_runIN hSS hM ⟨⟨⟨hCB1, hCB2, hCB3, hCB4, hws, hcin⟩, hcode, hini, ⟨c9, c10⟩, hlen, va_Nw.use rfl (hC.2.2.2.2.2.2.2.1 _ c1 rfl)⟩, c61, hts _ c3 rfl⟩ hps rfl hn hsize rfl (lv_room hsum) hd hf) hS hkk
def nzRet (p : Program) (l : Launch) (e : Env) (R : Room) (s : State) (m : MethodId) (args : Array Value) (below : List Frame) (meth : Method) (c : Code) (Q : State → Prop) (D : va_G) (cA : FieldType → ClassId) (b : Nat) (ck : UInt32 → Value) (sc : Nat × (Nat → Int32)) (M : nzM) (kc ks : Nat) (r : Option Value) (h1 : nzH) : Prop :=
  ∀ (pc len : Nat) (i : Instr) (ls : nzL) (st : List Value) (h : nzH), decode M.2.2.1 pc = .ok (i, len) → nzil i len = true → nzact M pc len i ls st h = some (.inr (.inl (r, h1))) → nzOK p l e R s m args below meth c Q D cA b ck sc M kc ks pc ls st h
theorem nzs_ret (F : nzFr p R s m args meth c D cA b ck sc M) {r : Option Value} {h1 : nzH} : nzRet p l e R s m args below meth c (MQ below (nzQc D cA b ck r h1) args s (h1.2.1.1 - kc) (h1.2.1.2 - ks) (nzFA b)) D cA b ck sc M kc ks r h1 := by
  obtain ⟨hx, hb, hr, hml, hown, hts, hlk, hin, hK, hC, hbs, hfr, hlo⟩ := F
  intro pc len i ls st h hd hil ha a1 a2 a3 a4 H locs cls hR hS hL
  obtain ⟨rfl, hcase⟩ := nzact_ret ha
  rcases hcase with ⟨rfl, v, ty, rfl, rfl, hty, hn⟩ | ⟨rfl, v, rfl, rfl, hty⟩ | ⟨rfl, v, C, rfl, rfl, hty⟩ | ⟨rfl, rfl, rfl, hty⟩
  · have hl : len = 1 := of_decide_eq_true hil
    subst hl
    exact W.zret hx hb (hr.trans hty) hn (fun t ht _ => ⟨rfl, by rw [ht]; exact hR, hS.F ht⟩) hS.2.2 hd hlk
  · have hl : len = 1 := of_decide_eq_true hil
    subst hl
    exact W.lret hx hb (hr.trans hty) (fun t ht _ => ⟨rfl, by rw [ht]; exact hR, hS.F ht⟩) hS.2.2 hd hlk
  · have hl : len = 1 := of_decide_eq_true hil
    subst hl
    exact W.aret hx hb (hr.trans hty) (Or.inl ⟨C, rfl⟩) (Or.inr ⟨_, rfl⟩) (fun t ht _ => ⟨rfl, by rw [ht]; exact hR, hS.F ht⟩) hS.2.2 hd hlk
  · have hl : len = 1 := of_decide_eq_true hil
    subst hl
    exact W.vret hx hb (hr.trans hty) (fun t ht _ => ⟨rfl, by rw [ht]; exact hR, hS.F ht⟩) hS.2.2 hd hlk
end NZC
theorem nzsl_map {b : Nat} {ck : UInt32 → Value} (hck : ∀ k, ck k = .null ∨ ∃ a, ck k = .ref a) : ∀ as : List Value, (lg_sl (as.map (nzcv b ck))).length = (nzsl as).length ∧ ∀ (i : Nat) (v : Value), (nzsl as)[i]? = some (some v) → (lg_sl (as.map (nzcv b ck)))[i]? = some (.val (nzcv b ck v)) := by
  intro as
  induction as with
  | nil => exact ⟨rfl, fun i v h => by simp [nzsl] at h⟩
  | cons x xs ih =>
    obtain ⟨ih1, ih2⟩ := ih
    by_cases hx : x.category = 2
    · have e1 : nzsl (x :: xs) = some x :: none :: nzsl xs := by simp [nzsl, hx]
      have e2 : lg_sl ((x :: xs).map (nzcv b ck)) = .val (nzcv b ck x) :: .second :: lg_sl (xs.map (nzcv b ck)) := by simp [lg_sl, nzcv_cat hck, hx]
      rw [e1, e2]
      refine ⟨by simp [ih1], fun i v h => ?_⟩
      match i, h with
      | 0, h => cases h; rfl
      | 1, h => cases h
      | i + 2, h => exact ih2 i v h
    · have e1 : nzsl (x :: xs) = some x :: nzsl xs := by simp [nzsl, hx]
      have e2 : lg_sl ((x :: xs).map (nzcv b ck)) = .val (nzcv b ck x) :: lg_sl (xs.map (nzcv b ck)) := by simp [lg_sl, nzcv_cat hck, hx]
      rw [e1, e2]
      refine ⟨by simp [ih1], fun i v h => ?_⟩
      match i, h with
      | 0, h => cases h; rfl
      | i + 1, h => exact ih2 i v h
theorem nzLoc_entry {b : Nat} {ck : UInt32 → Value} (hck : ∀ k, ck k = .null ∨ ∃ a, ck k = .ref a) {M : nzM} {as : List Value} {l : nzL} (hl : nzin M as = some l) : l.length = M.2.2.2.1 ∧ nzLoc b ck l ((lg_sl (as.map (nzcv b ck)) ++ List.replicate (M.2.2.2.1 - (lg_sl (as.map (nzcv b ck))).length) Slot.unset).toArray) := by
  unfold nzin at hl
  split at hl
  · rename_i hle
    cases hl
    obtain ⟨h1, h2⟩ := nzsl_map (b := b) hck as
    have hen := lv_entry (as.map (nzcv b ck)) (n := M.2.2.2.1) (by rw [h1]; exact hle)
    have hlen : (nzsl as ++ List.replicate (M.2.2.2.1 - (nzsl as).length) none).length = M.2.2.2.1 := by rw [List.length_append, List.length_replicate]; omega
    refine ⟨hlen, hen.1.trans hlen.symm, hen.2.1, fun i v hv => ?_⟩
    have hv := nzlv_lt hv
    rw [List.getElem?_toArray]
    by_cases hi : i < (nzsl as).length
    · rw [List.getElem?_append_left hi] at hv
      rw [List.getElem?_append_left (by rw [h1]; exact hi)]
      exact h2 i v hv
    · rw [List.getElem?_append_right (by omega)] at hv
      have := List.eq_of_mem_replicate (List.mem_of_getElem? hv)
      cases this
  · cases hl
/-- THE SOUNDNESS of the abstract machine, a frame -/
theorem nz_main : ∀ (n d : Nat) (M : nzM) (pc : Nat) (ls : nzL) (st : List Value) (h : nzH) (rF : Option Value) (hF : nzH), nzgo n d M pc ls st h = some (rF, hF) →
    ∀ (p : Program) (l : Launch) (e : Env) (R : Room) (s : State) (m : MethodId) (args : Array Value) (below : List Frame) (meth : Method) (c : Code) (Q : State → Prop) (D : va_G) (cA : FieldType → ClassId) (b : Nat) (ck : UInt32 → Value) (sc : Nat × (Nat → Int32)) (kc ks : Nat),
    nzFr p R s m args meth c D cA b ck sc M → d + 1 ≤ R.frames → 64 * (d + 1) ≤ R.locals → hF.2.1.1 - kc ≤ R.cells → hF.2.1.2 - ks ≤ R.slots → nzLedOK p l e R s m args below meth c Q D cA b ck sc M kc ks → nzRet p l e R s m args below meth c Q D cA b ck sc M kc ks rF hF → nzOK p l e R s m args below meth c Q D cA b ck sc M kc ks pc ls st h := by
  intro n
  induction n with
  | zero => intro d M pc ls st h rF hF hr; simp [nzgo] at hr
  | succ n ih =>
    intro d M pc ls st h rF hF hr p l e R s m args below meth c Q D cA b ck sc kc ks F hfr hlo hcc hss hled hret
    rw [nzgo] at hr
    cases hd : decode M.2.2.1 pc with
    | error e => rw [hd] at hr; simp at hr
    | ok q =>
      obtain ⟨i, len⟩ := q
      rw [hd] at hr
      dsimp only at hr
      cases ha : nzstep M pc len i ls st h with
      | none => rw [ha] at hr; simp at hr
      | some a =>
        rw [ha] at hr
        simp only [Option.bind_some] at hr
        obtain ⟨hil, ha⟩ := nzstep_act ha
        match a, ha, hr with
        | .inl (pc', ls', st', h'), ha, hr =>
          have hg := nzgo_heap _ _ _ _ _ _ _ _ _ hr
          exact nz_inl F hled hd hil ha (by have := hg.2.1; omega) (by have := hg.2.2.1; omega) (ih _ _ _ _ _ _ _ _ hr p l e R s m args below meth c Q D cA b ck sc kc ks F hfr hlo hcc hss hled hret)
        | .inr (.inl (r', h')), ha, hr =>
          cases hr
          exact hret pc len i ls st h hd hil ha
        | .inr (.inr (M1, as, rest)), ha, hr =>
          obtain ⟨q, kd, nn, hq, rfl, hct, hi⟩ := nzact_call ha
          cases d with
          | zero => simp at hr
          | succ d' =>
            dsimp only at hr
            split at hr
            · rename_i hrc
              simp only [Option.bind_eq_some_iff] at hr
              obtain ⟨lc, hlc, ⟨rc, hc⟩, hcall, st', hpu, hk⟩ := hr
              have hlen3 : len = 3 := by rcases hi with ⟨rfl, -⟩ | ⟨rfl, -⟩ | ⟨rfl, -⟩ <;> exact of_decide_eq_true hil
              subst hlen3
              have hk6 : kd < 6 := by rcases hi with ⟨-, z, -⟩ | ⟨-, z, -⟩ | ⟨-, z, -⟩ <;> rcases z with rfl | rfl <;> omega
              obtain ⟨c1, c2, c3, c4, c5, c6, c7, c8, c9, c10, c11, c12, c13⟩ := nzCal_of hq hk6
              have hg := nzgo_heap _ _ _ _ _ _ _ _ _ hcall
              have hg2 := nzgo_heap _ _ _ _ _ _ _ _ _ hk
              have hmet : nzMet l D cA b ck sc d' M1 as h rc hc := by
                refine va_MetF (cc := M1.2.2.1) (maxL := M1.2.2.2.1) (ret := M1.2.2.2.2.1) c8 rfl ?_
                intro p2 e2 s2 m2 args2 below2 meth2 cd2 s₁ B hml hv
                obtain ⟨rfl, g1, g2, g3, g4, g5⟩ := hv
                have hts2 := atoms_spec (ws := nzwsM M1) B.pre
                obtain ⟨hlen, hloc⟩ := nzLoc_entry (b := b) g3.1 hlc
                have F2 : nzFr p2 (nzRm d' h hc) s2 m2 (as.map (nzcv b ck)).toArray meth2 cd2 D cA b ck sc M1 := ⟨B.exec, B.bytes, B.returns, hml, by rw [← c7]; exact findClass_of_methodNamed B.named, fun w hw hg => hts2 w (List.mem_cons_of_mem _ (nzgt_mem hw hg)), B.notSynchronized, fun hn => by rw [← hn]; exact (name_of_methodNamed B.named B.method).1, g2, g3, g4, by show 1 ≤ d' + 1; omega, by show 64 ≤ 64 * (d' + 1); omega⟩
                have hok := ih _ _ _ _ _ _ _ _ hcall p2 l e2 (nzRm d' h hc) s2 m2 (as.map (nzcv b ck)).toArray below2 meth2 cd2 (MQ below2 (nzQc D cA b ck rc hc) (as.map (nzcv b ck)).toArray s2 (hc.2.1.1 - h.2.1.1) (hc.2.1.2 - h.2.1.2) (nzFA b)) D cA b ck sc h.2.1.1 h.2.1.2 F2 (Nat.le_refl _) (Nat.le_refl _) (Nat.le_refl _) (Nat.le_refl _) (fun pc ls st h0 q x y st1 h1 _ hq8 => absurd (nzTM_led hq8) (nzMs_14 M1 c13)) (nzs_ret F2) (Nat.le_refl _) (Nat.le_refl _) g5 hlen s2.heap [] _ g1 va_S.rf hloc
                rw [Nat.sub_self, Nat.sub_self] at hok
                rw [lg_entry_eq]
                exact hok
              exact nzs_call F hd hq hct hi hrc hmet hg hfr hlo (by have := hg2.2.1; dsimp only at this; omega) (by have := hg2.2.2.1; dsimp only at this; omega) hpu (ih _ _ _ _ _ _ _ _ hk p l e R s m args below meth c Q D cA b ck sc kc ks F hfr hlo hcc hss hled hret)
            · cases hr
