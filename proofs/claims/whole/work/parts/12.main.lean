/-! SOUNDNESS, 3: new int[n][k], calls, returns, the whole -/
theorem nz_outer (c : ClassId) (N h0 : Nat) : ∀ i : Nat, Jvm.Free.Multi.outerC c N h0 i = arrV c N (fun j => va_rf (if j < i then some (h0 + 1 + j) else none)) := by
  intro i
  induction i with
  | zero =>
    show ({ cls := c, slots := Array.replicate N .null, vm := .none } : Cell) = _
    rw [arrV_new]
    refine congrArg (arrV c N) (funext fun j => ?_)
    simp [va_rf]
  | succ i ih =>
    show (Jvm.Free.Multi.outerC c N h0 i).setSlot i (.ref (h0 + 1 + i)) = _
    rw [ih, arrV_store]
    refine congrArg (arrV c N) (funext fun j => ?_)
    unfold updV
    by_cases e : j = i
    · subst e
      simp [va_rf]
    · by_cases h : j < i
      · simp [e, h, Nat.lt_succ_of_lt h]
      · simp [e, h, show ¬ j < i + 1 by omega]
theorem nzrows_1 (h : nzH) (k : Nat) : ∀ n, (nzrows h k n).1 = h.1 + n ∧ (nzrows h k n).2.1.1 = h.2.1.1 + n ∧ (nzrows h k n).2.1.2 = h.2.1.2 + n * k ∧ (nzrows h k n).2.2.2 = h.2.2.2 := by
  intro n
  induction n with
  | zero => exact ⟨rfl, rfl, by rw [Nat.zero_mul]; rfl, rfl⟩
  | succ n ih =>
    obtain ⟨a, b, c, d⟩ := ih
    refine ⟨?_, ?_, ?_, d⟩
    · show (nzrows h k n).1 + 1 = _; rw [a]; rfl
    · show (nzrows h k n).2.1.1 + 1 = _; rw [b]; rfl
    · show (nzrows h k n).2.1.2 + k = _; rw [c, Nat.succ_mul]; omega
theorem nzrows_cell (h : nzH) (k : Nat) : ∀ n i, nzcell (nzrows h k n) i = if h.1 ≤ i ∧ i < h.1 + n then some (.inl (.int, k, .inl (fun _ => 0))) else nzcell h i := by
  intro n
  induction n with
  | zero => intro i; rw [if_neg (by omega)]; rfl
  | succ n ih =>
    intro i
    show nzcell (nznew (nzrows h k n) k _) i = _
    rw [nzcell_new, (nzrows_1 h k n).1, ih]
    by_cases e : i = h.1 + n
    · rw [if_pos e, if_pos (by omega)]
    · rw [if_neg e]
      by_cases q : h.1 ≤ i ∧ i < h.1 + n
      · rw [if_pos q, if_pos (by omega)]
      · rw [if_neg q, if_neg (by omega)]
def nzgrid (h : nzH) (N K : Nat) : nzH := nzrows (nznew h N (.inl (.array .int, N, .inr (.inr (.inr (.inr (fun i => if i < N then some (h.1 + 1 + i) else none))))))) K N
theorem nzgrid_n (h : nzH) (N K : Nat) : (nzgrid h N K).1 = h.1 + 1 + N ∧ (nzgrid h N K).2.1.1 = h.2.1.1 + 1 + N ∧ (nzgrid h N K).2.1.2 = h.2.1.2 + N + N * K ∧ (nzgrid h N K).2.2.2 = h.2.2.2 := nzrows_1 (nznew h N (.inl (.array .int, N, .inr (.inr (.inr (.inr (fun i => if i < N then some (h.1 + 1 + i) else none))))))) K N
theorem nzgrid_cell (h : nzH) (N K i : Nat) : nzcell (nzgrid h N K) i = if h.1 + 1 ≤ i ∧ i < h.1 + 1 + N then some (.inl (.int, K, .inl (fun _ => 0))) else if i = h.1 then some (.inl (.array .int, N, .inr (.inr (.inr (.inr (fun i => if i < N then some (h.1 + 1 + i) else none)))))) else nzcell h i := nzrows_cell (nznew h N _) K N i
theorem nzcx_q (b n : Nat) (f : Nat → Option Nat) : nzcx b (n, .inr (.inr (.inr (.inr f)))) = (n, .inr (.inr (.inr (.inr (fun j => (f j).map (fun a => b + a)))))) := rfl
section NZM
variable {p : Program} {l : Launch} {e : Env} {R : Room} {s : State} {m : MethodId} {args : Array Value} {below : List Frame} {meth : Method} {c : Code} {Q : State → Prop} {D : va_G} {cA : FieldType → ClassId} {b : Nat} {ck : UInt32 → Value} {sc : Nat × (Nat → Int32)} {M : nzM} {kc ks : Nat}
theorem nzs_newm (F : nzFr p R s m args meth c D cA b ck sc M) {pc : Nat} {ls : nzL} {st : List Value} {h : nzH} {q x : Nat} {n w : Int32} {h1 : nzH} (hd : decode M.2.2.1 pc = .ok (.multianewarray q 2, 4)) (hq : nzlk nzTA M.1 q = some x) (hv : nznewm h n w = some h1) (hrc : h1.2.1.1 - kc ≤ R.cells) (hrs : h1.2.1.2 - ks ≤ R.slots) (k : nzOK p l e R s m args below meth c Q D cA b ck sc M kc ks (pc + 4) ls (.ref h.1 :: st) h1) : nzOK p l e R s m args below meth c Q D cA b ck sc M kc ks pc ls (.int w :: .int n :: st) h := by
  obtain ⟨hx, hb, hr, hml, hown, hts, hlk, hin, hK, hC, hbs, hfr, hlo⟩ := F
  intro a1 a2 a3 a4 H locs cls hR hS hL
  unfold nznewm at hv
  split at hv
  · cases hv
  · rename_i hc
    have e0 : h1 = nzgrid h n.toNatClampNeg w.toNatClampNeg := (Option.some.inj hv).symm
    subst e0
    obtain ⟨g1, g2, g3, g4⟩ := nzgrid_n h n.toNatClampNeg w.toNatClampNeg
    have hn0 : ¬ n < 0 := fun z => hc (Or.inl z)
    have hw0 : ¬ w < 0 := fun z => hc (Or.inr (Or.inl z))
    have hn1 : n.toNatClampNeg ≤ 1000 := Nat.not_lt.mp fun z => hc (Or.inr (Or.inr (Or.inl z)))
    have hw1 : w.toNatClampNeg ≤ 1000 := Nat.not_lt.mp fun z => hc (Or.inr (Or.inr (Or.inr z)))
    obtain ⟨P, hP⟩ := nzall_of nzTA_all hq
    have hlink : (Cond.classLink (nzown M.1) q ("[" ++ (FieldType.array .int).toString)).before args s = true := hts _ (nzat_mem hP) rfl
    rw [g2] at hrc
    rw [g3] at hrs
    intro T hT X
    obtain ⟨vm₁, cB, comp, -, fA, fC, hO, -, X', step⟩ := X.multianewarray2F hx hown hlink (show (Cond.arrayOver (.array .int)).before args s = true from hC.2.2.2.2.2.2.2.2) (hts _ nzac_int rfl) (g := F0 m pc cls (.int w :: .int n :: st.map (nzcv b ck))) rfl (by rw [hb]; exact hd) rfl hn0 hw0 (by omega) (by show w.toNatClampNeg * 4 ≤ _; omega) (by omega) rfl rfl (by omega) (by omega)
    have ec1 : cB = cA (.array .int) := Option.some.inj (fA.symm.trans (hK.2 4 _ rfl).2)
    have ec2 : comp = cA .int := Option.some.inj (fC.symm.trans (hK.2 0 _ rfl).2)
    subst ec1
    subst ec2
    generalize hF : Jvm.Free.Multi.fill (T.setVm vm₁) (cA (.array .int)) (cA .int) n.toNatClampNeg w.toNatClampNeg (defaultValue .int) n.toNatClampNeg = G at X' step
    have hTh : (T.setVm vm₁).heap = H := hT
    obtain ⟨f1, f2, -, -⟩ := Jvm.Free.Multi.fill_facts (T.setVm vm₁) (cA (.array .int)) (cA .int) n.toNatClampNeg w.toNatClampNeg (defaultValue .int) n.toNatClampNeg
    rw [hF, hTh] at f1 f2
    have hold : ∀ z : Nat, z < H.size → G.heap[z]? = H[z]? := fun z hz => by
      have := Jvm.Free.Multi.fill_old (T.setVm vm₁) (cA (.array .int)) (cA .int) n.toNatClampNeg w.toNatClampNeg (defaultValue .int) (a := z) (by rw [hTh]; exact hz) n.toNatClampNeg
      rw [hF, hTh] at this
      exact this
    have hrow : ∀ j : Nat, j < n.toNatClampNeg → G.heap[H.size + 1 + j]? = some (vp_cell (cA .int) (w.toNatClampNeg, .inl (fun _ => 0))) := fun j hj => by
      have := Jvm.Free.Multi.fill_inner (T.setVm vm₁) (cA (.array .int)) (cA .int) n.toNatClampNeg w.toNatClampNeg (defaultValue .int) n.toNatClampNeg j hj
      rw [hF, hTh] at this
      rw [this, vp_cell_i]
      exact congrArg some (arrV_new (cA .int) w.toNatClampNeg (.int 0))
    have hrel : nzRel D cA b ck (nzgrid h n.toNatClampNeg w.toNatClampNeg) G.heap := by
      refine ⟨by rw [f1, g1, hR.1]; omega, fun i e' hi => ?_⟩
      rw [nzgrid_cell] at hi
      by_cases c1 : h.1 + 1 ≤ i ∧ i < h.1 + 1 + n.toNatClampNeg
      · rw [if_pos c1] at hi
        cases hi
        show G.heap[b + i]? = _
        have e2 := hrow (i - (h.1 + 1)) (by omega)
        rw [show H.size + 1 + (i - (h.1 + 1)) = b + i by rw [hR.1]; omega] at e2
        exact e2
      · rw [if_neg c1] at hi
        by_cases c2 : i = h.1
        · rw [if_pos c2] at hi
          cases hi
          subst c2
          show G.heap[b + h.1]? = some (vp_cell _ _)
          rw [← hR.1, f2, nz_outer, nzcx_q, vp_cell_q]
          congr 2
          funext j
          by_cases hj : j < n.toNatClampNeg
          · simp only [hj, if_true, Option.map_some, va_rf]
            rw [hR.1, show b + h.1 + 1 + j = b + (h.1 + 1 + j) by omega]
          · simp only [hj, if_false, Option.map_none, va_rf]
        · rw [if_neg c2] at hi
          exact (hR.2 i e' hi).kept (hold _ (hR.2 i e' hi).lt)
    have kk := k (by rw [g2]; omega) (by rw [g3]; omega) (g4.trans a3) a4 G.heap locs cls hrel ⟨by rw [f1]; have := hS.1; omega, fun z y1 y2 => (hold z (Nat.lt_of_lt_of_le y1 hS.1)).trans (hS.2.1 z y1 y2), hS.2.2⟩ hL
    rw [g2, g3, show h.2.1.1 + 1 + n.toNatClampNeg - kc = h.2.1.1 - kc + 1 + n.toNatClampNeg by omega, show h.2.1.2 + n.toNatClampNeg + n.toNatClampNeg * w.toNatClampNeg - ks = h.2.1.2 - ks + n.toNatClampNeg + n.toNatClampNeg * w.toNatClampNeg by omega] at kk
    obtain ⟨t, y1, y2⟩ := kk G rfl X'
    refine ⟨t, step t ?_, y2⟩
    rw [show T.heap.size = b + h.1 by rw [hT]; exact hR.1]
    exact y1
-- contracts
def nzgt : List Cond := lw_tbl.filter goodWord
def nzwsM (M : nzM) : List Cond := nzcodeOf M :: nzgt
def nzPc (D : va_G) (cA : FieldType → ClassId) (b : Nat) (ck : UInt32 → Value) (sc : Nat × (Nat → Int32)) (h : nzH) (as : List Value) : Array Value → State → Prop := fun v U => v = (as.map (nzcv b ck)).toArray ∧ nzRel D cA b ck h U.heap ∧ va_K D vwCl (nzTys cA) U ∧ nzCst b ck sc U U.heap ∧ b ≤ U.heap.size ∧ h.2.2.2 = sc
def nzQc (D : va_G) (cA : FieldType → ClassId) (b : Nat) (ck : UInt32 → Value) (r : Option Value) (h1 : nzH) : Array Value → State → Outcome → State → Prop := fun _ st o t => o = .returned (r.map (nzcv b ck)) ∧ nzRel D cA b ck h1 t.heap ∧ va_F (nzFA b) st t
def nzRm (d : Nat) (h h1 : nzH) : Room := { frames := d + 1, cells := h1.2.1.1 - h.2.1.1, slots := h1.2.1.2 - h.2.1.2, locals := 64 * (d + 1) }
def nzMet (l : Launch) (D : va_G) (cA : FieldType → ClassId) (b : Nat) (ck : UInt32 → Value) (sc : Nat × (Nat → Int32)) (d : Nat) (M : nzM) (as : List Value) (h : nzH) (r : Option Value) (h1 : nzH) : Prop :=
  Met l M.2.1 (nzwsM M) (nzRm d h h1) (nzPc D cA b ck sc h as) (nzQc D cA b ck r h1) (h1.2.1.1 - h.2.1.1) (h1.2.1.2 - h.2.1.2) (nzFA b)
theorem nzPc_blind {D : va_G} {cA : FieldType → ClassId} {b : Nat} {ck : UInt32 → Value} {sc : Nat × (Nat → Int32)} {h : nzH} {as : List Value} : FrameBlind (nzPc D cA b ck sc h as) := by
  intro a U g mk ⟨h1, h2, h3, h4, h5, h6⟩
  exact ⟨h1, h2, va_K.moved (u := U) (U := U.calling g mk a) (Vm.Alike.refl U.vm) h3, h4.to (U1 := U.calling g mk a) (State.WarmedH.refl U) (fun _ _ _ => rfl), h5, h6⟩
theorem nz_cont {H : Heap} {locs : List Loc} {cells slots mc ms pc : Nat} {ls : Array Slot} {st0 rest : List Value} {a : Array Value} {r : Option Value} {h1 : nzH} (hr : va_Run p l e R s m args below meth c H locs cells slots mc ms (F0 m pc ls st0) rest (nzQc D cA b ck r h1 a) (nzFA b)) (hS : va_S (nzFA b) s.heap H locs)
    (kk : ∀ (H1 : Heap) (locs1 : List Loc), nzRel D cA b ck h1 H1 → va_S (nzFA b) s.heap H1 locs1 → W p l e R s m args below meth c H1 locs1 (cells + mc) (slots + ms) Q (F0 m (pc + 3) ls ((r.map (nzcv b ck)).toList ++ rest))) : W p l e R s m args below meth c H locs cells slots Q (F0 m pc ls st0) := by
  intro T hT X
  obtain ⟨v, st₀, t, T', L, h0, X', hL, e1, e2, ⟨hv, hrel, hz, hk⟩, st⟩ := hr T hT X
  cases hv
  rw [h0] at hz hk
  obtain ⟨t2, a1, b1⟩ := kk T'.heap (locs ++ L) (by rw [e1]; exact hrel)
    ⟨Nat.le_trans hS.1 (by rw [e1]; exact hz), fun q h1 h2 => by rw [e1, hk q (Nat.lt_of_lt_of_le h1 hS.1) h2]; exact hS.2.1 q h1 h2, fun q hq => by
      rcases List.mem_append.mp hq with h | h
      · exact hS.2.2 q h
      · exact hL q h⟩ T' rfl X'
  exact ⟨t2, st t2 a1, b1⟩
end NZM
