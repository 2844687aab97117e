/-! THE CLAIM OUT OF ONE WALK OF THE LAW'S BODY. Your part is whole_start (and what it stands on); all else here is the same for every law, but numbers. -/
def R_law : String := "NoonMealsLaw"
def lw_P (b : Addr) (xs : List Int32) (args : Array Value) (s : State) : Prop := args = #[.ref b] ∧ s.IntsAt b xs ∧ xs.length ≤ 3072 ∧ (Jvm.Cond.and given_1 narrow_1).before args s = true
def lw_Q (_ : Array Value) (s : State) (o : Outcome) (t : State) : Prop := o = .returned (some (.int 1)) ∧ Framed s o t [] 601024 7293034
def lw_Z (below : List Frame) (a : Array Value) (s : State) : State → Prop := fun t => ∃ o, t.status = .running ∧ Ended t below o ∧ lw_Q a s o t
/-- the law's own end, with 1 on the stack, nothing written that was there before, its room as the claim has it -/
theorem lw_ret {p : Program} {l : Launch} {e : Env} {s : State} {m : MethodId} {below : List Frame} {meth : Method} {c : Code} {b : Nat} (hx : p.tables.exec = Jvm.exec) (hb : c.code = code) (hr : meth.sig.returnType = ret) (hlocks : meth.locks = false) {pc : Nat} {H : Heap} {ls : Array Slot} (hdg : decode code pc = .ok (.ireturn, 1)) : W p l e room_1 s m #[Value.ref b] below meth c H [] 601024 7293034 (lw_Z below #[Value.ref b] s) (F0 m pc ls [.int 1]) := by
  intro T hT X
  obtain ⟨fs, hret, hrun, hended, hW, hframe⟩ := X.leave (v := some (.int 1)) (hlocks := hlocks) (fun h => by rw [hr] at h; cases h)
  have hmeth' : T.vm.method? m = some meth := X.method'
  refine ⟨T.setFrames fs, ?_, .returned (some (.int 1)), hrun, hended, rfl, ⟨_, rfl⟩, hW, hframe⟩
  jvm_step X.here [X.here.top, hx, hb, hdg, hmeth', hr, ret, narrow_b1]
  (try refine ⟨rfl, ?_⟩); (try refine ⟨rfl, ?_⟩)
  first | (intro acts; rw [hret _ acts rfl rfl rfl]) | rw [hret _ _ rfl rfl rfl]
  exact Steps.refl _
/-- what holds at the law's entry: the machine, the code, the tables' words (any of lw_tbl by 'hts w (by decide +kernel)'), the script of L ints xs at the cell b, what the Statement gives of the start (any of its parts by flat_of_before) -/
def lw_At (p : Program) (s : State) (m : MethodId) (meth : Method) (c : Code) (b L : Nat) (xs : Nat → Int32) : Prop :=
  p.tables.exec = Jvm.exec ∧ c.code = code ∧ meth.sig.returnType = ret ∧ c.maxLocals = 7 ∧ s.vm.findClass R_law = some m.cls ∧ (∀ w ∈ lw_tbl, w.before #[Value.ref b] s = true) ∧ va_X b L xs s s.heap ∧ b < s.heap.size ∧ meth.locks = false ∧ (Jvm.Cond.and given_1 narrow_1).before #[Value.ref b] s = true
theorem zlawRet {p : Program} {l : Launch} {e : Env} {s : State} {m : MethodId} {below : List Frame} {meth : Method} {c : Code} {D : va_G} {cA : FieldType → ClassId} {ck : UInt32 → Value} {sc : Nat × (Nat → Int32)} {a : Nat} {h2 : nzH} (F : nzFr p room_1 s m #[Value.ref a] meth c D cA s.heap.size ck sc nL_law) (b1 : h2.2.1.1 ≤ 601024) (b2 : h2.2.1.2 ≤ 7293034) : nzRet p l e room_1 s m #[Value.ref a] below meth c (lw_Z below #[Value.ref a] s) D cA s.heap.size ck sc nL_law 0 0 (some (.int 1)) h2 := by
  obtain ⟨hx, hb, hr, hml, hown, hts, hlk, hin, hK, hC, hbs, hfr, hlo⟩ := F
  intro pc len i ls st h hd hil ha a1 a2 a3 a4 H locs cls hR hS hL
  obtain ⟨rfl, hcase⟩ := nzact_ret ha
  rcases hcase with ⟨rfl, v, ty, rfl, e1, hty, hn⟩ | ⟨-, v, -, e1, -⟩ | ⟨-, v, C, -, e1, -⟩ | ⟨-, -, e1, -⟩
  · cases e1
    have hl : len = 1 := of_decide_eq_true hil
    subst hl
    refine va_forget (fun q hq => hS.2.2 q hq) ?_
    refine W.widen (k := 601024) (n := 7293034) b1 b2 ?_
    exact lw_ret hx hb hr hlk hd
  · cases e1
  · cases e1
  · cases e1
/-- the walk of the law's body, but for its own led -/
theorem whole_of {p : Program} {e : Env} {s : State} {m : MethodId} {below : List Frame} {meth : Method} {c : Code} (l : Launch) {b L : Nat} {xs : Nat → Int32} (hL : L ≤ 3072) (C0 : lw_At p s m meth c b L xs) (led : ∀ (D : va_G) (cA : FieldType → ClassId) (ck : UInt32 → Value), nzFr p room_1 s m #[Value.ref b] meth c D cA s.heap.size ck (L, xs) nL_law → nzLedOK p l e room_1 s m #[Value.ref b] below meth c (lw_Z below #[Value.ref b] s) D cA s.heap.size ck (L, xs) nL_law 0 0) : W p l e room_1 s m #[Value.ref b] below meth c s.heap [] 0 0 (lw_Z below #[Value.ref b] s) (entryFrame m ([Value.ref b] : List Value).toArray 7) := by
  obtain ⟨hx, hb, hr, hml, hown, hts, hX, hbl, hlocks, hgv⟩ := C0
  have hs := flat_of_before _ hgv
  obtain ⟨D, cA, hK⟩ := zentK hts
  obtain ⟨ck, hC, hck0⟩ := zentC hts hs hX hbl
  have F : nzFr p room_1 s m #[Value.ref b] meth c D cA s.heap.size ck (L, xs) nL_law := ⟨hx, hb, hr, hml, hown, fun w hw _ => hts w hw, hlocks, fun h => absurd h (by decide), hK, hC, Nat.le_refl _, by decide, by decide⟩
  obtain ⟨h2, e2, b1, b2⟩ := zL_all (d := 1000) (xs := xs) (by decide) hL
  obtain ⟨n, hn⟩ := nzr_some.mp e2
  have ok := nz_main n 1000 nL_law 0 _ [] (zh0 (L, xs)) _ h2 hn p l e room_1 s m #[Value.ref b] below meth c (lw_Z below #[Value.ref b] s) D cA s.heap.size ck (L, xs) 0 0 F (by decide) (by decide) b1 b2 (led D cA ck F) (zlawRet F b1 b2)
  obtain ⟨hlen, hloc⟩ := nzLoc_entry (b := s.heap.size) hC.1 (M := nL_law) (as := [.float 0]) (l := [some (.float 0), none, none, none, none, none, none]) rfl
  have w := ok (Nat.le_refl _) (Nat.le_refl _) rfl hlen s.heap [] _ ⟨rfl, fun i e h => by cases h⟩ va_S.rf hloc
  rw [lg_entry_eq]
  have ea : ([Value.float 0] : List Value).map (nzcv s.heap.size ck) = [Value.ref b] := congrArg (fun v => [v]) hck0
  rw [ea] at w
  exact w
