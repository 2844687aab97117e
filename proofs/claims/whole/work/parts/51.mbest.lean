/-! the reference: the best order of a set -/
theorem zmg_C (J : Nat → Int32) (B : Nat → Nat → Int32) (nf c k : Nat) (tea : Int32) (r : Nat → Nat) : ∀ (j i : Nat) (b p m : Int32) (C C' : Nat → Int32), (∀ q, q < i → C q = C' q) → (zit (zmgo J B nf c k tea r) i j (b, p, m, C)).1 = (zit (zmgo J B nf c k tea r) i j (b, p, m, C')).1 ∧ (zit (zmgo J B nf c k tea r) i j (b, p, m, C)).2.1 = (zit (zmgo J B nf c k tea r) i j (b, p, m, C')).2.1 ∧ (zit (zmgo J B nf c k tea r) i j (b, p, m, C)).2.2.1 = (zit (zmgo J B nf c k tea r) i j (b, p, m, C')).2.2.1 ∧ ∀ q, q < i + j → (zit (zmgo J B nf c k tea r) i j (b, p, m, C)).2.2.2 q = (zit (zmgo J B nf c k tea r) i j (b, p, m, C')).2.2.2 q := by
  intro j
  induction j with
  | zero => intro i b p m C C' e; exact ⟨rfl, rfl, rfl, fun q hq => e q hq⟩
  | succ j ih =>
    intro i b p m C C' e
    have := ih (i + 1) (zmgo J B nf c k tea r i (b, p, m, C)).1 (zmgo J B nf c k tea r i (b, p, m, C)).2.1 (zmgo J B nf c k tea r i (b, p, m, C)).2.2.1 (upd C i (zmgm B nf r i (b, p, m, C))) (upd C' i (zmgm B nf r i (b, p, m, C))) (fun q hq => by
      by_cases z : q = i
      · rw [z, upd_eq, upd_eq]
      · rw [upd_ne z, upd_ne z]
        exact e q (by omega))
    rw [show i + (j + 1) = i + 1 + j by omega]
    exact this
theorem zmg_b (J : Nat → Int32) (B : Nat → Nat → Int32) (nf c k : Nat) (tea : Int32) {r : Nat → Nat} : ∀ (j i : Nat) (s : Int32 × Int32 × Int32 × (Nat → Int32)), (∀ q, q < i + j → r q < 6) → (∃ m, m < 64 ∧ s.1 = nI m) → ∃ m, m < 64 ∧ (zit (zmgo J B nf c k tea r) i j s).1 = nI m := by
  intro j
  induction j with
  | zero => intro i s hr e; exact e
  | succ j ih =>
    intro i s hr e
    rw [zit]
    refine ih (i + 1) _ (fun q hq => hr q (by omega)) ?_
    obtain ⟨m, hm, e⟩ := e
    have z := zbor m hm (r i) (hr i (by omega))
    simp only [zmgo, e]
    split
    · exact ⟨_, z.2, z.1⟩
    · split
      · exact ⟨m, hm, rfl⟩
      · exact ⟨_, z.2, z.1⟩
def zgl (l : List Nat) : Nat → Nat := fun q => l.getD q 0
/-- an order's bad plates, and its last minute -/
def zevb (J : Nat → Int32) (B : Nat → Nat → Int32) (nf c k : Nat) (l : List Nat) : Int32 := nI (zpop (zmgR J B nf c k 0 (zgl l) l.length (fun _ => 0)).1.toNatClampNeg)
def zevt (J : Nat → Int32) (B : Nat → Nat → Int32) (nf c k : Nat) (l : List Nat) : Int32 := (zmgR J B nf c k 0 (zgl l) l.length (fun _ => 0)).2.2.2 (l.length - 1)
abbrev zbt : Type := Int32 × Int32 × (Nat → Int32)
/-- an order weighed: kept unless it is better than the best before it -/
def zbW (J : Nat → Int32) (B : Nat → Nat → Int32) (nf c k : Nat) (fst : Bool) (l : List Nat) (s : zbt) : zbt := if fst = false ∧ (s.1 < zevb J B nf c k l ∨ (zevb J B nf c k l = s.1 ∧ ¬ zevt J B nf c k l < s.2.1)) then s else (zevb J B nf c k l, zevt J B nf c k l, zpw l 0 s.2.2)
def zbS (J : Nat → Int32) (B : Nat → Nat → Int32) (nf c k q : Nat) (i : Nat) (s : zbt) : zbt := zbW J B nf c k (i == 0) (zpl (zpop q) q i) s
section NZBF
variable {d t : Nat} {h : nzH} {F0 : Nat → Value} {W : Int64} {rd : Option Nat} {tp : Nat → Int32} {J : Nat → Int32} {B : Nat → Nat → Int32} {Wd : Nat → Int64}
theorem kX13_be124 {I : Nat → Int32} {m : Nat} (hm : m ≤ 6) (em : I 20 = nI m) (x1 x2 x3 x4 x5 x6 : Int32) : ∀ (j p : Nat) (A : Nat → Nat → Int32), p + j = m → nzr d nX13_bests 124 [some (.ref 73), some (.int x1), some (.int x2), some (.int x3), some (.int x4), some (.int x5), some (.int x6), some (.int (nI p))] [] (zmS h F0 I W (some t) rd tp A) = nzr d nX13_bests 153 [some (.ref 73), some (.int x1), some (.int x2), some (.int x3), some (.int x4), some (.int x5), some (.int x6), some (.int (nI m))] [] (zmS h F0 I W (some t) rd tp (va_up A 26 (fun q => if p ≤ q ∧ q < m then A 22 q else A 26 q))) := by
  intro j
  induction j with
  | zero =>
    intro p A hp
    rw [eX13_bests_124, zI_20, Option.bind_some, em, if_pos (nI_le (by omega) (by omega)), show p = m by omega]
    have : (fun q => if m ≤ q ∧ q < m then A 22 q else A 26 q) = A 26 := by
      funext q
      rw [if_neg (by omega)]
    rw [this, va_up_same]
  | succ j ih =>
    intro p A hp
    rw [eX13_bests_124, zI_20, Option.bind_some, em, if_neg (nI_ge (by omega) (by omega)), zR_26, Option.bind_some, zR_22, Option.bind_some, zA_22 (show p < 6 by omega), Option.bind_some, zW_26 (show p < 6 by omega), Option.bind_some, nI_1, ih (p + 1) _ (by omega), va_up_up, va_up_self, va_up_ne _ _ (show 22 ≠ 26 by decide)]
    have : (fun q => if p + 1 ≤ q ∧ q < m then A 22 q else upd (A 26) p (A 22 p) q) = (fun q => if p ≤ q ∧ q < m then A 22 q else A 26 q) := by
      funext q
      by_cases z : q = p
      · subst z
        rw [if_neg (by omega), upd_eq, if_pos (by omega)]
      · rw [upd_ne z]
        by_cases y : p + 1 ≤ q ∧ q < m
        · rw [if_pos y, if_pos (by omega)]
        · rw [if_neg y, if_neg (by omega)]
    rw [this]
theorem kX13_be29 (E : zmd h t J B Wd) (ht : 94 ≤ t) (hd : 2 < d) {nf c k q : Nat} (hnf : nf ≤ 3) (e7 : J 7 = nI nf) (hc : c < 3) (hk : k < 3) (ek : B 26 c = nI k) (hq : q < 64) (q0 : 0 < q) : ∀ (j i : Nat) (I : Nat → Int32) (A : Nat → Nat → Int32) (u5 u6 u7 : Option Value), i + j = zfac (zpop q) → ∃ I' A', nzr d nX13_bests 29 [some (.ref 73), some (.int (nI c)), some (.int (nI q)), some (.int (nI (zfac (zpop q)))), some (.int (nI i)), u5, u6, u7] [] (zmS h F0 I W (some t) rd tp A) = some (none, zmS h F0 I' W (some t) rd tp A') ∧ (∀ a, a ≠ 20 → a ≠ 21 → a ≠ 24 → a ≠ 25 → I' a = I a) ∧ (∀ a, a ≠ 22 → a ≠ 23 → a ≠ 26 → A' a = A a) ∧ (I' 24, I' 25, A' 26) = zit (zbS J B nf c k q) i j (I 24, I 25, A 26) := by
  have hp6 := zpop_le q hq
  have hp0 : 0 < zpop q := by
    have : ∀ q, q < 64 → 0 < q → 0 < zpop q := by decide +kernel
    exact this q hq q0
  have hf := zfac_le (zpop q) hp6
  intro j
  induction j with
  | zero =>
    intro i I A u5 u6 u7 hi
    exact ⟨I, A, by rw [eX13_bests_29, if_pos (nI_le (by omega) (by omega))], fun _ _ _ _ _ => rfl, fun _ _ _ _ => rfl, rfl⟩
  | succ j ih =>
    intro i I A u5 u6 u7 hi
    have ok := zpl_ok (zpop q) q i hq rfl (by omega)
    generalize el : zpl (zpop q) q i = l at ok
    have hr : ∀ a, a < zpop q → va_up A 22 (zpw l 0 (A 22)) 22 a = nI (zgl l a) ∧ zgl l a < 6 := fun a ha => by
      rw [va_up_self, zpw_at, if_pos (by omega)]
      exact ⟨rfl, ok.2 a⟩
    have go := kX13_goes (F0 := F0) (W := W) (rd := rd) (tp := tp) E ht hd hnf e7 hc hk ek hp6 0 (r := zgl l) (I := upd I 20 (nI (zpop q))) (A := va_up A 22 (zpw l 0 (A 22))) (upd_eq _ _ _) hr
    have cc := zmg_C J B nf c k 0 (zgl l) (zpop q) 0 0 (B 11 k) (B 27 c) (va_up A 22 (zpw l 0 (A 22)) 23) (fun _ => 0) (fun a ha => absurd ha (Nat.not_lt_zero a))
    obtain ⟨mb, hmb, emb⟩ := zmg_b J B nf c k 0 (r := zgl l) (zpop q) 0 (0, B 11 k, B 27 c, fun _ => 0) (fun a ha => (hr a (by omega)).2) ⟨0, by decide, rfl⟩
    have eb : zevb J B nf c k l = nI (zpop mb) := by
      rw [zevb, ok.1, zmgR, emb, nI_clamp (by omega)]
    have et : zevt J B nf c k l = (zmgR J B nf c k 0 (zgl l) (zpop q) (va_up A 22 (zpw l 0 (A 22)) 23)).2.2.2 (zpop q - 1) := by
      rw [zevt, ok.1, zmgR, zmgR]
      exact (cc.2.2.2 (zpop q - 1) (by omega)).symm
    have e1 : (zmgR J B nf c k 0 (zgl l) (zpop q) (va_up A 22 (zpw l 0 (A 22)) 23)).1 = nI mb := cc.1.trans emb
    rw [e1] at go
    generalize ew : (zmgR J B nf c k 0 (zgl l) (zpop q) (va_up A 22 (zpw l 0 (A 22)) 23)).2.2.2 = w at go et
    have step : nzr d nX13_bests 29 [some (.ref 73), some (.int (nI c)), some (.int (nI q)), some (.int (nI (zfac (zpop q)))), some (.int (nI i)), u5, u6, u7] [] (zmS h F0 I W (some t) rd tp A) = if (i == 0) = false ∧ (I 24 < zevb J B nf c k l ∨ (zevb J B nf c k l = I 24 ∧ ¬ zevt J B nf c k l < I 25)) then nzr d nX13_bests 153 [some (.ref 73), some (.int (nI c)), some (.int (nI q)), some (.int (nI (zfac (zpop q)))), some (.int (nI i)), some (.int (zevb J B nf c k l)), some (.int (zevt J B nf c k l)), u7] [] (zmS h F0 (upd (upd I 20 (nI (zpop q))) 21 (nI mb)) W (some t) rd tp (va_up (va_up A 22 (zpw l 0 (A 22))) 23 w)) else nzr d nX13_bests 109 [some (.ref 73), some (.int (nI c)), some (.int (nI q)), some (.int (nI (zfac (zpop q)))), some (.int (nI i)), some (.int (zevb J B nf c k l)), some (.int (zevt J B nf c k l)), u7] [] (zmS h F0 (upd (upd I 20 (nI (zpop q))) 21 (nI mb)) W (some t) rd tp (va_up (va_up A 22 (zpw l 0 (A 22))) 23 w)) := by
      rw [eX13_bests_29, if_neg (nI_ge (by omega) (by omega)), if_neg (nI_ne0 q0 (by omega)), kX13_ordered (by omega) hq (by omega), el, Option.bind_some, go, Option.bind_some, zI_21, Option.bind_some, upd_eq, jX13_bits (by omega) hmb, Option.bind_some, zR_23, Option.bind_some, zI_20, Option.bind_some, upd_ne (show 20 ≠ 21 by decide), upd_eq, show nI (zpop q) - 1 = nI (zpop q - 1) from nI_sub hp0, zA_23 (show zpop q - 1 < 6 by omega), Option.bind_some, va_up_self, zI_24, Option.bind_some, Option.bind_some, zI_25, Option.bind_some, upd_ne (show 24 ≠ 21 by decide), upd_ne (show 24 ≠ 20 by decide), upd_ne (show 25 ≠ 21 by decide), upd_ne (show 25 ≠ 20 by decide), ← eb, ← et]
      by_cases z : i = 0
      · subst z
        rw [if_pos (show nI 0 ≤ 0 by decide), if_neg (by simp)]
      · rw [if_neg (nI_nle (by omega) (by omega))]
        have zi : (i == 0) = false := by simpa using z
        by_cases y1 : I 24 < zevb J B nf c k l
        · rw [if_pos y1, if_pos ⟨zi, .inl y1⟩]
        · rw [if_neg y1]
          by_cases y2 : zevb J B nf c k l = I 24
          · rw [if_pos y2]
            by_cases y3 : zevt J B nf c k l < I 25
            · rw [if_pos y3, if_neg (fun y => y.2.elim y1 (fun y => y.2 y3))]
            · rw [if_neg y3, if_pos ⟨zi, .inr ⟨y2, y3⟩⟩]
          · rw [if_neg y2, if_neg (fun y => y.2.elim y1 (fun y => y2 y.1))]
    rw [zit, step, zbS, el, zbW]
    dsimp only
    by_cases z : (i == 0) = false ∧ (I 24 < zevb J B nf c k l ∨ (zevb J B nf c k l = I 24 ∧ ¬ zevt J B nf c k l < I 25))
    · rw [if_pos z, if_pos z, eX13_bests_153, nI_1]
      obtain ⟨I', A', p1, p2, p3, p4⟩ := ih (i + 1) (upd (upd I 20 (nI (zpop q))) 21 (nI mb)) (va_up (va_up A 22 (zpw l 0 (A 22))) 23 w) (some (.int (zevb J B nf c k l))) (some (.int (zevt J B nf c k l))) u7 (by omega)
      refine ⟨I', A', p1, fun a a1 a2 a3 a4 => ?_, fun a a1 a2 a3 => ?_, p4⟩
      · rw [p2 a a1 a2 a3 a4, upd_ne a2, upd_ne a1]
      · rw [p3 a a1 a2 a3, va_up_ne _ _ a2, va_up_ne _ _ a1]
    · rw [if_neg z, if_neg z, eX13_bests_109, zP_24, Option.bind_some, zP_25, Option.bind_some, show (0 : Int32) = nI 0 from rfl, kX13_be124 hp6 (by simp [upd_at]) _ _ _ _ _ _ (zpop q) 0 _ (by omega), eX13_bests_153, nI_1]
      have er : (fun a => if 0 ≤ a ∧ a < zpop q then va_up (va_up A 22 (zpw l 0 (A 22))) 23 w 22 a else va_up (va_up A 22 (zpw l 0 (A 22))) 23 w 26 a) = zpw l 0 (A 26) := by
        funext a
        rw [va_up_ne _ _ (show 22 ≠ 23 by decide), va_up_self, va_up_ne _ _ (show 26 ≠ 23 by decide), va_up_ne _ _ (show 26 ≠ 22 by decide), zpw_at, zpw_at, ok.1]
        by_cases y : 0 ≤ a ∧ a < 0 + zpop q
        · rw [if_pos y, if_pos y, if_pos (by omega)]
        · rw [if_neg (show ¬ (0 ≤ a ∧ a < zpop q) by omega), if_neg y]
      rw [er]
      obtain ⟨I', A', p1, p2, p3, p4⟩ := ih (i + 1) (upd (upd (upd (upd I 20 (nI (zpop q))) 21 (nI mb)) 24 (zevb J B nf c k l)) 25 (zevt J B nf c k l)) (va_up (va_up (va_up A 22 (zpw l 0 (A 22))) 23 w) 26 (zpw l 0 (A 26))) (some (.int (zevb J B nf c k l))) (some (.int (zevt J B nf c k l))) (some (.int (nI (zpop q)))) (by omega)
      refine ⟨I', A', p1, fun a a1 a2 a3 a4 => ?_, fun a a1 a2 a3 => ?_, p4⟩
      · rw [p2 a a1 a2 a3 a4, upd_ne a4, upd_ne a3, upd_ne a2, upd_ne a1]
      · rw [p3 a a1 a2 a3, va_up_ne _ _ a3, va_up_ne _ _ a2, va_up_ne _ _ a1]
/-- the best of a set: (bad, last, row) -/
def zbst (J : Nat → Int32) (B : Nat → Nat → Int32) (nf c k q : Nat) (f : Nat → Int32) : zbt := if q = 0 then (0, B 27 c, f) else zit (zbS J B nf c k q) 0 (zfac (zpop q)) (0, B 27 c, f)
theorem kX13_bests (E : zmd h t J B Wd) (ht : 94 ≤ t) (hd : 3 < d) {nf c k q : Nat} (hnf : nf ≤ 3) (e7 : J 7 = nI nf) (hc : c < 3) (hk : k < 3) (ek : B 26 c = nI k) (hq : q < 64) (I : Nat → Int32) (A : Nat → Nat → Int32) : ∃ I' A', nzxV d nX13_bests [.ref 73, .int (nI c), .int (nI q)] (zmS h F0 I W (some t) rd tp A) = some (zmS h F0 I' W (some t) rd tp A') ∧ (∀ a, a ≠ 20 → a ≠ 21 → a ≠ 24 → a ≠ 25 → I' a = I a) ∧ (∀ a, a ≠ 22 → a ≠ 23 → a ≠ 26 → A' a = A a) ∧ (I' 24, I' 25, A' 26) = zbst J B nf c k q (A 26) := by
  have hp6 := zpop_le q hq
  have hf := zfac_le (zpop q) hp6
  have a27 : ∀ I A, nzaI (zmS h F0 I W (some t) rd tp A) (t + (27 - 10)) (nI c) = some (B 27 c) := fun I A => zda E ht (k := 27) (by decide) (by decide) (by decide) (by decide) (by decide) hc
  have st : nzr (d - 1) nX13_bests 0 [some (.ref 73), some (.int (nI c)), some (.int (nI q)), none, none, none, none, none] [] (zmS h F0 I W (some t) rd tp A) = nzr (d - 1) nX13_bests 29 [some (.ref 73), some (.int (nI c)), some (.int (nI q)), some (.int (nI (zfac (zpop q)))), some (.int (nI 0)), none, none, none] [] (zmS h F0 (upd (upd I 24 0) 25 (B 27 c)) W (some t) rd tp A) := by
    rw [eX13_bests_0, zP_24, Option.bind_some, zmS_T, Option.bind_some, zdr E ht (k := 27) (by decide) (by decide), Option.bind_some, a27, Option.bind_some, zP_25, Option.bind_some, jX13_bits (by omega) hq, Option.bind_some, jX13_orders (by omega) hp6, Option.bind_some]
    rfl
  by_cases z : q = 0
  · subst z
    refine ⟨upd (upd I 24 0) 25 (B 27 c), A, iX13_bests (by omega) zmS_o ?_, fun a a1 a2 a3 a4 => by rw [upd_ne a4, upd_ne a3], fun _ _ _ _ => rfl, ?_⟩
    · rw [st, eX13_bests_29, if_neg (by decide), if_pos (show nI 0 = 0 from rfl)]
    · rw [zbst, if_pos rfl]
      rfl
  · obtain ⟨I', A', p1, p2, p3, p4⟩ := kX13_be29 (F0 := F0) (W := W) (rd := rd) (tp := tp) (d := d - 1) E ht (by omega) hnf e7 hc hk ek hq (by omega) (zfac (zpop q)) 0 (upd (upd I 24 0) 25 (B 27 c)) A none none none (by omega)
    refine ⟨I', A', iX13_bests (by omega) zmS_o (st.trans p1), fun a a1 a2 a3 a4 => by rw [p2 a a1 a2 a3 a4, upd_ne a4, upd_ne a3], p3, ?_⟩
    rw [zbst, if_neg z, p4]
    rfl
end NZBF
