/-! the reference: the best share -/
def zob : Option Nat → Int32
  | none => -1
  | some b => nI b
def zobB (b : Bool) : Int32 := if b then 1 else 0
def zshI (P Q : Nat → Int32) (H : Nat → Nat) (m nh all : Nat) (c : Nat) (s : Int32 × Int32 × Bool) : Int32 × Int32 × Bool := (s.1 + P (64 * c + zho m c nh all 0), s.2.1 + Q (64 * c + zho m c nh all 0), s.2.2 && decide (zpop (zho m c nh all 0) ≤ H c))
def zshR (P Q : Nat → Int32) (H : Nat → Nat) (m nh all : Nat) : Int32 × Int32 × Bool := zit (zshI P Q H m nh all) 0 m (0, 0, true)
abbrev zsht : Type := Option Nat × Int32 × Int32
def zshV (all : Nat) (q : Int32 × Int32 × Bool) (s : zsht) : zsht := if q.2.2 = false ∨ (s.1 ≠ none ∧ (s.2.1 < q.1 ∨ (q.1 = s.2.1 ∧ ¬ q.2.1 < s.2.2))) then s else (some all, q.1, q.2.1)
def zshO (P Q : Nat → Int32) (H : Nat → Nat) (m nh : Nat) (all : Nat) (s : zsht) : zsht := zshV all (zshR P Q H m nh all) s
def zshX (m nh b c : Nat) (x : Nat) (f : Nat → Int32) : Nat → Int32 := if zho m c nh b 0 / 2 ^ x % 2 = 1 then upd f x (nI c) else f
def zshF (m nh b : Nat) (c : Nat) (f : Nat → Int32) : Nat → Int32 := zit (zshX m nh b c) 0 nh f
theorem zob_ne {b : Nat} (hb : b < 2 ^ 31) : ¬ nI b = -1 := fun z => nI_pos hb (by rw [z]; decide)
theorem zobI {o : Option Nat} (ho : ∀ b, o = some b → b < 2 ^ 31) : zob o = -1 ↔ o = none := by
  cases o with
  | none => exact ⟨fun _ => rfl, fun _ => rfl⟩
  | some b => exact ⟨fun z => absurd z (zob_ne (ho b rfl)), fun z => by cases z⟩
theorem zpow3 : ∀ m, m < 4 → ∀ n, n < 7 → m ^ n < 1000 := by decide +kernel
section NZSF
variable {d t : Nat} {h : nzH} {F0 : Nat → Value} {W : Int64} {rd : Option Nat} {tp : Nat → Int32} {J : Nat → Int32} {B : Nat → Nat → Int32} {Wd : Nat → Int64}
theorem kX13_s52 (E : zmd h t J B Wd) (ht : 94 ≤ t) (hd : 0 < d) {I : Nat → Int32} {A : Nat → Nat → Int32} {m nh all : Nat} {H : Nat → Nat} (hm : m ≤ 3) (m0 : 0 < m) (em : J 6 = nI m) (hnh : nh ≤ 6) (en : J 5 = nI nh) (hH : ∀ c, c < m → B 28 c = nI (H c) ∧ H c ≤ 6) (ha : all < 1000) (s : zsht) (hs : ∀ b, s.1 = some b → b < 1000) : ∀ (j c : Nat) (q : Int32 × Int32 × Bool) (u9 : Option Value), c + j = m → ∃ w5 w6 w7 w8 w9, nzr d nX13_share 52 [some (.ref 73), some (.int (zob s.1)), some (.int s.2.1), some (.int s.2.2), some (.int (nI all)), some (.int q.1), some (.int q.2.1), some (.int (zobB q.2.2)), some (.int (nI c)), u9] [] (zmS h F0 I W (some t) rd tp A) = nzr d nX13_share 31 [some (.ref 73), some (.int (zob (zshV all (zit (zshI (A 29) (A 30) H m nh all) c j q) s).1)), some (.int (zshV all (zit (zshI (A 29) (A 30) H m nh all) c j q) s).2.1), some (.int (zshV all (zit (zshI (A 29) (A 30) H m nh all) c j q) s).2.2), some (.int (nI (all + 1))), w5, w6, w7, w8, w9] [] (zmS h F0 I W (some t) rd tp A) := by
  intro j
  induction j with
  | zero =>
    intro c q u9 hc
    obtain rfl : c = m := by omega
    rw [eX13_share_52, zmS_T, Option.bind_some, zj E ht (by decide), Option.bind_some, em, if_pos (nI_le (Nat.le_refl _) (by omega)), zit]
    simp only [eX13_share_177, eX13_share_186, nI_1]
    obtain ⟨qb, ql, qf⟩ := q
    obtain ⟨sb, sl, st⟩ := s
    dsimp only at hs ⊢
    have hs' : zob sb = -1 ↔ sb = none := zobI (fun b e => by have := hs b e; omega)
    cases qf with
    | false =>
      rw [if_pos (show zobB false = 0 from rfl), zshV, if_pos (.inl rfl)]
      exact ⟨_, _, _, _, _, rfl⟩
    | true =>
      rw [if_neg (show ¬ zobB true = 0 by decide)]
      by_cases y0 : sb = none
      · rw [if_pos (hs'.mpr y0), zshV, if_neg (by rintro (z | z); cases z; exact z.1 y0)]
        exact ⟨_, _, _, _, _, rfl⟩
      · rw [if_neg (fun z => y0 (hs'.mp z))]
        by_cases y1 : sl < qb
        · rw [if_pos y1, zshV, if_pos (.inr ⟨y0, .inl y1⟩)]
          exact ⟨_, _, _, _, _, rfl⟩
        · rw [if_neg y1]
          by_cases y2 : qb = sl
          · rw [if_pos y2]
            by_cases y3 : ql < st
            · rw [if_pos y3, zshV, if_neg (by rintro (z | z); cases z; exact z.2.elim y1 (fun z => z.2 y3))]
              exact ⟨_, _, _, _, _, rfl⟩
            · rw [if_neg y3, zshV, if_pos (.inr ⟨y0, .inr ⟨y2, y3⟩⟩)]
              exact ⟨_, _, _, _, _, rfl⟩
          · rw [if_neg y2, zshV, if_neg (by rintro (z | z); cases z; exact z.2.elim y1 (fun z => y2 z.1))]
            exact ⟨_, _, _, _, _, rfl⟩
  | succ j ih =>
    intro c q u9 hc
    obtain ⟨k3, k4⟩ := hH c (by omega)
    have a28 : nzaI (zmS h F0 I W (some t) rd tp A) (t + (28 - 10)) (nI c) = some (nI (H c)) := (zda E ht (k := 28) (by decide) (by decide) (by decide) (by decide) (by decide) (show c < 3 by omega)).trans (congrArg some k3)
    have hl := zho_lt m c nh all 0 hnh (by decide)
    have hp := zpop_le _ hl
    obtain ⟨w5, w6, w7, w8, w9, ww⟩ := ih (c + 1) (zshI (A 29) (A 30) H m nh all c q) (some (.int (nI (zho m c nh all 0)))) (by omega)
    refine ⟨w5, w6, w7, w8, w9, ?_⟩
    rw [zit, ← ww, eX13_share_52, zmS_T, Option.bind_some, zj E ht (by decide), Option.bind_some, em, if_neg (nI_ge (by omega) (by omega)), kX13_housesOf E ht hd hm m0 em (show c < 3 by omega) hnh en ha, Option.bind_some]
    simp only [eX13_share_101, eX13_share_102, zR_29, zR_30, Option.bind_some, z6ix c (show c < 3 by omega) _ hl, zA_29 (show 64 * c + zho m c nh all 0 < 192 by omega), zA_30 (show 64 * c + zho m c nh all 0 < 192 by omega), jX13_bits hd hl, zmS_T, zdr E ht (k := 28) (by decide) (by decide), a28, nI_1]
    obtain ⟨qb, ql, qf⟩ := q
    cases qf with
    | false => rw [if_pos (show zobB false = 0 from rfl)]; rfl
    | true =>
      rw [if_neg (show ¬ zobB true = 0 by decide)]
      by_cases y : zpop (zho m c nh all 0) ≤ H c
      · rw [if_neg (nI_nlt y (by omega))]
        simp only [zshI, y, decide_true, Bool.and_true]
        rfl
      · rw [if_pos (nI_lt (by omega) (by omega))]
        simp only [zshI, y, decide_false, Bool.and_false]
        rfl
theorem kX13_s31 (E : zmd h t J B Wd) (ht : 94 ≤ t) (hd : 0 < d) {I : Nat → Int32} {A : Nat → Nat → Int32} {m nh : Nat} {H : Nat → Nat} (hm : m ≤ 3) (m0 : 0 < m) (em : J 6 = nI m) (hnh : nh ≤ 6) (en : J 5 = nI nh) (hH : ∀ c, c < m → B 28 c = nI (H c) ∧ H c ≤ 6) : ∀ (j all : Nat) (s : zsht) (u5 u6 u7 u8 u9 : Option Value), all + j = m ^ nh → (∀ b, s.1 = some b → b < all) → ∃ w5 w6 w7 w8 w9, nzr d nX13_share 31 [some (.ref 73), some (.int (zob s.1)), some (.int s.2.1), some (.int s.2.2), some (.int (nI all)), u5, u6, u7, u8, u9] [] (zmS h F0 I W (some t) rd tp A) = nzr d nX13_share 31 [some (.ref 73), some (.int (zob (zit (zshO (A 29) (A 30) H m nh) all j s).1)), some (.int (zit (zshO (A 29) (A 30) H m nh) all j s).2.1), some (.int (zit (zshO (A 29) (A 30) H m nh) all j s).2.2), some (.int (nI (m ^ nh))), w5, w6, w7, w8, w9] [] (zmS h F0 I W (some t) rd tp A) ∧ ∀ b, (zit (zshO (A 29) (A 30) H m nh) all j s).1 = some b → b < m ^ nh := by
  have h3 := zpow3 m (by omega) nh (by omega)
  intro j
  induction j with
  | zero =>
    intro all s u5 u6 u7 u8 u9 hj hs
    obtain rfl : all = m ^ nh := by omega
    exact ⟨_, _, _, _, _, rfl, hs⟩
  | succ j ih =>
    intro all s u5 u6 u7 u8 u9 hj hs
    obtain ⟨w5, w6, w7, w8, w9, ww⟩ := kX13_s52 (F0 := F0) (W := W) (rd := rd) (tp := tp) (d := d) (I := I) (A := A) E ht hd hm m0 em hnh en hH (show all < 1000 by omega) s (fun b e => by have := hs b e; omega) m 0 (0, 0, true) u9 (by omega)
    obtain ⟨v5, v6, v7, v8, v9, vv⟩ := ih (all + 1) (zshO (A 29) (A 30) H m nh all s) w5 w6 w7 w8 w9 (by omega) (fun b e => by
      rw [zshO, zshV] at e
      split at e
      · have := hs b e; omega
      · cases e; omega)
    refine ⟨v5, v6, v7, v8, v9, ?_, vv.2⟩
    rw [zit, ← vv.1, eX13_share_31, kX13_shares E ht hd em hnh en, Option.bind_some, if_neg (nI_ge (by omega) (by omega))]
    exact ww
theorem kX13_s227 (E : zmd h t J B Wd) (ht : 94 ≤ t) (hd : 0 < d) {I : Nat → Int32} {m nh b c : Nat} (hm : m ≤ 3) (m0 : 0 < m) (em : J 6 = nI m) (hnh : nh ≤ 6) (en : J 5 = nI nh) (hb : b < 1000) (hc : c < m) (x2 x3 : Int32) (u6 u7 u8 u9 : Option Value) : ∀ (j x : Nat) (A : Nat → Nat → Int32), x + j = nh → nzr d nX13_share 227 [some (.ref 73), some (.int (nI b)), some (.int x2), some (.int x3), some (.int (nI c)), some (.int (nI x)), u6, u7, u8, u9] [] (zmS h F0 I W (some t) rd tp A) = nzr d nX13_share 212 [some (.ref 73), some (.int (nI b)), some (.int x2), some (.int x3), some (.int (nI (c + 1))), some (.int (nI nh)), u6, u7, u8, u9] [] (zmS h F0 I W (some t) rd tp (va_up A 28 (zit (zshX m nh b c) x j (A 28)))) := by
  have hl := zho_lt m c nh b 0 hnh (by decide)
  intro j
  induction j with
  | zero =>
    intro x A hx
    obtain rfl : x = nh := by omega
    rw [eX13_share_227, zmS_T, Option.bind_some, zj E ht (by decide), Option.bind_some, en, if_pos (nI_le (Nat.le_refl _) (by omega)), nI_1, zit, va_up_same]
  | succ j ih =>
    intro x A hx
    have zb := zhb _ hl x (by omega)
    rw [eX13_share_227, zmS_T, Option.bind_some, zj E ht (by decide), Option.bind_some, en, if_neg (nI_ge (by omega) (by omega)), kX13_housesOf E ht hd hm m0 em (show c < 3 by omega) hnh en hb, Option.bind_some, jX13_has hd, Option.bind_some, zit, zshX]
    by_cases y : zho m c nh b 0 / 2 ^ x % 2 = 1
    · rw [if_pos (zb.mpr y), if_neg (show ¬ (1 : Int32) = 0 by decide), if_pos y, zR_28, Option.bind_some, zW_28 (show x < 6 by omega), Option.bind_some, eX13_share_263, nI_1, ih (x + 1) _ (by omega), va_up_up, va_up_self]
    · rw [if_neg (fun z => y (zb.mp z)), if_pos rfl, if_neg y, eX13_share_263, nI_1, ih (x + 1) _ (by omega)]
theorem kX13_s212 (E : zmd h t J B Wd) (ht : 94 ≤ t) (hd : 0 < d) {I : Nat → Int32} {m nh b : Nat} (hm : m ≤ 3) (m0 : 0 < m) (em : J 6 = nI m) (hnh : nh ≤ 6) (en : J 5 = nI nh) (hb : b < 1000) (x2 x3 : Int32) (u6 u7 u8 u9 : Option Value) : ∀ (j c : Nat) (A : Nat → Nat → Int32) (u5 : Option Value), c + j = m → nzr d nX13_share 212 [some (.ref 73), some (.int (nI b)), some (.int x2), some (.int x3), some (.int (nI c)), u5, u6, u7, u8, u9] [] (zmS h F0 I W (some t) rd tp A) = some (some (.int x2), zmS h F0 (upd (upd I 1 0) 2 (-1)) W (some t) rd tp (va_up A 28 (zit (zshF m nh b) c j (A 28)))) := by
  intro j
  induction j with
  | zero =>
    intro c A u5 hc
    obtain rfl : c = m := by omega
    rw [eX13_share_212, zmS_T, Option.bind_some, zj E ht (by decide), Option.bind_some, em, if_pos (nI_le (Nat.le_refl _) (by omega)), zdone hd, Option.bind_some, zit, va_up_same]
  | succ j ih =>
    intro c A u5 hc
    rw [eX13_share_212, zmS_T, Option.bind_some, zj E ht (by decide), Option.bind_some, em, if_neg (nI_ge (by omega) (by omega)), show (0 : Int32) = nI 0 from rfl, kX13_s227 E ht hd hm m0 em hnh en hb (by omega) x2 x3 u6 u7 u8 u9 nh 0 A (by omega), ih (c + 1) _ _ (by omega), va_up_up, va_up_self, zit]
    rfl
/-- what a share answers and leaves -/
theorem kX13_share (E : zmd h t J B Wd) (ht : 94 ≤ t) (hd : 5 < d) {nf nh m : Nat} {K H : Nat → Nat} (hnf : nf ≤ 3) (e7 : J 7 = nI nf) (hnh : nh ≤ 6) (en : J 5 = nI nh) (hm : m ≤ 3) (m0 : 0 < m) (em : J 6 = nI m) (hK : ∀ c, c < m → K c < 3 ∧ B 26 c = nI (K c) ∧ B 28 c = nI (H c) ∧ H c ≤ 6) (I : Nat → Int32) (A : Nat → Nat → Int32) : ∃ v I' A' P Q, nzxI d nX13_share [.ref 73] (zmS h F0 I W (some t) rd tp A) = some (v, zmS h F0 I' W (some t) rd tp A') ∧ (∀ a, a ≠ 0 → a ≠ 1 → a ≠ 2 → a ≠ 20 → a ≠ 21 → a ≠ 24 → a ≠ 25 → a ≠ 27 → I' a = I a) ∧ (∀ a, a ≠ 22 → a ≠ 23 → a ≠ 26 → a ≠ 28 → a ≠ 29 → a ≠ 30 → A' a = A a) ∧ (∀ c' s', c' < m → s' < 2 ^ nh → zpop s' ≤ H c' → P (64 * c' + s') = zwgB J B nf K c' s' ∧ Q (64 * c' + s') = zwgL J B nf K c' s') ∧ I' 0 = 0 ∧ I' 2 = -1 ∧ match zit (zshO P Q H m nh) 0 (m ^ nh) (none, 0, 0) with
    | (none, _, _) => v = -1 ∧ I' 1 = 6 ∧ I' 27 = I 27 ∧ A' 28 = A 28
    | (some b, x, _) => v = x ∧ I' 1 = 0 ∧ I' 27 = 1 ∧ A' 28 = zit (zshF m nh b) 0 m (A 28) ∧ b < m ^ nh := by
  have h3 := zpow3 m (by omega) nh (by omega)
  obtain ⟨I1, A1, f1, f2, f3, f4⟩ := kX13_weighsCars (F0 := F0) (W := W) (rd := rd) (tp := tp) (d := d - 1) E ht (by omega) hnf e7 hnh en hm em hK (upd I 0 0) A
  obtain ⟨w5, w6, w7, w8, w9, g1, g2⟩ := kX13_s31 (F0 := F0) (W := W) (rd := rd) (tp := tp) (d := d - 1) (I := I1) (A := A1) E ht (by omega) hm m0 em hnh en (fun c hc => (hK c hc).2.2) (m ^ nh) 0 (none, 0, 0) none none none none none (by omega) (fun b e => by cases e)
  have st : nzr (d - 1) nX13_share 0 [some (.ref 73), none, none, none, none, none, none, none, none, none] [] (zmS h F0 I W (some t) rd tp A) = nzr (d - 1) nX13_share 31 [some (.ref 73), some (.int (zob (zit (zshO (A1 29) (A1 30) H m nh) 0 (m ^ nh) (none, 0, 0)).1)), some (.int (zit (zshO (A1 29) (A1 30) H m nh) 0 (m ^ nh) (none, 0, 0)).2.1), some (.int (zit (zshO (A1 29) (A1 30) H m nh) 0 (m ^ nh) (none, 0, 0)).2.2), some (.int (nI (m ^ nh))), w5, w6, w7, w8, w9] [] (zmS h F0 I1 W (some t) rd tp A1) := by
    rw [← g1, eX13_share_0, zP_0, Option.bind_some, zmS_N, Option.bind_some, if_neg (by simp), f1, Option.bind_some]
    rfl
  have P0 : ∀ c' s', c' < m → s' < 2 ^ nh → zpop s' ≤ H c' → A1 29 (64 * c' + s') = zwgB J B nf K c' s' ∧ A1 30 (64 * c' + s') = zwgL J B nf K c' s' := fun c' s' a b q => f4 c' s' (.inl ⟨a, b⟩) q
  generalize ez : zit (zshO (A1 29) (A1 30) H m nh) 0 (m ^ nh) (none, 0, 0) = z at st g2
  obtain ⟨o, x, y⟩ := z
  rw [eX13_share_31, kX13_shares E ht (by omega) em hnh en, Option.bind_some, if_pos (nI_le (Nat.le_refl _) (by omega))] at st
  cases o with
  | none =>
    refine ⟨-1, upd (upd I1 1 6) 2 (-1), A1, A1 29, A1 30, iX13_share (by omega) zmS_o (st.trans ?_), fun a a0 a1 a2 a3 a4 a5 a6 a7 => ?_, fun a a1 a2 a3 a4 a5 a6 => f3 a a1 a2 a3 a5 a6, P0, ?_, ?_, ?_⟩
    · rw [if_pos (show zob none = -1 from rfl), zrefu (by omega), Option.bind_some]
    · rw [upd_ne a2, upd_ne a1, f2 a a3 a4 a5 a6, upd_ne a0]
    · rw [upd_ne (by decide), upd_ne (by decide), f2 0 (by decide) (by decide) (by decide) (by decide), upd_eq]
    · rw [upd_eq]
    · rw [ez]
      exact ⟨rfl, by rw [upd_ne (by decide), upd_eq], by rw [upd_ne (by decide), upd_ne (by decide), f2 27 (by decide) (by decide) (by decide) (by decide), upd_ne (by decide)], f3 28 (by decide) (by decide) (by decide) (by decide) (by decide)⟩
  | some b =>
    have hb : b < m ^ nh := g2 b rfl
    refine ⟨x, upd (upd (upd I1 27 1) 1 0) 2 (-1), va_up A1 28 (zit (zshF m nh b) 0 m (A1 28)), A1 29, A1 30, iX13_share (by omega) zmS_o (st.trans ?_), fun a a0 a1 a2 a3 a4 a5 a6 a7 => ?_, fun a a1 a2 a3 a4 a5 a6 => ?_, P0, ?_, ?_, ?_⟩
    · rw [show zob (some b) = nI b from rfl, if_neg (zob_ne (by omega)), zP_27, Option.bind_some]
      exact kX13_s212 E ht (by omega) hm m0 em hnh en (by omega) x y w6 w7 w8 w9 m 0 A1 w5 (by omega)
    · rw [upd_ne a2, upd_ne a1, upd_ne a7, f2 a a3 a4 a5 a6, upd_ne a0]
    · rw [va_up_ne _ _ a4, f3 a a1 a2 a3 a5 a6]
    · rw [upd_ne (by decide), upd_ne (by decide), upd_ne (by decide), f2 0 (by decide) (by decide) (by decide) (by decide), upd_eq]
    · rw [upd_eq]
    · rw [ez]
      refine ⟨rfl, by rw [upd_ne (by decide), upd_eq], by rw [upd_ne (by decide), upd_ne (by decide), upd_eq], ?_, hb⟩
      rw [va_up_self, f3 28 (by decide) (by decide) (by decide) (by decide) (by decide)]
end NZSF
