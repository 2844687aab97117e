/-! what a token is; is it a word, a name -/
def zlet (x : Int32) : Prop := ∃ a, a < 26 ∧ x = nI (97 + a)
def zTw (tp : Nat → Int32) (L : Nat) (k : ztkn) : Prop := k.2.1 ≤ k.2.2.1 ∧ k.2.2.1 ≤ L ∧ (k.1 = 3 → k.2.2.1 = k.2.1 + 1) ∧ (k.1 = 1 → k.2.2.1 - k.2.1 ≤ 8 ∧ k.2.2.2.1 = zpkG (fun i => tp (k.2.1 + i)) (k.2.2.1 - k.2.1) ∧ ∀ i, i < k.2.2.1 - k.2.1 → zlet (tp (k.2.1 + i))) ∧ (k.1 = 2 → ∃ v, v < 1000 ∧ k.2.2.2.2.2 = nI v)
theorem zlet_of {x : Int32} (h1 : ¬ x < 97) (h2 : ¬ 122 < x) : zlet x := by
  have h0 : ¬ x < 0 := by
    intro z
    rw [Int32.lt_iff_toInt_lt] at z h1
    have e1 : (97 : Int32).toInt = 97 := by decide
    have e2 : (0 : Int32).toInt = 0 := by decide
    omega
  obtain ⟨j, hj, rfl⟩ := nI_of h0
  rw [show (97 : Int32) = nI 97 from rfl, nI_ltI hj (by decide)] at h1
  rw [show (122 : Int32) = nI 122 from rfl, nI_ltI (by decide) hj] at h2
  exact ⟨j - 97, by omega, congrArg nI (by omega)⟩
theorem zdig_of {x : Int32} (h1 : ¬ x < 48) (h2 : ¬ 57 < x) : ∃ a, a < 10 ∧ x = nI (48 + a) := by
  have h0 : ¬ x < 0 := by
    intro z
    rw [Int32.lt_iff_toInt_lt] at z h1
    have e1 : (48 : Int32).toInt = 48 := by decide
    have e2 : (0 : Int32).toInt = 0 := by decide
    omega
  obtain ⟨j, hj, rfl⟩ := nI_of h0
  rw [show (48 : Int32) = nI 48 from rfl, nI_ltI hj (by decide)] at h1
  rw [show (57 : Int32) = nI 57 from rfl, nI_ltI (by decide) hj] at h2
  exact ⟨j - 48, by omega, congrArg nI (by omega)⟩
theorem zwrd_pk (tp : Nat → Int32) (p : Nat) : ∀ (j e : Nat) (pk : Int64) (le : Int32), p ≤ e → pk = zpkG (fun i => tp (p + i)) (e - p) → (∀ i, i < e - p → zlet (tp (p + i))) → (zwrd tp j e pk le).2.1 = zpkG (fun i => tp (p + i)) ((zwrd tp j e pk le).1 - p) ∧ ∀ i, i < (zwrd tp j e pk le).1 - p → zlet (tp (p + i)) := by
  intro j
  induction j with
  | zero => intro e pk le hp e1 e2; exact ⟨e1, e2⟩
  | succ j ih =>
    intro e pk le hp e1 e2
    rw [zwrd]
    by_cases y1 : tp e < 97
    · rw [if_pos y1]; exact ⟨e1, e2⟩
    · rw [if_neg y1]
      by_cases y2 : 122 < tp e
      · rw [if_pos y2]; exact ⟨e1, e2⟩
      · rw [if_neg y2]
        have ep : p + (e - p) = e := by omega
        refine ih (e + 1) _ _ (by omega) ?_ (fun i hi => ?_)
        · rw [show e + 1 - p = (e - p) + 1 by omega, zpkG, ← e1, ep]
        · by_cases z : i < e - p
          · exact e2 i z
          · rw [show p + i = e by omega]
            exact zlet_of y1 y2
theorem zwho_v (tp : Nat → Int32) (p : Nat) : ∀ (j e : Nat) (v : Int32), p ≤ e → (e - p ≤ 3 → ∃ w, w < 10 ^ (e - p) ∧ v = nI w) → ((zwho tp j e v).1 - p ≤ 3 → ∃ w, w < 10 ^ ((zwho tp j e v).1 - p) ∧ (zwho tp j e v).2 = nI w) := by
  intro j
  induction j with
  | zero => intro e v hp e1; exact e1
  | succ j ih =>
    intro e v hp e1
    rw [zwho]
    by_cases y1 : tp e < 48
    · rw [if_pos y1]; exact e1
    · rw [if_neg y1]
      by_cases y2 : 57 < tp e
      · rw [if_pos y2]; exact e1
      · rw [if_neg y2]
        refine ih (e + 1) _ (by omega) (fun q => ?_)
        obtain ⟨w, w1, w2⟩ := e1 (by omega)
        obtain ⟨a, a1, a2⟩ := zdig_of y1 y2
        refine ⟨w * 10 + a, ?_, ?_⟩
        · rw [show e + 1 - p = (e - p) + 1 by omega, Nat.pow_succ]
          omega
        · rw [w2, a2, show (10 : Int32) = nI 10 from rfl, pk_mul, nI_add, show (48 : Int32) = nI 48 from rfl, nI_sub (by omega), show w * 10 + (48 + a) - 48 = w * 10 + a by omega]
theorem ztok_w (tp : Nat → Int32) {L p : Nat} (hp : p ≤ L) (s : Int64 × Int32 × Int32) : zTw tp L (ztok tp L p s) ∧ p ≤ (ztok tp L p s).2.1 := by
  have zl := zskp_le tp (L - p) p
  rw [ztok]
  generalize zskp tp (L - p) p = q at zl
  by_cases y0 : q < L
  · rw [if_pos y0]
    by_cases y1 : tp q < 97 ∨ 122 < tp q
    · rw [if_pos y1]
      by_cases y2 : tp q < 48 ∨ 57 < tp q
      · rw [if_pos y2]
        refine ⟨⟨Nat.le_succ q, by dsimp only; omega, fun _ => rfl, fun z => ?_, fun z => ?_⟩, zl.1⟩
        · dsimp only at z
          split at z
          · exact absurd z (by decide)
          · split at z <;> exact absurd z (by decide)
        · dsimp only at z
          split at z
          · exact absurd z (by decide)
          · split at z <;> exact absurd z (by decide)
      · rw [if_neg y2]
        have l1 := zwho_le tp (L - q) q 0
        refine ⟨⟨l1.1, by dsimp only; omega, fun z => ?_, fun z => ?_, fun z => ?_⟩, zl.1⟩
        · dsimp only at z
          split at z <;> exact absurd z (by decide)
        · dsimp only at z
          split at z <;> exact absurd z (by decide)
        · dsimp only at z ⊢
          split at z
          · exact absurd z (by decide)
          · rename_i y3
            obtain ⟨w, w1, w2⟩ := zwho_v tp q (L - q) q 0 (Nat.le_refl q) (fun _ => ⟨0, by rw [Nat.sub_self]; decide, rfl⟩) (by omega)
            have : (10 : Nat) ^ ((zwho tp (L - q) q 0).1 - q) ≤ 10 ^ 3 := Nat.pow_le_pow_right (by decide) (by omega)
            exact ⟨w, by omega, w2⟩
    · rw [if_neg y1]
      have l1 := zwrd_le tp (L - q) q 0 0
      refine ⟨⟨l1.1, by dsimp only; omega, fun z => ?_, fun z => ?_, fun z => ?_⟩, zl.1⟩
      · dsimp only at z
        split at z <;> exact absurd z (by decide)
      · dsimp only at z ⊢
        split at z
        · exact absurd z (by decide)
        · rename_i y3
          obtain ⟨w1, w2⟩ := zwrd_pk tp q (L - q) q 0 0 (Nat.le_refl q) (by rw [Nat.sub_self]; rfl) (fun i hi => by omega)
          exact ⟨by omega, w1, w2⟩
      · dsimp only at z
        split at z <;> exact absurd z (by decide)
  · rw [if_neg y0]
    exact ⟨⟨Nat.le_refl _, by dsimp only; omega, fun z => absurd z (by dsimp only; decide), fun z => absurd z (by dsimp only; decide), fun z => absurd z (by dsimp only; decide)⟩, zl.1⟩
theorem zspl_iff (tp : Nat → Int32) (p : Nat) (l : List Nat) : ∀ (j i : Nat), zspl tp p l i j = true ↔ ∀ q, i ≤ q → q < i + j → tp (p + q) = nI (l.getD q 0) := by
  intro j
  induction j with
  | zero => intro i; exact ⟨fun _ q h1 h2 => by omega, fun _ => rfl⟩
  | succ j ih =>
    intro i
    rw [zspl]
    by_cases y : tp (p + i) = nI (l.getD i 0)
    · rw [if_pos y, ih (i + 1)]
      constructor
      · intro e q h1 h2
        by_cases z : q = i
        · rw [z]; exact y
        · exact e q (by omega) (by omega)
      · intro e q h1 h2
        exact e q (by omega) (by omega)
    · rw [if_neg y]
      exact ⟨fun z => absurd z (by decide), fun e => absurd (e i (Nat.le_refl _) (by omega)) y⟩
theorem zlet1 : ∀ a, a < 26 → (nI (97 + a) - 97 + 1).toInt64 = (nI (97 + a) - 97).toInt64 + 1 := by decide +kernel
/-- is the token the word l, by what is packed -/
theorem zisw_iff {tp : Nat → Int32} {L : Nat} {k : ztkn} (w : zTw tp L k) {l : List Nat} (hl : l.length ≤ 8) (hc : ∀ j, j < l.length → 97 ≤ l.getD j 0 ∧ l.getD j 0 ≤ 122) : zisw tp k.1 k.2.1 k.2.2.1 l = true ↔ k.1 = 1 ∧ k.2.2.2.1 = zpkG (fun i => nI (l.getD i 0)) l.length := by
  rw [zisw, Bool.and_eq_true, Bool.and_eq_true, decide_eq_true_eq, decide_eq_true_eq, zspl_iff]
  constructor
  · intro ⟨h1, h2, h3⟩
    obtain ⟨w1, w2, w3⟩ := w.2.2.2.1 h1
    refine ⟨h1, ?_⟩
    rw [w2]
    refine (zpkG_inj w1 hl w3 (fun i hi => ⟨l.getD i 0 - 97, by have := hc i hi; omega, congrArg nI (by have := hc i hi; omega)⟩)).mpr ⟨h2.symm, fun i hi => h3 i (Nat.zero_le _) (by omega)⟩
  · intro ⟨h1, h2⟩
    obtain ⟨w1, w2, w3⟩ := w.2.2.2.1 h1
    rw [w2] at h2
    obtain ⟨h3, h4⟩ := (zpkG_inj w1 hl w3 (fun i hi => ⟨l.getD i 0 - 97, by have := hc i hi; omega, congrArg nI (by have := hc i hi; omega)⟩)).mp h2
    exact ⟨h1, h3.symm, fun q _ hq => h4 q (by omega)⟩
theorem zTr_9 {k : ztkn} {I : Nat → Int32} {W : Int64} (T : zTr k I W) : (I 9 = 2 ↔ k.1 = 1) ∧ (I 9 = 3 ↔ k.1 = 2) ∧ (I 9 = 1 ↔ k.1 = 0) ∧ ¬ I 9 = 5 ∧ (I 9 = 4 ∧ I 11 = 59 ↔ k.1 = 3) ∧ (I 9 = 4 ∧ I 11 = 44 ↔ k.1 = 4) := by
  obtain ⟨t10, t8, t0, t1, t2, t3, t4, t5, m, hm, e⟩ := T
  rcases (show m = 0 ∨ m = 1 ∨ m = 2 ∨ m = 3 ∨ m = 4 ∨ m = 5 by omega) with rfl | rfl | rfl | rfl | rfl | rfl
  · rw [e, t0 e]; exact ⟨by decide, by decide, by decide, by decide, ⟨fun z => absurd z.1 (by decide), fun z => absurd z (by decide)⟩, ⟨fun z => absurd z.1 (by decide), fun z => absurd z (by decide)⟩⟩
  · rw [e, (t1 e).1]; exact ⟨by decide, by decide, by decide, by decide, ⟨fun z => absurd z.1 (by decide), fun z => absurd z (by decide)⟩, ⟨fun z => absurd z.1 (by decide), fun z => absurd z (by decide)⟩⟩
  · rw [e, (t2 e).1]; exact ⟨by decide, by decide, by decide, by decide, ⟨fun z => absurd z.1 (by decide), fun z => absurd z (by decide)⟩, ⟨fun z => absurd z.1 (by decide), fun z => absurd z (by decide)⟩⟩
  · rw [e, (t3 e).1, (t3 e).2]; decide
  · rw [e, (t4 e).1, (t4 e).2]; decide
  · rw [e, t5 e]; exact ⟨by decide, by decide, by decide, by decide, ⟨fun z => absurd z.1 (by decide), fun z => absurd z (by decide)⟩, ⟨fun z => absurd z.1 (by decide), fun z => absurd z (by decide)⟩⟩
section NZIW
variable {d : Nat} {h : nzH} {F0 : Nat → Value} {td rd : Option Nat} {tp : Nat → Int32} {A : Nat → Nat → Int32} {L : Nat}
theorem kX13_wo4 {k : UInt32} {l : List Nat} (s : zstr k l) (hd : 3 < d) : ∀ (j i : Nat), i + j = l.length → nzr d nX13_wordOf 4 [some (.float k), some (.long (zpkG (fun i => nI (l.getD i 0)) i)), none, some (.int (nI i))] [] h = some (some (.long (zpkG (fun i => nI (l.getD i 0)) l.length)), h) := by
  have hl := s.2.2.2.2.2.1
  intro j
  induction j with
  | zero =>
    intro i hi
    rw [eX13_wordOf_4, jJ0_length s (by omega), Option.bind_some, if_pos (nI_le (by omega) (by omega)), show i = l.length by omega]
  | succ j ih =>
    intro i hi
    have hc := s.2.2.2.2.2.2 i (by omega)
    have e := zlet1 (l.getD i 0 - 97) (by omega)
    rw [show 97 + (l.getD i 0 - 97) = l.getD i 0 by omega] at e
    rw [eX13_wordOf_4, jJ0_length s (by omega), Option.bind_some, if_neg (nI_ge (by omega) (by omega)), jJ0_charAt s (by omega) (show i < l.length by omega), Option.bind_some, nI_1]
    dsimp only
    rw [e, ← ih (i + 1) (by omega), zpkG, Int64.mul_comm, Int64.add_assoc]
theorem kX13_wordOf {k : UInt32} {l : List Nat} (s : zstr k l) (hd : 4 < d) : nzxL d nX13_wordOf [.float k] h = some (zpkG (fun i => nI (l.getD i 0)) l.length, h) := by
  refine iX13_wordOf (by omega) ?_
  rw [eX13_wordOf_0]
  exact kX13_wo4 s (by omega) l.length 0 (by omega)
theorem kX13_isWord {q : UInt32} {l : List Nat} (s : zstr q l) (hd : 5 < d) (hl : l.length ≤ 8) {I : Nat → Int32} {W : Int64} {k : ztkn} (T : zTr k I W) (w : zTw tp L k) : nzxI d nX13_isWord [.ref 73, .float q] (zmS h F0 I W td rd tp A) = some (if zisw tp k.1 k.2.1 k.2.2.1 l then 1 else 0, zmS h F0 I W td rd tp A) := by
  have ii := zisw_iff w hl s.2.2.2.2.2.2
  have t9 := zTr_9 T
  refine iX13_isWord (by omega) zmS_o ?_
  rw [eX13_isWord_0, zI_9, Option.bind_some, zIW, Option.bind_some, kX13_wordOf s (by omega), Option.bind_some, eX13_isWord_24]
  by_cases y : k.1 = 1
  · rw [if_pos (t9.1.mpr y), (T.2.2.2.1 y).2.1]
    by_cases z : k.2.2.2.1 = zpkG (fun i => nI (l.getD i 0)) l.length
    · rw [if_pos ((lg_cmp_eq _ _).mpr z), if_pos (ii.mpr ⟨y, z⟩)]
    · rw [if_neg (fun x => z ((lg_cmp_eq _ _).mp x)), if_neg (fun x => z (ii.mp x).2)]
  · rw [if_neg (fun x => y (t9.1.mp x)), if_neg (fun x => y (ii.mp x).1)]
theorem kX13_isWord5 {q : UInt32} (hd : 0 < d) {I : Nat → Int32} {W : Int64} (e9 : I 9 = 5) : nzxI d nX13_isWord [.ref 73, .float q] (zmS h F0 I W td rd tp A) = some (0, zmS h F0 I W td rd tp A) := by
  refine iX13_isWord (by omega) zmS_o ?_
  rw [eX13_isWord_0, zI_9, Option.bind_some, e9, if_neg (by decide), eX13_isWord_24]
end NZIW
