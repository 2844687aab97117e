/-! the reference: goesOn; words are the same if their packed letters are -/
theorem zTr_0 {pl en : Nat} {s : Int64 × Int32 × Int32} {I : Nat → Int32} {W : Int64} (a : I 10 = nI pl) (b : I 8 = nI en) (c : I 9 = 1) : zTr (0, pl, en, s) I W := ⟨a, fun _ => b, fun _ => c, fun z => absurd z (by dsimp only; decide), fun z => absurd z (by dsimp only; decide), fun z => absurd z (by dsimp only; decide), fun z => absurd z (by dsimp only; decide), fun z => absurd z (by dsimp only; decide), 0, by decide, rfl⟩
theorem zTr_1 {pl en : Nat} {pk : Int64} {le va : Int32} {I : Nat → Int32} {W : Int64} (a : I 10 = nI pl) (b : I 8 = nI en) (c : I 9 = 2) (e : W = pk) (f : I 15 = le) : zTr (1, pl, en, pk, le, va) I W := ⟨a, fun _ => b, fun z => absurd z (by dsimp only; decide), fun _ => ⟨c, e, f⟩, fun z => absurd z (by dsimp only; decide), fun z => absurd z (by dsimp only; decide), fun z => absurd z (by dsimp only; decide), fun z => absurd z (by dsimp only; decide), 1, by decide, rfl⟩
theorem zTr_2 {pl en : Nat} {pk : Int64} {le va : Int32} {I : Nat → Int32} {W : Int64} (a : I 10 = nI pl) (b : I 8 = nI en) (c : I 9 = 3) (e : I 12 = va) : zTr (2, pl, en, pk, le, va) I W := ⟨a, fun _ => b, fun z => absurd z (by dsimp only; decide), fun z => absurd z (by dsimp only; decide), fun _ => ⟨c, e⟩, fun z => absurd z (by dsimp only; decide), fun z => absurd z (by dsimp only; decide), fun z => absurd z (by dsimp only; decide), 2, by decide, rfl⟩
theorem zTr_3 {pl en : Nat} {s : Int64 × Int32 × Int32} {I : Nat → Int32} {W : Int64} (a : I 10 = nI pl) (b : I 8 = nI en) (c : I 9 = 4) (e : I 11 = 59) : zTr (3, pl, en, s) I W := ⟨a, fun _ => b, fun z => absurd z (by dsimp only; decide), fun z => absurd z (by dsimp only; decide), fun z => absurd z (by dsimp only; decide), fun _ => ⟨c, e⟩, fun z => absurd z (by dsimp only; decide), fun z => absurd z (by dsimp only; decide), 3, by decide, rfl⟩
theorem zTr_4 {pl en : Nat} {s : Int64 × Int32 × Int32} {I : Nat → Int32} {W : Int64} (a : I 10 = nI pl) (b : I 8 = nI en) (c : I 9 = 4) (e : I 11 = 44) : zTr (4, pl, en, s) I W := ⟨a, fun _ => b, fun z => absurd z (by dsimp only; decide), fun z => absurd z (by dsimp only; decide), fun z => absurd z (by dsimp only; decide), fun z => absurd z (by dsimp only; decide), fun _ => ⟨c, e⟩, fun z => absurd z (by dsimp only; decide), 4, by decide, rfl⟩
theorem zTr_5 {pl en : Nat} {s : Int64 × Int32 × Int32} {I : Nat → Int32} {W : Int64} (a : I 10 = nI pl) (c : I 9 = 0) : zTr (5, pl, en, s) I W := ⟨a, fun z => absurd rfl z, fun z => absurd z (by dsimp only; decide), fun z => absurd z (by dsimp only; decide), fun z => absurd z (by dsimp only; decide), fun z => absurd z (by dsimp only; decide), fun z => absurd z (by dsimp only; decide), fun _ => c, 5, by decide, rfl⟩
section NZGO
variable {d : Nat} {h : nzH} {F0 : Nat → Value} {td rd : Option Nat} {tp : Nat → Int32} {A : Nat → Nat → Int32} {L : Nat}
theorem kX13_goesOn (hd : 1 < d) (hL : L ≤ 900) (hb : ∀ i, zby (tp i)) {I : Nat → Int32} {W : Int64} (e7 : I 7 = nI L) {p : Nat} (hp : p ≤ L) (e8 : I 8 = nI p) (e9 : ¬ I 9 = 5) (s : Int64 × Int32 × Int32) : ∃ I' W', nzxV d nX13_goesOn [.ref 73] (zmS h F0 I W td rd tp A) = some (zmS h F0 I' W' td rd tp A) ∧ (∀ a, a ≠ 8 → a ≠ 9 → a ≠ 10 → a ≠ 11 → a ≠ 12 → a ≠ 15 → I' a = I a) ∧ zTr (ztok tp L p s) I' W' := by
  have zl := zskp_le tp (L - p) p
  have za := zskp_at tp (L - p) p L (by omega)
  have st : nzr (d - 1) nX13_goesOn 0 [some (.ref 73), none, none] [] (zmS h F0 I W td rd tp A) = nzr (d - 1) nX13_goesOn 9 [some (.ref 73), none, none] [] (zmS h F0 (upd I 8 (nI (zskp tp (L - p) p))) W td rd tp A) := by
    rw [eX13_goesOn_0, zI_9, Option.bind_some, if_neg e9, kX13_gn9 (by omega) hL hb (L - p) p I (by omega) e7 e8]
  rw [ztok]
  generalize zskp tp (L - p) p = q at zl za st
  have s7 : upd I 8 (nI q) 7 = nI L := by rw [upd_ne (by decide)]; exact e7
  have s7' : upd (upd (upd (upd I 8 (nI q)) 10 (nI q)) 9 0) 11 0 7 = nI L := by rw [upd_ne (by decide), upd_ne (by decide), upd_ne (by decide)]; exact s7
  have s8' : upd (upd (upd (upd I 8 (nI q)) 10 (nI q)) 9 0) 11 0 8 = nI q := by rw [upd_ne (by decide), upd_ne (by decide), upd_ne (by decide), upd_eq]
  have s10 : upd (upd (upd (upd I 8 (nI q)) 10 (nI q)) 9 0) 11 0 10 = nI q := by rw [upd_ne (by decide), upd_ne (by decide), upd_eq]
  have s9 : upd (upd (upd (upd I 8 (nI q)) 10 (nI q)) 9 0) 11 0 9 = 0 := by rw [upd_ne (by decide), upd_eq]
  have sa : ∀ a, a ≠ 8 → a ≠ 9 → a ≠ 10 → a ≠ 11 → upd (upd (upd (upd I 8 (nI q)) 10 (nI q)) 9 0) 11 0 a = I a := fun a a1 a2 a3 a4 => by rw [upd_ne a4, upd_ne a2, upd_ne a3, upd_ne a1]
  rcases za with za | ⟨za, zn⟩
  · subst za
    rw [eX13_goesOn_9, zI_8, Option.bind_some, upd_eq, kX13_byteAt (by omega) hL s7 (Nat.le_refl _), Option.bind_some, if_neg (Nat.lt_irrefl _), if_neg (show ¬ (-1 : Int32) = 32 by decide), zI_8, Option.bind_some, upd_eq, zP_10, Option.bind_some, zP_9, Option.bind_some, zP_11, Option.bind_some, zI_8, Option.bind_some, s8', kX13_byteAt (by omega) hL s7' (Nat.le_refl _), Option.bind_some, if_neg (Nat.lt_irrefl _), if_pos rfl, zP_9, Option.bind_some] at st
    rw [if_neg (Nat.lt_irrefl _)]
    exact ⟨_, _, iX13_goesOn (by omega) zmS_o st, fun a a1 a2 a3 a4 a5 a6 => by rw [upd_ne a2]; exact sa a a1 a2 a3 a4, zTr_0 (by rw [upd_ne (by decide)]; exact s10) (by rw [upd_ne (by decide)]; exact s8') (upd_eq _ _ _)⟩
  · have g := zbyG (hb q)
    rw [eX13_goesOn_9, zI_8, Option.bind_some, upd_eq, kX13_byteAt (by omega) hL s7 (by omega), Option.bind_some, if_pos za, if_neg (fun z => zn (g.1.mp z)), zI_8, Option.bind_some, upd_eq, zP_10, Option.bind_some, zP_9, Option.bind_some, zP_11, Option.bind_some, zI_8, Option.bind_some, s8', kX13_byteAt (by omega) hL s7' (by omega), Option.bind_some, if_pos za, if_neg g.2.1, kX13_isLetter (by omega), Option.bind_some] at st
    rw [if_pos za]
    by_cases y1 : tp q < 97 ∨ 122 < tp q
    · rw [if_pos (g.2.2.1.mpr y1), if_pos rfl, kX13_isDigit (by omega), Option.bind_some] at st
      rw [if_pos y1]
      by_cases y2 : tp q < 48 ∨ 57 < tp q
      · rw [if_pos (g.2.2.2.1.mpr y2), if_pos rfl] at st
        rw [if_pos y2]
        by_cases y3 : tp q = 59
        · rw [if_pos (g.2.2.2.2.1.mpr y3), eX13_goesOn_288, zP_9, Option.bind_some, zP_11, Option.bind_some, zI_8, Option.bind_some, upd_ne (show 8 ≠ 11 by decide), upd_ne (show 8 ≠ 9 by decide), s8', nI_1, zP_8, Option.bind_some] at st
          rw [if_pos y3]
          exact ⟨_, _, iX13_goesOn (by omega) zmS_o st, fun a a1 a2 a3 a4 a5 a6 => by rw [upd_ne a1, upd_ne a4, upd_ne a2]; exact sa a a1 a2 a3 a4, zTr_3 (by rw [upd_ne (by decide), upd_ne (by decide), upd_ne (by decide)]; exact s10) (upd_eq _ _ _) (by rw [upd_ne (by decide), upd_ne (by decide), upd_eq]) (by rw [upd_ne (by decide), upd_eq]; exact g.2.2.2.2.1.mpr y3)⟩
        · rw [if_neg (fun z => y3 (g.2.2.2.2.1.mp z))] at st
          rw [if_neg y3]
          by_cases y4 : tp q = 44
          · rw [if_pos (g.2.2.2.2.2.1.mpr y4), eX13_goesOn_288, zP_9, Option.bind_some, zP_11, Option.bind_some, zI_8, Option.bind_some, upd_ne (show 8 ≠ 11 by decide), upd_ne (show 8 ≠ 9 by decide), s8', nI_1, zP_8, Option.bind_some] at st
            rw [if_pos y4]
            exact ⟨_, _, iX13_goesOn (by omega) zmS_o st, fun a a1 a2 a3 a4 a5 a6 => by rw [upd_ne a1, upd_ne a4, upd_ne a2]; exact sa a a1 a2 a3 a4, zTr_4 (by rw [upd_ne (by decide), upd_ne (by decide), upd_ne (by decide)]; exact s10) (upd_eq _ _ _) (by rw [upd_ne (by decide), upd_ne (by decide), upd_eq]) (by rw [upd_ne (by decide), upd_eq]; exact g.2.2.2.2.2.1.mpr y4)⟩
          · rw [if_neg (fun z => y4 (g.2.2.2.2.2.1.mp z))] at st
            rw [if_neg y4]
            exact ⟨_, _, iX13_goesOn (by omega) zmS_o st, fun a a1 a2 a3 a4 a5 a6 => sa a a1 a2 a3 a4, zTr_5 s10 s9⟩
      · rw [if_neg (fun z => y2 (g.2.2.2.1.mp z)), if_neg (show ¬ (1 : Int32) = 0 by decide), zP_12, Option.bind_some, show (0 : Int32) = nI 0 from rfl] at st
        rw [if_neg y2]
        obtain ⟨I', q1, q2, q3, q4⟩ := kX13_gn205 (d := d - 1) (h := h) (F0 := F0) (td := td) (rd := rd) (A := A) (W := W) (by omega) hL hb (tp q &&& 255) (L - q) q 0 (upd (upd (upd (upd (upd I 8 (nI q)) 10 (nI q)) 9 0) 11 0) 12 0) 0 (by omega) (Nat.zero_le _) (by rw [upd_ne (by decide)]; exact s7') (by rw [upd_ne (by decide)]; exact s8') (fun _ => upd_eq _ _ _)
        refine ⟨I', W, iX13_goesOn (by omega) zmS_o (st.trans q1), fun a a1 a2 a3 a4 a5 a6 => by rw [q2 a a1 a2 a5, upd_ne a5]; exact sa a a1 a2 a3 a4, ?_⟩
        have p10 : I' 10 = nI q := by rw [q2 10 (by decide) (by decide) (by decide), upd_ne (by decide)]; exact s10
        rw [Nat.zero_add] at q4
        by_cases y5 : 3 < (zwho tp (L - q) q 0).1 - q
        · rw [if_pos y5] at q4 ⊢
          exact zTr_5 p10 (by rw [q4, upd_ne (by decide)]; exact s9)
        · rw [if_neg y5] at q4 ⊢
          exact zTr_2 p10 q3 q4.1 q4.2
    · rw [if_neg (fun z => y1 (g.2.2.1.mp z)), if_neg (show ¬ (1 : Int32) = 0 by decide), zPW, Option.bind_some, zP_15, Option.bind_some, show (0 : Int32) = nI 0 from rfl] at st
      rw [if_neg y1]
      obtain ⟨I', W', q1, q2, q3, q4, q5⟩ := kX13_gn94 (d := d - 1) (h := h) (F0 := F0) (td := td) (rd := rd) (A := A) (by omega) hL hb (tp q &&& 255) (L - q) q 0 (upd (upd (upd (upd (upd I 8 (nI q)) 10 (nI q)) 9 0) 11 0) 15 0) 0 0 0 (by omega) (Nat.zero_le _) (by rw [upd_ne (by decide)]; exact s7') (by rw [upd_ne (by decide)]; exact s8') (upd_eq _ _ _) (fun _ => rfl)
      refine ⟨I', W', iX13_goesOn (by omega) zmS_o (st.trans q1), fun a a1 a2 a3 a4 a5 a6 => by rw [q2 a a1 a2 a6, upd_ne a6]; exact sa a a1 a2 a3 a4, ?_⟩
      have p10 : I' 10 = nI q := by rw [q2 10 (by decide) (by decide) (by decide), upd_ne (by decide)]; exact s10
      rw [Nat.zero_add] at q5
      by_cases y5 : 8 < (zwrd tp (L - q) q 0 0).1 - q
      · rw [if_pos y5] at q5 ⊢
        exact zTr_5 p10 (by rw [q5, upd_ne (by decide)]; exact s9)
      · rw [if_neg y5] at q5 ⊢
        exact zTr_1 p10 q3 q5.1 q5.2 q4
/-- when it is over, nothing goes on -/
theorem kX13_goesOn5 (hd : 0 < d) {I : Nat → Int32} {W : Int64} (e9 : I 9 = 5) : nzxV d nX13_goesOn [.ref 73] (zmS h F0 I W td rd tp A) = some (zmS h F0 I W td rd tp A) := by
  refine iX13_goesOn hd zmS_o ?_
  rw [eX13_goesOn_0, zI_9, Option.bind_some, if_pos e9]
theorem kX13_wrong5 (hd : 0 < d) {I : Nat → Int32} {W : Int64} (e9 : I 9 = 5) (x : Int32) : nzxV d nX13_wrong [.ref 73, .int x] (zmS h F0 I W td rd tp A) = some (zmS h F0 I W td rd tp A) := by
  refine iX13_wrong hd zmS_o ?_
  rw [eX13_wrong_0, zI_9, Option.bind_some, if_pos e9]
theorem kX13_wrong (hd : 0 < d) {I : Nat → Int32} {W : Int64} (e9 : ¬ I 9 = 5) (x : Int32) : nzxV d nX13_wrong [.ref 73, .int x] (zmS h F0 I W td rd tp A) = some (zmS h F0 (upd (upd (upd I 13 x) 14 (I 10)) 9 5) W td rd tp A) := by
  refine iX13_wrong hd zmS_o ?_
  rw [eX13_wrong_0, zI_9, Option.bind_some, if_neg e9, zP_13, Option.bind_some, zI_10, Option.bind_some, upd_ne (show 10 ≠ 13 by decide), zP_14, Option.bind_some, zP_9, Option.bind_some]
end NZGO
/-- letters packed -/
def zpkG (f : Nat → Int32) : Nat → Int64
  | 0 => 0
  | m + 1 => zpkG f m * 32 + (f m - 97).toInt64 + 1
def zpkM (a : Nat → Nat) : Nat → Nat
  | 0 => 0
  | m + 1 => zpkM a m * 32 + a m + 1
theorem zpkM_lt {a : Nat → Nat} : ∀ m, (∀ i, i < m → a i < 26) → zpkM a m < 32 ^ m
  | 0, _ => by rw [zpkM]; decide
  | m + 1, e => by
    have h1 := zpkM_lt m (fun i hi => e i (by omega))
    have h2 := e m (by omega)
    rw [zpkM, Nat.pow_succ]
    omega
theorem zpkG_M {f : Nat → Int32} {a : Nat → Nat} : ∀ m, (∀ i, i < m → f i = nI (97 + a i) ∧ a i < 26) → zpkG f m = lN (zpkM a m)
  | 0, _ => rfl
  | m + 1, e => by
    have h1 := zpkG_M m (fun i hi => e i (by omega))
    obtain ⟨h2, h3⟩ := e m (by omega)
    have e1 : nI (97 + a m) - 97 = nI (a m) := by
      rw [show (97 : Int32) = nI 97 from rfl, nI_sub (by omega), Nat.add_sub_cancel_left]
    rw [zpkG, zpkM, h1, h2, e1, nI_l (by omega), show (32 : Int64) = lN 32 from rfl, lN_mul, lN_add, lN_1]
theorem zpkM_inj {a b : Nat → Nat} : ∀ m n, (∀ i, i < m → a i < 26) → (∀ i, i < n → b i < 26) → zpkM a m = zpkM b n → m = n ∧ ∀ i, i < m → a i = b i
  | 0, 0, _, _, _ => ⟨rfl, fun i hi => absurd hi (Nat.not_lt_zero i)⟩
  | 0, n + 1, _, _, e => by rw [zpkM, zpkM] at e; omega
  | m + 1, 0, _, _, e => by rw [zpkM, zpkM] at e; omega
  | m + 1, n + 1, ha, hb, e => by
    rw [zpkM, zpkM] at e
    have h1 := ha m (by omega)
    have h2 := hb n (by omega)
    have e1 : a m = b n := by omega
    have e2 : zpkM a m = zpkM b n := by omega
    obtain ⟨h3, h4⟩ := zpkM_inj m n (fun i hi => ha i (by omega)) (fun i hi => hb i (by omega)) e2
    subst h3
    refine ⟨rfl, fun i hi => ?_⟩
    by_cases z : i = m
    · rw [z, e1]
    · exact h4 i (by omega)
theorem zpkG_inj {f g : Nat → Int32} {m n : Nat} (hm : m ≤ 8) (hn : n ≤ 8) (hf : ∀ i, i < m → ∃ a, a < 26 ∧ f i = nI (97 + a)) (hg : ∀ i, i < n → ∃ a, a < 26 ∧ g i = nI (97 + a)) : zpkG f m = zpkG g n ↔ m = n ∧ ∀ i, i < m → f i = g i := by
  have cf : ∃ a : Nat → Nat, ∀ i, i < m → f i = nI (97 + a i) ∧ a i < 26 := by
    refine ⟨fun i => if h : i < m then (hf i h).choose else 0, fun i hi => ?_⟩
    dsimp only; rw [dif_pos hi]
    exact ⟨(hf i hi).choose_spec.2, (hf i hi).choose_spec.1⟩
  have cg : ∃ a : Nat → Nat, ∀ i, i < n → g i = nI (97 + a i) ∧ a i < 26 := by
    refine ⟨fun i => if h : i < n then (hg i h).choose else 0, fun i hi => ?_⟩
    dsimp only; rw [dif_pos hi]
    exact ⟨(hg i hi).choose_spec.2, (hg i hi).choose_spec.1⟩
  obtain ⟨a, ea⟩ := cf
  obtain ⟨b, eb⟩ := cg
  have l1 := zpkM_lt m (fun i hi => (ea i hi).2)
  have l2 := zpkM_lt n (fun i hi => (eb i hi).2)
  have p1 : (32 : Nat) ^ m ≤ 32 ^ 8 := Nat.pow_le_pow_right (by decide) hm
  have p2 : (32 : Nat) ^ n ≤ 32 ^ 8 := Nat.pow_le_pow_right (by decide) hn
  have p3 : (32 : Nat) ^ 8 < 2 ^ 63 := by decide
  rw [zpkG_M m ea, zpkG_M n eb, pk_lEQ (by omega) (by omega)]
  constructor
  · intro e
    obtain ⟨h1, h2⟩ := zpkM_inj m n (fun i hi => (ea i hi).2) (fun i hi => (eb i hi).2) e
    exact ⟨h1, fun i hi => by rw [(ea i hi).1, (eb i (by omega)).1, h2 i hi]⟩
  · intro ⟨h1, h2⟩
    subst h1
    have : ∀ k, k ≤ m → zpkM a k = zpkM b k := by
      intro k
      induction k with
      | zero => intro _; rfl
      | succ k ih =>
        intro hk
        have h3 := h2 k (by omega)
        rw [(ea k (by omega)).1, (eb k (by omega)).1, nI_eq (by have := (ea k (by omega)).2; omega) (by have := (eb k (by omega)).2; omega)] at h3
        rw [zpkM, zpkM, ih (by omega)]
        omega
    exact this m (Nat.le_refl _)
