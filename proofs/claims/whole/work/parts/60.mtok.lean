/-! the reference: the next token -/
def zby (x : Int32) : Prop := ∃ b, b < 256 ∧ x = (nI b).toInt8.toInt32
theorem zbyF : ∀ b, b < 256 → (((nI b).toInt8.toInt32 &&& 255 = 32 ↔ (nI b).toInt8.toInt32 = 32) ∧ ¬ (nI b).toInt8.toInt32 &&& 255 = -1 ∧ (((nI b).toInt8.toInt32 &&& 255 < 97 ∨ 122 < (nI b).toInt8.toInt32 &&& 255) ↔ ((nI b).toInt8.toInt32 < 97 ∨ 122 < (nI b).toInt8.toInt32)) ∧ (((nI b).toInt8.toInt32 &&& 255 < 48 ∨ 57 < (nI b).toInt8.toInt32 &&& 255) ↔ ((nI b).toInt8.toInt32 < 48 ∨ 57 < (nI b).toInt8.toInt32)) ∧ ((nI b).toInt8.toInt32 &&& 255 = 59 ↔ (nI b).toInt8.toInt32 = 59) ∧ ((nI b).toInt8.toInt32 &&& 255 = 44 ↔ (nI b).toInt8.toInt32 = 44) ∧ (¬ ((nI b).toInt8.toInt32 < 97 ∨ 122 < (nI b).toInt8.toInt32) → (nI b).toInt8.toInt32 &&& 255 = (nI b).toInt8.toInt32 ∧ ((nI b).toInt8.toInt32 - 97 + 1).toInt64 = ((nI b).toInt8.toInt32 - 97).toInt64 + 1) ∧ (¬ ((nI b).toInt8.toInt32 < 48 ∨ 57 < (nI b).toInt8.toInt32) → (nI b).toInt8.toInt32 &&& 255 = (nI b).toInt8.toInt32)) := by decide +kernel
theorem zbyG {x : Int32} (hx : zby x) : ((x &&& 255 = 32 ↔ x = 32) ∧ ¬ x &&& 255 = -1 ∧ ((x &&& 255 < 97 ∨ 122 < x &&& 255) ↔ (x < 97 ∨ 122 < x)) ∧ ((x &&& 255 < 48 ∨ 57 < x &&& 255) ↔ (x < 48 ∨ 57 < x)) ∧ (x &&& 255 = 59 ↔ x = 59) ∧ (x &&& 255 = 44 ↔ x = 44) ∧ (¬ (x < 97 ∨ 122 < x) → x &&& 255 = x ∧ (x - 97 + 1).toInt64 = (x - 97).toInt64 + 1) ∧ (¬ (x < 48 ∨ 57 < x) → x &&& 255 = x)) := by
  obtain ⟨b, hb, rfl⟩ := hx
  exact zbyF b hb
/-- the class's token, as the reference has it -/
def zTr (k : ztkn) (I : Nat → Int32) (W : Int64) : Prop := I 10 = nI k.2.1 ∧ (k.1 ≠ 5 → I 8 = nI k.2.2.1) ∧ (k.1 = 0 → I 9 = 1) ∧ (k.1 = 1 → I 9 = 2 ∧ W = k.2.2.2.1 ∧ I 15 = k.2.2.2.2.1) ∧ (k.1 = 2 → I 9 = 3 ∧ I 12 = k.2.2.2.2.2) ∧ (k.1 = 3 → I 9 = 4 ∧ I 11 = 59) ∧ (k.1 = 4 → I 9 = 4 ∧ I 11 = 44) ∧ (k.1 = 5 → I 9 = 0) ∧ ∃ m, m < 6 ∧ k.1 = nI m
section NZTK
variable {d : Nat} {h : nzH} {F0 : Nat → Value} {td rd : Option Nat} {tp : Nat → Int32} {A : Nat → Nat → Int32} {L : Nat}
theorem kX13_byteAt (hd : 0 < d) {I : Nat → Int32} {W : Int64} (hL : L ≤ 900) (e7 : I 7 = nI L) {p : Nat} (hp : p ≤ L) : nzxI d nX13_byteAt [.ref 73, .int (nI p)] (zmS h F0 I W td rd tp A) = some (if p < L then tp p &&& 255 else -1, zmS h F0 I W td rd tp A) := by
  refine iX13_byteAt hd zmS_o ?_
  rw [eX13_byteAt_0, zI_7, Option.bind_some, e7]
  by_cases y : p < L
  · rw [if_neg (nI_ge y (by omega)), if_pos y, zIB, Option.bind_some, zAB (show p < 900 by omega), Option.bind_some]
  · rw [if_pos (nI_le (by omega) (by omega)), if_neg y]
theorem kX13_isLetter (hd : 0 < d) (x : Int32) : nzxI d nX13_isLetter [.int x] h = some (if x < 97 ∨ 122 < x then 0 else 1, h) := by
  refine iX13_isLetter hd ?_
  rw [eX13_isLetter_0, eX13_isLetter_16]
  by_cases y1 : x < 97
  · rw [if_pos y1, if_pos (.inl y1)]
  · rw [if_neg y1]
    by_cases y2 : 122 < x
    · rw [if_pos y2, if_pos (.inr y2)]
    · rw [if_neg y2, if_neg (fun y => y.elim y1 y2)]
theorem kX13_isDigit (hd : 0 < d) (x : Int32) : nzxI d nX13_isDigit [.int x] h = some (if x < 48 ∨ 57 < x then 0 else 1, h) := by
  refine iX13_isDigit hd ?_
  rw [eX13_isDigit_0, eX13_isDigit_16]
  by_cases y1 : x < 48
  · rw [if_pos y1, if_pos (.inl y1)]
  · rw [if_neg y1]
    by_cases y2 : 57 < x
    · rw [if_pos y2, if_pos (.inr y2)]
    · rw [if_neg y2, if_neg (fun y => y.elim y1 y2)]
theorem kX13_gn9 (hd : 0 < d) (hL : L ≤ 900) (hb : ∀ i, zby (tp i)) {W : Int64} : ∀ (j e : Nat) (I : Nat → Int32), e + j = L → I 7 = nI L → I 8 = nI e → nzr d nX13_goesOn 9 [some (.ref 73), none, none] [] (zmS h F0 I W td rd tp A) = nzr d nX13_goesOn 9 [some (.ref 73), none, none] [] (zmS h F0 (upd I 8 (nI (zskp tp j e))) W td rd tp A) := by
  intro j
  induction j with
  | zero =>
    intro e I he e7 e8
    rw [zskp, ← e8, upd_id]
  | succ j ih =>
    intro e I he e7 e8
    have g := zbyG (hb e)
    rw [zskp]
    by_cases y : tp e = 32
    · rw [if_pos y, eX13_goesOn_9, zI_8, Option.bind_some, e8, kX13_byteAt hd hL e7 (by omega), Option.bind_some, if_pos (show e < L by omega), if_pos (g.1.mpr y), zI_8, Option.bind_some, e8, nI_1, zP_8, Option.bind_some, ih (e + 1) _ (by omega) (by rw [upd_ne (by decide)]; exact e7) (upd_eq _ _ _), upd_upd]
    · rw [if_neg y, ← e8, upd_id]
theorem zskp_at (tp : Nat → Int32) : ∀ (j e L : Nat), e + j = L → zskp tp j e = L ∨ (zskp tp j e < L ∧ ¬ tp (zskp tp j e) = 32) := by
  intro j
  induction j with
  | zero => intro e L he; exact .inl (by rw [zskp]; omega)
  | succ j ih =>
    intro e L he
    rw [zskp]
    by_cases y : tp e = 32
    · rw [if_pos y]
      exact ih (e + 1) L (by omega)
    · rw [if_neg y]
      exact .inr ⟨by omega, y⟩
theorem kX13_gn94 (hd : 0 < d) (hL : L ≤ 900) (hb : ∀ i, zby (tp i)) (x1 : Int32) : ∀ (j e n : Nat) (I : Nat → Int32) (W : Int64) (pk : Int64) (le : Int32), e + j = L → n ≤ e → I 7 = nI L → I 8 = nI e → I 15 = le → (n ≤ 8 → W = pk) → ∃ I' W', nzr d nX13_goesOn 94 [some (.ref 73), some (.int x1), some (.int (nI n))] [] (zmS h F0 I W td rd tp A) = some (none, zmS h F0 I' W' td rd tp A) ∧ (∀ a, a ≠ 8 → a ≠ 9 → a ≠ 15 → I' a = I a) ∧ I' 8 = nI (zwrd tp j e pk le).1 ∧ I' 15 = (zwrd tp j e pk le).2.2 ∧ (if 8 < n + ((zwrd tp j e pk le).1 - e) then I' 9 = I 9 else I' 9 = 2 ∧ W' = (zwrd tp j e pk le).2.1) := by
  intro j
  induction j with
  | zero =>
    intro e n I W pk le he hn e7 e8 e15 eW
    rw [zwrd, eX13_goesOn_94, zI_8, Option.bind_some, e8, kX13_byteAt hd hL e7 (by omega), Option.bind_some, if_neg (show ¬ e < L by omega), kX13_isLetter hd, Option.bind_some, if_pos (show (-1 : Int32) < 97 ∨ 122 < (-1 : Int32) by decide), if_pos rfl]
    dsimp only
    rw [Nat.sub_self, Nat.add_zero]
    by_cases y : 8 < n
    · rw [if_pos (show 8 < nI n from nI_lt (a := 8) y (by omega))]
      exact ⟨I, W, rfl, fun _ _ _ _ => rfl, e8, e15, by rw [if_pos y]⟩
    · rw [if_neg (show ¬ 8 < nI n from nI_nlt (a := 8) (by omega) (by decide)), zP_9, Option.bind_some]
      exact ⟨upd I 9 2, W, rfl, fun a a1 a2 a3 => upd_ne a2, by rw [upd_ne (by decide)]; exact e8, by rw [upd_ne (by decide)]; exact e15, by rw [if_neg y]; exact ⟨upd_eq _ _ _, eW (by omega)⟩⟩
  | succ j ih =>
    intro e n I W pk le he hn e7 e8 e15 eW
    have g := zbyG (hb e)
    have st : nzr d nX13_goesOn 94 [some (.ref 73), some (.int x1), some (.int (nI n))] [] (zmS h F0 I W td rd tp A) = if (if tp e &&& 255 < 97 ∨ 122 < tp e &&& 255 then (0 : Int32) else 1) = 0 then (if 8 < nI n then some (none, zmS h F0 I W td rd tp A) else some (none, zmS h F0 (upd I 9 2) W td rd tp A)) else (if 8 ≤ nI n then nzr d nX13_goesOn 141 [some (.ref 73), some (.int x1), some (.int (nI n))] [] (zmS h F0 I W td rd tp A) else nzr d nX13_goesOn 141 [some (.ref 73), some (.int x1), some (.int (nI n))] [] (zmS h F0 I ((32 * W) + ((tp e &&& 255) - 97 + 1).toInt64) td rd tp A)) := by
      rw [eX13_goesOn_94, zI_8, Option.bind_some, e8, kX13_byteAt hd hL e7 (by omega), Option.bind_some, if_pos (show e < L by omega), kX13_isLetter hd, Option.bind_some, zP_9, Option.bind_some, zIW, Option.bind_some, zI_8, Option.bind_some, e8, kX13_byteAt hd hL e7 (by omega), Option.bind_some, if_pos (show e < L by omega), zPW, Option.bind_some]
    have s141 : ∀ W, nzr d nX13_goesOn 141 [some (.ref 73), some (.int x1), some (.int (nI n))] [] (zmS h F0 I W td rd tp A) = nzr d nX13_goesOn 94 [some (.ref 73), some (.int x1), some (.int (nI (n + 1)))] [] (zmS h F0 (upd (upd I 15 (le ||| (1 <<< (((tp e &&& 255) - 97) &&& 31)))) 8 (nI (e + 1))) W td rd tp A) := fun W => by
      rw [eX13_goesOn_141, zI_15, Option.bind_some, e15, zI_8, Option.bind_some, e8, kX13_byteAt hd hL e7 (by omega), Option.bind_some, if_pos (show e < L by omega), zP_15, Option.bind_some, zI_8, Option.bind_some, upd_ne (show 8 ≠ 15 by decide), e8, nI_1, zP_8, Option.bind_some, nI_1]
    rw [zwrd]
    by_cases y : tp e < 97 ∨ 122 < tp e
    · have z : (if tp e < 97 then (e, pk, le) else if 122 < tp e then (e, pk, le) else zwrd tp j (e + 1) (pk * 32 + (tp e - 97).toInt64 + 1) (le ||| (1 <<< ((tp e - 97) &&& 31)))) = (e, pk, le) := by
        by_cases y1 : tp e < 97
        · rw [if_pos y1]
        · rw [if_neg y1, if_pos (y.resolve_left y1)]
      rw [z, st, if_pos (g.2.2.1.mpr y), if_pos rfl]
      dsimp only
      rw [Nat.sub_self, Nat.add_zero]
      by_cases y : 8 < n
      · rw [if_pos (show 8 < nI n from nI_lt (a := 8) y (by omega))]
        exact ⟨I, W, rfl, fun _ _ _ _ => rfl, e8, e15, by rw [if_pos y]⟩
      · rw [if_neg (show ¬ 8 < nI n from nI_nlt (a := 8) (by omega) (by decide))]
        exact ⟨upd I 9 2, W, rfl, fun a a1 a2 a3 => upd_ne a2, by rw [upd_ne (by decide)]; exact e8, by rw [upd_ne (by decide)]; exact e15, by rw [if_neg y]; exact ⟨upd_eq _ _ _, eW (by omega)⟩⟩
    · have gg := g.2.2.2.2.2.2.1 y
      rw [if_neg (fun q => y (.inl q)), if_neg (fun q => y (.inr q)), st, if_neg (fun q => y (g.2.2.1.mp q)), if_neg (show ¬ (1 : Int32) = 0 by decide), s141, s141, gg.1]
      have le1 := zwrd_le tp j (e + 1) (pk * 32 + (tp e - 97).toInt64 + 1) (le ||| (1 <<< ((tp e - 97) &&& 31)))
      by_cases y8 : 8 ≤ n
      · rw [if_pos (show 8 ≤ nI n from nI_le (a := 8) y8 (by omega))]
        obtain ⟨I', W', q1, q2, q3, q4, q5⟩ := ih (e + 1) (n + 1) (upd (upd I 15 (le ||| (1 <<< ((tp e - 97) &&& 31)))) 8 (nI (e + 1))) W (pk * 32 + (tp e - 97).toInt64 + 1) (le ||| (1 <<< ((tp e - 97) &&& 31))) (by omega) (by omega) (by rw [upd_ne (by decide), upd_ne (by decide)]; exact e7) (upd_eq _ _ _) (by rw [upd_ne (by decide), upd_eq]) (fun q => by omega)
        refine ⟨I', W', q1, fun a a1 a2 a3 => by rw [q2 a a1 a2 a3, upd_ne a1, upd_ne a3], q3, q4, ?_⟩
        rw [upd_ne (by decide), upd_ne (by decide)] at q5
        rw [show n + 1 + ((zwrd tp j (e + 1) (pk * 32 + (tp e - 97).toInt64 + 1) (le ||| (1 <<< ((tp e - 97) &&& 31)))).1 - (e + 1)) = n + ((zwrd tp j (e + 1) (pk * 32 + (tp e - 97).toInt64 + 1) (le ||| (1 <<< ((tp e - 97) &&& 31)))).1 - e) by omega] at q5
        exact q5
      · rw [if_neg (show ¬ 8 ≤ nI n from nI_ge (b := 8) (by omega) (by decide))]
        obtain ⟨I', W', q1, q2, q3, q4, q5⟩ := ih (e + 1) (n + 1) (upd (upd I 15 (le ||| (1 <<< ((tp e - 97) &&& 31)))) 8 (nI (e + 1))) (32 * W + (tp e - 97 + 1).toInt64) (pk * 32 + (tp e - 97).toInt64 + 1) (le ||| (1 <<< ((tp e - 97) &&& 31))) (by omega) (by omega) (by rw [upd_ne (by decide), upd_ne (by decide)]; exact e7) (upd_eq _ _ _) (by rw [upd_ne (by decide), upd_eq]) (fun q => by rw [gg.2, eW (by omega), Int64.mul_comm, Int64.add_assoc])
        refine ⟨I', W', q1, fun a a1 a2 a3 => by rw [q2 a a1 a2 a3, upd_ne a1, upd_ne a3], q3, q4, ?_⟩
        rw [upd_ne (by decide), upd_ne (by decide)] at q5
        rw [show n + 1 + ((zwrd tp j (e + 1) (pk * 32 + (tp e - 97).toInt64 + 1) (le ||| (1 <<< ((tp e - 97) &&& 31)))).1 - (e + 1)) = n + ((zwrd tp j (e + 1) (pk * 32 + (tp e - 97).toInt64 + 1) (le ||| (1 <<< ((tp e - 97) &&& 31)))).1 - e) by omega] at q5
        exact q5
theorem kX13_gn205 (hd : 0 < d) (hL : L ≤ 900) (hb : ∀ i, zby (tp i)) (x1 : Int32) {W : Int64} : ∀ (j e n : Nat) (I : Nat → Int32) (v : Int32), e + j = L → n ≤ e → I 7 = nI L → I 8 = nI e → (n ≤ 3 → I 12 = v) → ∃ I', nzr d nX13_goesOn 205 [some (.ref 73), some (.int x1), some (.int (nI n))] [] (zmS h F0 I W td rd tp A) = some (none, zmS h F0 I' W td rd tp A) ∧ (∀ a, a ≠ 8 → a ≠ 9 → a ≠ 12 → I' a = I a) ∧ I' 8 = nI (zwho tp j e v).1 ∧ (if 3 < n + ((zwho tp j e v).1 - e) then I' 9 = I 9 else I' 9 = 3 ∧ I' 12 = (zwho tp j e v).2) := by
  intro j
  induction j with
  | zero =>
    intro e n I v he hn e7 e8 e12
    rw [zwho, eX13_goesOn_205, zI_8, Option.bind_some, e8, kX13_byteAt hd hL e7 (by omega), Option.bind_some, if_neg (show ¬ e < L by omega), kX13_isDigit hd, Option.bind_some, if_pos (show (-1 : Int32) < 48 ∨ 57 < (-1 : Int32) by decide), if_pos rfl]
    dsimp only
    rw [Nat.sub_self, Nat.add_zero]
    by_cases y : 3 < n
    · rw [if_pos (show 3 < nI n from nI_lt (a := 3) y (by omega))]
      exact ⟨I, rfl, fun _ _ _ _ => rfl, e8, by rw [if_pos y]⟩
    · rw [if_neg (show ¬ 3 < nI n from nI_nlt (a := 3) (by omega) (by decide)), zP_9, Option.bind_some]
      exact ⟨upd I 9 3, rfl, fun a a1 a2 a3 => upd_ne a2, by rw [upd_ne (by decide)]; exact e8, by rw [if_neg y]; exact ⟨upd_eq _ _ _, by rw [upd_ne (by decide)]; exact e12 (by omega)⟩⟩
  | succ j ih =>
    intro e n I v he hn e7 e8 e12
    have g := zbyG (hb e)
    have st : nzr d nX13_goesOn 205 [some (.ref 73), some (.int x1), some (.int (nI n))] [] (zmS h F0 I W td rd tp A) = if (if tp e &&& 255 < 48 ∨ 57 < tp e &&& 255 then (0 : Int32) else 1) = 0 then (if 3 < nI n then some (none, zmS h F0 I W td rd tp A) else some (none, zmS h F0 (upd I 9 3) W td rd tp A)) else (if 3 ≤ nI n then nzr d nX13_goesOn 247 [some (.ref 73), some (.int x1), some (.int (nI n))] [] (zmS h F0 I W td rd tp A) else nzr d nX13_goesOn 247 [some (.ref 73), some (.int x1), some (.int (nI n))] [] (zmS h F0 (upd I 12 (((10 * I 12) + (tp e &&& 255)) - 48)) W td rd tp A)) := by
      rw [eX13_goesOn_205, zI_8, Option.bind_some, e8, kX13_byteAt hd hL e7 (by omega), Option.bind_some, if_pos (show e < L by omega), kX13_isDigit hd, Option.bind_some, zP_9, Option.bind_some, zI_12, Option.bind_some, zI_8, Option.bind_some, e8, kX13_byteAt hd hL e7 (by omega), Option.bind_some, if_pos (show e < L by omega), zP_12, Option.bind_some]
    have s247 : ∀ I : Nat → Int32, I 8 = nI e → nzr d nX13_goesOn 247 [some (.ref 73), some (.int x1), some (.int (nI n))] [] (zmS h F0 I W td rd tp A) = nzr d nX13_goesOn 205 [some (.ref 73), some (.int x1), some (.int (nI (n + 1)))] [] (zmS h F0 (upd I 8 (nI (e + 1))) W td rd tp A) := fun I e8 => by
      rw [eX13_goesOn_247, zI_8, Option.bind_some, e8, nI_1, zP_8, Option.bind_some, nI_1]
    rw [zwho]
    by_cases y : tp e < 48 ∨ 57 < tp e
    · have z : (if tp e < 48 then (e, v) else if 57 < tp e then (e, v) else zwho tp j (e + 1) (v * 10 + tp e - 48)) = (e, v) := by
        by_cases y1 : tp e < 48
        · rw [if_pos y1]
        · rw [if_neg y1, if_pos (y.resolve_left y1)]
      rw [z, st, if_pos (g.2.2.2.1.mpr y), if_pos rfl]
      dsimp only
      rw [Nat.sub_self, Nat.add_zero]
      by_cases y : 3 < n
      · rw [if_pos (show 3 < nI n from nI_lt (a := 3) y (by omega))]
        exact ⟨I, rfl, fun _ _ _ _ => rfl, e8, by rw [if_pos y]⟩
      · rw [if_neg (show ¬ 3 < nI n from nI_nlt (a := 3) (by omega) (by decide))]
        exact ⟨upd I 9 3, rfl, fun a a1 a2 a3 => upd_ne a2, by rw [upd_ne (by decide)]; exact e8, by rw [if_neg y]; exact ⟨upd_eq _ _ _, by rw [upd_ne (by decide)]; exact e12 (by omega)⟩⟩
    · have gg := g.2.2.2.2.2.2.2 y
      rw [if_neg (fun q => y (.inl q)), if_neg (fun q => y (.inr q)), st, if_neg (fun q => y (g.2.2.2.1.mp q)), if_neg (show ¬ (1 : Int32) = 0 by decide), s247 _ e8, s247 _ (by rw [upd_ne (by decide)]; exact e8), gg]
      have le1 := zwho_le tp j (e + 1) (v * 10 + tp e - 48)
      by_cases y8 : 3 ≤ n
      · rw [if_pos (show 3 ≤ nI n from nI_le (a := 3) y8 (by omega))]
        obtain ⟨I', q1, q2, q3, q5⟩ := ih (e + 1) (n + 1) (upd I 8 (nI (e + 1))) (v * 10 + tp e - 48) (by omega) (by omega) (by rw [upd_ne (by decide)]; exact e7) (upd_eq _ _ _) (fun q => by omega)
        refine ⟨I', q1, fun a a1 a2 a3 => by rw [q2 a a1 a2 a3, upd_ne a1], q3, ?_⟩
        rw [upd_ne (by decide)] at q5
        rw [show n + 1 + ((zwho tp j (e + 1) (v * 10 + tp e - 48)).1 - (e + 1)) = n + ((zwho tp j (e + 1) (v * 10 + tp e - 48)).1 - e) by omega] at q5
        exact q5
      · rw [if_neg (show ¬ 3 ≤ nI n from nI_ge (b := 3) (by omega) (by decide))]
        obtain ⟨I', q1, q2, q3, q5⟩ := ih (e + 1) (n + 1) (upd (upd I 12 (10 * I 12 + tp e - 48)) 8 (nI (e + 1))) (v * 10 + tp e - 48) (by omega) (by omega) (by rw [upd_ne (by decide), upd_ne (by decide)]; exact e7) (upd_eq _ _ _) (fun q => by rw [upd_ne (by decide), upd_eq, e12 (by omega), Int32.mul_comm])
        refine ⟨I', q1, fun a a1 a2 a3 => by rw [q2 a a1 a2 a3, upd_ne a1, upd_ne a3], q3, ?_⟩
        rw [upd_ne (by decide), upd_ne (by decide)] at q5
        rw [show n + 1 + ((zwho tp j (e + 1) (v * 10 + tp e - 48)).1 - (e + 1)) = n + ((zwho tp j (e + 1) (v * 10 + tp e - 48)).1 - e) by omega] at q5
        exact q5
end NZTK
