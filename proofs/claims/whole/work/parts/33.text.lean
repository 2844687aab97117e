/-! Strings that are constants; Text (2, 3) -/
def zstr (k : UInt32) (l : List Nat) : Prop := nzkS k = true ∧ ¬ ((k + 1).toNat < 11 ∨ (k + 1).toNat % 2 = 0) ∧ nzStr[((k + 1).toNat - 11) / 2]? = some l ∧ ¬ k + 1 = 0 ∧ ¬ k + 1 = 1 ∧ l.length < 100 ∧ ∀ j, j < l.length → 97 ≤ l.getD j 0 ∧ l.getD j 0 ≤ 122
theorem zchr : ∀ x, x < 128 → ((nI x &&& 255).toUInt32 % 65536).toInt32 = nI x := by decide +kernel
theorem nzset_set (h : nzH) (a : Nat) (e e' : nzE) : nzset (nzset h a e) a e' = nzset h a e' := by
  simp only [nzset, va_up_up]
section NZT
variable {d : Nat} {h : nzH} {k : UInt32} {l : List Nat}
theorem zstr_B (s : zstr k l) : nzkB (k + 1) = some (l.length, fun j => nI (l.getD j 0)) := by
  obtain ⟨-, s1, s2, -⟩ := s
  rw [nzkB, if_neg s1, s2]
theorem zstr_len (s : zstr k l) : nzclen h (k + 1) = some (nI l.length) := by
  have b := zstr_B s
  obtain ⟨-, -, -, s3, s4, -⟩ := s
  rw [nzclen, nzkI, if_neg s3, if_neg s4, b]
  rfl
theorem jJ0_coder (s : zstr k l) (hd : 0 < d) : nzxI d nJ0_coder_7d493 [.float k] h = some (0, h) := by
  refine iJ0_coder_7d493 hd s.1 ?_
  rw [eJ0_coder_7d493_0, if_neg (by decide), if_pos s.1]
theorem jJ0_length (s : zstr k l) (hd : 1 < d) : nzxI d nJ0_length_8abf5 [.float k] h = some (nI l.length, h) := by
  have := s.2.2.2.2.2.1
  refine iJ0_length_8abf5 (by omega) s.1 ?_
  rw [eJ0_length_8abf5_0, if_pos s.1, zstr_len s, Option.bind_some, jJ0_coder s (by omega), Option.bind_some, sc_shr0 (by omega)]
theorem jJ0_isLatin1 (s : zstr k l) (hd : 0 < d) : nzxI d nJ0_isLatin1_aae02 [.float k] h = some (1, h) := by
  refine iJ0_isLatin1_aae02 hd s.1 ?_
  rw [eJ0_isLatin1_aae02_0, if_neg (by decide), if_pos s.1, if_pos rfl]
theorem jJ1_charAt (s : zstr k l) (hd : 2 < d) {i : Nat} (hi : i < l.length) : nzxI d nJ1_charAt_3b067 [.float (k + 1), .int (nI i)] h = some (nI (l.getD i 0), h) := by
  have hl := s.2.2.2.2.2.1
  have hx := s.2.2.2.2.2.2 i hi
  have c1 : nzxI (d - 1 - 1) nJ3_checkIndex_8e157 [.int (nI i), .int (nI l.length), .float 2] h = some (nI i, h) := by
    refine iJ3_checkIndex_8e157 (by omega) ?_
    rw [eJ3_checkIndex_8e157_0, if_neg (nI_pos (by omega)), if_pos (nI_lt hi (by omega))]
  have c2 : nzxV (d - 1) nJ0_checkIndex_df160 [.int (nI i), .int (nI l.length)] h = some h := by
    refine iJ0_checkIndex_df160 (by omega) ?_
    rw [eJ0_checkIndex_df160_0, c1, Option.bind_some]
  refine iJ1_charAt_3b067 (by omega) ?_
  have b : nzcB (k + 1) (nI i) = some (nI (l.getD i 0)) := by
    rw [nzcB, zstr_B s]
    have q := nI_in hi (by omega)
    rw [nI_clamp (show i < 2 ^ 31 by omega)] at q
    simp only [if_neg q, nI_clamp (show i < 2 ^ 31 by omega)]
  rw [eJ1_charAt_3b067_0, zstr_len s, Option.bind_some, c2, Option.bind_some, b, Option.bind_some, zchr _ (by omega), if_pos (pk_charN (by omega)).1]
theorem jJ0_charAt (s : zstr k l) (hd : 3 < d) {i : Nat} (hi : i < l.length) : nzxI d nJ0_charAt_5068e [.float k, .int (nI i)] h = some (nI (l.getD i 0), h) := by
  have hx := s.2.2.2.2.2.2 i hi
  refine iJ0_charAt_5068e (by omega) s.1 ?_
  rw [eJ0_charAt_5068e_0, jJ0_isLatin1 s (by omega), Option.bind_some, if_neg (show ¬ (1 : Int32) = 0 by decide), if_pos s.1, jJ1_charAt s (by omega) hi, Option.bind_some, if_pos (pk_charN (by omega)).1]
end NZT
def zT (F : Nat → Value) (hl L : Nat) (kd : Int32) (pl en : Nat) (pk : Int64) (le va : Int32) : Prop := F 0 = .ref 3 ∧ F 1 = .int (nI hl) ∧ F 2 = .int (nI L) ∧ F 3 = .int kd ∧ F 4 = .int (nI pl) ∧ F 5 = .int (nI en) ∧ F 6 = .long pk ∧ F 7 = .int le ∧ F 8 = .int va
section NZT2
variable {d : Nat} {h : nzH} {F : Nat → Value} {hl L : Nat} {kd : Int32} {pl en : Nat} {pk : Int64} {le va : Int32} {tp : Nat → Int32}
theorem zT_1 (T : zT F hl L kd pl en pk le va) (x : Nat) : zT (va_up F 1 (.int (nI x))) x L kd pl en pk le va := by
  obtain ⟨a0, a1, a2, a3, a4, a5, a6, a7, a8⟩ := T
  simp [zT, va_up, a0, a1, a2, a3, a4, a5, a6, a7, a8]
theorem zT_2 (T : zT F hl L kd pl en pk le va) (x : Nat) : zT (va_up F 2 (.int (nI x))) hl x kd pl en pk le va := by
  obtain ⟨a0, a1, a2, a3, a4, a5, a6, a7, a8⟩ := T
  simp [zT, va_up, a0, a1, a2, a3, a4, a5, a6, a7, a8]
theorem zT_3 (T : zT F hl L kd pl en pk le va) (x : Int32) : zT (va_up F 3 (.int x)) hl L x pl en pk le va := by
  obtain ⟨a0, a1, a2, a3, a4, a5, a6, a7, a8⟩ := T
  simp [zT, va_up, a0, a1, a2, a3, a4, a5, a6, a7, a8]
theorem zT_4 (T : zT F hl L kd pl en pk le va) (x : Nat) : zT (va_up F 4 (.int (nI x))) hl L kd x en pk le va := by
  obtain ⟨a0, a1, a2, a3, a4, a5, a6, a7, a8⟩ := T
  simp [zT, va_up, a0, a1, a2, a3, a4, a5, a6, a7, a8]
theorem zT_5 (T : zT F hl L kd pl en pk le va) (x : Nat) : zT (va_up F 5 (.int (nI x))) hl L kd pl x pk le va := by
  obtain ⟨a0, a1, a2, a3, a4, a5, a6, a7, a8⟩ := T
  simp [zT, va_up, a0, a1, a2, a3, a4, a5, a6, a7, a8]
theorem zT_6 (T : zT F hl L kd pl en pk le va) (x : Int64) : zT (va_up F 6 (.long x)) hl L kd pl en x le va := by
  obtain ⟨a0, a1, a2, a3, a4, a5, a6, a7, a8⟩ := T
  simp [zT, va_up, a0, a1, a2, a3, a4, a5, a6, a7, a8]
theorem zT_7 (T : zT F hl L kd pl en pk le va) (x : Int32) : zT (va_up F 7 (.int x)) hl L kd pl en pk x va := by
  obtain ⟨a0, a1, a2, a3, a4, a5, a6, a7, a8⟩ := T
  simp [zT, va_up, a0, a1, a2, a3, a4, a5, a6, a7, a8]
theorem zT_8 (T : zT F hl L kd pl en pk le va) (x : Int32) : zT (va_up F 8 (.int x)) hl L kd pl en pk le x := by
  obtain ⟨a0, a1, a2, a3, a4, a5, a6, a7, a8⟩ := T
  simp [zT, va_up, a0, a1, a2, a3, a4, a5, a6, a7, a8]
/-- a word taken: (end, packed, letters) -/
def zwrd (tp : Nat → Int32) : Nat → Nat → Int64 → Int32 → Nat × Int64 × Int32
  | 0, e, pk, le => (e, pk, le)
  | j + 1, e, pk, le => if tp e < 97 then (e, pk, le) else if 122 < tp e then (e, pk, le) else zwrd tp j (e + 1) (pk * 32 + (tp e - 97).toInt64 + 1) (le ||| (1 <<< ((tp e - 97) &&& 31)))
def zwho (tp : Nat → Int32) : Nat → Nat → Int32 → Nat × Int32
  | 0, e, v => (e, v)
  | j + 1, e, v => if tp e < 48 then (e, v) else if 57 < tp e then (e, v) else zwho tp j (e + 1) (v * 10 + tp e - 48)
def zskp (tp : Nat → Int32) : Nat → Nat → Nat
  | 0, e => e
  | j + 1, e => if tp e = 32 then zskp tp j (e + 1) else e
theorem zwrd_le (tp : Nat → Int32) : ∀ (j e : Nat) (pk : Int64) (le : Int32), e ≤ (zwrd tp j e pk le).1 ∧ (zwrd tp j e pk le).1 ≤ e + j
  | 0, e, _, _ => ⟨Nat.le_refl e, Nat.le_refl e⟩
  | j + 1, e, pk, le => by
    rw [zwrd]
    split
    · exact ⟨Nat.le_refl e, by omega⟩
    · split
      · exact ⟨Nat.le_refl e, by omega⟩
      · have := zwrd_le tp j (e + 1) (pk * 32 + (tp e - 97).toInt64 + 1) (le ||| (1 <<< ((tp e - 97) &&& 31)))
        exact ⟨by omega, by omega⟩
theorem zwho_le (tp : Nat → Int32) : ∀ (j e : Nat) (v : Int32), e ≤ (zwho tp j e v).1 ∧ (zwho tp j e v).1 ≤ e + j
  | 0, e, _ => ⟨Nat.le_refl e, Nat.le_refl e⟩
  | j + 1, e, v => by
    rw [zwho]
    split
    · exact ⟨Nat.le_refl e, by omega⟩
    · split
      · exact ⟨Nat.le_refl e, by omega⟩
      · have := zwho_le tp j (e + 1) (v * 10 + tp e - 48)
        exact ⟨by omega, by omega⟩
theorem zskp_le (tp : Nat → Int32) : ∀ (j e : Nat), e ≤ zskp tp j e ∧ zskp tp j e ≤ e + j
  | 0, e => ⟨Nat.le_refl e, Nat.le_refl e⟩
  | j + 1, e => by
    rw [zskp]
    split
    · have := zskp_le tp j (e + 1)
      exact ⟨by omega, by omega⟩
    · exact ⟨Nat.le_refl e, by omega⟩
theorem jX9_tw10 (hL : L ≤ 900) : ∀ (j : Nat) (h : nzH) (F : Nat → Value) (en : Nat) (pk : Int64) (le : Int32) (u : Option Value), en + j = L → pl ≤ en → zobj h 2 9 F → zbyt h 3 900 tp → zT F hl L kd pl en pk le va → ∃ F', nzr d nX9_takeWord 10 [some (.ref 2), u] [] h = some (none, nzset h 2 (.inr (9, F'))) ∧ zT F' hl L (if 8 < (zwrd tp j en pk le).1 - pl then 5 else 1) pl (zwrd tp j en pk le).1 (zwrd tp j en pk le).2.1 (zwrd tp j en pk le).2.2 va := by
  have fin : ∀ (h : nzH) (F : Nat → Value) (en : Nat) (pk : Int64) (le : Int32) (u : Option Value), en ≤ L → pl ≤ en → zobj h 2 9 F → zT F hl L kd pl en pk le va → ∃ F', nzr d nX9_takeWord 104 [some (.ref 2), u] [] h = some (none, nzset h 2 (.inr (9, F'))) ∧ zT F' hl L (if 8 < en - pl then 5 else 1) pl en pk le va := by
    intro h F en pk le u he hp o T
    refine ⟨_, ?_, zT_3 T _⟩
    obtain ⟨a0, a1, a2, a3, a4, a5, a6, a7, a8⟩ := T
    rw [eX9_takeWord_104, zg_I o a5, Option.bind_some, zg_I o a4, Option.bind_some, pk_sub hp]
    simp only [eX9_takeWord_124, zp_of o, Option.bind_some]
    by_cases z : 8 < en - pl
    · rw [if_pos z, if_pos (show 8 < nI (en - pl) from nI_lt (a := 8) z (by omega))]
    · rw [if_neg z, if_neg (show ¬ 8 < nI (en - pl) from nI_nlt (a := 8) (by omega) (by decide))]
  intro j
  induction j with
  | zero =>
    intro h F en pk le u hj hp o b T
    obtain ⟨F', q1, q2⟩ := fin h F en pk le u (by omega) hp o T
    refine ⟨F', ?_, q2⟩
    obtain ⟨a0, a1, a2, a3, a4, a5, a6, a7, a8⟩ := T
    rw [eX9_takeWord_10, zg_I o a5, Option.bind_some, zg_I o a2, Option.bind_some, if_pos (nI_le (by omega) (by omega))]
    exact q1
  | succ j ih =>
    intro h F en pk le u hj hp o b T
    have T' := T
    obtain ⟨a0, a1, a2, a3, a4, a5, a6, a7, a8⟩ := T
    have hb := za_Bn b (show en < 900 by omega) (by decide)
    rw [eX9_takeWord_10, zg_I o a5, Option.bind_some, zg_I o a2, Option.bind_some, if_neg (nI_ge (by omega) (by omega)), zg_R o a0, Option.bind_some, zwrd]
    simp only [zg_I o a5, zg_R o a0, Option.bind_some, hb]
    by_cases z1 : tp en < 97
    · simp only [if_pos z1]
      exact fin h F en pk le u (by omega) hp o T'
    · by_cases z2 : 122 < tp en
      · simp only [if_neg z1, if_pos z2]
        exact fin h F en pk le u (by omega) hp o T'
      · simp only [if_neg z1, if_neg z2]
        have T1 := zT_6 T' (pk * 32 + (tp en - 97).toInt64 + 1)
        have T2 := zT_7 T1 (le ||| (1 <<< ((tp en - 97) &&& 31)))
        have T3 := zT_5 T2 (en + 1)
        have o1 : zobj (nzset h 2 (.inr (9, va_up F 6 (.long (pk * 32 + (tp en - 97).toInt64 + 1))))) 2 9 _ := zc_setS _ _ _
        have o2 : zobj (nzset (nzset h 2 (.inr (9, va_up F 6 (.long (pk * 32 + (tp en - 97).toInt64 + 1))))) 2 (.inr (9, va_up (va_up F 6 (.long (pk * 32 + (tp en - 97).toInt64 + 1))) 7 (.int (le ||| (1 <<< ((tp en - 97) &&& 31))))))) 2 9 _ := zc_setS _ _ _
        obtain ⟨F', q1, q2⟩ := ih (nzset h 2 (.inr (9, va_up (va_up (va_up F 6 (.long (pk * 32 + (tp en - 97).toInt64 + 1))) 7 (.int (le ||| (1 <<< ((tp en - 97) &&& 31))))) 5 (.int (nI (en + 1)))))) _ (en + 1) _ _ (some (.int (tp en - 97))) (by omega) (by omega) (zc_setS _ _ _) ((zc_setN (by decide)).trans b) T3
        rw [nzset_set] at q1
        refine ⟨F', ?_, q2⟩
        rw [zg_L o a6, Option.bind_some, zp_of o, Option.bind_some, zg_I o1 T1.2.2.2.2.2.2.2.1, Option.bind_some, zp_of o1, Option.bind_some, zg_I o2 T2.2.2.2.2.2.1, Option.bind_some, zp_of o2, Option.bind_some, nI_1, nzset_set, nzset_set]
        exact q1
theorem jX9_takeWord (hL : L ≤ 900) (hd : 0 < d) (hp : pl ≤ L) (o : zobj h 2 9 F) (b : zbyt h 3 900 tp) (T : zT F hl L kd pl pl pk le va) : ∃ F', nzxV d nX9_takeWord [.ref 2] h = some (nzset h 2 (.inr (9, F'))) ∧ zT F' hl L (if 8 < (zwrd tp (L - pl) pl 0 0).1 - pl then 5 else 1) pl (zwrd tp (L - pl) pl 0 0).1 (zwrd tp (L - pl) pl 0 0).2.1 (zwrd tp (L - pl) pl 0 0).2.2 va := by
  have T1 := zT_6 T 0
  have T2 := zT_7 T1 0
  have o1 : zobj (nzset h 2 (.inr (9, va_up F 6 (.long 0)))) 2 9 _ := zc_setS _ _ _
  obtain ⟨F', q1, q2⟩ := jX9_tw10 (d := d - 1) hL (L - pl) (nzset h 2 (.inr (9, va_up (va_up F 6 (.long 0)) 7 (.int 0)))) _ pl 0 0 none (by omega) (Nat.le_refl _) (zc_setS _ _ _) ((zc_setN (by decide)).trans b) T2
  rw [nzset_set] at q1
  refine ⟨F', iX9_takeWord hd o ?_, q2⟩
  rw [eX9_takeWord_0, zp_of o, Option.bind_some, zp_of o1, Option.bind_some, nzset_set]
  exact q1
theorem jX9_wh5 (hL : L ≤ 900) : ∀ (j : Nat) (h : nzH) (F : Nat → Value) (en : Nat) (va : Int32), en + j = L → pl ≤ en → zobj h 2 9 F → zbyt h 3 900 tp → zT F hl L kd pl en pk le va → ∃ F', nzr d nX9_takeWhole 5 [some (.ref 2)] [] h = some (none, nzset h 2 (.inr (9, F'))) ∧ zT F' hl L (if 3 < (zwho tp j en va).1 - pl then 5 else 2) pl (zwho tp j en va).1 pk le (zwho tp j en va).2 := by
  have fin : ∀ (h : nzH) (F : Nat → Value) (en : Nat) (va : Int32), en ≤ L → pl ≤ en → zobj h 2 9 F → zT F hl L kd pl en pk le va → ∃ F', nzr d nX9_takeWhole 81 [some (.ref 2)] [] h = some (none, nzset h 2 (.inr (9, F'))) ∧ zT F' hl L (if 3 < en - pl then 5 else 2) pl en pk le va := by
    intro h F en va he hp o T
    refine ⟨_, ?_, zT_3 T _⟩
    obtain ⟨a0, a1, a2, a3, a4, a5, a6, a7, a8⟩ := T
    rw [eX9_takeWhole_81, zg_I o a5, Option.bind_some, zg_I o a4, Option.bind_some, pk_sub hp]
    simp only [eX9_takeWhole_100, zp_of o, Option.bind_some]
    by_cases z : 3 < en - pl
    · rw [if_pos z, if_pos (show 3 < nI (en - pl) from nI_lt (a := 3) z (by omega))]
    · rw [if_neg z, if_neg (show ¬ 3 < nI (en - pl) from nI_nlt (a := 3) (by omega) (by decide))]
  intro j
  induction j with
  | zero =>
    intro h F en va hj hp o b T
    obtain ⟨F', q1, q2⟩ := fin h F en va (by omega) hp o T
    refine ⟨F', ?_, q2⟩
    obtain ⟨a0, a1, a2, a3, a4, a5, a6, a7, a8⟩ := T
    rw [eX9_takeWhole_5, zg_I o a5, Option.bind_some, zg_I o a2, Option.bind_some, if_pos (nI_le (by omega) (by omega))]
    exact q1
  | succ j ih =>
    intro h F en va hj hp o b T
    have T' := T
    obtain ⟨a0, a1, a2, a3, a4, a5, a6, a7, a8⟩ := T
    have hb := za_Bn b (show en < 900 by omega) (by decide)
    rw [eX9_takeWhole_5, zg_I o a5, Option.bind_some, zg_I o a2, Option.bind_some, if_neg (nI_ge (by omega) (by omega)), zg_R o a0, Option.bind_some, zwho]
    simp only [zg_I o a5, zg_R o a0, Option.bind_some, hb]
    by_cases z1 : tp en < 48
    · simp only [if_pos z1]
      exact fin h F en va (by omega) hp o T'
    · by_cases z2 : 57 < tp en
      · simp only [if_neg z1, if_pos z2]
        exact fin h F en va (by omega) hp o T'
      · simp only [if_neg z1, if_neg z2]
        have T1 := zT_8 T' (va * 10 + tp en - 48)
        have T3 := zT_5 T1 (en + 1)
        have o1 : zobj (nzset h 2 (.inr (9, va_up F 8 (.int (va * 10 + tp en - 48))))) 2 9 _ := zc_setS _ _ _
        obtain ⟨F', q1, q2⟩ := ih (nzset h 2 (.inr (9, va_up (va_up F 8 (.int (va * 10 + tp en - 48))) 5 (.int (nI (en + 1)))))) _ (en + 1) _ (by omega) (by omega) (zc_setS _ _ _) ((zc_setN (by decide)).trans b) T3
        rw [nzset_set] at q1
        refine ⟨F', ?_, q2⟩
        rw [zg_I o a8, Option.bind_some, zp_of o, Option.bind_some, zg_I o1 T1.2.2.2.2.2.1, Option.bind_some, zp_of o1, Option.bind_some, nI_1, nzset_set]
        exact q1
theorem jX9_takeWhole (hL : L ≤ 900) (hd : 0 < d) (hp : pl ≤ L) (o : zobj h 2 9 F) (b : zbyt h 3 900 tp) (T : zT F hl L kd pl pl pk le va) : ∃ F', nzxV d nX9_takeWhole [.ref 2] h = some (nzset h 2 (.inr (9, F'))) ∧ zT F' hl L (if 3 < (zwho tp (L - pl) pl 0).1 - pl then 5 else 2) pl (zwho tp (L - pl) pl 0).1 pk le (zwho tp (L - pl) pl 0).2 := by
  obtain ⟨F', q1, q2⟩ := jX9_wh5 (d := d - 1) hL (L - pl) (nzset h 2 (.inr (9, va_up F 8 (.int 0)))) _ pl 0 (by omega) (Nat.le_refl _) (zc_setS _ _ _) ((zc_setN (by decide)).trans b) (zT_8 T 0)
  rw [nzset_set] at q1
  refine ⟨F', iX9_takeWhole hd o ?_, q2⟩
  rw [eX9_takeWhole_0, zp_of o, Option.bind_some]
  exact q1
theorem jX9_takeSign (hd : 0 < d) (o : zobj h 2 9 F) (T : zT F hl L kd pl en pk le va) (x : Int32) : ∃ F', nzxV d nX9_takeSign [.ref 2, .int x] h = some (nzset h 2 (.inr (9, F'))) ∧ zT F' hl L (if x = 59 then 3 else if x = 44 then 4 else 5) pl (pl + 1) pk le va := by
  have T1 := zT_5 T (pl + 1)
  have o1 : zobj (nzset h 2 (.inr (9, va_up F 5 (.int (nI (pl + 1)))))) 2 9 _ := zc_setS _ _ _
  refine ⟨_, iX9_takeSign hd o ?_, zT_3 T1 _⟩
  obtain ⟨a0, a1, a2, a3, a4, a5, a6, a7, a8⟩ := T
  rw [eX9_takeSign_0, zg_I o a4, Option.bind_some, zp_of o, Option.bind_some, nI_1]
  simp only [eX9_takeSign_32, zp_of o1, Option.bind_some, nzset_set]
  by_cases z1 : x = 59
  · simp only [if_pos z1]
  · by_cases z2 : x = 44
    · simp only [if_neg z1, if_pos z2]
    · simp only [if_neg z1, if_neg z2]
end NZT2
