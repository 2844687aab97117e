/-! the class's Day, what it answers (it changes nothing): c the counts, g the cells -/
theorem z_rng {s : Int32} {n : Nat} (hn : n < 2 ^ 31) (h0 : ¬ s < 0) (h1 : ¬ nI n ≤ s) : ∃ j, j < n ∧ s = nI j := by
  rcases pk_ix s hn with h | h | h
  · exact absurd h h0
  · exact absurd h h1
  · exact h
theorem z_rng' {s : Int32} {n : Nat} (hn : n < 2 ^ 31) (h0 : ¬ s < 0) (h1 : s < nI n) : ∃ j, j < n ∧ s = nI j :=
  z_rng hn h0 (by rw [Int32.lt_iff_toInt_lt] at h1; rw [Int32.le_iff_toInt_le]; omega)
def zday (h : nzH) (t : Nat) (c g : Nat → Int32) : Prop := (∃ F, zobj h t 0 F ∧ F 0 = .ref (t + 1) ∧ F 1 = .ref (t + 2)) ∧ zarr h (t + 1) 9 c ∧ zarr h (t + 2) 378 g ∧ ∀ s, s < 9 → ∃ n, n ≤ 6 ∧ c s = nI n
def zrow (c : Nat → Int32) (s : Int32) : Int32 := if s < 0 then 0 else if 9 ≤ s then 0 else c s.toNatClampNeg
def zcel (c : Nat → Int32) (s r k : Int32) : Int32 := if s < 0 then -1 else if 9 ≤ s then -1 else if r < 0 then -1 else if r < c s.toNatClampNeg then (if k < 0 then -1 else if k < 7 then ((s * 6) + r) * 7 + k else -1) else -1
def zget (c g : Nat → Int32) (s r k : Int32) : Int32 := if zcel c s r k = -1 then 0 else g (zcel c s r k).toNatClampNeg
theorem zrow_n (c : Nat → Int32) {s : Nat} (hs : s < 9) : zrow c (nI s) = c s := by
  rw [zrow, if_neg (nI_pos (by omega)), if_neg (show ¬ 9 ≤ nI s from nI_ge hs (by decide)), nI_clamp (by omega)]
theorem zcel_n {c : Nat → Int32} {s r k n : Nat} (hs : s < 9) (hn : n ≤ 6) (e : c s = nI n) (hk : k < 7) : zcel c (nI s) (nI r) (nI k) = if nI r < 0 then -1 else if nI r < nI n then nI ((s * 6 + r) * 7 + k) else -1 := by
  rw [zcel, if_neg (nI_pos (by omega)), if_neg (show ¬ 9 ≤ nI s from nI_ge hs (by decide)), nI_clamp (by omega), e, if_neg (nI_pos (show k < 2 ^ 31 by omega)), if_pos (show nI k < 7 from nI_lt (b := 7) hk (by decide)), show (6 : Int32) = nI 6 from rfl, show (7 : Int32) = nI 7 from rfl, pk_mul, nI_add, pk_mul, nI_add]
theorem zcel_ix {c : Nat → Int32} (hb : ∀ s, s < 9 → ∃ n, n ≤ 6 ∧ c s = nI n) (s r k : Int32) : zcel c s r k = -1 ∨ ∃ j, j < 378 ∧ zcel c s r k = nI j := by
  unfold zcel
  split
  · exact .inl rfl
  · split
    · exact .inl rfl
    · split
      · exact .inl rfl
      · split
        · split
          · exact .inl rfl
          · split
            · rename_i h1 h2 h3 h4 h5 h6
              obtain ⟨a, ha, rfl⟩ := z_rng (n := 9) (by decide) h1 h2
              rw [nI_clamp (by omega)] at h4
              obtain ⟨n, hn, e⟩ := hb a ha
              rw [e] at h4
              obtain ⟨b, hb', rfl⟩ := z_rng' (n := n) (by omega) h3 h4
              obtain ⟨q, hq, rfl⟩ := z_rng' (n := 7) (by decide) h5 h6
              refine .inr ⟨(a * 6 + b) * 7 + q, by omega, ?_⟩
              rw [show (6 : Int32) = nI 6 from rfl, show (7 : Int32) = nI 7 from rfl, pk_mul, nI_add, pk_mul, nI_add]
            · exact .inl rfl
        · exact .inl rfl
theorem zget_n {c g : Nat → Int32} {s r k n : Nat} (hs : s < 9) (hn : n ≤ 6) (e : c s = nI n) (hr : r < n) (hk : k < 7) : zget c g (nI s) (nI r) (nI k) = g ((s * 6 + r) * 7 + k) := by
  have h1 : zcel c (nI s) (nI r) (nI k) = nI ((s * 6 + r) * 7 + k) := by
    rw [zcel_n hs hn e hk, if_neg (nI_pos (by omega)), if_pos (nI_lt hr (by omega))]
  rw [zget, h1, if_neg, nI_clamp (by omega)]
  intro z
  exact nI_pos (n := (s * 6 + r) * 7 + k) (by omega) (by rw [z]; decide)
section NZD
variable {d : Nat} {h : nzH} {t : Nat} {c g : Nat → Int32}
theorem jX0_rows (D : zday h t c g) (hd : 0 < d) (s : Int32) : nzxI d nX0_rows [.ref t, .int s] h = some (zrow c s, h) := by
  obtain ⟨⟨F, o, e0, e1⟩, hc, hg, hb⟩ := D
  refine iX0_rows hd o ?_
  rw [eX0_rows_0, eX0_rows_19, zrow]
  split
  · rfl
  · split
    · rfl
    · rename_i h1 h2
      obtain ⟨j, hj, rfl⟩ := z_rng (n := 9) (by decide) h1 h2
      rw [zg_R o e0, Option.bind_some, za_In hc hj (by decide), nI_clamp (by omega)]
      rfl
theorem jX0_has (D : zday h t c g) (hd : 1 < d) (s r : Int32) : nzxI d nX0_has [.ref t, .int s, .int r] h = some (if r < 0 then 0 else if zrow c s ≤ r then 0 else 1, h) := by
  refine iX0_has (by omega) D.1.choose_spec.1 ?_
  rw [eX0_has_0, jX0_rows D (by omega)]
  simp only [Option.bind_some, eX0_has_17]
  split
  · rfl
  · split <;> rfl
theorem jX0_allHouses (D : zday h t c g) (hd : 1 < d) : nzxI d nX0_allHouses [.ref t] h = some ((1 <<< (zrow c 3 &&& 31)) - 1, h) := by
  refine iX0_allHouses (by omega) D.1.choose_spec.1 ?_
  rw [eX0_allHouses_0, jX0_rows D (by omega)]
  rfl
theorem jX0_hasHouses (D : zday h t c g) (hd : 2 < d) (x : Int32) : nzxI d nX0_hasHouses [.ref t, .int x] h = some (if (x &&& (((1 <<< (zrow c 3 &&& 31)) - 1) ^^^ (-1))) = 0 then 1 else 0, h) := by
  refine iX0_hasHouses (by omega) D.1.choose_spec.1 ?_
  rw [eX0_hasHouses_0, jX0_allHouses D (by omega)]
  simp only [Option.bind_some]
  split <;> rfl
theorem jX0_cellOf (D : zday h t c g) (hd : 0 < d) (s r k : Int32) : nzxI d nX0_cellOf [.ref t, .int s, .int r, .int k] h = some (zcel c s r k, h) := by
  obtain ⟨⟨F, o, e0, e1⟩, hc, hg, hb⟩ := D
  refine iX0_cellOf hd o ?_
  rw [eX0_cellOf_0, eX0_cellOf_24, eX0_cellOf_36, zcel]
  split
  · rfl
  · split
    · rfl
    · split
      · rfl
      · rename_i h1 h2 h3
        obtain ⟨j, hj, rfl⟩ := z_rng (n := 9) (by decide) h1 h2
        rw [zg_R o e0, Option.bind_some, za_In hc hj (by decide), nI_clamp (by omega)]
        simp only [Option.bind_some]
        split
        · split
          · rfl
          · split <;> rfl
        · rfl
theorem jX0_get (D : zday h t c g) (hd : 1 < d) (s r k : Int32) : nzxI d nX0_get [.ref t, .int s, .int r, .int k] h = some (zget c g s r k, h) := by
  have D' := D
  obtain ⟨⟨F, o, e0, e1⟩, hc, hg, hb⟩ := D
  refine iX0_get (by omega) o ?_
  rw [eX0_get_0, jX0_cellOf D' (by omega), zget]
  simp only [Option.bind_some]
  split
  · rfl
  · rename_i h1
    rcases zcel_ix hb s r k with h2 | ⟨j, hj, h2⟩
    · exact absurd h2 h1
    · rw [h2, zg_R o e1, Option.bind_some, za_In hg hj (by decide), nI_clamp (by omega)]
      rfl
theorem jX0_startPlace (D : zday h t c g) (hd : 2 < d) (x : Int32) : nzxI d nX0_startPlace [.ref t, .int x] h = some (zget c g 0 (zget c g 4 x 0) 0, h) := by
  refine iX0_startPlace (by omega) D.1.choose_spec.1 ?_
  rw [eX0_startPlace_0, jX0_get D (by omega)]
  simp only [Option.bind_some]
  rw [jX0_get D (by omega)]
  rfl
def zstay (c g : Nat → Int32) (car house : Int32) : Int32 := zget c g 3 house 2 + (if zget c g 3 house 6 = 1 ∧ zget c g 4 car 4 = 1 then 5 else 0)
theorem jX0_stayWithoutTea (D : zday h t c g) (hd : 2 < d) (x y : Int32) : nzxI d nX0_stayWithoutTea [.ref t, .int x, .int y] h = some (zstay c g x y, h) := by
  refine iX0_stayWithoutTea (by omega) D.1.choose_spec.1 ?_
  have g1 := jX0_get D (d := d - 1) (by omega)
  simp only [eX0_stayWithoutTea_0, eX0_stayWithoutTea_27, eX0_stayWithoutTea_28, eX0_stayWithoutTea_45, g1, Option.bind_some, zstay, if_true, show ¬ (1 : Int32) = 0 by decide, if_false]
  by_cases p : zget c g 3 y 6 = 1 <;> by_cases q : zget c g 4 x 4 = 1 <;> simp only [p, q, if_true, if_false, true_and, and_true, and_false, false_and]
def zfld (x y : Int32) : Int32 := if 0 ≤ (x ^^^ y) then x / y else if (x / y) * y = x then x / y else x / y - 1
theorem jJ9_floorDiv (hd : 0 < d) (x y : Int32) (hy : ¬ y = 0) : nzxI d nJ9_floorDiv_7cf53 [.int x, .int y] h = some (zfld x y, h) := by
  refine iJ9_floorDiv_7cf53 hd ?_
  simp only [eJ9_floorDiv_7cf53_0, eJ9_floorDiv_7cf53_21, if_neg hy, zfld]
  split
  · rfl
  · split <;> rfl
def zheat (c g : Nat → Int32) (car minute : Int32) : Int32 := zget c g 0 (zget c g 4 car 0) 1 - zfld (zget c g 4 car 3 * (minute - zget c g 4 car 1)) 10
theorem jX0_boxHeat (D : zday h t c g) (hd : 2 < d) (x y : Int32) : nzxI d nX0_boxHeat [.ref t, .int x, .int y] h = some (zheat c g x y, h) := by
  refine iX0_boxHeat (by omega) D.1.choose_spec.1 ?_
  have g1 := jX0_get D (d := d - 1) (by omega)
  have g2 := jJ9_floorDiv (h := h) (d := d - 1) (by omega)
  simp only [eX0_boxHeat_0, g1, Option.bind_some, g2 _ 10 (by decide), zheat]
def zbad (c g : Nat → Int32) (car minute : Int32) : Bool := decide (zget c g 8 0 1 < minute) || decide (zheat c g car minute < zget c g 8 0 0)
theorem jX0_isBadAt (D : zday h t c g) (hd : 3 < d) (x y : Int32) : nzxI d nX0_isBadAt [.ref t, .int x, .int y] h = some (if zbad c g x y then 1 else 0, h) := by
  refine iX0_isBadAt (by omega) D.1.choose_spec.1 ?_
  have g1 := jX0_get D (d := d - 1) (by omega)
  have g2 := jX0_boxHeat D (d := d - 1) (by omega)
  simp only [eX0_isBadAt_0, eX0_isBadAt_29, g1, g2, Option.bind_some, zbad]
  by_cases p : zget c g 8 0 1 < y
  · simp [p]
  · by_cases q : zget c g 8 0 0 ≤ zheat c g x y
    · have q' : ¬ zheat c g x y < zget c g 8 0 0 := by rw [Int32.lt_iff_toInt_lt]; rw [Int32.le_iff_toInt_le] at q; omega
      simp [p, q, q']
    · have q' : zheat c g x y < zget c g 8 0 0 := by rw [Int32.lt_iff_toInt_lt]; rw [Int32.le_iff_toInt_le] at q; omega
      simp [p, q, q']
theorem jX0_dietOf (D : zday h t c g) (hd : 2 < d) (x : Int32) : nzxI d nX0_dietOf [.ref t, .int x] h = some (zget c g 3 x 1, h) := by
  refine iX0_dietOf (by omega) D.1.choose_spec.1 ?_
  rw [eX0_dietOf_0, jX0_get D (by omega)]
  rfl
def zbar (c g : Nat → Int32) (diet dish : Int32) : Int32 := zget c g 2 diet 0 &&& zget c g 1 dish 0
theorem jX0_barredLetters (D : zday h t c g) (hd : 2 < d) (x y : Int32) : nzxI d nX0_barredLetters [.ref t, .int x, .int y] h = some (zbar c g x y, h) := by
  refine iX0_barredLetters (by omega) D.1.choose_spec.1 ?_
  have g1 := jX0_get D (d := d - 1) (by omega)
  simp only [eX0_barredLetters_0, g1, Option.bind_some, zbar]
/-- the way between two places, floods counted -/
def zwayf (c g : Nat → Int32) (lo hi : Int32) (i : Nat) (a : Int32) : Int32 := if zget c g 5 (nI i) 0 < lo then a else if hi ≤ zget c g 5 (nI i) 0 then a else a + zget c g 5 (nI i) 1
def zway (c g : Nat → Int32) (n : Nat) (x y : Int32) : Int32 := zit (zwayf c g (if y < x then y else x) (if x < y then y else x)) 0 n ((if x < y then y else x) - (if y < x then y else x))
theorem jX0_way22 (D : zday h t c g) (hd : 1 < d) {n : Nat} (hn : n ≤ 6) (e : c 5 = nI n) (x1 x2 lo hi : Int32) : ∀ (j k : Nat) (a : Int32) (u : Option Value), k + j = n → nzr d nX0_wayBetween 22 [some (.ref t), some (.int x1), some (.int x2), some (.int lo), some (.int hi), some (.int a), some (.int (nI k)), u] [] h = some (some (.int (zit (zwayf c g lo hi) k j a)), h) := by
  have g1 := jX0_get D hd
  have g2 : zrow c 5 = nI n := (zrow_n c (s := 5) (by decide)).trans e
  intro j
  induction j with
  | zero =>
    intro k a u hk
    rw [eX0_wayBetween_22, jX0_rows D (by omega)]
    simp only [Option.bind_some]
    rw [g2, if_pos (nI_le (by omega) (by omega))]
    rfl
  | succ j ih =>
    intro k a u hk
    rw [eX0_wayBetween_22, jX0_rows D (by omega)]
    simp only [Option.bind_some]
    rw [g2, if_neg (nI_ge (by omega) (by omega)), zit]
    simp only [g1, Option.bind_some, eX0_wayBetween_68, nI_1]
    rw [zwayf]
    split
    · exact ih _ _ _ (by omega)
    · split <;> exact ih _ _ _ (by omega)
theorem jX0_wayBetween (D : zday h t c g) (hd : 2 < d) {n : Nat} (hn : n ≤ 6) (e : c 5 = nI n) (x y : Int32) : nzxI d nX0_wayBetween [.ref t, .int x, .int y] h = some (zway c g n x y, h) := by
  refine iX0_wayBetween (by omega) D.1.choose_spec.1 ?_
  rw [eX0_wayBetween_0]
  exact jX0_way22 D (by omega) hn e _ _ _ _ n 0 _ _ (by omega)
def zfit (c g : Nat → Int32) (n : Nat) (dish : Int32) : Int32 := zit (fun i a => a ||| zbar c g (zget c g 3 (nI i) 1) dish) 0 n 0
theorem jX0_fit4 (D : zday h t c g) (hd : 2 < d) {n : Nat} (hn : n ≤ 6) (e : c 3 = nI n) (x1 : Int32) : ∀ (j k : Nat) (a : Int32), k + j = n → nzr d nX0_isFitForAll 4 [some (.ref t), some (.int x1), some (.int a), some (.int (nI k))] [] h = some (some (.int (if zit (fun i a => a ||| zbar c g (zget c g 3 (nI i) 1) x1) k j a = 0 then 1 else 0)), h) := by
  have g2 : zrow c 3 = nI n := (zrow_n c (s := 3) (by decide)).trans e
  intro j
  induction j with
  | zero =>
    intro k a hk
    rw [eX0_isFitForAll_4, jX0_rows D (by omega)]
    simp only [Option.bind_some]
    rw [g2, if_pos (nI_le (by omega) (by omega)), zit]
    split <;> rfl
  | succ j ih =>
    intro k a hk
    rw [eX0_isFitForAll_4, jX0_rows D (by omega)]
    simp only [Option.bind_some]
    rw [g2, if_neg (nI_ge (by omega) (by omega)), zit, jX0_dietOf D hd]
    simp only [Option.bind_some]
    rw [jX0_barredLetters D hd]
    simp only [Option.bind_some, nI_1]
    exact ih _ _ (by omega)
theorem jX0_isFitForAll (D : zday h t c g) (hd : 3 < d) {n : Nat} (hn : n ≤ 6) (e : c 3 = nI n) (x : Int32) : nzxI d nX0_isFitForAll [.ref t, .int x] h = some (if zfit c g n x = 0 then 1 else 0, h) := by
  refine iX0_isFitForAll (by omega) D.1.choose_spec.1 ?_
  rw [eX0_isFitForAll_0]
  exact jX0_fit4 D (by omega) hn e _ n 0 _ (by omega)
end NZD
