/-! frames; small helpers; the class's Rounds (ids 10 .. 16) -/
def zfr (lo hi : Nat) (h h1 : nzH) : Prop := h1.1 = h.1 ∧ h1.2.1 = h.2.1 ∧ h1.2.2.2 = h.2.2.2 ∧ ∀ a, a < lo ∨ hi ≤ a → nzcell h1 a = nzcell h a
theorem zfr_rfl (lo hi : Nat) (h : nzH) : zfr lo hi h h := ⟨rfl, rfl, rfl, fun _ _ => rfl⟩
theorem zfr_tr {lo hi : Nat} {h h1 h2 : nzH} (a : zfr lo hi h h1) (b : zfr lo hi h1 h2) : zfr lo hi h h2 := ⟨b.1.trans a.1, b.2.1.trans a.2.1, b.2.2.1.trans a.2.2.1, fun x hx => (b.2.2.2 x hx).trans (a.2.2.2 x hx)⟩
theorem zfr_wk {lo hi lo' hi' : Nat} {h h1 : nzH} (a : zfr lo hi h h1) (h0 : lo' ≤ lo) (h2 : hi ≤ hi') : zfr lo' hi' h h1 := ⟨a.1, a.2.1, a.2.2.1, fun x hx => a.2.2.2 x (by omega)⟩
theorem zfr_set {lo hi a : Nat} (h : nzH) (e : nzE) (h0 : lo ≤ a) (h1 : a < hi) : zfr lo hi h (nzset h a e) := ⟨rfl, rfl, rfl, fun x hx => zc_setN (by omega)⟩
/-- cells lo .. hi are the same -/
def zsm (lo hi : Nat) (h h1 : nzH) : Prop := ∀ a, lo ≤ a → a < hi → nzcell h1 a = nzcell h a
theorem zfr_sm {lo hi lo' hi' : Nat} {h h1 : nzH} (a : zfr lo hi h h1) (q : hi' ≤ lo ∨ hi ≤ lo') : zsm lo' hi' h h1 := fun x h0 h2 => a.2.2.2 x (by omega)
theorem zsm_set {lo hi a : Nat} (h : nzH) (e : nzE) (q : a < lo ∨ hi ≤ a) : zsm lo hi h (nzset h a e) := fun x h0 h1 => zc_setN (by omega)
theorem zday_sm {h h1 : nzH} {t : Nat} {c g : Nat → Int32} (D : zday h t c g) (s : zsm t (t + 3) h h1) : zday h1 t c g := by
  obtain ⟨⟨F, o, e0, e1⟩, hc, hg, hb⟩ := D
  exact ⟨⟨F, (s t (by omega) (by omega)).trans o, e0, e1⟩, (s (t + 1) (by omega) (by omega)).trans hc, (s (t + 2) (by omega) (by omega)).trans hg, hb⟩
theorem zsh : ∀ k, k < 16 → (1 : Int32) <<< (nI k &&& 31) = nI (2 ^ k) := by decide +kernel
def zpop : Nat → Nat
  | n => n % 2 + n / 2 % 2 + n / 4 % 2 + n / 8 % 2 + n / 16 % 2 + n / 32 % 2
theorem jJ6_bitCount {d : Nat} {h : nzH} (hd : 0 < d) {n : Nat} (hn : n < 64) : nzxI d nJ6_bitCount_0f7a4 [.int (nI n)] h = some (nI (zpop n), h) := by
  refine iJ6_bitCount_0f7a4 hd ?_
  rw [eJ6_bitCount_0f7a4_0]
  refine congrArg (fun z : Int32 => (some (some (Value.int z), h) : nzO)) ?_
  revert hn
  revert n
  decide +kernel
theorem jX11_isWithin {d : Nat} {h : nzH} (hd : 0 < d) (x y z : Int32) : nzxI d nX11_isWithin [.int x, .int y, .int z] h = some (if x < y then 0 else if z < x then 0 else 1, h) := by
  refine iX11_isWithin hd ?_
  rw [eX11_isWithin_0, eX11_isWithin_14]
  split
  · rfl
  · split <;> rfl
theorem zwithin {j n : Nat} (hj : j ≤ n) (hn : n < 2 ^ 31) : (if nI j < 0 then (0 : Int32) else if nI n < nI j then 0 else 1) = 1 := by
  rw [if_neg (nI_pos (by omega)), if_neg (nI_nlt hj hn)]
theorem zarr_ext {h : nzH} {a n : Nat} {f g : Nat → Int32} (e : zarr h a n f) (q : ∀ i, f i = g i) : zarr h a n g := by
  rw [← show f = g from funext q]
  exact e
theorem jJ7_fill5 {a n : Nat} {v : Int32} (hn : n < 2 ^ 31) {d : Nat} : ∀ (j k : Nat) (h : nzH) (f : Nat → Int32), k + j = n → zarr h a n f → ∃ h1, nzr d nJ7_fill_53178 5 [some (.ref a), some (.int v), some (.int (nI k)), some (.int (nI n))] [] h = some (none, h1) ∧ zarr h1 a n (fun i => if k ≤ i ∧ i < n then v else f i) ∧ zfr a (a + 1) h h1 := by
  intro j
  induction j with
  | zero =>
    intro k h f hk hf
    refine ⟨h, ?_, ?_, zfr_rfl _ _ _⟩
    · rw [eJ7_fill_53178_5, if_pos (nI_le (by omega) (by omega))]
    · exact zarr_ext hf (fun i => by rw [if_neg (by omega)])
  | succ j ih =>
    intro k h f hk hf
    obtain ⟨h1, e, p, q⟩ := ih (k + 1) (nzset h a (.inl (.int, n, .inl (upd f k v)))) (upd f k v) (by omega) (zc_setS _ _ _)
    refine ⟨h1, ?_, ?_, zfr_tr (zfr_set h _ (by omega) (by omega)) q⟩
    · rw [eJ7_fill_53178_5, if_neg (nI_ge (by omega) (by omega)), zs_In hf (by omega) hn, Option.bind_some, nI_1]
      exact e
    · refine zarr_ext p (fun i => ?_)
      by_cases hi : i = k
      · subst hi
        rw [if_neg (by omega), if_pos (by omega)]
        simp [upd]
      · by_cases h2 : k + 1 ≤ i ∧ i < n
        · rw [if_pos h2, if_pos (by omega)]
        · rw [if_neg h2, if_neg (by omega)]
          simp [upd, hi]
theorem jJ7_fill {a n : Nat} {v : Int32} {d : Nat} {h : nzH} {f : Nat → Int32} (hd : 0 < d) (hn : n < 2 ^ 31) (hf : zarr h a n f) : ∃ h1, nzxV d nJ7_fill_53178 [.ref a, .int v] h = some h1 ∧ zarr h1 a n (fun i => if i < n then v else f i) ∧ zfr a (a + 1) h h1 := by
  obtain ⟨h1, e, p, q⟩ := jJ7_fill5 (v := v) hn (d := d - 1) n 0 h f (by omega) hf
  refine ⟨h1, iJ7_fill_53178 hd ?_, ?_, q⟩
  · rw [eJ7_fill_53178_0, zlen_of hf]
    exact e
  · refine zarr_ext p (fun i => ?_)
    simp only [Nat.zero_le, true_and]
/-- Rounds: N how many, R which houses -/
def zrou (h : nzH) (N : Nat → Nat) (R : Nat → Nat → Nat) (tea : Int32) : Prop := (∃ F, zobj h 10 6 F ∧ F 0 = .ref 11 ∧ F 1 = .ref 15 ∧ F 2 = .ref 16 ∧ F 3 = .int tea) ∧ (∃ f, zgrd h 11 3 f ∧ ∀ i, i < 3 → f i = some (12 + i)) ∧ (∃ n, zarr h 15 3 n ∧ ∀ i, i < 3 → n i = nI (N i) ∧ N i ≤ 6) ∧ (∀ i, i < 3 → ∃ f, zarr h (12 + i) 6 f ∧ ∀ k, k < N i → f k = nI (R i k) ∧ R i k < 6) ∧ ∃ A, zarr h 16 6 A
theorem zrou_sm {h h1 : nzH} {N : Nat → Nat} {R : Nat → Nat → Nat} {tea : Int32} (D : zrou h N R tea) (s : zsm 10 17 h h1) : zrou h1 N R tea := by
  obtain ⟨⟨F, o, e⟩, ⟨f, hf, ef⟩, ⟨n, hn, en⟩, hr, A, hA⟩ := D
  exact ⟨⟨F, (s 10 (by omega) (by omega)).trans o, e⟩, ⟨f, (s 11 (by omega) (by omega)).trans hf, ef⟩, ⟨n, (s 15 (by omega) (by omega)).trans hn, en⟩, fun i hi => let ⟨f, q⟩ := hr i hi; ⟨f, (s (12 + i) (by omega) (by omega)).trans q.1, q.2⟩, A, (s 16 (by omega) (by omega)).trans hA⟩
section NZR
variable {d : Nat} {h : nzH} {N : Nat → Nat} {R : Nat → Nat → Nat} {tea : Int32}
def zcnt (N : Nat → Nat) (x : Int32) : Int32 := if x < 0 then 0 else if 3 ≤ x then 0 else nI (N x.toNatClampNeg)
theorem zcnt_n (N : Nat → Nat) {k : Nat} (hk : k < 3) : zcnt N (nI k) = nI (N k) := by
  rw [zcnt, if_neg (nI_pos (by omega)), if_neg (show ¬ 3 ≤ nI k from nI_ge hk (by decide)), nI_clamp (by omega)]
theorem jX6_count (D : zrou h N R tea) (hd : 0 < d) (x : Int32) : nzxI d nX6_count [.ref 10, .int x] h = some (zcnt N x, h) := by
  obtain ⟨⟨F, o, e0, e1, e2, e3⟩, -, ⟨n, hn, en⟩, -, -⟩ := D
  refine iX6_count hd o ?_
  rw [eX6_count_0, eX6_count_18, zcnt]
  split
  · rfl
  · split
    · rfl
    · rename_i h1 h2
      obtain ⟨j, hj, rfl⟩ := z_rng (n := 3) (by decide) h1 h2
      rw [zg_R o e1, Option.bind_some, za_In hn hj (by decide), nI_clamp (by omega), (en j hj).1]
      rfl
/-- the row of a car -/
theorem zrou_row (D : zrou h N R tea) {j : Nat} (hj : j < 3) : nzgR h 10 6 0 = some 11 ∧ nzaR h 11 (nI j) = some (12 + j) := by
  obtain ⟨⟨F, o, e0, e1, e2, e3⟩, ⟨f, hf, ef⟩, -, -, -⟩ := D
  exact ⟨zg_R o e0, za_Rn hf hj (by decide) (ef j hj)⟩
theorem zrou_cell (D : zrou h N R tea) {j k : Nat} (hj : j < 3) (hk : k < N j) : nzaI h (12 + j) (nI k) = some (nI (R j k)) ∧ R j k < 6 ∧ N j ≤ 6 := by
  obtain ⟨-, -, ⟨n, hn, en⟩, hr, -⟩ := D
  obtain ⟨f, hf, ef⟩ := hr j hj
  have := (en j hj).2
  exact ⟨(za_In hf (show k < 6 by omega) (by decide)).trans (congrArg some (ef k hk).1), (ef k hk).2, this⟩
theorem jX6_houseAt (D : zrou h N R tea) (hd : 1 < d) (x y : Int32) : nzxI d nX6_houseAt [.ref 10, .int x, .int y] h = some (if y < 0 then -1 else if zcnt N x ≤ y then -1 else nI (R x.toNatClampNeg y.toNatClampNeg), h) := by
  refine iX6_houseAt (by omega) D.1.choose_spec.1 ?_
  rw [eX6_houseAt_0, jX6_count D (by omega)]
  simp only [Option.bind_some, eX6_houseAt_24]
  by_cases h1 : y < 0
  · rw [if_pos h1, if_pos h1]
  · rw [if_neg h1, if_neg h1]
    by_cases h2 : zcnt N x ≤ y
    · rw [if_pos h2, if_pos h2]
    · rw [if_neg h2, if_neg h2]
      have hx : ¬ x < 0 ∧ ¬ 3 ≤ x := by
        constructor
        · intro z
          rw [zcnt, if_pos z] at h2
          rw [Int32.lt_iff_toInt_lt] at h1
          rw [Int32.le_iff_toInt_le] at h2
          omega
        · intro z
          rw [zcnt, if_pos z] at h2
          rw [Int32.lt_iff_toInt_lt] at h1
          rw [Int32.le_iff_toInt_le] at h2
          split at h2 <;> omega
      obtain ⟨j, hj, rfl⟩ := z_rng (n := 3) (by decide) hx.1 hx.2
      rw [zcnt_n N hj] at h2
      obtain ⟨n, hn, en⟩ := D.2.2.1
      obtain ⟨k, hk, rfl⟩ := z_rng (n := N j) (by have := (en j hj).2; omega) h1 h2
      have r := zrou_row D hj
      have q := zrou_cell D hj hk
      rw [r.1, Option.bind_some, r.2, Option.bind_some, q.1, nI_clamp (by omega), nI_clamp (by omega)]
      rfl
/-- is x among the first of a row -/
def zhas (r : Nat → Nat) (x : Int32) : Nat → Nat → Bool
  | _, 0 => false
  | k, j + 1 => if nI (r k) = x then true else zhas r x (k + 1) j
def zcar (N : Nat → Nat) (R : Nat → Nat → Nat) (x : Int32) : Nat → Nat → Int32
  | _, 0 => -1
  | k, j + 1 => if zhas (R k) x 0 (N k) then nI k else zcar N R x (k + 1) j
theorem jX6_carOf9 (D : zrou h N R tea) (x : Int32) {k : Nat} (hk : k < 3) {r : nzO} (hr : ∀ u, nzr d nX6_carOf 2 [some (.ref 10), some (.int x), some (.int (nI (k + 1))), u] [] h = r) : ∀ (j i : Nat), i + j = N k → nzr d nX6_carOf 9 [some (.ref 10), some (.int x), some (.int (nI k)), some (.int (nI i))] [] h = if zhas (R k) x i j then some (some (.int (nI k)), h) else r := by
  obtain ⟨F, o, e0, e1, e2, e3⟩ := D.1
  obtain ⟨n, hn, en⟩ := D.2.2.1
  have hN := (en k hk).2
  have c1 : nzaI h 15 (nI k) = some (nI (N k)) := (za_In hn hk (by decide)).trans (congrArg some (en k hk).1)
  have rw1 := zrou_row D hk
  intro j
  induction j with
  | zero =>
    intro i hi
    rw [eX6_carOf_9, zg_R o e1, Option.bind_some, c1, Option.bind_some, if_pos (nI_le (by omega) (by omega)), nI_1, hr]
    rfl
  | succ j ih =>
    intro i hi
    rw [eX6_carOf_9, zg_R o e1, Option.bind_some, c1, Option.bind_some, if_neg (nI_ge (by omega) (by omega)), rw1.1, Option.bind_some, rw1.2, Option.bind_some, (zrou_cell D hk (show i < N k by omega)).1, Option.bind_some, zhas]
    by_cases q : nI (R k i) = x
    · rw [if_pos q, if_pos q]
      rfl
    · rw [if_neg q, if_neg q, nI_1, ih (i + 1) (by omega)]
theorem jX6_carOf2 (D : zrou h N R tea) (x : Int32) : ∀ (j k : Nat) (u : Option Value), k + j = 3 → nzr d nX6_carOf 2 [some (.ref 10), some (.int x), some (.int (nI k)), u] [] h = some (some (.int (zcar N R x k j)), h) := by
  intro j
  induction j with
  | zero =>
    intro k u hk
    rw [eX6_carOf_2, if_pos (show 3 ≤ nI k from nI_le (a := 3) (by omega) (by omega))]
    rfl
  | succ j ih =>
    intro k u hk
    rw [eX6_carOf_2, if_neg (show ¬ 3 ≤ nI k from nI_ge (b := 3) (by omega) (by decide))]
    refine (jX6_carOf9 D x (show k < 3 by omega) (fun u => ih (k + 1) u (by omega)) (N k) 0 (by omega)).trans ?_
    rw [zcar]
    split <;> rfl
theorem jX6_carOf (D : zrou h N R tea) (hd : 0 < d) (x : Int32) : nzxI d nX6_carOf [.ref 10, .int x] h = some (zcar N R x 0 3, h) := by
  refine iX6_carOf (by omega) D.1.choose_spec.1 ?_
  rw [eX6_carOf_0]
  exact jX6_carOf2 D x 3 0 none rfl
def zhof (N : Nat → Nat) (R : Nat → Nat → Nat) (k : Nat) : Int32 := zit (fun i a => a ||| (1 <<< (nI (R k i) &&& 31))) 0 (N k) 0
theorem jX6_housesOf4 (D : zrou h N R tea) (hd : 0 < d) {k : Nat} (hk : k < 3) : ∀ (j i : Nat) (a : Int32), i + j = N k → nzr d nX6_housesOf 4 [some (.ref 10), some (.int (nI k)), some (.int a), some (.int (nI i))] [] h = some (some (.int (zit (fun i a => a ||| (1 <<< (nI (R k i) &&& 31))) i j a)), h) := by
  obtain ⟨n, hn, en⟩ := D.2.2.1
  have hN := (en k hk).2
  have rw1 := zrou_row D hk
  intro j
  induction j with
  | zero =>
    intro i a hi
    rw [eX6_housesOf_4, jX6_count D hd, Option.bind_some, zcnt_n N hk, if_pos (nI_le (by omega) (by omega))]
    rfl
  | succ j ih =>
    intro i a hi
    rw [eX6_housesOf_4, jX6_count D hd, Option.bind_some, zcnt_n N hk, if_neg (nI_ge (by omega) (by omega)), rw1.1, Option.bind_some, rw1.2, Option.bind_some, (zrou_cell D hk (show i < N k by omega)).1, Option.bind_some, nI_1, ih (i + 1) _ (by omega)]
    rfl
theorem jX6_housesOf (D : zrou h N R tea) (hd : 1 < d) {k : Nat} (hk : k < 3) : nzxI d nX6_housesOf [.ref 10, .int (nI k)] h = some (zhof N R k, h) := by
  refine iX6_housesOf (by omega) D.1.choose_spec.1 ?_
  rw [eX6_housesOf_0]
  exact jX6_housesOf4 D (by omega) hk (N k) 0 0 (by omega)
end NZR
