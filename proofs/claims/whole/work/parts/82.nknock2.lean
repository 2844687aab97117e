/-! whom to call first: the orders are met alike -/
abbrev zke : Type := Option (List Nat) × Int64
def zkF (B : Nat → Nat → Int32) (n : Nat) (e : zke) (p : List Nat) : zke := if 0 ≤ lg_cmp (zexR B (zgl p) n) e.2 then e else (some p, zexR B (zgl p) n)
def zkR (n : Nat) (s : zks) (e : zke) : Prop := s.2.2 = e.2 ∧ ∀ p, e.1 = some p → ∀ i, i < n → s.2.1 i = nI (p.getD i 0)
section NZK2
variable {c g J : Nat → Int32} {B : Nat → Nat → Int32}
theorem zkE_eq (D : zDR c g J B) {n : Nat} (hn : n = zcn c 6) : ∀ (r : Nat) (l : List Nat) (done : Nat) (s : zks) (e : zke), l.length + r = n → done < 64 → (∀ i, i < l.length → l.getD i 0 < n ∧ s.1 i = nI (l.getD i 0)) → zkR n s e → zkR n (zkE c g n r l.length (nI done) s) ((zpm n r ((2 ^ n - 1) &&& (63 - done))).foldl (fun e p => zkF B n e (l ++ p)) e) ∧ ∀ i, i < l.length → (zkE c g n r l.length (nI done) s).1 i = s.1 i := by
  have h5 : zcn c 6 ≤ 5 := (D.1 6 (by decide)).2
  intro r
  induction r with
  | zero =>
    intro l done s e hl hd hO R
    have ex : (zexp c g s.1 n (0, 1)).1 = zexR B (zgl l) n := zexp_R D hn (fun i hi => (hO i (by omega)).1) (fun i hi => (hO i (by omega)).2)
    rw [zkE, zpm]
    have ee : List.foldl (fun e p => zkF B n e (l ++ p)) e [[]] = zkF B n e l := by
      show zkF B n e (l ++ []) = _
      rw [List.append_nil]
    rw [ee, zkN, zkF, ex, R.1]
    by_cases y : 0 ≤ lg_cmp (zexR B (zgl l) n) e.2
    · rw [if_pos y, if_pos y]
      exact ⟨R, fun _ _ => rfl⟩
    · rw [if_neg y, if_neg y]
      refine ⟨⟨rfl, fun p hp i hi => ?_⟩, fun _ _ => rfl⟩
      cases hp
      show va_cpy s.1 s.2.1 0 0 5 i = _
      rw [pk_cpy_in (Nat.zero_le _) (by omega), show 0 + (i - 0) = i by omega]
      exact (hO i (by omega)).2
  | succ r ih =>
    intro l done s0 e0 hl hd hO R
    have r63 : 2 ^ n - 1 < 64 := (zpw2 n (by omega)).2.2
    rw [zkE, zpm]
    have : ∀ (j x : Nat) (s : zks) (e : zke), x + j = n → zkR n s e → (∀ i, i < l.length → s.1 i = s0.1 i) → zkR n (zit (fun call s => if nI done &&& (1 <<< (nI call &&& 31)) = 0 then zkE c g n r (l.length + 1) (nI done ||| (1 <<< (nI call &&& 31))) (upd s.1 l.length (nI call), s.2) else s) x j s) ((zpmX (fun x => zpm n r (((2 ^ n - 1) &&& (63 - done)) &&& (63 - 2 ^ x))) ((2 ^ n - 1) &&& (63 - done)) x j).foldl (fun e p => zkF B n e (l ++ p)) e) ∧ ∀ i, i < l.length → (zit (fun call s => if nI done &&& (1 <<< (nI call &&& 31)) = 0 then zkE c g n r (l.length + 1) (nI done ||| (1 <<< (nI call &&& 31))) (upd s.1 l.length (nI call), s.2) else s) x j s).1 i = s0.1 i := by
      intro j
      induction j with
      | zero => intro x s e hx R hs; exact ⟨R, hs⟩
      | succ j ihj =>
        intro x s e hx R hs
        have x6 : x < 6 := by omega
        have tt := zT6 done hd x x6
        have bt := zdif_bit done hd (2 ^ n - 1) r63 x x6
        have full : (2 ^ n - 1) / 2 ^ x % 2 = 1 := by
          have : ∀ n, n < 6 → ∀ x, x < n → (2 ^ n - 1) / 2 ^ x % 2 = 1 := by decide +kernel
          exact this n (by omega) x (by omega)
        rw [zit, zpmX, List.foldl_append]
        by_cases y : done / 2 ^ x % 2 = 1
        · rw [if_neg (fun z => tt.mp z y), if_neg (fun z => (bt.mp z).2 y)]
          exact ihj (x + 1) s e (by omega) R hs
        · rw [if_pos (tt.mpr y), if_pos (bt.mpr ⟨full, y⟩), List.foldl_map, (zbor done hd x x6).1]
          have len1 : (l ++ [x]).length = l.length + 1 := by rw [List.length_append, List.length_singleton]
          have I1 := ih (l ++ [x]) (done ||| 2 ^ x) (upd s.1 l.length (nI x), s.2) e (by rw [len1]; omega) (zbor done hd x x6).2 (fun i hi => by
            rw [len1] at hi
            show (l ++ [x]).getD i 0 < n ∧ upd s.1 l.length (nI x) i = nI ((l ++ [x]).getD i 0)
            by_cases w : i < l.length
            · rw [zgd_l w, upd_ne (by omega), hs i w]
              exact hO i w
            · rw [show i = l.length by omega, zgd_r, upd_eq]
              exact ⟨by omega, rfl⟩) R
          rw [len1] at I1
          refine ihj (x + 1) _ _ (by omega) ?_ (fun i hi => ?_)
          · have e1 : ((2 ^ n - 1) &&& (63 - done)) &&& (63 - 2 ^ x) = (2 ^ n - 1) &&& (63 - (done ||| 2 ^ x)) := by
              rw [Nat.and_assoc, zdif_up done hd x x6]
            have e2 : (fun (e : zke) (p : List Nat) => zkF B n e (l ++ (x :: p))) = (fun e p => zkF B n e (l ++ [x] ++ p)) := by
              funext e p
              rw [List.append_assoc]
              rfl
            rw [e1, e2]
            exact I1.1
          · rw [I1.2 i (by omega)]
            show upd s.1 l.length (nI x) i = _
            rw [upd_ne (by omega)]
            exact hs i hi
    obtain ⟨h1, h2⟩ := this n 0 s0 e0 (by omega) R (fun _ _ => rfl)
    exact ⟨h1, h2⟩
/-- the search of the class is the reference's -/
theorem zknock_eq (D : zDR c g J B) {n : Nat} (hn : n = zcn c 6) (n0 : 0 < n) (s : zks) (f : Nat → Int32) : (zkE c g n n 0 0 (s.1, s.2.1, 1000000000000000)).2.2 = (zit (zkS B n) 0 (zfac n) (-1, f)).1 ∧ ∀ i, i < n → (zkE c g n n 0 0 (s.1, s.2.1, 1000000000000000)).2.1 i = (zit (zkS B n) 0 (zfac n) (-1, f)).2 i := by
  have h5 : zcn c 6 ≤ 5 := (D.1 6 (by decide)).2
  have p2 := zpw2 n (by omega)
  have K := (zkE_eq D hn n [] 0 (s.1, s.2.1, 1000000000000000) (none, 1000000000000000) (by simp) (by decide) (fun i hi => absurd hi (Nat.not_lt_zero i)) ⟨rfl, fun p hp => by cases hp⟩).1
  have zd : (2 ^ n - 1) &&& (63 - 0) = 2 ^ n - 1 := by
    have : ∀ Q, Q < 64 → Q &&& (63 - 0) = Q := by decide +kernel
    exact this _ p2.2.2
  have hlt : 2 ^ n - 1 < 2 ^ n := by have : 0 < 2 ^ n := Nat.two_pow_pos n; omega
  have pa := zpm_all n (by omega) (2 ^ n - 1) hlt
  rw [p2.2.1] at pa
  have pi := zpl_in n (by omega) (2 ^ n - 1) hlt
  rw [p2.2.1] at pi
  have hf := zfac_le n (by omega)
  simp only [List.length_nil, List.nil_append] at K
  rw [zd, pa, List.foldl_map, zit_range (fun i e => zkF B n e (zpl n (2 ^ n - 1) i))] at K
  have vv : ∀ k, k < zfac n → ∃ V, V < 10 ^ 15 ∧ zexR B (zgl (zpl n (2 ^ n - 1) k)) n = lN V := fun k hk => zexR_n D hn (fun i hi => (pi k hk).2 i hi)
  obtain ⟨q, hq⟩ : ∃ q, zfac n = q + 1 := ⟨zfac n - 1, by omega⟩
  have fin : ∃ k, k < zfac n ∧ zit (fun i e => zkF B n e (zpl n (2 ^ n - 1) i)) 0 (zfac n) (none, 1000000000000000) = (some (zpl n (2 ^ n - 1) k), zexR B (zgl (zpl n (2 ^ n - 1) k)) n) ∧ (zit (zkS B n) 0 (zfac n) (-1, f)).1 = zexR B (zgl (zpl n (2 ^ n - 1) k)) n ∧ ∀ i, i < n → (zit (zkS B n) 0 (zfac n) (-1, f)).2 i = nI ((zpl n (2 ^ n - 1) k).getD i 0) := by
    rw [hq, zit, zit]
    have row : ∀ k, k < zfac n → ∀ (r : Nat → Int32) i, i < n → zpw (zpl n (2 ^ n - 1) k) 0 r i = nI ((zpl n (2 ^ n - 1) k).getD i 0) := fun k hk r i hi => by
      rw [zpw_at, (pi k hk).1, if_pos (by omega)]
      rfl
    refine zit_two (P := fun _ (e : zke) (t : Int64 × (Nat → Int32)) => ∃ k, k < q + 1 ∧ e = (some (zpl n (2 ^ n - 1) k), zexR B (zgl (zpl n (2 ^ n - 1) k)) n) ∧ t.1 = zexR B (zgl (zpl n (2 ^ n - 1) k)) n ∧ ∀ i, i < n → t.2 i = nI ((zpl n (2 ^ n - 1) k).getD i 0)) q (0 + 1) _ _ ⟨0, by omega, ?_, ?_, fun i hi => ?_⟩ (fun x h1 h2 e t P => ?_)
    · obtain ⟨V, V1, V2⟩ := vv 0 hf.1
      rw [zkF, if_neg]
      rw [lg_cmp_ge, V2, show (1000000000000000 : Int64) = lN 1000000000000000 from rfl, pk_lLE (by decide) (by omega)]
      omega
    · rw [zkS, if_pos (.inl (show lg_cmp (-1) 0 < 0 by decide))]
    · rw [zkS, if_pos (.inl (show lg_cmp (-1) 0 < 0 by decide))]
      exact row 0 hf.1 _ i hi
    · obtain ⟨k, hk, p1, p3, p4⟩ := P
      obtain ⟨V, V1, V2⟩ := vv x (by omega)
      obtain ⟨U, U1, U2⟩ := vv k (by omega)
      rw [p1, zkF]
      have c1 : (0 ≤ lg_cmp (zexR B (zgl (zpl n (2 ^ n - 1) x)) n) (zexR B (zgl (zpl n (2 ^ n - 1) k)) n)) ↔ U ≤ V := by
        rw [lg_cmp_ge, V2, U2, pk_lLE (by omega) (by omega)]
      have c2 : (lg_cmp t.1 0 < 0 ∨ lg_cmp (zexR B (zgl (zpl n (2 ^ n - 1) x)) n) t.1 < 0) ↔ V < U := by
        rw [p3, lg_cmp_lt, lg_cmp_lt, V2, U2, show (0 : Int64) = lN 0 from rfl, pk_lLT (by omega) (by decide), pk_lLT (by omega) (by omega)]
        omega
      by_cases y : U ≤ V
      · refine ⟨k, hk, ?_, ?_, fun i hi => ?_⟩
        · rw [if_pos (c1.mpr y)]
        · rw [zkS, if_neg (fun z => by have := c2.mp z; omega)]
          exact p3
        · rw [zkS, if_neg (fun z => by have := c2.mp z; omega)]
          exact p4 i hi
      · refine ⟨x, by omega, ?_, ?_, fun i hi => ?_⟩
        · rw [if_neg (fun z => y (c1.mp z))]
        · rw [zkS, if_pos (c2.mpr (by omega))]
        · rw [zkS, if_pos (c2.mpr (by omega))]
          exact row x (by omega) _ i hi
  obtain ⟨k, hk, f1, f2, f3⟩ := fin
  rw [f1] at K
  refine ⟨K.1.trans f2.symm, fun i hi => ?_⟩
  rw [f3 i hi]
  exact K.2 _ rfl i hi
end NZK2
