/-! the class's search for the best orders, at one set -/
def zpkP (l : List Nat) : Int32 := zit (fun i a => (a <<< (3 &&& 31)) ||| nI (l.getD i 0)) 0 l.length 0
theorem zgd_l {l m : List Nat} {i : Nat} (h : i < l.length) : (l ++ m).getD i 0 = l.getD i 0 := by
  rw [List.getD_eq_getElem?_getD, List.getD_eq_getElem?_getD, List.getElem?_append_left h]
theorem zgd_r (l : List Nat) (x : Nat) : (l ++ [x]).getD l.length 0 = x := by
  rw [List.getD_eq_getElem?_getD, List.getElem?_append_right (Nat.le_refl _), Nat.sub_self]
  rfl
theorem zNs_r {g : Nat → Int32} {nf q T : Nat} {r r' : Nat → Nat} {i : Nat} (e : r i = r' i) (s : zNt) : zNs g nf q T r i s = zNs g nf q T r' i s := by
  unfold zNs zNm1
  rw [e]
/-- where a round stands behind some houses -/
def zNq (g : Nat → Int32) (nf q : Nat) (l : List Nat) : zNt := zNr g nf q 0 (zgl l) l.length
theorem zNq_up (g : Nat → Int32) (nf q : Nat) (l : List Nat) (x : Nat) : zNq g nf q (l ++ [x]) = zNs g nf q 0 (fun _ => x) l.length (zNq g nf q l) := by
  rw [zNq, zNq, zNr, zNr, List.length_append, List.length_singleton, zit_last, Nat.zero_add]
  have e1 : zgl (l ++ [x]) l.length = x := by
    exact zgd_r l x
  have e2 : zit (zNs g nf q 0 (zgl (l ++ [x]))) 0 l.length (0, zNv g 0 (zNv g 4 q 0) 0, zNv g 4 q 1, fun _ => 0) = zit (zNs g nf q 0 (zgl l)) 0 l.length (0, zNv g 0 (zNv g 4 q 0) 0, zNv g 4 q 1, fun _ => 0) := by
    refine zit_congr _ _ _ (fun i _ hi b => ?_)
    have : zgl (l ++ [x]) i = zgl l i := by
      exact zgd_l (by omega)
    exact zNs_r this b
  rw [e2]
  exact zNs_r e1 _
/-- an order's worth -/
def zNwo (g : Nat → Int32) (nf q : Nat) (l : List Nat) : Nat := 10000 * zpop (zNq g nf q l).1 + (zNq g nf q l).2.2.2 (l.length - 1)
def zNe (g : Nat → Int32) (nf q : Nat) (e : Int32 × Int32) (p : List Nat) : Int32 × Int32 := if nI (zNwo g nf q p) < e.1 then (nI (zNwo g nf q p), zpkP p) else e
section NZNB
variable {c g J : Nat → Int32} {B : Nat → Nat → Int32}
theorem zNq_I (D : zDR c g J B) {q : Nat} (hq : q < zcn c 4) : ∀ (l : List Nat), l.length ≤ 6 → (∀ i, i < l.length → l.getD i 0 < zcn c 3) → zNI g q l.length (zNq g (zcn c 5) q l) := by
  intro l hl hx
  rw [zNq, zNr]
  have : ∀ j i s, i + j = l.length → zNI g q i s → zNI g q l.length (zit (zNs g (zcn c 5) q 0 (zgl l)) i j s) := by
    intro j
    induction j with
    | zero => intro i s hi S; rw [zit]; rw [show l.length = i by omega]; exact S
    | succ j ih =>
      intro i s hi S
      rw [zit]
      exact ih (i + 1) _ (by omega) (zNs_I (T := 0) (r := zgl l) (i := i) D hq (by omega) (hx i (by omega)) S).1
  exact this l.length 0 _ (by omega) (zNI_0 D hq)
theorem zoE_O (nf n k : Nat) : ∀ (r dep done : Nat) (lv bad : Int32) (s : zos), ∀ i, i < dep → (zoE c g nf n k r dep done lv bad s).1 i = s.1 i := by
  intro r
  induction r with
  | zero => intro dep done lv bad s i hi; rfl
  | succ r ih =>
    intro dep done lv bad s0 i hi
    rw [zoE]
    refine zit_inv (P := fun _ (s : zos) => s.1 i = s0.1 i) n 0 s0 rfl (fun x _ hx s e => ?_)
    split
    · exact e
    · rw [ih (dep + 1) _ _ _ _ i (by omega)]
      have : ∀ w (s : zos), (zoN (done ||| 2 ^ x) w s).1 = s.1 := fun w s => by rw [zoN]; split <;> rfl
      rw [this]
      show upd s.1 dep (nI x) i = _
      rw [upd_ne (by omega)]
      exact e
/-- the class's search, at one set -/
theorem zoE_at (D : zDR c g J B) (h8 : 0 < zcn c 8) {q Q H : Nat} (hq : q < zcn c 4) (hQ : Q < 2 ^ zcn c 3) (hH : H ≤ 6) : ∀ (r : Nat) (l : List Nat) (done : Nat) (s0 : zos), l.length + r = H → done < 64 → zpop done = l.length → (∀ i, i < l.length → l.getD i 0 < zcn c 3) → (∀ y, y < 6 → (zNq g (zcn c 5) q l).1 / 2 ^ y % 2 = 1 → done / 2 ^ y % 2 = 1) → (∀ i, i < l.length → s0.1 i = nI (l.getD i 0)) → ((zsub done Q = true ∧ done ≠ Q ∧ zpop Q ≤ H → ((zoE c g (zcn c 5) (zcn c 3) q r l.length done (nI (zNq g (zcn c 5) q l).2.2.1) (nI (zpop (zNq g (zcn c 5) q l).1)) s0).2.1 Q, (zoE c g (zcn c 5) (zcn c 3) q r l.length done (nI (zNq g (zcn c 5) q l).2.2.1) (nI (zpop (zNq g (zcn c 5) q l).1)) s0).2.2 Q) = (zpm (zcn c 3) (zpop Q - l.length) (Q &&& (63 - done))).foldl (fun e p => zNe g (zcn c 5) q e (l ++ p)) (s0.2.1 Q, s0.2.2 Q)) ∧ (zsub done Q = false ∨ done = Q → ((zoE c g (zcn c 5) (zcn c 3) q r l.length done (nI (zNq g (zcn c 5) q l).2.2.1) (nI (zpop (zNq g (zcn c 5) q l).1)) s0).2.1 Q, (zoE c g (zcn c 5) (zcn c 3) q r l.length done (nI (zNq g (zcn c 5) q l).2.2.1) (nI (zpop (zNq g (zcn c 5) q l).1)) s0).2.2 Q) = (s0.2.1 Q, s0.2.2 Q))) := by
  have h6 : zcn c 3 ≤ 6 := (D.1 3 (by decide)).2
  have hQ64 : Q < 64 := Nat.lt_of_lt_of_le hQ (Nat.pow_le_pow_right (n := 2) (by decide) h6)
  intro r
  induction r with
  | zero =>
    intro l done s0 hl hd hp hx hbs hO
    refine ⟨fun z => ?_, fun _ => rfl⟩
    have := zsub_pop done hd Q hQ64 z.1 z.2.1
    omega
  | succ r ih =>
    intro l done s0 hl hd hp hx hbs hO
    have SI := zNq_I D hq l (by omega) hx
    -- the place
    have pl : (if l.length = 0 then zget c g 0 (zget c g 4 (nI q) 0) 0 else zget c g 3 (s0.1 (l.length - 1)) 0) = nI (zNq g (zcn c 5) q l).2.1 := by
      by_cases y : l.length = 0
      · rw [if_pos y]
        obtain rfl : l = [] := List.eq_nil_of_length_eq_zero y
        have kk : zget c g 4 (nI q) 0 = nI (zNv g 4 q 0) := (zget_g D (s := 4) (r := q) (k := 0) (by decide) hq (by decide)).trans (zNv_kit D hq).1
        rw [kk]
        exact (zNg D (s := 0) (r := zNv g 4 q 0) (k := 0) (by decide) (zNv_kit D hq).2.1 (by decide) rfl (by decide)).1
      · rw [if_neg y, hO _ (by omega)]
        have e : (zNq g (zcn c 5) q l).2.1 = zNv g 3 (l.getD (l.length - 1) 0) 0 := by
          obtain ⟨m, hm⟩ : ∃ m, l.length = m + 1 := ⟨l.length - 1, by omega⟩
          rw [zNq, zNr, hm, zit_last, Nat.zero_add, Nat.add_sub_cancel]
          rfl
        rw [e]
        exact (zNg D (s := 3) (r := l.getD (l.length - 1) 0) (k := 0) (by decide) (hx _ (by omega)) (by decide) rfl (by decide)).1
    -- one house more
    have step : ∀ x, x < zcn c 3 → ¬ done / 2 ^ x % 2 = 1 → nI (zNq g (zcn c 5) q l).2.2.1 + zway c g (zcn c 5) (if l.length = 0 then zget c g 0 (zget c g 4 (nI q) 0) 0 else zget c g 3 (s0.1 (l.length - 1)) 0) (zget c g 3 (nI x) 0) = nI (zNm1 g (zcn c 5) (fun _ => x) l.length (zNq g (zcn c 5) q l)) ∧ nI (zNm1 g (zcn c 5) (fun _ => x) l.length (zNq g (zcn c 5) q l)) + zstay c g (nI q) (nI x) = nI (zNq g (zcn c 5) q (l ++ [x])).2.2.1 ∧ nI (zpop (zNq g (zcn c 5) q l).1) + (if zbad c g (nI q) (nI (zNm1 g (zcn c 5) (fun _ => x) l.length (zNq g (zcn c 5) q l))) then 1 else 0) = nI (zpop (zNq g (zcn c 5) q (l ++ [x])).1) ∧ nI (zpop (zNq g (zcn c 5) q (l ++ [x])).1) * 10000 + nI (zNm1 g (zcn c 5) (fun _ => x) l.length (zNq g (zcn c 5) q l)) = nI (zNwo g (zcn c 5) q (l ++ [x])) ∧ (∀ y, y < 6 → (zNq g (zcn c 5) q (l ++ [x])).1 / 2 ^ y % 2 = 1 → (done ||| 2 ^ x) / 2 ^ y % 2 = 1) := by
      intro x hx3 hxd
      obtain ⟨a1, -, -, a4⟩ := zNg D (s := 3) (r := x) (k := 0) (by decide) hx3 (by decide) rfl (by decide)
      obtain ⟨S', mb, ml⟩ := zNs_I (T := 0) (r := fun _ => x) D hq (show l.length < 6 by omega) hx3 SI
      have bd := (zNbd_c D h8 hq ml (by omega)).1
      have nb : ¬ (zNq g (zcn c 5) q l).1 / 2 ^ x % 2 = 1 := fun z => hxd (hbs x (by omega) z)
      have e1 : (zNq g (zcn c 5) q (l ++ [x])).1 = if zNbd g q (zNm1 g (zcn c 5) (fun _ => x) l.length (zNq g (zcn c 5) q l)) then (zNq g (zcn c 5) q l).1 ||| 2 ^ x else (zNq g (zcn c 5) q l).1 := by rw [zNq_up]; rfl
      refine ⟨?_, ?_, ?_, ?_, fun y hy z => ?_⟩
      · rw [pl, show zget c g 3 (nI x) 0 = nI (zNv g 3 x 0) from a1, zNw_c D SI.2.1 a4, nI_add]
        rfl
      · rw [(zNst_c D hq hx3).1, nI_add, zNq_up, zNs]
        dsimp only
        rw [if_neg (by rw [Nat.zero_div]; decide), Nat.add_zero]
      · rw [bd, e1]
        split
        · rw [zbp6 _ SI.1 x (by omega) nb, nI_1]
        · rw [Int32.add_zero]
      · rw [zNwo, List.length_append, List.length_singleton, Nat.add_sub_cancel]
        have e2 : (zNq g (zcn c 5) q (l ++ [x])).2.2.2 l.length = zNm1 g (zcn c 5) (fun _ => x) l.length (zNq g (zcn c 5) q l) := by
          rw [zNq_up]
          exact va_up_self _ _ _
        rw [e2, show (10000 : Int32) = nI 10000 from rfl, pk_mul, nI_add, Nat.mul_comm]
      · rw [zbb6 done hd x (by omega) y hy]
        by_cases w : y = x
        · rw [if_pos w]
        · rw [if_neg w]
          rw [e1] at z
          split at z
          · rw [zbb6 _ SI.1 x (by omega) y hy, if_neg w] at z
            exact hbs y hy z
          · exact hbs y hy z
    -- the loop
    have loop : ∀ (j x : Nat) (s : zos), x + j = zcn c 3 → (∀ i, i < l.length → s.1 i = nI (l.getD i 0)) → ((zsub done Q = true ∧ done ≠ Q ∧ zpop Q ≤ H → ((zit (fun x s => if (done ||| 2 ^ x) = done then s else zoE c g (zcn c 5) (zcn c 3) q r (l.length + 1) (done ||| 2 ^ x) (nI (zNq g (zcn c 5) q l).2.2.1 + zway c g (zcn c 5) (if l.length = 0 then zget c g 0 (zget c g 4 (nI q) 0) 0 else zget c g 3 (s0.1 (l.length - 1)) 0) (zget c g 3 (nI x) 0) + zstay c g (nI q) (nI x)) (nI (zpop (zNq g (zcn c 5) q l).1) + (if zbad c g (nI q) (nI (zNq g (zcn c 5) q l).2.2.1 + zway c g (zcn c 5) (if l.length = 0 then zget c g 0 (zget c g 4 (nI q) 0) 0 else zget c g 3 (s0.1 (l.length - 1)) 0) (zget c g 3 (nI x) 0)) then 1 else 0)) (zoN (done ||| 2 ^ x) ((nI (zpop (zNq g (zcn c 5) q l).1) + (if zbad c g (nI q) (nI (zNq g (zcn c 5) q l).2.2.1 + zway c g (zcn c 5) (if l.length = 0 then zget c g 0 (zget c g 4 (nI q) 0) 0 else zget c g 3 (s0.1 (l.length - 1)) 0) (zget c g 3 (nI x) 0)) then 1 else 0)) * 10000 + (nI (zNq g (zcn c 5) q l).2.2.1 + zway c g (zcn c 5) (if l.length = 0 then zget c g 0 (zget c g 4 (nI q) 0) 0 else zget c g 3 (s0.1 (l.length - 1)) 0) (zget c g 3 (nI x) 0))) (upd s.1 l.length (nI x), s.2))) x j s).2.1 Q, (zit (fun x s => if (done ||| 2 ^ x) = done then s else zoE c g (zcn c 5) (zcn c 3) q r (l.length + 1) (done ||| 2 ^ x) (nI (zNq g (zcn c 5) q l).2.2.1 + zway c g (zcn c 5) (if l.length = 0 then zget c g 0 (zget c g 4 (nI q) 0) 0 else zget c g 3 (s0.1 (l.length - 1)) 0) (zget c g 3 (nI x) 0) + zstay c g (nI q) (nI x)) (nI (zpop (zNq g (zcn c 5) q l).1) + (if zbad c g (nI q) (nI (zNq g (zcn c 5) q l).2.2.1 + zway c g (zcn c 5) (if l.length = 0 then zget c g 0 (zget c g 4 (nI q) 0) 0 else zget c g 3 (s0.1 (l.length - 1)) 0) (zget c g 3 (nI x) 0)) then 1 else 0)) (zoN (done ||| 2 ^ x) ((nI (zpop (zNq g (zcn c 5) q l).1) + (if zbad c g (nI q) (nI (zNq g (zcn c 5) q l).2.2.1 + zway c g (zcn c 5) (if l.length = 0 then zget c g 0 (zget c g 4 (nI q) 0) 0 else zget c g 3 (s0.1 (l.length - 1)) 0) (zget c g 3 (nI x) 0)) then 1 else 0)) * 10000 + (nI (zNq g (zcn c 5) q l).2.2.1 + zway c g (zcn c 5) (if l.length = 0 then zget c g 0 (zget c g 4 (nI q) 0) 0 else zget c g 3 (s0.1 (l.length - 1)) 0) (zget c g 3 (nI x) 0))) (upd s.1 l.length (nI x), s.2))) x j s).2.2 Q) = (zpmX (fun x => zpm (zcn c 3) (zpop Q - (l.length + 1)) ((Q &&& (63 - done)) &&& (63 - 2 ^ x))) (Q &&& (63 - done)) x j).foldl (fun e p => zNe g (zcn c 5) q e (l ++ p)) (s.2.1 Q, s.2.2 Q)) ∧ (zsub done Q = false ∨ done = Q → ((zit (fun x s => if (done ||| 2 ^ x) = done then s else zoE c g (zcn c 5) (zcn c 3) q r (l.length + 1) (done ||| 2 ^ x) (nI (zNq g (zcn c 5) q l).2.2.1 + zway c g (zcn c 5) (if l.length = 0 then zget c g 0 (zget c g 4 (nI q) 0) 0 else zget c g 3 (s0.1 (l.length - 1)) 0) (zget c g 3 (nI x) 0) + zstay c g (nI q) (nI x)) (nI (zpop (zNq g (zcn c 5) q l).1) + (if zbad c g (nI q) (nI (zNq g (zcn c 5) q l).2.2.1 + zway c g (zcn c 5) (if l.length = 0 then zget c g 0 (zget c g 4 (nI q) 0) 0 else zget c g 3 (s0.1 (l.length - 1)) 0) (zget c g 3 (nI x) 0)) then 1 else 0)) (zoN (done ||| 2 ^ x) ((nI (zpop (zNq g (zcn c 5) q l).1) + (if zbad c g (nI q) (nI (zNq g (zcn c 5) q l).2.2.1 + zway c g (zcn c 5) (if l.length = 0 then zget c g 0 (zget c g 4 (nI q) 0) 0 else zget c g 3 (s0.1 (l.length - 1)) 0) (zget c g 3 (nI x) 0)) then 1 else 0)) * 10000 + (nI (zNq g (zcn c 5) q l).2.2.1 + zway c g (zcn c 5) (if l.length = 0 then zget c g 0 (zget c g 4 (nI q) 0) 0 else zget c g 3 (s0.1 (l.length - 1)) 0) (zget c g 3 (nI x) 0))) (upd s.1 l.length (nI x), s.2))) x j s).2.1 Q, (zit (fun x s => if (done ||| 2 ^ x) = done then s else zoE c g (zcn c 5) (zcn c 3) q r (l.length + 1) (done ||| 2 ^ x) (nI (zNq g (zcn c 5) q l).2.2.1 + zway c g (zcn c 5) (if l.length = 0 then zget c g 0 (zget c g 4 (nI q) 0) 0 else zget c g 3 (s0.1 (l.length - 1)) 0) (zget c g 3 (nI x) 0) + zstay c g (nI q) (nI x)) (nI (zpop (zNq g (zcn c 5) q l).1) + (if zbad c g (nI q) (nI (zNq g (zcn c 5) q l).2.2.1 + zway c g (zcn c 5) (if l.length = 0 then zget c g 0 (zget c g 4 (nI q) 0) 0 else zget c g 3 (s0.1 (l.length - 1)) 0) (zget c g 3 (nI x) 0)) then 1 else 0)) (zoN (done ||| 2 ^ x) ((nI (zpop (zNq g (zcn c 5) q l).1) + (if zbad c g (nI q) (nI (zNq g (zcn c 5) q l).2.2.1 + zway c g (zcn c 5) (if l.length = 0 then zget c g 0 (zget c g 4 (nI q) 0) 0 else zget c g 3 (s0.1 (l.length - 1)) 0) (zget c g 3 (nI x) 0)) then 1 else 0)) * 10000 + (nI (zNq g (zcn c 5) q l).2.2.1 + zway c g (zcn c 5) (if l.length = 0 then zget c g 0 (zget c g 4 (nI q) 0) 0 else zget c g 3 (s0.1 (l.length - 1)) 0) (zget c g 3 (nI x) 0))) (upd s.1 l.length (nI x), s.2))) x j s).2.2 Q) = (s.2.1 Q, s.2.2 Q))) := by
      intro j
      induction j with
      | zero => intro x s hx' hs; exact ⟨fun _ => rfl, fun _ => rfl⟩
      | succ j ihj =>
        intro x s hx' hs
        have x6 : x < 6 := by omega
        rw [zit]
        by_cases y : done / 2 ^ x % 2 = 1
        · rw [if_pos ((zor_bit done hd x x6).mpr y)]
          have := ihj (x + 1) s (by omega) hs
          refine ⟨fun z => ?_, this.2⟩
          rw [this.1 z, zpmX, if_neg (fun w => ((zdif_bit done hd Q hQ64 x x6).mp w).2 y), List.nil_append]
        · rw [if_neg (fun w => y ((zor_bit done hd x x6).mp w))]
          obtain ⟨p1, p2, p3, p4, p5⟩ := step x (by omega) y
          rw [p1, p2, p3, p4]
          have nd := zbor done hd x x6
          have np := zbp6 done hd x x6 y
          have su := zsub_up done hd Q hQ64 x x6
          -- the state behind the note
          have nO : ∀ w (s : zos), (zoN (done ||| 2 ^ x) w s).1 = s.1 := fun w s => by rw [zoN]; split <;> rfl
          have len1 : (l ++ [x]).length = l.length + 1 := by rw [List.length_append, List.length_singleton]
          have gl : ∀ i, i < l.length + 1 → (l ++ [x]).getD i 0 = if i < l.length then l.getD i 0 else x := fun i hi => by
            by_cases w : i < l.length
            · rw [if_pos w, zgd_l w]
            · rw [if_neg w, show i = l.length by omega, zgd_r]
          have O1 : ∀ i, i < l.length + 1 → upd s.1 l.length (nI x) i = nI ((l ++ [x]).getD i 0) := fun i hi => by
            rw [gl i hi]
            by_cases w : i < l.length
            · rw [if_pos w, upd_ne (by omega), hs i w]
            · rw [if_neg w, show i = l.length by omega, upd_eq]
          have pk : zit (zpkS (upd s.1 l.length (nI x))) 0 (zpop (done ||| 2 ^ x)) 0 = zpkP (l ++ [x]) := by
            rw [zpkP, np, hp, len1]
            refine zit_congr _ _ _ (fun i _ hi b => ?_)
            rw [zpkS, O1 i (by omega)]
          have IH := ih (l ++ [x]) (done ||| 2 ^ x) (zoN (done ||| 2 ^ x) (nI (zNwo g (zcn c 5) q (l ++ [x]))) (upd s.1 l.length (nI x), s.2)) (by rw [len1]; omega) nd.2 (by rw [np, hp, len1]) (fun i hi => by
            rw [len1] at hi
            rw [gl i hi]
            split
            · exact hx i (by omega)
            · omega) p5 (fun i hi => by
            rw [nO]
            rw [len1] at hi
            exact O1 i hi)
          rw [len1] at IH
          have rest := ihj (x + 1) (zoE c g (zcn c 5) (zcn c 3) q r (l.length + 1) (done ||| 2 ^ x) (nI (zNq g (zcn c 5) q (l ++ [x])).2.2.1) (nI (zpop (zNq g (zcn c 5) q (l ++ [x])).1)) (zoN (done ||| 2 ^ x) (nI (zNwo g (zcn c 5) q (l ++ [x]))) (upd s.1 l.length (nI x), s.2))) (by omega) (fun i hi => by
            rw [zoE_O _ _ _ r (l.length + 1) _ _ _ _ i (by omega), nO]
            show upd s.1 l.length (nI x) i = _
            rw [upd_ne (by omega)]
            exact hs i hi)
          -- the note at Q
          have nQ : done ||| 2 ^ x ≠ Q → ((zoN (done ||| 2 ^ x) (nI (zNwo g (zcn c 5) q (l ++ [x]))) (upd s.1 l.length (nI x), s.2)).2.1 Q, (zoN (done ||| 2 ^ x) (nI (zNwo g (zcn c 5) q (l ++ [x]))) (upd s.1 l.length (nI x), s.2)).2.2 Q) = (s.2.1 Q, s.2.2 Q) := fun w => by
            rw [zoN]
            split
            · dsimp only
              rw [upd_ne (Ne.symm w), upd_ne (Ne.symm w)]
            · rfl
          have yQ : done ||| 2 ^ x = Q → ((zoN (done ||| 2 ^ x) (nI (zNwo g (zcn c 5) q (l ++ [x]))) (upd s.1 l.length (nI x), s.2)).2.1 Q, (zoN (done ||| 2 ^ x) (nI (zNwo g (zcn c 5) q (l ++ [x]))) (upd s.1 l.length (nI x), s.2)).2.2 Q) = zNe g (zcn c 5) q (s.2.1 Q, s.2.2 Q) (l ++ [x]) := fun w => by
            rw [zoN, zNe, pk, w]
            dsimp only
            split
            · dsimp only
              rw [upd_eq, upd_eq]
            · rfl
          refine ⟨fun z => ?_, fun z => ?_⟩
          · rw [rest.1 z, zpmX, List.foldl_append]
            congr 1
            by_cases w : Q / 2 ^ x % 2 = 1
            · have s1 : zsub (done ||| 2 ^ x) Q = true := by rw [su, z.1, decide_eq_true w]; rfl
              rw [if_pos ((zdif_bit done hd Q hQ64 x x6).mpr ⟨w, y⟩), List.foldl_map]
              by_cases e : done ||| 2 ^ x = Q
              · rw [IH.2 (.inr e), yQ e]
                have : zpop Q - (l.length + 1) = 0 := by rw [← e, np, hp]; omega
                rw [this]
                rfl
              · rw [IH.1 ⟨s1, e, z.2.2⟩, nQ e]
                rw [Nat.and_assoc, zdif_up done hd x x6]
                refine congrArg (fun f => List.foldl f _ _) ?_
                funext e p
                rw [List.append_assoc]
                rfl
            · have s1 : zsub (done ||| 2 ^ x) Q = false := by rw [su, decide_eq_false w, Bool.and_false]
              rw [if_neg (fun v => w ((zdif_bit done hd Q hQ64 x x6).mp v).1), IH.2 (.inl s1), nQ (zsub_ne _ nd.2 Q hQ64 s1)]
              rfl
          · rw [rest.2 z]
            have s1 : zsub (done ||| 2 ^ x) Q = false := by
              rcases z with z | z
              · rw [su, z, Bool.false_and]
              · rw [← z]
                exact zsub_self done hd x x6 y
            rw [IH.2 (.inl s1), nQ (zsub_ne _ nd.2 Q hQ64 s1)]
    have fin := loop (zcn c 3) 0 s0 (by omega) hO
    rw [zoE]
    refine ⟨fun z => ?_, fun z => fin.2 z⟩
    rw [fin.1 z]
    have := zsub_pop done hd Q hQ64 z.1 z.2.1
    obtain ⟨m, hm⟩ : ∃ m, zpop Q - l.length = m + 1 := ⟨zpop Q - l.length - 1, by omega⟩
    rw [hm, zpm, show zpop Q - (l.length + 1) = m by omega]
end NZNB
