/-! the best share: class and reference say the same -/
theorem zit_add {α : Type} (f : Nat → α → α) : ∀ (a b k : Nat) (s : α), zit f k (a + b) s = zit f (k + a) b (zit f k a s)
  | 0, b, k, s => by rw [Nat.zero_add, Nat.add_zero, zit]
  | a + 1, b, k, s => by
    rw [show a + 1 + b = (a + b) + 1 by omega, zit, zit, zit_add f a b (k + 1), show k + 1 + a = k + (a + 1) by omega]
theorem zit_mul {α : Type} (f : Nat → α → α) (k q : Nat) (s : α) : ∀ p, zit f k (p * q) s = zit (fun i s => zit f (k + i * q) q s) 0 p s
  | 0 => by rw [Nat.zero_mul]; rfl
  | p + 1 => by
    rw [Nat.add_mul, Nat.one_mul, zit_add, zit_mul f k q s p, zit_last, Nat.zero_add]
/-- the houses of a car among the first x -/
def zhp (m c : Nat) : Nat → Nat → Nat
  | 0, _ => 0
  | x + 1, pre => if pre % m = c then zhp m c x (pre / m) ||| 2 ^ x else zhp m c x (pre / m)
theorem zhp_lt (m c : Nat) : ∀ x, x ≤ 6 → ∀ pre, zhp m c x pre < 2 ^ x
  | 0, _, _ => by rw [zhp]; decide
  | x + 1, hx, pre => by
    have h := zhp_lt m c x (by omega) (pre / m)
    have h2 : (2 : Nat) ^ (x + 1) = 2 ^ x * 2 := Nat.pow_succ ..
    rw [zhp]
    split
    · exact zbn6 (x + 1) (by omega) _ (by omega) x (by omega)
    · omega
theorem z2le {x : Nat} (hx : x ≤ 6) : (2 : Nat) ^ x ≤ 64 := Nat.pow_le_pow_right (n := 2) (by decide) hx
theorem zor_cm : ∀ a, a < 64 → ∀ s, s < 64 → ∀ x, x < 6 → (a ||| (s ||| 2 ^ x)) = ((a ||| 2 ^ x) ||| s) := by decide +kernel
theorem zho_p (m c : Nat) : ∀ x, x ≤ 6 → ∀ left s, s < 64 → zho m c x left s = zhp m c x left ||| s
  | 0, _, left, s, _ => by rw [zho, zhp, Nat.zero_or]
  | x + 1, hx, left, s, hs => by
    have := zhp_lt m c x (by omega) (left / m)
    have := z2le (x := x) (by omega)
    rw [zho, zhp]
    split
    · rw [zho_p m c x (by omega) _ _ (zbor s hs x (by omega)).2, zor_cm _ (by omega) s hs x (by omega)]
    · exact zho_p m c x (by omega) _ s hs
theorem zhp_bit : ∀ x, x < 6 → ∀ a, a < 2 ^ x → ¬ a / 2 ^ x % 2 = 1 := by decide +kernel
theorem zhp_res : ∀ x, x < 6 → ∀ a, a < 2 ^ x → (a ||| 2 ^ x) &&& (63 - 2 ^ x) = a := by decide +kernel
theorem zpop_or : ∀ a, a < 64 → ∀ x, x < 6 → zpop a ≤ zpop (a ||| 2 ^ x) := by decide +kernel
theorem zhp_mono (m c : Nat) {x : Nat} : ∀ k, x + k ≤ 6 → ∀ all, zpop (zhp m c x (all / m ^ k)) ≤ zpop (zhp m c (x + k) all)
  | 0, _, all => by rw [Nat.pow_zero, Nat.div_one]; exact Nat.le_refl _
  | k + 1, hk, all => by
    have h := zhp_mono m c (x := x) k (by omega) (all / m)
    rw [Nat.div_div_eq_div_mul, Nat.mul_comm, ← Nat.pow_succ] at h
    refine Nat.le_trans h ?_
    have := zhp_lt m c (x + k) (by omega) (all / m)
    have := z2le (x := x + k) (by omega)
    rw [show x + (k + 1) = (x + k) + 1 by omega, zhp]
    split
    · exact zpop_or _ (by omega) (x + k) (by omega)
    · exact Nat.le_refl _
/-- the car of a house in a share -/
def zdg (m n all h : Nat) : Nat := all / m ^ (n - 1 - h) % m
section NZSH
variable {c g : Nat → Int32} {Wt : Nat → Nat → Int32} {P Q : Nat → Int32} {H : Nat → Nat} {m n : Nat} {bb tt : Nat → Nat → Nat}
/-- the best so far -/
def zsR (m n : Nat) (s : zss) (rs : zsht) : Prop := (s.2.2.2 = 1000000000 ∧ rs.1 = none) ∨ ∃ all b t, all < m ^ n ∧ b ≤ 18 ∧ t < 10000 ∧ rs = (some all, nI b, nI t) ∧ s.2.2.2 = nI (10000 * b + t) ∧ ∀ h, h < n → s.2.2.1 h = nI (zdg m n all h)
def zsW (Wt : Nat → Nat → Int32) (P Q : Nat → Int32) (H : Nat → Nat) (m n : Nat) (bb tt : Nat → Nat → Nat) : Prop := ∀ q, q < m → ∀ S, S < 2 ^ n → zpop S ≤ H q → (if S = 0 then 0 else Wt q S) = nI (10000 * bb q S + tt q S) ∧ P (64 * q + S) = nI (bb q S) ∧ Q (64 * q + S) = nI (tt q S) ∧ bb q S ≤ 6 ∧ tt q S < 3200
theorem zsh_fit (hn : n ≤ 6) {all : Nat} : ∀ (j i : Nat) (q : Int32 × Int32 × Bool), i + j = m → ((zit (zshI P Q H m n all) i j q).2.2 = true ↔ q.2.2 = true ∧ ∀ x, i ≤ x → x < m → zpop (zhp m x n all) ≤ H x) := by
  intro j
  induction j with
  | zero => intro i q hi; rw [zit]; exact ⟨fun z => ⟨z, fun x h1 h2 => by omega⟩, fun z => z.1⟩
  | succ j ih =>
    intro i q hi
    rw [zit, ih (i + 1) _ (by omega), zshI]
    dsimp only
    rw [Bool.and_eq_true, decide_eq_true_eq, zho_p m i n hn all 0 (by decide), Nat.or_zero]
    constructor
    · intro ⟨⟨h1, h2⟩, h3⟩
      refine ⟨h1, fun x hx1 hx2 => ?_⟩
      by_cases z : x = i
      · rw [z]; exact h2
      · exact h3 x (by omega) hx2
    · intro ⟨h1, h2⟩
      exact ⟨⟨h1, h2 i (Nat.le_refl _) (by omega)⟩, fun x hx1 hx2 => h2 x (by omega) hx2⟩
theorem zsh_sum (hn : n ≤ 6) (hm : m ≤ 3) (hW : zsW Wt P Q H m n bb tt) {all : Nat} (hf : ∀ x, x < m → zpop (zhp m x n all) ≤ H x) : ∀ (j i : Nat) (q : Int32 × Int32 × Bool) (b t : Nat), i + j = m → q.1 = nI b → q.2.1 = nI t → ∃ b' t', b' ≤ b + 6 * j ∧ t' ≤ t + 3199 * j ∧ (zit (zshI P Q H m n all) i j q).1 = nI b' ∧ (zit (zshI P Q H m n all) i j q).2.1 = nI t' ∧ ∀ a : Nat, zit (zshW Wt (fun x => if x < m then zhp m x n all else 0)) i j (nI (10000 * b + t + a)) = nI (10000 * b' + t' + a) := by
  intro j
  induction j with
  | zero => intro i q b t hi e1 e2; exact ⟨b, t, by omega, by omega, e1, e2, fun a => rfl⟩
  | succ j ih =>
    intro i q b t hi e1 e2
    obtain ⟨w1, w2, w3, w4, w5⟩ := hW i (by omega) (zhp m i n all) (zhp_lt m i n hn all) (hf i (by omega))
    obtain ⟨b', t', h1, h2, h3, h4, h5⟩ := ih (i + 1) (zshI P Q H m n all i q) (b + bb i (zhp m i n all)) (t + tt i (zhp m i n all)) (by omega) (by
      rw [zshI]
      dsimp only
      rw [zho_p m i n hn all 0 (by decide), Nat.or_zero, e1, w2, nI_add]) (by
      rw [zshI]
      dsimp only
      rw [zho_p m i n hn all 0 (by decide), Nat.or_zero, e2, w3, nI_add])
    refine ⟨b', t', by omega, by omega, h3, h4, fun a => ?_⟩
    rw [zit, ← h5 a, zshW]
    rw [if_pos (show i < m by omega), w1, nI_add]
    congr 2
    omega
theorem zshW_0 (all : Nat) : ∀ (j i : Nat) (a : Int32), m ≤ i → zit (zshW Wt (fun x => if x < m then zhp m x n all else 0)) i j a = a := by
  intro j
  induction j with
  | zero => intro i a _; rfl
  | succ j ih =>
    intro i a hi
    rw [zit, ih (i + 1) _ (by omega), zshW]
    rw [if_neg (show ¬ i < m by omega), if_pos rfl, Int32.add_zero]
theorem zgiv_eq (hn : n ≤ 6) (hm : m ≤ 3) (m0 : 0 < m) (hW : zsW Wt P Q H m n bb tt) (hH : ∀ q, q < m → zget c g 4 (nI q) 2 = nI (H q) ∧ H q ≤ 6) : ∀ (r x pre : Nat) (s : zss) (rs : zsht), x + r = n → pre < m ^ x → (s.1 = fun q => if q < m then zhp m q x pre else 0) → (∀ q, q < m → zpop (zhp m q x pre) ≤ H q) → (∀ h, h < x → s.2.1 h = nI (zdg m x pre h)) → zsR m n s rs → zsR m n (zgiv c g Wt m r x s) (zit (zshO P Q H m n) (pre * m ^ r) (m ^ r) rs) ∧ (zgiv c g Wt m r x s).1 = s.1 ∧ ∀ h, h < x → (zgiv c g Wt m r x s).2.1 h = s.2.1 h := by
  intro r
  induction r with
  | zero =>
    intro x pre s rs hx hp e1 hf ed R
    obtain rfl : x = n := by omega
    have fit := (zsh_fit (P := P) (Q := Q) (H := H) hn (all := pre) m 0 (0, 0, true) (by omega)).mpr ⟨rfl, fun q _ hq => hf q hq⟩
    obtain ⟨b, t, h1, h2, h3, h4, h5⟩ := zsh_sum hn hm hW hf m 0 (0, 0, true) 0 0 (by omega) rfl rfl
    have sum : zit (zshW Wt s.1) 0 3 0 = nI (10000 * b + t) := by
      have a5 := h5 0
      rw [Nat.add_zero, Nat.add_zero] at a5
      rw [e1, show (3 : Nat) = m + (3 - m) by omega, zit_add, zshW_0 pre _ _ _ (by omega)]
      exact a5
    rw [zgiv, zshN, sum, Nat.pow_zero, Nat.mul_one, show zit (zshO P Q H m x) pre 1 rs = zshO P Q H m x pre rs from rfl, zshO, zshV, zshR]
    have b18 : b ≤ 18 := by omega
    have t9 : t < 10000 := by omega
    rcases R with ⟨R1, R2⟩ | ⟨all, b0, t0, R1, R2, R3, R4, R5, R6⟩
    · have c1 : ¬ s.2.2.2 ≤ nI (10000 * b + t) := by
        rw [R1]
        exact nI_ge (b := 1000000000) (by omega) (by decide)
      rw [if_neg c1, if_neg (by rintro (z | z); rw [fit] at z; cases z; exact z.1 R2)]
      refine ⟨.inr ⟨pre, b, t, hp, b18, t9, ?_, rfl, fun h hh => ?_⟩, rfl, fun _ _ => rfl⟩
      · rw [h3, h4]
      · show va_cpy s.2.1 s.2.2.1 0 0 6 h = _
        rw [pk_cpy_in (Nat.zero_le _) (by omega), show 0 + (h - 0) = h by omega]
        exact ed h hh
    · have cond : (s.2.2.2 ≤ nI (10000 * b + t)) ↔ (rs.1 ≠ none ∧ (rs.2.1 < (zit (zshI P Q H m x pre) 0 m (0, 0, true)).1 ∨ ((zit (zshI P Q H m x pre) 0 m (0, 0, true)).1 = rs.2.1 ∧ ¬ (zit (zshI P Q H m x pre) 0 m (0, 0, true)).2.1 < rs.2.2))) := by
        rw [R4, R5, h3, h4, nI_leI (by omega) (by omega)]
        dsimp only
        rw [nI_ltI (by omega) (by omega), nI_eq (by omega) (by omega), nI_ltI (by omega) (by omega)]
        simp only [ne_eq, reduceCtorEq, not_false_eq_true, true_and]
        omega
      by_cases y : s.2.2.2 ≤ nI (10000 * b + t)
      · rw [if_pos y, if_pos (.inr (cond.mp y))]
        exact ⟨.inr ⟨all, b0, t0, R1, R2, R3, R4, R5, R6⟩, rfl, fun _ _ => rfl⟩
      · rw [if_neg y, if_neg (by rintro (z | z); rw [fit] at z; cases z; exact y (cond.mpr z))]
        refine ⟨.inr ⟨pre, b, t, hp, b18, t9, ?_, rfl, fun h hh => ?_⟩, rfl, fun _ _ => rfl⟩
        · rw [h3, h4]
        · show va_cpy s.2.1 s.2.2.1 0 0 6 h = _
          rw [pk_cpy_in (Nat.zero_le _) (by omega), show 0 + (h - 0) = h by omega]
          exact ed h hh
  | succ r ih =>
    intro x pre s rs hx hp e1 hf ed R
    have x6 : x < 6 := by omega
    rw [zgiv, Nat.pow_succ, Nat.mul_comm (m ^ r) m, zit_mul]
    have := zit_two (f := fun car s => if zget c g 4 (nI car) 2 ≤ nI (zpop (s.1 car)) then s else (va_up (zgiv c g Wt m r (x + 1) (va_up s.1 car (s.1 car ||| 2 ^ x), upd s.2.1 x (nI car), s.2.2)).1 car ((zgiv c g Wt m r (x + 1) (va_up s.1 car (s.1 car ||| 2 ^ x), upd s.2.1 x (nI car), s.2.2)).1 car &&& (63 - 2 ^ x)), (zgiv c g Wt m r (x + 1) (va_up s.1 car (s.1 car ||| 2 ^ x), upd s.2.1 x (nI car), s.2.2)).2)) (f' := fun i rs => zit (zshO P Q H m n) (pre * (m * m ^ r) + i * m ^ r) (m ^ r) rs) (P := fun _ (s' : zss) (rs' : zsht) => zsR m n s' rs' ∧ s'.1 = s.1 ∧ ∀ h, h < x → s'.2.1 h = s.2.1 h) m 0 s rs ⟨R, rfl, fun _ _ => rfl⟩ (fun car _ hcar s' rs' Pr => ?_)
    · exact this
    obtain ⟨R', e1', ed'⟩ := Pr
    have hcar : car < m := by omega
    obtain ⟨g1, g2⟩ := hH car hcar
    have hc1 : s'.1 car = zhp m car x pre := by rw [e1', e1]; exact if_pos hcar
    have hlt := zhp_lt m car x (by omega) pre
    have h64 := z2le (x := x) (by omega)
    have hb := zhp_bit x x6 _ hlt
    have hpp := zbp6 _ (show zhp m car x pre < 64 by omega) x x6 hb
    have hpl := zpop_le (zhp m car x pre) (by omega)
    have nx : ∀ q, zhp m q (x + 1) (pre * m + car) = if q = car then zhp m q x pre ||| 2 ^ x else zhp m q x pre := fun q => by
      rw [zhp, Nat.mul_comm, Nat.mul_add_mod, Nat.mod_eq_of_lt hcar, Nat.mul_add_div m0, Nat.div_eq_of_lt hcar, Nat.add_zero]
      by_cases z : q = car
      · rw [if_pos z.symm, if_pos z]
      · rw [if_neg (fun w => z w.symm), if_neg z]
    have start : pre * (m * m ^ r) + car * m ^ r = (pre * m + car) * m ^ r := by rw [Nat.add_mul, Nat.mul_assoc]
    rw [g1, hc1, start]
    by_cases y : H car ≤ zpop (zhp m car x pre)
    · rw [if_pos (nI_le y (by omega))]
      -- nothing in there fits
      have no : ∀ (j all : Nat), (pre * m + car) * m ^ r ≤ all → all + j ≤ (pre * m + car + 1) * m ^ r → ∀ q, zit (zshO P Q H m n) all j q = q := by
        intro j
        induction j with
        | zero => intro all _ _ q; rfl
        | succ j ihj =>
          intro all ha hb' q
          have mp : 0 < m ^ r := Nat.pow_pos m0
          have dv : all / m ^ r = pre * m + car := by
            refine Nat.div_eq_of_lt_le ha ?_
            omega
          have mono := zhp_mono m car (x := x + 1) r (by omega) all
          rw [dv, nx car, if_pos rfl, hpp, show x + 1 + r = n by omega] at mono
          have nf : ¬ (zit (zshI P Q H m n all) 0 m (0, 0, true)).2.2 = true := fun z => by
            have := ((zsh_fit (P := P) (Q := Q) (H := H) hn (all := all) m 0 (0, 0, true) (by omega)).mp z).2 car (Nat.zero_le _) hcar
            omega
          rw [zit, show zshO P Q H m n all q = q by
            rw [zshO, zshV, if_pos (.inl (by rw [zshR]; cases h : (zit (zshI P Q H m n all) 0 m (0, 0, true)).2.2 with | true => exact absurd h nf | false => rfl))]]
          exact ihj (all + 1) (by omega) (by omega) q
      rw [no (m ^ r) _ (Nat.le_refl _) (by rw [Nat.add_mul (pre * m + car) 1, Nat.one_mul]; exact Nat.le_refl _)]
      exact ⟨R', e1', ed'⟩
    · rw [if_neg (nI_ge (by omega) (by omega))]
      have IH := ih (x + 1) (pre * m + car) (va_up s'.1 car (zhp m car x pre ||| 2 ^ x), upd s'.2.1 x (nI car), s'.2.2) rs' (by omega) (by
        rw [Nat.pow_succ]
        have : pre * m + m ≤ m ^ x * m := by rw [← Nat.succ_mul]; exact Nat.mul_le_mul_right _ hp
        omega) (by
        funext q
        show va_up s'.1 car (zhp m car x pre ||| 2 ^ x) q = if q < m then zhp m q (x + 1) (pre * m + car) else 0
        rw [nx q]
        by_cases z : q = car
        · rw [z, va_up_self, if_pos hcar, if_pos rfl]
        · rw [va_up_ne _ _ z, if_neg z, e1', e1]) (fun q hq => by
        rw [nx q]
        split
        · rename_i z
          rw [z, hpp]
          omega
        · exact hf q hq) (fun h hh => by
        show upd s'.2.1 x (nI car) h = _
        rw [zdg, show x + 1 - 1 - h = x - h by omega]
        by_cases z : h = x
        · rw [z, upd_eq, Nat.sub_self, Nat.pow_zero, Nat.div_one, Nat.mul_comm, Nat.mul_add_mod, Nat.mod_eq_of_lt hcar]
        · rw [upd_ne z, ed' h (by omega), ed h (by omega), zdg]
          obtain ⟨k, hk⟩ : ∃ k, x - h = k + 1 := ⟨x - h - 1, by omega⟩
          rw [show x - 1 - h = k by omega, hk, Nat.pow_succ, Nat.mul_comm (m ^ k) m, ← Nat.div_div_eq_div_mul, Nat.mul_comm pre m, Nat.mul_add_div m0, Nat.div_eq_of_lt hcar, Nat.add_zero]) R'
      obtain ⟨I1, I2, I3⟩ := IH
      refine ⟨?_, ?_, fun h hh => ?_⟩
      · exact I1
      · show va_up _ car _ = s.1
        rw [I2]
        dsimp only
        rw [va_up_up, va_up_self, zhp_res x x6 _ hlt]
        funext q
        by_cases z : q = car
        · rw [z, va_up_self, ← hc1, e1']
        · rw [va_up_ne _ _ z, e1']
      · show (zgiv c g Wt m r (x + 1) (va_up s'.1 car (zhp m car x pre ||| 2 ^ x), upd s'.2.1 x (nI car), s'.2.2)).2.1 h = _
        rw [I3 h (by omega)]
        show upd s'.2.1 x (nI car) h = _
        rw [upd_ne (by omega)]
        exact ed' h hh
end NZSH
