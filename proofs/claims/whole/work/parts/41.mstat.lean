/-! the reference: its static helpers -/
section NZX
variable {d : Nat} {h : nzH}
theorem jX13_in (hd : 0 < d) (x y z : Int32) : nzxI d nX13_in [.int x, .int y, .int z] h = some (if x < y then 0 else if z < x then 0 else 1, h) := by
  refine iX13_in hd ?_
  rw [eX13_in_0, eX13_in_14]
  split
  · rfl
  · split <;> rfl
theorem jX13_has (hd : 0 < d) (x y : Int32) : nzxI d nX13_has [.int x, .int y] h = some (if (x >>> (y &&& 31)) &&& 1 = 1 then 1 else 0, h) := by
  refine iX13_has hd ?_
  rw [eX13_has_0]
  split <;> rfl
theorem zbit1 : ∀ n, n < 64 → 0 < n → nI n &&& (nI n - 1) = nI (n &&& (n - 1)) ∧ (n &&& (n - 1)) < n ∧ zpop n = zpop (n &&& (n - 1)) + 1 := by decide +kernel
theorem jX13_bits4 (x : Int32) : ∀ (m n a : Nat), n ≤ m → n < 64 → nzr d nX13_bits 4 [some (.int x), some (.int (nI a)), some (.int (nI n))] [] h = some (some (.int (nI (a + zpop n))), h) := by
  intro m
  induction m with
  | zero =>
    intro n a hm hn
    obtain rfl : n = 0 := by omega
    rw [eX13_bits_4, if_pos (show nI 0 = 0 from rfl)]
    rfl
  | succ m ih =>
    intro n a hm hn
    by_cases z : n = 0
    · subst z
      rw [eX13_bits_4, if_pos (show nI 0 = 0 from rfl)]
      rfl
    · have b := zbit1 n hn (by omega)
      rw [eX13_bits_4, if_neg (nI_ne0 (by omega) (by omega)), b.1, nI_1, ih _ _ (by omega) (by omega), b.2.2, show a + 1 + zpop (n &&& (n - 1)) = a + (zpop (n &&& (n - 1)) + 1) by omega]
theorem jX13_bits (hd : 0 < d) {n : Nat} (hn : n < 64) : nzxI d nX13_bits [.int (nI n)] h = some (nI (zpop n), h) := by
  refine iX13_bits hd ?_
  have := jX13_bits4 (d := d - 1) (h := h) (nI n) n n 0 (Nat.le_refl n) hn
  rw [Nat.zero_add] at this
  rw [eX13_bits_0]
  exact this
def zfac : Nat → Nat
  | 0 => 1
  | n + 1 => (n + 1) * zfac n
theorem jX13_ord4 {n : Nat} (hn : n ≤ 6) : ∀ (j k : Nat), k + j = n + 1 → 1 ≤ k → nzr d nX13_orders 4 [some (.int (nI n)), some (.int (nI (zfac (k - 1)))), some (.int (nI k))] [] h = some (some (.int (nI (zfac n))), h) := by
  intro j
  induction j with
  | zero =>
    intro k hk h1
    rw [eX13_orders_4, if_pos (nI_lt (by omega) (by omega)), show k - 1 = n by omega]
  | succ j ih =>
    intro k hk h1
    rw [eX13_orders_4, if_neg (nI_nlt (by omega) (by omega)), pk_mul, nI_1, show zfac (k - 1) * k = zfac (k + 1 - 1) by
      obtain ⟨q, rfl⟩ : ∃ q, k = q + 1 := ⟨k - 1, by omega⟩
      show zfac q * (q + 1) = (q + 1) * zfac q
      exact Nat.mul_comm _ _]
    exact ih (k + 1) (by omega) (by omega)
theorem jX13_orders (hd : 0 < d) {n : Nat} (hn : n ≤ 6) : nzxI d nX13_orders [.int (nI n)] h = some (nI (zfac n), h) := by
  refine iX13_orders hd ?_
  rw [eX13_orders_0]
  by_cases z : n = 0
  · subst z
    rw [eX13_orders_4, if_pos (show nI 0 < 2 by decide)]
    rfl
  · exact jX13_ord4 (d := d - 1) hn (n - 1) 2 (by omega) (by decide)
/-- where an object's fields lie: the reference's refusals -/
theorem jX13_refused {F : Nat → Value} (hd : 0 < d) (o : zobj h 73 13 F) (x : Int32) : nzxI d nX13_refused [.ref 73, .int x] h = some (-1, nzset h 73 (.inr (13, va_up (va_up F 1 (.int x)) 2 (.int (-1))))) := by
  refine iX13_refused hd o ?_
  rw [eX13_refused_0, zp_of o, Option.bind_some, zp_of (F := va_up F 1 (.int x)) (zc_setS _ _ _), Option.bind_some, nzset_set]
theorem jX13_done {F : Nat → Value} (hd : 0 < d) (o : zobj h 73 13 F) (x : Int32) : nzxI d nX13_done [.ref 73, .int x] h = some (x, nzset h 73 (.inr (13, va_up (va_up F 1 (.int 0)) 2 (.int (-1))))) := by
  refine iX13_done hd o ?_
  rw [eX13_done_0, zp_of o, Option.bind_some, zp_of (F := va_up F 1 (.int 0)) (zc_setS _ _ _), Option.bind_some, nzset_set]
theorem jX13_lost {F : Nat → Value} (hd : 1 < d) (o : zobj h 73 13 F) (x : Int32) : nzxI d nX13_lost [.ref 73, .int x] h = some (-1000, nzset h 73 (.inr (13, va_up (va_up F 1 (.int x)) 2 (.int (-1))))) := by
  refine iX13_lost (by omega) o ?_
  rw [eX13_lost_0, jX13_refused (by omega) o, Option.bind_some]
end NZX
