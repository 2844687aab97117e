/-! the best orders: the class's search meets the orders of a set as the reference counts them -/
def zpmX (P : Nat → List (List Nat)) (rest : Nat) : Nat → Nat → List (List Nat)
  | _, 0 => []
  | x, j + 1 => (if rest / 2 ^ x % 2 = 1 then (P x).map (x :: ·) else []) ++ zpmX P rest (x + 1) j
/-- all orders of m houses out of rest -/
def zpm (n : Nat) : Nat → Nat → List (List Nat)
  | 0, _ => [[]]
  | m + 1, rest => zpmX (fun x => zpm n m (rest &&& (63 - 2 ^ x))) rest 0 n
set_option maxRecDepth 100000 in
theorem zpm_all : ∀ n, n < 7 → ∀ Q, Q < 2 ^ n → zpm n (zpop Q) Q = (List.range (zfac (zpop Q))).map (zpl (zpop Q) Q) := by decide +kernel
def zsub (a b : Nat) : Bool := (List.range 6).all (fun x => decide (a / 2 ^ x % 2 = 1 → b / 2 ^ x % 2 = 1))
theorem zsub_up : ∀ a, a < 64 → ∀ Q, Q < 64 → ∀ x, x < 6 → (zsub (a ||| 2 ^ x) Q = (zsub a Q && decide (Q / 2 ^ x % 2 = 1))) := by decide +kernel
theorem zsub_pop : ∀ a, a < 64 → ∀ Q, Q < 64 → zsub a Q = true → a ≠ Q → zpop a < zpop Q := by decide +kernel
theorem zdif_up : ∀ a, a < 64 → ∀ x, x < 6 → (63 - a) &&& (63 - 2 ^ x) = 63 - (a ||| 2 ^ x) := by decide +kernel
theorem zdif_bit : ∀ a, a < 64 → ∀ Q, Q < 64 → ∀ x, x < 6 → ((Q &&& (63 - a)) / 2 ^ x % 2 = 1 ↔ Q / 2 ^ x % 2 = 1 ∧ ¬ a / 2 ^ x % 2 = 1) := by decide +kernel
theorem zor_bit : ∀ a, a < 64 → ∀ x, x < 6 → ((a ||| 2 ^ x) = a ↔ a / 2 ^ x % 2 = 1) := by decide +kernel
theorem zsub_self : ∀ a, a < 64 → ∀ x, x < 6 → ¬ a / 2 ^ x % 2 = 1 → zsub (a ||| 2 ^ x) a = false := by decide +kernel
theorem zsub_ne : ∀ a, a < 64 → ∀ Q, Q < 64 → zsub a Q = false → a ≠ Q := by decide +kernel
