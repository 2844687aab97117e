/-! an order packed and told again -/
set_option maxRecDepth 100000 in
theorem zpk_at : ∀ Q, Q < 64 → ∀ k, k < zfac (zpop Q) → ∀ i, i < zpop Q → (zpkP (zpl (zpop Q) Q k) >>> ((3 * nI (zpop Q - 1 - i)) &&& 31)) &&& 7 = nI ((zpl (zpop Q) Q k).getD i 0) := by decide +kernel
set_option maxRecDepth 100000 in
theorem zpl_in : ∀ n, n < 7 → ∀ Q, Q < 2 ^ n → ∀ k, k < zfac (zpop Q) → ((zpl (zpop Q) Q k).length = zpop Q ∧ ∀ i, i < zpop Q → (zpl (zpop Q) Q k).getD i 0 < n) := by decide +kernel
