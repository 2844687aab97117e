/-! the reference: the k-th order of a set; the best order -/
theorem nI_sub {a b : Nat} (h : b ≤ a) : nI a - nI b = nI (a - b) := by
  obtain ⟨k, rfl⟩ : ∃ k, a = k + b := ⟨a - b, by omega⟩
  rw [← nI_add, Nat.add_sub_cancel, Int32.add_sub_cancel]
def zsel (rest : Nat) : Nat → Nat → Nat → Nat
  | 0, _, x => x
  | f + 1, s, x => if rest / 2 ^ x % 2 = 1 then (if s = 0 then x else zsel rest f (s - 1) (x + 1)) else zsel rest f s (x + 1)
/-- the k-th order of m houses out of rest -/
def zpl : Nat → Nat → Nat → List Nat
  | 0, _, _ => []
  | m + 1, rest, k => zsel rest 6 (k / zfac m) 0 :: zpl m (rest &&& (63 - 2 ^ zsel rest 6 (k / zfac m) 0)) (k % zfac m)
def zpw : List Nat → Nat → (Nat → Int32) → (Nat → Int32)
  | [], _, f => f
  | a :: l, p, f => zpw l (p + 1) (upd f p (nI a))
def zcb (rest : Nat) : Nat → Nat → Nat
  | 0, _ => 0
  | f + 1, x => rest / 2 ^ x % 2 + zcb rest f (x + 1)
theorem zhb : ∀ r, r < 64 → ∀ x, x < 6 → ((nI r >>> (nI x &&& 31)) &&& 1 = 1 ↔ r / 2 ^ x % 2 = 1) := by decide +kernel
theorem zcb_pop : ∀ r, r < 64 → zcb r 6 0 = zpop r := by decide +kernel
theorem zself : ∀ r, r < 64 → ∀ s, s < 6 → s < zpop r → zsel r 6 s 0 < 6 ∧ r / 2 ^ zsel r 6 s 0 % 2 = 1 ∧ zpop (r &&& (63 - 2 ^ zsel r 6 s 0)) + 1 = zpop r ∧ (r &&& (63 - 2 ^ zsel r 6 s 0)) < 64 := by decide +kernel
theorem zfac_le : ∀ n, n ≤ 6 → 0 < zfac n ∧ zfac n ≤ 720 := by decide +kernel
theorem zpw_at : ∀ (l : List Nat) (p : Nat) (f : Nat → Int32) (q : Nat), zpw l p f q = if p ≤ q ∧ q < p + l.length then nI (l.getD (q - p) 0) else f q
  | [], p, f, q => by rw [zpw, if_neg (by simp only [List.length_nil]; omega)]
  | a :: l, p, f, q => by
    rw [zpw, zpw_at l (p + 1) _ q]
    by_cases z : q = p
    · subst z
      rw [if_neg (by omega), upd_eq, if_pos (by simp only [List.length_cons]; omega), Nat.sub_self]
      rfl
    · by_cases y : p + 1 ≤ q ∧ q < p + 1 + l.length
      · rw [if_pos y, if_pos (by simp only [List.length_cons]; omega)]
        obtain ⟨j, rfl⟩ : ∃ j, q = p + 1 + j := ⟨q - (p + 1), by omega⟩
        rw [show p + 1 + j - (p + 1) = j by omega, show p + 1 + j - p = j + 1 by omega]
        rfl
      · rw [if_neg y, upd_ne z, if_neg (by simp only [List.length_cons]; omega)]
theorem zpl_ok : ∀ (m rest k : Nat), rest < 64 → zpop rest = m → k < zfac m → (zpl m rest k).length = m ∧ ∀ p, (zpl m rest k).getD p 0 < 6
  | 0, _, _, _, _, _ => ⟨rfl, fun p => by rw [zpl]; simp⟩
  | m + 1, rest, k, hr, hm, hk => by
    have hm6 := zpop_le rest hr
    have hf := zfac_le m (by omega)
    have hs : k / zfac m < m + 1 := (Nat.div_lt_iff_lt_mul hf.1).mpr hk
    have zs := zself rest hr (k / zfac m) (by omega) (by omega)
    have ih := zpl_ok m (rest &&& (63 - 2 ^ zsel rest 6 (k / zfac m) 0)) (k % zfac m) zs.2.2.2 (by omega) (Nat.mod_lt _ hf.1)
    rw [zpl]
    refine ⟨by rw [List.length_cons, ih.1], fun p => ?_⟩
    cases p with
    | zero => exact zs.1
    | succ p => exact ih.2 p
section NZOF
variable {d t : Nat} {h : nzH} {F0 : Nat → Value} {W : Int64} {td rd : Option Nat} {tp : Nat → Int32}
theorem kX13_or60 (hd : 0 < d) {I : Nat → Int32} {A : Nat → Nat → Int32} {rest p : Nat} (hr : rest < 64) (hp : p < 6) (x1 x2 x3 x5 : Int32) : ∀ (f s x : Nat), x + f = 6 → s < zcb rest f x → nzr d nX13_ordered 60 [some (.ref 73), some (.int x1), some (.int x2), some (.int x3), some (.int (nI rest)), some (.int x5), some (.int (nI p)), some (.int (nI s)), some (.int (nI x))] [] (zmS h F0 I W td rd tp A) = nzr d nX13_ordered 25 [some (.ref 73), some (.int x1), some (.int x2), some (.int x3), some (.int (nI (rest &&& (63 - 2 ^ zsel rest f s x)))), some (.int x5), some (.int (nI (p + 1))), some (.int (nI 0)), some (.int (nI (zsel rest f s x)))] [] (zmS h F0 I W td rd tp (va_up A 22 (upd (A 22) p (nI (zsel rest f s x))))) := by
  intro f
  induction f with
  | zero => intro s x hx hs; exact absurd hs (Nat.not_lt_zero _)
  | succ f ih =>
    intro s x hx hs
    rw [zcb] at hs
    have zb := zhb rest hr x (by omega)
    rw [eX13_ordered_60, jX13_has hd, Option.bind_some, zsel]
    by_cases b : rest / 2 ^ x % 2 = 1
    · rw [if_pos (zb.mpr b), if_neg (show ¬ (1 : Int32) = 0 by decide), if_pos b]
      by_cases z : s = 0
      · subst z
        rw [if_pos (show nI 0 ≤ 0 by decide), if_pos rfl, zR_22, Option.bind_some, zW_22 hp, Option.bind_some, (zbcl rest hr x (by omega)).1, nI_1]
      · obtain ⟨s', rfl⟩ : ∃ s', s = s' + 1 := ⟨s - 1, by omega⟩
        have hc : zcb rest f (x + 1) ≤ 6 := by
          have : ∀ f x, zcb rest f x ≤ f := by
            intro f
            induction f with
            | zero => intro x; exact Nat.le_refl _
            | succ f ih => intro x; rw [zcb]; have := ih (x + 1); omega
          have := this f (x + 1)
          omega
        rw [if_neg (nI_nle (by omega) (by omega)), if_neg z, eX13_ordered_75, jX13_has hd, Option.bind_some, if_pos (zb.mpr b), if_neg (show ¬ (1 : Int32) = 0 by decide), eX13_ordered_92, nI_pred, nI_1, ih s' (x + 1) (by omega) (by omega), Nat.add_sub_cancel]
    · rw [if_neg (fun y => b (zb.mp y)), if_pos rfl, if_neg b, eX13_ordered_75, jX13_has hd, Option.bind_some, if_neg (fun y => b (zb.mp y)), if_pos rfl, eX13_ordered_92, Int32.sub_zero, nI_1, ih s (x + 1) (by omega) (by omega)]
theorem kX13_or25 (hd : 0 < d) {I : Nat → Int32} {n : Nat} (hn : n ≤ 6) (en : I 20 = nI n) (x1 x2 : Int32) : ∀ (j p rest left : Nat) (A : Nat → Nat → Int32) (u7 u8 : Option Value), p + j = n → rest < 64 → zpop rest = j → left < zfac j → nzr d nX13_ordered 25 [some (.ref 73), some (.int x1), some (.int x2), some (.int (nI left)), some (.int (nI rest)), some (.int (nI (zfac j))), some (.int (nI p)), u7, u8] [] (zmS h F0 I W td rd tp A) = some (none, zmS h F0 I W td rd tp (va_up A 22 (zpw (zpl j rest left) p (A 22)))) := by
  intro j
  induction j with
  | zero =>
    intro p rest left A u7 u8 hp hr hz hl
    rw [eX13_ordered_25, zI_20, Option.bind_some, en, if_pos (nI_le (by omega) (by omega)), zpl, zpw, va_up_same]
  | succ j ih =>
    intro p rest left A u7 u8 hp hr hz hl
    have hf := zfac_le j (by omega)
    have hf1 := zfac_le (j + 1) (by omega)
    have hs : left / zfac j < j + 1 := (Nat.div_lt_iff_lt_mul hf.1).mpr hl
    have zs := zself rest hr (left / zfac j) (by omega) (by omega)
    have e1 : nI (zfac (j + 1)) / (nI n - nI p) = nI (zfac j) := by
      rw [nI_sub (by omega), show n - p = j + 1 by omega, pk_div (by omega) (by omega) (by omega), zfac, Nat.mul_div_cancel_left _ (by omega)]
    have e2 : ¬ (nI n - nI p) = 0 := by
      rw [nI_sub (by omega)]
      exact nI_ne0 (by omega) (by omega)
    have e3 : ¬ nI (zfac j) = 0 := nI_ne0 (by omega) (by omega)
    rw [eX13_ordered_25, zI_20, Option.bind_some, en, if_neg (nI_ge (by omega) (by omega)), Option.bind_some, if_neg e2, e1, if_neg e3, if_neg e3, pk_rem (by omega) (by omega) (by omega), pk_div (by omega) (by omega) (by omega)]
    rw [show (0 : Int32) = nI 0 from rfl, kX13_or60 hd hr (by omega) x1 x2 _ _ 6 (left / zfac j) 0 rfl (by rw [zcb_pop rest hr]; omega), ih (p + 1) _ (left % zfac j) _ _ _ (by omega) zs.2.2.2 (by omega) (Nat.mod_lt _ hf.1), va_up_up, va_up_self, zpl, zpw]
theorem kX13_ordered (hd : 1 < d) {I : Nat → Int32} {A : Nat → Nat → Int32} {q k : Nat} (hq : q < 64) (hk : k < zfac (zpop q)) : nzxV d nX13_ordered [.ref 73, .int (nI q), .int (nI k)] (zmS h F0 I W td rd tp A) = some (zmS h F0 (upd I 20 (nI (zpop q))) W td rd tp (va_up A 22 (zpw (zpl (zpop q) q k) 0 (A 22)))) := by
  have hp := zpop_le q hq
  refine iX13_ordered (by omega) zmS_o ?_
  rw [eX13_ordered_0, jX13_bits (by omega) hq, Option.bind_some, zP_20, Option.bind_some, zI_20, Option.bind_some, upd_eq, jX13_orders (by omega) hp, Option.bind_some]
  exact kX13_or25 (by omega) hp (upd_eq I 20 _) _ _ (zpop q) 0 q k A none none (by omega) hq rfl hk
end NZOF
