/-! the class's week is the reference's -/
def zfW (B : Nat → Nat → Int32) (hn : Nat) (q e : Nat) : Bool := decide (q < hn) && zwW B q e
def zfM (g : Nat → Int32) (hn : Nat) (q : Nat) : Nat := if q < hn then zNv g 7 q 1 else 0
theorem zwb1 : ∀ w, w < 32 → ∀ p, p < 5 → nI w ||| (1 <<< (nI p &&& 31)) = nI (w ||| 2 ^ p) ∧ (w ||| 2 ^ p) < 32 ∧ ∀ q, q < 5 → zgb (w ||| 2 ^ p) q = (zgb w q || decide (q = p)) := by decide +kernel
theorem nI_nneg1 {a : Nat} (h : a < 100) : ¬ nI a < nI 0 - 1 := by
  have : ∀ a, a < 100 → ¬ nI a < nI 0 - 1 := by decide +kernel
  exact this a h
theorem nI_ne2 {a : Nat} (h : a < 100) : ¬ nI a = -2 := by
  have : ∀ a, a < 100 → ¬ nI a = -2 := by decide +kernel
  exact this a h
section NZFILL
variable {c g J : Nat → Int32} {B : Nat → Nat → Int32}
theorem znw_n (D : zDR c g J B) (W : Nat → Int32) : ∀ e, e < 7 → ∃ w, znw c g (zcn c 7) W e = nI w ∧ w < 32 ∧ ∀ q, q < 5 → zfW B (zcn c 7) q e = zgb w q := by
  have h5 : zcn c 7 ≤ 5 := (D.1 7 (by decide)).2
  have inner : ∀ hp (j i : Nat) (W : Nat → Int32) (e : Nat), i + j = 7 → zit (znwD c g hp) i j W e = if i ≤ e ∧ e < 7 then W e ||| (if zget c g 7 (nI hp) 0 &&& (1 <<< (nI e &&& 31)) = 0 then (0 : Int32) else 1 <<< (nI hp &&& 31)) else W e := by
    intro hp j
    induction j with
    | zero => intro i W e hi; rw [if_neg (by omega)]; rfl
    | succ j ih =>
      intro i W e hi
      rw [zit, ih (i + 1) _ e (by omega), znwD, upd_at]
      by_cases y : e = i
      · rw [if_neg (by omega), if_pos y, if_pos (show i ≤ e ∧ e < 7 by omega), y]
      · rw [if_neg y]
        by_cases z : i ≤ e ∧ e < 7
        · rw [if_pos z, if_pos (by omega)]
        · rw [if_neg z, if_neg (by omega)]
  have outer : ∀ (j hp : Nat) (W : Nat → Int32), hp + j = zcn c 7 → (∀ e, e < 7 → ∃ w, W e = nI w ∧ w < 32 ∧ ∀ q, q < 5 → zfW B hp q e = zgb w q) → ∀ e, e < 7 → ∃ w, zit (fun hp W => zit (znwD c g hp) 0 7 W) hp j W e = nI w ∧ w < 32 ∧ ∀ q, q < 5 → zfW B (zcn c 7) q e = zgb w q := by
    intro j
    induction j with
    | zero => intro hp W hh h; rw [show hp = zcn c 7 by omega] at h; exact h
    | succ j ih =>
      intro hp W hh h
      rw [zit]
      refine ih (hp + 1) _ (by omega) (fun e he => ?_)
      obtain ⟨w, w1, w2, w3⟩ := h e he
      obtain ⟨a1, a2, a3, a4⟩ := zNg D (s := 7) (r := hp) (k := 0) (by decide) (by omega) (by decide) rfl (by decide)
      have b32 : B 32 hp = nI (zNv g 7 hp 0) := a2 (by decide)
      have z := (zD7 (zNv g 7 hp 0) (by omega) e he).2.2
      rw [inner hp 7 0 W e rfl, if_pos ⟨Nat.zero_le _, he⟩, w1, show zget c g 7 (nI hp) 0 = nI (zNv g 7 hp 0) from a1]
      by_cases y : zwW B hp e = true
      · have y' : (nI (zNv g 7 hp 0) >>> (nI e &&& 31)) &&& 1 = 1 := by rw [zwW, decide_eq_true_eq, b32] at y; exact y
        obtain ⟨k1, k2, k3⟩ := zwb1 w w2 hp (by omega)
        rw [if_neg (fun u => (z.mp u) y'), k1]
        refine ⟨_, rfl, k2, fun q hq => ?_⟩
        rw [k3 q hq, ← w3 q hq, zfW, zfW]
        by_cases u : q = hp
        · rw [u, y, decide_eq_true (show hp < hp + 1 by omega), decide_eq_true rfl, Bool.or_true]
          rfl
        · rw [decide_eq_false u, Bool.or_false]
          by_cases v : q < hp
          · rw [decide_eq_true v, decide_eq_true (show q < hp + 1 by omega)]
          · rw [decide_eq_false v, decide_eq_false (show ¬ q < hp + 1 by omega)]
      · have y' : ¬ (nI (zNv g 7 hp 0) >>> (nI e &&& 31)) &&& 1 = 1 := by rw [zwW, decide_eq_true_eq, b32] at y; exact y
        rw [if_pos (z.mpr y'), Int32.or_zero]
        refine ⟨w, rfl, w2, fun q hq => ?_⟩
        rw [← w3 q hq, zfW, zfW]
        by_cases u : q = hp
        · rw [u, eq_false_of_ne_true y, Bool.and_false, Bool.and_false]
        · by_cases v : q < hp
          · rw [decide_eq_true v, decide_eq_true (show q < hp + 1 by omega)]
          · rw [decide_eq_false v, decide_eq_false (show ¬ q < hp + 1 by omega)]
  refine outer (zcn c 7) 0 _ (by omega) (fun e he => ⟨0, ?_, by decide, fun q hq => ?_⟩)
  · rw [if_pos he]
    rfl
  · rw [zfW, decide_eq_false (Nat.not_lt_zero q), zgb, Nat.zero_div]
    rfl
theorem zfM_le (D : zDR c g J B) (q : Nat) : zfM g (zcn c 7) q ≤ 7 := by
  rw [zfM]
  split
  · rename_i h
    exact (zNg D (s := 7) (r := q) (k := 1) (by decide) h (by decide) rfl (by decide)).2.2.2
  · omega
theorem zfM_g (D : zDR c g J B) {q : Nat} (hq : q < 5) : zget c g 7 (nI q) 1 = nI (zfM g (zcn c 7) q) := by
  have h5 : zcn c 7 ≤ 5 := (D.1 7 (by decide)).2
  rw [zfM]
  by_cases h : q < zcn c 7
  · rw [if_pos h]
    exact (zNg D (s := 7) (r := q) (k := 1) (by decide) h (by decide) rfl (by decide)).1
  · have := zcel_n (c := c) (s := 7) (r := q) (k := 1) (n := zcn c 7) (by decide) (by omega) (D.1 7 (by decide)).1 (by decide)
    rw [if_neg (nI_pos (by omega)), if_neg (nI_nlt (by omega) (by omega))] at this
    rw [if_neg h, zget, show zcel c 7 (nI q) 1 = -1 from this, if_pos rfl]
    rfl
theorem zcap_n (D : zDR c g J B) (L : Nat → Int32) {k : Nat} (hk : k ≤ 7) : ∀ i, i < 5 → zcap c g (nI k) L i = nI (min (zfM g (zcn c 7) i) k) := by
  have : ∀ (j i : Nat) (L : Nat → Int32), i + j = 5 → ∀ x, zit (zcapS c g (nI k)) i j L x = if i ≤ x ∧ x < 5 then nI (min (zfM g (zcn c 7) x) k) else L x := by
    intro j
    induction j with
    | zero => intro i L hi x; rw [if_neg (by omega)]; rfl
    | succ j ih =>
      intro i L hi x
      rw [zit, ih (i + 1) _ (by omega) x, zcapS, upd_at, zfM_g D (show i < 5 by omega)]
      have hm := zfM_le D i
      by_cases y : x = i
      · rw [if_neg (by omega), if_pos y, if_pos (show i ≤ x ∧ x < 5 by omega), y]
        by_cases z : zfM g (zcn c 7) i < k
        · rw [if_pos (nI_lt z (by omega)), Nat.min_eq_left (by omega)]
        · rw [if_neg (nI_nlt (by omega) (by omega)), Nat.min_eq_right (by omega)]
      · rw [if_neg y]
        by_cases z : i ≤ x ∧ x < 5
        · rw [if_pos z, if_pos (by omega)]
        · rw [if_neg z, if_neg (by omega)]
  intro i hi
  rw [zcap, this 5 0 L rfl i, if_pos ⟨Nat.zero_le _, hi⟩]
section NZFILL2
variable {W : Nat → Int32} {Wn : Nat → Nat} {Wi : Nat → Nat → Bool} {hn : Nat}
theorem zcff_n (D : zDR c g J B) (hW : ∀ e, e < 7 → W e = nI (Wn e) ∧ Wn e < 32 ∧ ∀ q, q < 5 → Wi q e = zgb (Wn e) q) : ∀ (j i : Nat) (L : Nat → Int32), i + j = 7 → (∀ b, b < i → zF Wi 5 7 0 (fun q => min (zfM g (zcn c 7) q) b) ≠ zF Wi 5 7 0 (zfM g (zcn c 7))) → ∃ k, k ≤ 7 ∧ (∀ x, x < 5 → zcff c g W (nI (zF Wi 5 7 0 (zfM g (zcn c 7)))) j i L x = nI (min (zfM g (zcn c 7) x) k)) ∧ zF Wi 5 7 0 (fun q => min (zfM g (zcn c 7) q) k) = zF Wi 5 7 0 (zfM g (zcn c 7)) ∧ ∀ b, b < k → zF Wi 5 7 0 (fun q => min (zfM g (zcn c 7) q) b) ≠ zF Wi 5 7 0 (zfM g (zcn c 7)) := by
  have e7 : (fun q => min (zfM g (zcn c 7) q) 7) = zfM g (zcn c 7) := by
    funext q
    exact Nat.min_eq_left (zfM_le D q)
  intro j
  induction j with
  | zero =>
    intro i L hi h
    rw [show i = 7 by omega] at h
    refine ⟨7, Nat.le_refl _, fun x hx => ?_, by rw [e7], h⟩
    rw [zcff]
    exact zcap_n D L (Nat.le_refl 7) x hx
  | succ j ih =>
    intro i L hi h
    have m := zmost_n (W := W) (L := zcap c g (nI i) L) (Ln := fun q => min (zfM g (zcn c 7) q) i) hW (fun x hx => ⟨zcap_n D L (by omega) x hx, Nat.le_trans (Nat.min_le_left _ _) (zfM_le D x)⟩) (f := 0) (by omega)
    have b1 := zF_le (Wi := Wi) (m := 5) 7 0 (fun q => min (zfM g (zcn c 7) q) i)
    have b2 := zF_le (Wi := Wi) (m := 5) 7 0 (zfM g (zcn c 7))
    rw [zcff, m]
    by_cases y : zF Wi 5 7 0 (fun q => min (zfM g (zcn c 7) q) i) = zF Wi 5 7 0 (zfM g (zcn c 7))
    · rw [if_pos (congrArg nI y)]
      exact ⟨i, by omega, zcap_n D L (by omega), y, h⟩
    · rw [if_neg (fun z => y ((nI_eq (by omega) (by omega)).mp z))]
      refine ih (i + 1) _ (by omega) (fun b hb => ?_)
      by_cases z : b = i
      · rw [z]; exact y
      · exact h b (by omega)
theorem zff_n (hW : ∀ e, e < 7 → W e = nI (Wn e) ∧ Wn e < 32 ∧ ∀ q, q < 5 → Wi q e = zgb (Wn e) q) {f op : Nat} (hf : f < 7) (hop : op ≤ 7) {Ln : Nat → Nat} : ∀ (j i : Nat) (L : Nat → Int32), i + j = 5 → (∀ q, q < 5 → L q = nI (Ln q) ∧ Ln q ≤ 7) → (∃ q, i ≤ q ∧ q < 5 ∧ zpd Wi f Ln q ∧ op ≤ 1 + zF Wi 5 (6 - f) (f + 1) (zdc Ln q) ∧ (∀ p, i ≤ p → p < q → zpd Wi f Ln p → 1 + zF Wi 5 (6 - f) (f + 1) (zdc Ln p) < op) ∧ (zff W f (nI op) j i L).1 = nI q ∧ ∀ x, x < 5 → (zff W f (nI op) j i L).2 x = nI (zdc Ln q x)) ∨ ((∀ p, i ≤ p → p < 5 → zpd Wi f Ln p → 1 + zF Wi 5 (6 - f) (f + 1) (zdc Ln p) < op) ∧ (zff W f (nI op) j i L).1 = -2 ∧ ∀ x, x < 5 → (zff W f (nI op) j i L).2 x = nI (Ln x)) := by
  obtain ⟨w1, w2, w3⟩ := hW f hf
  intro j
  induction j with
  | zero =>
    intro i L hi hL
    exact Or.inr ⟨fun p h1 h2 => by omega, rfl, fun x hx => (hL x hx).1⟩
  | succ j ih =>
    intro i L hi hL
    have hi5 : i < 5 := by omega
    obtain ⟨l1, l2⟩ := hL i hi5
    have b := zcb2 (Wn f) w2 i hi5
    rw [← w3 i hi5] at b
    have skip : ∀ L', (∀ q, q < 5 → L' q = nI (Ln q) ∧ Ln q ≤ 7) → (zpd Wi f Ln i → 1 + zF Wi 5 (6 - f) (f + 1) (zdc Ln i) < op) → zff W f (nI op) (j + 1) i L = zff W f (nI op) j (i + 1) L' → (∃ q, i ≤ q ∧ q < 5 ∧ zpd Wi f Ln q ∧ op ≤ 1 + zF Wi 5 (6 - f) (f + 1) (zdc Ln q) ∧ (∀ p, i ≤ p → p < q → zpd Wi f Ln p → 1 + zF Wi 5 (6 - f) (f + 1) (zdc Ln p) < op) ∧ (zff W f (nI op) (j + 1) i L).1 = nI q ∧ ∀ x, x < 5 → (zff W f (nI op) (j + 1) i L).2 x = nI (zdc Ln q x)) ∨ ((∀ p, i ≤ p → p < 5 → zpd Wi f Ln p → 1 + zF Wi 5 (6 - f) (f + 1) (zdc Ln p) < op) ∧ (zff W f (nI op) (j + 1) i L).1 = -2 ∧ ∀ x, x < 5 → (zff W f (nI op) (j + 1) i L).2 x = nI (Ln x)) := by
      intro L' hL' hs e
      rw [e]
      cases ih (i + 1) L' (by omega) hL' with
      | inl a =>
        obtain ⟨q, a1, a2, a3, a4, a5, a6⟩ := a
        refine Or.inl ⟨q, by omega, a2, a3, a4, fun p h1 h2 h3 => ?_, a6⟩
        by_cases z : p = i
        · rw [z] at h3 ⊢; exact hs h3
        · exact a5 p (by omega) h2 h3
      | inr a =>
        obtain ⟨a1, a2⟩ := a
        refine Or.inr ⟨fun p h1 h2 h3 => ?_, a2⟩
        by_cases z : p = i
        · rw [z] at h3 ⊢; exact hs h3
        · exact a1 p (by omega) h2 h3
    by_cases y : Wi i f = true
    · rw [y] at b
      have ny : ¬ W f &&& (1 <<< (nI i &&& 31)) = 0 := by rw [w1]; exact of_decide_eq_false b
      by_cases z : Ln i = 0
      · refine skip L hL (fun u => absurd u.2 (by omega)) ?_
        rw [zff, if_neg ny, if_pos (show L i ≤ 0 by rw [l1, z]; decide)]
      · have nz : ¬ L i ≤ 0 := by rw [l1]; exact nI_ge (a := 0) (by omega) (by omega)
        have hdc : ∀ q, q < 5 → upd L i (L i - 1) q = nI (zdc Ln i q) ∧ zdc Ln i q ≤ 7 := by
          intro q hq
          rw [upd_at, zdc]
          by_cases u : q = i
          · rw [if_pos u, if_pos u, l1, u, show (1 : Int32) = nI 1 from rfl, nI_sub (by omega)]
            exact ⟨rfl, by omega⟩
          · rw [if_neg u, if_neg u]
            exact hL q hq
        have m := zmost_n (W := W) (L := upd L i (L i - 1)) (Ln := zdc Ln i) hW hdc (f := f + 1) (by omega)
        rw [show 7 - (f + 1) = 6 - f by omega] at m
        have bF := zF_le (Wi := Wi) (m := 5) (6 - f) (f + 1) (zdc Ln i)
        by_cases u : 1 + zF Wi 5 (6 - f) (f + 1) (zdc Ln i) < op
        · refine skip (upd (upd L i (L i - 1)) i (L i - 1 + 1)) (fun q hq => ?_) (fun _ => u) ?_
          · rw [upd_at]
            by_cases v : q = i
            · rw [if_pos v, v, Int32.sub_add_cancel]
              exact ⟨l1, l2⟩
            · rw [if_neg v, upd_ne v]
              exact hL q hq
          · rw [zff, if_neg ny, if_neg nz, m, show (1 : Int32) = nI 1 from rfl, nI_sub (by omega), if_pos (nI_lt (by omega) (by omega))]
        · refine Or.inl ⟨i, Nat.le_refl _, hi5, ⟨y, by omega⟩, by omega, fun p h1 h2 => by omega, ?_⟩
          have nm : ¬ zmost W (upd L i (L i - 1)) (f + 1) < nI op - 1 := by
            rw [m]
            by_cases v : op = 0
            · rw [v]
              exact nI_nneg1 (by omega)
            · rw [show (1 : Int32) = nI 1 from rfl, nI_sub (by omega)]
              exact nI_nlt (by omega) (by omega)
          rw [zff, if_neg ny, if_neg nz, if_neg nm]
          exact ⟨rfl, fun x hx => (hdc x hx).1⟩
    · rw [eq_false_of_ne_true y] at b
      refine skip L hL (fun u => absurd u.1 y) ?_
      rw [zff, if_pos (by rw [w1]; exact of_decide_eq_true b)]
theorem zgr_cong {wa wb : Nat → Nat} : ∀ j e L, (∀ x, e ≤ x → wa x = wb x) → zgr Wi hn wa j e L → zgr Wi hn wb j e L := by
  intro j
  induction j with
  | zero => intro e L _ _; exact True.intro
  | succ j ih =>
    intro e L h a
    rw [zgr] at a ⊢
    rw [← h e (Nat.le_refl _)]
    cases a with
    | inl a => exact Or.inl ⟨a.1, a.2.1, a.2.2.1, a.2.2.2.1, ih _ _ (fun x hx => h x (by omega)) a.2.2.2.2⟩
    | inr a => exact Or.inr ⟨a.1, a.2.1, a.2.2.1, ih _ _ (fun x hx => h x (by omega)) a.2.2.2⟩
theorem zweek_n (h5 : hn ≤ 5) (hW : ∀ e, e < 7 → W e = nI (Wn e) ∧ Wn e < 32 ∧ ∀ q, q < 5 → Wi q e = zgb (Wn e) q) : ∀ (j e : Nat) (L P : Nat → Int32) (Ln : Nat → Nat), e + j = 7 → (∀ q, q < 5 → L q = nI (Ln q) ∧ Ln q ≤ 7) → (∀ q, hn ≤ q → Ln q = 0) → ∃ who, (∀ x, who x ≤ hn) ∧ zgr Wi hn who j e Ln ∧ (∀ x, x < e → (zit (zweek W) e j (nI (zF Wi 5 j e Ln), L, P)).2.2 x = P x) ∧ ∀ x, e ≤ x → x < 7 → (zit (zweek W) e j (nI (zF Wi 5 j e Ln), L, P)).2.2 x = zfiV hn (who x) := by
  intro j
  induction j with
  | zero =>
    intro e L P Ln he hL h0
    exact ⟨fun _ => 0, fun _ => Nat.zero_le _, True.intro, fun _ _ => rfl, fun x h1 h2 => by omega⟩
  | succ j ih =>
    intro e L P Ln he hL h0
    have bF := zF_le (Wi := Wi) (m := 5) (j + 1) e Ln
    have s := zff_n hW (f := e) (op := zF Wi 5 (j + 1) e Ln) (by omega) (by omega) 5 0 L rfl hL
    rw [show 6 - e = j by omega] at s
    rw [zit, zweek]
    dsimp only
    cases s with
    | inl s =>
      obtain ⟨q, -, q2, q3, q4, q5, q6, q7⟩ := s
      have hq : q < hn := by
        apply Decidable.byContradiction
        intro z
        have := h0 q (by omega)
        have := q3.2
        omega
      have f1 := zF_1 (j := j) q2 q3
      have fe : zF Wi 5 (j + 1) e Ln = 1 + zF Wi 5 j (e + 1) (zdc Ln q) := by omega
      have ne2 : ¬ nI q = -2 := nI_ne2 (by omega)
      obtain ⟨who, a1, a2, a3, a4⟩ := ih (e + 1) (zff W e (nI (zF Wi 5 (j + 1) e Ln)) 5 0 L).2 (upd P e (nI q)) (zdc Ln q) (by omega) (fun x hx => ⟨q7 x hx, by
        have := (hL x hx).2
        rw [zdc]
        split <;> omega⟩) (fun x hx => by
        have := h0 x hx
        rw [zdc]
        split <;> omega)
      rw [q6, if_neg ne2, show nI (zF Wi 5 (j + 1) e Ln) - 1 = nI (zF Wi 5 j (e + 1) (zdc Ln q)) by rw [show (1 : Int32) = nI 1 from rfl, nI_sub (by omega), fe, Nat.add_sub_cancel_left]]
      refine ⟨va_up who e q, fun x => ?_, ?_, fun x hx => ?_, fun x h1 h2 => ?_⟩
      · rw [va_up]
        split
        · omega
        · exact a1 x
      · have ee : va_up who e q e = q := if_pos rfl
        rw [zgr, ee]
        refine Or.inl ⟨hq, q3, fe, fun p hp hz => q5 p (Nat.zero_le _) hp hz, zgr_cong j (e + 1) _ (fun x hx => ?_) a2⟩
        rw [va_up, if_neg (by omega)]
      · rw [a3 x (by omega), upd_ne (by omega)]
      · by_cases z : x = e
        · rw [a3 x (by omega), z, upd_eq, va_up, if_pos rfl, zfiV, if_neg (by omega)]
        · rw [a4 x (by omega) h2, va_up, if_neg z]
    | inr s =>
      obtain ⟨s1, s2, s3⟩ := s
      have fe : zF Wi 5 (j + 1) e Ln = zF Wi 5 j (e + 1) Ln := by
        cases zF_ex (Wi := Wi) (j := j) (e := e) (L := Ln) with
        | inl a => exact a
        | inr a =>
          obtain ⟨q, a1, a2, a3⟩ := a
          have := s1 q (Nat.zero_le _) a1 a2
          omega
      obtain ⟨who, a1, a2, a3, a4⟩ := ih (e + 1) (zff W e (nI (zF Wi 5 (j + 1) e Ln)) 5 0 L).2 (upd P e (-2)) Ln (by omega) (fun x hx => ⟨s3 x hx, (hL x hx).2⟩) h0
      rw [s2, if_pos rfl, Int32.sub_zero]
      rw [← fe] at a3 a4
      refine ⟨va_up who e hn, fun x => ?_, ?_, fun x hx => ?_, fun x h1 h2 => ?_⟩
      · rw [va_up]
        split
        · omega
        · exact a1 x
      · have ee : va_up who e hn e = hn := if_pos rfl
        rw [zgr, ee]
        refine Or.inr ⟨rfl, fun p hp hz => s1 p (Nat.zero_le _) (by omega) hz, fe, zgr_cong j (e + 1) _ (fun x hx => ?_) a2⟩
        rw [va_up, if_neg (by omega)]
      · rw [a3 x (by omega), upd_ne (by omega)]
      · by_cases z : x = e
        · rw [a3 x (by omega), z, upd_eq, va_up, if_pos rfl, zfiV, if_pos rfl]
        · rw [a4 x (by omega) h2, va_up, if_neg z]
end NZFILL2
end NZFILL
