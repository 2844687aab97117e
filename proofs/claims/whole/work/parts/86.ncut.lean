/-! most days filled: choices against cuts -/
def zbx (p : Nat → Bool) (f : Nat → Nat) (a : Nat) : Nat → Nat
  | 0 => a
  | q + 1 => if p q = true ∧ zbx p f a q < f q then f q else zbx p f a q
section NZCUT
variable {p : Nat → Bool} {f : Nat → Nat} {a : Nat}
theorem zbx_a : ∀ m, a ≤ zbx p f a m := by
  intro m
  induction m with
  | zero => exact Nat.le_refl _
  | succ m ih =>
    rw [zbx]
    split <;> omega
theorem zbx_q : ∀ m q, q < m → p q = true → f q ≤ zbx p f a m := by
  intro m
  induction m with
  | zero => intro q hq; omega
  | succ m ih =>
    intro q hq hp
    rw [zbx]
    by_cases y : q = m
    · subst y
      split
      · omega
      · rename_i z
        have : ¬ zbx p f a q < f q := fun w => z ⟨hp, w⟩
        omega
    · have := ih q (by omega) hp
      split <;> omega
theorem zbx_ex : ∀ m, zbx p f a m = a ∨ ∃ q, q < m ∧ p q = true ∧ zbx p f a m = f q := by
  intro m
  induction m with
  | zero => exact Or.inl rfl
  | succ m ih =>
    rw [zbx]
    by_cases y : p m = true ∧ zbx p f a m < f m
    · rw [if_pos y]
      exact Or.inr ⟨m, by omega, y.1, rfl⟩
    · rw [if_neg y]
      cases ih with
      | inl e => exact Or.inl e
      | inr e =>
        obtain ⟨q, q1, q2, q3⟩ := e
        exact Or.inr ⟨q, by omega, q2, q3⟩
end NZCUT
def zdc (L : Nat → Nat) (q : Nat) : Nat → Nat := fun x => if x = q then L x - 1 else L x
def zF (Wi : Nat → Nat → Bool) (m : Nat) : Nat → Nat → (Nat → Nat) → Nat
  | 0, _, _ => 0
  | j + 1, e, L => zbx (fun q => Wi q e && decide (0 < L q)) (fun q => 1 + zF Wi m j (e + 1) (zdc L q)) (zF Wi m j (e + 1) L) m
def zgs (L : Nat → Nat) (G : Nat → Bool) : Nat → Nat
  | 0 => 0
  | q + 1 => zgs L G q + (if G q = true then L q else 0)
def zcv (Wi : Nat → Nat → Bool) (G : Nat → Bool) (e : Nat) : Nat → Bool
  | 0 => true
  | q + 1 => zcv Wi G e q && (!Wi q e || G q)
def zdy (Wi : Nat → Nat → Bool) (G : Nat → Bool) (m e : Nat) : Nat := if zcv Wi G e m = true then 0 else 1
def zds (Wi : Nat → Nat → Bool) (G : Nat → Bool) (m : Nat) : Nat → Nat → Nat
  | 0, _ => 0
  | j + 1, e => zdy Wi G m e + zds Wi G m j (e + 1)
def zct (Wi : Nat → Nat → Bool) (m j e : Nat) (L : Nat → Nat) (G : Nat → Bool) : Nat := zgs L G m + zds Wi G m j e
section NZCUT2
variable {Wi : Nat → Nat → Bool} {m : Nat} {L : Nat → Nat} {G H : Nat → Bool}
theorem zcv_iff {e : Nat} : ∀ m, zcv Wi G e m = true ↔ ∀ q, q < m → Wi q e = true → G q = true := by
  intro m
  induction m with
  | zero => exact ⟨fun _ q hq => by omega, fun _ => rfl⟩
  | succ m ih =>
    rw [zcv, Bool.and_eq_true, ih]
    constructor
    · intro ⟨h1, h2⟩ q hq hw
      by_cases y : q = m
      · subst y
        rw [hw] at h2
        exact h2
      · exact h1 q (by omega) hw
    · intro h
      refine ⟨fun q hq => h q (by omega), ?_⟩
      have := h m (by omega)
      cases hw : Wi m e with
      | false => rfl
      | true => rw [this hw]; rfl
theorem zb2 (x y : Bool) (l : Nat) : (if (x || y) = true then l else 0) + (if (x && y) = true then l else 0) = (if x = true then l else 0) + (if y = true then l else 0) := by
  cases x <;> cases y <;> simp
theorem zgs_sub : ∀ m, zgs L (fun q => G q || H q) m + zgs L (fun q => G q && H q) m = zgs L G m + zgs L H m := by
  intro m
  induction m with
  | zero => rfl
  | succ m ih =>
    have := zb2 (G m) (H m) (L m)
    rw [zgs, zgs, zgs, zgs]
    omega
theorem zdy_sub (e : Nat) : zdy Wi (fun q => G q || H q) m e + zdy Wi (fun q => G q && H q) m e ≤ zdy Wi G m e + zdy Wi H m e := by
  simp only [zdy]
  by_cases y1 : zcv Wi G e m = true
  · by_cases y2 : zcv Wi H e m = true
    · have z1 : zcv Wi (fun q => G q || H q) e m = true := (zcv_iff m).mpr fun q hq hw => by rw [(zcv_iff m).mp y1 q hq hw]; rfl
      have z2 : zcv Wi (fun q => G q && H q) e m = true := (zcv_iff m).mpr fun q hq hw => by rw [(zcv_iff m).mp y1 q hq hw, (zcv_iff m).mp y2 q hq hw]; rfl
      rw [if_pos z1, if_pos z2]
      omega
    · have z1 : zcv Wi (fun q => G q || H q) e m = true := (zcv_iff m).mpr fun q hq hw => by rw [(zcv_iff m).mp y1 q hq hw]; rfl
      rw [if_pos z1, if_neg y2]
      split <;> omega
  · by_cases y2 : zcv Wi H e m = true
    · have z1 : zcv Wi (fun q => G q || H q) e m = true := (zcv_iff m).mpr fun q hq hw => by rw [(zcv_iff m).mp y2 q hq hw, Bool.or_true]
      rw [if_pos z1, if_neg y1]
      split <;> omega
    · rw [if_neg y1, if_neg y2]
      split <;> split <;> omega
theorem zds_sub : ∀ j e, zds Wi (fun q => G q || H q) m j e + zds Wi (fun q => G q && H q) m j e ≤ zds Wi G m j e + zds Wi H m j e := by
  intro j
  induction j with
  | zero => intro e; exact Nat.le_refl _
  | succ j ih =>
    intro e
    simp only [zds]
    have := ih (e + 1)
    have := zdy_sub (Wi := Wi) (m := m) (G := G) (H := H) e
    omega
theorem zds_mono (h : ∀ q, G q = true → H q = true) : ∀ j e, zds Wi H m j e ≤ zds Wi G m j e := by
  intro j
  induction j with
  | zero => intro e; exact Nat.le_refl _
  | succ j ih =>
    intro e
    simp only [zds]
    have := ih (e + 1)
    have : zdy Wi H m e ≤ zdy Wi G m e := by
      simp only [zdy]
      by_cases y1 : zcv Wi G e m = true
      · rw [if_pos ((zcv_iff m).mpr fun q hq hw => h q ((zcv_iff m).mp y1 q hq hw))]
        omega
      · rw [if_neg y1]
        split <;> omega
    omega
theorem zgs_dec (q : Nat) : ∀ m, zgs (zdc L q) G m + (if q < m ∧ G q = true ∧ 0 < L q then 1 else 0) = zgs L G m := by
  intro m
  induction m with
  | zero => rw [if_neg (by omega)]; rfl
  | succ m ih =>
    simp only [zgs, zdc] at ih ⊢
    by_cases y : m = q
    · subst y
      rw [if_neg (show ¬ (m < m ∧ G m = true ∧ 0 < L m) by omega)] at ih
      rw [if_pos rfl]
      by_cases z : G m = true
      · rw [if_pos z, if_pos z]
        by_cases w : 0 < L m
        · rw [if_pos ⟨by omega, z, w⟩]; omega
        · rw [if_neg (fun u => w u.2.2)]; omega
      · rw [if_neg z, if_neg z, if_neg (fun u => z u.2.1)]; omega
    · rw [if_neg y]
      by_cases z : q < m ∧ G q = true ∧ 0 < L q
      · rw [if_pos z] at ih
        rw [if_pos (show q < m + 1 ∧ G q = true ∧ 0 < L q from ⟨by omega, z.2⟩)]
        omega
      · rw [if_neg z] at ih
        rw [if_neg (show ¬ (q < m + 1 ∧ G q = true ∧ 0 < L q) from fun u => z ⟨by omega, u.2⟩)]
        omega
theorem zgs_add {k : Nat} (hk : L k = 0) : ∀ m, zgs L (fun q => G q || decide (q = k)) m = zgs L G m := by
  intro m
  induction m with
  | zero => rfl
  | succ m ih =>
    simp only [zgs, ih]
    by_cases y : m = k
    · subst y
      rw [hk]
      split <;> split <;> rfl
    · simp [y]
theorem zdy_le (e : Nat) : zdy Wi G m e ≤ 1 := by
  rw [zdy]
  split <;> omega
theorem zct_succ (j e : Nat) : zct Wi m (j + 1) e L G = zdy Wi G m e + zct Wi m j (e + 1) L G := by
  simp only [zct, zds]
  omega
theorem zF_cut : ∀ (j e : Nat) (L : Nat → Nat), (∀ G, zF Wi m j e L ≤ zct Wi m j e L G) ∧ ∃ G, zct Wi m j e L G ≤ zF Wi m j e L := by
  intro j
  induction j with
  | zero =>
    intro e L
    refine ⟨fun G => Nat.zero_le _, fun _ => false, ?_⟩
    have : ∀ m, zgs L (fun _ => false) m = 0 := by
      intro m
      induction m with
      | zero => rfl
      | succ m ih => rw [zgs, ih]; rfl
    rw [zct, this]
    exact Nat.le_refl _
  | succ j ih =>
    intro e L
    constructor
    · intro G
      rw [zct_succ, zF]
      cases zbx_ex (p := fun q => Wi q e && decide (0 < L q)) (f := fun q => 1 + zF Wi m j (e + 1) (zdc L q)) (a := zF Wi m j (e + 1) L) m with
      | inl z =>
        rw [z]
        have := (ih (e + 1) L).1 G
        omega
      | inr z =>
        obtain ⟨q, q1, q2, q3⟩ := z
        rw [q3]
        rw [Bool.and_eq_true, decide_eq_true_eq] at q2
        have i1 := (ih (e + 1) (zdc L q)).1 G
        have d1 := zgs_dec (L := L) (G := G) q m
        simp only [zct] at i1 ⊢
        by_cases y : G q = true
        · rw [if_pos ⟨q1, y, q2.2⟩] at d1
          omega
        · rw [if_neg (fun u => y u.2.1)] at d1
          have : zdy Wi G m e = 1 := by
            rw [zdy, if_neg]
            intro w
            exact y ((zcv_iff m).mp w q q1 q2.1)
          omega
    · obtain ⟨G0, g0⟩ := (ih (e + 1) L).2
      have lo := (ih (e + 1) L).1
      have a1 : zF Wi m j (e + 1) L ≤ zF Wi m (j + 1) e L := by rw [zF]; exact zbx_a m
      by_cases y : zF Wi m j (e + 1) L + 1 ≤ zF Wi m (j + 1) e L
      · refine ⟨G0, ?_⟩
        have := zdy_le (Wi := Wi) (m := m) (G := G0) e
        rw [zct_succ]
        omega
      · have tight : ∀ q, q < m → Wi q e = true → 0 < L q → ∃ G, zct Wi m j (e + 1) L G ≤ zF Wi m j (e + 1) L ∧ G q = true := by
          intro q q1 q2 q3
          have b : 1 + zF Wi m j (e + 1) (zdc L q) ≤ zF Wi m (j + 1) e L := by
            rw [zF]
            exact zbx_q (p := fun q => Wi q e && decide (0 < L q)) (f := fun q => 1 + zF Wi m j (e + 1) (zdc L q)) (a := zF Wi m j (e + 1) L) m q q1 (by rw [q2, decide_eq_true q3]; rfl)
          obtain ⟨G, hG⟩ := (ih (e + 1) (zdc L q)).2
          have d1 := zgs_dec (L := L) (G := G) q m
          have l1 := lo G
          refine ⟨G, ?_⟩
          simp only [zct] at hG l1 ⊢
          by_cases w : G q = true
          · rw [if_pos ⟨q1, w, q3⟩] at d1
            refine ⟨by omega, w⟩
          · rw [if_neg (fun u => w u.2.1)] at d1
            omega
        have build : ∀ k, k ≤ m → ∃ G, zct Wi m j (e + 1) L G ≤ zF Wi m j (e + 1) L ∧ ∀ q, q < k → Wi q e = true → G q = true := by
          intro k
          induction k with
          | zero => intro _; exact ⟨G0, g0, fun q hq => by omega⟩
          | succ k ihk =>
            intro hk
            obtain ⟨G, hG, cG⟩ := ihk (by omega)
            by_cases w : Wi k e = true
            · by_cases l : 0 < L k
              · obtain ⟨K, hK, cK⟩ := tight k (by omega) w l
                refine ⟨fun q => G q || K q, ?_, fun q hq hw => ?_⟩
                · have s1 := zgs_sub (L := L) (G := G) (H := K) m
                  have s2 := zds_sub (Wi := Wi) (m := m) (G := G) (H := K) j (e + 1)
                  have s3 := lo (fun q => G q && K q)
                  simp only [zct] at hG hK s3 ⊢
                  omega
                · by_cases z : q = k
                  · subst z
                    show (G q || K q) = true
                    rw [cK, Bool.or_true]
                  · show (G q || K q) = true
                    rw [cG q (by omega) hw]
                    rfl
              · refine ⟨fun q => G q || decide (q = k), ?_, fun q hq hw => ?_⟩
                · have s1 := zgs_add (L := L) (G := G) (k := k) (by omega) m
                  have s2 := zds_mono (Wi := Wi) (m := m) (G := G) (H := fun q => G q || decide (q = k)) (fun q z => by rw [z]; rfl) j (e + 1)
                  simp only [zct] at hG ⊢
                  omega
                · show (G q || decide (q = k)) = true
                  by_cases z : q = k
                  · rw [decide_eq_true z, Bool.or_true]
                  · rw [cG q (by omega) hw]
                    rfl
            · refine ⟨G, hG, fun q hq hw => ?_⟩
              by_cases z : q = k
              · subst z
                exact absurd hw w
              · exact cG q (by omega) hw
        obtain ⟨G, hG, cG⟩ := build m (Nat.le_refl _)
        refine ⟨G, ?_⟩
        rw [zct_succ, zdy, if_pos ((zcv_iff m).mpr cG)]
        omega
end NZCUT2
