/-! the class's least cut is the most days filled -/
theorem zcv_cong {Wi Wj : Nat → Nat → Bool} {G H : Nat → Bool} {e e' : Nat} : ∀ m, (∀ q, q < m → Wi q e = Wj q e' ∧ G q = H q) → zcv Wi G e m = zcv Wj H e' m := by
  intro m
  induction m with
  | zero => intro _; rfl
  | succ m ih =>
    intro h
    rw [zcv, zcv, ih (fun q hq => h q (by omega)), (h m (by omega)).1, (h m (by omega)).2]
theorem zgs_cong {L M : Nat → Nat} {G H : Nat → Bool} : ∀ m, (∀ q, q < m → L q = M q ∧ G q = H q) → zgs L G m = zgs M H m := by
  intro m
  induction m with
  | zero => intro _; rfl
  | succ m ih =>
    intro h
    rw [zgs, zgs, ih (fun q hq => h q (by omega)), (h m (by omega)).1, (h m (by omega)).2]
theorem zds_cong {Wi : Nat → Nat → Bool} {G H : Nat → Bool} {m : Nat} (h : ∀ q, q < m → G q = H q) : ∀ j e, zds Wi G m j e = zds Wi H m j e := by
  intro j
  induction j with
  | zero => intro e; rfl
  | succ j ih =>
    intro e
    rw [zds, zds, ih, zdy, zdy, zcv_cong (Wj := Wi) (H := H) (e' := e) m (fun q hq => ⟨rfl, h q hq⟩)]
theorem zF_le {Wi : Nat → Nat → Bool} {m : Nat} : ∀ j e L, zF Wi m j e L ≤ j := by
  intro j
  induction j with
  | zero => intro e L; exact Nat.le_refl _
  | succ j ih =>
    intro e L
    rw [zF]
    cases zbx_ex (p := fun q => Wi q e && decide (0 < L q)) (f := fun q => 1 + zF Wi m j (e + 1) (zdc L q)) (a := zF Wi m j (e + 1) L) m with
    | inl z => have := ih (e + 1) L; omega
    | inr z =>
      obtain ⟨q, q1, q2, q3⟩ := z
      have := ih (e + 1) (zdc L q)
      omega
theorem zF_mono {Wi : Nat → Nat → Bool} {m : Nat} {L M : Nat → Nat} (h : ∀ q, q < m → L q ≤ M q) (j e : Nat) : zF Wi m j e L ≤ zF Wi m j e M := by
  obtain ⟨G, hG⟩ := (zF_cut (Wi := Wi) (m := m) j e M).2
  have h1 := (zF_cut (Wi := Wi) (m := m) j e L).1 G
  have : ∀ m, (∀ q, q < m → L q ≤ M q) → zgs L G m ≤ zgs M G m := by
    intro m
    induction m with
    | zero => intro _; exact Nat.le_refl _
    | succ m ih =>
      intro h
      rw [zgs, zgs]
      have := ih (fun q hq => h q (by omega))
      have := h m (by omega)
      split <;> omega
  have := this m h
  simp only [zct] at hG h1
  omega
theorem zF_cong {Wi : Nat → Nat → Bool} {m : Nat} {L M : Nat → Nat} (h : ∀ q, q < m → L q = M q) (j e : Nat) : zF Wi m j e L = zF Wi m j e M :=
  Nat.le_antisymm (zF_mono (fun q hq => Nat.le_of_eq (h q hq)) j e) (zF_mono (fun q hq => Nat.le_of_eq (h q hq).symm) j e)
def zgb (gr : Nat) : Nat → Bool := fun q => decide (gr / 2 ^ q % 2 = 1)
theorem zcb1 : ∀ w, w < 32 → ∀ gr, gr < 32 → decide (nI w &&& (nI gr ^^^ (-1)) = 0) = zcv (fun q _ => zgb w q) (zgb gr) 0 5 := by decide +kernel
theorem zcb2 : ∀ gr, gr < 32 → ∀ i, i < 5 → decide (nI gr &&& (1 <<< (nI i &&& 31)) = 0) = !zgb gr i := by decide +kernel
theorem zcb3 : ∀ b0 b1 b2 b3 b4 : Bool, (b0.toNat + 2 * b1.toNat + 4 * b2.toNat + 8 * b3.toNat + 16 * b4.toNat) < 32 ∧ zgb (b0.toNat + 2 * b1.toNat + 4 * b2.toNat + 8 * b3.toNat + 16 * b4.toNat) 0 = b0 ∧ zgb (b0.toNat + 2 * b1.toNat + 4 * b2.toNat + 8 * b3.toNat + 16 * b4.toNat) 1 = b1 ∧ zgb (b0.toNat + 2 * b1.toNat + 4 * b2.toNat + 8 * b3.toNat + 16 * b4.toNat) 2 = b2 ∧ zgb (b0.toNat + 2 * b1.toNat + 4 * b2.toNat + 8 * b3.toNat + 16 * b4.toNat) 3 = b3 ∧ zgb (b0.toNat + 2 * b1.toNat + 4 * b2.toNat + 8 * b3.toNat + 16 * b4.toNat) 4 = b4 := by decide +kernel
theorem zcb4 (G : Nat → Bool) : ∃ gr, gr < 32 ∧ ∀ q, q < 5 → zgb gr q = G q := by
  obtain ⟨h, h0, h1, h2, h3, h4⟩ := zcb3 (G 0) (G 1) (G 2) (G 3) (G 4)
  refine ⟨_, h, fun q hq => ?_⟩
  match q, hq with
  | 0, _ => exact h0
  | 1, _ => exact h1
  | 2, _ => exact h2
  | 3, _ => exact h3
  | 4, _ => exact h4
section NZMOST
variable {W L : Nat → Int32} {Wn Ln : Nat → Nat} {Wi : Nat → Nat → Bool}
theorem zcut_n (hW : ∀ e, e < 7 → W e = nI (Wn e) ∧ Wn e < 32 ∧ ∀ q, q < 5 → Wi q e = zgb (Wn e) q) (hL : ∀ i, i < 5 → L i = nI (Ln i)) {f gr : Nat} (hf : f ≤ 7) (hg : gr < 32) : zcut W L f (nI gr) = nI (zct Wi 5 (7 - f) f Ln (zgb gr)) := by
  have s1 : ∀ (j i a : Nat), i + j = 5 → a = zgs Ln (zgb gr) i → zit (zcutH L (nI gr)) i j (nI a) = nI (zgs Ln (zgb gr) 5) := by
    intro j
    induction j with
    | zero => intro i a hi e; rw [zit, e, show i = 5 by omega]
    | succ j ih =>
      intro i a hi e
      have b := zcb2 gr hg i (by omega)
      have es : zcutH L (nI gr) i (nI a) = nI (a + (if zgb gr i = true then Ln i else 0)) := by
        rw [zcutH]
        by_cases y : zgb gr i = true
        · rw [y] at b
          rw [if_neg (of_decide_eq_false b), if_pos y, hL i (by omega), nI_add]
        · rw [eq_false_of_ne_true y] at b
          rw [if_pos (of_decide_eq_true b), if_neg y, Int32.add_zero, Nat.add_zero]
      rw [zit, es]
      exact ih (i + 1) _ (by omega) (by rw [zgs, e])
  have s2 : ∀ (j i a : Nat), i + j = 7 → zit (zcutD W (nI gr)) i j (nI a) = nI (a + zds Wi (zgb gr) 5 j i) := by
    intro j
    induction j with
    | zero => intro i a hi; rfl
    | succ j ih =>
      intro i a hi
      obtain ⟨w1, w2, w3⟩ := hW i (by omega)
      have b := zcb1 (Wn i) w2 gr hg
      rw [← zcv_cong (Wi := Wi) (G := zgb gr) (e := i) 5 (fun q hq => ⟨w3 q hq, rfl⟩)] at b
      have es : zcutD W (nI gr) i (nI a) = nI (a + zdy Wi (zgb gr) 5 i) := by
        rw [zcutD, w1, zdy]
        by_cases y : zcv Wi (zgb gr) i 5 = true
        · rw [y] at b
          rw [if_pos (of_decide_eq_true b), if_pos y, Int32.add_zero, Nat.add_zero]
        · rw [eq_false_of_ne_true y] at b
          rw [if_neg (of_decide_eq_false b), if_neg y, nI_1]
      rw [zit, es, ih (i + 1) _ (by omega), zds, Nat.add_assoc]
  rw [zcut, show (0 : Int32) = nI 0 from rfl, s1 5 0 0 rfl rfl, s2 (7 - f) f _ (by omega), zct]
theorem zmost_n (hW : ∀ e, e < 7 → W e = nI (Wn e) ∧ Wn e < 32 ∧ ∀ q, q < 5 → Wi q e = zgb (Wn e) q) (hL : ∀ i, i < 5 → L i = nI (Ln i) ∧ Ln i ≤ 7) {f : Nat} (hf : f ≤ 7) : zmost W L f = nI (zF Wi 5 (7 - f) f Ln) := by
  have cb : ∀ G, zct Wi 5 (7 - f) f Ln G ≤ 100 := by
    intro G
    have d : ∀ j e, zds Wi G 5 j e ≤ j := by
      intro j
      induction j with
      | zero => intro e; exact Nat.le_refl _
      | succ j ih =>
        intro e
        have := ih (e + 1)
        have := zdy_le (Wi := Wi) (m := 5) (G := G) e
        rw [zds]
        omega
    have s : ∀ m, m ≤ 5 → zgs Ln G m ≤ 7 * m := by
      intro m
      induction m with
      | zero => intro _; exact Nat.le_refl _
      | succ m ih =>
        intro hm
        have := ih (by omega)
        have := (hL m (by omega)).2
        rw [zgs]
        split <;> omega
    have := d (7 - f) f
    have := s 5 (by omega)
    rw [zct]
    omega
  have st : ∀ (j gr v : Nat), gr + j = 32 → v ≤ 7 → ∃ v', zit (zmostS W L f) gr j (nI v) = nI v' ∧ v' ≤ v ∧ (∀ x, gr ≤ x → x < 32 → v' ≤ zct Wi 5 (7 - f) f Ln (zgb x)) ∧ (v' = v ∨ ∃ x, v' = zct Wi 5 (7 - f) f Ln (zgb x)) := by
    intro j
    induction j with
    | zero => intro gr v hg hv; exact ⟨v, rfl, Nat.le_refl _, fun x h1 h2 => by omega, Or.inl rfl⟩
    | succ j ih =>
      intro gr v hg hv
      have c := zcut_n hW (fun i hi => (hL i hi).1) hf (show gr < 32 by omega)
      have b := cb (zgb gr)
      rw [zit, zmostS, c]
      by_cases y : zct Wi 5 (7 - f) f Ln (zgb gr) < v
      · rw [if_pos (nI_lt y (by omega))]
        obtain ⟨v', q1, q2, q3, q4⟩ := ih (gr + 1) _ (by omega) (show zct Wi 5 (7 - f) f Ln (zgb gr) ≤ 7 by omega)
        refine ⟨v', q1, by omega, fun x h1 h2 => ?_, ?_⟩
        · by_cases z : x = gr
          · rw [z]; exact q2
          · exact q3 x (by omega) h2
        · cases q4 with
          | inl e => exact Or.inr ⟨gr, e⟩
          | inr e => exact Or.inr e
      · rw [if_neg (nI_nlt (by omega) (by omega))]
        obtain ⟨v', q1, q2, q3, q4⟩ := ih (gr + 1) v (by omega) hv
        refine ⟨v', q1, q2, fun x h1 h2 => ?_, q4⟩
        by_cases z : x = gr
        · rw [z]; omega
        · exact q3 x (by omega) h2
  obtain ⟨v', q1, q2, q3, q4⟩ := st 32 0 7 rfl (Nat.le_refl _)
  obtain ⟨lo, G, hG⟩ := zF_cut (Wi := Wi) (m := 5) (7 - f) f Ln
  obtain ⟨gr, g1, g2⟩ := zcb4 G
  have e1 : zct Wi 5 (7 - f) f Ln (zgb gr) = zct Wi 5 (7 - f) f Ln G := by
    rw [zct, zct, zgs_cong (M := Ln) (H := G) 5 (fun q hq => ⟨rfl, g2 q hq⟩), zds_cong g2]
  have h1 := q3 gr (Nat.zero_le _) g1
  have h2 : zF Wi 5 (7 - f) f Ln ≤ v' := by
    cases q4 with
    | inl e => have := zF_le (Wi := Wi) (m := 5) (7 - f) f Ln; omega
    | inr e =>
      obtain ⟨x, e⟩ := e
      rw [e]
      exact lo _
  rw [zmost, show (7 : Int32) = nI 7 from rfl, q1, show v' = zF Wi 5 (7 - f) f Ln by omega]
end NZMOST
