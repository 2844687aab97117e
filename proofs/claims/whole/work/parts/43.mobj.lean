/-! the reference's object (73; its tape 74, its arrays 75 .. 93): numbers I by field, arrays A by field -/
def zma (k : Nat) : Nat × Nat := [(0, 0), (0, 0), (0, 0), (0, 0), (0, 0), (0, 0), (0, 0), (0, 0), (0, 0), (0, 0), (0, 0), (0, 0), (0, 0), (0, 0), (0, 0), (0, 0), (0, 0), (75, 3), (76, 18), (0, 0), (0, 0), (0, 0), (77, 6), (78, 6), (0, 0), (0, 0), (79, 6), (0, 0), (80, 6), (81, 192), (82, 192), (83, 84), (84, 14), (0, 0), (0, 0), (85, 5), (86, 5), (0, 0), (87, 7), (88, 6), (89, 6), (90, 60), (0, 0), (91, 16), (92, 16), (93, 16)].getD k (0, 0)
def zmi (k : Nat) : Bool := [0, 1, 2, 6, 7, 8, 9, 10, 11, 12, 13, 14, 15, 19, 20, 21, 24, 25, 27, 33, 34, 37, 42].contains k
theorem zma_46 : ∀ k, k < 46 → (zma k).1 ≠ 0 → 75 ≤ (zma k).1 ∧ (zma k).1 < 94 ∧ (zma k).2 < 200 ∧ zmi k = false ∧ k ≠ 16 ∧ k ≠ 3 ∧ k ≠ 4 ∧ k ≠ 5 := by decide +kernel
theorem zma_inj : ∀ k, k < 46 → ∀ q, q < 46 → (zma k).1 ≠ 0 → (zma k).1 = (zma q).1 → k = q := by decide +kernel
theorem zmi_46 : ∀ k, k < 46 → zmi k = true → (zma k).1 = 0 ∧ k ≠ 16 ∧ k ≠ 3 ∧ k ≠ 4 ∧ k ≠ 5 := by decide +kernel
def zmo (h : nzH) (I : Nat → Int32) (W : Int64) (td rd : Option Nat) (tp : Nat → Int32) (A : Nat → Nat → Int32) : Prop := (∃ F, zobj h 73 13 F ∧ (∀ k, k < 46 → zmi k = true → F k = .int (I k)) ∧ F 16 = .long W ∧ F 3 = va_rf td ∧ F 4 = va_rf rd ∧ F 5 = .ref 74 ∧ ∀ k, k < 46 → (zma k).1 ≠ 0 → F k = .ref (zma k).1) ∧ zbyt h 74 900 tp ∧ ∀ k, k < 46 → (zma k).1 ≠ 0 → zarr h (zma k).1 (zma k).2 (A k)
section NZMO
variable {d t : Nat} {h : nzH} {I : Nat → Int32} {W : Int64} {td rd : Option Nat} {tp : Nat → Int32} {A : Nat → Nat → Int32}
theorem zmo_sm {h1 : nzH} (D : zmo h I W td rd tp A) (s : zsm 73 94 h h1) : zmo h1 I W td rd tp A := by
  obtain ⟨⟨F, o, e⟩, b, a⟩ := D
  refine ⟨⟨F, (s 73 (by omega) (by omega)).trans o, e⟩, (s 74 (by omega) (by omega)).trans b, fun k hk z => ?_⟩
  have := zma_46 k hk z
  exact (s _ (by omega) (by omega)).trans (a k hk z)
theorem zmo_gI (D : zmo h I W td rd tp A) {k : Nat} (hk : k < 46) (z : zmi k = true) : nzgI h 73 13 k = some (I k) := by
  obtain ⟨⟨F, o, e1, -⟩, -⟩ := D
  exact zg_I o (e1 k hk z)
theorem zmo_gR (D : zmo h I W td rd tp A) {k : Nat} (hk : k < 46) (z : (zma k).1 ≠ 0) : nzgR h 73 13 k = some (zma k).1 := by
  obtain ⟨⟨F, o, e1, e2, e3, e4, e5, e6⟩, -⟩ := D
  exact zg_R o (e6 k hk z)
theorem zmo_gA (D : zmo h I W td rd tp A) {k i : Nat} (hk : k < 46) (z : (zma k).1 ≠ 0) (hi : i < (zma k).2) : nzaI h (zma k).1 (nI i) = some (A k i) := by
  have := zma_46 k hk z
  exact za_In (D.2.2 k hk z) hi (by omega)
theorem zmo_td (D : zmo h I W (some t) rd tp A) : nzgN h 73 13 3 = some (some t) ∧ nzgR h 73 13 3 = some t := by
  obtain ⟨⟨F, o, e1, e2, e3, e4, e5, e6⟩, -⟩ := D
  exact ⟨zg_N o e3, zg_R o e3⟩
theorem zmo_td0 (D : zmo h I W none rd tp A) : nzgN h 73 13 3 = some none := by
  obtain ⟨⟨F, o, e1, e2, e3, e4, e5, e6⟩, -⟩ := D
  exact zg_N0 o e3
/-- a number put -/
theorem zmo_pI (D : zmo h I W td rd tp A) {k : Nat} (hk : k < 46) (z : zmi k = true) (v : Int32) : ∃ h1, nzput h 73 13 k (.int v) = some h1 ∧ zmo h1 (upd I k v) W td rd tp A ∧ zfr 73 94 h h1 := by
  obtain ⟨⟨F, o, e1, e2, e3, e4, e5, e6⟩, b, a⟩ := D
  have m := zmi_46 k hk z
  refine ⟨_, zp_of o, ⟨⟨_, zc_setS _ _ _, fun q hq y => ?_, (va_up_ne _ _ (Ne.symm m.2.1)).trans e2, (va_up_ne _ _ (Ne.symm m.2.2.1)).trans e3, (va_up_ne _ _ (Ne.symm m.2.2.2.1)).trans e4, (va_up_ne _ _ (Ne.symm m.2.2.2.2)).trans e5, fun q hq y => (va_up_ne _ _ (fun w => y (by rw [w]; exact m.1))).trans (e6 q hq y)⟩, (zc_setN (by decide)).trans b, fun q hq y => ?_⟩, zfr_set _ _ (by decide) (by decide)⟩
  · by_cases w : q = k
    · subst w
      rw [va_up_self, upd, if_pos rfl]
    · rw [va_up_ne _ _ w, upd, if_neg w]
      exact e1 q hq y
  · have := zma_46 q hq y
    exact (zc_setN (by omega)).trans (a q hq y)
/-- an array's cell put -/
theorem zmo_pA (D : zmo h I W td rd tp A) {k i : Nat} (hk : k < 46) (z : (zma k).1 ≠ 0) (hi : i < (zma k).2) (v : Int32) : ∃ h1, nzsI h (zma k).1 (nI i) v = some h1 ∧ zmo h1 I W td rd tp (va_up A k (upd (A k) i v)) ∧ zfr 73 94 h h1 := by
  have m := zma_46 k hk z
  obtain ⟨⟨F, o, e⟩, b, a⟩ := D
  refine ⟨_, zs_In (a k hk z) hi (by omega), ⟨⟨F, (zc_setN (by omega)).trans o, e⟩, (zc_setN (by omega)).trans b, fun q hq y => ?_⟩, zfr_set _ _ (by omega) (by omega)⟩
  by_cases w : q = k
  · subst w
    rw [va_up_self]
    exact zc_setS _ _ _
  · rw [va_up_ne _ _ w]
    exact (zc_setN (fun x => w (zma_inj q hq k hk y x))).trans (a q hq y)
end NZMO
