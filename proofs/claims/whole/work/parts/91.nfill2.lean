/-! fill: class and reference say the same -/
theorem nI_d8 {v : Nat} (h : v < 100) : nI v / 8 = nI (v / 8) := by
  have : ∀ v, v < 100 → nI v / 8 = nI (v / 8) := by decide +kernel
  exact this v h
section NZFILLE
variable {c g J : Nat → Int32} {B : Nat → Nat → Int32}
theorem zfM_m (D : zDR c g J B) : ∀ q, q < zcn c 7 → B 33 q = nI (zfM g (zcn c 7) q) ∧ zfM g (zcn c 7) q ≤ 7 := fun q hq => by
  refine ⟨?_, zfM_le D q⟩
  rw [zfM, if_pos hq]
  exact (zNg D (s := 7) (r := q) (k := 1) (by decide) hq (by decide) rfl (by decide)).2.1 (by decide)
theorem zfill_eq (D : zDR c g J B) (W L P : Nat → Int32) : ∃ n, n ≤ 7 ∧ zmost (znw c g (zcn c 7) W) (zcap c g 7 L) 0 = nI n ∧ zob (zit (zfiS (zcn c 7) (zwW B) (zfM g (zcn c 7))) 0 ((zcn c 7 + 1) ^ 7) (none, 0)).1 / 8 = nI n ∧ ∀ x, x < 7 → (zit (zweek (znw c g (zcn c 7) W)) 0 7 (zmost (znw c g (zcn c 7) W) (zcap c g 7 L) 0, zcff c g (znw c g (zcn c 7) W) (zmost (znw c g (zcn c 7) W) (zcap c g 7 L) 0) 7 0 (zcap c g 7 L), P)).2.2 x = zfiV (zcn c 7) (zwd (zcn c 7) (zit (zfiS (zcn c 7) (zwW B) (zfM g (zcn c 7))) 0 ((zcn c 7 + 1) ^ 7) (none, 0)).2 x) := by
  have h5 : zcn c 7 ≤ 5 := (D.1 7 (by decide)).2
  have hz := znw_n D W
  have hW : ∀ e, e < 7 → znw c g (zcn c 7) W e = nI (if h : e < 7 then (hz e h).choose else 0) ∧ (if h : e < 7 then (hz e h).choose else 0) < 32 ∧ ∀ q, q < 5 → zfW B (zcn c 7) q e = zgb (if h : e < 7 then (hz e h).choose else 0) q := fun e he => by
    rw [dif_pos he]
    exact (hz e he).choose_spec
  have e7 : (fun q => min (zfM g (zcn c 7) q) 7) = zfM g (zcn c 7) := by
    funext q
    exact Nat.min_eq_left (zfM_le D q)
  have m : zmost (znw c g (zcn c 7) W) (zcap c g 7 L) 0 = nI (zF (zfW B (zcn c 7)) 5 7 0 (zfM g (zcn c 7))) := by
    have := zmost_n (L := zcap c g (nI 7) L) (Ln := fun q => min (zfM g (zcn c 7) q) 7) hW (fun x hx => ⟨zcap_n D L (by omega) x hx, Nat.min_le_right _ _⟩) (f := 0) (by omega)
    rw [e7] at this
    exact this
  have b := zF_le (Wi := zfW B (zcn c 7)) (m := 5) 7 0 (zfM g (zcn c 7))
  obtain ⟨k, k1, k2, k3, k4⟩ := zcff_n D hW 7 0 (zcap c g 7 L) rfl (fun b hb => by omega)
  obtain ⟨who, w1, w2, -, w4⟩ := zweek_n (hn := zcn c 7) h5 hW 7 0 (zcff c g (znw c g (zcn c 7) W) (nI (zF (zfW B (zcn c 7)) 5 7 0 (zfM g (zcn c 7)))) 7 0 (zcap c g 7 L)) P (fun q => min (zfM g (zcn c 7) q) k) rfl (fun q hq => ⟨k2 q hq, by omega⟩) (fun q hq => by
    show min (zfM g (zcn c 7) q) k = 0
    rw [zfM, if_neg (by omega), Nat.zero_min])
  have r := zfi_eq h5 w1 k1 k3 k4 w2
  have cg : zit (zfiS (zcn c 7) (zwW B) (zfM g (zcn c 7))) 0 ((zcn c 7 + 1) ^ 7) (none, 0) = zit (zfiS (zcn c 7) (zfW B (zcn c 7)) (zfM g (zcn c 7))) 0 ((zcn c 7 + 1) ^ 7) (none, 0) := by
    have v : ∀ (wh : Nat → Nat), (∀ e, wh e ≤ zcn c 7) → ∀ (j e n b : Nat) (wk : Nat → Nat), zwv (zcn c 7) (zwW B) (zfM g (zcn c 7)) wh j e n b wk = zwv (zcn c 7) (zfW B (zcn c 7)) (zfM g (zcn c 7)) wh j e n b wk := by
      intro wh hw j
      induction j with
      | zero => intro e n b wk; rfl
      | succ j ih =>
        intro e n b wk
        have := hw e
        rw [zwv, zwv, ih, ih]
        by_cases y : wh e = zcn c 7
        · rw [if_pos y, if_pos y]
        · rw [if_neg y, if_neg y, zfW, decide_eq_true (show wh e < zcn c 7 by omega), Bool.true_and]
    have : zfiS (zcn c 7) (zwW B) (zfM g (zcn c 7)) = zfiS (zcn c 7) (zfW B (zcn c 7)) (zfM g (zcn c 7)) := by
      funext a s
      rw [zfiS, zfiS, v _ (zwd_le a)]
    rw [this]
  refine ⟨_, b, m, ?_, fun x hx => ?_⟩
  · rw [cg, r]
    show nI _ / 8 = _
    rw [nI_d8 (by omega), show (8 * zF (zfW B (zcn c 7)) 5 7 0 (zfM g (zcn c 7)) + 7 - k) / 8 = zF (zfW B (zcn c 7)) 5 7 0 (zfM g (zcn c 7)) by omega]
  · rw [cg, r, m]
    rw [k3] at w4
    rw [w4 x (Nat.zero_le _) hx]
    show _ = zfiV (zcn c 7) (zwd (zcn c 7) (zen (zcn c 7) who 7) x)
    rw [zen_d w1 hx]
end NZFILLE
