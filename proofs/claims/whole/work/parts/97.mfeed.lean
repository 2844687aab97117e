/-! the reference's feed -/
def zfx (x1 x2 x3 x4 x5 : Int32) (k : Nat) : Int32 := if k < 4 then x1 else if k < 8 then x2 else if k < 12 then x3 else if k < 16 then x4 else x5
def zfS (x1 x2 x3 x4 x5 : Int32) (k : Nat) (s : Nat × (Nat → Int32)) : Nat × (Nat → Int32) := zfed (zfx x1 x2 x3 x4 x5 k) (24 - 8 * (k % 4)) s
theorem zf20_it (x1 x2 x3 x4 x5 : Int32) (s : Nat × (Nat → Int32)) : zit (zfS x1 x2 x3 x4 x5) 0 20 s = zf20 x1 x2 x3 x4 x5 s := rfl
theorem zfsh : ∀ k, k < 20 → 24 - (8 * (nI k - nI k / 4 * 4)) = nI (24 - 8 * (k % 4)) := by decide +kernel
section NZMF
variable {d : Nat} {h : nzH} {F0 : Nat → Value} {I : Nat → Int32} {W : Int64} {td rd : Option Nat} {tp : Nat → Int32} {A : Nat → Nat → Int32} {hl : Nat}
theorem kX13_fe23 (h9 : hl + 20 ≤ 900) (x1 x2 x3 x4 x5 : Int32) : ∀ (j k : Nat) (I : Nat → Int32) (tp : Nat → Int32) (u7 : Option Value), k + j = 20 → I 6 = nI (hl + k) → nzr d nX13_feed 23 [some (.ref 73), some (.int x1), some (.int x2), some (.int x3), some (.int x4), some (.int x5), some (.int (nI k)), u7] [] (zmS h F0 I W td rd tp A) = some (some (.int (nI (hl + 20))), zmS h F0 (upd I 6 (nI (hl + 20))) W td rd (zit (zfS x1 x2 x3 x4 x5) k j (hl + k, tp)).2 A) ∧ (zit (zfS x1 x2 x3 x4 x5) k j (hl + k, tp)).1 = hl + 20 := by
  intro j
  induction j with
  | zero =>
    intro k I tp u7 hk e
    obtain rfl : k = 20 := by omega
    refine ⟨?_, rfl⟩
    rw [eX13_feed_23, if_pos (show (20 : Int32) ≤ nI 20 by decide), zI_6, Option.bind_some, e, ← e, upd_id, e]
    rfl
  | succ j ih =>
    intro k I tp u7 hk e
    have es : zfS x1 x2 x3 x4 x5 k (hl + k, tp) = (hl + k + 1, upd tp (hl + k) (vp_nar .byte ((zfx x1 x2 x3 x4 x5 k) >>> (nI (24 - 8 * (k % 4)) &&& 31)).toInt8.toInt32)) := by
      rw [zfS, zfed, if_pos (show hl + k < 900 by omega)]
    have st : ∀ (w : Int32) (u : Option Value), w = zfx x1 x2 x3 x4 x5 k → nzr d nX13_feed 76 [some (.ref 73), some (.int x1), some (.int x2), some (.int x3), some (.int x4), some (.int x5), some (.int (nI k)), u] [.int w] (zmS h F0 I W td rd tp A) = some (some (.int (nI (hl + 20))), zmS h F0 (upd I 6 (nI (hl + 20))) W td rd (zit (zfS x1 x2 x3 x4 x5) (k + 1) j (hl + (k + 1), upd tp (hl + k) (vp_nar .byte ((zfx x1 x2 x3 x4 x5 k) >>> (nI (24 - 8 * (k % 4)) &&& 31)).toInt8.toInt32))).2 A) := by
      intro w u ew
      rw [eX13_feed_76, zIB, Option.bind_some, zI_6, Option.bind_some, e, zWB (show hl + k < 900 by omega), Option.bind_some, zI_6, Option.bind_some, e, nI_1, zP_6, Option.bind_some, zfsh k (by omega), nI_1, (ih (k + 1) (upd I 6 (nI (hl + k + 1))) _ _ (by omega) (upd_eq _ _ _)).1, upd_upd, ew]
    have fst := (ih (k + 1) (upd I 6 (nI (hl + k + 1))) (upd tp (hl + k) (vp_nar .byte ((zfx x1 x2 x3 x4 x5 k) >>> (nI (24 - 8 * (k % 4)) &&& 31)).toInt8.toInt32)) u7 (by omega) (upd_eq _ _ _)).2
    rw [zit, es]
    refine ⟨?_, fst⟩
    rw [eX13_feed_23, if_neg (show ¬ 20 ≤ nI k from nI_ge (b := 20) (by omega) (by decide))]
    by_cases y4 : k < 4
    · rw [if_neg (show ¬ 4 ≤ nI k from nI_ge (b := 4) y4 (by decide))]
      exact st _ _ (by rw [zfx, if_pos y4])
    · rw [if_pos (show 4 ≤ nI k from nI_le (a := 4) (by omega) (by omega))]
      by_cases y8 : k < 8
      · rw [if_neg (show ¬ 8 ≤ nI k from nI_ge (b := 8) y8 (by decide))]
        exact st _ _ (by rw [zfx, if_neg y4, if_pos y8])
      · rw [if_pos (show 8 ≤ nI k from nI_le (a := 8) (by omega) (by omega))]
        by_cases y12 : k < 12
        · rw [if_neg (show ¬ 12 ≤ nI k from nI_ge (b := 12) y12 (by decide))]
          exact st _ _ (by rw [zfx, if_neg y4, if_neg y8, if_pos y12])
        · rw [if_pos (show 12 ≤ nI k from nI_le (a := 12) (by omega) (by omega))]
          by_cases y16 : k < 16
          · rw [if_neg (show ¬ 16 ≤ nI k from nI_ge (b := 16) y16 (by decide))]
            exact st _ _ (by rw [zfx, if_neg y4, if_neg y8, if_neg y12, if_pos y16])
          · rw [if_pos (show 16 ≤ nI k from nI_le (a := 16) (by omega) (by omega))]
            exact st _ _ (by rw [zfx, if_neg y4, if_neg y8, if_neg y12, if_neg y16])
theorem kX13_feed (hd : 0 < d) (e : I 6 = nI hl) (h9 : hl + 20 ≤ 900) (x1 x2 x3 x4 x5 : Int32) : nzxI d nX13_feed [.ref 73, .int x1, .int x2, .int x3, .int x4, .int x5] (zmS h F0 I W td rd tp A) = some (nI (zf20 x1 x2 x3 x4 x5 (hl, tp)).1, zmS h F0 (upd (upd I 0 0) 6 (nI (zf20 x1 x2 x3 x4 x5 (hl, tp)).1)) W td rd (zf20 x1 x2 x3 x4 x5 (hl, tp)).2 A) := by
  obtain ⟨r1, r2⟩ := kX13_fe23 (d := d - 1) (h := h) (F0 := F0) (W := W) (td := td) (rd := rd) (A := A) h9 x1 x2 x3 x4 x5 20 0 (upd I 0 0) tp none rfl ((upd_ne (by decide)).trans e)
  rw [Nat.add_zero, zf20_it] at r1 r2
  rw [r2]
  refine iX13_feed hd zmS_o ?_
  rw [eX13_feed_0, zP_0, Option.bind_some, zI_6, Option.bind_some, upd_ne (by decide), e, if_pos (show nI hl + 20 ≤ 900 by rw [show (20 : Int32) = nI 20 from rfl, nI_add]; exact nI_le (b := 900) h9 (by decide))]
  exact r1
theorem kX13_feed_no (hd : 0 < d) (e : I 6 = nI hl) (h9 : hl ≤ 900) (h8 : 900 < hl + 20) (x1 x2 x3 x4 x5 : Int32) : nzxI d nX13_feed [.ref 73, .int x1, .int x2, .int x3, .int x4, .int x5] (zmS h F0 I W td rd tp A) = some (-1, zmS h F0 (upd I 0 0) W td rd tp A) := by
  refine iX13_feed hd zmS_o ?_
  rw [eX13_feed_0, zP_0, Option.bind_some, zI_6, Option.bind_some, upd_ne (by decide), e, if_neg (show ¬ nI hl + 20 ≤ 900 by rw [show (20 : Int32) = nI 20 from rfl, nI_add]; exact nI_ge (a := 900) h8 (by omega))]
end NZMF
