/-! both objects new: the parts are alike -/
def zh0 (sc : Nat × (Nat → Int32)) : nzH := (0, (0, 0), fun _ => none, sc)
def zh1 (sc : Nat × (Nat → Int32)) : nzH := zoX (zh0 sc) 11 11 (zIF11 0) (zIL11 0) 2538
def zh2 (sc : Nat × (Nat → Int32)) : nzH := zoX (zh1 sc) 13 46 (zIF13 73) zIL13 1564
def zh3 (sc : Nat × (Nat → Int32)) : nzH := nznew (zh2 sc) 1 (.inl (.long, 1, .inr (.inl (fun _ => 0))))
theorem zIL11_n : (zIL11 0).length = 72 := rfl
theorem zIL13_n : zIL13.length = 20 := rfl
section NZST
variable {sc : Nat × (Nat → Int32)}
theorem zh1_1 : (zh1 sc).1 = 73 := by
  show 0 + 1 + (zIL11 0).length = 73
  rw [zIL11_n]
theorem zh2_1 : (zh2 sc).1 = 94 := by
  show (zh1 sc).1 + 1 + zIL13.length = 94
  rw [zh1_1, zIL13_n]
theorem zh3_1 : (zh3 sc).1 = 95 := by
  show (zh2 sc).1 + 1 = 95
  rw [zh2_1]
theorem zh3_2 : (zh3 sc).2.1 = (95, 4160) := by
  show ((0 + 1 + (zIL11 0).length + 1 + zIL13.length + 1, 0 + 11 + 2538 + 46 + 1564 + 1) : Nat × Nat) = _
  rw [zIL11_n, zIL13_n]
theorem zq_o : nzcell (zh3 sc) 94 = some (.inl (.long, 1, .inr (.inl (fun _ => 0)))) := by
  show va_up (zh2 sc).2.2.1 (zh2 sc).1 (some (.inl (.long, 1, .inr (.inl (fun _ => 0))))) 94 = _
  rw [zh2_1]
  exact va_up_self _ _ _
theorem zq_2 {a : Nat} (h : a < 94) : nzcell (zh3 sc) a = (zh2 sc).2.2.1 a := by
  show va_up (zh2 sc).2.2.1 (zh2 sc).1 _ a = _
  rw [zh2_1, va_up_ne _ _ (by omega)]
theorem zq_m : nzcell (zh3 sc) 73 = some (.inr (13, zIF13 73)) := by
  rw [zq_2 (by decide)]
  show (if 73 = (zh1 sc).1 then some (.inr (13, zIF13 73)) else (if (zh1 sc).1 < 73 ∧ 73 ≤ (zh1 sc).1 + zIL13.length then zIL13[73 - (zh1 sc).1 - 1]? else (zh1 sc).2.2.1 73) : Option nzE) = _
  exact if_pos zh1_1.symm
theorem zq_ma {a : Nat} (h1 : 74 ≤ a) (h2 : a < 94) : nzcell (zh3 sc) a = zIL13[a - 74]? := by
  rw [zq_2 h2]
  show (if a = (zh1 sc).1 then _ else if (zh1 sc).1 < a ∧ a ≤ (zh1 sc).1 + zIL13.length then zIL13[a - (zh1 sc).1 - 1]? else _) = _
  rw [zh1_1, zIL13_n, if_neg (by omega), if_pos (by omega), show a - 73 - 1 = a - 74 by omega]
theorem zq_1 {a : Nat} (h : a < 73) : nzcell (zh3 sc) a = (zh1 sc).2.2.1 a := by
  rw [zq_2 (by omega)]
  show (if a = (zh1 sc).1 then _ else if (zh1 sc).1 < a ∧ _ then _ else (zh1 sc).2.2.1 a) = _
  rw [zh1_1, if_neg (by omega), if_neg (by omega)]
theorem zq_0 : nzcell (zh3 sc) 0 = some (.inr (11, zIF11 0)) := by
  rw [zq_1 (by decide)]
  show (if (0 : Nat) = (zh0 sc).1 then some (.inr (11, zIF11 0)) else (if (zh0 sc).1 < 0 ∧ 0 ≤ (zh0 sc).1 + (zIL11 0).length then (zIL11 0)[0 - (zh0 sc).1 - 1]? else (zh0 sc).2.2.1 0) : Option nzE) = _
  exact if_pos rfl
theorem zq_c (a : Nat) (h1 : 1 ≤ a) (h2 : a < 73) : nzcell (zh3 sc) a = (zIL11 0)[a - 1]? := by
  rw [zq_1 h2]
  show (if a = 0 then _ else if 0 < a ∧ a ≤ 0 + (zIL11 0).length then (zIL11 0)[a - 0 - 1]? else _) = _
  rw [zIL11_n, if_neg (by omega), if_pos (by omega)]
  rfl
def zqI : Nat → Int32 := fun k => if k = 2 then -1 else 0
theorem zq_F : ∀ q, q < 46 → zIF13 73 q = zmF (zIF13 73) zqI 0 none none q := by decide +kernel
theorem zq_S : zh3 sc = zmS (zh3 sc) (zIF13 73) zqI 0 none none (fun _ => 0) (fun _ _ => 0) := by
  refine Prod.ext rfl (Prod.ext rfl (Prod.ext (funext fun a => ?_) rfl))
  show nzcell (zh3 sc) a = (if 73 ≤ a ∧ a < 94 then zmC (zIF13 73) zqI 0 none none (fun _ => 0) (fun _ _ => 0) a else nzcell (zh3 sc) a)
  by_cases y : 73 ≤ a ∧ a < 94
  · rw [if_pos y]
    by_cases y1 : a = 73
    · rw [y1, zq_m]
      show _ = some (Sum.inr (13, zmF (zIF13 73) zqI 0 none none))
      refine congrArg some (congrArg Sum.inr (Prod.ext rfl (funext fun q => ?_)))
      by_cases z : q < 46
      · exact zq_F q z
      · exact (if_neg z).symm
    · rw [zq_ma (by omega) y.2]
      rcases (show a = 74 ∨ a = 75 ∨ a = 76 ∨ a = 77 ∨ a = 78 ∨ a = 79 ∨ a = 80 ∨ a = 81 ∨ a = 82 ∨ a = 83 ∨ a = 84 ∨ a = 85 ∨ a = 86 ∨ a = 87 ∨ a = 88 ∨ a = 89 ∨ a = 90 ∨ a = 91 ∨ a = 92 ∨ a = 93 by omega) with rfl | rfl | rfl | rfl | rfl | rfl | rfl | rfl | rfl | rfl | rfl | rfl | rfl | rfl | rfl | rfl | rfl | rfl | rfl | rfl
      · rfl
      · rfl
      · rfl
      · rfl
      · rfl
      · rfl
      · rfl
      · rfl
      · rfl
      · rfl
      · rfl
      · rfl
      · rfl
      · rfl
      · rfl
      · rfl
      · rfl
      · rfl
      · rfl
      · rfl
  · rw [if_neg y]
def zqS : zrs := ((0, 0, 0, 0, 0, 0), (0, 0, 0), (0, fun _ => 0, fun _ => 0, fun _ => 0), (fun _ => 0, fun _ => 0))
theorem zq_day {t : Nat} (ht : t = 7 ∨ t = 70) : zday (zh3 sc) t (fun _ => 0) (fun _ => 0) := by
  rcases ht with rfl | rfl
  · exact ⟨⟨_, (zq_c 7 (by decide) (by decide)).trans rfl, rfl, rfl⟩, (zq_c 8 (by decide) (by decide)).trans rfl, (zq_c 9 (by decide) (by decide)).trans rfl, fun s _ => ⟨0, by decide, rfl⟩⟩
  · exact ⟨⟨_, (zq_c 70 (by decide) (by decide)).trans rfl, rfl, rfl⟩, (zq_c 71 (by decide) (by decide)).trans rfl, (zq_c 72 (by decide) (by decide)).trans rfl, fun s _ => ⟨0, by decide, rfl⟩⟩
theorem zq_rou : zrou (zh3 sc) (fun _ => 0) (fun _ _ => 0) (nI 0) := by
  refine ⟨⟨_, (zq_c 10 (by decide) (by decide)).trans rfl, rfl, rfl, rfl, rfl⟩, ⟨_, (zq_c 11 (by decide) (by decide)).trans rfl, fun i hi => by rcases (show i = 0 ∨ i = 1 ∨ i = 2 by omega) with rfl | rfl | rfl <;> rfl⟩, ⟨_, (zq_c 15 (by decide) (by decide)).trans rfl, fun i _ => ⟨rfl, Nat.zero_le _⟩⟩, fun i hi => ⟨fun _ => 0, ?_, fun k hk => absurd hk (Nat.not_lt_zero _)⟩, ⟨_, (zq_c 16 (by decide) (by decide)).trans rfl⟩⟩
  rcases (show i = 0 ∨ i = 1 ∨ i = 2 by omega) with rfl | rfl | rfl
  · exact (zq_c 12 (by decide) (by decide)).trans rfl
  · exact (zq_c 13 (by decide) (by decide)).trans rfl
  · exact (zq_c 14 (by decide) (by decide)).trans rfl
theorem zq_ord : zord (zh3 sc) (fun _ _ => 0) (fun _ _ => 0) (fun _ => 0) 0 := by
  refine ⟨⟨_, (zq_c 17 (by decide) (by decide)).trans rfl, rfl, rfl, rfl, rfl⟩, ⟨_, (zq_c 18 (by decide) (by decide)).trans rfl, fun i hi => by rcases (show i = 0 ∨ i = 1 ∨ i = 2 by omega) with rfl | rfl | rfl <;> rfl⟩, ⟨_, (zq_c 22 (by decide) (by decide)).trans rfl, fun i hi => by rcases (show i = 0 ∨ i = 1 ∨ i = 2 by omega) with rfl | rfl | rfl <;> rfl⟩, fun i hi => ?_, fun i hi => ?_, (zq_c 26 (by decide) (by decide)).trans rfl⟩
  · rcases (show i = 0 ∨ i = 1 ∨ i = 2 by omega) with rfl | rfl | rfl
    · exact (zq_c 19 (by decide) (by decide)).trans rfl
    · exact (zq_c 20 (by decide) (by decide)).trans rfl
    · exact (zq_c 21 (by decide) (by decide)).trans rfl
  · rcases (show i = 0 ∨ i = 1 ∨ i = 2 by omega) with rfl | rfl | rfl
    · exact (zq_c 23 (by decide) (by decide)).trans rfl
    · exact (zq_c 24 (by decide) (by decide)).trans rfl
    · exact (zq_c 25 (by decide) (by decide)).trans rfl
theorem zq_sha : zsha (zh3 sc) (fun _ => 0, fun _ => 0, fun _ => 0, 0) (nI 0) := ⟨⟨_, (zq_c 27 (by decide) (by decide)).trans rfl, rfl, rfl, rfl, rfl, rfl⟩, ⟨_, (zq_c 28 (by decide) (by decide)).trans rfl, fun i _ => ⟨rfl, (show (0 : Nat) < 64 by decide)⟩⟩, (zq_c 29 (by decide) (by decide)).trans rfl, (zq_c 30 (by decide) (by decide)).trans rfl⟩
theorem zq_men : zmen (zh3 sc) (fun _ _ => 0) (fun _ => 0) (fun _ => 0) (nI 0) := by
  refine ⟨⟨_, (zq_c 31 (by decide) (by decide)).trans rfl, rfl, rfl, rfl, rfl⟩, ⟨_, (zq_c 32 (by decide) (by decide)).trans rfl, fun i hi => by rcases (show i = 0 ∨ i = 1 ∨ i = 2 ∨ i = 3 ∨ i = 4 ∨ i = 5 ∨ i = 6 ∨ i = 7 ∨ i = 8 ∨ i = 9 ∨ i = 10 ∨ i = 11 ∨ i = 12 ∨ i = 13 ∨ i = 14 by omega) with rfl | rfl | rfl | rfl | rfl | rfl | rfl | rfl | rfl | rfl | rfl | rfl | rfl | rfl | rfl <;> rfl⟩, fun i hi => ?_, (zq_c 48 (by decide) (by decide)).trans rfl, (zq_c 49 (by decide) (by decide)).trans rfl⟩
  rcases (show i = 0 ∨ i = 1 ∨ i = 2 ∨ i = 3 ∨ i = 4 ∨ i = 5 ∨ i = 6 ∨ i = 7 ∨ i = 8 ∨ i = 9 ∨ i = 10 ∨ i = 11 ∨ i = 12 ∨ i = 13 ∨ i = 14 by omega) with rfl | rfl | rfl | rfl | rfl | rfl | rfl | rfl | rfl | rfl | rfl | rfl | rfl | rfl | rfl
  · exact (zq_c 33 (by decide) (by decide)).trans rfl
  · exact (zq_c 34 (by decide) (by decide)).trans rfl
  · exact (zq_c 35 (by decide) (by decide)).trans rfl
  · exact (zq_c 36 (by decide) (by decide)).trans rfl
  · exact (zq_c 37 (by decide) (by decide)).trans rfl
  · exact (zq_c 38 (by decide) (by decide)).trans rfl
  · exact (zq_c 39 (by decide) (by decide)).trans rfl
  · exact (zq_c 40 (by decide) (by decide)).trans rfl
  · exact (zq_c 41 (by decide) (by decide)).trans rfl
  · exact (zq_c 42 (by decide) (by decide)).trans rfl
  · exact (zq_c 43 (by decide) (by decide)).trans rfl
  · exact (zq_c 44 (by decide) (by decide)).trans rfl
  · exact (zq_c 45 (by decide) (by decide)).trans rfl
  · exact (zq_c 46 (by decide) (by decide)).trans rfl
  · exact (zq_c 47 (by decide) (by decide)).trans rfl
theorem zq_kno : zkno (zh3 sc) (fun _ => 0, fun _ => 0, 0) (nI 0) := ⟨⟨_, (zq_c 50 (by decide) (by decide)).trans rfl, rfl, rfl, rfl, rfl⟩, (zq_c 51 (by decide) (by decide)).trans rfl, (zq_c 52 (by decide) (by decide)).trans rfl⟩
theorem zq_wis : zwis (zh3 sc) (fun _ => 0) (fun _ => 0) (fun _ => 0) (zqI 37) := ⟨⟨_, (zq_c 53 (by decide) (by decide)).trans rfl, rfl, rfl, rfl, rfl⟩, (zq_c 54 (by decide) (by decide)).trans rfl, (zq_c 55 (by decide) (by decide)).trans rfl, (zq_c 56 (by decide) (by decide)).trans rfl⟩
theorem zq_sig : zsig (zh3 sc) (fun _ => 0) (fun _ _ => 0) := by
  refine ⟨⟨_, (zq_c 57 (by decide) (by decide)).trans rfl, rfl, rfl⟩, ⟨_, (zq_c 58 (by decide) (by decide)).trans rfl, fun i hi => by rcases (show i = 0 ∨ i = 1 ∨ i = 2 ∨ i = 3 ∨ i = 4 ∨ i = 5 by omega) with rfl | rfl | rfl | rfl | rfl | rfl <;> rfl⟩, ⟨_, (zq_c 65 (by decide) (by decide)).trans rfl, fun i _ => ⟨rfl, Nat.zero_le _⟩⟩, fun i hi => ⟨fun _ => 0, ?_, fun k hk => absurd hk (Nat.not_lt_zero _)⟩⟩
  rcases (show i = 0 ∨ i = 1 ∨ i = 2 ∨ i = 3 ∨ i = 4 ∨ i = 5 by omega) with rfl | rfl | rfl | rfl | rfl | rfl
  · exact (zq_c 59 (by decide) (by decide)).trans rfl
  · exact (zq_c 60 (by decide) (by decide)).trans rfl
  · exact (zq_c 61 (by decide) (by decide)).trans rfl
  · exact (zq_c 62 (by decide) (by decide)).trans rfl
  · exact (zq_c 63 (by decide) (by decide)).trans rfl
  · exact (zq_c 64 (by decide) (by decide)).trans rfl
theorem zq_pro : zpro (zh3 sc) 0 (fun _ => 0) (fun _ => 0) (fun _ => 0) := ⟨⟨_, (zq_c 66 (by decide) (by decide)).trans rfl, rfl, rfl, rfl, rfl⟩, by decide, (zq_c 67 (by decide) (by decide)).trans rfl, (zq_c 68 (by decide) (by decide)).trans rfl, (zq_c 69 (by decide) (by decide)).trans rfl⟩
theorem zq_rd : zrd (zh3 sc) 7 (fun _ => 0) 0 0 zqS := ⟨⟨_, (zq_c 1 (by decide) (by decide)).trans rfl, rfl, rfl, rfl, rfl, rfl, rfl, rfl, rfl, rfl⟩, ⟨⟨_, (zq_c 2 (by decide) (by decide)).trans rfl, rfl, rfl, rfl, rfl, rfl, rfl, rfl, rfl, rfl⟩, (zq_c 3 (by decide) (by decide)).trans rfl, by decide, by decide, by decide, by decide⟩, ⟨(zq_c 4 (by decide) (by decide)).trans rfl, (zq_c 5 (by decide) (by decide)).trans rfl, (zq_c 6 (by decide) (by decide)).trans rfl, by decide⟩, zq_day (.inl rfl), .inl rfl⟩
theorem zq_all : zQX (zh3 sc) := ⟨70, 7, 0, fun _ => 0, fun _ => 0, 0, 0, zqS, zIF13 73, zqI, 0, none, none, fun _ => 0, fun _ _ => 0, zq_S, by rw [zh3_1]; decide, ⟨_, zq_0, ⟨rfl, rfl, rfl, rfl, rfl, rfl, rfl, rfl, rfl⟩, rfl, rfl⟩, zq_rd, zq_day (.inr rfl), .inr ⟨rfl, rfl⟩, .inl ⟨rfl, fun _ _ => rfl⟩, fun _ => ⟨0, by decide, rfl⟩, ⟨rfl, rfl, rfl, rfl⟩, ⟨fun _ => 0, fun _ _ => 0, 0, zq_rou, fun i _ => ⟨rfl, Nat.zero_le _, fun k hk => absurd hk (Nat.not_lt_zero _)⟩, rfl, Nat.two_pow_pos _, fun _ _ _ => rfl, fun _ _ => Nat.zero_le _, fun k i _ hi => absurd hi (Nat.not_lt_zero _), fun k k' i i' _ _ hi => absurd hi (Nat.not_lt_zero _)⟩, ⟨fun _ _ => 0, fun _ _ => 0, fun _ => 0, 0, zq_ord, fun k hk hz => absurd (Int32.zero_and) hz⟩, ⟨_, 0, zq_sha, by decide, .inl ⟨rfl, rfl⟩⟩, ⟨_, _, _, 0, zq_men, by decide, rfl, fun x hx => absurd hx (Nat.not_lt_zero _)⟩, ⟨_, 0, zq_kno, by decide, rfl, fun x hx => absurd hx (Nat.not_lt_zero _)⟩, ⟨_, _, _, zq_wis, fun w => absurd rfl w⟩, ⟨fun _ => 0, fun _ _ => 0, zq_sig, fun k _ => ⟨rfl, Nat.zero_le _, fun x hx => absurd hx (Nat.not_lt_zero _)⟩⟩, ⟨0, _, _, _, zq_pro, rfl, fun x hx => absurd hx (Nat.not_lt_zero _)⟩⟩
end NZST
