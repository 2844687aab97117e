/-! the reference: a round gone -/
def zmht (B : Nat → Nat → Int32) (i k : Nat) (x : Int32) : Int32 := B 12 k - (B 29 i * (x - B 27 i)) / 10
/-- a step: (bad, place, minute, arrivals by place in the row) -/
def zmgm (B : Nat → Nat → Int32) (nf : Nat) (r : Nat → Nat) (i : Nat) (s : Int32 × Int32 × Int32 × (Nat → Int32)) : Int32 := s.2.2.1 + zmway B nf s.2.1 (B 18 (r i))
def zmgo (J : Nat → Int32) (B : Nat → Nat → Int32) (nf c k : Nat) (tea : Int32) (r : Nat → Nat) (i : Nat) (s : Int32 × Int32 × Int32 × (Nat → Int32)) : Int32 × Int32 × Int32 × (Nat → Int32) :=
  (if J 1 < zmgm B nf r i s then s.1 ||| (1 <<< (nI (r i) &&& 31)) else if J 0 ≤ zmht B c k (zmgm B nf r i s) then s.1 else s.1 ||| (1 <<< (nI (r i) &&& 31)),
   B 18 (r i),
   zmgm B nf r i s + ((B 20 (r i) + (if B 24 (r i) = 0 then 0 else if B 25 c = 0 then 0 else 5)) + (if (tea >>> (nI (r i) &&& 31)) &&& 1 = 1 then B 21 (r i) else 0)),
   upd s.2.2.2 i (zmgm B nf r i s))
section NZMG
variable {d t : Nat} {h : nzH} {I : Nat → Int32} {W : Int64} {rd : Option Nat} {tp : Nat → Int32} {A : Nat → Nat → Int32} {J : Nat → Int32} {B : Nat → Nat → Int32} {Wd : Nat → Int64}
theorem jX13_go125 (D : zmo h I W (some t) rd tp A) (E : zmd h t J B Wd) (hd : 0 < d) {c q i : Nat} (hc : c < 3) (hq : q < 6) (tea m p : Int32) : nzr d nX13_goes 125 [some (.ref 73), some (.int (nI c)), some (.int tea), some (.int m), some (.int p), some (.int (nI i)), some (.int (nI q))] [] h = nzr d nX13_goes 37 [some (.ref 73), some (.int (nI c)), some (.int tea), some (.int (m + ((B 20 q + (if B 24 q = 0 then 0 else if B 25 c = 0 then 0 else 5)) + (if (tea >>> (nI q &&& 31)) &&& 1 = 1 then B 21 q else 0)))), some (.int (B 18 q)), some (.int (nI (i + 1))), some (.int (nI q))] [] h := by
  have g := zmo_td D
  have a18 := zmd_A E (k := 18) (i := q) (by decide) (by decide) (by decide) (by decide) (by decide) hq
  have a20 := zmd_A E (k := 20) (i := q) (by decide) (by decide) (by decide) (by decide) (by decide) hq
  have a21 := zmd_A E (k := 21) (i := q) (by decide) (by decide) (by decide) (by decide) (by decide) hq
  have a24 : nzaB h (t + (24 - 10)) (nI q) = some (B 24 q) := za_On E.2.2.1 hq (by decide)
  have a25 : nzaB h (t + (25 - 10)) (nI c) = some (B 25 c) := za_On E.2.2.2.1 hc (by decide)
  simp only [eX13_goes_125, eX13_goes_165, eX13_goes_166, eX13_goes_190, g.2, Option.bind_some, zmd_R E (k := 18) (by decide) (by decide), zmd_R E (k := 20) (by decide) (by decide), zmd_R E (k := 21) (by decide) (by decide), zmd_R E (k := 24) (by decide) (by decide), zmd_R E (k := 25) (by decide) (by decide), a18, a20, a21, a24, a25, jX13_has hd, nI_1]
  by_cases z1 : B 24 q = 0 <;> by_cases z2 : B 25 c = 0 <;> by_cases z3 : (tea >>> (nI q &&& 31)) &&& 1 = 1 <;> simp only [z1, z2, z3, if_true, if_false, show ¬ (1 : Int32) = 0 by decide]
end NZMG
