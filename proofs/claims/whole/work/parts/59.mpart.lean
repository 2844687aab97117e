/-! the reference's object and a day that is read, as functions of their states -/
section NZPT
variable {d t : Nat} {h : nzH} {F0 : Nat → Value} {I : Nat → Int32} {W : Int64} {td rd : Option Nat} {tp : Nat → Int32} {A : Nat → Nat → Int32}
theorem zmF_up {k : Nat} {v : Value} {I' : Nat → Int32} {W' : Int64} {td' rd' : Option Nat} (e : ∀ q, va_up (zmF F0 I W td rd) k v q = zmF F0 I' W' td' rd' q) : nzput (zmS h F0 I W td rd tp A) 73 13 k v = some (zmS h F0 I' W' td' rd' tp A) := by
  rw [zp_of zmS_o]
  refine congrArg some (Prod.ext rfl (Prod.ext rfl (Prod.ext ?_ rfl)))
  funext a
  show va_up _ 73 _ a = _
  by_cases y : a = 73
  · subst y
    rw [va_up_self]
    show _ = some (Sum.inr (13, zmF F0 I' W' td' rd'))
    exact congrArg some (congrArg Sum.inr (Prod.ext rfl (funext e)))
  · rw [va_up_ne _ _ y]
    show (if 73 ≤ a ∧ a < 94 then zmC F0 I W td rd tp A a else _) = (if 73 ≤ a ∧ a < 94 then zmC F0 I' W' td' rd' tp A a else _)
    simp only [zmC, if_neg y]
theorem zPW (v : Int64) : nzput (zmS h F0 I W td rd tp A) 73 13 16 (.long v) = some (zmS h F0 I v td rd tp A) := zmF_up (fun q => by
  by_cases y : q = 16
  · rw [y, va_up_self]; rfl
  · rw [va_up_ne _ _ y]; simp only [zmF, if_neg y])
theorem zPT (v : Nat) : nzput (zmS h F0 I W td rd tp A) 73 13 3 (.ref v) = some (zmS h F0 I W (some v) rd tp A) := zmF_up (fun q => by
  by_cases y : q = 3
  · rw [y, va_up_self]; rfl
  · rw [va_up_ne _ _ y]; simp only [zmF, if_neg y])
theorem zPR (v : Nat) : nzput (zmS h F0 I W td rd tp A) 73 13 4 (.ref v) = some (zmS h F0 I W td (some v) tp A) := zmF_up (fun q => by
  by_cases y : q = 4
  · rw [y, va_up_self]; rfl
  · rw [va_up_ne _ _ y]; simp only [zmF, if_neg y])
theorem zIW : nzgL (zmS h F0 I W td rd tp A) 73 13 16 = some W := zg_L zmS_o rfl
theorem zIR : nzgR (zmS h F0 I W td (some t) tp A) 73 13 4 = some t := zg_R zmS_o rfl
theorem zIB : nzgR (zmS h F0 I W td rd tp A) 73 13 5 = some 74 := zg_R zmS_o rfl
theorem zAB {i : Nat} (hi : i < 900) : nzaB (zmS h F0 I W td rd tp A) 74 (nI i) = some (tp i) := za_Bn (zmo_S.2.1) hi (by decide)
theorem zWB {i : Nat} (hi : i < 900) (v : Int32) : nzsB (zmS h F0 I W td rd tp A) 74 (nI i) v = some (zmS h F0 I W td rd (upd tp i (vp_nar .byte v)) A) := by
  rw [zs_Bn (zmo_S.2.1) hi (by decide)]
  refine congrArg some (Prod.ext rfl (Prod.ext rfl (Prod.ext ?_ rfl)))
  funext a
  show va_up _ 74 _ a = _
  by_cases y : a = 74
  · subst y
    rw [va_up_self]
    rfl
  · rw [va_up_ne _ _ y]
    show (if 73 ≤ a ∧ a < 94 then zmC F0 I W td rd tp A a else _) = (if 73 ≤ a ∧ a < 94 then zmC F0 I W td rd (upd tp i (vp_nar .byte v)) A a else _)
    simp only [zmC, if_neg y]
end NZPT
def zdF (G0 : Nat → Value) (t : Nat) (J : Nat → Int32) (k : Nat) : Value := if k ≤ 10 then .int (J k) else if k ≤ 36 then .ref (t + (k - 10)) else G0 k
def zdC (G0 : Nat → Value) (t : Nat) (J : Nat → Int32) (B : Nat → Nat → Int32) (Wd : Nat → Int64) (k : Nat) : Option nzE := if k = 10 then some (.inr (12, zdF G0 t J)) else if k = 24 then some (.inl (.boolean, 6, .inl (B 24))) else if k = 25 then some (.inl (.boolean, 3, .inl (B 25))) else if k = 34 then some (.inl (.long, 32, .inr (.inl Wd))) else some (.inl (.int, zml k, .inl (B k)))
/-- a day at t .. t + 26 -/
def zdS (h : nzH) (t : Nat) (G0 : Nat → Value) (J : Nat → Int32) (B : Nat → Nat → Int32) (Wd : Nat → Int64) : nzH := (h.1, h.2.1, fun a => if t ≤ a ∧ a < t + 27 then zdC G0 t J B Wd (a - t + 10) else h.2.2.1 a, h.2.2.2)
section NZPD
variable {d t : Nat} {h : nzH} {F0 G0 : Nat → Value} {I : Nat → Int32} {W : Int64} {td rd : Option Nat} {tp : Nat → Int32} {A : Nat → Nat → Int32} {J : Nat → Int32} {B : Nat → Nat → Int32} {Wd : Nat → Int64}
theorem zdS_at {k : Nat} (h1 : 10 ≤ k) (h2 : k ≤ 36) : nzcell (zdS h t G0 J B Wd) (t + (k - 10)) = zdC G0 t J B Wd k := by
  show (if t ≤ t + (k - 10) ∧ t + (k - 10) < t + 27 then zdC G0 t J B Wd (t + (k - 10) - t + 10) else _) = _
  rw [if_pos (by omega), show t + (k - 10) - t + 10 = k by omega]
theorem zdS_c {a : Nat} (ha : a < t ∨ t + 27 ≤ a) : nzcell (zdS h t G0 J B Wd) a = nzcell h a := if_neg (by omega)
theorem zmd_dS : zmd (zdS h t G0 J B Wd) t J B Wd := by
  refine ⟨⟨zdF G0 t J, zdS_at (k := 10) (by decide) (by decide), fun k hk => if_pos hk, fun k h1 h2 => ?_⟩, fun k h1 h2 h3 h4 h5 => ?_, zdS_at (k := 24) (by decide) (by decide), zdS_at (k := 25) (by decide) (by decide), zdS_at (k := 34) (by decide) (by decide)⟩
  · rw [zdF, if_neg (by omega), if_pos h2]
  · rw [zarr, zdS_at (by omega) h2, zdC, if_neg (by omega), if_neg h3, if_neg h4, if_neg h5]
abbrev zHH (h : nzH) (t : Nat) (F0 G0 : Nat → Value) (td : Option Nat) (tp : Nat → Int32) (A : Nat → Nat → Int32) (I : Nat → Int32) (W : Int64) (J : Nat → Int32) (B : Nat → Nat → Int32) (Wd : Nat → Int64) : nzH := zmS (zdS h t G0 J B Wd) F0 I W td (some t) tp A
theorem zHH_o (ht : 94 ≤ t) : zobj (zHH h t F0 G0 td tp A I W J B Wd) t 12 (zdF G0 t J) := (zmS_c (.inr ht)).trans (zdS_at (k := 10) (by decide) (by decide))
theorem zHH_set (ht : 94 ≤ t) {k : Nat} (h1 : 10 ≤ k) (h2 : k ≤ 36) {e : nzE} {J' : Nat → Int32} {B' : Nat → Nat → Int32} {Wd' : Nat → Int64} (e1 : zdC G0 t J' B' Wd' k = some e) (e2 : ∀ q, 10 ≤ q → q ≤ 36 → q ≠ k → zdC G0 t J' B' Wd' q = zdC G0 t J B Wd q) : nzset (zHH h t F0 G0 td tp A I W J B Wd) (t + (k - 10)) e = zHH h t F0 G0 td tp A I W J' B' Wd' := by
  refine Prod.ext rfl (Prod.ext rfl (Prod.ext ?_ rfl))
  funext a
  show va_up (zHH h t F0 G0 td tp A I W J B Wd).2.2.1 (t + (k - 10)) (some e) a = _
  by_cases y : a = t + (k - 10)
  · subst y
    rw [va_up_self]
    exact ((zmS_c (.inr (by omega))).trans ((zdS_at h1 h2).trans e1)).symm
  · rw [va_up_ne _ _ y]
    show (if 73 ≤ a ∧ a < 94 then zmC F0 I W td (some t) tp A a else (zdS h t G0 J B Wd).2.2.1 a) = (if 73 ≤ a ∧ a < 94 then zmC F0 I W td (some t) tp A a else (zdS h t G0 J' B' Wd').2.2.1 a)
    by_cases x : 73 ≤ a ∧ a < 94
    · rw [if_pos x, if_pos x]
    · rw [if_neg x, if_neg x]
      show (if t ≤ a ∧ a < t + 27 then zdC G0 t J B Wd (a - t + 10) else h.2.2.1 a) = (if t ≤ a ∧ a < t + 27 then zdC G0 t J' B' Wd' (a - t + 10) else h.2.2.1 a)
      by_cases w : t ≤ a ∧ a < t + 27
      · rw [if_pos w, if_pos w, e2 (a - t + 10) (by omega) (by omega) (by omega)]
      · rw [if_neg w, if_neg w]
theorem zDP (ht : 94 ≤ t) {k : Nat} (hk : k ≤ 10) (v : Int32) : nzput (zHH h t F0 G0 td tp A I W J B Wd) t 12 k (.int v) = some (zHH h t F0 G0 td tp A I W (upd J k v) B Wd) := by
  rw [zp_of (zHH_o ht)]
  refine congrArg some (zHH_set ht (k := 10) (by decide) (by decide) ?_ (fun q h1 h2 h3 => ?_))
  · rw [zdC, if_pos rfl]
    refine congrArg some (congrArg Sum.inr (Prod.ext rfl (funext fun q => ?_)))
    show zdF G0 t (upd J k v) q = va_up (zdF G0 t J) k (.int v) q
    by_cases y : q = k
    · rw [y, va_up_self, zdF, if_pos hk, upd_eq]
    · rw [va_up_ne _ _ y, zdF, zdF, upd_ne y]
  · simp only [zdC, if_neg h3]
theorem zDW (ht : 94 ≤ t) {k i : Nat} (h1 : 11 ≤ k) (h2 : k ≤ 36) (h3 : k ≠ 24) (h4 : k ≠ 25) (h5 : k ≠ 34) (hi : i < zml k) (v : Int32) : nzsI (zHH h t F0 G0 td tp A I W J B Wd) (t + (k - 10)) (nI i) v = some (zHH h t F0 G0 td tp A I W J (va_up B k (upd (B k) i v)) Wd) := by
  have := zml_le k h2
  rw [zs_In ((zmd_S (F0 := F0) (I := I) (W := W) (td := td) (rd := some t) (tp := tp) (A := A) (zmd_dS (h := h) (t := t) (G0 := G0) (J := J) (B := B) (Wd := Wd)) ht).2.1 k h1 h2 h3 h4 h5) hi (by omega)]
  refine congrArg some (zHH_set ht (by omega) h2 ?_ (fun q q1 q2 q3 => ?_))
  · rw [zdC, if_neg (by omega), if_neg h3, if_neg h4, if_neg h5, va_up_self]
  · simp only [zdC, va_up_ne _ _ q3, va_up_ne _ _ (show 24 ≠ k from Ne.symm h3), va_up_ne _ _ (show 25 ≠ k from Ne.symm h4)]
theorem zDB {k i n : Nat} (ht : 94 ≤ t) (hk : k = 24 ∧ n = 6 ∨ k = 25 ∧ n = 3) (hi : i < n) (v : Int32) : nzsB (zHH h t F0 G0 td tp A I W J B Wd) (t + (k - 10)) (nI i) v = some (zHH h t F0 G0 td tp A I W J (va_up B k (upd (B k) i (vp_nar .boolean v))) Wd) := by
  have E := zmd_S (F0 := F0) (I := I) (W := W) (td := td) (rd := some t) (tp := tp) (A := A) (zmd_dS (h := h) (t := t) (G0 := G0) (J := J) (B := B) (Wd := Wd)) ht
  rcases hk with ⟨rfl, rfl⟩ | ⟨rfl, rfl⟩
  · rw [show t + (24 - 10) = t + 14 from rfl, zs_On E.2.2.1 hi (by decide)]
    refine congrArg some (zHH_set (k := 24) ht (by decide) (by decide) ?_ (fun q q1 q2 q3 => ?_))
    · rw [zdC, if_neg (by decide), if_pos rfl, va_up_self]
    · simp only [zdC, va_up_ne _ _ q3, va_up_ne _ _ (show 25 ≠ 24 by decide), if_neg q3]
  · rw [show t + (25 - 10) = t + 15 from rfl, zs_On E.2.2.2.1 hi (by decide)]
    refine congrArg some (zHH_set (k := 25) ht (by decide) (by decide) ?_ (fun q q1 q2 q3 => ?_))
    · rw [zdC, if_neg (by decide), if_neg (by decide), if_pos rfl, va_up_self]
    · simp only [zdC, va_up_ne _ _ q3, va_up_ne _ _ (show 24 ≠ 25 by decide), if_neg q3]
theorem zDL {i : Nat} (ht : 94 ≤ t) (hi : i < 32) (v : Int64) : nzsL (zHH h t F0 G0 td tp A I W J B Wd) (t + (34 - 10)) (nI i) v = some (zHH h t F0 G0 td tp A I W J B (vp_updL Wd i v)) := by
  have E := zmd_S (F0 := F0) (I := I) (W := W) (td := td) (rd := some t) (tp := tp) (A := A) (zmd_dS (h := h) (t := t) (G0 := G0) (J := J) (B := B) (Wd := Wd)) ht
  rw [show t + (34 - 10) = t + 24 from rfl, zs_Ln E.2.2.2.2 hi (by decide)]
  refine congrArg some (zHH_set (k := 34) ht (by decide) (by decide) ?_ (fun q q1 q2 q3 => ?_))
  · rw [zdC, if_neg (by decide), if_neg (by decide), if_neg (by decide), if_pos rfl]
  · simp only [zdC, if_neg q3]
end NZPD
