/-! ===== run, pure: what both sides do ===== -/
/-- states by turbine; numbers by the reference's rows; wear by part; what is traced; findings: how many are kept, their ints, how many came -/
abbrev yS : Type := (Nat → Nat) × (Nat → Nat → UInt64) × (Nat → Int64) × List Int32 × Nat × (Nat → Int32) × Nat
def yA (S : yS) : Nat → Nat := S.1
def yD (S : yS) : Nat → Nat → UInt64 := S.2.1
def yW (S : yS) : Nat → Int64 := S.2.2.1
def yT (S : yS) : List Int32 := S.2.2.2.1
def yK (S : yS) : Nat := S.2.2.2.2.1
def yF (S : yS) : Nat → Int32 := S.2.2.2.2.2.1
def yO (S : yS) : Nat := S.2.2.2.2.2.2
def yuA (S : yS) (t v : Nat) : yS := (u1 S.1 t v, S.2)
def yuD (S : yS) (r t : Nat) (v : UInt64) : yS := (S.1, u2 S.2.1 r t v, S.2.2)
def yuW (S : yS) (kd q : Nat) (l : Int32) : yS := (S.1, S.2.1, (if kd = 4 ∧ q = 0 then S.2.2.1 else u1 S.2.2.1 q (S.2.2.1 q + wrI kd q l)), S.2.2.2.1 ++ wB kd, S.2.2.2.2)
def yFn (F : Nat → Int32) (k t sl f st : Nat) : Nat → Int32 := u1 (u1 (u1 (u1 F (4 * k) (nI t)) (4 * k + 1) (nI sl)) (4 * k + 2) (nI f)) (4 * k + 3) (nI (st + 1))
def yuF (S : yS) (t sl f st : Nat) : yS := (S.1, S.2.1, S.2.2.1, S.2.2.2.1, (if yK S < 40 then yK S + 1 else yK S), (if yK S < 40 then yFn (yF S) (yK S) t sl f st else yF S), yO S + 1)
def yFal (S : yS) (t sl f st : Nat) : yS := yuF (yuD (yuA S t 4) 68 t 0) t sl f st
section YL
variable {S : yS} {r r' t t' v k q kd sl f st : Nat} {x : UInt64} {l : Int32}
theorem yA_A : yA (yuA S t v) t = v := if_pos rfl
theorem yA_n (h : t' ≠ t) : yA (yuA S t v) t' = yA S t' := if_neg h
theorem yD_D : yD (yuD S r t x) r t = x := if_pos ⟨rfl, rfl⟩
theorem yD_r (h : r' ≠ r) : yD (yuD S r t x) r' t' = yD S r' t' := if_neg (fun z => h z.1)
theorem yD_t (h : t' ≠ t) : yD (yuD S r t x) r' t' = yD S r' t' := if_neg (fun z => h z.2)
theorem yD_self : yuD S r t (yD S r t) = S := by
  have e : u2 S.2.1 r t (yD S r t) = S.2.1 := by
    funext a b
    unfold u2 yD
    split
    · rename_i c; rw [c.1, c.2]
    · rfl
  unfold yuD
  rw [e]
theorem yA_D : yA (yuD S r t x) = yA S := rfl
theorem yD_A : yD (yuA S t v) = yD S := rfl
theorem yA_W : yA (yuW S kd q l) = yA S := rfl
theorem yD_W : yD (yuW S kd q l) = yD S := rfl
theorem yA_F : yA (yuF S t sl f st) = yA S := rfl
theorem yD_F : yD (yuF S t sl f st) = yD S := rfl
theorem yW_D : yW (yuD S r t x) = yW S := rfl
theorem yT_D : yT (yuD S r t x) = yT S := rfl
theorem yK_D : yK (yuD S r t x) = yK S := rfl
theorem yF_D : yF (yuD S r t x) = yF S := rfl
theorem yO_D : yO (yuD S r t x) = yO S := rfl
theorem yO_A : yO (yuA S t v) = yO S := rfl
theorem yO_W : yO (yuW S kd q l) = yO S := rfl
theorem yK_A : yK (yuA S t v) = yK S := rfl
theorem yK_W : yK (yuW S kd q l) = yK S := rfl
end YL
section YE
variable (n : Nat) (ad : Nat → Nat) (h : mH) (s0 w : Nat)
/-- lines, places across, the order -/
def eLn (t : Nat) : Int32 := if t < n then lnP (hI h (ad 61) t) (hI h (ad 62) t) w else 0
def eCr (t : Nat) : Int32 := crP (hI h (ad 61) t) (hI h (ad 62) t) w
def eOr : Nat → Nat := srtL (eLn n ad h w) n
def eKd (q : Nat) : Nat := (hI h (ad 37) q).toNatClampNeg
/-- the readings of one step before, of two, ahead of step i -/
def eB (i e : Nat) : Int64 := match i with
  | 0 => hL h (ad 64) e
  | _ + 1 => (hD h (ad 63) e).toInt64
def eE (i e : Nat) : Int64 := match i with
  | 0 => hL h (ad 65) e
  | j + 1 => eB ad h j e
def eFz (i : Nat) : Bool := decide (hI h (ad 30) 62 = 1 ∧ 2 ≤ s0 + i)
def eSp (i t s : Nat) : Bool := decide (¬ hI h (ad 57) (5 * t + s) < 0 ∧ FP.dcmp (hD h (ad 63) (3 * t + s)) (hD h (ad 63) (3 * t + s)) = some .eq ∧ ¬ (eFz ad h s0 i = true ∧ (hD h (ad 63) (3 * t + s)).toInt64 = eB ad h i (3 * t + s) ∧ (hD h (ad 63) (3 * t + s)).toInt64 = eE ad h i (3 * t + s)))
def eVo (i t : Nat) : UInt64 := voV (fun s => decide (s < 3) && eSp ad h s0 i t s) (fun s => hD h (ad 63) (3 * t + s))
def eBl (v : UInt64) : Bool := decide (v = 9221120237041090560)
def eWi (v : UInt64) (k t : Nat) (S : yS) : UInt64 := if eBl v = true then 0 else FP.dmul v (FP.dsub 4607182418800017408 (wkV (wkS (eLn n ad h w) (eCr ad h w) (fun u => nI (yA S u)) (eOr n ad h w) t k)))
/-- wear of what slot sl of turbine t holds: the failure, or 0 -/
def yWe (t sl : Nat) (l : Int32) (S : yS) : Nat × yS :=
  if hI h (ad 57) (5 * t + sl) < 0 then (1, S)
  else ((if eKd ad h (hI h (ad 57) (5 * t + sl)).toNatClampNeg = 4 ∧ (hI h (ad 57) (5 * t + sl)).toNatClampNeg = 0 then 6 else 0), yuW S (eKd ad h (hI h (ad 57) (5 * t + sl)).toNatClampNeg) (hI h (ad 57) (5 * t + sl)).toNatClampNeg l)
/-- a failure at slot sl, or what follows -/
def yEnd (st t sl : Nat) (R : Nat × yS) (G : yS → yS) : yS := if R.1 = 0 then G R.2 else yFal R.2 t sl R.1 st
def y3 (st s t : Nat) (S : yS) : yS := if s = 2 then yEnd st t 4 (yWe ad h t 4 (FP.d2i (yD S 73 t)) S) id else S
def y2 (s t : Nat) (S : yS) : yS :=
  if dgtB (FP.dmul (gG1 s (yD S 68 t) (yD S 69 t)) (gU (yD S 73 t) (yD S 67 t) (gG1 s (yD S 68 t) (yD S 69 t)) (yD S 69 t))) (hD h (ad 71) t) = true
  then yuD (yuD (yuD (yuD S 68 t (gG1 s (yD S 68 t) (yD S 69 t))) 69 t (gU (yD S 73 t) (yD S 67 t) (gG1 s (yD S 68 t) (yD S 69 t)) (yD S 69 t))) 68 t (FP.ddiv (hD h (ad 71) t) (gU (yD S 73 t) (yD S 67 t) (gG1 s (yD S 68 t) (yD S 69 t)) (yD S 69 t)))) 70 t
    (FP.dadd (yD S 70 t) (FP.dmul (FP.ddiv (hD h (ad 71) t) (gU (yD S 73 t) (yD S 67 t) (gG1 s (yD S 68 t) (yD S 69 t)) (yD S 69 t))) (gU (yD S 73 t) (yD S 67 t) (gG1 s (yD S 68 t) (yD S 69 t)) (yD S 69 t))))
  else yuD (yuD (yuD S 68 t (gG1 s (yD S 68 t) (yD S 69 t))) 69 t (gU (yD S 73 t) (yD S 67 t) (gG1 s (yD S 68 t) (yD S 69 t)) (yD S 69 t))) 70 t
    (FP.dadd (yD S 70 t) (FP.dmul (gG1 s (yD S 68 t) (yD S 69 t)) (gU (yD S 73 t) (yD S 67 t) (gG1 s (yD S 68 t) (yD S 69 t)) (yD S 69 t))))
def y1 (st s t : Nat) (S : yS) : yS := if FP.dcmp (gBy s (yD S 67 t) (yD S 69 t)) 0 = some .eq then y3 ad h st s t (y2 ad h s t S)
  else yEnd st t 3 (yWe ad h t 3 (FP.d2i (gAb (gBy s (yD S 67 t) (yD S 69 t)))) S) (fun R => y3 ad h st s t (y2 ad h s t (yuD R 67 t (FP.dadd (yD S 67 t) (gBy s (yD S 67 t) (yD S 69 t))))))
def y0 (st t : Nat) (v x : UInt64) (S : yS) : yS := y1 ad h st (gSt (yA S t) (eBl v) x (yD S 69 t) (hD h (ad 71) t)) t (yuA (yuD (yuD S 72 t v) 73 t x) t (gSt (yA S t) (eBl v) x (yD S 69 t) (hD h (ad 71) t)))
/-- the turbine of rank k in step i -/
def yTur (i k : Nat) (S : yS) : yS := if yA S (eOr n ad h w k) = 4 then yuD S 69 (eOr n ad h w k) (FP.dmul (yD S 69 (eOr n ad h w k)) 4602678819172646912)
  else y0 ad h (s0 + i) (eOr n ad h w k) (eVo ad h s0 i (eOr n ad h w k)) (eWi n ad h w (eVo ad h s0 i (eOr n ad h w k)) k (eOr n ad h w k) S) S
def yRnk (i : Nat) : Nat → yS → yS
  | 0, S => S
  | k + 1, S => yTur n ad h s0 w i k (yRnk i k S)
def yRun : Nat → yS → yS
  | 0, S => S
  | i + 1, S => yRnk n ad h s0 w i n (yRun i S)
/-- the start -/
def yS0 : yS := (fun t => (hI h (ad 66) t).toNatClampNeg, fun r t => hD h (ad r) t, fun q => hL h (ad 38) q, [], (hI h (ad 30) 64).toNatClampNeg, fun i => hI h (ad 74) i, 0)
end YE
