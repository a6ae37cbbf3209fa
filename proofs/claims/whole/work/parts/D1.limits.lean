/-! ===== run: limits, both sides ===== -/
def lsD (a b : UInt64) : UInt64 := if FP.dcmp a b = some .lt then a else if FP.dcmp b a = some .lt then b else if 2 ^ 63 ≤ a.toNat then a else b
def grD (a b : UInt64) : UInt64 := if FP.dcmp a b = some .gt then a else if FP.dcmp b a = some .gt then b else if 2 ^ 63 ≤ a.toNat then b else a
def wiD (l x : UInt64) : UInt64 := if FP.dcmp x l = some .gt then l else if FP.dcmp x (FP.dneg l) = some .lt then FP.dneg l else x
section LM
variable {n : Nat} {ad sa : Nat → Nat} {z0 : Nat} {h : mH} {Q : mQ} {d : Nat} {a b l x : UInt64}
theorem c_within (fx : FX n ad sa z0 h) (hQ : Q (some (.double (wiD l x))) h) : EV (d + 1) 138 [.double l, .double x] h Q := by
  unfold wiD at hQ
  refine w_wi (d := d) fx (fun c1 c2 => ?_) (fun c1 c2 => ?_) (fun c1 => ?_)
  · unfold dgt at c1; unfold dlt at c2; rw [if_neg c1, if_neg c2] at hQ; exact hQ
  · unfold dgt at c1; unfold dlt at c2; rw [if_neg c1, if_pos c2] at hQ; exact hQ
  · unfold dgt at c1; rw [if_pos c1] at hQ; exact hQ
theorem c_lesser (fx : FX n ad sa z0 h) (ha : FP.Core.val64 a ≠ .nan) (hQ : Q (some (.double (lsD a b))) h) : EV (d + 2) 241 [.double a, .double b] h Q := by
  unfold lsD at hQ
  refine w_le (d := d + 1) fx (fun c1 c2 => c_isMinus (d := d) fx ha _ (fun m => ?_) (fun m => ?_)) (fun c1 c2 => ?_) (fun c1 => ?_)
  · unfold dlt at c1 c2; rw [if_neg c1, if_neg c2, if_pos m] at hQ; exact w_le_1 fx hQ
  · unfold dlt at c1 c2; rw [if_neg c1, if_neg c2, if_neg m] at hQ; exact w_le_0 fx hQ
  · unfold dlt at c1 c2; rw [if_neg c1, if_pos c2] at hQ; exact hQ
  · unfold dlt at c1; rw [if_pos c1] at hQ; exact hQ
theorem c_greater (fx : FX n ad sa z0 h) (ha : FP.Core.val64 a ≠ .nan) (hQ : Q (some (.double (grD a b))) h) : EV (d + 2) 242 [.double a, .double b] h Q := by
  unfold grD at hQ
  refine w_gr (d := d + 1) fx (fun c1 c2 => c_isMinus (d := d) fx ha _ (fun m => ?_) (fun m => ?_)) (fun c1 c2 => ?_) (fun c1 => ?_)
  · unfold dgt at c1 c2; rw [if_neg c1, if_neg c2, if_pos m] at hQ; exact w_gr_1 fx hQ
  · unfold dgt at c1 c2; rw [if_neg c1, if_neg c2, if_neg m] at hQ; exact w_gr_0 fx hQ
  · unfold dgt at c1 c2; rw [if_neg c1, if_pos c2] at hQ; exact hQ
  · unfold dgt at c1; rw [if_pos c1] at hQ; exact hQ
/-- the reference's two limits are the class's one -/
theorem lim_eq (hl : FP.Core.val64 l ≠ .nan) (hm : FP.Core.val64 (FP.dneg l) ≠ .nan) (hx : FP.Core.val64 x ≠ .nan) (p0 : l.toNat < 2 ^ 63) (p1 : 2 ^ 63 ≤ (FP.dneg l).toNat) (kk : FP.Core.dkey (FP.dneg l) < FP.Core.dkey l) : grD (FP.dneg l) (lsD l x) = wiD l x := by
  have a1 : FP.dcmp l x = some .lt ↔ FP.Core.dkey l < FP.Core.dkey x := dl_k hl hx
  have a2 : FP.dcmp x l = some .lt ↔ FP.Core.dkey x < FP.Core.dkey l := dl_k hx hl
  have a3 : FP.dcmp x l = some .gt ↔ FP.Core.dkey l < FP.Core.dkey x := dg_k hx hl
  have a4 : FP.dcmp x (FP.dneg l) = some .lt ↔ FP.Core.dkey x < FP.Core.dkey (FP.dneg l) := dl_k hx hm
  have a5 : FP.dcmp (FP.dneg l) l = some .gt ↔ FP.Core.dkey l < FP.Core.dkey (FP.dneg l) := dg_k hm hl
  have a6 : FP.dcmp l (FP.dneg l) = some .gt ↔ FP.Core.dkey (FP.dneg l) < FP.Core.dkey l := dg_k hl hm
  have a7 : FP.dcmp (FP.dneg l) x = some .gt ↔ FP.Core.dkey x < FP.Core.dkey (FP.dneg l) := dg_k hm hx
  have a8 : FP.dcmp x (FP.dneg l) = some .gt ↔ FP.Core.dkey (FP.dneg l) < FP.Core.dkey x := dg_k hx hm
  by_cases c : FP.Core.dkey l < FP.Core.dkey x
  · have e1 : lsD l x = l := if_pos (a1.mpr c)
    have e2 : wiD l x = l := if_pos (a3.mpr c)
    rw [e1, e2]
    unfold grD
    rw [if_neg (fun z => by have := a5.mp z; omega), if_pos (a6.mpr kk)]
  · have e1 : lsD l x = x := by
      unfold lsD
      rw [if_neg (fun z => c (a1.mp z))]
      split
      · rfl
      · rw [if_neg (by omega)]
    rw [e1]
    unfold wiD grD
    rw [if_neg (fun z => c (a3.mp z))]
    by_cases c2 : FP.Core.dkey x < FP.Core.dkey (FP.dneg l)
    · rw [if_pos (a7.mpr c2), if_pos (a4.mpr c2)]
    · rw [if_neg (fun z => c2 (a7.mp z)), if_neg (fun z => c2 (a4.mp z)), if_pos p1]
      split <;> rfl
theorem lim_12 (hx : FP.Core.val64 x ≠ .nan) : grD (FP.dneg 4622945017495814144) (lsD 4622945017495814144 x) = wiD 4622945017495814144 x := lim_eq (by decide +kernel) (by decide +kernel) hx (by decide) (by decide +kernel) (by decide +kernel)
theorem lim_6 (hx : FP.Core.val64 x ≠ .nan) : grD (FP.dneg 4618441417868443648) (lsD 4618441417868443648 x) = wiD 4618441417868443648 x := lim_eq (by decide +kernel) (by decide +kernel) hx (by decide) (by decide +kernel) (by decide +kernel)
theorem lim_h (hx : FP.Core.val64 x ≠ .nan) : grD (FP.dneg 4602678819172646912) (lsD 4602678819172646912 x) = wiD 4602678819172646912 x := lim_eq (by decide +kernel) (by decide +kernel) hx (by decide) (by decide +kernel) (by decide +kernel)
/-- not below 0 -/
theorem gr_z (hx : FP.Core.val64 x ≠ .nan) : grD 0 x = if FP.dcmp x 0 = some .gt then x else 0 := by
  have z := z_nn
  have a1 : FP.dcmp 0 x = some .gt ↔ FP.Core.dkey x < FP.Core.dkey 0 := dg_k z hx
  have a2 : FP.dcmp x 0 = some .gt ↔ FP.Core.dkey 0 < FP.Core.dkey x := dg_k hx z
  unfold grD
  by_cases c : FP.Core.dkey x < FP.Core.dkey 0
  · rw [if_pos (a1.mpr c), if_neg (fun q => by have := a2.mp q; omega)]
  · rw [if_neg (fun q => c (a1.mp q)), if_neg (show ¬ 2 ^ 63 ≤ (0 : UInt64).toNat by decide)]
/-- at most 90 -/
theorem ls_90 (hx : FP.Core.val64 x ≠ .nan) : lsD 4636033603912859648 x = if FP.dcmp x 4636033603912859648 = some .gt then 4636033603912859648 else x := by
  have z : FP.Core.val64 4636033603912859648 ≠ .nan := by decide +kernel
  have a1 : FP.dcmp 4636033603912859648 x = some .lt ↔ FP.Core.dkey 4636033603912859648 < FP.Core.dkey x := dl_k z hx
  have a2 : FP.dcmp x 4636033603912859648 = some .gt ↔ FP.Core.dkey 4636033603912859648 < FP.Core.dkey x := dg_k hx z
  unfold lsD
  by_cases c : FP.Core.dkey 4636033603912859648 < FP.Core.dkey x
  · rw [if_pos (a1.mpr c), if_pos (a2.mpr c)]
  · rw [if_neg (fun q => c (a1.mp q)), if_neg (fun q => c (a2.mp q)), if_neg (show ¬ 2 ^ 63 ≤ (4636033603912859648 : UInt64).toNat by decide)]
    split <;> rfl
end LM
