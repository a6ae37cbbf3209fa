/-! ===== laws of sums, by units ===== -/
def zm (x : UInt64) : Nat := FP.Core.zmag FP.Core.b64 (FP.Core.val64 x)
def zv (x : UInt64) : Int := FP.Core.zval FP.Core.b64 (FP.Core.val64 x)
section LW
variable {a b V : UInt64}
theorem isF_v (h : isF a) : ∃ s c q, FP.Core.val64 a = .fin s c q := h
theorem add_dat (fa : isF a) (fb : isF b) : ∃ sg v e, FP.Core.val64 (FP.dadd a b) = FP.Core.roundRatio FP.Core.b64 sg v 1 e ∧ FP.Core.b64.qmin ≤ e ∧ FP.Core.signed sg (FP.Core.inUnits v e FP.Core.b64.qmin) = zv a + zv b := by
  obtain ⟨s, c, q, ea⟩ := isF_v fa
  obtain ⟨t, d, r, eb⟩ := isF_v fb
  have ha := FP.Core.val64_fits a
  have hb := FP.Core.val64_fits b
  rw [ea] at ha
  rw [eb] at hb
  obtain ⟨sg, v, e, p1, p2, p3⟩ := FP.Core.sum_units ha hb
  refine ⟨sg, v, e, ?_, p2, ?_⟩
  · rw [FP.Core.val64_dadd, ea, eb, p1]; rfl
  · unfold zv; rw [ea, eb]; exact p3
theorem sub_dat (fa : isF a) (fb : isF b) : ∃ sg v e, FP.Core.val64 (FP.dsub a b) = FP.Core.roundRatio FP.Core.b64 sg v 1 e ∧ FP.Core.b64.qmin ≤ e ∧ FP.Core.signed sg (FP.Core.inUnits v e FP.Core.b64.qmin) = zv a - zv b := by
  obtain ⟨s, c, q, ea⟩ := isF_v fa
  obtain ⟨t, d, r, eb⟩ := isF_v fb
  have ha := FP.Core.val64_fits a
  have hb := FP.Core.negate_fits (FP.Core.val64_fits b)
  rw [ea] at ha
  rw [eb] at hb
  obtain ⟨sg, v, e, p1, p2, p3⟩ := FP.Core.sum_units ha hb
  refine ⟨sg, v, e, ?_, p2, ?_⟩
  · rw [FP.Core.val64_dsub, ea, eb]
    show FP.Core.round FP.Core.b64 (FP.Core.exactSum (.fin s c q) (.fin (!t) d r)) = _
    rw [p1]; rfl
  · rw [p3]
    unfold zv; rw [ea, eb]
    unfold FP.Core.zval FP.Core.sgn FP.Core.signed FP.Core.zmag
    cases t <;> simp <;> omega
/-- a rounded number is at most what bounds the exact one -/
theorem rr_le {x : UInt64} {sg : Bool} {v : Nat} {e : Int} {w : Int} (ex : FP.Core.val64 x = FP.Core.roundRatio FP.Core.b64 sg v 1 e) (p2 : FP.Core.b64.qmin ≤ e) (p3 : FP.Core.signed sg (FP.Core.inUnits v e FP.Core.b64.qmin) = w) (hV : FP.Core.val64 V ≠ .nan) (hle : w.natAbs ≤ zm V) : zm x ≤ zm V := by
  unfold zm
  rw [ex]
  refine FP.Core.zmag_roundRatio_le FP.Core.good_b64 (e0 := FP.Core.b64.qmin) (by decide) (FP.Core.val64_fits V) hV (Int.le_refl _) p2 ?_
  have := congrArg Int.natAbs p3
  rw [FP.Core.natAbs_signed] at this
  rw [this, Int.sub_self, Int.toNat_zero, Nat.pow_zero, Nat.mul_one, Nat.mul_one]
  exact hle
theorem rr_ge {x : UInt64} {sg : Bool} {v : Nat} {e : Int} {w : Int} (ex : FP.Core.val64 x = FP.Core.roundRatio FP.Core.b64 sg v 1 e) (p2 : FP.Core.b64.qmin ≤ e) (p3 : FP.Core.signed sg (FP.Core.inUnits v e FP.Core.b64.qmin) = w) (hge : zm V ≤ w.natAbs) : zm V ≤ zm x := by
  unfold zm
  rw [ex]
  refine FP.Core.zmag_roundRatio_ge FP.Core.good_b64 (e0 := FP.Core.b64.qmin) (by decide) (FP.Core.val64_fits V) (Int.le_refl _) p2 ?_
  have := congrArg Int.natAbs p3
  rw [FP.Core.natAbs_signed] at this
  rw [this, Int.sub_self, Int.toNat_zero, Nat.pow_zero, Nat.mul_one, Nat.mul_one]
  exact hge
theorem add_le (fa : isF a) (fb : isF b) (hV : FP.Core.val64 V ≠ .nan) (hle : (zv a + zv b).natAbs ≤ zm V) : zm (FP.dadd a b) ≤ zm V := by
  obtain ⟨sg, v, e, p1, p2, p3⟩ := add_dat fa fb
  exact rr_le p1 p2 p3 hV hle
theorem add_ge (fa : isF a) (fb : isF b) (hge : zm V ≤ (zv a + zv b).natAbs) : zm V ≤ zm (FP.dadd a b) := by
  obtain ⟨sg, v, e, p1, p2, p3⟩ := add_dat fa fb
  exact rr_ge p1 p2 p3 hge
theorem sub_le (fa : isF a) (fb : isF b) (hV : FP.Core.val64 V ≠ .nan) (hle : (zv a - zv b).natAbs ≤ zm V) : zm (FP.dsub a b) ≤ zm V := by
  obtain ⟨sg, v, e, p1, p2, p3⟩ := sub_dat fa fb
  exact rr_le p1 p2 p3 hV hle
theorem sub_ge (fa : isF a) (fb : isF b) (hge : zm V ≤ (zv a - zv b).natAbs) : zm V ≤ zm (FP.dsub a b) := by
  obtain ⟨sg, v, e, p1, p2, p3⟩ := sub_dat fa fb
  exact rr_ge p1 p2 p3 hge
end LW
