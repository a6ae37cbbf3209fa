/-! ===== laws of rounding in order; products ===== -/
section LV
variable {a b x V : UInt64}
theorem zv_of (s : Bool) (e : FP.Core.sgn (FP.Core.val64 x) = s) : zv x = FP.Core.signed s (zm x) := by
  unfold zv FP.Core.zval; rw [e]; rfl
theorem zv_abs : (zv x).natAbs = zm x := by
  unfold zv FP.Core.zval; rw [FP.Core.natAbs_signed]; rfl
/-- x is the rounding of w / D units -/
def RND (x : UInt64) (w : Int) (D : Nat) : Prop := ∃ sg A B e e0, FP.Core.val64 x = FP.Core.roundRatio FP.Core.b64 sg A B e ∧ 0 < B ∧ e0 ≤ FP.Core.b64.qmin ∧ e0 ≤ e ∧ FP.Core.signed sg (FP.Core.inUnits A e e0) = w ∧ D = 2 ^ (FP.Core.b64.qmin - e0).toNat * B
theorem RND.pos {w : Int} {D : Nat} (r : RND x w D) : 0 < D := by
  obtain ⟨sg, A, B, e, e0, p1, p2, p3, p4, p5, p6⟩ := r
  rw [p6]; exact Nat.mul_pos (Nat.two_pow_pos _) p2
theorem RND.nn {w : Int} {D : Nat} (r : RND x w D) : FP.Core.val64 x ≠ .nan := by
  obtain ⟨sg, A, B, e, e0, p1, -⟩ := r
  rw [p1]; exact FP.Core.roundRatio_ne_nan _ _ _ _ _
theorem RND.le {w : Int} {D : Nat} (r : RND x w D) (hV : FP.Core.val64 V ≠ .nan) (hle : w.natAbs ≤ zm V * D) : zm x ≤ zm V := by
  obtain ⟨sg, A, B, e, e0, p1, p2, p3, p4, p5, p6⟩ := r
  have := congrArg Int.natAbs p5
  rw [FP.Core.natAbs_signed] at this
  unfold zm
  rw [p1]
  refine FP.Core.zmag_roundRatio_le FP.Core.good_b64 (e0 := e0) p2 (FP.Core.val64_fits V) hV p3 p4 ?_
  rw [this, Nat.mul_assoc, ← p6]
  exact hle
theorem RND.ge {w : Int} {D : Nat} (r : RND x w D) (hge : zm V * D ≤ w.natAbs) : zm V ≤ zm x := by
  obtain ⟨sg, A, B, e, e0, p1, p2, p3, p4, p5, p6⟩ := r
  have := congrArg Int.natAbs p5
  rw [FP.Core.natAbs_signed] at this
  unfold zm
  rw [p1]
  refine FP.Core.zmag_roundRatio_ge FP.Core.good_b64 (e0 := e0) p2 (FP.Core.val64_fits V) p3 p4 ?_
  rw [this, Nat.mul_assoc, ← p6]
  exact hge
theorem RND.fin {w : Int} {D : Nat} (r : RND x w D) (hV : isF V) (hle : w.natAbs ≤ zm V * D) : isF x := by
  have h1 := r.le (isF_nn hV) hle
  have h2 := r.nn
  obtain ⟨s, c, q, e⟩ := isF_v hV
  have h3 : zm V < FP.Core.b64.tails * 2 ^ (FP.Core.b64.exps - 2) := by
    unfold zm; rw [e]
    have hf := FP.Core.val64_fits V
    rw [e] at hf
    exact FP.Core.zmag_lt_top FP.Core.good_b64 hf
  cases ex : FP.Core.val64 x with
  | nan => exact absurd ex h2
  | inf t =>
    unfold zm at h1 h3
    rw [ex] at h1
    have h4 : FP.Core.zmag FP.Core.b64 (.inf t) = FP.Core.b64.tails * 2 ^ (FP.Core.b64.exps - 2) := rfl
    rw [h4] at h1
    exact absurd (Nat.lt_of_le_of_lt h1 h3) (Nat.lt_irrefl _)
  | fin s c q => exact ⟨s, c, q, ex⟩
/-- rounding keeps the side of 0 -/
theorem RND.sgn {w : Int} {D : Nat} (r : RND x w D) : (0 ≤ w ∧ zv x = zm x) ∨ (w ≤ 0 ∧ zv x = -(zm x : Int)) := by
  obtain ⟨sg, A, B, e, e0, p1, p2, p3, p4, p5, p6⟩ := r
  have h := zv_of (x := x) sg (by rw [p1]; exact FP.Core.sgn_roundRatio _ _ _ _ _)
  unfold FP.Core.signed at h p5
  cases sg with
  | false =>
    left
    simp at h p5
    exact ⟨by omega, h⟩
  | true =>
    right
    simp at h p5
    exact ⟨by omega, h⟩
theorem abs_D {z : Int} {D : Nat} : (z * (D : Int)).natAbs = z.natAbs * D := by rw [Int.natAbs_mul]; rfl
/-- what bounds the exact number from above bounds the rounded one -/
theorem RND.up {w : Int} {D : Nat} (r : RND x w D) (hV : FP.Core.val64 V ≠ .nan) (hle : w ≤ zv V * D) : zv x ≤ zv V := by
  have hD := r.pos
  have ha := zv_abs (x := V)
  rcases r.sgn with ⟨s1, s2⟩ | ⟨s1, s2⟩
  · have n0 : 0 ≤ zv V * (D : Int) := Int.le_trans s1 hle
    have v0 : 0 ≤ zv V := by
      rcases Int.lt_or_le (zv V) 0 with z | z
      · have := Int.mul_neg_of_neg_of_pos z (show (0 : Int) < D by omega); omega
      · exact z
    have k := r.le hV (by rw [← ha, ← abs_D]; omega)
    rw [s2]; omega
  · rcases Int.lt_or_le (zv V) 0 with z | z
    · have n0 := Int.mul_neg_of_neg_of_pos z (show (0 : Int) < D by omega)
      have k := r.ge (V := V) (by rw [← ha, ← abs_D]; omega)
      rw [s2]; omega
    · rw [s2]; omega
theorem RND.dn {w : Int} {D : Nat} (r : RND x w D) (hV : FP.Core.val64 V ≠ .nan) (hge : zv V * D ≤ w) : zv V ≤ zv x := by
  have hD := r.pos
  have ha := zv_abs (x := V)
  rcases r.sgn with ⟨s1, s2⟩ | ⟨s1, s2⟩
  · rcases Int.lt_or_le (zv V) 0 with z | z
    · rw [s2]; omega
    · have n0 := Int.mul_nonneg z (show (0 : Int) ≤ D by omega)
      have k := r.ge (V := V) (by rw [← ha, ← abs_D]; omega)
      rw [s2]; omega
  · have n0 : zv V * (D : Int) ≤ 0 := Int.le_trans hge s1
    have v0 : zv V ≤ 0 := by
      rcases Int.lt_or_le 0 (zv V) with z | z
      · have := Int.mul_pos z (show (0 : Int) < D by omega); omega
      · exact z
    have k := r.le hV (by rw [← ha, ← abs_D]; omega)
    rw [s2]; omega
theorem rnd_add (fa : isF a) (fb : isF b) : RND (FP.dadd a b) (zv a + zv b) 1 := by
  obtain ⟨sg, v, e, p1, p2, p3⟩ := add_dat fa fb
  exact ⟨sg, v, 1, e, FP.Core.b64.qmin, p1, by decide, Int.le_refl _, p2, p3, by rw [Int.sub_self]; rfl⟩
theorem rnd_sub (fa : isF a) (fb : isF b) : RND (FP.dsub a b) (zv a - zv b) 1 := by
  obtain ⟨sg, v, e, p1, p2, p3⟩ := sub_dat fa fb
  exact ⟨sg, v, 1, e, FP.Core.b64.qmin, p1, by decide, Int.le_refl _, p2, p3, by rw [Int.sub_self]; rfl⟩
theorem rnd_mul (fa : isF a) (fb : isF b) : RND (FP.dmul a b) (zv a * zv b) (2 ^ 1074) := by
  obtain ⟨s, c, q, ea⟩ := isF_v fa
  obtain ⟨t, d, r, eb⟩ := isF_v fb
  have ha := FP.Core.val64_fits a
  have hb := FP.Core.val64_fits b
  rw [ea] at ha
  rw [eb] at hb
  have h1 := ha.2.1
  have h2 := hb.2.1
  refine ⟨s != t, c * d, 1, q + r, FP.Core.b64.qmin + FP.Core.b64.qmin, ?_, by decide, by decide, by omega, ?_, ?_⟩
  · rw [FP.Core.val64_dmul, ea, eb]; rfl
  · unfold zv FP.Core.zval
    rw [ea, eb]
    show FP.Core.signed (s != t) (FP.Core.inUnits (c * d) (q + r) (FP.Core.b64.qmin + FP.Core.b64.qmin)) = FP.Core.signed s (FP.Core.inUnits c q FP.Core.b64.qmin) * FP.Core.signed t (FP.Core.inUnits d r FP.Core.b64.qmin)
    rw [← FP.Core.signed_xor]
    unfold FP.Core.inUnits
    rw [show (q + r - (FP.Core.b64.qmin + FP.Core.b64.qmin)).toNat = (q - FP.Core.b64.qmin).toNat + (r - FP.Core.b64.qmin).toNat by omega, Nat.pow_add]
    congr 1
    ac_rfl
  · have k : (FP.Core.b64.qmin - (FP.Core.b64.qmin + FP.Core.b64.qmin)).toNat = 1074 := by decide
    rw [k, Nat.mul_one]
theorem rnd_div (fa : isF a) (fb : isF b) (hb0 : 0 < zv b) : RND (FP.ddiv a b) (zv a * (2 ^ 1074 : Nat)) (zm b) := by
  obtain ⟨s, c, q, ea⟩ := isF_v fa
  obtain ⟨t, d, r, eb⟩ := isF_v fb
  have ha := FP.Core.val64_fits a
  have hb := FP.Core.val64_fits b
  rw [ea] at ha
  rw [eb] at hb
  have h1 := ha.2.1
  have h2 := hb.2.1
  have hq : FP.Core.b64.qmin = -1074 := by decide
  have zb : zm b = d * 2 ^ (r - FP.Core.b64.qmin).toNat := by unfold zm; rw [eb]; rfl
  have t0 : t = false ∧ d ≠ 0 := by
    unfold zv FP.Core.zval at hb0
    rw [eb] at hb0
    cases t with
    | true =>
      exfalso
      simp [FP.Core.sgn, FP.Core.signed] at hb0
      omega
    | false =>
      refine ⟨rfl, fun z => ?_⟩
      subst z
      simp [FP.Core.sgn, FP.Core.signed, FP.Core.zmag, FP.Core.inUnits] at hb0
  obtain ⟨rfl, d0⟩ := t0
  refine ⟨s, c, d, q - r, FP.Core.b64.qmin + FP.Core.b64.qmin - r, ?_, Nat.pos_of_ne_zero d0, by omega, by omega, ?_, ?_⟩
  · rw [FP.Core.val64_ddiv, ea, eb]
    show (if d = 0 then (if c = 0 then FP.Core.Datum.nan else .inf (s != false)) else FP.Core.roundRatio FP.Core.b64 (s != false) c d (q - r)) = _
    rw [if_neg d0]
    cases s <;> rfl
  · unfold zv FP.Core.zval
    rw [ea]
    show FP.Core.signed s (FP.Core.inUnits c (q - r) (FP.Core.b64.qmin + FP.Core.b64.qmin - r)) = FP.Core.signed s (FP.Core.inUnits c q FP.Core.b64.qmin) * ((2 ^ 1074 : Nat) : Int)
    rw [← FP.Core.signed_mul]
    unfold FP.Core.inUnits
    rw [show (q - r - (FP.Core.b64.qmin + FP.Core.b64.qmin - r)).toNat = (q - FP.Core.b64.qmin).toNat + 1074 by omega, Nat.pow_add, Nat.mul_assoc]
  · rw [zb, show (FP.Core.b64.qmin - (FP.Core.b64.qmin + FP.Core.b64.qmin - r)).toNat = (r - FP.Core.b64.qmin).toNat by omega, Nat.mul_comm]
end LV
