/-! ===== numbers of turbines: readings, bounds ===== -/
theorem isF_nn {x : UInt64} (h : isF x) : FP.Core.val64 x ≠ .nan := fun z => by
  obtain ⟨s, c, q, e⟩ := h
  have := e.symm.trans z
  cases this
theorem isNN_nn {x : UInt64} (h : isNN x) : FP.Core.val64 x ≠ .nan := fun z => by
  obtain ⟨c, q, e | e⟩ := h
  · have := e.symm.trans z; cases this
  · have := e.symm.trans z; cases this
theorem inf_nn : FP.Core.val64 9218868437227405312 ≠ .nan := by decide +kernel
theorem NB_nn {s : Nat} {w p q u e b : UInt64} (nb : NB s w p q u e b) : FP.Core.val64 w ≠ .nan ∧ FP.Core.val64 p ≠ .nan ∧ FP.Core.val64 q ≠ .nan ∧ FP.Core.val64 u ≠ .nan ∧ FP.Core.val64 e ≠ .nan ∧ FP.Core.val64 b ≠ .nan := by
  obtain ⟨⟨a1, -⟩, ⟨a2, -⟩, ⟨a3, -⟩, ⟨a4, -⟩, ⟨a5, -⟩, a6⟩ := nb
  refine ⟨isF_nn a1, isF_nn a2, isF_nn a3, isF_nn a4, isF_nn a5, ?_⟩
  rcases a6 with rfl | a6
  · exact inf_nn
  · exact isNN_nn a6
theorem mg_z {x : UInt64} (h : isF x) : mg x = FP.Core.zmag FP.Core.b64 (FP.Core.val64 x) := by
  obtain ⟨s, c, q, e⟩ := h
  have e2 : FP.Core.val64 x = .fin s c q := e
  unfold mg
  rw [e, e2]
  show c * 2 ^ (q + 1074).toNat = FP.Core.inUnits c q FP.Core.b64.qmin
  unfold FP.Core.inUnits
  rw [FP.Core.qmin_b64, Int.sub_neg]
theorem isF_bits (x : UInt64) : isF x ↔ x.toNat % 2 ^ 63 < 9218868437227405312 := FP.Core.fin_bits x
theorem sz_lN (b : Int64) : b &&& 9223372036854775807 = lN (b.toBitVec.toNat % 2 ^ 63) := bl_lo b 63 (by decide +kernel)
theorem nan_v : FP.Core.val64 ((9221120237041090560 : Int64).toUInt64) = .nan := by decide +kernel
theorem fit_nan {b : Int64} (z : 9218868437227405312 < (b &&& 9223372036854775807)) : fitV 6 b = 9221120237041090560 := by rw [fitV_6, if_pos z]
theorem fit_num {b : Int64} (z : ¬ 9218868437227405312 < (b &&& 9223372036854775807)) : fitV 6 b = b := by rw [fitV_6, if_neg z]
theorem rd_iff (b : Int64) : (dlt (fitV 6 b).toUInt64 13875379345695965184 ∨ dgt (fitV 6 b).toUInt64 4652007308841189376) ↔ (¬ 9218868437227405312 < (b &&& 9223372036854775807) ∧ 4652007308841189376 < (b &&& 9223372036854775807)) := by
  by_cases z : 9218868437227405312 < (b &&& 9223372036854775807)
  · rw [fit_nan z]
    constructor
    · rintro (w | w)
      · exact absurd nan_v (FP.Core.dcmp_some w).1
      · exact absurd nan_v (FP.Core.dcmp_some w).1
    · intro w; exact absurd z w.1
  · have hn := (num64 b).mp z
    rw [fit_num z]
    have n1 : FP.Core.val64 13875379345695965184 ≠ .nan := by decide +kernel
    have n2 : FP.Core.val64 4652007308841189376 ≠ .nan := by decide +kernel
    have k1 : FP.Core.dkey 13875379345695965184 = -4652007308841189376 := by decide +kernel
    have k2 : FP.Core.dkey 4652007308841189376 = 4652007308841189376 := by decide +kernel
    have q1 : dlt b.toUInt64 13875379345695965184 ↔ FP.Core.dkey b.toUInt64 < -4652007308841189376 := by
      have := FP.Core.dcmp_lt_key hn n1
      rw [k1] at this; exact this
    have q2 : dgt b.toUInt64 4652007308841189376 ↔ 4652007308841189376 < FP.Core.dkey b.toUInt64 := by
      have := FP.Core.dcmp_gt_key hn n2
      rw [k2] at this; exact this
    rw [q1, q2]
    have lb := b.toBitVec.isLt
    have dk : FP.Core.dkey b.toUInt64 = if 2 ^ 63 ≤ b.toBitVec.toNat then ((2 ^ 63 : Nat) : Int) - (b.toBitVec.toNat : Int) else (b.toBitVec.toNat : Int) := rfl
    rw [sz_lN] at z ⊢
    rw [show (4652007308841189376 : Int64) = lN 4652007308841189376 from rfl, pk_lLT (by omega) (by omega)]
    rw [dk]
    constructor
    · intro w
      refine ⟨z, ?_⟩
      split at w <;> omega
    · intro w
      split <;> omega
theorem bd_iff (b : Int64) : dge (fitV 6 b).toUInt64 0 ↔ (¬ 9218868437227405312 < (b &&& 9223372036854775807) ∧ ¬ (¬ 0 ≤ b ∧ ¬ (b &&& 9223372036854775807) = 0)) := by
  by_cases z : 9218868437227405312 < (b &&& 9223372036854775807)
  · rw [fit_nan z]
    constructor
    · rintro (w | w)
      · exact absurd nan_v (FP.Core.dcmp_some w).1
      · exact absurd nan_v (FP.Core.dcmp_some w).1
    · intro w; exact absurd z w.1
  · have hn := (num64 b).mp z
    rw [fit_num z]
    have n0 : FP.Core.val64 0 ≠ .nan := by decide +kernel
    have q1 : dge b.toUInt64 0 ↔ 0 ≤ FP.Core.dkey b.toUInt64 := by
      have a1 := FP.Core.dcmp_gt_key hn n0
      have a2 := FP.Core.dcmp_eq_key hn n0
      rw [dk0] at a1 a2
      constructor
      · rintro (w | w)
        · have := a1.mp w; omega
        · have := a2.mp w; omega
      · intro w
        by_cases e : FP.Core.dkey b.toUInt64 = 0
        · exact .inr (a2.mpr e)
        · exact .inl (a1.mpr (by omega))
    rw [q1]
    have lb := b.toBitVec.isLt
    have dk : FP.Core.dkey b.toUInt64 = if 2 ^ 63 ≤ b.toBitVec.toNat then ((2 ^ 63 : Nat) : Int) - (b.toBitVec.toNat : Int) else (b.toBitVec.toNat : Int) := rfl
    have c := i64_cond b
    have e0 : (0 : Int64).toInt = 0 := rfl
    have le : 0 ≤ b ↔ b.toBitVec.toNat < 2 ^ 63 := by
      rw [Int64.le_iff_toInt_le, e0]; omega
    have ez : (b &&& 9223372036854775807) = 0 ↔ b.toBitVec.toNat % 2 ^ 63 = 0 := by
      rw [sz_lN, show (0 : Int64) = lN 0 from rfl, pk_lEQ (by omega) (by omega)]
    rw [le, ez, dk]
    constructor
    · intro w
      refine ⟨z, ?_⟩
      split at w <;> omega
    · intro w
      have w2 := w.2
      split <;> omega
theorem rdOK_fit {b : Int64} (h : ¬ (¬ 9218868437227405312 < (b &&& 9223372036854775807) ∧ 4652007308841189376 < (b &&& 9223372036854775807))) : rdOK (fitV 6 b).toUInt64 := by
  by_cases z : 9218868437227405312 < (b &&& 9223372036854775807)
  · rw [fit_nan z]; exact .inl rfl
  · rw [fit_num z]
    have z2 : ¬ 4652007308841189376 < (b &&& 9223372036854775807) := fun w => h ⟨z, w⟩
    rw [sz_lN, show (4652007308841189376 : Int64) = lN 4652007308841189376 from rfl, pk_lLT (by omega) (by omega)] at z2
    have hf : isF b.toUInt64 := (isF_bits _).mpr (by rw [u64_nat]; omega)
    refine .inr ⟨hf, ?_⟩
    rw [mg_z hf, FP.Core.zmag_bits (isF_nn hf), u64_nat]
    have : FP.Core.unitsOf FP.Core.b64 4652007308841189376 = 1000 * uU := by decide +kernel
    rw [← this, FP.Core.unitsOf_le_iff]
    omega
theorem bdOK {b : Int64} (h : ¬ 9218868437227405312 < (b &&& 9223372036854775807)) (h2 : ¬ (¬ 0 ≤ b ∧ ¬ (b &&& 9223372036854775807) = 0)) : b.toUInt64 = 9218868437227405312 ∨ isNN b.toUInt64 := by
  have hn := (num64 b).mp h
  have nb := (FP.Core.ne_nan b.toUInt64).mp hn
  rw [u64_nat] at nb
  have lb := b.toBitVec.isLt
  have c := i64_cond b
  have e0 : (0 : Int64).toInt = 0 := rfl
  by_cases e : b.toBitVec.toNat % 2 ^ 63 = 9218868437227405312
  · left
    have : b.toBitVec.toNat = 9218868437227405312 := by
      by_cases w : b.toBitVec.toNat < 2 ^ 63
      · omega
      · exfalso
        refine h2 ⟨fun y => ?_, fun y => ?_⟩
        · have := l_le y; omega
        · rw [sz_lN, show (0 : Int64) = lN 0 from rfl, pk_lEQ (by omega) (by omega)] at y; omega
    exact UInt64.toNat_inj.mp (by rw [u64_nat, this]; rfl)
  · right
    have hf : isF b.toUInt64 := (isF_bits _).mpr (by rw [u64_nat]; omega)
    obtain ⟨s, cc, q, ed⟩ := hf
    have sg := FP.Core.sgn_bits hn
    have ed2 : FP.Core.val64 b.toUInt64 = .fin s cc q := ed
    rw [ed2, u64_nat] at sg
    have sg2 : s = decide (2 ^ 63 ≤ b.toBitVec.toNat) := sg
    by_cases w : b.toBitVec.toNat < 2 ^ 63
    · refine ⟨cc, q, .inl ?_⟩
      have : s = false := by rw [sg2]; exact decide_eq_false (by omega)
      rw [ed, this]
    · have w2 : b.toBitVec.toNat % 2 ^ 63 = 0 := by
        apply Classical.byContradiction
        intro y
        refine h2 ⟨fun y2 => ?_, fun y2 => ?_⟩
        · have := l_le y2; omega
        · rw [sz_lN, show (0 : Int64) = lN 0 from rfl, pk_lEQ (by omega) (by omega)] at y2; omega
      have : b.toUInt64 = 9223372036854775808 := UInt64.toNat_inj.mp (by rw [u64_nat]; show _ = 9223372036854775808; omega)
      rw [this]
      exact ⟨0, -1074, .inr (by decide +kernel)⟩
