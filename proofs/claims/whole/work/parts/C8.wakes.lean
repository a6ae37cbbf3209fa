/-! ===== run: the wakes, pure ===== -/
def absI (c : Int32) : Int32 := if 0 ≤ c then c else 0 - c
abbrev wkC (su p c : Int32) : Prop := su = 2 ∧ ¬ p ≤ 0 ∧ ¬ (3 + (p / 4)) < absI c
/-- the sum of the wakes of the first i in order -/
def wkS (L C st : Nat → Int32) (o : Nat → Nat) (t : Nat) : Nat → UInt64
  | 0 => 0
  | i + 1 => if wkC (st (o i)) (L t - L (o i)) (C t - C (o i)) then FP.dadd (wkS L C st o t i) (wkW (L t - L (o i))) else wkS L C st o t i
theorem wkS_s {L C st : Nat → Int32} {o : Nat → Nat} {t i : Nat} : wkS L C st o t (i + 1) = if wkC (st (o i)) (L t - L (o i)) (C t - C (o i)) then FP.dadd (wkS L C st o t i) (wkW (L t - L (o i))) else wkS L C st o t i := rfl
section WK
variable {x y : UInt64}
theorem finB_F (h : finB x = true) : isF x := (isF_bits x).mpr (by unfold finB at h; exact of_decide_eq_true h)
theorem wk_ok {m : Nat} (h1 : 1 ≤ m) (h2 : m ≤ 400) : isF (FP.dmul (FP.i2d (nI m)) 4591870180066957722) ∧ isF (wkE (nI m)) ∧ isF (FP.dmul (wkE (nI m)) (wkE (nI m))) ∧ isF (wkO (nI m)) ∧ 2 ^ 52 * 900 ≤ (wkW (nI m)).toNat ∧ (wkW (nI m)).toNat ≤ 4600000000000000000 := by
  have k := List.all_eq_true.mp wk_tab (m - 1) (List.mem_range.mpr (by omega))
  rw [show m - 1 + 1 = m by omega] at k
  unfold wkB at k
  simp only [Bool.and_eq_true, decide_eq_true_eq] at k
  exact ⟨finB_F k.1.1.1.1.1, finB_F k.1.1.1.1.2, finB_F k.1.1.1.2, finB_F k.1.1.2, k.1.2, k.2⟩
theorem pos_zv (h : x.toNat < 2 ^ 63) (hx : FP.Core.val64 x ≠ .nan) : zv x = FP.Core.unitsOf FP.Core.b64 x.toNat := by
  have e : FP.Core.sgn (FP.Core.val64 x) = false := by rw [FP.Core.sgn_bits hx]; exact decide_eq_false (by omega)
  have z := FP.Core.zmag_bits hx
  rw [Nat.mod_eq_of_lt h] at z
  rw [zv_of false e]
  show ((zm x : Nat) : Int) = _
  unfold zm
  rw [z]
theorem zv_pos (hx : FP.Core.val64 x ≠ .nan) (h : 0 < zv x) : x.toNat < 2 ^ 63 := by
  rcases Nat.lt_or_ge x.toNat (2 ^ 63) with q | q
  · exact q
  · have e : FP.Core.sgn (FP.Core.val64 x) = true := by rw [FP.Core.sgn_bits hx]; exact decide_eq_true q
    rw [zv_of true e] at h
    simp [FP.Core.signed] at h
    omega
theorem bits_le (hx : FP.Core.val64 x ≠ .nan) (hy : FP.Core.val64 y ≠ .nan) (px : x.toNat < 2 ^ 63) (py : y.toNat < 2 ^ 63) : zv x ≤ zv y ↔ x.toNat ≤ y.toNat := by
  rw [pos_zv px hx, pos_zv py hy]
  have := FP.Core.unitsOf_le_iff (f := FP.Core.b64) (m := x.toNat) (k := y.toNat)
  omega
/-- i halves -/
def vB (i : Nat) : UInt64 := match i with
  | 0 => 0
  | 1 => 4602678819172646912
  | 2 => 4607182418800017408
  | 3 => 4609434218613702656
  | 4 => 4611686018427387904
  | 5 => 4612811918334230528
  | _ => 4613937818241073152
theorem vB_ok : ((List.range 7).all fun i => finB (vB i) && decide (zm (vB i) = i * 2 ^ 1073) && decide ((vB i).toNat < 2 ^ 63)) = true := by decide +kernel
theorem vB_zv {i : Nat} (hi : i ≤ 6) : isF (vB i) ∧ zv (vB i) = ((i * 2 ^ 1073 : Nat) : Int) := by
  have k := List.all_eq_true.mp vB_ok i (List.mem_range.mpr (by omega))
  simp only [Bool.and_eq_true, decide_eq_true_eq] at k
  have f := finB_F k.1.1
  refine ⟨f, ?_⟩
  have e : FP.Core.sgn (FP.Core.val64 (vB i)) = false := by rw [FP.Core.sgn_bits (isF_nn f)]; exact decide_eq_false (by have := k.2; omega)
  rw [zv_of false e, k.1.2]
  rfl
theorem wkW_zv {m : Nat} (h1 : 1 ≤ m) (h2 : m ≤ 400) : isF (wkW (nI m)) ∧ 0 < zv (wkW (nI m)) ∧ zv (wkW (nI m)) ≤ ((2 ^ 1073 : Nat) : Int) := by
  obtain ⟨-, -, -, -, k1, k2⟩ := wk_ok h1 h2
  have f : isF (wkW (nI m)) := (isF_bits _).mpr (by omega)
  have v1 := (vB_zv (i := 1) (by decide)).2
  have n1 : (vB 1).toNat = 4602678819172646912 := rfl
  have f1 := (vB_zv (i := 1) (by decide)).1
  refine ⟨f, ?_, ?_⟩
  · rw [pos_zv (by omega) (isF_nn f)]
    have := FP.Core.unitsOf_le_iff (f := FP.Core.b64) (m := (wkW (nI m)).toNat) (k := 0)
    have z : FP.Core.unitsOf FP.Core.b64 0 = 0 := rfl
    rw [z] at this
    omega
  · have := (bits_le (isF_nn f) (isF_nn f1) (by omega) (by omega)).mpr (by omega)
    rw [v1] at this
    simpa using this
/-- every sum of wakes is 0 or a number far above the smallest -/
theorem wkS_ok {L C st : Nat → Int32} {o : Nat → Nat} {t : Nat} (hp : ∀ u, ¬ L t - L u ≤ 0 → ∃ m, 1 ≤ m ∧ m ≤ 400 ∧ L t - L u = nI m) : ∀ i, i ≤ 6 → (wkS L C st o t i = 0 ∨ (isF (wkS L C st o t i) ∧ 2 ^ 52 * 900 ≤ (wkS L C st o t i).toNat ∧ (wkS L C st o t i).toNat < 2 ^ 63)) ∧ isF (wkS L C st o t i) ∧ 0 ≤ zv (wkS L C st o t i) ∧ zv (wkS L C st o t i) ≤ ((i * 2 ^ 1073 : Nat) : Int) := by
  intro i
  induction i with
  | zero =>
    intro _
    have f0 : isF (0 : UInt64) := (isF_bits 0).mpr (by decide)
    have z0 : zv (0 : UInt64) = 0 := by
      have k := (vB_zv (i := 0) (by decide)).2
      rw [Nat.zero_mul] at k
      exact k
    refine ⟨.inl rfl, f0, ?_, ?_⟩
    · show 0 ≤ zv 0; omega
    · show zv 0 ≤ _; rw [z0, Nat.zero_mul]; exact Int.le_refl _
  | succ i ih =>
    intro hi
    obtain ⟨a1, a2, a3, a4⟩ := ih (by omega)
    rw [wkS_s]
    have mono : ((i * 2 ^ 1073 : Nat) : Int) ≤ (((i + 1) * 2 ^ 1073 : Nat) : Int) := by
      have : i * 2 ^ 1073 ≤ (i + 1) * 2 ^ 1073 := Nat.mul_le_mul_right _ (by omega)
      omega
    split
    · rename_i c
      obtain ⟨m, m1, m2, em⟩ := hp (o i) c.2.1
      rw [em]
      obtain ⟨w1, w2, w3⟩ := wkW_zv m1 m2
      obtain ⟨-, -, -, -, k1, k2⟩ := wk_ok m1 m2
      have r := rnd_add a2 w1
      have nn := r.nn
      obtain ⟨vf, vz⟩ := vB_zv (i := i + 1) (by omega)
      have sum : zv (wkS L C st o t i) + zv (wkW (nI m)) ≤ (((i + 1) * 2 ^ 1073 : Nat) : Int) := by
        have : (i + 1) * 2 ^ 1073 = i * 2 ^ 1073 + 2 ^ 1073 := Nat.succ_mul _ _
        rw [this]; push_cast; omega
      have up := r.up (V := vB (i + 1)) (isF_nn vf) (by rw [vz]; omega)
      have dn := r.dn (V := wkW (nI m)) (isF_nn w1) (by omega)
      have p1 := zv_pos nn (by omega)
      have fx : isF (FP.dadd (wkS L C st o t i) (wkW (nI m))) := r.fin (V := vB (i + 1)) vf (by
        have e := zv_abs (x := vB (i + 1))
        rw [vz] at e
        omega)
      have bl := (bits_le (isF_nn w1) nn (by omega) p1).mp dn
      refine ⟨.inr ⟨fx, by omega, p1⟩, fx, by omega, ?_⟩
      rw [← vz]; exact up
    · exact ⟨a1, a2, a3, Int.le_trans a4 mono⟩
end WK
