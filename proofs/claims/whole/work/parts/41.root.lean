/-! ===== square roots: rootOf and root by contract ===== -/
theorem sn_of {b : Int64} (h : FP.Core.val64 b.toUInt64 ≠ .nan) : vn_snl2d b = false := by
  have v := nn_vf h
  unfold vf_n64 at v
  unfold vn_snl2d
  have : ¬ (b.toUInt64 &&& 0x7fffffffffffffff > 0x7ff0000000000000) := UInt64.not_lt.mpr v
  simp [this]
theorem shlN {a k : Nat} {D : Int64} (hD : (D.toBitVec.smod 64).toNat = k) : lN a <<< D = lN (a * 2 ^ k) := by
  apply Int64.toBitVec_inj.1
  show BitVec.ofNat 64 a <<< (D.toBitVec.smod 64) = BitVec.ofNat 64 (a * 2 ^ k)
  rw [BitVec.shiftLeft_eq', hD]
  apply BitVec.eq_of_toNat_eq
  rw [BitVec.toNat_shiftLeft, BitVec.toNat_ofNat, BitVec.toNat_ofNat, Nat.shiftLeft_eq]
  first
    | rw [Nat.mod_mul_mod]
    | simp [Nat.mul_mod]
theorem mul_t {x y : Int32} (h1 : -2147483648 ≤ x.toInt * y.toInt) (h2 : x.toInt * y.toInt ≤ 2147483647) : (x * y).toInt = x.toInt * y.toInt := by
  rw [Int32.toInt_mul]; exact Int.bmod_eq_of_le (by omega) (by omega)
theorem i_half (e : Int32) : (0 ≤ e.toInt → (e / 2).toInt = e.toInt / 2) ∧ (e.toInt < 0 → (e / 2).toInt = -((-e.toInt) / 2)) := by
  have h := Int32.toInt_div_of_ne_right e 2 (by decide)
  have e2 : (2 : Int32).toInt = 2 := rfl
  rw [e2] at h
  refine ⟨fun z => ?_, fun z => ?_⟩
  · rw [h, Int.tdiv_eq_ediv_of_nonneg z]
  · rw [h, ← Int.tdiv_eq_ediv_of_nonneg (by omega), Int.neg_tdiv, Int.neg_neg]
theorem i32_cond (y : Int32) : (y.toInt = (y.toBitVec.toNat : Int) ∧ y.toBitVec.toNat < 2 ^ 31) ∨ (y.toInt = (y.toBitVec.toNat : Int) - 4294967296 ∧ 2 ^ 31 ≤ y.toBitVec.toNat) := by
  have h := BitVec.toInt_eq_toNat_cond y.toBitVec
  have e : y.toInt = y.toBitVec.toInt := rfl
  have l := y.toBitVec.isLt
  rw [e, h]
  split
  · exact .inl ⟨rfl, by omega⟩
  · exact .inr ⟨by simp, by omega⟩
def pr (C i : Nat) : Nat := if i < 27 then C / 4 ^ (26 - i) % 4 else 0
def sqS (C : Nat) : Nat → Nat × Nat
  | 0 => (0, 0)
  | i + 1 => if 4 * (sqS C i).2 + pr C i < 4 * (sqS C i).1 + 1 then (2 * (sqS C i).1, 4 * (sqS C i).2 + pr C i) else (2 * (sqS C i).1 + 1, 4 * (sqS C i).2 + pr C i - (4 * (sqS C i).1 + 1))
def pfx (C : Nat) : Nat → Nat
  | 0 => 0
  | i + 1 => 4 * pfx C i + pr C i
theorem pr_lt (C i : Nat) : pr C i < 4 := by
  unfold pr
  split
  · exact Nat.mod_lt _ (by decide)
  · decide
theorem sq_inv (C : Nat) : ∀ i, (sqS C i).1 * (sqS C i).1 + (sqS C i).2 = pfx C i ∧ (sqS C i).2 ≤ 2 * (sqS C i).1 ∧ (sqS C i).1 < 2 ^ i := by
  intro i
  induction i with
  | zero => exact ⟨rfl, by show 0 ≤ 2 * 0; decide, by show 0 < 2 ^ 0; decide⟩
  | succ i ih =>
    obtain ⟨a, b, c⟩ := ih
    have hp := pr_lt C i
    have e1 : sqS C (i + 1) = if 4 * (sqS C i).2 + pr C i < 4 * (sqS C i).1 + 1 then (2 * (sqS C i).1, 4 * (sqS C i).2 + pr C i) else (2 * (sqS C i).1 + 1, 4 * (sqS C i).2 + pr C i - (4 * (sqS C i).1 + 1)) := rfl
    have e2 : pfx C (i + 1) = 4 * pfx C i + pr C i := rfl
    rw [e1, e2]
    generalize (sqS C i).1 = r at *
    generalize (sqS C i).2 = s at *
    generalize pr C i = p at *
    have q1 : 2 * r * (2 * r) = 4 * (r * r) := by rw [Nat.mul_mul_mul_comm]
    have q2 : (2 * r + 1) * (2 * r + 1) = 4 * (r * r) + 4 * r + 1 := by rw [Nat.add_mul, Nat.mul_add, q1]; omega
    rw [Nat.pow_succ]
    split
    · refine ⟨?_, ?_, ?_⟩
      · show 2 * r * (2 * r) + (4 * s + p) = _
        omega
      · show 4 * s + p ≤ 2 * (2 * r)
        omega
      · show 2 * r < _
        omega
    · refine ⟨?_, ?_, ?_⟩
      · show (2 * r + 1) * (2 * r + 1) + (4 * s + p - (4 * r + 1)) = _
        omega
      · show 4 * s + p - (4 * r + 1) ≤ 2 * (2 * r + 1)
        omega
      · show 2 * r + 1 < _
        omega
theorem pfx_lo {C : Nat} (hC : C < 4 ^ 27) : ∀ i, i ≤ 27 → pfx C i = C / 4 ^ (27 - i) := by
  intro i
  induction i with
  | zero => intro _; exact (Nat.div_eq_of_lt hC).symm
  | succ i ih =>
    intro hi
    have e2 : pfx C (i + 1) = 4 * pfx C i + pr C i := rfl
    rw [e2, ih (by omega), show 27 - i = 26 - i + 1 by omega, Nat.pow_succ, ← Nat.div_div_eq_div_mul]
    have e3 : pr C i = C / 4 ^ (26 - i) % 4 := by unfold pr; rw [if_pos (by omega)]
    rw [e3, show 27 - (i + 1) = 26 - i by omega]
    omega
theorem pfx_54 {C : Nat} (hC : C < 2 ^ 54) : pfx C 54 = C * 4 ^ 27 := by
  have h0 : pfx C 27 = C := by rw [pfx_lo (by omega) 27 (by decide), Nat.sub_self, Nat.pow_zero, Nat.div_one]
  have hi : ∀ j, pfx C (27 + j) = C * 4 ^ j := by
    intro j
    induction j with
    | zero => rw [Nat.pow_zero, Nat.mul_one]; exact h0
    | succ j ih =>
      have e2 : pfx C (27 + j + 1) = 4 * pfx C (27 + j) + pr C (27 + j) := rfl
      have e3 : pr C (27 + j) = 0 := by unfold pr; rw [if_neg (by omega)]
      rw [← Nat.add_assoc, e2, e3, ih, Nat.pow_succ, Nat.add_zero]
      ac_rfl
  exact hi 27
theorem sq54 {C : Nat} (h1 : 2 ^ 52 ≤ C) (hC : C < 2 ^ 54) : 2 ^ 53 ≤ (sqS C 54).1 ∧ (sqS C 54).1 < 2 ^ 54 := by
  obtain ⟨a, b, c⟩ := sq_inv C 54
  refine ⟨?_, c⟩
  rw [pfx_54 hC] at a
  generalize (sqS C 54).1 = r at *
  generalize (sqS C 54).2 = s at *
  apply Nat.le_of_not_lt
  intro z
  have : r * r ≤ (2 ^ 53 - 1) * (2 ^ 53 - 1) := Nat.mul_le_mul (by omega) (by omega)
  omega
theorem sq_step (C i : Nat) : sqS C (i + 1) = if 4 * (sqS C i).2 + pr C i < 4 * (sqS C i).1 + 1 then (2 * (sqS C i).1, 4 * (sqS C i).2 + pr C i) else (2 * (sqS C i).1 + 1, 4 * (sqS C i).2 + pr C i - (4 * (sqS C i).1 + 1)) := rfl
theorem sq_odd {C : Nat} (hC : C < 2 ^ 54) (ho : (sqS C 54).1 % 2 = 1) : (sqS C 54).2 ≠ 0 := by
  obtain ⟨a, b, c⟩ := sq_inv C 54
  rw [pfx_54 hC] at a
  generalize (sqS C 54).1 = r at *
  generalize (sqS C 54).2 = s at *
  intro z
  rw [z, Nat.add_zero] at a
  have h1 : r * r % 2 = 1 := by rw [Nat.mul_mod, ho]
  have h2 : C * 4 ^ 27 % 2 = 0 := by rw [Nat.mul_mod]; simp
  omega
def rtC (M : Nat) : Nat := if M / 2 ^ 52 % 2 = 1 then M % 2 ^ 52 + 2 ^ 52 else 2 * (M % 2 ^ 52 + 2 ^ 52)
/-- half the exponent -/
def rtX (M : Nat) : Int := (((M / 2 ^ 52 : Nat) : Int) - 1075) / 2
def rtK (M : Nat) : Nat := ((sqS (rtC M) 54).1 + 1) / 2
def rtv (x : UInt64) : UInt64 := if x = 0 then 0 else dv (rtK x.toNat) (rtX x.toNat - 26)
theorem rtC_b (M : Nat) : 2 ^ 52 ≤ rtC M ∧ rtC M < 2 ^ 54 := by unfold rtC; split <;> omega
theorem rtK_b (M : Nat) : 2 ^ 52 ≤ rtK M ∧ rtK M ≤ 2 ^ 53 := by
  have := sq54 (rtC_b M).1 (rtC_b M).2
  unfold rtK; omega
