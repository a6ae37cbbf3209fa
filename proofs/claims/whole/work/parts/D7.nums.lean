/-! ===== run: how large the numbers grow ===== -/
/-- finite, at most M -/
def bd (x : UInt64) (M : Nat) : Prop := isF x ∧ zm x ≤ M * uU
def rep (M : Nat) : Prop := ∃ m k, m < 2 ^ 53 ∧ k ≤ 900 ∧ M = m * 2 ^ k
theorem rep_lt {M : Nat} (h : M < 2 ^ 53) : rep M := ⟨M, 0, h, by decide, by rw [Nat.pow_zero, Nat.mul_one]⟩
theorem rep_p {m : Nat} (k : Nat) (h : m < 2 ^ 53) (hk : k ≤ 900) : rep (m * 2 ^ k) := ⟨m, k, h, hk, rfl⟩
theorem rep_V {M : Nat} (h : rep M) : ∃ V, isF V ∧ zm V = M * uU ∧ zv V = ((M * uU : Nat) : Int) := by
  obtain ⟨m, k, h1, h2, rfl⟩ := h
  obtain ⟨c, q, e1, e2, e3⟩ := dv_fin (c := m) (q := (k : Int)) h1 (by omega) (by omega)
  have z : zv (dv m k) = ((m * 2 ^ ((k : Int) + 1074).toNat : Nat) : Int) := zv_dv h1 (by omega) (by omega)
  have e : ((k : Int) + 1074).toNat = k + 1074 := by omega
  rw [e, Nat.pow_add, ← Nat.mul_assoc] at z
  have a := zv_abs (x := dv m k)
  refine ⟨dv m k, ⟨_, _, _, e1⟩, ?_, z⟩
  rw [← a, z]; exact Int.natAbs_natCast _
theorem uU_pos : 0 < uU := Nat.two_pow_pos _
section NU
variable {x y l : UInt64} {A B M D : Nat} {w : Int}
theorem RND.bd (r : RND x w D) (hM : rep M) (h : w.natAbs ≤ M * uU * D) : bd x M := by
  obtain ⟨V, v1, v2, v3⟩ := rep_V hM
  rw [← v2] at h
  exact ⟨r.fin v1 h, by rw [← v2]; exact r.le (isF_nn v1) h⟩
theorem bd.mono (a : bd x A) (h : A ≤ M) : bd x M := ⟨a.1, Nat.le_trans a.2 (Nat.mul_le_mul_right _ h)⟩
theorem bd.add (a : bd x A) (b : bd y B) (hM : rep M) (h : A + B ≤ M) : bd (FP.dadd x y) M := by
  refine (rnd_add a.1 b.1).bd hM ?_
  have e1 := zv_abs (x := x)
  have e2 := zv_abs (x := y)
  have a2 := a.2
  have b2 := b.2
  have k : (A + B) * uU ≤ M * uU := Nat.mul_le_mul_right _ h
  rw [Nat.add_mul] at k
  rw [Nat.mul_one]
  generalize A * uU = a' at *
  generalize B * uU = b' at *
  generalize M * uU = m' at *
  omega
theorem bd.sub (a : bd x A) (b : bd y B) (hM : rep M) (h : A + B ≤ M) : bd (FP.dsub x y) M := by
  refine (rnd_sub a.1 b.1).bd hM ?_
  have e1 := zv_abs (x := x)
  have e2 := zv_abs (x := y)
  have a2 := a.2
  have b2 := b.2
  have k : (A + B) * uU ≤ M * uU := Nat.mul_le_mul_right _ h
  rw [Nat.add_mul] at k
  rw [Nat.mul_one]
  generalize A * uU = a' at *
  generalize B * uU = b' at *
  generalize M * uU = m' at *
  omega
theorem bd.mul (a : bd x A) (b : bd y B) (hM : rep M) (h : A * B ≤ M) : bd (FP.dmul x y) M := by
  refine (rnd_mul a.1 b.1).bd hM ?_
  rw [Int.natAbs_mul, zv_abs, zv_abs]
  have h1 := Nat.mul_le_mul a.2 b.2
  have h2 : A * uU * (B * uU) = A * B * (uU * uU) := Nat.mul_mul_mul_comm A uU B uU
  have h3 : A * B * (uU * uU) ≤ M * (uU * uU) := Nat.mul_le_mul_right _ h
  have h4 : M * uU * 2 ^ 1074 = M * (uU * uU) := Nat.mul_assoc M uU uU
  rw [h4]
  exact Nat.le_trans h1 (by rw [h2]; exact h3)
theorem bd.div (a : bd x A) (hy : isF y) (h0 : 0 < zv y) (hM : rep M) (h : A * uU ≤ M * zm y) : bd (FP.ddiv x y) M := by
  refine (rnd_div a.1 hy h0).bd hM ?_
  rw [abs_D, zv_abs]
  have h1 : zm x * uU ≤ A * uU * uU := Nat.mul_le_mul_right _ a.2
  have h2 : A * uU * uU ≤ M * zm y * uU := Nat.mul_le_mul_right _ h
  have h3 : M * zm y * uU = M * uU * zm y := Nat.mul_right_comm _ _ _
  rw [h3] at h2
  exact Nat.le_trans h1 h2
theorem gt_zv (hx : FP.Core.val64 x ≠ .nan) (hy : FP.Core.val64 y ≠ .nan) : FP.dcmp x y = some .gt ↔ zv y < zv x := by
  rw [FP.Core.dcmp_gt]
  exact ⟨fun q => q.2.2, fun q => ⟨hx, hy, q⟩⟩
theorem lt_zv (hx : FP.Core.val64 x ≠ .nan) (hy : FP.Core.val64 y ≠ .nan) : FP.dcmp x y = some .lt ↔ zv x < zv y := by
  rw [FP.Core.dcmp_lt]
  exact ⟨fun q => q.2.2, fun q => ⟨hx, hy, q⟩⟩
theorem wi_bd (fl : bd l M) (fm : bd (FP.dneg l) M) (hz : zv (FP.dneg l) = - zv l) (hx : isF x) : bd (wiD l x) M := by
  unfold wiD
  split
  · exact fl
  · rename_i c1
    split
    · exact fm
    · rename_i c2
      rw [gt_zv (isF_nn hx) (isF_nn fl.1)] at c1
      rw [lt_zv (isF_nn hx) (isF_nn fm.1)] at c2
      refine ⟨hx, ?_⟩
      have e1 := zv_abs (x := x)
      have e2 := zv_abs (x := l)
      have f2 := fl.2
      generalize M * uU = m' at *
      omega
theorem d2i_bd (h : bd x M) (hM : M ≤ 10000) : -10000 ≤ (FP.d2i x).toInt ∧ (FP.d2i x).toInt ≤ 10000 := by
  have v : (FP.d2i x).toInt = _ := FP.Core.d2i_val (isF_nn h.1)
  have k : FP.Core.zmag FP.Core.b64 (FP.Core.val64 x) / FP.Core.one64 ≤ M := by
    refine Nat.div_le_of_le_mul ?_
    have h2 := h.2
    rw [Nat.mul_comm] at h2
    exact h2
  generalize FP.Core.zmag FP.Core.b64 (FP.Core.val64 x) / FP.Core.one64 = z at *
  unfold FP.Core.signed at v
  split at v
  · rw [Int.min_eq_right (by omega), Int.max_eq_right (by omega)] at v; omega
  · rw [Int.min_eq_right (by omega), Int.max_eq_right (by omega)] at v; omega
theorem nn_of (hx : isF x) (h0 : 0 ≤ zv x) : isNN x := by
  obtain ⟨s, c, q, e⟩ := isF_v hx
  cases s with
  | false => exact ⟨c, q, .inl e⟩
  | true =>
    have k : zv x = -(zm x : Int) := zv_of true (by rw [e]; rfl)
    have z : zm x = c * 2 ^ (q - FP.Core.b64.qmin).toNat := by unfold zm; rw [e]; rfl
    have c0 : c = 0 := by
      rcases Nat.eq_zero_or_pos c with w | w
      · exact w
      · have := Nat.mul_pos w (Nat.two_pow_pos (q - FP.Core.b64.qmin).toNat)
        omega
    subst c0
    exact ⟨0, q, .inr e⟩
theorem nn_to (h : isNN x) : isF x ∧ 0 ≤ zv x := by
  obtain ⟨c, q, e | e⟩ := h
  · refine ⟨⟨_, _, _, e⟩, ?_⟩
    have e : FP.Core.val64 x = .fin false c q := e
    have k : zv x = (zm x : Int) := zv_of false (by rw [e]; rfl)
    omega
  · refine ⟨⟨_, _, _, e⟩, ?_⟩
    have e : FP.Core.val64 x = .fin true 0 q := e
    have z : zm x = 0 * 2 ^ (q - FP.Core.b64.qmin).toNat := by unfold zm; rw [e]; rfl
    have k := zv_abs (x := x)
    rw [Nat.zero_mul] at z
    omega
theorem mg_zm (h : isF x) : mg x = zm x := mg_z h
end NU
theorem NB_bd {s : Nat} {w p q u e b : UInt64} : NB s w p q u e b ↔ bd w 1000 ∧ bd p (90 + 12 * s) ∧ bd q s ∧ (bd u (s * 2 ^ 40) ∧ 0 ≤ zv u) ∧ bd e (s * 2 ^ 80) ∧ (b = 9218868437227405312 ∨ isNN b) := by
  unfold NB bd
  constructor
  · rintro ⟨⟨w1, w2⟩, ⟨p1, p2⟩, ⟨q1, q2⟩, ⟨u1, u2, u3⟩, ⟨e1, e2⟩, hb⟩
    rw [mg_zm w1] at w2
    rw [mg_zm p1] at p2
    rw [mg_zm q1] at q2
    rw [mg_zm u1] at u3
    rw [mg_zm e1] at e2
    exact ⟨⟨w1, w2⟩, ⟨p1, p2⟩, ⟨q1, q2⟩, ⟨⟨u1, u3⟩, (nn_to u2).2⟩, ⟨e1, e2⟩, hb⟩
  · rintro ⟨⟨w1, w2⟩, ⟨p1, p2⟩, ⟨q1, q2⟩, ⟨⟨u1, u3⟩, u2⟩, ⟨e1, e2⟩, hb⟩
    rw [← mg_zm w1] at w2
    rw [← mg_zm p1] at p2
    rw [← mg_zm q1] at q2
    rw [← mg_zm u1] at u3
    rw [← mg_zm e1] at e2
    exact ⟨⟨w1, w2⟩, ⟨p1, p2⟩, ⟨q1, q2⟩, ⟨u1, nn_of u1 u2, u3⟩, ⟨e1, e2⟩, hb⟩
theorem NB_mono {s r : Nat} {w p q u e b : UInt64} (h : s ≤ r) (nb : NB s w p q u e b) : NB r w p q u e b := by
  rw [NB_bd] at nb ⊢
  obtain ⟨h1, h2, h3, ⟨h4, h5⟩, h6, h7⟩ := nb
  exact ⟨h1, h2.mono (by omega), h3.mono h, ⟨h4.mono (Nat.mul_le_mul_right _ h), h5⟩, h6.mono (Nat.mul_le_mul_right _ h), h7⟩
/-! the constants -/
theorem kn_p1 : bd 4591870180066957722 1 ∧ 0 ≤ zv 4591870180066957722 ∧ zv 4591870180066957722 ≤ ((uU : Nat) : Int) := by
  have f : isF 4591870180066957722 := (isF_bits _).mpr (by decide)
  have m : zm 4591870180066957722 ≤ 1 * uU := by decide +kernel
  have p : 0 ≤ zv 4591870180066957722 := FP.Core.zval_nonneg (isF_nn f) (by decide)
  have a := zv_abs (x := 4591870180066957722)
  rw [Nat.one_mul] at m
  exact ⟨⟨f, by rw [Nat.one_mul]; exact m⟩, p, by omega⟩
theorem kn_h : bd 4602678819172646912 1 := ⟨(isF_bits _).mpr (by decide), by decide +kernel⟩
theorem kn_hm : bd (FP.dneg 4602678819172646912) 1 ∧ zv (FP.dneg 4602678819172646912) = - zv 4602678819172646912 := ⟨⟨(isF_bits _).mpr (by decide +kernel), by decide +kernel⟩, by decide +kernel⟩
theorem kn_6 : bd 4618441417868443648 12 ∧ bd (FP.dneg 4618441417868443648) 12 ∧ zv (FP.dneg 4618441417868443648) = - zv 4618441417868443648 := ⟨⟨(isF_bits _).mpr (by decide), by decide +kernel⟩, ⟨(isF_bits _).mpr (by decide +kernel), by decide +kernel⟩, by decide +kernel⟩
theorem kn_12 : bd 4622945017495814144 12 ∧ bd (FP.dneg 4622945017495814144) 12 ∧ zv (FP.dneg 4622945017495814144) = - zv 4622945017495814144 := ⟨⟨(isF_bits _).mpr (by decide), by decide +kernel⟩, ⟨(isF_bits _).mpr (by decide +kernel), by decide +kernel⟩, by decide +kernel⟩
theorem kn_1 : bd 4607182418800017408 1 := ⟨(isF_bits _).mpr (by decide), by decide +kernel⟩
theorem kn_2 : isF 4611686018427387904 ∧ 0 < zv 4611686018427387904 ∧ zm 4611686018427387904 = 2 * uU := ⟨(isF_bits _).mpr (by decide), by decide +kernel, by decide +kernel⟩
theorem kn_90 : bd 4636033603912859648 90 ∧ 0 < zv 4636033603912859648 ∧ zm 4636033603912859648 = 90 * uU := ⟨⟨(isF_bits _).mpr (by decide), by decide +kernel⟩, by decide +kernel, by decide +kernel⟩
theorem kn_20 : bd 4626322717216342016 90 := ⟨(isF_bits _).mpr (by decide), by decide +kernel⟩
theorem kn_10 : bd 4621819117588971520 10 := ⟨(isF_bits _).mpr (by decide), by decide +kernel⟩
theorem kn_8 : bd 4620693217682128896 8 := ⟨(isF_bits _).mpr (by decide), by decide +kernel⟩
theorem kn_0 (M : Nat) : bd 0 M ∧ zv 0 = 0 := by
  have z : zv (0 : UInt64) = 0 := FP.Core.zval64_zero
  have a := zv_abs (x := 0)
  rw [z] at a
  exact ⟨⟨(isF_bits _).mpr (by decide), by rw [← a]; exact Nat.zero_le _⟩, z⟩
