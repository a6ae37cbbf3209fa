/-! ===== a float widened: widened of the class, real of the reference ===== -/
theorem v_f2d {a : UInt32} (h : FP.Core.val32 a ≠ .nan) : FP.Core.val64 (FP.f2d a) = FP.Core.round FP.Core.b64 (FP.Core.val32 a) := by
  rw [FP.f2d_core ((FP.Core.notNaN_iff32 a).mpr h), FP.Core.val64_f2d]
theorem f2d_W {b : UInt32} {W : UInt64} (m : b.toNat % 2 ^ 31 < 2139095040) (mW : W.toNat % 2 ^ 63 < 9218868437227405312) (sg : 2 ^ 31 ≤ b.toNat ↔ 2 ^ 63 ≤ W.toNat) (un : FP.Core.unitsOf FP.Core.b64 (W.toNat % 2 ^ 63) = FP.Core.unitsOf FP.Core.b32 (b.toNat % 2 ^ 31) * 2 ^ 925) : FP.f2d b = W := by
  obtain ⟨c, q, h1, h2⟩ := FP.Core.decode_fin (f := FP.Core.b32) (n := b.toNat) (by rw [FP.Core.mag_toNat32, FP.Core.infBits_b32]; exact m)
  obtain ⟨c', q', h1', h2'⟩ := FP.Core.decode_fin (f := FP.Core.b64) (n := W.toNat) (by rw [FP.Core.mag_toNat64, FP.Core.infBits_b64]; exact mW)
  have fs : FP.Core.fieldS FP.Core.b32 b.toNat = FP.Core.fieldS FP.Core.b64 W.toNat := by
    rw [FP.Core.fieldS_mag _ (FP.Core.lt_full32 b), FP.Core.fieldS_mag _ (FP.Core.lt_full64 W), FP.Core.half_b32, FP.Core.half_b64]
    exact decide_eq_decide.mpr sg
  have v1 : FP.Core.val32 b = .fin (FP.Core.fieldS FP.Core.b64 W.toNat) c q := by rw [← fs]; exact h1
  have v2 : FP.Core.val64 W = .fin (FP.Core.fieldS FP.Core.b64 W.toNat) c' q' := h1'
  have f1 := FP.Core.val32_fits b
  rw [v1] at f1
  have f2 := FP.Core.val64_fits W
  have f2' := f2
  rw [v2] at f2'
  have b1 : -149 ≤ q := by have := f1.2.1; rw [FP.Core.qmin_b32] at this; exact this
  have b2 : -1074 ≤ q' := by have := f2'.2.1; rw [FP.Core.qmin_b64] at this; exact this
  unfold FP.Core.inUnits at h2 h2'
  rw [FP.Core.qmin_b32, FP.Core.mag_toNat32] at h2
  rw [FP.Core.qmin_b64, FP.Core.mag_toNat64, un, ← h2] at h2'
  refine (FP.Core.val64_inj (by rw [v2]; intro z; cases z) ?_).symm
  rw [v_f2d (by rw [v1]; intro z; cases z), v1]
  have r : FP.Core.round FP.Core.b64 (.fin (FP.Core.fieldS FP.Core.b64 W.toNat) c q) = FP.Core.round FP.Core.b64 (.fin (FP.Core.fieldS FP.Core.b64 W.toNat) c' q') := by
    show FP.Core.roundRatio _ _ c 1 q = FP.Core.roundRatio _ _ c' 1 q'
    refine FP.Core.roundRatio_congr (by decide) (by decide) ?_
    rw [Nat.mul_one, Nat.mul_one]
    have h3 : c * 2 ^ ((q - -149).toNat + 925) = c' * 2 ^ (q' - -1074).toNat := by rw [Nat.pow_add, ← Nat.mul_assoc]; exact h2'.symm
    exact pw h3 (by omega)
  rw [r, ← v2, FP.Core.round_of_fits FP.Core.good_b64 f2]
theorem f2d_inf {b : UInt32} {W : UInt64} (m : b.toNat % 2 ^ 31 = 2139095040) (mW : W.toNat % 2 ^ 63 = 9218868437227405312) (sg : 2 ^ 31 ≤ b.toNat ↔ 2 ^ 63 ≤ W.toNat) : FP.f2d b = W := by
  have h1 := FP.Core.decode_inf (f := FP.Core.b32) (n := b.toNat) (by rw [FP.Core.mag_toNat32, FP.Core.infBits_b32]; exact m)
  have h2 := FP.Core.decode_inf (f := FP.Core.b64) (n := W.toNat) (by rw [FP.Core.mag_toNat64, FP.Core.infBits_b64]; exact mW)
  have fs : FP.Core.fieldS FP.Core.b32 b.toNat = FP.Core.fieldS FP.Core.b64 W.toNat := by
    rw [FP.Core.fieldS_mag _ (FP.Core.lt_full32 b), FP.Core.fieldS_mag _ (FP.Core.lt_full64 W), FP.Core.half_b32, FP.Core.half_b64]
    exact decide_eq_decide.mpr sg
  have v1 : FP.Core.val32 b = .inf (FP.Core.fieldS FP.Core.b64 W.toNat) := by rw [← fs]; exact h1
  have v2 : FP.Core.val64 W = .inf (FP.Core.fieldS FP.Core.b64 W.toNat) := h2
  refine (FP.Core.val64_inj (by rw [v2]; intro z; cases z) ?_).symm
  rw [v_f2d (by rw [v1]; intro z; cases z), v1, v2]
  rfl
theorem un64 {E G : Nat} (hE : 1 ≤ E) (hG : G < 2 ^ 23) : FP.Core.unitsOf FP.Core.b64 (E * 2 ^ 52 + G * 2 ^ 29) = (2 ^ 23 + G) * 2 ^ (E + 28) := by
  unfold FP.Core.unitsOf
  rw [FP.Core.tails_b64]
  have h1 : (E * 2 ^ 52 + G * 2 ^ 29) % 2 ^ 52 = G * 2 ^ 29 := by omega
  have h2 : (E * 2 ^ 52 + G * 2 ^ 29) / 2 ^ 52 = E := by omega
  rw [if_neg (by omega), h1, h2, show E + 28 = 29 + (E - 1) by omega, Nat.pow_add, ← Nat.mul_assoc]
  congr 1
  omega
theorem un32 {E G : Nat} (hE : 1 ≤ E) (hG : G < 2 ^ 23) : FP.Core.unitsOf FP.Core.b32 (E * 2 ^ 23 + G) = (2 ^ 23 + G) * 2 ^ (E - 1) := by
  unfold FP.Core.unitsOf
  rw [FP.Core.tails_b32]
  have h1 : (E * 2 ^ 23 + G) % 2 ^ 23 = G := by omega
  have h2 : (E * 2 ^ 23 + G) / 2 ^ 23 = E := by omega
  rw [if_neg (by omega), h1, h2]
/-- the double that a float's bits mean, the one that is no number for the one -/
def wFl (b : Int32) : UInt64 := if b = 2143289344 then 9221120237041090560 else FP.f2d b.toUInt32
/-- bits of a float as rows keep them -/
def canF (b : Int32) : Prop := b = 2143289344 ∨ b.toBitVec.toNat % 2 ^ 31 ≤ 2139095040
theorem u32_nat (b : Int32) : b.toUInt32.toNat = b.toBitVec.toNat := rfl
theorem wd_E (b : Int32) : (b >>> (23 &&& 31)) &&& 255 = nI (b.toBitVec.toNat / 2 ^ 23 % 256) := by
  rw [pk_and _ 8 (by decide +kernel)]
  have t := pk_shr b (23 &&& 31) 23 (by decide +kernel)
  rw [Int.shiftRight_eq_div_pow] at t
  have t2 : (b >>> (23 &&& 31)).toInt = b.toInt / 8388608 := t
  clear t
  generalize b >>> (23 &&& 31) = y at *
  have c1 := i32_cond y
  have c2 := i32_cond b
  have l1 := y.toBitVec.isLt
  have l2 := b.toBitVec.isLt
  congr 1
  omega
theorem wd_G (b : Int32) : (b &&& 8388607).toInt64 = lN (b.toBitVec.toNat % 2 ^ 23) := by
  rw [pk_and _ 23 (by decide +kernel), nI_l (by omega)]
theorem wd_W {X G : Nat} (hX : X < 2048) (hG : G < 2 ^ 23) {e : Int32} (he : e + 896 = nI X) {s : Int64} {S : Nat} (hs : (s = 0 ∧ S = 0) ∨ (s = -9223372036854775808 ∧ S = 2 ^ 63)) :
    (s ||| (((e + 896).toInt64) <<< ((52 : Int32).toInt64 &&& 63))) ||| (lN G <<< ((29 : Int32).toInt64 &&& 63)) = lN (S + (X * 2 ^ 52 + G * 2 ^ 29)) := by
  rw [he, shl52 hX, shlN (k := 29) (by decide +kernel), or_as, orL (by omega)]
  rcases hs with ⟨rfl, rfl⟩ | ⟨rfl, rfl⟩
  · rw [zero_or, Nat.zero_add]
  · rw [or63 (by omega), Nat.add_comm]
theorem sni_of {b : Int32} (hm : b.toBitVec.toNat % 2 ^ 31 ≤ 2139095040) : vn_sni2f b = false := by
  unfold vn_sni2f
  have : ¬ (b.toUInt32 &&& 0x7fffffff > 0x7f800000) := fun z => by
    have h := UInt32.lt_iff_toNat_lt.mp z
    rw [UInt32.toNat_and, show (0x7fffffff : UInt32).toNat = 2 ^ 31 - 1 from rfl, Nat.and_two_pow_sub_one_eq_mod, u32_nat b, show (0x7f800000 : UInt32).toNat = 2139095040 from rfl] at h
    omega
  simp [this]
section WI
variable {d : Nat} {Q : mQ} {n : Nat} {ad sa : Nat → Nat} {z0 : Nat} {H : mH}
theorem wd_72 (fx : FX n ad sa z0 H) {b : Int32} {s : Int64} {t : Nat} (h0 : 0 < t) (ht : t < 2 ^ 23) (fin : ∀ k e i, k ≤ 23 → 2 ^ 23 ≤ t * 2 ^ k → t * 2 ^ k < 2 ^ 24 → e + 896 = nI (897 - k) → WR d cd_79 103 [some (.int b), some (.long s), none, some (.int e), some (.long (lN (t * 2 ^ k))), none, some (.int i)] [] H Q) :
    ∀ m k e, k + m = 23 → t * 2 ^ k < 2 ^ 24 → e + 896 = nI (897 - k) → WR d cd_79 72 [some (.int b), some (.long s), none, some (.int e), some (.long (lN (t * 2 ^ k))), none, some (.int (nI k))] [] H Q := by
  intro m
  induction m with
  | zero =>
    intro k e hk hlt he
    obtain rfl : k = 23 := by omega
    have z : (23 : Int32) ≤ nI 23 := by decide
    exact w_wd72 fx b e (nI 23) s _ (fun _ => fin 23 e _ (by omega) (by omega) hlt he) (fun w => absurd z w) (fun w => absurd z w)
  | succ m ih =>
    intro k e hk hlt he
    have nz : ¬ (23 : Int32) ≤ nI k := fun q => by have := (nI_leI (a := 23) (b := k) (by decide) (by omega)).mp q; omega
    have l8 : (8388608 : Int64) ≤ lN (t * 2 ^ k) ↔ 2 ^ 23 ≤ t * 2 ^ k := pk_lLE (a := 8388608) (b := t * 2 ^ k) (by decide) (by omega)
    refine w_wd72 fx b e (nI k) s _ (fun w => absurd w nz) (fun _ w => fin k e _ (by omega) (l8.mp w) hlt he) (fun _ w => ?_)
    have w2 : t * 2 ^ k < 2 ^ 23 := Nat.lt_of_not_le (fun q => w (l8.mpr q))
    rw [shlN (k := 1) (by decide +kernel), Nat.pow_one, nI_1, show t * 2 ^ k * 2 = t * 2 ^ (k + 1) by rw [Nat.pow_succ, Nat.mul_assoc]]
    have p1 : t * 2 ^ (k + 1) = t * 2 ^ k * 2 := by rw [Nat.pow_succ, Nat.mul_assoc]
    refine ih (k + 1) _ (by omega) (by omega) ?_
    rw [Int32.add_assoc, Int32.add_comm (-1) 896, ← Int32.add_assoc, he, nI_dec (by omega), show 897 - k - 1 = 897 - (k + 1) by omega]
theorem c_widened (fx : FX n ad sa z0 H) {b : Int32} (hb : canF b) (hQ : Q (some (.long (wFl b).toInt64)) H) : EV (d + 1) 79 [.int b] H Q := by
  by_cases e0 : b = 2143289344
  · subst e0
    have k1 : ((2143289344 : Int32) >>> (23 &&& 31)) &&& 255 = 255 := by decide
    have k2 : ¬ ((2143289344 : Int32) &&& 8388607).toInt64 = 0 := by decide
    have k3 : (0 : Int32) ≤ 2143289344 := by decide
    have k4 : (wFl 2143289344).toInt64 = 9221120237041090560 := by unfold wFl; rw [if_pos rfl]; decide
    rw [k4] at hQ
    exact w_wd0 fx 2143289344 (fun _ w => absurd k1 w) (fun _ w => absurd k1 w) (fun _ w => absurd k1 w) (fun _ _ _ => hQ) (fun _ _ w => absurd w k2) (fun w => absurd k3 w) (fun w => absurd k3 w) (fun w => absurd k3 w) (fun w => absurd k3 w) (fun w => absurd k3 w)
  · have hm : b.toBitVec.toNat % 2 ^ 31 ≤ 2139095040 := hb.resolve_left e0
    have lB := b.toBitVec.isLt
    have uB := u32_nat b
    have wf : wFl b = FP.f2d b.toUInt32 := by unfold wFl; rw [if_neg e0]
    rw [wf] at hQ
    have E255 : nI (b.toBitVec.toNat / 2 ^ 23 % 256) = 255 ↔ b.toBitVec.toNat / 2 ^ 23 % 256 = 255 := nI_eq (b := 255) (by omega) (by decide)
    have E0 : nI (b.toBitVec.toNat / 2 ^ 23 % 256) = 0 ↔ b.toBitVec.toNat / 2 ^ 23 % 256 = 0 := nI_eq (b := 0) (by omega) (by decide)
    have G0 : lN (b.toBitVec.toNat % 2 ^ 23) = 0 ↔ b.toBitVec.toNat % 2 ^ 23 = 0 := pk_lEQ (b := 0) (by omega) (by decide)
    have sb := i32_cond b
    have s0 : 0 ≤ b ↔ b.toBitVec.toNat < 2 ^ 31 := by
      rw [Int32.le_iff_toInt_le]
      have : (0 : Int32).toInt = 0 := rfl
      omega
    -- the answer for a W
    have fin : ∀ {S M : Nat}, S + M < 2 ^ 64 → (b.toBitVec.toNat < 2 ^ 31 ∧ S = 0 ∨ 2 ^ 31 ≤ b.toBitVec.toNat ∧ S = 2 ^ 63) → M < 9218868437227405312 → b.toBitVec.toNat % 2 ^ 31 < 2139095040 → FP.Core.unitsOf FP.Core.b64 M = FP.Core.unitsOf FP.Core.b32 (b.toBitVec.toNat % 2 ^ 31) * 2 ^ 925 → Q (some (.long (lN (S + M)))) H := by
      intro S M h1 h2 h3 h4 h5
      have tn : (lN (S + M)).toUInt64.toNat = S + M := by rw [u64_nat, lN_tn h1]
      have e : FP.f2d b.toUInt32 = (lN (S + M)).toUInt64 := by
        refine f2d_W (by rw [uB]; exact h4) (by rw [tn]; omega) (by rw [uB, tn]; omega) ?_
        rw [tn, uB, show (S + M) % 2 ^ 63 = M by omega]; exact h5
      rw [e, u64i] at hQ
      exact hQ
    have nrm : ∀ (s : Int64) S, ((s = 0 ∧ S = 0) ∨ (s = -9223372036854775808 ∧ S = 2 ^ 63)) → (b.toBitVec.toNat < 2 ^ 31 ∧ S = 0 ∨ 2 ^ 31 ≤ b.toBitVec.toNat ∧ S = 2 ^ 63) → ¬ b.toBitVec.toNat / 2 ^ 23 % 256 = 255 → ¬ b.toBitVec.toNat / 2 ^ 23 % 256 = 0 → WR d cd_79 111 [some (.int b), some (.long s), none, some (.int (nI (b.toBitVec.toNat / 2 ^ 23 % 256))), some (.long (lN (b.toBitVec.toNat % 2 ^ 23))), none, none] [] H Q := by
      intro s S hs hS n1 n2
      refine w_wd111 fx b _ s _ none ?_
      rw [wd_W (X := b.toBitVec.toNat / 2 ^ 23 % 256 + 896) (by omega) (by omega) (by rw [show (896 : Int32) = nI 896 from rfl, nI_add]) hs]
      refine fin (by omega) hS (by omega) (by omega) ?_
      rw [un64 (by omega) (by omega), show b.toBitVec.toNat % 2 ^ 31 = (b.toBitVec.toNat / 2 ^ 23 % 256) * 2 ^ 23 + b.toBitVec.toNat % 2 ^ 23 by omega, un32 (by omega) (by omega), Nat.mul_assoc, ← Nat.pow_add, show b.toBitVec.toNat / 2 ^ 23 % 256 - 1 + 925 = b.toBitVec.toNat / 2 ^ 23 % 256 + 896 + 28 by omega]
    have sub : ∀ (s : Int64) S, ((s = 0 ∧ S = 0) ∨ (s = -9223372036854775808 ∧ S = 2 ^ 63)) → (b.toBitVec.toNat < 2 ^ 31 ∧ S = 0 ∨ 2 ^ 31 ≤ b.toBitVec.toNat ∧ S = 2 ^ 63) → b.toBitVec.toNat / 2 ^ 23 % 256 = 0 → ¬ b.toBitVec.toNat % 2 ^ 23 = 0 → WR d cd_79 72 [some (.int b), some (.long s), none, some (.int 1), some (.long (lN (b.toBitVec.toNat % 2 ^ 23))), none, some (.int 0)] [] H Q := by
      intro s S hs hS z1 z2
      have q := wd_72 (Q := Q) (d := d) fx (b := b) (s := s) (t := b.toBitVec.toNat % 2 ^ 23) (by omega) (by omega) (fun k e i hk g1 g2 he => ?_) 23 0 1 (by omega) (by omega) (by decide)
      · rw [Nat.pow_zero, Nat.mul_one] at q; exact q
      · refine w_wd103 fx b e i s _ ?_
        have eg : lN (b.toBitVec.toNat % 2 ^ 23 * 2 ^ k) &&& 8388607 = lN (b.toBitVec.toNat % 2 ^ 23 * 2 ^ k - 2 ^ 23) := by
          rw [bl_lo _ 23 (by decide +kernel), lN_tn (by omega), show b.toBitVec.toNat % 2 ^ 23 * 2 ^ k % 2 ^ 23 = b.toBitVec.toNat % 2 ^ 23 * 2 ^ k - 2 ^ 23 by omega]
        rw [eg, wd_W (X := 897 - k) (S := S) (G := b.toBitVec.toNat % 2 ^ 23 * 2 ^ k - 2 ^ 23) (by omega) (by omega) he hs]
        refine fin (by omega) hS (by omega) (by omega) ?_
        have u3 : FP.Core.unitsOf FP.Core.b32 (b.toBitVec.toNat % 2 ^ 31) = b.toBitVec.toNat % 2 ^ 23 := by
          rw [show b.toBitVec.toNat % 2 ^ 31 = b.toBitVec.toNat % 2 ^ 23 by omega]
          unfold FP.Core.unitsOf
          rw [FP.Core.tails_b32, if_pos (by omega)]
        rw [u3, un64 (by omega) (by omega), show 2 ^ 23 + (b.toBitVec.toNat % 2 ^ 23 * 2 ^ k - 2 ^ 23) = b.toBitVec.toNat % 2 ^ 23 * 2 ^ k by omega, Nat.mul_assoc, ← Nat.pow_add, show k + (897 - k + 28) = 925 by omega]
    have hI : ∀ (s : Int64) S, ((s = 0 ∧ S = 0) ∨ (s = -9223372036854775808 ∧ S = 2 ^ 63)) → (b.toBitVec.toNat < 2 ^ 31 ∧ S = 0 ∨ 2 ^ 31 ≤ b.toBitVec.toNat ∧ S = 2 ^ 63) → b.toBitVec.toNat / 2 ^ 23 % 256 = 255 → b.toBitVec.toNat % 2 ^ 23 = 0 → Q (some (.long (s ||| 9218868437227405312))) H := by
      intro s S hs hS z1 z2
      have ew : s ||| 9218868437227405312 = lN (S + 9218868437227405312) := by
        rcases hs with ⟨rfl, rfl⟩ | ⟨rfl, rfl⟩ <;> decide +kernel
      rw [ew]
      have tn : (lN (S + 9218868437227405312)).toUInt64.toNat = S + 9218868437227405312 := by rw [u64_nat, lN_tn (by omega)]
      have e : FP.f2d b.toUInt32 = (lN (S + 9218868437227405312)).toUInt64 := f2d_inf (by rw [uB]; omega) (by rw [tn]; omega) (by rw [uB, tn]; omega)
      rw [e, u64i] at hQ
      exact hQ
    have zr : ∀ (s : Int64) S, ((s = 0 ∧ S = 0) ∨ (s = -9223372036854775808 ∧ S = 2 ^ 63)) → (b.toBitVec.toNat < 2 ^ 31 ∧ S = 0 ∨ 2 ^ 31 ≤ b.toBitVec.toNat ∧ S = 2 ^ 63) → b.toBitVec.toNat / 2 ^ 23 % 256 = 0 → b.toBitVec.toNat % 2 ^ 23 = 0 → Q (some (.long s)) H := by
      intro s S hs hS z1 z2
      have ew : s = lN (S + 0) := by
        rcases hs with ⟨rfl, rfl⟩ | ⟨rfl, rfl⟩ <;> decide +kernel
      rw [ew]
      refine fin (by omega) hS (by omega) (by omega) ?_
      rw [show b.toBitVec.toNat % 2 ^ 31 = 0 by omega, FP.Core.unitsOf_zero, FP.Core.unitsOf_zero, Nat.zero_mul]
    refine w_wd0 fx b ?_ ?_ ?_ ?_ ?_ ?_ ?_ ?_ ?_ ?_
    all_goals (rw [wd_E, wd_G]; simp only [E255, E0, G0, s0])
    · intro a n1 n2; exact nrm 0 0 (.inl ⟨rfl, rfl⟩) (.inl ⟨a, rfl⟩) n1 n2
    · intro a n1 z1 n2; exact sub 0 0 (.inl ⟨rfl, rfl⟩) (.inl ⟨a, rfl⟩) z1 n2
    · intro a n1 z1 z2; exact zr 0 0 (.inl ⟨rfl, rfl⟩) (.inl ⟨a, rfl⟩) z1 z2
    · intro a z1 n2; omega
    · intro a z1 z2; exact hI 0 0 (.inl ⟨rfl, rfl⟩) (.inl ⟨a, rfl⟩) z1 z2
    · intro a n1 n2; exact nrm _ _ (.inr ⟨rfl, rfl⟩) (.inr ⟨by omega, rfl⟩) n1 n2
    · intro a n1 z1 n2; exact sub _ _ (.inr ⟨rfl, rfl⟩) (.inr ⟨by omega, rfl⟩) z1 n2
    · intro a n1 z1 z2; exact zr _ _ (.inr ⟨rfl, rfl⟩) (.inr ⟨by omega, rfl⟩) z1 z2
    · intro a z1 n2; omega
    · intro a z1 z2; exact hI _ _ (.inr ⟨rfl, rfl⟩) (.inr ⟨by omega, rfl⟩) z1 z2
theorem wF_nn {b : Int32} (hb : canF b) (ne : b ≠ 2143289344) : FP.Core.val64 (FP.f2d b.toUInt32) ≠ .nan := by
  have hm : b.toBitVec.toNat % 2 ^ 31 ≤ 2139095040 := hb.resolve_left ne
  have h := (FP.Core.ne_nan32 b.toUInt32).mpr (by rw [u32_nat]; exact hm)
  rw [v_f2d h]
  cases e : FP.Core.val32 b.toUInt32 with
  | nan => exact absurd e h
  | inf s => intro z; cases z
  | fin s c q => exact FP.Core.roundRatio_ne_nan _ _ _ _ _
theorem c_real6 (fx : FX n ad sa z0 H) {v : Int64} (hv : canD v.toUInt64) (hQ : Q (some (.double v.toUInt64)) H) : EV (d + 1) 195 [.int 6, .long v] H Q := by
  have n5 : ¬ (6 : Int32) = 5 := by decide
  refine w_re fx 6 v (fun _ w => sn_of ?_) (fun _ _ => hQ) (fun _ w => ?_) (fun w => absurd w n5) (fun w => absurd w n5) (fun w => absurd w n5) (fun w => absurd w n5)
  · rcases hv with e | e
    · exact absurd (by rw [← u64i v, e]; decide : v = 9221120237041090560) w
    · exact e
  · rw [w] at hQ; exact hQ
theorem canL_F {v : Int64} (hv : canL 5 v) : canF v.toInt32 ∧ (v = 2143289344 ↔ v.toInt32 = 2143289344) := by
  obtain ⟨e, q⟩ := hv.1 rfl
  refine ⟨?_, fun z => by rw [z]; decide, fun z => by rw [← e, z]; decide⟩
  rcases q with q | q
  · exact .inl (by rw [q]; decide)
  · refine .inr ?_
    have h : ¬ (2139095040 : UInt32).toNat < (v.toInt32.toUInt32 &&& 2147483647).toNat := fun z => q (UInt32.lt_iff_toNat_lt.mpr z)
    rw [UInt32.toNat_and, show (2147483647 : UInt32).toNat = 2 ^ 31 - 1 from rfl, Nat.and_two_pow_sub_one_eq_mod, u32_nat v.toInt32, show (2139095040 : UInt32).toNat = 2139095040 from rfl] at h
    omega
theorem c_real5 (fx : FX n ad sa z0 H) {v : Int64} (hv : canL 5 v) (hQ : Q (some (.double (wFl v.toInt32))) H) : EV (d + 1) 195 [.int 5, .long v] H Q := by
  obtain ⟨c, i⟩ := canL_F hv
  unfold wFl at hQ
  refine w_re fx 5 v (fun w => absurd rfl w) (fun w => absurd rfl w) (fun w => absurd rfl w) (fun _ w => ?_) (fun _ w => nn_vf (wF_nn c (fun z => w (i.mpr z)))) (fun _ w => ?_) (fun _ w => ?_)
  · have hm : v.toInt32.toBitVec.toNat % 2 ^ 31 ≤ 2139095040 := c.resolve_left (fun z => w (i.mpr z))
    exact sni_of hm
  · rw [if_neg (fun z => w (i.mpr z))] at hQ; exact hQ
  · rw [if_pos (i.mp w)] at hQ; exact hQ
end WI
