/-! ===== doubles: exact scaling by powers of two; scaled, valueOf by contract ===== -/
def dv (c : Nat) (q : Int) : UInt64 := FP.Core.of64 (FP.Core.round FP.Core.b64 (.fin false c q))
theorem val_dv (c : Nat) (q : Int) : FP.Core.val64 (dv c q) = FP.Core.round FP.Core.b64 (.fin false c q) := FP.Core.val64_of64 (FP.Core.round_fits FP.Core.good_b64 _)
theorem dv_nn (c : Nat) (q : Int) : FP.Core.val64 (dv c q) ≠ .nan := by rw [val_dv]; exact FP.Core.roundRatio_ne_nan _ _ _ _ _
theorem dv_ext {x : UInt64} {c : Nat} {q : Int} (h : FP.Core.val64 x = FP.Core.round FP.Core.b64 (.fin false c q)) : x = dv c q := (FP.Core.val64_inj (dv_nn c q) ((val_dv c q).trans h.symm)).symm
theorem dv_c {c c' : Nat} {q q' : Int} (h : c * 2 ^ (q - q').toNat = c' * 2 ^ (q' - q).toNat) : dv c q = dv c' q' := by
  show FP.Core.of64 (FP.Core.roundRatio FP.Core.b64 false c 1 q) = FP.Core.of64 (FP.Core.roundRatio FP.Core.b64 false c' 1 q')
  rw [FP.Core.roundRatio_congr (A' := c') (B' := 1) (e' := q') (by decide) (by decide) (by rw [Nat.mul_one, Nat.mul_one]; exact h)]
theorem qmax_b64 : FP.Core.b64.qmax = 971 := by decide
theorem nn_vf {x : UInt64} (h : FP.Core.val64 x ≠ .nan) : vf_n64 x := by
  unfold vf_n64
  rw [UInt64.le_iff_toNat_le, FP.Core.mask_toNat]
  exact (FP.Core.ne_nan x).mp h
theorem vf_nn {x : UInt64} (h : vf_n64 x) : FP.Core.val64 x ≠ .nan := by
  unfold vf_n64 at h
  rw [UInt64.le_iff_toNat_le, FP.Core.mask_toNat] at h
  exact (FP.Core.ne_nan x).mpr h
theorem pw {A B a b m n : Nat} (h : A * 2 ^ a = B * 2 ^ b) (e : m + b = n + a) : A * 2 ^ m = B * 2 ^ n := by
  apply Nat.eq_of_mul_eq_mul_right (Nat.two_pow_pos a)
  calc A * 2 ^ m * 2 ^ a = A * 2 ^ a * 2 ^ m := by ac_rfl
    _ = B * (2 ^ b * 2 ^ m) := by rw [h]; ac_rfl
    _ = B * (2 ^ n * 2 ^ a) := by rw [← Nat.pow_add, ← Nat.pow_add, show b + m = n + a by omega]
    _ = B * 2 ^ n * 2 ^ a := by ac_rfl
theorem dv_fin {c : Nat} {q : Int} (hc : c < 2 ^ 53) (h1 : -1074 ≤ q) (h2 : q ≤ 971) : ∃ c' q', FP.Core.val64 (dv c q) = .fin false c' q' ∧ c' * 2 ^ (q' + 1074).toNat = c * 2 ^ (q + 1074).toNat ∧ -1074 ≤ q' := by
  obtain ⟨c', q', e1, e2⟩ := FP.Core.round_exact FP.Core.good_b64 false (c := c) (q := q) hc (by rw [FP.Core.qmin_b64]; exact h1) (by rw [qmax_b64]; exact h2)
  refine ⟨c', q', (val_dv c q).trans e1, ?_, ?_⟩
  · unfold FP.Core.inUnits at e2
    rw [FP.Core.qmin_b64, Int.sub_neg, Int.sub_neg] at e2
    exact e2
  · have f := FP.Core.round_fits FP.Core.good_b64 (.fin false c q)
    rw [e1] at f
    have f2 := f.2.1
    rw [FP.Core.qmin_b64] at f2
    exact f2
theorem dv_mul {c k : Nat} {q : Int} {y : UInt64} (hc : c < 2 ^ 53) (h1 : -1074 ≤ q) (h2 : q ≤ 971) (hy : FP.Core.val64 y = .fin false (2 ^ 52) ((k : Int) - 52)) : FP.dmul (dv c q) y = dv c (q + k) := by
  obtain ⟨c', q', e1, e2, e3⟩ := dv_fin hc h1 h2
  refine dv_ext ?_
  show FP.Core.val64 (FP.Core.dmul (dv c q) y) = _
  rw [FP.Core.val64_dmul, e1, hy]
  show FP.Core.roundRatio FP.Core.b64 false (c' * 2 ^ 52) 1 (q' + ((k : Int) - 52)) = FP.Core.roundRatio FP.Core.b64 false c 1 (q + k)
  refine FP.Core.roundRatio_congr (by decide) (by decide) ?_
  rw [Nat.mul_one, Nat.mul_one, Nat.mul_assoc, ← Nat.pow_add]
  exact pw e2 (by omega)
theorem dv_div {c k : Nat} {q : Int} {y : UInt64} (hc : c < 2 ^ 53) (h1 : -1074 ≤ q) (h2 : q ≤ 971) (hy : FP.Core.val64 y = .fin false (2 ^ 52) ((k : Int) - 52)) : FP.ddiv (dv c q) y = dv c (q - k) := by
  obtain ⟨c', q', e1, e2, e3⟩ := dv_fin hc h1 h2
  refine dv_ext ?_
  show FP.Core.val64 (FP.Core.ddiv (dv c q) y) = _
  rw [FP.Core.val64_ddiv, e1, hy]
  have e4 : FP.Core.quotient FP.Core.b64 (FP.Core.Datum.fin false c' q') (FP.Core.Datum.fin false (2 ^ 52) ((k : Int) - 52)) = FP.Core.roundRatio FP.Core.b64 false c' (2 ^ 52) (q' - ((k : Int) - 52)) := by
    unfold FP.Core.quotient
    exact if_neg (by decide)
  rw [e4]
  show _ = FP.Core.roundRatio FP.Core.b64 false c 1 (q - k)
  refine FP.Core.roundRatio_congr (by decide) (by decide) ?_
  rw [Nat.mul_one, Nat.mul_assoc, ← Nat.pow_add]
  exact pw e2 (by omega)
theorem l2d_dv {c : Nat} (hc : c < 2 ^ 63) : FP.l2d (lN c) = dv c 0 := by
  show FP.Core.of64 (FP.Core.round FP.Core.b64 (FP.Core.ofInt (lN c).toInt)) = _
  rw [pk_lT hc]
  have : FP.Core.ofInt (c : Int) = .fin false c 0 := by unfold FP.Core.ofInt; simp
  rw [this]; rfl
theorem p2_32 : FP.Core.val64 4751297606875873280 = .fin false (2 ^ 52) ((32 : Nat) - 52) := by decide +kernel
theorem p2_k {k : Nat} (hk : k < 32) : FP.Core.val64 (FP.l2d (lN (2 ^ k))) = .fin false (2 ^ 52) ((k : Int) - 52) := by
  have all : ∀ k : Nat, k < 32 → FP.Core.val64 (FP.l2d (lN (2 ^ k))) = .fin false (2 ^ 52) ((k : Int) - 52) := by decide +kernel
  exact all k hk
theorem shl_k {k : Nat} (hk : k < 32) : (1 : Int64) <<< ((nI k).toInt64 &&& 63) = lN (2 ^ k) := by
  have all : ∀ k, k < 32 → (1 : Int64) <<< ((nI k).toInt64 &&& 63) = lN (2 ^ k) := by decide +kernel
  exact all k hk
section SC
variable {d : Nat} {Q : mQ} {h : mH} {c : Nat} {x : UInt64} {p : Int32}
theorem sc_43 (hc : c < 2 ^ 53) {q T : Int} {l : Int32} (e : q + l.toInt = T) (h1 : -1074 ≤ q) (h2 : q ≤ 971) (h3 : -32 < l.toInt) (h4 : l.toInt < 32) (hq : Q (some (.double (dv c T))) h) :
    WR d cd_86 43 [some (.double x), none, some (.int p), some (.double (dv c q)), none, some (.int l)] [] h Q := by
  subst e
  have e0 : (0 : Int32).toInt = 0 := rfl
  have neg : l < 0 → FP.ddiv (dv c q) (FP.l2d (1 <<< ((-l).toInt64 &&& 63))) = dv c (q + l.toInt) := by
    intro hl
    have h5 := i_lt hl
    have e1 : (-l).toInt = -l.toInt := by rw [Int32.toInt_neg]; exact Int.bmod_eq_of_le (by omega) (by omega)
    obtain ⟨k, hk, ek⟩ := ix_of (x := -l) (n := 32) (by omega) (by omega)
    have e2 := i_eq ek
    rw [nI_toInt (by omega)] at e2
    rw [ek, shl_k hk, dv_div hc h1 h2 (p2_k hk), show q + l.toInt = q - (k : Int) by omega]
  have pos : ¬ l < 0 → FP.dmul (dv c q) (FP.l2d (1 <<< (l.toInt64 &&& 63))) = dv c (q + l.toInt) := by
    intro hl
    have h5 := i_nlt hl
    obtain ⟨k, hk, ek⟩ := ix_of (x := l) (n := 32) (by omega) (by omega)
    have e2 := i_eq ek
    rw [nI_toInt (by omega)] at e2
    rw [ek, shl_k hk, dv_mul hc h1 h2 (p2_k hk), nI_toInt (by omega)]
  refine w_sc43 x (dv c q) p l ?_ ?_ ?_ ?_
  · intro z; rw [neg z]; exact nn_vf (dv_nn _ _)
  · intro z; rw [pos z]; exact nn_vf (dv_nn _ _)
  · intro z; rw [neg z]; exact hq
  · intro z; rw [pos z]; exact hq
theorem sc_24 (hc : c < 2 ^ 53) {T : Int} (hT : -1074 ≤ T) (hq : Q (some (.double (dv c T))) h) : ∀ (m : Nat) (q : Int) (l : Int32), -32 * (m : Int) - 32 < l.toInt → q + l.toInt = T → q ≤ 971 → -1074 ≤ q → l.toInt < 32 →
    WR d cd_86 24 [some (.double x), none, some (.int p), some (.double (dv c q)), none, some (.int l)] [] h Q := by
  intro m
  have en : (-32 : Int32).toInt = -32 := rfl
  have ep : (32 : Int32).toInt = 32 := rfl
  induction m with
  | zero =>
    intro q l h1 h2 h3 h4 h5
    have z : (-32) < l := Int32.lt_iff_toInt_lt.mpr (by omega)
    exact w_sc24 x (dv c q) p l (fun w => absurd z w) (fun _ => sc_43 hc h2 h4 h3 (by omega) h5 hq) (fun w => absurd z w)
  | succ m ih =>
    intro q l h1 h2 h3 h4 h5
    refine w_sc24 x (dv c q) p l ?_ ?_ ?_
    · intro _; rw [dv_div hc h4 h3 p2_32]; exact nn_vf (dv_nn _ _)
    · intro z
      have := i_lt z
      exact sc_43 hc h2 h4 h3 (by omega) h5 hq
    · intro z
      have z2 := i_nlt z
      have e1 : (l + 32).toInt = l.toInt + 32 := add_t (by omega) (by omega)
      rw [dv_div hc h4 h3 p2_32]
      exact ih _ _ (by omega) (by omega) (by omega) (by omega) (by omega)
theorem sc_5 (hc : c < 2 ^ 53) {T : Int} (hT : -1074 ≤ T) (hT2 : T ≤ 972) (hq : Q (some (.double (dv c T))) h) : ∀ (m : Nat) (q : Int) (l : Int32), l.toInt < 32 * (m : Int) + 32 → q + l.toInt = T → q ≤ 971 → q % 32 ≤ 1 → -1074 ≤ q →
    WR d cd_86 5 [some (.double x), none, some (.int p), some (.double (dv c q)), none, some (.int l)] [] h Q := by
  intro m
  have ep : (32 : Int32).toInt = 32 := rfl
  have en : (-32 : Int32).toInt = -32 := rfl
  have fin : ∀ (q : Int) (l : Int32), q + l.toInt = T → q ≤ 971 → -1074 ≤ q → l.toInt < 32 → WR d cd_86 24 [some (.double x), none, some (.int p), some (.double (dv c q)), none, some (.int l)] [] h Q := by
    intro q l h2 h3 h4 h5
    have := i_rg l
    exact sc_24 hc hT hq 67108864 q l (by omega) h2 h3 h4 h5
  induction m with
  | zero =>
    intro q l h1 h2 h3 h4 h5
    have z : l < 32 := Int32.lt_iff_toInt_lt.mpr (by omega)
    exact w_sc5 x (dv c q) p l (fun w => absurd z w) (fun _ => fin q l h2 h3 h5 (by omega)) (fun w => absurd z w)
  | succ m ih =>
    intro q l h1 h2 h3 h4 h5
    refine w_sc5 x (dv c q) p l ?_ ?_ ?_
    · intro _; rw [dv_mul hc h5 h3 p2_32]; exact nn_vf (dv_nn _ _)
    · intro z
      have := i_lt z
      exact fin q l h2 h3 h5 (by omega)
    · intro z
      have z2 := i_nlt z
      have e1 : (l + (-32)).toInt = l.toInt + -32 := add_t (by omega) (by have := i_rg l; omega)
      rw [dv_mul hc h5 h3 p2_32]
      exact ih _ _ (by omega) (by omega) (by omega) (by omega) (by omega)
theorem c_scaled (hc : c < 2 ^ 53) {q : Int} (h0 : q = 0 ∨ q = 1) (h1 : -1074 ≤ q + p.toInt) (h2 : q + p.toInt ≤ 972) (hq : Q (some (.double (dv c (q + p.toInt)))) h) : EV (d + 1) 86 [.double (dv c q), .int p] h Q := by
  refine w_sc0 _ p ?_
  have := i_rg p
  exact sc_5 hc h1 h2 hq 67108864 q p (by omega) rfl (by omega) (by omega) (by omega)
end SC
/-- a double's bits out of its digits and exponent -/
theorem dv_bits {x : UInt64} (hx : x.toNat < 2 ^ 63) (hn : FP.Core.val64 x ≠ .nan) : x = dv (if x.toNat / 2 ^ 52 = 0 then x.toNat % 2 ^ 52 else x.toNat % 2 ^ 52 + 2 ^ 52) ((if x.toNat / 2 ^ 52 = 0 then (1 : Int) else ((x.toNat / 2 ^ 52 : Nat) : Int)) - 1075) := by
  refine dv_ext ?_
  have hb := (FP.Core.ne_nan x).mp hn
  have eT : FP.Core.fieldT FP.Core.b64 x.toNat = x.toNat % 2 ^ 52 := by unfold FP.Core.fieldT; rw [FP.Core.tails_b64]
  have eE : FP.Core.fieldE FP.Core.b64 x.toNat = x.toNat / 2 ^ 52 := by
    unfold FP.Core.fieldE
    rw [FP.Core.tails_b64, show FP.Core.b64.exps = 2048 by decide]
    omega
  have eS : FP.Core.fieldS FP.Core.b64 x.toNat = false := by
    unfold FP.Core.fieldS
    rw [FP.Core.tails_b64, show FP.Core.b64.exps = 2048 by decide, show x.toNat / 2 ^ 52 / 2048 = 0 by omega]
    decide
  have fit := FP.Core.val64_fits x
  unfold FP.Core.val64 FP.Core.decode at fit ⊢
  rw [eT, eE, eS, FP.Core.exps_b64, FP.Core.tails_b64, FP.Core.qmin_b64] at *
  by_cases i0 : x.toNat / 2 ^ 52 = 2047
  · rw [if_pos i0]
    have : x.toNat % 2 ^ 52 = 0 := by omega
    rw [if_pos this, this, i0]
    decide +kernel
  · rw [if_neg i0] at fit ⊢
    by_cases i1 : x.toNat / 2 ^ 52 = 0
    · rw [if_pos i1] at fit ⊢
      rw [if_pos i1, if_pos i1]
      exact (FP.Core.round_of_fits FP.Core.good_b64 fit).symm
    · rw [if_neg i1] at fit ⊢
      rw [if_neg i1, if_neg i1]
      rw [show (-1074 : Int) + (((x.toNat / 2 ^ 52 : Nat) : Int) - 1) = ((x.toNat / 2 ^ 52 : Nat) : Int) - 1075 by omega, Nat.add_comm] at fit ⊢
      exact (FP.Core.round_of_fits FP.Core.good_b64 fit).symm
theorem lsh_t (a s : Int64) (k : Nat) (hs : (s.toBitVec.smod 64).toNat = k) : (a >>> s).toInt = a.toInt >>> k := by
  show (a.toBitVec.sshiftRight' (s.toBitVec.smod 64)).toInt = _
  rw [BitVec.toInt_sshiftRight', hs]
  rfl
theorem i64_cond (y : Int64) : (y.toInt = (y.toBitVec.toNat : Int) ∧ y.toBitVec.toNat < 2 ^ 63) ∨ (y.toInt = (y.toBitVec.toNat : Int) - 18446744073709551616 ∧ 2 ^ 63 ≤ y.toBitVec.toNat) := by
  have h := BitVec.toInt_eq_toNat_cond y.toBitVec
  have e : y.toInt = y.toBitVec.toInt := rfl
  have l := y.toBitVec.isLt
  rw [e, h]
  split
  · exact .inl ⟨rfl, by omega⟩
  · exact .inr ⟨by simp, by omega⟩
theorem e52 (b : Int64) : ((b >>> ((52 : Int32).toInt64 &&& 63)).toInt32) &&& 2047 = nI (b.toBitVec.toNat / 2 ^ 52 % 2048) := by
  rw [pk_and _ 11 (by decide +kernel), i32_nat]
  have t := lsh_t b ((52 : Int32).toInt64 &&& 63) 52 (by decide +kernel)
  rw [Int.shiftRight_eq_div_pow] at t
  have t2 : (b >>> ((52 : Int32).toInt64 &&& 63)).toInt = b.toInt / 4503599627370496 := t
  clear t
  generalize b >>> ((52 : Int32).toInt64 &&& 63) = y at *
  have c1 := i64_cond y
  have c2 := i64_cond b
  have l1 := y.toBitVec.isLt
  have l2 := b.toBitVec.isLt
  congr 1
  omega
theorem bl_or (a b : Nat) : lN a ||| lN b = lN (a ||| b) := by
  apply Int64.toBitVec_inj.1
  show BitVec.ofNat 64 a ||| BitVec.ofNat 64 b = BitVec.ofNat 64 (a ||| b)
  apply BitVec.eq_of_getLsbD_eq
  intro i hi
  simp [hi]
theorem or52 {a : Nat} (h : a < 2 ^ 52) : lN a ||| 4503599627370496 = lN (a + 2 ^ 52) := by
  rw [show (4503599627370496 : Int64) = lN (2 ^ 52) from rfl, bl_or]
  have := Nat.two_pow_add_eq_or_of_lt h 1
  rw [Nat.mul_one] at this
  rw [Nat.or_comm, ← this, Nat.add_comm]
theorem neg_bits {x y : UInt64} (hx : x.toNat < 2 ^ 63) (hn : FP.Core.val64 x ≠ .nan) (e : y.toNat = x.toNat + 2 ^ 63) : FP.dneg x = y := by
  have h1 := FP.Core.val64_neg_bits (a := x) (b := y) (.inr e)
  refine FP.Core.val64_inj ?_ ((FP.val64_dneg x).trans h1.symm)
  rw [FP.val64_dneg]
  exact fun z => hn ((FP.Core.negate_nan _).mp z)
theorem c_valueOf {d : Nat} {Q : mQ} {h : mH} {b : Int64} (hb : FP.Core.val64 b.toUInt64 ≠ .nan) (hq : Q (some (.double b.toUInt64)) h) : EV (d + 2) 85 [.long b] h Q := by
  have lt := b.toBitVec.isLt
  have nb := (FP.Core.ne_nan b.toUInt64).mp hb
  rw [u64_nat] at nb
  have e1 := e52 b
  have e2 : b &&& 4503599627370495 = lN (b.toBitVec.toNat % 2 ^ 52) := bl_lo b 52 (by decide +kernel)
  have ex : (UInt64.ofNat (b.toBitVec.toNat % 2 ^ 63)).toNat = b.toBitVec.toNat % 2 ^ 63 := by
    rw [UInt64.toNat_ofNat_of_lt']; show _ < 2 ^ 64; omega
  have hn : FP.Core.val64 (UInt64.ofNat (b.toBitVec.toNat % 2 ^ 63)) ≠ .nan := (FP.Core.ne_nan _).mpr (by rw [ex]; omega)
  have key := dv_bits (x := UInt64.ofNat (b.toBitVec.toNat % 2 ^ 63)) (by rw [ex]; omega) hn
  have fin : ∀ (e : Int32) (g : Int64), WR (d + 1) cd_85 41 [some (.long b), none, some (.int e), some (.long g), none, none, none] [.double (UInt64.ofNat (b.toBitVec.toNat % 2 ^ 63))] h Q := by
    intro e g
    refine w_vo41 b _ e g ?_ ?_
    · intro z
      have z2 := l_le z
      have e0 : (0 : Int64).toInt = 0 := rfl
      have c := i64_cond b
      have : UInt64.ofNat (b.toBitVec.toNat % 2 ^ 63) = b.toUInt64 := UInt64.toNat_inj.mp (by rw [ex, u64_nat]; omega)
      rw [this]; exact hq
    · intro z
      have z2 := l_nle z
      have e0 : (0 : Int64).toInt = 0 := rfl
      have c := i64_cond b
      rw [neg_bits (y := b.toUInt64) (by rw [ex]; omega) hn (by rw [ex, u64_nat]; omega)]
      exact hq
  rw [ex] at key
  refine w_vo b ?_ ?_
  · rw [e1, e2]
    intro c1
    have c2 : ¬ b.toBitVec.toNat / 2 ^ 52 % 2048 = 0 := fun z => c1 (by rw [z]; rfl)
    rw [or52 (by omega), l2d_dv (by omega)]
    have tp : (nI (b.toBitVec.toNat / 2 ^ 52 % 2048) - 1075).toInt = ((b.toBitVec.toNat / 2 ^ 52 % 2048 : Nat) : Int) - 1075 := by
      have q1 : (nI (b.toBitVec.toNat / 2 ^ 52 % 2048)).toInt = ((b.toBitVec.toNat / 2 ^ 52 % 2048 : Nat) : Int) := nI_toInt (by omega)
      have q2 : (1075 : Int32).toInt = 1075 := rfl
      rw [sub_t (by omega) (by omega), q1, q2]
    refine c_scaled (by omega) (.inl rfl) (by omega) (by omega) ?_
    rw [if_neg (by omega), if_neg (by omega)] at key
    have kk : dv (b.toBitVec.toNat % 2 ^ 52 + 2 ^ 52) (0 + (nI (b.toBitVec.toNat / 2 ^ 52 % 2048) - 1075).toInt) = UInt64.ofNat (b.toBitVec.toNat % 2 ^ 63) := by
      rw [key, tp, show b.toBitVec.toNat % 2 ^ 63 % 2 ^ 52 = b.toBitVec.toNat % 2 ^ 52 by omega, show b.toBitVec.toNat % 2 ^ 63 / 2 ^ 52 = b.toBitVec.toNat / 2 ^ 52 % 2048 by omega, Int.zero_add]
    rw [kk]
    exact fin _ _
  · rw [e1, e2]
    intro c1
    have c2 : b.toBitVec.toNat / 2 ^ 52 % 2048 = 0 := (nI_eq (a := b.toBitVec.toNat / 2 ^ 52 % 2048) (b := 0) (by omega) (by omega)).mp c1
    rw [l2d_dv (by omega)]
    have tp : ((1 : Int32) - 1075).toInt = -1074 := by decide +kernel
    refine c_scaled (by omega) (.inl rfl) (by rw [tp]; omega) (by rw [tp]; omega) ?_
    rw [if_pos (by omega), if_pos (by omega)] at key
    have kk : dv (b.toBitVec.toNat % 2 ^ 52) (0 + ((1 : Int32) - 1075).toInt) = UInt64.ofNat (b.toBitVec.toNat % 2 ^ 63) := by
      rw [key, tp, show b.toBitVec.toNat % 2 ^ 63 % 2 ^ 52 = b.toBitVec.toNat % 2 ^ 52 by omega]
      rfl
    rw [kk]
    exact fin _ _
