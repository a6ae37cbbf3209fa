/-! ===== bitsOf by contract ===== -/
theorem zv_dv {c : Nat} {q : Int} (hc : c < 2 ^ 53) (h1 : -1074 ≤ q) (h2 : q ≤ 971) : FP.Core.zval FP.Core.b64 (FP.Core.val64 (dv c q)) = ((c * 2 ^ (q + 1074).toNat : Nat) : Int) := by
  obtain ⟨c', q', e1, e2, e3⟩ := dv_fin hc h1 h2
  rw [e1]
  show FP.Core.signed false (FP.Core.inUnits c' q' FP.Core.b64.qmin) = _
  unfold FP.Core.inUnits FP.Core.signed
  rw [FP.Core.qmin_b64, Int.sub_neg, e2, if_neg (by decide)]
theorem cmp_pw {c L : Nat} {q k : Int} (l1 : 2 ^ L ≤ c) (l2 : c < 2 ^ (L + 1)) (hq : -1074 ≤ q) (hk : -1074 ≤ k) : c * 2 ^ (q + 1074).toNat < 2 ^ (k + 1074).toNat ↔ (L : Int) + q < k := by
  have a : 2 ^ (L + (q + 1074).toNat) ≤ c * 2 ^ (q + 1074).toNat := by rw [Nat.pow_add]; exact Nat.mul_le_mul_right _ l1
  have b : c * 2 ^ (q + 1074).toNat < 2 ^ (L + 1 + (q + 1074).toNat) := by rw [Nat.pow_add]; exact Nat.mul_lt_mul_of_pos_right l2 (Nat.two_pow_pos _)
  constructor
  · intro z
    have := (Nat.pow_lt_pow_iff_right (by decide : 1 < 2)).mp (Nat.lt_of_le_of_lt a z)
    omega
  · intro z
    have : 2 ^ (L + 1 + (q + 1074).toNat) ≤ 2 ^ (k + 1074).toNat := Nat.pow_le_pow_right (by decide) (by omega)
    omega
theorem dlt_dv {c L : Nat} {q k : Int} {y : UInt64} (hc : c < 2 ^ 53) (h1 : -1074 ≤ q) (h2 : q ≤ 971) (l1 : 2 ^ L ≤ c) (l2 : c < 2 ^ (L + 1)) (hk : -1074 ≤ k) (hy : FP.Core.zval FP.Core.b64 (FP.Core.val64 y) = ((2 ^ (k + 1074).toNat : Nat) : Int)) (ny : FP.Core.val64 y ≠ .nan) : dlt (dv c q) y ↔ (L : Int) + q < k := by
  show FP.Core.dcmp _ _ = some .lt ↔ _
  rw [FP.Core.dcmp_lt, zv_dv hc h1 h2, hy, ← cmp_pw l1 l2 h1 hk, Int.ofNat_lt]
  exact ⟨fun z => z.2.2, fun z => ⟨dv_nn _ _, ny, z⟩⟩
theorem dge_dv {c L : Nat} {q k : Int} {y : UInt64} (hc : c < 2 ^ 53) (h1 : -1074 ≤ q) (h2 : q ≤ 971) (l1 : 2 ^ L ≤ c) (l2 : c < 2 ^ (L + 1)) (hk : -1074 ≤ k) (hy : FP.Core.zval FP.Core.b64 (FP.Core.val64 y) = ((2 ^ (k + 1074).toNat : Nat) : Int)) (ny : FP.Core.val64 y ≠ .nan) : dge (dv c q) y ↔ k ≤ (L : Int) + q := by
  show (FP.Core.dcmp _ _ = some .gt ∨ FP.Core.dcmp _ _ = some .eq) ↔ _
  rw [FP.Core.dcmp_ge, zv_dv hc h1 h2, hy, Int.ofNat_le]
  have w := cmp_pw l1 l2 h1 hk
  constructor
  · intro z
    have z3 := z.2.2
    have : ¬ (L : Int) + q < k := fun y => by have := w.mpr y; omega
    omega
  · intro z
    refine ⟨dv_nn _ _, ny, ?_⟩
    have : ¬ c * 2 ^ (q + 1074).toNat < 2 ^ (k + 1074).toNat := fun y => by have := w.mp y; omega
    omega
theorem k_53 : FP.Core.zval FP.Core.b64 (FP.Core.val64 4845873199050653696) = ((2 ^ ((53 : Int) + 1074).toNat : Nat) : Int) ∧ FP.Core.val64 4845873199050653696 ≠ .nan := by decide +kernel
theorem k_20 : FP.Core.zval FP.Core.b64 (FP.Core.val64 4697254411347427328) = ((2 ^ ((20 : Int) + 1074).toNat : Nat) : Int) ∧ FP.Core.val64 4697254411347427328 ≠ .nan := by decide +kernel
theorem k_44 : FP.Core.zval FP.Core.b64 (FP.Core.val64 4805340802404319232) = ((2 ^ ((44 : Int) + 1074).toNat : Nat) : Int) ∧ FP.Core.val64 4805340802404319232 ≠ .nan := by decide +kernel
theorem k_52 : FP.Core.zval FP.Core.b64 (FP.Core.val64 4841369599423283200) = ((2 ^ ((52 : Int) + 1074).toNat : Nat) : Int) ∧ FP.Core.val64 4841369599423283200 ≠ .nan := by decide +kernel
theorem p2_8 : FP.Core.val64 4643211215818981376 = .fin false (2 ^ 52) ((8 : Nat) - 52) := by decide +kernel
theorem p2_1 : FP.Core.val64 4611686018427387904 = .fin false (2 ^ 52) ((1 : Nat) - 52) := by decide +kernel
section BO
variable {d : Nat} {Q : mQ} {h : mH} {c L : Nat} {x : UInt64} {s : Int64} {K : Int}
theorem bo_180 (hc : c < 2 ^ 53) (l1 : 2 ^ L ≤ c) (l2 : c < 2 ^ (L + 1)) (fin : ∀ (e i : Int32), e.toInt + (52 - (L : Int)) = K → WR d cd_88 213 [some (.double x), none, some (.long s), none, some (.double (dv c (52 - (L : Int)))), none, some (.int e), some (.int i), none] [] h Q) :
    ∀ (m i : Nat) (q : Int) (e : Int32), i + m = 8 → 44 + (i : Int) ≤ L + q → (L : Int) + q < 53 → -1074 ≤ q → e.toInt + q = K → -5000 ≤ K ∧ K ≤ 5000 → WR d cd_88 180 [some (.double x), none, some (.long s), none, some (.double (dv c q)), none, some (.int e), some (.int (nI i)), none] [] h Q := by
  intro m
  induction m with
  | zero =>
    intro i q e h1 h2 h3 h4 h5 h6
    obtain rfl : i = 8 := by omega
    refine w_bo180 x _ s e (nI 8) (fun z => absurd z (by decide)) (fun _ => ?_) (fun z => absurd z (by decide)) (fun z => absurd z (by decide))
    obtain rfl : q = 52 - (L : Int) := by omega
    exact fin e _ h5
  | succ m ih =>
    intro i q e h1 h2 h3 h4 h5 h6
    have hd := dlt_dv (k := 52) hc h4 (by omega) l1 l2 (by decide) k_52.1 k_52.2
    have hm : FP.dmul (dv c q) 4611686018427387904 = dv c (q + (1 : Nat)) := dv_mul hc h4 (by omega) p2_1
    refine w_bo180 x _ s e (nI i) ?_ ?_ ?_ ?_
    · intro _ _; rw [hm]; exact nn_vf (dv_nn _ _)
    · intro z
      have := i_le z
      have t1 : (nI i).toInt = i := nI_toInt (by omega)
      have t2 : (8 : Int32).toInt = 8 := rfl
      omega
    · intro _ z
      rw [hd] at z
      obtain rfl : q = 52 - (L : Int) := by omega
      exact fin e _ h5
    · intro _ z
      rw [hd] at z
      rw [hm, nI_1]
      have t3 : (-1 : Int32).toInt = -1 := rfl
      have t4 : (e + (-1)).toInt = e.toInt + (-1 : Int32).toInt := add_t (by omega) (by omega)
      exact ih (i + 1) _ _ (by omega) (by omega) (by omega) (by omega) (by omega) h6
theorem bo_145 (hc : c < 2 ^ 53) (l1 : 2 ^ L ≤ c) (l2 : c < 2 ^ (L + 1)) (fin : ∀ (q : Int) (e : Int32), 44 ≤ L + q → (L : Int) + q < 53 → -1074 ≤ q → e.toInt + q = K → WR d cd_88 180 [some (.double x), none, some (.long s), none, some (.double (dv c q)), none, some (.int e), some (.int 0), none] [] h Q) :
    ∀ (m i : Nat) (q : Int) (e : Int32), i + m = 4 → 20 + 8 * (i : Int) ≤ L + q → (L : Int) + q < 53 → -1074 ≤ q → e.toInt + q = K → -5000 ≤ K ∧ K ≤ 5000 → WR d cd_88 145 [some (.double x), none, some (.long s), none, some (.double (dv c q)), none, some (.int e), some (.int (nI i)), none] [] h Q := by
  intro m
  induction m with
  | zero =>
    intro i q e h1 h2 h3 h4 h5 h6
    obtain rfl : i = 4 := by omega
    exact w_bo145 x _ s e (nI 4) (fun z => absurd z (by decide)) (fun _ => fin q e (by omega) h3 h4 h5) (fun z => absurd z (by decide)) (fun z => absurd z (by decide))
  | succ m ih =>
    intro i q e h1 h2 h3 h4 h5 h6
    have hd := dlt_dv (k := 44) hc h4 (by omega) l1 l2 (by decide) k_44.1 k_44.2
    have hm : FP.dmul (dv c q) 4643211215818981376 = dv c (q + (8 : Nat)) := dv_mul hc h4 (by omega) p2_8
    refine w_bo145 x _ s e (nI i) ?_ ?_ ?_ ?_
    · intro _ _; rw [hm]; exact nn_vf (dv_nn _ _)
    · intro z
      have := i_le z
      have t1 : (nI i).toInt = i := nI_toInt (by omega)
      have t2 : (4 : Int32).toInt = 4 := rfl
      omega
    · intro _ z
      rw [hd] at z
      exact fin q e (by omega) h3 h4 h5
    · intro _ z
      rw [hd] at z
      rw [hm, nI_1]
      have t3 : (-8 : Int32).toInt = -8 := rfl
      have t4 : (e + (-8)).toInt = e.toInt + (-8 : Int32).toInt := add_t (by omega) (by omega)
      exact ih (i + 1) _ _ (by omega) (by omega) (by omega) (by omega) (by omega) h6
theorem bo_109 (hc : c < 2 ^ 53) (l1 : 2 ^ L ≤ c) (l2 : c < 2 ^ (L + 1)) (fin : ∀ (q : Int) (e : Int32), 20 ≤ L + q → (L : Int) + q < 53 → -1074 ≤ q → e.toInt + q = K → WR d cd_88 145 [some (.double x), none, some (.long s), none, some (.double (dv c q)), none, some (.int e), some (.int 0), none] [] h Q) :
    ∀ (m i : Nat) (q : Int) (e : Int32), i + m = 40 → -1074 + 32 * (i : Int) ≤ L + q → (L : Int) + q < 53 → -1074 ≤ q → e.toInt + q = K → -5000 ≤ K ∧ K ≤ 5000 → WR d cd_88 109 [some (.double x), none, some (.long s), none, some (.double (dv c q)), none, some (.int e), some (.int (nI i)), none] [] h Q := by
  intro m
  induction m with
  | zero =>
    intro i q e h1 h2 h3 h4 h5 h6
    omega
  | succ m ih =>
    intro i q e h1 h2 h3 h4 h5 h6
    have hd := dlt_dv (k := 20) hc h4 (by omega) l1 l2 (by decide) k_20.1 k_20.2
    have hm : FP.dmul (dv c q) 4751297606875873280 = dv c (q + (32 : Nat)) := dv_mul hc h4 (by omega) p2_32
    refine w_bo109 x _ s e (nI i) ?_ ?_ ?_ ?_
    · intro _ _; rw [hm]; exact nn_vf (dv_nn _ _)
    · intro z
      have := i_le z
      have t1 : (nI i).toInt = i := nI_toInt (by omega)
      have t2 : (40 : Int32).toInt = 40 := rfl
      omega
    · intro _ z
      rw [hd] at z
      exact fin q e (by omega) h3 h4 h5
    · intro _ z
      rw [hd] at z
      rw [hm, nI_1]
      have t3 : (-32 : Int32).toInt = -32 := rfl
      have t4 : (e + (-32)).toInt = e.toInt + (-32 : Int32).toInt := add_t (by omega) (by omega)
      exact ih (i + 1) _ _ (by omega) (by omega) (by omega) (by omega) (by omega) h6
theorem bo_73 (hc : c < 2 ^ 53) (l1 : 2 ^ L ≤ c) (l2 : c < 2 ^ (L + 1)) (fin : ∀ (q : Int) (e : Int32), (L : Int) + q < 53 → -1074 ≤ q → e.toInt + q = K → WR d cd_88 109 [some (.double x), none, some (.long s), none, some (.double (dv c q)), none, some (.int e), some (.int 0), none] [] h Q) :
    ∀ (m i : Nat) (q : Int) (e : Int32), i + m = 40 → (L : Int) + q ≤ 1023 - 32 * i → -1074 ≤ q → q ≤ 971 → e.toInt + q = K → -5000 ≤ K ∧ K ≤ 5000 → WR d cd_88 73 [some (.double x), none, some (.long s), none, some (.double (dv c q)), none, some (.int e), some (.int (nI i)), none] [] h Q := by
  intro m
  have lL : L < 53 := (Nat.pow_lt_pow_iff_right (by decide : 1 < 2)).mp (Nat.lt_of_le_of_lt l1 hc)
  induction m with
  | zero =>
    intro i q e h1 h2 h3 h4 h5 h6
    obtain rfl : i = 40 := by omega
    exact w_bo73 x _ s e (nI 40) (fun z => absurd z (by decide)) (fun _ => fin q e (by omega) h3 h5) (fun z => absurd z (by decide)) (fun z => absurd z (by decide))
  | succ m ih =>
    intro i q e h1 h2 h3 h4 h5 h6
    have hd := dge_dv (k := 53) hc h3 h4 l1 l2 (by decide) k_53.1 k_53.2
    have hm : FP.ddiv (dv c q) 4751297606875873280 = dv c (q - (32 : Nat)) := dv_div hc h3 h4 p2_32
    refine w_bo73 x _ s e (nI i) ?_ ?_ ?_ ?_
    · intro _ _; rw [hm]; exact nn_vf (dv_nn _ _)
    · intro z
      have := i_le z
      have t1 : (nI i).toInt = i := nI_toInt (by omega)
      have t2 : (40 : Int32).toInt = 40 := rfl
      omega
    · intro _ z
      rw [hd] at z
      exact fin q e (by omega) h3 h5
    · intro _ z
      rw [hd] at z
      rw [hm, nI_1]
      have t3 : (32 : Int32).toInt = 32 := rfl
      have t4 : (e + 32).toInt = e.toInt + (32 : Int32).toInt := add_t (by omega) (by omega)
      exact ih (i + 1) _ _ (by omega) (by omega) (by omega) (by omega) (by omega) h6
end BO
theorem or63 {a : Nat} (h : a < 2 ^ 63) : (-9223372036854775808 : Int64) ||| lN a = lN (a + 2 ^ 63) := by
  rw [show (-9223372036854775808 : Int64) = lN (2 ^ 63) by decide +kernel, bl_or]
  have := Nat.two_pow_add_eq_or_of_lt h 1
  rw [Nat.mul_one] at this
  rw [← this, Nat.add_comm]
theorem orL {a b : Nat} (h : b < 2 ^ 52) : lN (a * 2 ^ 52) ||| lN b = lN (a * 2 ^ 52 + b) := by
  rw [bl_or]
  have := Nat.two_pow_add_eq_or_of_lt h a
  rw [Nat.mul_comm, ← this]
theorem zero_or (a : Int64) : (0 : Int64) ||| a = a := by
  apply Int64.toBitVec_inj.1
  show (0 : BitVec 64) ||| a.toBitVec = a.toBitVec
  simp
theorem shl52 {e : Nat} (h : e < 2048) : (nI e).toInt64 <<< ((52 : Int32).toInt64 &&& 63) = lN (e * 2 ^ 52) := by
  have all : ∀ e, e < 2048 → (nI e).toInt64 <<< ((52 : Int32).toInt64 &&& 63) = lN (e * 2 ^ 52) := by decide +kernel
  exact all e h
theorem shrN {a k : Nat} {D : Int64} (hD : (D.toBitVec.smod 64).toNat = k) (h : a < 2 ^ 63) : lN a >>> D = lN (a / 2 ^ k) := by
  have t := lsh_t (lN a) D k hD
  rw [pk_lT h, Int.shiftRight_eq_div_pow] at t
  have hl : a / 2 ^ k ≤ a := Nat.div_le_self _ _
  refine l_inj ?_
  rw [t, pk_lT (by omega), Int.natCast_ediv]
theorem smod_k {k : Nat} (h : k < 64) : ((((nI k).toInt64 &&& 63)).toBitVec.smod 64).toNat = k := by
  have all : ∀ k, k < 64 → ((((nI k).toInt64 &&& 63)).toBitVec.smod 64).toNat = k := by decide +kernel
  exact all k h
theorem or_as (a b c : Int64) : (a ||| b) ||| c = a ||| (b ||| c) := by
  apply Int64.toBitVec_inj.1
  show (a.toBitVec ||| b.toBitVec) ||| c.toBitVec = a.toBitVec ||| (b.toBitVec ||| c.toBitVec)
  exact BitVec.or_assoc _ _ _
theorem lN_tn {c : Nat} (h : c < 2 ^ 64) : (lN c).toBitVec.toNat = c := by
  show (BitVec.ofNat 64 c).toNat = c
  rw [BitVec.toNat_ofNat]
  exact Nat.mod_eq_of_lt h
theorem lN_i64 (x : UInt64) : lN x.toNat = x.toInt64 := lN_self x.toInt64
theorem bo_fin {d : Nat} {Q : mQ} {h : mH} {c L M : Nat} {x : UInt64} {s : Int64} {e i : Int32} (hL : L ≤ 52) (l1 : 2 ^ L ≤ c) (l2 : c < 2 ^ (L + 1)) (hM : M < 2 ^ 63)
    (hc : c = if M / 2 ^ 52 = 0 then M % 2 ^ 52 else M % 2 ^ 52 + 2 ^ 52) (he : e.toInt + (52 - (L : Int)) = if M / 2 ^ 52 = 0 then (1 : Int) else ((M / 2 ^ 52 : Nat) : Int)) (hq : Q (some (.long (s ||| lN M))) h) :
    WR d cd_88 213 [some (.double x), none, some (.long s), none, some (.double (dv c (52 - (L : Int)))), none, some (.int e), some (.int i), none] [] h Q := by
  have c53 : c < 2 ^ 53 := by
    have : 2 ^ (L + 1) ≤ 2 ^ 53 := Nat.pow_le_pow_right (by decide) (by omega)
    omega
  have m1 : c * 2 ^ (52 - L) < 2 ^ 53 := by
    calc c * 2 ^ (52 - L) < 2 ^ (L + 1) * 2 ^ (52 - L) := Nat.mul_lt_mul_of_pos_right l2 (Nat.two_pow_pos _)
      _ = 2 ^ 53 := by rw [← Nat.pow_add, show L + 1 + (52 - L) = 53 by omega]
  have e1 : dv c (52 - (L : Int)) = FP.l2d (lN (c * 2 ^ (52 - L))) := by
    rw [l2d_dv (by omega)]
    refine dv_c ?_
    rw [show (52 - (L : Int) - 0).toNat = 52 - L by omega, show (0 - (52 - (L : Int))).toNat = 0 by omega, Nat.pow_zero, Nat.mul_one]
  have e2 : FP.d2l (dv c (52 - (L : Int))) = lN (c * 2 ^ (52 - L)) := by
    rw [e1]
    refine FP.Core.d2l_l2d ?_
    rw [pk_lT (by omega)]
    show c * 2 ^ (52 - L) ≤ 2 ^ 53
    omega
  have e0 : (0 : Int32).toInt = 0 := rfl
  have e11 : (1 : Int32).toInt = 1 := rfl
  by_cases z : M / 2 ^ 52 = 0
  · rw [if_pos z] at hc he
    have hL2 : L ≤ 51 := by
      have : 2 ^ L < 2 ^ 52 := by omega
      have := (Nat.pow_lt_pow_iff_right (by decide : 1 < 2)).mp this
      omega
    refine w_bo213 x _ s e i ?_ ?_
    · intro w
      have := i_lt w
      omega
    · intro _
      have t1 : (1 - e).toInt = ((52 - L : Nat) : Int) := by rw [sub_t (by omega) (by omega)]; omega
      have t2 : 1 - e = nI (52 - L) := i_inj (by rw [t1, nI_toInt (by omega)])
      rw [e2, t2, shrN (smod_k (by omega)) (by omega), Nat.mul_div_cancel _ (Nat.two_pow_pos _)]
      rw [hc, show M % 2 ^ 52 = M by omega]
      exact hq
  · rw [if_neg z] at hc he
    have hL2 : L = 52 := by
      have : 2 ^ 52 < 2 ^ (L + 1) := by omega
      have := (Nat.pow_lt_pow_iff_right (by decide : 1 < 2)).mp this
      omega
    subst hL2
    have t2 : e = nI (M / 2 ^ 52) := i_inj (by rw [nI_toInt (by omega)]; omega)
    refine w_bo213 x _ s e i ?_ ?_
    · intro _
      rw [e2, t2, shl52 (by omega), bl_lo _ 52 (by decide +kernel), lN_tn (by omega), or_as, orL (by omega)]
      rw [show M / 2 ^ 52 * 2 ^ 52 + c * 2 ^ (52 - 52) % 2 ^ 52 = M by rw [hc]; omega]
      exact hq
    · intro w
      exact absurd (Int32.lt_iff_toInt_lt.mpr (by omega)) w
theorem bo_core {d : Nat} {Q : mQ} {h : mH} {x y : UInt64} {s : Int64} (h0 : 0 < y.toNat) (hy : y.toNat < 9218868437227405312) (hq : Q (some (.long (s ||| lN y.toNat))) h) :
    WR d cd_88 73 [some (.double x), none, some (.long s), none, some (.double y), none, some (.int 1075), some (.int 0), none] [] h Q := by
  have hn : FP.Core.val64 y ≠ .nan := (FP.Core.ne_nan y).mpr (by omega)
  have key := dv_bits (x := y) (by omega) hn
  generalize hM : y.toNat = M at *
  generalize hcc : (if M / 2 ^ 52 = 0 then M % 2 ^ 52 else M % 2 ^ 52 + 2 ^ 52) = c at key
  have c0 : c ≠ 0 := by rw [← hcc]; split <;> omega
  have c53 : c < 2 ^ 53 := by rw [← hcc]; split <;> omega
  have l1 : 2 ^ c.log2 ≤ c := Nat.log2_self_le c0
  have l2 : c < 2 ^ (c.log2 + 1) := Nat.lt_log2_self
  have hL : c.log2 ≤ 52 := by
    have := (Nat.pow_lt_pow_iff_right (by decide : 1 < 2)).mp (Nat.lt_of_le_of_lt l1 c53)
    omega
  generalize c.log2 = L at *
  have hE : -1074 ≤ (if M / 2 ^ 52 = 0 then (1 : Int) else ((M / 2 ^ 52 : Nat) : Int)) - 1075 ∧ (if M / 2 ^ 52 = 0 then (1 : Int) else ((M / 2 ^ 52 : Nat) : Int)) - 1075 ≤ 971 := by split <;> omega
  have tE : (1075 : Int32).toInt = 1075 := rfl
  rw [key]
  generalize hEE : (if M / 2 ^ 52 = 0 then (1 : Int) else ((M / 2 ^ 52 : Nat) : Int)) = E at *
  refine bo_73 (K := E) c53 l1 l2 ?_ 40 0 (E - 1075) 1075 rfl (by omega) hE.1 hE.2 (by omega) (by omega)
  intro q e q1 q2 q3
  refine bo_109 (K := E) c53 l1 l2 ?_ 40 0 q e rfl (by omega) q1 q2 q3 (by omega)
  intro q e q1 q2 q3 q4
  refine bo_145 (K := E) c53 l1 l2 ?_ 4 0 q e rfl (by omega) q2 q3 q4 (by omega)
  intro q e q1 q2 q3 q4
  refine bo_180 (K := E) c53 l1 l2 ?_ 8 0 q e rfl (by omega) q2 q3 q4 (by omega)
  intro e i q1
  exact bo_fin hL l1 l2 (by omega) hcc.symm (by rw [hEE]; exact q1) hq
theorem dk0 : FP.Core.dkey 0 = 0 := by decide +kernel
theorem c_bitsOf {d : Nat} {Q : mQ} {h : mH} {x : UInt64} (hx : FP.Core.val64 x ≠ .nan) (hq : Q (some (.long x.toInt64)) h) : EV (d + 1) 88 [.double x] h Q := by
  have nb := (FP.Core.ne_nan x).mp hx
  have n0 : FP.Core.val64 0 ≠ .nan := by decide +kernel
  have lx := x.toNat_lt
  have kx : FP.Core.dkey x = if 2 ^ 63 ≤ x.toNat then ((2 ^ 63 : Nat) : Int) - (x.toNat : Int) else (x.toNat : Int) := rfl
  have q0 : deq x 0 ↔ FP.Core.dkey x = 0 := by
    have := FP.Core.dcmp_eq_key hx n0
    rw [dk0] at this; exact this
  have ql : dlt x 0 ↔ FP.Core.dkey x < 0 := by
    have := FP.Core.dcmp_lt_key hx n0
    rw [dk0] at this; exact this
  have nm : FP.Core.val64 9218868437227405311 ≠ .nan := by decide +kernel
  have km : FP.Core.dkey 9218868437227405311 = 9218868437227405311 := by decide +kernel
  have z0 : deq x 0 → x = 0 ∨ x = 9223372036854775808 := fun z => FP.Core.zero_bits z
  refine w_bo0 x ?_ ?_ ?_ ?_ ?_ ?_ ?_ ?_ ?_ ?_ ?_
  · intro z
    rcases z0 z with rfl | rfl <;> exact nn_vf (by decide +kernel)
  · intro a b _ g
    rw [q0] at a; rw [ql] at b
    have g2 : ¬ (FP.Core.dkey 9218868437227405311 < FP.Core.dkey x) := fun w => g ((FP.Core.dcmp_gt_key hx nm).mpr w)
    rw [km] at g2
    split at kx
    · omega
    · refine bo_core (by omega) (by omega) ?_
      rw [zero_or, lN_i64]; exact hq
  · intro a b _ g
    rw [q0] at a; rw [ql] at b
    have g2 := (FP.Core.dcmp_gt_key hx nm).mp g
    rw [km] at g2
    split at kx
    · omega
    · rw [zero_or, show (9218868437227405312 : Int64) = lN x.toNat by rw [show x.toNat = 9218868437227405312 by omega]; rfl, lN_i64]
      exact hq
  · intro a b c _; exact absurd c b
  · intro a b c _; exact absurd c b
  · intro a b c _; exact absurd b c
  · intro a b c _; exact absurd b c
  · intro a b _ g
    rw [q0] at a; rw [ql] at b
    split at kx
    · have hd : (UInt64.ofNat (x.toNat - 2 ^ 63)).toNat = x.toNat - 2 ^ 63 := by rw [UInt64.toNat_ofNat_of_lt']; show _ < 2 ^ 64; omega
      have hn : FP.Core.val64 (UInt64.ofNat (x.toNat - 2 ^ 63)) ≠ .nan := (FP.Core.ne_nan _).mpr (by rw [hd]; omega)
      have e1 : FP.dneg (UInt64.ofNat (x.toNat - 2 ^ 63)) = x := neg_bits (by rw [hd]; omega) hn (by rw [hd]; omega)
      have e2 : FP.dneg x = UInt64.ofNat (x.toNat - 2 ^ 63) := by
        refine FP.Core.val64_inj ?_ ?_
        · rw [FP.val64_dneg]; exact fun w => hx ((FP.Core.negate_nan _).mp w)
        · have e3 := FP.val64_dneg (UInt64.ofNat (x.toNat - 2 ^ 63))
          rw [e1] at e3
          rw [FP.val64_dneg, e3, FP.Core.negate_negate]
      have nd : FP.Core.val64 (FP.dneg x) ≠ .nan := by rw [e2]; exact hn
      have g2 : ¬ (FP.Core.dkey 9218868437227405311 < FP.Core.dkey (FP.dneg x)) := fun w => g ((FP.Core.dcmp_gt_key nd nm).mpr w)
      rw [km, e2] at g2
      have k2 : FP.Core.dkey (UInt64.ofNat (x.toNat - 2 ^ 63)) = ((x.toNat - 2 ^ 63 : Nat) : Int) := by
        unfold FP.Core.dkey
        rw [hd, if_neg (by omega)]
      rw [k2] at g2
      rw [e2]
      refine bo_core (by rw [hd]; omega) (by rw [hd]; omega) ?_
      rw [hd, or63 (by omega), show x.toNat - 2 ^ 63 + 2 ^ 63 = x.toNat by omega, lN_i64]
      exact hq
    · omega
  · intro a b _ g
    rw [q0] at a; rw [ql] at b
    split at kx
    · have hd : (UInt64.ofNat (x.toNat - 2 ^ 63)).toNat = x.toNat - 2 ^ 63 := by rw [UInt64.toNat_ofNat_of_lt']; show _ < 2 ^ 64; omega
      have hn : FP.Core.val64 (UInt64.ofNat (x.toNat - 2 ^ 63)) ≠ .nan := (FP.Core.ne_nan _).mpr (by rw [hd]; omega)
      have e1 : FP.dneg (UInt64.ofNat (x.toNat - 2 ^ 63)) = x := neg_bits (by rw [hd]; omega) hn (by rw [hd]; omega)
      have e2 : FP.dneg x = UInt64.ofNat (x.toNat - 2 ^ 63) := by
        refine FP.Core.val64_inj ?_ ?_
        · rw [FP.val64_dneg]; exact fun w => hx ((FP.Core.negate_nan _).mp w)
        · have e3 := FP.val64_dneg (UInt64.ofNat (x.toNat - 2 ^ 63))
          rw [e1] at e3
          rw [FP.val64_dneg, e3, FP.Core.negate_negate]
      have nd : FP.Core.val64 (FP.dneg x) ≠ .nan := by rw [e2]; exact hn
      have g2 := (FP.Core.dcmp_gt_key nd nm).mp g
      rw [km, e2] at g2
      have k2 : FP.Core.dkey (UInt64.ofNat (x.toNat - 2 ^ 63)) = ((x.toNat - 2 ^ 63 : Nat) : Int) := by
        unfold FP.Core.dkey
        rw [hd, if_neg (by omega)]
      rw [k2] at g2
      have : x.toNat = 18442240474082181120 := by omega
      rw [show (-9223372036854775808 : Int64) ||| 9218868437227405312 = lN x.toNat by rw [this]; decide +kernel, lN_i64]
      exact hq
    · omega
  · intro z w
    rcases z0 z with rfl | rfl
    · exact hq
    · exact absurd (show dlt (FP.ddiv 4607182418800017408 9223372036854775808) 0 by unfold dlt; decide +kernel) w
  · intro z w
    rcases z0 z with rfl | rfl
    · exact absurd w (by unfold dlt; decide +kernel)
    · exact hq
