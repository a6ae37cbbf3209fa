/-! ===== bits of longs and ints; what a lane keeps; printed ===== -/
theorem lN_self (b : Int64) : lN b.toBitVec.toNat = b := by
  apply Int64.toBitVec_inj.1
  show BitVec.ofNat 64 b.toBitVec.toNat = b.toBitVec
  simp
theorem nI_self (b : Int32) : nI b.toBitVec.toNat = b := by
  apply Int32.toBitVec_inj.1
  show BitVec.ofNat 32 b.toBitVec.toNat = b.toBitVec
  simp
theorem and_hi (n k w : Nat) : n &&& ((2 ^ w - 1) * 2 ^ k) = (n / 2 ^ k % 2 ^ w) * 2 ^ k := by
  apply Nat.eq_of_testBit_eq
  intro i
  rw [Nat.testBit_and, Nat.testBit_mul_two_pow, Nat.testBit_mul_two_pow, Nat.testBit_mod_two_pow, Nat.testBit_div_two_pow, Nat.testBit_two_pow_sub_one]
  by_cases h : k ≤ i
  · rw [show i - k + k = i by omega]
    simp only [h, decide_true, Bool.true_and]
    exact Bool.and_comm _ _
  · simp [h]
theorem bl_and (a b : Nat) : lN a &&& lN b = lN (a &&& b) := by
  apply Int64.toBitVec_inj.1
  show BitVec.ofNat 64 a &&& BitVec.ofNat 64 b = BitVec.ofNat 64 (a &&& b)
  apply BitVec.eq_of_getLsbD_eq
  intro i hi
  simp [hi]
theorem bl_lo (b : Int64) {m : Int64} (k : Nat) (hm : m = lN (2 ^ k - 1)) : b &&& m = lN (b.toBitVec.toNat % 2 ^ k) := by
  subst hm
  rw [← Nat.and_two_pow_sub_one_eq_mod, ← bl_and, lN_self]
theorem bl_hi (b : Int64) {m : Int64} (k w : Nat) (hm : m = lN ((2 ^ w - 1) * 2 ^ k)) : b &&& m = lN ((b.toBitVec.toNat / 2 ^ k % 2 ^ w) * 2 ^ k) := by
  subst hm
  rw [← and_hi, ← bl_and, lN_self]
theorem i32_nat (b : Int64) : b.toInt32.toBitVec.toNat = b.toBitVec.toNat % 4294967296 := by
  show (b.toBitVec.signExtend 32).toNat = _
  rw [BitVec.signExtend_eq_setWidth_of_le _ (by decide), BitVec.toNat_setWidth]
theorem fl64 (b : Int64) : (9218868437227405312 < (b &&& 9223372036854775807)) ↔ ((b &&& 9218868437227405312) = 9218868437227405312 ∧ ¬ (b &&& 4503599627370495) = 0) := by
  have hb := b.toBitVec.isLt
  rw [bl_lo b 63 (by decide +kernel), bl_hi b 52 11 (by decide +kernel), bl_lo b 52 (by decide +kernel)]
  generalize b.toBitVec.toNat = N at *
  rw [show (9218868437227405312 : Int64) = lN 9218868437227405312 from rfl, show (0 : Int64) = lN 0 from rfl, pk_lLT (by omega) (by omega), pk_lEQ (by omega) (by omega), pk_lEQ (by omega) (by omega)]
  omega
theorem fl32 (b : Int64) : (2139095040 < (b.toInt32 &&& 2147483647)) ↔ ((b &&& 2139095040) = 2139095040 ∧ ¬ (b &&& 8388607) = 0) := by
  rw [pk_and b.toInt32 31 (by decide +kernel), i32_nat, bl_hi b 23 8 (by decide +kernel), bl_lo b 23 (by decide +kernel)]
  generalize b.toBitVec.toNat = N at *
  rw [show (2139095040 : Int64) = lN 2139095040 from rfl, show (0 : Int64) = lN 0 from rfl, show (2139095040 : Int32) = nI 2139095040 from rfl, nI_ltI (by omega) (by omega), pk_lEQ (by omega) (by omega), pk_lEQ (by omega) (by omega)]
  omega
/-- what a lane keeps of a long's bits -/
def fitV (l : Int32) (b : Int64) : Int64 :=
  if l = 0 then b.toInt32.toInt8.toInt32.toInt64 else if l = 1 then b.toInt32.toInt16.toInt32.toInt64 else if l = 2 then ((b.toInt32.toUInt32 % 65536).toInt32).toInt64 else if l = 3 then b.toInt32.toInt64 else if l = 4 then b
  else if l = 5 then (if 2139095040 < (b.toInt32 &&& 2147483647) then 2143289344 else b.toInt32.toInt64)
  else if l = 6 then (if 9218868437227405312 < (b &&& 9223372036854775807) then 9221120237041090560 else b) else b &&& 1
theorem fitV_5 (b : Int64) : fitV 5 b = if 2139095040 < (b.toInt32 &&& 2147483647) then 2143289344 else b.toInt32.toInt64 := by
  unfold fitV
  rw [if_neg (by decide), if_neg (by decide), if_neg (by decide), if_neg (by decide), if_neg (by decide), if_pos (by decide)]
theorem fitV_6 (b : Int64) : fitV 6 b = if 9218868437227405312 < (b &&& 9223372036854775807) then 9221120237041090560 else b := by
  unfold fitV
  rw [if_neg (by decide), if_neg (by decide), if_neg (by decide), if_neg (by decide), if_neg (by decide), if_neg (by decide), if_pos (by decide)]
theorem u64_nat (b : Int64) : b.toUInt64.toNat = b.toBitVec.toNat := rfl
theorem num64 (b : Int64) : ¬ (9218868437227405312 < (b &&& 9223372036854775807)) ↔ FP.Core.val64 b.toUInt64 ≠ .nan := by
  have hb := b.toBitVec.isLt
  rw [FP.Core.ne_nan, u64_nat, bl_lo b 63 (by decide +kernel)]
  generalize b.toBitVec.toNat = N at *
  rw [show (9218868437227405312 : Int64) = lN 9218868437227405312 from rfl, pk_lLT (by omega) (by omega)]
  omega
theorem canL_fit {ln : Nat} (h : ln < 8) (b : Int64) : canL ln (fitV (nI ln) b) := by
  refine ⟨fun e => ?_, fun e => ?_⟩
  · subst e
    have e1 : fitV (nI 5) b = if 2139095040 < (b.toInt32 &&& 2147483647) then 2143289344 else b.toInt32.toInt64 := by
      unfold fitV
      rw [if_neg (by decide), if_neg (by decide), if_neg (by decide), if_neg (by decide), if_neg (by decide), if_pos (by decide)]
    rw [e1]
    by_cases q : 2139095040 < (b.toInt32 &&& 2147483647)
    · rw [if_pos q]
      exact ⟨by decide, .inl rfl⟩
    · rw [if_neg q]
      refine ⟨by rw [lg_l2i_i2l], .inr ?_⟩
      rw [lg_l2i_i2l]
      intro z
      apply q
      rw [pk_and b.toInt32 31 (by decide +kernel)]
      have z2 : 2139095040 < (b.toInt32.toUInt32 &&& 2147483647).toNat := UInt32.lt_iff_toNat_lt.mp z
      rw [UInt32.toNat_and] at z2
      have e3 : (2147483647 : UInt32).toNat = 2 ^ 31 - 1 := rfl
      rw [e3, Nat.and_two_pow_sub_one_eq_mod] at z2
      have e4 : b.toInt32.toUInt32.toNat = b.toInt32.toBitVec.toNat := rfl
      rw [e4] at z2
      rw [show (2139095040 : Int32) = nI 2139095040 from rfl, nI_ltI (by omega) (by omega)]
      exact z2
  · subst e
    have e1 : fitV (nI 6) b = if 9218868437227405312 < (b &&& 9223372036854775807) then 9221120237041090560 else b := by
      unfold fitV
      rw [if_neg (by decide), if_neg (by decide), if_neg (by decide), if_neg (by decide), if_neg (by decide), if_neg (by decide), if_pos (by decide)]
    rw [e1]
    by_cases q : 9218868437227405312 < (b &&& 9223372036854775807)
    · rw [if_pos q]; exact .inl rfl
    · rw [if_neg q]; exact .inr ((num64 b).mp q)
set_option maxHeartbeats 1000000 in
theorem x_fitted {d : Nat} {Q : mQ} {n : Nat} {ad sa : Nat → Nat} {z0 : Nat} {h : mH} (fx : FX n ad sa z0 h) (l : Int32) (b : Int64) 
    
    (L1 : (l.toInt < 0 ∨ 6 < l.toInt) → Q (some (.long (b &&& 1))) h) (L2 : l = 0 → Q (some (.long b.toInt32.toInt8.toInt32.toInt64)) h) (L3 : l = 1 → Q (some (.long b.toInt32.toInt16.toInt32.toInt64)) h) (L4 : l = 2 → Q (some (.long (((b.toInt32.toUInt32 % 65536).toInt32).toInt64))) h) (L5 : l = 3 → Q (some (.long b.toInt32.toInt64)) h) (L6 : l = 4 → Q (some (.long b)) h) (L7 : l = 5 → 2139095040 < (b.toInt32 &&& 2147483647) → Q (some (.long 2143289344)) h) (L8 : l = 5 → ¬ 2139095040 < (b.toInt32 &&& 2147483647) → Q (some (.long b.toInt32.toInt64)) h) (L9 : l = 6 → 9218868437227405312 < (b &&& 9223372036854775807) → Q (some (.long 9221120237041090560)) h) (L10 : l = 6 → ¬ 9218868437227405312 < (b &&& 9223372036854775807) → Q (some (.long b)) h) : EV (d + 3) 36 [.int l, .long b] h Q := by
  refine in_36 (Nat.le_of_ble_eq_true rfl) ?_
  show WR _ cd_36 0 [some (.int l), some (.long b), none] [] h _
  refine r_iload rfl rfl ?_
  refine r_tsw (tg := 98) rfl rfl (fun c1 => ?_) (fun c1 => ?_)
  · refine r_lload rfl rfl ?_
    refine r_lc (x := 1) rfl rfl ?_
    refine r_land rfl ?_
    refine r_lret rfl ?_
    exact L1 c1
  · rcases tsw_0_6 c1 with e_ | e_ | e_ | e_ | e_ | e_ | e_
    · have c2 : l = 0 := e_
      refine WR_pc (q := 44) (by rw [c2]; rfl) ?_
      refine r_lload rfl rfl ?_
      refine r_l2i rfl ?_
      refine r_i2b rfl ?_
      refine r_i2l rfl ?_
      refine r_lret rfl ?_
      exact L2 c2
    · have c3 : l = 1 := e_
      refine WR_pc (q := 49) (by rw [c3]; rfl) ?_
      refine r_lload rfl rfl ?_
      refine r_l2i rfl ?_
      refine r_i2s rfl ?_
      refine r_i2l rfl ?_
      refine r_lret rfl ?_
      exact L3 c3
    · have c4 : l = 2 := e_
      refine WR_pc (q := 54) (by rw [c4]; rfl) ?_
      refine r_lload rfl rfl ?_
      refine r_l2i rfl ?_
      refine r_i2c rfl ?_
      refine r_i2l rfl ?_
      refine r_lret rfl ?_
      exact L4 c4
    · have c5 : l = 3 := e_
      refine WR_pc (q := 59) (by rw [c5]; rfl) ?_
      refine r_lload rfl rfl ?_
      refine r_l2i rfl ?_
      refine r_i2l rfl ?_
      refine r_lret rfl ?_
      exact L5 c5
    · have c6 : l = 4 := e_
      refine WR_pc (q := 63) (by rw [c6]; rfl) ?_
      refine r_lload rfl rfl ?_
      refine r_lret rfl ?_
      exact L6 c6
    · have c7 : l = 5 := e_
      refine WR_pc (q := 65) (by rw [c7]; rfl) ?_
      refine r_lload rfl rfl ?_
      refine r_l2i rfl ?_
      refine r_cs (y := 37) (ra := [.int b.toInt32]) (rest := []) rfl ⟨⟨rfl, rfl⟩, by decide⟩ rfl rfl (Nat.le_of_ble_eq_true rfl) ?_
      refine in_37 (Nat.le_of_ble_eq_true rfl) ?_
      show WR _ cd_37 0 [some (.int b.toInt32)] [] h _
      refine r_iload rfl rfl ?_
      refine r_ic (x := 2147483647) rfl rfl ?_
      refine r_iand rfl ?_
      refine r_ic (x := 2139095040) rfl rfl ?_
      refine r_icmp_gt (tg := 13) rfl rfl (fun c8 => ?_) (fun c8 => ?_)
      · refine r_ic (x := 0) rfl rfl ?_
        refine r_zret rfl (.inl rfl) ?_
        show WR _ cd_36 70 [some (.int l), some (.long b), none] [.int 0] h _
        refine r_if_eq (tg := 79) rfl rfl (fun _ => ?_) (fun q => absurd q (by decide))
        refine r_ldc (x := .long 2143289344) rfl rfl ?_
        refine r_lret rfl ?_
        exact L7 c7 c8
      · refine r_ic (x := 1) rfl rfl ?_
        refine r_goto (tg := 14) rfl rfl ?_
        refine r_zret rfl (.inr rfl) ?_
        show WR _ cd_36 70 [some (.int l), some (.long b), none] [.int 1] h _
        refine r_if_eq (tg := 79) rfl rfl (fun q => absurd q (by decide)) (fun _ => ?_)
        refine r_lload rfl rfl ?_
        refine r_l2i rfl ?_
        refine r_i2l rfl ?_
        refine r_goto (tg := 82) rfl rfl ?_
        refine r_lret rfl ?_
        exact L8 c7 c8
    · have c9 : l = 6 := e_
      refine WR_pc (q := 83) (by rw [c9]; rfl) ?_
      refine r_lload rfl rfl ?_
      refine r_cs (y := 38) (ra := [.long b]) (rest := []) rfl ⟨⟨rfl, rfl⟩, by decide⟩ rfl rfl (Nat.le_of_ble_eq_true rfl) ?_
      refine in_38 (Nat.le_of_ble_eq_true rfl) ?_
      show WR _ cd_38 0 [some (.long b), none] [] h _
      refine r_lload rfl rfl ?_
      refine r_cs (y := 39) (ra := [.long b]) (rest := []) rfl ⟨⟨rfl, rfl⟩, by decide⟩ rfl rfl (Nat.le_of_ble_eq_true rfl) ?_
      refine in_39 (Nat.le_of_ble_eq_true rfl) ?_
      show WR _ cd_39 0 [some (.long b), none] [] h _
      refine r_lload rfl rfl ?_
      refine r_ldc (x := .long 9223372036854775807) rfl rfl ?_
      refine r_land rfl ?_
      refine r_lret rfl ?_
      show WR _ cd_38 4 [some (.long b), none] [.long (b &&& 9223372036854775807)] h _
      refine r_ldc (x := .long 9218868437227405312) rfl rfl ?_
      refine r_lif_gt (tg := 15) rfl rfl rfl (fun c10 => ?_) (fun c10 => ?_)
      · refine r_ic (x := 0) rfl rfl ?_
        refine r_zret rfl (.inl rfl) ?_
        show WR _ cd_36 87 [some (.int l), some (.long b), none] [.int 0] h _
        refine r_if_eq (tg := 94) rfl rfl (fun _ => ?_) (fun q => absurd q (by decide))
        refine r_ldc (x := .long 9221120237041090560) rfl rfl ?_
        refine r_lret rfl ?_
        exact L9 c9 c10
      · refine r_ic (x := 1) rfl rfl ?_
        refine r_goto (tg := 16) rfl rfl ?_
        refine r_zret rfl (.inr rfl) ?_
        show WR _ cd_36 87 [some (.int l), some (.long b), none] [.int 1] h _
        refine r_if_eq (tg := 94) rfl rfl (fun q => absurd q (by decide)) (fun _ => ?_)
        refine r_lload rfl rfl ?_
        refine r_goto (tg := 97) rfl rfl ?_
        refine r_lret rfl ?_
        exact L10 c9 c10

set_option maxHeartbeats 1000000 in
theorem m_cut {d : Nat} {Q : mQ} {n : Nat} {ad sa : Nat → Nat} {z0 : Nat} {h : mH} (fx : FX n ad sa z0 h) (l : Int32) (b : Int64) 
    
    (L1 : (l.toInt < 0 ∨ 7 < l.toInt) → Q (some (.long b)) h) (L2 : l = 0 → Q (some (.long b.toInt32.toInt8.toInt32.toInt64)) h) (L3 : l = 1 → Q (some (.long b.toInt32.toInt16.toInt32.toInt64)) h) (L4 : l = 2 → Q (some (.long (((b.toInt32.toUInt32 % 65536).toInt32).toInt64))) h) (L5 : l = 3 → Q (some (.long b.toInt32.toInt64)) h) (L6 : l = 4 → Q (some (.long b)) h) (L7 : l = 5 → ¬ (b &&& 2139095040) = 2139095040 → Q (some (.long b.toInt32.toInt64)) h) (L8 : l = 5 → (b &&& 2139095040) = 2139095040 → (b &&& 8388607) = 0 → Q (some (.long b.toInt32.toInt64)) h) (L9 : l = 5 → (b &&& 2139095040) = 2139095040 → ¬ (b &&& 8388607) = 0 → Q (some (.long 2143289344)) h) (L10 : l = 6 → ¬ (b &&& 9218868437227405312) = 9218868437227405312 → Q (some (.long b)) h) (L11 : l = 6 → (b &&& 9218868437227405312) = 9218868437227405312 → (b &&& 4503599627370495) = 0 → Q (some (.long b)) h) (L12 : l = 6 → (b &&& 9218868437227405312) = 9218868437227405312 → ¬ (b &&& 4503599627370495) = 0 → Q (some (.long 9221120237041090560)) h) (L13 : l = 7 → Q (some (.long (b &&& 1))) h) : EV (d + 1) 169 [.int l, .long b] h Q := by
  refine in_169 (Nat.le_of_ble_eq_true rfl) ?_
  show WR _ cd_169 0 [some (.int l), some (.long b), none] [] h _
  refine r_iload rfl rfl ?_
  refine r_tsw (tg := 133) rfl rfl (fun c1 => ?_) (fun c1 => ?_)
  · refine r_lload rfl rfl ?_
    refine r_lret rfl ?_
    exact L1 c1
  · rcases tsw_0_7 c1 with e_ | e_ | e_ | e_ | e_ | e_ | e_ | e_
    · have c2 : l = 0 := e_
      refine WR_pc (q := 48) (by rw [c2]; rfl) ?_
      refine r_lload rfl rfl ?_
      refine r_l2i rfl ?_
      refine r_i2b rfl ?_
      refine r_i2l rfl ?_
      refine r_lret rfl ?_
      exact L2 c2
    · have c3 : l = 1 := e_
      refine WR_pc (q := 53) (by rw [c3]; rfl) ?_
      refine r_lload rfl rfl ?_
      refine r_l2i rfl ?_
      refine r_i2s rfl ?_
      refine r_i2l rfl ?_
      refine r_lret rfl ?_
      exact L3 c3
    · have c4 : l = 2 := e_
      refine WR_pc (q := 58) (by rw [c4]; rfl) ?_
      refine r_lload rfl rfl ?_
      refine r_l2i rfl ?_
      refine r_i2c rfl ?_
      refine r_i2l rfl ?_
      refine r_lret rfl ?_
      exact L4 c4
    · have c5 : l = 3 := e_
      refine WR_pc (q := 63) (by rw [c5]; rfl) ?_
      refine r_lload rfl rfl ?_
      refine r_l2i rfl ?_
      refine r_i2l rfl ?_
      refine r_lret rfl ?_
      exact L5 c5
    · have c6 : l = 4 := e_
      refine WR_pc (q := 133) (by rw [c6]; rfl) ?_
      refine r_lload rfl rfl ?_
      refine r_lret rfl ?_
      exact L6 c6
    · have c7 : l = 5 := e_
      refine WR_pc (q := 67) (by rw [c7]; rfl) ?_
      refine r_lload rfl rfl ?_
      refine r_ldc (x := .long 2139095040) rfl rfl ?_
      refine r_land rfl ?_
      refine r_ldc (x := .long 2139095040) rfl rfl ?_
      refine r_lif_ne (tg := 95) rfl rfl rfl (fun c8 => ?_) (fun c8 => ?_)
      · refine r_lload rfl rfl ?_
        refine r_l2i rfl ?_
        refine r_i2l rfl ?_
        refine r_lret rfl ?_
        exact L7 c7 c8
      · refine r_lload rfl rfl ?_
        refine r_ldc (x := .long 8388607) rfl rfl ?_
        refine r_land rfl ?_
        refine r_lc (x := 0) rfl rfl ?_
        refine r_lif_eq (tg := 95) rfl rfl rfl (fun c9 => ?_) (fun c9 => ?_)
        · refine r_lload rfl rfl ?_
          refine r_l2i rfl ?_
          refine r_i2l rfl ?_
          refine r_lret rfl ?_
          exact L8 c7 c8 c9
        · refine r_ldc (x := .long 2143289344) rfl rfl ?_
          refine r_goto (tg := 98) rfl rfl ?_
          refine r_lret rfl ?_
          exact L9 c7 c8 c9
    · have c10 : l = 6 := e_
      refine WR_pc (q := 99) (by rw [c10]; rfl) ?_
      refine r_lload rfl rfl ?_
      refine r_ldc (x := .long 9218868437227405312) rfl rfl ?_
      refine r_land rfl ?_
      refine r_ldc (x := .long 9218868437227405312) rfl rfl ?_
      refine r_lif_ne (tg := 127) rfl rfl rfl (fun c11 => ?_) (fun c11 => ?_)
      · refine r_lload rfl rfl ?_
        refine r_lret rfl ?_
        exact L10 c10 c11
      · refine r_lload rfl rfl ?_
        refine r_ldc (x := .long 4503599627370495) rfl rfl ?_
        refine r_land rfl ?_
        refine r_lc (x := 0) rfl rfl ?_
        refine r_lif_eq (tg := 127) rfl rfl rfl (fun c12 => ?_) (fun c12 => ?_)
        · refine r_lload rfl rfl ?_
          refine r_lret rfl ?_
          exact L11 c10 c11 c12
        · refine r_ldc (x := .long 9221120237041090560) rfl rfl ?_
          refine r_goto (tg := 128) rfl rfl ?_
          refine r_lret rfl ?_
          exact L12 c10 c11 c12
    · have c13 : l = 7 := e_
      refine WR_pc (q := 129) (by rw [c13]; rfl) ?_
      refine r_lload rfl rfl ?_
      refine r_lc (x := 1) rfl rfl ?_
      refine r_land rfl ?_
      refine r_lret rfl ?_
      exact L13 c13

theorem fitV_7 {l : Int32} {b : Int64} (q : l.toInt < 0 ∨ 6 < l.toInt) : fitV l b = b &&& 1 := by
  have e : ∀ k : Int32, 0 ≤ k.toInt → k.toInt ≤ 6 → ¬ l = k := fun k h1 h2 z => by rw [z] at q; omega
  unfold fitV
  rw [if_neg (e 0 (by decide) (by decide)), if_neg (e 1 (by decide) (by decide)), if_neg (e 2 (by decide) (by decide)), if_neg (e 3 (by decide) (by decide)), if_neg (e 4 (by decide) (by decide)), if_neg (e 5 (by decide) (by decide)), if_neg (e 6 (by decide) (by decide))]
theorem c_fitted {d : Nat} {Q : mQ} {n : Nat} {ad sa : Nat → Nat} {z0 : Nat} {h : mH} (fx : FX n ad sa z0 h) {l : Int32} {b : Int64} (q : Q (some (.long (fitV l b))) h) : EV (d + 3) 36 [.int l, .long b] h Q := by
  refine x_fitted fx l b ?_ ?_ ?_ ?_ ?_ ?_ ?_ ?_ ?_ ?_
  · intro c; rw [fitV_7 c] at q; exact q
  all_goals (intro c; subst c)
  · exact q
  · exact q
  · exact q
  · exact q
  · exact q
  all_goals (intro c)
  · have e : fitV 5 b = 2143289344 := by rw [fitV_5, if_pos c]
    rw [e] at q; exact q
  · have e : fitV 5 b = b.toInt32.toInt64 := by rw [fitV_5, if_neg c]
    rw [e] at q; exact q
  · have e : fitV 6 b = 9221120237041090560 := by rw [fitV_6, if_pos c]
    rw [e] at q; exact q
  · have e : fitV 6 b = b := by rw [fitV_6, if_neg c]
    rw [e] at q; exact q
theorem c_cut {d : Nat} {Q : mQ} {n : Nat} {ad sa : Nat → Nat} {z0 : Nat} {h : mH} (fx : FX n ad sa z0 h) {l : Int32} {b : Int64} (hl : 0 ≤ l.toInt ∧ l.toInt ≤ 7) (q : Q (some (.long (fitV l b))) h) : EV (d + 1) 169 [.int l, .long b] h Q := by
  have v5 : ∀ {c : Prop} [Decidable c], (c ↔ 2139095040 < (b.toInt32 &&& 2147483647)) → fitV 5 b = if c then 2143289344 else b.toInt32.toInt64 := fun {c} _ z => by
    rw [fitV_5]
    by_cases w : c
    · rw [if_pos w, if_pos (z.mp w)]
    · rw [if_neg w, if_neg (fun y => w (z.mpr y))]
  have v6 : ∀ {c : Prop} [Decidable c], (c ↔ 9218868437227405312 < (b &&& 9223372036854775807)) → fitV 6 b = if c then 9221120237041090560 else b := fun {c} _ z => by
    rw [fitV_6]
    by_cases w : c
    · rw [if_pos w, if_pos (z.mp w)]
    · rw [if_neg w, if_neg (fun y => w (z.mpr y))]
  have w5 := v5 (fl32 b).symm
  have w6 := v6 (fl64 b).symm
  refine m_cut fx l b ?_ ?_ ?_ ?_ ?_ ?_ ?_ ?_ ?_ ?_ ?_ ?_ ?_
  · intro c; omega
  all_goals (intro c; subst c)
  · exact q
  · exact q
  · exact q
  · exact q
  · exact q
  · intro c; rw [w5, if_neg (fun z => c z.1)] at q; exact q
  · intro c c2; rw [w5, if_neg (fun z => z.2 c2)] at q; exact q
  · intro c c2; rw [w5, if_pos ⟨c, c2⟩] at q; exact q
  · intro c; rw [w6, if_neg (fun z => c z.1)] at q; exact q
  · intro c c2; rw [w6, if_neg (fun z => z.2 c2)] at q; exact q
  · intro c c2; rw [w6, if_pos ⟨c, c2⟩] at q; exact q
  · rw [fitV_7 (by decide)] at q; exact q
