/-! ===== the order of doubles by their bits; passes on both sides ===== -/
theorem xor63 {B : Nat} (h1 : 2 ^ 63 ≤ B) (h2 : B < 2 ^ 64) : B ^^^ (2 ^ 63 - 1) = 2 ^ 64 - ((B - 2 ^ 63) + 1) := by
  obtain ⟨m, rfl⟩ : ∃ m, B = 2 ^ 63 + m := ⟨B - 2 ^ 63, by omega⟩
  rw [show 2 ^ 63 + m - 2 ^ 63 = m by omega]
  have hm : m < 2 ^ 63 := by omega
  apply Nat.eq_of_testBit_eq
  intro i
  rw [Nat.testBit_xor, Nat.testBit_two_pow_sub_one, Nat.testBit_two_pow_sub_succ (by omega)]
  by_cases e1 : i < 63
  · rw [Nat.testBit_two_pow_add_gt e1]
    have : i < 64 := by omega
    simp [e1, this]
  · by_cases e2 : i = 63
    · subst e2
      rw [Nat.testBit_two_pow_add_eq, Nat.testBit_lt_two_pow hm]
      simp
    · have h3 : 2 ^ 63 + m < 2 ^ i := Nat.lt_of_lt_of_le h2 (Nat.pow_le_pow_right (by decide) (by omega))
      rw [Nat.testBit_lt_two_pow h3]
      have : ¬ i < 64 := by omega
      simp [e1, this]
theorem bl_xor (a b : Nat) : lN a ^^^ lN b = lN (a ^^^ b) := by
  apply Int64.toBitVec_inj.1
  show BitVec.ofNat 64 a ^^^ BitVec.ofNat 64 b = BitVec.ofNat 64 (a ^^^ b)
  apply BitVec.eq_of_getLsbD_eq
  intro i hi
  simp [hi]
/-- grows as numbers do, with -0.0 below 0.0 -/
def kO (x : UInt64) : Int := if 2 ^ 63 ≤ x.toNat then FP.Core.dkey x - 1 else FP.Core.dkey x
theorem oO_t (b : Int64) : (oO b).toInt = kO b.toUInt64 := by
  have c := i64_cond b
  have l := b.toBitVec.isLt
  have u := u64_nat b
  have z : (0 : Int64).toInt = 0 := rfl
  unfold oO kO FP.Core.dkey
  rw [u]
  by_cases h : 0 ≤ b
  · have h' := l_le h
    rw [if_pos h, if_neg (by omega), if_neg (by omega)]; omega
  · have h' := l_nle h
    have hB : 2 ^ 63 ≤ b.toBitVec.toNat := by omega
    have e : b ^^^ 9223372036854775807 = lN (2 ^ 64 - ((b.toBitVec.toNat - 2 ^ 63) + 1)) := by
      rw [show (9223372036854775807 : Int64) = lN (2 ^ 63 - 1) by decide +kernel, ← xor63 hB l, ← bl_xor, lN_self]
    rw [if_neg h, if_pos hB, if_pos hB, e]
    have c2 := i64_cond (lN (2 ^ 64 - ((b.toBitVec.toNat - 2 ^ 63) + 1)))
    rw [lN_tn (by omega)] at c2
    omega
theorem sz_0 (b : Int64) : (b &&& 9223372036854775807) = 0 ↔ b.toBitVec.toNat % 2 ^ 63 = 0 := by
  rw [sz_lN]
  exact pk_lEQ (a := b.toBitVec.toNat % 2 ^ 63) (b := 0) (by omega) (by decide)
theorem i64u (x : UInt64) : x.toInt64.toUInt64 = x := rfl
theorem u64i (x : Int64) : x.toUInt64.toInt64 = x := rfl
/-- test t of two keys -/
def PK (t : Nat) (i j : Int) : Prop := match t with
  | 0 => i < j
  | 1 => i ≤ j
  | 2 => j < i
  | 3 => j ≤ i
  | 4 => i = j
  | _ => ¬ i = j
/-- test t of two doubles -/
def PS (t : Nat) (x y : UInt64) : Prop := match t with
  | 0 => dlt x y
  | 1 => dle x y
  | 2 => dgt x y
  | 3 => dge x y
  | 4 => deq x y
  | _ => ¬ deq x y
theorem PS_key {x y : UInt64} (hx : FP.Core.val64 x ≠ .nan) (hy : FP.Core.val64 y ≠ .nan) (t : Nat) : PS t x y ↔ PK t (FP.Core.dkey x) (FP.Core.dkey y) := by
  have l := FP.Core.dcmp_lt_key hx hy
  have e := FP.Core.dcmp_eq_key hx hy
  have g := FP.Core.dcmp_gt_key hx hy
  unfold PS PK dlt dle dgt dge deq
  split
  · exact l
  · rw [l, e]; omega
  · exact g
  · rw [g, e]; omega
  · exact e
  · rw [e]
theorem PS_nan {x y : UInt64} (h : FP.Core.val64 x = .nan ∨ FP.Core.val64 y = .nan) {t : Nat} (ht : t < 6) : PS t x y ↔ t = 5 := by
  have dc : FP.dcmp x y = none := (FP.Core.dcmp_none x y).mpr h
  have c : t = 0 ∨ t = 1 ∨ t = 2 ∨ t = 3 ∨ t = 4 ∨ t = 5 := by omega
  unfold PS dlt dle dgt dge deq
  rw [dc]
  rcases c with rfl | rfl | rfl | rfl | rfl | rfl <;> simp
section PA
variable {d : Nat} {n : Nat} {ad sa : Nat → Nat} {z0 : Nat} {H : mH} {t : Nat}
theorem ps_64 {Q : mQ} (fx : FX n ad sa z0 H) {a b f g : Int64} (ht : t < 6) (hy : PK t f.toInt g.toInt → Q (some (.int 1)) H) (hn : ¬ PK t f.toInt g.toInt → Q (some (.int 0)) H) : WR d cd_91 64 [some (.long a), none, some (.long b), none, some (.int (nI t)), some (.long f), none, some (.long g), none] [] H Q := by
  have e : ∀ k, k < 6 → nI t = nI k → t = k := fun k hk z => (nI_eq (by omega) (by omega)).mp z
  have h5 : (nI t).toInt < 0 ∨ 4 < (nI t).toInt → t = 5 := fun z => by rw [nI_toInt (by omega)] at z; omega
  refine w_ps64 fx a b f g (nI t) (fun c w => ?_) (fun c w => ?_) (fun c w => ?_) (fun c w => ?_) (fun c w => ?_) (fun c w => ?_) (fun c w => ?_) (fun c w => ?_) (fun c w => ?_) (fun c w => ?_) (fun c w => ?_) (fun c w => ?_)
  · obtain rfl := h5 c; exact hn (fun z => z (l_eq w))
  · obtain rfl := h5 c; exact hy (fun z => w (l_inj z))
  · obtain rfl := e 0 (by decide) c; exact hn (fun z => by have := l_le w; have z : f.toInt < g.toInt := z; omega)
  · obtain rfl := e 0 (by decide) c; exact hy (l_nle w)
  · obtain rfl := e 1 (by decide) c; exact hn (fun z => by have := l_lt w; have z : f.toInt ≤ g.toInt := z; omega)
  · obtain rfl := e 1 (by decide) c; exact hy (l_nlt w)
  · obtain rfl := e 2 (by decide) c; exact hn (fun z => by have := l_le w; have z : g.toInt < f.toInt := z; omega)
  · obtain rfl := e 2 (by decide) c; exact hy (l_nle w)
  · obtain rfl := e 3 (by decide) c; exact hn (fun z => by have := l_lt w; have z : g.toInt ≤ f.toInt := z; omega)
  · obtain rfl := e 3 (by decide) c; exact hy (l_nlt w)
  · obtain rfl := e 4 (by decide) c; exact hn (fun z => w (l_inj z))
  · obtain rfl := e 4 (by decide) c; exact hy (l_eq w)
theorem PK_c {i j i' j' : Int} (h1 : i < j ↔ i' < j') (h2 : i = j ↔ i' = j') (t : Nat) : PK t i j ↔ PK t i' j' := by
  unfold PK
  split
  · exact h1
  · omega
  · omega
  · omega
  · exact h2
  · rw [h2]
theorem c_passes (fx : FX n ad sa z0 H) (a b : Int64) (ht : t < 6) : DP (d + 3) 91 [.long a, .long b, .int (nI t)] H (PS t a.toUInt64 b.toUInt64) := by
  intro Q hy hn
  have e5 : nI t = 5 ↔ t = 5 := nI_eq (a := t) (b := 5) (by omega) (by decide)
  have na := num64 a
  have nb := num64 b
  have key : ∀ f g : Int64, (¬ 9218868437227405312 < (a &&& 9223372036854775807)) → (¬ 9218868437227405312 < (b &&& 9223372036854775807)) → (f.toInt < g.toInt ↔ FP.Core.dkey a.toUInt64 < FP.Core.dkey b.toUInt64) → (f.toInt = g.toInt ↔ FP.Core.dkey a.toUInt64 = FP.Core.dkey b.toUInt64) → WR (d + 2) cd_91 64 [some (.long a), none, some (.long b), none, some (.int (nI t)), some (.long f), none, some (.long g), none] [] H Q := by
    intro f g h1 h2 h3 h4
    have k := (PS_key (na.mp h1) (nb.mp h2) t).trans (PK_c h3 h4 t).symm
    exact ps_64 fx ht (fun z => hy (k.mpr z)) (fun z => hn (fun w => z (k.mp w)))
  have ka := oO_t a
  have kb := oO_t b
  have ua := u64_nat a
  have ub := u64_nat b
  have la := a.toBitVec.isLt
  have lb := b.toBitVec.isLt
  have z : (0 : Int64).toInt = 0 := rfl
  unfold kO at ka kb
  have D : ∀ x : UInt64, FP.Core.dkey x = if 2 ^ 63 ≤ x.toNat then ((2 ^ 63 : Nat) : Int) - (x.toNat : Int) else (x.toNat : Int) := fun x => rfl
  refine w_ps0 fx a b (nI t) (fun c w => ?_) (fun c w => ?_) (fun c1 c w => ?_) (fun c1 c w => ?_) (fun c1 c2 c3 c4 => key _ _ c1 c2 ?_ ?_) (fun c1 c2 c3 c4 => key _ _ c1 c2 ?_ ?_) (fun c1 c2 c3 c4 => key _ _ c1 c2 ?_ ?_) (fun c1 c2 c3 c4 => key _ _ c1 c2 ?_ ?_)
  · exact hn (fun z => w (e5.mpr ((PS_nan (.inl (Classical.not_not.mp (fun q => na.mpr q c))) ht).mp z)))
  · exact hy ((PS_nan (.inl (Classical.not_not.mp (fun q => na.mpr q c))) ht).mpr (e5.mp w))
  · exact hn (fun z => w (e5.mpr ((PS_nan (.inr (Classical.not_not.mp (fun q => nb.mpr q c))) ht).mp z)))
  · exact hy ((PS_nan (.inr (Classical.not_not.mp (fun q => nb.mpr q c))) ht).mpr (e5.mp w))
  all_goals
    rw [sz_0] at c3 c4
    rw [D, ua] at ka
    rw [D, ub] at kb
    rw [D, D, ua, ub]
    first | rw [ka, kb] | rw [ka, z] | rw [z, kb] | rw [z]
    split <;> split <;> omega
theorem c_mpasses (fx : FX n ad sa z0 H) (x y : UInt64) (ht : t < 6) : DP (d + 1) 202 [.int (nI t), .double x, .double y] H (PS t x y) := by
  intro Q hy hn
  have e : ∀ k, k < 6 → nI t = nI k → t = k := fun k hk z => (nI_eq (by omega) (by omega)).mp z
  have h5 : (nI t).toInt < 0 ∨ 4 < (nI t).toInt → t = 5 := fun z => by rw [nI_toInt (by omega)] at z; omega
  refine w_mps fx x y (nI t) (fun c w => ?_) (fun c w => ?_) (fun c w => ?_) (fun c w => ?_) (fun c w => ?_) (fun c w => ?_) (fun c w => ?_) (fun c w => ?_) (fun c w => ?_) (fun c w => ?_) (fun c w => ?_) (fun c w => ?_)
  · obtain rfl := h5 c; exact hn (fun z => z w)
  · obtain rfl := h5 c; exact hy w
  · obtain rfl := e 0 (by decide) c; exact hn w
  · obtain rfl := e 0 (by decide) c; exact hy w
  · obtain rfl := e 1 (by decide) c; exact hn w
  · obtain rfl := e 1 (by decide) c; exact hy w
  · obtain rfl := e 2 (by decide) c; exact hn w
  · obtain rfl := e 2 (by decide) c; exact hy w
  · obtain rfl := e 3 (by decide) c; exact hn w
  · obtain rfl := e 3 (by decide) c; exact hy w
  · obtain rfl := e 4 (by decide) c; exact hn w
  · obtain rfl := e 4 (by decide) c; exact hy w
end PA
