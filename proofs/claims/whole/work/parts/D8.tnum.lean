/-! ===== run: a turbine's numbers in a step ===== -/
/-- the pitch that is wanted -/
def dleB (x y : UInt64) : Bool := decide (FP.dcmp x y = some .lt ∨ FP.dcmp x y = some .eq)
theorem dle_B {x y : UInt64} : dle x y ↔ dleB x y = true := by unfold dle dleB; simp
def gGoal (s : Nat) (u : UInt64) : UInt64 := if s = 1 then 4626322717216342016 else if s = 2 then (if dleB u 4621819117588971520 = true then 0 else if dgtB (FP.dmul (FP.dsub u 4621819117588971520) 4620693217682128896) 4636033603912859648 = true then 4636033603912859648 else FP.dmul (FP.dsub u 4621819117588971520) 4620693217682128896) else 4636033603912859648
def gRate (s : Nat) : UInt64 := if s = 3 then 4622945017495814144 else 4618441417868443648
def gBy (s : Nat) (p u : UInt64) : UInt64 := wiD (gRate s) (FP.dsub (gGoal s u) p)
def gQ (g u : UInt64) : UInt64 := FP.dadd g (wiD 4602678819172646912 (FP.dsub (FP.dmul u 4602678819172646912) g))
def gG1 (s : Nat) (g u : UInt64) : UInt64 := if s = 2 then (if dltB (gQ g u) 0 = true then 0 else gQ g u) else FP.ddiv g 4611686018427387904
def gX (w p g u : UInt64) : UInt64 := FP.dadd u (FP.dmul 4591870180066957722 (FP.dsub (FP.dsub (FP.dmul w (FP.dsub 4607182418800017408 (FP.ddiv p 4636033603912859648))) g) (FP.dmul 4591870180066957722 u)))
def gU (w p g u : UInt64) : UInt64 := if dgtB (gX w p g u) 0 = true then gX w p g u else 0
def gG2 (g u b : UInt64) : UInt64 := if dgtB (FP.dmul g u) b = true then FP.ddiv b u else g
def gEn (e g u : UInt64) : UInt64 := FP.dadd e (FP.dmul g u)
def gAb (y : UInt64) : UInt64 := if dltB y 0 = true then FP.dneg y else y
section TN
variable {s r : Nat} {w p g u e b y : UInt64}
theorem r56 {k : Nat} (h : k ≤ 900) : rep (2 ^ k) := by
  have := rep_p (m := 1) k (by decide) h
  rw [Nat.one_mul] at this; exact this
theorem sz_u (hs : s ≤ 20480) : s * 2 ^ 40 ≤ 2 ^ 55 := by omega
theorem goal_ok (hs : s ≤ 20480) (bu : bd u (s * 2 ^ 40)) : isF (FP.dsub u 4621819117588971520) ∧ isF (FP.dmul (FP.dsub u 4621819117588971520) 4620693217682128896) ∧ bd (gGoal r u) (2 ^ 59) := by
  have a1 : bd (FP.dsub u 4621819117588971520) (2 ^ 56) := (bu.mono (sz_u hs)).sub kn_10 (r56 (by decide)) (by decide)
  have a2 : bd (FP.dmul (FP.dsub u 4621819117588971520) 4620693217682128896) (2 ^ 59) := a1.mul kn_8 (r56 (by decide)) (by decide)
  refine ⟨a1.1, a2.1, ?_⟩
  unfold gGoal
  split
  · exact kn_20.mono (by decide)
  · split
    · split
      · exact (kn_0 _).1
      · split
        · exact kn_90.1.mono (by decide)
        · exact a2
    · exact kn_90.1.mono (by decide)
theorem by_ok (hs : s ≤ 20480) (bu : bd u (s * 2 ^ 40)) (bp : bd p (90 + 12 * s)) : isF (FP.dsub (gGoal r u) p) ∧ bd (gBy r p u) 12 := by
  have a1 := (goal_ok (r := r) hs bu).2.2
  have a2 : bd (FP.dsub (gGoal r u) p) (2 ^ 60) := a1.sub (bp.mono (show 90 + 12 * s ≤ 2 ^ 59 by omega)) (r56 (by decide)) (by decide)
  refine ⟨a2.1, ?_⟩
  unfold gBy gRate
  split
  · exact wi_bd kn_12.1 kn_12.2.1 kn_12.2.2 a2.1
  · exact wi_bd kn_6.1 kn_6.2.1 kn_6.2.2 a2.1
theorem dneg_bd {x : UInt64} {M : Nat} (h : bd x M) : bd (FP.dneg x) M := by
  obtain ⟨t, c, q, e⟩ := isF_v h.1
  have k : FP.Core.val64 (FP.dneg x) = FP.Core.negate (FP.Core.val64 x) := FP.val64_dneg x
  have z := FP.Core.zval_negate FP.Core.b64 (FP.Core.val64 x)
  rw [← k] at z
  have z : zv (FP.dneg x) = - zv x := z
  rw [e] at k
  refine ⟨⟨_, _, _, k⟩, ?_⟩
  have e1 := zv_abs (x := x)
  have e2 := zv_abs (x := FP.dneg x)
  have h2 := h.2
  generalize M * uU = m' at *
  omega
theorem ab_bd {M : Nat} (h : bd y M) : bd (gAb y) M := by
  unfold gAb
  split
  · exact dneg_bd h
  · exact h
theorem p_ok (hs : s ≤ 20480) (bp : bd p (90 + 12 * s)) (b2 : bd y 12) : bd (FP.dadd p y) (90 + 12 * (s + 1)) := bp.add b2 (rep_lt (by omega)) (by omega)
theorem g1_ok (hs : s ≤ 20480) (bu : bd u (s * 2 ^ 40)) (bg : bd g s) : isF (FP.dmul u 4602678819172646912) ∧ isF (FP.dsub (FP.dmul u 4602678819172646912) g) ∧ isF (gQ g u) ∧ isF (FP.ddiv g 4611686018427387904) ∧ bd (gG1 r g u) (s + 1) := by
  have a1 : bd (FP.dmul u 4602678819172646912) (2 ^ 55) := (bu.mono (sz_u hs)).mul kn_h (r56 (by decide)) (by decide)
  have a2 : bd (FP.dsub (FP.dmul u 4602678819172646912) g) (2 ^ 56) := a1.sub (bg.mono (show s ≤ 2 ^ 55 by omega)) (r56 (by decide)) (by decide)
  have a3 : bd (gQ g u) (s + 1) := bg.add (wi_bd kn_h kn_hm.1 kn_hm.2 a2.1) (rep_lt (by omega)) (Nat.le_refl _)
  have a4 : bd (FP.ddiv g 4611686018427387904) s := bg.div kn_2.1 kn_2.2.1 (rep_lt (by omega)) (by rw [kn_2.2.2]; exact Nat.mul_le_mul_left _ (by omega))
  refine ⟨a1.1, a2.1, a3.1, a4.1, ?_⟩
  unfold gG1
  split
  · split
    · exact (kn_0 _).1
    · exact a3
  · exact a4.mono (by omega)
theorem x_ok (hs : s ≤ 20480) (bw : bd w 1000) (bp : bd p (90 + 12 * (s + 1))) (bg : bd g (s + 1)) (bu : bd u (s * 2 ^ 40)) (u0 : 0 ≤ zv u) :
    isF (FP.ddiv p 4636033603912859648) ∧ isF (FP.dsub 4607182418800017408 (FP.ddiv p 4636033603912859648)) ∧ isF (FP.dmul w (FP.dsub 4607182418800017408 (FP.ddiv p 4636033603912859648))) ∧ isF (FP.dsub (FP.dmul w (FP.dsub 4607182418800017408 (FP.ddiv p 4636033603912859648))) g) ∧ isF (FP.dmul 4591870180066957722 u) ∧
    isF (FP.dsub (FP.dsub (FP.dmul w (FP.dsub 4607182418800017408 (FP.ddiv p 4636033603912859648))) g) (FP.dmul 4591870180066957722 u)) ∧ isF (FP.dmul 4591870180066957722 (FP.dsub (FP.dsub (FP.dmul w (FP.dsub 4607182418800017408 (FP.ddiv p 4636033603912859648))) g) (FP.dmul 4591870180066957722 u))) ∧ isF (gX w p g u) ∧ zv (gX w p g u) ≤ (((s + 1) * 2 ^ 40 * uU : Nat) : Int) := by
  have a1 : bd (FP.ddiv p 4636033603912859648) (2 ^ 18) := (bp.mono (show 90 + 12 * (s + 1) ≤ 2 ^ 18 by omega)).div kn_90.1.1 kn_90.2.1 (r56 (by decide)) (by rw [kn_90.2.2]; exact Nat.mul_le_mul_left _ (by omega))
  have a2 : bd (FP.dsub 4607182418800017408 (FP.ddiv p 4636033603912859648)) (2 ^ 19) := kn_1.sub a1 (r56 (by decide)) (by decide)
  have a3 : bd (FP.dmul w (FP.dsub 4607182418800017408 (FP.ddiv p 4636033603912859648))) (2 ^ 29) := bw.mul a2 (r56 (by decide)) (by decide)
  have a4 : bd (FP.dsub (FP.dmul w (FP.dsub 4607182418800017408 (FP.ddiv p 4636033603912859648))) g) (2 ^ 30) := a3.sub (bg.mono (show s + 1 ≤ 2 ^ 29 by omega)) (r56 (by decide)) (by decide)
  have a5 : bd (FP.dmul 4591870180066957722 u) (2 ^ 55) := kn_p1.1.mul (bu.mono (sz_u hs)) (r56 (by decide)) (by decide)
  have z0 : zv (0 : UInt64) = 0 := (kn_0 0).2
  have n0 : FP.Core.val64 (0 : UInt64) ≠ .nan := isF_nn (kn_0 0).1.1
  have p5 : 0 ≤ zv (FP.dmul 4591870180066957722 u) := by
    have k := (rnd_mul kn_p1.1.1 bu.1).dn (V := 0) n0 (by rw [z0, Int.zero_mul]; exact Int.mul_nonneg kn_p1.2.1 u0)
    rw [z0] at k; exact k
  unfold gX
  generalize FP.dsub (FP.dmul w (FP.dsub 4607182418800017408 (FP.ddiv p 4636033603912859648))) g = X4 at *
  generalize FP.dmul 4591870180066957722 u = X5 at *
  have a6 : bd (FP.dsub X4 X5) (2 ^ 56) := (a4.mono (show 2 ^ 30 ≤ 2 ^ 55 by decide)).sub a5 (r56 (by decide)) (by decide)
  have a7 : bd (FP.dmul 4591870180066957722 (FP.dsub X4 X5)) (2 ^ 56) := kn_p1.1.mul a6 (r56 (by decide)) (by decide)
  have a8 : bd (FP.dadd u (FP.dmul 4591870180066957722 (FP.dsub X4 X5))) (2 ^ 57) := (bu.mono (show s * 2 ^ 40 ≤ 2 ^ 56 by omega)).add a7 (r56 (by decide)) (by decide)
  obtain ⟨V, v1, v2, v3⟩ := rep_V (r56 (k := 30) (by decide))
  obtain ⟨V', v1', v2', v3'⟩ := rep_V (rep_p (m := s + 1) 40 (by omega) (by decide))
  have up := uU_pos
  have b6 : zv (FP.dsub X4 X5) ≤ zv V := by
    refine (rnd_sub a4.1 a5.1).up (isF_nn v1) ?_
    have e1 := zv_abs (x := X4)
    have e2 := a4.2
    rw [v3]
    generalize 2 ^ 30 * uU = m' at *
    omega
  have b7 : zv (FP.dmul 4591870180066957722 (FP.dsub X4 X5)) ≤ zv V := by
    refine (rnd_mul kn_p1.1.1 a6.1).up (isF_nn v1) ?_
    have vp : 0 ≤ zv V := by rw [v3]; exact Int.natCast_nonneg _
    rcases Int.lt_or_le (zv (FP.dsub X4 X5)) 0 with c | c
    · have k1 : zv 4591870180066957722 * zv (FP.dsub X4 X5) ≤ 0 := Int.mul_nonpos_of_nonneg_of_nonpos kn_p1.2.1 (by omega)
      exact Int.le_trans k1 (Int.mul_nonneg vp (Int.natCast_nonneg _))
    · rw [Int.mul_comm]
      exact Int.mul_le_mul b6 kn_p1.2.2 kn_p1.2.1 vp
  have b8 : zv (FP.dadd u (FP.dmul 4591870180066957722 (FP.dsub X4 X5))) ≤ zv V' := by
    refine (rnd_add bu.1 a7.1).up (isF_nn v1') ?_
    have e1 := zv_abs (x := u)
    have e2 := bu.2
    have k : (s + 1) * 2 ^ 40 * uU = s * 2 ^ 40 * uU + 2 ^ 40 * uU := by rw [Nat.add_mul, Nat.add_mul, Nat.one_mul]
    rw [v3', k]
    rw [v3] at b7
    have k2 : 2 ^ 30 * uU ≤ 2 ^ 40 * uU := Nat.mul_le_mul_right _ (by decide)
    have fin : ∀ (m1 m2 m3 : Nat) (a b : Int) (z : Nat), a.natAbs = z → z ≤ m1 → b ≤ (m3 : Int) → m3 ≤ m2 → a + b ≤ ((m1 + m2 : Nat) : Int) * ((1 : Nat) : Int) := fun m1 m2 m3 a b z h1 h2 h3 h4 => by omega
    exact fin _ _ _ _ _ _ e1 e2 b7 k2
  rw [v3'] at b8
  exact ⟨a1.1, a2.1, a3.1, a4.1, a5.1, a6.1, a7.1, a8.1, b8⟩
theorem u_ok (hs : s ≤ 20480) (bw : bd w 1000) (bp : bd p (90 + 12 * (s + 1))) (bg : bd g (s + 1)) (bu : bd u (s * 2 ^ 40)) (u0 : 0 ≤ zv u) : bd (gU w p g u) ((s + 1) * 2 ^ 40) ∧ 0 ≤ zv (gU w p g u) := by
  obtain ⟨-, -, -, -, -, -, -, a8, b8⟩ := x_ok hs bw bp bg bu u0
  unfold gU
  split
  · rename_i c
    have c : FP.dcmp (gX w p g u) 0 = some .gt := dgt_B.mpr c
    rw [gt_zv (isF_nn a8) (isF_nn (kn_0 0).1.1), (kn_0 0).2] at c
    refine ⟨⟨a8, ?_⟩, by omega⟩
    have e := zv_abs (x := gX w p g u)
    generalize (s + 1) * 2 ^ 40 * uU = m at *
    omega
  · exact ⟨(kn_0 _).1, by rw [(kn_0 0).2]; exact Int.le_refl _⟩
/-- the torque that the bound leaves -/
theorem g2_ok (hs : s ≤ 20480) (bg : bd g (s + 1)) (bu : bd u ((s + 1) * 2 ^ 40)) (u0 : 0 ≤ zv u) (hb : b = 9218868437227405312 ∨ isNN b) (be : bd e (s * 2 ^ 80)) :
    isF (FP.dmul g u) ∧ (dgtB (FP.dmul g u) b = true → isF (FP.ddiv b u)) ∧ bd (gG2 g u b) (s + 1) ∧ isF (FP.dmul (gG2 g u b) u) ∧ bd (gEn e (gG2 g u b) u) ((s + 1) * 2 ^ 80) := by
  have bu' : bd u (2 ^ 55) := bu.mono (by omega)
  have a1 : bd (FP.dmul g u) (2 ^ 70) := (bg.mono (show s + 1 ≤ 2 ^ 15 by omega)).mul bu' (r56 (by decide)) (by decide)
  have key : dgtB (FP.dmul g u) b = true → bd (FP.ddiv b u) (s + 1) := by
    intro c
    have c : FP.dcmp (FP.dmul g u) b = some .gt := dgt_B.mpr c
    have nb : isNN b := by
      rcases hb with rfl | q
      · exfalso
        have k := (gt_zv (isF_nn a1.1) inf_nn).mp c
        have lt : FP.Core.zmag FP.Core.b64 (FP.Core.val64 (FP.dmul g u)) < FP.Core.b64.tails * 2 ^ (FP.Core.b64.exps - 2) := FP.Core.DFin.zval_lt a1.1
        have e := zv_abs (x := FP.dmul g u)
        have ei : zv (9218868437227405312 : UInt64) = ((FP.Core.b64.tails * 2 ^ (FP.Core.b64.exps - 2) : Nat) : Int) := by decide +kernel
        have lt : zm (FP.dmul g u) < FP.Core.b64.tails * 2 ^ (FP.Core.b64.exps - 2) := lt
        rw [ei] at k
        generalize FP.Core.b64.tails * 2 ^ (FP.Core.b64.exps - 2) = T at *
        omega
      · exact q
    obtain ⟨fb, b0⟩ := nn_to nb
    have k := (gt_zv (isF_nn a1.1) (isF_nn fb)).mp c
    have ex : zv b * ((2 ^ 1074 : Nat) : Int) < zv g * zv u := by
      rcases Int.lt_or_le (zv b * ((2 ^ 1074 : Nat) : Int)) (zv g * zv u) with q | q
      · exact q
      · have := (rnd_mul bg.1 bu.1).up (isF_nn fb) q
        omega
    have bp : 0 ≤ zv b * ((2 ^ 1074 : Nat) : Int) := Int.mul_nonneg b0 (Int.natCast_nonneg _)
    have gp : 0 < zv g := by
      rcases Int.lt_or_le 0 (zv g) with q | q
      · exact q
      · have := Int.mul_nonpos_of_nonpos_of_nonneg q u0
        omega
    have pu : 0 < zv u := by
      rcases Int.lt_or_le 0 (zv u) with q | q
      · exact q
      · have e : zv u = 0 := by omega
        rw [e, Int.mul_zero] at ex
        omega
    have eu := zv_abs (x := u)
    have eg := zv_abs (x := g)
    have r := rnd_div fb bu.1 pu
    have le : (zv b * ((2 ^ 1074 : Nat) : Int)).natAbs ≤ zm g * zm u := by
      have h1 : ((zm g * zm u : Nat) : Int) = zv g * zv u := by
        rw [Int.natCast_mul]
        rw [show ((zm g : Nat) : Int) = zv g by omega, show ((zm u : Nat) : Int) = zv u by omega]
      omega
    exact ⟨r.fin bg.1 le, Nat.le_trans (r.le (isF_nn bg.1) le) bg.2⟩
  have g2 : bd (gG2 g u b) (s + 1) := by
    unfold gG2
    split
    · rename_i c; exact key c
    · exact bg
  have a2 : bd (FP.dmul (gG2 g u b) u) (2 ^ 70) := (g2.mono (show s + 1 ≤ 2 ^ 15 by omega)).mul bu' (r56 (by decide)) (by decide)
  refine ⟨a1.1, fun c => (key c).1, g2, a2.1, ?_⟩
  unfold gEn
  exact be.add a2 (rep_p 80 (by omega) (by decide)) (by rw [Nat.add_mul]; exact Nat.add_le_add_left (by decide) _)
/-- behind the step the bounds hold for one step more -/
theorem nb_next (hs : s ≤ 20480) (nb : NB s w p g u e b) {w' : UInt64} (bw : bd w' 1000) (p' : UInt64) (bp : bd p' (90 + 12 * (s + 1))) : NB (s + 1) w' p' (gG2 (gG1 r g u) (gU w' p' (gG1 r g u) u) b) (gU w' p' (gG1 r g u) u) (gEn e (gG2 (gG1 r g u) (gU w' p' (gG1 r g u) u) b) (gU w' p' (gG1 r g u) u)) b := by
  obtain ⟨h1, h2, h3, ⟨h4, h5⟩, h6, h7⟩ := NB_bd.mp nb
  have g1 := (g1_ok (r := r) hs h4 h3).2.2.2.2
  have u1 := u_ok hs bw bp g1 h4 h5
  have g2 := g2_ok hs g1 u1.1 u1.2 h7 h6
  exact NB_bd.mpr ⟨bw, bp, g2.2.2.1, u1, g2.2.2.2.2, h7⟩
/-- a turbine that has failed slows down -/
theorem nb_slow (hs : s ≤ 20480) (nb : NB s w p g u e b) : isF (FP.dmul u 4602678819172646912) ∧ NB (s + 1) w p g (FP.dmul u 4602678819172646912) e b := by
  have nb2 := NB_mono (Nat.le_succ s) nb
  obtain ⟨h1, h2, h3, ⟨h4, h5⟩, h6, h7⟩ := NB_bd.mp nb
  obtain ⟨k1, k2, k3, -, k6, k7⟩ := NB_bd.mp nb2
  have a : bd (FP.dmul u 4602678819172646912) (s * 2 ^ 40) := h4.mul kn_h (rep_p 40 (by omega) (by decide)) (by rw [Nat.mul_one]; exact Nat.le_refl _)
  have z0 : zv (0 : UInt64) = 0 := (kn_0 0).2
  have hh : 0 ≤ zv 4602678819172646912 := FP.Core.zval_nonneg (isF_nn kn_h.1) (by decide)
  have p : 0 ≤ zv (FP.dmul u 4602678819172646912) := by
    have k := (rnd_mul h4.1 kn_h.1).dn (V := 0) (isF_nn (kn_0 0).1.1) (by rw [z0, Int.zero_mul]; exact Int.mul_nonneg h5 hh)
    rw [z0] at k; exact k
  exact ⟨a.1, NB_bd.mpr ⟨k1, k2, k3, ⟨a.mono (Nat.mul_le_mul_right _ (Nat.le_succ s)), p⟩, k6, k7⟩⟩
/-- a turbine that falls: its torque is 0 -/
theorem nb_fall (nb : NB s w p g u e b) : NB s w p 0 u e b := by
  obtain ⟨h1, h2, -, h4, h6, h7⟩ := NB_bd.mp nb
  exact NB_bd.mpr ⟨h1, h2, (kn_0 _).1, h4, h6, h7⟩
theorem nb_w (nb : NB s w p g u e b) {w' : UInt64} (bw : bd w' 1000) : NB s w' p g u e b := by
  obtain ⟨-, h2, h3, h4, h6, h7⟩ := NB_bd.mp nb
  exact NB_bd.mpr ⟨bw, h2, h3, h4, h6, h7⟩
end TN
