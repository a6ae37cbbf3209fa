/-! ===== minus, below; sums on both sides ===== -/
section MI
variable {d : Nat} {n : Nat} {ad sa : Nat → Nat} {z0 : Nat} {H : mH} {x y : UInt64}
theorem dk_def (x : UInt64) : FP.Core.dkey x = if 2 ^ 63 ≤ x.toNat then ((2 ^ 63 : Nat) : Int) - (x.toNat : Int) else (x.toNat : Int) := rfl
theorem z_nn : FP.Core.val64 0 ≠ .nan := by decide +kernel
theorem dl_k (hx : FP.Core.val64 x ≠ .nan) (hy : FP.Core.val64 y ≠ .nan) : dlt x y ↔ FP.Core.dkey x < FP.Core.dkey y := FP.Core.dcmp_lt_key hx hy
theorem dg_k (hx : FP.Core.val64 x ≠ .nan) (hy : FP.Core.val64 y ≠ .nan) : dgt x y ↔ FP.Core.dkey y < FP.Core.dkey x := FP.Core.dcmp_gt_key hx hy
theorem de_k (hx : FP.Core.val64 x ≠ .nan) (hy : FP.Core.val64 y ≠ .nan) : deq x y ↔ FP.Core.dkey x = FP.Core.dkey y := FP.Core.dcmp_eq_key hx hy
theorem de_self : deq x x ↔ FP.Core.val64 x ≠ .nan := by
  constructor
  · intro h z
    have := (FP.Core.dcmp_none x x).mpr (.inl z)
    have h' : FP.Core.dcmp x x = some .eq := h
    rw [this] at h'; cases h'
  · intro h; exact FP.Core.dcmp_self h
theorem c_isMinus (fx : FX n ad sa z0 H) (hx : FP.Core.val64 x ≠ .nan) : DP (d + 1) 197 [.double x] H (2 ^ 63 ≤ x.toNat) := by
  intro Q hy hn
  have lx := x.toNat_lt
  have l := dl_k hx z_nn
  have e := de_k hx z_nn
  rw [dk0, dk_def] at l e
  have two : deq x 0 → x = 0 ∨ x = 9223372036854775808 := by
    intro w
    have w2 := e.mp w
    split at w2
    · exact .inr (UInt64.toNat_inj.mp (by show x.toNat = 9223372036854775808; omega))
    · exact .inl (UInt64.toNat_inj.mp (by show x.toNat = 0; omega))
  refine w_im fx x (fun w => ?_) (fun w1 w2 => ?_) (fun w1 w2 => ?_) (fun w1 w2 w3 => ?_) (fun w1 w2 w3 => ?_)
  · have w2 := l.mp w
    refine hy ?_
    split at w2
    · assumption
    · omega
  · refine hn (fun q => ?_)
    rw [if_pos q] at l e
    have a : ¬ ((2 ^ 63 : Nat) : Int) - (x.toNat : Int) < 0 := fun z => w1 (l.mpr z)
    have b : ¬ ((2 ^ 63 : Nat) : Int) - (x.toNat : Int) = 0 := fun z => w2 (e.mpr z)
    omega
  · rcases two w2 with rfl | rfl
    · exact nn_vf (by decide +kernel)
    · exact nn_vf (by decide +kernel)
  · rcases two w2 with rfl | rfl
    · exact hn (by decide)
    · exact absurd (show dlt (FP.ddiv 4607182418800017408 9223372036854775808) 0 by unfold dlt; decide +kernel) w3
  · rcases two w2 with rfl | rfl
    · exact absurd w3 (by unfold dlt; decide +kernel)
    · exact hy (by decide)
theorem kO_lt {x y : UInt64} (h : FP.Core.dkey x < FP.Core.dkey y) : kO x < kO y := by
  have lx := x.toNat_lt
  have ly := y.toNat_lt
  have kx : kO x = if 2 ^ 63 ≤ x.toNat then FP.Core.dkey x - 1 else FP.Core.dkey x := rfl
  have ky : kO y = if 2 ^ 63 ≤ y.toNat then FP.Core.dkey y - 1 else FP.Core.dkey y := rfl
  have dx := dk_def x
  have dy := dk_def y
  by_cases a : 2 ^ 63 ≤ x.toNat
  · rw [if_pos a] at dx kx
    by_cases b : 2 ^ 63 ≤ y.toNat
    · rw [if_pos b] at dy ky
      omega
    · rw [if_neg b] at dy ky
      omega
  · rw [if_neg a] at dx kx
    by_cases b : 2 ^ 63 ≤ y.toNat
    · rw [if_pos b] at dy ky
      omega
    · rw [if_neg b] at dy ky
      omega
theorem kO_nlt {x y : UInt64} (h1 : ¬ FP.Core.dkey x < FP.Core.dkey y) (h2 : ¬ FP.Core.dkey x = FP.Core.dkey y) : ¬ kO x < kO y := by
  have lx := x.toNat_lt
  have ly := y.toNat_lt
  have kx : kO x = if 2 ^ 63 ≤ x.toNat then FP.Core.dkey x - 1 else FP.Core.dkey x := rfl
  have ky : kO y = if 2 ^ 63 ≤ y.toNat then FP.Core.dkey y - 1 else FP.Core.dkey y := rfl
  have dx := dk_def x
  have dy := dk_def y
  by_cases a : 2 ^ 63 ≤ x.toNat
  · rw [if_pos a] at dx kx
    by_cases b : 2 ^ 63 ≤ y.toNat
    · rw [if_pos b] at dy ky
      omega
    · rw [if_neg b] at dy ky
      omega
  · rw [if_neg a] at dx kx
    by_cases b : 2 ^ 63 ≤ y.toNat
    · rw [if_pos b] at dy ky
      omega
    · rw [if_neg b] at dy ky
      omega
theorem c_isBelow (fx : FX n ad sa z0 H) (hx : FP.Core.val64 x ≠ .nan) (hy : FP.Core.val64 y ≠ .nan) : DP (d + 2) 196 [.double x, .double y] H (kO x < kO y) := by
  intro Q hY hN
  have l := dl_k hx hy
  have e := de_k hx hy
  have lx := x.toNat_lt
  have ly := y.toNat_lt
  have kx : kO x = if 2 ^ 63 ≤ x.toNat then FP.Core.dkey x - 1 else FP.Core.dkey x := rfl
  have ky : kO y = if 2 ^ 63 ≤ y.toNat then FP.Core.dkey y - 1 else FP.Core.dkey y := rfl
  have dx := dk_def x
  have dy := dk_def y
  refine w_ib fx x y (fun w => ?_) (fun w1 w2 => ?_) (fun w1 w2 => ?_)
  · have w2 := l.mp w
    exact hY (kO_lt w2)
  · have a1 : ¬ FP.Core.dkey x < FP.Core.dkey y := fun z => w1 (l.mpr z)
    have a2 : ¬ FP.Core.dkey x = FP.Core.dkey y := fun z => w2 (e.mpr z)
    exact hN (kO_nlt a1 a2)
  · have a2 := e.mp w2
    refine c_isMinus fx hx _ (fun sx => ?_) (fun sx => ?_)
    · refine w_ib16 fx x y 1 (fun z => absurd z (by decide)) (fun _ => ?_)
      refine c_isMinus fx hy _ (fun sy => ?_) (fun sy => ?_)
      · refine w_ib23 fx x y 1 (fun _ => hN ?_) (fun z => absurd z (by decide))
        rw [kx, ky, if_pos sx, if_pos sy]; omega
      · refine w_ib23 fx x y 0 (fun z => absurd rfl z) (fun _ => hY ?_)
        rw [kx, ky, if_pos sx, if_neg sy]; omega
    · refine w_ib16 fx x y 0 (fun _ => hN ?_) (fun z => absurd rfl z)
      rw [kx, ky, if_neg sx]
      split <;> omega
/-- two endless ones of opposite signs -/
abbrev OPP (s x : UInt64) : Prop := (x = 9218868437227405312 ∧ s = 18442240474082181120) ∨ (x = 18442240474082181120 ∧ s = 9218868437227405312)
theorem inf_iff (hx : FP.Core.val64 x ≠ .nan) : dgt x 9218868437227405311 ↔ x = 9218868437227405312 := by
  rw [dg_k hx (by decide +kernel), show FP.Core.dkey 9218868437227405311 = 9218868437227405311 by decide +kernel, dk_def]
  have h := (FP.Core.ne_nan x).mp hx
  have lx := x.toNat_lt
  constructor
  · intro w
    refine UInt64.toNat_inj.mp ?_
    show x.toNat = 9218868437227405312
    split at w <;> omega
  · rintro rfl; decide
theorem ninf_iff (hx : FP.Core.val64 x ≠ .nan) : dlt x 18442240474082181119 ↔ x = 18442240474082181120 := by
  rw [dl_k hx (by decide +kernel), show FP.Core.dkey 18442240474082181119 = -9218868437227405311 by decide +kernel, dk_def]
  have h := (FP.Core.ne_nan x).mp hx
  have lx := x.toNat_lt
  constructor
  · intro w
    refine UInt64.toNat_inj.mp ?_
    show x.toNat = 18442240474082181120
    split at w <;> omega
  · rintro rfl; decide
theorem v_inf : FP.Core.val64 9218868437227405312 = .inf false := by decide +kernel
theorem v_ninf : FP.Core.val64 18442240474082181120 = .inf true := by decide +kernel
theorem inf_b {s : Bool} (hx : FP.Core.val64 x = .inf s) : x = if s = true then 18442240474082181120 else 9218868437227405312 := by
  refine FP.Core.val64_inj (by rw [hx]; intro z; cases z) ?_
  rw [hx]
  cases s
  · exact v_inf.symm
  · exact v_ninf.symm
theorem add_nn {s : UInt64} (hs : FP.Core.val64 s ≠ .nan) (hx : FP.Core.val64 x ≠ .nan) (no : ¬ OPP s x) : FP.Core.val64 (FP.dadd s x) ≠ .nan := by
  show FP.Core.val64 (FP.Core.dadd s x) ≠ .nan
  rw [FP.Core.val64_dadd]
  cases es : FP.Core.val64 s with
  | nan => exact absurd es hs
  | inf a =>
    cases ex : FP.Core.val64 x with
    | nan => exact absurd ex hx
    | inf b =>
      by_cases ab : a = b
      · subst ab
        show FP.Core.round FP.Core.b64 (if a = a then .inf a else .nan) ≠ _
        rw [if_pos rfl]
        intro z; cases z
      · refine absurd ?_ no
        have e1 := inf_b es
        have e2 := inf_b ex
        cases a <;> cases b
        · exact absurd rfl ab
        · exact .inr ⟨e2, e1⟩
        · exact .inl ⟨e2, e1⟩
        · exact absurd rfl ab
    | fin t c q => intro z; cases z
  | fin a c q =>
    cases ex : FP.Core.val64 x with
    | nan => exact absurd ex hx
    | inf b => intro z; cases z
    | fin t c' q' => exact FP.Core.roundRatio_ne_nan _ _ _ _ _
/-- the sum of the first k of F, lost where the endless ones meet -/
def smG (F : Nat → UInt64) : Nat → Option UInt64
  | 0 => some 0
  | k + 1 => match smG F k with
    | none => none
    | some s => if OPP s (F k) then none else some (FP.dadd s (F k))
/-- a number, by its bits -/
def nuB (x : UInt64) : Bool := decide (x.toNat % 2 ^ 63 ≤ 9218868437227405312)
theorem nuB_t : nuB x = true ↔ FP.Core.val64 x ≠ .nan := by
  unfold nuB
  rw [decide_eq_true_iff]
  exact (FP.Core.ne_nan x).symm
theorem nu_nan : nuB 9221120237041090560 = false := by decide
variable {F : Nat → UInt64}
theorem smG_s (k : Nat) : smG F (k + 1) = match smG F k with
    | none => none
    | some s => if OPP s (F k) then none else some (FP.dadd s (F k)) := rfl
theorem smG_nn {k : Nat} (hF : ∀ j, j < k → FP.Core.val64 (F j) ≠ .nan) : ∀ i s, i ≤ k → smG F i = some s → FP.Core.val64 s ≠ .nan := by
  intro i
  induction i with
  | zero => intro s _ e; cases e; exact z_nn
  | succ i ih =>
    intro s hi e
    rw [smG_s] at e
    cases e1 : smG F i with
    | none => rw [e1] at e; cases e
    | some s0 =>
      rw [e1] at e
      by_cases o : OPP s0 (F i)
      · simp only [if_pos o] at e; cases e
      · simp only [if_neg o] at e; cases e
        exact add_nn (ih s0 (by omega) e1) (hF i (by omega)) o
theorem smG_up {i : Nat} (e : smG F i = none) : ∀ r, smG F (i + r) = none := by
  intro r
  induction r with
  | zero => exact e
  | succ r ih => rw [← Nat.add_assoc, smG_s, ih]
variable {a k L : Nat} {Q : mQ}
theorem szinf {v : Int64} (hv : FP.Core.val64 v.toUInt64 ≠ .nan) : (v &&& 9223372036854775807) = 9218868437227405312 ↔ v.toUInt64 = 9218868437227405312 ∨ v.toUInt64 = 18442240474082181120 := by
  have h := v.toBitVec.isLt
  have u := u64_nat v
  rw [sz_lN, show (9218868437227405312 : Int64) = lN 9218868437227405312 by decide +kernel, pk_lEQ (by omega) (by decide), ← UInt64.toNat_inj, ← UInt64.toNat_inj, u]
  show _ ↔ v.toBitVec.toNat = 9218868437227405312 ∨ v.toBitVec.toNat = 18442240474082181120
  omega
theorem opp_iff {s : UInt64} {v : Int64} (hs : FP.Core.val64 s ≠ .nan) (hv : FP.Core.val64 v.toUInt64 ≠ .nan) : OPP s v.toUInt64 ↔ ((v &&& 9223372036854775807) = 9218868437227405312 ∧ deq v.toUInt64 (FP.dneg s)) := by
  have ns : FP.Core.val64 (FP.dneg s) ≠ .nan := by rw [FP.val64_dneg]; exact FP.Core.negate_ne_nan hs
  have e := de_k hv ns
  have dd : (FP.dneg (FP.dneg s)) = s := by
    refine FP.Core.val64_inj (by rw [FP.val64_dneg]; exact FP.Core.negate_ne_nan ns) ?_
    rw [FP.val64_dneg, FP.val64_dneg, FP.Core.negate_negate]
  rw [szinf hv, e]
  have key : ∀ y : UInt64, FP.Core.val64 y ≠ .nan → (FP.Core.dkey y = 9218868437227405312 → y = 9218868437227405312) ∧ (FP.Core.dkey y = -9218868437227405312 → y = 18442240474082181120) := by
    intro y hy
    have l := y.toNat_lt
    constructor
    · intro w; rw [dk_def] at w
      refine UInt64.toNat_inj.mp ?_
      show y.toNat = 9218868437227405312
      split at w <;> omega
    · intro w; rw [dk_def] at w
      refine UInt64.toNat_inj.mp ?_
      show y.toNat = 18442240474082181120
      split at w <;> omega
  have k1 : FP.Core.dkey 9218868437227405312 = 9218868437227405312 := by decide +kernel
  have k2 : FP.Core.dkey 18442240474082181120 = -9218868437227405312 := by decide +kernel
  have g1 : FP.dneg 9218868437227405312 = 18442240474082181120 := by decide +kernel
  have g2 : FP.dneg 18442240474082181120 = 9218868437227405312 := by decide +kernel
  constructor
  · rintro (⟨e1, e2⟩ | ⟨e1, e2⟩)
    · rw [e1, e2, g2]; exact ⟨.inl rfl, rfl⟩
    · rw [e1, e2, g1]; exact ⟨.inr rfl, rfl⟩
  · rintro ⟨w1 | w1, w2⟩
    · rw [w1, k1] at w2
      have := (key _ ns).1 w2.symm
      exact .inl ⟨w1, by rw [← dd, this, g1]⟩
    · rw [w1, k2] at w2
      have := (key _ ns).2 w2.symm
      exact .inr ⟨w1, by rw [← dd, this, g2]⟩
theorem il_5 (fx : FX n ad sa z0 H) (ta : hT H a = 21) (nA : hN H a = L) (l1 : L ≤ 100) (hk : k ≤ L) (hF : ∀ j, j < k → hL H a j = (F j).toInt64 ∧ FP.Core.val64 (F j) ≠ .nan) (hy : smG F k = none → Q (some (.int 1)) H) (hn : ¬ smG F k = none → Q (some (.int 0)) H) :
    ∀ r i s (o5 : Option Value), i + r = k → smG F i = some s → WR (d + 2) cd_84 5 [some (.ref a), some (.int (nI k)), some (.double s), none, some (.int (nI i)), o5, none] [] H Q := by
  intro r
  induction r with
  | zero =>
    intro i s o5 hi e
    obtain rfl : i = k := by omega
    exact w_il5e fx ta nA l1 hk rfl s o5 (hn (fun z => by rw [z] at e; cases e))
  | succ r ih =>
    intro i s o5 hi e
    have ns := smG_nn (F := F) (fun j hj => (hF j hj).2) i s (by omega) e
    have h1 := hF i (by omega)
    have vv : (hL H a i).toUInt64 = F i := by rw [h1.1]; rfl
    have nv : FP.Core.val64 (hL H a i).toUInt64 ≠ .nan := by rw [vv]; exact h1.2
    refine w_il5 fx ta nA l1 hk (by omega) s o5 ?_
    refine c_valueOf nv ?_
    have oi := opp_iff ns nv
    rw [vv] at oi nv
    show WR _ cd_84 18 [some (.ref a), some (.int (nI k)), some (.double s), none, some (.int (nI i)), o5, none] [.double (hL H a i).toUInt64] H _
    rw [vv]
    have nx : ¬ OPP s (F i) → smG F (i + 1) = some (FP.dadd s (F i)) := fun o => by rw [smG_s, e]; simp only [if_neg o]
    refine w_il18 (d := d + 1) fx ta nA l1 hk (by omega) s (F i) o5 (fun w => nn_vf (add_nn ns nv (fun o => w (oi.mp o).1))) (fun w => ?_) (fun w1 w2 => nn_vf (add_nn ns nv (fun o => w2 (oi.mp o).2))) (fun w1 w2 => ?_) (fun w1 w2 => ?_)
    · exact ih (i + 1) _ _ (by omega) (nx (fun o => w (oi.mp o).1))
    · exact ih (i + 1) _ _ (by omega) (nx (fun o => w2 (oi.mp o).2))
    · refine hy ?_
      have o := oi.mpr ⟨w1, w2⟩
      have := smG_up (F := F) (i := i + 1) (by rw [smG_s, e]; simp only [if_pos o]) r
      rw [show i + 1 + r = k by omega] at this
      exact this
theorem c_lost (fx : FX n ad sa z0 H) (ta : hT H a = 21) (nA : hN H a = L) (l1 : L ≤ 100) (hk : k ≤ L) (hF : ∀ j, j < k → hL H a j = (F j).toInt64 ∧ FP.Core.val64 (F j) ≠ .nan) : DP (d + 3) 84 [.ref a, .int (nI k)] H (smG F k = none) := by
  intro Q hy hn
  exact w_il0 (i := 0) (d := d + 2) fx ta nA l1 hk (il_5 fx ta nA l1 hk hF hy hn k 0 0 none (by omega) rfl)
theorem su_5 (fx : FX n ad sa z0 H) (ta : hT H a = 21) (nA : hN H a = L) (l1 : L ≤ 100) (hk : k ≤ L) (hF : ∀ j, j < k → hL H a j = (F j).toInt64 ∧ FP.Core.val64 (F j) ≠ .nan) {S : UInt64} (hS : smG F k = some S) (hq : Q (some (.double S)) H) :
    ∀ r i s, i + r = k → smG F i = some s → WR (d + 2) cd_87 5 [some (.ref a), some (.int (nI k)), some (.double s), none, some (.int (nI i))] [] H Q := by
  intro r
  induction r with
  | zero =>
    intro i s hi e
    obtain rfl : i = k := by omega
    rw [hS] at e; cases e
    exact w_su5e fx ta nA l1 hk rfl S hq
  | succ r ih =>
    intro i s hi e
    have ns := smG_nn (F := F) (fun j hj => (hF j hj).2) i s (by omega) e
    have h1 := hF i (by omega)
    have vv : (hL H a i).toUInt64 = F i := by rw [h1.1]; rfl
    have nv : FP.Core.val64 (hL H a i).toUInt64 ≠ .nan := by rw [vv]; exact h1.2
    refine w_su5 fx ta nA l1 hk (by omega) s ?_
    refine c_valueOf nv ?_
    rw [vv] at nv
    show WR _ cd_87 19 [some (.ref a), some (.int (nI k)), some (.double s), none, some (.int (nI i))] [.double (hL H a i).toUInt64, .double s] H _
    rw [vv]
    have no : ¬ OPP s (F i) := fun o => by
      have := smG_up (F := F) (i := i + 1) (by rw [smG_s, e]; simp only [if_pos o]) r
      rw [show i + 1 + r = k by omega, hS] at this
      cases this
    refine w_su19 fx ta nA l1 hk (by omega) s (F i) (nn_vf (add_nn ns nv no)) ?_
    exact ih (i + 1) _ (by omega) (by rw [smG_s, e]; simp only [if_neg no])
theorem c_sum (fx : FX n ad sa z0 H) (ta : hT H a = 21) (nA : hN H a = L) (l1 : L ≤ 100) (hk : k ≤ L) (hF : ∀ j, j < k → hL H a j = (F j).toInt64 ∧ FP.Core.val64 (F j) ≠ .nan) {S : UInt64} (hS : smG F k = some S) (hq : Q (some (.double S)) H) : EV (d + 3) 87 [.ref a, .int (nI k)] H Q :=
  w_su0 (i := 0) (d := d + 2) fx ta nA l1 hk (su_5 fx ta nA l1 hk hF hS hq k 0 0 (by omega) rfl)
end MI
