/-! ===== wear by a load that may be below 0 ===== -/
def wrI (kd q : Nat) (x : Int32) : Int64 := if kd = 3 then (x * x / nI 50 + 0).toInt64 else if kd = 4 then (x * x / nI 100 + x / nI q).toInt64 else x.toInt64
theorem td_b {X m : Int} (hm : 1 ≤ m) {B : Int} (h1 : -B ≤ X) (h2 : X ≤ B) : -B ≤ X.tdiv m ∧ X.tdiv m ≤ B := by
  have h : (X.tdiv m).natAbs = X.natAbs / m.natAbs := Int.natAbs_tdiv X m
  have h3 : X.natAbs / m.natAbs ≤ X.natAbs := Nat.div_le_self _ _
  omega
theorem x_sq {x : Int32} (hl : -10000 ≤ x.toInt ∧ x.toInt ≤ 10000) : 0 ≤ x.toInt * x.toInt ∧ x.toInt * x.toInt ≤ 100000000 := by
  have h1 : (x.toInt * x.toInt).natAbs = x.toInt.natAbs * x.toInt.natAbs := Int.natAbs_mul _ _
  have h2 : x.toInt.natAbs * x.toInt.natAbs ≤ 10000 * 10000 := Nat.mul_le_mul (by omega) (by omega)
  have h3 : 0 ≤ x.toInt * x.toInt := by
    rcases Int.le_total 0 x.toInt with p | p
    · exact Int.mul_nonneg p p
    · exact Int.mul_nonneg_of_nonpos_of_nonpos p p
  omega
theorem sq_32 {x : Int32} (hl : -10000 ≤ x.toInt ∧ x.toInt ≤ 10000) : (x * x).toInt = x.toInt * x.toInt := by
  have := x_sq hl
  rw [Int32.toInt_mul]; exact Int.bmod_eq_of_le (by omega) (by omega)
theorem sq_64 {x : Int32} (hl : -10000 ≤ x.toInt ∧ x.toInt ≤ 10000) : (x.toInt64 * x.toInt64).toInt = x.toInt * x.toInt := by
  have := x_sq hl
  rw [Int64.toInt_mul, Int32.toInt_toInt64]; exact Int.bmod_eq_of_le (by omega) (by omega)
theorem dv_32 {a : Int32} {m : Nat} (hm : 1 ≤ m) (hm2 : m < 2 ^ 31) (h1 : -100000000 ≤ a.toInt) (h2 : a.toInt ≤ 100000000) : (a / nI m).toInt = a.toInt.tdiv m := by
  have t := td_b (X := a.toInt) (m := (m : Int)) (by omega) (B := 100000000) h1 h2
  rw [Int32.toInt_div, nI_toInt hm2]
  exact Int.bmod_eq_of_le (by omega) (by omega)
theorem dv_64 {a : Int64} {m : Nat} (hm : 1 ≤ m) (hm2 : m < 2 ^ 31) (h1 : -100000000 ≤ a.toInt) (h2 : a.toInt ≤ 100000000) : (a / (nI m).toInt64).toInt = a.toInt.tdiv m := by
  have t := td_b (X := a.toInt) (m := (m : Int)) (by omega) (B := 100000000) h1 h2
  rw [Int64.toInt_div, Int32.toInt_toInt64, nI_toInt hm2]
  exact Int.bmod_eq_of_le (by omega) (by omega)
theorem wrI_3 {q : Nat} {x : Int32} (hl : -10000 ≤ x.toInt ∧ x.toInt ≤ 10000) : x.toInt64 * x.toInt64 / (nI 50).toInt64 + 0 = wrI 3 q x := by
  have s := x_sq hl
  have e1 := sq_32 hl
  have e2 := sq_64 hl
  have a1 := dv_32 (a := x * x) (m := 50) (by decide) (by decide) (by omega) (by omega)
  have a2 := dv_64 (a := x.toInt64 * x.toInt64) (m := 50) (by decide) (by decide) (by omega) (by omega)
  unfold wrI
  rw [if_pos rfl, Int64.add_zero, Int32.add_zero]
  apply Int64.toInt.inj
  rw [a2, Int32.toInt_toInt64, a1, e1, e2]
theorem wrI_4 {q : Nat} {x : Int32} (hl : -10000 ≤ x.toInt ∧ x.toInt ≤ 10000) (q1 : 1 ≤ q) (q2 : q < 60) : x.toInt64 * x.toInt64 / (nI 100).toInt64 + x.toInt64 / (nI q).toInt64 = wrI 4 q x := by
  have s := x_sq hl
  have e1 := sq_32 hl
  have e2 := sq_64 hl
  have ex : x.toInt64.toInt = x.toInt := Int32.toInt_toInt64 x
  have a1 := dv_32 (a := x * x) (m := 100) (by decide) (by decide) (by omega) (by omega)
  have a2 := dv_64 (a := x.toInt64 * x.toInt64) (m := 100) (by decide) (by decide) (by omega) (by omega)
  have b1 := dv_32 (a := x) (m := q) q1 (by omega) (by omega) (by omega)
  have b2 := dv_64 (a := x.toInt64) (m := q) q1 (by omega) (by omega) (by omega)
  have t1 := td_b (X := x.toInt * x.toInt) (m := ((100 : Nat) : Int)) (by omega) (B := 100000000) (by omega) (by omega)
  have t2 := td_b (X := x.toInt) (m := (q : Int)) (by omega) (B := 10000) (by omega) (by omega)
  unfold wrI
  rw [if_neg (by decide), if_pos rfl]
  apply Int64.toInt.inj
  rw [Int32.toInt_toInt64, Int64.toInt_add, Int32.toInt_add, a1, a2, b1, b2, e1, e2, ex]
  rw [Int.bmod_eq_of_le (by omega) (by omega), Int.bmod_eq_of_le (by omega) (by omega)]
section WE
variable {n : Nat} {ad sa : Nat → Nat} {z0 : Nat} {h : mH} {b : Int32} {d : Nat} {Q : mQ} {a kd q : Nat}
theorem c_wearI (fx : FX n ad sa z0 h) (rst : Rst sa h) (ta : hT h a = 4) (e0 : hI h a 0 = nI kd) (e1 : hI h a 1 = nI q) (hk : kd < 7) (hq : q < 60) (h0 : 0 ≤ hI h (ad 2) 1) {l : Int32}
    (q1 : ¬ (kd = 4 ∧ q = 0) → Q (some (.int 0)) (sL (sL (pCs ad (wB kd) h) a 3 (wrI kd q l)) a 2 (hL h a 2 + wrI kd q l))) (q0 : kd = 4 ∧ q = 0 → Q (some (.int (-16))) (pCs ad (wB kd) h)) : EV (d + 3) 70 [.ref a, .int l, .ref (ad 2)] h Q := by
  have i0 : nI 0 = (0 : Int32) := rfl
  have f := fun (b : Int32) (j : Nat) => pC_a (b := b) fx ta j
  have t2 := fun (b : Int32) => (congrFun (pC_T (ad := ad) (b := b) (h := h)) a).trans ta
  have f2 := fun (b c : Int32) (j : Nat) => (pC_a (b := c) (FX.pC (b := b) fx) (t2 b) j).trans (f b j)
  have t3 := fun (b c : Int32) => (congrFun (pC_T (ad := ad) (b := c) (h := pC ad b h)) a).trans (t2 b)
  refine w_wear fx ta l ?_
  refine c_isOf (k := 3) fx rst ta e0 hk (by decide) ?_
  show WR (d + 2) cd_70 5 [some (.ref a), some (.int l), some (.ref (ad 2)), none] [.int (if ofK kd 3 = true then 1 else 0)] h Q
  have ko : ofK kd 3 = true ↔ (kd = 3 ∨ kd = 4) := by
    have all : ∀ k, k < 7 → (ofK k 3 = true ↔ (k = 3 ∨ k = 4)) := by decide
    exact all kd hk
  have fz : ¬ (if ofK kd 3 = true then (1 : Int32) else 0) = 0 → (kd = 3 ∨ kd = 4) := fun z => by
    apply Classical.byContradiction
    intro w
    rw [if_neg (fun y => w (ko.mp y))] at z
    exact z rfl
  refine w_wear5 (d := d + 1) fx ta l _ ?_ ?_ ?_ ?_ ?_ ?_ ?_
  · intro _ _; exact h0
  · intro _ _; exact h0
  · intro _ _; exact pC_nn h0
  · intro _; exact h0
  · intro z c
    rw [e0] at c
    have k3 : kd = 3 := by
      rcases fz z with k | k
      · exact k
      · exact absurd (by rw [k]; rfl) c
    subst k3
    refine c_limit (h := pC ad 32 h) (FX.pC fx) (Rst.pC fx rst) (t2 32) ((f 32 0).trans e0) ((f 32 1).trans e1) hk hq (pC_nn h0) ?_
    rw [show limB 3 = [14] from rfl, show limV 3 q = 50 from rfl]
    rw [show wB 3 = [32, 14] from rfl, pCs_2] at q1 q0
    have ta2 : hT (pC ad 14 (pC ad 32 h)) a = 4 := t3 32 14
    refine w_wear46 (d := d + 1) (h := pC ad 14 (pC ad 32 h)) (FX.pC (FX.pC fx)) ta2 l (nI 50) ?_ ?_ ?_ ?_ ?_ ?_ ?_
    · intro _ _; decide
    · intro _ _ _; decide
    · intro _ w; rw [f2, e0] at w; exact absurd w (by decide)
    · intro w; exact absurd w (by decide)
    · intro _ _
      have v : (l * l / nI 50 + 0).toInt64 = wrI 3 q l := rfl
      rw [v, L_nk (by decide), pC_L, pC_L]
      exact q1 (fun w => absurd w.1 (by decide))
    · intro _ w; rw [f2, e0] at w; exact absurd w (by decide)
    · intro _ w; rw [f2, e0] at w; exact absurd w (by decide)
  · intro z c
    rw [e0] at c
    obtain rfl : kd = 4 := lit_eq (c := 4) (by omega) (by decide) rfl rfl c
    have fx2 : FX n ad sa z0 (pC ad 32 (pC ad 33 h)) := FX.pC (FX.pC fx)
    have tb : hT (pC ad 32 (pC ad 33 h)) a = 4 := t3 33 32
    have g0 : hI (pC ad 32 (pC ad 33 h)) a 0 = nI 4 := (f2 33 32 0).trans e0
    have g1 : hI (pC ad 32 (pC ad 33 h)) a 1 = nI q := (f2 33 32 1).trans e1
    refine c_limit (h := pC ad 32 (pC ad 33 h)) fx2 (Rst.pC (FX.pC fx) (Rst.pC fx rst)) tb g0 g1 hk hq (pC_nn (pC_nn h0)) ?_
    rw [show limB 4 = [15, 14] from rfl, show limV 4 q = 100 from rfl, pCs_2]
    rw [show wB 4 = [33, 32, 15, 14] from rfl, pCs_4] at q1 q0
    have tc : hT (pC ad 15 (pC ad 32 (pC ad 33 h))) a = 4 := (congrFun pC_T a).trans tb
    have td : hT (pC ad 14 (pC ad 15 (pC ad 32 (pC ad 33 h)))) a = 4 := (congrFun pC_T a).trans tc
    have fx3 : FX n ad sa z0 (pC ad 15 (pC ad 32 (pC ad 33 h))) := FX.pC fx2
    have k0 : hI (pC ad 14 (pC ad 15 (pC ad 32 (pC ad 33 h)))) a 0 = nI 4 := (pC_a fx3 tc 0).trans ((pC_a fx2 tb 0).trans g0)
    have k1 : hI (pC ad 14 (pC ad 15 (pC ad 32 (pC ad 33 h)))) a 1 = nI q := (pC_a fx3 tc 1).trans ((pC_a fx2 tb 1).trans g1)
    refine w_wear46 (d := d + 1) (h := pC ad 14 (pC ad 15 (pC ad 32 (pC ad 33 h)))) (FX.pC fx3) td l (nI 100) ?_ ?_ ?_ ?_ ?_ ?_ ?_
    · intro _ _; decide
    · intro _ _ _; decide
    · intro _ _ w; exact w
    · intro w; exact absurd w (by decide)
    · intro _ w; rw [k0] at w; exact absurd rfl w
    · intro _ _ w
      rw [k1] at w ⊢
      have q0' : q ≠ 0 := fun y => w (by rw [y]; rfl)
      have v : (l * l / nI 100 + l / nI q).toInt64 = wrI 4 q l := rfl
      rw [v, L_nk (by decide), pC_L, pC_L, pC_L, pC_L]
      exact q1 (fun y => q0' y.2)
    · intro _ _ w
      rw [k1] at w
      exact q0 ⟨rfl, lit_eq (c := 0) (by omega) (by decide) rfl rfl w⟩
  · intro z
    have k34 : ¬ (kd = 3 ∨ kd = 4) := fun w => by rw [if_pos (ko.mpr w)] at z; exact absurd z (by decide)
    have eB : wB kd = [31] := by unfold wB; rw [if_neg (fun w => k34 (.inl w)), if_neg (fun w => k34 (.inr w))]
    have eV : wrI kd q l = l.toInt64 := by unfold wrI; rw [if_neg (fun w => k34 (.inl w)), if_neg (fun w => k34 (.inr w))]
    have := q1 (fun w => k34 (.inr w.1))
    rw [eB, eV] at this
    rw [L_nk (by decide), pC_L]
    exact this
theorem c_mwearI (fx : FX n ad sa z0 h) (e0 : hI h (ad 37) q = nI kd) (hk : kd < 7) (hq : q < 60) (h0 : 0 ≤ hI h (ad 30) 9) {l : Int32} (hl : -10000 ≤ l.toInt ∧ l.toInt ≤ 10000)
    (q1 : ¬ (kd = 4 ∧ q = 0) → Q (some (.int 0)) (sL (sL (pMs ad (wB kd) h) (ad 30) 15 (wrI kd q l)) (ad 38) q (hL h (ad 38) q + wrI kd q l))) (q0 : kd = 4 ∧ q = 0 → Q (some (.int 6)) (sL (pMs ad (wB kd) h) (ad 30) 15 (l.toInt64 * l.toInt64 / (nI 100).toInt64))) : EV (d + 3) 189 [.ref (ad 30), .int (nI q), .long l.toInt64] h Q := by
  have l0 : lN 0 = (0 : Int64) := rfl
  have ec : (nI q).toNatClampNeg = q := nI_clamp (by omega)
  have vp : vp_in (nI q) 60 := vp_in_nI hq (by omega)
  have f := fun (b : Int32) (j : Nat) => pM_37 (b := b) fx j
  have f2 := fun (b c : Int32) (j : Nat) => (pM_37 (b := c) (FX.pM (b := b) fx) j).trans (f b j)
  have n38 : ad 38 ≠ ad 30 := fx_ne fx (by decide)
  refine w_mwear fx (nI q) l.toInt64 vp ?_ ?_ ?_ ?_ ?_ ?_ ?_ ?_ ?_ ?_
  · intro _ _; exact h0
  · intro _ _; exact h0
  · intro _ _; exact vp
  · intro _; exact h0
  · intro _ _; exact pM_nn h0
  · intro _ _; exact pM_nn h0
  all_goals (rw [ec, e0])
  · intro c c2
    obtain rfl : kd = 3 := lit_eq (c := 3) (by omega) (by decide) rfl rfl c2
    refine c_mlimit (h := pM ad 32 h) (FX.pM fx) ((f 32 q).trans e0) hk hq (pM_nn h0) ?_
    rw [show limB 3 = [14] from rfl, show limV 3 q = 50 from rfl]
    rw [show wB 3 = [32, 14] from rfl, pMs_2] at q1 q0
    have v : l.toInt64 * l.toInt64 / (nI 50).toInt64 + 0 = wrI 3 q l := wrI_3 hl
    refine w_mwear47 (d := d + 2) (h := pM ad 14 (pM ad 32 h)) (FX.pM (FX.pM fx)) (nI q) (nI 50) (nI 3) l.toInt64 (l.toInt64 * l.toInt64) (by decide) (fun _ => vp) (fun w => absurd w (by decide)) (fun w => absurd w (by decide)) ?_ (fun w => absurd w (by decide)) (fun w => absurd w (by decide))
    intro _
    rw [ec, L_eq, v, sL_sL, L_ne n38, L_eq, pM_L, pM_L]
    exact q1 (fun w => absurd w.1 (by decide))
  · intro c c2
    have k3 : kd ≠ 3 := fun w => c2 (by rw [w]; rfl)
    have k4 : kd ≠ 4 := fun w => c (by rw [w]; rfl)
    have eB : wB kd = [31] := by unfold wB; rw [if_neg k3, if_neg k4]
    have eV : wrI kd q l = l.toInt64 := by unfold wrI; rw [if_neg k3, if_neg k4]
    have := q1 (fun w => k4 w.1)
    rw [eB, eV] at this
    rw [L_eq, Int64.add_zero, sL_sL, L_ne n38, L_eq, pM_L]
    exact this
  · intro c c2
    have := lit_eq (k := kd) (c := 4) (by omega) (by decide) rfl rfl c
    have := lit_eq (k := kd) (c := 3) (by omega) (by decide) rfl rfl c2
    omega
  · intro c c2
    obtain rfl : kd = 4 := lit_eq (c := 4) (by omega) (by decide) rfl rfl c
    have g0 : hI (pM ad 32 (pM ad 33 h)) (ad 37) q = nI 4 := (f2 33 32 q).trans e0
    refine c_mlimit (h := pM ad 32 (pM ad 33 h)) (FX.pM (FX.pM fx)) g0 hk hq (pM_nn (pM_nn h0)) ?_
    rw [show limB 4 = [15, 14] from rfl, show limV 4 q = 100 from rfl, pMs_2]
    rw [show wB 4 = [33, 32, 15, 14] from rfl, pMs_4] at q1 q0
    refine w_mwear47 (d := d + 2) (h := pM ad 14 (pM ad 15 (pM ad 32 (pM ad 33 h)))) (FX.pM (FX.pM (FX.pM (FX.pM fx)))) (nI q) (nI 100) (nI 4) l.toInt64 (l.toInt64 * l.toInt64) (by decide) (fun w => absurd rfl w) ?_ (fun _ _ => vp) (fun w => absurd rfl w) ?_ ?_
    · intro _ w y
      have q0' : q ≠ 0 := fun z => w (by rw [z]; rfl)
      rw [nI_l (by omega), ← l0, pk_lEQ (by omega) (by omega)] at y
      exact q0' y
    · intro _ w
      have q0' : q ≠ 0 := fun z => w (by rw [z]; rfl)
      have v : l.toInt64 * l.toInt64 / (nI 100).toInt64 + l.toInt64 / (nI q).toInt64 = wrI 4 q l := wrI_4 hl (by omega) hq
      rw [ec, L_eq, v, sL_sL, L_ne n38, L_eq, pM_L, pM_L, pM_L, pM_L]
      exact q1 (fun y => q0' y.2)
    · intro _ w
      exact q0 ⟨rfl, lit_eq (c := 0) (by omega) (by decide) rfl rfl w⟩
end WE
