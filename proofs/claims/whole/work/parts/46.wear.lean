/-! ===== limit, cost, wear by contract ===== -/
def pCs (ad : Nat → Nat) (L : List Int32) (h : mH) : mH := L.foldl (fun h b => pC ad b h) h
def pMs (ad : Nat → Nat) (L : List Int32) (h : mH) : mH := L.foldl (fun h b => pM ad b h) h
def limV (kd q : Nat) : Nat := if kd = 0 then 40 else if kd = 1 then 30 else if kd = 2 then 50 else if kd = 3 then 50 else if kd = 4 then 100 else if kd = 5 then 60 else 60 + q % 10
def limB (kd : Nat) : List Int32 := if kd = 0 then [11] else if kd = 1 then [12] else if kd = 2 then [13, 12] else if kd = 3 then [14] else if kd = 4 then [15, 14] else if kd = 5 then [16] else [17, 16]
theorem pCs_2 {ad : Nat → Nat} {a b : Int32} {h : mH} : pCs ad [a, b] h = pC ad b (pC ad a h) := by
  unfold pCs
  rw [List.foldl_cons, List.foldl_cons, List.foldl_nil]
theorem pMs_2 {ad : Nat → Nat} {a b : Int32} {h : mH} : pMs ad [a, b] h = pM ad b (pM ad a h) := by
  unfold pMs
  rw [List.foldl_cons, List.foldl_cons, List.foldl_nil]
theorem pCs_4 {ad : Nat → Nat} {a b c d : Int32} {h : mH} : pCs ad [a, b, c, d] h = pC ad d (pC ad c (pC ad b (pC ad a h))) := by
  unfold pCs
  rw [List.foldl_cons, List.foldl_cons, List.foldl_cons, List.foldl_cons, List.foldl_nil]
theorem pMs_4 {ad : Nat → Nat} {a b c d : Int32} {h : mH} : pMs ad [a, b, c, d] h = pM ad d (pM ad c (pM ad b (pM ad a h))) := by
  unfold pMs
  rw [List.foldl_cons, List.foldl_cons, List.foldl_cons, List.foldl_cons, List.foldl_nil]
theorem stA_1 {k : Nat} (h : k < 7) : (stA 1).getD k 0 = nI (11 + k) := by
  have all : ∀ k, k < 7 → (stA 1).getD k 0 = nI (11 + k) := by decide +kernel
  exact all k h
section WE
variable {n : Nat} {ad sa : Nat → Nat} {z0 : Nat} {h : mH} {b : Int32} {d : Nat} {Q : mQ} {a kd q : Nat}
theorem pC_nn (h0 : 0 ≤ hI h (ad 2) 1) : 0 ≤ hI (pC ad b h) (ad 2) 1 := by
  unfold pC
  split
  · rename_i z
    rw [I_eq]
    have z1 := i_lt z
    have z2 := i_le h0
    have e0 : (0 : Int32).toInt = 0 := rfl
    have e1 : (1 : Int32).toInt = 1 := rfl
    have e6 : (60 : Int32).toInt = 60 := rfl
    refine Int32.le_iff_toInt_le.mpr ?_
    rw [add_t (by omega) (by omega)]; omega
  · exact h0
theorem pM_nn (h0 : 0 ≤ hI h (ad 30) 9) : 0 ≤ hI (pM ad b h) (ad 30) 9 := by
  unfold pM
  split
  · rename_i z
    rw [I_eq]
    have z1 := i_lt z
    have z2 := i_le h0
    have e0 : (0 : Int32).toInt = 0 := rfl
    have e1 : (1 : Int32).toInt = 1 := rfl
    have e6 : (60 : Int32).toInt = 60 := rfl
    refine Int32.le_iff_toInt_le.mpr ?_
    rw [add_t (by omega) (by omega)]; omega
  · exact h0
theorem tag_ne (fx : FX n ad sa z0 h) (ta : hT h a = 4) : a ≠ ad 2 ∧ a ≠ ad 3 := by
  refine ⟨fun e => ?_, fun e => ?_⟩
  · rw [e, fx_t2 fx] at ta; cases ta
  · rw [e, fx_t3 fx] at ta; cases ta
theorem pC_a (fx : FX n ad sa z0 h) (ta : hT h a = 4) (j : Nat) : hI (pC ad b h) a j = hI h a j := pC_I (tag_ne fx ta).2 (fun z => (tag_ne fx ta).1 z.1)
theorem pM_37 (fx : FX n ad sa z0 h) (j : Nat) : hI (pM ad b h) (ad 37) j = hI h (ad 37) j := pM_I (fx_ne fx (by decide)) (fun z => fx_ne fx (by decide) z.1)
theorem lit_eq {k c : Nat} (hk : k < 2 ^ 31) (hc : c < 2 ^ 31) {x y : Int32} (e : x = nI k) (f : y = nI c) (z : x = y) : k = c := (nI_eq hk hc).mp (e.symm.trans (z.trans f))
theorem rem10 {q : Nat} (hq : q < 60) : 60 + (nI q - nI q / 10 * 10) = nI (60 + q % 10) := by
  rw [show (10 : Int32) = nI 10 from rfl, pk_rem (by omega) (by decide) (by decide), show (60 : Int32) = nI 60 from rfl, nI_add]
theorem c_limit (fx : FX n ad sa z0 h) (rst : Rst sa h) (ta : hT h a = 4) (e0 : hI h a 0 = nI kd) (e1 : hI h a 1 = nI q) (hk : kd < 7) (hq : q < 60) (h0 : 0 ≤ hI h (ad 2) 1) (hQ : Q (some (.int (nI (limV kd q)))) (pCs ad (limB kd) h)) : EV (d + 2) 67 [.ref a, .ref (ad 2)] h Q := by
  have s1 : hI h (sa 1) (hI h a 0).toNatClampNeg = nI (11 + kd) := by
    rw [e0, nI_clamp (by omega), rst 1 (by decide) kd hk, stA_1 hk]
  have f := fun (b : Int32) (j : Nat) => pC_a (b := b) fx ta j
  have t2 := fun (b : Int32) => (congrFun (pC_T (ad := ad) (b := b) (h := h)) a).trans ta
  have f2 := fun (b c : Int32) (j : Nat) => (pC_a (b := c) (FX.pC (b := b) fx) (t2 b) j).trans (f b j)
  refine w_limit fx ta (by rw [e0]; exact vp_in_nI hk (by omega)) h0 ?_ ?_ ?_ ?_ ?_ ?_ ?_ ?_ ?_ ?_
  · intro _; exact pC_nn h0
  · intro _; exact pC_nn h0
  · intro _; exact pC_nn h0
  all_goals (rw [f, s1, e0])
  · rw [nI_toInt (by omega)]
    intro c c2
    obtain rfl : kd = 1 := by
      have : kd ≠ 0 := fun z => c2 (by rw [z]; rfl)
      omega
    exact hQ
  · intro c c2
    obtain rfl : kd = 0 := lit_eq (c := 0) (by omega) (by decide) rfl rfl c2
    exact hQ
  · intro c
    obtain rfl : kd = 2 := lit_eq (c := 2) (by omega) (by decide) rfl rfl c
    exact hQ
  · intro c
    obtain rfl : kd = 3 := lit_eq (c := 3) (by omega) (by decide) rfl rfl c
    exact hQ
  · intro c
    obtain rfl : kd = 4 := lit_eq (c := 4) (by omega) (by decide) rfl rfl c
    exact hQ
  · intro c
    obtain rfl : kd = 5 := lit_eq (c := 5) (by omega) (by decide) rfl rfl c
    exact hQ
  · intro c
    obtain rfl : kd = 6 := lit_eq (c := 6) (by omega) (by decide) rfl rfl c
    rw [f2, e1, rem10 hq]
    exact hQ
theorem c_mlimit (fx : FX n ad sa z0 h) (e0 : hI h (ad 37) q = nI kd) (hk : kd < 7) (hq : q < 60) (h0 : 0 ≤ hI h (ad 30) 9) (hQ : Q (some (.int (nI (limV kd q)))) (pMs ad (limB kd) h)) : EV (d + 2) 186 [.ref (ad 30), .int (nI q)] h Q := by
  have ec : (nI q).toNatClampNeg = q := nI_clamp (by omega)
  have vp : vp_in (nI q) 60 := vp_in_nI hq (by omega)
  refine w_mlimit fx (nI q) vp ?_ ?_ ?_ ?_ ?_ ?_ ?_ ?_ ?_ ?_ ?_ ?_ ?_ ?_ ?_ ?_ ?_
  any_goals (intro _; exact h0)
  any_goals (intro _; exact pM_nn h0)
  all_goals (rw [ec, e0])
  · rw [nI_toInt (by omega)]
    intro c
    obtain rfl : kd = 6 := by omega
    rw [rem10 hq]
    exact hQ
  · intro c
    obtain rfl : kd = 0 := lit_eq (c := 0) (by omega) (by decide) rfl rfl c
    exact hQ
  · intro c
    obtain rfl : kd = 1 := lit_eq (c := 1) (by omega) (by decide) rfl rfl c
    exact hQ
  · intro c
    obtain rfl : kd = 2 := lit_eq (c := 2) (by omega) (by decide) rfl rfl c
    exact hQ
  · intro c
    obtain rfl : kd = 3 := lit_eq (c := 3) (by omega) (by decide) rfl rfl c
    exact hQ
  · intro c
    obtain rfl : kd = 4 := lit_eq (c := 4) (by omega) (by decide) rfl rfl c
    exact hQ
  · intro c
    obtain rfl : kd = 5 := lit_eq (c := 5) (by omega) (by decide) rfl rfl c
    exact hQ
theorem Rst.pC (fx : FX n ad sa z0 h) (rst : Rst sa h) : Rst sa (pC ad b h) := fun j hj i hi => (pC_I ((fx_lt fx (i := 3) (.inl (by decide))).2.2 j hj) (fun z => (fx_lt fx (i := 2) (.inl (by decide))).2.2 j hj z.1)).trans (rst j hj i hi)
theorem sL_sL {k : Nat} {x y : Int64} : sL (sL h a k x) a k y = sL h a k y := by
  have e : hL (sL (sL h a k x) a k y) = hL (sL h a k y) := by
    funext c j
    rw [hL_sL, hL_sL, hL_sL]
    split <;> rfl
  unfold sL
  unfold sL at e
  exact congrArg (fun f => (hT h, hN h, hZ h, hU h, hI h, f, hD h, hR h)) e
def wB (kd : Nat) : List Int32 := if kd = 3 then [32, 14] else if kd = 4 then [33, 32, 15, 14] else [31]
def wV (kd q l : Nat) : Nat := if kd = 3 then l * l / 50 else if kd = 4 then l * l / 100 + l / q else l
theorem ll_b {l : Nat} (hl : l ≤ 10000) : l * l < 2 ^ 31 := by
  have : l * l ≤ 10000 * 10000 := Nat.mul_le_mul hl hl
  omega
theorem c_wear (fx : FX n ad sa z0 h) (rst : Rst sa h) (ta : hT h a = 4) (e0 : hI h a 0 = nI kd) (e1 : hI h a 1 = nI q) (hk : kd < 7) (hq : q < 60) (h0 : 0 ≤ hI h (ad 2) 1) {l : Nat} (hl : l ≤ 10000)
    (q1 : ¬ (kd = 4 ∧ q = 0) → Q (some (.int 0)) (sL (sL (pCs ad (wB kd) h) a 3 (lN (wV kd q l))) a 2 (hL h a 2 + lN (wV kd q l)))) (q0 : kd = 4 ∧ q = 0 → Q (some (.int (-16))) (pCs ad (wB kd) h)) : EV (d + 3) 70 [.ref a, .int (nI l), .ref (ad 2)] h Q := by
  have ll := ll_b hl
  have i0 : nI 0 = (0 : Int32) := rfl
  have f := fun (b : Int32) (j : Nat) => pC_a (b := b) fx ta j
  have t2 := fun (b : Int32) => (congrFun (pC_T (ad := ad) (b := b) (h := h)) a).trans ta
  have f2 := fun (b c : Int32) (j : Nat) => (pC_a (b := c) (FX.pC (b := b) fx) (t2 b) j).trans (f b j)
  have t3 := fun (b c : Int32) => (congrFun (pC_T (ad := ad) (b := c) (h := pC ad b h)) a).trans (t2 b)
  refine w_wear fx ta (nI l) ?_
  refine c_isOf (k := 3) fx rst ta e0 hk (by decide) ?_
  show WR (d + 2) cd_70 5 [some (.ref a), some (.int (nI l)), some (.ref (ad 2)), none] [.int (if ofK kd 3 = true then 1 else 0)] h Q
  have ko : ofK kd 3 = true ↔ (kd = 3 ∨ kd = 4) := by
    have all : ∀ k, k < 7 → (ofK k 3 = true ↔ (k = 3 ∨ k = 4)) := by decide
    exact all kd hk
  have fz : ¬ (if ofK kd 3 = true then (1 : Int32) else 0) = 0 → (kd = 3 ∨ kd = 4) := fun z => by
    apply Classical.byContradiction
    intro w
    rw [if_neg (fun y => w (ko.mp y))] at z
    exact z rfl
  refine w_wear5 (d := d + 1) fx ta (nI l) _ ?_ ?_ ?_ ?_ ?_ ?_ ?_
  · intro _ _; exact h0
  · intro _ _; exact h0
  · intro _ _; exact pC_nn h0
  · intro _; exact h0
  · intro z c
    rw [e0] at c
    have k3 : kd = 3 := by
      rcases fz z with k | k
      · exact k
      · exact absurd (by rw [k]; rfl) c
    subst k3
    refine c_limit (h := pC ad 32 h) (FX.pC fx) (Rst.pC fx rst) (t2 32) ((f 32 0).trans e0) ((f 32 1).trans e1) hk hq (pC_nn h0) ?_
    rw [show limB 3 = [14] from rfl, show limV 3 q = 50 from rfl]
    rw [show wB 3 = [32, 14] from rfl, pCs_2] at q1 q0
    have ta2 : hT (pC ad 14 (pC ad 32 h)) a = 4 := t3 32 14
    refine w_wear46 (d := d + 1) (h := pC ad 14 (pC ad 32 h)) (FX.pC (FX.pC fx)) ta2 (nI l) (nI 50) ?_ ?_ ?_ ?_ ?_ ?_ ?_
    · intro _ _; decide
    · intro _ _ _; decide
    · intro _ w; rw [f2, e0] at w; exact absurd w (by decide)
    · intro w; exact absurd w (by decide)
    · intro _ _
      have v : (nI l * nI l / nI 50 + 0).toInt64 = lN (wV 3 q l) := by
        rw [pk_mul, pk_div ll (by decide) (by decide), ← i0, nI_add, Nat.add_zero, nI_l (by omega)]; rfl
      rw [v, L_nk (by decide), pC_L, pC_L]
      exact q1 (fun w => absurd w.1 (by decide))
    · intro _ w; rw [f2, e0] at w; exact absurd w (by decide)
    · intro _ w; rw [f2, e0] at w; exact absurd w (by decide)
  · intro z c
    rw [e0] at c
    obtain rfl : kd = 4 := lit_eq (c := 4) (by omega) (by decide) rfl rfl c
    have fx2 : FX n ad sa z0 (pC ad 32 (pC ad 33 h)) := FX.pC (FX.pC fx)
    have tb : hT (pC ad 32 (pC ad 33 h)) a = 4 := t3 33 32
    have g0 : hI (pC ad 32 (pC ad 33 h)) a 0 = nI 4 := (f2 33 32 0).trans e0
    have g1 : hI (pC ad 32 (pC ad 33 h)) a 1 = nI q := (f2 33 32 1).trans e1
    refine c_limit (h := pC ad 32 (pC ad 33 h)) fx2 (Rst.pC (FX.pC fx) (Rst.pC fx rst)) tb g0 g1 hk hq (pC_nn (pC_nn h0)) ?_
    rw [show limB 4 = [15, 14] from rfl, show limV 4 q = 100 from rfl, pCs_2]
    rw [show wB 4 = [33, 32, 15, 14] from rfl, pCs_4] at q1 q0
    have tc : hT (pC ad 15 (pC ad 32 (pC ad 33 h))) a = 4 := (congrFun pC_T a).trans tb
    have td : hT (pC ad 14 (pC ad 15 (pC ad 32 (pC ad 33 h)))) a = 4 := (congrFun pC_T a).trans tc
    have fx3 : FX n ad sa z0 (pC ad 15 (pC ad 32 (pC ad 33 h))) := FX.pC fx2
    have k0 : hI (pC ad 14 (pC ad 15 (pC ad 32 (pC ad 33 h)))) a 0 = nI 4 := (pC_a fx3 tc 0).trans ((pC_a fx2 tb 0).trans g0)
    have k1 : hI (pC ad 14 (pC ad 15 (pC ad 32 (pC ad 33 h)))) a 1 = nI q := (pC_a fx3 tc 1).trans ((pC_a fx2 tb 1).trans g1)
    refine w_wear46 (d := d + 1) (h := pC ad 14 (pC ad 15 (pC ad 32 (pC ad 33 h)))) (FX.pC fx3) td (nI l) (nI 100) ?_ ?_ ?_ ?_ ?_ ?_ ?_
    · intro _ _; decide
    · intro _ _ _; decide
    · intro _ _ w; exact w
    · intro w; exact absurd w (by decide)
    · intro _ w; rw [k0] at w; exact absurd rfl w
    · intro _ _ w
      rw [k1] at w ⊢
      have q0' : q ≠ 0 := fun y => w (by rw [y]; rfl)
      have lq : l / q ≤ l := Nat.div_le_self _ _
      have v : (nI l * nI l / nI 100 + nI l / nI q).toInt64 = lN (wV 4 q l) := by
        rw [pk_mul, pk_div ll (by decide) (by decide), pk_div (by omega) (by omega) (by omega), nI_add, nI_l (by omega)]; rfl
      rw [v, L_nk (by decide), pC_L, pC_L, pC_L, pC_L]
      exact q1 (fun y => q0' y.2)
    · intro _ _ w
      rw [k1] at w
      exact q0 ⟨rfl, lit_eq (c := 0) (by omega) (by decide) rfl rfl w⟩
  · intro z
    have k34 : ¬ (kd = 3 ∨ kd = 4) := fun w => by rw [if_pos (ko.mpr w)] at z; exact absurd z (by decide)
    have eB : wB kd = [31] := by unfold wB; rw [if_neg (fun w => k34 (.inl w)), if_neg (fun w => k34 (.inr w))]
    have eV : wV kd q l = l := by unfold wV; rw [if_neg (fun w => k34 (.inl w)), if_neg (fun w => k34 (.inr w))]
    have := q1 (fun w => k34 (.inr w.1))
    rw [eB, eV] at this
    rw [nI_l (by omega), L_nk (by decide), pC_L]
    exact this
theorem c_mwear (fx : FX n ad sa z0 h) (e0 : hI h (ad 37) q = nI kd) (hk : kd < 7) (hq : q < 60) (h0 : 0 ≤ hI h (ad 30) 9) {l : Nat} (hl : l ≤ 10000)
    (q1 : ¬ (kd = 4 ∧ q = 0) → Q (some (.int 0)) (sL (sL (pMs ad (wB kd) h) (ad 30) 15 (lN (wV kd q l))) (ad 38) q (hL h (ad 38) q + lN (wV kd q l)))) (q0 : kd = 4 ∧ q = 0 → Q (some (.int 6)) (sL (pMs ad (wB kd) h) (ad 30) 15 (lN (l * l / 100)))) : EV (d + 3) 189 [.ref (ad 30), .int (nI q), .long (lN l)] h Q := by
  have ll := ll_b hl
  have l0 : lN 0 = (0 : Int64) := rfl
  have ec : (nI q).toNatClampNeg = q := nI_clamp (by omega)
  have vp : vp_in (nI q) 60 := vp_in_nI hq (by omega)
  have f := fun (b : Int32) (j : Nat) => pM_37 (b := b) fx j
  have f2 := fun (b c : Int32) (j : Nat) => (pM_37 (b := c) (FX.pM (b := b) fx) j).trans (f b j)
  have n38 : ad 38 ≠ ad 30 := fx_ne fx (by decide)
  refine w_mwear fx (nI q) (lN l) vp ?_ ?_ ?_ ?_ ?_ ?_ ?_ ?_ ?_ ?_
  · intro _ _; exact h0
  · intro _ _; exact h0
  · intro _ _; exact vp
  · intro _; exact h0
  · intro _ _; exact pM_nn h0
  · intro _ _; exact pM_nn h0
  all_goals (rw [ec, e0])
  · intro c c2
    obtain rfl : kd = 3 := lit_eq (c := 3) (by omega) (by decide) rfl rfl c2
    refine c_mlimit (h := pM ad 32 h) (FX.pM fx) ((f 32 q).trans e0) hk hq (pM_nn h0) ?_
    rw [show limB 3 = [14] from rfl, show limV 3 q = 50 from rfl]
    rw [show wB 3 = [32, 14] from rfl, pMs_2] at q1 q0
    have v : lN l * lN l / (nI 50).toInt64 = lN (l * l / 50) := by
      rw [nI_l (by decide), lN_mul, pk_lDiv (by omega) (by decide) (by decide)]
    refine w_mwear47 (d := d + 2) (h := pM ad 14 (pM ad 32 h)) (FX.pM (FX.pM fx)) (nI q) (nI 50) (nI 3) (lN l) (lN l * lN l) (by decide) (fun _ => vp) (fun w => absurd w (by decide)) (fun w => absurd w (by decide)) ?_ (fun w => absurd w (by decide)) (fun w => absurd w (by decide))
    intro _
    rw [v, ec, L_eq, ← l0, lN_add, Nat.add_zero, sL_sL, L_ne n38, L_eq, pM_L, pM_L]
    exact q1 (fun w => absurd w.1 (by decide))
  · intro c c2
    have k3 : kd ≠ 3 := fun w => c2 (by rw [w]; rfl)
    have k4 : kd ≠ 4 := fun w => c (by rw [w]; rfl)
    have eB : wB kd = [31] := by unfold wB; rw [if_neg k3, if_neg k4]
    have eV : wV kd q l = l := by unfold wV; rw [if_neg k3, if_neg k4]
    have := q1 (fun w => k4 w.1)
    rw [eB, eV] at this
    rw [L_eq, ← l0, lN_add, Nat.add_zero, sL_sL, L_ne n38, L_eq, pM_L]
    exact this
  · intro c c2
    have := lit_eq (k := kd) (c := 4) (by omega) (by decide) rfl rfl c
    have := lit_eq (k := kd) (c := 3) (by omega) (by decide) rfl rfl c2
    omega
  · intro c c2
    obtain rfl : kd = 4 := lit_eq (c := 4) (by omega) (by decide) rfl rfl c
    have g0 : hI (pM ad 32 (pM ad 33 h)) (ad 37) q = nI 4 := (f2 33 32 q).trans e0
    refine c_mlimit (h := pM ad 32 (pM ad 33 h)) (FX.pM (FX.pM fx)) g0 hk hq (pM_nn (pM_nn h0)) ?_
    rw [show limB 4 = [15, 14] from rfl, show limV 4 q = 100 from rfl, pMs_2]
    rw [show wB 4 = [33, 32, 15, 14] from rfl, pMs_4] at q1 q0
    have v : lN l * lN l / (nI 100).toInt64 = lN (l * l / 100) := by
      rw [nI_l (by decide), lN_mul, pk_lDiv (by omega) (by decide) (by decide)]
    refine w_mwear47 (d := d + 2) (h := pM ad 14 (pM ad 15 (pM ad 32 (pM ad 33 h)))) (FX.pM (FX.pM (FX.pM (FX.pM fx)))) (nI q) (nI 100) (nI 4) (lN l) (lN l * lN l) (by decide) (fun w => absurd rfl w) ?_ (fun _ _ => vp) (fun w => absurd rfl w) ?_ ?_
    · intro _ w y
      have q0' : q ≠ 0 := fun z => w (by rw [z]; rfl)
      rw [nI_l (by omega), ← l0, pk_lEQ (by omega) (by omega)] at y
      exact q0' y
    · intro _ w
      have q0' : q ≠ 0 := fun z => w (by rw [z]; rfl)
      have lq : l / q ≤ l := Nat.div_le_self _ _
      have v2 : lN l / (nI q).toInt64 = lN (l / q) := by rw [nI_l (by omega), pk_lDiv (by omega) (by omega) (by omega)]
      rw [v, v2, ec, L_eq, lN_add, sL_sL, L_ne n38, L_eq, pM_L, pM_L, pM_L, pM_L]
      exact q1 (fun y => q0' y.2)
    · intro _ w
      rw [v]
      exact q0 ⟨rfl, lit_eq (c := 0) (by omega) (by decide) rfl rfl w⟩
end WE
section PS
variable {n : Nat} {ad sa : Nat → Nat} {z0 : Nat} {d : Nat} {Q : mQ} {a kd q : Nat}
theorem pCs_T (L : List Int32) : ∀ h, hT (pCs ad L h) = hT h := by
  induction L with
  | nil => intro h; rfl
  | cons b L ih => intro h; exact (ih _).trans pC_T
theorem pCs_N (L : List Int32) : ∀ h, hN (pCs ad L h) = hN h := by
  induction L with
  | nil => intro h; rfl
  | cons b L ih => intro h; exact (ih _).trans pC_N
theorem pCs_Z (L : List Int32) : ∀ h, hZ (pCs ad L h) = hZ h := by
  induction L with
  | nil => intro h; rfl
  | cons b L ih => intro h; exact (ih _).trans pC_Z
theorem pCs_U (L : List Int32) : ∀ h, hU (pCs ad L h) = hU h := by
  induction L with
  | nil => intro h; rfl
  | cons b L ih => intro h; exact (ih _).trans pC_U
theorem pCs_L (L : List Int32) : ∀ h, hL (pCs ad L h) = hL h := by
  induction L with
  | nil => intro h; rfl
  | cons b L ih => intro h; exact (ih _).trans pC_L
theorem pCs_D (L : List Int32) : ∀ h, hD (pCs ad L h) = hD h := by
  induction L with
  | nil => intro h; rfl
  | cons b L ih => intro h; exact (ih _).trans pC_D
theorem pCs_R (L : List Int32) : ∀ h, hR (pCs ad L h) = hR h := by
  induction L with
  | nil => intro h; rfl
  | cons b L ih => intro h; exact (ih _).trans pC_R
theorem pCs_I {a j : Nat} (h1 : a ≠ ad 3) (h2 : ¬ (a = ad 2 ∧ j = 1)) (L : List Int32) : ∀ h, hI (pCs ad L h) a j = hI h a j := by
  induction L with
  | nil => intro h; rfl
  | cons b L ih => intro h; exact (ih _).trans (pC_I h1 h2)
theorem FX.pCs {h : mH} (fx : FX n ad sa z0 h) (L : List Int32) : FX n ad sa z0 (pCs ad L h) := by unfold FX; rw [pCs_T, pCs_N, pCs_R, pCs_Z]; exact fx
theorem pMs_T (L : List Int32) : ∀ h, hT (pMs ad L h) = hT h := by
  induction L with
  | nil => intro h; rfl
  | cons b L ih => intro h; exact (ih _).trans pM_T
theorem pMs_N (L : List Int32) : ∀ h, hN (pMs ad L h) = hN h := by
  induction L with
  | nil => intro h; rfl
  | cons b L ih => intro h; exact (ih _).trans pM_N
theorem pMs_Z (L : List Int32) : ∀ h, hZ (pMs ad L h) = hZ h := by
  induction L with
  | nil => intro h; rfl
  | cons b L ih => intro h; exact (ih _).trans pM_Z
theorem pMs_U (L : List Int32) : ∀ h, hU (pMs ad L h) = hU h := by
  induction L with
  | nil => intro h; rfl
  | cons b L ih => intro h; exact (ih _).trans pM_U
theorem pMs_L (L : List Int32) : ∀ h, hL (pMs ad L h) = hL h := by
  induction L with
  | nil => intro h; rfl
  | cons b L ih => intro h; exact (ih _).trans pM_L
theorem pMs_D (L : List Int32) : ∀ h, hD (pMs ad L h) = hD h := by
  induction L with
  | nil => intro h; rfl
  | cons b L ih => intro h; exact (ih _).trans pM_D
theorem pMs_R (L : List Int32) : ∀ h, hR (pMs ad L h) = hR h := by
  induction L with
  | nil => intro h; rfl
  | cons b L ih => intro h; exact (ih _).trans pM_R
theorem pMs_I {a j : Nat} (h1 : a ≠ ad 39) (h2 : ¬ (a = ad 30 ∧ j = 9)) (L : List Int32) : ∀ h, hI (pMs ad L h) a j = hI h a j := by
  induction L with
  | nil => intro h; rfl
  | cons b L ih => intro h; exact (ih _).trans (pM_I h1 h2)
theorem FX.pMs {h : mH} (fx : FX n ad sa z0 h) (L : List Int32) : FX n ad sa z0 (pMs ad L h) := by unfold FX; rw [pMs_T, pMs_N, pMs_R, pMs_Z]; exact fx
/-- the traces alone tell what a push makes of them -/
def smC (ad : Nat → Nat) (h h2 : mH) : Prop := hI h2 (ad 2) 1 = hI h (ad 2) 1 ∧ ∀ i, hI h2 (ad 3) i = hI h (ad 3) i
def smM (ad : Nat → Nat) (h h2 : mH) : Prop := hI h2 (ad 30) 9 = hI h (ad 30) 9 ∧ ∀ i, hI h2 (ad 39) i = hI h (ad 39) i
theorem smC.p (h32 : ad 3 ≠ ad 2) {h h2 : mH} {b : Int32} (s : smC ad h h2) : smC ad (pC ad b h) (pC ad b h2) := by
  unfold pC
  rw [s.1]
  split
  · refine ⟨by rw [I_eq, I_eq], fun i => ?_⟩
    rw [I_ne h32, I_ne h32, hI_sI, hI_sI, s.2]
  · exact s
theorem smM.p (h32 : ad 39 ≠ ad 30) {h h2 : mH} {b : Int32} (s : smM ad h h2) : smM ad (pM ad b h) (pM ad b h2) := by
  unfold pM
  rw [s.1]
  split
  · refine ⟨by rw [I_eq, I_eq], fun i => ?_⟩
    rw [I_ne h32, I_ne h32, hI_sI, hI_sI, s.2]
  · exact s
theorem smC.ps (h32 : ad 3 ≠ ad 2) (L : List Int32) : ∀ {h h2 : mH}, smC ad h h2 → smC ad (pCs ad L h) (pCs ad L h2) := by
  induction L with
  | nil => intro h h2 s; exact s
  | cons b L ih => intro h h2 s; exact ih (s.p h32)
theorem smM.ps (h32 : ad 39 ≠ ad 30) (L : List Int32) : ∀ {h h2 : mH}, smM ad h h2 → smM ad (pMs ad L h) (pMs ad L h2) := by
  induction L with
  | nil => intro h h2 s; exact s
  | cons b L ih => intro h h2 s; exact ih (s.p h32)
/-- class and reference push the same -/
def RtX (ad : Nat → Nat) (h h2 : mH) : Prop := ∃ k, k ≤ 60 ∧ hI h (ad 2) 1 = nI k ∧ hI h2 (ad 30) 9 = nI k ∧ ∀ i, i < k → hI h (ad 3) i = hI h2 (ad 39) i
theorem RtX.p (h32 : ad 3 ≠ ad 2) (h39 : ad 39 ≠ ad 30) {h h2 : mH} {b : Int32} (r : RtX ad h h2) : RtX ad (pC ad b h) (pM ad b h2) := by
  obtain ⟨k, r1, r2, r3, r4⟩ := r
  unfold pC pM
  rw [r2, r3]
  by_cases z : nI k < 60
  · rw [if_pos z, if_pos z]
    have zk : k < 60 := (nI_ltI (b := 60) (by omega) (by decide)).mp z
    refine ⟨k + 1, by omega, by rw [I_eq, nI_1], by rw [I_eq, nI_1], fun i hi => ?_⟩
    rw [I_ne h32, I_ne h39, hI_sI, hI_sI, nI_clamp (by omega)]
    by_cases e : i = k
    · rw [if_pos ⟨rfl, e⟩, if_pos ⟨rfl, e⟩]
    · rw [if_neg (fun w => e w.2), if_neg (fun w => e w.2)]
      exact r4 i (by omega)
  · rw [if_neg z, if_neg z]
    exact ⟨k, r1, r2, r3, r4⟩
theorem RtX.ps (h32 : ad 3 ≠ ad 2) (h39 : ad 39 ≠ ad 30) (L : List Int32) : ∀ {h h2 : mH}, RtX ad h h2 → RtX ad (pCs ad L h) (pMs ad L h2) := by
  induction L with
  | nil => intro h h2 r; exact r
  | cons b L ih => intro h h2 r; exact ih (r.p h32 h39)
theorem Rt.ps {h h2 : mH} (fx : FX n ad sa z0 h) (r : Rt ad h) (L : List Int32) (c : smC ad (pCs ad L h) h2) (m : smM ad (pMs ad L h) h2) : Rt ad h2 := by
  obtain ⟨k, r1, r2, r3, r4⟩ := RtX.ps (fx_ne fx (by decide)) (fx_ne fx (by decide)) L (show RtX ad h h from r)
  exact ⟨k, r1, c.1.trans r2, m.1.trans r3, fun i hi => by rw [c.2, m.2]; exact r4 i hi⟩
def cosV (kd q : Nat) : Nat := (if kd = 6 then 15 else 10) * limV kd q
def cosB (kd : Nat) : List Int32 := (if kd = 6 then 22 else 21) :: limB kd
theorem limV_b {kd q : Nat} : limV kd q ≤ 100 := by unfold limV; (repeat' split) <;> omega
theorem cosV_b {kd q : Nat} : cosV kd q ≤ 1500 := by
  have := limV_b (kd := kd) (q := q)
  unfold cosV; split <;> omega
theorem c_cost {h : mH} (fx : FX n ad sa z0 h) (rst : Rst sa h) (ta : hT h a = 4) (e0 : hI h a 0 = nI kd) (e1 : hI h a 1 = nI q) (hk : kd < 7) (hq : q < 60) (h0 : 0 ≤ hI h (ad 2) 1) (hQ : Q (some (.int (nI (cosV kd q)))) (pCs ad (cosB kd) h)) : EV (d + 3) 69 [.ref a, .ref (ad 2)] h Q := by
  have f := fun (b : Int32) (j : Nat) => pC_a (b := b) fx ta j
  have t2 := fun (b : Int32) => (congrFun (pC_T (ad := ad) (b := b) (h := h)) a).trans ta
  have lb := limV_b (kd := kd) (q := q)
  refine w_cost (d := d + 1) fx ta (fun _ => h0) (fun _ => h0) ?_ ?_
  · rw [e0]
    intro c
    have k6 : kd ≠ 6 := fun z => c (by rw [z]; rfl)
    refine c_limit (h := pC ad 21 h) (FX.pC fx) (Rst.pC fx rst) (t2 21) ((f 21 0).trans e0) ((f 21 1).trans e1) hk hq (pC_nn h0) ?_
    refine w_cost46 (FX.pCs (FX.pC fx) _) _ _ _ ?_
    rw [show (10 : Int32) = nI 10 from rfl, pk_mul]
    unfold cosV cosB at hQ
    rw [if_neg k6, if_neg k6] at hQ
    exact hQ
  · rw [e0]
    intro c
    obtain rfl : kd = 6 := lit_eq (c := 6) (by omega) (by decide) rfl rfl c
    refine c_limit (h := pC ad 22 h) (FX.pC fx) (Rst.pC fx rst) (t2 22) ((f 22 0).trans e0) ((f 22 1).trans e1) hk hq (pC_nn h0) ?_
    refine w_cost46 (FX.pCs (FX.pC fx) _) _ _ _ ?_
    rw [show (15 : Int32) = nI 15 from rfl, pk_mul]
    exact hQ
theorem c_mcost {h : mH} (fx : FX n ad sa z0 h) (e0 : hI h (ad 37) q = nI kd) (hk : kd < 7) (hq : q < 60) (h0 : 0 ≤ hI h (ad 30) 9) (hQ : Q (some (.long (lN (cosV kd q)))) (pMs ad (cosB kd) h)) : EV (d + 3) 188 [.ref (ad 30), .int (nI q)] h Q := by
  have ec : (nI q).toNatClampNeg = q := nI_clamp (by omega)
  have vp : vp_in (nI q) 60 := vp_in_nI hq (by omega)
  have f := fun (b : Int32) (j : Nat) => pM_37 (b := b) fx j
  have lb := limV_b (kd := kd) (q := q)
  refine w_mcost (d := d + 1) fx (nI q) vp (fun _ => h0) (fun _ => vp) (fun _ => h0) (fun _ => vp) ?_ ?_ ?_ ?_
  all_goals (rw [ec, e0, f, e0])
  · intro c _
    have k6 : kd ≠ 6 := fun z => c (by rw [z]; rfl)
    refine c_mlimit (h := pM ad 21 h) (FX.pM fx) ((f 21 q).trans e0) hk hq (pM_nn h0) ?_
    refine w_mcost47 (FX.pMs (FX.pM fx) _) _ _ _ ?_
    rw [nI_l (by omega), show (10 : Int64) = lN 10 from rfl, lN_mul]
    unfold cosV cosB at hQ
    rw [if_neg k6, if_neg k6] at hQ
    exact hQ
  · intro c c2; exact absurd c2 c
  · intro c c2; exact absurd c c2
  · intro c _
    obtain rfl : kd = 6 := lit_eq (c := 6) (by omega) (by decide) rfl rfl c
    refine c_mlimit (h := pM ad 22 h) (FX.pM fx) ((f 22 q).trans e0) hk hq (pM_nn h0) ?_
    refine w_mcost47 (FX.pMs (FX.pM fx) _) _ _ _ ?_
    rw [nI_l (by omega), show (15 : Int64) = lN 15 from rfl, lN_mul]
    exact hQ
end PS
