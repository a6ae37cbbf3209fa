/-! ===== the trace by contract; walks of parts; printed ===== -/
/-- a body begins: the class's trace, the reference's -/
def pC (ad : Nat → Nat) (b : Int32) (h : mH) : mH := if hI h (ad 2) 1 < 60 then sI (sI h (ad 3) (hI h (ad 2) 1).toNatClampNeg b) (ad 2) 1 (hI h (ad 2) 1 + 1) else h
def pM (ad : Nat → Nat) (b : Int32) (h : mH) : mH := if hI h (ad 30) 9 < 60 then sI (sI h (ad 39) (hI h (ad 30) 9).toNatClampNeg b) (ad 30) 9 (hI h (ad 30) 9 + 1) else h
section PC
variable {n : Nat} {ad sa : Nat → Nat} {z0 : Nat} {h : mH} {b : Int32} {d : Nat} {Q : mQ}
theorem pC_T : hT (pC ad b h) = hT h := by unfold pC; split <;> rfl
theorem pC_N : hN (pC ad b h) = hN h := by unfold pC; split <;> rfl
theorem pC_Z : hZ (pC ad b h) = hZ h := by unfold pC; split <;> rfl
theorem pC_U : hU (pC ad b h) = hU h := by unfold pC; split <;> rfl
theorem pC_L : hL (pC ad b h) = hL h := by unfold pC; split <;> rfl
theorem pC_D : hD (pC ad b h) = hD h := by unfold pC; split <;> rfl
theorem pC_R : hR (pC ad b h) = hR h := by unfold pC; split <;> rfl
theorem pC_I {a j : Nat} (h1 : a ≠ ad 3) (h2 : ¬ (a = ad 2 ∧ j = 1)) : hI (pC ad b h) a j = hI h a j := by
  unfold pC
  split
  · rw [hI_sI, if_neg h2, I_ne h1]
  · rfl
theorem FX.pC (fx : FX n ad sa z0 h) : FX n ad sa z0 (pC ad b h) := by unfold FX; rw [pC_T, pC_N, pC_R, pC_Z]; exact fx
theorem pM_T : hT (pM ad b h) = hT h := by unfold pM; split <;> rfl
theorem pM_N : hN (pM ad b h) = hN h := by unfold pM; split <;> rfl
theorem pM_Z : hZ (pM ad b h) = hZ h := by unfold pM; split <;> rfl
theorem pM_U : hU (pM ad b h) = hU h := by unfold pM; split <;> rfl
theorem pM_L : hL (pM ad b h) = hL h := by unfold pM; split <;> rfl
theorem pM_D : hD (pM ad b h) = hD h := by unfold pM; split <;> rfl
theorem pM_R : hR (pM ad b h) = hR h := by unfold pM; split <;> rfl
theorem pM_I {a j : Nat} (h1 : a ≠ ad 39) (h2 : ¬ (a = ad 30 ∧ j = 9)) : hI (pM ad b h) a j = hI h a j := by
  unfold pM
  split
  · rw [hI_sI, if_neg h2, I_ne h1]
  · rfl
theorem FX.pM (fx : FX n ad sa z0 h) : FX n ad sa z0 (pM ad b h) := by unfold FX; rw [pM_T, pM_N, pM_R, pM_Z]; exact fx
set_option maxHeartbeats 1000000 in
theorem w_begin {d : Nat} {Q : mQ} {n : Nat} {ad sa : Nat → Nat} {z0 : Nat} {h : mH} (fx : FX n ad sa z0 h) (b : Int32) 
    (B1 : ¬ 60 ≤ (hI h (ad 2) 1) → vp_in (hI h (ad 2) 1) 60)
    (L1 : 60 ≤ (hI h (ad 2) 1) → Q none h) (L2 : ¬ 60 ≤ (hI h (ad 2) 1) → Q none (sI (sI h (ad 3) (hI h (ad 2) 1).toNatClampNeg b) (ad 2) 1 ((hI (sI h (ad 3) (hI h (ad 2) 1).toNatClampNeg b) (ad 2) 1) + 1))) : EV (d + 1) 68 [.ref (ad 2), .int b] h Q := by
  refine in_68 (Nat.le_of_ble_eq_true rfl) ?_
  show WR _ cd_68 0 [some (.ref (ad 2)), some (.int b)] [] h _
  refine r_aload rfl rfl ?_
  refine r_getI rfl ⟨rfl, rfl, rfl⟩ (fx_t2 fx) ?_
  refine r_aload rfl rfl ?_
  refine r_getA (b := ad 3) rfl ⟨rfl, rfl, rfl⟩ (fx_t2 fx) (fx_r2_0 fx) ?_
  refine r_alen rfl (isA_of (fx_t3 fx) (by decide)) ?_
  refine WR_st (st2 := [.int 60, .int (hI h (ad 2) 1)]) (by rw [(fx_n3 fx)]; rfl) ?_
  refine r_icmp_ge (tg := 32) rfl rfl (fun c1 => ?_) (fun c1 => ?_)
  · refine r_vret rfl ?_
    exact L1 c1
  · refine r_aload rfl rfl ?_
    refine r_getA (b := ad 3) rfl ⟨rfl, rfl, rfl⟩ (fx_t2 fx) (fx_r2_0 fx) ?_
    refine r_aload rfl rfl ?_
    refine r_getI rfl ⟨rfl, rfl, rfl⟩ (fx_t2 fx) ?_
    refine r_iload rfl rfl ?_
    refine r_iastore rfl (fx_t3 fx) (vp_ct (fx_n3 fx) (B1 c1)) ?_
    refine r_aload rfl rfl ?_
    refine r_dup rfl rfl ?_
    refine r_getI rfl ⟨rfl, rfl, rfl⟩ (fx_t2 fx) ?_
    refine r_ic (x := 1) rfl rfl ?_
    refine r_iadd rfl ?_
    refine r_putI rfl ⟨rfl, rfl, rfl⟩ (fx_t2 fx) ?_
    refine r_vret rfl ?_
    exact L2 c1

set_option maxHeartbeats 1000000 in
theorem w_body {d : Nat} {Q : mQ} {n : Nat} {ad sa : Nat → Nat} {z0 : Nat} {h : mH} (fx : FX n ad sa z0 h) (b : Int32) 
    (B1 : ¬ 60 ≤ (hI h (ad 30) 9) → vp_in (hI h (ad 30) 9) 60)
    (L1 : 60 ≤ (hI h (ad 30) 9) → Q none h) (L2 : ¬ 60 ≤ (hI h (ad 30) 9) → Q none (sI (sI h (ad 39) (hI h (ad 30) 9).toNatClampNeg b) (ad 30) 9 ((hI (sI h (ad 39) (hI h (ad 30) 9).toNatClampNeg b) (ad 30) 9) + 1))) : EV (d + 1) 187 [.ref (ad 30), .int b] h Q := by
  refine in_187 (Nat.le_of_ble_eq_true rfl) ?_
  show WR _ cd_187 0 [some (.ref (ad 30)), some (.int b)] [] h _
  refine r_aload rfl rfl ?_
  refine r_getI rfl ⟨rfl, rfl, rfl⟩ (fx_t30 fx) ?_
  refine r_ic (x := 60) rfl rfl ?_
  refine r_icmp_ge (tg := 29) rfl rfl (fun c1 => ?_) (fun c1 => ?_)
  · refine r_vret rfl ?_
    exact L1 c1
  · refine r_aload rfl rfl ?_
    refine r_getA (b := ad 39) rfl ⟨rfl, rfl, rfl⟩ (fx_t30 fx) (fx_r30_10 fx) ?_
    refine r_aload rfl rfl ?_
    refine r_getI rfl ⟨rfl, rfl, rfl⟩ (fx_t30 fx) ?_
    refine r_iload rfl rfl ?_
    refine r_iastore rfl (fx_t39 fx) (vp_ct (fx_n39 fx) (B1 c1)) ?_
    refine r_aload rfl rfl ?_
    refine r_dup rfl rfl ?_
    refine r_getI rfl ⟨rfl, rfl, rfl⟩ (fx_t30 fx) ?_
    refine r_ic (x := 1) rfl rfl ?_
    refine r_iadd rfl ?_
    refine r_putI rfl ⟨rfl, rfl, rfl⟩ (fx_t30 fx) ?_
    refine r_vret rfl ?_
    exact L2 c1

theorem c_begin (fx : FX n ad sa z0 h) (h0 : 0 ≤ hI h (ad 2) 1) (q : Q none (pC ad b h)) : EV (d + 1) 68 [.ref (ad 2), .int b] h Q := by
  have vp : hI h (ad 2) 1 < 60 → vp_in (hI h (ad 2) 1) 60 := fun z => vp_g (m := 60) (Int32.not_lt.mpr h0) (Int32.not_le.mpr z) (by decide)
  refine w_begin fx b ?_ ?_ ?_
  · intro c1; exact vp (Int32.not_le.mp c1)
  · intro c1; unfold pC at q; rw [if_neg (Int32.not_lt.mpr c1)] at q; exact q
  · intro c1; rw [I_ne (fx_ne fx (by decide))]; unfold pC at q; rw [if_pos (Int32.not_le.mp c1)] at q; exact q
theorem c_body (fx : FX n ad sa z0 h) (h0 : 0 ≤ hI h (ad 30) 9) (q : Q none (pM ad b h)) : EV (d + 1) 187 [.ref (ad 30), .int b] h Q := by
  have vp : hI h (ad 30) 9 < 60 → vp_in (hI h (ad 30) 9) 60 := fun z => vp_g (m := 60) (Int32.not_lt.mpr h0) (Int32.not_le.mpr z) (by decide)
  refine w_body fx b ?_ ?_ ?_
  · intro c1; exact vp (Int32.not_le.mp c1)
  · intro c1; unfold pM at q; rw [if_neg (Int32.not_lt.mpr c1)] at q; exact q
  · intro c1; rw [I_ne (fx_ne fx (by decide))]; unfold pM at q; rw [if_pos (Int32.not_le.mp c1)] at q; exact q
end PC

set_option maxHeartbeats 1000000 in
theorem w_limit {d : Nat} {Q : mQ} {n : Nat} {ad sa : Nat → Nat} {z0 : Nat} {h : mH} (fx : FX n ad sa z0 h) {a : Nat} (ta : hT h a = 4) 
    (B1 : vp_in (hI h a 0) 7) (B2 : 0 ≤ hI h (ad 2) 1) (B3 : (hI (pC ad (hI h (sa 1) (hI h a 0).toNatClampNeg) h) a 0) = 2 → 0 ≤ hI (pC ad (hI h (sa 1) (hI h a 0).toNatClampNeg) h) (ad 2) 1) (B4 : (hI (pC ad (hI h (sa 1) (hI h a 0).toNatClampNeg) h) a 0) = 4 → 0 ≤ hI (pC ad (hI h (sa 1) (hI h a 0).toNatClampNeg) h) (ad 2) 1) (B5 : (hI (pC ad (hI h (sa 1) (hI h a 0).toNatClampNeg) h) a 0) = 6 → 0 ≤ hI (pC ad (hI h (sa 1) (hI h a 0).toNatClampNeg) h) (ad 2) 1)
    (L1 : ((hI (pC ad (hI h (sa 1) (hI h a 0).toNatClampNeg) h) a 0).toInt < 2 ∨ 6 < (hI (pC ad (hI h (sa 1) (hI h a 0).toNatClampNeg) h) a 0).toInt) → ¬ (hI (pC ad (hI h (sa 1) (hI h a 0).toNatClampNeg) h) a 0) = 0 → Q (some (.int 30)) (pC ad (hI h (sa 1) (hI h a 0).toNatClampNeg) h)) (L2 : ((hI (pC ad (hI h (sa 1) (hI h a 0).toNatClampNeg) h) a 0).toInt < 2 ∨ 6 < (hI (pC ad (hI h (sa 1) (hI h a 0).toNatClampNeg) h) a 0).toInt) → (hI (pC ad (hI h (sa 1) (hI h a 0).toNatClampNeg) h) a 0) = 0 → Q (some (.int 40)) (pC ad (hI h (sa 1) (hI h a 0).toNatClampNeg) h)) (L3 : (hI (pC ad (hI h (sa 1) (hI h a 0).toNatClampNeg) h) a 0) = 2 → Q (some (.int 50)) (pC ad 12 (pC ad (hI h (sa 1) (hI h a 0).toNatClampNeg) h))) (L4 : (hI (pC ad (hI h (sa 1) (hI h a 0).toNatClampNeg) h) a 0) = 3 → Q (some (.int 50)) (pC ad (hI h (sa 1) (hI h a 0).toNatClampNeg) h)) (L5 : (hI (pC ad (hI h (sa 1) (hI h a 0).toNatClampNeg) h) a 0) = 4 → Q (some (.int 100)) (pC ad 14 (pC ad (hI h (sa 1) (hI h a 0).toNatClampNeg) h))) (L6 : (hI (pC ad (hI h (sa 1) (hI h a 0).toNatClampNeg) h) a 0) = 5 → Q (some (.int 60)) (pC ad (hI h (sa 1) (hI h a 0).toNatClampNeg) h)) (L7 : (hI (pC ad (hI h (sa 1) (hI h a 0).toNatClampNeg) h) a 0) = 6 → Q (some (.int (60 + ((hI (pC ad 16 (pC ad (hI h (sa 1) (hI h a 0).toNatClampNeg) h)) a 1) - (hI (pC ad 16 (pC ad (hI h (sa 1) (hI h a 0).toNatClampNeg) h)) a 1) / 10 * 10)))) (pC ad 16 (pC ad (hI h (sa 1) (hI h a 0).toNatClampNeg) h))) : EV (d + 2) 67 [.ref a, .ref (ad 2)] h Q := by
  refine in_67 (Nat.le_of_ble_eq_true rfl) ?_
  show WR _ cd_67 0 [some (.ref a), some (.ref (ad 2))] [] h _
  refine r_aload rfl rfl ?_
  refine r_getstatic (a := sa 1) rfl (fx_st fx 1 (by decide)).1 ?_
  refine r_aload rfl rfl ?_
  refine r_getI rfl ⟨rfl, rfl, rfl⟩ ta ?_
  refine r_iaload rfl (.inr (fx_st fx 1 (by decide)).2.1) (vp_ct ((fx_st fx 1 (by decide)).2.2) (B1)) ?_
  refine r_cv (y := 68) (ra := [.int (hI h (sa 1) (hI h a 0).toNatClampNeg)]) (rest := []) rfl ⟨⟨rfl, rfl⟩, rfl, by decide⟩ (fx_t2 fx) rfl rfl (Nat.le_of_ble_eq_true rfl) ?_
  refine c_begin (h := h) fx (B2) ?_
  show WR _ cd_67 12 [some (.ref a), some (.ref (ad 2))] [] (pC ad (hI h (sa 1) (hI h a 0).toNatClampNeg) h) _
  have fx : FX n ad sa z0 (pC ad (hI h (sa 1) (hI h a 0).toNatClampNeg) h) := FX.pC fx
  have ta : hT (pC ad (hI h (sa 1) (hI h a 0).toNatClampNeg) h) a = 4 := Eq.trans (congrFun pC_T _) ta
  refine r_aload rfl rfl ?_
  refine r_getI rfl ⟨rfl, rfl, rfl⟩ ta ?_
  refine r_tsw (tg := 93) rfl rfl (fun c1 => ?_) (fun c1 => ?_)
  · refine r_aload rfl rfl ?_
    refine r_getI rfl ⟨rfl, rfl, rfl⟩ ta ?_
    refine r_if_ne (tg := 105) rfl rfl (fun c2 => ?_) (fun c2 => ?_)
    · refine r_ic (x := 30) rfl rfl ?_
      refine r_iret rfl ?_
      exact L1 c1 c2
    · refine r_ic (x := 40) rfl rfl ?_
      refine r_goto (tg := 107) rfl rfl ?_
      refine r_iret rfl ?_
      exact L2 c1 c2
  · rcases tsw_2_6 c1 with e_ | e_ | e_ | e_ | e_
    · have c3 : (hI (pC ad (hI h (sa 1) (hI h a 0).toNatClampNeg) h) a 0) = 2 := e_
      refine WR_pc (q := 52) (by rw [c3]; rfl) ?_
      refine r_aload rfl rfl ?_
      refine r_ic (x := 12) rfl rfl ?_
      refine r_cv (y := 68) (ra := [.int 12]) (rest := []) rfl ⟨⟨rfl, rfl⟩, rfl, by decide⟩ (fx_t2 fx) rfl rfl (Nat.le_of_ble_eq_true rfl) ?_
      refine c_begin (h := pC ad (hI h (sa 1) (hI h a 0).toNatClampNeg) h) fx (B3 c3) ?_
      show WR _ cd_67 58 [some (.ref a), some (.ref (ad 2))] [] (pC ad 12 (pC ad (hI h (sa 1) (hI h a 0).toNatClampNeg) h)) _
      have fx : FX n ad sa z0 (pC ad 12 (pC ad (hI h (sa 1) (hI h a 0).toNatClampNeg) h)) := FX.pC fx
      have ta : hT (pC ad 12 (pC ad (hI h (sa 1) (hI h a 0).toNatClampNeg) h)) a = 4 := Eq.trans (congrFun pC_T _) ta
      refine r_ic (x := 50) rfl rfl ?_
      refine r_iret rfl ?_
      exact L3 c3
    · have c4 : (hI (pC ad (hI h (sa 1) (hI h a 0).toNatClampNeg) h) a 0) = 3 := e_
      refine WR_pc (q := 87) (by rw [c4]; rfl) ?_
      refine r_ic (x := 50) rfl rfl ?_
      refine r_iret rfl ?_
      exact L4 c4
    · have c5 : (hI (pC ad (hI h (sa 1) (hI h a 0).toNatClampNeg) h) a 0) = 4 := e_
      refine WR_pc (q := 61) (by rw [c5]; rfl) ?_
      refine r_aload rfl rfl ?_
      refine r_ic (x := 14) rfl rfl ?_
      refine r_cv (y := 68) (ra := [.int 14]) (rest := []) rfl ⟨⟨rfl, rfl⟩, rfl, by decide⟩ (fx_t2 fx) rfl rfl (Nat.le_of_ble_eq_true rfl) ?_
      refine c_begin (h := pC ad (hI h (sa 1) (hI h a 0).toNatClampNeg) h) fx (B4 c5) ?_
      show WR _ cd_67 67 [some (.ref a), some (.ref (ad 2))] [] (pC ad 14 (pC ad (hI h (sa 1) (hI h a 0).toNatClampNeg) h)) _
      have fx : FX n ad sa z0 (pC ad 14 (pC ad (hI h (sa 1) (hI h a 0).toNatClampNeg) h)) := FX.pC fx
      have ta : hT (pC ad 14 (pC ad (hI h (sa 1) (hI h a 0).toNatClampNeg) h)) a = 4 := Eq.trans (congrFun pC_T _) ta
      refine r_ic (x := 100) rfl rfl ?_
      refine r_iret rfl ?_
      exact L5 c5
    · have c6 : (hI (pC ad (hI h (sa 1) (hI h a 0).toNatClampNeg) h) a 0) = 5 := e_
      refine WR_pc (q := 90) (by rw [c6]; rfl) ?_
      refine r_ic (x := 60) rfl rfl ?_
      refine r_iret rfl ?_
      exact L6 c6
    · have c7 : (hI (pC ad (hI h (sa 1) (hI h a 0).toNatClampNeg) h) a 0) = 6 := e_
      refine WR_pc (q := 70) (by rw [c7]; rfl) ?_
      refine r_aload rfl rfl ?_
      refine r_ic (x := 16) rfl rfl ?_
      refine r_cv (y := 68) (ra := [.int 16]) (rest := []) rfl ⟨⟨rfl, rfl⟩, rfl, by decide⟩ (fx_t2 fx) rfl rfl (Nat.le_of_ble_eq_true rfl) ?_
      refine c_begin (h := pC ad (hI h (sa 1) (hI h a 0).toNatClampNeg) h) fx (B5 c7) ?_
      show WR _ cd_67 76 [some (.ref a), some (.ref (ad 2))] [] (pC ad 16 (pC ad (hI h (sa 1) (hI h a 0).toNatClampNeg) h)) _
      have fx : FX n ad sa z0 (pC ad 16 (pC ad (hI h (sa 1) (hI h a 0).toNatClampNeg) h)) := FX.pC fx
      have ta : hT (pC ad 16 (pC ad (hI h (sa 1) (hI h a 0).toNatClampNeg) h)) a = 4 := Eq.trans (congrFun pC_T _) ta
      refine r_ic (x := 60) rfl rfl ?_
      refine r_aload rfl rfl ?_
      refine r_getI rfl ⟨rfl, rfl, rfl⟩ ta ?_
      refine r_ic (x := 10) rfl rfl ?_
      refine r_irem rfl (by decide) ?_
      refine r_iadd rfl ?_
      refine r_iret rfl ?_
      exact L7 c7

set_option maxHeartbeats 1000000 in
theorem w_mlimit {d : Nat} {Q : mQ} {n : Nat} {ad sa : Nat → Nat} {z0 : Nat} {h : mH} (fx : FX n ad sa z0 h) (p : Int32) 
    (B1 : vp_in p 60) (B2 : ((hI h (ad 37) p.toNatClampNeg).toInt < 0 ∨ 5 < (hI h (ad 37) p.toNatClampNeg).toInt) → 0 ≤ hI h (ad 30) 9) (B3 : ((hI h (ad 37) p.toNatClampNeg).toInt < 0 ∨ 5 < (hI h (ad 37) p.toNatClampNeg).toInt) → 0 ≤ hI (pM ad 17 h) (ad 30) 9) (B4 : (hI h (ad 37) p.toNatClampNeg) = 0 → 0 ≤ hI h (ad 30) 9) (B5 : (hI h (ad 37) p.toNatClampNeg) = 1 → 0 ≤ hI h (ad 30) 9) (B6 : (hI h (ad 37) p.toNatClampNeg) = 2 → 0 ≤ hI h (ad 30) 9) (B7 : (hI h (ad 37) p.toNatClampNeg) = 2 → 0 ≤ hI (pM ad 13 h) (ad 30) 9) (B8 : (hI h (ad 37) p.toNatClampNeg) = 3 → 0 ≤ hI h (ad 30) 9) (B9 : (hI h (ad 37) p.toNatClampNeg) = 4 → 0 ≤ hI h (ad 30) 9) (B10 : (hI h (ad 37) p.toNatClampNeg) = 4 → 0 ≤ hI (pM ad 15 h) (ad 30) 9) (B11 : (hI h (ad 37) p.toNatClampNeg) = 5 → 0 ≤ hI h (ad 30) 9)
    (L1 : ((hI h (ad 37) p.toNatClampNeg).toInt < 0 ∨ 5 < (hI h (ad 37) p.toNatClampNeg).toInt) → Q (some (.int (60 + (p - p / 10 * 10)))) (pM ad 16 (pM ad 17 h))) (L2 : (hI h (ad 37) p.toNatClampNeg) = 0 → Q (some (.int 40)) (pM ad 11 h)) (L3 : (hI h (ad 37) p.toNatClampNeg) = 1 → Q (some (.int 30)) (pM ad 12 h)) (L4 : (hI h (ad 37) p.toNatClampNeg) = 2 → Q (some (.int 50)) (pM ad 12 (pM ad 13 h))) (L5 : (hI h (ad 37) p.toNatClampNeg) = 3 → Q (some (.int 50)) (pM ad 14 h)) (L6 : (hI h (ad 37) p.toNatClampNeg) = 4 → Q (some (.int 100)) (pM ad 14 (pM ad 15 h))) (L7 : (hI h (ad 37) p.toNatClampNeg) = 5 → Q (some (.int 60)) (pM ad 16 h)) : EV (d + 2) 186 [.ref (ad 30), .int p] h Q := by
  refine in_186 (Nat.le_of_ble_eq_true rfl) ?_
  show WR _ cd_186 0 [some (.ref (ad 30)), some (.int p)] [] h _
  refine r_aload rfl rfl ?_
  refine r_getA (b := ad 37) rfl ⟨rfl, rfl, rfl⟩ (fx_t30 fx) (fx_r30_7 fx) ?_
  refine r_iload rfl rfl ?_
  refine r_iaload rfl (.inl (fx_t37 fx)) (vp_ct (fx_n37 fx) (B1)) ?_
  refine r_tsw (tg := 110) rfl rfl (fun c1 => ?_) (fun c1 => ?_)
  · refine r_aload rfl rfl ?_
    refine r_ic (x := 17) rfl rfl ?_
    refine r_cv (y := 187) (ra := [.int 17]) (rest := []) rfl ⟨⟨rfl, rfl⟩, rfl, by decide⟩ (fx_t30 fx) rfl rfl (Nat.le_of_ble_eq_true rfl) ?_
    refine c_body (h := h) fx (B2 c1) ?_
    show WR _ cd_186 116 [some (.ref (ad 30)), some (.int p)] [] (pM ad 17 h) _
    have fx : FX n ad sa z0 (pM ad 17 h) := FX.pM fx
    refine r_aload rfl rfl ?_
    refine r_ic (x := 16) rfl rfl ?_
    refine r_cv (y := 187) (ra := [.int 16]) (rest := []) rfl ⟨⟨rfl, rfl⟩, rfl, by decide⟩ (fx_t30 fx) rfl rfl (Nat.le_of_ble_eq_true rfl) ?_
    refine c_body (h := pM ad 17 h) fx (B3 c1) ?_
    show WR _ cd_186 122 [some (.ref (ad 30)), some (.int p)] [] (pM ad 16 (pM ad 17 h)) _
    have fx : FX n ad sa z0 (pM ad 16 (pM ad 17 h)) := FX.pM fx
    refine r_ic (x := 60) rfl rfl ?_
    refine r_iload rfl rfl ?_
    refine r_ic (x := 10) rfl rfl ?_
    refine r_irem rfl (by decide) ?_
    refine r_iadd rfl ?_
    refine r_iret rfl ?_
    exact L1 c1
  · rcases tsw_0_5 c1 with e_ | e_ | e_ | e_ | e_ | e_
    · have c2 : (hI h (ad 37) p.toNatClampNeg) = 0 := e_
      refine WR_pc (q := 44) (by rw [c2]; rfl) ?_
      refine r_aload rfl rfl ?_
      refine r_ic (x := 11) rfl rfl ?_
      refine r_cv (y := 187) (ra := [.int 11]) (rest := []) rfl ⟨⟨rfl, rfl⟩, rfl, by decide⟩ (fx_t30 fx) rfl rfl (Nat.le_of_ble_eq_true rfl) ?_
      refine c_body (h := h) fx (B4 c2) ?_
      show WR _ cd_186 50 [some (.ref (ad 30)), some (.int p)] [] (pM ad 11 h) _
      have fx : FX n ad sa z0 (pM ad 11 h) := FX.pM fx
      refine r_ic (x := 40) rfl rfl ?_
      refine r_iret rfl ?_
      exact L2 c2
    · have c3 : (hI h (ad 37) p.toNatClampNeg) = 1 := e_
      refine WR_pc (q := 53) (by rw [c3]; rfl) ?_
      refine r_aload rfl rfl ?_
      refine r_ic (x := 12) rfl rfl ?_
      refine r_cv (y := 187) (ra := [.int 12]) (rest := []) rfl ⟨⟨rfl, rfl⟩, rfl, by decide⟩ (fx_t30 fx) rfl rfl (Nat.le_of_ble_eq_true rfl) ?_
      refine c_body (h := h) fx (B5 c3) ?_
      show WR _ cd_186 59 [some (.ref (ad 30)), some (.int p)] [] (pM ad 12 h) _
      have fx : FX n ad sa z0 (pM ad 12 h) := FX.pM fx
      refine r_ic (x := 30) rfl rfl ?_
      refine r_iret rfl ?_
      exact L3 c3
    · have c4 : (hI h (ad 37) p.toNatClampNeg) = 2 := e_
      refine WR_pc (q := 62) (by rw [c4]; rfl) ?_
      refine r_aload rfl rfl ?_
      refine r_ic (x := 13) rfl rfl ?_
      refine r_cv (y := 187) (ra := [.int 13]) (rest := []) rfl ⟨⟨rfl, rfl⟩, rfl, by decide⟩ (fx_t30 fx) rfl rfl (Nat.le_of_ble_eq_true rfl) ?_
      refine c_body (h := h) fx (B6 c4) ?_
      show WR _ cd_186 68 [some (.ref (ad 30)), some (.int p)] [] (pM ad 13 h) _
      have fx : FX n ad sa z0 (pM ad 13 h) := FX.pM fx
      refine r_aload rfl rfl ?_
      refine r_ic (x := 12) rfl rfl ?_
      refine r_cv (y := 187) (ra := [.int 12]) (rest := []) rfl ⟨⟨rfl, rfl⟩, rfl, by decide⟩ (fx_t30 fx) rfl rfl (Nat.le_of_ble_eq_true rfl) ?_
      refine c_body (h := pM ad 13 h) fx (B7 c4) ?_
      show WR _ cd_186 74 [some (.ref (ad 30)), some (.int p)] [] (pM ad 12 (pM ad 13 h)) _
      have fx : FX n ad sa z0 (pM ad 12 (pM ad 13 h)) := FX.pM fx
      refine r_ic (x := 50) rfl rfl ?_
      refine r_iret rfl ?_
      exact L4 c4
    · have c5 : (hI h (ad 37) p.toNatClampNeg) = 3 := e_
      refine WR_pc (q := 77) (by rw [c5]; rfl) ?_
      refine r_aload rfl rfl ?_
      refine r_ic (x := 14) rfl rfl ?_
      refine r_cv (y := 187) (ra := [.int 14]) (rest := []) rfl ⟨⟨rfl, rfl⟩, rfl, by decide⟩ (fx_t30 fx) rfl rfl (Nat.le_of_ble_eq_true rfl) ?_
      refine c_body (h := h) fx (B8 c5) ?_
      show WR _ cd_186 83 [some (.ref (ad 30)), some (.int p)] [] (pM ad 14 h) _
      have fx : FX n ad sa z0 (pM ad 14 h) := FX.pM fx
      refine r_ic (x := 50) rfl rfl ?_
      refine r_iret rfl ?_
      exact L5 c5
    · have c6 : (hI h (ad 37) p.toNatClampNeg) = 4 := e_
      refine WR_pc (q := 86) (by rw [c6]; rfl) ?_
      refine r_aload rfl rfl ?_
      refine r_ic (x := 15) rfl rfl ?_
      refine r_cv (y := 187) (ra := [.int 15]) (rest := []) rfl ⟨⟨rfl, rfl⟩, rfl, by decide⟩ (fx_t30 fx) rfl rfl (Nat.le_of_ble_eq_true rfl) ?_
      refine c_body (h := h) fx (B9 c6) ?_
      show WR _ cd_186 92 [some (.ref (ad 30)), some (.int p)] [] (pM ad 15 h) _
      have fx : FX n ad sa z0 (pM ad 15 h) := FX.pM fx
      refine r_aload rfl rfl ?_
      refine r_ic (x := 14) rfl rfl ?_
      refine r_cv (y := 187) (ra := [.int 14]) (rest := []) rfl ⟨⟨rfl, rfl⟩, rfl, by decide⟩ (fx_t30 fx) rfl rfl (Nat.le_of_ble_eq_true rfl) ?_
      refine c_body (h := pM ad 15 h) fx (B10 c6) ?_
      show WR _ cd_186 98 [some (.ref (ad 30)), some (.int p)] [] (pM ad 14 (pM ad 15 h)) _
      have fx : FX n ad sa z0 (pM ad 14 (pM ad 15 h)) := FX.pM fx
      refine r_ic (x := 100) rfl rfl ?_
      refine r_iret rfl ?_
      exact L6 c6
    · have c7 : (hI h (ad 37) p.toNatClampNeg) = 5 := e_
      refine WR_pc (q := 101) (by rw [c7]; rfl) ?_
      refine r_aload rfl rfl ?_
      refine r_ic (x := 16) rfl rfl ?_
      refine r_cv (y := 187) (ra := [.int 16]) (rest := []) rfl ⟨⟨rfl, rfl⟩, rfl, by decide⟩ (fx_t30 fx) rfl rfl (Nat.le_of_ble_eq_true rfl) ?_
      refine c_body (h := h) fx (B11 c7) ?_
      show WR _ cd_186 107 [some (.ref (ad 30)), some (.int p)] [] (pM ad 16 h) _
      have fx : FX n ad sa z0 (pM ad 16 h) := FX.pM fx
      refine r_ic (x := 60) rfl rfl ?_
      refine r_iret rfl ?_
      exact L7 c7

set_option maxHeartbeats 1000000 in
theorem w_cost {d : Nat} {Q : mQ} {n : Nat} {ad sa : Nat → Nat} {z0 : Nat} {h : mH} (fx : FX n ad sa z0 h) {a : Nat} (ta : hT h a = 4) 
    (B1 : ¬ (hI h a 0) = 6 → 0 ≤ hI h (ad 2) 1) (B2 : (hI h a 0) = 6 → 0 ≤ hI h (ad 2) 1)
    (C1 : ¬ (hI h a 0) = 6 → EV (d + 1) 67 [.ref a, .ref (ad 2)] (pC ad 21 h) (fun v h2 => WR (d + 1) cd_69 46 [some (.ref a), some (.ref (ad 2)), some (.int 0)] (v.toList ++ [.int 10]) h2 Q)) (C2 : (hI h a 0) = 6 → EV (d + 1) 67 [.ref a, .ref (ad 2)] (pC ad 22 h) (fun v h2 => WR (d + 1) cd_69 46 [some (.ref a), some (.ref (ad 2)), some (.int 1)] (v.toList ++ [.int 15]) h2 Q)) : EV (d + 2) 69 [.ref a, .ref (ad 2)] h Q := by
  refine in_69 (Nat.le_of_ble_eq_true rfl) ?_
  show WR _ cd_69 0 [some (.ref a), some (.ref (ad 2)), none] [] h _
  refine r_aload rfl rfl ?_
  refine r_getI rfl ⟨rfl, rfl, rfl⟩ ta ?_
  refine r_ic (x := 6) rfl rfl ?_
  refine r_icmp_ne (tg := 13) rfl rfl (fun c1 => ?_) (fun c1 => ?_)
  · refine r_ic (x := 0) rfl rfl ?_
    refine r_istore (lv' := [some (.ref a), some (.ref (ad 2)), some (.int 0)]) rfl (Nat.le_of_ble_eq_true rfl) rfl ?_
    refine r_aload rfl rfl ?_
    refine r_iload rfl rfl ?_
    refine r_if_eq (tg := 25) rfl rfl (fun _ => ?_) (fun q => absurd q (by decide))
    refine r_ic (x := 21) rfl rfl ?_
    refine r_cv (y := 68) (ra := [.int 21]) (rest := []) rfl ⟨⟨rfl, rfl⟩, rfl, by decide⟩ (fx_t2 fx) rfl rfl (Nat.le_of_ble_eq_true rfl) ?_
    refine c_begin (h := h) fx (B1 c1) ?_
    show WR _ cd_69 30 [some (.ref a), some (.ref (ad 2)), some (.int 0)] [] (pC ad 21 h) _
    have fx : FX n ad sa z0 (pC ad 21 h) := FX.pC fx
    have ta : hT (pC ad 21 h) a = 4 := Eq.trans (congrFun pC_T _) ta
    refine r_iload rfl rfl ?_
    refine r_if_eq (tg := 39) rfl rfl (fun _ => ?_) (fun q => absurd q (by decide))
    refine r_ic (x := 10) rfl rfl ?_
    refine r_aload rfl rfl ?_
    refine r_aload rfl rfl ?_
    refine r_cv (y := 67) (ra := [.ref (ad 2)]) (rest := [.int 10]) rfl ⟨⟨rfl, rfl⟩, rfl, by decide⟩ ta rfl rfl (Nat.le_of_ble_eq_true rfl) ?_
    exact C1 c1
  · refine r_ic (x := 1) rfl rfl ?_
    refine r_goto (tg := 14) rfl rfl ?_
    refine r_istore (lv' := [some (.ref a), some (.ref (ad 2)), some (.int 1)]) rfl (Nat.le_of_ble_eq_true rfl) rfl ?_
    refine r_aload rfl rfl ?_
    refine r_iload rfl rfl ?_
    refine r_if_eq (tg := 25) rfl rfl (fun q => absurd q (by decide)) (fun _ => ?_)
    refine r_ic (x := 22) rfl rfl ?_
    refine r_goto (tg := 27) rfl rfl ?_
    refine r_cv (y := 68) (ra := [.int 22]) (rest := []) rfl ⟨⟨rfl, rfl⟩, rfl, by decide⟩ (fx_t2 fx) rfl rfl (Nat.le_of_ble_eq_true rfl) ?_
    refine c_begin (h := h) fx (B2 c1) ?_
    show WR _ cd_69 30 [some (.ref a), some (.ref (ad 2)), some (.int 1)] [] (pC ad 22 h) _
    have fx : FX n ad sa z0 (pC ad 22 h) := FX.pC fx
    have ta : hT (pC ad 22 h) a = 4 := Eq.trans (congrFun pC_T _) ta
    refine r_iload rfl rfl ?_
    refine r_if_eq (tg := 39) rfl rfl (fun q => absurd q (by decide)) (fun _ => ?_)
    refine r_ic (x := 15) rfl rfl ?_
    refine r_goto (tg := 41) rfl rfl ?_
    refine r_aload rfl rfl ?_
    refine r_aload rfl rfl ?_
    refine r_cv (y := 67) (ra := [.ref (ad 2)]) (rest := [.int 15]) rfl ⟨⟨rfl, rfl⟩, rfl, by decide⟩ ta rfl rfl (Nat.le_of_ble_eq_true rfl) ?_
    exact C2 c1

set_option maxHeartbeats 1000000 in
theorem w_mcost {d : Nat} {Q : mQ} {n : Nat} {ad sa : Nat → Nat} {z0 : Nat} {h : mH} (fx : FX n ad sa z0 h) (p : Int32) 
    (B1 : vp_in p 60) (B2 : ¬ (hI h (ad 37) p.toNatClampNeg) = 6 → 0 ≤ hI h (ad 30) 9) (B3 : ¬ (hI h (ad 37) p.toNatClampNeg) = 6 → vp_in p 60) (B4 : (hI h (ad 37) p.toNatClampNeg) = 6 → 0 ≤ hI h (ad 30) 9) (B5 : (hI h (ad 37) p.toNatClampNeg) = 6 → vp_in p 60)
    (C1 : ¬ (hI h (ad 37) p.toNatClampNeg) = 6 → ¬ (hI (pM ad 21 h) (ad 37) p.toNatClampNeg) = 6 → EV (d + 1) 186 [.ref (ad 30), .int p] (pM ad 21 h) (fun v h2 => WR (d + 1) cd_188 47 [some (.ref (ad 30)), some (.int p)] (v.toList ++ [.long 10]) h2 Q)) (C2 : ¬ (hI h (ad 37) p.toNatClampNeg) = 6 → (hI (pM ad 21 h) (ad 37) p.toNatClampNeg) = 6 → EV (d + 1) 186 [.ref (ad 30), .int p] (pM ad 21 h) (fun v h2 => WR (d + 1) cd_188 47 [some (.ref (ad 30)), some (.int p)] (v.toList ++ [.long 15]) h2 Q)) (C3 : (hI h (ad 37) p.toNatClampNeg) = 6 → ¬ (hI (pM ad 22 h) (ad 37) p.toNatClampNeg) = 6 → EV (d + 1) 186 [.ref (ad 30), .int p] (pM ad 22 h) (fun v h2 => WR (d + 1) cd_188 47 [some (.ref (ad 30)), some (.int p)] (v.toList ++ [.long 10]) h2 Q)) (C4 : (hI h (ad 37) p.toNatClampNeg) = 6 → (hI (pM ad 22 h) (ad 37) p.toNatClampNeg) = 6 → EV (d + 1) 186 [.ref (ad 30), .int p] (pM ad 22 h) (fun v h2 => WR (d + 1) cd_188 47 [some (.ref (ad 30)), some (.int p)] (v.toList ++ [.long 15]) h2 Q)) : EV (d + 2) 188 [.ref (ad 30), .int p] h Q := by
  refine in_188 (Nat.le_of_ble_eq_true rfl) ?_
  show WR _ cd_188 0 [some (.ref (ad 30)), some (.int p)] [] h _
  refine r_aload rfl rfl ?_
  refine r_aload rfl rfl ?_
  refine r_getA (b := ad 37) rfl ⟨rfl, rfl, rfl⟩ (fx_t30 fx) (fx_r30_7 fx) ?_
  refine r_iload rfl rfl ?_
  refine r_iaload rfl (.inl (fx_t37 fx)) (vp_ct (fx_n37 fx) (B1)) ?_
  refine r_ic (x := 6) rfl rfl ?_
  refine r_icmp_ne (tg := 17) rfl rfl (fun c1 => ?_) (fun c1 => ?_)
  · refine r_ic (x := 21) rfl rfl ?_
    refine r_cv (y := 187) (ra := [.int 21]) (rest := []) rfl ⟨⟨rfl, rfl⟩, rfl, by decide⟩ (fx_t30 fx) rfl rfl (Nat.le_of_ble_eq_true rfl) ?_
    refine c_body (h := h) fx (B2 c1) ?_
    show WR _ cd_188 22 [some (.ref (ad 30)), some (.int p)] [] (pM ad 21 h) _
    have fx : FX n ad sa z0 (pM ad 21 h) := FX.pM fx
    refine r_aload rfl rfl ?_
    refine r_getA (b := ad 37) rfl ⟨rfl, rfl, rfl⟩ (fx_t30 fx) (fx_r30_7 fx) ?_
    refine r_iload rfl rfl ?_
    refine r_iaload rfl (.inl (fx_t37 fx)) (vp_ct (fx_n37 fx) (B3 c1)) ?_
    refine r_ic (x := 6) rfl rfl ?_
    refine r_icmp_ne (tg := 39) rfl rfl (fun c2 => ?_) (fun c2 => ?_)
    · refine r_ldc (x := .long 10) rfl rfl ?_
      refine r_aload rfl rfl ?_
      refine r_iload rfl rfl ?_
      refine r_cv (y := 186) (ra := [.int p]) (rest := [.long 10]) rfl ⟨⟨rfl, rfl⟩, rfl, by decide⟩ (fx_t30 fx) rfl rfl (Nat.le_of_ble_eq_true rfl) ?_
      exact C1 c1 c2
    · refine r_ldc (x := .long 15) rfl rfl ?_
      refine r_goto (tg := 42) rfl rfl ?_
      refine r_aload rfl rfl ?_
      refine r_iload rfl rfl ?_
      refine r_cv (y := 186) (ra := [.int p]) (rest := [.long 15]) rfl ⟨⟨rfl, rfl⟩, rfl, by decide⟩ (fx_t30 fx) rfl rfl (Nat.le_of_ble_eq_true rfl) ?_
      exact C2 c1 c2
  · refine r_ic (x := 22) rfl rfl ?_
    refine r_goto (tg := 19) rfl rfl ?_
    refine r_cv (y := 187) (ra := [.int 22]) (rest := []) rfl ⟨⟨rfl, rfl⟩, rfl, by decide⟩ (fx_t30 fx) rfl rfl (Nat.le_of_ble_eq_true rfl) ?_
    refine c_body (h := h) fx (B4 c1) ?_
    show WR _ cd_188 22 [some (.ref (ad 30)), some (.int p)] [] (pM ad 22 h) _
    have fx : FX n ad sa z0 (pM ad 22 h) := FX.pM fx
    refine r_aload rfl rfl ?_
    refine r_getA (b := ad 37) rfl ⟨rfl, rfl, rfl⟩ (fx_t30 fx) (fx_r30_7 fx) ?_
    refine r_iload rfl rfl ?_
    refine r_iaload rfl (.inl (fx_t37 fx)) (vp_ct (fx_n37 fx) (B5 c1)) ?_
    refine r_ic (x := 6) rfl rfl ?_
    refine r_icmp_ne (tg := 39) rfl rfl (fun c3 => ?_) (fun c3 => ?_)
    · refine r_ldc (x := .long 10) rfl rfl ?_
      refine r_aload rfl rfl ?_
      refine r_iload rfl rfl ?_
      refine r_cv (y := 186) (ra := [.int p]) (rest := [.long 10]) rfl ⟨⟨rfl, rfl⟩, rfl, by decide⟩ (fx_t30 fx) rfl rfl (Nat.le_of_ble_eq_true rfl) ?_
      exact C3 c1 c3
    · refine r_ldc (x := .long 15) rfl rfl ?_
      refine r_goto (tg := 42) rfl rfl ?_
      refine r_aload rfl rfl ?_
      refine r_iload rfl rfl ?_
      refine r_cv (y := 186) (ra := [.int p]) (rest := [.long 15]) rfl ⟨⟨rfl, rfl⟩, rfl, by decide⟩ (fx_t30 fx) rfl rfl (Nat.le_of_ble_eq_true rfl) ?_
      exact C4 c1 c3

set_option maxHeartbeats 1000000 in
theorem w_wear {d : Nat} {Q : mQ} {n : Nat} {ad sa : Nat → Nat} {z0 : Nat} {h : mH} (fx : FX n ad sa z0 h) {a : Nat} (ta : hT h a = 4) (l : Int32) 
    
    (C1 : EV (d) 48 [.ref a, .int 3] h (fun v h2 => WR (d) cd_70 5 [some (.ref a), some (.int l), some (.ref (ad 2)), none] (v.toList ++ []) h2 Q)) : EV (d + 1) 70 [.ref a, .int l, .ref (ad 2)] h Q := by
  refine in_70 (Nat.le_of_ble_eq_true rfl) ?_
  show WR _ cd_70 0 [some (.ref a), some (.int l), some (.ref (ad 2)), none] [] h _
  refine r_aload rfl rfl ?_
  refine r_ic (x := 3) rfl rfl ?_
  refine r_cv (y := 48) (ra := [.int 3]) (rest := []) rfl ⟨⟨rfl, rfl⟩, rfl, by decide⟩ ta rfl rfl (Nat.le_of_ble_eq_true rfl) ?_
  exact C1

set_option maxHeartbeats 1000000 in
theorem w_mwear {d : Nat} {Q : mQ} {n : Nat} {ad sa : Nat → Nat} {z0 : Nat} {h : mH} (fx : FX n ad sa z0 h) (p : Int32) (l : Int64) 
    (B1 : vp_in p 60) (B2 : ¬ (hI h (ad 37) p.toNatClampNeg) = 4 → (hI h (ad 37) p.toNatClampNeg) = 3 → 0 ≤ hI h (ad 30) 9) (B3 : ¬ (hI h (ad 37) p.toNatClampNeg) = 4 → ¬ (hI h (ad 37) p.toNatClampNeg) = 3 → 0 ≤ hI h (ad 30) 9) (B4 : ¬ (hI h (ad 37) p.toNatClampNeg) = 4 → ¬ (hI h (ad 37) p.toNatClampNeg) = 3 → vp_in p 60) (B5 : (hI h (ad 37) p.toNatClampNeg) = 4 → 0 ≤ hI h (ad 30) 9) (B6 : (hI h (ad 37) p.toNatClampNeg) = 4 → (hI h (ad 37) p.toNatClampNeg) = 3 → 0 ≤ hI (pM ad 33 h) (ad 30) 9) (B7 : (hI h (ad 37) p.toNatClampNeg) = 4 → ¬ (hI h (ad 37) p.toNatClampNeg) = 3 → 0 ≤ hI (pM ad 33 h) (ad 30) 9)
    (C1 : ¬ (hI h (ad 37) p.toNatClampNeg) = 4 → (hI h (ad 37) p.toNatClampNeg) = 3 → EV (d + 1) 186 [.ref (ad 30), .int p] (pM ad 32 h) (fun v h2 => WR (d + 1) cd_189 47 [some (.ref (ad 30)), some (.int p), some (.long l), none, some (.int (hI h (ad 37) p.toNatClampNeg))] (v.toList ++ [.long (l * l), .ref (ad 30)]) h2 Q)) (L1 : ¬ (hI h (ad 37) p.toNatClampNeg) = 4 → ¬ (hI h (ad 37) p.toNatClampNeg) = 3 → Q (some (.int 0)) (sL (sL (sL (pM ad 31 h) (ad 30) 15 l) (ad 30) 15 ((hL (sL (pM ad 31 h) (ad 30) 15 l) (ad 30) 15) + 0)) (ad 38) p.toNatClampNeg ((hL (sL (sL (pM ad 31 h) (ad 30) 15 l) (ad 30) 15 ((hL (sL (pM ad 31 h) (ad 30) 15 l) (ad 30) 15) + 0)) (ad 38) p.toNatClampNeg) + (hL (sL (sL (pM ad 31 h) (ad 30) 15 l) (ad 30) 15 ((hL (sL (pM ad 31 h) (ad 30) 15 l) (ad 30) 15) + 0)) (ad 30) 15)))) (C2 : (hI h (ad 37) p.toNatClampNeg) = 4 → (hI h (ad 37) p.toNatClampNeg) = 3 → EV (d + 1) 186 [.ref (ad 30), .int p] (pM ad 32 (pM ad 33 h)) (fun v h2 => WR (d + 1) cd_189 47 [some (.ref (ad 30)), some (.int p), some (.long l), none, some (.int (hI h (ad 37) p.toNatClampNeg))] (v.toList ++ [.long (l * l), .ref (ad 30)]) h2 Q)) (C3 : (hI h (ad 37) p.toNatClampNeg) = 4 → ¬ (hI h (ad 37) p.toNatClampNeg) = 3 → EV (d + 1) 186 [.ref (ad 30), .int p] (pM ad 32 (pM ad 33 h)) (fun v h2 => WR (d + 1) cd_189 47 [some (.ref (ad 30)), some (.int p), some (.long l), none, some (.int (hI h (ad 37) p.toNatClampNeg))] (v.toList ++ [.long (l * l), .ref (ad 30)]) h2 Q)) : EV (d + 2) 189 [.ref (ad 30), .int p, .long l] h Q := by
  refine in_189 (Nat.le_of_ble_eq_true rfl) ?_
  show WR _ cd_189 0 [some (.ref (ad 30)), some (.int p), some (.long l), none, none] [] h _
  refine r_aload rfl rfl ?_
  refine r_getA (b := ad 37) rfl ⟨rfl, rfl, rfl⟩ (fx_t30 fx) (fx_r30_7 fx) ?_
  refine r_iload rfl rfl ?_
  refine r_iaload rfl (.inl (fx_t37 fx)) (vp_ct (fx_n37 fx) (B1)) ?_
  refine r_istore (lv' := [some (.ref (ad 30)), some (.int p), some (.long l), none, some (.int (hI h (ad 37) p.toNatClampNeg))]) rfl (Nat.le_of_ble_eq_true rfl) rfl ?_
  refine r_iload rfl rfl ?_
  refine r_ic (x := 4) rfl rfl ?_
  refine r_icmp_ne (tg := 20) rfl rfl (fun c1 => ?_) (fun c1 => ?_)
  · refine r_iload rfl rfl ?_
    refine r_ic (x := 3) rfl rfl ?_
    refine r_icmp_eq (tg := 32) rfl rfl (fun c2 => ?_) (fun c2 => ?_)
    · refine r_aload rfl rfl ?_
      refine r_ic (x := 32) rfl rfl ?_
      refine r_cv (y := 187) (ra := [.int 32]) (rest := []) rfl ⟨⟨rfl, rfl⟩, rfl, by decide⟩ (fx_t30 fx) rfl rfl (Nat.le_of_ble_eq_true rfl) ?_
      refine c_body (h := h) fx (B2 c1 c2) ?_
      show WR _ cd_189 38 [some (.ref (ad 30)), some (.int p), some (.long l), none, some (.int (hI h (ad 37) p.toNatClampNeg))] [] (pM ad 32 h) _
      have fx : FX n ad sa z0 (pM ad 32 h) := FX.pM fx
      refine r_aload rfl rfl ?_
      refine r_lload rfl rfl ?_
      refine r_lload rfl rfl ?_
      refine r_lmul rfl ?_
      refine r_aload rfl rfl ?_
      refine r_iload rfl rfl ?_
      refine r_cv (y := 186) (ra := [.int p]) (rest := [.long (l * l), .ref (ad 30)]) rfl ⟨⟨rfl, rfl⟩, rfl, by decide⟩ (fx_t30 fx) rfl rfl (Nat.le_of_ble_eq_true rfl) ?_
      exact C1 c1 c2
    · refine r_iload rfl rfl ?_
      refine r_ic (x := 4) rfl rfl ?_
      refine r_icmp_ne (tg := 55) rfl rfl (fun _ => ?_) (fun q => absurd q c1)
      refine r_aload rfl rfl ?_
      refine r_ic (x := 31) rfl rfl ?_
      refine r_cv (y := 187) (ra := [.int 31]) (rest := []) rfl ⟨⟨rfl, rfl⟩, rfl, by decide⟩ (fx_t30 fx) rfl rfl (Nat.le_of_ble_eq_true rfl) ?_
      refine c_body (h := h) fx (B3 c1 c2) ?_
      show WR _ cd_189 61 [some (.ref (ad 30)), some (.int p), some (.long l), none, some (.int (hI h (ad 37) p.toNatClampNeg))] [] (pM ad 31 h) _
      have fx : FX n ad sa z0 (pM ad 31 h) := FX.pM fx
      refine r_aload rfl rfl ?_
      refine r_lload rfl rfl ?_
      refine r_putL rfl ⟨rfl, rfl, rfl⟩ (fx_t30 fx) ?_
      refine r_iload rfl rfl ?_
      refine r_ic (x := 4) rfl rfl ?_
      refine r_icmp_ne (tg := 79) rfl rfl (fun _ => ?_) (fun q => absurd q c1)
      refine r_aload rfl rfl ?_
      refine r_dup rfl rfl ?_
      refine r_getL rfl ⟨rfl, rfl, rfl⟩ (fx_t30 fx) ?_
      refine r_iload rfl rfl ?_
      refine r_ic (x := 4) rfl rfl ?_
      refine r_icmp_ne (tg := 97) rfl rfl (fun _ => ?_) (fun q => absurd q c1)
      refine r_lc (x := 0) rfl rfl ?_
      refine r_ladd rfl ?_
      refine r_putL rfl ⟨rfl, rfl, rfl⟩ (fx_t30 fx) ?_
      refine r_aload rfl rfl ?_
      refine r_getA (b := ad 38) rfl ⟨rfl, rfl, rfl⟩ (fx_t30 fx) (fx_r30_8 fx) ?_
      refine r_iload rfl rfl ?_
      refine r_dup2 rfl rfl rfl ?_
      refine r_laload rfl (fx_t38 fx) (vp_ct (fx_n38 fx) (B4 c1 c2)) ?_
      refine r_aload rfl rfl ?_
      refine r_getL rfl ⟨rfl, rfl, rfl⟩ (fx_t30 fx) ?_
      refine r_ladd rfl ?_
      refine r_lastore rfl (fx_t38 fx) (vp_ct (fx_n38 fx) (B4 c1 c2)) ?_
      refine r_ic (x := 0) rfl rfl ?_
      refine r_iret rfl ?_
      exact L1 c1 c2
  · refine r_aload rfl rfl ?_
    refine r_ic (x := 33) rfl rfl ?_
    refine r_cv (y := 187) (ra := [.int 33]) (rest := []) rfl ⟨⟨rfl, rfl⟩, rfl, by decide⟩ (fx_t30 fx) rfl rfl (Nat.le_of_ble_eq_true rfl) ?_
    refine c_body (h := h) fx (B5 c1) ?_
    show WR _ cd_189 20 [some (.ref (ad 30)), some (.int p), some (.long l), none, some (.int (hI h (ad 37) p.toNatClampNeg))] [] (pM ad 33 h) _
    have fx : FX n ad sa z0 (pM ad 33 h) := FX.pM fx
    refine r_iload rfl rfl ?_
    refine r_ic (x := 3) rfl rfl ?_
    refine r_icmp_eq (tg := 32) rfl rfl (fun c3 => ?_) (fun c3 => ?_)
    · refine r_aload rfl rfl ?_
      refine r_ic (x := 32) rfl rfl ?_
      refine r_cv (y := 187) (ra := [.int 32]) (rest := []) rfl ⟨⟨rfl, rfl⟩, rfl, by decide⟩ (fx_t30 fx) rfl rfl (Nat.le_of_ble_eq_true rfl) ?_
      refine c_body (h := pM ad 33 h) fx (B6 c1 c3) ?_
      show WR _ cd_189 38 [some (.ref (ad 30)), some (.int p), some (.long l), none, some (.int (hI h (ad 37) p.toNatClampNeg))] [] (pM ad 32 (pM ad 33 h)) _
      have fx : FX n ad sa z0 (pM ad 32 (pM ad 33 h)) := FX.pM fx
      refine r_aload rfl rfl ?_
      refine r_lload rfl rfl ?_
      refine r_lload rfl rfl ?_
      refine r_lmul rfl ?_
      refine r_aload rfl rfl ?_
      refine r_iload rfl rfl ?_
      refine r_cv (y := 186) (ra := [.int p]) (rest := [.long (l * l), .ref (ad 30)]) rfl ⟨⟨rfl, rfl⟩, rfl, by decide⟩ (fx_t30 fx) rfl rfl (Nat.le_of_ble_eq_true rfl) ?_
      exact C2 c1 c3
    · refine r_iload rfl rfl ?_
      refine r_ic (x := 4) rfl rfl ?_
      refine r_icmp_ne (tg := 55) rfl rfl (fun q => absurd c1 q) (fun _ => ?_)
      refine r_aload rfl rfl ?_
      refine r_ic (x := 32) rfl rfl ?_
      refine r_cv (y := 187) (ra := [.int 32]) (rest := []) rfl ⟨⟨rfl, rfl⟩, rfl, by decide⟩ (fx_t30 fx) rfl rfl (Nat.le_of_ble_eq_true rfl) ?_
      refine c_body (h := pM ad 33 h) fx (B7 c1 c3) ?_
      show WR _ cd_189 38 [some (.ref (ad 30)), some (.int p), some (.long l), none, some (.int (hI h (ad 37) p.toNatClampNeg))] [] (pM ad 32 (pM ad 33 h)) _
      have fx : FX n ad sa z0 (pM ad 32 (pM ad 33 h)) := FX.pM fx
      refine r_aload rfl rfl ?_
      refine r_lload rfl rfl ?_
      refine r_lload rfl rfl ?_
      refine r_lmul rfl ?_
      refine r_aload rfl rfl ?_
      refine r_iload rfl rfl ?_
      refine r_cv (y := 186) (ra := [.int p]) (rest := [.long (l * l), .ref (ad 30)]) rfl ⟨⟨rfl, rfl⟩, rfl, by decide⟩ (fx_t30 fx) rfl rfl (Nat.le_of_ble_eq_true rfl) ?_
      exact C3 c1 c3

set_option maxHeartbeats 1000000 in
theorem w_wear5 {d : Nat} {Q : mQ} {n : Nat} {ad sa : Nat → Nat} {z0 : Nat} {h : mH} (fx : FX n ad sa z0 h) {a : Nat} (ta : hT h a = 4) (l z : Int32) 
    (B1 : ¬ z = 0 → ¬ (hI h a 0) = 4 → 0 ≤ hI h (ad 2) 1) (B2 : ¬ z = 0 → (hI h a 0) = 4 → 0 ≤ hI h (ad 2) 1) (B3 : ¬ z = 0 → (hI h a 0) = 4 → 0 ≤ hI (pC ad 33 h) (ad 2) 1) (B4 : z = 0 → 0 ≤ hI h (ad 2) 1)
    (C1 : ¬ z = 0 → ¬ (hI h a 0) = 4 → EV (d + 1) 67 [.ref a, .ref (ad 2)] (pC ad 32 h) (fun v h2 => WR (d + 1) cd_70 46 [some (.ref a), some (.int l), some (.ref (ad 2)), none] (v.toList ++ []) h2 Q)) (C2 : ¬ z = 0 → (hI h a 0) = 4 → EV (d + 1) 67 [.ref a, .ref (ad 2)] (pC ad 32 (pC ad 33 h)) (fun v h2 => WR (d + 1) cd_70 46 [some (.ref a), some (.int l), some (.ref (ad 2)), none] (v.toList ++ []) h2 Q)) (L1 : z = 0 → Q (some (.int 0)) (sL (sL (pC ad 31 h) a 3 l.toInt64) a 2 ((hL (sL (pC ad 31 h) a 3 l.toInt64) a 2) + l.toInt64))) : WR (d + 1) cd_70 5 [some (.ref a), some (.int l), some (.ref (ad 2)), none] [.int z] h Q := by
  refine r_if_ne (tg := 21) rfl rfl (fun c1 => ?_) (fun c1 => ?_)
  · refine r_aload rfl rfl ?_
    refine r_getI rfl ⟨rfl, rfl, rfl⟩ ta ?_
    refine r_ic (x := 4) rfl rfl ?_
    refine r_icmp_ne (tg := 35) rfl rfl (fun c2 => ?_) (fun c2 => ?_)
    · refine r_aload rfl rfl ?_
      refine r_ic (x := 32) rfl rfl ?_
      refine r_cv (y := 68) (ra := [.int 32]) (rest := []) rfl ⟨⟨rfl, rfl⟩, rfl, by decide⟩ (fx_t2 fx) rfl rfl (Nat.le_of_ble_eq_true rfl) ?_
      refine c_begin (h := h) fx (B1 c1 c2) ?_
      show WR _ cd_70 41 [some (.ref a), some (.int l), some (.ref (ad 2)), none] [] (pC ad 32 h) _
      have fx : FX n ad sa z0 (pC ad 32 h) := FX.pC fx
      have ta : hT (pC ad 32 h) a = 4 := Eq.trans (congrFun pC_T _) ta
      refine r_aload rfl rfl ?_
      refine r_aload rfl rfl ?_
      refine r_cv (y := 67) (ra := [.ref (ad 2)]) (rest := []) rfl ⟨⟨rfl, rfl⟩, rfl, by decide⟩ ta rfl rfl (Nat.le_of_ble_eq_true rfl) ?_
      exact C1 c1 c2
    · refine r_aload rfl rfl ?_
      refine r_ic (x := 33) rfl rfl ?_
      refine r_cv (y := 68) (ra := [.int 33]) (rest := []) rfl ⟨⟨rfl, rfl⟩, rfl, by decide⟩ (fx_t2 fx) rfl rfl (Nat.le_of_ble_eq_true rfl) ?_
      refine c_begin (h := h) fx (B2 c1 c2) ?_
      show WR _ cd_70 35 [some (.ref a), some (.int l), some (.ref (ad 2)), none] [] (pC ad 33 h) _
      have fx : FX n ad sa z0 (pC ad 33 h) := FX.pC fx
      have ta : hT (pC ad 33 h) a = 4 := Eq.trans (congrFun pC_T _) ta
      refine r_aload rfl rfl ?_
      refine r_ic (x := 32) rfl rfl ?_
      refine r_cv (y := 68) (ra := [.int 32]) (rest := []) rfl ⟨⟨rfl, rfl⟩, rfl, by decide⟩ (fx_t2 fx) rfl rfl (Nat.le_of_ble_eq_true rfl) ?_
      refine c_begin (h := pC ad 33 h) fx (B3 c1 c2) ?_
      show WR _ cd_70 41 [some (.ref a), some (.int l), some (.ref (ad 2)), none] [] (pC ad 32 (pC ad 33 h)) _
      have fx : FX n ad sa z0 (pC ad 32 (pC ad 33 h)) := FX.pC fx
      have ta : hT (pC ad 32 (pC ad 33 h)) a = 4 := Eq.trans (congrFun pC_T _) ta
      refine r_aload rfl rfl ?_
      refine r_aload rfl rfl ?_
      refine r_cv (y := 67) (ra := [.ref (ad 2)]) (rest := []) rfl ⟨⟨rfl, rfl⟩, rfl, by decide⟩ ta rfl rfl (Nat.le_of_ble_eq_true rfl) ?_
      exact C2 c1 c2
  · refine r_aload rfl rfl ?_
    refine r_ic (x := 31) rfl rfl ?_
    refine r_cv (y := 68) (ra := [.int 31]) (rest := []) rfl ⟨⟨rfl, rfl⟩, rfl, by decide⟩ (fx_t2 fx) rfl rfl (Nat.le_of_ble_eq_true rfl) ?_
    refine c_begin (h := h) fx (B4 c1) ?_
    show WR _ cd_70 14 [some (.ref a), some (.int l), some (.ref (ad 2)), none] [] (pC ad 31 h) _
    have fx : FX n ad sa z0 (pC ad 31 h) := FX.pC fx
    have ta : hT (pC ad 31 h) a = 4 := Eq.trans (congrFun pC_T _) ta
    refine r_aload rfl rfl ?_
    refine r_iload rfl rfl ?_
    refine r_i2l rfl ?_
    refine r_cv (y := 71) (ra := [.long l.toInt64]) (rest := []) rfl ⟨⟨rfl, rfl⟩, rfl, by decide⟩ ta rfl rfl (Nat.le_of_ble_eq_true rfl) ?_
    refine in_71 (Nat.le_of_ble_eq_true rfl) ?_
    show WR _ cd_71 0 [some (.ref a), some (.long l.toInt64), none] [] (pC ad 31 h) _
    refine r_aload rfl rfl ?_
    refine r_lload rfl rfl ?_
    refine r_putL rfl ⟨rfl, rfl, rfl⟩ ta ?_
    refine r_aload rfl rfl ?_
    refine r_dup rfl rfl ?_
    refine r_getL rfl ⟨rfl, rfl, rfl⟩ ta ?_
    refine r_lload rfl rfl ?_
    refine r_ladd rfl ?_
    refine r_putL rfl ⟨rfl, rfl, rfl⟩ ta ?_
    refine r_ic (x := 0) rfl rfl ?_
    refine r_iret rfl ?_
    show WR _ cd_70 20 [some (.ref a), some (.int l), some (.ref (ad 2)), none] [.int 0] (sL (sL (pC ad 31 h) a 3 l.toInt64) a 2 ((hL (sL (pC ad 31 h) a 3 l.toInt64) a 2) + l.toInt64)) _
    refine r_iret rfl ?_
    exact L1 c1

set_option maxHeartbeats 1000000 in
theorem w_wear46 {d : Nat} {Q : mQ} {n : Nat} {ad sa : Nat → Nat} {z0 : Nat} {h : mH} (fx : FX n ad sa z0 h) {a : Nat} (ta : hT h a = 4) (l m : Int32) 
    (B1 : ¬ m = 0 → ¬ (hI h a 0) = 4 → ¬ m = 0) (B2 : ¬ m = 0 → (hI h a 0) = 4 → ¬ (hI h a 1) = 0 → ¬ m = 0) (B3 : ¬ m = 0 → (hI h a 0) = 4 → ¬ (hI h a 1) = 0 → ¬ (hI h a 1) = 0)
    (L1 : m = 0 → Q (some (.int (-16))) h) (L2 : ¬ m = 0 → ¬ (hI h a 0) = 4 → Q (some (.int 0)) (sL (sL h a 3 ((((l * l) / m) + 0).toInt64)) a 2 ((hL (sL h a 3 ((((l * l) / m) + 0).toInt64)) a 2) + ((((l * l) / m) + 0).toInt64)))) (L3 : ¬ m = 0 → (hI h a 0) = 4 → ¬ (hI h a 1) = 0 → Q (some (.int 0)) (sL (sL h a 3 ((((l * l) / m) + (l / (hI h a 1))).toInt64)) a 2 ((hL (sL h a 3 ((((l * l) / m) + (l / (hI h a 1))).toInt64)) a 2) + ((((l * l) / m) + (l / (hI h a 1))).toInt64)))) (L4 : ¬ m = 0 → (hI h a 0) = 4 → (hI h a 1) = 0 → Q (some (.int (-16))) h) : WR (d + 1) cd_70 46 [some (.ref a), some (.int l), some (.ref (ad 2)), none] [.int m] h Q := by
  refine r_istore (lv' := [some (.ref a), some (.int l), some (.ref (ad 2)), some (.int m)]) rfl (Nat.le_of_ble_eq_true rfl) rfl ?_
  refine r_iload rfl rfl ?_
  refine r_if_eq (tg := 66) rfl rfl (fun c1 => ?_) (fun c1 => ?_)
  · refine r_ic (x := (-16)) rfl rfl ?_
    refine r_iret rfl ?_
    exact L1 c1
  · refine r_aload rfl rfl ?_
    refine r_getI rfl ⟨rfl, rfl, rfl⟩ ta ?_
    refine r_ic (x := 4) rfl rfl ?_
    refine r_icmp_ne (tg := 69) rfl rfl (fun c2 => ?_) (fun c2 => ?_)
    · refine r_aload rfl rfl ?_
      refine r_iload rfl rfl ?_
      refine r_iload rfl rfl ?_
      refine r_imul rfl ?_
      refine r_iload rfl rfl ?_
      refine r_idiv rfl (B1 c1 c2) ?_
      refine r_aload rfl rfl ?_
      refine r_getI rfl ⟨rfl, rfl, rfl⟩ ta ?_
      refine r_ic (x := 4) rfl rfl ?_
      refine r_icmp_ne (tg := 92) rfl rfl (fun _ => ?_) (fun q => absurd q c2)
      refine r_ic (x := 0) rfl rfl ?_
      refine r_iadd rfl ?_
      refine r_i2l rfl ?_
      refine r_cv (y := 71) (ra := [.long ((((l * l) / m) + 0).toInt64)]) (rest := []) rfl ⟨⟨rfl, rfl⟩, rfl, by decide⟩ ta rfl rfl (Nat.le_of_ble_eq_true rfl) ?_
      refine in_71 (Nat.le_of_ble_eq_true rfl) ?_
      show WR _ cd_71 0 [some (.ref a), some (.long ((((l * l) / m) + 0).toInt64)), none] [] h _
      refine r_aload rfl rfl ?_
      refine r_lload rfl rfl ?_
      refine r_putL rfl ⟨rfl, rfl, rfl⟩ ta ?_
      refine r_aload rfl rfl ?_
      refine r_dup rfl rfl ?_
      refine r_getL rfl ⟨rfl, rfl, rfl⟩ ta ?_
      refine r_lload rfl rfl ?_
      refine r_ladd rfl ?_
      refine r_putL rfl ⟨rfl, rfl, rfl⟩ ta ?_
      refine r_ic (x := 0) rfl rfl ?_
      refine r_iret rfl ?_
      show WR _ cd_70 98 [some (.ref a), some (.int l), some (.ref (ad 2)), some (.int m)] [.int 0] (sL (sL h a 3 ((((l * l) / m) + 0).toInt64)) a 2 ((hL (sL h a 3 ((((l * l) / m) + 0).toInt64)) a 2) + ((((l * l) / m) + 0).toInt64))) _
      refine r_iret rfl ?_
      exact L2 c1 c2
    · refine r_aload rfl rfl ?_
      refine r_getI rfl ⟨rfl, rfl, rfl⟩ ta ?_
      refine r_if_ne (tg := 69) rfl rfl (fun c3 => ?_) (fun c3 => ?_)
      · refine r_aload rfl rfl ?_
        refine r_iload rfl rfl ?_
        refine r_iload rfl rfl ?_
        refine r_imul rfl ?_
        refine r_iload rfl rfl ?_
        refine r_idiv rfl (B2 c1 c2 c3) ?_
        refine r_aload rfl rfl ?_
        refine r_getI rfl ⟨rfl, rfl, rfl⟩ ta ?_
        refine r_ic (x := 4) rfl rfl ?_
        refine r_icmp_ne (tg := 92) rfl rfl (fun q => absurd c2 q) (fun _ => ?_)
        refine r_iload rfl rfl ?_
        refine r_aload rfl rfl ?_
        refine r_getI rfl ⟨rfl, rfl, rfl⟩ ta ?_
        refine r_idiv rfl (B3 c1 c2 c3) ?_
        refine r_goto (tg := 93) rfl rfl ?_
        refine r_iadd rfl ?_
        refine r_i2l rfl ?_
        refine r_cv (y := 71) (ra := [.long ((((l * l) / m) + (l / (hI h a 1))).toInt64)]) (rest := []) rfl ⟨⟨rfl, rfl⟩, rfl, by decide⟩ ta rfl rfl (Nat.le_of_ble_eq_true rfl) ?_
        refine in_71 (Nat.le_of_ble_eq_true rfl) ?_
        show WR _ cd_71 0 [some (.ref a), some (.long ((((l * l) / m) + (l / (hI h a 1))).toInt64)), none] [] h _
        refine r_aload rfl rfl ?_
        refine r_lload rfl rfl ?_
        refine r_putL rfl ⟨rfl, rfl, rfl⟩ ta ?_
        refine r_aload rfl rfl ?_
        refine r_dup rfl rfl ?_
        refine r_getL rfl ⟨rfl, rfl, rfl⟩ ta ?_
        refine r_lload rfl rfl ?_
        refine r_ladd rfl ?_
        refine r_putL rfl ⟨rfl, rfl, rfl⟩ ta ?_
        refine r_ic (x := 0) rfl rfl ?_
        refine r_iret rfl ?_
        show WR _ cd_70 98 [some (.ref a), some (.int l), some (.ref (ad 2)), some (.int m)] [.int 0] (sL (sL h a 3 ((((l * l) / m) + (l / (hI h a 1))).toInt64)) a 2 ((hL (sL h a 3 ((((l * l) / m) + (l / (hI h a 1))).toInt64)) a 2) + ((((l * l) / m) + (l / (hI h a 1))).toInt64))) _
        refine r_iret rfl ?_
        exact L3 c1 c2 c3
      · refine r_ic (x := (-16)) rfl rfl ?_
        refine r_iret rfl ?_
        exact L4 c1 c2 c3

set_option maxHeartbeats 1000000 in
theorem w_cost46 {d : Nat} {Q : mQ} {n : Nat} {ad sa : Nat → Nat} {z0 : Nat} {h : mH} (fx : FX n ad sa z0 h) {a : Nat} (v m c : Int32) 
    
    (L1 : Q (some (.int (c * m))) h) : WR (d + 0) cd_69 46 [some (.ref a), some (.ref (ad 2)), some (.int v)] [.int m, .int c] h Q := by
  refine r_imul rfl ?_
  refine r_iret rfl ?_
  exact L1

set_option maxHeartbeats 1000000 in
theorem w_mcost47 {d : Nat} {Q : mQ} {n : Nat} {ad sa : Nat → Nat} {z0 : Nat} {h : mH} (fx : FX n ad sa z0 h) (p m : Int32) (c : Int64) 
    
    (L1 : Q (some (.long (c * m.toInt64))) h) : WR (d + 0) cd_188 47 [some (.ref (ad 30)), some (.int p)] [.int m, .long c] h Q := by
  refine r_i2l rfl ?_
  refine r_lmul rfl ?_
  refine r_lret rfl ?_
  exact L1

set_option maxHeartbeats 1000000 in
theorem w_mwear47 {d : Nat} {Q : mQ} {n : Nat} {ad sa : Nat → Nat} {z0 : Nat} {h : mH} (fx : FX n ad sa z0 h) (p m k : Int32) (l v : Int64) 
    (B1 : ¬ m.toInt64 = 0) (B2 : ¬ k = 4 → vp_in p 60) (B3 : k = 4 → ¬ p = 0 → ¬ p.toInt64 = 0) (B4 : k = 4 → ¬ p = 0 → vp_in p 60)
    (L1 : ¬ k = 4 → Q (some (.int 0)) (sL (sL (sL h (ad 30) 15 (v / m.toInt64)) (ad 30) 15 ((hL (sL h (ad 30) 15 (v / m.toInt64)) (ad 30) 15) + 0)) (ad 38) p.toNatClampNeg ((hL (sL (sL h (ad 30) 15 (v / m.toInt64)) (ad 30) 15 ((hL (sL h (ad 30) 15 (v / m.toInt64)) (ad 30) 15) + 0)) (ad 38) p.toNatClampNeg) + (hL (sL (sL h (ad 30) 15 (v / m.toInt64)) (ad 30) 15 ((hL (sL h (ad 30) 15 (v / m.toInt64)) (ad 30) 15) + 0)) (ad 30) 15)))) (L2 : k = 4 → ¬ p = 0 → Q (some (.int 0)) (sL (sL (sL h (ad 30) 15 (v / m.toInt64)) (ad 30) 15 ((hL (sL h (ad 30) 15 (v / m.toInt64)) (ad 30) 15) + (l / p.toInt64))) (ad 38) p.toNatClampNeg ((hL (sL (sL h (ad 30) 15 (v / m.toInt64)) (ad 30) 15 ((hL (sL h (ad 30) 15 (v / m.toInt64)) (ad 30) 15) + (l / p.toInt64))) (ad 38) p.toNatClampNeg) + (hL (sL (sL h (ad 30) 15 (v / m.toInt64)) (ad 30) 15 ((hL (sL h (ad 30) 15 (v / m.toInt64)) (ad 30) 15) + (l / p.toInt64))) (ad 30) 15)))) (L3 : k = 4 → p = 0 → Q (some (.int 6)) (sL h (ad 30) 15 (v / m.toInt64))) : WR (d + 0) cd_189 47 [some (.ref (ad 30)), some (.int p), some (.long l), none, some (.int k)] [.int m, .long v, .ref (ad 30)] h Q := by
  refine r_i2l rfl ?_
  refine r_ldiv rfl (B1) ?_
  refine r_putL rfl ⟨rfl, rfl, rfl⟩ (fx_t30 fx) ?_
  refine r_goto (tg := 66) rfl rfl ?_
  refine r_iload rfl rfl ?_
  refine r_ic (x := 4) rfl rfl ?_
  refine r_icmp_ne (tg := 79) rfl rfl (fun c1 => ?_) (fun c1 => ?_)
  · refine r_aload rfl rfl ?_
    refine r_dup rfl rfl ?_
    refine r_getL rfl ⟨rfl, rfl, rfl⟩ (fx_t30 fx) ?_
    refine r_iload rfl rfl ?_
    refine r_ic (x := 4) rfl rfl ?_
    refine r_icmp_ne (tg := 97) rfl rfl (fun _ => ?_) (fun q => absurd q c1)
    refine r_lc (x := 0) rfl rfl ?_
    refine r_ladd rfl ?_
    refine r_putL rfl ⟨rfl, rfl, rfl⟩ (fx_t30 fx) ?_
    refine r_aload rfl rfl ?_
    refine r_getA (b := ad 38) rfl ⟨rfl, rfl, rfl⟩ (fx_t30 fx) (fx_r30_8 fx) ?_
    refine r_iload rfl rfl ?_
    refine r_dup2 rfl rfl rfl ?_
    refine r_laload rfl (fx_t38 fx) (vp_ct (fx_n38 fx) (B2 c1)) ?_
    refine r_aload rfl rfl ?_
    refine r_getL rfl ⟨rfl, rfl, rfl⟩ (fx_t30 fx) ?_
    refine r_ladd rfl ?_
    refine r_lastore rfl (fx_t38 fx) (vp_ct (fx_n38 fx) (B2 c1)) ?_
    refine r_ic (x := 0) rfl rfl ?_
    refine r_iret rfl ?_
    exact L1 c1
  · refine r_iload rfl rfl ?_
    refine r_if_ne (tg := 79) rfl rfl (fun c2 => ?_) (fun c2 => ?_)
    · refine r_aload rfl rfl ?_
      refine r_dup rfl rfl ?_
      refine r_getL rfl ⟨rfl, rfl, rfl⟩ (fx_t30 fx) ?_
      refine r_iload rfl rfl ?_
      refine r_ic (x := 4) rfl rfl ?_
      refine r_icmp_ne (tg := 97) rfl rfl (fun q => absurd c1 q) (fun _ => ?_)
      refine r_lload rfl rfl ?_
      refine r_iload rfl rfl ?_
      refine r_i2l rfl ?_
      refine r_ldiv rfl (B3 c1 c2) ?_
      refine r_goto (tg := 98) rfl rfl ?_
      refine r_ladd rfl ?_
      refine r_putL rfl ⟨rfl, rfl, rfl⟩ (fx_t30 fx) ?_
      refine r_aload rfl rfl ?_
      refine r_getA (b := ad 38) rfl ⟨rfl, rfl, rfl⟩ (fx_t30 fx) (fx_r30_8 fx) ?_
      refine r_iload rfl rfl ?_
      refine r_dup2 rfl rfl rfl ?_
      refine r_laload rfl (fx_t38 fx) (vp_ct (fx_n38 fx) (B4 c1 c2)) ?_
      refine r_aload rfl rfl ?_
      refine r_getL rfl ⟨rfl, rfl, rfl⟩ (fx_t30 fx) ?_
      refine r_ladd rfl ?_
      refine r_lastore rfl (fx_t38 fx) (vp_ct (fx_n38 fx) (B4 c1 c2)) ?_
      refine r_ic (x := 0) rfl rfl ?_
      refine r_iret rfl ?_
      exact L2 c1 c2
    · refine r_ic (x := 6) rfl rfl ?_
      refine r_iret rfl ?_
      exact L3 c1 c2

