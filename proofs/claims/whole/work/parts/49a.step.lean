/-! ===== step by contract; printed ===== -/
set_option maxHeartbeats 1000000 in
theorem w_addStep {d : Nat} {Q : mQ} {n : Nat} {ad sa : Nat → Nat} {z0 : Nat} {h : mH} (fx : FX n ad sa z0 h) (p o a b c : Int32) 
    (B1 : vp_in p 10) (B2 : vp_in (((p * 16) + (hI h (ad 11) p.toNatClampNeg)) * 4) 640) (B3 : vp_in ((((p * 16) + (hI h (ad 11) p.toNatClampNeg)) * 4) + 1) 640) (B4 : vp_in ((((p * 16) + (hI h (ad 11) p.toNatClampNeg)) * 4) + 2) 640) (B5 : vp_in ((((p * 16) + (hI h (ad 11) p.toNatClampNeg)) * 4) + 3) 640)
    (L1 : Q (some (.int (hI (sI (sI (sI (sI (sI h (ad 10) (((p * 16) + (hI h (ad 11) p.toNatClampNeg)) * 4).toNatClampNeg o) (ad 10) ((((p * 16) + (hI h (ad 11) p.toNatClampNeg)) * 4) + 1).toNatClampNeg a) (ad 10) ((((p * 16) + (hI h (ad 11) p.toNatClampNeg)) * 4) + 2).toNatClampNeg b) (ad 10) ((((p * 16) + (hI h (ad 11) p.toNatClampNeg)) * 4) + 3).toNatClampNeg c) (ad 11) p.toNatClampNeg ((hI (sI (sI (sI (sI h (ad 10) (((p * 16) + (hI h (ad 11) p.toNatClampNeg)) * 4).toNatClampNeg o) (ad 10) ((((p * 16) + (hI h (ad 11) p.toNatClampNeg)) * 4) + 1).toNatClampNeg a) (ad 10) ((((p * 16) + (hI h (ad 11) p.toNatClampNeg)) * 4) + 2).toNatClampNeg b) (ad 10) ((((p * 16) + (hI h (ad 11) p.toNatClampNeg)) * 4) + 3).toNatClampNeg c) (ad 11) p.toNatClampNeg) + 1)) (ad 11) p.toNatClampNeg))) (sI (sI (sI (sI (sI h (ad 10) (((p * 16) + (hI h (ad 11) p.toNatClampNeg)) * 4).toNatClampNeg o) (ad 10) ((((p * 16) + (hI h (ad 11) p.toNatClampNeg)) * 4) + 1).toNatClampNeg a) (ad 10) ((((p * 16) + (hI h (ad 11) p.toNatClampNeg)) * 4) + 2).toNatClampNeg b) (ad 10) ((((p * 16) + (hI h (ad 11) p.toNatClampNeg)) * 4) + 3).toNatClampNeg c) (ad 11) p.toNatClampNeg ((hI (sI (sI (sI (sI h (ad 10) (((p * 16) + (hI h (ad 11) p.toNatClampNeg)) * 4).toNatClampNeg o) (ad 10) ((((p * 16) + (hI h (ad 11) p.toNatClampNeg)) * 4) + 1).toNatClampNeg a) (ad 10) ((((p * 16) + (hI h (ad 11) p.toNatClampNeg)) * 4) + 2).toNatClampNeg b) (ad 10) ((((p * 16) + (hI h (ad 11) p.toNatClampNeg)) * 4) + 3).toNatClampNeg c) (ad 11) p.toNatClampNeg) + 1))) : EV (d + 1) 96 [.ref (ad 9), .int p, .int o, .int a, .int b, .int c] h Q := by
  refine in_96 (Nat.le_of_ble_eq_true rfl) ?_
  show WR _ cd_96 0 [some (.ref (ad 9)), some (.int p), some (.int o), some (.int a), some (.int b), some (.int c), none] [] h _
  refine r_iload rfl rfl ?_
  refine r_ic (x := 16) rfl rfl ?_
  refine r_imul rfl ?_
  refine r_aload rfl rfl ?_
  refine r_getA (b := ad 11) rfl ⟨rfl, rfl, rfl⟩ (fx_t9 fx) (fx_r9_1 fx) ?_
  refine r_iload rfl rfl ?_
  refine r_iaload rfl (.inl (fx_t11 fx)) (vp_ct (fx_n11 fx) (B1)) ?_
  refine r_iadd rfl ?_
  refine r_ic (x := 4) rfl rfl ?_
  refine r_imul rfl ?_
  refine r_istore (lv' := [some (.ref (ad 9)), some (.int p), some (.int o), some (.int a), some (.int b), some (.int c), some (.int (((p * 16) + (hI h (ad 11) p.toNatClampNeg)) * 4))]) rfl (Nat.le_of_ble_eq_true rfl) rfl ?_
  refine r_aload rfl rfl ?_
  refine r_getA (b := ad 10) rfl ⟨rfl, rfl, rfl⟩ (fx_t9 fx) (fx_r9_0 fx) ?_
  refine r_iload rfl rfl ?_
  refine r_iload rfl rfl ?_
  refine r_iastore rfl (fx_t10 fx) (vp_ct (fx_n10 fx) (B2)) ?_
  refine r_aload rfl rfl ?_
  refine r_getA (b := ad 10) rfl ⟨rfl, rfl, rfl⟩ (fx_t9 fx) (fx_r9_0 fx) ?_
  refine r_iload rfl rfl ?_
  refine r_ic (x := 1) rfl rfl ?_
  refine r_iadd rfl ?_
  refine r_iload rfl rfl ?_
  refine r_iastore rfl (fx_t10 fx) (vp_ct (fx_n10 fx) (B3)) ?_
  refine r_aload rfl rfl ?_
  refine r_getA (b := ad 10) rfl ⟨rfl, rfl, rfl⟩ (fx_t9 fx) (fx_r9_0 fx) ?_
  refine r_iload rfl rfl ?_
  refine r_ic (x := 2) rfl rfl ?_
  refine r_iadd rfl ?_
  refine r_iload rfl rfl ?_
  refine r_iastore rfl (fx_t10 fx) (vp_ct (fx_n10 fx) (B4)) ?_
  refine r_aload rfl rfl ?_
  refine r_getA (b := ad 10) rfl ⟨rfl, rfl, rfl⟩ (fx_t9 fx) (fx_r9_0 fx) ?_
  refine r_iload rfl rfl ?_
  refine r_ic (x := 3) rfl rfl ?_
  refine r_iadd rfl ?_
  refine r_iload rfl rfl ?_
  refine r_iastore rfl (fx_t10 fx) (vp_ct (fx_n10 fx) (B5)) ?_
  refine r_aload rfl rfl ?_
  refine r_getA (b := ad 11) rfl ⟨rfl, rfl, rfl⟩ (fx_t9 fx) (fx_r9_1 fx) ?_
  refine r_iload rfl rfl ?_
  refine r_dup2 rfl rfl rfl ?_
  refine r_iaload rfl (.inl (fx_t11 fx)) (vp_ct (fx_n11 fx) (B1)) ?_
  refine r_ic (x := 1) rfl rfl ?_
  refine r_iadd rfl ?_
  refine r_iastore rfl (fx_t11 fx) (vp_ct (fx_n11 fx) (B1)) ?_
  refine r_aload rfl rfl ?_
  refine r_getA (b := ad 11) rfl ⟨rfl, rfl, rfl⟩ (fx_t9 fx) (fx_r9_1 fx) ?_
  refine r_iload rfl rfl ?_
  refine r_iaload rfl (.inl (fx_t11 fx)) (vp_ct (fx_n11 fx) (B1)) ?_
  refine r_iret rfl ?_
  exact L1

set_option maxHeartbeats 1000000 in
theorem w_mstepT {d : Nat} {Q : mQ} {n : Nat} {ad sa : Nat → Nat} {z0 : Nat} {h : mH} (fx : FX n ad sa z0 h) (p o a b c : Int32) 
    (B1 : vp_in p 10) (B2 : vp_in ((16 * p) + (hI h (ad 43) p.toNatClampNeg)) 160)
    (L1 : (-1) ≤ (hI (sI (sI (sI (sI (sI h (ad 44) ((16 * p) + (hI h (ad 43) p.toNatClampNeg)).toNatClampNeg o) (ad 45) ((16 * p) + (hI h (ad 43) p.toNatClampNeg)).toNatClampNeg a) (ad 46) ((16 * p) + (hI h (ad 43) p.toNatClampNeg)).toNatClampNeg b) (ad 47) ((16 * p) + (hI h (ad 43) p.toNatClampNeg)).toNatClampNeg c) (ad 43) p.toNatClampNeg ((hI (sI (sI (sI (sI h (ad 44) ((16 * p) + (hI h (ad 43) p.toNatClampNeg)).toNatClampNeg o) (ad 45) ((16 * p) + (hI h (ad 43) p.toNatClampNeg)).toNatClampNeg a) (ad 46) ((16 * p) + (hI h (ad 43) p.toNatClampNeg)).toNatClampNeg b) (ad 47) ((16 * p) + (hI h (ad 43) p.toNatClampNeg)).toNatClampNeg c) (ad 43) p.toNatClampNeg) + 1)) (ad 43) p.toNatClampNeg) → Q (some (.int (hI (sI (sI (sI (sI (sI h (ad 44) ((16 * p) + (hI h (ad 43) p.toNatClampNeg)).toNatClampNeg o) (ad 45) ((16 * p) + (hI h (ad 43) p.toNatClampNeg)).toNatClampNeg a) (ad 46) ((16 * p) + (hI h (ad 43) p.toNatClampNeg)).toNatClampNeg b) (ad 47) ((16 * p) + (hI h (ad 43) p.toNatClampNeg)).toNatClampNeg c) (ad 43) p.toNatClampNeg ((hI (sI (sI (sI (sI h (ad 44) ((16 * p) + (hI h (ad 43) p.toNatClampNeg)).toNatClampNeg o) (ad 45) ((16 * p) + (hI h (ad 43) p.toNatClampNeg)).toNatClampNeg a) (ad 46) ((16 * p) + (hI h (ad 43) p.toNatClampNeg)).toNatClampNeg b) (ad 47) ((16 * p) + (hI h (ad 43) p.toNatClampNeg)).toNatClampNeg c) (ad 43) p.toNatClampNeg) + 1)) (ad 43) p.toNatClampNeg))) (sI (sI (sI (sI (sI (sI h (ad 44) ((16 * p) + (hI h (ad 43) p.toNatClampNeg)).toNatClampNeg o) (ad 45) ((16 * p) + (hI h (ad 43) p.toNatClampNeg)).toNatClampNeg a) (ad 46) ((16 * p) + (hI h (ad 43) p.toNatClampNeg)).toNatClampNeg b) (ad 47) ((16 * p) + (hI h (ad 43) p.toNatClampNeg)).toNatClampNeg c) (ad 43) p.toNatClampNeg ((hI (sI (sI (sI (sI h (ad 44) ((16 * p) + (hI h (ad 43) p.toNatClampNeg)).toNatClampNeg o) (ad 45) ((16 * p) + (hI h (ad 43) p.toNatClampNeg)).toNatClampNeg a) (ad 46) ((16 * p) + (hI h (ad 43) p.toNatClampNeg)).toNatClampNeg b) (ad 47) ((16 * p) + (hI h (ad 43) p.toNatClampNeg)).toNatClampNeg c) (ad 43) p.toNatClampNeg) + 1)) (ad 30) 11 0)) (L2 : ¬ (-1) ≤ (hI (sI (sI (sI (sI (sI h (ad 44) ((16 * p) + (hI h (ad 43) p.toNatClampNeg)).toNatClampNeg o) (ad 45) ((16 * p) + (hI h (ad 43) p.toNatClampNeg)).toNatClampNeg a) (ad 46) ((16 * p) + (hI h (ad 43) p.toNatClampNeg)).toNatClampNeg b) (ad 47) ((16 * p) + (hI h (ad 43) p.toNatClampNeg)).toNatClampNeg c) (ad 43) p.toNatClampNeg ((hI (sI (sI (sI (sI h (ad 44) ((16 * p) + (hI h (ad 43) p.toNatClampNeg)).toNatClampNeg o) (ad 45) ((16 * p) + (hI h (ad 43) p.toNatClampNeg)).toNatClampNeg a) (ad 46) ((16 * p) + (hI h (ad 43) p.toNatClampNeg)).toNatClampNeg b) (ad 47) ((16 * p) + (hI h (ad 43) p.toNatClampNeg)).toNatClampNeg c) (ad 43) p.toNatClampNeg) + 1)) (ad 43) p.toNatClampNeg) → Q (some (.int (hI (sI (sI (sI (sI (sI h (ad 44) ((16 * p) + (hI h (ad 43) p.toNatClampNeg)).toNatClampNeg o) (ad 45) ((16 * p) + (hI h (ad 43) p.toNatClampNeg)).toNatClampNeg a) (ad 46) ((16 * p) + (hI h (ad 43) p.toNatClampNeg)).toNatClampNeg b) (ad 47) ((16 * p) + (hI h (ad 43) p.toNatClampNeg)).toNatClampNeg c) (ad 43) p.toNatClampNeg ((hI (sI (sI (sI (sI h (ad 44) ((16 * p) + (hI h (ad 43) p.toNatClampNeg)).toNatClampNeg o) (ad 45) ((16 * p) + (hI h (ad 43) p.toNatClampNeg)).toNatClampNeg a) (ad 46) ((16 * p) + (hI h (ad 43) p.toNatClampNeg)).toNatClampNeg b) (ad 47) ((16 * p) + (hI h (ad 43) p.toNatClampNeg)).toNatClampNeg c) (ad 43) p.toNatClampNeg) + 1)) (ad 43) p.toNatClampNeg))) (sI (sI (sI (sI (sI (sI h (ad 44) ((16 * p) + (hI h (ad 43) p.toNatClampNeg)).toNatClampNeg o) (ad 45) ((16 * p) + (hI h (ad 43) p.toNatClampNeg)).toNatClampNeg a) (ad 46) ((16 * p) + (hI h (ad 43) p.toNatClampNeg)).toNatClampNeg b) (ad 47) ((16 * p) + (hI h (ad 43) p.toNatClampNeg)).toNatClampNeg c) (ad 43) p.toNatClampNeg ((hI (sI (sI (sI (sI h (ad 44) ((16 * p) + (hI h (ad 43) p.toNatClampNeg)).toNatClampNeg o) (ad 45) ((16 * p) + (hI h (ad 43) p.toNatClampNeg)).toNatClampNeg a) (ad 46) ((16 * p) + (hI h (ad 43) p.toNatClampNeg)).toNatClampNeg b) (ad 47) ((16 * p) + (hI h (ad 43) p.toNatClampNeg)).toNatClampNeg c) (ad 43) p.toNatClampNeg) + 1)) (ad 30) 11 (hI (sI (sI (sI (sI (sI h (ad 44) ((16 * p) + (hI h (ad 43) p.toNatClampNeg)).toNatClampNeg o) (ad 45) ((16 * p) + (hI h (ad 43) p.toNatClampNeg)).toNatClampNeg a) (ad 46) ((16 * p) + (hI h (ad 43) p.toNatClampNeg)).toNatClampNeg b) (ad 47) ((16 * p) + (hI h (ad 43) p.toNatClampNeg)).toNatClampNeg c) (ad 43) p.toNatClampNeg ((hI (sI (sI (sI (sI h (ad 44) ((16 * p) + (hI h (ad 43) p.toNatClampNeg)).toNatClampNeg o) (ad 45) ((16 * p) + (hI h (ad 43) p.toNatClampNeg)).toNatClampNeg a) (ad 46) ((16 * p) + (hI h (ad 43) p.toNatClampNeg)).toNatClampNeg b) (ad 47) ((16 * p) + (hI h (ad 43) p.toNatClampNeg)).toNatClampNeg c) (ad 43) p.toNatClampNeg) + 1)) (ad 43) p.toNatClampNeg))) : WR (d + 1) cd_203 115 [some (.ref (ad 30)), some (.int p), some (.int o), some (.int a), some (.int b), some (.int c), none] [] h Q := by
  refine r_ic (x := 16) rfl rfl ?_
  refine r_iload rfl rfl ?_
  refine r_imul rfl ?_
  refine r_aload rfl rfl ?_
  refine r_getA (b := ad 43) rfl ⟨rfl, rfl, rfl⟩ (fx_t30 fx) (fx_r30_18 fx) ?_
  refine r_iload rfl rfl ?_
  refine r_iaload rfl (.inl (fx_t43 fx)) (vp_ct (fx_n43 fx) (B1)) ?_
  refine r_iadd rfl ?_
  refine r_istore (lv' := [some (.ref (ad 30)), some (.int p), some (.int o), some (.int a), some (.int b), some (.int c), some (.int ((16 * p) + (hI h (ad 43) p.toNatClampNeg)))]) rfl (Nat.le_of_ble_eq_true rfl) rfl ?_
  refine r_aload rfl rfl ?_
  refine r_getA (b := ad 44) rfl ⟨rfl, rfl, rfl⟩ (fx_t30 fx) (fx_r30_19 fx) ?_
  refine r_iload rfl rfl ?_
  refine r_iload rfl rfl ?_
  refine r_iastore rfl (fx_t44 fx) (vp_ct (fx_n44 fx) (B2)) ?_
  refine r_aload rfl rfl ?_
  refine r_getA (b := ad 45) rfl ⟨rfl, rfl, rfl⟩ (fx_t30 fx) (fx_r30_20 fx) ?_
  refine r_iload rfl rfl ?_
  refine r_iload rfl rfl ?_
  refine r_iastore rfl (fx_t45 fx) (vp_ct (fx_n45 fx) (B2)) ?_
  refine r_aload rfl rfl ?_
  refine r_getA (b := ad 46) rfl ⟨rfl, rfl, rfl⟩ (fx_t30 fx) (fx_r30_21 fx) ?_
  refine r_iload rfl rfl ?_
  refine r_iload rfl rfl ?_
  refine r_iastore rfl (fx_t46 fx) (vp_ct (fx_n46 fx) (B2)) ?_
  refine r_aload rfl rfl ?_
  refine r_getA (b := ad 47) rfl ⟨rfl, rfl, rfl⟩ (fx_t30 fx) (fx_r30_22 fx) ?_
  refine r_iload rfl rfl ?_
  refine r_iload rfl rfl ?_
  refine r_iastore rfl (fx_t47 fx) (vp_ct (fx_n47 fx) (B2)) ?_
  refine r_aload rfl rfl ?_
  refine r_getA (b := ad 43) rfl ⟨rfl, rfl, rfl⟩ (fx_t30 fx) (fx_r30_18 fx) ?_
  refine r_iload rfl rfl ?_
  refine r_dup2 rfl rfl rfl ?_
  refine r_iaload rfl (.inl (fx_t43 fx)) (vp_ct (fx_n43 fx) (B1)) ?_
  refine r_ic (x := 1) rfl rfl ?_
  refine r_iadd rfl ?_
  refine r_iastore rfl (fx_t43 fx) (vp_ct (fx_n43 fx) (B1)) ?_
  refine r_aload rfl rfl ?_
  refine r_aload rfl rfl ?_
  refine r_getA (b := ad 43) rfl ⟨rfl, rfl, rfl⟩ (fx_t30 fx) (fx_r30_18 fx) ?_
  refine r_iload rfl rfl ?_
  refine r_iaload rfl (.inl (fx_t43 fx)) (vp_ct (fx_n43 fx) (B1)) ?_
  refine r_cv (y := 154) (ra := [.int (hI (sI (sI (sI (sI (sI h (ad 44) ((16 * p) + (hI h (ad 43) p.toNatClampNeg)).toNatClampNeg o) (ad 45) ((16 * p) + (hI h (ad 43) p.toNatClampNeg)).toNatClampNeg a) (ad 46) ((16 * p) + (hI h (ad 43) p.toNatClampNeg)).toNatClampNeg b) (ad 47) ((16 * p) + (hI h (ad 43) p.toNatClampNeg)).toNatClampNeg c) (ad 43) p.toNatClampNeg ((hI (sI (sI (sI (sI h (ad 44) ((16 * p) + (hI h (ad 43) p.toNatClampNeg)).toNatClampNeg o) (ad 45) ((16 * p) + (hI h (ad 43) p.toNatClampNeg)).toNatClampNeg a) (ad 46) ((16 * p) + (hI h (ad 43) p.toNatClampNeg)).toNatClampNeg b) (ad 47) ((16 * p) + (hI h (ad 43) p.toNatClampNeg)).toNatClampNeg c) (ad 43) p.toNatClampNeg) + 1)) (ad 43) p.toNatClampNeg)]) (rest := []) rfl ⟨⟨rfl, rfl⟩, rfl, by decide⟩ (fx_t30 fx) rfl rfl (Nat.le_of_ble_eq_true rfl) ?_
  refine in_154 (Nat.le_of_ble_eq_true rfl) ?_
  show WR _ cd_154 0 [some (.ref (ad 30)), some (.int (hI (sI (sI (sI (sI (sI h (ad 44) ((16 * p) + (hI h (ad 43) p.toNatClampNeg)).toNatClampNeg o) (ad 45) ((16 * p) + (hI h (ad 43) p.toNatClampNeg)).toNatClampNeg a) (ad 46) ((16 * p) + (hI h (ad 43) p.toNatClampNeg)).toNatClampNeg b) (ad 47) ((16 * p) + (hI h (ad 43) p.toNatClampNeg)).toNatClampNeg c) (ad 43) p.toNatClampNeg ((hI (sI (sI (sI (sI h (ad 44) ((16 * p) + (hI h (ad 43) p.toNatClampNeg)).toNatClampNeg o) (ad 45) ((16 * p) + (hI h (ad 43) p.toNatClampNeg)).toNatClampNeg a) (ad 46) ((16 * p) + (hI h (ad 43) p.toNatClampNeg)).toNatClampNeg b) (ad 47) ((16 * p) + (hI h (ad 43) p.toNatClampNeg)).toNatClampNeg c) (ad 43) p.toNatClampNeg) + 1)) (ad 43) p.toNatClampNeg))] [] (sI (sI (sI (sI (sI h (ad 44) ((16 * p) + (hI h (ad 43) p.toNatClampNeg)).toNatClampNeg o) (ad 45) ((16 * p) + (hI h (ad 43) p.toNatClampNeg)).toNatClampNeg a) (ad 46) ((16 * p) + (hI h (ad 43) p.toNatClampNeg)).toNatClampNeg b) (ad 47) ((16 * p) + (hI h (ad 43) p.toNatClampNeg)).toNatClampNeg c) (ad 43) p.toNatClampNeg ((hI (sI (sI (sI (sI h (ad 44) ((16 * p) + (hI h (ad 43) p.toNatClampNeg)).toNatClampNeg o) (ad 45) ((16 * p) + (hI h (ad 43) p.toNatClampNeg)).toNatClampNeg a) (ad 46) ((16 * p) + (hI h (ad 43) p.toNatClampNeg)).toNatClampNeg b) (ad 47) ((16 * p) + (hI h (ad 43) p.toNatClampNeg)).toNatClampNeg c) (ad 43) p.toNatClampNeg) + 1)) _
  refine r_aload rfl rfl ?_
  refine r_iload rfl rfl ?_
  refine r_ic (x := (-1)) rfl rfl ?_
  refine r_icmp_ge (tg := 10) rfl rfl (fun c1 => ?_) (fun c1 => ?_)
  · refine r_ic (x := 0) rfl rfl ?_
    refine r_putI rfl ⟨rfl, rfl, rfl⟩ (fx_t30 fx) ?_
    refine r_iload rfl rfl ?_
    refine r_iret rfl ?_
    show WR _ cd_203 182 [some (.ref (ad 30)), some (.int p), some (.int o), some (.int a), some (.int b), some (.int c), some (.int ((16 * p) + (hI h (ad 43) p.toNatClampNeg)))] [.int (hI (sI (sI (sI (sI (sI h (ad 44) ((16 * p) + (hI h (ad 43) p.toNatClampNeg)).toNatClampNeg o) (ad 45) ((16 * p) + (hI h (ad 43) p.toNatClampNeg)).toNatClampNeg a) (ad 46) ((16 * p) + (hI h (ad 43) p.toNatClampNeg)).toNatClampNeg b) (ad 47) ((16 * p) + (hI h (ad 43) p.toNatClampNeg)).toNatClampNeg c) (ad 43) p.toNatClampNeg ((hI (sI (sI (sI (sI h (ad 44) ((16 * p) + (hI h (ad 43) p.toNatClampNeg)).toNatClampNeg o) (ad 45) ((16 * p) + (hI h (ad 43) p.toNatClampNeg)).toNatClampNeg a) (ad 46) ((16 * p) + (hI h (ad 43) p.toNatClampNeg)).toNatClampNeg b) (ad 47) ((16 * p) + (hI h (ad 43) p.toNatClampNeg)).toNatClampNeg c) (ad 43) p.toNatClampNeg) + 1)) (ad 43) p.toNatClampNeg)] (sI (sI (sI (sI (sI (sI h (ad 44) ((16 * p) + (hI h (ad 43) p.toNatClampNeg)).toNatClampNeg o) (ad 45) ((16 * p) + (hI h (ad 43) p.toNatClampNeg)).toNatClampNeg a) (ad 46) ((16 * p) + (hI h (ad 43) p.toNatClampNeg)).toNatClampNeg b) (ad 47) ((16 * p) + (hI h (ad 43) p.toNatClampNeg)).toNatClampNeg c) (ad 43) p.toNatClampNeg ((hI (sI (sI (sI (sI h (ad 44) ((16 * p) + (hI h (ad 43) p.toNatClampNeg)).toNatClampNeg o) (ad 45) ((16 * p) + (hI h (ad 43) p.toNatClampNeg)).toNatClampNeg a) (ad 46) ((16 * p) + (hI h (ad 43) p.toNatClampNeg)).toNatClampNeg b) (ad 47) ((16 * p) + (hI h (ad 43) p.toNatClampNeg)).toNatClampNeg c) (ad 43) p.toNatClampNeg) + 1)) (ad 30) 11 0) _
    refine r_iret rfl ?_
    exact L1 c1
  · refine r_iload rfl rfl ?_
    refine r_goto (tg := 11) rfl rfl ?_
    refine r_putI rfl ⟨rfl, rfl, rfl⟩ (fx_t30 fx) ?_
    refine r_iload rfl rfl ?_
    refine r_iret rfl ?_
    show WR _ cd_203 182 [some (.ref (ad 30)), some (.int p), some (.int o), some (.int a), some (.int b), some (.int c), some (.int ((16 * p) + (hI h (ad 43) p.toNatClampNeg)))] [.int (hI (sI (sI (sI (sI (sI h (ad 44) ((16 * p) + (hI h (ad 43) p.toNatClampNeg)).toNatClampNeg o) (ad 45) ((16 * p) + (hI h (ad 43) p.toNatClampNeg)).toNatClampNeg a) (ad 46) ((16 * p) + (hI h (ad 43) p.toNatClampNeg)).toNatClampNeg b) (ad 47) ((16 * p) + (hI h (ad 43) p.toNatClampNeg)).toNatClampNeg c) (ad 43) p.toNatClampNeg ((hI (sI (sI (sI (sI h (ad 44) ((16 * p) + (hI h (ad 43) p.toNatClampNeg)).toNatClampNeg o) (ad 45) ((16 * p) + (hI h (ad 43) p.toNatClampNeg)).toNatClampNeg a) (ad 46) ((16 * p) + (hI h (ad 43) p.toNatClampNeg)).toNatClampNeg b) (ad 47) ((16 * p) + (hI h (ad 43) p.toNatClampNeg)).toNatClampNeg c) (ad 43) p.toNatClampNeg) + 1)) (ad 43) p.toNatClampNeg)] (sI (sI (sI (sI (sI (sI h (ad 44) ((16 * p) + (hI h (ad 43) p.toNatClampNeg)).toNatClampNeg o) (ad 45) ((16 * p) + (hI h (ad 43) p.toNatClampNeg)).toNatClampNeg a) (ad 46) ((16 * p) + (hI h (ad 43) p.toNatClampNeg)).toNatClampNeg b) (ad 47) ((16 * p) + (hI h (ad 43) p.toNatClampNeg)).toNatClampNeg c) (ad 43) p.toNatClampNeg ((hI (sI (sI (sI (sI h (ad 44) ((16 * p) + (hI h (ad 43) p.toNatClampNeg)).toNatClampNeg o) (ad 45) ((16 * p) + (hI h (ad 43) p.toNatClampNeg)).toNatClampNeg a) (ad 46) ((16 * p) + (hI h (ad 43) p.toNatClampNeg)).toNatClampNeg b) (ad 47) ((16 * p) + (hI h (ad 43) p.toNatClampNeg)).toNatClampNeg c) (ad 43) p.toNatClampNeg) + 1)) (ad 30) 11 (hI (sI (sI (sI (sI (sI h (ad 44) ((16 * p) + (hI h (ad 43) p.toNatClampNeg)).toNatClampNeg o) (ad 45) ((16 * p) + (hI h (ad 43) p.toNatClampNeg)).toNatClampNeg a) (ad 46) ((16 * p) + (hI h (ad 43) p.toNatClampNeg)).toNatClampNeg b) (ad 47) ((16 * p) + (hI h (ad 43) p.toNatClampNeg)).toNatClampNeg c) (ad 43) p.toNatClampNeg ((hI (sI (sI (sI (sI h (ad 44) ((16 * p) + (hI h (ad 43) p.toNatClampNeg)).toNatClampNeg o) (ad 45) ((16 * p) + (hI h (ad 43) p.toNatClampNeg)).toNatClampNeg a) (ad 46) ((16 * p) + (hI h (ad 43) p.toNatClampNeg)).toNatClampNeg b) (ad 47) ((16 * p) + (hI h (ad 43) p.toNatClampNeg)).toNatClampNeg c) (ad 43) p.toNatClampNeg) + 1)) (ad 43) p.toNatClampNeg)) _
    refine r_iret rfl ?_
    exact L2 c1

section SP
variable {d : Nat} {Q : mQ} {n : Nat} {ad sa : Nat → Nat} {z0 : Nat} {h : mH} {op a b c : Int32} {p l : Nat}
theorem c_addStep (fx : FX n ad sa z0 h) (hp : p < 10) (hl : l < 16) (e : hI h (ad 11) p = nI l)
    (hQ : Q (some (.int (nI (l + 1)))) (sI (sI (sI (sI (sI h (ad 10) (64 * p + 4 * l) op) (ad 10) (64 * p + 4 * l + 1) a) (ad 10) (64 * p + 4 * l + 2) b) (ad 10) (64 * p + 4 * l + 3) c) (ad 11) p (nI (l + 1)))) : EV (d + 1) 96 [.ref (ad 9), .int (nI p), .int op, .int a, .int b, .int c] h Q := by
  have ec : (nI p).toNatClampNeg = p := nI_clamp (by omega)
  have i0 : (nI p * 16 + hI h (ad 11) (nI p).toNatClampNeg) * 4 = nI (64 * p + 4 * l) := by
    rw [ec, e, show (16 : Int32) = nI 16 from rfl, show (4 : Int32) = nI 4 from rfl, pk_mul, nI_add, pk_mul]
    congr 1; omega
  have i1 : nI (64 * p + 4 * l) + 1 = nI (64 * p + 4 * l + 1) := nI_1 _
  have i2 : nI (64 * p + 4 * l) + 2 = nI (64 * p + 4 * l + 2) := nI_add _ 2
  have i3 : nI (64 * p + 4 * l) + 3 = nI (64 * p + 4 * l + 3) := nI_add _ 3
  have n1 : ad 11 ≠ ad 10 := fx_ne fx (by decide)
  have vp : ∀ k, k < 640 → vp_in (nI k) 640 := fun k hk => vp_in_nI hk (by omega)
  have vq : vp_in (nI p) 10 := vp_in_nI hp (by omega)
  refine w_addStep fx (nI p) op a b c ?_ ?_ ?_ ?_ ?_ ?_
  any_goals (exact vq)
  all_goals (rw [i0])
  any_goals (rw [i1])
  any_goals (rw [i2])
  any_goals (rw [i3])
  any_goals (exact vp _ (by omega))
  have c0 : (nI (64 * p + 4 * l)).toNatClampNeg = 64 * p + 4 * l := nI_clamp (by omega)
  have c1 : (nI (64 * p + 4 * l + 1)).toNatClampNeg = 64 * p + 4 * l + 1 := nI_clamp (by omega)
  have c2 : (nI (64 * p + 4 * l + 2)).toNatClampNeg = 64 * p + 4 * l + 2 := nI_clamp (by omega)
  have c3 : (nI (64 * p + 4 * l + 3)).toNatClampNeg = 64 * p + 4 * l + 3 := nI_clamp (by omega)
  rw [c0, c1, c2, c3, ec, I_eq, I_ne n1, I_ne n1, I_ne n1, I_ne n1, e, nI_1]
  exact hQ
theorem c_mstepT (fx : FX n ad sa z0 h) (hp : p < 10) (hl : l < 16) (e : hI h (ad 43) p = nI l)
    (hQ : Q (some (.int (nI (l + 1)))) (sI (sI (sI (sI (sI (sI h (ad 44) (16 * p + l) op) (ad 45) (16 * p + l) a) (ad 46) (16 * p + l) b) (ad 47) (16 * p + l) c) (ad 43) p (nI (l + 1))) (ad 30) 11 0)) : WR (d + 1) cd_203 115 [some (.ref (ad 30)), some (.int (nI p)), some (.int op), some (.int a), some (.int b), some (.int c), none] [] h Q := by
  have ec : (nI p).toNatClampNeg = p := nI_clamp (by omega)
  have i0 : 16 * nI p + hI h (ad 43) (nI p).toNatClampNeg = nI (16 * p + l) := by
    rw [ec, e, show (16 : Int32) = nI 16 from rfl, pk_mul, nI_add]
  have n4 : ad 43 ≠ ad 44 := fx_ne fx (by decide)
  have n5 : ad 43 ≠ ad 45 := fx_ne fx (by decide)
  have n6 : ad 43 ≠ ad 46 := fx_ne fx (by decide)
  have n7 : ad 43 ≠ ad 47 := fx_ne fx (by decide)
  have vp : ∀ k, k < 160 → vp_in (nI k) 160 := fun k hk => vp_in_nI hk (by omega)
  have vq : vp_in (nI p) 10 := vp_in_nI hp (by omega)
  refine w_mstepT fx (nI p) op a b c ?_ ?_ ?_ ?_
  any_goals (exact vq)
  all_goals (rw [i0])
  any_goals (exact vp _ (by omega))
  all_goals (rw [nI_clamp (n := 16 * p + l) (by omega), ec, I_eq, I_ne n7, I_ne n6, I_ne n5, I_ne n4, e, nI_1])
  · intro _
    exact hQ
  · intro z
    have := i_nle z
    rw [nI_toInt (by omega)] at this
    have e1 : (-1 : Int32).toInt = -1 := rfl
    omega
end SP

