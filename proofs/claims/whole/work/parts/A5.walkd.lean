/-! ===== walks of the class's control of an act, and of both sides' ends; printed ===== -/
set_option maxHeartbeats 2000000 in
theorem w_dpd {d : Nat} {Q : mQ} {n : Nat} {ad sa : Nat → Nat} {z0 : Nat} {h : mH} (fx : FX n ad sa z0 h) {p : Int32} 
    (L1 : Q (some (.int (-18))) h) : EV (d + 1) 101 [.ref (ad 9), .int p, .int 9] h Q := by
  have fx0 := fx
  refine in_101 (Nat.le_of_ble_eq_true rfl) ?_
  show WR _ cd_101 0 [some (.ref (ad 9)), some (.int p), some (.int 9), none, none] [] h _
  refine r_iload rfl rfl ?_
  refine r_ic (x := 8) rfl rfl ?_
  refine r_icmp_le (tg := 9) rfl rfl (fun q => absurd q (by decide)) (fun _ => ?_)
  refine r_ic (x := (-18)) rfl rfl ?_
  refine r_iret rfl ?_
  exact (L1)

set_option maxHeartbeats 2000000 in
theorem w_dpm {d : Nat} {Q : mQ} {n : Nat} {ad sa : Nat → Nat} {z0 : Nat} {h : mH} (fx : FX n ad sa z0 h) {p dp D : Nat} (d8 : dp ≤ 8) (t1 : hI h (ad 9) 10 = nI D) 
    (K1 : WR (d) cd_101 23 [some (.ref (ad 9)), some (.int (nI p)), some (.int (nI dp)), some (.int 0), none] [] (sI h (ad 9) 10 (if (nI D) < (nI dp) then (nI dp) else (nI D))) Q) : EV (d + 1) 101 [.ref (ad 9), .int (nI p), .int (nI dp)] h Q := by
  have fx0 := fx
  refine in_101 (Nat.le_of_ble_eq_true rfl) ?_
  show WR _ cd_101 0 [some (.ref (ad 9)), some (.int (nI p)), some (.int (nI dp)), none, none] [] h _
  refine r_iload rfl rfl ?_
  refine r_ic (x := 8) rfl rfl ?_
  refine r_icmp_le (tg := 9) rfl rfl (fun _ => ?_) (fun q => False.elim (by have : (nI dp).toInt = ((dp : Nat) : Int) := nI_toInt (by omega); have : (8 : Int32).toInt = 8 := rfl; have := i_nle q; omega))
  refine r_aload rfl rfl ?_
  refine r_aload rfl rfl ?_
  refine r_getI rfl ⟨rfl, rfl, rfl⟩ (fx_t9 fx) ?_
  refine WR_tI (y := nI D) t1 ?_
  refine r_iload rfl rfl ?_
  refine r_max rfl (Nat.le_of_ble_eq_true rfl) ?_
  refine r_putI rfl ⟨rfl, rfl, rfl⟩ (fx_t9 fx) ?_
  have fx : FX n ad sa z0 (sI h (ad 9) 10 (if (nI D) < (nI dp) then (nI dp) else (nI D))) := (FX.sI fx)
  refine r_ic (x := 0) rfl rfl ?_
  refine r_istore (lv' := [some (.ref (ad 9)), some (.int (nI p)), some (.int (nI dp)), some (.int 0), none]) rfl (Nat.le_of_ble_eq_true rfl) rfl ?_
  exact (K1)

set_option maxHeartbeats 2000000 in
theorem w_dpe {d : Nat} {Q : mQ} {n : Nat} {ad sa : Nat → Nat} {z0 : Nat} {h : mH} (fx : FX n ad sa z0 h) {p dp i l : Nat} (p10 : p < 10) (l16 : l ≤ 16) (t3 : hI h (ad 11) p = nI l) {o4 : Option Value} (il : i = l) 
    (L1 : Q (some (.int 0)) h) : WR (d) cd_101 23 [some (.ref (ad 9)), some (.int (nI p)), some (.int (nI dp)), some (.int (nI i)), o4] [] h Q := by
  have fx0 := fx
  refine r_iload rfl rfl ?_
  refine r_aload rfl rfl ?_
  refine r_getA (b := ad 11) rfl ⟨rfl, rfl, rfl⟩ (fx_t9 fx) (fx_r9_1 fx) ?_
  refine r_iload rfl rfl ?_
  refine r_iaload rfl (.inl (fx_t11 fx)) (vp_ct (fx_n11 fx) (vp_in_nI (by omega) (by omega))) ?_
  refine WR_tI (congrArg (hI h (ad 11)) ((nI_clamp (by omega)) : _ = p)) ?_
  refine WR_tI (y := nI l) t3 ?_
  refine r_icmp_ge (tg := 84) rfl rfl (fun _ => ?_) (fun q => False.elim (by have : (nI i).toInt = ((i : Nat) : Int) := nI_toInt (by omega); have : (nI l).toInt = ((l : Nat) : Int) := nI_toInt (by omega); have := i_nle q; omega))
  refine r_ic (x := 0) rfl rfl ?_
  refine r_iret rfl ?_
  exact (L1)

set_option maxHeartbeats 2000000 in
theorem w_dpb {d : Nat} {Q : mQ} {n : Nat} {ad sa : Nat → Nat} {z0 : Nat} {h : mH} (fx : FX n ad sa z0 h) {p dp i l : Nat} (p10 : p < 10) (l16 : l ≤ 16) (t3 : hI h (ad 11) p = nI l) {o4 : Option Value} (il : i < l) (t4 : hI h (ad 9) 9 = 100) 
    (L1 : Q (some (.int (-19))) h) : WR (d) cd_101 23 [some (.ref (ad 9)), some (.int (nI p)), some (.int (nI dp)), some (.int (nI i)), o4] [] h Q := by
  have fx0 := fx
  refine r_iload rfl rfl ?_
  refine r_aload rfl rfl ?_
  refine r_getA (b := ad 11) rfl ⟨rfl, rfl, rfl⟩ (fx_t9 fx) (fx_r9_1 fx) ?_
  refine r_iload rfl rfl ?_
  refine r_iaload rfl (.inl (fx_t11 fx)) (vp_ct (fx_n11 fx) (vp_in_nI (by omega) (by omega))) ?_
  refine WR_tI (congrArg (hI h (ad 11)) ((nI_clamp (by omega)) : _ = p)) ?_
  refine WR_tI (y := nI l) t3 ?_
  refine r_icmp_ge (tg := 84) rfl rfl (fun q => False.elim (by have : (nI i).toInt = ((i : Nat) : Int) := nI_toInt (by omega); have : (nI l).toInt = ((l : Nat) : Int) := nI_toInt (by omega); have := i_le q; omega)) (fun _ => ?_)
  refine r_aload rfl rfl ?_
  refine r_getI rfl ⟨rfl, rfl, rfl⟩ (fx_t9 fx) ?_
  refine WR_tI (y := 100) t4 ?_
  refine r_ic (x := 100) rfl rfl ?_
  refine r_icmp_lt (tg := 45) rfl rfl (fun q => absurd q (by decide)) (fun _ => ?_)
  refine r_ic (x := (-19)) rfl rfl ?_
  refine r_iret rfl ?_
  exact (L1)

set_option maxHeartbeats 2000000 in
theorem w_dpn {d : Nat} {Q : mQ} {n : Nat} {ad sa : Nat → Nat} {z0 : Nat} {h : mH} (fx : FX n ad sa z0 h) {p dp i l : Nat} (p10 : p < 10) (l16 : l ≤ 16) (t3 : hI h (ad 11) p = nI l) {o4 : Option Value} (il : i < l) {B : Nat} (b1 : B < 100) (t4 : hI h (ad 9) 9 = nI B) 
    (C1 : EV (d) 102 [.ref (ad 9), .int (nI (64 * p + 4 * i)), .int (nI dp)] (sI h (ad 9) 9 (nI (B + 1))) (fun v_ h_ => WR (d) cd_101 68 [some (.ref (ad 9)), some (.int (nI p)), some (.int (nI dp)), some (.int (nI i)), o4] (v_.toList ++ []) h_ Q)) : WR (d) cd_101 23 [some (.ref (ad 9)), some (.int (nI p)), some (.int (nI dp)), some (.int (nI i)), o4] [] h Q := by
  have fx0 := fx
  refine r_iload rfl rfl ?_
  refine r_aload rfl rfl ?_
  refine r_getA (b := ad 11) rfl ⟨rfl, rfl, rfl⟩ (fx_t9 fx) (fx_r9_1 fx) ?_
  refine r_iload rfl rfl ?_
  refine r_iaload rfl (.inl (fx_t11 fx)) (vp_ct (fx_n11 fx) (vp_in_nI (by omega) (by omega))) ?_
  refine WR_tI (congrArg (hI h (ad 11)) ((nI_clamp (by omega)) : _ = p)) ?_
  refine WR_tI (y := nI l) t3 ?_
  refine r_icmp_ge (tg := 84) rfl rfl (fun q => False.elim (by have : (nI i).toInt = ((i : Nat) : Int) := nI_toInt (by omega); have : (nI l).toInt = ((l : Nat) : Int) := nI_toInt (by omega); have := i_le q; omega)) (fun _ => ?_)
  refine r_aload rfl rfl ?_
  refine r_getI rfl ⟨rfl, rfl, rfl⟩ (fx_t9 fx) ?_
  refine WR_tI (y := nI B) t4 ?_
  refine r_ic (x := 100) rfl rfl ?_
  refine r_icmp_lt (tg := 45) rfl rfl (fun _ => ?_) (fun q => False.elim (by have : (nI B).toInt = ((B : Nat) : Int) := nI_toInt (by omega); have : (100 : Int32).toInt = 100 := rfl; have := i_nlt q; omega))
  refine r_aload rfl rfl ?_
  refine r_dup rfl rfl ?_
  refine r_getI rfl ⟨rfl, rfl, rfl⟩ (fx_t9 fx) ?_
  refine WR_tI (y := nI B) t4 ?_
  refine r_ic (x := 1) rfl rfl ?_
  refine r_iadd rfl ?_
  refine WR_tI (y := nI (B + 1)) (Eq.trans (nI_add B 1) (congrArg nI (by omega))) ?_
  refine r_putI rfl ⟨rfl, rfl, rfl⟩ (fx_t9 fx) ?_
  have fx : FX n ad sa z0 (sI h (ad 9) 9 (nI (B + 1))) := (FX.sI fx)
  refine r_aload rfl rfl ?_
  refine r_iload rfl rfl ?_
  refine r_ic (x := 16) rfl rfl ?_
  refine r_imul rfl ?_
  refine WR_tI (y := nI (16 * p)) (Eq.trans (pk_mul p 16) (congrArg nI (by omega))) ?_
  refine r_iload rfl rfl ?_
  refine r_iadd rfl ?_
  refine WR_tI (y := nI (16 * p + i)) (Eq.trans (nI_add (16 * p) i) (congrArg nI (by omega))) ?_
  refine r_ic (x := 4) rfl rfl ?_
  refine r_imul rfl ?_
  refine WR_tI (y := nI (64 * p + 4 * i)) (Eq.trans (pk_mul (16 * p + i) 4) (congrArg nI (by omega))) ?_
  refine r_iload rfl rfl ?_
  refine r_cv (y := 102) (ra := [.int (nI dp), .int (nI (64 * p + 4 * i))]) (rest := []) rfl ⟨⟨rfl, rfl⟩, rfl, by decide⟩ (fx_t9 fx) rfl rfl (Nat.le_of_ble_eq_true rfl) ?_
  exact (C1)

set_option maxHeartbeats 2000000 in
theorem w_dpr {d : Nat} {Q : mQ} {n : Nat} {ad sa : Nat → Nat} {z0 : Nat} {h : mH} (fx : FX n ad sa z0 h) {p dp i : Nat} (i16 : i < 16) {o4 : Option Value} {w : Int32} 
    (K1 : w = 0 → WR (d) cd_101 23 [some (.ref (ad 9)), some (.int (nI p)), some (.int (nI dp)), some (.int (nI (i + 1))), some (.int w)] [] h Q)
    (L1 : ¬ w = 0 → Q (some (.int w)) h) : WR (d) cd_101 68 [some (.ref (ad 9)), some (.int (nI p)), some (.int (nI dp)), some (.int (nI i)), o4] [.int w] h Q := by
  have fx0 := fx
  refine r_istore (lv' := [some (.ref (ad 9)), some (.int (nI p)), some (.int (nI dp)), some (.int (nI i)), some (.int w)]) rfl (Nat.le_of_ble_eq_true rfl) rfl ?_
  refine r_iload rfl rfl ?_
  refine r_if_eq (tg := 78) rfl rfl (fun c1 => ?_) (fun c1 => ?_)
  · refine r_iinc (y := nI (i + 1)) (lv' := [some (.ref (ad 9)), some (.int (nI p)), some (.int (nI dp)), some (.int (nI (i + 1))), some (.int w)]) rfl rfl (nI_1 _) rfl ?_
    refine r_goto (tg := 23) rfl rfl ?_
    exact (K1 c1)
  · refine r_iload rfl rfl ?_
    refine r_iret rfl ?_
    exact (L1 c1)

set_option maxHeartbeats 2000000 in
theorem w_s7 {d : Nat} {Q : mQ} {n : Nat} {ad sa : Nat → Nat} {z0 : Nat} {h : mH} (fx : FX n ad sa z0 h) {A dp : Nat} (hA : A + 3 < 640) {a b c : Int32} (s0 : hI h (ad 10) A = 7) (s1 : hI h (ad 10) (A + 1) = a) (s2 : hI h (ad 10) (A + 2) = b) (s3 : hI h (ad 10) (A + 3) = c) 
    (C1 : EV (d) 110 [.ref (ad 9), .int a, .int (nI dp)] h (fun v_ h_ => WR (d) cd_102 155 [some (.ref (ad 9)), some (.int (nI A)), some (.int (nI dp)), some (.int a), some (.int b), some (.int c)] (v_.toList ++ []) h_ Q)) : EV (d + 1) 102 [.ref (ad 9), .int (nI A), .int (nI dp)] h Q := by
  have fx0 := fx
  refine in_102 (Nat.le_of_ble_eq_true rfl) ?_
  show WR _ cd_102 0 [some (.ref (ad 9)), some (.int (nI A)), some (.int (nI dp)), none, none, none] [] h _
  refine r_aload rfl rfl ?_
  refine r_getA (b := ad 10) rfl ⟨rfl, rfl, rfl⟩ (fx_t9 fx) (fx_r9_0 fx) ?_
  refine r_iload rfl rfl ?_
  refine r_ic (x := 1) rfl rfl ?_
  refine r_iadd rfl ?_
  refine WR_tI (y := nI (A + 1)) (Eq.trans (nI_add A 1) (congrArg nI (by omega))) ?_
  refine r_iaload rfl (.inl (fx_t10 fx)) (vp_ct (fx_n10 fx) (vp_in_nI (by omega) (by omega))) ?_
  refine WR_tI (congrArg (hI h (ad 10)) ((nI_clamp (by omega)) : _ = A + 1)) ?_
  refine WR_tI (y := a) s1 ?_
  refine r_istore (lv' := [some (.ref (ad 9)), some (.int (nI A)), some (.int (nI dp)), some (.int a), none, none]) rfl (Nat.le_of_ble_eq_true rfl) rfl ?_
  refine r_aload rfl rfl ?_
  refine r_getA (b := ad 10) rfl ⟨rfl, rfl, rfl⟩ (fx_t9 fx) (fx_r9_0 fx) ?_
  refine r_iload rfl rfl ?_
  refine r_ic (x := 2) rfl rfl ?_
  refine r_iadd rfl ?_
  refine WR_tI (y := nI (A + 2)) (Eq.trans (nI_add A 2) (congrArg nI (by omega))) ?_
  refine r_iaload rfl (.inl (fx_t10 fx)) (vp_ct (fx_n10 fx) (vp_in_nI (by omega) (by omega))) ?_
  refine WR_tI (congrArg (hI h (ad 10)) ((nI_clamp (by omega)) : _ = A + 2)) ?_
  refine WR_tI (y := b) s2 ?_
  refine r_istore (lv' := [some (.ref (ad 9)), some (.int (nI A)), some (.int (nI dp)), some (.int a), some (.int b), none]) rfl (Nat.le_of_ble_eq_true rfl) rfl ?_
  refine r_aload rfl rfl ?_
  refine r_getA (b := ad 10) rfl ⟨rfl, rfl, rfl⟩ (fx_t9 fx) (fx_r9_0 fx) ?_
  refine r_iload rfl rfl ?_
  refine r_ic (x := 3) rfl rfl ?_
  refine r_iadd rfl ?_
  refine WR_tI (y := nI (A + 3)) (Eq.trans (nI_add A 3) (congrArg nI (by omega))) ?_
  refine r_iaload rfl (.inl (fx_t10 fx)) (vp_ct (fx_n10 fx) (vp_in_nI (by omega) (by omega))) ?_
  refine WR_tI (congrArg (hI h (ad 10)) ((nI_clamp (by omega)) : _ = A + 3)) ?_
  refine WR_tI (y := c) s3 ?_
  refine r_istore (lv' := [some (.ref (ad 9)), some (.int (nI A)), some (.int (nI dp)), some (.int a), some (.int b), some (.int c)]) rfl (Nat.le_of_ble_eq_true rfl) rfl ?_
  refine r_aload rfl rfl ?_
  refine r_getA (b := ad 10) rfl ⟨rfl, rfl, rfl⟩ (fx_t9 fx) (fx_r9_0 fx) ?_
  refine r_iload rfl rfl ?_
  refine r_iaload rfl (.inl (fx_t10 fx)) (vp_ct (fx_n10 fx) (vp_in_nI (by omega) (by omega))) ?_
  refine WR_tI (congrArg (hI h (ad 10)) ((nI_clamp (by omega)) : _ = A)) ?_
  refine WR_tI (y := 7) s0 ?_
  refine r_tswL (tg := 149) rfl (by decide) ?_
  refine r_aload rfl rfl ?_
  refine r_iload rfl rfl ?_
  refine r_iload rfl rfl ?_
  refine r_cv (y := 110) (ra := [.int (nI dp), .int a]) (rest := []) rfl ⟨⟨rfl, rfl⟩, rfl, by decide⟩ (fx_t9 fx) rfl rfl (Nat.le_of_ble_eq_true rfl) ?_
  exact (C1)

set_option maxHeartbeats 2000000 in
theorem w_s8 {d : Nat} {Q : mQ} {n : Nat} {ad sa : Nat → Nat} {z0 : Nat} {h : mH} (fx : FX n ad sa z0 h) {A dp : Nat} (hA : A + 3 < 640) {a b c : Int32} (s0 : hI h (ad 10) A = 8) (s1 : hI h (ad 10) (A + 1) = a) (s2 : hI h (ad 10) (A + 2) = b) (s3 : hI h (ad 10) (A + 3) = c) 
    (C1 : EV (d) 111 [.ref (ad 9), .int a, .int b, .int c, .int (nI dp)] h (fun v_ h_ => WR (d) cd_102 166 [some (.ref (ad 9)), some (.int (nI A)), some (.int (nI dp)), some (.int a), some (.int b), some (.int c)] (v_.toList ++ []) h_ Q)) : EV (d + 1) 102 [.ref (ad 9), .int (nI A), .int (nI dp)] h Q := by
  have fx0 := fx
  refine in_102 (Nat.le_of_ble_eq_true rfl) ?_
  show WR _ cd_102 0 [some (.ref (ad 9)), some (.int (nI A)), some (.int (nI dp)), none, none, none] [] h _
  refine r_aload rfl rfl ?_
  refine r_getA (b := ad 10) rfl ⟨rfl, rfl, rfl⟩ (fx_t9 fx) (fx_r9_0 fx) ?_
  refine r_iload rfl rfl ?_
  refine r_ic (x := 1) rfl rfl ?_
  refine r_iadd rfl ?_
  refine WR_tI (y := nI (A + 1)) (Eq.trans (nI_add A 1) (congrArg nI (by omega))) ?_
  refine r_iaload rfl (.inl (fx_t10 fx)) (vp_ct (fx_n10 fx) (vp_in_nI (by omega) (by omega))) ?_
  refine WR_tI (congrArg (hI h (ad 10)) ((nI_clamp (by omega)) : _ = A + 1)) ?_
  refine WR_tI (y := a) s1 ?_
  refine r_istore (lv' := [some (.ref (ad 9)), some (.int (nI A)), some (.int (nI dp)), some (.int a), none, none]) rfl (Nat.le_of_ble_eq_true rfl) rfl ?_
  refine r_aload rfl rfl ?_
  refine r_getA (b := ad 10) rfl ⟨rfl, rfl, rfl⟩ (fx_t9 fx) (fx_r9_0 fx) ?_
  refine r_iload rfl rfl ?_
  refine r_ic (x := 2) rfl rfl ?_
  refine r_iadd rfl ?_
  refine WR_tI (y := nI (A + 2)) (Eq.trans (nI_add A 2) (congrArg nI (by omega))) ?_
  refine r_iaload rfl (.inl (fx_t10 fx)) (vp_ct (fx_n10 fx) (vp_in_nI (by omega) (by omega))) ?_
  refine WR_tI (congrArg (hI h (ad 10)) ((nI_clamp (by omega)) : _ = A + 2)) ?_
  refine WR_tI (y := b) s2 ?_
  refine r_istore (lv' := [some (.ref (ad 9)), some (.int (nI A)), some (.int (nI dp)), some (.int a), some (.int b), none]) rfl (Nat.le_of_ble_eq_true rfl) rfl ?_
  refine r_aload rfl rfl ?_
  refine r_getA (b := ad 10) rfl ⟨rfl, rfl, rfl⟩ (fx_t9 fx) (fx_r9_0 fx) ?_
  refine r_iload rfl rfl ?_
  refine r_ic (x := 3) rfl rfl ?_
  refine r_iadd rfl ?_
  refine WR_tI (y := nI (A + 3)) (Eq.trans (nI_add A 3) (congrArg nI (by omega))) ?_
  refine r_iaload rfl (.inl (fx_t10 fx)) (vp_ct (fx_n10 fx) (vp_in_nI (by omega) (by omega))) ?_
  refine WR_tI (congrArg (hI h (ad 10)) ((nI_clamp (by omega)) : _ = A + 3)) ?_
  refine WR_tI (y := c) s3 ?_
  refine r_istore (lv' := [some (.ref (ad 9)), some (.int (nI A)), some (.int (nI dp)), some (.int a), some (.int b), some (.int c)]) rfl (Nat.le_of_ble_eq_true rfl) rfl ?_
  refine r_aload rfl rfl ?_
  refine r_getA (b := ad 10) rfl ⟨rfl, rfl, rfl⟩ (fx_t9 fx) (fx_r9_0 fx) ?_
  refine r_iload rfl rfl ?_
  refine r_iaload rfl (.inl (fx_t10 fx)) (vp_ct (fx_n10 fx) (vp_in_nI (by omega) (by omega))) ?_
  refine WR_tI (congrArg (hI h (ad 10)) ((nI_clamp (by omega)) : _ = A)) ?_
  refine WR_tI (y := 8) s0 ?_
  refine r_tswL (tg := 156) rfl (by decide) ?_
  refine r_aload rfl rfl ?_
  refine r_iload rfl rfl ?_
  refine r_iload rfl rfl ?_
  refine r_iload rfl rfl ?_
  refine r_iload rfl rfl ?_
  refine r_cv (y := 111) (ra := [.int (nI dp), .int c, .int b, .int a]) (rest := []) rfl ⟨⟨rfl, rfl⟩, rfl, by decide⟩ (fx_t9 fx) rfl rfl (Nat.le_of_ble_eq_true rfl) ?_
  exact (C1)

set_option maxHeartbeats 2000000 in
theorem w_s9 {d : Nat} {Q : mQ} {n : Nat} {ad sa : Nat → Nat} {z0 : Nat} {h : mH} (fx : FX n ad sa z0 h) {A dp : Nat} (hA : A + 3 < 640) {a b c : Int32} (s0 : hI h (ad 10) A = 9) (s1 : hI h (ad 10) (A + 1) = a) (s2 : hI h (ad 10) (A + 2) = b) (s3 : hI h (ad 10) (A + 3) = c) 
    (C1 : EV (d) 112 [.ref (ad 9), .int a, .int b, .int (nI dp)] h (fun v_ h_ => WR (d) cd_102 175 [some (.ref (ad 9)), some (.int (nI A)), some (.int (nI dp)), some (.int a), some (.int b), some (.int c)] (v_.toList ++ []) h_ Q)) : EV (d + 1) 102 [.ref (ad 9), .int (nI A), .int (nI dp)] h Q := by
  have fx0 := fx
  refine in_102 (Nat.le_of_ble_eq_true rfl) ?_
  show WR _ cd_102 0 [some (.ref (ad 9)), some (.int (nI A)), some (.int (nI dp)), none, none, none] [] h _
  refine r_aload rfl rfl ?_
  refine r_getA (b := ad 10) rfl ⟨rfl, rfl, rfl⟩ (fx_t9 fx) (fx_r9_0 fx) ?_
  refine r_iload rfl rfl ?_
  refine r_ic (x := 1) rfl rfl ?_
  refine r_iadd rfl ?_
  refine WR_tI (y := nI (A + 1)) (Eq.trans (nI_add A 1) (congrArg nI (by omega))) ?_
  refine r_iaload rfl (.inl (fx_t10 fx)) (vp_ct (fx_n10 fx) (vp_in_nI (by omega) (by omega))) ?_
  refine WR_tI (congrArg (hI h (ad 10)) ((nI_clamp (by omega)) : _ = A + 1)) ?_
  refine WR_tI (y := a) s1 ?_
  refine r_istore (lv' := [some (.ref (ad 9)), some (.int (nI A)), some (.int (nI dp)), some (.int a), none, none]) rfl (Nat.le_of_ble_eq_true rfl) rfl ?_
  refine r_aload rfl rfl ?_
  refine r_getA (b := ad 10) rfl ⟨rfl, rfl, rfl⟩ (fx_t9 fx) (fx_r9_0 fx) ?_
  refine r_iload rfl rfl ?_
  refine r_ic (x := 2) rfl rfl ?_
  refine r_iadd rfl ?_
  refine WR_tI (y := nI (A + 2)) (Eq.trans (nI_add A 2) (congrArg nI (by omega))) ?_
  refine r_iaload rfl (.inl (fx_t10 fx)) (vp_ct (fx_n10 fx) (vp_in_nI (by omega) (by omega))) ?_
  refine WR_tI (congrArg (hI h (ad 10)) ((nI_clamp (by omega)) : _ = A + 2)) ?_
  refine WR_tI (y := b) s2 ?_
  refine r_istore (lv' := [some (.ref (ad 9)), some (.int (nI A)), some (.int (nI dp)), some (.int a), some (.int b), none]) rfl (Nat.le_of_ble_eq_true rfl) rfl ?_
  refine r_aload rfl rfl ?_
  refine r_getA (b := ad 10) rfl ⟨rfl, rfl, rfl⟩ (fx_t9 fx) (fx_r9_0 fx) ?_
  refine r_iload rfl rfl ?_
  refine r_ic (x := 3) rfl rfl ?_
  refine r_iadd rfl ?_
  refine WR_tI (y := nI (A + 3)) (Eq.trans (nI_add A 3) (congrArg nI (by omega))) ?_
  refine r_iaload rfl (.inl (fx_t10 fx)) (vp_ct (fx_n10 fx) (vp_in_nI (by omega) (by omega))) ?_
  refine WR_tI (congrArg (hI h (ad 10)) ((nI_clamp (by omega)) : _ = A + 3)) ?_
  refine WR_tI (y := c) s3 ?_
  refine r_istore (lv' := [some (.ref (ad 9)), some (.int (nI A)), some (.int (nI dp)), some (.int a), some (.int b), some (.int c)]) rfl (Nat.le_of_ble_eq_true rfl) rfl ?_
  refine r_aload rfl rfl ?_
  refine r_getA (b := ad 10) rfl ⟨rfl, rfl, rfl⟩ (fx_t9 fx) (fx_r9_0 fx) ?_
  refine r_iload rfl rfl ?_
  refine r_iaload rfl (.inl (fx_t10 fx)) (vp_ct (fx_n10 fx) (vp_in_nI (by omega) (by omega))) ?_
  refine WR_tI (congrArg (hI h (ad 10)) ((nI_clamp (by omega)) : _ = A)) ?_
  refine WR_tI (y := 9) s0 ?_
  refine r_tswL (tg := 167) rfl (by decide) ?_
  refine r_aload rfl rfl ?_
  refine r_iload rfl rfl ?_
  refine r_iload rfl rfl ?_
  refine r_iload rfl rfl ?_
  refine r_cv (y := 112) (ra := [.int (nI dp), .int b, .int a]) (rest := []) rfl ⟨⟨rfl, rfl⟩, rfl, by decide⟩ (fx_t9 fx) rfl rfl (Nat.le_of_ble_eq_true rfl) ?_
  exact (C1)

set_option maxHeartbeats 2000000 in
theorem w_s10 {d : Nat} {Q : mQ} {n : Nat} {ad sa : Nat → Nat} {z0 : Nat} {h : mH} (fx : FX n ad sa z0 h) {A dp : Nat} (hA : A + 3 < 640) {a b c : Int32} (s0 : hI h (ad 10) A = 10) (s1 : hI h (ad 10) (A + 1) = a) (s2 : hI h (ad 10) (A + 2) = b) (s3 : hI h (ad 10) (A + 3) = c) 
    (C1 : EV (d) 113 [.ref (ad 9), .int a, .int b, .int (nI dp)] h (fun v_ h_ => WR (d) cd_102 184 [some (.ref (ad 9)), some (.int (nI A)), some (.int (nI dp)), some (.int a), some (.int b), some (.int c)] (v_.toList ++ []) h_ Q)) : EV (d + 1) 102 [.ref (ad 9), .int (nI A), .int (nI dp)] h Q := by
  have fx0 := fx
  refine in_102 (Nat.le_of_ble_eq_true rfl) ?_
  show WR _ cd_102 0 [some (.ref (ad 9)), some (.int (nI A)), some (.int (nI dp)), none, none, none] [] h _
  refine r_aload rfl rfl ?_
  refine r_getA (b := ad 10) rfl ⟨rfl, rfl, rfl⟩ (fx_t9 fx) (fx_r9_0 fx) ?_
  refine r_iload rfl rfl ?_
  refine r_ic (x := 1) rfl rfl ?_
  refine r_iadd rfl ?_
  refine WR_tI (y := nI (A + 1)) (Eq.trans (nI_add A 1) (congrArg nI (by omega))) ?_
  refine r_iaload rfl (.inl (fx_t10 fx)) (vp_ct (fx_n10 fx) (vp_in_nI (by omega) (by omega))) ?_
  refine WR_tI (congrArg (hI h (ad 10)) ((nI_clamp (by omega)) : _ = A + 1)) ?_
  refine WR_tI (y := a) s1 ?_
  refine r_istore (lv' := [some (.ref (ad 9)), some (.int (nI A)), some (.int (nI dp)), some (.int a), none, none]) rfl (Nat.le_of_ble_eq_true rfl) rfl ?_
  refine r_aload rfl rfl ?_
  refine r_getA (b := ad 10) rfl ⟨rfl, rfl, rfl⟩ (fx_t9 fx) (fx_r9_0 fx) ?_
  refine r_iload rfl rfl ?_
  refine r_ic (x := 2) rfl rfl ?_
  refine r_iadd rfl ?_
  refine WR_tI (y := nI (A + 2)) (Eq.trans (nI_add A 2) (congrArg nI (by omega))) ?_
  refine r_iaload rfl (.inl (fx_t10 fx)) (vp_ct (fx_n10 fx) (vp_in_nI (by omega) (by omega))) ?_
  refine WR_tI (congrArg (hI h (ad 10)) ((nI_clamp (by omega)) : _ = A + 2)) ?_
  refine WR_tI (y := b) s2 ?_
  refine r_istore (lv' := [some (.ref (ad 9)), some (.int (nI A)), some (.int (nI dp)), some (.int a), some (.int b), none]) rfl (Nat.le_of_ble_eq_true rfl) rfl ?_
  refine r_aload rfl rfl ?_
  refine r_getA (b := ad 10) rfl ⟨rfl, rfl, rfl⟩ (fx_t9 fx) (fx_r9_0 fx) ?_
  refine r_iload rfl rfl ?_
  refine r_ic (x := 3) rfl rfl ?_
  refine r_iadd rfl ?_
  refine WR_tI (y := nI (A + 3)) (Eq.trans (nI_add A 3) (congrArg nI (by omega))) ?_
  refine r_iaload rfl (.inl (fx_t10 fx)) (vp_ct (fx_n10 fx) (vp_in_nI (by omega) (by omega))) ?_
  refine WR_tI (congrArg (hI h (ad 10)) ((nI_clamp (by omega)) : _ = A + 3)) ?_
  refine WR_tI (y := c) s3 ?_
  refine r_istore (lv' := [some (.ref (ad 9)), some (.int (nI A)), some (.int (nI dp)), some (.int a), some (.int b), some (.int c)]) rfl (Nat.le_of_ble_eq_true rfl) rfl ?_
  refine r_aload rfl rfl ?_
  refine r_getA (b := ad 10) rfl ⟨rfl, rfl, rfl⟩ (fx_t9 fx) (fx_r9_0 fx) ?_
  refine r_iload rfl rfl ?_
  refine r_iaload rfl (.inl (fx_t10 fx)) (vp_ct (fx_n10 fx) (vp_in_nI (by omega) (by omega))) ?_
  refine WR_tI (congrArg (hI h (ad 10)) ((nI_clamp (by omega)) : _ = A)) ?_
  refine WR_tI (y := 10) s0 ?_
  refine r_tswL (tg := 176) rfl (by decide) ?_
  refine r_aload rfl rfl ?_
  refine r_iload rfl rfl ?_
  refine r_iload rfl rfl ?_
  refine r_iload rfl rfl ?_
  refine r_cv (y := 113) (ra := [.int (nI dp), .int b, .int a]) (rest := []) rfl ⟨⟨rfl, rfl⟩, rfl, by decide⟩ (fx_t9 fx) rfl rfl (Nat.le_of_ble_eq_true rfl) ?_
  exact (C1)

set_option maxHeartbeats 2000000 in
theorem w_fl {d : Nat} {Q : mQ} {n : Nat} {ad sa : Nat → Nat} {z0 : Nat} {h : mH} (fx : FX n ad sa z0 h) {a : Int32} {dp : Nat} 
    (C1 : EV (d) 101 [.ref (ad 9), .int a, .int (nI (dp + 1))] h (fun v_ h_ => WR (d) cd_110 8 [some (.ref (ad 9)), some (.int a), some (.int (nI dp)), none] (v_.toList ++ []) h_ Q)) : EV (d + 1) 110 [.ref (ad 9), .int a, .int (nI dp)] h Q := by
  have fx0 := fx
  refine in_110 (Nat.le_of_ble_eq_true rfl) ?_
  show WR _ cd_110 0 [some (.ref (ad 9)), some (.int a), some (.int (nI dp)), none] [] h _
  refine r_aload rfl rfl ?_
  refine r_iload rfl rfl ?_
  refine r_iload rfl rfl ?_
  refine r_ic (x := 1) rfl rfl ?_
  refine r_iadd rfl ?_
  refine WR_tI (y := nI (dp + 1)) (Eq.trans (nI_add dp 1) (congrArg nI (by omega))) ?_
  refine r_cv (y := 101) (ra := [.int (nI (dp + 1)), .int a]) (rest := []) rfl ⟨⟨rfl, rfl⟩, rfl, by decide⟩ (fx_t9 fx) rfl rfl (Nat.le_of_ble_eq_true rfl) ?_
  exact (C1)

set_option maxHeartbeats 2000000 in
theorem w_flr {d : Nat} {Q : mQ} {n : Nat} {ad sa : Nat → Nat} {z0 : Nat} {h : mH} (fx : FX n ad sa z0 h) {o1 o3 : Option Value} {w e : Int32} 
    (L1 : w = 1 → Q (some (.int 0)) (sI h (ad 9) 7 (hI h (ad 9) 8)))
    (L2 : ¬ w = 1 → Q (some (.int w)) h) : WR (d) cd_110 8 [some (.ref (ad 9)), o1, some (.int e), o3] [.int w] h Q := by
  have fx0 := fx
  refine r_istore (lv' := [some (.ref (ad 9)), o1, some (.int e), some (.int w)]) rfl (Nat.le_of_ble_eq_true rfl) rfl ?_
  refine r_iload rfl rfl ?_
  refine r_ic (x := 1) rfl rfl ?_
  refine r_icmp_eq (tg := 16) rfl rfl (fun c1 => ?_) (fun c1 => ?_)
  · refine r_aload rfl rfl ?_
    refine r_aload rfl rfl ?_
    refine r_getI rfl ⟨rfl, rfl, rfl⟩ (fx_t9 fx) ?_
    refine r_putI rfl ⟨rfl, rfl, rfl⟩ (fx_t9 fx) ?_
    have fx : FX n ad sa z0 (sI h (ad 9) 7 (hI h (ad 9) 8)) := (FX.sI fx)
    refine r_ic (x := 0) rfl rfl ?_
    refine r_iret rfl ?_
    exact (L1 c1)
  · refine r_iload rfl rfl ?_
    refine r_iret rfl ?_
    exact (L2 c1)

set_option maxHeartbeats 2000000 in
theorem w_ty {d : Nat} {Q : mQ} {n : Nat} {ad sa : Nat → Nat} {z0 : Nat} {h : mH} (fx : FX n ad sa z0 h) {a b c : Int32} {dp : Nat} 
    (C1 : EV (d) 101 [.ref (ad 9), .int a, .int (nI (dp + 1))] h (fun v_ h_ => WR (d) cd_111 9 [some (.ref (ad 9)), some (.int a), some (.int b), some (.int c), some (.int (nI dp)), none, none] (v_.toList ++ []) h_ Q)) : EV (d + 1) 111 [.ref (ad 9), .int a, .int b, .int c, .int (nI dp)] h Q := by
  have fx0 := fx
  refine in_111 (Nat.le_of_ble_eq_true rfl) ?_
  show WR _ cd_111 0 [some (.ref (ad 9)), some (.int a), some (.int b), some (.int c), some (.int (nI dp)), none, none] [] h _
  refine r_aload rfl rfl ?_
  refine r_iload rfl rfl ?_
  refine r_iload rfl rfl ?_
  refine r_ic (x := 1) rfl rfl ?_
  refine r_iadd rfl ?_
  refine WR_tI (y := nI (dp + 1)) (Eq.trans (nI_add dp 1) (congrArg nI (by omega))) ?_
  refine r_cv (y := 101) (ra := [.int (nI (dp + 1)), .int a]) (rest := []) rfl ⟨⟨rfl, rfl⟩, rfl, by decide⟩ (fx_t9 fx) rfl rfl (Nat.le_of_ble_eq_true rfl) ?_
  exact (C1)

set_option maxHeartbeats 2000000 in
theorem w_tyr {d : Nat} {Q : mQ} {n : Nat} {ad sa : Nat → Nat} {z0 : Nat} {h : mH} (fx : FX n ad sa z0 h) {a b c : Int32} {dp : Nat} {o5 o6 : Option Value} {w : Int32} 
    (L1 : 0 ≤ w → Q (some (.int w)) h)
    (L2 : ¬ 0 ≤ w → w = (-19) → Q (some (.int w)) h)
    (C1 : ¬ 0 ≤ w → ¬ w = (-19) → b = 0 → EV (d) 101 [.ref (ad 9), .int c, .int (nI (dp + 1))] h (fun v_ h_ => WR (d) cd_111 57 [some (.ref (ad 9)), some (.int a), some (.int b), some (.int c), some (.int (nI dp)), some (.int w), some (.int 1)] (v_.toList ++ []) h_ Q))
    (L3 : ¬ 0 ≤ w → ¬ w = (-19) → ¬ b = 0 → ¬ w = ((-10) - b) → Q (some (.int w)) h)
    (C2 : ¬ 0 ≤ w → ¬ w = (-19) → ¬ b = 0 → w = ((-10) - b) → EV (d) 101 [.ref (ad 9), .int c, .int (nI (dp + 1))] h (fun v_ h_ => WR (d) cd_111 57 [some (.ref (ad 9)), some (.int a), some (.int b), some (.int c), some (.int (nI dp)), some (.int w), some (.int 1)] (v_.toList ++ []) h_ Q)) : WR (d) cd_111 9 [some (.ref (ad 9)), some (.int a), some (.int b), some (.int c), some (.int (nI dp)), o5, o6] [.int w] h Q := by
  have fx0 := fx
  refine r_istore (lv' := [some (.ref (ad 9)), some (.int a), some (.int b), some (.int c), some (.int (nI dp)), some (.int w), o6]) rfl (Nat.le_of_ble_eq_true rfl) rfl ?_
  refine r_iload rfl rfl ?_
  refine r_if_ge (tg := 40) rfl rfl (fun c1 => ?_) (fun c1 => ?_)
  · refine r_ic (x := 0) rfl rfl ?_
    refine r_istore (lv' := [some (.ref (ad 9)), some (.int a), some (.int b), some (.int c), some (.int (nI dp)), some (.int w), some (.int 0)]) rfl (Nat.le_of_ble_eq_true rfl) rfl ?_
    refine r_iload rfl rfl ?_
    refine r_if_eq (tg := 60) rfl rfl (fun _ => ?_) (fun q => absurd q (by decide))
    refine r_iload rfl rfl ?_
    refine r_iret rfl ?_
    exact (L1 c1)
  · refine r_iload rfl rfl ?_
    refine r_ic (x := (-19)) rfl rfl ?_
    refine r_icmp_eq (tg := 40) rfl rfl (fun c2 => ?_) (fun c2 => ?_)
    · refine r_ic (x := 0) rfl rfl ?_
      refine r_istore (lv' := [some (.ref (ad 9)), some (.int a), some (.int b), some (.int c), some (.int (nI dp)), some (.int w), some (.int 0)]) rfl (Nat.le_of_ble_eq_true rfl) rfl ?_
      refine r_iload rfl rfl ?_
      refine r_if_eq (tg := 60) rfl rfl (fun _ => ?_) (fun q => absurd q (by decide))
      refine r_iload rfl rfl ?_
      refine r_iret rfl ?_
      exact (L2 c1 c2)
    · refine r_iload rfl rfl ?_
      refine r_if_eq (tg := 36) rfl rfl (fun c3 => ?_) (fun c3 => ?_)
      · refine r_ic (x := 1) rfl rfl ?_
        refine r_goto (tg := 41) rfl rfl ?_
        refine r_istore (lv' := [some (.ref (ad 9)), some (.int a), some (.int b), some (.int c), some (.int (nI dp)), some (.int w), some (.int 1)]) rfl (Nat.le_of_ble_eq_true rfl) rfl ?_
        refine r_iload rfl rfl ?_
        refine r_if_eq (tg := 60) rfl rfl (fun q => absurd q (by decide)) (fun _ => ?_)
        refine r_aload rfl rfl ?_
        refine r_iload rfl rfl ?_
        refine r_iload rfl rfl ?_
        refine r_ic (x := 1) rfl rfl ?_
        refine r_iadd rfl ?_
        refine WR_tI (y := nI (dp + 1)) (Eq.trans (nI_add dp 1) (congrArg nI (by omega))) ?_
        refine r_cv (y := 101) (ra := [.int (nI (dp + 1)), .int c]) (rest := []) rfl ⟨⟨rfl, rfl⟩, rfl, by decide⟩ (fx_t9 fx) rfl rfl (Nat.le_of_ble_eq_true rfl) ?_
        exact (C1 c1 c2 c3)
      · refine r_iload rfl rfl ?_
        refine r_ic (x := (-10)) rfl rfl ?_
        refine r_iload rfl rfl ?_
        refine r_isub rfl ?_
        refine r_icmp_ne (tg := 40) rfl rfl (fun c4 => ?_) (fun c4 => ?_)
        · refine r_ic (x := 0) rfl rfl ?_
          refine r_istore (lv' := [some (.ref (ad 9)), some (.int a), some (.int b), some (.int c), some (.int (nI dp)), some (.int w), some (.int 0)]) rfl (Nat.le_of_ble_eq_true rfl) rfl ?_
          refine r_iload rfl rfl ?_
          refine r_if_eq (tg := 60) rfl rfl (fun _ => ?_) (fun q => absurd q (by decide))
          refine r_iload rfl rfl ?_
          refine r_iret rfl ?_
          exact (L3 c1 c2 c3 c4)
        · refine r_ic (x := 1) rfl rfl ?_
          refine r_goto (tg := 41) rfl rfl ?_
          refine r_istore (lv' := [some (.ref (ad 9)), some (.int a), some (.int b), some (.int c), some (.int (nI dp)), some (.int w), some (.int 1)]) rfl (Nat.le_of_ble_eq_true rfl) rfl ?_
          refine r_iload rfl rfl ?_
          refine r_if_eq (tg := 60) rfl rfl (fun q => absurd q (by decide)) (fun _ => ?_)
          refine r_aload rfl rfl ?_
          refine r_iload rfl rfl ?_
          refine r_iload rfl rfl ?_
          refine r_ic (x := 1) rfl rfl ?_
          refine r_iadd rfl ?_
          refine WR_tI (y := nI (dp + 1)) (Eq.trans (nI_add dp 1) (congrArg nI (by omega))) ?_
          refine r_cv (y := 101) (ra := [.int (nI (dp + 1)), .int c]) (rest := []) rfl ⟨⟨rfl, rfl⟩, rfl, by decide⟩ (fx_t9 fx) rfl rfl (Nat.le_of_ble_eq_true rfl) ?_
          exact (C2 c1 c2 c3 c4)

set_option maxHeartbeats 2000000 in
theorem w_tyz {d : Nat} {Q : mQ} {n : Nat} {ad sa : Nat → Nat} {z0 : Nat} {h : mH} (fx : FX n ad sa z0 h) {o1 o2 o3 o4 o5 o6 : Option Value} {w : Int32} 
    (L1 : Q (some (.int w)) h) : WR (d) cd_111 57 [some (.ref (ad 9)), o1, o2, o3, o4, o5, o6] [.int w] h Q := by
  have fx0 := fx
  refine r_goto (tg := 62) rfl rfl ?_
  refine r_iret rfl ?_
  exact (L1)

set_option maxHeartbeats 2000000 in
theorem w_fi {d : Nat} {Q : mQ} {n : Nat} {ad sa : Nat → Nat} {z0 : Nat} {h : mH} (fx : FX n ad sa z0 h) {a b : Int32} {dp : Nat} 
    (C1 : EV (d) 101 [.ref (ad 9), .int a, .int (nI (dp + 1))] h (fun v_ h_ => WR (d) cd_112 8 [some (.ref (ad 9)), some (.int a), some (.int b), some (.int (nI dp)), none, none, none] (v_.toList ++ []) h_ Q)) : EV (d + 1) 112 [.ref (ad 9), .int a, .int b, .int (nI dp)] h Q := by
  have fx0 := fx
  refine in_112 (Nat.le_of_ble_eq_true rfl) ?_
  show WR _ cd_112 0 [some (.ref (ad 9)), some (.int a), some (.int b), some (.int (nI dp)), none, none, none] [] h _
  refine r_aload rfl rfl ?_
  refine r_iload rfl rfl ?_
  refine r_iload rfl rfl ?_
  refine r_ic (x := 1) rfl rfl ?_
  refine r_iadd rfl ?_
  refine WR_tI (y := nI (dp + 1)) (Eq.trans (nI_add dp 1) (congrArg nI (by omega))) ?_
  refine r_cv (y := 101) (ra := [.int (nI (dp + 1)), .int a]) (rest := []) rfl ⟨⟨rfl, rfl⟩, rfl, by decide⟩ (fx_t9 fx) rfl rfl (Nat.le_of_ble_eq_true rfl) ?_
  exact (C1)

set_option maxHeartbeats 2000000 in
theorem w_fir {d : Nat} {Q : mQ} {n : Nat} {ad sa : Nat → Nat} {z0 : Nat} {h : mH} (fx : FX n ad sa z0 h) {a b : Int32} {dp : Nat} {o4 o5 o6 : Option Value} {w : Int32} 
    (C1 : ¬ w = (-19) → EV (d) 101 [.ref (ad 9), .int b, .int (nI (dp + 1))] h (fun v_ h_ => WR (d) cd_112 34 [some (.ref (ad 9)), some (.int a), some (.int b), some (.int (nI dp)), some (.int w), some (.int (hI h (ad 9) 8)), o6] (v_.toList ++ []) h_ Q))
    (L1 : w = (-19) → Q (some (.int (-19))) h) : WR (d) cd_112 8 [some (.ref (ad 9)), some (.int a), some (.int b), some (.int (nI dp)), o4, o5, o6] [.int w] h Q := by
  have fx0 := fx
  refine r_istore (lv' := [some (.ref (ad 9)), some (.int a), some (.int b), some (.int (nI dp)), some (.int w), o5, o6]) rfl (Nat.le_of_ble_eq_true rfl) rfl ?_
  refine r_iload rfl rfl ?_
  refine r_ic (x := (-19)) rfl rfl ?_
  refine r_icmp_ne (tg := 20) rfl rfl (fun c1 => ?_) (fun c1 => ?_)
  · refine r_aload rfl rfl ?_
    refine r_getI rfl ⟨rfl, rfl, rfl⟩ (fx_t9 fx) ?_
    refine r_istore (lv' := [some (.ref (ad 9)), some (.int a), some (.int b), some (.int (nI dp)), some (.int w), some (.int (hI h (ad 9) 8)), o6]) rfl (Nat.le_of_ble_eq_true rfl) rfl ?_
    refine r_aload rfl rfl ?_
    refine r_iload rfl rfl ?_
    refine r_iload rfl rfl ?_
    refine r_ic (x := 1) rfl rfl ?_
    refine r_iadd rfl ?_
    refine WR_tI (y := nI (dp + 1)) (Eq.trans (nI_add dp 1) (congrArg nI (by omega))) ?_
    refine r_cv (y := 101) (ra := [.int (nI (dp + 1)), .int b]) (rest := []) rfl ⟨⟨rfl, rfl⟩, rfl, by decide⟩ (fx_t9 fx) rfl rfl (Nat.le_of_ble_eq_true rfl) ?_
    exact (C1 c1)
  · refine r_ic (x := (-19)) rfl rfl ?_
    refine r_iret rfl ?_
    exact (L1 c1)

set_option maxHeartbeats 2000000 in
theorem w_fiz {d : Nat} {Q : mQ} {n : Nat} {ad sa : Nat → Nat} {z0 : Nat} {h : mH} (fx : FX n ad sa z0 h) {a b : Int32} {dp : Nat} {o6 : Option Value} {w e u : Int32} 
    (L1 : ¬ u = 0 → 0 ≤ w → Q (some (.int u)) h)
    (L2 : ¬ u = 0 → ¬ 0 ≤ w → Q (some (.int u)) (sI h (ad 9) 12 ((-10) - w)))
    (L3 : u = 0 → Q (some (.int w)) (sI h (ad 9) 8 e)) : WR (d) cd_112 34 [some (.ref (ad 9)), some (.int a), some (.int b), some (.int (nI dp)), some (.int w), some (.int e), o6] [.int u] h Q := by
  have fx0 := fx
  refine r_istore (lv' := [some (.ref (ad 9)), some (.int a), some (.int b), some (.int (nI dp)), some (.int w), some (.int e), some (.int u)]) rfl (Nat.le_of_ble_eq_true rfl) rfl ?_
  refine r_iload rfl rfl ?_
  refine r_if_ne (tg := 50) rfl rfl (fun c1 => ?_) (fun c1 => ?_)
  · refine r_iload rfl rfl ?_
    refine r_if_ge (tg := 64) rfl rfl (fun c2 => ?_) (fun c2 => ?_)
    · refine r_iload rfl rfl ?_
      refine r_iret rfl ?_
      exact (L1 c1 c2)
    · refine r_aload rfl rfl ?_
      refine r_ic (x := (-10)) rfl rfl ?_
      refine r_iload rfl rfl ?_
      refine r_isub rfl ?_
      refine r_putI rfl ⟨rfl, rfl, rfl⟩ (fx_t9 fx) ?_
      have fx : FX n ad sa z0 (sI h (ad 9) 12 ((-10) - w)) := (FX.sI fx)
      refine r_iload rfl rfl ?_
      refine r_iret rfl ?_
      exact (L2 c1 c2)
  · refine r_aload rfl rfl ?_
    refine r_iload rfl rfl ?_
    refine r_putI rfl ⟨rfl, rfl, rfl⟩ (fx_t9 fx) ?_
    have fx : FX n ad sa z0 (sI h (ad 9) 8 e) := (FX.sI fx)
    refine r_iload rfl rfl ?_
    refine r_iret rfl ?_
    exact (L3 c1)

set_option maxHeartbeats 2000000 in
theorem w_sr155 {d : Nat} {Q : mQ} {n : Nat} {ad sa : Nat → Nat} {z0 : Nat} {h : mH} (fx : FX n ad sa z0 h) {o1 o2 o3 o4 o5 : Option Value} {w : Int32} 
    (L1 : Q (some (.int w)) h) : WR (d) cd_102 155 [some (.ref (ad 9)), o1, o2, o3, o4, o5] [.int w] h Q := by
  have fx0 := fx
  refine r_iret rfl ?_
  exact (L1)

set_option maxHeartbeats 2000000 in
theorem w_sr166 {d : Nat} {Q : mQ} {n : Nat} {ad sa : Nat → Nat} {z0 : Nat} {h : mH} (fx : FX n ad sa z0 h) {o1 o2 o3 o4 o5 : Option Value} {w : Int32} 
    (L1 : Q (some (.int w)) h) : WR (d) cd_102 166 [some (.ref (ad 9)), o1, o2, o3, o4, o5] [.int w] h Q := by
  have fx0 := fx
  refine r_iret rfl ?_
  exact (L1)

set_option maxHeartbeats 2000000 in
theorem w_sr175 {d : Nat} {Q : mQ} {n : Nat} {ad sa : Nat → Nat} {z0 : Nat} {h : mH} (fx : FX n ad sa z0 h) {o1 o2 o3 o4 o5 : Option Value} {w : Int32} 
    (L1 : Q (some (.int w)) h) : WR (d) cd_102 175 [some (.ref (ad 9)), o1, o2, o3, o4, o5] [.int w] h Q := by
  have fx0 := fx
  refine r_iret rfl ?_
  exact (L1)

set_option maxHeartbeats 2000000 in
theorem w_sr184 {d : Nat} {Q : mQ} {n : Nat} {ad sa : Nat → Nat} {z0 : Nat} {h : mH} (fx : FX n ad sa z0 h) {o1 o2 o3 o4 o5 : Option Value} {w : Int32} 
    (L1 : Q (some (.int w)) h) : WR (d) cd_102 184 [some (.ref (ad 9)), o1, o2, o3, o4, o5] [.int w] h Q := by
  have fx0 := fx
  refine r_iret rfl ?_
  exact (L1)

set_option maxHeartbeats 2000000 in
theorem w_ho {d : Nat} {Q : mQ} {n : Nat} {ad sa : Nat → Nat} {z0 : Nat} {h : mH} (fx : FX n ad sa z0 h) {a dp : Nat} {b x : Int32} (f6 : hR h (ad 9) 6 = some (ad 7)) (ha : a < n) (n6 : n ≤ 6) (tu1 : hR h (ad 7) a = some (ad (100 + 5 * a))) (tu2 : hT h (ad (100 + 5 * a)) = 8) (tu3 : hR h (ad (100 + 5 * a)) 5 = some (ad (101 + 5 * a))) (tu4 : hT h (ad (101 + 5 * a)) = 26) (tu5 : hN h (ad (101 + 5 * a)) = 5) (e9 : hI h (ad (100 + 5 * a)) 9 = x) 
    (C1 : EV (d) 101 [.ref (ad 9), .int b, .int (nI (dp + 1))] (sI h (ad (100 + 5 * a)) 9 (x + 1)) (fun v_ h_ => WR (d) cd_113 23 [some (.ref (ad 9)), some (.int (nI a)), some (.int b), some (.int (nI dp)), none] (v_.toList ++ []) h_ Q)) : EV (d + 1) 113 [.ref (ad 9), .int (nI a), .int b, .int (nI dp)] h Q := by
  have fx0 := fx
  refine in_113 (Nat.le_of_ble_eq_true rfl) ?_
  show WR _ cd_113 0 [some (.ref (ad 9)), some (.int (nI a)), some (.int b), some (.int (nI dp)), none] [] h _
  refine r_aload rfl rfl ?_
  refine r_getA (b := ad 7) rfl ⟨rfl, rfl, rfl⟩ (fx_t9 fx) f6 ?_
  refine r_iload rfl rfl ?_
  refine r_aaloadA (b := ad (100 + 5 * a)) rfl (isQ_of (fx_t7 fx) (by decide)) (vp_ct (fx_n7 fx) (vp_in_nI (by omega) (by omega))) (Eq.trans (congrArg (hR h (ad 7)) ((nI_clamp (by omega)) : _ = a)) tu1) ?_
  refine r_dup rfl rfl ?_
  refine r_getI rfl ⟨rfl, rfl, rfl⟩ tu2 ?_
  refine WR_tI (y := x) e9 ?_
  refine r_ic (x := 1) rfl rfl ?_
  refine r_iadd rfl ?_
  refine r_putI rfl ⟨rfl, rfl, rfl⟩ tu2 ?_
  have fx : FX n ad sa z0 (sI h (ad (100 + 5 * a)) 9 (x + 1)) := (FX.sI fx)
  refine r_aload rfl rfl ?_
  refine r_iload rfl rfl ?_
  refine r_iload rfl rfl ?_
  refine r_ic (x := 1) rfl rfl ?_
  refine r_iadd rfl ?_
  refine WR_tI (y := nI (dp + 1)) (Eq.trans (nI_add dp 1) (congrArg nI (by omega))) ?_
  refine r_cv (y := 101) (ra := [.int (nI (dp + 1)), .int b]) (rest := []) rfl ⟨⟨rfl, rfl⟩, rfl, by decide⟩ (fx_t9 fx) rfl rfl (Nat.le_of_ble_eq_true rfl) ?_
  exact (C1)

set_option maxHeartbeats 2000000 in
theorem w_hor {d : Nat} {Q : mQ} {n : Nat} {ad sa : Nat → Nat} {z0 : Nat} {h : mH} (fx : FX n ad sa z0 h) {a : Nat} {x w e : Int32} {o2 o4 : Option Value} (f6 : hR h (ad 9) 6 = some (ad 7)) (ha : a < n) (n6 : n ≤ 6) (tu1 : hR h (ad 7) a = some (ad (100 + 5 * a))) (tu2 : hT h (ad (100 + 5 * a)) = 8) (tu3 : hR h (ad (100 + 5 * a)) 5 = some (ad (101 + 5 * a))) (tu4 : hT h (ad (101 + 5 * a)) = 26) (tu5 : hN h (ad (101 + 5 * a)) = 5) (e9 : hI h (ad (100 + 5 * a)) 9 = x) 
    (L1 : Q (some (.int w)) (sI h (ad (100 + 5 * a)) 9 (x - 1))) : WR (d) cd_113 23 [some (.ref (ad 9)), some (.int (nI a)), o2, some (.int e), o4] [.int w] h Q := by
  have fx0 := fx
  refine r_istore (lv' := [some (.ref (ad 9)), some (.int (nI a)), o2, some (.int e), some (.int w)]) rfl (Nat.le_of_ble_eq_true rfl) rfl ?_
  refine r_aload rfl rfl ?_
  refine r_getA (b := ad 7) rfl ⟨rfl, rfl, rfl⟩ (fx_t9 fx) f6 ?_
  refine r_iload rfl rfl ?_
  refine r_aaloadA (b := ad (100 + 5 * a)) rfl (isQ_of (fx_t7 fx) (by decide)) (vp_ct (fx_n7 fx) (vp_in_nI (by omega) (by omega))) (Eq.trans (congrArg (hR h (ad 7)) ((nI_clamp (by omega)) : _ = a)) tu1) ?_
  refine r_dup rfl rfl ?_
  refine r_getI rfl ⟨rfl, rfl, rfl⟩ tu2 ?_
  refine WR_tI (y := x) e9 ?_
  refine r_ic (x := 1) rfl rfl ?_
  refine r_isub rfl ?_
  refine r_putI rfl ⟨rfl, rfl, rfl⟩ tu2 ?_
  have fx : FX n ad sa z0 (sI h (ad (100 + 5 * a)) 9 (x - 1)) := (FX.sI fx)
  refine r_iload rfl rfl ?_
  refine r_iret rfl ?_
  exact (L1)

set_option maxHeartbeats 2000000 in
theorem w_pf0 {d : Nat} {Q : mQ} {n : Nat} {ad sa : Nat → Nat} {z0 : Nat} {h : mH} (fx : FX n ad sa z0 h) {p : Int32} 
    (K1 : WR (d) cd_99 45 [some (.ref (ad 9)), some (.int p), some (.ref (ad 1)), some (.ref (ad 7)), none] [] (sI (sI (sI (sI (sI (sI (sI (sR (sR h (ad 9) 5 (some (ad 1))) (ad 9) 6 (some (ad 7))) (ad 9) 7 0) (ad 9) 8 0) (ad 9) 9 0) (ad 9) 10 0) (ad 9) 11 0) (ad 9) 12 0) (ad 9) 13 0) Q) : EV (d + 1) 99 [.ref (ad 9), .int p, .ref (ad 1), .ref (ad 7)] h Q := by
  have fx0 := fx
  refine in_99 (Nat.le_of_ble_eq_true rfl) ?_
  show WR _ cd_99 0 [some (.ref (ad 9)), some (.int p), some (.ref (ad 1)), some (.ref (ad 7)), none] [] h _
  refine r_aload rfl rfl ?_
  refine r_aload rfl rfl ?_
  refine r_putA rfl ⟨rfl, rfl, rfl⟩ (fx_t9 fx) ?_
  have fx : FX n ad sa z0 (sR h (ad 9) 5 (some (ad 1))) := FX.sR9 fx (by decide)
  refine r_aload rfl rfl ?_
  refine r_aload rfl rfl ?_
  refine r_putA rfl ⟨rfl, rfl, rfl⟩ (fx_t9 fx) ?_
  have fx : FX n ad sa z0 (sR (sR h (ad 9) 5 (some (ad 1))) (ad 9) 6 (some (ad 7))) := FX.sR9 fx (by decide)
  refine r_aload rfl rfl ?_
  refine r_ic (x := 0) rfl rfl ?_
  refine r_putI rfl ⟨rfl, rfl, rfl⟩ (fx_t9 fx) ?_
  have fx : FX n ad sa z0 (sI (sR (sR h (ad 9) 5 (some (ad 1))) (ad 9) 6 (some (ad 7))) (ad 9) 7 0) := (FX.sI fx)
  refine r_aload rfl rfl ?_
  refine r_ic (x := 0) rfl rfl ?_
  refine r_putI rfl ⟨rfl, rfl, rfl⟩ (fx_t9 fx) ?_
  have fx : FX n ad sa z0 (sI (sI (sR (sR h (ad 9) 5 (some (ad 1))) (ad 9) 6 (some (ad 7))) (ad 9) 7 0) (ad 9) 8 0) := (FX.sI fx)
  refine r_aload rfl rfl ?_
  refine r_ic (x := 0) rfl rfl ?_
  refine r_putI rfl ⟨rfl, rfl, rfl⟩ (fx_t9 fx) ?_
  have fx : FX n ad sa z0 (sI (sI (sI (sR (sR h (ad 9) 5 (some (ad 1))) (ad 9) 6 (some (ad 7))) (ad 9) 7 0) (ad 9) 8 0) (ad 9) 9 0) := (FX.sI fx)
  refine r_aload rfl rfl ?_
  refine r_ic (x := 0) rfl rfl ?_
  refine r_putI rfl ⟨rfl, rfl, rfl⟩ (fx_t9 fx) ?_
  have fx : FX n ad sa z0 (sI (sI (sI (sI (sR (sR h (ad 9) 5 (some (ad 1))) (ad 9) 6 (some (ad 7))) (ad 9) 7 0) (ad 9) 8 0) (ad 9) 9 0) (ad 9) 10 0) := (FX.sI fx)
  refine r_aload rfl rfl ?_
  refine r_ic (x := 0) rfl rfl ?_
  refine r_putI rfl ⟨rfl, rfl, rfl⟩ (fx_t9 fx) ?_
  have fx : FX n ad sa z0 (sI (sI (sI (sI (sI (sR (sR h (ad 9) 5 (some (ad 1))) (ad 9) 6 (some (ad 7))) (ad 9) 7 0) (ad 9) 8 0) (ad 9) 9 0) (ad 9) 10 0) (ad 9) 11 0) := (FX.sI fx)
  refine r_aload rfl rfl ?_
  refine r_ic (x := 0) rfl rfl ?_
  refine r_putI rfl ⟨rfl, rfl, rfl⟩ (fx_t9 fx) ?_
  have fx : FX n ad sa z0 (sI (sI (sI (sI (sI (sI (sR (sR h (ad 9) 5 (some (ad 1))) (ad 9) 6 (some (ad 7))) (ad 9) 7 0) (ad 9) 8 0) (ad 9) 9 0) (ad 9) 10 0) (ad 9) 11 0) (ad 9) 12 0) := (FX.sI fx)
  refine r_aload rfl rfl ?_
  refine r_ic (x := 0) rfl rfl ?_
  refine r_putI rfl ⟨rfl, rfl, rfl⟩ (fx_t9 fx) ?_
  exact (K1)

set_option maxHeartbeats 2000000 in
theorem w_pf0b {d : Nat} {Q : mQ} {n : Nat} {ad sa : Nat → Nat} {z0 : Nat} {h : mH} (fx : FX n ad sa z0 h) {p : Int32} {o4 : Option Value} 
    (C1 : EV (d) 100 [.ref (ad 16), .ref (ad 1), .ref (ad 7)] (sI h (ad 13) 2 0) (fun v_ h_ => WR (d) cd_99 62 [some (.ref (ad 9)), some (.int p), some (.ref (ad 1)), some (.ref (ad 7)), o4] (v_.toList ++ []) h_ Q)) : WR (d) cd_99 45 [some (.ref (ad 9)), some (.int p), some (.ref (ad 1)), some (.ref (ad 7)), o4] [] h Q := by
  have fx0 := fx
  refine r_aload rfl rfl ?_
  refine r_getA (b := ad 13) rfl ⟨rfl, rfl, rfl⟩ (fx_t9 fx) (fx_r9_3 fx) ?_
  refine r_ic (x := 0) rfl rfl ?_
  refine r_putI rfl ⟨rfl, rfl, rfl⟩ (fx_t13 fx) ?_
  have fx : FX n ad sa z0 (sI h (ad 13) 2 0) := (FX.sI fx)
  refine r_aload rfl rfl ?_
  refine r_getA (b := ad 16) rfl ⟨rfl, rfl, rfl⟩ (fx_t9 fx) (fx_r9_4 fx) ?_
  refine r_aload rfl rfl ?_
  refine r_aload rfl rfl ?_
  refine r_cv (y := 100) (ra := [.ref (ad 7), .ref (ad 1)]) (rest := []) rfl ⟨⟨rfl, rfl⟩, rfl, by decide⟩ (fx_t16 fx) rfl rfl (Nat.le_of_ble_eq_true rfl) ?_
  exact (C1)

set_option maxHeartbeats 2000000 in
theorem w_pf1 {d : Nat} {Q : mQ} {n : Nat} {ad sa : Nat → Nat} {z0 : Nat} {h : mH} (fx : FX n ad sa z0 h) {p : Int32} {o4 : Option Value} 
    (C1 : EV (d) 101 [.ref (ad 9), .int p, .int 1] h (fun v_ h_ => WR (d) cd_99 68 [some (.ref (ad 9)), some (.int p), some (.ref (ad 1)), some (.ref (ad 7)), o4] (v_.toList ++ []) h_ Q)) : WR (d) cd_99 62 [some (.ref (ad 9)), some (.int p), some (.ref (ad 1)), some (.ref (ad 7)), o4] [] h Q := by
  have fx0 := fx
  refine r_aload rfl rfl ?_
  refine r_iload rfl rfl ?_
  refine r_ic (x := 1) rfl rfl ?_
  refine r_cv (y := 101) (ra := [.int 1, .int p]) (rest := []) rfl ⟨⟨rfl, rfl⟩, rfl, by decide⟩ (fx_t9 fx) rfl rfl (Nat.le_of_ble_eq_true rfl) ?_
  exact (C1)

set_option maxHeartbeats 2000000 in
theorem w_pf2 {d : Nat} {Q : mQ} {n : Nat} {ad sa : Nat → Nat} {z0 : Nat} {h : mH} (fx : FX n ad sa z0 h) {p w : Int32} {o4 : Option Value} 
    (C1 : w = 1 → 0 ≤ w → EV (d) 117 [.ref (ad 13), .ref (ad 1)] h (fun v_ h_ => WR (d) cd_99 107 [some (.ref (ad 9)), some (.int p), some (.ref (ad 1)), some (.ref (ad 7)), some (.int w)] (v_.toList ++ [.ref (ad 9)]) h_ Q))
    (C2 : w = 1 → ¬ 0 ≤ w → EV (d) 116 [.ref (ad 16), .ref (ad 1), .ref (ad 7)] h (fun v_ h_ => WR (d) cd_99 95 [some (.ref (ad 9)), some (.int p), some (.ref (ad 1)), some (.ref (ad 7)), some (.int w)] (v_.toList ++ []) h_ Q))
    (C3 : ¬ w = 1 → 0 ≤ w → EV (d) 117 [.ref (ad 13), .ref (ad 1)] (sI h (ad 9) 8 0) (fun v_ h_ => WR (d) cd_99 107 [some (.ref (ad 9)), some (.int p), some (.ref (ad 1)), some (.ref (ad 7)), some (.int w)] (v_.toList ++ [.ref (ad 9)]) h_ Q))
    (C4 : ¬ w = 1 → ¬ 0 ≤ w → EV (d) 116 [.ref (ad 16), .ref (ad 1), .ref (ad 7)] (sI h (ad 9) 8 0) (fun v_ h_ => WR (d) cd_99 95 [some (.ref (ad 9)), some (.int p), some (.ref (ad 1)), some (.ref (ad 7)), some (.int w)] (v_.toList ++ []) h_ Q)) : WR (d) cd_99 68 [some (.ref (ad 9)), some (.int p), some (.ref (ad 1)), some (.ref (ad 7)), o4] [.int w] h Q := by
  have fx0 := fx
  refine r_istore (lv' := [some (.ref (ad 9)), some (.int p), some (.ref (ad 1)), some (.ref (ad 7)), some (.int w)]) rfl (Nat.le_of_ble_eq_true rfl) rfl ?_
  refine r_iload rfl rfl ?_
  refine r_ic (x := 1) rfl rfl ?_
  refine r_icmp_eq (tg := 81) rfl rfl (fun c1 => ?_) (fun c1 => ?_)
  · refine r_iload rfl rfl ?_
    refine r_if_ge (tg := 98) rfl rfl (fun c2 => ?_) (fun c2 => ?_)
    · refine r_aload rfl rfl ?_
      refine r_aload rfl rfl ?_
      refine r_getA (b := ad 13) rfl ⟨rfl, rfl, rfl⟩ (fx_t9 fx) (fx_r9_3 fx) ?_
      refine r_aload rfl rfl ?_
      refine r_cv (y := 117) (ra := [.ref (ad 1)]) (rest := [.ref (ad 9)]) rfl ⟨⟨rfl, rfl⟩, rfl, by decide⟩ (fx_t13 fx) rfl rfl (Nat.le_of_ble_eq_true rfl) ?_
      exact (C1 c1 c2)
    · refine r_aload rfl rfl ?_
      refine r_getA (b := ad 16) rfl ⟨rfl, rfl, rfl⟩ (fx_t9 fx) (fx_r9_4 fx) ?_
      refine r_aload rfl rfl ?_
      refine r_aload rfl rfl ?_
      refine r_cv (y := 116) (ra := [.ref (ad 7), .ref (ad 1)]) (rest := []) rfl ⟨⟨rfl, rfl⟩, rfl, by decide⟩ (fx_t16 fx) rfl rfl (Nat.le_of_ble_eq_true rfl) ?_
      exact (C2 c1 c2)
  · refine r_aload rfl rfl ?_
    refine r_ic (x := 0) rfl rfl ?_
    refine r_putI rfl ⟨rfl, rfl, rfl⟩ (fx_t9 fx) ?_
    have fx : FX n ad sa z0 (sI h (ad 9) 8 0) := (FX.sI fx)
    refine r_iload rfl rfl ?_
    refine r_if_ge (tg := 98) rfl rfl (fun c3 => ?_) (fun c3 => ?_)
    · refine r_aload rfl rfl ?_
      refine r_aload rfl rfl ?_
      refine r_getA (b := ad 13) rfl ⟨rfl, rfl, rfl⟩ (fx_t9 fx) (fx_r9_3 fx) ?_
      refine r_aload rfl rfl ?_
      refine r_cv (y := 117) (ra := [.ref (ad 1)]) (rest := [.ref (ad 9)]) rfl ⟨⟨rfl, rfl⟩, rfl, by decide⟩ (fx_t13 fx) rfl rfl (Nat.le_of_ble_eq_true rfl) ?_
      exact (C3 c1 c3)
    · refine r_aload rfl rfl ?_
      refine r_getA (b := ad 16) rfl ⟨rfl, rfl, rfl⟩ (fx_t9 fx) (fx_r9_4 fx) ?_
      refine r_aload rfl rfl ?_
      refine r_aload rfl rfl ?_
      refine r_cv (y := 116) (ra := [.ref (ad 7), .ref (ad 1)]) (rest := []) rfl ⟨⟨rfl, rfl⟩, rfl, by decide⟩ (fx_t16 fx) rfl rfl (Nat.le_of_ble_eq_true rfl) ?_
      exact (C4 c1 c3)

set_option maxHeartbeats 2000000 in
theorem w_pf3 {d : Nat} {Q : mQ} {n : Nat} {ad sa : Nat → Nat} {z0 : Nat} {h : mH} (fx : FX n ad sa z0 h) {p w : Int32} 
    (L1 : Q (some (.int w)) h) : WR (d) cd_99 95 [some (.ref (ad 9)), some (.int p), some (.ref (ad 1)), some (.ref (ad 7)), some (.int w)] [] h Q := by
  have fx0 := fx
  refine r_goto (tg := 110) rfl rfl ?_
  refine r_iload rfl rfl ?_
  refine r_iret rfl ?_
  exact (L1)

set_option maxHeartbeats 2000000 in
theorem w_pf4 {d : Nat} {Q : mQ} {n : Nat} {ad sa : Nat → Nat} {z0 : Nat} {h : mH} (fx : FX n ad sa z0 h) {p w g : Int32} 
    (L1 : Q (some (.int w)) (sI h (ad 9) 13 g)) : WR (d) cd_99 107 [some (.ref (ad 9)), some (.int p), some (.ref (ad 1)), some (.ref (ad 7)), some (.int w)] [.int g, .ref (ad 9)] h Q := by
  have fx0 := fx
  refine r_putI rfl ⟨rfl, rfl, rfl⟩ (fx_t9 fx) ?_
  have fx : FX n ad sa z0 (sI h (ad 9) 13 g) := (FX.sI fx)
  refine r_iload rfl rfl ?_
  refine r_iret rfl ?_
  exact (L1)

set_option maxHeartbeats 2000000 in
theorem w_gb0 {d : Nat} {Q : mQ} {n : Nat} {ad sa : Nat → Nat} {z0 : Nat} {h : mH} (fx : FX n ad sa z0 h) (eh : hI h (ad 13) 2 = 0) 
    (K1 : WR (d) cd_117 9 [some (.ref (ad 13)), some (.ref (ad 1)), some (.int 0), some (.int (-1)), none] [] h Q) : EV (d + 1) 117 [.ref (ad 13), .ref (ad 1)] h Q := by
  have fx0 := fx
  refine in_117 (Nat.le_of_ble_eq_true rfl) ?_
  show WR _ cd_117 0 [some (.ref (ad 13)), some (.ref (ad 1)), none, none, none] [] h _
  refine r_ic (x := 0) rfl rfl ?_
  refine r_istore (lv' := [some (.ref (ad 13)), some (.ref (ad 1)), some (.int 0), none, none]) rfl (Nat.le_of_ble_eq_true rfl) rfl ?_
  refine r_aload rfl rfl ?_
  refine r_getI rfl ⟨rfl, rfl, rfl⟩ (fx_t13 fx) ?_
  refine WR_tI (y := 0) eh ?_
  refine r_ic (x := 1) rfl rfl ?_
  refine r_isub rfl ?_
  refine WR_tI (y := (-1)) rfl ?_
  refine r_istore (lv' := [some (.ref (ad 13)), some (.ref (ad 1)), some (.int 0), some (.int (-1)), none]) rfl (Nat.le_of_ble_eq_true rfl) rfl ?_
  exact (K1)

set_option maxHeartbeats 2000000 in
theorem w_gb1 {d : Nat} {Q : mQ} {n : Nat} {ad sa : Nat → Nat} {z0 : Nat} {h : mH} (fx : FX n ad sa z0 h) {H : Nat} (h1 : 1 ≤ H) (h2 : H ≤ 100) (eh : hI h (ad 13) 2 = nI H) 
    (K1 : WR (d) cd_117 9 [some (.ref (ad 13)), some (.ref (ad 1)), some (.int 0), some (.int (nI (H - 1))), none] [] h Q) : EV (d + 1) 117 [.ref (ad 13), .ref (ad 1)] h Q := by
  have fx0 := fx
  refine in_117 (Nat.le_of_ble_eq_true rfl) ?_
  show WR _ cd_117 0 [some (.ref (ad 13)), some (.ref (ad 1)), none, none, none] [] h _
  refine r_ic (x := 0) rfl rfl ?_
  refine r_istore (lv' := [some (.ref (ad 13)), some (.ref (ad 1)), some (.int 0), none, none]) rfl (Nat.le_of_ble_eq_true rfl) rfl ?_
  refine r_aload rfl rfl ?_
  refine r_getI rfl ⟨rfl, rfl, rfl⟩ (fx_t13 fx) ?_
  refine WR_tI (y := nI H) eh ?_
  refine r_ic (x := 1) rfl rfl ?_
  refine r_isub rfl ?_
  refine WR_tI (y := nI (H - 1)) (Eq.trans (pk_sub (a := H) (b := 1) (by omega)) (congrArg nI (by omega))) ?_
  refine r_istore (lv' := [some (.ref (ad 13)), some (.ref (ad 1)), some (.int 0), some (.int (nI (H - 1))), none]) rfl (Nat.le_of_ble_eq_true rfl) rfl ?_
  exact (K1)

set_option maxHeartbeats 2000000 in
theorem w_gbe {d : Nat} {Q : mQ} {n : Nat} {ad sa : Nat → Nat} {z0 : Nat} {h : mH} (fx : FX n ad sa z0 h) {g : Nat} {o4 : Option Value} 
    (L1 : Q (some (.int (nI g))) (sI h (ad 13) 2 0)) : WR (d) cd_117 9 [some (.ref (ad 13)), some (.ref (ad 1)), some (.int (nI g)), some (.int (-1)), o4] [] h Q := by
  have fx0 := fx
  refine r_iload rfl rfl ?_
  refine r_if_lt (tg := 64) rfl rfl (fun _ => ?_) (fun q => absurd q (by decide))
  refine r_aload rfl rfl ?_
  refine r_ic (x := 0) rfl rfl ?_
  refine r_putI rfl ⟨rfl, rfl, rfl⟩ (fx_t13 fx) ?_
  have fx : FX n ad sa z0 (sI h (ad 13) 2 0) := (FX.sI fx)
  refine r_iload rfl rfl ?_
  refine r_iret rfl ?_
  exact (L1)

set_option maxHeartbeats 2000000 in
theorem w_gbnz {d : Nat} {Q : mQ} {n : Nat} {ad sa : Nat → Nat} {z0 : Nat} {h : mH} (fx : FX n ad sa z0 h) {g o : Nat} (g9 : g ≤ 100) (o9 : o < 24) {o4 : Option Value} (t1 : hI h (ad 15) 0 = nI o) (r1 : hR h (ad 1) o = none) 
    (K1 : WR (d) cd_117 37 [some (.ref (ad 13)), some (.ref (ad 1)), some (.int (nI g)), some (.int 0), o4] [.int (nI o)] h Q) : WR (d) cd_117 9 [some (.ref (ad 13)), some (.ref (ad 1)), some (.int (nI g)), some (.int 0), o4] [] h Q := by
  have fx0 := fx
  refine r_iload rfl rfl ?_
  refine r_if_lt (tg := 64) rfl rfl (fun q => absurd q (by decide)) (fun _ => ?_)
  refine r_aload rfl rfl ?_
  refine r_aload rfl rfl ?_
  refine r_getA (b := ad 15) rfl ⟨rfl, rfl, rfl⟩ (fx_t13 fx) (fx_r13_1 fx) ?_
  refine r_iload rfl rfl ?_
  refine r_iaload rfl (.inl (fx_t15 fx)) (vp_ct (fx_n15 fx) (vp_in_nI (n := 0) (by omega) (by omega))) ?_
  refine WR_tI (y := hI h (ad 15) 0) rfl ?_
  refine WR_tI (y := nI o) t1 ?_
  refine r_aaload0 rfl (isQ_of (fx_t1 fx) (by decide)) (vp_ct (fx_n1 fx) (vp_in_nI (by omega) (by omega))) (Eq.trans (congrArg (hR h (ad 1)) ((nI_clamp (by omega)) : _ = o)) r1) ?_
  refine r_ifnonnullN (tg := 33) rfl rfl ?_
  refine r_aload rfl rfl ?_
  refine r_getA (b := ad 15) rfl ⟨rfl, rfl, rfl⟩ (fx_t13 fx) (fx_r13_1 fx) ?_
  refine r_iload rfl rfl ?_
  refine r_iaload rfl (.inl (fx_t15 fx)) (vp_ct (fx_n15 fx) (vp_in_nI (n := 0) (by omega) (by omega))) ?_
  refine WR_tI (y := hI h (ad 15) 0) rfl ?_
  refine WR_tI (y := nI o) t1 ?_
  refine r_goto (tg := 37) rfl rfl ?_
  exact (K1)

set_option maxHeartbeats 2000000 in
theorem w_gboz {d : Nat} {Q : mQ} {n : Nat} {ad sa : Nat → Nat} {z0 : Nat} {h : mH} (fx : FX n ad sa z0 h) {g o : Nat} (g9 : g ≤ 100) (o9 : o < 24) {o4 : Option Value} (t1 : hI h (ad 15) 0 = nI o) {y : Nat} (r1 : hR h (ad 1) o = some y) 
    (C1 : EV (d) 118 [.ref (ad 1)] h (fun v_ h_ => WR (d) cd_117 37 [some (.ref (ad 13)), some (.ref (ad 1)), some (.int (nI g)), some (.int 0), o4] (v_.toList ++ []) h_ Q)) : WR (d) cd_117 9 [some (.ref (ad 13)), some (.ref (ad 1)), some (.int (nI g)), some (.int 0), o4] [] h Q := by
  have fx0 := fx
  refine r_iload rfl rfl ?_
  refine r_if_lt (tg := 64) rfl rfl (fun q => absurd q (by decide)) (fun _ => ?_)
  refine r_aload rfl rfl ?_
  refine r_aload rfl rfl ?_
  refine r_getA (b := ad 15) rfl ⟨rfl, rfl, rfl⟩ (fx_t13 fx) (fx_r13_1 fx) ?_
  refine r_iload rfl rfl ?_
  refine r_iaload rfl (.inl (fx_t15 fx)) (vp_ct (fx_n15 fx) (vp_in_nI (n := 0) (by omega) (by omega))) ?_
  refine WR_tI (y := hI h (ad 15) 0) rfl ?_
  refine WR_tI (y := nI o) t1 ?_
  refine r_aaloadA (b := y) rfl (isQ_of (fx_t1 fx) (by decide)) (vp_ct (fx_n1 fx) (vp_in_nI (by omega) (by omega))) (Eq.trans (congrArg (hR h (ad 1)) ((nI_clamp (by omega)) : _ = o)) r1) ?_
  refine r_ifnonnullA (tg := 33) rfl rfl ?_
  refine r_aload rfl rfl ?_
  refine r_cs (y := 118) (ra := [.ref (ad 1)]) (rest := []) rfl ⟨⟨rfl, rfl⟩, by decide⟩ rfl rfl (Nat.le_of_ble_eq_true rfl) ?_
  exact (C1)

set_option maxHeartbeats 2000000 in
theorem w_gbmz {d : Nat} {Q : mQ} {n : Nat} {ad sa : Nat → Nat} {z0 : Nat} {h : mH} (fx : FX n ad sa z0 h) {g : Nat} (g9 : g ≤ 100) {o4 : Option Value} 
    (K1 : WR (d) cd_117 9 [some (.ref (ad 13)), some (.ref (ad 1)), some (.int (nI g)), some (.int (-1)), some (.int (-1))] [] h Q) : WR (d) cd_117 37 [some (.ref (ad 13)), some (.ref (ad 1)), some (.int (nI g)), some (.int 0), o4] [.int (-1)] h Q := by
  have fx0 := fx
  refine r_istore (lv' := [some (.ref (ad 13)), some (.ref (ad 1)), some (.int (nI g)), some (.int 0), some (.int (-1))]) rfl (Nat.le_of_ble_eq_true rfl) rfl ?_
  refine r_iload rfl rfl ?_
  refine r_ic (x := (-1)) rfl rfl ?_
  refine r_icmp_eq (tg := 58) rfl rfl (fun _ => ?_) (fun q => absurd q (by decide))
  refine r_iinc (y := (-1)) (lv' := [some (.ref (ad 13)), some (.ref (ad 1)), some (.int (nI g)), some (.int (-1)), some (.int (-1))]) rfl rfl rfl rfl ?_
  refine r_goto (tg := 9) rfl rfl ?_
  exact (K1)

set_option maxHeartbeats 2000000 in
theorem w_gbpz {d : Nat} {Q : mQ} {n : Nat} {ad sa : Nat → Nat} {z0 : Nat} {h : mH} (fx : FX n ad sa z0 h) {g : Nat} (g9 : g ≤ 100) {o4 : Option Value} {c x : Nat} (c9 : c < 24) (ox : okE 24 (hT h x)) (r2 : hR h (ad 14) 0 = some x) 
    (K1 : WR (d) cd_117 9 [some (.ref (ad 13)), some (.ref (ad 1)), some (.int (nI (g + 1))), some (.int (-1)), some (.int (nI c))] [] (sR h (ad 1) c (some x)) Q) : WR (d) cd_117 37 [some (.ref (ad 13)), some (.ref (ad 1)), some (.int (nI g)), some (.int 0), o4] [.int (nI c)] h Q := by
  have fx0 := fx
  refine r_istore (lv' := [some (.ref (ad 13)), some (.ref (ad 1)), some (.int (nI g)), some (.int 0), some (.int (nI c))]) rfl (Nat.le_of_ble_eq_true rfl) rfl ?_
  refine r_iload rfl rfl ?_
  refine r_ic (x := (-1)) rfl rfl ?_
  refine r_icmp_eq (tg := 58) rfl rfl (fun q => False.elim (by have : (nI c).toInt = ((c : Nat) : Int) := nI_toInt (by omega); have : (-1 : Int32).toInt = -1 := rfl; have := i_eq q; omega)) (fun _ => ?_)
  refine r_aload rfl rfl ?_
  refine r_iload rfl rfl ?_
  refine r_aload rfl rfl ?_
  refine r_getA (b := ad 14) rfl ⟨rfl, rfl, rfl⟩ (fx_t13 fx) (fx_r13_0 fx) ?_
  refine r_iload rfl rfl ?_
  refine r_aaloadA (b := x) rfl (isQ_of (fx_t14 fx) (by decide)) (vp_ct (fx_n14 fx) (vp_in_nI (n := 0) (by omega) (by omega))) r2 ?_
  refine r_aastoreA rfl (isQ_of (fx_t1 fx) (by decide)) (vp_ct (fx_n1 fx) (vp_in_nI (by omega) (by omega))) (okR_or (fx_t1 fx) ox) ?_
  refine WR_h (h2 := sR h (ad 1) c (some x)) (congrArg (fun z => sR h (ad 1) z (some x)) ((nI_clamp (by omega)) : _ = c)) ?_
  have fx : FX n ad sa z0 (sR h (ad 1) c (some x)) := FX.sRA (i := 1) fx (.inl (by decide)) (by decide)
  refine r_iinc (y := nI (g + 1)) (lv' := [some (.ref (ad 13)), some (.ref (ad 1)), some (.int (nI (g + 1))), some (.int 0), some (.int (nI c))]) rfl rfl (nI_1 _) rfl ?_
  refine r_iinc (y := (-1)) (lv' := [some (.ref (ad 13)), some (.ref (ad 1)), some (.int (nI (g + 1))), some (.int (-1)), some (.int (nI c))]) rfl rfl rfl rfl ?_
  refine r_goto (tg := 9) rfl rfl ?_
  exact (K1)

set_option maxHeartbeats 2000000 in
theorem w_gbns {d : Nat} {Q : mQ} {n : Nat} {ad sa : Nat → Nat} {z0 : Nat} {h : mH} (fx : FX n ad sa z0 h) {i g o : Nat} (i9 : i < 100) (i1 : 1 ≤ i) (g9 : g ≤ 100) (o9 : o < 24) {o4 : Option Value} (t1 : hI h (ad 15) i = nI o) (r1 : hR h (ad 1) o = none) 
    (K1 : WR (d) cd_117 37 [some (.ref (ad 13)), some (.ref (ad 1)), some (.int (nI g)), some (.int (nI i)), o4] [.int (nI o)] h Q) : WR (d) cd_117 9 [some (.ref (ad 13)), some (.ref (ad 1)), some (.int (nI g)), some (.int (nI i)), o4] [] h Q := by
  have fx0 := fx
  refine r_iload rfl rfl ?_
  refine r_if_lt (tg := 64) rfl rfl (fun q => False.elim (by have : (nI i).toInt = ((i : Nat) : Int) := nI_toInt (by omega); have : (0 : Int32).toInt = 0 := rfl; have := i_lt q; omega)) (fun _ => ?_)
  refine r_aload rfl rfl ?_
  refine r_aload rfl rfl ?_
  refine r_getA (b := ad 15) rfl ⟨rfl, rfl, rfl⟩ (fx_t13 fx) (fx_r13_1 fx) ?_
  refine r_iload rfl rfl ?_
  refine r_iaload rfl (.inl (fx_t15 fx)) (vp_ct (fx_n15 fx) (vp_in_nI (by omega) (by omega))) ?_
  refine WR_tI (congrArg (hI h (ad 15)) ((nI_clamp (by omega)) : _ = i)) ?_
  refine WR_tI (y := nI o) t1 ?_
  refine r_aaload0 rfl (isQ_of (fx_t1 fx) (by decide)) (vp_ct (fx_n1 fx) (vp_in_nI (by omega) (by omega))) (Eq.trans (congrArg (hR h (ad 1)) ((nI_clamp (by omega)) : _ = o)) r1) ?_
  refine r_ifnonnullN (tg := 33) rfl rfl ?_
  refine r_aload rfl rfl ?_
  refine r_getA (b := ad 15) rfl ⟨rfl, rfl, rfl⟩ (fx_t13 fx) (fx_r13_1 fx) ?_
  refine r_iload rfl rfl ?_
  refine r_iaload rfl (.inl (fx_t15 fx)) (vp_ct (fx_n15 fx) (vp_in_nI (by omega) (by omega))) ?_
  refine WR_tI (congrArg (hI h (ad 15)) ((nI_clamp (by omega)) : _ = i)) ?_
  refine WR_tI (y := nI o) t1 ?_
  refine r_goto (tg := 37) rfl rfl ?_
  exact (K1)

set_option maxHeartbeats 2000000 in
theorem w_gbos {d : Nat} {Q : mQ} {n : Nat} {ad sa : Nat → Nat} {z0 : Nat} {h : mH} (fx : FX n ad sa z0 h) {i g o : Nat} (i9 : i < 100) (i1 : 1 ≤ i) (g9 : g ≤ 100) (o9 : o < 24) {o4 : Option Value} (t1 : hI h (ad 15) i = nI o) {y : Nat} (r1 : hR h (ad 1) o = some y) 
    (C1 : EV (d) 118 [.ref (ad 1)] h (fun v_ h_ => WR (d) cd_117 37 [some (.ref (ad 13)), some (.ref (ad 1)), some (.int (nI g)), some (.int (nI i)), o4] (v_.toList ++ []) h_ Q)) : WR (d) cd_117 9 [some (.ref (ad 13)), some (.ref (ad 1)), some (.int (nI g)), some (.int (nI i)), o4] [] h Q := by
  have fx0 := fx
  refine r_iload rfl rfl ?_
  refine r_if_lt (tg := 64) rfl rfl (fun q => False.elim (by have : (nI i).toInt = ((i : Nat) : Int) := nI_toInt (by omega); have : (0 : Int32).toInt = 0 := rfl; have := i_lt q; omega)) (fun _ => ?_)
  refine r_aload rfl rfl ?_
  refine r_aload rfl rfl ?_
  refine r_getA (b := ad 15) rfl ⟨rfl, rfl, rfl⟩ (fx_t13 fx) (fx_r13_1 fx) ?_
  refine r_iload rfl rfl ?_
  refine r_iaload rfl (.inl (fx_t15 fx)) (vp_ct (fx_n15 fx) (vp_in_nI (by omega) (by omega))) ?_
  refine WR_tI (congrArg (hI h (ad 15)) ((nI_clamp (by omega)) : _ = i)) ?_
  refine WR_tI (y := nI o) t1 ?_
  refine r_aaloadA (b := y) rfl (isQ_of (fx_t1 fx) (by decide)) (vp_ct (fx_n1 fx) (vp_in_nI (by omega) (by omega))) (Eq.trans (congrArg (hR h (ad 1)) ((nI_clamp (by omega)) : _ = o)) r1) ?_
  refine r_ifnonnullA (tg := 33) rfl rfl ?_
  refine r_aload rfl rfl ?_
  refine r_cs (y := 118) (ra := [.ref (ad 1)]) (rest := []) rfl ⟨⟨rfl, rfl⟩, by decide⟩ rfl rfl (Nat.le_of_ble_eq_true rfl) ?_
  exact (C1)

set_option maxHeartbeats 2000000 in
theorem w_gbms {d : Nat} {Q : mQ} {n : Nat} {ad sa : Nat → Nat} {z0 : Nat} {h : mH} (fx : FX n ad sa z0 h) {i g : Nat} (i9 : i < 100) (i1 : 1 ≤ i) (g9 : g ≤ 100) {o4 : Option Value} 
    (K1 : WR (d) cd_117 9 [some (.ref (ad 13)), some (.ref (ad 1)), some (.int (nI g)), some (.int (nI (i - 1))), some (.int (-1))] [] h Q) : WR (d) cd_117 37 [some (.ref (ad 13)), some (.ref (ad 1)), some (.int (nI g)), some (.int (nI i)), o4] [.int (-1)] h Q := by
  have fx0 := fx
  refine r_istore (lv' := [some (.ref (ad 13)), some (.ref (ad 1)), some (.int (nI g)), some (.int (nI i)), some (.int (-1))]) rfl (Nat.le_of_ble_eq_true rfl) rfl ?_
  refine r_iload rfl rfl ?_
  refine r_ic (x := (-1)) rfl rfl ?_
  refine r_icmp_eq (tg := 58) rfl rfl (fun _ => ?_) (fun q => absurd q (by decide))
  refine r_iinc (y := nI (i - 1)) (lv' := [some (.ref (ad 13)), some (.ref (ad 1)), some (.int (nI g)), some (.int (nI (i - 1))), some (.int (-1))]) rfl rfl (nI_dec (by omega)) rfl ?_
  refine r_goto (tg := 9) rfl rfl ?_
  exact (K1)

set_option maxHeartbeats 2000000 in
theorem w_gbps {d : Nat} {Q : mQ} {n : Nat} {ad sa : Nat → Nat} {z0 : Nat} {h : mH} (fx : FX n ad sa z0 h) {i g : Nat} (i9 : i < 100) (i1 : 1 ≤ i) (g9 : g ≤ 100) {o4 : Option Value} {c x : Nat} (c9 : c < 24) (ox : okE 24 (hT h x)) (r2 : hR h (ad 14) i = some x) 
    (K1 : WR (d) cd_117 9 [some (.ref (ad 13)), some (.ref (ad 1)), some (.int (nI (g + 1))), some (.int (nI (i - 1))), some (.int (nI c))] [] (sR h (ad 1) c (some x)) Q) : WR (d) cd_117 37 [some (.ref (ad 13)), some (.ref (ad 1)), some (.int (nI g)), some (.int (nI i)), o4] [.int (nI c)] h Q := by
  have fx0 := fx
  refine r_istore (lv' := [some (.ref (ad 13)), some (.ref (ad 1)), some (.int (nI g)), some (.int (nI i)), some (.int (nI c))]) rfl (Nat.le_of_ble_eq_true rfl) rfl ?_
  refine r_iload rfl rfl ?_
  refine r_ic (x := (-1)) rfl rfl ?_
  refine r_icmp_eq (tg := 58) rfl rfl (fun q => False.elim (by have : (nI c).toInt = ((c : Nat) : Int) := nI_toInt (by omega); have : (-1 : Int32).toInt = -1 := rfl; have := i_eq q; omega)) (fun _ => ?_)
  refine r_aload rfl rfl ?_
  refine r_iload rfl rfl ?_
  refine r_aload rfl rfl ?_
  refine r_getA (b := ad 14) rfl ⟨rfl, rfl, rfl⟩ (fx_t13 fx) (fx_r13_0 fx) ?_
  refine r_iload rfl rfl ?_
  refine r_aaloadA (b := x) rfl (isQ_of (fx_t14 fx) (by decide)) (vp_ct (fx_n14 fx) (vp_in_nI (by omega) (by omega))) (Eq.trans (congrArg (hR h (ad 14)) ((nI_clamp (by omega)) : _ = i)) r2) ?_
  refine r_aastoreA rfl (isQ_of (fx_t1 fx) (by decide)) (vp_ct (fx_n1 fx) (vp_in_nI (by omega) (by omega))) (okR_or (fx_t1 fx) ox) ?_
  refine WR_h (h2 := sR h (ad 1) c (some x)) (congrArg (fun z => sR h (ad 1) z (some x)) ((nI_clamp (by omega)) : _ = c)) ?_
  have fx : FX n ad sa z0 (sR h (ad 1) c (some x)) := FX.sRA (i := 1) fx (.inl (by decide)) (by decide)
  refine r_iinc (y := nI (g + 1)) (lv' := [some (.ref (ad 13)), some (.ref (ad 1)), some (.int (nI (g + 1))), some (.int (nI i)), some (.int (nI c))]) rfl rfl (nI_1 _) rfl ?_
  refine r_iinc (y := nI (i - 1)) (lv' := [some (.ref (ad 13)), some (.ref (ad 1)), some (.int (nI (g + 1))), some (.int (nI (i - 1))), some (.int (nI c))]) rfl rfl (nI_dec (by omega)) rfl ?_
  refine r_goto (tg := 9) rfl rfl ?_
  exact (K1)

set_option maxHeartbeats 2000000 in
theorem w_le0 {d : Nat} {Q : mQ} {n : Nat} {ad sa : Nat → Nat} {z0 : Nat} {h : mH} (fx : FX n ad sa z0 h) 
    (K1 : WR (d) cd_118 2 [some (.ref (ad 1)), some (.int 0)] [] h Q) : EV (d + 1) 118 [.ref (ad 1)] h Q := by
  have fx0 := fx
  refine in_118 (Nat.le_of_ble_eq_true rfl) ?_
  show WR _ cd_118 0 [some (.ref (ad 1)), none] [] h _
  refine r_ic (x := 0) rfl rfl ?_
  refine r_istore (lv' := [some (.ref (ad 1)), some (.int 0)]) rfl (Nat.le_of_ble_eq_true rfl) rfl ?_
  exact (K1)

set_option maxHeartbeats 2000000 in
theorem w_lee {d : Nat} {Q : mQ} {n : Nat} {ad sa : Nat → Nat} {z0 : Nat} {h : mH} (fx : FX n ad sa z0 h) 
    (L1 : Q (some (.int (-1))) h) : WR (d) cd_118 2 [some (.ref (ad 1)), some (.int 24)] [] h Q := by
  have fx0 := fx
  refine r_iload rfl rfl ?_
  refine r_aload rfl rfl ?_
  refine r_alen rfl (isA_of (fx_t1 fx) (by decide)) ?_
  refine WR_tI (y := 24) (congrArg nI (fx_n1 fx)) ?_
  refine r_icmp_ge (tg := 22) rfl rfl (fun _ => ?_) (fun q => absurd q (by decide))
  refine r_ic (x := (-1)) rfl rfl ?_
  refine r_iret rfl ?_
  exact (L1)

set_option maxHeartbeats 2000000 in
theorem w_len {d : Nat} {Q : mQ} {n : Nat} {ad sa : Nat → Nat} {z0 : Nat} {h : mH} (fx : FX n ad sa z0 h) {c : Nat} (c9 : c < 24) (r1 : hR h (ad 1) c = none) 
    (L1 : Q (some (.int (nI c))) h) : WR (d) cd_118 2 [some (.ref (ad 1)), some (.int (nI c))] [] h Q := by
  have fx0 := fx
  refine r_iload rfl rfl ?_
  refine r_aload rfl rfl ?_
  refine r_alen rfl (isA_of (fx_t1 fx) (by decide)) ?_
  refine WR_tI (y := 24) (congrArg nI (fx_n1 fx)) ?_
  refine r_icmp_ge (tg := 22) rfl rfl (fun q => False.elim (by have : (nI c).toInt = ((c : Nat) : Int) := nI_toInt (by omega); have : (24 : Int32).toInt = 24 := rfl; have := i_le q; omega)) (fun _ => ?_)
  refine r_aload rfl rfl ?_
  refine r_iload rfl rfl ?_
  refine r_aaload0 rfl (isQ_of (fx_t1 fx) (by decide)) (vp_ct (fx_n1 fx) (vp_in_nI (by omega) (by omega))) (Eq.trans (congrArg (hR h (ad 1)) ((nI_clamp (by omega)) : _ = c)) r1) ?_
  refine r_ifnonnullN (tg := 16) rfl rfl ?_
  refine r_iload rfl rfl ?_
  refine r_iret rfl ?_
  exact (L1)

set_option maxHeartbeats 2000000 in
theorem w_les {d : Nat} {Q : mQ} {n : Nat} {ad sa : Nat → Nat} {z0 : Nat} {h : mH} (fx : FX n ad sa z0 h) {c y : Nat} (c9 : c < 24) (r1 : hR h (ad 1) c = some y) 
    (K1 : WR (d) cd_118 2 [some (.ref (ad 1)), some (.int (nI (c + 1)))] [] h Q) : WR (d) cd_118 2 [some (.ref (ad 1)), some (.int (nI c))] [] h Q := by
  have fx0 := fx
  refine r_iload rfl rfl ?_
  refine r_aload rfl rfl ?_
  refine r_alen rfl (isA_of (fx_t1 fx) (by decide)) ?_
  refine WR_tI (y := 24) (congrArg nI (fx_n1 fx)) ?_
  refine r_icmp_ge (tg := 22) rfl rfl (fun q => False.elim (by have : (nI c).toInt = ((c : Nat) : Int) := nI_toInt (by omega); have : (24 : Int32).toInt = 24 := rfl; have := i_le q; omega)) (fun _ => ?_)
  refine r_aload rfl rfl ?_
  refine r_iload rfl rfl ?_
  refine r_aaloadA (b := y) rfl (isQ_of (fx_t1 fx) (by decide)) (vp_ct (fx_n1 fx) (vp_in_nI (by omega) (by omega))) (Eq.trans (congrArg (hR h (ad 1)) ((nI_clamp (by omega)) : _ = c)) r1) ?_
  refine r_ifnonnullA (tg := 16) rfl rfl ?_
  refine r_iinc (y := nI (c + 1)) (lv' := [some (.ref (ad 1)), some (.int (nI (c + 1)))]) rfl rfl (nI_1 _) rfl ?_
  refine r_goto (tg := 2) rfl rfl ?_
  exact (K1)

set_option maxHeartbeats 2000000 in
theorem w_re0 {d : Nat} {Q : mQ} {n : Nat} {ad sa : Nat → Nat} {z0 : Nat} {h : mH} (fx : FX n ad sa z0 h) 
    (B1 : ∀ j, j < 24 → okR (sI h (ad 16) 5 0) 24 (hR (sI h (ad 16) 5 0) (ad 1) (0 + j)))
    (K1 : WR (d) cd_100 17 [some (.ref (ad 16)), some (.ref (ad 1)), some (.ref (ad 7)), none] [] (cpR (sI h (ad 16) 5 0) (ad 1) 0 (ad 17) 0 24) Q) : EV (d + 1) 100 [.ref (ad 16), .ref (ad 1), .ref (ad 7)] h Q := by
  have fx0 := fx
  refine in_100 (Nat.le_of_ble_eq_true rfl) ?_
  show WR _ cd_100 0 [some (.ref (ad 16)), some (.ref (ad 1)), some (.ref (ad 7)), none] [] h _
  refine r_aload rfl rfl ?_
  refine r_ic (x := 0) rfl rfl ?_
  refine r_putI rfl ⟨rfl, rfl, rfl⟩ (fx_t16 fx) ?_
  have fx : FX n ad sa z0 (sI h (ad 16) 5 0) := (FX.sI fx)
  refine r_aload rfl rfl ?_
  refine r_ic (x := 0) rfl rfl ?_
  refine r_aload rfl rfl ?_
  refine r_getA (b := ad 17) rfl ⟨rfl, rfl, rfl⟩ (fx_t16 fx) (fx_r16_0 fx) ?_
  refine r_ic (x := 0) rfl rfl ?_
  refine r_ic (x := 24) rfl rfl ?_
  refine r_acpR rfl ⟨(by decide), (by decide), (by decide), (by rw [(fx_n1 fx), show (0 : Int32).toNatClampNeg = 0 from rfl, show (24 : Int32).toNatClampNeg = 24 from rfl]; omega), (by rw [(fx_n17 fx), show (0 : Int32).toNatClampNeg = 0 from rfl, show (24 : Int32).toNatClampNeg = 24 from rfl]; omega), (Nat.le_of_ble_eq_true rfl), (Eq.trans (fx_t1 fx) (Eq.symm (fx_t17 fx)))⟩ (isQ_of (fx_t17 fx) (by decide)) (by rw [(fx_t17 fx), show (0 : Int32).toNatClampNeg = 0 from rfl, show (24 : Int32).toNatClampNeg = 24 from rfl]; exact (B1)) ?_
  refine WR_h (h2 := cpR (sI h (ad 16) 5 0) (ad 1) 0 (ad 17) 0 24) rfl ?_
  exact (K1)

set_option maxHeartbeats 2000000 in
theorem w_re1 {d : Nat} {Q : mQ} {n : Nat} {ad sa : Nat → Nat} {z0 : Nat} {h : mH} (fx : FX n ad sa z0 h) {o3 : Option Value} 
    (K1 : WR (d) cd_100 19 [some (.ref (ad 16)), some (.ref (ad 1)), some (.ref (ad 7)), some (.int 0)] [] h Q) : WR (d) cd_100 17 [some (.ref (ad 16)), some (.ref (ad 1)), some (.ref (ad 7)), o3] [] h Q := by
  have fx0 := fx
  refine r_ic (x := 0) rfl rfl ?_
  refine r_istore (lv' := [some (.ref (ad 16)), some (.ref (ad 1)), some (.ref (ad 7)), some (.int 0)]) rfl (Nat.le_of_ble_eq_true rfl) rfl ?_
  exact (K1)

set_option maxHeartbeats 2000000 in
theorem w_ree {d : Nat} {Q : mQ} {n : Nat} {ad sa : Nat → Nat} {z0 : Nat} {h : mH} (fx : FX n ad sa z0 h) {t : Nat} (tn : t = n) (n6 : n ≤ 6) 
    (L1 : Q none h) : WR (d) cd_100 19 [some (.ref (ad 16)), some (.ref (ad 1)), some (.ref (ad 7)), some (.int (nI t))] [] h Q := by
  have fx0 := fx
  refine r_iload rfl rfl ?_
  refine r_aload rfl rfl ?_
  refine r_alen rfl (isA_of (fx_t7 fx) (by decide)) ?_
  refine WR_tI (y := nI n) (congrArg nI (fx_n7 fx)) ?_
  refine r_icmp_ge (tg := 49) rfl rfl (fun _ => ?_) (fun q => False.elim (by have : (nI t).toInt = ((t : Nat) : Int) := nI_toInt (by omega); have : (nI n).toInt = ((n : Nat) : Int) := nI_toInt (by omega); have := i_nle q; omega))
  refine r_vret rfl ?_
  exact (L1)

set_option maxHeartbeats 2000000 in
theorem w_ret {d : Nat} {Q : mQ} {n : Nat} {ad sa : Nat → Nat} {z0 : Nat} {h : mH} (fx : FX n ad sa z0 h) {t : Nat} (ha : t < n) (n6 : n ≤ 6) (tu1 : hR h (ad 7) t = some (ad (100 + 5 * t))) (tu2 : hT h (ad (100 + 5 * t)) = 8) (tu3 : hR h (ad (100 + 5 * t)) 5 = some (ad (101 + 5 * t))) (tu4 : hT h (ad (101 + 5 * t)) = 26) (tu5 : hN h (ad (101 + 5 * t)) = 5) 
    (B1 : ∀ j, j < 5 → okR h 26 (hR h (ad (101 + 5 * t)) (0 + j)))
    (K1 : WR (d) cd_100 43 [some (.ref (ad 16)), some (.ref (ad 1)), some (.ref (ad 7)), some (.int (nI t))] [] (cpR h (ad (101 + 5 * t)) 0 (ad 18) (5 * t) 5) Q) : WR (d) cd_100 19 [some (.ref (ad 16)), some (.ref (ad 1)), some (.ref (ad 7)), some (.int (nI t))] [] h Q := by
  have fx0 := fx
  refine r_iload rfl rfl ?_
  refine r_aload rfl rfl ?_
  refine r_alen rfl (isA_of (fx_t7 fx) (by decide)) ?_
  refine WR_tI (y := nI n) (congrArg nI (fx_n7 fx)) ?_
  refine r_icmp_ge (tg := 49) rfl rfl (fun q => False.elim (by have : (nI t).toInt = ((t : Nat) : Int) := nI_toInt (by omega); have : (nI n).toInt = ((n : Nat) : Int) := nI_toInt (by omega); have := i_le q; omega)) (fun _ => ?_)
  refine r_aload rfl rfl ?_
  refine r_iload rfl rfl ?_
  refine r_aaloadA (b := ad (100 + 5 * t)) rfl (isQ_of (fx_t7 fx) (by decide)) (vp_ct (fx_n7 fx) (vp_in_nI (by omega) (by omega))) (Eq.trans (congrArg (hR h (ad 7)) ((nI_clamp (by omega)) : _ = t)) tu1) ?_
  refine r_getA (b := ad (101 + 5 * t)) rfl ⟨rfl, rfl, rfl⟩ tu2 tu3 ?_
  refine r_ic (x := 0) rfl rfl ?_
  refine r_aload rfl rfl ?_
  refine r_getA (b := ad 18) rfl ⟨rfl, rfl, rfl⟩ (fx_t16 fx) (fx_r16_1 fx) ?_
  refine r_iload rfl rfl ?_
  refine r_ic (x := 5) rfl rfl ?_
  refine r_imul rfl ?_
  refine WR_tI (y := nI (5 * t)) (Eq.trans (pk_mul t 5) (congrArg nI (by omega))) ?_
  refine r_ic (x := 5) rfl rfl ?_
  refine r_acpR rfl ⟨(by decide), (nI_pos (by omega)), (by decide), (by rw [tu5, show (0 : Int32).toNatClampNeg = 0 from rfl, show (5 : Int32).toNatClampNeg = 5 from rfl]; omega), (by rw [(fx_n18 fx), show (nI (5 * t)).toNatClampNeg = 5 * t from (nI_clamp (by omega)), show (5 : Int32).toNatClampNeg = 5 from rfl]; omega), (Nat.le_of_ble_eq_true rfl), (Eq.trans tu4 (Eq.symm (fx_t18 fx)))⟩ (isQ_of (fx_t18 fx) (by decide)) (by rw [(fx_t18 fx), show (0 : Int32).toNatClampNeg = 0 from rfl, show (5 : Int32).toNatClampNeg = 5 from rfl]; exact (B1)) ?_
  refine WR_h (h2 := cpR h (ad (101 + 5 * t)) 0 (ad 18) (5 * t) 5) (by rw [show (0 : Int32).toNatClampNeg = 0 from rfl, show (nI (5 * t)).toNatClampNeg = 5 * t from (nI_clamp (by omega)), show (5 : Int32).toNatClampNeg = 5 from rfl]) ?_
  exact (K1)

set_option maxHeartbeats 2000000 in
theorem w_rer {d : Nat} {Q : mQ} {n : Nat} {ad sa : Nat → Nat} {z0 : Nat} {h : mH} (fx : FX n ad sa z0 h) {t : Nat} (t6 : t < 6) 
    (K1 : WR (d) cd_100 19 [some (.ref (ad 16)), some (.ref (ad 1)), some (.ref (ad 7)), some (.int (nI (t + 1)))] [] h Q) : WR (d) cd_100 43 [some (.ref (ad 16)), some (.ref (ad 1)), some (.ref (ad 7)), some (.int (nI t))] [] h Q := by
  have fx0 := fx
  refine r_iinc (y := nI (t + 1)) (lv' := [some (.ref (ad 16)), some (.ref (ad 1)), some (.ref (ad 7)), some (.int (nI (t + 1)))]) rfl rfl (nI_1 _) rfl ?_
  refine r_goto (tg := 19) rfl rfl ?_
  exact (K1)

set_option maxHeartbeats 2000000 in
theorem w_bb0 {d : Nat} {Q : mQ} {n : Nat} {ad sa : Nat → Nat} {z0 : Nat} {h : mH} (fx : FX n ad sa z0 h) (ew : hI h (ad 16) 5 = 0) 
    (K1 : WR (d) cd_116 7 [some (.ref (ad 16)), some (.ref (ad 1)), some (.ref (ad 7)), some (.int (-1))] [] h Q) : EV (d + 1) 116 [.ref (ad 16), .ref (ad 1), .ref (ad 7)] h Q := by
  have fx0 := fx
  refine in_116 (Nat.le_of_ble_eq_true rfl) ?_
  show WR _ cd_116 0 [some (.ref (ad 16)), some (.ref (ad 1)), some (.ref (ad 7)), none] [] h _
  refine r_aload rfl rfl ?_
  refine r_getI rfl ⟨rfl, rfl, rfl⟩ (fx_t16 fx) ?_
  refine WR_tI (y := 0) ew ?_
  refine r_ic (x := 1) rfl rfl ?_
  refine r_isub rfl ?_
  refine WR_tI (y := (-1)) rfl ?_
  refine r_istore (lv' := [some (.ref (ad 16)), some (.ref (ad 1)), some (.ref (ad 7)), some (.int (-1))]) rfl (Nat.le_of_ble_eq_true rfl) rfl ?_
  exact (K1)

set_option maxHeartbeats 2000000 in
theorem w_bb1 {d : Nat} {Q : mQ} {n : Nat} {ad sa : Nat → Nat} {z0 : Nat} {h : mH} (fx : FX n ad sa z0 h) {W : Nat} (w1 : 1 ≤ W) (w2 : W ≤ 100) (ew : hI h (ad 16) 5 = nI W) 
    (K1 : WR (d) cd_116 7 [some (.ref (ad 16)), some (.ref (ad 1)), some (.ref (ad 7)), some (.int (nI (W - 1)))] [] h Q) : EV (d + 1) 116 [.ref (ad 16), .ref (ad 1), .ref (ad 7)] h Q := by
  have fx0 := fx
  refine in_116 (Nat.le_of_ble_eq_true rfl) ?_
  show WR _ cd_116 0 [some (.ref (ad 16)), some (.ref (ad 1)), some (.ref (ad 7)), none] [] h _
  refine r_aload rfl rfl ?_
  refine r_getI rfl ⟨rfl, rfl, rfl⟩ (fx_t16 fx) ?_
  refine WR_tI (y := nI W) ew ?_
  refine r_ic (x := 1) rfl rfl ?_
  refine r_isub rfl ?_
  refine WR_tI (y := nI (W - 1)) (Eq.trans (pk_sub (a := W) (b := 1) (by omega)) (congrArg nI (by omega))) ?_
  refine r_istore (lv' := [some (.ref (ad 16)), some (.ref (ad 1)), some (.ref (ad 7)), some (.int (nI (W - 1)))]) rfl (Nat.le_of_ble_eq_true rfl) rfl ?_
  exact (K1)

set_option maxHeartbeats 2000000 in
theorem w_bbe {d : Nat} {Q : mQ} {n : Nat} {ad sa : Nat → Nat} {z0 : Nat} {h : mH} (fx : FX n ad sa z0 h) 
    (K1 : WR (d) cd_116 39 [some (.ref (ad 16)), some (.ref (ad 1)), some (.ref (ad 7)), some (.int (-1))] [] h Q) : WR (d) cd_116 7 [some (.ref (ad 16)), some (.ref (ad 1)), some (.ref (ad 7)), some (.int (-1))] [] h Q := by
  have fx0 := fx
  refine r_iload rfl rfl ?_
  refine r_if_lt (tg := 39) rfl rfl (fun _ => ?_) (fun q => absurd q (by decide))
  exact (K1)

set_option maxHeartbeats 2000000 in
theorem w_bbiz {d : Nat} {Q : mQ} {n : Nat} {ad sa : Nat → Nat} {z0 : Nat} {h : mH} (fx : FX n ad sa z0 h) {x b sz : Nat} (zx : z0 ≤ x) (tx : hT h x = 5) (rx : hR h x 1 = some (x + 1)) (tX : hT h (x + 1) = 21) (nX : hN h (x + 1) = sz) (s3 : sz ≤ 30) (hb : b < sz) (r1 : hR h (ad 19) 0 = some x) (t1 : hI h (ad 20) 0 = nI b) 
    (K1 : WR (d) cd_116 7 [some (.ref (ad 16)), some (.ref (ad 1)), some (.ref (ad 7)), some (.int (-1))] [] (sL h (x + 1) b (hL h (ad 21) 0)) Q) : WR (d) cd_116 7 [some (.ref (ad 16)), some (.ref (ad 1)), some (.ref (ad 7)), some (.int 0)] [] h Q := by
  have fx0 := fx
  refine r_iload rfl rfl ?_
  refine r_if_lt (tg := 39) rfl rfl (fun q => absurd q (by decide)) (fun _ => ?_)
  refine r_aload rfl rfl ?_
  refine r_getA (b := ad 19) rfl ⟨rfl, rfl, rfl⟩ (fx_t16 fx) (fx_r16_2 fx) ?_
  refine r_iload rfl rfl ?_
  refine r_aaloadA (b := x) rfl (isQ_of (fx_t19 fx) (by decide)) (vp_ct (fx_n19 fx) (vp_in_nI (n := 0) (by omega) (by omega))) r1 ?_
  refine r_getA (b := x + 1) rfl ⟨rfl, rfl, rfl⟩ tx rx ?_
  refine r_aload rfl rfl ?_
  refine r_getA (b := ad 20) rfl ⟨rfl, rfl, rfl⟩ (fx_t16 fx) (fx_r16_3 fx) ?_
  refine r_iload rfl rfl ?_
  refine r_iaload rfl (.inl (fx_t20 fx)) (vp_ct (fx_n20 fx) (vp_in_nI (n := 0) (by omega) (by omega))) ?_
  refine WR_tI (y := hI h (ad 20) 0) rfl ?_
  refine WR_tI (y := nI b) t1 ?_
  refine r_aload rfl rfl ?_
  refine r_getA (b := ad 21) rfl ⟨rfl, rfl, rfl⟩ (fx_t16 fx) (fx_r16_4 fx) ?_
  refine r_iload rfl rfl ?_
  refine r_laload rfl (fx_t21 fx) (vp_ct (fx_n21 fx) (vp_in_nI (n := 0) (by omega) (by omega))) ?_
  refine WR_tL (y := hL h (ad 21) 0) rfl ?_
  refine r_lastore rfl tX (vp_ct nX (vp_in_nI (by omega) (by omega))) ?_
  refine WR_h (h2 := sL h (x + 1) b (hL h (ad 21) 0)) (congrArg (fun z => sL h (x + 1) z (hL h (ad 21) 0)) ((nI_clamp (by omega)) : _ = b)) ?_
  have fx : FX n ad sa z0 (sL h (x + 1) b (hL h (ad 21) 0)) := (FX.sL fx)
  refine r_iinc (y := (-1)) (lv' := [some (.ref (ad 16)), some (.ref (ad 1)), some (.ref (ad 7)), some (.int (-1))]) rfl rfl rfl rfl ?_
  refine r_goto (tg := 7) rfl rfl ?_
  exact (K1)

set_option maxHeartbeats 2000000 in
theorem w_bbis {d : Nat} {Q : mQ} {n : Nat} {ad sa : Nat → Nat} {z0 : Nat} {h : mH} (fx : FX n ad sa z0 h) {i x b sz : Nat} (i1 : 1 ≤ i) (i9 : i < 100) (zx : z0 ≤ x) (tx : hT h x = 5) (rx : hR h x 1 = some (x + 1)) (tX : hT h (x + 1) = 21) (nX : hN h (x + 1) = sz) (s3 : sz ≤ 30) (hb : b < sz) (r1 : hR h (ad 19) i = some x) (t1 : hI h (ad 20) i = nI b) 
    (K1 : WR (d) cd_116 7 [some (.ref (ad 16)), some (.ref (ad 1)), some (.ref (ad 7)), some (.int (nI (i - 1)))] [] (sL h (x + 1) b (hL h (ad 21) i)) Q) : WR (d) cd_116 7 [some (.ref (ad 16)), some (.ref (ad 1)), some (.ref (ad 7)), some (.int (nI i))] [] h Q := by
  have fx0 := fx
  refine r_iload rfl rfl ?_
  refine r_if_lt (tg := 39) rfl rfl (fun q => False.elim (by have : (nI i).toInt = ((i : Nat) : Int) := nI_toInt (by omega); have : (0 : Int32).toInt = 0 := rfl; have := i_lt q; omega)) (fun _ => ?_)
  refine r_aload rfl rfl ?_
  refine r_getA (b := ad 19) rfl ⟨rfl, rfl, rfl⟩ (fx_t16 fx) (fx_r16_2 fx) ?_
  refine r_iload rfl rfl ?_
  refine r_aaloadA (b := x) rfl (isQ_of (fx_t19 fx) (by decide)) (vp_ct (fx_n19 fx) (vp_in_nI (by omega) (by omega))) (Eq.trans (congrArg (hR h (ad 19)) ((nI_clamp (by omega)) : _ = i)) r1) ?_
  refine r_getA (b := x + 1) rfl ⟨rfl, rfl, rfl⟩ tx rx ?_
  refine r_aload rfl rfl ?_
  refine r_getA (b := ad 20) rfl ⟨rfl, rfl, rfl⟩ (fx_t16 fx) (fx_r16_3 fx) ?_
  refine r_iload rfl rfl ?_
  refine r_iaload rfl (.inl (fx_t20 fx)) (vp_ct (fx_n20 fx) (vp_in_nI (by omega) (by omega))) ?_
  refine WR_tI (congrArg (hI h (ad 20)) ((nI_clamp (by omega)) : _ = i)) ?_
  refine WR_tI (y := nI b) t1 ?_
  refine r_aload rfl rfl ?_
  refine r_getA (b := ad 21) rfl ⟨rfl, rfl, rfl⟩ (fx_t16 fx) (fx_r16_4 fx) ?_
  refine r_iload rfl rfl ?_
  refine r_laload rfl (fx_t21 fx) (vp_ct (fx_n21 fx) (vp_in_nI (by omega) (by omega))) ?_
  refine WR_tL (congrArg (hL h (ad 21)) ((nI_clamp (by omega)) : _ = i)) ?_
  refine r_lastore rfl tX (vp_ct nX (vp_in_nI (by omega) (by omega))) ?_
  refine WR_h (h2 := sL h (x + 1) b (hL h (ad 21) i)) (congrArg (fun z => sL h (x + 1) z (hL h (ad 21) i)) ((nI_clamp (by omega)) : _ = b)) ?_
  have fx : FX n ad sa z0 (sL h (x + 1) b (hL h (ad 21) i)) := (FX.sL fx)
  refine r_iinc (y := nI (i - 1)) (lv' := [some (.ref (ad 16)), some (.ref (ad 1)), some (.ref (ad 7)), some (.int (nI (i - 1)))]) rfl rfl (nI_dec (by omega)) rfl ?_
  refine r_goto (tg := 7) rfl rfl ?_
  exact (K1)

set_option maxHeartbeats 2000000 in
theorem w_bb39 {d : Nat} {Q : mQ} {n : Nat} {ad sa : Nat → Nat} {z0 : Nat} {h : mH} (fx : FX n ad sa z0 h) {o3 : Option Value} 
    (B1 : ∀ j, j < 24 → okR h 24 (hR h (ad 17) (0 + j)))
    (K1 : WR (d) cd_116 51 [some (.ref (ad 16)), some (.ref (ad 1)), some (.ref (ad 7)), o3] [] (cpR h (ad 17) 0 (ad 1) 0 24) Q) : WR (d) cd_116 39 [some (.ref (ad 16)), some (.ref (ad 1)), some (.ref (ad 7)), o3] [] h Q := by
  have fx0 := fx
  refine r_aload rfl rfl ?_
  refine r_getA (b := ad 17) rfl ⟨rfl, rfl, rfl⟩ (fx_t16 fx) (fx_r16_0 fx) ?_
  refine r_ic (x := 0) rfl rfl ?_
  refine r_aload rfl rfl ?_
  refine r_ic (x := 0) rfl rfl ?_
  refine r_ic (x := 24) rfl rfl ?_
  refine r_acpR rfl ⟨(by decide), (by decide), (by decide), (by rw [(fx_n17 fx), show (0 : Int32).toNatClampNeg = 0 from rfl, show (24 : Int32).toNatClampNeg = 24 from rfl]; omega), (by rw [(fx_n1 fx), show (0 : Int32).toNatClampNeg = 0 from rfl, show (24 : Int32).toNatClampNeg = 24 from rfl]; omega), (Nat.le_of_ble_eq_true rfl), (Eq.trans (fx_t17 fx) (Eq.symm (fx_t1 fx)))⟩ (isQ_of (fx_t1 fx) (by decide)) (by rw [(fx_t1 fx), show (0 : Int32).toNatClampNeg = 0 from rfl, show (24 : Int32).toNatClampNeg = 24 from rfl]; exact (B1)) ?_
  refine WR_h (h2 := cpR h (ad 17) 0 (ad 1) 0 24) rfl ?_
  exact (K1)

set_option maxHeartbeats 2000000 in
theorem w_bb51 {d : Nat} {Q : mQ} {n : Nat} {ad sa : Nat → Nat} {z0 : Nat} {h : mH} (fx : FX n ad sa z0 h) {o3 : Option Value} 
    (K1 : WR (d) cd_116 53 [some (.ref (ad 16)), some (.ref (ad 1)), some (.ref (ad 7)), some (.int 0)] [] h Q) : WR (d) cd_116 51 [some (.ref (ad 16)), some (.ref (ad 1)), some (.ref (ad 7)), o3] [] h Q := by
  have fx0 := fx
  refine r_ic (x := 0) rfl rfl ?_
  refine r_istore (lv' := [some (.ref (ad 16)), some (.ref (ad 1)), some (.ref (ad 7)), some (.int 0)]) rfl (Nat.le_of_ble_eq_true rfl) rfl ?_
  exact (K1)

set_option maxHeartbeats 2000000 in
theorem w_bbx {d : Nat} {Q : mQ} {n : Nat} {ad sa : Nat → Nat} {z0 : Nat} {h : mH} (fx : FX n ad sa z0 h) {t : Nat} (tn : t = n) (n6 : n ≤ 6) 
    (L1 : Q none h) : WR (d) cd_116 53 [some (.ref (ad 16)), some (.ref (ad 1)), some (.ref (ad 7)), some (.int (nI t))] [] h Q := by
  have fx0 := fx
  refine r_iload rfl rfl ?_
  refine r_aload rfl rfl ?_
  refine r_alen rfl (isA_of (fx_t7 fx) (by decide)) ?_
  refine WR_tI (y := nI n) (congrArg nI (fx_n7 fx)) ?_
  refine r_icmp_ge (tg := 83) rfl rfl (fun _ => ?_) (fun q => False.elim (by have : (nI t).toInt = ((t : Nat) : Int) := nI_toInt (by omega); have : (nI n).toInt = ((n : Nat) : Int) := nI_toInt (by omega); have := i_nle q; omega))
  refine r_vret rfl ?_
  exact (L1)

set_option maxHeartbeats 2000000 in
theorem w_bbt {d : Nat} {Q : mQ} {n : Nat} {ad sa : Nat → Nat} {z0 : Nat} {h : mH} (fx : FX n ad sa z0 h) {t : Nat} (ha : t < n) (n6 : n ≤ 6) (tu1 : hR h (ad 7) t = some (ad (100 + 5 * t))) (tu2 : hT h (ad (100 + 5 * t)) = 8) (tu3 : hR h (ad (100 + 5 * t)) 5 = some (ad (101 + 5 * t))) (tu4 : hT h (ad (101 + 5 * t)) = 26) (tu5 : hN h (ad (101 + 5 * t)) = 5) 
    (B1 : ∀ j, j < 5 → okR h 26 (hR h (ad 18) (5 * t + j)))
    (K1 : WR (d) cd_116 77 [some (.ref (ad 16)), some (.ref (ad 1)), some (.ref (ad 7)), some (.int (nI t))] [] (cpR h (ad 18) (5 * t) (ad (101 + 5 * t)) 0 5) Q) : WR (d) cd_116 53 [some (.ref (ad 16)), some (.ref (ad 1)), some (.ref (ad 7)), some (.int (nI t))] [] h Q := by
  have fx0 := fx
  refine r_iload rfl rfl ?_
  refine r_aload rfl rfl ?_
  refine r_alen rfl (isA_of (fx_t7 fx) (by decide)) ?_
  refine WR_tI (y := nI n) (congrArg nI (fx_n7 fx)) ?_
  refine r_icmp_ge (tg := 83) rfl rfl (fun q => False.elim (by have : (nI t).toInt = ((t : Nat) : Int) := nI_toInt (by omega); have : (nI n).toInt = ((n : Nat) : Int) := nI_toInt (by omega); have := i_le q; omega)) (fun _ => ?_)
  refine r_aload rfl rfl ?_
  refine r_getA (b := ad 18) rfl ⟨rfl, rfl, rfl⟩ (fx_t16 fx) (fx_r16_1 fx) ?_
  refine r_iload rfl rfl ?_
  refine r_ic (x := 5) rfl rfl ?_
  refine r_imul rfl ?_
  refine WR_tI (y := nI (5 * t)) (Eq.trans (pk_mul t 5) (congrArg nI (by omega))) ?_
  refine r_aload rfl rfl ?_
  refine r_iload rfl rfl ?_
  refine r_aaloadA (b := ad (100 + 5 * t)) rfl (isQ_of (fx_t7 fx) (by decide)) (vp_ct (fx_n7 fx) (vp_in_nI (by omega) (by omega))) (Eq.trans (congrArg (hR h (ad 7)) ((nI_clamp (by omega)) : _ = t)) tu1) ?_
  refine r_getA (b := ad (101 + 5 * t)) rfl ⟨rfl, rfl, rfl⟩ tu2 tu3 ?_
  refine r_ic (x := 0) rfl rfl ?_
  refine r_ic (x := 5) rfl rfl ?_
  refine r_acpR rfl ⟨(nI_pos (by omega)), (by decide), (by decide), (by rw [(fx_n18 fx), show (nI (5 * t)).toNatClampNeg = 5 * t from (nI_clamp (by omega)), show (5 : Int32).toNatClampNeg = 5 from rfl]; omega), (by rw [tu5, show (0 : Int32).toNatClampNeg = 0 from rfl, show (5 : Int32).toNatClampNeg = 5 from rfl]; omega), (Nat.le_of_ble_eq_true rfl), (Eq.trans (fx_t18 fx) (Eq.symm tu4))⟩ (isQ_of tu4 (by decide)) (by rw [tu4, show (nI (5 * t)).toNatClampNeg = 5 * t from (nI_clamp (by omega)), show (5 : Int32).toNatClampNeg = 5 from rfl]; exact (B1)) ?_
  refine WR_h (h2 := cpR h (ad 18) (5 * t) (ad (101 + 5 * t)) 0 5) (by rw [show (nI (5 * t)).toNatClampNeg = 5 * t from (nI_clamp (by omega)), show (0 : Int32).toNatClampNeg = 0 from rfl, show (5 : Int32).toNatClampNeg = 5 from rfl]) ?_
  exact (K1)

set_option maxHeartbeats 2000000 in
theorem w_bbr {d : Nat} {Q : mQ} {n : Nat} {ad sa : Nat → Nat} {z0 : Nat} {h : mH} (fx : FX n ad sa z0 h) {t : Nat} (t6 : t < 6) 
    (K1 : WR (d) cd_116 53 [some (.ref (ad 16)), some (.ref (ad 1)), some (.ref (ad 7)), some (.int (nI (t + 1)))] [] h Q) : WR (d) cd_116 77 [some (.ref (ad 16)), some (.ref (ad 1)), some (.ref (ad 7)), some (.int (nI t))] [] h Q := by
  have fx0 := fx
  refine r_iinc (y := nI (t + 1)) (lv' := [some (.ref (ad 16)), some (.ref (ad 1)), some (.ref (ad 7)), some (.int (nI (t + 1)))]) rfl rfl (nI_1 _) rfl ?_
  refine r_goto (tg := 53) rfl rfl ?_
  exact (K1)

set_option maxHeartbeats 2000000 in
theorem w_ka0 {d : Nat} {Q : mQ} {n : Nat} {ad sa : Nat → Nat} {z0 : Nat} {h : mH} (fx : FX n ad sa z0 h) 
    (K1 : WR (d) cd_210 2 [some (.ref (ad 30)), some (.int 0), some (.int 0)] [] h Q) : EV (d + 1) 210 [.ref (ad 30), .int 0] h Q := by
  have fx0 := fx
  refine in_210 (Nat.le_of_ble_eq_true rfl) ?_
  show WR _ cd_210 0 [some (.ref (ad 30)), some (.int 0), none] [] h _
  refine r_ic (x := 0) rfl rfl ?_
  refine r_istore (lv' := [some (.ref (ad 30)), some (.int 0), some (.int 0)]) rfl (Nat.le_of_ble_eq_true rfl) rfl ?_
  exact (K1)

set_option maxHeartbeats 2000000 in
theorem w_ka0_2 {d : Nat} {Q : mQ} {n : Nat} {ad sa : Nat → Nat} {z0 : Nat} {h : mH} (fx : FX n ad sa z0 h) {i : Nat} (il : i < 24) 
    (K1 : WR (d) cd_210 2 [some (.ref (ad 30)), some (.int 0), some (.int (nI (i + 1)))] [] (sI h (ad 58) i (hI h (ad 31) i)) Q) : WR (d) cd_210 2 [some (.ref (ad 30)), some (.int 0), some (.int (nI i))] [] h Q := by
  have fx0 := fx
  refine r_iload rfl rfl ?_
  refine r_ic (x := 24) rfl rfl ?_
  refine r_icmp_ge (tg := 45) rfl rfl (fun q => False.elim (by have : (nI i).toInt = ((i : Nat) : Int) := nI_toInt (by omega); have : (24 : Int32).toInt = 24 := rfl; have := i_le q; omega)) (fun _ => ?_)
  refine r_iload rfl rfl ?_
  refine r_if_eq (tg := 27) rfl rfl (fun _ => ?_) (fun q => absurd q (by decide))
  refine r_aload rfl rfl ?_
  refine r_getA (b := ad 58) rfl ⟨rfl, rfl, rfl⟩ (fx_t30 fx) (fx_r30_44 fx) ?_
  refine r_iload rfl rfl ?_
  refine r_aload rfl rfl ?_
  refine r_getA (b := ad 31) rfl ⟨rfl, rfl, rfl⟩ (fx_t30 fx) (fx_r30_0 fx) ?_
  refine r_iload rfl rfl ?_
  refine r_iaload rfl (.inl (fx_t31 fx)) (vp_ct (fx_n31 fx) (vp_in_nI (by omega) (by omega))) ?_
  refine WR_tI (congrArg (hI h (ad 31)) ((nI_clamp (by omega)) : _ = i)) ?_
  refine r_iastore rfl (fx_t58 fx) (vp_ct (fx_n58 fx) (vp_in_nI (by omega) (by omega))) ?_
  refine WR_h (h2 := sI h (ad 58) i (hI h (ad 31) i)) (congrArg (fun z => sI h (ad 58) z (hI h (ad 31) i)) ((nI_clamp (by omega)) : _ = i)) ?_
  have fx : FX n ad sa z0 (sI h (ad 58) i (hI h (ad 31) i)) := (FX.sI fx)
  refine r_iinc (y := nI (i + 1)) (lv' := [some (.ref (ad 30)), some (.int 0), some (.int (nI (i + 1)))]) rfl rfl (nI_1 _) rfl ?_
  refine r_goto (tg := 2) rfl rfl ?_
  exact (K1)

set_option maxHeartbeats 2000000 in
theorem w_ka0_2e {d : Nat} {Q : mQ} {n : Nat} {ad sa : Nat → Nat} {z0 : Nat} {h : mH} (fx : FX n ad sa z0 h) 
    (K1 : WR (d) cd_210 47 [some (.ref (ad 30)), some (.int 0), some (.int 0)] [] h Q) : WR (d) cd_210 2 [some (.ref (ad 30)), some (.int 0), some (.int 24)] [] h Q := by
  have fx0 := fx
  refine r_iload rfl rfl ?_
  refine r_ic (x := 24) rfl rfl ?_
  refine r_icmp_ge (tg := 45) rfl rfl (fun _ => ?_) (fun q => absurd q (by decide))
  refine r_ic (x := 0) rfl rfl ?_
  refine r_istore (lv' := [some (.ref (ad 30)), some (.int 0), some (.int 0)]) rfl (Nat.le_of_ble_eq_true rfl) rfl ?_
  exact (K1)

set_option maxHeartbeats 2000000 in
theorem w_ka0_47 {d : Nat} {Q : mQ} {n : Nat} {ad sa : Nat → Nat} {z0 : Nat} {h : mH} (fx : FX n ad sa z0 h) {i : Nat} (il : i < 30) 
    (K1 : WR (d) cd_210 47 [some (.ref (ad 30)), some (.int 0), some (.int (nI (i + 1)))] [] (sI h (ad 59) i (hI h (ad 57) i)) Q) : WR (d) cd_210 47 [some (.ref (ad 30)), some (.int 0), some (.int (nI i))] [] h Q := by
  have fx0 := fx
  refine r_iload rfl rfl ?_
  refine r_ic (x := 30) rfl rfl ?_
  refine r_icmp_ge (tg := 90) rfl rfl (fun q => False.elim (by have : (nI i).toInt = ((i : Nat) : Int) := nI_toInt (by omega); have : (30 : Int32).toInt = 30 := rfl; have := i_le q; omega)) (fun _ => ?_)
  refine r_iload rfl rfl ?_
  refine r_if_eq (tg := 72) rfl rfl (fun _ => ?_) (fun q => absurd q (by decide))
  refine r_aload rfl rfl ?_
  refine r_getA (b := ad 59) rfl ⟨rfl, rfl, rfl⟩ (fx_t30 fx) (fx_r30_45 fx) ?_
  refine r_iload rfl rfl ?_
  refine r_aload rfl rfl ?_
  refine r_getA (b := ad 57) rfl ⟨rfl, rfl, rfl⟩ (fx_t30 fx) (fx_r30_41 fx) ?_
  refine r_iload rfl rfl ?_
  refine r_iaload rfl (.inl (fx_t57 fx)) (vp_ct (fx_n57 fx) (vp_in_nI (by omega) (by omega))) ?_
  refine WR_tI (congrArg (hI h (ad 57)) ((nI_clamp (by omega)) : _ = i)) ?_
  refine r_iastore rfl (fx_t59 fx) (vp_ct (fx_n59 fx) (vp_in_nI (by omega) (by omega))) ?_
  refine WR_h (h2 := sI h (ad 59) i (hI h (ad 57) i)) (congrArg (fun z => sI h (ad 59) z (hI h (ad 57) i)) ((nI_clamp (by omega)) : _ = i)) ?_
  have fx : FX n ad sa z0 (sI h (ad 59) i (hI h (ad 57) i)) := (FX.sI fx)
  refine r_iinc (y := nI (i + 1)) (lv' := [some (.ref (ad 30)), some (.int 0), some (.int (nI (i + 1)))]) rfl rfl (nI_1 _) rfl ?_
  refine r_goto (tg := 47) rfl rfl ?_
  exact (K1)

set_option maxHeartbeats 2000000 in
theorem w_ka0_47e {d : Nat} {Q : mQ} {n : Nat} {ad sa : Nat → Nat} {z0 : Nat} {h : mH} (fx : FX n ad sa z0 h) 
    (K1 : WR (d) cd_210 92 [some (.ref (ad 30)), some (.int 0), some (.int 0)] [] h Q) : WR (d) cd_210 47 [some (.ref (ad 30)), some (.int 0), some (.int 30)] [] h Q := by
  have fx0 := fx
  refine r_iload rfl rfl ?_
  refine r_ic (x := 30) rfl rfl ?_
  refine r_icmp_ge (tg := 90) rfl rfl (fun _ => ?_) (fun q => absurd q (by decide))
  refine r_ic (x := 0) rfl rfl ?_
  refine r_istore (lv' := [some (.ref (ad 30)), some (.int 0), some (.int 0)]) rfl (Nat.le_of_ble_eq_true rfl) rfl ?_
  exact (K1)

set_option maxHeartbeats 2000000 in
theorem w_ka0_92 {d : Nat} {Q : mQ} {n : Nat} {ad sa : Nat → Nat} {z0 : Nat} {h : mH} (fx : FX n ad sa z0 h) {i : Nat} (il : i < 7500) 
    (K1 : WR (d) cd_210 92 [some (.ref (ad 30)), some (.int 0), some (.int (nI (i + 1)))] [] (sL h (ad 60) i (hL h (ad 36) i)) Q) : WR (d) cd_210 92 [some (.ref (ad 30)), some (.int 0), some (.int (nI i))] [] h Q := by
  have fx0 := fx
  refine r_iload rfl rfl ?_
  refine r_ic (x := 7500) rfl rfl ?_
  refine r_icmp_ge (tg := 136) rfl rfl (fun q => False.elim (by have : (nI i).toInt = ((i : Nat) : Int) := nI_toInt (by omega); have : (7500 : Int32).toInt = 7500 := rfl; have := i_le q; omega)) (fun _ => ?_)
  refine r_iload rfl rfl ?_
  refine r_if_eq (tg := 118) rfl rfl (fun _ => ?_) (fun q => absurd q (by decide))
  refine r_aload rfl rfl ?_
  refine r_getA (b := ad 60) rfl ⟨rfl, rfl, rfl⟩ (fx_t30 fx) (fx_r30_46 fx) ?_
  refine r_iload rfl rfl ?_
  refine r_aload rfl rfl ?_
  refine r_getA (b := ad 36) rfl ⟨rfl, rfl, rfl⟩ (fx_t30 fx) (fx_r30_5 fx) ?_
  refine r_iload rfl rfl ?_
  refine r_laload rfl (fx_t36 fx) (vp_ct (fx_n36 fx) (vp_in_nI (by omega) (by omega))) ?_
  refine WR_tL (congrArg (hL h (ad 36)) ((nI_clamp (by omega)) : _ = i)) ?_
  refine r_lastore rfl (fx_t60 fx) (vp_ct (fx_n60 fx) (vp_in_nI (by omega) (by omega))) ?_
  refine WR_h (h2 := sL h (ad 60) i (hL h (ad 36) i)) (congrArg (fun z => sL h (ad 60) z (hL h (ad 36) i)) ((nI_clamp (by omega)) : _ = i)) ?_
  have fx : FX n ad sa z0 (sL h (ad 60) i (hL h (ad 36) i)) := (FX.sL fx)
  refine r_iinc (y := nI (i + 1)) (lv' := [some (.ref (ad 30)), some (.int 0), some (.int (nI (i + 1)))]) rfl rfl (nI_1 _) rfl ?_
  refine r_goto (tg := 92) rfl rfl ?_
  exact (K1)

set_option maxHeartbeats 2000000 in
theorem w_ka0_92e {d : Nat} {Q : mQ} {n : Nat} {ad sa : Nat → Nat} {z0 : Nat} {h : mH} (fx : FX n ad sa z0 h) 
    (L1 : Q none h) : WR (d) cd_210 92 [some (.ref (ad 30)), some (.int 0), some (.int 7500)] [] h Q := by
  have fx0 := fx
  refine r_iload rfl rfl ?_
  refine r_ic (x := 7500) rfl rfl ?_
  refine r_icmp_ge (tg := 136) rfl rfl (fun _ => ?_) (fun q => absurd q (by decide))
  refine r_vret rfl ?_
  exact (L1)

set_option maxHeartbeats 2000000 in
theorem w_ka1 {d : Nat} {Q : mQ} {n : Nat} {ad sa : Nat → Nat} {z0 : Nat} {h : mH} (fx : FX n ad sa z0 h) 
    (K1 : WR (d) cd_210 2 [some (.ref (ad 30)), some (.int 1), some (.int 0)] [] h Q) : EV (d + 1) 210 [.ref (ad 30), .int 1] h Q := by
  have fx0 := fx
  refine in_210 (Nat.le_of_ble_eq_true rfl) ?_
  show WR _ cd_210 0 [some (.ref (ad 30)), some (.int 1), none] [] h _
  refine r_ic (x := 0) rfl rfl ?_
  refine r_istore (lv' := [some (.ref (ad 30)), some (.int 1), some (.int 0)]) rfl (Nat.le_of_ble_eq_true rfl) rfl ?_
  exact (K1)

set_option maxHeartbeats 2000000 in
theorem w_ka1_2 {d : Nat} {Q : mQ} {n : Nat} {ad sa : Nat → Nat} {z0 : Nat} {h : mH} (fx : FX n ad sa z0 h) {i : Nat} (il : i < 24) 
    (K1 : WR (d) cd_210 2 [some (.ref (ad 30)), some (.int 1), some (.int (nI (i + 1)))] [] (sI h (ad 31) i (hI h (ad 58) i)) Q) : WR (d) cd_210 2 [some (.ref (ad 30)), some (.int 1), some (.int (nI i))] [] h Q := by
  have fx0 := fx
  refine r_iload rfl rfl ?_
  refine r_ic (x := 24) rfl rfl ?_
  refine r_icmp_ge (tg := 45) rfl rfl (fun q => False.elim (by have : (nI i).toInt = ((i : Nat) : Int) := nI_toInt (by omega); have : (24 : Int32).toInt = 24 := rfl; have := i_le q; omega)) (fun _ => ?_)
  refine r_iload rfl rfl ?_
  refine r_if_eq (tg := 27) rfl rfl (fun q => absurd q (by decide)) (fun _ => ?_)
  refine r_aload rfl rfl ?_
  refine r_getA (b := ad 31) rfl ⟨rfl, rfl, rfl⟩ (fx_t30 fx) (fx_r30_0 fx) ?_
  refine r_iload rfl rfl ?_
  refine r_aload rfl rfl ?_
  refine r_getA (b := ad 58) rfl ⟨rfl, rfl, rfl⟩ (fx_t30 fx) (fx_r30_44 fx) ?_
  refine r_iload rfl rfl ?_
  refine r_iaload rfl (.inl (fx_t58 fx)) (vp_ct (fx_n58 fx) (vp_in_nI (by omega) (by omega))) ?_
  refine WR_tI (congrArg (hI h (ad 58)) ((nI_clamp (by omega)) : _ = i)) ?_
  refine r_iastore rfl (fx_t31 fx) (vp_ct (fx_n31 fx) (vp_in_nI (by omega) (by omega))) ?_
  refine WR_h (h2 := sI h (ad 31) i (hI h (ad 58) i)) (congrArg (fun z => sI h (ad 31) z (hI h (ad 58) i)) ((nI_clamp (by omega)) : _ = i)) ?_
  have fx : FX n ad sa z0 (sI h (ad 31) i (hI h (ad 58) i)) := (FX.sI fx)
  refine r_goto (tg := 39) rfl rfl ?_
  refine r_iinc (y := nI (i + 1)) (lv' := [some (.ref (ad 30)), some (.int 1), some (.int (nI (i + 1)))]) rfl rfl (nI_1 _) rfl ?_
  refine r_goto (tg := 2) rfl rfl ?_
  exact (K1)

set_option maxHeartbeats 2000000 in
theorem w_ka1_2e {d : Nat} {Q : mQ} {n : Nat} {ad sa : Nat → Nat} {z0 : Nat} {h : mH} (fx : FX n ad sa z0 h) 
    (K1 : WR (d) cd_210 47 [some (.ref (ad 30)), some (.int 1), some (.int 0)] [] h Q) : WR (d) cd_210 2 [some (.ref (ad 30)), some (.int 1), some (.int 24)] [] h Q := by
  have fx0 := fx
  refine r_iload rfl rfl ?_
  refine r_ic (x := 24) rfl rfl ?_
  refine r_icmp_ge (tg := 45) rfl rfl (fun _ => ?_) (fun q => absurd q (by decide))
  refine r_ic (x := 0) rfl rfl ?_
  refine r_istore (lv' := [some (.ref (ad 30)), some (.int 1), some (.int 0)]) rfl (Nat.le_of_ble_eq_true rfl) rfl ?_
  exact (K1)

set_option maxHeartbeats 2000000 in
theorem w_ka1_47 {d : Nat} {Q : mQ} {n : Nat} {ad sa : Nat → Nat} {z0 : Nat} {h : mH} (fx : FX n ad sa z0 h) {i : Nat} (il : i < 30) 
    (K1 : WR (d) cd_210 47 [some (.ref (ad 30)), some (.int 1), some (.int (nI (i + 1)))] [] (sI h (ad 57) i (hI h (ad 59) i)) Q) : WR (d) cd_210 47 [some (.ref (ad 30)), some (.int 1), some (.int (nI i))] [] h Q := by
  have fx0 := fx
  refine r_iload rfl rfl ?_
  refine r_ic (x := 30) rfl rfl ?_
  refine r_icmp_ge (tg := 90) rfl rfl (fun q => False.elim (by have : (nI i).toInt = ((i : Nat) : Int) := nI_toInt (by omega); have : (30 : Int32).toInt = 30 := rfl; have := i_le q; omega)) (fun _ => ?_)
  refine r_iload rfl rfl ?_
  refine r_if_eq (tg := 72) rfl rfl (fun q => absurd q (by decide)) (fun _ => ?_)
  refine r_aload rfl rfl ?_
  refine r_getA (b := ad 57) rfl ⟨rfl, rfl, rfl⟩ (fx_t30 fx) (fx_r30_41 fx) ?_
  refine r_iload rfl rfl ?_
  refine r_aload rfl rfl ?_
  refine r_getA (b := ad 59) rfl ⟨rfl, rfl, rfl⟩ (fx_t30 fx) (fx_r30_45 fx) ?_
  refine r_iload rfl rfl ?_
  refine r_iaload rfl (.inl (fx_t59 fx)) (vp_ct (fx_n59 fx) (vp_in_nI (by omega) (by omega))) ?_
  refine WR_tI (congrArg (hI h (ad 59)) ((nI_clamp (by omega)) : _ = i)) ?_
  refine r_iastore rfl (fx_t57 fx) (vp_ct (fx_n57 fx) (vp_in_nI (by omega) (by omega))) ?_
  refine WR_h (h2 := sI h (ad 57) i (hI h (ad 59) i)) (congrArg (fun z => sI h (ad 57) z (hI h (ad 59) i)) ((nI_clamp (by omega)) : _ = i)) ?_
  have fx : FX n ad sa z0 (sI h (ad 57) i (hI h (ad 59) i)) := (FX.sI fx)
  refine r_goto (tg := 84) rfl rfl ?_
  refine r_iinc (y := nI (i + 1)) (lv' := [some (.ref (ad 30)), some (.int 1), some (.int (nI (i + 1)))]) rfl rfl (nI_1 _) rfl ?_
  refine r_goto (tg := 47) rfl rfl ?_
  exact (K1)

set_option maxHeartbeats 2000000 in
theorem w_ka1_47e {d : Nat} {Q : mQ} {n : Nat} {ad sa : Nat → Nat} {z0 : Nat} {h : mH} (fx : FX n ad sa z0 h) 
    (K1 : WR (d) cd_210 92 [some (.ref (ad 30)), some (.int 1), some (.int 0)] [] h Q) : WR (d) cd_210 47 [some (.ref (ad 30)), some (.int 1), some (.int 30)] [] h Q := by
  have fx0 := fx
  refine r_iload rfl rfl ?_
  refine r_ic (x := 30) rfl rfl ?_
  refine r_icmp_ge (tg := 90) rfl rfl (fun _ => ?_) (fun q => absurd q (by decide))
  refine r_ic (x := 0) rfl rfl ?_
  refine r_istore (lv' := [some (.ref (ad 30)), some (.int 1), some (.int 0)]) rfl (Nat.le_of_ble_eq_true rfl) rfl ?_
  exact (K1)

set_option maxHeartbeats 2000000 in
theorem w_ka1_92 {d : Nat} {Q : mQ} {n : Nat} {ad sa : Nat → Nat} {z0 : Nat} {h : mH} (fx : FX n ad sa z0 h) {i : Nat} (il : i < 7500) 
    (K1 : WR (d) cd_210 92 [some (.ref (ad 30)), some (.int 1), some (.int (nI (i + 1)))] [] (sL h (ad 36) i (hL h (ad 60) i)) Q) : WR (d) cd_210 92 [some (.ref (ad 30)), some (.int 1), some (.int (nI i))] [] h Q := by
  have fx0 := fx
  refine r_iload rfl rfl ?_
  refine r_ic (x := 7500) rfl rfl ?_
  refine r_icmp_ge (tg := 136) rfl rfl (fun q => False.elim (by have : (nI i).toInt = ((i : Nat) : Int) := nI_toInt (by omega); have : (7500 : Int32).toInt = 7500 := rfl; have := i_le q; omega)) (fun _ => ?_)
  refine r_iload rfl rfl ?_
  refine r_if_eq (tg := 118) rfl rfl (fun q => absurd q (by decide)) (fun _ => ?_)
  refine r_aload rfl rfl ?_
  refine r_getA (b := ad 36) rfl ⟨rfl, rfl, rfl⟩ (fx_t30 fx) (fx_r30_5 fx) ?_
  refine r_iload rfl rfl ?_
  refine r_aload rfl rfl ?_
  refine r_getA (b := ad 60) rfl ⟨rfl, rfl, rfl⟩ (fx_t30 fx) (fx_r30_46 fx) ?_
  refine r_iload rfl rfl ?_
  refine r_laload rfl (fx_t60 fx) (vp_ct (fx_n60 fx) (vp_in_nI (by omega) (by omega))) ?_
  refine WR_tL (congrArg (hL h (ad 60)) ((nI_clamp (by omega)) : _ = i)) ?_
  refine r_lastore rfl (fx_t36 fx) (vp_ct (fx_n36 fx) (vp_in_nI (by omega) (by omega))) ?_
  refine WR_h (h2 := sL h (ad 36) i (hL h (ad 60) i)) (congrArg (fun z => sL h (ad 36) z (hL h (ad 60) i)) ((nI_clamp (by omega)) : _ = i)) ?_
  have fx : FX n ad sa z0 (sL h (ad 36) i (hL h (ad 60) i)) := (FX.sL fx)
  refine r_goto (tg := 130) rfl rfl ?_
  refine r_iinc (y := nI (i + 1)) (lv' := [some (.ref (ad 30)), some (.int 1), some (.int (nI (i + 1)))]) rfl rfl (nI_1 _) rfl ?_
  refine r_goto (tg := 92) rfl rfl ?_
  exact (K1)

set_option maxHeartbeats 2000000 in
theorem w_ka1_92e {d : Nat} {Q : mQ} {n : Nat} {ad sa : Nat → Nat} {z0 : Nat} {h : mH} (fx : FX n ad sa z0 h) 
    (L1 : Q none h) : WR (d) cd_210 92 [some (.ref (ad 30)), some (.int 1), some (.int 7500)] [] h Q := by
  have fx0 := fx
  refine r_iload rfl rfl ?_
  refine r_ic (x := 7500) rfl rfl ?_
  refine r_icmp_ge (tg := 136) rfl rfl (fun _ => ?_) (fun q => absurd q (by decide))
  refine r_vret rfl ?_
  exact (L1)

set_option maxHeartbeats 2000000 in
theorem w_ml0 {d : Nat} {Q : mQ} {n : Nat} {ad sa : Nat → Nat} {z0 : Nat} {h : mH} (fx : FX n ad sa z0 h) 
    (K1 : WR (d) cd_222 2 [some (.ref (ad 30)), some (.int 0)] [] h Q) : EV (d + 1) 222 [.ref (ad 30)] h Q := by
  have fx0 := fx
  refine in_222 (Nat.le_of_ble_eq_true rfl) ?_
  show WR _ cd_222 0 [some (.ref (ad 30)), none] [] h _
  refine r_ic (x := 0) rfl rfl ?_
  refine r_istore (lv' := [some (.ref (ad 30)), some (.int 0)]) rfl (Nat.le_of_ble_eq_true rfl) rfl ?_
  exact (K1)

set_option maxHeartbeats 2000000 in
theorem w_mle {d : Nat} {Q : mQ} {n : Nat} {ad sa : Nat → Nat} {z0 : Nat} {h : mH} (fx : FX n ad sa z0 h) 
    (L1 : Q (some (.int (-1))) h) : WR (d) cd_222 2 [some (.ref (ad 30)), some (.int 24)] [] h Q := by
  have fx0 := fx
  refine r_iload rfl rfl ?_
  refine r_ic (x := 24) rfl rfl ?_
  refine r_icmp_ge (tg := 24) rfl rfl (fun _ => ?_) (fun q => absurd q (by decide))
  refine r_iload rfl rfl ?_
  refine r_ic (x := 24) rfl rfl ?_
  refine r_icmp_ge (tg := 34) rfl rfl (fun _ => ?_) (fun q => absurd q (by decide))
  refine r_ic (x := (-1)) rfl rfl ?_
  refine r_iret rfl ?_
  exact (L1)

set_option maxHeartbeats 2000000 in
theorem w_mln {d : Nat} {Q : mQ} {n : Nat} {ad sa : Nat → Nat} {z0 : Nat} {h : mH} (fx : FX n ad sa z0 h) {c : Nat} (c9 : c < 24) (r1 : hI h (ad 31) c = -1) 
    (L1 : Q (some (.int (nI c))) h) : WR (d) cd_222 2 [some (.ref (ad 30)), some (.int (nI c))] [] h Q := by
  have fx0 := fx
  refine r_iload rfl rfl ?_
  refine r_ic (x := 24) rfl rfl ?_
  refine r_icmp_ge (tg := 24) rfl rfl (fun q => False.elim (by have : (nI c).toInt = ((c : Nat) : Int) := nI_toInt (by omega); have : (24 : Int32).toInt = 24 := rfl; have := i_le q; omega)) (fun _ => ?_)
  refine r_aload rfl rfl ?_
  refine r_getA (b := ad 31) rfl ⟨rfl, rfl, rfl⟩ (fx_t30 fx) (fx_r30_0 fx) ?_
  refine r_iload rfl rfl ?_
  refine r_iaload rfl (.inl (fx_t31 fx)) (vp_ct (fx_n31 fx) (vp_in_nI (by omega) (by omega))) ?_
  refine WR_tI (congrArg (hI h (ad 31)) ((nI_clamp (by omega)) : _ = c)) ?_
  refine WR_tI (y := (-1)) r1 ?_
  refine r_ic (x := (-1)) rfl rfl ?_
  refine r_icmp_eq (tg := 24) rfl rfl (fun _ => ?_) (fun q => absurd q (by decide))
  refine r_iload rfl rfl ?_
  refine r_ic (x := 24) rfl rfl ?_
  refine r_icmp_ge (tg := 34) rfl rfl (fun q => False.elim (by have : (nI c).toInt = ((c : Nat) : Int) := nI_toInt (by omega); have : (24 : Int32).toInt = 24 := rfl; have := i_le q; omega)) (fun _ => ?_)
  refine r_iload rfl rfl ?_
  refine r_goto (tg := 35) rfl rfl ?_
  refine r_iret rfl ?_
  exact (L1)

set_option maxHeartbeats 2000000 in
theorem w_mls {d : Nat} {Q : mQ} {n : Nat} {ad sa : Nat → Nat} {z0 : Nat} {h : mH} (fx : FX n ad sa z0 h) {c : Nat} {y : Int32} (c9 : c < 24) (r1 : hI h (ad 31) c = y) 
    (L1 : y = (-1) → Q (some (.int (nI c))) h)
    (K1 : ¬ y = (-1) → WR (d) cd_222 2 [some (.ref (ad 30)), some (.int (nI (c + 1)))] [] h Q) : WR (d) cd_222 2 [some (.ref (ad 30)), some (.int (nI c))] [] h Q := by
  have fx0 := fx
  refine r_iload rfl rfl ?_
  refine r_ic (x := 24) rfl rfl ?_
  refine r_icmp_ge (tg := 24) rfl rfl (fun q => False.elim (by have : (nI c).toInt = ((c : Nat) : Int) := nI_toInt (by omega); have : (24 : Int32).toInt = 24 := rfl; have := i_le q; omega)) (fun _ => ?_)
  refine r_aload rfl rfl ?_
  refine r_getA (b := ad 31) rfl ⟨rfl, rfl, rfl⟩ (fx_t30 fx) (fx_r30_0 fx) ?_
  refine r_iload rfl rfl ?_
  refine r_iaload rfl (.inl (fx_t31 fx)) (vp_ct (fx_n31 fx) (vp_in_nI (by omega) (by omega))) ?_
  refine WR_tI (congrArg (hI h (ad 31)) ((nI_clamp (by omega)) : _ = c)) ?_
  refine WR_tI (y := y) r1 ?_
  refine r_ic (x := (-1)) rfl rfl ?_
  refine r_icmp_eq (tg := 24) rfl rfl (fun c1 => ?_) (fun c1 => ?_)
  · refine r_iload rfl rfl ?_
    refine r_ic (x := 24) rfl rfl ?_
    refine r_icmp_ge (tg := 34) rfl rfl (fun q => False.elim (by have : (nI c).toInt = ((c : Nat) : Int) := nI_toInt (by omega); have : (24 : Int32).toInt = 24 := rfl; have := i_le q; omega)) (fun _ => ?_)
    refine r_iload rfl rfl ?_
    refine r_goto (tg := 35) rfl rfl ?_
    refine r_iret rfl ?_
    exact (L1 c1)
  · refine r_iinc (y := nI (c + 1)) (lv' := [some (.ref (ad 30)), some (.int (nI (c + 1)))]) rfl rfl (nI_1 _) rfl ?_
    refine r_goto (tg := 2) rfl rfl ?_
    exact (K1 c1)

set_option maxHeartbeats 2000000 in
theorem w_mg0 {d : Nat} {Q : mQ} {n : Nat} {ad sa : Nat → Nat} {z0 : Nat} {h : mH} (fx : FX n ad sa z0 h) (eh : hI h (ad 30) 37 = 0) 
    (K1 : WR (d) cd_221 7 [some (.ref (ad 30)), some (.int (-1)), none] [] h Q) : EV (d + 1) 221 [.ref (ad 30)] h Q := by
  have fx0 := fx
  refine in_221 (Nat.le_of_ble_eq_true rfl) ?_
  show WR _ cd_221 0 [some (.ref (ad 30)), none, none] [] h _
  refine r_aload rfl rfl ?_
  refine r_getI rfl ⟨rfl, rfl, rfl⟩ (fx_t30 fx) ?_
  refine WR_tI (y := 0) eh ?_
  refine r_ic (x := 1) rfl rfl ?_
  refine r_isub rfl ?_
  refine WR_tI (y := (-1)) rfl ?_
  refine r_istore (lv' := [some (.ref (ad 30)), some (.int (-1)), none]) rfl (Nat.le_of_ble_eq_true rfl) rfl ?_
  exact (K1)

set_option maxHeartbeats 2000000 in
theorem w_mg1 {d : Nat} {Q : mQ} {n : Nat} {ad sa : Nat → Nat} {z0 : Nat} {h : mH} (fx : FX n ad sa z0 h) {H : Nat} (h1 : 1 ≤ H) (h2 : H ≤ 100) (eh : hI h (ad 30) 37 = nI H) 
    (K1 : WR (d) cd_221 7 [some (.ref (ad 30)), some (.int (nI (H - 1))), none] [] h Q) : EV (d + 1) 221 [.ref (ad 30)] h Q := by
  have fx0 := fx
  refine in_221 (Nat.le_of_ble_eq_true rfl) ?_
  show WR _ cd_221 0 [some (.ref (ad 30)), none, none] [] h _
  refine r_aload rfl rfl ?_
  refine r_getI rfl ⟨rfl, rfl, rfl⟩ (fx_t30 fx) ?_
  refine WR_tI (y := nI H) eh ?_
  refine r_ic (x := 1) rfl rfl ?_
  refine r_isub rfl ?_
  refine WR_tI (y := nI (H - 1)) (Eq.trans (pk_sub (a := H) (b := 1) (by omega)) (congrArg nI (by omega))) ?_
  refine r_istore (lv' := [some (.ref (ad 30)), some (.int (nI (H - 1))), none]) rfl (Nat.le_of_ble_eq_true rfl) rfl ?_
  exact (K1)

set_option maxHeartbeats 2000000 in
theorem w_mge {d : Nat} {Q : mQ} {n : Nat} {ad sa : Nat → Nat} {z0 : Nat} {h : mH} (fx : FX n ad sa z0 h) {o2 : Option Value} 
    (L1 : Q none (sI h (ad 30) 37 0)) : WR (d) cd_221 7 [some (.ref (ad 30)), some (.int (-1)), o2] [] h Q := by
  have fx0 := fx
  refine r_iload rfl rfl ?_
  refine r_if_lt (tg := 73) rfl rfl (fun _ => ?_) (fun q => absurd q (by decide))
  refine r_aload rfl rfl ?_
  refine r_ic (x := 0) rfl rfl ?_
  refine r_putI rfl ⟨rfl, rfl, rfl⟩ (fx_t30 fx) ?_
  have fx : FX n ad sa z0 (sI h (ad 30) 37 0) := (FX.sI fx)
  refine r_vret rfl ?_
  exact (L1)

set_option maxHeartbeats 2000000 in
theorem w_mgiz {d : Nat} {Q : mQ} {n : Nat} {ad sa : Nat → Nat} {z0 : Nat} {h : mH} (fx : FX n ad sa z0 h) {o : Nat} {y : Int32} (o9 : o < 24) {o2 : Option Value} (t1 : hI h (ad 55) 0 = nI o) (r1 : hI h (ad 31) o = y) 
    (C1 : ¬ y = (-1) → EV (d) 222 [.ref (ad 30)] h (fun v_ h_ => WR (d) cd_221 39 [some (.ref (ad 30)), some (.int 0), o2] (v_.toList ++ []) h_ Q))
    (K1 : y = (-1) → WR (d) cd_221 39 [some (.ref (ad 30)), some (.int 0), o2] [.int (nI o)] h Q) : WR (d) cd_221 7 [some (.ref (ad 30)), some (.int 0), o2] [] h Q := by
  have fx0 := fx
  refine r_iload rfl rfl ?_
  refine r_if_lt (tg := 73) rfl rfl (fun q => absurd q (by decide)) (fun _ => ?_)
  refine r_aload rfl rfl ?_
  refine r_getA (b := ad 31) rfl ⟨rfl, rfl, rfl⟩ (fx_t30 fx) (fx_r30_0 fx) ?_
  refine r_aload rfl rfl ?_
  refine r_getA (b := ad 55) rfl ⟨rfl, rfl, rfl⟩ (fx_t30 fx) (fx_r30_39 fx) ?_
  refine r_iload rfl rfl ?_
  refine r_iaload rfl (.inl (fx_t55 fx)) (vp_ct (fx_n55 fx) (vp_in_nI (n := 0) (by omega) (by omega))) ?_
  refine WR_tI (y := hI h (ad 55) 0) rfl ?_
  refine WR_tI (y := nI o) t1 ?_
  refine r_iaload rfl (.inl (fx_t31 fx)) (vp_ct (fx_n31 fx) (vp_in_nI (by omega) (by omega))) ?_
  refine WR_tI (congrArg (hI h (ad 31)) ((nI_clamp (by omega)) : _ = o)) ?_
  refine WR_tI (y := y) r1 ?_
  refine r_ic (x := (-1)) rfl rfl ?_
  refine r_icmp_ne (tg := 35) rfl rfl (fun c1 => ?_) (fun c1 => ?_)
  · refine r_aload rfl rfl ?_
    refine r_cv (y := 222) (ra := []) (rest := []) rfl ⟨⟨rfl, rfl⟩, rfl, by decide⟩ (fx_t30 fx) rfl rfl (Nat.le_of_ble_eq_true rfl) ?_
    exact (C1 c1)
  · refine r_aload rfl rfl ?_
    refine r_getA (b := ad 55) rfl ⟨rfl, rfl, rfl⟩ (fx_t30 fx) (fx_r30_39 fx) ?_
    refine r_iload rfl rfl ?_
    refine r_iaload rfl (.inl (fx_t55 fx)) (vp_ct (fx_n55 fx) (vp_in_nI (n := 0) (by omega) (by omega))) ?_
    refine WR_tI (y := hI h (ad 55) 0) rfl ?_
    refine WR_tI (y := nI o) t1 ?_
    refine r_goto (tg := 39) rfl rfl ?_
    exact (K1 c1)

set_option maxHeartbeats 2000000 in
theorem w_mgmz {d : Nat} {Q : mQ} {n : Nat} {ad sa : Nat → Nat} {z0 : Nat} {h : mH} (fx : FX n ad sa z0 h) {o2 : Option Value} 
    (K1 : WR (d) cd_221 7 [some (.ref (ad 30)), some (.int (-1)), some (.int (-1))] [] h Q) : WR (d) cd_221 39 [some (.ref (ad 30)), some (.int 0), o2] [.int (-1)] h Q := by
  have fx0 := fx
  refine r_istore (lv' := [some (.ref (ad 30)), some (.int 0), some (.int (-1))]) rfl (Nat.le_of_ble_eq_true rfl) rfl ?_
  refine r_iload rfl rfl ?_
  refine r_ic (x := (-1)) rfl rfl ?_
  refine r_icmp_eq (tg := 67) rfl rfl (fun _ => ?_) (fun q => absurd q (by decide))
  refine r_iinc (y := (-1)) (lv' := [some (.ref (ad 30)), some (.int (-1)), some (.int (-1))]) rfl rfl rfl rfl ?_
  refine r_goto (tg := 7) rfl rfl ?_
  exact (K1)

set_option maxHeartbeats 2000000 in
theorem w_mgpz {d : Nat} {Q : mQ} {n : Nat} {ad sa : Nat → Nat} {z0 : Nat} {h : mH} (fx : FX n ad sa z0 h) {o2 : Option Value} {c g : Nat} (c9 : c < 24) (g9 : g ≤ 100) (e43 : hI h (ad 30) 43 = nI g) 
    (K1 : WR (d) cd_221 7 [some (.ref (ad 30)), some (.int (-1)), some (.int (nI c))] [] (sI (sI h (ad 31) c (hI h (ad 54) 0)) (ad 30) 43 (nI (g + 1))) Q) : WR (d) cd_221 39 [some (.ref (ad 30)), some (.int 0), o2] [.int (nI c)] h Q := by
  have fx0 := fx
  refine r_istore (lv' := [some (.ref (ad 30)), some (.int 0), some (.int (nI c))]) rfl (Nat.le_of_ble_eq_true rfl) rfl ?_
  refine r_iload rfl rfl ?_
  refine r_ic (x := (-1)) rfl rfl ?_
  refine r_icmp_eq (tg := 67) rfl rfl (fun q => False.elim (by have : (nI c).toInt = ((c : Nat) : Int) := nI_toInt (by omega); have : (-1 : Int32).toInt = -1 := rfl; have := i_eq q; omega)) (fun _ => ?_)
  refine r_aload rfl rfl ?_
  refine r_getA (b := ad 31) rfl ⟨rfl, rfl, rfl⟩ (fx_t30 fx) (fx_r30_0 fx) ?_
  refine r_iload rfl rfl ?_
  refine r_aload rfl rfl ?_
  refine r_getA (b := ad 54) rfl ⟨rfl, rfl, rfl⟩ (fx_t30 fx) (fx_r30_38 fx) ?_
  refine r_iload rfl rfl ?_
  refine r_iaload rfl (.inl (fx_t54 fx)) (vp_ct (fx_n54 fx) (vp_in_nI (n := 0) (by omega) (by omega))) ?_
  refine WR_tI (y := hI h (ad 54) 0) rfl ?_
  refine r_iastore rfl (fx_t31 fx) (vp_ct (fx_n31 fx) (vp_in_nI (by omega) (by omega))) ?_
  refine WR_h (h2 := sI h (ad 31) c (hI h (ad 54) 0)) (congrArg (fun z => sI h (ad 31) z (hI h (ad 54) 0)) ((nI_clamp (by omega)) : _ = c)) ?_
  have fx : FX n ad sa z0 (sI h (ad 31) c (hI h (ad 54) 0)) := (FX.sI fx)
  refine r_aload rfl rfl ?_
  refine r_dup rfl rfl ?_
  refine r_getI rfl ⟨rfl, rfl, rfl⟩ (fx_t30 fx) ?_
  refine WR_tI (y := nI g) (Eq.trans (I_ne (fx_ne fx (by decide))) e43) ?_
  refine r_ic (x := 1) rfl rfl ?_
  refine r_iadd rfl ?_
  refine WR_tI (y := nI (g + 1)) (Eq.trans (nI_add g 1) (congrArg nI (by omega))) ?_
  refine r_putI rfl ⟨rfl, rfl, rfl⟩ (fx_t30 fx) ?_
  have fx : FX n ad sa z0 (sI (sI h (ad 31) c (hI h (ad 54) 0)) (ad 30) 43 (nI (g + 1))) := (FX.sI fx)
  refine r_iinc (y := (-1)) (lv' := [some (.ref (ad 30)), some (.int (-1)), some (.int (nI c))]) rfl rfl rfl rfl ?_
  refine r_goto (tg := 7) rfl rfl ?_
  exact (K1)

set_option maxHeartbeats 2000000 in
theorem w_mgis {d : Nat} {Q : mQ} {n : Nat} {ad sa : Nat → Nat} {z0 : Nat} {h : mH} (fx : FX n ad sa z0 h) {i o : Nat} {y : Int32} (i9 : i < 100) (i1 : 1 ≤ i) (o9 : o < 24) {o2 : Option Value} (t1 : hI h (ad 55) i = nI o) (r1 : hI h (ad 31) o = y) 
    (C1 : ¬ y = (-1) → EV (d) 222 [.ref (ad 30)] h (fun v_ h_ => WR (d) cd_221 39 [some (.ref (ad 30)), some (.int (nI i)), o2] (v_.toList ++ []) h_ Q))
    (K1 : y = (-1) → WR (d) cd_221 39 [some (.ref (ad 30)), some (.int (nI i)), o2] [.int (nI o)] h Q) : WR (d) cd_221 7 [some (.ref (ad 30)), some (.int (nI i)), o2] [] h Q := by
  have fx0 := fx
  refine r_iload rfl rfl ?_
  refine r_if_lt (tg := 73) rfl rfl (fun q => False.elim (by have : (nI i).toInt = ((i : Nat) : Int) := nI_toInt (by omega); have : (0 : Int32).toInt = 0 := rfl; have := i_lt q; omega)) (fun _ => ?_)
  refine r_aload rfl rfl ?_
  refine r_getA (b := ad 31) rfl ⟨rfl, rfl, rfl⟩ (fx_t30 fx) (fx_r30_0 fx) ?_
  refine r_aload rfl rfl ?_
  refine r_getA (b := ad 55) rfl ⟨rfl, rfl, rfl⟩ (fx_t30 fx) (fx_r30_39 fx) ?_
  refine r_iload rfl rfl ?_
  refine r_iaload rfl (.inl (fx_t55 fx)) (vp_ct (fx_n55 fx) (vp_in_nI (by omega) (by omega))) ?_
  refine WR_tI (congrArg (hI h (ad 55)) ((nI_clamp (by omega)) : _ = i)) ?_
  refine WR_tI (y := nI o) t1 ?_
  refine r_iaload rfl (.inl (fx_t31 fx)) (vp_ct (fx_n31 fx) (vp_in_nI (by omega) (by omega))) ?_
  refine WR_tI (congrArg (hI h (ad 31)) ((nI_clamp (by omega)) : _ = o)) ?_
  refine WR_tI (y := y) r1 ?_
  refine r_ic (x := (-1)) rfl rfl ?_
  refine r_icmp_ne (tg := 35) rfl rfl (fun c1 => ?_) (fun c1 => ?_)
  · refine r_aload rfl rfl ?_
    refine r_cv (y := 222) (ra := []) (rest := []) rfl ⟨⟨rfl, rfl⟩, rfl, by decide⟩ (fx_t30 fx) rfl rfl (Nat.le_of_ble_eq_true rfl) ?_
    exact (C1 c1)
  · refine r_aload rfl rfl ?_
    refine r_getA (b := ad 55) rfl ⟨rfl, rfl, rfl⟩ (fx_t30 fx) (fx_r30_39 fx) ?_
    refine r_iload rfl rfl ?_
    refine r_iaload rfl (.inl (fx_t55 fx)) (vp_ct (fx_n55 fx) (vp_in_nI (by omega) (by omega))) ?_
    refine WR_tI (congrArg (hI h (ad 55)) ((nI_clamp (by omega)) : _ = i)) ?_
    refine WR_tI (y := nI o) t1 ?_
    refine r_goto (tg := 39) rfl rfl ?_
    exact (K1 c1)

set_option maxHeartbeats 2000000 in
theorem w_mgms {d : Nat} {Q : mQ} {n : Nat} {ad sa : Nat → Nat} {z0 : Nat} {h : mH} (fx : FX n ad sa z0 h) {i : Nat} (i9 : i < 100) (i1 : 1 ≤ i) {o2 : Option Value} 
    (K1 : WR (d) cd_221 7 [some (.ref (ad 30)), some (.int (nI (i - 1))), some (.int (-1))] [] h Q) : WR (d) cd_221 39 [some (.ref (ad 30)), some (.int (nI i)), o2] [.int (-1)] h Q := by
  have fx0 := fx
  refine r_istore (lv' := [some (.ref (ad 30)), some (.int (nI i)), some (.int (-1))]) rfl (Nat.le_of_ble_eq_true rfl) rfl ?_
  refine r_iload rfl rfl ?_
  refine r_ic (x := (-1)) rfl rfl ?_
  refine r_icmp_eq (tg := 67) rfl rfl (fun _ => ?_) (fun q => absurd q (by decide))
  refine r_iinc (y := nI (i - 1)) (lv' := [some (.ref (ad 30)), some (.int (nI (i - 1))), some (.int (-1))]) rfl rfl (nI_dec (by omega)) rfl ?_
  refine r_goto (tg := 7) rfl rfl ?_
  exact (K1)

set_option maxHeartbeats 2000000 in
theorem w_mgps {d : Nat} {Q : mQ} {n : Nat} {ad sa : Nat → Nat} {z0 : Nat} {h : mH} (fx : FX n ad sa z0 h) {i : Nat} (i9 : i < 100) (i1 : 1 ≤ i) {o2 : Option Value} {c g : Nat} (c9 : c < 24) (g9 : g ≤ 100) (e43 : hI h (ad 30) 43 = nI g) 
    (K1 : WR (d) cd_221 7 [some (.ref (ad 30)), some (.int (nI (i - 1))), some (.int (nI c))] [] (sI (sI h (ad 31) c (hI h (ad 54) i)) (ad 30) 43 (nI (g + 1))) Q) : WR (d) cd_221 39 [some (.ref (ad 30)), some (.int (nI i)), o2] [.int (nI c)] h Q := by
  have fx0 := fx
  refine r_istore (lv' := [some (.ref (ad 30)), some (.int (nI i)), some (.int (nI c))]) rfl (Nat.le_of_ble_eq_true rfl) rfl ?_
  refine r_iload rfl rfl ?_
  refine r_ic (x := (-1)) rfl rfl ?_
  refine r_icmp_eq (tg := 67) rfl rfl (fun q => False.elim (by have : (nI c).toInt = ((c : Nat) : Int) := nI_toInt (by omega); have : (-1 : Int32).toInt = -1 := rfl; have := i_eq q; omega)) (fun _ => ?_)
  refine r_aload rfl rfl ?_
  refine r_getA (b := ad 31) rfl ⟨rfl, rfl, rfl⟩ (fx_t30 fx) (fx_r30_0 fx) ?_
  refine r_iload rfl rfl ?_
  refine r_aload rfl rfl ?_
  refine r_getA (b := ad 54) rfl ⟨rfl, rfl, rfl⟩ (fx_t30 fx) (fx_r30_38 fx) ?_
  refine r_iload rfl rfl ?_
  refine r_iaload rfl (.inl (fx_t54 fx)) (vp_ct (fx_n54 fx) (vp_in_nI (by omega) (by omega))) ?_
  refine WR_tI (congrArg (hI h (ad 54)) ((nI_clamp (by omega)) : _ = i)) ?_
  refine r_iastore rfl (fx_t31 fx) (vp_ct (fx_n31 fx) (vp_in_nI (by omega) (by omega))) ?_
  refine WR_h (h2 := sI h (ad 31) c (hI h (ad 54) i)) (congrArg (fun z => sI h (ad 31) z (hI h (ad 54) i)) ((nI_clamp (by omega)) : _ = c)) ?_
  have fx : FX n ad sa z0 (sI h (ad 31) c (hI h (ad 54) i)) := (FX.sI fx)
  refine r_aload rfl rfl ?_
  refine r_dup rfl rfl ?_
  refine r_getI rfl ⟨rfl, rfl, rfl⟩ (fx_t30 fx) ?_
  refine WR_tI (y := nI g) (Eq.trans (I_ne (fx_ne fx (by decide))) e43) ?_
  refine r_ic (x := 1) rfl rfl ?_
  refine r_iadd rfl ?_
  refine WR_tI (y := nI (g + 1)) (Eq.trans (nI_add g 1) (congrArg nI (by omega))) ?_
  refine r_putI rfl ⟨rfl, rfl, rfl⟩ (fx_t30 fx) ?_
  have fx : FX n ad sa z0 (sI (sI h (ad 31) c (hI h (ad 54) i)) (ad 30) 43 (nI (g + 1))) := (FX.sI fx)
  refine r_iinc (y := nI (i - 1)) (lv' := [some (.ref (ad 30)), some (.int (nI (i - 1))), some (.int (nI c))]) rfl rfl (nI_dec (by omega)) rfl ?_
  refine r_goto (tg := 7) rfl rfl ?_
  exact (K1)

set_option maxHeartbeats 2000000 in
theorem w_ma0 {d : Nat} {Q : mQ} {n : Nat} {ad sa : Nat → Nat} {z0 : Nat} {h : mH} (fx : FX n ad sa z0 h) {p : Int32} 
    (L1 : p < 0 → Q (some (.int (-2))) (sI h (ad 30) 11 (-2)))
    (L2 : ¬ p < 0 → 10 ≤ p → Q (some (.int (-2))) (sI h (ad 30) 11 (-2)))
    (C1 : ¬ p < 0 → ¬ 10 ≤ p → EV (d + 1) 210 [.ref (ad 30), .int 0] h (fun v_ h_ => WR (d + 1) cd_209 19 [some (.ref (ad 30)), some (.int p)] (v_.toList ++ []) h_ Q)) : EV (d + 2) 209 [.ref (ad 30), .int p] h Q := by
  have fx0 := fx
  refine in_209 (Nat.le_of_ble_eq_true rfl) ?_
  show WR _ cd_209 0 [some (.ref (ad 30)), some (.int p)] [] h _
  refine r_iload rfl rfl ?_
  refine r_cs (y := 204) (ra := [.int p]) (rest := []) rfl ⟨⟨rfl, rfl⟩, by decide⟩ rfl rfl (Nat.le_of_ble_eq_true rfl) ?_
  refine in_204 (Nat.le_of_ble_eq_true rfl) ?_
  show WR _ cd_204 0 [some (.int p)] [] h _
  refine r_iload rfl rfl ?_
  refine r_if_lt (tg := 14) rfl rfl (fun c1 => ?_) (fun c1 => ?_)
  · refine r_ic (x := 0) rfl rfl ?_
    refine r_zret rfl (.inl rfl) ?_
    show WR _ cd_209 4 [some (.ref (ad 30)), some (.int p)] [.int 0] h _
    refine r_if_ne (tg := 14) rfl rfl (fun q => absurd q (by decide)) (fun _ => ?_)
    refine r_aload rfl rfl ?_
    refine r_ic (x := (-2)) rfl rfl ?_
    refine r_cv (y := 154) (ra := [.int (-2)]) (rest := []) rfl ⟨⟨rfl, rfl⟩, rfl, by decide⟩ (fx_t30 fx) rfl rfl (Nat.le_of_ble_eq_true rfl) ?_
    refine in_154 (Nat.le_of_ble_eq_true rfl) ?_
    show WR _ cd_154 0 [some (.ref (ad 30)), some (.int (-2))] [] h _
    refine r_aload rfl rfl ?_
    refine r_iload rfl rfl ?_
    refine r_ic (x := (-1)) rfl rfl ?_
    refine r_icmp_ge (tg := 10) rfl rfl (fun q => absurd q (by decide)) (fun _ => ?_)
    refine r_iload rfl rfl ?_
    refine r_goto (tg := 11) rfl rfl ?_
    refine r_putI rfl ⟨rfl, rfl, rfl⟩ (fx_t30 fx) ?_
    have fx : FX n ad sa z0 (sI h (ad 30) 11 (-2)) := (FX.sI fx)
    refine r_iload rfl rfl ?_
    refine r_iret rfl ?_
    show WR _ cd_209 13 [some (.ref (ad 30)), some (.int p)] [.int (-2)] (sI h (ad 30) 11 (-2)) _
    refine r_iret rfl ?_
    exact (L1 c1)
  · refine r_iload rfl rfl ?_
    refine r_ic (x := 10) rfl rfl ?_
    refine r_icmp_ge (tg := 14) rfl rfl (fun c2 => ?_) (fun c2 => ?_)
    · refine r_ic (x := 0) rfl rfl ?_
      refine r_zret rfl (.inl rfl) ?_
      show WR _ cd_209 4 [some (.ref (ad 30)), some (.int p)] [.int 0] h _
      refine r_if_ne (tg := 14) rfl rfl (fun q => absurd q (by decide)) (fun _ => ?_)
      refine r_aload rfl rfl ?_
      refine r_ic (x := (-2)) rfl rfl ?_
      refine r_cv (y := 154) (ra := [.int (-2)]) (rest := []) rfl ⟨⟨rfl, rfl⟩, rfl, by decide⟩ (fx_t30 fx) rfl rfl (Nat.le_of_ble_eq_true rfl) ?_
      refine in_154 (Nat.le_of_ble_eq_true rfl) ?_
      show WR _ cd_154 0 [some (.ref (ad 30)), some (.int (-2))] [] h _
      refine r_aload rfl rfl ?_
      refine r_iload rfl rfl ?_
      refine r_ic (x := (-1)) rfl rfl ?_
      refine r_icmp_ge (tg := 10) rfl rfl (fun q => absurd q (by decide)) (fun _ => ?_)
      refine r_iload rfl rfl ?_
      refine r_goto (tg := 11) rfl rfl ?_
      refine r_putI rfl ⟨rfl, rfl, rfl⟩ (fx_t30 fx) ?_
      have fx : FX n ad sa z0 (sI h (ad 30) 11 (-2)) := (FX.sI fx)
      refine r_iload rfl rfl ?_
      refine r_iret rfl ?_
      show WR _ cd_209 13 [some (.ref (ad 30)), some (.int p)] [.int (-2)] (sI h (ad 30) 11 (-2)) _
      refine r_iret rfl ?_
      exact (L2 c1 c2)
    · refine r_ic (x := 1) rfl rfl ?_
      refine r_goto (tg := 15) rfl rfl ?_
      refine r_zret rfl (.inr rfl) ?_
      show WR _ cd_209 4 [some (.ref (ad 30)), some (.int p)] [.int 1] h _
      refine r_if_ne (tg := 14) rfl rfl (fun _ => ?_) (fun q => absurd q (by decide))
      refine r_aload rfl rfl ?_
      refine r_ic (x := 0) rfl rfl ?_
      refine r_cv (y := 210) (ra := [.int 0]) (rest := []) rfl ⟨⟨rfl, rfl⟩, rfl, by decide⟩ (fx_t30 fx) rfl rfl (Nat.le_of_ble_eq_true rfl) ?_
      exact (C1 c1 c2)

set_option maxHeartbeats 2000000 in
theorem w_ma1 {d : Nat} {Q : mQ} {n : Nat} {ad sa : Nat → Nat} {z0 : Nat} {h : mH} (fx : FX n ad sa z0 h) {p : Nat} 
    (C1 : EV (d) 211 [.ref (ad 30), .int 7, .int (nI p)] (sI (sI (sI (sI (sI (sI (sI (sI (sI h (ad 30) 23 0) (ad 30) 31 0) (ad 30) 32 0) (ad 30) 33 0) (ad 30) 34 0) (ad 30) 35 0) (ad 30) 37 0) (ad 30) 43 0) (ad 30) 47 0) (fun v_ h_ => WR (d) cd_209 71 [some (.ref (ad 30)), some (.int (nI p))] (v_.toList ++ []) h_ Q)) : WR (d) cd_209 19 [some (.ref (ad 30)), some (.int (nI p))] [] h Q := by
  have fx0 := fx
  refine r_aload rfl rfl ?_
  refine r_ic (x := 0) rfl rfl ?_
  refine r_putI rfl ⟨rfl, rfl, rfl⟩ (fx_t30 fx) ?_
  have fx : FX n ad sa z0 (sI h (ad 30) 23 0) := (FX.sI fx)
  refine r_aload rfl rfl ?_
  refine r_ic (x := 0) rfl rfl ?_
  refine r_putI rfl ⟨rfl, rfl, rfl⟩ (fx_t30 fx) ?_
  have fx : FX n ad sa z0 (sI (sI h (ad 30) 23 0) (ad 30) 31 0) := (FX.sI fx)
  refine r_aload rfl rfl ?_
  refine r_ic (x := 0) rfl rfl ?_
  refine r_putI rfl ⟨rfl, rfl, rfl⟩ (fx_t30 fx) ?_
  have fx : FX n ad sa z0 (sI (sI (sI h (ad 30) 23 0) (ad 30) 31 0) (ad 30) 32 0) := (FX.sI fx)
  refine r_aload rfl rfl ?_
  refine r_ic (x := 0) rfl rfl ?_
  refine r_putI rfl ⟨rfl, rfl, rfl⟩ (fx_t30 fx) ?_
  have fx : FX n ad sa z0 (sI (sI (sI (sI h (ad 30) 23 0) (ad 30) 31 0) (ad 30) 32 0) (ad 30) 33 0) := (FX.sI fx)
  refine r_aload rfl rfl ?_
  refine r_ic (x := 0) rfl rfl ?_
  refine r_putI rfl ⟨rfl, rfl, rfl⟩ (fx_t30 fx) ?_
  have fx : FX n ad sa z0 (sI (sI (sI (sI (sI h (ad 30) 23 0) (ad 30) 31 0) (ad 30) 32 0) (ad 30) 33 0) (ad 30) 34 0) := (FX.sI fx)
  refine r_aload rfl rfl ?_
  refine r_ic (x := 0) rfl rfl ?_
  refine r_putI rfl ⟨rfl, rfl, rfl⟩ (fx_t30 fx) ?_
  have fx : FX n ad sa z0 (sI (sI (sI (sI (sI (sI h (ad 30) 23 0) (ad 30) 31 0) (ad 30) 32 0) (ad 30) 33 0) (ad 30) 34 0) (ad 30) 35 0) := (FX.sI fx)
  refine r_aload rfl rfl ?_
  refine r_ic (x := 0) rfl rfl ?_
  refine r_putI rfl ⟨rfl, rfl, rfl⟩ (fx_t30 fx) ?_
  have fx : FX n ad sa z0 (sI (sI (sI (sI (sI (sI (sI h (ad 30) 23 0) (ad 30) 31 0) (ad 30) 32 0) (ad 30) 33 0) (ad 30) 34 0) (ad 30) 35 0) (ad 30) 37 0) := (FX.sI fx)
  refine r_aload rfl rfl ?_
  refine r_ic (x := 0) rfl rfl ?_
  refine r_putI rfl ⟨rfl, rfl, rfl⟩ (fx_t30 fx) ?_
  have fx : FX n ad sa z0 (sI (sI (sI (sI (sI (sI (sI (sI h (ad 30) 23 0) (ad 30) 31 0) (ad 30) 32 0) (ad 30) 33 0) (ad 30) 34 0) (ad 30) 35 0) (ad 30) 37 0) (ad 30) 43 0) := (FX.sI fx)
  refine r_aload rfl rfl ?_
  refine r_ic (x := 0) rfl rfl ?_
  refine r_putZ rfl ⟨rfl, rfl, rfl⟩ (fx_t30 fx) (.inl rfl) ?_
  have fx : FX n ad sa z0 (sI (sI (sI (sI (sI (sI (sI (sI (sI h (ad 30) 23 0) (ad 30) 31 0) (ad 30) 32 0) (ad 30) 33 0) (ad 30) 34 0) (ad 30) 35 0) (ad 30) 37 0) (ad 30) 43 0) (ad 30) 47 0) := (FX.sI fx)
  refine r_aload rfl rfl ?_
  refine r_ic (x := 7) rfl rfl ?_
  refine r_iload rfl rfl ?_
  refine r_cv (y := 211) (ra := [.int (nI p), .int 7]) (rest := []) rfl ⟨⟨rfl, rfl⟩, rfl, by decide⟩ (fx_t30 fx) rfl rfl (Nat.le_of_ble_eq_true rfl) ?_
  exact (C1)

set_option maxHeartbeats 2000000 in
theorem w_ma3 {d : Nat} {Q : mQ} {n : Nat} {ad sa : Nat → Nat} {z0 : Nat} {h : mH} (fx : FX n ad sa z0 h) {p : Int32} {f : Nat} (f1 : 1 ≤ f) (f9 : f ≤ 9) (t2 : hI h (ad 30) 30 = nI f) 
    (L1 : Q (some (.int ((-10) - (nI f)))) (sI (sI h (ad 30) 37 0) (ad 30) 11 ((-10) - (nI f)))) : WR (d + 2) cd_209 168 [some (.ref (ad 30)), some (.int p)] [] h Q := by
  have fx0 := fx
  refine r_aload rfl rfl ?_
  refine r_ic (x := 0) rfl rfl ?_
  refine r_putI rfl ⟨rfl, rfl, rfl⟩ (fx_t30 fx) ?_
  have fx : FX n ad sa z0 (sI h (ad 30) 37 0) := (FX.sI fx)
  refine r_aload rfl rfl ?_
  refine r_aload rfl rfl ?_
  refine r_getI rfl ⟨rfl, rfl, rfl⟩ (fx_t30 fx) ?_
  refine WR_tI (y := nI f) (Eq.trans (I_nk (by decide)) t2) ?_
  refine r_cv (y := 156) (ra := [.int (nI f)]) (rest := []) rfl ⟨⟨rfl, rfl⟩, rfl, by decide⟩ (fx_t30 fx) rfl rfl (Nat.le_of_ble_eq_true rfl) ?_
  refine in_156 (Nat.le_of_ble_eq_true rfl) ?_
  show WR _ cd_156 0 [some (.ref (ad 30)), some (.int (nI f))] [] (sI h (ad 30) 37 0) _
  refine r_aload rfl rfl ?_
  refine r_ic (x := (-10)) rfl rfl ?_
  refine r_iload rfl rfl ?_
  refine r_isub rfl ?_
  refine r_cv (y := 154) (ra := [.int ((-10) - (nI f))]) (rest := []) rfl ⟨⟨rfl, rfl⟩, rfl, by decide⟩ (fx_t30 fx) rfl rfl (Nat.le_of_ble_eq_true rfl) ?_
  refine in_154 (Nat.le_of_ble_eq_true rfl) ?_
  show WR _ cd_154 0 [some (.ref (ad 30)), some (.int ((-10) - (nI f)))] [] (sI h (ad 30) 37 0) _
  refine r_aload rfl rfl ?_
  refine r_iload rfl rfl ?_
  refine r_ic (x := (-1)) rfl rfl ?_
  refine r_icmp_ge (tg := 10) rfl rfl (fun q => False.elim (by have : (-10 : Int32).toInt = -10 := rfl; have : (nI f).toInt = ((f : Nat) : Int) := nI_toInt (by omega); have := sub_t (x := (-10)) (y := nI f) (by have : (-10 : Int32).toInt = -10 := rfl; have : (nI f).toInt = ((f : Nat) : Int) := nI_toInt (by omega); omega) (by have : (-10 : Int32).toInt = -10 := rfl; have : (nI f).toInt = ((f : Nat) : Int) := nI_toInt (by omega); omega); have : (-1 : Int32).toInt = -1 := rfl; have := i_le q; omega)) (fun _ => ?_)
  refine r_iload rfl rfl ?_
  refine r_goto (tg := 11) rfl rfl ?_
  refine r_putI rfl ⟨rfl, rfl, rfl⟩ (fx_t30 fx) ?_
  have fx : FX n ad sa z0 (sI (sI h (ad 30) 37 0) (ad 30) 11 ((-10) - (nI f))) := (FX.sI fx)
  refine r_iload rfl rfl ?_
  refine r_iret rfl ?_
  show WR _ cd_156 8 [some (.ref (ad 30)), some (.int (nI f))] [.int ((-10) - (nI f))] (sI (sI h (ad 30) 37 0) (ad 30) 11 ((-10) - (nI f))) _
  refine r_iret rfl ?_
  show WR _ cd_209 181 [some (.ref (ad 30)), some (.int p)] [.int ((-10) - (nI f))] (sI (sI h (ad 30) 37 0) (ad 30) 11 ((-10) - (nI f))) _
  refine r_iret rfl ?_
  exact (L1)

set_option maxHeartbeats 2000000 in
theorem w_ma4_1 {d : Nat} {Q : mQ} {n : Nat} {ad sa : Nat → Nat} {z0 : Nat} {h : mH} (fx : FX n ad sa z0 h) {p : Int32} (t1 : hI h (ad 30) 29 = 1) 
    (L1 : Q (some (.int 0)) (sI h (ad 30) 11 0)) : WR (d + 1) cd_209 186 [some (.ref (ad 30)), some (.int p)] [] h Q := by
  have fx0 := fx
  refine r_aload rfl rfl ?_
  refine r_aload rfl rfl ?_
  refine r_getI rfl ⟨rfl, rfl, rfl⟩ (fx_t30 fx) ?_
  refine WR_tI (y := 1) t1 ?_
  refine r_ic (x := 2) rfl rfl ?_
  refine r_icmp_ne (tg := 199) rfl rfl (fun _ => ?_) (fun q => absurd q (by decide))
  refine r_ic (x := 0) rfl rfl ?_
  refine r_cv (y := 154) (ra := [.int 0]) (rest := []) rfl ⟨⟨rfl, rfl⟩, rfl, by decide⟩ (fx_t30 fx) rfl rfl (Nat.le_of_ble_eq_true rfl) ?_
  refine in_154 (Nat.le_of_ble_eq_true rfl) ?_
  show WR _ cd_154 0 [some (.ref (ad 30)), some (.int 0)] [] h _
  refine r_aload rfl rfl ?_
  refine r_iload rfl rfl ?_
  refine r_ic (x := (-1)) rfl rfl ?_
  refine r_icmp_ge (tg := 10) rfl rfl (fun _ => ?_) (fun q => absurd q (by decide))
  refine r_ic (x := 0) rfl rfl ?_
  refine r_putI rfl ⟨rfl, rfl, rfl⟩ (fx_t30 fx) ?_
  have fx : FX n ad sa z0 (sI h (ad 30) 11 0) := (FX.sI fx)
  refine r_iload rfl rfl ?_
  refine r_iret rfl ?_
  show WR _ cd_209 203 [some (.ref (ad 30)), some (.int p)] [.int 0] (sI h (ad 30) 11 0) _
  refine r_iret rfl ?_
  exact (L1)

set_option maxHeartbeats 2000000 in
theorem w_ma4_2 {d : Nat} {Q : mQ} {n : Nat} {ad sa : Nat → Nat} {z0 : Nat} {h : mH} (fx : FX n ad sa z0 h) {p : Int32} (t1 : hI h (ad 30) 29 = 2) 
    (L1 : Q (some (.int 1)) (sI h (ad 30) 11 0)) : WR (d + 1) cd_209 186 [some (.ref (ad 30)), some (.int p)] [] h Q := by
  have fx0 := fx
  refine r_aload rfl rfl ?_
  refine r_aload rfl rfl ?_
  refine r_getI rfl ⟨rfl, rfl, rfl⟩ (fx_t30 fx) ?_
  refine WR_tI (y := 2) t1 ?_
  refine r_ic (x := 2) rfl rfl ?_
  refine r_icmp_ne (tg := 199) rfl rfl (fun q => absurd q (by decide)) (fun _ => ?_)
  refine r_ic (x := 1) rfl rfl ?_
  refine r_goto (tg := 200) rfl rfl ?_
  refine r_cv (y := 154) (ra := [.int 1]) (rest := []) rfl ⟨⟨rfl, rfl⟩, rfl, by decide⟩ (fx_t30 fx) rfl rfl (Nat.le_of_ble_eq_true rfl) ?_
  refine in_154 (Nat.le_of_ble_eq_true rfl) ?_
  show WR _ cd_154 0 [some (.ref (ad 30)), some (.int 1)] [] h _
  refine r_aload rfl rfl ?_
  refine r_iload rfl rfl ?_
  refine r_ic (x := (-1)) rfl rfl ?_
  refine r_icmp_ge (tg := 10) rfl rfl (fun _ => ?_) (fun q => absurd q (by decide))
  refine r_ic (x := 0) rfl rfl ?_
  refine r_putI rfl ⟨rfl, rfl, rfl⟩ (fx_t30 fx) ?_
  have fx : FX n ad sa z0 (sI h (ad 30) 11 0) := (FX.sI fx)
  refine r_iload rfl rfl ?_
  refine r_iret rfl ?_
  show WR _ cd_209 203 [some (.ref (ad 30)), some (.int p)] [.int 1] (sI h (ad 30) 11 0) _
  refine r_iret rfl ?_
  exact (L1)

set_option maxHeartbeats 2000000 in
theorem w_ca0 {d : Nat} {Q : mQ} {n : Nat} {ad sa : Nat → Nat} {z0 : Nat} {h : mH} (fx : FX n ad sa z0 h) {p : Int32} 
    (L1 : p < 0 → Q (some (.int (-2))) (sI (sI h (ad 0) 6 0) (ad 0) 6 (-2)))
    (L2 : ¬ p < 0 → 10 ≤ p → Q (some (.int (-2))) (sI (sI h (ad 0) 6 0) (ad 0) 6 (-2)))
    (C1 : ¬ p < 0 → ¬ 10 ≤ p → EV (d + 1) 99 [.ref (ad 9), .int p, .ref (ad 1), .ref (ad 7)] (sI h (ad 0) 6 0) (fun v_ h_ => WR (d + 1) cd_98 38 [some (.ref (ad 0)), some (.int p), none] (v_.toList ++ []) h_ Q)) : EV (d + 2) 98 [.ref (ad 0), .int p] h Q := by
  have fx0 := fx
  refine in_98 (Nat.le_of_ble_eq_true rfl) ?_
  show WR _ cd_98 0 [some (.ref (ad 0)), some (.int p), none] [] h _
  refine r_aload rfl rfl ?_
  refine r_ic (x := 0) rfl rfl ?_
  refine r_putI rfl ⟨rfl, rfl, rfl⟩ (fx_t0 fx) ?_
  have fx : FX n ad sa z0 (sI h (ad 0) 6 0) := (FX.sI fx)
  refine r_iload rfl rfl ?_
  refine r_cs (y := 93) (ra := [.int p]) (rest := []) rfl ⟨⟨rfl, rfl⟩, by decide⟩ rfl rfl (Nat.le_of_ble_eq_true rfl) ?_
  refine in_93 (Nat.le_of_ble_eq_true rfl) ?_
  show WR _ cd_93 0 [some (.int p)] [] (sI h (ad 0) 6 0) _
  refine r_iload rfl rfl ?_
  refine r_if_lt (tg := 14) rfl rfl (fun c1 => ?_) (fun c1 => ?_)
  · refine r_ic (x := 0) rfl rfl ?_
    refine r_zret rfl (.inl rfl) ?_
    show WR _ cd_98 9 [some (.ref (ad 0)), some (.int p), none] [.int 0] (sI h (ad 0) 6 0) _
    refine r_if_ne (tg := 19) rfl rfl (fun q => absurd q (by decide)) (fun _ => ?_)
    refine r_aload rfl rfl ?_
    refine r_ic (x := (-2)) rfl rfl ?_
    refine r_cv (y := 13) (ra := [.int (-2)]) (rest := []) rfl ⟨⟨rfl, rfl⟩, rfl, by decide⟩ (fx_t0 fx) rfl rfl (Nat.le_of_ble_eq_true rfl) ?_
    refine in_13 (Nat.le_of_ble_eq_true rfl) ?_
    show WR _ cd_13 0 [some (.ref (ad 0)), some (.int (-2))] [] (sI h (ad 0) 6 0) _
    refine r_aload rfl rfl ?_
    refine r_iload rfl rfl ?_
    refine r_putI rfl ⟨rfl, rfl, rfl⟩ (fx_t0 fx) ?_
    have fx : FX n ad sa z0 (sI (sI h (ad 0) 6 0) (ad 0) 6 (-2)) := (FX.sI fx)
    refine r_iload rfl rfl ?_
    refine r_iret rfl ?_
    show WR _ cd_98 18 [some (.ref (ad 0)), some (.int p), none] [.int (-2)] (sI (sI h (ad 0) 6 0) (ad 0) 6 (-2)) _
    refine r_iret rfl ?_
    exact (L1 c1)
  · refine r_iload rfl rfl ?_
    refine r_ic (x := 10) rfl rfl ?_
    refine r_icmp_ge (tg := 14) rfl rfl (fun c2 => ?_) (fun c2 => ?_)
    · refine r_ic (x := 0) rfl rfl ?_
      refine r_zret rfl (.inl rfl) ?_
      show WR _ cd_98 9 [some (.ref (ad 0)), some (.int p), none] [.int 0] (sI h (ad 0) 6 0) _
      refine r_if_ne (tg := 19) rfl rfl (fun q => absurd q (by decide)) (fun _ => ?_)
      refine r_aload rfl rfl ?_
      refine r_ic (x := (-2)) rfl rfl ?_
      refine r_cv (y := 13) (ra := [.int (-2)]) (rest := []) rfl ⟨⟨rfl, rfl⟩, rfl, by decide⟩ (fx_t0 fx) rfl rfl (Nat.le_of_ble_eq_true rfl) ?_
      refine in_13 (Nat.le_of_ble_eq_true rfl) ?_
      show WR _ cd_13 0 [some (.ref (ad 0)), some (.int (-2))] [] (sI h (ad 0) 6 0) _
      refine r_aload rfl rfl ?_
      refine r_iload rfl rfl ?_
      refine r_putI rfl ⟨rfl, rfl, rfl⟩ (fx_t0 fx) ?_
      have fx : FX n ad sa z0 (sI (sI h (ad 0) 6 0) (ad 0) 6 (-2)) := (FX.sI fx)
      refine r_iload rfl rfl ?_
      refine r_iret rfl ?_
      show WR _ cd_98 18 [some (.ref (ad 0)), some (.int p), none] [.int (-2)] (sI (sI h (ad 0) 6 0) (ad 0) 6 (-2)) _
      refine r_iret rfl ?_
      exact (L2 c1 c2)
    · refine r_ic (x := 1) rfl rfl ?_
      refine r_goto (tg := 15) rfl rfl ?_
      refine r_zret rfl (.inr rfl) ?_
      show WR _ cd_98 9 [some (.ref (ad 0)), some (.int p), none] [.int 1] (sI h (ad 0) 6 0) _
      refine r_if_ne (tg := 19) rfl rfl (fun _ => ?_) (fun q => absurd q (by decide))
      refine r_aload rfl rfl ?_
      refine r_getA (b := ad 9) rfl ⟨rfl, rfl, rfl⟩ (fx_t0 fx) (fx_r0_3 fx) ?_
      refine r_iload rfl rfl ?_
      refine r_aload rfl rfl ?_
      refine r_getA (b := ad 1) rfl ⟨rfl, rfl, rfl⟩ (fx_t0 fx) (fx_r0_0 fx) ?_
      refine r_aload rfl rfl ?_
      refine r_getA (b := ad 4) rfl ⟨rfl, rfl, rfl⟩ (fx_t0 fx) (fx_r0_2 fx) ?_
      refine r_getA (b := ad 7) rfl ⟨rfl, rfl, rfl⟩ (fx_t4 fx) (fx_r4_0 fx) ?_
      refine r_cv (y := 99) (ra := [.ref (ad 7), .ref (ad 1), .int p]) (rest := []) rfl ⟨⟨rfl, rfl⟩, rfl, by decide⟩ (fx_t9 fx) rfl rfl (Nat.le_of_ble_eq_true rfl) ?_
      exact (C1 c1 c2)

set_option maxHeartbeats 2000000 in
theorem w_ca1 {d : Nat} {Q : mQ} {n : Nat} {ad sa : Nat → Nat} {z0 : Nat} {h : mH} (fx : FX n ad sa z0 h) {p w : Int32} {o2 : Option Value} 
    (L1 : 0 ≤ w → Q (some (.int w)) h)
    (L2 : ¬ 0 ≤ w → Q (some (.int w)) (sI h (ad 0) 6 w)) : WR (d + 1) cd_98 38 [some (.ref (ad 0)), some (.int p), o2] [.int w] h Q := by
  have fx0 := fx
  refine r_istore (lv' := [some (.ref (ad 0)), some (.int p), some (.int w)]) rfl (Nat.le_of_ble_eq_true rfl) rfl ?_
  refine r_iload rfl rfl ?_
  refine r_if_ge (tg := 51) rfl rfl (fun c1 => ?_) (fun c1 => ?_)
  · refine r_iload rfl rfl ?_
    refine r_iret rfl ?_
    exact (L1 c1)
  · refine r_aload rfl rfl ?_
    refine r_iload rfl rfl ?_
    refine r_cv (y := 13) (ra := [.int w]) (rest := []) rfl ⟨⟨rfl, rfl⟩, rfl, by decide⟩ (fx_t0 fx) rfl rfl (Nat.le_of_ble_eq_true rfl) ?_
    refine in_13 (Nat.le_of_ble_eq_true rfl) ?_
    show WR _ cd_13 0 [some (.ref (ad 0)), some (.int w)] [] h _
    refine r_aload rfl rfl ?_
    refine r_iload rfl rfl ?_
    refine r_putI rfl ⟨rfl, rfl, rfl⟩ (fx_t0 fx) ?_
    have fx : FX n ad sa z0 (sI h (ad 0) 6 w) := (FX.sI fx)
    refine r_iload rfl rfl ?_
    refine r_iret rfl ?_
    show WR _ cd_98 48 [some (.ref (ad 0)), some (.int p), some (.int w)] [.int w] (sI h (ad 0) 6 w) _
    refine r_goto (tg := 52) rfl rfl ?_
    refine r_iret rfl ?_
    exact (L2 c1)

set_option maxHeartbeats 2000000 in
theorem w_mb1 {d : Nat} {Q : mQ} {n : Nat} {ad sa : Nat → Nat} {z0 : Nat} {h : mH} (fx : FX n ad sa z0 h) {p : Int32} {v : Int32} (t1 : hI h (ad 30) 29 = 1) (t2 : hI h (ad 30) 30 = v) 
    (C1 : EV (d) 221 [.ref (ad 30)] (sI h (ad 30) 42 0) (fun v_ h_ => WR (d) cd_209 186 [some (.ref (ad 30)), some (.int p)] (v_.toList ++ []) h_ Q)) : WR (d) cd_209 135 [some (.ref (ad 30)), some (.int p)] [] h Q := by
  have fx0 := fx
  refine r_aload rfl rfl ?_
  refine r_aload rfl rfl ?_
  refine r_getI rfl ⟨rfl, rfl, rfl⟩ (fx_t30 fx) ?_
  refine WR_tI (y := 1) t1 ?_
  refine r_ic (x := 2) rfl rfl ?_
  refine r_icmp_ne (tg := 151) rfl rfl (fun _ => ?_) (fun q => absurd q (by decide))
  refine r_ic (x := 0) rfl rfl ?_
  refine r_putI rfl ⟨rfl, rfl, rfl⟩ (fx_t30 fx) ?_
  have fx : FX n ad sa z0 (sI h (ad 30) 42 0) := (FX.sI fx)
  refine r_aload rfl rfl ?_
  refine r_getI rfl ⟨rfl, rfl, rfl⟩ (fx_t30 fx) ?_
  refine WR_tI (y := 1) (Eq.trans (I_nk (by decide)) t1) ?_
  refine r_ic (x := 3) rfl rfl ?_
  refine r_icmp_ne (tg := 182) rfl rfl (fun _ => ?_) (fun q => absurd q (by decide))
  refine r_aload rfl rfl ?_
  refine r_cv (y := 221) (ra := []) (rest := []) rfl ⟨⟨rfl, rfl⟩, rfl, by decide⟩ (fx_t30 fx) rfl rfl (Nat.le_of_ble_eq_true rfl) ?_
  exact (C1)

set_option maxHeartbeats 2000000 in
theorem w_mb2 {d : Nat} {Q : mQ} {n : Nat} {ad sa : Nat → Nat} {z0 : Nat} {h : mH} (fx : FX n ad sa z0 h) {p : Int32} {v : Int32} (t1 : hI h (ad 30) 29 = 2) (t2 : hI h (ad 30) 30 = v) 
    (C1 : EV (d) 221 [.ref (ad 30)] (sI h (ad 30) 42 v) (fun v_ h_ => WR (d) cd_209 186 [some (.ref (ad 30)), some (.int p)] (v_.toList ++ []) h_ Q)) : WR (d) cd_209 135 [some (.ref (ad 30)), some (.int p)] [] h Q := by
  have fx0 := fx
  refine r_aload rfl rfl ?_
  refine r_aload rfl rfl ?_
  refine r_getI rfl ⟨rfl, rfl, rfl⟩ (fx_t30 fx) ?_
  refine WR_tI (y := 2) t1 ?_
  refine r_ic (x := 2) rfl rfl ?_
  refine r_icmp_ne (tg := 151) rfl rfl (fun q => absurd q (by decide)) (fun _ => ?_)
  refine r_aload rfl rfl ?_
  refine r_getI rfl ⟨rfl, rfl, rfl⟩ (fx_t30 fx) ?_
  refine WR_tI (y := v) t2 ?_
  refine r_goto (tg := 152) rfl rfl ?_
  refine r_putI rfl ⟨rfl, rfl, rfl⟩ (fx_t30 fx) ?_
  have fx : FX n ad sa z0 (sI h (ad 30) 42 v) := (FX.sI fx)
  refine r_aload rfl rfl ?_
  refine r_getI rfl ⟨rfl, rfl, rfl⟩ (fx_t30 fx) ?_
  refine WR_tI (y := 2) (Eq.trans (I_nk (by decide)) t1) ?_
  refine r_ic (x := 3) rfl rfl ?_
  refine r_icmp_ne (tg := 182) rfl rfl (fun _ => ?_) (fun q => absurd q (by decide))
  refine r_aload rfl rfl ?_
  refine r_cv (y := 221) (ra := []) (rest := []) rfl ⟨⟨rfl, rfl⟩, rfl, by decide⟩ (fx_t30 fx) rfl rfl (Nat.le_of_ble_eq_true rfl) ?_
  exact (C1)

set_option maxHeartbeats 2000000 in
theorem w_mb3 {d : Nat} {Q : mQ} {n : Nat} {ad sa : Nat → Nat} {z0 : Nat} {h : mH} (fx : FX n ad sa z0 h) {p : Int32} {v : Int32} (t1 : hI h (ad 30) 29 = 3) (t2 : hI h (ad 30) 30 = v) 
    (C1 : EV (d) 210 [.ref (ad 30), .int 1] (sI h (ad 30) 42 0) (fun v_ h_ => WR (d) cd_209 168 [some (.ref (ad 30)), some (.int p)] (v_.toList ++ []) h_ Q)) : WR (d) cd_209 135 [some (.ref (ad 30)), some (.int p)] [] h Q := by
  have fx0 := fx
  refine r_aload rfl rfl ?_
  refine r_aload rfl rfl ?_
  refine r_getI rfl ⟨rfl, rfl, rfl⟩ (fx_t30 fx) ?_
  refine WR_tI (y := 3) t1 ?_
  refine r_ic (x := 2) rfl rfl ?_
  refine r_icmp_ne (tg := 151) rfl rfl (fun _ => ?_) (fun q => absurd q (by decide))
  refine r_ic (x := 0) rfl rfl ?_
  refine r_putI rfl ⟨rfl, rfl, rfl⟩ (fx_t30 fx) ?_
  have fx : FX n ad sa z0 (sI h (ad 30) 42 0) := (FX.sI fx)
  refine r_aload rfl rfl ?_
  refine r_getI rfl ⟨rfl, rfl, rfl⟩ (fx_t30 fx) ?_
  refine WR_tI (y := 3) (Eq.trans (I_nk (by decide)) t1) ?_
  refine r_ic (x := 3) rfl rfl ?_
  refine r_icmp_ne (tg := 182) rfl rfl (fun q => absurd q (by decide)) (fun _ => ?_)
  refine r_aload rfl rfl ?_
  refine r_ic (x := 1) rfl rfl ?_
  refine r_cv (y := 210) (ra := [.int 1]) (rest := []) rfl ⟨⟨rfl, rfl⟩, rfl, by decide⟩ (fx_t30 fx) rfl rfl (Nat.le_of_ble_eq_true rfl) ?_
  exact (C1)
