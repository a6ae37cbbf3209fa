/-! ===== walks for seconds; printed ===== -/
set_option maxHeartbeats 2000000 in
theorem w_db5 {d : Nat} {Q : mQ} {n : Nat} {ad sa : Nat → Nat} {z0 : Nat} {h : mH} (fx : FX n ad sa z0 h) {a i sz : Nat} (ta : hT h a = 5) (ra : hR h a 1 = some (a + 1)) (tA : hT h (a + 1) = 21) (nA : hN h (a + 1) = sz) (hi : i < sz) (s3 : sz ≤ 30) (l5 : hI h a 0 = 5) 
    (C1 : EV (d) 79 [.int ((hL h (a + 1) i).toInt32)] h (fun v_ h_ => WR (d) cd_78 18 [some (.ref a), some (.int (nI i))] (v_.toList ++ []) h_ Q)) : EV (d + 1) 78 [.ref a, .int (nI i)] h Q := by
  have fx0 := fx
  refine in_78 (Nat.le_of_ble_eq_true rfl) ?_
  show WR _ cd_78 0 [some (.ref a), some (.int (nI i))] [] h _
  refine r_aload rfl rfl ?_
  refine r_getI rfl ⟨rfl, rfl, rfl⟩ ta ?_
  refine WR_tI (y := 5) l5 ?_
  refine r_ic (x := 5) rfl rfl ?_
  refine r_icmp_ne (tg := 21) rfl rfl (fun q => absurd q (by decide)) (fun _ => ?_)
  refine r_aload rfl rfl ?_
  refine r_getA (b := a + 1) rfl ⟨rfl, rfl, rfl⟩ ta ra ?_
  refine r_iload rfl rfl ?_
  refine r_laload rfl tA (vp_ct nA (vp_in_nI (by omega) (by omega))) ?_
  refine WR_tL (congrArg (hL h (a + 1)) ((nI_clamp (by omega)) : _ = i)) ?_
  refine r_l2i rfl ?_
  refine r_cs (y := 79) (ra := [.int ((hL h (a + 1) i).toInt32)]) (rest := []) rfl ⟨⟨rfl, rfl⟩, by decide⟩ rfl rfl (Nat.le_of_ble_eq_true rfl) ?_
  exact (C1)

set_option maxHeartbeats 2000000 in
theorem w_db6 {d : Nat} {Q : mQ} {n : Nat} {ad sa : Nat → Nat} {z0 : Nat} {h : mH} (fx : FX n ad sa z0 h) {a i sz : Nat} (ta : hT h a = 5) (ra : hR h a 1 = some (a + 1)) (tA : hT h (a + 1) = 21) (nA : hN h (a + 1) = sz) (hi : i < sz) (s3 : sz ≤ 30) (l5 : hI h a 0 = 6) 
    (L1 : Q (some (.long (hL h (a + 1) i))) h) : EV (d + 1) 78 [.ref a, .int (nI i)] h Q := by
  have fx0 := fx
  refine in_78 (Nat.le_of_ble_eq_true rfl) ?_
  show WR _ cd_78 0 [some (.ref a), some (.int (nI i))] [] h _
  refine r_aload rfl rfl ?_
  refine r_getI rfl ⟨rfl, rfl, rfl⟩ ta ?_
  refine WR_tI (y := 6) l5 ?_
  refine r_ic (x := 5) rfl rfl ?_
  refine r_icmp_ne (tg := 21) rfl rfl (fun _ => ?_) (fun q => absurd q (by decide))
  refine r_aload rfl rfl ?_
  refine r_getA (b := a + 1) rfl ⟨rfl, rfl, rfl⟩ ta ra ?_
  refine r_iload rfl rfl ?_
  refine r_laload rfl tA (vp_ct nA (vp_in_nI (by omega) (by omega))) ?_
  refine WR_tL (congrArg (hL h (a + 1)) ((nI_clamp (by omega)) : _ = i)) ?_
  refine r_lret rfl ?_
  exact (L1)

set_option maxHeartbeats 2000000 in
theorem w_db25 {d : Nat} {Q : mQ} {n : Nat} {ad sa : Nat → Nat} {z0 : Nat} {h : mH} (fx : FX n ad sa z0 h) {a i : Nat} (v : Int64) 
    (L1 : Q (some (.long v)) h) : WR (d) cd_78 18 [some (.ref a), some (.int (nI i))] [.long v] h Q := by
  have fx0 := fx
  refine r_goto (tg := 27) rfl rfl ?_
  refine r_lret rfl ?_
  exact (L1)

set_option maxHeartbeats 2000000 in
theorem w_ms4e {d : Nat} {Q : mQ} {n : Nat} {ad sa : Nat → Nat} {z0 : Nat} {h : mH} (fx : FX n ad sa z0 h) {a c i sz : Nat} (ta : hT h a = 5) (ra : hR h a 1 = some (a + 1)) (tA : hT h (a + 1) = 21) (nA : hN h (a + 1) = sz) (s3 : sz ≤ 30) (hc : c ≤ i) (o4 : Option Value) (he : i = sz) 
    (L1 : Q (some (.int (nI c))) h) : WR (d) cd_77 4 [some (.ref (ad 0)), some (.ref a), some (.int (nI c)), some (.int (nI i)), o4, none] [] h Q := by
  have fx0 := fx
  refine r_iload rfl rfl ?_
  refine r_aload rfl rfl ?_
  refine r_getA (b := a + 1) rfl ⟨rfl, rfl, rfl⟩ ta ra ?_
  refine r_alen rfl (isA_of tA (by decide)) ?_
  refine WR_tI (y := nI sz) (congrArg nI nA) ?_
  refine r_icmp_ge (tg := 54) rfl rfl (fun _ => ?_) (fun q => False.elim (by have : (nI i).toInt = ((i : Nat) : Int) := nI_toInt (by omega); have : (nI sz).toInt = ((sz : Nat) : Int) := nI_toInt (by omega); have := i_nle q; omega))
  refine r_iload rfl rfl ?_
  refine r_iret rfl ?_
  exact (L1)

set_option maxHeartbeats 2000000 in
theorem w_ms4 {d : Nat} {Q : mQ} {n : Nat} {ad sa : Nat → Nat} {z0 : Nat} {h : mH} (fx : FX n ad sa z0 h) {a c i sz : Nat} (ta : hT h a = 5) (ra : hR h a 1 = some (a + 1)) (tA : hT h (a + 1) = 21) (nA : hN h (a + 1) = sz) (s3 : sz ≤ 30) (hc : c ≤ i) (o4 : Option Value) (hi : i < sz) 
    (C1 : EV (d) 78 [.ref a, .int (nI i)] h (fun v_ h_ => WR (d) cd_77 27 [some (.ref (ad 0)), some (.ref a), some (.int (nI c)), some (.int (nI i)), o4, none] (v_.toList ++ []) h_ Q)) : WR (d) cd_77 4 [some (.ref (ad 0)), some (.ref a), some (.int (nI c)), some (.int (nI i)), o4, none] [] h Q := by
  have fx0 := fx
  refine r_iload rfl rfl ?_
  refine r_aload rfl rfl ?_
  refine r_getA (b := a + 1) rfl ⟨rfl, rfl, rfl⟩ ta ra ?_
  refine r_alen rfl (isA_of tA (by decide)) ?_
  refine WR_tI (y := nI sz) (congrArg nI nA) ?_
  refine r_icmp_ge (tg := 54) rfl rfl (fun q => False.elim (by have : (nI i).toInt = ((i : Nat) : Int) := nI_toInt (by omega); have : (nI sz).toInt = ((sz : Nat) : Int) := nI_toInt (by omega); have := i_le q; omega)) (fun _ => ?_)
  refine r_iload rfl rfl ?_
  refine r_aload rfl rfl ?_
  refine r_getA (b := ad 22) rfl ⟨rfl, rfl, rfl⟩ (fx_t0 fx) (fx_r0_4 fx) ?_
  refine r_alen rfl (isA_of (fx_t22 fx) (by decide)) ?_
  refine WR_tI (y := 30) (congrArg nI (fx_n22 fx)) ?_
  refine r_icmp_ge (tg := 54) rfl rfl (fun q => False.elim (by have : (nI c).toInt = ((c : Nat) : Int) := nI_toInt (by omega); have : (30 : Int32).toInt = 30 := rfl; have := i_le q; omega)) (fun _ => ?_)
  refine r_aload rfl rfl ?_
  refine r_iload rfl rfl ?_
  refine r_cv (y := 78) (ra := [.int (nI i)]) (rest := []) rfl ⟨⟨rfl, rfl⟩, rfl, by decide⟩ ta rfl rfl (Nat.le_of_ble_eq_true rfl) ?_
  exact (C1)

set_option maxHeartbeats 2000000 in
theorem w_ms27 {d : Nat} {Q : mQ} {n : Nat} {ad sa : Nat → Nat} {z0 : Nat} {h : mH} (fx : FX n ad sa z0 h) {a c i : Nat} (hc : c < 30) (hi : i < 30) (v : Int64) (o4 : Option Value) 
    (K1 : 9218868437227405312 < (v &&& 9223372036854775807) → WR (d + 2) cd_77 4 [some (.ref (ad 0)), some (.ref a), some (.int (nI c)), some (.int (nI (i + 1))), some (.long v), none] [] h Q)
    (K2 : ¬ 9218868437227405312 < (v &&& 9223372036854775807) → WR (d + 2) cd_77 4 [some (.ref (ad 0)), some (.ref a), some (.int (nI (c + 1))), some (.int (nI (i + 1))), some (.long v), none] [] (sL h (ad 22) c v) Q) : WR (d + 2) cd_77 27 [some (.ref (ad 0)), some (.ref a), some (.int (nI c)), some (.int (nI i)), o4, none] [.long v] h Q := by
  have fx0 := fx
  refine r_lstore (lv' := [some (.ref (ad 0)), some (.ref a), some (.int (nI c)), some (.int (nI i)), some (.long v), none]) rfl (Nat.le_of_ble_eq_true rfl) rfl ?_
  refine r_lload rfl rfl ?_
  refine r_cs (y := 38) (ra := [.long v]) (rest := []) rfl ⟨⟨rfl, rfl⟩, by decide⟩ rfl rfl (Nat.le_of_ble_eq_true rfl) ?_
  refine in_38 (Nat.le_of_ble_eq_true rfl) ?_
  show WR _ cd_38 0 [some (.long v), none] [] h _
  refine r_lload rfl rfl ?_
  refine r_cs (y := 39) (ra := [.long v]) (rest := []) rfl ⟨⟨rfl, rfl⟩, by decide⟩ rfl rfl (Nat.le_of_ble_eq_true rfl) ?_
  refine in_39 (Nat.le_of_ble_eq_true rfl) ?_
  show WR _ cd_39 0 [some (.long v), none] [] h _
  refine r_lload rfl rfl ?_
  refine r_ldc (x := .long 9223372036854775807) rfl rfl ?_
  refine r_land rfl ?_
  refine r_lret rfl ?_
  show WR _ cd_38 4 [some (.long v), none] [.long (v &&& 9223372036854775807)] h _
  refine r_ldc (x := .long 9218868437227405312) rfl rfl ?_
  refine r_lif_gt (tg := 15) rfl rfl rfl (fun c1 => ?_) (fun c1 => ?_)
  · refine r_ic (x := 0) rfl rfl ?_
    refine r_zret rfl (.inl rfl) ?_
    show WR _ cd_77 34 [some (.ref (ad 0)), some (.ref a), some (.int (nI c)), some (.int (nI i)), some (.long v), none] [.int 0] h _
    refine r_if_eq (tg := 48) rfl rfl (fun _ => ?_) (fun q => absurd q (by decide))
    refine r_iinc (y := nI (i + 1)) (lv' := [some (.ref (ad 0)), some (.ref a), some (.int (nI c)), some (.int (nI (i + 1))), some (.long v), none]) rfl rfl (nI_1 _) rfl ?_
    refine r_goto (tg := 4) rfl rfl ?_
    exact (K1 c1)
  · refine r_ic (x := 1) rfl rfl ?_
    refine r_goto (tg := 16) rfl rfl ?_
    refine r_zret rfl (.inr rfl) ?_
    show WR _ cd_77 34 [some (.ref (ad 0)), some (.ref a), some (.int (nI c)), some (.int (nI i)), some (.long v), none] [.int 1] h _
    refine r_if_eq (tg := 48) rfl rfl (fun q => absurd q (by decide)) (fun _ => ?_)
    refine r_aload rfl rfl ?_
    refine r_getA (b := ad 22) rfl ⟨rfl, rfl, rfl⟩ (fx_t0 fx) (fx_r0_4 fx) ?_
    refine r_iload rfl rfl ?_
    refine r_lload rfl rfl ?_
    refine r_lastore rfl (fx_t22 fx) (vp_ct (fx_n22 fx) (vp_in_nI (by omega) (by omega))) ?_
    refine WR_h (h2 := sL h (ad 22) c v) (congrArg (fun z => sL h (ad 22) z v) ((nI_clamp (by omega)) : _ = c)) ?_
    have fx : FX n ad sa z0 (sL h (ad 22) c v) := (FX.sL fx)
    refine r_iinc (y := nI (c + 1)) (lv' := [some (.ref (ad 0)), some (.ref a), some (.int (nI (c + 1))), some (.int (nI i)), some (.long v), none]) rfl rfl (nI_1 _) rfl ?_
    refine r_iinc (y := nI (i + 1)) (lv' := [some (.ref (ad 0)), some (.ref a), some (.int (nI (c + 1))), some (.int (nI (i + 1))), some (.long v), none]) rfl rfl (nI_1 _) rfl ?_
    refine r_goto (tg := 4) rfl rfl ?_
    exact (K2 c1)

set_option maxHeartbeats 2000000 in
theorem w_so2e {d : Nat} {Q : mQ} {n : Nat} {ad sa : Nat → Nat} {z0 : Nat} {h : mH} (fx : FX n ad sa z0 h) {a k i L : Nat} (ta : hT h a = 21) (nA : hN h a = L) (l1 : L ≤ 100) (hk : k ≤ L) (o3 o5 : Option Value) (hi : k ≤ i) (hi2 : i < 200) 
    (L1 : Q none h) : WR (d) cd_81 2 [some (.ref a), some (.int (nI k)), some (.int (nI i)), o3, none, o5] [] h Q := by
  have fx0 := fx
  refine r_iload rfl rfl ?_
  refine r_iload rfl rfl ?_
  refine r_icmp_ge (tg := 63) rfl rfl (fun _ => ?_) (fun q => False.elim (by have : (nI i).toInt = ((i : Nat) : Int) := nI_toInt (by omega); have : (nI k).toInt = ((k : Nat) : Int) := nI_toInt (by omega); have := i_nle q; omega))
  refine r_vret rfl ?_
  exact (L1)

set_option maxHeartbeats 2000000 in
theorem w_so2 {d : Nat} {Q : mQ} {n : Nat} {ad sa : Nat → Nat} {z0 : Nat} {h : mH} (fx : FX n ad sa z0 h) {a k i L : Nat} (ta : hT h a = 21) (nA : hN h a = L) (l1 : L ≤ 100) (hk : k ≤ L) (o3 o5 : Option Value) (hi : i < k) 
    (K1 : WR (d) cd_81 14 [some (.ref a), some (.int (nI k)), some (.int (nI i)), some (.long (hL h a i)), none, some (.int (nI i))] [] h Q) : WR (d) cd_81 2 [some (.ref a), some (.int (nI k)), some (.int (nI i)), o3, none, o5] [] h Q := by
  have fx0 := fx
  refine r_iload rfl rfl ?_
  refine r_iload rfl rfl ?_
  refine r_icmp_ge (tg := 63) rfl rfl (fun q => False.elim (by have : (nI i).toInt = ((i : Nat) : Int) := nI_toInt (by omega); have : (nI k).toInt = ((k : Nat) : Int) := nI_toInt (by omega); have := i_le q; omega)) (fun _ => ?_)
  refine r_aload rfl rfl ?_
  refine r_iload rfl rfl ?_
  refine r_laload rfl ta (vp_ct nA (vp_in_nI (by omega) (by omega))) ?_
  refine WR_tL (congrArg (hL h a) ((nI_clamp (by omega)) : _ = i)) ?_
  refine r_lstore (lv' := [some (.ref a), some (.int (nI k)), some (.int (nI i)), some (.long (hL h a i)), none, o5]) rfl (Nat.le_of_ble_eq_true rfl) rfl ?_
  refine r_iload rfl rfl ?_
  refine r_istore (lv' := [some (.ref a), some (.int (nI k)), some (.int (nI i)), some (.long (hL h a i)), none, some (.int (nI i))]) rfl (Nat.le_of_ble_eq_true rfl) rfl ?_
  exact (K1)

set_option maxHeartbeats 2000000 in
theorem w_so14 {d : Nat} {Q : mQ} {n : Nat} {ad sa : Nat → Nat} {z0 : Nat} {h : mH} (fx : FX n ad sa z0 h) {a k i p L : Nat} (ta : hT h a = 21) (nA : hN h a = L) (l1 : L ≤ 100) (hi : i < L) (hp : p ≤ i) (b : Int64) (p0 : 1 ≤ p) 
    (K1 : (oO (hL h a (p - 1))) ≤ (oO b) → WR (d + 1) cd_81 52 [some (.ref a), some (.int (nI k)), some (.int (nI i)), some (.long b), none, some (.int (nI p))] [] h Q)
    (K2 : ¬ (oO (hL h a (p - 1))) ≤ (oO b) → WR (d + 1) cd_81 14 [some (.ref a), some (.int (nI k)), some (.int (nI i)), some (.long b), none, some (.int (nI (p - 1)))] [] (sL h a p (hL h a (p - 1))) Q) : WR (d + 1) cd_81 14 [some (.ref a), some (.int (nI k)), some (.int (nI i)), some (.long b), none, some (.int (nI p))] [] h Q := by
  have fx0 := fx
  refine r_iload rfl rfl ?_
  refine r_if_le (tg := 52) rfl rfl (fun q => False.elim (by have : (nI p).toInt = ((p : Nat) : Int) := nI_toInt (by omega); have : (0 : Int32).toInt = 0 := rfl; have := i_le q; omega)) (fun _ => ?_)
  refine r_aload rfl rfl ?_
  refine r_iload rfl rfl ?_
  refine r_ic (x := 1) rfl rfl ?_
  refine r_isub rfl ?_
  refine WR_tI (y := nI (p - 1)) (Eq.trans (pk_sub (a := p) (b := 1) (by omega)) (congrArg nI (by omega))) ?_
  refine r_laload rfl ta (vp_ct nA (vp_in_nI (by omega) (by omega))) ?_
  refine WR_tL (congrArg (hL h a) ((nI_clamp (by omega)) : _ = p - 1)) ?_
  refine r_cs (y := 82) (ra := [.long (hL h a (p - 1))]) (rest := []) rfl ⟨⟨rfl, rfl⟩, by decide⟩ rfl rfl (Nat.le_of_ble_eq_true rfl) ?_
  refine c_ord ?_
  show WR _ cd_81 28 [some (.ref a), some (.int (nI k)), some (.int (nI i)), some (.long b), none, some (.int (nI p))] [.long (oO (hL h a (p - 1)))] h _
  refine r_lload rfl rfl ?_
  refine r_cs (y := 82) (ra := [.long b]) (rest := [.long (oO (hL h a (p - 1)))]) rfl ⟨⟨rfl, rfl⟩, by decide⟩ rfl rfl (Nat.le_of_ble_eq_true rfl) ?_
  refine c_ord ?_
  show WR _ cd_81 32 [some (.ref a), some (.int (nI k)), some (.int (nI i)), some (.long b), none, some (.int (nI p))] [.long (oO b), .long (oO (hL h a (p - 1)))] h _
  refine r_lif_le (tg := 52) rfl rfl rfl (fun c1 => ?_) (fun c1 => ?_)
  · exact (K1 c1)
  · refine r_aload rfl rfl ?_
    refine r_iload rfl rfl ?_
    refine r_aload rfl rfl ?_
    refine r_iload rfl rfl ?_
    refine r_ic (x := 1) rfl rfl ?_
    refine r_isub rfl ?_
    refine WR_tI (y := nI (p - 1)) (Eq.trans (pk_sub (a := p) (b := 1) (by omega)) (congrArg nI (by omega))) ?_
    refine r_laload rfl ta (vp_ct nA (vp_in_nI (by omega) (by omega))) ?_
    refine WR_tL (congrArg (hL h a) ((nI_clamp (by omega)) : _ = p - 1)) ?_
    refine r_lastore rfl ta (vp_ct nA (vp_in_nI (by omega) (by omega))) ?_
    refine WR_h (h2 := sL h a p (hL h a (p - 1))) (congrArg (fun z => sL h a z (hL h a (p - 1))) ((nI_clamp (by omega)) : _ = p)) ?_
    have fx : FX n ad sa z0 (sL h a p (hL h a (p - 1))) := (FX.sL fx)
    refine r_iinc (y := nI (p - 1)) (lv' := [some (.ref a), some (.int (nI k)), some (.int (nI i)), some (.long b), none, some (.int (nI (p - 1)))]) rfl rfl (nI_dec (by omega)) rfl ?_
    refine r_goto (tg := 14) rfl rfl ?_
    exact (K2 c1)

set_option maxHeartbeats 2000000 in
theorem w_so14z {d : Nat} {Q : mQ} {n : Nat} {ad sa : Nat → Nat} {z0 : Nat} {h : mH} (fx : FX n ad sa z0 h) {a k i p L : Nat} (ta : hT h a = 21) (nA : hN h a = L) (l1 : L ≤ 100) (hi : i < L) (hp : p ≤ i) (b : Int64) (p0 : p = 0) 
    (K1 : WR (d) cd_81 52 [some (.ref a), some (.int (nI k)), some (.int (nI i)), some (.long b), none, some (.int (nI p))] [] h Q) : WR (d) cd_81 14 [some (.ref a), some (.int (nI k)), some (.int (nI i)), some (.long b), none, some (.int (nI p))] [] h Q := by
  have fx0 := fx
  refine r_iload rfl rfl ?_
  refine r_if_le (tg := 52) rfl rfl (fun _ => ?_) (fun q => False.elim (by have : (nI p).toInt = ((p : Nat) : Int) := nI_toInt (by omega); have : (0 : Int32).toInt = 0 := rfl; have := i_nle q; omega))
  exact (K1)

set_option maxHeartbeats 2000000 in
theorem w_so52 {d : Nat} {Q : mQ} {n : Nat} {ad sa : Nat → Nat} {z0 : Nat} {h : mH} (fx : FX n ad sa z0 h) {a k i p L : Nat} (ta : hT h a = 21) (nA : hN h a = L) (l1 : L ≤ 100) (hi : i < L) (hp : p ≤ i) (b : Int64) 
    (K1 : WR (d) cd_81 2 [some (.ref a), some (.int (nI k)), some (.int (nI (i + 1))), some (.long b), none, some (.int (nI p))] [] (sL h a p b) Q) : WR (d) cd_81 52 [some (.ref a), some (.int (nI k)), some (.int (nI i)), some (.long b), none, some (.int (nI p))] [] h Q := by
  have fx0 := fx
  refine r_aload rfl rfl ?_
  refine r_iload rfl rfl ?_
  refine r_lload rfl rfl ?_
  refine r_lastore rfl ta (vp_ct nA (vp_in_nI (by omega) (by omega))) ?_
  refine WR_h (h2 := sL h a p b) (congrArg (fun z => sL h a z b) ((nI_clamp (by omega)) : _ = p)) ?_
  have fx : FX n ad sa z0 (sL h a p b) := (FX.sL fx)
  refine r_iinc (y := nI (i + 1)) (lv' := [some (.ref a), some (.int (nI k)), some (.int (nI (i + 1))), some (.long b), none, some (.int (nI p))]) rfl rfl (nI_1 _) rfl ?_
  refine r_goto (tg := 2) rfl rfl ?_
  exact (K1)
