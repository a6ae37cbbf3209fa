/-! ===== walks of scaled, valueOf; printed ===== -/
set_option maxHeartbeats 1000000 in
theorem w_sc0 {d : Nat} {Q : mQ} {h : mH} (x : UInt64) (p : Int32) 
    
    (K1 : WR (d) cd_86 5 [some (.double x), none, some (.int p), some (.double x), none, some (.int p)] [] h Q) : EV (d + 1) 86 [.double x, .int p] h Q := by
  refine in_86 (Nat.le_of_ble_eq_true rfl) ?_
  show WR _ cd_86 0 [some (.double x), none, some (.int p), none, none, none] [] h _
  refine r_dload rfl rfl ?_
  refine r_dstore (lv' := [some (.double x), none, some (.int p), some (.double x), none, none]) rfl (Nat.le_of_ble_eq_true rfl) rfl ?_
  refine r_iload rfl rfl ?_
  refine r_istore (lv' := [some (.double x), none, some (.int p), some (.double x), none, some (.int p)]) rfl (Nat.le_of_ble_eq_true rfl) rfl ?_
  exact K1

set_option maxHeartbeats 1000000 in
theorem w_sc5 {d : Nat} {Q : mQ} {h : mH} (x y : UInt64) (p l : Int32) 
    (B1 : ¬ l < 32 → vf_n64 (FP.dmul y 4751297606875873280))
    (K1 : l < 32 → WR (d) cd_86 24 [some (.double x), none, some (.int p), some (.double y), none, some (.int l)] [] h Q) (K2 : ¬ l < 32 → WR (d) cd_86 5 [some (.double x), none, some (.int p), some (.double (FP.dmul y 4751297606875873280)), none, some (.int (l + (-32)))] [] h Q) : WR (d + 0) cd_86 5 [some (.double x), none, some (.int p), some (.double y), none, some (.int l)] [] h Q := by
  refine r_iload rfl rfl ?_
  refine r_ic (x := 32) rfl rfl ?_
  refine r_icmp_lt (tg := 24) rfl rfl (fun c1 => ?_) (fun c1 => ?_)
  · exact K1 c1
  · refine r_dload rfl rfl ?_
    refine r_ldc (x := .double 4751297606875873280) rfl rfl ?_
    refine r_dmul rfl (B1 c1) ?_
    refine r_dstore (lv' := [some (.double x), none, some (.int p), some (.double (FP.dmul y 4751297606875873280)), none, some (.int l)]) rfl (Nat.le_of_ble_eq_true rfl) rfl ?_
    refine r_iinc (y := l + (-32)) (lv' := [some (.double x), none, some (.int p), some (.double (FP.dmul y 4751297606875873280)), none, some (.int (l + (-32)))]) rfl rfl rfl rfl ?_
    refine r_goto (tg := 5) rfl rfl ?_
    exact K2 c1

set_option maxHeartbeats 1000000 in
theorem w_sc24 {d : Nat} {Q : mQ} {h : mH} (x y : UInt64) (p l : Int32) 
    (B1 : ¬ (-32) < l → vf_n64 (FP.ddiv y 4751297606875873280))
    (K1 : (-32) < l → WR (d) cd_86 43 [some (.double x), none, some (.int p), some (.double y), none, some (.int l)] [] h Q) (K2 : ¬ (-32) < l → WR (d) cd_86 24 [some (.double x), none, some (.int p), some (.double (FP.ddiv y 4751297606875873280)), none, some (.int (l + 32))] [] h Q) : WR (d + 0) cd_86 24 [some (.double x), none, some (.int p), some (.double y), none, some (.int l)] [] h Q := by
  refine r_iload rfl rfl ?_
  refine r_ic (x := (-32)) rfl rfl ?_
  refine r_icmp_gt (tg := 43) rfl rfl (fun c1 => ?_) (fun c1 => ?_)
  · exact K1 c1
  · refine r_dload rfl rfl ?_
    refine r_ldc (x := .double 4751297606875873280) rfl rfl ?_
    refine r_ddiv rfl (B1 c1) ?_
    refine r_dstore (lv' := [some (.double x), none, some (.int p), some (.double (FP.ddiv y 4751297606875873280)), none, some (.int l)]) rfl (Nat.le_of_ble_eq_true rfl) rfl ?_
    refine r_iinc (y := l + 32) (lv' := [some (.double x), none, some (.int p), some (.double (FP.ddiv y 4751297606875873280)), none, some (.int (l + 32))]) rfl rfl rfl rfl ?_
    refine r_goto (tg := 24) rfl rfl ?_
    exact K2 c1

set_option maxHeartbeats 1000000 in
theorem w_sc43 {d : Nat} {Q : mQ} {h : mH} (x y : UInt64) (p l : Int32) 
    (B1 : l < 0 → vf_n64 (FP.ddiv y (FP.l2d (1 <<< ((-l).toInt64 &&& 63))))) (B2 : ¬ l < 0 → vf_n64 (FP.dmul y (FP.l2d (1 <<< (l.toInt64 &&& 63)))))
    (L1 : l < 0 → Q (some (.double (FP.ddiv y (FP.l2d (1 <<< ((-l).toInt64 &&& 63)))))) h) (L2 : ¬ l < 0 → Q (some (.double (FP.dmul y (FP.l2d (1 <<< (l.toInt64 &&& 63)))))) h) : WR (d + 0) cd_86 43 [some (.double x), none, some (.int p), some (.double y), none, some (.int l)] [] h Q := by
  refine r_iload rfl rfl ?_
  refine r_if_lt (tg := 58) rfl rfl (fun c1 => ?_) (fun c1 => ?_)
  · refine r_dload rfl rfl ?_
    refine r_lc (x := 1) rfl rfl ?_
    refine r_iload rfl rfl ?_
    refine r_ineg rfl ?_
    refine r_lshl rfl ?_
    refine r_l2d rfl ?_
    refine r_ddiv rfl (B1 c1) ?_
    refine r_dret rfl ?_
    exact L1 c1
  · refine r_dload rfl rfl ?_
    refine r_lc (x := 1) rfl rfl ?_
    refine r_iload rfl rfl ?_
    refine r_lshl rfl ?_
    refine r_l2d rfl ?_
    refine r_dmul rfl (B2 c1) ?_
    refine r_goto (tg := 66) rfl rfl ?_
    refine r_dret rfl ?_
    exact L2 c1

set_option maxHeartbeats 1000000 in
theorem w_vo {d : Nat} {Q : mQ} {h : mH} (b : Int64) 
    
    (C1 : ¬ (((b >>> ((52 : Int32).toInt64 &&& 63)).toInt32) &&& 2047) = 0 → EV (d) 86 [.double (FP.l2d ((b &&& 4503599627370495) ||| 4503599627370496)), .int ((((b >>> ((52 : Int32).toInt64 &&& 63)).toInt32) &&& 2047) - 1075)] h (fun v h2 => WR (d) cd_85 41 [some (.long b), none, some (.int (((b >>> ((52 : Int32).toInt64 &&& 63)).toInt32) &&& 2047)), some (.long ((b &&& 4503599627370495) ||| 4503599627370496)), none, none, none] (v.toList ++ []) h2 Q)) (C2 : (((b >>> ((52 : Int32).toInt64 &&& 63)).toInt32) &&& 2047) = 0 → EV (d) 86 [.double (FP.l2d (b &&& 4503599627370495)), .int (1 - 1075)] h (fun v h2 => WR (d) cd_85 41 [some (.long b), none, some (.int 1), some (.long (b &&& 4503599627370495)), none, none, none] (v.toList ++ []) h2 Q)) : EV (d + 1) 85 [.long b] h Q := by
  refine in_85 (Nat.le_of_ble_eq_true rfl) ?_
  show WR _ cd_85 0 [some (.long b), none, none, none, none, none, none] [] h _
  refine r_lload rfl rfl ?_
  refine r_ic (x := 52) rfl rfl ?_
  refine r_lshr rfl ?_
  refine r_l2i rfl ?_
  refine r_ic (x := 2047) rfl rfl ?_
  refine r_iand rfl ?_
  refine r_istore (lv' := [some (.long b), none, some (.int (((b >>> ((52 : Int32).toInt64 &&& 63)).toInt32) &&& 2047)), none, none, none, none]) rfl (Nat.le_of_ble_eq_true rfl) rfl ?_
  refine r_lload rfl rfl ?_
  refine r_ldc (x := .long 4503599627370495) rfl rfl ?_
  refine r_land rfl ?_
  refine r_lstore (lv' := [some (.long b), none, some (.int (((b >>> ((52 : Int32).toInt64 &&& 63)).toInt32) &&& 2047)), some (.long (b &&& 4503599627370495)), none, none, none]) rfl (Nat.le_of_ble_eq_true rfl) rfl ?_
  refine r_iload rfl rfl ?_
  refine r_if_ne (tg := 25) rfl rfl (fun c1 => ?_) (fun c1 => ?_)
  · refine r_lload rfl rfl ?_
    refine r_ldc (x := .long 4503599627370496) rfl rfl ?_
    refine r_lor rfl ?_
    refine r_lstore (lv' := [some (.long b), none, some (.int (((b >>> ((52 : Int32).toInt64 &&& 63)).toInt32) &&& 2047)), some (.long ((b &&& 4503599627370495) ||| 4503599627370496)), none, none, none]) rfl (Nat.le_of_ble_eq_true rfl) rfl ?_
    refine r_lload rfl rfl ?_
    refine r_l2d rfl ?_
    refine r_iload rfl rfl ?_
    refine r_ic (x := 1075) rfl rfl ?_
    refine r_isub rfl ?_
    refine r_cs (y := 86) (ra := [.int ((((b >>> ((52 : Int32).toInt64 &&& 63)).toInt32) &&& 2047) - 1075), .double (FP.l2d ((b &&& 4503599627370495) ||| 4503599627370496))]) (rest := []) rfl ⟨⟨rfl, rfl⟩, by decide⟩ rfl rfl (Nat.le_of_ble_eq_true rfl) ?_
    exact C1 c1
  · refine r_ic (x := 1) rfl rfl ?_
    refine r_istore (lv' := [some (.long b), none, some (.int 1), some (.long (b &&& 4503599627370495)), none, none, none]) rfl (Nat.le_of_ble_eq_true rfl) rfl ?_
    refine r_goto (tg := 31) rfl rfl ?_
    refine r_lload rfl rfl ?_
    refine r_l2d rfl ?_
    refine r_iload rfl rfl ?_
    refine r_ic (x := 1075) rfl rfl ?_
    refine r_isub rfl ?_
    refine r_cs (y := 86) (ra := [.int (1 - 1075), .double (FP.l2d (b &&& 4503599627370495))]) (rest := []) rfl ⟨⟨rfl, rfl⟩, by decide⟩ rfl rfl (Nat.le_of_ble_eq_true rfl) ?_
    exact C2 c1

set_option maxHeartbeats 1000000 in
theorem w_vo41 {d : Nat} {Q : mQ} {h : mH} (b : Int64) (y : UInt64) (e : Int32) (g : Int64) 
    
    (L1 : 0 ≤ b → Q (some (.double y)) h) (L2 : ¬ 0 ≤ b → Q (some (.double (FP.dneg y))) h) : WR (d + 0) cd_85 41 [some (.long b), none, some (.int e), some (.long g), none, none, none] [.double y] h Q := by
  refine r_dstore (lv' := [some (.long b), none, some (.int e), some (.long g), none, some (.double y), none]) rfl (Nat.le_of_ble_eq_true rfl) rfl ?_
  refine r_lload rfl rfl ?_
  refine r_lc (x := 0) rfl rfl ?_
  refine r_lif_ge (tg := 55) rfl rfl rfl (fun c1 => ?_) (fun c1 => ?_)
  · refine r_dload rfl rfl ?_
    refine r_dret rfl ?_
    exact L1 c1
  · refine r_dload rfl rfl ?_
    refine r_dneg rfl ?_
    refine r_goto (tg := 57) rfl rfl ?_
    refine r_dret rfl ?_
    exact L2 c1
