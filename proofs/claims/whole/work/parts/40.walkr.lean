/-! ===== walks of rootOf, root, doubleToLongBits; printed ===== -/
set_option maxHeartbeats 1000000 in
theorem w_dl {d : Nat} {Q : mQ} {h : mH} (x : UInt64) 
    
    (L1 : deq x x → Q (some (.long x.toInt64)) h) (L2 : ¬ deq x x → Q (some (.long 9221120237041090560)) h) : EV (d + 2) 198 [.double x] h Q := by
  refine in_198 (Nat.le_of_ble_eq_true rfl) ?_
  show WR _ cd_198 0 [some (.double x), none] [] h _
  refine r_dload rfl rfl ?_
  refine r_cs (y := 199) (ra := [.double x]) (rest := []) rfl ⟨⟨rfl, rfl⟩, by decide⟩ rfl rfl (Nat.le_of_ble_eq_true rfl) ?_
  refine in_199 (Nat.le_of_ble_eq_true rfl) ?_
  show WR _ cd_199 0 [some (.double x), none] [] h _
  refine r_dload rfl rfl ?_
  refine r_dload rfl rfl ?_
  refine r_dlif_eq (tg := 10) rfl rfl rfl (fun c1 => ?_) (fun c1 => ?_)
  · refine r_ic (x := 0) rfl rfl ?_
    refine r_zret rfl (.inl rfl) ?_
    show WR _ cd_198 4 [some (.double x), none] [.int 0] h _
    refine r_if_ne (tg := 12) rfl rfl (fun q => absurd q (by decide)) (fun _ => ?_)
    refine r_dload rfl rfl ?_
    refine r_d2ln rfl (Nat.le_of_ble_eq_true rfl) ?_
    refine r_lret rfl ?_
    exact L1 c1
  · refine r_ic (x := 1) rfl rfl ?_
    refine r_goto (tg := 11) rfl rfl ?_
    refine r_zret rfl (.inr rfl) ?_
    show WR _ cd_198 4 [some (.double x), none] [.int 1] h _
    refine r_if_ne (tg := 12) rfl rfl (fun _ => ?_) (fun q => absurd q (by decide))
    refine r_ldc (x := .long 9221120237041090560) rfl rfl ?_
    refine r_lret rfl ?_
    exact L2 c1

set_option maxHeartbeats 1000000 in
theorem w_ro0 {d : Nat} {Q : mQ} {h : mH} (x : UInt64) 
    
    (C1 : ¬ dle x 0 → EV (d) 88 [.double x] h (fun v h2 => WR (d) cd_134 12 [some (.double x), none, none, none, none, none, none, none, none, none, none, none, none, none, none, none] (v.toList ++ []) h2 Q)) (L1 : dle x 0 → Q (some (.double 0)) h) : EV (d + 1) 134 [.double x] h Q := by
  refine in_134 (Nat.le_of_ble_eq_true rfl) ?_
  show WR _ cd_134 0 [some (.double x), none, none, none, none, none, none, none, none, none, none, none, none, none, none, none] [] h _
  refine r_dload rfl rfl ?_
  refine r_dc (x := 0) rfl rfl ?_
  refine r_dgif_gt (tg := 8) rfl rfl rfl (fun c1 => ?_) (fun c1 => ?_)
  · refine r_dload rfl rfl ?_
    refine r_cs (y := 88) (ra := [.double x]) (rest := []) rfl ⟨⟨rfl, rfl⟩, by decide⟩ rfl rfl (Nat.le_of_ble_eq_true rfl) ?_
    exact C1 c1
  · refine r_dc (x := 0) rfl rfl ?_
    refine r_dret rfl ?_
    exact L1 c1

set_option maxHeartbeats 1000000 in
theorem w_ro12 {d : Nat} {Q : mQ} {h : mH} (x : UInt64) (b : Int64) 
    
    (K1 : ((((b >>> ((52 : Int32).toInt64 &&& 63)).toInt32) - 1075) &&& 1) = 0 → WR (d) cd_134 60 [some (.double x), none, some (.long b), none, some (.int (((b >>> ((52 : Int32).toInt64 &&& 63)).toInt32) - 1075)), some (.long ((b &&& 4503599627370495) ||| 4503599627370496)), none, some (.long 0), none, some (.long 0), none, some (.int 0), none, none, none, none] [] h Q) (K2 : ¬ ((((b >>> ((52 : Int32).toInt64 &&& 63)).toInt32) - 1075) &&& 1) = 0 → WR (d) cd_134 60 [some (.double x), none, some (.long b), none, some (.int ((((b >>> ((52 : Int32).toInt64 &&& 63)).toInt32) - 1075) + (-1))), some (.long (((b &&& 4503599627370495) ||| 4503599627370496) <<< ((1 : Int32).toInt64 &&& 63))), none, some (.long 0), none, some (.long 0), none, some (.int 0), none, none, none, none] [] h Q) : WR (d + 0) cd_134 12 [some (.double x), none, none, none, none, none, none, none, none, none, none, none, none, none, none, none] [.long b] h Q := by
  refine r_lstore (lv' := [some (.double x), none, some (.long b), none, none, none, none, none, none, none, none, none, none, none, none, none]) rfl (Nat.le_of_ble_eq_true rfl) rfl ?_
  refine r_lload rfl rfl ?_
  refine r_ic (x := 52) rfl rfl ?_
  refine r_lshr rfl ?_
  refine r_l2i rfl ?_
  refine r_ic (x := 1075) rfl rfl ?_
  refine r_isub rfl ?_
  refine r_istore (lv' := [some (.double x), none, some (.long b), none, some (.int (((b >>> ((52 : Int32).toInt64 &&& 63)).toInt32) - 1075)), none, none, none, none, none, none, none, none, none, none, none]) rfl (Nat.le_of_ble_eq_true rfl) rfl ?_
  refine r_lload rfl rfl ?_
  refine r_ldc (x := .long 4503599627370495) rfl rfl ?_
  refine r_land rfl ?_
  refine r_ldc (x := .long 4503599627370496) rfl rfl ?_
  refine r_lor rfl ?_
  refine r_lstore (lv' := [some (.double x), none, some (.long b), none, some (.int (((b >>> ((52 : Int32).toInt64 &&& 63)).toInt32) - 1075)), some (.long ((b &&& 4503599627370495) ||| 4503599627370496)), none, none, none, none, none, none, none, none, none, none]) rfl (Nat.le_of_ble_eq_true rfl) rfl ?_
  refine r_iload rfl rfl ?_
  refine r_ic (x := 1) rfl rfl ?_
  refine r_iand rfl ?_
  refine r_if_eq (tg := 51) rfl rfl (fun c1 => ?_) (fun c1 => ?_)
  · refine r_lc (x := 0) rfl rfl ?_
    refine r_lstore (lv' := [some (.double x), none, some (.long b), none, some (.int (((b >>> ((52 : Int32).toInt64 &&& 63)).toInt32) - 1075)), some (.long ((b &&& 4503599627370495) ||| 4503599627370496)), none, some (.long 0), none, none, none, none, none, none, none, none]) rfl (Nat.le_of_ble_eq_true rfl) rfl ?_
    refine r_lc (x := 0) rfl rfl ?_
    refine r_lstore (lv' := [some (.double x), none, some (.long b), none, some (.int (((b >>> ((52 : Int32).toInt64 &&& 63)).toInt32) - 1075)), some (.long ((b &&& 4503599627370495) ||| 4503599627370496)), none, some (.long 0), none, some (.long 0), none, none, none, none, none, none]) rfl (Nat.le_of_ble_eq_true rfl) rfl ?_
    refine r_ic (x := 0) rfl rfl ?_
    refine r_istore (lv' := [some (.double x), none, some (.long b), none, some (.int (((b >>> ((52 : Int32).toInt64 &&& 63)).toInt32) - 1075)), some (.long ((b &&& 4503599627370495) ||| 4503599627370496)), none, some (.long 0), none, some (.long 0), none, some (.int 0), none, none, none, none]) rfl (Nat.le_of_ble_eq_true rfl) rfl ?_
    exact K1 c1
  · refine r_lload rfl rfl ?_
    refine r_ic (x := 1) rfl rfl ?_
    refine r_lshl rfl ?_
    refine r_lstore (lv' := [some (.double x), none, some (.long b), none, some (.int (((b >>> ((52 : Int32).toInt64 &&& 63)).toInt32) - 1075)), some (.long (((b &&& 4503599627370495) ||| 4503599627370496) <<< ((1 : Int32).toInt64 &&& 63))), none, none, none, none, none, none, none, none, none, none]) rfl (Nat.le_of_ble_eq_true rfl) rfl ?_
    refine r_iinc (y := (((b >>> ((52 : Int32).toInt64 &&& 63)).toInt32) - 1075) + (-1)) (lv' := [some (.double x), none, some (.long b), none, some (.int ((((b >>> ((52 : Int32).toInt64 &&& 63)).toInt32) - 1075) + (-1))), some (.long (((b &&& 4503599627370495) ||| 4503599627370496) <<< ((1 : Int32).toInt64 &&& 63))), none, none, none, none, none, none, none, none, none, none]) rfl rfl rfl rfl ?_
    refine r_lc (x := 0) rfl rfl ?_
    refine r_lstore (lv' := [some (.double x), none, some (.long b), none, some (.int ((((b >>> ((52 : Int32).toInt64 &&& 63)).toInt32) - 1075) + (-1))), some (.long (((b &&& 4503599627370495) ||| 4503599627370496) <<< ((1 : Int32).toInt64 &&& 63))), none, some (.long 0), none, none, none, none, none, none, none, none]) rfl (Nat.le_of_ble_eq_true rfl) rfl ?_
    refine r_lc (x := 0) rfl rfl ?_
    refine r_lstore (lv' := [some (.double x), none, some (.long b), none, some (.int ((((b >>> ((52 : Int32).toInt64 &&& 63)).toInt32) - 1075) + (-1))), some (.long (((b &&& 4503599627370495) ||| 4503599627370496) <<< ((1 : Int32).toInt64 &&& 63))), none, some (.long 0), none, some (.long 0), none, none, none, none, none, none]) rfl (Nat.le_of_ble_eq_true rfl) rfl ?_
    refine r_ic (x := 0) rfl rfl ?_
    refine r_istore (lv' := [some (.double x), none, some (.long b), none, some (.int ((((b >>> ((52 : Int32).toInt64 &&& 63)).toInt32) - 1075) + (-1))), some (.long (((b &&& 4503599627370495) ||| 4503599627370496) <<< ((1 : Int32).toInt64 &&& 63))), none, some (.long 0), none, some (.long 0), none, some (.int 0), none, none, none, none]) rfl (Nat.le_of_ble_eq_true rfl) rfl ?_
    exact K2 c1

set_option maxHeartbeats 1000000 in
theorem w_ro60 {d : Nat} {Q : mQ} {h : mH} (x : UInt64) (b g r t : Int64) (e i : Int32) (o1 o2 : Option Value) 
    
    (K1 : 54 ≤ i → WR (d) cd_134 144 [some (.double x), none, some (.long b), none, some (.int e), some (.long g), none, some (.long r), none, some (.long t), none, some (.int i), o1, none, o2, none] [] h Q) (K2 : ¬ 54 ≤ i → 27 ≤ i → ((t <<< ((2 : Int32).toInt64 &&& 63)) ||| 0) < ((r <<< ((2 : Int32).toInt64 &&& 63)) ||| 1) → WR (d) cd_134 60 [some (.double x), none, some (.long b), none, some (.int e), some (.long g), none, some (.long (r <<< ((1 : Int32).toInt64 &&& 63))), none, some (.long ((t <<< ((2 : Int32).toInt64 &&& 63)) ||| 0)), none, some (.int (i + 1)), some (.long 0), none, some (.long ((r <<< ((2 : Int32).toInt64 &&& 63)) ||| 1)), none] [] h Q) (K3 : ¬ 54 ≤ i → 27 ≤ i → ¬ ((t <<< ((2 : Int32).toInt64 &&& 63)) ||| 0) < ((r <<< ((2 : Int32).toInt64 &&& 63)) ||| 1) → WR (d) cd_134 60 [some (.double x), none, some (.long b), none, some (.int e), some (.long g), none, some (.long ((r <<< ((1 : Int32).toInt64 &&& 63)) ||| 1)), none, some (.long (((t <<< ((2 : Int32).toInt64 &&& 63)) ||| 0) - ((r <<< ((2 : Int32).toInt64 &&& 63)) ||| 1))), none, some (.int (i + 1)), some (.long 0), none, some (.long ((r <<< ((2 : Int32).toInt64 &&& 63)) ||| 1)), none] [] h Q) (K4 : ¬ 54 ≤ i → ¬ 27 ≤ i → ((t <<< ((2 : Int32).toInt64 &&& 63)) ||| ((g >>> ((52 - (2 * i)).toInt64 &&& 63)) &&& 3)) < ((r <<< ((2 : Int32).toInt64 &&& 63)) ||| 1) → WR (d) cd_134 60 [some (.double x), none, some (.long b), none, some (.int e), some (.long g), none, some (.long (r <<< ((1 : Int32).toInt64 &&& 63))), none, some (.long ((t <<< ((2 : Int32).toInt64 &&& 63)) ||| ((g >>> ((52 - (2 * i)).toInt64 &&& 63)) &&& 3))), none, some (.int (i + 1)), some (.long ((g >>> ((52 - (2 * i)).toInt64 &&& 63)) &&& 3)), none, some (.long ((r <<< ((2 : Int32).toInt64 &&& 63)) ||| 1)), none] [] h Q) (K5 : ¬ 54 ≤ i → ¬ 27 ≤ i → ¬ ((t <<< ((2 : Int32).toInt64 &&& 63)) ||| ((g >>> ((52 - (2 * i)).toInt64 &&& 63)) &&& 3)) < ((r <<< ((2 : Int32).toInt64 &&& 63)) ||| 1) → WR (d) cd_134 60 [some (.double x), none, some (.long b), none, some (.int e), some (.long g), none, some (.long ((r <<< ((1 : Int32).toInt64 &&& 63)) ||| 1)), none, some (.long (((t <<< ((2 : Int32).toInt64 &&& 63)) ||| ((g >>> ((52 - (2 * i)).toInt64 &&& 63)) &&& 3)) - ((r <<< ((2 : Int32).toInt64 &&& 63)) ||| 1))), none, some (.int (i + 1)), some (.long ((g >>> ((52 - (2 * i)).toInt64 &&& 63)) &&& 3)), none, some (.long ((r <<< ((2 : Int32).toInt64 &&& 63)) ||| 1)), none] [] h Q) : WR (d + 0) cd_134 60 [some (.double x), none, some (.long b), none, some (.int e), some (.long g), none, some (.long r), none, some (.long t), none, some (.int i), o1, none, o2, none] [] h Q := by
  refine r_iload rfl rfl ?_
  refine r_ic (x := 54) rfl rfl ?_
  refine r_icmp_ge (tg := 144) rfl rfl (fun c1 => ?_) (fun c1 => ?_)
  · exact K1 c1
  · refine r_iload rfl rfl ?_
    refine r_ic (x := 27) rfl rfl ?_
    refine r_icmp_ge (tg := 91) rfl rfl (fun c2 => ?_) (fun c2 => ?_)
    · refine r_lc (x := 0) rfl rfl ?_
      refine r_lstore (lv' := [some (.double x), none, some (.long b), none, some (.int e), some (.long g), none, some (.long r), none, some (.long t), none, some (.int i), some (.long 0), none, o2, none]) rfl (Nat.le_of_ble_eq_true rfl) rfl ?_
      refine r_lload rfl rfl ?_
      refine r_ic (x := 2) rfl rfl ?_
      refine r_lshl rfl ?_
      refine r_lc (x := 1) rfl rfl ?_
      refine r_lor rfl ?_
      refine r_lstore (lv' := [some (.double x), none, some (.long b), none, some (.int e), some (.long g), none, some (.long r), none, some (.long t), none, some (.int i), some (.long 0), none, some (.long ((r <<< ((2 : Int32).toInt64 &&& 63)) ||| 1)), none]) rfl (Nat.le_of_ble_eq_true rfl) rfl ?_
      refine r_lload rfl rfl ?_
      refine r_ic (x := 2) rfl rfl ?_
      refine r_lshl rfl ?_
      refine r_lload rfl rfl ?_
      refine r_lor rfl ?_
      refine r_lstore (lv' := [some (.double x), none, some (.long b), none, some (.int e), some (.long g), none, some (.long r), none, some (.long ((t <<< ((2 : Int32).toInt64 &&& 63)) ||| 0)), none, some (.int i), some (.long 0), none, some (.long ((r <<< ((2 : Int32).toInt64 &&& 63)) ||| 1)), none]) rfl (Nat.le_of_ble_eq_true rfl) rfl ?_
      refine r_lload rfl rfl ?_
      refine r_ic (x := 1) rfl rfl ?_
      refine r_lshl rfl ?_
      refine r_lstore (lv' := [some (.double x), none, some (.long b), none, some (.int e), some (.long g), none, some (.long (r <<< ((1 : Int32).toInt64 &&& 63))), none, some (.long ((t <<< ((2 : Int32).toInt64 &&& 63)) ||| 0)), none, some (.int i), some (.long 0), none, some (.long ((r <<< ((2 : Int32).toInt64 &&& 63)) ||| 1)), none]) rfl (Nat.le_of_ble_eq_true rfl) rfl ?_
      refine r_lload rfl rfl ?_
      refine r_lload rfl rfl ?_
      refine r_lif_lt (tg := 138) rfl rfl rfl (fun c3 => ?_) (fun c3 => ?_)
      · refine r_iinc (y := i + 1) (lv' := [some (.double x), none, some (.long b), none, some (.int e), some (.long g), none, some (.long (r <<< ((1 : Int32).toInt64 &&& 63))), none, some (.long ((t <<< ((2 : Int32).toInt64 &&& 63)) ||| 0)), none, some (.int (i + 1)), some (.long 0), none, some (.long ((r <<< ((2 : Int32).toInt64 &&& 63)) ||| 1)), none]) rfl rfl rfl rfl ?_
        refine r_goto (tg := 60) rfl rfl ?_
        exact K2 c1 c2 c3
      · refine r_lload rfl rfl ?_
        refine r_lload rfl rfl ?_
        refine r_lsub rfl ?_
        refine r_lstore (lv' := [some (.double x), none, some (.long b), none, some (.int e), some (.long g), none, some (.long (r <<< ((1 : Int32).toInt64 &&& 63))), none, some (.long (((t <<< ((2 : Int32).toInt64 &&& 63)) ||| 0) - ((r <<< ((2 : Int32).toInt64 &&& 63)) ||| 1))), none, some (.int i), some (.long 0), none, some (.long ((r <<< ((2 : Int32).toInt64 &&& 63)) ||| 1)), none]) rfl (Nat.le_of_ble_eq_true rfl) rfl ?_
        refine r_lload rfl rfl ?_
        refine r_lc (x := 1) rfl rfl ?_
        refine r_lor rfl ?_
        refine r_lstore (lv' := [some (.double x), none, some (.long b), none, some (.int e), some (.long g), none, some (.long ((r <<< ((1 : Int32).toInt64 &&& 63)) ||| 1)), none, some (.long (((t <<< ((2 : Int32).toInt64 &&& 63)) ||| 0) - ((r <<< ((2 : Int32).toInt64 &&& 63)) ||| 1))), none, some (.int i), some (.long 0), none, some (.long ((r <<< ((2 : Int32).toInt64 &&& 63)) ||| 1)), none]) rfl (Nat.le_of_ble_eq_true rfl) rfl ?_
        refine r_iinc (y := i + 1) (lv' := [some (.double x), none, some (.long b), none, some (.int e), some (.long g), none, some (.long ((r <<< ((1 : Int32).toInt64 &&& 63)) ||| 1)), none, some (.long (((t <<< ((2 : Int32).toInt64 &&& 63)) ||| 0) - ((r <<< ((2 : Int32).toInt64 &&& 63)) ||| 1))), none, some (.int (i + 1)), some (.long 0), none, some (.long ((r <<< ((2 : Int32).toInt64 &&& 63)) ||| 1)), none]) rfl rfl rfl rfl ?_
        refine r_goto (tg := 60) rfl rfl ?_
        exact K3 c1 c2 c3
    · refine r_lload rfl rfl ?_
      refine r_ic (x := 52) rfl rfl ?_
      refine r_ic (x := 2) rfl rfl ?_
      refine r_iload rfl rfl ?_
      refine r_imul rfl ?_
      refine r_isub rfl ?_
      refine r_lshr rfl ?_
      refine r_ldc (x := .long 3) rfl rfl ?_
      refine r_land rfl ?_
      refine r_goto (tg := 92) rfl rfl ?_
      refine r_lstore (lv' := [some (.double x), none, some (.long b), none, some (.int e), some (.long g), none, some (.long r), none, some (.long t), none, some (.int i), some (.long ((g >>> ((52 - (2 * i)).toInt64 &&& 63)) &&& 3)), none, o2, none]) rfl (Nat.le_of_ble_eq_true rfl) rfl ?_
      refine r_lload rfl rfl ?_
      refine r_ic (x := 2) rfl rfl ?_
      refine r_lshl rfl ?_
      refine r_lc (x := 1) rfl rfl ?_
      refine r_lor rfl ?_
      refine r_lstore (lv' := [some (.double x), none, some (.long b), none, some (.int e), some (.long g), none, some (.long r), none, some (.long t), none, some (.int i), some (.long ((g >>> ((52 - (2 * i)).toInt64 &&& 63)) &&& 3)), none, some (.long ((r <<< ((2 : Int32).toInt64 &&& 63)) ||| 1)), none]) rfl (Nat.le_of_ble_eq_true rfl) rfl ?_
      refine r_lload rfl rfl ?_
      refine r_ic (x := 2) rfl rfl ?_
      refine r_lshl rfl ?_
      refine r_lload rfl rfl ?_
      refine r_lor rfl ?_
      refine r_lstore (lv' := [some (.double x), none, some (.long b), none, some (.int e), some (.long g), none, some (.long r), none, some (.long ((t <<< ((2 : Int32).toInt64 &&& 63)) ||| ((g >>> ((52 - (2 * i)).toInt64 &&& 63)) &&& 3))), none, some (.int i), some (.long ((g >>> ((52 - (2 * i)).toInt64 &&& 63)) &&& 3)), none, some (.long ((r <<< ((2 : Int32).toInt64 &&& 63)) ||| 1)), none]) rfl (Nat.le_of_ble_eq_true rfl) rfl ?_
      refine r_lload rfl rfl ?_
      refine r_ic (x := 1) rfl rfl ?_
      refine r_lshl rfl ?_
      refine r_lstore (lv' := [some (.double x), none, some (.long b), none, some (.int e), some (.long g), none, some (.long (r <<< ((1 : Int32).toInt64 &&& 63))), none, some (.long ((t <<< ((2 : Int32).toInt64 &&& 63)) ||| ((g >>> ((52 - (2 * i)).toInt64 &&& 63)) &&& 3))), none, some (.int i), some (.long ((g >>> ((52 - (2 * i)).toInt64 &&& 63)) &&& 3)), none, some (.long ((r <<< ((2 : Int32).toInt64 &&& 63)) ||| 1)), none]) rfl (Nat.le_of_ble_eq_true rfl) rfl ?_
      refine r_lload rfl rfl ?_
      refine r_lload rfl rfl ?_
      refine r_lif_lt (tg := 138) rfl rfl rfl (fun c4 => ?_) (fun c4 => ?_)
      · refine r_iinc (y := i + 1) (lv' := [some (.double x), none, some (.long b), none, some (.int e), some (.long g), none, some (.long (r <<< ((1 : Int32).toInt64 &&& 63))), none, some (.long ((t <<< ((2 : Int32).toInt64 &&& 63)) ||| ((g >>> ((52 - (2 * i)).toInt64 &&& 63)) &&& 3))), none, some (.int (i + 1)), some (.long ((g >>> ((52 - (2 * i)).toInt64 &&& 63)) &&& 3)), none, some (.long ((r <<< ((2 : Int32).toInt64 &&& 63)) ||| 1)), none]) rfl rfl rfl rfl ?_
        refine r_goto (tg := 60) rfl rfl ?_
        exact K4 c1 c2 c4
      · refine r_lload rfl rfl ?_
        refine r_lload rfl rfl ?_
        refine r_lsub rfl ?_
        refine r_lstore (lv' := [some (.double x), none, some (.long b), none, some (.int e), some (.long g), none, some (.long (r <<< ((1 : Int32).toInt64 &&& 63))), none, some (.long (((t <<< ((2 : Int32).toInt64 &&& 63)) ||| ((g >>> ((52 - (2 * i)).toInt64 &&& 63)) &&& 3)) - ((r <<< ((2 : Int32).toInt64 &&& 63)) ||| 1))), none, some (.int i), some (.long ((g >>> ((52 - (2 * i)).toInt64 &&& 63)) &&& 3)), none, some (.long ((r <<< ((2 : Int32).toInt64 &&& 63)) ||| 1)), none]) rfl (Nat.le_of_ble_eq_true rfl) rfl ?_
        refine r_lload rfl rfl ?_
        refine r_lc (x := 1) rfl rfl ?_
        refine r_lor rfl ?_
        refine r_lstore (lv' := [some (.double x), none, some (.long b), none, some (.int e), some (.long g), none, some (.long ((r <<< ((1 : Int32).toInt64 &&& 63)) ||| 1)), none, some (.long (((t <<< ((2 : Int32).toInt64 &&& 63)) ||| ((g >>> ((52 - (2 * i)).toInt64 &&& 63)) &&& 3)) - ((r <<< ((2 : Int32).toInt64 &&& 63)) ||| 1))), none, some (.int i), some (.long ((g >>> ((52 - (2 * i)).toInt64 &&& 63)) &&& 3)), none, some (.long ((r <<< ((2 : Int32).toInt64 &&& 63)) ||| 1)), none]) rfl (Nat.le_of_ble_eq_true rfl) rfl ?_
        refine r_iinc (y := i + 1) (lv' := [some (.double x), none, some (.long b), none, some (.int e), some (.long g), none, some (.long ((r <<< ((1 : Int32).toInt64 &&& 63)) ||| 1)), none, some (.long (((t <<< ((2 : Int32).toInt64 &&& 63)) ||| ((g >>> ((52 - (2 * i)).toInt64 &&& 63)) &&& 3)) - ((r <<< ((2 : Int32).toInt64 &&& 63)) ||| 1))), none, some (.int (i + 1)), some (.long ((g >>> ((52 - (2 * i)).toInt64 &&& 63)) &&& 3)), none, some (.long ((r <<< ((2 : Int32).toInt64 &&& 63)) ||| 1)), none]) rfl rfl rfl rfl ?_
        refine r_goto (tg := 60) rfl rfl ?_
        exact K5 c1 c2 c4

set_option maxHeartbeats 1000000 in
theorem w_ro144 {d : Nat} {Q : mQ} {h : mH} (x : UInt64) (b g r t : Int64) (e i : Int32) (o1 o2 : Option Value) 
    
    (C1 : EV (d) 86 [.double (FP.l2d ((r + 1) >>> ((1 : Int32).toInt64 &&& 63))), .int ((e / 2) - 26)] h (fun v h2 => WR (d) cd_134 161 [some (.double x), none, some (.long b), none, some (.int e), some (.long g), none, some (.long r), none, some (.long t), none, some (.int i), o1, none, o2, none] (v.toList ++ []) h2 Q)) : WR (d + 0) cd_134 144 [some (.double x), none, some (.long b), none, some (.int e), some (.long g), none, some (.long r), none, some (.long t), none, some (.int i), o1, none, o2, none] [] h Q := by
  refine r_lload rfl rfl ?_
  refine r_lc (x := 1) rfl rfl ?_
  refine r_ladd rfl ?_
  refine r_ic (x := 1) rfl rfl ?_
  refine r_lshr rfl ?_
  refine r_l2d rfl ?_
  refine r_iload rfl rfl ?_
  refine r_ic (x := 2) rfl rfl ?_
  refine r_idiv rfl (by decide) ?_
  refine r_ic (x := 26) rfl rfl ?_
  refine r_isub rfl ?_
  refine r_cs (y := 86) (ra := [.int ((e / 2) - 26), .double (FP.l2d ((r + 1) >>> ((1 : Int32).toInt64 &&& 63)))]) (rest := []) rfl ⟨⟨rfl, rfl⟩, by decide⟩ rfl rfl (Nat.le_of_ble_eq_true rfl) ?_
  exact C1

set_option maxHeartbeats 1000000 in
theorem w_ro161 {d : Nat} {Q : mQ} {h : mH} (x y : UInt64) (b g r t : Int64) (e i : Int32) (o1 o2 : Option Value) 
    
    (L1 : Q (some (.double y)) h) : WR (d + 0) cd_134 161 [some (.double x), none, some (.long b), none, some (.int e), some (.long g), none, some (.long r), none, some (.long t), none, some (.int i), o1, none, o2, none] [.double y] h Q := by
  refine r_dret rfl ?_
  exact L1

set_option maxHeartbeats 1000000 in
theorem w_rt0 {d : Nat} {Q : mQ} {h : mH} (x : UInt64) 
    
    (C1 : dgt x 0 → EV (d) 198 [.double x] h (fun v h2 => WR (d) cd_239 12 [some (.double x), none, none, none, none, none, none, none, none, none, none, none, none, none, none, none] (v.toList ++ []) h2 Q)) (L1 : ¬ dgt x 0 → Q (some (.double x)) h) : EV (d + 1) 239 [.double x] h Q := by
  refine in_239 (Nat.le_of_ble_eq_true rfl) ?_
  show WR _ cd_239 0 [some (.double x), none, none, none, none, none, none, none, none, none, none, none, none, none, none, none] [] h _
  refine r_dload rfl rfl ?_
  refine r_dc (x := 0) rfl rfl ?_
  refine r_dlif_gt (tg := 8) rfl rfl rfl (fun c1 => ?_) (fun c1 => ?_)
  · refine r_dload rfl rfl ?_
    refine r_cs (y := 198) (ra := [.double x]) (rest := []) rfl ⟨⟨rfl, rfl⟩, by decide⟩ rfl rfl (Nat.le_of_ble_eq_true rfl) ?_
    exact C1 c1
  · refine r_dload rfl rfl ?_
    refine r_dret rfl ?_
    exact L1 c1

set_option maxHeartbeats 1000000 in
theorem w_rt12 {d : Nat} {Q : mQ} {h : mH} (x : UInt64) (b : Int64) 
    
    (K1 : ((b >>> ((52 : Int32).toInt64 &&& 63)).toInt32) ≤ 0 → WR (d) cd_239 62 [some (.double x), none, some (.long b), none, some (.int (1 - 1075)), some (.long (b &&& 4503599627370495)), none, none, none, none, none, none, none, none, none, none] [] h Q) (K2 : ¬ ((b >>> ((52 : Int32).toInt64 &&& 63)).toInt32) ≤ 0 → WR (d) cd_239 62 [some (.double x), none, some (.long b), none, some (.int (((b >>> ((52 : Int32).toInt64 &&& 63)).toInt32) - 1075)), some (.long ((b &&& 4503599627370495) ||| 4503599627370496)), none, none, none, none, none, none, none, none, none, none] [] h Q) : WR (d + 0) cd_239 12 [some (.double x), none, none, none, none, none, none, none, none, none, none, none, none, none, none, none] [.long b] h Q := by
  refine r_lstore (lv' := [some (.double x), none, some (.long b), none, none, none, none, none, none, none, none, none, none, none, none, none]) rfl (Nat.le_of_ble_eq_true rfl) rfl ?_
  refine r_lload rfl rfl ?_
  refine r_ic (x := 52) rfl rfl ?_
  refine r_lshr rfl ?_
  refine r_l2i rfl ?_
  refine r_istore (lv' := [some (.double x), none, some (.long b), none, some (.int ((b >>> ((52 : Int32).toInt64 &&& 63)).toInt32)), none, none, none, none, none, none, none, none, none, none, none]) rfl (Nat.le_of_ble_eq_true rfl) rfl ?_
  refine r_lload rfl rfl ?_
  refine r_ldc (x := .long 4503599627370495) rfl rfl ?_
  refine r_land rfl ?_
  refine r_lstore (lv' := [some (.double x), none, some (.long b), none, some (.int ((b >>> ((52 : Int32).toInt64 &&& 63)).toInt32)), some (.long (b &&& 4503599627370495)), none, none, none, none, none, none, none, none, none, none]) rfl (Nat.le_of_ble_eq_true rfl) rfl ?_
  refine r_iload rfl rfl ?_
  refine r_if_le (tg := 41) rfl rfl (fun c1 => ?_) (fun c1 => ?_)
  · refine r_lload rfl rfl ?_
    refine r_lstore (lv' := [some (.double x), none, some (.long b), none, some (.int ((b >>> ((52 : Int32).toInt64 &&& 63)).toInt32)), some (.long (b &&& 4503599627370495)), none, none, none, none, none, none, none, none, none, none]) rfl (Nat.le_of_ble_eq_true rfl) rfl ?_
    refine r_iload rfl rfl ?_
    refine r_if_le (tg := 55) rfl rfl (fun _ => ?_) (fun q => absurd c1 q)
    refine r_ic (x := 1) rfl rfl ?_
    refine r_ic (x := 1075) rfl rfl ?_
    refine r_isub rfl ?_
    refine r_istore (lv' := [some (.double x), none, some (.long b), none, some (.int (1 - 1075)), some (.long (b &&& 4503599627370495)), none, none, none, none, none, none, none, none, none, none]) rfl (Nat.le_of_ble_eq_true rfl) rfl ?_
    exact K1 c1
  · refine r_lload rfl rfl ?_
    refine r_ldc (x := .long 4503599627370496) rfl rfl ?_
    refine r_lor rfl ?_
    refine r_goto (tg := 43) rfl rfl ?_
    refine r_lstore (lv' := [some (.double x), none, some (.long b), none, some (.int ((b >>> ((52 : Int32).toInt64 &&& 63)).toInt32)), some (.long ((b &&& 4503599627370495) ||| 4503599627370496)), none, none, none, none, none, none, none, none, none, none]) rfl (Nat.le_of_ble_eq_true rfl) rfl ?_
    refine r_iload rfl rfl ?_
    refine r_if_le (tg := 55) rfl rfl (fun q => absurd q c1) (fun _ => ?_)
    refine r_iload rfl rfl ?_
    refine r_goto (tg := 56) rfl rfl ?_
    refine r_ic (x := 1075) rfl rfl ?_
    refine r_isub rfl ?_
    refine r_istore (lv' := [some (.double x), none, some (.long b), none, some (.int (((b >>> ((52 : Int32).toInt64 &&& 63)).toInt32) - 1075)), some (.long ((b &&& 4503599627370495) ||| 4503599627370496)), none, none, none, none, none, none, none, none, none, none]) rfl (Nat.le_of_ble_eq_true rfl) rfl ?_
    exact K2 c1

set_option maxHeartbeats 1000000 in
theorem w_rt62 {d : Nat} {Q : mQ} {h : mH} (x : UInt64) (b g : Int64) (e : Int32) 
    
    (K1 : 4503599627370496 ≤ g → (e - e / 2 * 2) = 0 → WR (d) cd_239 109 [some (.double x), none, some (.long b), none, some (.int e), some (.long g), none, some (.long 0), none, some (.long 0), none, some (.int 26), none, none, none, none] [] h Q) (K2 : 4503599627370496 ≤ g → ¬ (e - e / 2 * 2) = 0 → WR (d) cd_239 109 [some (.double x), none, some (.long b), none, some (.int (e + (-1))), some (.long (g <<< ((1 : Int32).toInt64 &&& 63))), none, some (.long 0), none, some (.long 0), none, some (.int 26), none, none, none, none] [] h Q) (K3 : ¬ 4503599627370496 ≤ g → WR (d) cd_239 62 [some (.double x), none, some (.long b), none, some (.int (e + (-1))), some (.long (g <<< ((1 : Int32).toInt64 &&& 63))), none, none, none, none, none, none, none, none, none, none] [] h Q) : WR (d + 0) cd_239 62 [some (.double x), none, some (.long b), none, some (.int e), some (.long g), none, none, none, none, none, none, none, none, none, none] [] h Q := by
  refine r_lload rfl rfl ?_
  refine r_ldc (x := .long 4503599627370496) rfl rfl ?_
  refine r_lif_ge (tg := 83) rfl rfl rfl (fun c1 => ?_) (fun c1 => ?_)
  · refine r_iload rfl rfl ?_
    refine r_ic (x := 2) rfl rfl ?_
    refine r_irem rfl (by decide) ?_
    refine r_if_eq (tg := 99) rfl rfl (fun c2 => ?_) (fun c2 => ?_)
    · refine r_lc (x := 0) rfl rfl ?_
      refine r_lstore (lv' := [some (.double x), none, some (.long b), none, some (.int e), some (.long g), none, some (.long 0), none, none, none, none, none, none, none, none]) rfl (Nat.le_of_ble_eq_true rfl) rfl ?_
      refine r_lc (x := 0) rfl rfl ?_
      refine r_lstore (lv' := [some (.double x), none, some (.long b), none, some (.int e), some (.long g), none, some (.long 0), none, some (.long 0), none, none, none, none, none, none]) rfl (Nat.le_of_ble_eq_true rfl) rfl ?_
      refine r_ic (x := 26) rfl rfl ?_
      refine r_istore (lv' := [some (.double x), none, some (.long b), none, some (.int e), some (.long g), none, some (.long 0), none, some (.long 0), none, some (.int 26), none, none, none, none]) rfl (Nat.le_of_ble_eq_true rfl) rfl ?_
      exact K1 c1 c2
    · refine r_lload rfl rfl ?_
      refine r_ic (x := 1) rfl rfl ?_
      refine r_lshl rfl ?_
      refine r_lstore (lv' := [some (.double x), none, some (.long b), none, some (.int e), some (.long (g <<< ((1 : Int32).toInt64 &&& 63))), none, none, none, none, none, none, none, none, none, none]) rfl (Nat.le_of_ble_eq_true rfl) rfl ?_
      refine r_iinc (y := e + (-1)) (lv' := [some (.double x), none, some (.long b), none, some (.int (e + (-1))), some (.long (g <<< ((1 : Int32).toInt64 &&& 63))), none, none, none, none, none, none, none, none, none, none]) rfl rfl rfl rfl ?_
      refine r_lc (x := 0) rfl rfl ?_
      refine r_lstore (lv' := [some (.double x), none, some (.long b), none, some (.int (e + (-1))), some (.long (g <<< ((1 : Int32).toInt64 &&& 63))), none, some (.long 0), none, none, none, none, none, none, none, none]) rfl (Nat.le_of_ble_eq_true rfl) rfl ?_
      refine r_lc (x := 0) rfl rfl ?_
      refine r_lstore (lv' := [some (.double x), none, some (.long b), none, some (.int (e + (-1))), some (.long (g <<< ((1 : Int32).toInt64 &&& 63))), none, some (.long 0), none, some (.long 0), none, none, none, none, none, none]) rfl (Nat.le_of_ble_eq_true rfl) rfl ?_
      refine r_ic (x := 26) rfl rfl ?_
      refine r_istore (lv' := [some (.double x), none, some (.long b), none, some (.int (e + (-1))), some (.long (g <<< ((1 : Int32).toInt64 &&& 63))), none, some (.long 0), none, some (.long 0), none, some (.int 26), none, none, none, none]) rfl (Nat.le_of_ble_eq_true rfl) rfl ?_
      exact K2 c1 c2
  · refine r_lload rfl rfl ?_
    refine r_ic (x := 1) rfl rfl ?_
    refine r_lshl rfl ?_
    refine r_lstore (lv' := [some (.double x), none, some (.long b), none, some (.int e), some (.long (g <<< ((1 : Int32).toInt64 &&& 63))), none, none, none, none, none, none, none, none, none, none]) rfl (Nat.le_of_ble_eq_true rfl) rfl ?_
    refine r_iinc (y := e + (-1)) (lv' := [some (.double x), none, some (.long b), none, some (.int (e + (-1))), some (.long (g <<< ((1 : Int32).toInt64 &&& 63))), none, none, none, none, none, none, none, none, none, none]) rfl rfl rfl rfl ?_
    refine r_goto (tg := 62) rfl rfl ?_
    exact K3 c1

set_option maxHeartbeats 1000000 in
theorem w_rt109 {d : Nat} {Q : mQ} {h : mH} (x : UInt64) (b g r t : Int64) (e i : Int32) (o1 : Option Value) 
    
    (K1 : i < (-28) → WR (d) cd_239 184 [some (.double x), none, some (.long b), none, some (.int e), some (.long g), none, some (.long t), none, some (.long r), none, some (.int i), o1, none, none, none] [] h Q) (K2 : ¬ i < (-28) → i < 0 → ((t <<< ((2 : Int32).toInt64 &&& 63)) ||| 0) < ((r <<< ((2 : Int32).toInt64 &&& 63)) ||| 1) → WR (d) cd_239 109 [some (.double x), none, some (.long b), none, some (.int e), some (.long g), none, some (.long ((t <<< ((2 : Int32).toInt64 &&& 63)) ||| 0)), none, some (.long (r <<< ((1 : Int32).toInt64 &&& 63))), none, some (.int (i + (-1))), some (.long ((r <<< ((2 : Int32).toInt64 &&& 63)) ||| 1)), none, none, none] [] h Q) (K3 : ¬ i < (-28) → i < 0 → ¬ ((t <<< ((2 : Int32).toInt64 &&& 63)) ||| 0) < ((r <<< ((2 : Int32).toInt64 &&& 63)) ||| 1) → WR (d) cd_239 109 [some (.double x), none, some (.long b), none, some (.int e), some (.long g), none, some (.long (((t <<< ((2 : Int32).toInt64 &&& 63)) ||| 0) - ((r <<< ((2 : Int32).toInt64 &&& 63)) ||| 1))), none, some (.long ((r <<< ((1 : Int32).toInt64 &&& 63)) ||| 1)), none, some (.int (i + (-1))), some (.long ((r <<< ((2 : Int32).toInt64 &&& 63)) ||| 1)), none, none, none] [] h Q) (K4 : ¬ i < (-28) → ¬ i < 0 → ((t <<< ((2 : Int32).toInt64 &&& 63)) ||| ((g >>> ((2 * i).toInt64 &&& 63)) &&& 3)) < ((r <<< ((2 : Int32).toInt64 &&& 63)) ||| 1) → WR (d) cd_239 109 [some (.double x), none, some (.long b), none, some (.int e), some (.long g), none, some (.long ((t <<< ((2 : Int32).toInt64 &&& 63)) ||| ((g >>> ((2 * i).toInt64 &&& 63)) &&& 3))), none, some (.long (r <<< ((1 : Int32).toInt64 &&& 63))), none, some (.int (i + (-1))), some (.long ((r <<< ((2 : Int32).toInt64 &&& 63)) ||| 1)), none, none, none] [] h Q) (K5 : ¬ i < (-28) → ¬ i < 0 → ¬ ((t <<< ((2 : Int32).toInt64 &&& 63)) ||| ((g >>> ((2 * i).toInt64 &&& 63)) &&& 3)) < ((r <<< ((2 : Int32).toInt64 &&& 63)) ||| 1) → WR (d) cd_239 109 [some (.double x), none, some (.long b), none, some (.int e), some (.long g), none, some (.long (((t <<< ((2 : Int32).toInt64 &&& 63)) ||| ((g >>> ((2 * i).toInt64 &&& 63)) &&& 3)) - ((r <<< ((2 : Int32).toInt64 &&& 63)) ||| 1))), none, some (.long ((r <<< ((1 : Int32).toInt64 &&& 63)) ||| 1)), none, some (.int (i + (-1))), some (.long ((r <<< ((2 : Int32).toInt64 &&& 63)) ||| 1)), none, none, none] [] h Q) : WR (d + 0) cd_239 109 [some (.double x), none, some (.long b), none, some (.int e), some (.long g), none, some (.long t), none, some (.long r), none, some (.int i), o1, none, none, none] [] h Q := by
  refine r_iload rfl rfl ?_
  refine r_ic (x := (-28)) rfl rfl ?_
  refine r_icmp_lt (tg := 184) rfl rfl (fun c1 => ?_) (fun c1 => ?_)
  · exact K1 c1
  · refine r_lload rfl rfl ?_
    refine r_ic (x := 2) rfl rfl ?_
    refine r_lshl rfl ?_
    refine r_iload rfl rfl ?_
    refine r_if_lt (tg := 139) rfl rfl (fun c2 => ?_) (fun c2 => ?_)
    · refine r_lc (x := 0) rfl rfl ?_
      refine r_lor rfl ?_
      refine r_lstore (lv' := [some (.double x), none, some (.long b), none, some (.int e), some (.long g), none, some (.long ((t <<< ((2 : Int32).toInt64 &&& 63)) ||| 0)), none, some (.long r), none, some (.int i), o1, none, none, none]) rfl (Nat.le_of_ble_eq_true rfl) rfl ?_
      refine r_lload rfl rfl ?_
      refine r_ic (x := 2) rfl rfl ?_
      refine r_lshl rfl ?_
      refine r_lc (x := 1) rfl rfl ?_
      refine r_lor rfl ?_
      refine r_lstore (lv' := [some (.double x), none, some (.long b), none, some (.int e), some (.long g), none, some (.long ((t <<< ((2 : Int32).toInt64 &&& 63)) ||| 0)), none, some (.long r), none, some (.int i), some (.long ((r <<< ((2 : Int32).toInt64 &&& 63)) ||| 1)), none, none, none]) rfl (Nat.le_of_ble_eq_true rfl) rfl ?_
      refine r_lload rfl rfl ?_
      refine r_ic (x := 1) rfl rfl ?_
      refine r_lshl rfl ?_
      refine r_lstore (lv' := [some (.double x), none, some (.long b), none, some (.int e), some (.long g), none, some (.long ((t <<< ((2 : Int32).toInt64 &&& 63)) ||| 0)), none, some (.long (r <<< ((1 : Int32).toInt64 &&& 63))), none, some (.int i), some (.long ((r <<< ((2 : Int32).toInt64 &&& 63)) ||| 1)), none, none, none]) rfl (Nat.le_of_ble_eq_true rfl) rfl ?_
      refine r_lload rfl rfl ?_
      refine r_lload rfl rfl ?_
      refine r_lif_lt (tg := 178) rfl rfl rfl (fun c3 => ?_) (fun c3 => ?_)
      · refine r_iinc (y := i + (-1)) (lv' := [some (.double x), none, some (.long b), none, some (.int e), some (.long g), none, some (.long ((t <<< ((2 : Int32).toInt64 &&& 63)) ||| 0)), none, some (.long (r <<< ((1 : Int32).toInt64 &&& 63))), none, some (.int (i + (-1))), some (.long ((r <<< ((2 : Int32).toInt64 &&& 63)) ||| 1)), none, none, none]) rfl rfl rfl rfl ?_
        refine r_goto (tg := 109) rfl rfl ?_
        exact K2 c1 c2 c3
      · refine r_lload rfl rfl ?_
        refine r_lload rfl rfl ?_
        refine r_lsub rfl ?_
        refine r_lstore (lv' := [some (.double x), none, some (.long b), none, some (.int e), some (.long g), none, some (.long (((t <<< ((2 : Int32).toInt64 &&& 63)) ||| 0) - ((r <<< ((2 : Int32).toInt64 &&& 63)) ||| 1))), none, some (.long (r <<< ((1 : Int32).toInt64 &&& 63))), none, some (.int i), some (.long ((r <<< ((2 : Int32).toInt64 &&& 63)) ||| 1)), none, none, none]) rfl (Nat.le_of_ble_eq_true rfl) rfl ?_
        refine r_lload rfl rfl ?_
        refine r_lc (x := 1) rfl rfl ?_
        refine r_lor rfl ?_
        refine r_lstore (lv' := [some (.double x), none, some (.long b), none, some (.int e), some (.long g), none, some (.long (((t <<< ((2 : Int32).toInt64 &&& 63)) ||| 0) - ((r <<< ((2 : Int32).toInt64 &&& 63)) ||| 1))), none, some (.long ((r <<< ((1 : Int32).toInt64 &&& 63)) ||| 1)), none, some (.int i), some (.long ((r <<< ((2 : Int32).toInt64 &&& 63)) ||| 1)), none, none, none]) rfl (Nat.le_of_ble_eq_true rfl) rfl ?_
        refine r_iinc (y := i + (-1)) (lv' := [some (.double x), none, some (.long b), none, some (.int e), some (.long g), none, some (.long (((t <<< ((2 : Int32).toInt64 &&& 63)) ||| 0) - ((r <<< ((2 : Int32).toInt64 &&& 63)) ||| 1))), none, some (.long ((r <<< ((1 : Int32).toInt64 &&& 63)) ||| 1)), none, some (.int (i + (-1))), some (.long ((r <<< ((2 : Int32).toInt64 &&& 63)) ||| 1)), none, none, none]) rfl rfl rfl rfl ?_
        refine r_goto (tg := 109) rfl rfl ?_
        exact K3 c1 c2 c3
    · refine r_lload rfl rfl ?_
      refine r_ic (x := 2) rfl rfl ?_
      refine r_iload rfl rfl ?_
      refine r_imul rfl ?_
      refine r_lshr rfl ?_
      refine r_ldc (x := .long 3) rfl rfl ?_
      refine r_land rfl ?_
      refine r_goto (tg := 140) rfl rfl ?_
      refine r_lor rfl ?_
      refine r_lstore (lv' := [some (.double x), none, some (.long b), none, some (.int e), some (.long g), none, some (.long ((t <<< ((2 : Int32).toInt64 &&& 63)) ||| ((g >>> ((2 * i).toInt64 &&& 63)) &&& 3))), none, some (.long r), none, some (.int i), o1, none, none, none]) rfl (Nat.le_of_ble_eq_true rfl) rfl ?_
      refine r_lload rfl rfl ?_
      refine r_ic (x := 2) rfl rfl ?_
      refine r_lshl rfl ?_
      refine r_lc (x := 1) rfl rfl ?_
      refine r_lor rfl ?_
      refine r_lstore (lv' := [some (.double x), none, some (.long b), none, some (.int e), some (.long g), none, some (.long ((t <<< ((2 : Int32).toInt64 &&& 63)) ||| ((g >>> ((2 * i).toInt64 &&& 63)) &&& 3))), none, some (.long r), none, some (.int i), some (.long ((r <<< ((2 : Int32).toInt64 &&& 63)) ||| 1)), none, none, none]) rfl (Nat.le_of_ble_eq_true rfl) rfl ?_
      refine r_lload rfl rfl ?_
      refine r_ic (x := 1) rfl rfl ?_
      refine r_lshl rfl ?_
      refine r_lstore (lv' := [some (.double x), none, some (.long b), none, some (.int e), some (.long g), none, some (.long ((t <<< ((2 : Int32).toInt64 &&& 63)) ||| ((g >>> ((2 * i).toInt64 &&& 63)) &&& 3))), none, some (.long (r <<< ((1 : Int32).toInt64 &&& 63))), none, some (.int i), some (.long ((r <<< ((2 : Int32).toInt64 &&& 63)) ||| 1)), none, none, none]) rfl (Nat.le_of_ble_eq_true rfl) rfl ?_
      refine r_lload rfl rfl ?_
      refine r_lload rfl rfl ?_
      refine r_lif_lt (tg := 178) rfl rfl rfl (fun c4 => ?_) (fun c4 => ?_)
      · refine r_iinc (y := i + (-1)) (lv' := [some (.double x), none, some (.long b), none, some (.int e), some (.long g), none, some (.long ((t <<< ((2 : Int32).toInt64 &&& 63)) ||| ((g >>> ((2 * i).toInt64 &&& 63)) &&& 3))), none, some (.long (r <<< ((1 : Int32).toInt64 &&& 63))), none, some (.int (i + (-1))), some (.long ((r <<< ((2 : Int32).toInt64 &&& 63)) ||| 1)), none, none, none]) rfl rfl rfl rfl ?_
        refine r_goto (tg := 109) rfl rfl ?_
        exact K4 c1 c2 c4
      · refine r_lload rfl rfl ?_
        refine r_lload rfl rfl ?_
        refine r_lsub rfl ?_
        refine r_lstore (lv' := [some (.double x), none, some (.long b), none, some (.int e), some (.long g), none, some (.long (((t <<< ((2 : Int32).toInt64 &&& 63)) ||| ((g >>> ((2 * i).toInt64 &&& 63)) &&& 3)) - ((r <<< ((2 : Int32).toInt64 &&& 63)) ||| 1))), none, some (.long (r <<< ((1 : Int32).toInt64 &&& 63))), none, some (.int i), some (.long ((r <<< ((2 : Int32).toInt64 &&& 63)) ||| 1)), none, none, none]) rfl (Nat.le_of_ble_eq_true rfl) rfl ?_
        refine r_lload rfl rfl ?_
        refine r_lc (x := 1) rfl rfl ?_
        refine r_lor rfl ?_
        refine r_lstore (lv' := [some (.double x), none, some (.long b), none, some (.int e), some (.long g), none, some (.long (((t <<< ((2 : Int32).toInt64 &&& 63)) ||| ((g >>> ((2 * i).toInt64 &&& 63)) &&& 3)) - ((r <<< ((2 : Int32).toInt64 &&& 63)) ||| 1))), none, some (.long ((r <<< ((1 : Int32).toInt64 &&& 63)) ||| 1)), none, some (.int i), some (.long ((r <<< ((2 : Int32).toInt64 &&& 63)) ||| 1)), none, none, none]) rfl (Nat.le_of_ble_eq_true rfl) rfl ?_
        refine r_iinc (y := i + (-1)) (lv' := [some (.double x), none, some (.long b), none, some (.int e), some (.long g), none, some (.long (((t <<< ((2 : Int32).toInt64 &&& 63)) ||| ((g >>> ((2 * i).toInt64 &&& 63)) &&& 3)) - ((r <<< ((2 : Int32).toInt64 &&& 63)) ||| 1))), none, some (.long ((r <<< ((1 : Int32).toInt64 &&& 63)) ||| 1)), none, some (.int (i + (-1))), some (.long ((r <<< ((2 : Int32).toInt64 &&& 63)) ||| 1)), none, none, none]) rfl rfl rfl rfl ?_
        refine r_goto (tg := 109) rfl rfl ?_
        exact K5 c1 c2 c4

set_option maxHeartbeats 1000000 in
theorem w_rt184 {d : Nat} {Q : mQ} {h : mH} (x : UInt64) (b g r t : Int64) (e i : Int32) (o1 : Option Value) 
    
    (K1 : 2 < (r &&& 3) → WR (d) cd_239 238 [some (.double x), none, some (.long b), none, some (.int e), some (.long g), none, some (.long t), none, some (.long r), none, some (.long ((r >>> ((2 : Int32).toInt64 &&& 63)) + 1)), none, some (.long (r &&& 3)), none, none] [] h Q) (K2 : ¬ 2 < (r &&& 3) → ¬ (r &&& 3) = 2 → WR (d) cd_239 238 [some (.double x), none, some (.long b), none, some (.int e), some (.long g), none, some (.long t), none, some (.long r), none, some (.long (r >>> ((2 : Int32).toInt64 &&& 63))), none, some (.long (r &&& 3)), none, none] [] h Q) (K3 : ¬ 2 < (r &&& 3) → (r &&& 3) = 2 → ¬ t = 0 → WR (d) cd_239 238 [some (.double x), none, some (.long b), none, some (.int e), some (.long g), none, some (.long t), none, some (.long r), none, some (.long ((r >>> ((2 : Int32).toInt64 &&& 63)) + 1)), none, some (.long (r &&& 3)), none, none] [] h Q) (K4 : ¬ 2 < (r &&& 3) → (r &&& 3) = 2 → t = 0 → ¬ ((r >>> ((2 : Int32).toInt64 &&& 63)) &&& 1) = 1 → WR (d) cd_239 238 [some (.double x), none, some (.long b), none, some (.int e), some (.long g), none, some (.long t), none, some (.long r), none, some (.long (r >>> ((2 : Int32).toInt64 &&& 63))), none, some (.long (r &&& 3)), none, none] [] h Q) (K5 : ¬ 2 < (r &&& 3) → (r &&& 3) = 2 → t = 0 → ((r >>> ((2 : Int32).toInt64 &&& 63)) &&& 1) = 1 → WR (d) cd_239 238 [some (.double x), none, some (.long b), none, some (.int e), some (.long g), none, some (.long t), none, some (.long r), none, some (.long ((r >>> ((2 : Int32).toInt64 &&& 63)) + 1)), none, some (.long (r &&& 3)), none, none] [] h Q) : WR (d + 0) cd_239 184 [some (.double x), none, some (.long b), none, some (.int e), some (.long g), none, some (.long t), none, some (.long r), none, some (.int i), o1, none, none, none] [] h Q := by
  refine r_lload rfl rfl ?_
  refine r_ic (x := 2) rfl rfl ?_
  refine r_lshr rfl ?_
  refine r_lstore (lv' := [some (.double x), none, some (.long b), none, some (.int e), some (.long g), none, some (.long t), none, some (.long r), none, some (.long (r >>> ((2 : Int32).toInt64 &&& 63))), none, none, none, none]) rfl (Nat.le_of_ble_eq_true rfl) rfl ?_
  refine r_lload rfl rfl ?_
  refine r_ldc (x := .long 3) rfl rfl ?_
  refine r_land rfl ?_
  refine r_lstore (lv' := [some (.double x), none, some (.long b), none, some (.int e), some (.long g), none, some (.long t), none, some (.long r), none, some (.long (r >>> ((2 : Int32).toInt64 &&& 63))), none, some (.long (r &&& 3)), none, none]) rfl (Nat.le_of_ble_eq_true rfl) rfl ?_
  refine r_lload rfl rfl ?_
  refine r_ldc (x := .long 2) rfl rfl ?_
  refine r_lif_gt (tg := 232) rfl rfl rfl (fun c1 => ?_) (fun c1 => ?_)
  · refine r_lload rfl rfl ?_
    refine r_lc (x := 1) rfl rfl ?_
    refine r_ladd rfl ?_
    refine r_lstore (lv' := [some (.double x), none, some (.long b), none, some (.int e), some (.long g), none, some (.long t), none, some (.long r), none, some (.long ((r >>> ((2 : Int32).toInt64 &&& 63)) + 1)), none, some (.long (r &&& 3)), none, none]) rfl (Nat.le_of_ble_eq_true rfl) rfl ?_
    exact K1 c1
  · refine r_lload rfl rfl ?_
    refine r_ldc (x := .long 2) rfl rfl ?_
    refine r_lif_ne (tg := 238) rfl rfl rfl (fun c2 => ?_) (fun c2 => ?_)
    · exact K2 c1 c2
    · refine r_lload rfl rfl ?_
      refine r_lc (x := 0) rfl rfl ?_
      refine r_lif_ne (tg := 232) rfl rfl rfl (fun c3 => ?_) (fun c3 => ?_)
      · refine r_lload rfl rfl ?_
        refine r_lc (x := 1) rfl rfl ?_
        refine r_ladd rfl ?_
        refine r_lstore (lv' := [some (.double x), none, some (.long b), none, some (.int e), some (.long g), none, some (.long t), none, some (.long r), none, some (.long ((r >>> ((2 : Int32).toInt64 &&& 63)) + 1)), none, some (.long (r &&& 3)), none, none]) rfl (Nat.le_of_ble_eq_true rfl) rfl ?_
        exact K3 c1 c2 c3
      · refine r_lload rfl rfl ?_
        refine r_lc (x := 1) rfl rfl ?_
        refine r_land rfl ?_
        refine r_lc (x := 1) rfl rfl ?_
        refine r_lif_ne (tg := 238) rfl rfl rfl (fun c4 => ?_) (fun c4 => ?_)
        · exact K4 c1 c2 c3 c4
        · refine r_lload rfl rfl ?_
          refine r_lc (x := 1) rfl rfl ?_
          refine r_ladd rfl ?_
          refine r_lstore (lv' := [some (.double x), none, some (.long b), none, some (.int e), some (.long g), none, some (.long t), none, some (.long r), none, some (.long ((r >>> ((2 : Int32).toInt64 &&& 63)) + 1)), none, some (.long (r &&& 3)), none, none]) rfl (Nat.le_of_ble_eq_true rfl) rfl ?_
          exact K5 c1 c2 c3 c4

set_option maxHeartbeats 1000000 in
theorem w_rt238 {d : Nat} {Q : mQ} {h : mH} (x : UInt64) (b g r t k l : Int64) (e : Int32) 
    (B1 : ¬ k = 9007199254740992 → vn_snl2d ((((((e / 2) - 26) + 1075).toInt64) <<< ((52 : Int32).toInt64 &&& 63)) ||| (k &&& 4503599627370495)) = false) (B2 : k = 9007199254740992 → vn_snl2d (((((((e / 2) - 26) + 1) + 1075).toInt64) <<< ((52 : Int32).toInt64 &&& 63)) ||| ((k >>> ((1 : Int32).toInt64 &&& 63)) &&& 4503599627370495)) = false)
    (L1 : ¬ k = 9007199254740992 → Q (some (.double (((((((e / 2) - 26) + 1075).toInt64) <<< ((52 : Int32).toInt64 &&& 63)) ||| (k &&& 4503599627370495)).toUInt64))) h) (L2 : k = 9007199254740992 → Q (some (.double ((((((((e / 2) - 26) + 1) + 1075).toInt64) <<< ((52 : Int32).toInt64 &&& 63)) ||| ((k >>> ((1 : Int32).toInt64 &&& 63)) &&& 4503599627370495)).toUInt64))) h) : WR (d + 0) cd_239 238 [some (.double x), none, some (.long b), none, some (.int e), some (.long g), none, some (.long t), none, some (.long r), none, some (.long k), none, some (.long l), none, none] [] h Q := by
  refine r_iload rfl rfl ?_
  refine r_ic (x := 2) rfl rfl ?_
  refine r_idiv rfl (by decide) ?_
  refine r_ic (x := 26) rfl rfl ?_
  refine r_isub rfl ?_
  refine r_istore (lv' := [some (.double x), none, some (.long b), none, some (.int e), some (.long g), none, some (.long t), none, some (.long r), none, some (.long k), none, some (.long l), none, some (.int ((e / 2) - 26))]) rfl (Nat.le_of_ble_eq_true rfl) rfl ?_
  refine r_lload rfl rfl ?_
  refine r_ldc (x := .long 9007199254740992) rfl rfl ?_
  refine r_lif_ne (tg := 265) rfl rfl rfl (fun c1 => ?_) (fun c1 => ?_)
  · refine r_iload rfl rfl ?_
    refine r_ic (x := 1075) rfl rfl ?_
    refine r_iadd rfl ?_
    refine r_i2l rfl ?_
    refine r_ic (x := 52) rfl rfl ?_
    refine r_lshl rfl ?_
    refine r_lload rfl rfl ?_
    refine r_ldc (x := .long 4503599627370495) rfl rfl ?_
    refine r_land rfl ?_
    refine r_lor rfl ?_
    refine r_l2dn rfl (B1 c1) (Nat.le_of_ble_eq_true rfl) ?_
    refine r_dret rfl ?_
    exact L1 c1
  · refine r_lload rfl rfl ?_
    refine r_ic (x := 1) rfl rfl ?_
    refine r_lshr rfl ?_
    refine r_lstore (lv' := [some (.double x), none, some (.long b), none, some (.int e), some (.long g), none, some (.long t), none, some (.long r), none, some (.long (k >>> ((1 : Int32).toInt64 &&& 63))), none, some (.long l), none, some (.int ((e / 2) - 26))]) rfl (Nat.le_of_ble_eq_true rfl) rfl ?_
    refine r_iinc (y := ((e / 2) - 26) + 1) (lv' := [some (.double x), none, some (.long b), none, some (.int e), some (.long g), none, some (.long t), none, some (.long r), none, some (.long (k >>> ((1 : Int32).toInt64 &&& 63))), none, some (.long l), none, some (.int (((e / 2) - 26) + 1))]) rfl rfl rfl rfl ?_
    refine r_iload rfl rfl ?_
    refine r_ic (x := 1075) rfl rfl ?_
    refine r_iadd rfl ?_
    refine r_i2l rfl ?_
    refine r_ic (x := 52) rfl rfl ?_
    refine r_lshl rfl ?_
    refine r_lload rfl rfl ?_
    refine r_ldc (x := .long 4503599627370495) rfl rfl ?_
    refine r_land rfl ?_
    refine r_lor rfl ?_
    refine r_l2dn rfl (B2 c1) (Nat.le_of_ble_eq_true rfl) ?_
    refine r_dret rfl ?_
    exact L2 c1
