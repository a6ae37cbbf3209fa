/-! ===== walks of bitsOf; printed ===== -/
set_option maxHeartbeats 1000000 in
theorem w_bo0 {d : Nat} {Q : mQ} {h : mH} (x : UInt64) 
    (B1 : deq x 0 → vf_n64 (FP.ddiv 4607182418800017408 x))
    (K1 : ¬ deq x 0 → ¬ dlt x 0 → ¬ dlt x 0 → ¬ dgt x 9218868437227405311 → WR (d) cd_88 73 [some (.double x), none, some (.long 0), none, some (.double x), none, some (.int 1075), some (.int 0), none] [] h Q) (L1 : ¬ deq x 0 → ¬ dlt x 0 → ¬ dlt x 0 → dgt x 9218868437227405311 → Q (some (.long (0 ||| 9218868437227405312))) h) (K2 : ¬ deq x 0 → ¬ dlt x 0 → dlt x 0 → ¬ dgt (FP.dneg x) 9218868437227405311 → WR (d) cd_88 73 [some (.double x), none, some (.long 0), none, some (.double (FP.dneg x)), none, some (.int 1075), some (.int 0), none] [] h Q) (L2 : ¬ deq x 0 → ¬ dlt x 0 → dlt x 0 → dgt (FP.dneg x) 9218868437227405311 → Q (some (.long (0 ||| 9218868437227405312))) h) (K3 : ¬ deq x 0 → dlt x 0 → ¬ dlt x 0 → ¬ dgt x 9218868437227405311 → WR (d) cd_88 73 [some (.double x), none, some (.long (-9223372036854775808)), none, some (.double x), none, some (.int 1075), some (.int 0), none] [] h Q) (L3 : ¬ deq x 0 → dlt x 0 → ¬ dlt x 0 → dgt x 9218868437227405311 → Q (some (.long ((-9223372036854775808) ||| 9218868437227405312))) h) (K4 : ¬ deq x 0 → dlt x 0 → dlt x 0 → ¬ dgt (FP.dneg x) 9218868437227405311 → WR (d) cd_88 73 [some (.double x), none, some (.long (-9223372036854775808)), none, some (.double (FP.dneg x)), none, some (.int 1075), some (.int 0), none] [] h Q) (L4 : ¬ deq x 0 → dlt x 0 → dlt x 0 → dgt (FP.dneg x) 9218868437227405311 → Q (some (.long ((-9223372036854775808) ||| 9218868437227405312))) h) (L5 : deq x 0 → ¬ dlt (FP.ddiv 4607182418800017408 x) 0 → Q (some (.long 0)) h) (L6 : deq x 0 → dlt (FP.ddiv 4607182418800017408 x) 0 → Q (some (.long (-9223372036854775808))) h) : EV (d + 1) 88 [.double x] h Q := by
  refine in_88 (Nat.le_of_ble_eq_true rfl) ?_
  show WR _ cd_88 0 [some (.double x), none, none, none, none, none, none, none, none] [] h _
  refine r_dload rfl rfl ?_
  refine r_dc (x := 0) rfl rfl ?_
  refine r_dlif_ne (tg := 22) rfl rfl rfl (fun c1 => ?_) (fun c1 => ?_)
  · refine r_dload rfl rfl ?_
    refine r_dc (x := 0) rfl rfl ?_
    refine r_dgif_ge (tg := 34) rfl rfl rfl (fun c2 => ?_) (fun c2 => ?_)
    · refine r_lc (x := 0) rfl rfl ?_
      refine r_lstore (lv' := [some (.double x), none, some (.long 0), none, none, none, none, none, none]) rfl (Nat.le_of_ble_eq_true rfl) rfl ?_
      refine r_dload rfl rfl ?_
      refine r_dc (x := 0) rfl rfl ?_
      refine r_dgif_ge (tg := 47) rfl rfl rfl (fun c3 => ?_) (fun c3 => ?_)
      · refine r_dload rfl rfl ?_
        refine r_dstore (lv' := [some (.double x), none, some (.long 0), none, some (.double x), none, none, none, none]) rfl (Nat.le_of_ble_eq_true rfl) rfl ?_
        refine r_dload rfl rfl ?_
        refine r_ldc (x := .double 9218868437227405311) rfl rfl ?_
        refine r_dlif_le (tg := 65) rfl rfl rfl (fun c4 => ?_) (fun c4 => ?_)
        · refine r_ic (x := 1075) rfl rfl ?_
          refine r_istore (lv' := [some (.double x), none, some (.long 0), none, some (.double x), none, some (.int 1075), none, none]) rfl (Nat.le_of_ble_eq_true rfl) rfl ?_
          refine r_ic (x := 0) rfl rfl ?_
          refine r_istore (lv' := [some (.double x), none, some (.long 0), none, some (.double x), none, some (.int 1075), some (.int 0), none]) rfl (Nat.le_of_ble_eq_true rfl) rfl ?_
          exact K1 c1 c2 c3 c4
        · refine r_lload rfl rfl ?_
          refine r_ldc (x := .long 9218868437227405312) rfl rfl ?_
          refine r_lor rfl ?_
          refine r_lret rfl ?_
          exact L1 c1 c2 c3 c4
      · refine r_dload rfl rfl ?_
        refine r_dneg rfl ?_
        refine r_goto (tg := 48) rfl rfl ?_
        refine r_dstore (lv' := [some (.double x), none, some (.long 0), none, some (.double (FP.dneg x)), none, none, none, none]) rfl (Nat.le_of_ble_eq_true rfl) rfl ?_
        refine r_dload rfl rfl ?_
        refine r_ldc (x := .double 9218868437227405311) rfl rfl ?_
        refine r_dlif_le (tg := 65) rfl rfl rfl (fun c5 => ?_) (fun c5 => ?_)
        · refine r_ic (x := 1075) rfl rfl ?_
          refine r_istore (lv' := [some (.double x), none, some (.long 0), none, some (.double (FP.dneg x)), none, some (.int 1075), none, none]) rfl (Nat.le_of_ble_eq_true rfl) rfl ?_
          refine r_ic (x := 0) rfl rfl ?_
          refine r_istore (lv' := [some (.double x), none, some (.long 0), none, some (.double (FP.dneg x)), none, some (.int 1075), some (.int 0), none]) rfl (Nat.le_of_ble_eq_true rfl) rfl ?_
          exact K2 c1 c2 c3 c5
        · refine r_lload rfl rfl ?_
          refine r_ldc (x := .long 9218868437227405312) rfl rfl ?_
          refine r_lor rfl ?_
          refine r_lret rfl ?_
          exact L2 c1 c2 c3 c5
    · refine r_ldc (x := .long (-9223372036854775808)) rfl rfl ?_
      refine r_goto (tg := 35) rfl rfl ?_
      refine r_lstore (lv' := [some (.double x), none, some (.long (-9223372036854775808)), none, none, none, none, none, none]) rfl (Nat.le_of_ble_eq_true rfl) rfl ?_
      refine r_dload rfl rfl ?_
      refine r_dc (x := 0) rfl rfl ?_
      refine r_dgif_ge (tg := 47) rfl rfl rfl (fun c6 => ?_) (fun c6 => ?_)
      · refine r_dload rfl rfl ?_
        refine r_dstore (lv' := [some (.double x), none, some (.long (-9223372036854775808)), none, some (.double x), none, none, none, none]) rfl (Nat.le_of_ble_eq_true rfl) rfl ?_
        refine r_dload rfl rfl ?_
        refine r_ldc (x := .double 9218868437227405311) rfl rfl ?_
        refine r_dlif_le (tg := 65) rfl rfl rfl (fun c7 => ?_) (fun c7 => ?_)
        · refine r_ic (x := 1075) rfl rfl ?_
          refine r_istore (lv' := [some (.double x), none, some (.long (-9223372036854775808)), none, some (.double x), none, some (.int 1075), none, none]) rfl (Nat.le_of_ble_eq_true rfl) rfl ?_
          refine r_ic (x := 0) rfl rfl ?_
          refine r_istore (lv' := [some (.double x), none, some (.long (-9223372036854775808)), none, some (.double x), none, some (.int 1075), some (.int 0), none]) rfl (Nat.le_of_ble_eq_true rfl) rfl ?_
          exact K3 c1 c2 c6 c7
        · refine r_lload rfl rfl ?_
          refine r_ldc (x := .long 9218868437227405312) rfl rfl ?_
          refine r_lor rfl ?_
          refine r_lret rfl ?_
          exact L3 c1 c2 c6 c7
      · refine r_dload rfl rfl ?_
        refine r_dneg rfl ?_
        refine r_goto (tg := 48) rfl rfl ?_
        refine r_dstore (lv' := [some (.double x), none, some (.long (-9223372036854775808)), none, some (.double (FP.dneg x)), none, none, none, none]) rfl (Nat.le_of_ble_eq_true rfl) rfl ?_
        refine r_dload rfl rfl ?_
        refine r_ldc (x := .double 9218868437227405311) rfl rfl ?_
        refine r_dlif_le (tg := 65) rfl rfl rfl (fun c8 => ?_) (fun c8 => ?_)
        · refine r_ic (x := 1075) rfl rfl ?_
          refine r_istore (lv' := [some (.double x), none, some (.long (-9223372036854775808)), none, some (.double (FP.dneg x)), none, some (.int 1075), none, none]) rfl (Nat.le_of_ble_eq_true rfl) rfl ?_
          refine r_ic (x := 0) rfl rfl ?_
          refine r_istore (lv' := [some (.double x), none, some (.long (-9223372036854775808)), none, some (.double (FP.dneg x)), none, some (.int 1075), some (.int 0), none]) rfl (Nat.le_of_ble_eq_true rfl) rfl ?_
          exact K4 c1 c2 c6 c8
        · refine r_lload rfl rfl ?_
          refine r_ldc (x := .long 9218868437227405312) rfl rfl ?_
          refine r_lor rfl ?_
          refine r_lret rfl ?_
          exact L4 c1 c2 c6 c8
  · refine r_dc (x := 4607182418800017408) rfl rfl ?_
    refine r_dload rfl rfl ?_
    refine r_ddiv rfl (B1 c1) ?_
    refine r_dc (x := 0) rfl rfl ?_
    refine r_dgif_ge (tg := 20) rfl rfl rfl (fun c9 => ?_) (fun c9 => ?_)
    · refine r_lc (x := 0) rfl rfl ?_
      refine r_lret rfl ?_
      exact L5 c1 c9
    · refine r_ldc (x := .long (-9223372036854775808)) rfl rfl ?_
      refine r_goto (tg := 21) rfl rfl ?_
      refine r_lret rfl ?_
      exact L6 c1 c9

set_option maxHeartbeats 1000000 in
theorem w_bo73 {d : Nat} {Q : mQ} {h : mH} (x y : UInt64) (s : Int64) (e i : Int32) 
    (B1 : ¬ 40 ≤ i → dge y 4845873199050653696 → vf_n64 (FP.ddiv y 4751297606875873280))
    (K1 : 40 ≤ i → WR (d) cd_88 109 [some (.double x), none, some (.long s), none, some (.double y), none, some (.int e), some (.int 0), none] [] h Q) (K2 : ¬ 40 ≤ i → ¬ dge y 4845873199050653696 → WR (d) cd_88 109 [some (.double x), none, some (.long s), none, some (.double y), none, some (.int e), some (.int 0), none] [] h Q) (K3 : ¬ 40 ≤ i → dge y 4845873199050653696 → WR (d) cd_88 73 [some (.double x), none, some (.long s), none, some (.double (FP.ddiv y 4751297606875873280)), none, some (.int (e + 32)), some (.int (i + 1)), none] [] h Q) : WR (d + 0) cd_88 73 [some (.double x), none, some (.long s), none, some (.double y), none, some (.int e), some (.int i), none] [] h Q := by
  refine r_iload rfl rfl ?_
  refine r_ic (x := 40) rfl rfl ?_
  refine r_icmp_ge (tg := 106) rfl rfl (fun c1 => ?_) (fun c1 => ?_)
  · refine r_ic (x := 0) rfl rfl ?_
    refine r_istore (lv' := [some (.double x), none, some (.long s), none, some (.double y), none, some (.int e), some (.int 0), none]) rfl (Nat.le_of_ble_eq_true rfl) rfl ?_
    exact K1 c1
  · refine r_dload rfl rfl ?_
    refine r_ldc (x := .double 4845873199050653696) rfl rfl ?_
    refine r_dlif_lt (tg := 106) rfl rfl rfl (fun c2 => ?_) (fun c2 => ?_)
    · refine r_ic (x := 0) rfl rfl ?_
      refine r_istore (lv' := [some (.double x), none, some (.long s), none, some (.double y), none, some (.int e), some (.int 0), none]) rfl (Nat.le_of_ble_eq_true rfl) rfl ?_
      exact K2 c1 c2
    · refine r_dload rfl rfl ?_
      refine r_ldc (x := .double 4751297606875873280) rfl rfl ?_
      refine r_ddiv rfl (B1 c1 c2) ?_
      refine r_dstore (lv' := [some (.double x), none, some (.long s), none, some (.double (FP.ddiv y 4751297606875873280)), none, some (.int e), some (.int i), none]) rfl (Nat.le_of_ble_eq_true rfl) rfl ?_
      refine r_iinc (y := e + 32) (lv' := [some (.double x), none, some (.long s), none, some (.double (FP.ddiv y 4751297606875873280)), none, some (.int (e + 32)), some (.int i), none]) rfl rfl rfl rfl ?_
      refine r_iinc (y := i + 1) (lv' := [some (.double x), none, some (.long s), none, some (.double (FP.ddiv y 4751297606875873280)), none, some (.int (e + 32)), some (.int (i + 1)), none]) rfl rfl rfl rfl ?_
      refine r_goto (tg := 73) rfl rfl ?_
      exact K3 c1 c2

set_option maxHeartbeats 1000000 in
theorem w_bo109 {d : Nat} {Q : mQ} {h : mH} (x y : UInt64) (s : Int64) (e i : Int32) 
    (B1 : ¬ 40 ≤ i → dlt y 4697254411347427328 → vf_n64 (FP.dmul y 4751297606875873280))
    (K1 : 40 ≤ i → WR (d) cd_88 145 [some (.double x), none, some (.long s), none, some (.double y), none, some (.int e), some (.int 0), none] [] h Q) (K2 : ¬ 40 ≤ i → ¬ dlt y 4697254411347427328 → WR (d) cd_88 145 [some (.double x), none, some (.long s), none, some (.double y), none, some (.int e), some (.int 0), none] [] h Q) (K3 : ¬ 40 ≤ i → dlt y 4697254411347427328 → WR (d) cd_88 109 [some (.double x), none, some (.long s), none, some (.double (FP.dmul y 4751297606875873280)), none, some (.int (e + (-32))), some (.int (i + 1)), none] [] h Q) : WR (d + 0) cd_88 109 [some (.double x), none, some (.long s), none, some (.double y), none, some (.int e), some (.int i), none] [] h Q := by
  refine r_iload rfl rfl ?_
  refine r_ic (x := 40) rfl rfl ?_
  refine r_icmp_ge (tg := 142) rfl rfl (fun c1 => ?_) (fun c1 => ?_)
  · refine r_ic (x := 0) rfl rfl ?_
    refine r_istore (lv' := [some (.double x), none, some (.long s), none, some (.double y), none, some (.int e), some (.int 0), none]) rfl (Nat.le_of_ble_eq_true rfl) rfl ?_
    exact K1 c1
  · refine r_dload rfl rfl ?_
    refine r_ldc (x := .double 4697254411347427328) rfl rfl ?_
    refine r_dgif_ge (tg := 142) rfl rfl rfl (fun c2 => ?_) (fun c2 => ?_)
    · refine r_ic (x := 0) rfl rfl ?_
      refine r_istore (lv' := [some (.double x), none, some (.long s), none, some (.double y), none, some (.int e), some (.int 0), none]) rfl (Nat.le_of_ble_eq_true rfl) rfl ?_
      exact K2 c1 c2
    · refine r_dload rfl rfl ?_
      refine r_ldc (x := .double 4751297606875873280) rfl rfl ?_
      refine r_dmul rfl (B1 c1 c2) ?_
      refine r_dstore (lv' := [some (.double x), none, some (.long s), none, some (.double (FP.dmul y 4751297606875873280)), none, some (.int e), some (.int i), none]) rfl (Nat.le_of_ble_eq_true rfl) rfl ?_
      refine r_iinc (y := e + (-32)) (lv' := [some (.double x), none, some (.long s), none, some (.double (FP.dmul y 4751297606875873280)), none, some (.int (e + (-32))), some (.int i), none]) rfl rfl rfl rfl ?_
      refine r_iinc (y := i + 1) (lv' := [some (.double x), none, some (.long s), none, some (.double (FP.dmul y 4751297606875873280)), none, some (.int (e + (-32))), some (.int (i + 1)), none]) rfl rfl rfl rfl ?_
      refine r_goto (tg := 109) rfl rfl ?_
      exact K3 c1 c2

set_option maxHeartbeats 1000000 in
theorem w_bo145 {d : Nat} {Q : mQ} {h : mH} (x y : UInt64) (s : Int64) (e i : Int32) 
    (B1 : ¬ 4 ≤ i → dlt y 4805340802404319232 → vf_n64 (FP.dmul y 4643211215818981376))
    (K1 : 4 ≤ i → WR (d) cd_88 180 [some (.double x), none, some (.long s), none, some (.double y), none, some (.int e), some (.int 0), none] [] h Q) (K2 : ¬ 4 ≤ i → ¬ dlt y 4805340802404319232 → WR (d) cd_88 180 [some (.double x), none, some (.long s), none, some (.double y), none, some (.int e), some (.int 0), none] [] h Q) (K3 : ¬ 4 ≤ i → dlt y 4805340802404319232 → WR (d) cd_88 145 [some (.double x), none, some (.long s), none, some (.double (FP.dmul y 4643211215818981376)), none, some (.int (e + (-8))), some (.int (i + 1)), none] [] h Q) : WR (d + 0) cd_88 145 [some (.double x), none, some (.long s), none, some (.double y), none, some (.int e), some (.int i), none] [] h Q := by
  refine r_iload rfl rfl ?_
  refine r_ic (x := 4) rfl rfl ?_
  refine r_icmp_ge (tg := 177) rfl rfl (fun c1 => ?_) (fun c1 => ?_)
  · refine r_ic (x := 0) rfl rfl ?_
    refine r_istore (lv' := [some (.double x), none, some (.long s), none, some (.double y), none, some (.int e), some (.int 0), none]) rfl (Nat.le_of_ble_eq_true rfl) rfl ?_
    exact K1 c1
  · refine r_dload rfl rfl ?_
    refine r_ldc (x := .double 4805340802404319232) rfl rfl ?_
    refine r_dgif_ge (tg := 177) rfl rfl rfl (fun c2 => ?_) (fun c2 => ?_)
    · refine r_ic (x := 0) rfl rfl ?_
      refine r_istore (lv' := [some (.double x), none, some (.long s), none, some (.double y), none, some (.int e), some (.int 0), none]) rfl (Nat.le_of_ble_eq_true rfl) rfl ?_
      exact K2 c1 c2
    · refine r_dload rfl rfl ?_
      refine r_ldc (x := .double 4643211215818981376) rfl rfl ?_
      refine r_dmul rfl (B1 c1 c2) ?_
      refine r_dstore (lv' := [some (.double x), none, some (.long s), none, some (.double (FP.dmul y 4643211215818981376)), none, some (.int e), some (.int i), none]) rfl (Nat.le_of_ble_eq_true rfl) rfl ?_
      refine r_iinc (y := e + (-8)) (lv' := [some (.double x), none, some (.long s), none, some (.double (FP.dmul y 4643211215818981376)), none, some (.int (e + (-8))), some (.int i), none]) rfl rfl rfl rfl ?_
      refine r_iinc (y := i + 1) (lv' := [some (.double x), none, some (.long s), none, some (.double (FP.dmul y 4643211215818981376)), none, some (.int (e + (-8))), some (.int (i + 1)), none]) rfl rfl rfl rfl ?_
      refine r_goto (tg := 145) rfl rfl ?_
      exact K3 c1 c2

set_option maxHeartbeats 1000000 in
theorem w_bo180 {d : Nat} {Q : mQ} {h : mH} (x y : UInt64) (s : Int64) (e i : Int32) 
    (B1 : ¬ 8 ≤ i → dlt y 4841369599423283200 → vf_n64 (FP.dmul y 4611686018427387904))
    (K1 : 8 ≤ i → WR (d) cd_88 213 [some (.double x), none, some (.long s), none, some (.double y), none, some (.int e), some (.int i), none] [] h Q) (K2 : ¬ 8 ≤ i → ¬ dlt y 4841369599423283200 → WR (d) cd_88 213 [some (.double x), none, some (.long s), none, some (.double y), none, some (.int e), some (.int i), none] [] h Q) (K3 : ¬ 8 ≤ i → dlt y 4841369599423283200 → WR (d) cd_88 180 [some (.double x), none, some (.long s), none, some (.double (FP.dmul y 4611686018427387904)), none, some (.int (e + (-1))), some (.int (i + 1)), none] [] h Q) : WR (d + 0) cd_88 180 [some (.double x), none, some (.long s), none, some (.double y), none, some (.int e), some (.int i), none] [] h Q := by
  refine r_iload rfl rfl ?_
  refine r_ic (x := 8) rfl rfl ?_
  refine r_icmp_ge (tg := 213) rfl rfl (fun c1 => ?_) (fun c1 => ?_)
  · exact K1 c1
  · refine r_dload rfl rfl ?_
    refine r_ldc (x := .double 4841369599423283200) rfl rfl ?_
    refine r_dgif_ge (tg := 213) rfl rfl rfl (fun c2 => ?_) (fun c2 => ?_)
    · exact K2 c1 c2
    · refine r_dload rfl rfl ?_
      refine r_ldc (x := .double 4611686018427387904) rfl rfl ?_
      refine r_dmul rfl (B1 c1 c2) ?_
      refine r_dstore (lv' := [some (.double x), none, some (.long s), none, some (.double (FP.dmul y 4611686018427387904)), none, some (.int e), some (.int i), none]) rfl (Nat.le_of_ble_eq_true rfl) rfl ?_
      refine r_iinc (y := e + (-1)) (lv' := [some (.double x), none, some (.long s), none, some (.double (FP.dmul y 4611686018427387904)), none, some (.int (e + (-1))), some (.int i), none]) rfl rfl rfl rfl ?_
      refine r_iinc (y := i + 1) (lv' := [some (.double x), none, some (.long s), none, some (.double (FP.dmul y 4611686018427387904)), none, some (.int (e + (-1))), some (.int (i + 1)), none]) rfl rfl rfl rfl ?_
      refine r_goto (tg := 180) rfl rfl ?_
      exact K3 c1 c2

set_option maxHeartbeats 1000000 in
theorem w_bo213 {d : Nat} {Q : mQ} {h : mH} (x y : UInt64) (s : Int64) (e i : Int32) 
    
    (L1 : 0 < e → Q (some (.long ((s ||| (e.toInt64 <<< ((52 : Int32).toInt64 &&& 63))) ||| ((FP.d2l y) &&& 4503599627370495)))) h) (L2 : ¬ 0 < e → Q (some (.long (s ||| ((FP.d2l y) >>> ((1 - e).toInt64 &&& 63))))) h) : WR (d + 0) cd_88 213 [some (.double x), none, some (.long s), none, some (.double y), none, some (.int e), some (.int i), none] [] h Q := by
  refine r_dload rfl rfl ?_
  refine r_d2l rfl ?_
  refine r_lstore (lv' := [some (.double x), none, some (.long s), none, some (.double y), none, some (.int e), some (.long (FP.d2l y)), none]) rfl (Nat.le_of_ble_eq_true rfl) rfl ?_
  refine r_iload rfl rfl ?_
  refine r_if_gt (tg := 233) rfl rfl (fun c1 => ?_) (fun c1 => ?_)
  · refine r_lload rfl rfl ?_
    refine r_iload rfl rfl ?_
    refine r_i2l rfl ?_
    refine r_ic (x := 52) rfl rfl ?_
    refine r_lshl rfl ?_
    refine r_lor rfl ?_
    refine r_lload rfl rfl ?_
    refine r_ldc (x := .long 4503599627370495) rfl rfl ?_
    refine r_land rfl ?_
    refine r_lor rfl ?_
    refine r_lret rfl ?_
    exact L1 c1
  · refine r_lload rfl rfl ?_
    refine r_lload rfl rfl ?_
    refine r_ic (x := 1) rfl rfl ?_
    refine r_iload rfl rfl ?_
    refine r_isub rfl ?_
    refine r_lshr rfl ?_
    refine r_lor rfl ?_
    refine r_lret rfl ?_
    exact L2 c1
