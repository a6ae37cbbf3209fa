/-! ===== walks of run: the loops, both sides; printed ===== -/
set_option maxHeartbeats 2000000 in
theorem w_go0 {d : Nat} {Q : mQ} {n : Nat} {ad sa : Nat → Nat} {z0 : Nat} {h : mH} (fx : FX n ad sa z0 h) {v : Int32} 
    (C1 : EV (d) 127 [.ref (ad 4)] h (fun v_ h_ => WR (d) cd_126 4 [some (.ref (ad 4)), some (.int v), some (.ref (ad 2)), none, none, none] (v_.toList ++ []) h_ Q)) : EV (d + 1) 126 [.ref (ad 4), .int v, .ref (ad 2)] h Q := by
  have fx0 := fx
  refine in_126 (Nat.le_of_ble_eq_true rfl) ?_
  show WR _ cd_126 0 [some (.ref (ad 4)), some (.int v), some (.ref (ad 2)), none, none, none] [] h _
  refine r_aload rfl rfl ?_
  refine r_cv (y := 127) (ra := []) (rest := []) rfl ⟨⟨rfl, rfl⟩, rfl, by decide⟩ (fx_t4 fx) rfl rfl (Nat.le_of_ble_eq_true rfl) ?_
  exact (C1)

set_option maxHeartbeats 2000000 in
theorem w_go4 {d : Nat} {Q : mQ} {n : Nat} {ad sa : Nat → Nat} {z0 : Nat} {h : mH} (fx : FX n ad sa z0 h) {v : Int32} {o3 o4 o5 : Option Value} 
    (K1 : WR (d) cd_126 9 [some (.ref (ad 4)), some (.int v), some (.ref (ad 2)), some (.int 0), some (.int 0), o5] [] h Q) : WR (d) cd_126 4 [some (.ref (ad 4)), some (.int v), some (.ref (ad 2)), o3, o4, o5] [] h Q := by
  have fx0 := fx
  refine r_ic (x := 0) rfl rfl ?_
  refine r_istore (lv' := [some (.ref (ad 4)), some (.int v), some (.ref (ad 2)), some (.int 0), o4, o5]) rfl (Nat.le_of_ble_eq_true rfl) rfl ?_
  refine r_ic (x := 0) rfl rfl ?_
  refine r_istore (lv' := [some (.ref (ad 4)), some (.int v), some (.ref (ad 2)), some (.int 0), some (.int 0), o5]) rfl (Nat.le_of_ble_eq_true rfl) rfl ?_
  exact (K1)

set_option maxHeartbeats 2000000 in
theorem w_goe {d : Nat} {Q : mQ} {n : Nat} {ad sa : Nat → Nat} {z0 : Nat} {h : mH} (fx : FX n ad sa z0 h) {m : Nat} (m4 : m ≤ 40) {c : Int32} {o5 : Option Value} 
    (L1 : Q (some (.int c)) h) : WR (d) cd_126 9 [some (.ref (ad 4)), some (.int (nI m)), some (.ref (ad 2)), some (.int c), some (.int (nI m)), o5] [] h Q := by
  have fx0 := fx
  refine r_iload rfl rfl ?_
  refine r_iload rfl rfl ?_
  refine r_icmp_ge (tg := 60) rfl rfl (fun _ => ?_) (fun q => False.elim (by have : (nI m).toInt = ((m : Nat) : Int) := nI_toInt (by omega); have := i_nle q; omega))
  refine r_iload rfl rfl ?_
  refine r_iret rfl ?_
  exact (L1)

set_option maxHeartbeats 2000000 in
theorem w_gon {d : Nat} {Q : mQ} {n : Nat} {ad sa : Nat → Nat} {z0 : Nat} {h : mH} (fx : FX n ad sa z0 h) {m i : Nat} (m4 : m ≤ 40) (im : i < m) {c : Int32} {o5 : Option Value} 
    (K1 : WR (d) cd_126 18 [some (.ref (ad 4)), some (.int (nI m)), some (.ref (ad 2)), some (.int c), some (.int (nI i)), some (.int 0)] [] h Q) : WR (d) cd_126 9 [some (.ref (ad 4)), some (.int (nI m)), some (.ref (ad 2)), some (.int c), some (.int (nI i)), o5] [] h Q := by
  have fx0 := fx
  refine r_iload rfl rfl ?_
  refine r_iload rfl rfl ?_
  refine r_icmp_ge (tg := 60) rfl rfl (fun q => False.elim (by have : (nI i).toInt = ((i : Nat) : Int) := nI_toInt (by omega); have : (nI m).toInt = ((m : Nat) : Int) := nI_toInt (by omega); have := i_le q; omega)) (fun _ => ?_)
  refine r_ic (x := 0) rfl rfl ?_
  refine r_istore (lv' := [some (.ref (ad 4)), some (.int (nI m)), some (.ref (ad 2)), some (.int c), some (.int (nI i)), some (.int 0)]) rfl (Nat.le_of_ble_eq_true rfl) rfl ?_
  exact (K1)

set_option maxHeartbeats 2000000 in
theorem w_gor {d : Nat} {Q : mQ} {n : Nat} {ad sa : Nat → Nat} {z0 : Nat} {h : mH} (fx : FX n ad sa z0 h) {m i k : Nat} (n6 : n ≤ 6) (kn : k < n) {c : Int32} (t8 : hT h (ad 8) = 25) (n8 : hN h (ad 8) = n) 
    (C1 : EV (d) 128 [.ref (ad 4), .int (nI k), .ref (ad 2)] h (fun v_ h_ => WR (d) cd_126 36 [some (.ref (ad 4)), some (.int (nI m)), some (.ref (ad 2)), some (.int c), some (.int (nI i)), some (.int (nI k))] (v_.toList ++ [.int c]) h_ Q)) : WR (d) cd_126 18 [some (.ref (ad 4)), some (.int (nI m)), some (.ref (ad 2)), some (.int c), some (.int (nI i)), some (.int (nI k))] [] h Q := by
  have fx0 := fx
  refine r_iload rfl rfl ?_
  refine r_aload rfl rfl ?_
  refine r_getA (b := ad 8) rfl ⟨rfl, rfl, rfl⟩ (fx_t4 fx) (fx_r4_6 fx) ?_
  refine r_alen rfl (isA_of (fx_t8 fx) (by decide)) ?_
  refine WR_tI (y := nI n) (congrArg nI (fx_n8 fx)) ?_
  refine r_icmp_ge (tg := 44) rfl rfl (fun q => False.elim (by have : (nI k).toInt = ((k : Nat) : Int) := nI_toInt (by omega); have : (nI n).toInt = ((n : Nat) : Int) := nI_toInt (by omega); have := i_le q; omega)) (fun _ => ?_)
  refine r_iload rfl rfl ?_
  refine r_aload rfl rfl ?_
  refine r_iload rfl rfl ?_
  refine r_aload rfl rfl ?_
  refine r_cv (y := 128) (ra := [.ref (ad 2), .int (nI k)]) (rest := [.int c]) rfl ⟨⟨rfl, rfl⟩, rfl, by decide⟩ (fx_t4 fx) rfl rfl (Nat.le_of_ble_eq_true rfl) ?_
  exact (C1)

set_option maxHeartbeats 2000000 in
theorem w_go36 {d : Nat} {Q : mQ} {n : Nat} {ad sa : Nat → Nat} {z0 : Nat} {h : mH} (fx : FX n ad sa z0 h) {m i k c f : Nat} (c2 : c ≤ 30000) (f2 : f ≤ 1) (k6 : k < 6) 
    (K1 : WR (d) cd_126 18 [some (.ref (ad 4)), some (.int (nI m)), some (.ref (ad 2)), some (.int (nI (c + f))), some (.int (nI i)), some (.int (nI (k + 1)))] [] h Q) : WR (d) cd_126 36 [some (.ref (ad 4)), some (.int (nI m)), some (.ref (ad 2)), some (.int (nI c)), some (.int (nI i)), some (.int (nI k))] [.int (nI f), .int (nI c)] h Q := by
  have fx0 := fx
  refine r_iadd rfl ?_
  refine WR_tI (y := nI (c + f)) (Eq.trans (nI_add c f) (congrArg nI (by omega))) ?_
  refine r_istore (lv' := [some (.ref (ad 4)), some (.int (nI m)), some (.ref (ad 2)), some (.int (nI (c + f))), some (.int (nI i)), some (.int (nI k))]) rfl (Nat.le_of_ble_eq_true rfl) rfl ?_
  refine r_iinc (y := nI (k + 1)) (lv' := [some (.ref (ad 4)), some (.int (nI m)), some (.ref (ad 2)), some (.int (nI (c + f))), some (.int (nI i)), some (.int (nI (k + 1)))]) rfl rfl (nI_1 _) rfl ?_
  refine r_goto (tg := 18) rfl rfl ?_
  exact (K1)

set_option maxHeartbeats 2000000 in
theorem w_gos {d : Nat} {Q : mQ} {n : Nat} {ad sa : Nat → Nat} {z0 : Nat} {h : mH} (fx : FX n ad sa z0 h) {m i st : Nat} (n6 : n ≤ 6) (i4 : i < 40) (s2 : st ≤ 30000) {c : Int32} (t8 : hT h (ad 8) = 25) (n8 : hN h (ad 8) = n) (e3 : hI h (ad 4) 3 = nI st) 
    (K1 : WR (d) cd_126 9 [some (.ref (ad 4)), some (.int (nI m)), some (.ref (ad 2)), some (.int c), some (.int (nI (i + 1))), some (.int (nI n))] [] (sI h (ad 4) 3 (nI (st + 1))) Q) : WR (d) cd_126 18 [some (.ref (ad 4)), some (.int (nI m)), some (.ref (ad 2)), some (.int c), some (.int (nI i)), some (.int (nI n))] [] h Q := by
  have fx0 := fx
  refine r_iload rfl rfl ?_
  refine r_aload rfl rfl ?_
  refine r_getA (b := ad 8) rfl ⟨rfl, rfl, rfl⟩ (fx_t4 fx) (fx_r4_6 fx) ?_
  refine r_alen rfl (isA_of (fx_t8 fx) (by decide)) ?_
  refine WR_tI (y := nI n) (congrArg nI (fx_n8 fx)) ?_
  refine r_icmp_ge (tg := 44) rfl rfl (fun _ => ?_) (fun q => False.elim (by have : (nI n).toInt = ((n : Nat) : Int) := nI_toInt (by omega); have := i_nle q; omega))
  refine r_aload rfl rfl ?_
  refine r_dup rfl rfl ?_
  refine r_getI rfl ⟨rfl, rfl, rfl⟩ (fx_t4 fx) ?_
  refine WR_tI (y := nI st) e3 ?_
  refine r_ic (x := 1) rfl rfl ?_
  refine r_iadd rfl ?_
  refine WR_tI (y := nI (st + 1)) (Eq.trans (nI_add st 1) (congrArg nI (by omega))) ?_
  refine r_putI rfl ⟨rfl, rfl, rfl⟩ (fx_t4 fx) ?_
  have fx : FX n ad sa z0 (sI h (ad 4) 3 (nI (st + 1))) := (FX.sI fx)
  refine r_iinc (y := nI (i + 1)) (lv' := [some (.ref (ad 4)), some (.int (nI m)), some (.ref (ad 2)), some (.int c), some (.int (nI (i + 1))), some (.int (nI n))]) rfl rfl (nI_1 _) rfl ?_
  refine r_goto (tg := 9) rfl rfl ?_
  exact (K1)

set_option maxHeartbeats 2000000 in
theorem w_ru0 {d : Nat} {Q : mQ} {n : Nat} {ad sa : Nat → Nat} {z0 : Nat} {h : mH} (fx : FX n ad sa z0 h) {v : Int32} 
    (L1 : v < 1 → Q (some (.int (-3))) (sI (sI h (ad 0) 6 0) (ad 0) 6 (-3)))
    (C1 : ¬ v < 1 → v ≤ 40 → EV (d + 1) 126 [.ref (ad 4), .int v, .ref (ad 2)] (sI h (ad 0) 6 0) (fun v_ h_ => WR (d + 1) cd_125 35 [some (.ref (ad 0)), some (.int v)] (v_.toList ++ []) h_ Q))
    (L2 : ¬ v < 1 → ¬ v ≤ 40 → Q (some (.int (-3))) (sI (sI h (ad 0) 6 0) (ad 0) 6 (-3))) : EV (d + 2) 125 [.ref (ad 0), .int v] h Q := by
  have fx0 := fx
  refine in_125 (Nat.le_of_ble_eq_true rfl) ?_
  show WR _ cd_125 0 [some (.ref (ad 0)), some (.int v)] [] h _
  refine r_aload rfl rfl ?_
  refine r_ic (x := 0) rfl rfl ?_
  refine r_putI rfl ⟨rfl, rfl, rfl⟩ (fx_t0 fx) ?_
  have fx : FX n ad sa z0 (sI h (ad 0) 6 0) := (FX.sI fx)
  refine r_iload rfl rfl ?_
  refine r_ic (x := 1) rfl rfl ?_
  refine r_icmp_lt (tg := 16) rfl rfl (fun c1 => ?_) (fun c1 => ?_)
  · refine r_aload rfl rfl ?_
    refine r_ic (x := (-3)) rfl rfl ?_
    refine r_cv (y := 13) (ra := [.int (-3)]) (rest := []) rfl ⟨⟨rfl, rfl⟩, rfl, by decide⟩ (fx_t0 fx) rfl rfl (Nat.le_of_ble_eq_true rfl) ?_
    refine in_13 (Nat.le_of_ble_eq_true rfl) ?_
    show WR _ cd_13 0 [some (.ref (ad 0)), some (.int (-3))] [] (sI h (ad 0) 6 0) _
    refine r_aload rfl rfl ?_
    refine r_iload rfl rfl ?_
    refine r_putI rfl ⟨rfl, rfl, rfl⟩ (fx_t0 fx) ?_
    have fx : FX n ad sa z0 (sI (sI h (ad 0) 6 0) (ad 0) 6 (-3)) := (FX.sI fx)
    refine r_iload rfl rfl ?_
    refine r_iret rfl ?_
    show WR _ cd_125 22 [some (.ref (ad 0)), some (.int v)] [.int (-3)] (sI (sI h (ad 0) 6 0) (ad 0) 6 (-3)) _
    refine r_iret rfl ?_
    exact (L1 c1)
  · refine r_iload rfl rfl ?_
    refine r_ic (x := 40) rfl rfl ?_
    refine r_icmp_le (tg := 23) rfl rfl (fun c2 => ?_) (fun c2 => ?_)
    · refine r_aload rfl rfl ?_
      refine r_getA (b := ad 4) rfl ⟨rfl, rfl, rfl⟩ (fx_t0 fx) (fx_r0_2 fx) ?_
      refine r_iload rfl rfl ?_
      refine r_aload rfl rfl ?_
      refine r_getA (b := ad 2) rfl ⟨rfl, rfl, rfl⟩ (fx_t0 fx) (fx_r0_1 fx) ?_
      refine r_cv (y := 126) (ra := [.ref (ad 2), .int v]) (rest := []) rfl ⟨⟨rfl, rfl⟩, rfl, by decide⟩ (fx_t4 fx) rfl rfl (Nat.le_of_ble_eq_true rfl) ?_
      exact (C1 c1 c2)
    · refine r_aload rfl rfl ?_
      refine r_ic (x := (-3)) rfl rfl ?_
      refine r_cv (y := 13) (ra := [.int (-3)]) (rest := []) rfl ⟨⟨rfl, rfl⟩, rfl, by decide⟩ (fx_t0 fx) rfl rfl (Nat.le_of_ble_eq_true rfl) ?_
      refine in_13 (Nat.le_of_ble_eq_true rfl) ?_
      show WR _ cd_13 0 [some (.ref (ad 0)), some (.int (-3))] [] (sI h (ad 0) 6 0) _
      refine r_aload rfl rfl ?_
      refine r_iload rfl rfl ?_
      refine r_putI rfl ⟨rfl, rfl, rfl⟩ (fx_t0 fx) ?_
      have fx : FX n ad sa z0 (sI (sI h (ad 0) 6 0) (ad 0) 6 (-3)) := (FX.sI fx)
      refine r_iload rfl rfl ?_
      refine r_iret rfl ?_
      show WR _ cd_125 22 [some (.ref (ad 0)), some (.int v)] [.int (-3)] (sI (sI h (ad 0) 6 0) (ad 0) 6 (-3)) _
      refine r_iret rfl ?_
      exact (L2 c1 c2)

set_option maxHeartbeats 2000000 in
theorem w_ru1 {d : Nat} {Q : mQ} {n : Nat} {ad sa : Nat → Nat} {z0 : Nat} {h : mH} (fx : FX n ad sa z0 h) {v f : Int32} 
    (L1 : Q (some (.int f)) h) : WR (d) cd_125 35 [some (.ref (ad 0)), some (.int v)] [.int f] h Q := by
  have fx0 := fx
  refine r_iret rfl ?_
  exact (L1)

set_option maxHeartbeats 2000000 in
theorem w_mr0 {d : Nat} {Q : mQ} {n : Nat} {ad sa : Nat → Nat} {z0 : Nat} {h : mH} (fx : FX n ad sa z0 h) {v : Int32} 
    (L1 : v.toInt64 < 1 → Q (some (.int (-3))) (sI h (ad 30) 11 (-3)))
    (L2 : ¬ v.toInt64 < 1 → 40 < v.toInt64 → Q (some (.int (-3))) (sI h (ad 30) 11 (-3)))
    (K1 : ¬ v.toInt64 < 1 → ¬ 40 < v.toInt64 → WR (d + 1) cd_230 26 [some (.ref (ad 30)), some (.int v), some (.int 0), none] [] (sI h (ad 30) 65 0) Q) : EV (d + 2) 230 [.ref (ad 30), .int v] h Q := by
  have fx0 := fx
  refine in_230 (Nat.le_of_ble_eq_true rfl) ?_
  show WR _ cd_230 0 [some (.ref (ad 30)), some (.int v), none, none] [] h _
  refine r_iload rfl rfl ?_
  refine r_i2l rfl ?_
  refine r_lc (x := 1) rfl rfl ?_
  refine r_ldc (x := .long 40) rfl rfl ?_
  refine r_cs (y := 155) (ra := [.long 40, .long 1, .long v.toInt64]) (rest := []) rfl ⟨⟨rfl, rfl⟩, by decide⟩ rfl rfl (Nat.le_of_ble_eq_true rfl) ?_
  refine in_155 (Nat.le_of_ble_eq_true rfl) ?_
  show WR _ cd_155 0 [some (.long v.toInt64), none, some (.long 1), none, some (.long 40), none] [] h _
  refine r_lload rfl rfl ?_
  refine r_lload rfl rfl ?_
  refine r_lif_lt (tg := 17) rfl rfl rfl (fun c1 => ?_) (fun c1 => ?_)
  · refine r_ic (x := 0) rfl rfl ?_
    refine r_zret rfl (.inl rfl) ?_
    show WR _ cd_230 9 [some (.ref (ad 30)), some (.int v), none, none] [.int 0] h _
    refine r_if_ne (tg := 19) rfl rfl (fun q => absurd q (by decide)) (fun _ => ?_)
    refine r_aload rfl rfl ?_
    refine r_ic (x := (-3)) rfl rfl ?_
    refine r_cv (y := 154) (ra := [.int (-3)]) (rest := []) rfl ⟨⟨rfl, rfl⟩, rfl, by decide⟩ (fx_t30 fx) rfl rfl (Nat.le_of_ble_eq_true rfl) ?_
    refine in_154 (Nat.le_of_ble_eq_true rfl) ?_
    show WR _ cd_154 0 [some (.ref (ad 30)), some (.int (-3))] [] h _
    refine r_aload rfl rfl ?_
    refine r_iload rfl rfl ?_
    refine r_ic (x := (-1)) rfl rfl ?_
    refine r_icmp_ge (tg := 10) rfl rfl (fun q => absurd q (by decide)) (fun _ => ?_)
    refine r_iload rfl rfl ?_
    refine r_goto (tg := 11) rfl rfl ?_
    refine r_putI rfl ⟨rfl, rfl, rfl⟩ (fx_t30 fx) ?_
    have fx : FX n ad sa z0 (sI h (ad 30) 11 (-3)) := (FX.sI fx)
    refine r_iload rfl rfl ?_
    refine r_iret rfl ?_
    show WR _ cd_230 18 [some (.ref (ad 30)), some (.int v), none, none] [.int (-3)] (sI h (ad 30) 11 (-3)) _
    refine r_iret rfl ?_
    exact (L1 c1)
  · refine r_lload rfl rfl ?_
    refine r_lload rfl rfl ?_
    refine r_lif_gt (tg := 17) rfl rfl rfl (fun c2 => ?_) (fun c2 => ?_)
    · refine r_ic (x := 0) rfl rfl ?_
      refine r_zret rfl (.inl rfl) ?_
      show WR _ cd_230 9 [some (.ref (ad 30)), some (.int v), none, none] [.int 0] h _
      refine r_if_ne (tg := 19) rfl rfl (fun q => absurd q (by decide)) (fun _ => ?_)
      refine r_aload rfl rfl ?_
      refine r_ic (x := (-3)) rfl rfl ?_
      refine r_cv (y := 154) (ra := [.int (-3)]) (rest := []) rfl ⟨⟨rfl, rfl⟩, rfl, by decide⟩ (fx_t30 fx) rfl rfl (Nat.le_of_ble_eq_true rfl) ?_
      refine in_154 (Nat.le_of_ble_eq_true rfl) ?_
      show WR _ cd_154 0 [some (.ref (ad 30)), some (.int (-3))] [] h _
      refine r_aload rfl rfl ?_
      refine r_iload rfl rfl ?_
      refine r_ic (x := (-1)) rfl rfl ?_
      refine r_icmp_ge (tg := 10) rfl rfl (fun q => absurd q (by decide)) (fun _ => ?_)
      refine r_iload rfl rfl ?_
      refine r_goto (tg := 11) rfl rfl ?_
      refine r_putI rfl ⟨rfl, rfl, rfl⟩ (fx_t30 fx) ?_
      have fx : FX n ad sa z0 (sI h (ad 30) 11 (-3)) := (FX.sI fx)
      refine r_iload rfl rfl ?_
      refine r_iret rfl ?_
      show WR _ cd_230 18 [some (.ref (ad 30)), some (.int v), none, none] [.int (-3)] (sI h (ad 30) 11 (-3)) _
      refine r_iret rfl ?_
      exact (L2 c1 c2)
    · refine r_ic (x := 1) rfl rfl ?_
      refine r_goto (tg := 18) rfl rfl ?_
      refine r_zret rfl (.inr rfl) ?_
      show WR _ cd_230 9 [some (.ref (ad 30)), some (.int v), none, none] [.int 1] h _
      refine r_if_ne (tg := 19) rfl rfl (fun _ => ?_) (fun q => absurd q (by decide))
      refine r_aload rfl rfl ?_
      refine r_ic (x := 0) rfl rfl ?_
      refine r_putI rfl ⟨rfl, rfl, rfl⟩ (fx_t30 fx) ?_
      have fx : FX n ad sa z0 (sI h (ad 30) 65 0) := (FX.sI fx)
      refine r_ic (x := 0) rfl rfl ?_
      refine r_istore (lv' := [some (.ref (ad 30)), some (.int v), some (.int 0), none]) rfl (Nat.le_of_ble_eq_true rfl) rfl ?_
      exact (K1 c1 c2)

set_option maxHeartbeats 2000000 in
theorem w_mre {d : Nat} {Q : mQ} {n : Nat} {ad sa : Nat → Nat} {z0 : Nat} {h : mH} (fx : FX n ad sa z0 h) {m : Nat} (m4 : m ≤ 40) {f : Int32} {o3 : Option Value} (e65 : hI h (ad 30) 65 = f) 
    (L1 : (-1) ≤ f → Q (some (.int f)) (sI h (ad 30) 11 0))
    (L2 : ¬ (-1) ≤ f → Q (some (.int f)) (sI h (ad 30) 11 f)) : WR (d + 1) cd_230 26 [some (.ref (ad 30)), some (.int (nI m)), some (.int (nI m)), o3] [] h Q := by
  have fx0 := fx
  refine r_iload rfl rfl ?_
  refine r_iload rfl rfl ?_
  refine r_icmp_ge (tg := 113) rfl rfl (fun _ => ?_) (fun q => False.elim (by have : (nI m).toInt = ((m : Nat) : Int) := nI_toInt (by omega); have := i_nle q; omega))
  refine r_aload rfl rfl ?_
  refine r_aload rfl rfl ?_
  refine r_getI rfl ⟨rfl, rfl, rfl⟩ (fx_t30 fx) ?_
  refine WR_tI (y := f) e65 ?_
  refine r_cv (y := 154) (ra := [.int f]) (rest := []) rfl ⟨⟨rfl, rfl⟩, rfl, by decide⟩ (fx_t30 fx) rfl rfl (Nat.le_of_ble_eq_true rfl) ?_
  refine in_154 (Nat.le_of_ble_eq_true rfl) ?_
  show WR _ cd_154 0 [some (.ref (ad 30)), some (.int f)] [] h _
  refine r_aload rfl rfl ?_
  refine r_iload rfl rfl ?_
  refine r_ic (x := (-1)) rfl rfl ?_
  refine r_icmp_ge (tg := 10) rfl rfl (fun c1 => ?_) (fun c1 => ?_)
  · refine r_ic (x := 0) rfl rfl ?_
    refine r_putI rfl ⟨rfl, rfl, rfl⟩ (fx_t30 fx) ?_
    have fx : FX n ad sa z0 (sI h (ad 30) 11 0) := (FX.sI fx)
    refine r_iload rfl rfl ?_
    refine r_iret rfl ?_
    show WR _ cd_230 121 [some (.ref (ad 30)), some (.int (nI m)), some (.int (nI m)), o3] [.int f] (sI h (ad 30) 11 0) _
    refine r_iret rfl ?_
    exact (L1 c1)
  · refine r_iload rfl rfl ?_
    refine r_goto (tg := 11) rfl rfl ?_
    refine r_putI rfl ⟨rfl, rfl, rfl⟩ (fx_t30 fx) ?_
    have fx : FX n ad sa z0 (sI h (ad 30) 11 f) := (FX.sI fx)
    refine r_iload rfl rfl ?_
    refine r_iret rfl ?_
    show WR _ cd_230 121 [some (.ref (ad 30)), some (.int (nI m)), some (.int (nI m)), o3] [.int f] (sI h (ad 30) 11 f) _
    refine r_iret rfl ?_
    exact (L2 c1)

set_option maxHeartbeats 2000000 in
theorem w_mrn {d : Nat} {Q : mQ} {n : Nat} {ad sa : Nat → Nat} {z0 : Nat} {h : mH} (fx : FX n ad sa z0 h) {m i : Nat} (m4 : m ≤ 40) (im : i < m) {o3 : Option Value} 
    (C1 : EV (d) 231 [.ref (ad 30)] h (fun v_ h_ => WR (d) cd_230 35 [some (.ref (ad 30)), some (.int (nI m)), some (.int (nI i)), o3] (v_.toList ++ []) h_ Q)) : WR (d) cd_230 26 [some (.ref (ad 30)), some (.int (nI m)), some (.int (nI i)), o3] [] h Q := by
  have fx0 := fx
  refine r_iload rfl rfl ?_
  refine r_iload rfl rfl ?_
  refine r_icmp_ge (tg := 113) rfl rfl (fun q => False.elim (by have : (nI i).toInt = ((i : Nat) : Int) := nI_toInt (by omega); have : (nI m).toInt = ((m : Nat) : Int) := nI_toInt (by omega); have := i_le q; omega)) (fun _ => ?_)
  refine r_aload rfl rfl ?_
  refine r_cv (y := 231) (ra := []) (rest := []) rfl ⟨⟨rfl, rfl⟩, rfl, by decide⟩ (fx_t30 fx) rfl rfl (Nat.le_of_ble_eq_true rfl) ?_
  exact (C1)

set_option maxHeartbeats 2000000 in
theorem w_mr35 {d : Nat} {Q : mQ} {n : Nat} {ad sa : Nat → Nat} {z0 : Nat} {h : mH} (fx : FX n ad sa z0 h) {m i : Nat} {o3 : Option Value} 
    (K1 : WR (d) cd_230 37 [some (.ref (ad 30)), some (.int (nI m)), some (.int (nI i)), some (.int 0)] [] h Q) : WR (d) cd_230 35 [some (.ref (ad 30)), some (.int (nI m)), some (.int (nI i)), o3] [] h Q := by
  have fx0 := fx
  refine r_ic (x := 0) rfl rfl ?_
  refine r_istore (lv' := [some (.ref (ad 30)), some (.int (nI m)), some (.int (nI i)), some (.int 0)]) rfl (Nat.le_of_ble_eq_true rfl) rfl ?_
  exact (K1)

set_option maxHeartbeats 2000000 in
theorem w_mrk {d : Nat} {Q : mQ} {n : Nat} {ad sa : Nat → Nat} {z0 : Nat} {h : mH} (fx : FX n ad sa z0 h) {m i k : Nat} (n6 : n ≤ 6) (en : hI h (ad 30) 12 = nI n) (kn : k < n) 
    (C1 : EV (d) 235 [.ref (ad 30), .int (nI k)] h (fun v_ h_ => WR (d) cd_230 50 [some (.ref (ad 30)), some (.int (nI m)), some (.int (nI i)), some (.int (nI k))] (v_.toList ++ []) h_ Q)) : WR (d) cd_230 37 [some (.ref (ad 30)), some (.int (nI m)), some (.int (nI i)), some (.int (nI k))] [] h Q := by
  have fx0 := fx
  refine r_iload rfl rfl ?_
  refine r_aload rfl rfl ?_
  refine r_getI rfl ⟨rfl, rfl, rfl⟩ (fx_t30 fx) ?_
  refine WR_tI (y := nI n) en ?_
  refine r_icmp_ge (tg := 56) rfl rfl (fun q => False.elim (by have : (nI k).toInt = ((k : Nat) : Int) := nI_toInt (by omega); have : (nI n).toInt = ((n : Nat) : Int) := nI_toInt (by omega); have := i_le q; omega)) (fun _ => ?_)
  refine r_aload rfl rfl ?_
  refine r_iload rfl rfl ?_
  refine r_cv (y := 235) (ra := [.int (nI k)]) (rest := []) rfl ⟨⟨rfl, rfl⟩, rfl, by decide⟩ (fx_t30 fx) rfl rfl (Nat.le_of_ble_eq_true rfl) ?_
  exact (C1)

set_option maxHeartbeats 2000000 in
theorem w_mr50 {d : Nat} {Q : mQ} {n : Nat} {ad sa : Nat → Nat} {z0 : Nat} {h : mH} (fx : FX n ad sa z0 h) {m i k : Nat} (k6 : k < 6) 
    (K1 : WR (d) cd_230 37 [some (.ref (ad 30)), some (.int (nI m)), some (.int (nI i)), some (.int (nI (k + 1)))] [] h Q) : WR (d) cd_230 50 [some (.ref (ad 30)), some (.int (nI m)), some (.int (nI i)), some (.int (nI k))] [] h Q := by
  have fx0 := fx
  refine r_iinc (y := nI (k + 1)) (lv' := [some (.ref (ad 30)), some (.int (nI m)), some (.int (nI i)), some (.int (nI (k + 1)))]) rfl rfl (nI_1 _) rfl ?_
  refine r_goto (tg := 37) rfl rfl ?_
  exact (K1)

set_option maxHeartbeats 2000000 in
theorem w_mrf {d : Nat} {Q : mQ} {n : Nat} {ad sa : Nat → Nat} {z0 : Nat} {h : mH} (fx : FX n ad sa z0 h) {m i : Nat} (n6 : n ≤ 6) (en : hI h (ad 30) 12 = nI n) 
    (K1 : WR (d) cd_230 58 [some (.ref (ad 30)), some (.int (nI m)), some (.int (nI i)), some (.int 0)] [] h Q) : WR (d) cd_230 37 [some (.ref (ad 30)), some (.int (nI m)), some (.int (nI i)), some (.int (nI n))] [] h Q := by
  have fx0 := fx
  refine r_iload rfl rfl ?_
  refine r_aload rfl rfl ?_
  refine r_getI rfl ⟨rfl, rfl, rfl⟩ (fx_t30 fx) ?_
  refine WR_tI (y := nI n) en ?_
  refine r_icmp_ge (tg := 56) rfl rfl (fun _ => ?_) (fun q => False.elim (by have : (nI n).toInt = ((n : Nat) : Int) := nI_toInt (by omega); have := i_nle q; omega))
  refine r_ic (x := 0) rfl rfl ?_
  refine r_istore (lv' := [some (.ref (ad 30)), some (.int (nI m)), some (.int (nI i)), some (.int 0)]) rfl (Nat.le_of_ble_eq_true rfl) rfl ?_
  exact (K1)

set_option maxHeartbeats 2000000 in
theorem w_mrc {d : Nat} {Q : mQ} {n : Nat} {ad sa : Nat → Nat} {z0 : Nat} {h : mH} (fx : FX n ad sa z0 h) {m i e : Nat} (e8 : e < 18) {b : Int64} {x : UInt64} (e64 : hL h (ad 64) e = b) (e63 : hD h (ad 63) e = x) 
    (C1 : EV (d) 198 [.double x] (sL h (ad 65) e b) (fun v_ h_ => WR (d) cd_230 90 [some (.ref (ad 30)), some (.int (nI m)), some (.int (nI i)), some (.int (nI e))] (v_.toList ++ [.int (nI e), .ref (ad 64)]) h_ Q)) : WR (d) cd_230 58 [some (.ref (ad 30)), some (.int (nI m)), some (.int (nI i)), some (.int (nI e))] [] h Q := by
  have fx0 := fx
  refine r_iload rfl rfl ?_
  refine r_ic (x := 18) rfl rfl ?_
  refine r_icmp_ge (tg := 97) rfl rfl (fun q => False.elim (by have : (nI e).toInt = ((e : Nat) : Int) := nI_toInt (by omega); have : (18 : Int32).toInt = 18 := rfl; have := i_le q; omega)) (fun _ => ?_)
  refine r_aload rfl rfl ?_
  refine r_getA (b := ad 65) rfl ⟨rfl, rfl, rfl⟩ (fx_t30 fx) (fx_r30_52 fx) ?_
  refine r_iload rfl rfl ?_
  refine r_aload rfl rfl ?_
  refine r_getA (b := ad 64) rfl ⟨rfl, rfl, rfl⟩ (fx_t30 fx) (fx_r30_51 fx) ?_
  refine r_iload rfl rfl ?_
  refine r_laload rfl (fx_t64 fx) (vp_ct (fx_n64 fx) (vp_in_nI (by omega) (by omega))) ?_
  refine WR_tL (congrArg (hL h (ad 64)) ((nI_clamp (by omega)) : _ = e)) ?_
  refine WR_tL (y := b) e64 ?_
  refine r_lastore rfl (fx_t65 fx) (vp_ct (fx_n65 fx) (vp_in_nI (by omega) (by omega))) ?_
  refine WR_h (h2 := sL h (ad 65) e b) (congrArg (fun z => sL h (ad 65) z b) ((nI_clamp (by omega)) : _ = e)) ?_
  have fx : FX n ad sa z0 (sL h (ad 65) e b) := (FX.sL fx)
  refine r_aload rfl rfl ?_
  refine r_getA (b := ad 64) rfl ⟨rfl, rfl, rfl⟩ (fx_t30 fx) (fx_r30_51 fx) ?_
  refine r_iload rfl rfl ?_
  refine r_aload rfl rfl ?_
  refine r_getA (b := ad 63) rfl ⟨rfl, rfl, rfl⟩ (fx_t30 fx) (fx_r30_50 fx) ?_
  refine r_iload rfl rfl ?_
  refine r_daload rfl (fx_t63 fx) (vp_ct (fx_n63 fx) (vp_in_nI (by omega) (by omega))) ?_
  refine WR_tD (congrArg (hD (sL h (ad 65) e b) (ad 63)) ((nI_clamp (by omega)) : _ = e)) ?_
  refine WR_tD (y := x) (Eq.trans D_oL e63) ?_
  refine r_cs (y := 198) (ra := [.double x]) (rest := [.int (nI e), .ref (ad 64)]) rfl ⟨⟨rfl, rfl⟩, by decide⟩ rfl rfl (Nat.le_of_ble_eq_true rfl) ?_
  exact (C1)

set_option maxHeartbeats 2000000 in
theorem w_mr90 {d : Nat} {Q : mQ} {n : Nat} {ad sa : Nat → Nat} {z0 : Nat} {h : mH} (fx : FX n ad sa z0 h) {m i e : Nat} (e8 : e < 18) {b : Int64} 
    (K1 : WR (d) cd_230 58 [some (.ref (ad 30)), some (.int (nI m)), some (.int (nI i)), some (.int (nI (e + 1)))] [] (sL h (ad 64) e b) Q) : WR (d) cd_230 90 [some (.ref (ad 30)), some (.int (nI m)), some (.int (nI i)), some (.int (nI e))] [.long b, .int (nI e), .ref (ad 64)] h Q := by
  have fx0 := fx
  refine r_lastore rfl (fx_t64 fx) (vp_ct (fx_n64 fx) (vp_in_nI (by omega) (by omega))) ?_
  refine WR_h (h2 := sL h (ad 64) e b) (congrArg (fun z => sL h (ad 64) z b) ((nI_clamp (by omega)) : _ = e)) ?_
  have fx : FX n ad sa z0 (sL h (ad 64) e b) := (FX.sL fx)
  refine r_iinc (y := nI (e + 1)) (lv' := [some (.ref (ad 30)), some (.int (nI m)), some (.int (nI i)), some (.int (nI (e + 1)))]) rfl rfl (nI_1 _) rfl ?_
  refine r_goto (tg := 58) rfl rfl ?_
  exact (K1)

set_option maxHeartbeats 2000000 in
theorem w_mrz {d : Nat} {Q : mQ} {n : Nat} {ad sa : Nat → Nat} {z0 : Nat} {h : mH} (fx : FX n ad sa z0 h) {m i st : Nat} (i4 : i < 40) (s2 : st ≤ 30000) (e63 : hI h (ad 30) 63 = nI st) 
    (K1 : WR (d) cd_230 26 [some (.ref (ad 30)), some (.int (nI m)), some (.int (nI (i + 1))), some (.int 18)] [] (sI h (ad 30) 63 (nI (st + 1))) Q) : WR (d) cd_230 58 [some (.ref (ad 30)), some (.int (nI m)), some (.int (nI i)), some (.int 18)] [] h Q := by
  have fx0 := fx
  refine r_iload rfl rfl ?_
  refine r_ic (x := 18) rfl rfl ?_
  refine r_icmp_ge (tg := 97) rfl rfl (fun _ => ?_) (fun q => absurd q (by decide))
  refine r_aload rfl rfl ?_
  refine r_dup rfl rfl ?_
  refine r_getI rfl ⟨rfl, rfl, rfl⟩ (fx_t30 fx) ?_
  refine WR_tI (y := nI st) e63 ?_
  refine r_ic (x := 1) rfl rfl ?_
  refine r_iadd rfl ?_
  refine WR_tI (y := nI (st + 1)) (Eq.trans (nI_add st 1) (congrArg nI (by omega))) ?_
  refine r_putI rfl ⟨rfl, rfl, rfl⟩ (fx_t30 fx) ?_
  have fx : FX n ad sa z0 (sI h (ad 30) 63 (nI (st + 1))) := (FX.sI fx)
  refine r_iinc (y := nI (i + 1)) (lv' := [some (.ref (ad 30)), some (.int (nI m)), some (.int (nI (i + 1))), some (.int 18)]) rfl rfl (nI_1 _) rfl ?_
  refine r_goto (tg := 26) rfl rfl ?_
  exact (K1)
