/-! ===== walks of run: the class's rotor; printed ===== -/
set_option maxHeartbeats 2000000 in
theorem w_tr2 {d : Nat} {Q : mQ} {n : Nat} {ad sa : Nat → Nat} {z0 : Nat} {h : mH} (fx : FX n ad sa z0 h) {t : Nat} (ha : t < n) (n6 : n ≤ 6) (tu2 : hT h (ad (100 + 5 * t)) = 8) {g u : UInt64} (e10 : hI h (ad (100 + 5 * t)) 10 = 2) (e14 : hD h (ad (100 + 5 * t)) 14 = g) (e15 : hD h (ad (100 + 5 * t)) 15 = u) 
    (B1 : vf_n64 (FP.dmul u 4602678819172646912))
    (B2 : vf_n64 (FP.dsub (FP.dmul u 4602678819172646912) g))
    (C1 : EV (d) 138 [.double 4602678819172646912, .double (FP.dsub (FP.dmul u 4602678819172646912) g)] h (fun v_ h_ => WR (d) cd_139 31 [some (.ref (ad (100 + 5 * t))), none, none] (v_.toList ++ [.double g]) h_ Q)) : EV (d + 1) 139 [.ref (ad (100 + 5 * t))] h Q := by
  have fx0 := fx
  refine in_139 (Nat.le_of_ble_eq_true rfl) ?_
  show WR _ cd_139 0 [some (.ref (ad (100 + 5 * t))), none, none] [] h _
  refine r_aload rfl rfl ?_
  refine r_getI rfl ⟨rfl, rfl, rfl⟩ tu2 ?_
  refine WR_tI (y := 2) e10 ?_
  refine r_ic (x := 2) rfl rfl ?_
  refine r_icmp_ne (tg := 51) rfl rfl (fun q => absurd q (by decide)) (fun _ => ?_)
  refine r_aload rfl rfl ?_
  refine r_getD rfl ⟨rfl, rfl, rfl⟩ tu2 ?_
  refine WR_tD (y := g) e14 ?_
  refine r_ldc (x := .double 4602678819172646912) rfl rfl ?_
  refine r_aload rfl rfl ?_
  refine r_getD rfl ⟨rfl, rfl, rfl⟩ tu2 ?_
  refine WR_tD (y := u) e15 ?_
  refine r_ldc (x := .double 4602678819172646912) rfl rfl ?_
  refine r_dmul rfl (B1) ?_
  refine r_aload rfl rfl ?_
  refine r_getD rfl ⟨rfl, rfl, rfl⟩ tu2 ?_
  refine WR_tD (y := g) e14 ?_
  refine r_dsub rfl (B2) ?_
  refine r_cs (y := 138) (ra := [.double (FP.dsub (FP.dmul u 4602678819172646912) g), .double 4602678819172646912]) (rest := [.double g]) rfl ⟨⟨rfl, rfl⟩, by decide⟩ rfl rfl (Nat.le_of_ble_eq_true rfl) ?_
  exact (C1)

set_option maxHeartbeats 2000000 in
theorem w_tr2b {d : Nat} {Q : mQ} {n : Nat} {ad sa : Nat → Nat} {z0 : Nat} {h : mH} (fx : FX n ad sa z0 h) {t : Nat} (ha : t < n) (n6 : n ≤ 6) (tu2 : hT h (ad (100 + 5 * t)) = 8) {g y : UInt64} {o1 o2 : Option Value} 
    (B1 : vf_n64 (FP.dadd g y))
    (K1 : ¬ dlt (FP.dadd g y) 0 → WR (d) cd_139 63 [some (.ref (ad (100 + 5 * t))), some (.double (FP.dadd g y)), none] [] (sD h (ad (100 + 5 * t)) 14 (FP.dadd g y)) Q)
    (K2 : dlt (FP.dadd g y) 0 → WR (d) cd_139 63 [some (.ref (ad (100 + 5 * t))), some (.double (FP.dadd g y)), none] [] (sD h (ad (100 + 5 * t)) 14 0) Q) : WR (d) cd_139 31 [some (.ref (ad (100 + 5 * t))), o1, o2] [.double y, .double g] h Q := by
  have fx0 := fx
  refine r_dadd rfl (B1) ?_
  refine r_dstore (lv' := [some (.ref (ad (100 + 5 * t))), some (.double (FP.dadd g y)), none]) rfl (Nat.le_of_ble_eq_true rfl) rfl ?_
  refine r_aload rfl rfl ?_
  refine r_dload rfl rfl ?_
  refine r_dc (x := 0) rfl rfl ?_
  refine r_dgif_ge (tg := 44) rfl rfl rfl (fun c1 => ?_) (fun c1 => ?_)
  · refine r_dload rfl rfl ?_
    refine r_putD rfl ⟨rfl, rfl, rfl⟩ tu2 ?_
    have fx : FX n ad sa z0 (sD h (ad (100 + 5 * t)) 14 (FP.dadd g y)) := (FX.sD fx)
    refine r_goto (tg := 63) rfl rfl ?_
    exact (K1 c1)
  · refine r_dc (x := 0) rfl rfl ?_
    refine r_goto (tg := 45) rfl rfl ?_
    refine r_putD rfl ⟨rfl, rfl, rfl⟩ tu2 ?_
    have fx : FX n ad sa z0 (sD h (ad (100 + 5 * t)) 14 0) := (FX.sD fx)
    refine r_goto (tg := 63) rfl rfl ?_
    exact (K2 c1)

set_option maxHeartbeats 2000000 in
theorem w_tr9 {d : Nat} {Q : mQ} {n : Nat} {ad sa : Nat → Nat} {z0 : Nat} {h : mH} (fx : FX n ad sa z0 h) {t : Nat} (ha : t < n) (n6 : n ≤ 6) (tu2 : hT h (ad (100 + 5 * t)) = 8) {g : UInt64} (e10 : hI h (ad (100 + 5 * t)) 10 = 0) (e14 : hD h (ad (100 + 5 * t)) 14 = g) 
    (B1 : vf_n64 (FP.ddiv g 4611686018427387904))
    (K1 : WR (d) cd_139 63 [some (.ref (ad (100 + 5 * t))), none, none] [] (sD h (ad (100 + 5 * t)) 14 (FP.ddiv g 4611686018427387904)) Q) : EV (d + 1) 139 [.ref (ad (100 + 5 * t))] h Q := by
  have fx0 := fx
  refine in_139 (Nat.le_of_ble_eq_true rfl) ?_
  show WR _ cd_139 0 [some (.ref (ad (100 + 5 * t))), none, none] [] h _
  refine r_aload rfl rfl ?_
  refine r_getI rfl ⟨rfl, rfl, rfl⟩ tu2 ?_
  refine WR_tI (y := 0) e10 ?_
  refine r_ic (x := 2) rfl rfl ?_
  refine r_icmp_ne (tg := 51) rfl rfl (fun _ => ?_) (fun q => absurd q (by decide))
  refine r_aload rfl rfl ?_
  refine r_aload rfl rfl ?_
  refine r_getD rfl ⟨rfl, rfl, rfl⟩ tu2 ?_
  refine WR_tD (y := g) e14 ?_
  refine r_ldc (x := .double 4611686018427387904) rfl rfl ?_
  refine r_ddiv rfl (B1) ?_
  refine r_putD rfl ⟨rfl, rfl, rfl⟩ tu2 ?_
  exact (K1)

set_option maxHeartbeats 2000000 in
theorem w_tr1 {d : Nat} {Q : mQ} {n : Nat} {ad sa : Nat → Nat} {z0 : Nat} {h : mH} (fx : FX n ad sa z0 h) {t : Nat} (ha : t < n) (n6 : n ≤ 6) (tu2 : hT h (ad (100 + 5 * t)) = 8) {g : UInt64} (e10 : hI h (ad (100 + 5 * t)) 10 = 1) (e14 : hD h (ad (100 + 5 * t)) 14 = g) 
    (B1 : vf_n64 (FP.ddiv g 4611686018427387904))
    (K1 : WR (d) cd_139 63 [some (.ref (ad (100 + 5 * t))), none, none] [] (sD h (ad (100 + 5 * t)) 14 (FP.ddiv g 4611686018427387904)) Q) : EV (d + 1) 139 [.ref (ad (100 + 5 * t))] h Q := by
  have fx0 := fx
  refine in_139 (Nat.le_of_ble_eq_true rfl) ?_
  show WR _ cd_139 0 [some (.ref (ad (100 + 5 * t))), none, none] [] h _
  refine r_aload rfl rfl ?_
  refine r_getI rfl ⟨rfl, rfl, rfl⟩ tu2 ?_
  refine WR_tI (y := 1) e10 ?_
  refine r_ic (x := 2) rfl rfl ?_
  refine r_icmp_ne (tg := 51) rfl rfl (fun _ => ?_) (fun q => absurd q (by decide))
  refine r_aload rfl rfl ?_
  refine r_aload rfl rfl ?_
  refine r_getD rfl ⟨rfl, rfl, rfl⟩ tu2 ?_
  refine WR_tD (y := g) e14 ?_
  refine r_ldc (x := .double 4611686018427387904) rfl rfl ?_
  refine r_ddiv rfl (B1) ?_
  refine r_putD rfl ⟨rfl, rfl, rfl⟩ tu2 ?_
  exact (K1)

set_option maxHeartbeats 2000000 in
theorem w_tr3 {d : Nat} {Q : mQ} {n : Nat} {ad sa : Nat → Nat} {z0 : Nat} {h : mH} (fx : FX n ad sa z0 h) {t : Nat} (ha : t < n) (n6 : n ≤ 6) (tu2 : hT h (ad (100 + 5 * t)) = 8) {g : UInt64} (e10 : hI h (ad (100 + 5 * t)) 10 = 3) (e14 : hD h (ad (100 + 5 * t)) 14 = g) 
    (B1 : vf_n64 (FP.ddiv g 4611686018427387904))
    (K1 : WR (d) cd_139 63 [some (.ref (ad (100 + 5 * t))), none, none] [] (sD h (ad (100 + 5 * t)) 14 (FP.ddiv g 4611686018427387904)) Q) : EV (d + 1) 139 [.ref (ad (100 + 5 * t))] h Q := by
  have fx0 := fx
  refine in_139 (Nat.le_of_ble_eq_true rfl) ?_
  show WR _ cd_139 0 [some (.ref (ad (100 + 5 * t))), none, none] [] h _
  refine r_aload rfl rfl ?_
  refine r_getI rfl ⟨rfl, rfl, rfl⟩ tu2 ?_
  refine WR_tI (y := 3) e10 ?_
  refine r_ic (x := 2) rfl rfl ?_
  refine r_icmp_ne (tg := 51) rfl rfl (fun _ => ?_) (fun q => absurd q (by decide))
  refine r_aload rfl rfl ?_
  refine r_aload rfl rfl ?_
  refine r_getD rfl ⟨rfl, rfl, rfl⟩ tu2 ?_
  refine WR_tD (y := g) e14 ?_
  refine r_ldc (x := .double 4611686018427387904) rfl rfl ?_
  refine r_ddiv rfl (B1) ?_
  refine r_putD rfl ⟨rfl, rfl, rfl⟩ tu2 ?_
  exact (K1)

set_option maxHeartbeats 2000000 in
theorem w_tr63 {d : Nat} {Q : mQ} {n : Nat} {ad sa : Nat → Nat} {z0 : Nat} {h : mH} (fx : FX n ad sa z0 h) {t : Nat} (ha : t < n) (n6 : n ≤ 6) (tu2 : hT h (ad (100 + 5 * t)) = 8) {w p g u : UInt64} {o1 o2 : Option Value} (e12 : hD h (ad (100 + 5 * t)) 12 = w) (e13 : hD h (ad (100 + 5 * t)) 13 = p) (e14 : hD h (ad (100 + 5 * t)) 14 = g) (e15 : hD h (ad (100 + 5 * t)) 15 = u) 
    (B1 : vf_n64 (FP.ddiv p 4636033603912859648))
    (B2 : vf_n64 (FP.dsub 4607182418800017408 (FP.ddiv p 4636033603912859648)))
    (B3 : vf_n64 (FP.dmul w (FP.dsub 4607182418800017408 (FP.ddiv p 4636033603912859648))))
    (B4 : vf_n64 (FP.dsub (FP.dmul w (FP.dsub 4607182418800017408 (FP.ddiv p 4636033603912859648))) g))
    (B5 : vf_n64 (FP.dmul 4591870180066957722 u))
    (B6 : vf_n64 (FP.dsub (FP.dsub (FP.dmul w (FP.dsub 4607182418800017408 (FP.ddiv p 4636033603912859648))) g) (FP.dmul 4591870180066957722 u)))
    (B7 : vf_n64 (FP.dmul 4591870180066957722 (FP.dsub (FP.dsub (FP.dmul w (FP.dsub 4607182418800017408 (FP.ddiv p 4636033603912859648))) g) (FP.dmul 4591870180066957722 u))))
    (B8 : vf_n64 (FP.dadd u (FP.dmul 4591870180066957722 (FP.dsub (FP.dsub (FP.dmul w (FP.dsub 4607182418800017408 (FP.ddiv p 4636033603912859648))) g) (FP.dmul 4591870180066957722 u)))))
    (K1 : ¬ dgt (FP.dadd u (FP.dmul 4591870180066957722 (FP.dsub (FP.dsub (FP.dmul w (FP.dsub 4607182418800017408 (FP.ddiv p 4636033603912859648))) g) (FP.dmul 4591870180066957722 u)))) 0 → WR (d) cd_139 117 [some (.ref (ad (100 + 5 * t))), some (.double (FP.dadd u (FP.dmul 4591870180066957722 (FP.dsub (FP.dsub (FP.dmul w (FP.dsub 4607182418800017408 (FP.ddiv p 4636033603912859648))) g) (FP.dmul 4591870180066957722 u))))), none] [] (sD h (ad (100 + 5 * t)) 15 0) Q)
    (K2 : dgt (FP.dadd u (FP.dmul 4591870180066957722 (FP.dsub (FP.dsub (FP.dmul w (FP.dsub 4607182418800017408 (FP.ddiv p 4636033603912859648))) g) (FP.dmul 4591870180066957722 u)))) 0 → WR (d) cd_139 117 [some (.ref (ad (100 + 5 * t))), some (.double (FP.dadd u (FP.dmul 4591870180066957722 (FP.dsub (FP.dsub (FP.dmul w (FP.dsub 4607182418800017408 (FP.ddiv p 4636033603912859648))) g) (FP.dmul 4591870180066957722 u))))), none] [] (sD h (ad (100 + 5 * t)) 15 (FP.dadd u (FP.dmul 4591870180066957722 (FP.dsub (FP.dsub (FP.dmul w (FP.dsub 4607182418800017408 (FP.ddiv p 4636033603912859648))) g) (FP.dmul 4591870180066957722 u))))) Q) : WR (d) cd_139 63 [some (.ref (ad (100 + 5 * t))), o1, o2] [] h Q := by
  have fx0 := fx
  refine r_aload rfl rfl ?_
  refine r_getD rfl ⟨rfl, rfl, rfl⟩ tu2 ?_
  refine WR_tD (y := u) e15 ?_
  refine r_ldc (x := .double 4591870180066957722) rfl rfl ?_
  refine r_aload rfl rfl ?_
  refine r_getD rfl ⟨rfl, rfl, rfl⟩ tu2 ?_
  refine WR_tD (y := w) e12 ?_
  refine r_dc (x := 4607182418800017408) rfl rfl ?_
  refine r_aload rfl rfl ?_
  refine r_getD rfl ⟨rfl, rfl, rfl⟩ tu2 ?_
  refine WR_tD (y := p) e13 ?_
  refine r_ldc (x := .double 4636033603912859648) rfl rfl ?_
  refine r_ddiv rfl (B1) ?_
  refine r_dsub rfl (B2) ?_
  refine r_dmul rfl (B3) ?_
  refine r_aload rfl rfl ?_
  refine r_getD rfl ⟨rfl, rfl, rfl⟩ tu2 ?_
  refine WR_tD (y := g) e14 ?_
  refine r_dsub rfl (B4) ?_
  refine r_ldc (x := .double 4591870180066957722) rfl rfl ?_
  refine r_aload rfl rfl ?_
  refine r_getD rfl ⟨rfl, rfl, rfl⟩ tu2 ?_
  refine WR_tD (y := u) e15 ?_
  refine r_dmul rfl (B5) ?_
  refine r_dsub rfl (B6) ?_
  refine r_dmul rfl (B7) ?_
  refine r_dadd rfl (B8) ?_
  refine r_dstore (lv' := [some (.ref (ad (100 + 5 * t))), some (.double (FP.dadd u (FP.dmul 4591870180066957722 (FP.dsub (FP.dsub (FP.dmul w (FP.dsub 4607182418800017408 (FP.ddiv p 4636033603912859648))) g) (FP.dmul 4591870180066957722 u))))), none]) rfl (Nat.le_of_ble_eq_true rfl) rfl ?_
  refine r_aload rfl rfl ?_
  refine r_dload rfl rfl ?_
  refine r_dc (x := 0) rfl rfl ?_
  refine r_dlif_le (tg := 113) rfl rfl rfl (fun c1 => ?_) (fun c1 => ?_)
  · refine r_dc (x := 0) rfl rfl ?_
    refine r_putD rfl ⟨rfl, rfl, rfl⟩ tu2 ?_
    exact (K1 c1)
  · refine r_dload rfl rfl ?_
    refine r_goto (tg := 114) rfl rfl ?_
    refine r_putD rfl ⟨rfl, rfl, rfl⟩ tu2 ?_
    exact (K2 c1)

set_option maxHeartbeats 2000000 in
theorem w_tr117 {d : Nat} {Q : mQ} {n : Nat} {ad sa : Nat → Nat} {z0 : Nat} {h : mH} (fx : FX n ad sa z0 h) {t : Nat} (ha : t < n) (n6 : n ≤ 6) (tu2 : hT h (ad (100 + 5 * t)) = 8) {g u b en : UInt64} {o1 o2 : Option Value} (e14 : hD h (ad (100 + 5 * t)) 14 = g) (e15 : hD h (ad (100 + 5 * t)) 15 = u) (e17 : hD h (ad (100 + 5 * t)) 17 = b) (e16 : hD h (ad (100 + 5 * t)) 16 = en) 
    (B1 : vf_n64 (FP.dmul g u))
    (B2 : ¬ dgt (FP.dmul g u) b → vf_n64 (FP.dmul g u))
    (B3 : ¬ dgt (FP.dmul g u) b → vf_n64 (FP.dadd en (FP.dmul g u)))
    (L1 : ¬ dgt (FP.dmul g u) b → Q none (sD h (ad (100 + 5 * t)) 16 (FP.dadd en (FP.dmul g u))))
    (B4 : dgt (FP.dmul g u) b → vf_n64 (FP.ddiv b u))
    (B5 : dgt (FP.dmul g u) b → vf_n64 (FP.dmul (FP.ddiv b u) u))
    (B6 : dgt (FP.dmul g u) b → vf_n64 (FP.dadd en (FP.dmul (FP.ddiv b u) u)))
    (L2 : dgt (FP.dmul g u) b → Q none (sD (sD h (ad (100 + 5 * t)) 14 (FP.ddiv b u)) (ad (100 + 5 * t)) 16 (FP.dadd en (FP.dmul (FP.ddiv b u) u)))) : WR (d) cd_139 117 [some (.ref (ad (100 + 5 * t))), o1, o2] [] h Q := by
  have fx0 := fx
  refine r_aload rfl rfl ?_
  refine r_getD rfl ⟨rfl, rfl, rfl⟩ tu2 ?_
  refine WR_tD (y := g) e14 ?_
  refine r_aload rfl rfl ?_
  refine r_getD rfl ⟨rfl, rfl, rfl⟩ tu2 ?_
  refine WR_tD (y := u) e15 ?_
  refine r_dmul rfl (B1) ?_
  refine r_aload rfl rfl ?_
  refine r_getD rfl ⟨rfl, rfl, rfl⟩ tu2 ?_
  refine WR_tD (y := b) e17 ?_
  refine r_dlif_le (tg := 147) rfl rfl rfl (fun c1 => ?_) (fun c1 => ?_)
  · refine r_aload rfl rfl ?_
    refine r_aload rfl rfl ?_
    refine r_getD rfl ⟨rfl, rfl, rfl⟩ tu2 ?_
    refine WR_tD (y := en) e16 ?_
    refine r_aload rfl rfl ?_
    refine r_getD rfl ⟨rfl, rfl, rfl⟩ tu2 ?_
    refine WR_tD (y := g) e14 ?_
    refine r_aload rfl rfl ?_
    refine r_getD rfl ⟨rfl, rfl, rfl⟩ tu2 ?_
    refine WR_tD (y := u) e15 ?_
    refine r_dmul rfl (B2 c1) ?_
    refine r_dadd rfl (B3 c1) ?_
    refine r_putD rfl ⟨rfl, rfl, rfl⟩ tu2 ?_
    have fx : FX n ad sa z0 (sD h (ad (100 + 5 * t)) 16 (FP.dadd en (FP.dmul g u))) := (FX.sD fx)
    refine r_vret rfl ?_
    exact (L1 c1)
  · refine r_aload rfl rfl ?_
    refine r_aload rfl rfl ?_
    refine r_getD rfl ⟨rfl, rfl, rfl⟩ tu2 ?_
    refine WR_tD (y := b) e17 ?_
    refine r_aload rfl rfl ?_
    refine r_getD rfl ⟨rfl, rfl, rfl⟩ tu2 ?_
    refine WR_tD (y := u) e15 ?_
    refine r_ddiv rfl (B4 c1) ?_
    refine r_putD rfl ⟨rfl, rfl, rfl⟩ tu2 ?_
    have fx : FX n ad sa z0 (sD h (ad (100 + 5 * t)) 14 (FP.ddiv b u)) := (FX.sD fx)
    refine r_aload rfl rfl ?_
    refine r_aload rfl rfl ?_
    refine r_getD rfl ⟨rfl, rfl, rfl⟩ tu2 ?_
    refine WR_tD (y := en) (Eq.trans (D_nk (by decide)) e16) ?_
    refine r_aload rfl rfl ?_
    refine r_getD rfl ⟨rfl, rfl, rfl⟩ tu2 ?_
    refine WR_tD (y := FP.ddiv b u) D_eq ?_
    refine r_aload rfl rfl ?_
    refine r_getD rfl ⟨rfl, rfl, rfl⟩ tu2 ?_
    refine WR_tD (y := u) (Eq.trans (D_nk (by decide)) e15) ?_
    refine r_dmul rfl (B5 c1) ?_
    refine r_dadd rfl (B6 c1) ?_
    refine r_putD rfl ⟨rfl, rfl, rfl⟩ tu2 ?_
    have fx : FX n ad sa z0 (sD (sD h (ad (100 + 5 * t)) 14 (FP.ddiv b u)) (ad (100 + 5 * t)) 16 (FP.dadd en (FP.dmul (FP.ddiv b u) u))) := (FX.sD fx)
    refine r_vret rfl ?_
    exact (L2 c1)
