/-! ===== walks for seconds: the reference, sums; printed ===== -/
set_option maxHeartbeats 2000000 in
theorem w_mm0 {d : Nat} {Q : mQ} {n : Nat} {ad sa : Nat → Nat} {z0 : Nat} {h : mH} (fx : FX n ad sa z0 h) {t : Nat} (l : Int32) 
    (K1 : WR (d) cd_194 7 [some (.ref (ad 30)), some (.int (nI t)), some (.int l), some (.int 0), none, none, none] [] (sI h (ad 30) 17 0) Q) : EV (d + 1) 194 [.ref (ad 30), .int (nI t), .int l] h Q := by
  have fx0 := fx
  refine in_194 (Nat.le_of_ble_eq_true rfl) ?_
  show WR _ cd_194 0 [some (.ref (ad 30)), some (.int (nI t)), some (.int l), none, none, none, none] [] h _
  refine r_aload rfl rfl ?_
  refine r_ic (x := 0) rfl rfl ?_
  refine r_putI rfl ⟨rfl, rfl, rfl⟩ (fx_t30 fx) ?_
  have fx : FX n ad sa z0 (sI h (ad 30) 17 0) := (FX.sI fx)
  refine r_ic (x := 0) rfl rfl ?_
  refine r_istore (lv' := [some (.ref (ad 30)), some (.int (nI t)), some (.int l), some (.int 0), none, none, none]) rfl (Nat.le_of_ble_eq_true rfl) rfl ?_
  exact (K1)

set_option maxHeartbeats 2000000 in
theorem w_mm7e {d : Nat} {Q : mQ} {n : Nat} {ad sa : Nat → Nat} {z0 : Nat} {h : mH} (fx : FX n ad sa z0 h) {t k c sz : Nat} (ht : t < 250) (s3 : sz ≤ 30) (z1 : hI h (ad 35) t = nI sz) (l : Int32) (o4 o6 : Option Value) (hk : k = sz) 
    (L1 : Q none h) : WR (d) cd_194 7 [some (.ref (ad 30)), some (.int (nI t)), some (.int l), some (.int (nI k)), o4, none, o6] [] h Q := by
  have fx0 := fx
  refine r_iload rfl rfl ?_
  refine r_aload rfl rfl ?_
  refine r_getA (b := ad 35) rfl ⟨rfl, rfl, rfl⟩ (fx_t30 fx) (fx_r30_4 fx) ?_
  refine r_iload rfl rfl ?_
  refine r_iaload rfl (.inl (fx_t35 fx)) (vp_ct (fx_n35 fx) (vp_in_nI (by omega) (by omega))) ?_
  refine WR_tI (congrArg (hI h (ad 35)) ((nI_clamp (by omega)) : _ = t)) ?_
  refine WR_tI (y := nI sz) z1 ?_
  refine r_icmp_ge (tg := 117) rfl rfl (fun _ => ?_) (fun q => False.elim (by have : (nI k).toInt = ((k : Nat) : Int) := nI_toInt (by omega); have : (nI sz).toInt = ((sz : Nat) : Int) := nI_toInt (by omega); have := i_nle q; omega))
  refine r_vret rfl ?_
  exact (L1)

set_option maxHeartbeats 2000000 in
theorem w_mm7 {d : Nat} {Q : mQ} {n : Nat} {ad sa : Nat → Nat} {z0 : Nat} {h : mH} (fx : FX n ad sa z0 h) {t k c sz : Nat} (ht : t < 250) (s3 : sz ≤ 30) (z1 : hI h (ad 35) t = nI sz) (l : Int32) (o4 o6 : Option Value) (hk : k < sz) 
    (C1 : EV (d) 195 [.int l, .long (hL h (ad 36) (30 * t + k))] h (fun v_ h_ => WR (d) cd_194 32 [some (.ref (ad 30)), some (.int (nI t)), some (.int l), some (.int (nI k)), o4, none, o6] (v_.toList ++ []) h_ Q)) : WR (d) cd_194 7 [some (.ref (ad 30)), some (.int (nI t)), some (.int l), some (.int (nI k)), o4, none, o6] [] h Q := by
  have fx0 := fx
  refine r_iload rfl rfl ?_
  refine r_aload rfl rfl ?_
  refine r_getA (b := ad 35) rfl ⟨rfl, rfl, rfl⟩ (fx_t30 fx) (fx_r30_4 fx) ?_
  refine r_iload rfl rfl ?_
  refine r_iaload rfl (.inl (fx_t35 fx)) (vp_ct (fx_n35 fx) (vp_in_nI (by omega) (by omega))) ?_
  refine WR_tI (congrArg (hI h (ad 35)) ((nI_clamp (by omega)) : _ = t)) ?_
  refine WR_tI (y := nI sz) z1 ?_
  refine r_icmp_ge (tg := 117) rfl rfl (fun q => False.elim (by have : (nI k).toInt = ((k : Nat) : Int) := nI_toInt (by omega); have : (nI sz).toInt = ((sz : Nat) : Int) := nI_toInt (by omega); have := i_le q; omega)) (fun _ => ?_)
  refine r_iload rfl rfl ?_
  refine r_aload rfl rfl ?_
  refine r_getA (b := ad 36) rfl ⟨rfl, rfl, rfl⟩ (fx_t30 fx) (fx_r30_5 fx) ?_
  refine r_ic (x := 30) rfl rfl ?_
  refine r_iload rfl rfl ?_
  refine r_imul rfl ?_
  refine WR_tI (y := nI (30 * t)) (Eq.trans (pk_mul 30 t) (congrArg nI (by omega))) ?_
  refine r_iload rfl rfl ?_
  refine r_iadd rfl ?_
  refine WR_tI (y := nI (30 * t + k)) (Eq.trans (nI_add (30 * t) k) (congrArg nI (by omega))) ?_
  refine r_laload rfl (fx_t36 fx) (vp_ct (fx_n36 fx) (vp_in_nI (by omega) (by omega))) ?_
  refine WR_tL (congrArg (hL h (ad 36)) ((nI_clamp (by omega)) : _ = 30 * t + k)) ?_
  refine r_cs (y := 195) (ra := [.long (hL h (ad 36) (30 * t + k)), .int l]) (rest := []) rfl ⟨⟨rfl, rfl⟩, by decide⟩ rfl rfl (Nat.le_of_ble_eq_true rfl) ?_
  exact (C1)

set_option maxHeartbeats 2000000 in
theorem w_mm32 {d : Nat} {Q : mQ} {n : Nat} {ad sa : Nat → Nat} {z0 : Nat} {h : mH} (fx : FX n ad sa z0 h) {t k c : Nat} (hk : k < 30) (hc : c ≤ 30) (e17 : hI h (ad 30) 17 = nI c) (l : Int32) (v : UInt64) (o4 o6 : Option Value) 
    (K1 : ¬ deq v v → WR (d) cd_194 7 [some (.ref (ad 30)), some (.int (nI t)), some (.int l), some (.int (nI (k + 1))), some (.double v), none, o6] [] h Q)
    (K2 : deq v v → WR (d) cd_194 48 [some (.ref (ad 30)), some (.int (nI t)), some (.int l), some (.int (nI k)), some (.double v), none, some (.int (nI c))] [] h Q) : WR (d) cd_194 32 [some (.ref (ad 30)), some (.int (nI t)), some (.int l), some (.int (nI k)), o4, none, o6] [.double v] h Q := by
  have fx0 := fx
  refine r_dstore (lv' := [some (.ref (ad 30)), some (.int (nI t)), some (.int l), some (.int (nI k)), some (.double v), none, o6]) rfl (Nat.le_of_ble_eq_true rfl) rfl ?_
  refine r_dload rfl rfl ?_
  refine r_dload rfl rfl ?_
  refine r_dlif_ne (tg := 111) rfl rfl rfl (fun c1 => ?_) (fun c1 => ?_)
  · refine r_iinc (y := nI (k + 1)) (lv' := [some (.ref (ad 30)), some (.int (nI t)), some (.int l), some (.int (nI (k + 1))), some (.double v), none, o6]) rfl rfl (nI_1 _) rfl ?_
    refine r_goto (tg := 7) rfl rfl ?_
    exact (K1 c1)
  · refine r_aload rfl rfl ?_
    refine r_getI rfl ⟨rfl, rfl, rfl⟩ (fx_t30 fx) ?_
    refine WR_tI (y := nI c) e17 ?_
    refine r_istore (lv' := [some (.ref (ad 30)), some (.int (nI t)), some (.int l), some (.int (nI k)), some (.double v), none, some (.int (nI c))]) rfl (Nat.le_of_ble_eq_true rfl) rfl ?_
    exact (K2 c1)

set_option maxHeartbeats 2000000 in
theorem w_mm48z {d : Nat} {Q : mQ} {n : Nat} {ad sa : Nat → Nat} {z0 : Nat} {h : mH} (fx : FX n ad sa z0 h) {t k p c : Nat} (hk : k < 30) (hp : p ≤ c) (hc : c < 30) (l : Int32) (v : UInt64) (p0 : p = 0) 
    (K1 : WR (d) cd_194 92 [some (.ref (ad 30)), some (.int (nI t)), some (.int l), some (.int (nI k)), some (.double v), none, some (.int (nI p))] [] h Q) : WR (d) cd_194 48 [some (.ref (ad 30)), some (.int (nI t)), some (.int l), some (.int (nI k)), some (.double v), none, some (.int (nI p))] [] h Q := by
  have fx0 := fx
  refine r_iload rfl rfl ?_
  refine r_if_le (tg := 92) rfl rfl (fun _ => ?_) (fun q => False.elim (by have : (nI p).toInt = ((p : Nat) : Int) := nI_toInt (by omega); have : (0 : Int32).toInt = 0 := rfl; have := i_nle q; omega))
  exact (K1)

set_option maxHeartbeats 2000000 in
theorem w_mm48 {d : Nat} {Q : mQ} {n : Nat} {ad sa : Nat → Nat} {z0 : Nat} {h : mH} (fx : FX n ad sa z0 h) {t k p c : Nat} (hk : k < 30) (hp : p ≤ c) (hc : c < 30) (l : Int32) (v : UInt64) (p0 : 1 ≤ p) 
    (C1 : EV (d) 196 [.double v, .double (hD h (ad 42) (p - 1))] h (fun v_ h_ => WR (d) cd_194 67 [some (.ref (ad 30)), some (.int (nI t)), some (.int l), some (.int (nI k)), some (.double v), none, some (.int (nI p))] (v_.toList ++ []) h_ Q)) : WR (d) cd_194 48 [some (.ref (ad 30)), some (.int (nI t)), some (.int l), some (.int (nI k)), some (.double v), none, some (.int (nI p))] [] h Q := by
  have fx0 := fx
  refine r_iload rfl rfl ?_
  refine r_if_le (tg := 92) rfl rfl (fun q => False.elim (by have : (nI p).toInt = ((p : Nat) : Int) := nI_toInt (by omega); have : (0 : Int32).toInt = 0 := rfl; have := i_le q; omega)) (fun _ => ?_)
  refine r_dload rfl rfl ?_
  refine r_aload rfl rfl ?_
  refine r_getA (b := ad 42) rfl ⟨rfl, rfl, rfl⟩ (fx_t30 fx) (fx_r30_16 fx) ?_
  refine r_iload rfl rfl ?_
  refine r_ic (x := 1) rfl rfl ?_
  refine r_isub rfl ?_
  refine WR_tI (y := nI (p - 1)) (Eq.trans (pk_sub (a := p) (b := 1) (by omega)) (congrArg nI (by omega))) ?_
  refine r_daload rfl (fx_t42 fx) (vp_ct (fx_n42 fx) (vp_in_nI (by omega) (by omega))) ?_
  refine WR_tD (congrArg (hD h (ad 42)) ((nI_clamp (by omega)) : _ = p - 1)) ?_
  refine r_cs (y := 196) (ra := [.double (hD h (ad 42) (p - 1)), .double v]) (rest := []) rfl ⟨⟨rfl, rfl⟩, by decide⟩ rfl rfl (Nat.le_of_ble_eq_true rfl) ?_
  exact (C1)

set_option maxHeartbeats 2000000 in
theorem w_mm67 {d : Nat} {Q : mQ} {n : Nat} {ad sa : Nat → Nat} {z0 : Nat} {h : mH} (fx : FX n ad sa z0 h) {t k p c : Nat} (hk : k < 30) (hp : p ≤ c) (hc : c < 30) (l : Int32) (v : UInt64) (p0 : 1 ≤ p) (w : Int32) 
    (K1 : w = 0 → WR (d) cd_194 92 [some (.ref (ad 30)), some (.int (nI t)), some (.int l), some (.int (nI k)), some (.double v), none, some (.int (nI p))] [] h Q)
    (K2 : ¬ w = 0 → WR (d) cd_194 48 [some (.ref (ad 30)), some (.int (nI t)), some (.int l), some (.int (nI k)), some (.double v), none, some (.int (nI (p - 1)))] [] (sD h (ad 42) p (hD h (ad 42) (p - 1))) Q) : WR (d) cd_194 67 [some (.ref (ad 30)), some (.int (nI t)), some (.int l), some (.int (nI k)), some (.double v), none, some (.int (nI p))] [.int w] h Q := by
  have fx0 := fx
  refine r_if_eq (tg := 92) rfl rfl (fun c1 => ?_) (fun c1 => ?_)
  · exact (K1 c1)
  · refine r_aload rfl rfl ?_
    refine r_getA (b := ad 42) rfl ⟨rfl, rfl, rfl⟩ (fx_t30 fx) (fx_r30_16 fx) ?_
    refine r_iload rfl rfl ?_
    refine r_aload rfl rfl ?_
    refine r_getA (b := ad 42) rfl ⟨rfl, rfl, rfl⟩ (fx_t30 fx) (fx_r30_16 fx) ?_
    refine r_iload rfl rfl ?_
    refine r_ic (x := 1) rfl rfl ?_
    refine r_isub rfl ?_
    refine WR_tI (y := nI (p - 1)) (Eq.trans (pk_sub (a := p) (b := 1) (by omega)) (congrArg nI (by omega))) ?_
    refine r_daload rfl (fx_t42 fx) (vp_ct (fx_n42 fx) (vp_in_nI (by omega) (by omega))) ?_
    refine WR_tD (congrArg (hD h (ad 42)) ((nI_clamp (by omega)) : _ = p - 1)) ?_
    refine r_dastore rfl (fx_t42 fx) (vp_ct (fx_n42 fx) (vp_in_nI (by omega) (by omega))) ?_
    refine WR_h (h2 := sD h (ad 42) p (hD h (ad 42) (p - 1))) (congrArg (fun z => sD h (ad 42) z (hD h (ad 42) (p - 1))) ((nI_clamp (by omega)) : _ = p)) ?_
    have fx : FX n ad sa z0 (sD h (ad 42) p (hD h (ad 42) (p - 1))) := (FX.sD fx)
    refine r_iinc (y := nI (p - 1)) (lv' := [some (.ref (ad 30)), some (.int (nI t)), some (.int l), some (.int (nI k)), some (.double v), none, some (.int (nI (p - 1)))]) rfl rfl (nI_dec (by omega)) rfl ?_
    refine r_goto (tg := 48) rfl rfl ?_
    exact (K2 c1)

set_option maxHeartbeats 2000000 in
theorem w_mm92 {d : Nat} {Q : mQ} {n : Nat} {ad sa : Nat → Nat} {z0 : Nat} {h : mH} (fx : FX n ad sa z0 h) {t k p c : Nat} (hk : k < 30) (hp : p ≤ c) (hc : c < 30) (l : Int32) (v : UInt64) (e17 : hI h (ad 30) 17 = nI c) 
    (K1 : WR (d) cd_194 7 [some (.ref (ad 30)), some (.int (nI t)), some (.int l), some (.int (nI (k + 1))), some (.double v), none, some (.int (nI p))] [] (sI (sD h (ad 42) p v) (ad 30) 17 (nI (c + 1))) Q) : WR (d) cd_194 92 [some (.ref (ad 30)), some (.int (nI t)), some (.int l), some (.int (nI k)), some (.double v), none, some (.int (nI p))] [] h Q := by
  have fx0 := fx
  refine r_aload rfl rfl ?_
  refine r_getA (b := ad 42) rfl ⟨rfl, rfl, rfl⟩ (fx_t30 fx) (fx_r30_16 fx) ?_
  refine r_iload rfl rfl ?_
  refine r_dload rfl rfl ?_
  refine r_dastore rfl (fx_t42 fx) (vp_ct (fx_n42 fx) (vp_in_nI (by omega) (by omega))) ?_
  refine WR_h (h2 := sD h (ad 42) p v) (congrArg (fun z => sD h (ad 42) z v) ((nI_clamp (by omega)) : _ = p)) ?_
  have fx : FX n ad sa z0 (sD h (ad 42) p v) := (FX.sD fx)
  refine r_aload rfl rfl ?_
  refine r_dup rfl rfl ?_
  refine r_getI rfl ⟨rfl, rfl, rfl⟩ (fx_t30 fx) ?_
  refine WR_tI (y := nI c) (Eq.trans I_oD e17) ?_
  refine r_ic (x := 1) rfl rfl ?_
  refine r_iadd rfl ?_
  refine WR_tI (y := nI (c + 1)) (Eq.trans (nI_add c 1) (congrArg nI (by omega))) ?_
  refine r_putI rfl ⟨rfl, rfl, rfl⟩ (fx_t30 fx) ?_
  have fx : FX n ad sa z0 (sI (sD h (ad 42) p v) (ad 30) 17 (nI (c + 1))) := (FX.sI fx)
  refine r_iinc (y := nI (k + 1)) (lv' := [some (.ref (ad 30)), some (.int (nI t)), some (.int l), some (.int (nI (k + 1))), some (.double v), none, some (.int (nI p))]) rfl rfl (nI_1 _) rfl ?_
  refine r_goto (tg := 7) rfl rfl ?_
  exact (K1)

set_option maxHeartbeats 2000000 in
theorem w_ib {d : Nat} {Q : mQ} {n : Nat} {ad sa : Nat → Nat} {z0 : Nat} {h : mH} (fx : FX n ad sa z0 h) (x y : UInt64) 
    (L1 : dlt x y → Q (some (.int 1)) h)
    (L2 : ¬ dlt x y → ¬ deq x y → Q (some (.int 0)) h)
    (C1 : ¬ dlt x y → deq x y → EV (d) 197 [.double x] h (fun v_ h_ => WR (d) cd_196 16 [some (.double x), none, some (.double y), none] (v_.toList ++ []) h_ Q)) : EV (d + 1) 196 [.double x, .double y] h Q := by
  have fx0 := fx
  refine in_196 (Nat.le_of_ble_eq_true rfl) ?_
  show WR _ cd_196 0 [some (.double x), none, some (.double y), none] [] h _
  refine r_dload rfl rfl ?_
  refine r_dload rfl rfl ?_
  refine r_dgif_lt (tg := 26) rfl rfl rfl (fun c1 => ?_) (fun c1 => ?_)
  · refine r_ic (x := 1) rfl rfl ?_
    refine r_goto (tg := 31) rfl rfl ?_
    refine r_zret rfl (.inr rfl) ?_
    exact (L1 c1)
  · refine r_dload rfl rfl ?_
    refine r_dload rfl rfl ?_
    refine r_dlif_ne (tg := 30) rfl rfl rfl (fun c2 => ?_) (fun c2 => ?_)
    · refine r_ic (x := 0) rfl rfl ?_
      refine r_zret rfl (.inl rfl) ?_
      exact (L2 c1 c2)
    · refine r_dload rfl rfl ?_
      refine r_cs (y := 197) (ra := [.double x]) (rest := []) rfl ⟨⟨rfl, rfl⟩, by decide⟩ rfl rfl (Nat.le_of_ble_eq_true rfl) ?_
      exact (C1 c1 c2)

set_option maxHeartbeats 2000000 in
theorem w_ib16 {d : Nat} {Q : mQ} {n : Nat} {ad sa : Nat → Nat} {z0 : Nat} {h : mH} (fx : FX n ad sa z0 h) (x y : UInt64) (v : Int32) 
    (L1 : v = 0 → Q (some (.int 0)) h)
    (C1 : ¬ v = 0 → EV (d) 197 [.double y] h (fun v_ h_ => WR (d) cd_196 23 [some (.double x), none, some (.double y), none] (v_.toList ++ []) h_ Q)) : WR (d) cd_196 16 [some (.double x), none, some (.double y), none] [.int v] h Q := by
  have fx0 := fx
  refine r_if_eq (tg := 30) rfl rfl (fun c1 => ?_) (fun c1 => ?_)
  · refine r_ic (x := 0) rfl rfl ?_
    refine r_zret rfl (.inl rfl) ?_
    exact (L1 c1)
  · refine r_dload rfl rfl ?_
    refine r_cs (y := 197) (ra := [.double y]) (rest := []) rfl ⟨⟨rfl, rfl⟩, by decide⟩ rfl rfl (Nat.le_of_ble_eq_true rfl) ?_
    exact (C1 c1)

set_option maxHeartbeats 2000000 in
theorem w_ib23 {d : Nat} {Q : mQ} {n : Nat} {ad sa : Nat → Nat} {z0 : Nat} {h : mH} (fx : FX n ad sa z0 h) (x y : UInt64) (v : Int32) 
    (L1 : ¬ v = 0 → Q (some (.int 0)) h)
    (L2 : v = 0 → Q (some (.int 1)) h) : WR (d) cd_196 23 [some (.double x), none, some (.double y), none] [.int v] h Q := by
  have fx0 := fx
  refine r_if_ne (tg := 30) rfl rfl (fun c1 => ?_) (fun c1 => ?_)
  · refine r_ic (x := 0) rfl rfl ?_
    refine r_zret rfl (.inl rfl) ?_
    exact (L1 c1)
  · refine r_ic (x := 1) rfl rfl ?_
    refine r_goto (tg := 31) rfl rfl ?_
    refine r_zret rfl (.inr rfl) ?_
    exact (L2 c1)

set_option maxHeartbeats 2000000 in
theorem w_im {d : Nat} {Q : mQ} {n : Nat} {ad sa : Nat → Nat} {z0 : Nat} {h : mH} (fx : FX n ad sa z0 h) (x : UInt64) 
    (L1 : dlt x 0 → Q (some (.int 1)) h)
    (L2 : ¬ dlt x 0 → ¬ deq x 0 → Q (some (.int 0)) h)
    (B1 : ¬ dlt x 0 → deq x 0 → vf_n64 (FP.ddiv 4607182418800017408 x))
    (L3 : ¬ dlt x 0 → deq x 0 → ¬ dlt (FP.ddiv 4607182418800017408 x) 0 → Q (some (.int 0)) h)
    (L4 : ¬ dlt x 0 → deq x 0 → dlt (FP.ddiv 4607182418800017408 x) 0 → Q (some (.int 1)) h) : EV (d + 1) 197 [.double x] h Q := by
  have fx0 := fx
  refine in_197 (Nat.le_of_ble_eq_true rfl) ?_
  show WR _ cd_197 0 [some (.double x), none] [] h _
  refine r_dload rfl rfl ?_
  refine r_dc (x := 0) rfl rfl ?_
  refine r_dgif_lt (tg := 20) rfl rfl rfl (fun c1 => ?_) (fun c1 => ?_)
  · refine r_ic (x := 1) rfl rfl ?_
    refine r_goto (tg := 25) rfl rfl ?_
    refine r_zret rfl (.inr rfl) ?_
    exact (L1 c1)
  · refine r_dload rfl rfl ?_
    refine r_dc (x := 0) rfl rfl ?_
    refine r_dlif_ne (tg := 24) rfl rfl rfl (fun c2 => ?_) (fun c2 => ?_)
    · refine r_ic (x := 0) rfl rfl ?_
      refine r_zret rfl (.inl rfl) ?_
      exact (L2 c1 c2)
    · refine r_dc (x := 4607182418800017408) rfl rfl ?_
      refine r_dload rfl rfl ?_
      refine r_ddiv rfl (B1 c1 c2) ?_
      refine r_dc (x := 0) rfl rfl ?_
      refine r_dgif_ge (tg := 24) rfl rfl rfl (fun c3 => ?_) (fun c3 => ?_)
      · refine r_ic (x := 0) rfl rfl ?_
        refine r_zret rfl (.inl rfl) ?_
        exact (L3 c1 c2 c3)
      · refine r_ic (x := 1) rfl rfl ?_
        refine r_goto (tg := 25) rfl rfl ?_
        refine r_zret rfl (.inr rfl) ?_
        exact (L4 c1 c2 c3)

set_option maxHeartbeats 2000000 in
theorem w_il0 {d : Nat} {Q : mQ} {n : Nat} {ad sa : Nat → Nat} {z0 : Nat} {h : mH} (fx : FX n ad sa z0 h) {a k i L : Nat} (ta : hT h a = 21) (nA : hN h a = L) (l1 : L ≤ 100) (hk : k ≤ L) 
    (K1 : WR (d) cd_84 5 [some (.ref a), some (.int (nI k)), some (.double 0), none, some (.int 0), none, none] [] h Q) : EV (d + 1) 84 [.ref a, .int (nI k)] h Q := by
  have fx0 := fx
  refine in_84 (Nat.le_of_ble_eq_true rfl) ?_
  show WR _ cd_84 0 [some (.ref a), some (.int (nI k)), none, none, none, none, none] [] h _
  refine r_dc (x := 0) rfl rfl ?_
  refine r_dstore (lv' := [some (.ref a), some (.int (nI k)), some (.double 0), none, none, none, none]) rfl (Nat.le_of_ble_eq_true rfl) rfl ?_
  refine r_ic (x := 0) rfl rfl ?_
  refine r_istore (lv' := [some (.ref a), some (.int (nI k)), some (.double 0), none, some (.int 0), none, none]) rfl (Nat.le_of_ble_eq_true rfl) rfl ?_
  exact (K1)

set_option maxHeartbeats 2000000 in
theorem w_su0 {d : Nat} {Q : mQ} {n : Nat} {ad sa : Nat → Nat} {z0 : Nat} {h : mH} (fx : FX n ad sa z0 h) {a k i L : Nat} (ta : hT h a = 21) (nA : hN h a = L) (l1 : L ≤ 100) (hk : k ≤ L) 
    (K1 : WR (d) cd_87 5 [some (.ref a), some (.int (nI k)), some (.double 0), none, some (.int 0)] [] h Q) : EV (d + 1) 87 [.ref a, .int (nI k)] h Q := by
  have fx0 := fx
  refine in_87 (Nat.le_of_ble_eq_true rfl) ?_
  show WR _ cd_87 0 [some (.ref a), some (.int (nI k)), none, none, none] [] h _
  refine r_dc (x := 0) rfl rfl ?_
  refine r_dstore (lv' := [some (.ref a), some (.int (nI k)), some (.double 0), none, none]) rfl (Nat.le_of_ble_eq_true rfl) rfl ?_
  refine r_ic (x := 0) rfl rfl ?_
  refine r_istore (lv' := [some (.ref a), some (.int (nI k)), some (.double 0), none, some (.int 0)]) rfl (Nat.le_of_ble_eq_true rfl) rfl ?_
  exact (K1)

set_option maxHeartbeats 2000000 in
theorem w_il5e {d : Nat} {Q : mQ} {n : Nat} {ad sa : Nat → Nat} {z0 : Nat} {h : mH} (fx : FX n ad sa z0 h) {a k i L : Nat} (ta : hT h a = 21) (nA : hN h a = L) (l1 : L ≤ 100) (hk : k ≤ L) (hi : i = k) (s : UInt64) (o5 : Option Value) 
    (L1 : Q (some (.int 0)) h) : WR (d) cd_84 5 [some (.ref a), some (.int (nI k)), some (.double s), none, some (.int (nI i)), o5, none] [] h Q := by
  have fx0 := fx
  refine r_iload rfl rfl ?_
  refine r_iload rfl rfl ?_
  refine r_icmp_ge (tg := 55) rfl rfl (fun _ => ?_) (fun q => False.elim (by have : (nI i).toInt = ((i : Nat) : Int) := nI_toInt (by omega); have : (nI k).toInt = ((k : Nat) : Int) := nI_toInt (by omega); have := i_nle q; omega))
  refine r_ic (x := 0) rfl rfl ?_
  refine r_zret rfl (.inl rfl) ?_
  exact (L1)

set_option maxHeartbeats 2000000 in
theorem w_il5 {d : Nat} {Q : mQ} {n : Nat} {ad sa : Nat → Nat} {z0 : Nat} {h : mH} (fx : FX n ad sa z0 h) {a k i L : Nat} (ta : hT h a = 21) (nA : hN h a = L) (l1 : L ≤ 100) (hk : k ≤ L) (hi : i < k) (s : UInt64) (o5 : Option Value) 
    (C1 : EV (d) 85 [.long (hL h a i)] h (fun v_ h_ => WR (d) cd_84 18 [some (.ref a), some (.int (nI k)), some (.double s), none, some (.int (nI i)), o5, none] (v_.toList ++ []) h_ Q)) : WR (d) cd_84 5 [some (.ref a), some (.int (nI k)), some (.double s), none, some (.int (nI i)), o5, none] [] h Q := by
  have fx0 := fx
  refine r_iload rfl rfl ?_
  refine r_iload rfl rfl ?_
  refine r_icmp_ge (tg := 55) rfl rfl (fun q => False.elim (by have : (nI i).toInt = ((i : Nat) : Int) := nI_toInt (by omega); have : (nI k).toInt = ((k : Nat) : Int) := nI_toInt (by omega); have := i_le q; omega)) (fun _ => ?_)
  refine r_aload rfl rfl ?_
  refine r_iload rfl rfl ?_
  refine r_laload rfl ta (vp_ct nA (vp_in_nI (by omega) (by omega))) ?_
  refine WR_tL (congrArg (hL h a) ((nI_clamp (by omega)) : _ = i)) ?_
  refine r_cs (y := 85) (ra := [.long (hL h a i)]) (rest := []) rfl ⟨⟨rfl, rfl⟩, by decide⟩ rfl rfl (Nat.le_of_ble_eq_true rfl) ?_
  exact (C1)

set_option maxHeartbeats 2000000 in
theorem w_il18 {d : Nat} {Q : mQ} {n : Nat} {ad sa : Nat → Nat} {z0 : Nat} {h : mH} (fx : FX n ad sa z0 h) {a k i L : Nat} (ta : hT h a = 21) (nA : hN h a = L) (l1 : L ≤ 100) (hk : k ≤ L) (hi : i < k) (s v : UInt64) (o5 : Option Value) 
    (B1 : ¬ ((hL h a i) &&& 9223372036854775807) = 9218868437227405312 → vf_n64 (FP.dadd s v))
    (K1 : ¬ ((hL h a i) &&& 9223372036854775807) = 9218868437227405312 → WR (d + 1) cd_84 5 [some (.ref a), some (.int (nI k)), some (.double (FP.dadd s v)), none, some (.int (nI (i + 1))), some (.double v), none] [] h Q)
    (B2 : ((hL h a i) &&& 9223372036854775807) = 9218868437227405312 → ¬ deq v (FP.dneg s) → vf_n64 (FP.dadd s v))
    (K2 : ((hL h a i) &&& 9223372036854775807) = 9218868437227405312 → ¬ deq v (FP.dneg s) → WR (d + 1) cd_84 5 [some (.ref a), some (.int (nI k)), some (.double (FP.dadd s v)), none, some (.int (nI (i + 1))), some (.double v), none] [] h Q)
    (L1 : ((hL h a i) &&& 9223372036854775807) = 9218868437227405312 → deq v (FP.dneg s) → Q (some (.int 1)) h) : WR (d + 1) cd_84 18 [some (.ref a), some (.int (nI k)), some (.double s), none, some (.int (nI i)), o5, none] [.double v] h Q := by
  have fx0 := fx
  refine r_dstore (lv' := [some (.ref a), some (.int (nI k)), some (.double s), none, some (.int (nI i)), some (.double v), none]) rfl (Nat.le_of_ble_eq_true rfl) rfl ?_
  refine r_aload rfl rfl ?_
  refine r_iload rfl rfl ?_
  refine r_laload rfl ta (vp_ct nA (vp_in_nI (by omega) (by omega))) ?_
  refine WR_tL (congrArg (hL h a) ((nI_clamp (by omega)) : _ = i)) ?_
  refine r_cs (y := 39) (ra := [.long (hL h a i)]) (rest := []) rfl ⟨⟨rfl, rfl⟩, by decide⟩ rfl rfl (Nat.le_of_ble_eq_true rfl) ?_
  refine in_39 (Nat.le_of_ble_eq_true rfl) ?_
  show WR _ cd_39 0 [some (.long (hL h a i)), none] [] h _
  refine r_lload rfl rfl ?_
  refine r_ldc (x := .long 9223372036854775807) rfl rfl ?_
  refine r_land rfl ?_
  refine r_lret rfl ?_
  show WR _ cd_84 27 [some (.ref a), some (.int (nI k)), some (.double s), none, some (.int (nI i)), some (.double v), none] [.long ((hL h a i) &&& 9223372036854775807)] h _
  refine r_ldc (x := .long 9218868437227405312) rfl rfl ?_
  refine r_lif_ne (tg := 44) rfl rfl rfl (fun c1 => ?_) (fun c1 => ?_)
  · refine r_dload rfl rfl ?_
    refine r_dload rfl rfl ?_
    refine r_dadd rfl (B1 c1) ?_
    refine r_dstore (lv' := [some (.ref a), some (.int (nI k)), some (.double (FP.dadd s v)), none, some (.int (nI i)), some (.double v), none]) rfl (Nat.le_of_ble_eq_true rfl) rfl ?_
    refine r_iinc (y := nI (i + 1)) (lv' := [some (.ref a), some (.int (nI k)), some (.double (FP.dadd s v)), none, some (.int (nI (i + 1))), some (.double v), none]) rfl rfl (nI_1 _) rfl ?_
    refine r_goto (tg := 5) rfl rfl ?_
    exact (K1 c1)
  · refine r_dload rfl rfl ?_
    refine r_dload rfl rfl ?_
    refine r_dneg rfl ?_
    refine r_dlif_ne (tg := 44) rfl rfl rfl (fun c2 => ?_) (fun c2 => ?_)
    · refine r_dload rfl rfl ?_
      refine r_dload rfl rfl ?_
      refine r_dadd rfl (B2 c1 c2) ?_
      refine r_dstore (lv' := [some (.ref a), some (.int (nI k)), some (.double (FP.dadd s v)), none, some (.int (nI i)), some (.double v), none]) rfl (Nat.le_of_ble_eq_true rfl) rfl ?_
      refine r_iinc (y := nI (i + 1)) (lv' := [some (.ref a), some (.int (nI k)), some (.double (FP.dadd s v)), none, some (.int (nI (i + 1))), some (.double v), none]) rfl rfl (nI_1 _) rfl ?_
      refine r_goto (tg := 5) rfl rfl ?_
      exact (K2 c1 c2)
    · refine r_ic (x := 1) rfl rfl ?_
      refine r_zret rfl (.inr rfl) ?_
      exact (L1 c1 c2)

set_option maxHeartbeats 2000000 in
theorem w_su5e {d : Nat} {Q : mQ} {n : Nat} {ad sa : Nat → Nat} {z0 : Nat} {h : mH} (fx : FX n ad sa z0 h) {a k i L : Nat} (ta : hT h a = 21) (nA : hN h a = L) (l1 : L ≤ 100) (hk : k ≤ L) (hi : i = k) (s : UInt64) 
    (L1 : Q (some (.double s)) h) : WR (d) cd_87 5 [some (.ref a), some (.int (nI k)), some (.double s), none, some (.int (nI i))] [] h Q := by
  have fx0 := fx
  refine r_iload rfl rfl ?_
  refine r_iload rfl rfl ?_
  refine r_icmp_ge (tg := 27) rfl rfl (fun _ => ?_) (fun q => False.elim (by have : (nI i).toInt = ((i : Nat) : Int) := nI_toInt (by omega); have : (nI k).toInt = ((k : Nat) : Int) := nI_toInt (by omega); have := i_nle q; omega))
  refine r_dload rfl rfl ?_
  refine r_dret rfl ?_
  exact (L1)

set_option maxHeartbeats 2000000 in
theorem w_su5 {d : Nat} {Q : mQ} {n : Nat} {ad sa : Nat → Nat} {z0 : Nat} {h : mH} (fx : FX n ad sa z0 h) {a k i L : Nat} (ta : hT h a = 21) (nA : hN h a = L) (l1 : L ≤ 100) (hk : k ≤ L) (hi : i < k) (s : UInt64) 
    (C1 : EV (d) 85 [.long (hL h a i)] h (fun v_ h_ => WR (d) cd_87 19 [some (.ref a), some (.int (nI k)), some (.double s), none, some (.int (nI i))] (v_.toList ++ [.double s]) h_ Q)) : WR (d) cd_87 5 [some (.ref a), some (.int (nI k)), some (.double s), none, some (.int (nI i))] [] h Q := by
  have fx0 := fx
  refine r_iload rfl rfl ?_
  refine r_iload rfl rfl ?_
  refine r_icmp_ge (tg := 27) rfl rfl (fun q => False.elim (by have : (nI i).toInt = ((i : Nat) : Int) := nI_toInt (by omega); have : (nI k).toInt = ((k : Nat) : Int) := nI_toInt (by omega); have := i_le q; omega)) (fun _ => ?_)
  refine r_dload rfl rfl ?_
  refine r_aload rfl rfl ?_
  refine r_iload rfl rfl ?_
  refine r_laload rfl ta (vp_ct nA (vp_in_nI (by omega) (by omega))) ?_
  refine WR_tL (congrArg (hL h a) ((nI_clamp (by omega)) : _ = i)) ?_
  refine r_cs (y := 85) (ra := [.long (hL h a i)]) (rest := [.double s]) rfl ⟨⟨rfl, rfl⟩, by decide⟩ rfl rfl (Nat.le_of_ble_eq_true rfl) ?_
  exact (C1)

set_option maxHeartbeats 2000000 in
theorem w_su19 {d : Nat} {Q : mQ} {n : Nat} {ad sa : Nat → Nat} {z0 : Nat} {h : mH} (fx : FX n ad sa z0 h) {a k i L : Nat} (ta : hT h a = 21) (nA : hN h a = L) (l1 : L ≤ 100) (hk : k ≤ L) (hi : i < k) (s v : UInt64) 
    (B1 : vf_n64 (FP.dadd s v))
    (K1 : WR (d) cd_87 5 [some (.ref a), some (.int (nI k)), some (.double (FP.dadd s v)), none, some (.int (nI (i + 1)))] [] h Q) : WR (d) cd_87 19 [some (.ref a), some (.int (nI k)), some (.double s), none, some (.int (nI i))] [.double v, .double s] h Q := by
  have fx0 := fx
  refine r_dadd rfl (B1) ?_
  refine r_dstore (lv' := [some (.ref a), some (.int (nI k)), some (.double (FP.dadd s v)), none, some (.int (nI i))]) rfl (Nat.le_of_ble_eq_true rfl) rfl ?_
  refine r_iinc (y := nI (i + 1)) (lv' := [some (.ref a), some (.int (nI k)), some (.double (FP.dadd s v)), none, some (.int (nI (i + 1)))]) rfl rfl (nI_1 _) rfl ?_
  refine r_goto (tg := 5) rfl rfl ?_
  exact (K1)

set_option maxHeartbeats 2000000 in
theorem w_ms0 {d : Nat} {Q : mQ} {n : Nat} {ad sa : Nat → Nat} {z0 : Nat} {h : mH} (fx : FX n ad sa z0 h) {t : Nat} (l : Int32) 
    (K1 : WR (d) cd_200 5 [some (.ref (ad 30)), some (.int (nI t)), some (.int l), some (.double 0), none, some (.int 0), none, none, none] [] h Q) : EV (d + 1) 200 [.ref (ad 30), .int (nI t), .int l] h Q := by
  have fx0 := fx
  refine in_200 (Nat.le_of_ble_eq_true rfl) ?_
  show WR _ cd_200 0 [some (.ref (ad 30)), some (.int (nI t)), some (.int l), none, none, none, none, none, none] [] h _
  refine r_dc (x := 0) rfl rfl ?_
  refine r_dstore (lv' := [some (.ref (ad 30)), some (.int (nI t)), some (.int l), some (.double 0), none, none, none, none, none]) rfl (Nat.le_of_ble_eq_true rfl) rfl ?_
  refine r_ic (x := 0) rfl rfl ?_
  refine r_istore (lv' := [some (.ref (ad 30)), some (.int (nI t)), some (.int l), some (.double 0), none, some (.int 0), none, none, none]) rfl (Nat.le_of_ble_eq_true rfl) rfl ?_
  exact (K1)

set_option maxHeartbeats 2000000 in
theorem w_ms5e {d : Nat} {Q : mQ} {n : Nat} {ad sa : Nat → Nat} {z0 : Nat} {h : mH} (fx : FX n ad sa z0 h) {t k sz : Nat} (ht : t < 250) (s3 : sz ≤ 30) (z1 : hI h (ad 35) t = nI sz) (l : Int32) (s : UInt64) (o6 o8 : Option Value) (hk : k = sz) 
    (L1 : Q (some (.double s)) h) : WR (d) cd_200 5 [some (.ref (ad 30)), some (.int (nI t)), some (.int l), some (.double s), none, some (.int (nI k)), o6, none, o8] [] h Q := by
  have fx0 := fx
  refine r_iload rfl rfl ?_
  refine r_aload rfl rfl ?_
  refine r_getA (b := ad 35) rfl ⟨rfl, rfl, rfl⟩ (fx_t30 fx) (fx_r30_4 fx) ?_
  refine r_iload rfl rfl ?_
  refine r_iaload rfl (.inl (fx_t35 fx)) (vp_ct (fx_n35 fx) (vp_in_nI (by omega) (by omega))) ?_
  refine WR_tI (congrArg (hI h (ad 35)) ((nI_clamp (by omega)) : _ = t)) ?_
  refine WR_tI (y := nI sz) z1 ?_
  refine r_icmp_ge (tg := 115) rfl rfl (fun _ => ?_) (fun q => False.elim (by have : (nI k).toInt = ((k : Nat) : Int) := nI_toInt (by omega); have : (nI sz).toInt = ((sz : Nat) : Int) := nI_toInt (by omega); have := i_nle q; omega))
  refine r_dload rfl rfl ?_
  refine r_dret rfl ?_
  exact (L1)

set_option maxHeartbeats 2000000 in
theorem w_ms5 {d : Nat} {Q : mQ} {n : Nat} {ad sa : Nat → Nat} {z0 : Nat} {h : mH} (fx : FX n ad sa z0 h) {t k sz : Nat} (ht : t < 250) (s3 : sz ≤ 30) (z1 : hI h (ad 35) t = nI sz) (l : Int32) (s : UInt64) (o6 o8 : Option Value) (hk : k < sz) 
    (C1 : EV (d) 195 [.int l, .long (hL h (ad 36) (30 * t + k))] h (fun v_ h_ => WR (d) cd_200 32 [some (.ref (ad 30)), some (.int (nI t)), some (.int l), some (.double s), none, some (.int (nI k)), o6, none, o8] (v_.toList ++ []) h_ Q)) : WR (d) cd_200 5 [some (.ref (ad 30)), some (.int (nI t)), some (.int l), some (.double s), none, some (.int (nI k)), o6, none, o8] [] h Q := by
  have fx0 := fx
  refine r_iload rfl rfl ?_
  refine r_aload rfl rfl ?_
  refine r_getA (b := ad 35) rfl ⟨rfl, rfl, rfl⟩ (fx_t30 fx) (fx_r30_4 fx) ?_
  refine r_iload rfl rfl ?_
  refine r_iaload rfl (.inl (fx_t35 fx)) (vp_ct (fx_n35 fx) (vp_in_nI (by omega) (by omega))) ?_
  refine WR_tI (congrArg (hI h (ad 35)) ((nI_clamp (by omega)) : _ = t)) ?_
  refine WR_tI (y := nI sz) z1 ?_
  refine r_icmp_ge (tg := 115) rfl rfl (fun q => False.elim (by have : (nI k).toInt = ((k : Nat) : Int) := nI_toInt (by omega); have : (nI sz).toInt = ((sz : Nat) : Int) := nI_toInt (by omega); have := i_le q; omega)) (fun _ => ?_)
  refine r_iload rfl rfl ?_
  refine r_aload rfl rfl ?_
  refine r_getA (b := ad 36) rfl ⟨rfl, rfl, rfl⟩ (fx_t30 fx) (fx_r30_5 fx) ?_
  refine r_ic (x := 30) rfl rfl ?_
  refine r_iload rfl rfl ?_
  refine r_imul rfl ?_
  refine WR_tI (y := nI (30 * t)) (Eq.trans (pk_mul 30 t) (congrArg nI (by omega))) ?_
  refine r_iload rfl rfl ?_
  refine r_iadd rfl ?_
  refine WR_tI (y := nI (30 * t + k)) (Eq.trans (nI_add (30 * t) k) (congrArg nI (by omega))) ?_
  refine r_laload rfl (fx_t36 fx) (vp_ct (fx_n36 fx) (vp_in_nI (by omega) (by omega))) ?_
  refine WR_tL (congrArg (hL h (ad 36)) ((nI_clamp (by omega)) : _ = 30 * t + k)) ?_
  refine r_cs (y := 195) (ra := [.long (hL h (ad 36) (30 * t + k)), .int l]) (rest := []) rfl ⟨⟨rfl, rfl⟩, by decide⟩ rfl rfl (Nat.le_of_ble_eq_true rfl) ?_
  exact (C1)

set_option maxHeartbeats 2000000 in
theorem w_ms32 {d : Nat} {Q : mQ} {n : Nat} {ad sa : Nat → Nat} {z0 : Nat} {h : mH} (fx : FX n ad sa z0 h) {t k : Nat} (hk : k < 30) (l : Int32) (s v : UInt64) (o6 o8 : Option Value) 
    (K1 : ¬ dgt v 9218868437227405311 → ¬ dlt v 18442240474082181119 → WR (d) cd_200 75 [some (.ref (ad 30)), some (.int (nI t)), some (.int l), some (.double s), none, some (.int (nI k)), some (.double v), none, some (.int 0)] [] h Q)
    (K2 : ¬ dgt v 9218868437227405311 → dlt v 18442240474082181119 → ¬ dgt s 9218868437227405311 → WR (d) cd_200 75 [some (.ref (ad 30)), some (.int (nI t)), some (.int l), some (.double s), none, some (.int (nI k)), some (.double v), none, some (.int 0)] [] h Q)
    (K3 : ¬ dgt v 9218868437227405311 → dlt v 18442240474082181119 → dgt s 9218868437227405311 → WR (d) cd_200 75 [some (.ref (ad 30)), some (.int (nI t)), some (.int l), some (.double s), none, some (.int (nI k)), some (.double v), none, some (.int 1)] [] h Q)
    (K4 : dgt v 9218868437227405311 → dlt s 18442240474082181119 → WR (d) cd_200 75 [some (.ref (ad 30)), some (.int (nI t)), some (.int l), some (.double s), none, some (.int (nI k)), some (.double v), none, some (.int 1)] [] h Q)
    (K5 : dgt v 9218868437227405311 → ¬ dlt s 18442240474082181119 → ¬ dlt v 18442240474082181119 → WR (d) cd_200 75 [some (.ref (ad 30)), some (.int (nI t)), some (.int l), some (.double s), none, some (.int (nI k)), some (.double v), none, some (.int 0)] [] h Q)
    (K6 : dgt v 9218868437227405311 → ¬ dlt s 18442240474082181119 → dlt v 18442240474082181119 → ¬ dgt s 9218868437227405311 → WR (d) cd_200 75 [some (.ref (ad 30)), some (.int (nI t)), some (.int l), some (.double s), none, some (.int (nI k)), some (.double v), none, some (.int 0)] [] h Q)
    (K7 : dgt v 9218868437227405311 → ¬ dlt s 18442240474082181119 → dlt v 18442240474082181119 → dgt s 9218868437227405311 → WR (d) cd_200 75 [some (.ref (ad 30)), some (.int (nI t)), some (.int l), some (.double s), none, some (.int (nI k)), some (.double v), none, some (.int 1)] [] h Q) : WR (d) cd_200 32 [some (.ref (ad 30)), some (.int (nI t)), some (.int l), some (.double s), none, some (.int (nI k)), o6, none, o8] [.double v] h Q := by
  have fx0 := fx
  refine r_dstore (lv' := [some (.ref (ad 30)), some (.int (nI t)), some (.int l), some (.double s), none, some (.int (nI k)), some (.double v), none, o8]) rfl (Nat.le_of_ble_eq_true rfl) rfl ?_
  refine r_dload rfl rfl ?_
  refine r_ldc (x := .double 9218868437227405311) rfl rfl ?_
  refine r_dlif_le (tg := 51) rfl rfl rfl (fun c1 => ?_) (fun c1 => ?_)
  · refine r_dload rfl rfl ?_
    refine r_ldc (x := .double 18442240474082181119) rfl rfl ?_
    refine r_dgif_ge (tg := 72) rfl rfl rfl (fun c2 => ?_) (fun c2 => ?_)
    · refine r_ic (x := 0) rfl rfl ?_
      refine r_istore (lv' := [some (.ref (ad 30)), some (.int (nI t)), some (.int l), some (.double s), none, some (.int (nI k)), some (.double v), none, some (.int 0)]) rfl (Nat.le_of_ble_eq_true rfl) rfl ?_
      exact (K1 c1 c2)
    · refine r_dload rfl rfl ?_
      refine r_ldc (x := .double 9218868437227405311) rfl rfl ?_
      refine r_dlif_le (tg := 72) rfl rfl rfl (fun c3 => ?_) (fun c3 => ?_)
      · refine r_ic (x := 0) rfl rfl ?_
        refine r_istore (lv' := [some (.ref (ad 30)), some (.int (nI t)), some (.int l), some (.double s), none, some (.int (nI k)), some (.double v), none, some (.int 0)]) rfl (Nat.le_of_ble_eq_true rfl) rfl ?_
        exact (K2 c1 c2 c3)
      · refine r_ic (x := 1) rfl rfl ?_
        refine r_goto (tg := 73) rfl rfl ?_
        refine r_istore (lv' := [some (.ref (ad 30)), some (.int (nI t)), some (.int l), some (.double s), none, some (.int (nI k)), some (.double v), none, some (.int 1)]) rfl (Nat.le_of_ble_eq_true rfl) rfl ?_
        exact (K3 c1 c2 c3)
  · refine r_dload rfl rfl ?_
    refine r_ldc (x := .double 18442240474082181119) rfl rfl ?_
    refine r_dgif_lt (tg := 68) rfl rfl rfl (fun c4 => ?_) (fun c4 => ?_)
    · refine r_ic (x := 1) rfl rfl ?_
      refine r_goto (tg := 73) rfl rfl ?_
      refine r_istore (lv' := [some (.ref (ad 30)), some (.int (nI t)), some (.int l), some (.double s), none, some (.int (nI k)), some (.double v), none, some (.int 1)]) rfl (Nat.le_of_ble_eq_true rfl) rfl ?_
      exact (K4 c1 c4)
    · refine r_dload rfl rfl ?_
      refine r_ldc (x := .double 18442240474082181119) rfl rfl ?_
      refine r_dgif_ge (tg := 72) rfl rfl rfl (fun c5 => ?_) (fun c5 => ?_)
      · refine r_ic (x := 0) rfl rfl ?_
        refine r_istore (lv' := [some (.ref (ad 30)), some (.int (nI t)), some (.int l), some (.double s), none, some (.int (nI k)), some (.double v), none, some (.int 0)]) rfl (Nat.le_of_ble_eq_true rfl) rfl ?_
        exact (K5 c1 c4 c5)
      · refine r_dload rfl rfl ?_
        refine r_ldc (x := .double 9218868437227405311) rfl rfl ?_
        refine r_dlif_le (tg := 72) rfl rfl rfl (fun c6 => ?_) (fun c6 => ?_)
        · refine r_ic (x := 0) rfl rfl ?_
          refine r_istore (lv' := [some (.ref (ad 30)), some (.int (nI t)), some (.int l), some (.double s), none, some (.int (nI k)), some (.double v), none, some (.int 0)]) rfl (Nat.le_of_ble_eq_true rfl) rfl ?_
          exact (K6 c1 c4 c5 c6)
        · refine r_ic (x := 1) rfl rfl ?_
          refine r_goto (tg := 73) rfl rfl ?_
          refine r_istore (lv' := [some (.ref (ad 30)), some (.int (nI t)), some (.int l), some (.double s), none, some (.int (nI k)), some (.double v), none, some (.int 1)]) rfl (Nat.le_of_ble_eq_true rfl) rfl ?_
          exact (K7 c1 c4 c5 c6)

set_option maxHeartbeats 2000000 in
theorem w_ms75 {d : Nat} {Q : mQ} {n : Nat} {ad sa : Nat → Nat} {z0 : Nat} {h : mH} (fx : FX n ad sa z0 h) {t k : Nat} (hk : k < 30) (l w : Int32) (s v : UInt64) 
    (K1 : ¬ deq v v → WR (d) cd_200 5 [some (.ref (ad 30)), some (.int (nI t)), some (.int l), some (.double s), none, some (.int (nI (k + 1))), some (.double v), none, some (.int w)] [] h Q)
    (B1 : deq v v → deq s s → w = 0 → vf_n64 (FP.dadd s v))
    (K2 : deq v v → deq s s → w = 0 → WR (d) cd_200 5 [some (.ref (ad 30)), some (.int (nI t)), some (.int l), some (.double (FP.dadd s v)), none, some (.int (nI (k + 1))), some (.double v), none, some (.int w)] [] h Q)
    (K3 : deq v v → deq s s → ¬ w = 0 → WR (d) cd_200 5 [some (.ref (ad 30)), some (.int (nI t)), some (.int l), some (.double 9221120237041090560), none, some (.int (nI (k + 1))), some (.double v), none, some (.int w)] [] h Q)
    (K4 : deq v v → ¬ deq s s → WR (d) cd_200 5 [some (.ref (ad 30)), some (.int (nI t)), some (.int l), some (.double s), none, some (.int (nI (k + 1))), some (.double v), none, some (.int w)] [] h Q) : WR (d) cd_200 75 [some (.ref (ad 30)), some (.int (nI t)), some (.int l), some (.double s), none, some (.int (nI k)), some (.double v), none, some (.int w)] [] h Q := by
  have fx0 := fx
  refine r_dload rfl rfl ?_
  refine r_dload rfl rfl ?_
  refine r_dlif_ne (tg := 89) rfl rfl rfl (fun c1 => ?_) (fun c1 => ?_)
  · refine r_dload rfl rfl ?_
    refine r_goto (tg := 108) rfl rfl ?_
    refine r_dstore (lv' := [some (.ref (ad 30)), some (.int (nI t)), some (.int l), some (.double s), none, some (.int (nI k)), some (.double v), none, some (.int w)]) rfl (Nat.le_of_ble_eq_true rfl) rfl ?_
    refine r_iinc (y := nI (k + 1)) (lv' := [some (.ref (ad 30)), some (.int (nI t)), some (.int l), some (.double s), none, some (.int (nI (k + 1))), some (.double v), none, some (.int w)]) rfl rfl (nI_1 _) rfl ?_
    refine r_goto (tg := 5) rfl rfl ?_
    exact (K1 c1)
  · refine r_dload rfl rfl ?_
    refine r_dload rfl rfl ?_
    refine r_dlif_eq (tg := 93) rfl rfl rfl (fun c2 => ?_) (fun c2 => ?_)
    · refine r_iload rfl rfl ?_
      refine r_if_eq (tg := 104) rfl rfl (fun c3 => ?_) (fun c3 => ?_)
      · refine r_dload rfl rfl ?_
        refine r_dload rfl rfl ?_
        refine r_dadd rfl (B1 c1 c2 c3) ?_
        refine r_dstore (lv' := [some (.ref (ad 30)), some (.int (nI t)), some (.int l), some (.double (FP.dadd s v)), none, some (.int (nI k)), some (.double v), none, some (.int w)]) rfl (Nat.le_of_ble_eq_true rfl) rfl ?_
        refine r_iinc (y := nI (k + 1)) (lv' := [some (.ref (ad 30)), some (.int (nI t)), some (.int l), some (.double (FP.dadd s v)), none, some (.int (nI (k + 1))), some (.double v), none, some (.int w)]) rfl rfl (nI_1 _) rfl ?_
        refine r_goto (tg := 5) rfl rfl ?_
        exact (K2 c1 c2 c3)
      · refine r_ldc (x := .double 9221120237041090560) rfl rfl ?_
        refine r_goto (tg := 108) rfl rfl ?_
        refine r_dstore (lv' := [some (.ref (ad 30)), some (.int (nI t)), some (.int l), some (.double 9221120237041090560), none, some (.int (nI k)), some (.double v), none, some (.int w)]) rfl (Nat.le_of_ble_eq_true rfl) rfl ?_
        refine r_iinc (y := nI (k + 1)) (lv' := [some (.ref (ad 30)), some (.int (nI t)), some (.int l), some (.double 9221120237041090560), none, some (.int (nI (k + 1))), some (.double v), none, some (.int w)]) rfl rfl (nI_1 _) rfl ?_
        refine r_goto (tg := 5) rfl rfl ?_
        exact (K3 c1 c2 c3)
    · refine r_dload rfl rfl ?_
      refine r_goto (tg := 108) rfl rfl ?_
      refine r_dstore (lv' := [some (.ref (ad 30)), some (.int (nI t)), some (.int l), some (.double s), none, some (.int (nI k)), some (.double v), none, some (.int w)]) rfl (Nat.le_of_ble_eq_true rfl) rfl ?_
      refine r_iinc (y := nI (k + 1)) (lv' := [some (.ref (ad 30)), some (.int (nI t)), some (.int l), some (.double s), none, some (.int (nI (k + 1))), some (.double v), none, some (.int w)]) rfl rfl (nI_1 _) rfl ?_
      refine r_goto (tg := 5) rfl rfl ?_
      exact (K4 c1 c2)
