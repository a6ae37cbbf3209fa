/-! ===== walks of copyTo and copy; printed ===== -/
set_option maxHeartbeats 1000000 in
theorem w_cpr {d : Nat} {Q : mQ} {n : Nat} {ad sa : Nat → Nat} {z0 : Nat} {h : mH} (fx : FX n ad sa z0 h) {a b : Nat} (ta : hT h a = 5) (tb : hT h b = 5) (ra : hR h a 1 = some (a + 1)) (rb : hR h b 1 = some (b + 1)) (tA : hT h (a + 1) = 21) (tB : hT h (b + 1) = 21) (i j m : Int32) 
    (B1 : ¬ i < 0 ∧ ¬ j < 0 ∧ ¬ m < 0 ∧ i.toNatClampNeg + m.toNatClampNeg ≤ hN h (a + 1) ∧ j.toNatClampNeg + m.toNatClampNeg ≤ hN h (b + 1))
    (L1 : Q (some (.int 0)) (cpL h (a + 1) i.toNatClampNeg (b + 1) j.toNatClampNeg m.toNatClampNeg)) : EV (d + 1) 56 [.ref a, .ref b, .int i, .int j, .int m] h Q := by
  refine in_56 (Nat.le_of_ble_eq_true rfl) ?_
  show WR _ cd_56 0 [some (.ref a), some (.ref b), some (.int i), some (.int j), some (.int m), none] [] h _
  refine r_aload rfl rfl ?_
  refine r_instY rfl (by decide) tb ?_
  refine r_if_eq (tg := 16) rfl rfl (fun q => absurd q (by decide)) (fun _ => ?_)
  refine r_aload rfl rfl ?_
  refine r_cast rfl tb ?_
  refine r_astore (lv' := [some (.ref a), some (.ref b), some (.int i), some (.int j), some (.int m), some (.ref b)]) rfl (Nat.le_of_ble_eq_true rfl) rfl ?_
  refine r_goto (tg := 19) rfl rfl ?_
  refine r_aload rfl rfl ?_
  refine r_getA (b := a + 1) rfl ⟨rfl, rfl, rfl⟩ ta ra ?_
  refine r_iload rfl rfl ?_
  refine r_aload rfl rfl ?_
  refine r_getA (b := b + 1) rfl ⟨rfl, rfl, rfl⟩ tb rb ?_
  refine r_iload rfl rfl ?_
  refine r_iload rfl rfl ?_
  refine r_acpL rfl ⟨(B1).1, (B1).2.1, (B1).2.2.1, (B1).2.2.2.1, (B1).2.2.2.2, (Nat.le_of_ble_eq_true rfl), (Eq.trans tA (Eq.symm tB))⟩ tB ?_
  refine r_ic (x := 0) rfl rfl ?_
  refine r_iret rfl ?_
  exact L1

set_option maxHeartbeats 1000000 in
theorem w_cps {d : Nat} {Q : mQ} {n : Nat} {ad sa : Nat → Nat} {z0 : Nat} {h : mH} (fx : FX n ad sa z0 h) {a b : Nat} (ta : hT h a = 6) (tb : hT h b = 6) (ra : hR h a 1 = some (a + 1)) (rb : hR h b 1 = some (b + 1)) (tA : hT h (a + 1) = 24) (tB : hT h (b + 1) = 24) (i j m : Int32) 
    (B1 : b = a → ¬ i < 0 ∧ ¬ j < 0 ∧ ¬ m < 0 ∧ i.toNatClampNeg + m.toNatClampNeg ≤ hN h (a + 1) ∧ j.toNatClampNeg + m.toNatClampNeg ≤ hN h (a + 1)) (B2 : b = a → ∀ j, j < m.toNatClampNeg → okR h 24 (hR h (a + 1) (i.toNatClampNeg + j)))
    (K1 : ¬ b = a → WR (d) cd_57 45 [some (.ref a), some (.ref b), some (.int i), some (.int j), some (.int m), some (.ref b), some (.int 0), none] [] h Q) (L1 : b = a → Q (some (.int 0)) (cpR h (a + 1) i.toNatClampNeg (a + 1) j.toNatClampNeg m.toNatClampNeg)) : EV (d + 1) 57 [.ref a, .ref b, .int i, .int j, .int m] h Q := by
  refine in_57 (Nat.le_of_ble_eq_true rfl) ?_
  show WR _ cd_57 0 [some (.ref a), some (.ref b), some (.int i), some (.int j), some (.int m), none, none, none] [] h _
  refine r_aload rfl rfl ?_
  refine r_instY rfl (by decide) tb ?_
  refine r_if_eq (tg := 16) rfl rfl (fun q => absurd q (by decide)) (fun _ => ?_)
  refine r_aload rfl rfl ?_
  refine r_cast rfl tb ?_
  refine r_astore (lv' := [some (.ref a), some (.ref b), some (.int i), some (.int j), some (.int m), some (.ref b), none, none]) rfl (Nat.le_of_ble_eq_true rfl) rfl ?_
  refine r_goto (tg := 19) rfl rfl ?_
  refine r_aload rfl rfl ?_
  refine r_aload rfl rfl ?_
  refine r_acmpA_ne (tg := 42) rfl rfl (fun c1 => ?_) (fun c1 => ?_)
  · refine r_ic (x := 0) rfl rfl ?_
    refine r_istore (lv' := [some (.ref a), some (.ref b), some (.int i), some (.int j), some (.int m), some (.ref b), some (.int 0), none]) rfl (Nat.le_of_ble_eq_true rfl) rfl ?_
    exact K1 c1
  · refine r_aload rfl rfl ?_
    refine r_getA (b := a + 1) rfl ⟨rfl, rfl, rfl⟩ ta ra ?_
    refine r_iload rfl rfl ?_
    refine r_aload rfl rfl ?_
    refine r_getA (b := a + 1) rfl ⟨rfl, rfl, rfl⟩ ta ra ?_
    refine r_iload rfl rfl ?_
    refine r_iload rfl rfl ?_
    refine r_acpR rfl ⟨(B1 c1).1, (B1 c1).2.1, (B1 c1).2.2.1, (B1 c1).2.2.2.1, (B1 c1).2.2.2.2, (Nat.le_of_ble_eq_true rfl), rfl⟩ (isQ_of tA (by decide)) (by rw [tA]; exact (B2 c1)) ?_
    refine r_ic (x := 0) rfl rfl ?_
    refine r_iret rfl ?_
    exact L1 c1

set_option maxHeartbeats 1000000 in
theorem w_cp45 {d : Nat} {Q : mQ} {n : Nat} {ad sa : Nat → Nat} {z0 : Nat} {h : mH} (fx : FX n ad sa z0 h) {a b : Nat} (ta : hT h a = 6) (tb : hT h b = 6) (ra : hR h a 1 = some (a + 1)) (rb : hR h b 1 = some (b + 1)) (tA : hT h (a + 1) = 24) (tB : hT h (b + 1) = 24) (i j m k : Int32) (o7 : Option Value) 
    (B1 : ¬ m ≤ k → vp_in (i + k) (hN h (a + 1)))
    (L1 : m ≤ k → Q (some (.int 0)) h) (C1 : ¬ m ≤ k → hR h (a + 1) (i + k).toNatClampNeg = none → EV (d) 47 [.ref b, .null] h (fun v h2 => WR (d) cd_57 70 [some (.ref a), some (.ref b), some (.int i), some (.int j), some (.int m), some (.ref b), some (.int k), some (.null)] (v.toList ++ []) h2 Q)) (C2 : ¬ m ≤ k → ∀ b2 : Nat, hR h (a + 1) (i + k).toNatClampNeg = some b2 → EV (d) 47 [.ref b, .ref b2] h (fun v h2 => WR (d) cd_57 70 [some (.ref a), some (.ref b), some (.int i), some (.int j), some (.int m), some (.ref b), some (.int k), some (.ref b2)] (v.toList ++ []) h2 Q)) : WR (d + 0) cd_57 45 [some (.ref a), some (.ref b), some (.int i), some (.int j), some (.int m), some (.ref b), some (.int k), o7] [] h Q := by
  refine r_iload rfl rfl ?_
  refine r_iload rfl rfl ?_
  refine r_icmp_ge (tg := 94) rfl rfl (fun c1 => ?_) (fun c1 => ?_)
  · refine r_ic (x := 0) rfl rfl ?_
    refine r_iret rfl ?_
    exact L1 c1
  · refine r_aload rfl rfl ?_
    refine r_getA (b := a + 1) rfl ⟨rfl, rfl, rfl⟩ ta ra ?_
    refine r_iload rfl rfl ?_
    refine r_iload rfl rfl ?_
    refine r_iadd rfl ?_
    refine r_aaloadS rfl (isQ_of tA (by decide)) (B1 c1) (fun c2 => ?_) (fun b2 c2 => ?_)
    · refine r_astore0 (lv' := [some (.ref a), some (.ref b), some (.int i), some (.int j), some (.int m), some (.ref b), some (.int k), some (.null)]) rfl (Nat.le_of_ble_eq_true rfl) rfl ?_
      refine r_aload rfl rfl ?_
      refine r_aload0 rfl rfl ?_
      refine r_cv (y := 47) (ra := [.null]) (rest := []) rfl ⟨⟨rfl, rfl⟩, rfl, by decide⟩ tb rfl rfl (Nat.le_of_ble_eq_true rfl) ?_
      exact C1 c1 c2
    · refine r_astore (lv' := [some (.ref a), some (.ref b), some (.int i), some (.int j), some (.int m), some (.ref b), some (.int k), some (.ref b2)]) rfl (Nat.le_of_ble_eq_true rfl) rfl ?_
      refine r_aload rfl rfl ?_
      refine r_aload rfl rfl ?_
      refine r_cv (y := 47) (ra := [.ref b2]) (rest := []) rfl ⟨⟨rfl, rfl⟩, rfl, by decide⟩ tb rfl rfl (Nat.le_of_ble_eq_true rfl) ?_
      exact C2 c1 b2 c2

set_option maxHeartbeats 1000000 in
theorem w_cp70n {d : Nat} {Q : mQ} {n : Nat} {ad sa : Nat → Nat} {z0 : Nat} {h : mH} (fx : FX n ad sa z0 h) {a b : Nat} (ta : hT h a = 6) (tb : hT h b = 6) (ra : hR h a 1 = some (a + 1)) (rb : hR h b 1 = some (b + 1)) (tA : hT h (a + 1) = 24) (tB : hT h (b + 1) = 24) (i j m k v : Int32) 
    (B1 : ¬ v = 0 → vp_in (j + k) (hN h (b + 1)))
    (K1 : ¬ v = 0 → WR (d) cd_57 45 [some (.ref a), some (.ref b), some (.int i), some (.int j), some (.int m), some (.ref b), some (.int (k + 1)), some (.null)] [] (sR h (b + 1) (j + k).toNatClampNeg (none)) Q) (L1 : v = 0 → Q (some (.int (-15))) h) : WR (d + 0) cd_57 70 [some (.ref a), some (.ref b), some (.int i), some (.int j), some (.int m), some (.ref b), some (.int k), some (.null)] [.int v] h Q := by
  refine r_if_ne (tg := 76) rfl rfl (fun c1 => ?_) (fun c1 => ?_)
  · refine r_aload rfl rfl ?_
    refine r_getA (b := b + 1) rfl ⟨rfl, rfl, rfl⟩ tb rb ?_
    refine r_iload rfl rfl ?_
    refine r_iload rfl rfl ?_
    refine r_iadd rfl ?_
    refine r_aload0 rfl rfl ?_
    refine r_aastore0 rfl (isQ_of tB (by decide)) (B1 c1) (fun _ q => by cases q) ?_
    refine r_iinc (y := k + 1) (lv' := [some (.ref a), some (.ref b), some (.int i), some (.int j), some (.int m), some (.ref b), some (.int (k + 1)), some (.null)]) rfl rfl rfl rfl ?_
    refine r_goto (tg := 45) rfl rfl ?_
    exact K1 c1
  · refine r_ic (x := (-15)) rfl rfl ?_
    refine r_iret rfl ?_
    exact L1 c1

set_option maxHeartbeats 1000000 in
theorem w_cp70a {d : Nat} {Q : mQ} {n : Nat} {ad sa : Nat → Nat} {z0 : Nat} {h : mH} (fx : FX n ad sa z0 h) {a b : Nat} (ta : hT h a = 6) (tb : hT h b = 6) (ra : hR h a 1 = some (a + 1)) (rb : hR h b 1 = some (b + 1)) (tA : hT h (a + 1) = 24) (tB : hT h (b + 1) = 24) (i j m k v : Int32) (x : Nat) 
    (B1 : ¬ v = 0 → vp_in (j + k) (hN h (b + 1))) (B2 : ¬ v = 0 → okE 24 (hT h x))
    (K1 : ¬ v = 0 → WR (d) cd_57 45 [some (.ref a), some (.ref b), some (.int i), some (.int j), some (.int m), some (.ref b), some (.int (k + 1)), some (.ref x)] [] (sR h (b + 1) (j + k).toNatClampNeg (some x)) Q) (L1 : v = 0 → Q (some (.int (-15))) h) : WR (d + 0) cd_57 70 [some (.ref a), some (.ref b), some (.int i), some (.int j), some (.int m), some (.ref b), some (.int k), some (.ref x)] [.int v] h Q := by
  refine r_if_ne (tg := 76) rfl rfl (fun c1 => ?_) (fun c1 => ?_)
  · refine r_aload rfl rfl ?_
    refine r_getA (b := b + 1) rfl ⟨rfl, rfl, rfl⟩ tb rb ?_
    refine r_iload rfl rfl ?_
    refine r_iload rfl rfl ?_
    refine r_iadd rfl ?_
    refine r_aload rfl rfl ?_
    refine r_aastoreA rfl (isQ_of tB (by decide)) (B1 c1) (okR_or tB (B2 c1)) ?_
    refine r_iinc (y := k + 1) (lv' := [some (.ref a), some (.ref b), some (.int i), some (.int j), some (.int m), some (.ref b), some (.int (k + 1)), some (.ref x)]) rfl rfl rfl rfl ?_
    refine r_goto (tg := 45) rfl rfl ?_
    exact K1 c1
  · refine r_ic (x := (-15)) rfl rfl ?_
    refine r_iret rfl ?_
    exact L1 c1

set_option maxHeartbeats 2000000 in
theorem w_cmA {d : Nat} {Q : mQ} {n : Nat} {ad sa : Nat → Nat} {z0 : Nat} {h : mH} (fx : FX n ad sa z0 h) {kc i ke j m t u st su sA sB : Nat} (hc : kc < 24) (he : ke < 24) (ht : t < 250) (hu : u < 250) (hA : i + m ≤ sA) (hB : j + m ≤ sB) (sA3 : sA ≤ 30) (sB3 : sB ≤ 30) (e1 : hI h (ad 31) kc = nI t) (e2 : hI h (ad 31) ke = nI u) (s1 : hI h (ad 33) t = nI st) (s2 : hI h (ad 33) u = nI su) (z1 : hI h (ad 35) t = nI sA) (z2 : hI h (ad 35) u = nI sB) (l1 : st < 10) (l2 : su < 10) (es : st = su) 
    (K1 : WR (d + 1) cd_179 178 [some (.ref (ad 30)), some (.int (nI kc)), some (.int (nI i)), some (.int (nI ke)), some (.int (nI j)), some (.int (nI m)), some (.int (nI t)), some (.int (nI u)), some (.int 0), none, none] [] h Q) : EV (d + 2) 179 [.ref (ad 30), .int (nI kc), .int (nI i), .int (nI ke), .int (nI j), .int (nI m)] h Q := by
  have fx0 := fx
  refine in_179 (Nat.le_of_ble_eq_true rfl) ?_
  show WR _ cd_179 0 [some (.ref (ad 30)), some (.int (nI kc)), some (.int (nI i)), some (.int (nI ke)), some (.int (nI j)), some (.int (nI m)), none, none, none, none, none] [] h _
  refine r_iload rfl rfl ?_
  refine r_cs (y := 153) (ra := [.int (nI kc)]) (rest := []) rfl ⟨⟨rfl, rfl⟩, by decide⟩ rfl rfl (Nat.le_of_ble_eq_true rfl) ?_
  refine in_153 (Nat.le_of_ble_eq_true rfl) ?_
  show WR _ cd_153 0 [some (.int (nI kc))] [] h _
  refine r_iload rfl rfl ?_
  refine r_if_lt (tg := 14) rfl rfl (fun q => False.elim (by have : (nI kc).toInt = ((kc : Nat) : Int) := nI_toInt (by omega); have : (0 : Int32).toInt = 0 := rfl; have := i_lt q; omega)) (fun _ => ?_)
  refine r_iload rfl rfl ?_
  refine r_ic (x := 24) rfl rfl ?_
  refine r_icmp_ge (tg := 14) rfl rfl (fun q => False.elim (by have : (nI kc).toInt = ((kc : Nat) : Int) := nI_toInt (by omega); have : (24 : Int32).toInt = 24 := rfl; have := i_le q; omega)) (fun _ => ?_)
  refine r_ic (x := 1) rfl rfl ?_
  refine r_goto (tg := 15) rfl rfl ?_
  refine r_zret rfl (.inr rfl) ?_
  show WR _ cd_179 4 [some (.ref (ad 30)), some (.int (nI kc)), some (.int (nI i)), some (.int (nI ke)), some (.int (nI j)), some (.int (nI m)), none, none, none, none, none] [.int 1] h _
  refine r_if_eq (tg := 14) rfl rfl (fun q => absurd q (by decide)) (fun _ => ?_)
  refine r_iload rfl rfl ?_
  refine r_cs (y := 153) (ra := [.int (nI ke)]) (rest := []) rfl ⟨⟨rfl, rfl⟩, by decide⟩ rfl rfl (Nat.le_of_ble_eq_true rfl) ?_
  refine in_153 (Nat.le_of_ble_eq_true rfl) ?_
  show WR _ cd_153 0 [some (.int (nI ke))] [] h _
  refine r_iload rfl rfl ?_
  refine r_if_lt (tg := 14) rfl rfl (fun q => False.elim (by have : (nI ke).toInt = ((ke : Nat) : Int) := nI_toInt (by omega); have : (0 : Int32).toInt = 0 := rfl; have := i_lt q; omega)) (fun _ => ?_)
  refine r_iload rfl rfl ?_
  refine r_ic (x := 24) rfl rfl ?_
  refine r_icmp_ge (tg := 14) rfl rfl (fun q => False.elim (by have : (nI ke).toInt = ((ke : Nat) : Int) := nI_toInt (by omega); have : (24 : Int32).toInt = 24 := rfl; have := i_le q; omega)) (fun _ => ?_)
  refine r_ic (x := 1) rfl rfl ?_
  refine r_goto (tg := 15) rfl rfl ?_
  refine r_zret rfl (.inr rfl) ?_
  show WR _ cd_179 11 [some (.ref (ad 30)), some (.int (nI kc)), some (.int (nI i)), some (.int (nI ke)), some (.int (nI j)), some (.int (nI m)), none, none, none, none, none] [.int 1] h _
  refine r_if_ne (tg := 21) rfl rfl (fun _ => ?_) (fun q => absurd q (by decide))
  refine r_aload rfl rfl ?_
  refine r_getA (b := ad 31) rfl ⟨rfl, rfl, rfl⟩ (fx_t30 fx) (fx_r30_0 fx) ?_
  refine r_iload rfl rfl ?_
  refine r_iaload rfl (.inl (fx_t31 fx)) (vp_ct (fx_n31 fx) (vp_in_nI (by omega) (by omega))) ?_
  refine WR_tI (congrArg (hI h (ad 31)) ((nI_clamp (by omega)) : _ = kc)) ?_
  refine WR_tI (y := nI t) e1 ?_
  refine r_istore (lv' := [some (.ref (ad 30)), some (.int (nI kc)), some (.int (nI i)), some (.int (nI ke)), some (.int (nI j)), some (.int (nI m)), some (.int (nI t)), none, none, none, none]) rfl (Nat.le_of_ble_eq_true rfl) rfl ?_
  refine r_aload rfl rfl ?_
  refine r_getA (b := ad 31) rfl ⟨rfl, rfl, rfl⟩ (fx_t30 fx) (fx_r30_0 fx) ?_
  refine r_iload rfl rfl ?_
  refine r_iaload rfl (.inl (fx_t31 fx)) (vp_ct (fx_n31 fx) (vp_in_nI (by omega) (by omega))) ?_
  refine WR_tI (congrArg (hI h (ad 31)) ((nI_clamp (by omega)) : _ = ke)) ?_
  refine WR_tI (y := nI u) e2 ?_
  refine r_istore (lv' := [some (.ref (ad 30)), some (.int (nI kc)), some (.int (nI i)), some (.int (nI ke)), some (.int (nI j)), some (.int (nI m)), some (.int (nI t)), some (.int (nI u)), none, none, none]) rfl (Nat.le_of_ble_eq_true rfl) rfl ?_
  refine r_iload rfl rfl ?_
  refine r_ic (x := (-1)) rfl rfl ?_
  refine r_icmp_eq (tg := 49) rfl rfl (fun q => False.elim (by have : (nI t).toInt = ((t : Nat) : Int) := nI_toInt (by omega); have : (-1 : Int32).toInt = -1 := rfl; have := i_eq q; omega)) (fun _ => ?_)
  refine r_iload rfl rfl ?_
  refine r_ic (x := (-1)) rfl rfl ?_
  refine r_icmp_ne (tg := 55) rfl rfl (fun _ => ?_) (fun q => False.elim (by have : (nI u).toInt = ((u : Nat) : Int) := nI_toInt (by omega); have : (-1 : Int32).toInt = -1 := rfl; have := i_eq q; omega))
  refine r_iload rfl rfl ?_
  refine r_ic (x := 1000) rfl rfl ?_
  refine r_icmp_ge (tg := 112) rfl rfl (fun q => False.elim (by have : (nI t).toInt = ((t : Nat) : Int) := nI_toInt (by omega); have : (1000 : Int32).toInt = 1000 := rfl; have := i_le q; omega)) (fun _ => ?_)
  refine r_iload rfl rfl ?_
  refine r_ic (x := 1000) rfl rfl ?_
  refine r_icmp_ge (tg := 112) rfl rfl (fun q => False.elim (by have : (nI u).toInt = ((u : Nat) : Int) := nI_toInt (by omega); have : (1000 : Int32).toInt = 1000 := rfl; have := i_le q; omega)) (fun _ => ?_)
  refine r_aload rfl rfl ?_
  refine r_getA (b := ad 33) rfl ⟨rfl, rfl, rfl⟩ (fx_t30 fx) (fx_r30_2 fx) ?_
  refine r_iload rfl rfl ?_
  refine r_iaload rfl (.inl (fx_t33 fx)) (vp_ct (fx_n33 fx) (vp_in_nI (by omega) (by omega))) ?_
  refine WR_tI (congrArg (hI h (ad 33)) ((nI_clamp (by omega)) : _ = t)) ?_
  refine WR_tI (y := nI st) s1 ?_
  refine r_aload rfl rfl ?_
  refine r_getA (b := ad 33) rfl ⟨rfl, rfl, rfl⟩ (fx_t30 fx) (fx_r30_2 fx) ?_
  refine r_iload rfl rfl ?_
  refine r_iaload rfl (.inl (fx_t33 fx)) (vp_ct (fx_n33 fx) (vp_in_nI (by omega) (by omega))) ?_
  refine WR_tI (congrArg (hI h (ad 33)) ((nI_clamp (by omega)) : _ = u)) ?_
  refine WR_tI (y := nI su) s2 ?_
  refine r_icmp_eq (tg := 118) rfl rfl (fun _ => ?_) (fun q => False.elim (by have : (nI st).toInt = ((st : Nat) : Int) := nI_toInt (by omega); have : (nI su).toInt = ((su : Nat) : Int) := nI_toInt (by omega); have := i_neq q; omega))
  refine r_iload rfl rfl ?_
  refine r_if_lt (tg := 169) rfl rfl (fun q => False.elim (by have : (nI i).toInt = ((i : Nat) : Int) := nI_toInt (by omega); have : (0 : Int32).toInt = 0 := rfl; have := i_lt q; omega)) (fun _ => ?_)
  refine r_iload rfl rfl ?_
  refine r_if_lt (tg := 169) rfl rfl (fun q => False.elim (by have : (nI j).toInt = ((j : Nat) : Int) := nI_toInt (by omega); have : (0 : Int32).toInt = 0 := rfl; have := i_lt q; omega)) (fun _ => ?_)
  refine r_iload rfl rfl ?_
  refine r_if_lt (tg := 169) rfl rfl (fun q => False.elim (by have : (nI m).toInt = ((m : Nat) : Int) := nI_toInt (by omega); have : (0 : Int32).toInt = 0 := rfl; have := i_lt q; omega)) (fun _ => ?_)
  refine r_iload rfl rfl ?_
  refine r_i2l rfl ?_
  refine WR_tL (y := lN i) (nI_l (by omega)) ?_
  refine r_iload rfl rfl ?_
  refine r_i2l rfl ?_
  refine WR_tL (y := lN m) (nI_l (by omega)) ?_
  refine r_ladd rfl ?_
  refine WR_tL (y := lN (i + m)) (Eq.trans (lN_add i m) (congrArg lN (by omega))) ?_
  refine r_aload rfl rfl ?_
  refine r_getA (b := ad 35) rfl ⟨rfl, rfl, rfl⟩ (fx_t30 fx) (fx_r30_4 fx) ?_
  refine r_iload rfl rfl ?_
  refine r_iaload rfl (.inl (fx_t35 fx)) (vp_ct (fx_n35 fx) (vp_in_nI (by omega) (by omega))) ?_
  refine WR_tI (congrArg (hI h (ad 35)) ((nI_clamp (by omega)) : _ = t)) ?_
  refine WR_tI (y := nI sA) z1 ?_
  refine r_i2l rfl ?_
  refine WR_tL (y := lN sA) (nI_l (by omega)) ?_
  refine r_lif_gt (tg := 169) rfl rfl rfl (fun q => False.elim (by have : (lN (i + m)).toInt = ((i + m : Nat) : Int) := lN_toInt (by omega); have : (lN sA).toInt = ((sA : Nat) : Int) := lN_toInt (by omega); have := l_lt q; omega)) (fun _ => ?_)
  refine r_iload rfl rfl ?_
  refine r_i2l rfl ?_
  refine WR_tL (y := lN j) (nI_l (by omega)) ?_
  refine r_iload rfl rfl ?_
  refine r_i2l rfl ?_
  refine WR_tL (y := lN m) (nI_l (by omega)) ?_
  refine r_ladd rfl ?_
  refine WR_tL (y := lN (j + m)) (Eq.trans (lN_add j m) (congrArg lN (by omega))) ?_
  refine r_aload rfl rfl ?_
  refine r_getA (b := ad 35) rfl ⟨rfl, rfl, rfl⟩ (fx_t30 fx) (fx_r30_4 fx) ?_
  refine r_iload rfl rfl ?_
  refine r_iaload rfl (.inl (fx_t35 fx)) (vp_ct (fx_n35 fx) (vp_in_nI (by omega) (by omega))) ?_
  refine WR_tI (congrArg (hI h (ad 35)) ((nI_clamp (by omega)) : _ = u)) ?_
  refine WR_tI (y := nI sB) z2 ?_
  refine r_i2l rfl ?_
  refine WR_tL (y := lN sB) (nI_l (by omega)) ?_
  refine r_lif_le (tg := 175) rfl rfl rfl (fun _ => ?_) (fun q => False.elim (by have : (lN (j + m)).toInt = ((j + m : Nat) : Int) := lN_toInt (by omega); have : (lN sB).toInt = ((sB : Nat) : Int) := lN_toInt (by omega); have := l_nle q; omega))
  refine r_ic (x := 0) rfl rfl ?_
  refine r_istore (lv' := [some (.ref (ad 30)), some (.int (nI kc)), some (.int (nI i)), some (.int (nI ke)), some (.int (nI j)), some (.int (nI m)), some (.int (nI t)), some (.int (nI u)), some (.int 0), none, none]) rfl (Nat.le_of_ble_eq_true rfl) rfl ?_
  exact (K1)

set_option maxHeartbeats 2000000 in
theorem w_cmB {d : Nat} {Q : mQ} {n : Nat} {ad sa : Nat → Nat} {z0 : Nat} {h : mH} (fx : FX n ad sa z0 h) {kc i ke j m t u st su sA sB : Nat} (hc : kc < 24) (he : ke < 24) (ht : t < 250) (hu : u < 250) (hA : i + m ≤ sA) (hB : j + m ≤ sB) (sA3 : sA ≤ 30) (sB3 : sB ≤ 30) (e1 : hI h (ad 31) kc = nI t) (e2 : hI h (ad 31) ke = nI u) (s1 : hI h (ad 33) t = nI st) (s2 : hI h (ad 33) u = nI su) (z1 : hI h (ad 35) t = nI sA) (z2 : hI h (ad 35) u = nI sB) (l1 : st < 10) (l2 : su < 10) (es : 8 ≤ st) (es2 : 8 ≤ su) 
    (K1 : (nI st) = (nI su) → WR (d + 1) cd_179 178 [some (.ref (ad 30)), some (.int (nI kc)), some (.int (nI i)), some (.int (nI ke)), some (.int (nI j)), some (.int (nI m)), some (.int (nI t)), some (.int (nI u)), some (.int 0), none, none] [] h Q)
    (K2 : ¬ (nI st) = (nI su) → WR (d + 1) cd_179 178 [some (.ref (ad 30)), some (.int (nI kc)), some (.int (nI i)), some (.int (nI ke)), some (.int (nI j)), some (.int (nI m)), some (.int (nI t)), some (.int (nI u)), some (.int 0), none, none] [] h Q) : EV (d + 2) 179 [.ref (ad 30), .int (nI kc), .int (nI i), .int (nI ke), .int (nI j), .int (nI m)] h Q := by
  have fx0 := fx
  refine in_179 (Nat.le_of_ble_eq_true rfl) ?_
  show WR _ cd_179 0 [some (.ref (ad 30)), some (.int (nI kc)), some (.int (nI i)), some (.int (nI ke)), some (.int (nI j)), some (.int (nI m)), none, none, none, none, none] [] h _
  refine r_iload rfl rfl ?_
  refine r_cs (y := 153) (ra := [.int (nI kc)]) (rest := []) rfl ⟨⟨rfl, rfl⟩, by decide⟩ rfl rfl (Nat.le_of_ble_eq_true rfl) ?_
  refine in_153 (Nat.le_of_ble_eq_true rfl) ?_
  show WR _ cd_153 0 [some (.int (nI kc))] [] h _
  refine r_iload rfl rfl ?_
  refine r_if_lt (tg := 14) rfl rfl (fun q => False.elim (by have : (nI kc).toInt = ((kc : Nat) : Int) := nI_toInt (by omega); have : (0 : Int32).toInt = 0 := rfl; have := i_lt q; omega)) (fun _ => ?_)
  refine r_iload rfl rfl ?_
  refine r_ic (x := 24) rfl rfl ?_
  refine r_icmp_ge (tg := 14) rfl rfl (fun q => False.elim (by have : (nI kc).toInt = ((kc : Nat) : Int) := nI_toInt (by omega); have : (24 : Int32).toInt = 24 := rfl; have := i_le q; omega)) (fun _ => ?_)
  refine r_ic (x := 1) rfl rfl ?_
  refine r_goto (tg := 15) rfl rfl ?_
  refine r_zret rfl (.inr rfl) ?_
  show WR _ cd_179 4 [some (.ref (ad 30)), some (.int (nI kc)), some (.int (nI i)), some (.int (nI ke)), some (.int (nI j)), some (.int (nI m)), none, none, none, none, none] [.int 1] h _
  refine r_if_eq (tg := 14) rfl rfl (fun q => absurd q (by decide)) (fun _ => ?_)
  refine r_iload rfl rfl ?_
  refine r_cs (y := 153) (ra := [.int (nI ke)]) (rest := []) rfl ⟨⟨rfl, rfl⟩, by decide⟩ rfl rfl (Nat.le_of_ble_eq_true rfl) ?_
  refine in_153 (Nat.le_of_ble_eq_true rfl) ?_
  show WR _ cd_153 0 [some (.int (nI ke))] [] h _
  refine r_iload rfl rfl ?_
  refine r_if_lt (tg := 14) rfl rfl (fun q => False.elim (by have : (nI ke).toInt = ((ke : Nat) : Int) := nI_toInt (by omega); have : (0 : Int32).toInt = 0 := rfl; have := i_lt q; omega)) (fun _ => ?_)
  refine r_iload rfl rfl ?_
  refine r_ic (x := 24) rfl rfl ?_
  refine r_icmp_ge (tg := 14) rfl rfl (fun q => False.elim (by have : (nI ke).toInt = ((ke : Nat) : Int) := nI_toInt (by omega); have : (24 : Int32).toInt = 24 := rfl; have := i_le q; omega)) (fun _ => ?_)
  refine r_ic (x := 1) rfl rfl ?_
  refine r_goto (tg := 15) rfl rfl ?_
  refine r_zret rfl (.inr rfl) ?_
  show WR _ cd_179 11 [some (.ref (ad 30)), some (.int (nI kc)), some (.int (nI i)), some (.int (nI ke)), some (.int (nI j)), some (.int (nI m)), none, none, none, none, none] [.int 1] h _
  refine r_if_ne (tg := 21) rfl rfl (fun _ => ?_) (fun q => absurd q (by decide))
  refine r_aload rfl rfl ?_
  refine r_getA (b := ad 31) rfl ⟨rfl, rfl, rfl⟩ (fx_t30 fx) (fx_r30_0 fx) ?_
  refine r_iload rfl rfl ?_
  refine r_iaload rfl (.inl (fx_t31 fx)) (vp_ct (fx_n31 fx) (vp_in_nI (by omega) (by omega))) ?_
  refine WR_tI (congrArg (hI h (ad 31)) ((nI_clamp (by omega)) : _ = kc)) ?_
  refine WR_tI (y := nI t) e1 ?_
  refine r_istore (lv' := [some (.ref (ad 30)), some (.int (nI kc)), some (.int (nI i)), some (.int (nI ke)), some (.int (nI j)), some (.int (nI m)), some (.int (nI t)), none, none, none, none]) rfl (Nat.le_of_ble_eq_true rfl) rfl ?_
  refine r_aload rfl rfl ?_
  refine r_getA (b := ad 31) rfl ⟨rfl, rfl, rfl⟩ (fx_t30 fx) (fx_r30_0 fx) ?_
  refine r_iload rfl rfl ?_
  refine r_iaload rfl (.inl (fx_t31 fx)) (vp_ct (fx_n31 fx) (vp_in_nI (by omega) (by omega))) ?_
  refine WR_tI (congrArg (hI h (ad 31)) ((nI_clamp (by omega)) : _ = ke)) ?_
  refine WR_tI (y := nI u) e2 ?_
  refine r_istore (lv' := [some (.ref (ad 30)), some (.int (nI kc)), some (.int (nI i)), some (.int (nI ke)), some (.int (nI j)), some (.int (nI m)), some (.int (nI t)), some (.int (nI u)), none, none, none]) rfl (Nat.le_of_ble_eq_true rfl) rfl ?_
  refine r_iload rfl rfl ?_
  refine r_ic (x := (-1)) rfl rfl ?_
  refine r_icmp_eq (tg := 49) rfl rfl (fun q => False.elim (by have : (nI t).toInt = ((t : Nat) : Int) := nI_toInt (by omega); have : (-1 : Int32).toInt = -1 := rfl; have := i_eq q; omega)) (fun _ => ?_)
  refine r_iload rfl rfl ?_
  refine r_ic (x := (-1)) rfl rfl ?_
  refine r_icmp_ne (tg := 55) rfl rfl (fun _ => ?_) (fun q => False.elim (by have : (nI u).toInt = ((u : Nat) : Int) := nI_toInt (by omega); have : (-1 : Int32).toInt = -1 := rfl; have := i_eq q; omega))
  refine r_iload rfl rfl ?_
  refine r_ic (x := 1000) rfl rfl ?_
  refine r_icmp_ge (tg := 112) rfl rfl (fun q => False.elim (by have : (nI t).toInt = ((t : Nat) : Int) := nI_toInt (by omega); have : (1000 : Int32).toInt = 1000 := rfl; have := i_le q; omega)) (fun _ => ?_)
  refine r_iload rfl rfl ?_
  refine r_ic (x := 1000) rfl rfl ?_
  refine r_icmp_ge (tg := 112) rfl rfl (fun q => False.elim (by have : (nI u).toInt = ((u : Nat) : Int) := nI_toInt (by omega); have : (1000 : Int32).toInt = 1000 := rfl; have := i_le q; omega)) (fun _ => ?_)
  refine r_aload rfl rfl ?_
  refine r_getA (b := ad 33) rfl ⟨rfl, rfl, rfl⟩ (fx_t30 fx) (fx_r30_2 fx) ?_
  refine r_iload rfl rfl ?_
  refine r_iaload rfl (.inl (fx_t33 fx)) (vp_ct (fx_n33 fx) (vp_in_nI (by omega) (by omega))) ?_
  refine WR_tI (congrArg (hI h (ad 33)) ((nI_clamp (by omega)) : _ = t)) ?_
  refine WR_tI (y := nI st) s1 ?_
  refine r_aload rfl rfl ?_
  refine r_getA (b := ad 33) rfl ⟨rfl, rfl, rfl⟩ (fx_t30 fx) (fx_r30_2 fx) ?_
  refine r_iload rfl rfl ?_
  refine r_iaload rfl (.inl (fx_t33 fx)) (vp_ct (fx_n33 fx) (vp_in_nI (by omega) (by omega))) ?_
  refine WR_tI (congrArg (hI h (ad 33)) ((nI_clamp (by omega)) : _ = u)) ?_
  refine WR_tI (y := nI su) s2 ?_
  refine r_icmp_eq (tg := 118) rfl rfl (fun c1 => ?_) (fun c1 => ?_)
  · refine r_iload rfl rfl ?_
    refine r_if_lt (tg := 169) rfl rfl (fun q => False.elim (by have : (nI i).toInt = ((i : Nat) : Int) := nI_toInt (by omega); have : (0 : Int32).toInt = 0 := rfl; have := i_lt q; omega)) (fun _ => ?_)
    refine r_iload rfl rfl ?_
    refine r_if_lt (tg := 169) rfl rfl (fun q => False.elim (by have : (nI j).toInt = ((j : Nat) : Int) := nI_toInt (by omega); have : (0 : Int32).toInt = 0 := rfl; have := i_lt q; omega)) (fun _ => ?_)
    refine r_iload rfl rfl ?_
    refine r_if_lt (tg := 169) rfl rfl (fun q => False.elim (by have : (nI m).toInt = ((m : Nat) : Int) := nI_toInt (by omega); have : (0 : Int32).toInt = 0 := rfl; have := i_lt q; omega)) (fun _ => ?_)
    refine r_iload rfl rfl ?_
    refine r_i2l rfl ?_
    refine WR_tL (y := lN i) (nI_l (by omega)) ?_
    refine r_iload rfl rfl ?_
    refine r_i2l rfl ?_
    refine WR_tL (y := lN m) (nI_l (by omega)) ?_
    refine r_ladd rfl ?_
    refine WR_tL (y := lN (i + m)) (Eq.trans (lN_add i m) (congrArg lN (by omega))) ?_
    refine r_aload rfl rfl ?_
    refine r_getA (b := ad 35) rfl ⟨rfl, rfl, rfl⟩ (fx_t30 fx) (fx_r30_4 fx) ?_
    refine r_iload rfl rfl ?_
    refine r_iaload rfl (.inl (fx_t35 fx)) (vp_ct (fx_n35 fx) (vp_in_nI (by omega) (by omega))) ?_
    refine WR_tI (congrArg (hI h (ad 35)) ((nI_clamp (by omega)) : _ = t)) ?_
    refine WR_tI (y := nI sA) z1 ?_
    refine r_i2l rfl ?_
    refine WR_tL (y := lN sA) (nI_l (by omega)) ?_
    refine r_lif_gt (tg := 169) rfl rfl rfl (fun q => False.elim (by have : (lN (i + m)).toInt = ((i + m : Nat) : Int) := lN_toInt (by omega); have : (lN sA).toInt = ((sA : Nat) : Int) := lN_toInt (by omega); have := l_lt q; omega)) (fun _ => ?_)
    refine r_iload rfl rfl ?_
    refine r_i2l rfl ?_
    refine WR_tL (y := lN j) (nI_l (by omega)) ?_
    refine r_iload rfl rfl ?_
    refine r_i2l rfl ?_
    refine WR_tL (y := lN m) (nI_l (by omega)) ?_
    refine r_ladd rfl ?_
    refine WR_tL (y := lN (j + m)) (Eq.trans (lN_add j m) (congrArg lN (by omega))) ?_
    refine r_aload rfl rfl ?_
    refine r_getA (b := ad 35) rfl ⟨rfl, rfl, rfl⟩ (fx_t30 fx) (fx_r30_4 fx) ?_
    refine r_iload rfl rfl ?_
    refine r_iaload rfl (.inl (fx_t35 fx)) (vp_ct (fx_n35 fx) (vp_in_nI (by omega) (by omega))) ?_
    refine WR_tI (congrArg (hI h (ad 35)) ((nI_clamp (by omega)) : _ = u)) ?_
    refine WR_tI (y := nI sB) z2 ?_
    refine r_i2l rfl ?_
    refine WR_tL (y := lN sB) (nI_l (by omega)) ?_
    refine r_lif_le (tg := 175) rfl rfl rfl (fun _ => ?_) (fun q => False.elim (by have : (lN (j + m)).toInt = ((j + m : Nat) : Int) := lN_toInt (by omega); have : (lN sB).toInt = ((sB : Nat) : Int) := lN_toInt (by omega); have := l_nle q; omega))
    refine r_ic (x := 0) rfl rfl ?_
    refine r_istore (lv' := [some (.ref (ad 30)), some (.int (nI kc)), some (.int (nI i)), some (.int (nI ke)), some (.int (nI j)), some (.int (nI m)), some (.int (nI t)), some (.int (nI u)), some (.int 0), none, none]) rfl (Nat.le_of_ble_eq_true rfl) rfl ?_
    exact (K1 c1)
  · refine r_aload rfl rfl ?_
    refine r_getA (b := ad 33) rfl ⟨rfl, rfl, rfl⟩ (fx_t30 fx) (fx_r30_2 fx) ?_
    refine r_iload rfl rfl ?_
    refine r_iaload rfl (.inl (fx_t33 fx)) (vp_ct (fx_n33 fx) (vp_in_nI (by omega) (by omega))) ?_
    refine WR_tI (congrArg (hI h (ad 33)) ((nI_clamp (by omega)) : _ = t)) ?_
    refine WR_tI (y := nI st) s1 ?_
    refine r_ic (x := 8) rfl rfl ?_
    refine r_icmp_lt (tg := 112) rfl rfl (fun q => False.elim (by have : (nI st).toInt = ((st : Nat) : Int) := nI_toInt (by omega); have : (8 : Int32).toInt = 8 := rfl; have := i_lt q; omega)) (fun _ => ?_)
    refine r_aload rfl rfl ?_
    refine r_getA (b := ad 33) rfl ⟨rfl, rfl, rfl⟩ (fx_t30 fx) (fx_r30_2 fx) ?_
    refine r_iload rfl rfl ?_
    refine r_iaload rfl (.inl (fx_t33 fx)) (vp_ct (fx_n33 fx) (vp_in_nI (by omega) (by omega))) ?_
    refine WR_tI (congrArg (hI h (ad 33)) ((nI_clamp (by omega)) : _ = u)) ?_
    refine WR_tI (y := nI su) s2 ?_
    refine r_ic (x := 8) rfl rfl ?_
    refine r_icmp_ge (tg := 118) rfl rfl (fun _ => ?_) (fun q => False.elim (by have : (nI su).toInt = ((su : Nat) : Int) := nI_toInt (by omega); have : (8 : Int32).toInt = 8 := rfl; have := i_nle q; omega))
    refine r_iload rfl rfl ?_
    refine r_if_lt (tg := 169) rfl rfl (fun q => False.elim (by have : (nI i).toInt = ((i : Nat) : Int) := nI_toInt (by omega); have : (0 : Int32).toInt = 0 := rfl; have := i_lt q; omega)) (fun _ => ?_)
    refine r_iload rfl rfl ?_
    refine r_if_lt (tg := 169) rfl rfl (fun q => False.elim (by have : (nI j).toInt = ((j : Nat) : Int) := nI_toInt (by omega); have : (0 : Int32).toInt = 0 := rfl; have := i_lt q; omega)) (fun _ => ?_)
    refine r_iload rfl rfl ?_
    refine r_if_lt (tg := 169) rfl rfl (fun q => False.elim (by have : (nI m).toInt = ((m : Nat) : Int) := nI_toInt (by omega); have : (0 : Int32).toInt = 0 := rfl; have := i_lt q; omega)) (fun _ => ?_)
    refine r_iload rfl rfl ?_
    refine r_i2l rfl ?_
    refine WR_tL (y := lN i) (nI_l (by omega)) ?_
    refine r_iload rfl rfl ?_
    refine r_i2l rfl ?_
    refine WR_tL (y := lN m) (nI_l (by omega)) ?_
    refine r_ladd rfl ?_
    refine WR_tL (y := lN (i + m)) (Eq.trans (lN_add i m) (congrArg lN (by omega))) ?_
    refine r_aload rfl rfl ?_
    refine r_getA (b := ad 35) rfl ⟨rfl, rfl, rfl⟩ (fx_t30 fx) (fx_r30_4 fx) ?_
    refine r_iload rfl rfl ?_
    refine r_iaload rfl (.inl (fx_t35 fx)) (vp_ct (fx_n35 fx) (vp_in_nI (by omega) (by omega))) ?_
    refine WR_tI (congrArg (hI h (ad 35)) ((nI_clamp (by omega)) : _ = t)) ?_
    refine WR_tI (y := nI sA) z1 ?_
    refine r_i2l rfl ?_
    refine WR_tL (y := lN sA) (nI_l (by omega)) ?_
    refine r_lif_gt (tg := 169) rfl rfl rfl (fun q => False.elim (by have : (lN (i + m)).toInt = ((i + m : Nat) : Int) := lN_toInt (by omega); have : (lN sA).toInt = ((sA : Nat) : Int) := lN_toInt (by omega); have := l_lt q; omega)) (fun _ => ?_)
    refine r_iload rfl rfl ?_
    refine r_i2l rfl ?_
    refine WR_tL (y := lN j) (nI_l (by omega)) ?_
    refine r_iload rfl rfl ?_
    refine r_i2l rfl ?_
    refine WR_tL (y := lN m) (nI_l (by omega)) ?_
    refine r_ladd rfl ?_
    refine WR_tL (y := lN (j + m)) (Eq.trans (lN_add j m) (congrArg lN (by omega))) ?_
    refine r_aload rfl rfl ?_
    refine r_getA (b := ad 35) rfl ⟨rfl, rfl, rfl⟩ (fx_t30 fx) (fx_r30_4 fx) ?_
    refine r_iload rfl rfl ?_
    refine r_iaload rfl (.inl (fx_t35 fx)) (vp_ct (fx_n35 fx) (vp_in_nI (by omega) (by omega))) ?_
    refine WR_tI (congrArg (hI h (ad 35)) ((nI_clamp (by omega)) : _ = u)) ?_
    refine WR_tI (y := nI sB) z2 ?_
    refine r_i2l rfl ?_
    refine WR_tL (y := lN sB) (nI_l (by omega)) ?_
    refine r_lif_le (tg := 175) rfl rfl rfl (fun _ => ?_) (fun q => False.elim (by have : (lN (j + m)).toInt = ((j + m : Nat) : Int) := lN_toInt (by omega); have : (lN sB).toInt = ((sB : Nat) : Int) := lN_toInt (by omega); have := l_nle q; omega))
    refine r_ic (x := 0) rfl rfl ?_
    refine r_istore (lv' := [some (.ref (ad 30)), some (.int (nI kc)), some (.int (nI i)), some (.int (nI ke)), some (.int (nI j)), some (.int (nI m)), some (.int (nI t)), some (.int (nI u)), some (.int 0), none, none]) rfl (Nat.le_of_ble_eq_true rfl) rfl ?_
    exact (K2 c1)

set_option maxHeartbeats 1000000 in
theorem w_cm178 {d : Nat} {Q : mQ} {n : Nat} {ad sa : Nat → Nat} {z0 : Nat} {h : mH} (fx : FX n ad sa z0 h) (c i e j l t u k : Int32) (o9 o10 : Option Value) 
    (B1 : ¬ l ≤ k → vp_in (((30 * t) + i) + k) 7500) (B2 : ¬ l ≤ k → vp_in k 30)
    (K1 : l ≤ k → WR (d) cd_179 216 [some (.ref (ad 30)), some (.int c), some (.int i), some (.int e), some (.int j), some (.int l), some (.int t), some (.int u), some (.int 0), o9, o10] [] h Q) (K2 : ¬ l ≤ k → WR (d) cd_179 178 [some (.ref (ad 30)), some (.int c), some (.int i), some (.int e), some (.int j), some (.int l), some (.int t), some (.int u), some (.int (k + 1)), o9, o10] [] (sL h (ad 41) k.toNatClampNeg (hL h (ad 36) (((30 * t) + i) + k).toNatClampNeg)) Q) : WR (d + 0) cd_179 178 [some (.ref (ad 30)), some (.int c), some (.int i), some (.int e), some (.int j), some (.int l), some (.int t), some (.int u), some (.int k), o9, o10] [] h Q := by
  refine r_iload rfl rfl ?_
  refine r_iload rfl rfl ?_
  refine r_icmp_ge (tg := 213) rfl rfl (fun c1 => ?_) (fun c1 => ?_)
  · refine r_ic (x := 0) rfl rfl ?_
    refine r_istore (lv' := [some (.ref (ad 30)), some (.int c), some (.int i), some (.int e), some (.int j), some (.int l), some (.int t), some (.int u), some (.int 0), o9, o10]) rfl (Nat.le_of_ble_eq_true rfl) rfl ?_
    exact K1 c1
  · refine r_aload rfl rfl ?_
    refine r_getA (b := ad 41) rfl ⟨rfl, rfl, rfl⟩ (fx_t30 fx) (fx_r30_14 fx) ?_
    refine r_iload rfl rfl ?_
    refine r_aload rfl rfl ?_
    refine r_getA (b := ad 36) rfl ⟨rfl, rfl, rfl⟩ (fx_t30 fx) (fx_r30_5 fx) ?_
    refine r_ic (x := 30) rfl rfl ?_
    refine r_iload rfl rfl ?_
    refine r_imul rfl ?_
    refine r_iload rfl rfl ?_
    refine r_iadd rfl ?_
    refine r_iload rfl rfl ?_
    refine r_iadd rfl ?_
    refine r_laload rfl (fx_t36 fx) (vp_ct (fx_n36 fx) (B1 c1)) ?_
    refine r_lastore rfl (fx_t41 fx) (vp_ct (fx_n41 fx) (B2 c1)) ?_
    refine r_iinc (y := k + 1) (lv' := [some (.ref (ad 30)), some (.int c), some (.int i), some (.int e), some (.int j), some (.int l), some (.int t), some (.int u), some (.int (k + 1)), o9, o10]) rfl rfl rfl rfl ?_
    refine r_goto (tg := 178) rfl rfl ?_
    exact K2 c1

set_option maxHeartbeats 1000000 in
theorem w_cm216 {d : Nat} {Q : mQ} {n : Nat} {ad sa : Nat → Nat} {z0 : Nat} {h : mH} (fx : FX n ad sa z0 h) (c i e j l t u k : Int32) (o9 o10 : Option Value) 
    (B1 : ¬ l ≤ k → vp_in k 30) (B2 : ¬ l ≤ k → vp_in t 250) (B3 : ¬ l ≤ k → ¬ (hI h (ad 33) t.toNatClampNeg) < 8 → ¬ ((hL h (ad 41) k.toNatClampNeg).toInt32) = (-1) → vp_in t 250) (B4 : ¬ l ≤ k → ¬ (hI h (ad 33) t.toNatClampNeg) < 8 → ¬ ((hL h (ad 41) k.toNatClampNeg).toInt32) = (-1) → vp_in u 250) (B5 : ¬ l ≤ k → ¬ (hI h (ad 33) t.toNatClampNeg) < 8 → ¬ ((hL h (ad 41) k.toNatClampNeg).toInt32) = (-1) → (hI h (ad 33) t.toNatClampNeg) = (hI h (ad 33) u.toNatClampNeg) → vp_in t 250) (B6 : ¬ l ≤ k → ¬ (hI h (ad 33) t.toNatClampNeg) < 8 → ¬ ((hL h (ad 41) k.toNatClampNeg).toInt32) = (-1) → (hI h (ad 33) t.toNatClampNeg) = (hI h (ad 33) u.toNatClampNeg) → ¬ (hI h (ad 33) t.toNatClampNeg) = 8 → vp_in u 250)
    (L1 : l ≤ k → (-1) ≤ l → Q (some (.int l)) (sI h (ad 30) 11 0)) (L2 : l ≤ k → ¬ (-1) ≤ l → Q (some (.int l)) (sI h (ad 30) 11 l)) (K1 : ¬ l ≤ k → (hI h (ad 33) t.toNatClampNeg) < 8 → WR (d + 1) cd_179 305 [some (.ref (ad 30)), some (.int c), some (.int i), some (.int e), some (.int j), some (.int l), some (.int t), some (.int u), some (.int k), some (.int ((hL h (ad 41) k.toNatClampNeg).toInt32)), o10] [.int 1] h Q) (K2 : ¬ l ≤ k → ¬ (hI h (ad 33) t.toNatClampNeg) < 8 → ((hL h (ad 41) k.toNatClampNeg).toInt32) = (-1) → WR (d + 1) cd_179 305 [some (.ref (ad 30)), some (.int c), some (.int i), some (.int e), some (.int j), some (.int l), some (.int t), some (.int u), some (.int k), some (.int ((hL h (ad 41) k.toNatClampNeg).toInt32)), o10] [.int 1] h Q) (K3 : ¬ l ≤ k → ¬ (hI h (ad 33) t.toNatClampNeg) < 8 → ¬ ((hL h (ad 41) k.toNatClampNeg).toInt32) = (-1) → ¬ (hI h (ad 33) t.toNatClampNeg) = (hI h (ad 33) u.toNatClampNeg) → WR (d + 1) cd_179 305 [some (.ref (ad 30)), some (.int c), some (.int i), some (.int e), some (.int j), some (.int l), some (.int t), some (.int u), some (.int k), some (.int ((hL h (ad 41) k.toNatClampNeg).toInt32)), o10] [.int 0] h Q) (K4 : ¬ l ≤ k → ¬ (hI h (ad 33) t.toNatClampNeg) < 8 → ¬ ((hL h (ad 41) k.toNatClampNeg).toInt32) = (-1) → (hI h (ad 33) t.toNatClampNeg) = (hI h (ad 33) u.toNatClampNeg) → (hI h (ad 33) t.toNatClampNeg) = 8 → WR (d + 1) cd_179 305 [some (.ref (ad 30)), some (.int c), some (.int i), some (.int e), some (.int j), some (.int l), some (.int t), some (.int u), some (.int k), some (.int ((hL h (ad 41) k.toNatClampNeg).toInt32)), o10] [.int 1] h Q) (C1 : ¬ l ≤ k → ¬ (hI h (ad 33) t.toNatClampNeg) < 8 → ¬ ((hL h (ad 41) k.toNatClampNeg).toInt32) = (-1) → (hI h (ad 33) t.toNatClampNeg) = (hI h (ad 33) u.toNatClampNeg) → ¬ (hI h (ad 33) t.toNatClampNeg) = 8 → EV (d + 1) 177 [.ref (ad 30), .int (((hL h (ad 41) k.toNatClampNeg).toInt32) - 1000), .int (hI h (ad 34) u.toNatClampNeg)] h (fun v h2 => WR (d + 1) cd_179 297 [some (.ref (ad 30)), some (.int c), some (.int i), some (.int e), some (.int j), some (.int l), some (.int t), some (.int u), some (.int k), some (.int ((hL h (ad 41) k.toNatClampNeg).toInt32)), o10] (v.toList ++ []) h2 Q)) : WR (d + 1) cd_179 216 [some (.ref (ad 30)), some (.int c), some (.int i), some (.int e), some (.int j), some (.int l), some (.int t), some (.int u), some (.int k), o9, o10] [] h Q := by
  refine r_iload rfl rfl ?_
  refine r_iload rfl rfl ?_
  refine r_icmp_ge (tg := 347) rfl rfl (fun c1 => ?_) (fun c1 => ?_)
  · refine r_aload rfl rfl ?_
    refine r_iload rfl rfl ?_
    refine r_cv (y := 154) (ra := [.int l]) (rest := []) rfl ⟨⟨rfl, rfl⟩, rfl, by decide⟩ (fx_t30 fx) rfl rfl (Nat.le_of_ble_eq_true rfl) ?_
    refine in_154 (Nat.le_of_ble_eq_true rfl) ?_
    show WR _ cd_154 0 [some (.ref (ad 30)), some (.int l)] [] h _
    refine r_aload rfl rfl ?_
    refine r_iload rfl rfl ?_
    refine r_ic (x := (-1)) rfl rfl ?_
    refine r_icmp_ge (tg := 10) rfl rfl (fun c2 => ?_) (fun c2 => ?_)
    · refine r_ic (x := 0) rfl rfl ?_
      refine r_putI rfl ⟨rfl, rfl, rfl⟩ (fx_t30 fx) ?_
      refine r_iload rfl rfl ?_
      refine r_iret rfl ?_
      show WR _ cd_179 353 [some (.ref (ad 30)), some (.int c), some (.int i), some (.int e), some (.int j), some (.int l), some (.int t), some (.int u), some (.int k), o9, o10] [.int l] (sI h (ad 30) 11 0) _
      refine r_iret rfl ?_
      exact L1 c1 c2
    · refine r_iload rfl rfl ?_
      refine r_goto (tg := 11) rfl rfl ?_
      refine r_putI rfl ⟨rfl, rfl, rfl⟩ (fx_t30 fx) ?_
      refine r_iload rfl rfl ?_
      refine r_iret rfl ?_
      show WR _ cd_179 353 [some (.ref (ad 30)), some (.int c), some (.int i), some (.int e), some (.int j), some (.int l), some (.int t), some (.int u), some (.int k), o9, o10] [.int l] (sI h (ad 30) 11 l) _
      refine r_iret rfl ?_
      exact L2 c1 c2
  · refine r_aload rfl rfl ?_
    refine r_getA (b := ad 41) rfl ⟨rfl, rfl, rfl⟩ (fx_t30 fx) (fx_r30_14 fx) ?_
    refine r_iload rfl rfl ?_
    refine r_laload rfl (fx_t41 fx) (vp_ct (fx_n41 fx) (B1 c1)) ?_
    refine r_l2i rfl ?_
    refine r_istore (lv' := [some (.ref (ad 30)), some (.int c), some (.int i), some (.int e), some (.int j), some (.int l), some (.int t), some (.int u), some (.int k), some (.int ((hL h (ad 41) k.toNatClampNeg).toInt32)), o10]) rfl (Nat.le_of_ble_eq_true rfl) rfl ?_
    refine r_aload rfl rfl ?_
    refine r_getA (b := ad 33) rfl ⟨rfl, rfl, rfl⟩ (fx_t30 fx) (fx_r30_2 fx) ?_
    refine r_iload rfl rfl ?_
    refine r_iaload rfl (.inl (fx_t33 fx)) (vp_ct (fx_n33 fx) (B2 c1)) ?_
    refine r_ic (x := 8) rfl rfl ?_
    refine r_icmp_lt (tg := 300) rfl rfl (fun c3 => ?_) (fun c3 => ?_)
    · refine r_ic (x := 1) rfl rfl ?_
      refine r_goto (tg := 305) rfl rfl ?_
      exact K1 c1 c3
    · refine r_iload rfl rfl ?_
      refine r_ic (x := (-1)) rfl rfl ?_
      refine r_icmp_eq (tg := 300) rfl rfl (fun c4 => ?_) (fun c4 => ?_)
      · refine r_ic (x := 1) rfl rfl ?_
        refine r_goto (tg := 305) rfl rfl ?_
        exact K2 c1 c3 c4
      · refine r_aload rfl rfl ?_
        refine r_getA (b := ad 33) rfl ⟨rfl, rfl, rfl⟩ (fx_t30 fx) (fx_r30_2 fx) ?_
        refine r_iload rfl rfl ?_
        refine r_iaload rfl (.inl (fx_t33 fx)) (vp_ct (fx_n33 fx) (B3 c1 c3 c4)) ?_
        refine r_aload rfl rfl ?_
        refine r_getA (b := ad 33) rfl ⟨rfl, rfl, rfl⟩ (fx_t30 fx) (fx_r30_2 fx) ?_
        refine r_iload rfl rfl ?_
        refine r_iaload rfl (.inl (fx_t33 fx)) (vp_ct (fx_n33 fx) (B4 c1 c3 c4)) ?_
        refine r_icmp_ne (tg := 304) rfl rfl (fun c5 => ?_) (fun c5 => ?_)
        · refine r_ic (x := 0) rfl rfl ?_
          exact K3 c1 c3 c4 c5
        · refine r_aload rfl rfl ?_
          refine r_getA (b := ad 33) rfl ⟨rfl, rfl, rfl⟩ (fx_t30 fx) (fx_r30_2 fx) ?_
          refine r_iload rfl rfl ?_
          refine r_iaload rfl (.inl (fx_t33 fx)) (vp_ct (fx_n33 fx) (B5 c1 c3 c4 c5)) ?_
          refine r_ic (x := 8) rfl rfl ?_
          refine r_icmp_eq (tg := 300) rfl rfl (fun c6 => ?_) (fun c6 => ?_)
          · refine r_ic (x := 1) rfl rfl ?_
            refine r_goto (tg := 305) rfl rfl ?_
            exact K4 c1 c3 c4 c5 c6
          · refine r_aload rfl rfl ?_
            refine r_iload rfl rfl ?_
            refine r_ic (x := 1000) rfl rfl ?_
            refine r_isub rfl ?_
            refine r_aload rfl rfl ?_
            refine r_getA (b := ad 34) rfl ⟨rfl, rfl, rfl⟩ (fx_t30 fx) (fx_r30_3 fx) ?_
            refine r_iload rfl rfl ?_
            refine r_iaload rfl (.inl (fx_t34 fx)) (vp_ct (fx_n34 fx) (B6 c1 c3 c4 c5 c6)) ?_
            refine r_cv (y := 177) (ra := [.int (hI h (ad 34) u.toNatClampNeg), .int (((hL h (ad 41) k.toNatClampNeg).toInt32) - 1000)]) (rest := []) rfl ⟨⟨rfl, rfl⟩, rfl, by decide⟩ (fx_t30 fx) rfl rfl (Nat.le_of_ble_eq_true rfl) ?_
            exact C1 c1 c3 c4 c5 c6

set_option maxHeartbeats 1000000 in
theorem w_cm297 {d : Nat} {Q : mQ} {n : Nat} {ad sa : Nat → Nat} {z0 : Nat} {h : mH} (fx : FX n ad sa z0 h) (c i e j l t u k x v : Int32) (o10 : Option Value) 
    
    (K1 : v = 0 → WR (d) cd_179 305 [some (.ref (ad 30)), some (.int c), some (.int i), some (.int e), some (.int j), some (.int l), some (.int t), some (.int u), some (.int k), some (.int x), o10] [.int 0] h Q) (K2 : ¬ v = 0 → WR (d) cd_179 305 [some (.ref (ad 30)), some (.int c), some (.int i), some (.int e), some (.int j), some (.int l), some (.int t), some (.int u), some (.int k), some (.int x), o10] [.int 1] h Q) : WR (d + 0) cd_179 297 [some (.ref (ad 30)), some (.int c), some (.int i), some (.int e), some (.int j), some (.int l), some (.int t), some (.int u), some (.int k), some (.int x), o10] [.int v] h Q := by
  refine r_if_eq (tg := 304) rfl rfl (fun c1 => ?_) (fun c1 => ?_)
  · refine r_ic (x := 0) rfl rfl ?_
    exact K1 c1
  · refine r_ic (x := 1) rfl rfl ?_
    refine r_goto (tg := 305) rfl rfl ?_
    exact K2 c1

set_option maxHeartbeats 1000000 in
theorem w_cm305 {d : Nat} {Q : mQ} {n : Nat} {ad sa : Nat → Nat} {z0 : Nat} {h : mH} (fx : FX n ad sa z0 h) (c i e j l t u k x v : Int32) (o10 : Option Value) 
    (B1 : ¬ v = 0 → vp_in k 30) (B2 : ¬ v = 0 → vp_in (((30 * u) + j) + k) 7500)
    (K1 : ¬ v = 0 → WR (d + 2) cd_179 216 [some (.ref (ad 30)), some (.int c), some (.int i), some (.int e), some (.int j), some (.int l), some (.int t), some (.int u), some (.int (k + 1)), some (.int x), some (.int v)] [] (sL h (ad 36) (((30 * u) + j) + k).toNatClampNeg (hL h (ad 41) k.toNatClampNeg)) Q) (L1 : v = 0 → Q (some (.int (-15))) (sI h (ad 30) 11 (-15))) : WR (d + 2) cd_179 305 [some (.ref (ad 30)), some (.int c), some (.int i), some (.int e), some (.int j), some (.int l), some (.int t), some (.int u), some (.int k), some (.int x), o10] [.int v] h Q := by
  refine r_istore (lv' := [some (.ref (ad 30)), some (.int c), some (.int i), some (.int e), some (.int j), some (.int l), some (.int t), some (.int u), some (.int k), some (.int x), some (.int v)]) rfl (Nat.le_of_ble_eq_true rfl) rfl ?_
  refine r_iload rfl rfl ?_
  refine r_if_ne (tg := 318) rfl rfl (fun c1 => ?_) (fun c1 => ?_)
  · refine r_aload rfl rfl ?_
    refine r_getA (b := ad 36) rfl ⟨rfl, rfl, rfl⟩ (fx_t30 fx) (fx_r30_5 fx) ?_
    refine r_ic (x := 30) rfl rfl ?_
    refine r_iload rfl rfl ?_
    refine r_imul rfl ?_
    refine r_iload rfl rfl ?_
    refine r_iadd rfl ?_
    refine r_iload rfl rfl ?_
    refine r_iadd rfl ?_
    refine r_aload rfl rfl ?_
    refine r_getA (b := ad 41) rfl ⟨rfl, rfl, rfl⟩ (fx_t30 fx) (fx_r30_14 fx) ?_
    refine r_iload rfl rfl ?_
    refine r_laload rfl (fx_t41 fx) (vp_ct (fx_n41 fx) (B1 c1)) ?_
    refine r_lastore rfl (fx_t36 fx) (vp_ct (fx_n36 fx) (B2 c1)) ?_
    refine r_iinc (y := k + 1) (lv' := [some (.ref (ad 30)), some (.int c), some (.int i), some (.int e), some (.int j), some (.int l), some (.int t), some (.int u), some (.int (k + 1)), some (.int x), some (.int v)]) rfl rfl rfl rfl ?_
    refine r_goto (tg := 216) rfl rfl ?_
    exact K1 c1
  · refine r_aload rfl rfl ?_
    refine r_ic (x := 5) rfl rfl ?_
    refine r_cv (y := 156) (ra := [.int 5]) (rest := []) rfl ⟨⟨rfl, rfl⟩, rfl, by decide⟩ (fx_t30 fx) rfl rfl (Nat.le_of_ble_eq_true rfl) ?_
    refine in_156 (Nat.le_of_ble_eq_true rfl) ?_
    show WR _ cd_156 0 [some (.ref (ad 30)), some (.int 5)] [] h _
    refine r_aload rfl rfl ?_
    refine r_ic (x := (-10)) rfl rfl ?_
    refine r_iload rfl rfl ?_
    refine r_isub rfl ?_
    refine WR_tI (y := (-15)) rfl ?_
    refine r_cv (y := 154) (ra := [.int (-15)]) (rest := []) rfl ⟨⟨rfl, rfl⟩, rfl, by decide⟩ (fx_t30 fx) rfl rfl (Nat.le_of_ble_eq_true rfl) ?_
    refine in_154 (Nat.le_of_ble_eq_true rfl) ?_
    show WR _ cd_154 0 [some (.ref (ad 30)), some (.int (-15))] [] h _
    refine r_aload rfl rfl ?_
    refine r_iload rfl rfl ?_
    refine r_ic (x := (-1)) rfl rfl ?_
    refine r_icmp_ge (tg := 10) rfl rfl (fun q => absurd q (by decide)) (fun _ => ?_)
    refine r_iload rfl rfl ?_
    refine r_goto (tg := 11) rfl rfl ?_
    refine r_putI rfl ⟨rfl, rfl, rfl⟩ (fx_t30 fx) ?_
    refine r_iload rfl rfl ?_
    refine r_iret rfl ?_
    show WR _ cd_156 8 [some (.ref (ad 30)), some (.int 5)] [.int (-15)] (sI h (ad 30) 11 (-15)) _
    refine r_iret rfl ?_
    show WR _ cd_179 317 [some (.ref (ad 30)), some (.int c), some (.int i), some (.int e), some (.int j), some (.int l), some (.int t), some (.int u), some (.int k), some (.int x), some (.int v)] [.int (-15)] (sI h (ad 30) 11 (-15)) _
    refine r_iret rfl ?_
    exact L1 c1
