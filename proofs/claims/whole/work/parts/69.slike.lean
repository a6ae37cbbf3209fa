/-! ===== isLike of a shelf of the class, by contract ===== -/
section SL
variable {d : Nat} {Q : mQ} {h : mH} {a b sA sB : Nat}
theorem sl_40 (ta : hT h a = 6) (tb : hT h b = 6) (ra : hR h a 1 = some (a + 1)) (rb : hR h b 1 = some (b + 1)) (tA : hT h (a + 1) = 24) (tB : hT h (b + 1) = 24) (nA : hN h (a + 1) = sA) (nB : hN h (b + 1) = sA) (hs : sA ≤ 30) (E : Nat → Prop)
    (call : ∀ i, i < sA → ∀ Q' : mQ, (E i → Q' (some (.int 1)) h) → (¬ E i → Q' (some (.int 0)) h) → EV d 63 [va_rf (hR h (a + 1) i), va_rf (hR h (b + 1) i)] h Q')
    (hY : (∀ i, i < sA → E i) → Q (some (.int 1)) h) (hN : ¬ (∀ i, i < sA → E i) → Q (some (.int 0)) h) :
    ∀ m i, i + m = sA → (∀ k, k < i → E k) → WR d cd_62 40 [some (.ref a), some (.ref b), some (.ref b), some (.int (nI i))] [] h Q := by
  intro m
  induction m with
  | zero =>
    intro i hi q
    obtain rfl : i = sA := by omega
    refine r_iload rfl rfl ?_
    refine r_aload rfl rfl ?_
    refine r_getA (b := a + 1) rfl ⟨rfl, rfl, rfl⟩ ta ra ?_
    refine r_alen rfl (isA_of tA (by decide)) ?_
    refine WR_tI (y := nI i) (congrArg nI nA) ?_
    refine r_icmp_ge (tg := 75) rfl rfl (fun _ => ?_) (fun w => absurd (nI_le (Nat.le_refl _) (by omega)) w)
    refine r_ic (x := 1) rfl rfl ?_
    refine r_zret rfl (.inr rfl) ?_
    exact hY q
  | succ m ih =>
    intro i hi q
    have ec : (nI i).toNatClampNeg = i := nI_clamp (by omega)
    refine r_iload rfl rfl ?_
    refine r_aload rfl rfl ?_
    refine r_getA (b := a + 1) rfl ⟨rfl, rfl, rfl⟩ ta ra ?_
    refine r_alen rfl (isA_of tA (by decide)) ?_
    refine WR_tI (y := nI sA) (congrArg nI nA) ?_
    refine r_icmp_ge (tg := 75) rfl rfl (fun w => absurd w (nI_ge (by omega) (by omega))) (fun _ => ?_)
    refine r_aload rfl rfl ?_
    refine r_getA (b := a + 1) rfl ⟨rfl, rfl, rfl⟩ ta ra ?_
    refine r_iload rfl rfl ?_
    refine r_aaload rfl (isQ_of tA (by decide)) (vp_ct nA (vp_in_nI (by omega) (by omega))) ?_
    refine r_aload rfl rfl ?_
    refine r_getA (b := b + 1) rfl ⟨rfl, rfl, rfl⟩ tb rb ?_
    refine r_iload rfl rfl ?_
    refine r_aaload rfl (isQ_of tB (by decide)) (vp_ct nB (vp_in_nI (by omega) (by omega))) ?_
    rw [ec]
    refine r_cs (y := 63) (ra := [va_rf (hR h (b + 1) i), va_rf (hR h (a + 1) i)]) (rest := []) rfl ⟨⟨rfl, rfl⟩, by decide⟩ rfl rfl (Nat.le_of_ble_eq_true rfl) ?_
    refine call i (by omega) _ (fun w => ?_) (fun w => ?_)
    · show WR _ cd_62 64 [some (.ref a), some (.ref b), some (.ref b), some (.int (nI i))] [.int 1] h _
      refine r_if_ne (tg := 69) rfl rfl (fun _ => ?_) (fun q => absurd q (by decide))
      refine r_iinc (y := nI (i + 1)) (lv' := [some (.ref a), some (.ref b), some (.ref b), some (.int (nI (i + 1)))]) rfl rfl (nI_1 _) rfl ?_
      refine r_goto (tg := 40) rfl rfl ?_
      refine ih (i + 1) (by omega) (fun k hk => ?_)
      by_cases e : k = i
      · rw [e]; exact w
      · exact q k (by omega)
    · show WR _ cd_62 64 [some (.ref a), some (.ref b), some (.ref b), some (.int (nI i))] [.int 0] h _
      refine r_if_ne (tg := 69) rfl rfl (fun q => absurd rfl q) (fun _ => ?_)
      refine r_ic (x := 0) rfl rfl ?_
      refine r_zret rfl (.inl rfl) ?_
      exact hN (fun z => w (z i (by omega)))
theorem c_slike (ta : hT h a = 6) (tb : hT h b = 6) (ra : hR h a 1 = some (a + 1)) (rb : hR h b 1 = some (b + 1)) (tA : hT h (a + 1) = 24) (tB : hT h (b + 1) = 24) (nA : hN h (a + 1) = sA) (nB : hN h (b + 1) = sB) (hs : sA ≤ 30) (hs2 : sB ≤ 30) (E : Nat → Prop)
    (call : sB = sA → hI h b 0 = hI h a 0 → ∀ i, i < sA → ∀ Q' : mQ, (E i → Q' (some (.int 1)) h) → (¬ E i → Q' (some (.int 0)) h) → EV d 63 [va_rf (hR h (a + 1) i), va_rf (hR h (b + 1) i)] h Q')
    (hY : hI h b 0 = hI h a 0 → sB = sA → (∀ i, i < sA → E i) → Q (some (.int 1)) h) (hN : ¬ (hI h b 0 = hI h a 0 ∧ sB = sA ∧ ∀ i, i < sA → E i) → Q (some (.int 0)) h) : EV (d + 1) 62 [.ref a, .ref b] h Q := by
  refine in_62 (Nat.le_of_ble_eq_true rfl) ?_
  show WR _ cd_62 0 [some (.ref a), some (.ref b), none, none] [] h _
  refine r_aload rfl rfl ?_
  refine r_instY rfl (by decide) tb ?_
  refine r_if_eq (tg := 36) rfl rfl (fun q => absurd q (by decide)) (fun _ => ?_)
  refine r_aload rfl rfl ?_
  refine r_cast rfl tb ?_
  refine r_astore (lv' := [some (.ref a), some (.ref b), some (.ref b), none]) rfl (Nat.le_of_ble_eq_true rfl) rfl ?_
  refine r_aload rfl rfl ?_
  refine r_getI rfl ⟨rfl, rfl, rfl⟩ tb ?_
  refine r_aload rfl rfl ?_
  refine r_getI rfl ⟨rfl, rfl, rfl⟩ ta ?_
  refine r_icmp_ne (tg := 36) rfl rfl (fun w => ?_) (fun w => ?_)
  · refine r_ic (x := 0) rfl rfl ?_
    refine r_zret rfl (.inl rfl) ?_
    exact hN (fun z => w z.1)
  · have e0 : hI h b 0 = hI h a 0 := w
    refine r_aload rfl rfl ?_
    refine r_getA (b := b + 1) rfl ⟨rfl, rfl, rfl⟩ tb rb ?_
    refine r_alen rfl (isA_of tB (by decide)) ?_
    refine WR_tI (y := nI sB) (congrArg nI nB) ?_
    refine r_aload rfl rfl ?_
    refine r_getA (b := a + 1) rfl ⟨rfl, rfl, rfl⟩ ta ra ?_
    refine r_alen rfl (isA_of tA (by decide)) ?_
    refine WR_tI (y := nI sA) (congrArg nI nA) ?_
    refine r_icmp_eq (tg := 38) rfl rfl (fun w2 => ?_) (fun w2 => ?_)
    · have es : sB = sA := (nI_eq (by omega) (by omega)).mp w2
      refine r_ic (x := 0) rfl rfl ?_
      refine r_istore (lv' := [some (.ref a), some (.ref b), some (.ref b), some (.int 0)]) rfl (Nat.le_of_ble_eq_true rfl) rfl ?_
      exact sl_40 ta tb ra rb tA tB nA (nB.trans es) hs E (call es e0) (hY e0 es) (fun q => hN (fun z => q z.2.2)) sA 0 (by omega) (fun k hk => absurd hk (Nat.not_lt_zero _))
    · refine r_ic (x := 0) rfl rfl ?_
      refine r_zret rfl (.inl rfl) ?_
      exact hN (fun z => w2 (congrArg nI z.2.1))
end SL
