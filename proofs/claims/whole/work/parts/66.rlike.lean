/-! ===== isLike of a row of the class, by contract ===== -/
section RL
variable {d : Nat} {Q : mQ} {h : mH} {a b sA sB : Nat}
def RLP (h : mH) (a b sA sB : Nat) : Prop := hI h b 0 = hI h a 0 ∧ sB = sA ∧ ∀ i, i < sA → hL h (a + 1) i = hL h (b + 1) i
theorem rl_40 (ta : hT h a = 5) (tb : hT h b = 5) (ra : hR h a 1 = some (a + 1)) (rb : hR h b 1 = some (b + 1)) (tA : hT h (a + 1) = 21) (tB : hT h (b + 1) = 21) (nA : hN h (a + 1) = sA) (nB : hN h (b + 1) = sA) (hs : sA ≤ 30)
    (hY : (∀ i, i < sA → hL h (a + 1) i = hL h (b + 1) i) → Q (some (.int 1)) h) (hN : ¬ (∀ i, i < sA → hL h (a + 1) i = hL h (b + 1) i) → Q (some (.int 0)) h) :
    ∀ m i, i + m = sA → (∀ k, k < i → hL h (a + 1) k = hL h (b + 1) k) → WR d cd_61 40 [some (.ref a), some (.ref b), some (.ref b), some (.int (nI i))] [] h Q := by
  intro m
  induction m with
  | zero =>
    intro i hi q
    obtain rfl : i = sA := by omega
    refine r_iload rfl rfl ?_
    refine r_aload rfl rfl ?_
    refine r_getA (b := a + 1) rfl ⟨rfl, rfl, rfl⟩ ta ra ?_
    refine r_alen rfl (isA_of tA (by decide)) ?_
    refine WR_tI (y := nI i) (congrArg nI nA) ?_
    refine r_icmp_ge (tg := 73) rfl rfl (fun _ => ?_) (fun w => absurd (nI_le (Nat.le_refl _) (by omega)) w)
    refine r_ic (x := 1) rfl rfl ?_
    refine r_zret rfl (.inr rfl) ?_
    exact hY q
  | succ m ih =>
    intro i hi q
    refine r_iload rfl rfl ?_
    refine r_aload rfl rfl ?_
    refine r_getA (b := a + 1) rfl ⟨rfl, rfl, rfl⟩ ta ra ?_
    refine r_alen rfl (isA_of tA (by decide)) ?_
    refine WR_tI (y := nI sA) (congrArg nI nA) ?_
    refine r_icmp_ge (tg := 73) rfl rfl (fun w => absurd w (nI_ge (by omega) (by omega))) (fun _ => ?_)
    refine r_aload rfl rfl ?_
    refine r_getA (b := a + 1) rfl ⟨rfl, rfl, rfl⟩ ta ra ?_
    refine r_iload rfl rfl ?_
    refine r_laload rfl tA (vp_ct nA (vp_in_nI (by omega) (by omega))) ?_
    refine WR_tL (congrArg (hL h (a + 1)) (nI_clamp (by omega) : _ = i)) ?_
    refine r_aload rfl rfl ?_
    refine r_getA (b := b + 1) rfl ⟨rfl, rfl, rfl⟩ tb rb ?_
    refine r_iload rfl rfl ?_
    refine r_laload rfl tB (vp_ct nB (vp_in_nI (by omega) (by omega))) ?_
    refine WR_tL (congrArg (hL h (b + 1)) (nI_clamp (by omega) : _ = i)) ?_
    refine r_lif_eq (tg := 67) rfl rfl rfl (fun w => ?_) (fun w => ?_)
    · refine r_iinc (y := nI (i + 1)) (lv' := [some (.ref a), some (.ref b), some (.ref b), some (.int (nI (i + 1)))]) rfl rfl (nI_1 _) rfl ?_
      refine r_goto (tg := 40) rfl rfl ?_
      refine ih (i + 1) (by omega) (fun k hk => ?_)
      by_cases e : k = i
      · rw [e]; exact w
      · exact q k (by omega)
    · refine r_ic (x := 0) rfl rfl ?_
      refine r_zret rfl (.inl rfl) ?_
      exact hN (fun z => w (z i (by omega)))
theorem c_rlike (ta : hT h a = 5) (tb : hT h b = 5) (ra : hR h a 1 = some (a + 1)) (rb : hR h b 1 = some (b + 1)) (tA : hT h (a + 1) = 21) (tB : hT h (b + 1) = 21) (nA : hN h (a + 1) = sA) (nB : hN h (b + 1) = sB) (hs : sA ≤ 30) (hs2 : sB ≤ 30)
    (hY : RLP h a b sA sB → Q (some (.int 1)) h) (hN : ¬ RLP h a b sA sB → Q (some (.int 0)) h) : EV (d + 1) 61 [.ref a, .ref b] h Q := by
  refine in_61 (Nat.le_of_ble_eq_true rfl) ?_
  show WR _ cd_61 0 [some (.ref a), some (.ref b), none, none] [] h _
  refine r_aload rfl rfl ?_
  refine r_instY rfl (by decide) tb ?_
  refine r_if_eq (tg := 36) rfl rfl (fun q => absurd q (by decide)) (fun _ => ?_)
  refine r_aload rfl rfl ?_
  refine r_cast rfl tb ?_
  refine r_astore (lv' := [some (.ref a), some (.ref b), some (.ref b), none]) rfl (Nat.le_of_ble_eq_true rfl) rfl ?_
  refine r_aload rfl rfl ?_
  refine r_getI rfl ⟨rfl, rfl, rfl⟩ tb ?_
  refine r_aload rfl rfl ?_
  refine r_getI rfl ⟨rfl, rfl, rfl⟩ ta ?_
  refine r_icmp_ne (tg := 36) rfl rfl (fun w => ?_) (fun w => ?_)
  · refine r_ic (x := 0) rfl rfl ?_
    refine r_zret rfl (.inl rfl) ?_
    exact hN (fun z => w z.1)
  · have e0 : hI h b 0 = hI h a 0 := w
    refine r_aload rfl rfl ?_
    refine r_getA (b := b + 1) rfl ⟨rfl, rfl, rfl⟩ tb rb ?_
    refine r_alen rfl (isA_of tB (by decide)) ?_
    refine WR_tI (y := nI sB) (congrArg nI nB) ?_
    refine r_aload rfl rfl ?_
    refine r_getA (b := a + 1) rfl ⟨rfl, rfl, rfl⟩ ta ra ?_
    refine r_alen rfl (isA_of tA (by decide)) ?_
    refine WR_tI (y := nI sA) (congrArg nI nA) ?_
    refine r_icmp_eq (tg := 38) rfl rfl (fun w2 => ?_) (fun w2 => ?_)
    · have es : sB = sA := (nI_eq (by omega) (by omega)).mp w2
      refine r_ic (x := 0) rfl rfl ?_
      refine r_istore (lv' := [some (.ref a), some (.ref b), some (.ref b), some (.int 0)]) rfl (Nat.le_of_ble_eq_true rfl) rfl ?_
      exact rl_40 ta tb ra rb tA tB nA (nB.trans es) hs (fun q => hY ⟨e0, es, q⟩) (fun q => hN (fun z => q z.2.2)) sA 0 (by omega) (fun k hk => absurd hk (Nat.not_lt_zero _))
    · refine r_ic (x := 0) rfl rfl ?_
      refine r_zret rfl (.inl rfl) ?_
      exact hN (fun z => w2 (congrArg nI z.2.1))
end RL
