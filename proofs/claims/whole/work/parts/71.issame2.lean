/-! ===== isSame of rows, by contract ===== -/
section IT
variable {d : Nat} {Q : mQ} {h : mH} {a b sA sB : Nat}
theorem is_pn (ta : hT h a = 4) (hN : Q (some (.int 0)) h) : EV (d + 1) 63 [.ref a, .null] h Q := by
  refine in_63 (Nat.le_of_ble_eq_true rfl) ?_
  show WR _ cd_63 0 [some (.ref a), some .null, none] [] h _
  refine r_aload rfl rfl ?_
  refine r_aload0 rfl rfl ?_
  refine r_acmpAN_eq (tg := 29) rfl rfl ?_
  refine r_aload rfl rfl ?_
  refine r_instW rfl (by decide) ta (by decide) ?_
  refine r_if_eq (tg := 33) rfl rfl (fun _ => ?_) (fun q => absurd rfl q)
  refine r_ic (x := 0) rfl rfl ?_
  refine r_zret rfl (.inl rfl) ?_
  exact hN
theorem is_rn (ta : hT h a = 5) (hN : Q (some (.int 0)) h) : EV (d + 1) 63 [.ref a, .null] h Q := by
  refine in_63 (Nat.le_of_ble_eq_true rfl) ?_
  show WR _ cd_63 0 [some (.ref a), some .null, none] [] h _
  refine r_aload rfl rfl ?_
  refine r_aload0 rfl rfl ?_
  refine r_acmpAN_eq (tg := 29) rfl rfl ?_
  refine r_aload rfl rfl ?_
  refine r_instY rfl (by decide) ta ?_
  refine r_if_eq (tg := 33) rfl rfl (fun q => absurd q (by decide)) (fun _ => ?_)
  refine r_aload rfl rfl ?_
  refine r_cast rfl ta ?_
  refine r_astore (lv' := [some (.ref a), some .null, some (.ref a)]) rfl (Nat.le_of_ble_eq_true rfl) rfl ?_
  refine r_aload0 rfl rfl ?_
  refine r_ifnullN (tg := 33) rfl rfl ?_
  refine r_ic (x := 0) rfl rfl ?_
  refine r_zret rfl (.inl rfl) ?_
  exact hN
theorem is_rr (ta : hT h a = 5) (tb : hT h b = 5) (ra : hR h a 1 = some (a + 1)) (rb : hR h b 1 = some (b + 1)) (tA : hT h (a + 1) = 21) (tB : hT h (b + 1) = 21) (nA : hN h (a + 1) = sA) (nB : hN h (b + 1) = sB) (hs : sA ≤ 30) (hs2 : sB ≤ 30)
    (hY : a = b ∨ RLP h a b sA sB → Q (some (.int 1)) h) (hN : ¬ (a = b ∨ RLP h a b sA sB) → Q (some (.int 0)) h) : EV (d + 2) 63 [.ref a, .ref b] h Q := by
  refine in_63 (Nat.le_of_ble_eq_true rfl) ?_
  show WR _ cd_63 0 [some (.ref a), some (.ref b), none] [] h _
  refine r_aload rfl rfl ?_
  refine r_aload rfl rfl ?_
  refine r_acmpA_eq (tg := 29) rfl rfl (fun e => ?_) (fun e => ?_)
  · refine r_ic (x := 1) rfl rfl ?_
    refine r_goto (tg := 34) rfl rfl ?_
    refine r_zret rfl (.inr rfl) ?_
    exact hY (.inl e)
  · refine r_aload rfl rfl ?_
    refine r_instY rfl (by decide) ta ?_
    refine r_if_eq (tg := 33) rfl rfl (fun q => absurd q (by decide)) (fun _ => ?_)
    refine r_aload rfl rfl ?_
    refine r_cast rfl ta ?_
    refine r_astore (lv' := [some (.ref a), some (.ref b), some (.ref a)]) rfl (Nat.le_of_ble_eq_true rfl) rfl ?_
    refine r_aload rfl rfl ?_
    refine r_ifnullA (tg := 33) rfl rfl ?_
    refine r_aload rfl rfl ?_
    refine r_aload rfl rfl ?_
    refine r_cv (y := 61) (ra := [.ref b]) (rest := []) rfl ⟨⟨rfl, rfl⟩, rfl, by decide⟩ ta rfl rfl (Nat.le_of_ble_eq_true rfl) ?_
    refine c_rlike ta tb ra rb tA tB nA nB hs hs2 (fun w => ?_) (fun w => ?_)
    · show WR _ cd_63 26 [some (.ref a), some (.ref b), some (.ref a)] [.int 1] h _
      refine r_if_eq (tg := 33) rfl rfl (fun q => absurd q (by decide)) (fun _ => ?_)
      refine r_ic (x := 1) rfl rfl ?_
      refine r_goto (tg := 34) rfl rfl ?_
      refine r_zret rfl (.inr rfl) ?_
      exact hY (.inr w)
    · show WR _ cd_63 26 [some (.ref a), some (.ref b), some (.ref a)] [.int 0] h _
      refine r_if_eq (tg := 33) rfl rfl (fun _ => ?_) (fun q => absurd rfl q)
      refine r_ic (x := 0) rfl rfl ?_
      refine r_zret rfl (.inl rfl) ?_
      exact hN (fun z => z.elim e w)
end IT
