/-! ===== isSame of the class, by contract ===== -/
section IS
variable {d : Nat} {Q : mQ} {h : mH} {a b sA sB : Nat}
theorem is_nn (hY : Q (some (.int 1)) h) : EV (d + 1) 63 [.null, .null] h Q := by
  refine in_63 (Nat.le_of_ble_eq_true rfl) ?_
  show WR _ cd_63 0 [some .null, some .null, none] [] h _
  refine r_aload0 rfl rfl ?_
  refine r_aload0 rfl rfl ?_
  refine r_acmpNN_eq (tg := 29) rfl rfl ?_
  refine r_ic (x := 1) rfl rfl ?_
  refine r_goto (tg := 34) rfl rfl ?_
  refine r_zret rfl (.inr rfl) ?_
  exact hY
theorem is_na (hN : Q (some (.int 0)) h) : EV (d + 1) 63 [.null, .ref b] h Q := by
  refine in_63 (Nat.le_of_ble_eq_true rfl) ?_
  show WR _ cd_63 0 [some .null, some (.ref b), none] [] h _
  refine r_aload0 rfl rfl ?_
  refine r_aload rfl rfl ?_
  refine r_acmpNA_eq (tg := 29) rfl rfl ?_
  refine r_aload0 rfl rfl ?_
  refine r_instN rfl (by decide) ?_
  refine r_if_eq (tg := 33) rfl rfl (fun _ => ?_) (fun q => absurd rfl q)
  refine r_ic (x := 0) rfl rfl ?_
  refine r_zret rfl (.inl rfl) ?_
  exact hN
theorem is_pa (ta : hT h a = 4) (hY : a = b → Q (some (.int 1)) h) (hN : a ≠ b → Q (some (.int 0)) h) : EV (d + 1) 63 [.ref a, .ref b] h Q := by
  refine in_63 (Nat.le_of_ble_eq_true rfl) ?_
  show WR _ cd_63 0 [some (.ref a), some (.ref b), none] [] h _
  refine r_aload rfl rfl ?_
  refine r_aload rfl rfl ?_
  refine r_acmpA_eq (tg := 29) rfl rfl (fun e => ?_) (fun e => ?_)
  · refine r_ic (x := 1) rfl rfl ?_
    refine r_goto (tg := 34) rfl rfl ?_
    refine r_zret rfl (.inr rfl) ?_
    exact hY e
  · refine r_aload rfl rfl ?_
    refine r_instW rfl (by decide) ta (by decide) ?_
    refine r_if_eq (tg := 33) rfl rfl (fun _ => ?_) (fun q => absurd rfl q)
    refine r_ic (x := 0) rfl rfl ?_
    refine r_zret rfl (.inl rfl) ?_
    exact hN e
end IS
