/-! ===== the shape of the calls' answers; printed ===== -/
def onlyI (r : Option (Instr × Nat)) : Bool := match r with
  | some (.lreturn, _) | some (.dreturn, _) | some (.areturn, _) | some (.return_, _) => false
  | _ => true
def onlyL (r : Option (Instr × Nat)) : Bool := match r with
  | some (.ireturn, _) | some (.freturn, _) | some (.dreturn, _) | some (.areturn, _) | some (.return_, _) => false
  | _ => true
theorem wr_shI {E : mE} (hE : LinE E) {cd : mC} (hcd : ∀ pc, onlyI (cd pc) = true) : ∀ (n pc : Nat) (lv : mL) (st : List Value) (h : mH) (Q : mQ), wr E cd n pc lv st h Q → wr E cd n pc lv st h (fun v h' => (∃ x, v = some (.int x)) ∧ Q v h') := by
  intro n
  induction n with
  | zero => intro pc lv st h Q q; exact q.elim
  | succ n ih =>
    intro pc lv st h Q q
    unfold wr at q ⊢
    have ho := hcd pc
    cases hc : cd pc with
    | none => rw [hc] at q; exact q.elim
    | some r =>
      obtain ⟨i, nx⟩ := r
      rw [hc] at q ho
      by_cases hi : isRet i = false
      · rcases stp_lin hE i nx lv st h _ _ (stp_noQ hi q) with ⟨pc', lv', st', h', -, a, b⟩ | ⟨v, h', -, a, -⟩
        · exact b _ _ (ih pc' lv' st' h' Q a)
        · exact a.elim
      · cases i
        case ireturn =>
          have q : rtI st h Q := q
          show rtI st h (fun v h' => (∃ x, v = some (.int x)) ∧ Q v h')
          unfold rtI at q ⊢
          split at q
          · exact ⟨⟨_, rfl⟩, q⟩
          · exact q.elim
        case freturn =>
          have q : rtZ st h Q := q
          show rtZ st h (fun v h' => (∃ x, v = some (.int x)) ∧ Q v h')
          unfold rtZ at q ⊢
          split at q
          · exact ⟨q.1, ⟨_, rfl⟩, q.2⟩
          · exact q.elim
        all_goals first | exact absurd rfl hi | exact absurd (show false = true from ho) (by decide)
theorem wr_shL {E : mE} (hE : LinE E) {cd : mC} (hcd : ∀ pc, onlyL (cd pc) = true) : ∀ (n pc : Nat) (lv : mL) (st : List Value) (h : mH) (Q : mQ), wr E cd n pc lv st h Q → wr E cd n pc lv st h (fun v h' => (∃ x, v = some (.long x)) ∧ Q v h') := by
  intro n
  induction n with
  | zero => intro pc lv st h Q q; exact q.elim
  | succ n ih =>
    intro pc lv st h Q q
    unfold wr at q ⊢
    have ho := hcd pc
    cases hc : cd pc with
    | none => rw [hc] at q; exact q.elim
    | some r =>
      obtain ⟨i, nx⟩ := r
      rw [hc] at q ho
      by_cases hi : isRet i = false
      · rcases stp_lin hE i nx lv st h _ _ (stp_noQ hi q) with ⟨pc', lv', st', h', -, a, b⟩ | ⟨v, h', -, a, -⟩
        · exact b _ _ (ih pc' lv' st' h' Q a)
        · exact a.elim
      · cases i
        case lreturn =>
          have q : rtL st h Q := q
          show rtL st h (fun v h' => (∃ x, v = some (.long x)) ∧ Q v h')
          unfold rtL at q ⊢
          split at q
          · exact ⟨⟨_, rfl⟩, q⟩
          · exact q.elim
        all_goals first | exact absurd rfl hi | exact absurd (show false = true from ho) (by decide)
theorem EV_shI {d y : Nat} {as : List Value} {h : mH} {Q : mQ} (hcd : ∀ pc, onlyI (cdT y pc) = true) (q : EV (d + 1) y as h Q) : EV (d + 1) y as h (fun v h' => (∃ x, v = some (.int x)) ∧ Q v h') := by
  obtain ⟨hw, n, q⟩ := q
  exact ⟨hw, n, wr_shI (EVg_lin cdT mxT d) hcd n _ _ _ _ _ q⟩
theorem EV_shL {d y : Nat} {as : List Value} {h : mH} {Q : mQ} (hcd : ∀ pc, onlyL (cdT y pc) = true) (q : EV (d + 1) y as h Q) : EV (d + 1) y as h (fun v h' => (∃ x, v = some (.long x)) ∧ Q v h') := by
  obtain ⟨hw, n, q⟩ := q
  exact ⟨hw, n, wr_shL (EVg_lin cdT mxT d) hcd n _ _ _ _ _ q⟩
theorem okCI_of {cd : mC} {n : Nat} (h : ((List.range n).all fun pc => onlyI (cd pc)) = true) (hn : ∀ pc, n ≤ pc → cd pc = none) : ∀ pc, onlyI (cd pc) = true := by
  intro pc
  by_cases q : pc < n
  · exact List.all_eq_true.mp h pc (List.mem_range.mpr q)
  · rw [hn pc (Nat.le_of_not_lt q)]; rfl
theorem okCL_of {cd : mC} {n : Nat} (h : ((List.range n).all fun pc => onlyL (cd pc)) = true) (hn : ∀ pc, n ≤ pc → cd pc = none) : ∀ pc, onlyL (cd pc) = true := by
  intro pc
  by_cases q : pc < n
  · exact List.all_eq_true.mp h pc (List.mem_range.mpr q)
  · rw [hn pc (Nat.le_of_not_lt q)]; rfl
theorem sh_11 : ∀ pc, onlyI (cdT 11 pc) = true := okCI_of (cd := cd_11) (n := 67) (by decide +kernel) fun pc h => by show cond (Nat.ble 67 pc) none _ = none; rw [Nat.ble_eq_true_of_le h]; rfl
theorem sh_17 : ∀ pc, onlyI (cdT 17 pc) = true := okCI_of (cd := cd_17) (n := 111) (by decide +kernel) fun pc h => by show cond (Nat.ble 111 pc) none _ = none; rw [Nat.ble_eq_true_of_le h]; rfl
theorem sh_19 : ∀ pc, onlyI (cdT 19 pc) = true := okCI_of (cd := cd_19) (n := 67) (by decide +kernel) fun pc h => by show cond (Nat.ble 67 pc) none _ = none; rw [Nat.ble_eq_true_of_le h]; rfl
theorem sh_21 : ∀ pc, onlyI (cdT 21 pc) = true := okCI_of (cd := cd_21) (n := 87) (by decide +kernel) fun pc h => by show cond (Nat.ble 87 pc) none _ = none; rw [Nat.ble_eq_true_of_le h]; rfl
theorem sh_23 : ∀ pc, onlyI (cdT 23 pc) = true := okCI_of (cd := cd_23) (n := 57) (by decide +kernel) fun pc h => by show cond (Nat.ble 57 pc) none _ = none; rw [Nat.ble_eq_true_of_le h]; rfl
theorem sh_24 : ∀ pc, onlyI (cdT 24 pc) = true := okCI_of (cd := cd_24) (n := 39) (by decide +kernel) fun pc h => by show cond (Nat.ble 39 pc) none _ = none; rw [Nat.ble_eq_true_of_le h]; rfl
theorem sh_25 : ∀ pc, onlyI (cdT 25 pc) = true := okCI_of (cd := cd_25) (n := 39) (by decide +kernel) fun pc h => by show cond (Nat.ble 39 pc) none _ = none; rw [Nat.ble_eq_true_of_le h]; rfl
theorem sh_29 : ∀ pc, onlyI (cdT 29 pc) = true := okCI_of (cd := cd_29) (n := 39) (by decide +kernel) fun pc h => by show cond (Nat.ble 39 pc) none _ = none; rw [Nat.ble_eq_true_of_le h]; rfl
theorem sh_40 : ∀ pc, onlyL (cdT 40 pc) = true := okCL_of (cd := cd_40) (n := 31) (by decide +kernel) fun pc h => by show cond (Nat.ble 31 pc) none _ = none; rw [Nat.ble_eq_true_of_le h]; rfl
theorem sh_41 : ∀ pc, onlyI (cdT 41 pc) = true := okCI_of (cd := cd_41) (n := 36) (by decide +kernel) fun pc h => by show cond (Nat.ble 36 pc) none _ = none; rw [Nat.ble_eq_true_of_le h]; rfl
theorem sh_44 : ∀ pc, onlyI (cdT 44 pc) = true := okCI_of (cd := cd_44) (n := 32) (by decide +kernel) fun pc h => by show cond (Nat.ble 32 pc) none _ = none; rw [Nat.ble_eq_true_of_le h]; rfl
theorem sh_45 : ∀ pc, onlyI (cdT 45 pc) = true := okCI_of (cd := cd_45) (n := 37) (by decide +kernel) fun pc h => by show cond (Nat.ble 37 pc) none _ = none; rw [Nat.ble_eq_true_of_le h]; rfl
theorem sh_49 : ∀ pc, onlyI (cdT 49 pc) = true := okCI_of (cd := cd_49) (n := 38) (by decide +kernel) fun pc h => by show cond (Nat.ble 38 pc) none _ = none; rw [Nat.ble_eq_true_of_le h]; rfl
theorem sh_50 : ∀ pc, onlyI (cdT 50 pc) = true := okCI_of (cd := cd_50) (n := 128) (by decide +kernel) fun pc h => by show cond (Nat.ble 128 pc) none _ = none; rw [Nat.ble_eq_true_of_le h]; rfl
theorem sh_51 : ∀ pc, onlyI (cdT 51 pc) = true := okCI_of (cd := cd_51) (n := 137) (by decide +kernel) fun pc h => by show cond (Nat.ble 137 pc) none _ = none; rw [Nat.ble_eq_true_of_le h]; rfl
theorem sh_58 : ∀ pc, onlyI (cdT 58 pc) = true := okCI_of (cd := cd_58) (n := 76) (by decide +kernel) fun pc h => by show cond (Nat.ble 76 pc) none _ = none; rw [Nat.ble_eq_true_of_le h]; rfl
theorem sh_59 : ∀ pc, onlyI (cdT 59 pc) = true := okCI_of (cd := cd_59) (n := 73) (by decide +kernel) fun pc h => by show cond (Nat.ble 73 pc) none _ = none; rw [Nat.ble_eq_true_of_le h]; rfl
theorem sh_64 : ∀ pc, onlyL (cdT 64 pc) = true := okCL_of (cd := cd_64) (n := 123) (by decide +kernel) fun pc h => by show cond (Nat.ble 123 pc) none _ = none; rw [Nat.ble_eq_true_of_le h]; rfl
theorem sh_72 : ∀ pc, onlyL (cdT 72 pc) = true := okCL_of (cd := cd_72) (n := 77) (by decide +kernel) fun pc h => by show cond (Nat.ble 77 pc) none _ = none; rw [Nat.ble_eq_true_of_le h]; rfl
theorem sh_73 : ∀ pc, onlyI (cdT 73 pc) = true := okCI_of (cd := cd_73) (n := 34) (by decide +kernel) fun pc h => by show cond (Nat.ble 34 pc) none _ = none; rw [Nat.ble_eq_true_of_le h]; rfl
theorem sh_74 : ∀ pc, onlyI (cdT 74 pc) = true := okCI_of (cd := cd_74) (n := 23) (by decide +kernel) fun pc h => by show cond (Nat.ble 23 pc) none _ = none; rw [Nat.ble_eq_true_of_le h]; rfl
theorem sh_75 : ∀ pc, onlyL (cdT 75 pc) = true := okCL_of (cd := cd_75) (n := 161) (by decide +kernel) fun pc h => by show cond (Nat.ble 161 pc) none _ = none; rw [Nat.ble_eq_true_of_le h]; rfl
theorem sh_90 : ∀ pc, onlyI (cdT 90 pc) = true := okCI_of (cd := cd_90) (n := 151) (by decide +kernel) fun pc h => by show cond (Nat.ble 151 pc) none _ = none; rw [Nat.ble_eq_true_of_le h]; rfl
theorem sh_92 : ∀ pc, onlyI (cdT 92 pc) = true := okCI_of (cd := cd_92) (n := 134) (by decide +kernel) fun pc h => by show cond (Nat.ble 134 pc) none _ = none; rw [Nat.ble_eq_true_of_le h]; rfl
theorem sh_97 : ∀ pc, onlyI (cdT 97 pc) = true := okCI_of (cd := cd_97) (n := 41) (by decide +kernel) fun pc h => by show cond (Nat.ble 41 pc) none _ = none; rw [Nat.ble_eq_true_of_le h]; rfl
theorem sh_98 : ∀ pc, onlyI (cdT 98 pc) = true := okCI_of (cd := cd_98) (n := 53) (by decide +kernel) fun pc h => by show cond (Nat.ble 53 pc) none _ = none; rw [Nat.ble_eq_true_of_le h]; rfl
theorem sh_119 : ∀ pc, onlyI (cdT 119 pc) = true := okCI_of (cd := cd_119) (n := 99) (by decide +kernel) fun pc h => by show cond (Nat.ble 99 pc) none _ = none; rw [Nat.ble_eq_true_of_le h]; rfl
theorem sh_120 : ∀ pc, onlyI (cdT 120 pc) = true := okCI_of (cd := cd_120) (n := 40) (by decide +kernel) fun pc h => by show cond (Nat.ble 40 pc) none _ = none; rw [Nat.ble_eq_true_of_le h]; rfl
theorem sh_121 : ∀ pc, onlyI (cdT 121 pc) = true := okCI_of (cd := cd_121) (n := 79) (by decide +kernel) fun pc h => by show cond (Nat.ble 79 pc) none _ = none; rw [Nat.ble_eq_true_of_le h]; rfl
theorem sh_122 : ∀ pc, onlyI (cdT 122 pc) = true := okCI_of (cd := cd_122) (n := 76) (by decide +kernel) fun pc h => by show cond (Nat.ble 76 pc) none _ = none; rw [Nat.ble_eq_true_of_le h]; rfl
theorem sh_123 : ∀ pc, onlyI (cdT 123 pc) = true := okCI_of (cd := cd_123) (n := 40) (by decide +kernel) fun pc h => by show cond (Nat.ble 40 pc) none _ = none; rw [Nat.ble_eq_true_of_le h]; rfl
theorem sh_124 : ∀ pc, onlyI (cdT 124 pc) = true := okCI_of (cd := cd_124) (n := 67) (by decide +kernel) fun pc h => by show cond (Nat.ble 67 pc) none _ = none; rw [Nat.ble_eq_true_of_le h]; rfl
theorem sh_125 : ∀ pc, onlyI (cdT 125 pc) = true := okCI_of (cd := cd_125) (n := 36) (by decide +kernel) fun pc h => by show cond (Nat.ble 36 pc) none _ = none; rw [Nat.ble_eq_true_of_le h]; rfl
theorem sh_142 : ∀ pc, onlyI (cdT 142 pc) = true := okCI_of (cd := cd_142) (n := 58) (by decide +kernel) fun pc h => by show cond (Nat.ble 58 pc) none _ = none; rw [Nat.ble_eq_true_of_le h]; rfl
theorem sh_143 : ∀ pc, onlyL (cdT 143 pc) = true := okCL_of (cd := cd_143) (n := 51) (by decide +kernel) fun pc h => by show cond (Nat.ble 51 pc) none _ = none; rw [Nat.ble_eq_true_of_le h]; rfl
theorem sh_145 : ∀ pc, onlyI (cdT 145 pc) = true := okCI_of (cd := cd_145) (n := 54) (by decide +kernel) fun pc h => by show cond (Nat.ble 54 pc) none _ = none; rw [Nat.ble_eq_true_of_le h]; rfl
theorem sh_146 : ∀ pc, onlyI (cdT 146 pc) = true := okCI_of (cd := cd_146) (n := 5) (by decide +kernel) fun pc h => by show cond (Nat.ble 5 pc) none _ = none; rw [Nat.ble_eq_true_of_le h]; rfl
theorem sh_147 : ∀ pc, onlyI (cdT 147 pc) = true := okCI_of (cd := cd_147) (n := 94) (by decide +kernel) fun pc h => by show cond (Nat.ble 94 pc) none _ = none; rw [Nat.ble_eq_true_of_le h]; rfl
