/-! ===== rootOf and root by contract, second part ===== -/
theorem par1 {E : Nat} (hE : E < 2048) : ((nI E - 1075) &&& 1) = 0 ↔ E % 2 = 1 := by
  have all : ∀ E, E < 2048 → (((nI E - 1075) &&& 1) = 0 ↔ E % 2 = 1) := by decide +kernel
  exact all E hE
theorem par2 {E : Nat} (hE : E < 2048) : ((nI E - 1075) - (nI E - 1075) / 2 * 2) = 0 ↔ E % 2 = 1 := by
  have all : ∀ E, E < 2048 → (((nI E - 1075) - (nI E - 1075) / 2 * 2) = 0 ↔ E % 2 = 1) := by decide +kernel
  exact all E hE
theorem par3 {E : Nat} (hE : E < 2048) (h : E % 2 = 1) : ((nI E - 1075) / 2 - 26).toInt = ((E : Int) - 1075) / 2 - 26 := by
  have all : ∀ E : Nat, E < 2048 → E % 2 = 1 → ((nI E - 1075) / 2 - 26).toInt = ((E : Int) - 1075) / 2 - 26 := by decide +kernel
  exact all E hE h
theorem par4 {E : Nat} (hE : E < 2048) (h : ¬ E % 2 = 1) : (((nI E - 1075) + (-1)) / 2 - 26).toInt = ((E : Int) - 1075) / 2 - 26 := by
  have all : ∀ E : Nat, E < 2048 → ¬ E % 2 = 1 → (((nI E - 1075) + (-1)) / 2 - 26).toInt = ((E : Int) - 1075) / 2 - 26 := by decide +kernel
  exact all E hE h
theorem sh52 {M : Nat} (hM : M < 2 ^ 63) : (lN M >>> ((52 : Int32).toInt64 &&& 63)).toInt32 = nI (M / 2 ^ 52) := by
  rw [shrN (k := 52) (by decide +kernel) hM, lN_i]
theorem dg52 {M : Nat} (hM : M < 2 ^ 63) : (lN M &&& 4503599627370495) ||| 4503599627370496 = lN (M % 2 ^ 52 + 2 ^ 52) := by
  rw [bl_lo _ 52 (by decide +kernel), lN_tn (by omega), or52 (by omega)]
theorem dk_pos {x : UInt64} (h : x.toNat < 2 ^ 63) : FP.Core.dkey x = x.toNat := by
  unfold FP.Core.dkey; rw [if_neg (by omega)]
section RR2
variable {d : Nat} {Q : mQ} {h : mH} {x : UInt64}
theorem ro_144 {M : Nat} (hM : 2 ^ 52 ≤ M ∧ M < 9218868437227405312) {b g t : Int64} {e i : Int32} {o1 o2 : Option Value} (he : (e / 2 - 26).toInt = rtX M - 26) (hq : Q (some (.double (dv (rtK M) (rtX M - 26)))) h) :
    WR (d + 1) cd_134 144 [some (.double x), none, some (.long b), none, some (.int e), some (.long g), none, some (.long (lN (sqS (rtC M) 54).1)), none, some (.long t), none, some (.int i), o1, none, o2, none] [] h Q := by
  have kb := rtK_b M
  have s54 := sq54 (rtC_b M).1 (rtC_b M).2
  have hX : -537 ≤ rtX M ∧ rtX M ≤ 486 := by unfold rtX; omega
  refine w_ro144 x b g _ t e i o1 o2 ?_
  have e1 : (lN (sqS (rtC M) 54).1 + 1) >>> ((1 : Int32).toInt64 &&& 63) = lN (rtK M) := by
    rw [lN_1, shrN (k := 1) (by decide +kernel) (by omega)]
    rfl
  rw [e1, l2d_dv (by omega)]
  by_cases z : rtK M < 2 ^ 53
  · refine c_scaled z (.inl rfl) (by omega) (by omega) ?_
    rw [he, Int.zero_add]
    exact w_ro161 x _ b g _ t e i o1 o2 hq
  · have zz : rtK M = 2 ^ 53 := by omega
    have e2 : dv (rtK M) 0 = dv (2 ^ 52) 1 := by rw [zz]; exact dv_c (by decide)
    rw [e2]
    refine c_scaled (by decide) (.inr rfl) (by omega) (by omega) ?_
    have e3 : dv (2 ^ 52) (1 + (e / 2 - 26).toInt) = dv (rtK M) (rtX M - 26) := by
      rw [zz, he]
      refine dv_c ?_
      rw [show (1 + (rtX M - 26) - (rtX M - 26)).toNat = 1 by omega, show (rtX M - 26 - (1 + (rtX M - 26))).toNat = 0 by omega]
    rw [e3]
    exact w_ro161 x _ b g _ t e i o1 o2 hq
theorem c_rootOf (hx : x = 0 ∨ (2 ^ 52 ≤ x.toNat ∧ x.toNat < 9218868437227405312)) (hq : Q (some (.double (rtv x))) h) : EV (d + 2) 134 [.double x] h Q := by
  rcases hx with rfl | hx
  · exact w_ro0 0 (fun z => absurd (show dle 0 0 by unfold dle; decide +kernel) z) (fun _ => hq)
  · have hn : FP.Core.val64 x ≠ .nan := (FP.Core.ne_nan x).mpr (by omega)
    have n0 : FP.Core.val64 0 ≠ .nan := by decide +kernel
    have kx := dk_pos (x := x) (by omega)
    have ne : ¬ x = 0 := fun z => by rw [z] at hx; exact absurd hx.1 (by decide)
    have ev : rtv x = dv (rtK x.toNat) (rtX x.toNat - 26) := by unfold rtv; rw [if_neg ne]
    rw [ev] at hq
    refine w_ro0 x (fun _ => ?_) (fun z => ?_)
    · refine c_bitsOf hn ?_
      show WR (d + 1) cd_134 12 [some (.double x), none, none, none, none, none, none, none, none, none, none, none, none, none, none, none] [.long x.toInt64] h Q
      rw [← lN_i64]
      generalize x.toNat = M at *
      have r0 := fun (b g : Int64) (e : Int32) (hg : g = lN (rtC M)) (he : (e / 2 - 26).toInt = rtX M - 26) => ro_60 (d := d + 1) (Q := Q) (h := h) (x := x) (b := b) (e := e) (rtC_b M).2 (fun i o1 o2 => ro_144 hx he hq) 54 0 none none rfl
      refine w_ro12 x _ ?_ ?_
      · rw [sh52 (by omega), dg52 (by omega)]
        intro c
        have c2 := (par1 (by omega)).mp c
        have eC : rtC M = M % 2 ^ 52 + 2 ^ 52 := by unfold rtC; rw [if_pos c2]
        have := r0 (lN M) (lN (rtC M)) (nI (M / 2 ^ 52) - 1075) rfl (par3 (by omega) c2)
        rw [eC] at this
        exact this
      · rw [sh52 (by omega), dg52 (by omega)]
        intro c
        have c2 : ¬ M / 2 ^ 52 % 2 = 1 := fun z => c ((par1 (by omega)).mpr z)
        have eC : rtC M = 2 * (M % 2 ^ 52 + 2 ^ 52) := by unfold rtC; rw [if_neg c2]
        have := r0 (lN M) (lN (rtC M)) (nI (M / 2 ^ 52) - 1075 + (-1)) rfl (par4 (by omega) c2)
        rw [eC] at this
        rw [ls_1]
        exact this
    · rcases z with z | z
      · have := (FP.Core.dcmp_lt_key hn n0).mp z
        rw [dk0, kx] at this; omega
      · have := (FP.Core.dcmp_eq_key hn n0).mp z
        rw [dk0, kx] at this; omega
theorem c_dl (hx : canD x) (hq : Q (some (.long x.toInt64)) h) : EV (d + 2) 198 [.double x] h Q := by
  refine w_dl x (fun _ => hq) (fun z => ?_)
  rcases hx with rfl | hx
  · exact hq
  · exact absurd (FP.Core.dcmp_self hx) z
theorem rt_res {ee k0 : Nat} (h1 : 1 ≤ ee) (h2 : ee ≤ 2046) (h3 : 2 ^ 52 ≤ k0) (h4 : k0 < 2 ^ 53) {p : Int32} (hp : p = nI ee) {k : Int64} (hk : k = lN k0) :
    (((p.toInt64) <<< ((52 : Int32).toInt64 &&& 63)) ||| (k &&& 4503599627370495)).toUInt64 = dv k0 ((ee : Int) - 1075) ∧ vn_snl2d (((p.toInt64) <<< ((52 : Int32).toInt64 &&& 63)) ||| (k &&& 4503599627370495)) = false := by
  subst hp; subst hk
  rw [shl52 (by omega), bl_lo _ 52 (by decide +kernel), lN_tn (by omega), orL (by omega)]
  have t : (lN (ee * 2 ^ 52 + k0 % 2 ^ 52)).toUInt64.toNat = ee * 2 ^ 52 + k0 % 2 ^ 52 := by rw [u64_nat, lN_tn (by omega)]
  have hn : FP.Core.val64 (lN (ee * 2 ^ 52 + k0 % 2 ^ 52)).toUInt64 ≠ .nan := (FP.Core.ne_nan _).mpr (by rw [t]; omega)
  refine ⟨?_, sn_of hn⟩
  have := dv_bits (x := (lN (ee * 2 ^ 52 + k0 % 2 ^ 52)).toUInt64) (by rw [t]; omega) hn
  rw [t, if_neg (by omega), if_neg (by omega), show (ee * 2 ^ 52 + k0 % 2 ^ 52) % 2 ^ 52 + 2 ^ 52 = k0 by omega, show (ee * 2 ^ 52 + k0 % 2 ^ 52) / 2 ^ 52 = ee by omega] at this
  exact this
theorem rt_238 {M : Nat} (hM : 2 ^ 52 ≤ M ∧ M < 9218868437227405312) {b g r t l : Int64} {e : Int32} (he : (e / 2 - 26).toInt = rtX M - 26) (hq : Q (some (.double (dv (rtK M) (rtX M - 26)))) h) :
    WR d cd_239 238 [some (.double x), none, some (.long b), none, some (.int e), some (.long g), none, some (.long t), none, some (.long r), none, some (.long (lN (rtK M))), none, some (.long l), none, none] [] h Q := by
  have kb := rtK_b M
  have hX : -537 ≤ rtX M ∧ rtX M ≤ 486 := by unfold rtX; omega
  have e75 : (1075 : Int32).toInt = 1075 := rfl
  have e1 : (1 : Int32).toInt = 1 := rfl
  obtain ⟨ee, hee⟩ : ∃ ee : Nat, (ee : Int) = rtX M + 1049 := ⟨(rtX M + 1049).toNat, by omega⟩
  have p1 : (e / 2 - 26) + 1075 = nI ee := i_inj (by rw [add_t (by omega) (by omega), nI_toInt (by omega)]; omega)
  have p2a : ((e / 2 - 26) + 1).toInt = rtX M - 25 := by rw [add_t (by omega) (by omega)]; omega
  have p2 : ((e / 2 - 26) + 1) + 1075 = nI (ee + 1) := i_inj (by rw [add_t (by omega) (by omega), nI_toInt (by omega)]; omega)
  have kk : (9007199254740992 : Int64) = lN (2 ^ 53) := rfl
  by_cases z : rtK M = 2 ^ 53
  · have c : lN (rtK M) = 9007199254740992 := by rw [z]; rfl
    have hk : lN (rtK M) >>> ((1 : Int32).toInt64 &&& 63) = lN (2 ^ 52) := by rw [shrN (k := 1) (by decide +kernel) (by omega), z]
    obtain ⟨r1, r2⟩ := rt_res (ee := ee + 1) (k0 := 2 ^ 52) (by omega) (by omega) (by decide) (by decide) p2 hk
    refine w_rt238 x b g r t _ l e (fun w => absurd c w) (fun _ => r2) (fun w => absurd c w) (fun _ => ?_)
    rw [r1]
    have e3 : dv (2 ^ 52) (((ee + 1 : Nat) : Int) - 1075) = dv (rtK M) (rtX M - 26) := by
      rw [z]
      refine dv_c ?_
      rw [show (((ee + 1 : Nat) : Int) - 1075 - (rtX M - 26)).toNat = 1 by omega, show (rtX M - 26 - (((ee + 1 : Nat) : Int) - 1075)).toNat = 0 by omega]
    rw [e3]; exact hq
  · have c : ¬ lN (rtK M) = 9007199254740992 := fun w => z ((pk_lEQ (by omega) (by omega)).mp (w.trans kk))
    obtain ⟨r1, r2⟩ := rt_res (ee := ee) (k0 := rtK M) (by omega) (by omega) kb.1 (by omega) p1 rfl
    refine w_rt238 x b g r t _ l e (fun _ => r2) (fun w => absurd w c) (fun _ => ?_) (fun w => absurd w c)
    rw [r1, show (ee : Int) - 1075 = rtX M - 26 by omega]
    exact hq
theorem rt_184 {M : Nat} (hM : 2 ^ 52 ≤ M ∧ M < 9218868437227405312) {b g : Int64} {e i : Int32} {o1 : Option Value} (he : (e / 2 - 26).toInt = rtX M - 26) (hq : Q (some (.double (dv (rtK M) (rtX M - 26)))) h) :
    WR d cd_239 184 [some (.double x), none, some (.long b), none, some (.int e), some (.long g), none, some (.long (lN (sqS (rtC M) 55).2)), none, some (.long (lN (sqS (rtC M) 55).1)), none, some (.int i), o1, none, none, none] [] h Q := by
  have hC := (rtC_b M).2
  have s54 := sq54 (rtC_b M).1 hC
  have so := sq_odd hC
  obtain ⟨-, b1, b2⟩ := sq_inv (rtC M) 54
  obtain ⟨-, b3, b4⟩ := sq_inv (rtC M) 55
  have es := sq_step (rtC M) 54
  rw [show (54 + 1 : Nat) = 55 from rfl] at es
  have p0 : pr (rtC M) 54 = 0 := by unfold pr; rw [if_neg (by decide)]
  have kd : rtK M = ((sqS (rtC M) 54).1 + 1) / 2 := rfl
  have fin := fun (b g r t l : Int64) => rt_238 (d := d) (x := x) (b := b) (g := g) (r := r) (t := t) (l := l) hM he hq
  rw [kd] at fin
  have cs : ((sqS (rtC M) 55).1 = 2 * (sqS (rtC M) 54).1 ∧ (sqS (rtC M) 55).2 = 4 * (sqS (rtC M) 54).2) ∨ ((sqS (rtC M) 55).1 = 2 * (sqS (rtC M) 54).1 + 1) := by
    rw [es, p0]
    generalize sqS (rtC M) 54 = X
    split
    · exact .inl ⟨rfl, rfl⟩
    · exact .inr rfl
  clear es p0 kd
  generalize (sqS (rtC M) 54).1 = r at *
  generalize (sqS (rtC M) 54).2 = s at *
  generalize (sqS (rtC M) 55).1 = R at *
  generalize (sqS (rtC M) 55).2 = T at *
  have s55 : T < 2 ^ 62 := by omega
  have a1 : lN R &&& 3 = lN (R % 4) := by
    have := bl_lo (lN R) (m := 3) 2 (by decide +kernel)
    rw [lN_tn (by omega)] at this; exact this
  have a2 : lN R >>> ((2 : Int32).toInt64 &&& 63) = lN (R / 4) := shrN (k := 2) (by decide +kernel) (by omega)
  have l2 : (2 : Int64) = lN 2 := rfl
  refine w_rt184 x b g _ _ e i o1 ?_ ?_ ?_ ?_ ?_
  · rw [a1, a2, l2, pk_lLT (by omega) (by omega), lN_1]
    intro z
    rw [show R / 4 + 1 = (r + 1) / 2 by omega]
    exact fin _ _ _ _ _
  · rw [a1, a2, l2, pk_lLT (by omega) (by omega), pk_lEQ (by omega) (by omega)]
    intro z z2
    rw [show R / 4 = (r + 1) / 2 by omega]
    exact fin _ _ _ _ _
  · rw [a1, a2, l2, pk_lLT (by omega) (by omega), pk_lEQ (by omega) (by omega), lN_1]
    intro z z2 _
    rw [show R / 4 + 1 = (r + 1) / 2 by omega]
    exact fin _ _ _ _ _
  · rw [a1, a2, l2, pk_lLT (by omega) (by omega), pk_lEQ (by omega) (by omega)]
    intro z z2 z3
    have := (pk_lEQ (b := 0) (by omega) (by omega)).mp z3
    have := so (by omega)
    omega
  · rw [a1, a2, l2, pk_lLT (by omega) (by omega), pk_lEQ (by omega) (by omega), lN_1]
    intro z z2 z3
    have := (pk_lEQ (b := 0) (by omega) (by omega)).mp z3
    have := so (by omega)
    omega
theorem c_root (hx : x = 0 ∨ (2 ^ 52 ≤ x.toNat ∧ x.toNat < 9218868437227405312)) (hq : Q (some (.double (rtv x))) h) : EV (d + 3) 239 [.double x] h Q := by
  rcases hx with rfl | hx
  · exact w_rt0 0 (fun z => absurd z (by unfold dgt; decide +kernel)) (fun _ => hq)
  · have hn : FP.Core.val64 x ≠ .nan := (FP.Core.ne_nan x).mpr (by omega)
    have n0 : FP.Core.val64 0 ≠ .nan := by decide +kernel
    have kx := dk_pos (x := x) (by omega)
    have ne : ¬ x = 0 := fun z => by rw [z] at hx; exact absurd hx.1 (by decide)
    have ev : rtv x = dv (rtK x.toNat) (rtX x.toNat - 26) := by unfold rtv; rw [if_neg ne]
    rw [ev] at hq
    refine w_rt0 x (fun _ => ?_) (fun z => ?_)
    · refine c_dl (.inr hn) ?_
      show WR (d + 2) cd_239 12 [some (.double x), none, none, none, none, none, none, none, none, none, none, none, none, none, none, none] [.long x.toInt64] h Q
      rw [← lN_i64]
      generalize x.toNat = M at *
      have r0 := fun (b g : Int64) (e : Int32) (hg : g = lN (rtC M)) (he : (e / 2 - 26).toInt = rtX M - 26) => rt_109 (d := d + 2) (Q := Q) (h := h) (x := x) (b := b) (e := e) (rtC_b M).2 (fun i o1 => rt_184 hx he hq) 55 0 26 none rfl rfl
      refine w_rt12 x _ ?_ ?_
      · rw [sh52 (by omega)]
        intro c
        exact absurd c (nI_nle (by omega) (by omega))
      · rw [sh52 (by omega), dg52 (by omega)]
        intro _
        have big : (4503599627370496 : Int64) ≤ lN (M % 2 ^ 52 + 2 ^ 52) := (pk_lLE (a := 4503599627370496) (by omega) (by omega)).mpr (by omega)
        refine w_rt62 x _ _ _ ?_ ?_ (fun w => absurd big w)
        · intro _ c
          have c2 := (par2 (by omega)).mp c
          have eC : rtC M = M % 2 ^ 52 + 2 ^ 52 := by unfold rtC; rw [if_pos c2]
          have := r0 (lN M) (lN (rtC M)) (nI (M / 2 ^ 52) - 1075) rfl (par3 (by omega) c2)
          rw [eC] at this
          exact this
        · intro _ c
          have c2 : ¬ M / 2 ^ 52 % 2 = 1 := fun z => c ((par2 (by omega)).mpr z)
          have eC : rtC M = 2 * (M % 2 ^ 52 + 2 ^ 52) := by unfold rtC; rw [if_neg c2]
          have := r0 (lN M) (lN (rtC M)) (nI (M / 2 ^ 52) - 1075 + (-1)) rfl (par4 (by omega) c2)
          rw [eC] at this
          rw [ls_1]
          exact this
    · exact absurd ((FP.Core.dcmp_gt_key hn n0).mpr (by rw [dk0, kx]; omega)) z
end RR2
