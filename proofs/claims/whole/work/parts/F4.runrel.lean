/-! ===== behind a run the relation holds again ===== -/
section RR
variable {n np : Nat} {ad sa : Nat → Nat} {z0 : Nat} {mid pa : Nat → Nat} {h h2 A C M G : mH} {s0 w m : Nat} {Y : yS} {o : Nat → Nat} {L0 C0 : Nat → Int32}
theorem Rs.wearN (r : Rs ad z0 mid pa np h) (s1 : ∀ a, z0 ≤ a → hT h a ≠ 4 → smA h h2 a) (s1' : ∀ q, q < np → ∀ j, hI h2 (pa q) j = hI h (pa q) j) (sT : hT h2 = hT h) (sZ : hZ h2 = hZ h) (s2 : ∀ t, t < 250 → smT ad h h2 t)
    (s3 : hI h2 (ad 0) 5 = hI h (ad 0) 5) (s4 : hI h2 (ad 30) 6 = hI h (ad 30) 6) (s5 : ∀ j, hI h2 (ad 37) j = hI h (ad 37) j) (s7 : ∀ q, q < np → hL h2 (pa q) 2 = hL h2 (ad 38) q) (c1 : ∀ c, hI h2 (ad 31) c = hI h (ad 31) c) (c2 : ∀ c, hR h2 (ad 1) c = hR h (ad 1) c) : Rs ad z0 mid pa np h2 := by
  obtain ⟨⟨p1, p2, p3, p4, p5⟩, r2, r3, r4⟩ := id r
  have ne : ∀ {a k : Nat}, hT h a = k → k ≠ 4 → hT h a ≠ 4 := fun ha hk => by rw [ha]; exact hk
  have hrow : ∀ t a ln, t < 250 → rowR ad z0 h t a ln → rowR ad z0 h2 t a ln := fun t a ln ht w => w.c (s1 _ w.2.1 (ne w.1 (by decide))) (s1 _ (by have := w.2.1; omega) (ne w.2.2.2.1 (by decide))) (s2 t ht)
  have hl : ∀ t, live ad h2 t → live ad h t := by
    intro t w
    unfold live at w ⊢
    rcases w with ⟨c, w1, w2⟩ | ⟨c, g, i, sz, w1, w2, w3, w4, w5, w6, w7, w8⟩
    · exact .inl ⟨c, w1, (c1 c).symm.trans w2⟩
    · obtain ⟨g1, g2, g3, g4⟩ := s2 g w2
      exact .inr ⟨c, g, i, sz, w1, w2, (c1 c).symm.trans w3, g1.symm.trans w4, g3.symm.trans w5, w6, w7, (g4 i (by omega)).symm.trans w8⟩
  refine ⟨⟨p1, s3.trans p2, s4.trans p3, fun j hj => ?_, p5⟩, fun c hc => ?_, fun t u ht hu l1 l2 => r3 t u ht hu (hl t l1) (hl u l2), by rw [sT, sZ]; exact r4⟩
  · obtain ⟨w1, w2, w3, w4, w5, w6⟩ := p4 j hj
    rw [sT, s5, s1' j hj, s1' j hj]
    exact ⟨w1, w2, w3, w4, w5, s7 j hj⟩
  · rw [c1, c2]
    rcases r2 c hc with w | w | ⟨t, w1, w2, w3, w4⟩
    · exact .inl w
    · exact .inr (.inl w)
    · refine .inr (.inr ⟨t, w1, w2, w3, ?_⟩)
      rcases w4 with ⟨ln, w4⟩ | w4 | w4
      · exact .inl ⟨ln, hrow _ _ _ w1 w4⟩
      · exact .inr (.inl (w4.c (s1 _ w4.2.1 (ne w4.1 (by decide))) (s1 _ (by have := w4.2.1; omega) (ne w4.2.2.2.1 (by decide))) (s2 t w1) (fun _ _ _ _ _ _ ht' _ w => ⟨rfl, hrow _ _ _ ht' w⟩)))
      · exact .inr (.inr (w4.c (s1 _ w4.2.1 (ne w4.1 (by decide))) (s1 _ (by have := w4.2.1; omega) (ne w4.2.2.2.1 (by decide))) (s2 t w1) (Nat.le_refl _) (fun j _ => ⟨rfl, s5 j⟩)))
theorem smC.t {a b c : mH} (x : smC ad a b) (y : smC ad b c) : smC ad a c := ⟨y.1.trans x.1, fun i => (y.2 i).trans (x.2 i)⟩
theorem smM.t {a b c : mH} (x : smM ad a b) (y : smM ad b c) : smM ad a c := ⟨y.1.trans x.1, fun i => (y.2 i).trans (x.2 i)⟩
theorem tag_fx (fx : FX n ad sa z0 h) {i : Nat} (hi : 30 ≤ i) (hi2 : i < 76) : hT h (ad i) ≠ 4 := by
  have k : ∀ i, i < 76 → (decide (i < 30) || fxL.any fun r => r.1 == i && r.2.1 != 4) = true := by decide
  have q := k i hi2
  rw [decide_eq_false (by omega), Bool.false_or, List.any_eq_true] at q
  obtain ⟨r, hr, e⟩ := q
  simp only [Bool.and_eq_true, beq_iff_eq, bne_iff_ne, ne_eq] at e
  have t := (fx.1 r hr).1
  rw [e.1] at t
  rw [t]; exact e.2
theorem run_rel (fx : FX n ad sa z0 h) (rt : Rt ad h) (ra : Ra ad h) (rp : Rp n ad h) (rf : Rf ad h) (rst : Rst sa h) (ru : Ru n ad pa np h) (rs : Rs ad z0 mid pa np h) (hs : s0 + m ≤ 20480) (x : ARR n ad L0 C0 (sI h (ad 0) 6 0) A n) (rc : RV n np ad pa A (s0 + m) (eB ad h m) (eE ad h m) Y C) (rx : RX n np ad (sI C (ad 30) 65 0) o 0 (s0 + m) (eB ad h m) (eE ad h m) Y M) (vY : VI n ad h s0 w m 0 Y) (eG : G = sI M (ad 30) 11 0) : Rel n ad sa z0 G ∧ hZ G = hZ h ∧ hU G = hU h ∧ hI G (ad 30) 63 = nI (s0 + m) := by
  obtain ⟨x1, x2, x3, x4, x5, x6, x7⟩ := x
  obtain ⟨⟨f1, f2, f3, f4, f5⟩, ⟨v1, v2, v3⟩, cw, ctr, cfi, cre⟩ := rc
  obtain ⟨⟨g1, g2, g3, g4, g5⟩, ⟨w1, w3⟩, mw, mtr, mfi, -, mre⟩ := rx
  have n6 := (fx_k fx).2
  have tG : hT G = hT h ∧ hN G = hN h ∧ hZ G = hZ h ∧ hU G = hU h := by
    rw [eG]
    exact ⟨g1.1.trans (f1.1.trans x1.1), g1.2.1.trans (f1.2.1.trans x1.2.1), g1.2.2.1.trans (f1.2.2.1.trans x1.2.2.1), g1.2.2.2.trans (f1.2.2.2.trans x1.2.2.2)⟩
  -- references
  have rG : ∀ a, a ≠ ad 8 → hR G a = hR h a := fun a ha => by
    rw [eG]
    show hR M a = hR h a
    rw [g2]
    show hR C a = hR h a
    rw [f2]; exact x6 a ha
  have fxG : FX n ad sa z0 G := fx_r8 fx tG rG
  -- ints
  have gC : ∀ a j, fmI ad a j → hI G a j = hI C a j := fun a j c => by
    rw [eG, hI_sI, if_neg (fun z => c.1 ⟨z.1, by omega⟩), g3 a j c, hI_sI, if_neg (fun z => c.1 ⟨z.1, by omega⟩)]
  have gM : ∀ i j, ¬ (i = 30 ∧ j = 11) → hI G (ad i) j = hI M (ad i) j := fun i j c => by
    rw [eG, hI_sI, if_neg (fun z => c ⟨fx_inj fx z.1, z.2⟩)]
  have gA : ∀ a j, fcI n ad a j → fmI ad a j → hI G a j = hI A a j := fun a j c1 c2 => (gC a j c2).trans (f3 a j c1)
  have gI : ∀ i j, (¬ (i = 2 ∧ j = 1) ∧ i ≠ 3 ∧ ¬ (i = 4 ∧ (j = 2 ∨ j = 3)) ∧ i ≠ 5) → (¬ (i = 30 ∧ (j = 9 ∨ j = 11 ∨ j = 17 ∨ j = 63 ∨ j = 64 ∨ j = 65)) ∧ i ≠ 39 ∧ i ≠ 66 ∧ i ≠ 74 ∧ i ≠ 75) → ¬ (i = 0 ∧ j = 6) → (i < 100 ∨ (j ≠ 3 ∧ j ≠ 4 ∧ j ≠ 10)) → hI G (ad i) j = hI h (ad i) j := fun i j c1 c2 c3 c4 => by
    rw [gA _ _ (fcI_ad fx c1 (by omega)) (fmI_ad fx c2), x4 _ _ (fun t ht z => by have := fx_inj fx z.1; omega), hI_sI, if_neg (fun z => c3 ⟨fx_inj fx z.1, z.2⟩)]
  have fmI_dy : ∀ a j, z0 ≤ a → fmI ad a j := fun a j ha => ⟨fun e => dy_ad fx (i := 30) (.inl (by decide)) ha e.1, dy_ad fx (.inl (by decide)) ha, dy_ad fx (.inl (by decide)) ha, dy_ad fx (.inl (by decide)) ha, dy_ad fx (.inl (by decide)) ha⟩
  have gdy : ∀ a j, z0 ≤ a → hI G a j = hI h a j := fun a j ha => by
    rw [gA _ _ (fcI_dy fx ha) (fmI_dy a j ha), x4 _ _ (fun t ht z => dy_ad fx (i := 100 + 5 * t) (.inr ⟨by omega, by omega⟩) ha z.1), I_ne (dy_ad fx (.inl (by decide)) ha)]
  -- longs
  have gLC : ∀ a j, fmQ ad a j → hL G a j = hL C a j := fun a j c => by
    rw [eG]
    show hL M a j = _
    rw [g4 a j c]; rfl
  have gL : ∀ a j, fcL n ad A a j → fmQ ad a j → hL G a j = hL h a j := fun a j c1 c2 => by
    rw [gLC a j c2, f4 a j c1, x3]; rfl
  have gLi : ∀ i j, i ≠ 30 → i ≠ 38 → i ≠ 64 → i ≠ 65 → 30 ≤ i → i < 76 → hL G (ad i) j = hL h (ad i) j := fun i j h1 h2 h3 h4 h5 h6 => gL _ _ ⟨fx_ne fx (by omega), fun t ht => ⟨fun e => by have := fx_inj fx e.1; omega, fx_ne fx (by omega), fx_ne fx (by omega)⟩, fun e => by have t4 := e.1; rw [x1.1] at t4; exact tag_fx fx h5 h6 t4⟩ ⟨fun e => h1 (fx_inj fx e.1), fx_ne fx h2, fx_ne fx h3, fx_ne fx h4⟩
  have fmQ_dy : ∀ a j, z0 ≤ a → fmQ ad a j := fun a j ha => ⟨fun e => dy_ad fx (i := 30) (.inl (by decide)) ha e.1, dy_ad fx (.inl (by decide)) ha, dy_ad fx (.inl (by decide)) ha, dy_ad fx (.inl (by decide)) ha⟩
  have gLd : ∀ a j, z0 ≤ a → hT h a ≠ 4 → hL G a j = hL h a j := fun a j ha h4 => gL a j ⟨dy_ad fx (.inl (by decide)) ha, fun t ht => ⟨fun e => dy_ad fx (i := 100 + 5 * t) (d_T ht 0 (by decide)) ha e.1, dy_ad fx (d_T ht 3 (by decide)) ha, dy_ad fx (d_T ht 4 (by decide)) ha⟩, fun e => by have t4 := e.1; rw [x1.1] at t4; exact h4 t4⟩ (fmQ_dy a j ha)
  have fmQ_T : ∀ t k j, k < 5 → fmQ ad (ad (100 + k + 5 * t)) j := fun t k j hk => ⟨fun e => by have := fx_inj fx e.1; omega, fx_ne fx (by omega), fx_ne fx (by omega), fx_ne fx (by omega)⟩
  have gLM : ∀ a j, hL G a j = hL M a j := fun a j => by rw [eG]; rfl
  -- doubles
  have gDC : ∀ t j, hD G (ad (100 + 5 * t)) j = hD C (ad (100 + 5 * t)) j := fun t j => by
    rw [eG]
    show hD M _ j = _
    rw [g5 _ _ ⟨fx_ne fx (by omega), fun r hr => fx_ne fx (by unfold qOK at hr; omega)⟩]; rfl
  have gDM : ∀ a j, hD G a j = hD M a j := fun a j => by rw [eG]; rfl
  have gDi : ∀ i j, i ≠ 42 → ¬ qOK i → i < 100 → hD G (ad i) j = hD h (ad i) j := fun i j h1 h2 h3 => by
    rw [gDM, g5 _ _ (fmD_ad fx ⟨h1, h2⟩)]
    show hD C _ j = _
    rw [f5 _ _ (fun t ht z => by have := fx_inj fx z.1; omega), x2]; rfl
  have e63 : hI G (ad 30) 63 = nI (s0 + m) := (gM 30 63 (by omega)).trans mfi.2.1
  refine ⟨⟨mid, pa, np, fxG, ?_, ?_, ?_, ?_, ?_, ?_, ?_, ?_⟩, tG.2.2.1, tG.2.2.2, e63⟩
  · -- why
    unfold Ry
    rw [gA _ _ (fcI_ad fx (by omega) (.inl (by decide))) (fmI_ad fx (by omega)), x4 _ _ (fun t ht z => by have := fx_inj fx z.1; omega), I_eq, eG, I_eq]
  · -- the trace
    have cA : smC ad h A := ⟨by rw [x4 _ _ (fun t ht z => by have := fx_inj fx z.1; omega), I_ne (fx_ne fx (by decide))], fun i => by rw [x4 _ _ (fun t ht z => by have := fx_inj fx z.1; omega), I_ne (fx_ne fx (by decide))]⟩
    have cG : smC ad C G := ⟨gC _ _ (fmI_ad fx (by omega)), fun i => gC _ _ (fmI_ad fx (by omega))⟩
    have mX : smM ad h (sI C (ad 30) 65 0) := ⟨by rw [I_nk (by decide), f3 _ _ (fcI_ad fx (by omega) (.inl (by decide))), x4 _ _ (fun t ht z => by have := fx_inj fx z.1; omega), I_ne (fx_ne fx (by decide))], fun i => by rw [I_ne (fx_ne fx (by decide)), f3 _ _ (fcI_ad fx (by omega) (.inl (by decide))), x4 _ _ (fun t ht z => by have := fx_inj fx z.1; omega), I_ne (fx_ne fx (by decide))]⟩
    have mG : smM ad M G := ⟨gM 30 9 (by omega), fun i => gM 39 i (by omega)⟩
    exact Rt.ps fx rt (yT Y) (((smC.ps (fx_ne fx (by decide)) (yT Y) cA).t ctr).t cG) (((smM.ps (fx_ne fx (by decide)) (yT Y) mX).t mtr).t mG)
  · -- acts
    unfold Ra at ra ⊢
    rw [gI 9 8 (by omega) (by omega) (by omega) (by omega), gI 9 9 (by omega) (by omega) (by omega) (by omega), gI 9 10 (by omega) (by omega) (by omega) (by omega), gI 9 12 (by omega) (by omega) (by omega) (by omega), gI 9 13 (by omega) (by omega) (by omega) (by omega), gI 9 11 (by omega) (by omega) (by omega) (by omega), gI 30 42 (by omega) (by omega) (by omega) (by omega), gI 30 31 (by omega) (by omega) (by omega) (by omega), gI 30 32 (by omega) (by omega) (by omega) (by omega), gI 30 34 (by omega) (by omega) (by omega) (by omega), gI 30 43 (by omega) (by omega) (by omega) (by omega), gI 30 35 (by omega) (by omega) (by omega) (by omega)]
    obtain ⟨a1, a2, a3, a4, a5, s, a6, a7, a8, a9⟩ := ra
    exact ⟨a1, a2, a3, a4, a5, s, a6, a7, a8, fun i h1 h2 => by rw [gI 12 i (by omega) (by omega) (by omega) (by omega), gI 53 i (by omega) (by omega) (by omega) (by omega)]; exact a9 i h1 h2⟩
  · -- plans
    intro p hp
    obtain ⟨l, a1, a2, a3, a4⟩ := rp p hp
    refine ⟨l, a1, by rw [gI 11 p (by omega) (by omega) (by omega) (by omega)]; exact a2, by rw [gI 43 p (by omega) (by omega) (by omega) (by omega)]; exact a3, fun s hs' => ?_⟩
    have t10 : ∀ j, hI G (ad 10) j = hI h (ad 10) j := fun j => gI 10 j (by omega) (by omega) (by omega) (by omega)
    have t44 : ∀ j, hI G (ad 44) j = hI h (ad 44) j := fun j => gI 44 j (by omega) (by omega) (by omega) (by omega)
    have t45 : ∀ j, hI G (ad 45) j = hI h (ad 45) j := fun j => gI 45 j (by omega) (by omega) (by omega) (by omega)
    have t46 : ∀ j, hI G (ad 46) j = hI h (ad 46) j := fun j => gI 46 j (by omega) (by omega) (by omega) (by omega)
    have t47 : ∀ j, hI G (ad 47) j = hI h (ad 47) j := fun j => gI 47 j (by omega) (by omega) (by omega) (by omega)
    rw [t10, t10, t10, t10, t44, t45, t46, t47]
    exact a4 s hs'
  · -- the farm
    unfold Rf at rf ⊢
    obtain ⟨-, -, b3, b4⟩ := rf
    refine ⟨⟨yK Y, vY.2.2.1, ?_, ?_, fun i hi => ?_⟩, ?_, ?_, ?_⟩
    · rw [gC _ _ (fmI_ad fx (by omega))]; exact cfi.1
    · rw [gM 30 64 (by omega)]; exact mfi.1
    · rw [gC _ _ (fmI_ad fx (by omega)), gM 74 i (by omega), cfi.2.2 i hi, mfi.2.2.2 i hi]
    · rw [e63, gC _ _ (fmI_ad fx (by omega))]; exact cfi.2.1
    · rw [gI 4 4 (by omega) (by omega) (by omega) (by omega), gI 30 61 (by omega) (by omega) (by omega) (by omega)]; exact b3
    · rw [gI 4 5 (by omega) (by omega) (by omega) (by omega), gI 30 62 (by omega) (by omega) (by omega) (by omega)]; exact b4
  · -- the tables
    intro j hj i hi
    have ne : ∀ k, dom n k → sa j ≠ ad k := fun k hk => (fx_lt fx hk).2.2 j hj
    rw [gA _ _ (fcI_sa fx hj) ⟨fun e => ne 30 (.inl (by decide)) e.1, ne 39 (.inl (by decide)), ne 66 (.inl (by decide)), ne 74 (.inl (by decide)), ne 75 (.inl (by decide))⟩, x4 _ _ (fun t ht z => ne (100 + 5 * t) (d_T ht 0 (by decide)) z.1), I_ne (ne 0 (.inl (by decide)))]
    exact rst j hj i hi
  · -- turbines
    refine ⟨by rw [gI 30 12 (by omega) (by omega) (by omega) (by omega)]; exact ru.1, fun t ht => ?_⟩
    obtain ⟨⟨a1, a2, a3, a4⟩, ⟨a5, a6⟩, -, -, ⟨-, -, -, -, -, a17, -⟩, are, asl⟩ := ru.2 t ht
    obtain ⟨jt, hj, ej⟩ := srtL_su (L := eLn n ad h w) n t ht
    have ej : eOr n ad h w jt = t := ej
    have vt := vY.2.1 jt (Nat.zero_le _) hj
    rw [ej] at vt
    have d71 : hD G (ad 71) t = hD h (ad 71) t := gDi 71 t (by decide) (by unfold qOK; omega) (by decide)
    have dq : ∀ r, qOK r → hD G (ad r) t = yD Y r t := fun r hr => by rw [gDM]; exact w3 r hr t ht
    have cq : ∀ r, rOK r → hD G (ad (100 + 5 * t)) (fd r) = yD Y r t := fun r hr => by rw [gDC]; exact v3 r hr t ht
    refine ⟨⟨?_, ?_, ?_, ?_⟩, ⟨?_, ?_⟩, ⟨?_, yA Y t, vt.1, ?_⟩, ⟨?_, ?_⟩, ⟨?_, ?_, ?_, ?_, ?_, ?_, s0 + m, e63, hs, ?_⟩, fun s hs3 => ?_, fun s hs5 => ?_⟩
    · rw [gI _ 0 (by omega) (by omega) (by omega) (by omega)]; exact a1
    · rw [gI _ 1 (by omega) (by omega) (by omega) (by omega), gI 61 t (by omega) (by omega) (by omega) (by omega)]; exact a2
    · rw [gI _ 2 (by omega) (by omega) (by omega) (by omega), gI 62 t (by omega) (by omega) (by omega) (by omega)]; exact a3
    · rw [gI 61 t (by omega) (by omega) (by omega) (by omega), gI 62 t (by omega) (by omega) (by omega) (by omega)]; exact a4
    · rw [gI _ 9 (by omega) (by omega) (by omega) (by omega)]; exact a5
    · rw [gI 56 t (by omega) (by omega) (by omega) (by omega)]; exact a6
    · rw [gC _ _ (fmI_ad fx (by omega)), gM 66 t (by omega), v1 t ht, w1 t ht]
    · rw [gM 66 t (by omega)]; exact w1 t ht
    · rw [gLC _ _ (fmQ_T t 0 11 (by decide)), dq 72 (.inr (.inl rfl))]; exact v2 t ht
    · rw [dq 72 (.inr (.inl rfl))]; exact vt.2.1
    · rw [dq 73 (.inr (.inr rfl))]; exact cq 73 (.inr rfl)
    · rw [dq 67 (.inl (by decide))]; exact cq 67 (.inl (by decide))
    · rw [dq 68 (.inl (by decide))]; exact cq 68 (.inl (by decide))
    · rw [dq 69 (.inl (by decide))]; exact cq 69 (.inl (by decide))
    · rw [dq 70 (.inl (by decide))]; exact cq 70 (.inl (by decide))
    · rw [d71, gDC, f5 _ _ (fun u hu z => absurd z.2.2 (by decide)), x2]; exact a17
    · rw [d71, dq 73 (.inr (.inr rfl)), dq 67 (.inl (by decide)), dq 68 (.inl (by decide)), dq 69 (.inl (by decide)), dq 70 (.inl (by decide))]
      exact vt.2.2
    · obtain ⟨q1, q2, -⟩ := are s hs3
      have d63 : hD G (ad 63) (3 * t + s) = hD h (ad 63) (3 * t + s) := gDi 63 _ (by decide) (by unfold qOK; omega) (by decide)
      have l2 : hL G (ad (102 + 5 * t)) s = hL h (ad (102 + 5 * t)) s := gL _ _ ⟨fx_ne fx (by omega), fun u hu => ⟨fun e => by have := fx_inj fx e.1; omega, fx_ne fx (by omega), fx_ne fx (by omega)⟩, fun e => by have t4 := e.1; rw [x1.1] at t4; have q := (fx_tb fx t ht).2.2.2.1.1; have t4 : hT h (ad (102 + 5 * t)) = 4 := t4; rw [q] at t4; exact absurd t4 (by decide)⟩ (fmQ_T t 2 s (by decide))
      rw [d63, l2, gLC _ _ (fmQ_T t 3 s (by decide)), gLC _ _ (fmQ_T t 4 s (by decide)), gLM, gLM, (cre t s ht hs3).1, (cre t s ht hs3).2, (mre t s ht hs3).1, (mre t s ht hs3).2]
      exact ⟨q1, q2, rfl, rfl⟩
    · rw [gI 57 _ (by omega) (by omega) (by omega) (by omega), rG _ (fx_ne fx (by omega))]; exact asl s hs5
  · -- the store
    have z0d : ∀ a, z0 ≤ a → a ≠ ad 8 := fun a ha => dy_ad fx (.inl (by decide)) ha
    obtain ⟨p1, p2, p3, p4, p5⟩ := rs.1
    refine Rs.wearN rs (fun a ha h4 => ⟨by rw [tG.1], by rw [tG.2.1], funext fun j => gdy a j ha, funext fun j => gLd a j ha h4, rG a (z0d a ha)⟩) (fun q hq j => gdy _ _ (p4 q hq).2.1) tG.1 tG.2.2.1 (fun t ht => ⟨gI 33 t (by omega) (by omega) (by omega) (by omega), gI 34 t (by omega) (by omega) (by omega) (by omega), gI 35 t (by omega) (by omega) (by omega) (by omega), fun i hi => gLi 36 _ (by decide) (by decide) (by decide) (by decide) (by decide) (by decide)⟩) (gI 0 5 (by omega) (by omega) (by omega) (by omega)) (gI 30 6 (by omega) (by omega) (by omega) (by omega)) (fun j => gI 37 j (by omega) (by omega) (by omega) (by omega)) (fun q hq => ?_) (fun c => gI 31 c (by omega) (by omega) (by omega) (by omega)) (fun c => by rw [rG _ (fx_ne fx (by decide))])
    rw [gLC _ _ (fmQ_dy _ _ (p4 q hq).2.1), gLM, cw q hq, mw q hq]
end RR
