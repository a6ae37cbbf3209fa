/-! ===== run ===== -/
section KR
variable {n np : Nat} {ad sa : Nat → Nat} {z0 : Nat} {mid pa : Nat → Nat} {h A C : mH} {s0 w m st : Nat} {Y : yS} {B E : Nat → Int64} {L0 C0 : Nat → Int32} {o : Nat → Nat}
theorem mx_h (fx : FX n ad sa z0 h) (rt : Rt ad h) (rf : Rf ad h) (ru : Ru n ad pa np h) (rs : Rs ad z0 mid pa np h) (e63 : hI h (ad 30) 63 = nI s0) (x : ARR n ad L0 C0 (sI h (ad 0) 6 0) A n) (f : FRC n ad A C) : MW n ad sa z0 h (sI C (ad 30) 65 0) ∧ RX n np ad (sI C (ad 30) 65 0) o 0 s0 (eB ad h 0) (eE ad h 0) (yS0 ad h) (sI C (ad 30) 65 0) := by
  obtain ⟨x1, x2, x3, x4, x5, x6, x7⟩ := x
  obtain ⟨f1, f2, f3, f4, f5⟩ := id f
  have fxA : FX n ad sa z0 A := fx_r8 (H := sI h (ad 0) 6 0) (FX.sI fx) x1 x6
  have hi : ∀ i j, 30 ≤ i → i < 76 → ¬ (i = 30 ∧ j = 65) → hI (sI C (ad 30) 65 0) (ad i) j = hI h (ad i) j := fun i j h1 h2 h3 => by
    rw [hI_sI, if_neg (fun z => h3 ⟨fx_inj fx z.1, z.2⟩), f3 _ _ (fcI_ad fx (by omega) (.inl (by omega))), x4 _ _ (fun t ht z => by have := fx_inj fx z.1; omega), I_ne (fx_ne fx (by omega))]
  have hl : ∀ i j, 30 ≤ i → i < 76 → hL (sI C (ad 30) 65 0) (ad i) j = hL h (ad i) j := fun i j h1 h2 => by
    show hL C (ad i) j = _
    rw [f4 _ _ ⟨fx_ne fx (by omega), fun t ht => ⟨fun e => by have := fx_inj fx e.1; omega, fx_ne fx (by omega), fx_ne fx (by omega)⟩, fun e => by have t4 := e.1; rw [x1.1] at t4; exact tag_fx fx h1 h2 t4⟩, x3]; rfl
  have hd : ∀ i j, 30 ≤ i → i < 76 → hD (sI C (ad 30) 65 0) (ad i) j = hD h (ad i) j := fun i j h1 h2 => by
    show hD C (ad i) j = _
    rw [f5 _ _ (fun t ht z => by have := fx_inj fx z.1; omega), x2]; rfl
  have t0 : 0 ≤ hI (sI C (ad 30) 65 0) (ad 30) 9 := by
    obtain ⟨kk, k1, -, k2, -⟩ := rt
    rw [hi 30 9 (by decide) (by decide) (by omega), k2]
    exact Int32.not_lt.mp (nI_pos (by omega))
  refine ⟨⟨FX.sI (f.fx fxA), t0, hi, hl, hd⟩, FRM.rf, ⟨fun t ht => ?_, fun r hr t ht => ?_⟩, fun q hq => hl 38 q (by decide) (by decide), ⟨rfl, fun _ => rfl⟩, ⟨?_, ?_, I_eq, fun i _ => hi 74 i (by decide) (by decide) (by omega)⟩, fun i hi' => absurd hi' (by omega), fun t s ht hs3 => ⟨hl 64 _ (by decide) (by decide), hl 65 _ (by decide) (by decide)⟩⟩
  · obtain ⟨-, -, ⟨-, s, s4, es⟩, -⟩ := ru.2 t ht
    rw [hi 66 t (by decide) (by decide) (by omega)]
    show _ = nI (hI h (ad 66) t).toNatClampNeg
    rw [es, nI_clamp (by omega)]
  · exact hd r t (by unfold qOK at hr; omega) (by unfold qOK at hr; omega)
  · obtain ⟨f, f4', f5', f6, f7⟩ := rf.1
    rw [hi 30 64 (by decide) (by decide) (by omega)]
    show _ = nI (hI h (ad 30) 64).toNatClampNeg
    rw [f6, nI_clamp (by omega)]
  · rw [hi 30 63 (by decide) (by decide) (by omega)]; exact e63
theorem v_l {v : Int32} : (v.toInt64 < 1 ↔ v < 1) ∧ (40 < v.toInt64 ↔ ¬ v ≤ 40) := by
  have a : (1 : Int64).toInt = 1 := rfl
  have b : (40 : Int64).toInt = 40 := rfl
  have a' : (1 : Int32).toInt = 1 := rfl
  have b' : (40 : Int32).toInt = 40 := rfl
  rw [Int64.lt_iff_toInt_lt, Int64.lt_iff_toInt_lt, Int32.lt_iff_toInt_lt, Int32.le_iff_toInt_le, Int32.toInt_toInt64, a, b, a', b']
  exact ⟨Iff.rfl, by omega⟩
end KR
theorem k_run {n : Nat} {ad sa : Nat → Nat} {z0 : Nat} {h : mH} (r : Rel n ad sa z0 h) (v : Int32) {s0 : Nat} (e63 : hI h (ad 30) 63 = nI s0) (hs : s0 + 40 ≤ 20480) : EV 100 125 [.ref (ad 0), .int v] h (fun a h1 => EV 100 230 [.ref (ad 30), .int v] h1 (fun b h2 => (b = a ∧ Rel n ad sa z0 h2 ∧ hZ h2 ≤ hZ h + 20 ∧ hU h2 ≤ hU h + 150) ∧ ∃ s', hI h2 (ad 30) 63 = nI s' ∧ s' ≤ s0 + 40)) := by
  obtain ⟨mid, pa, np, fx, ry, rt, ra, rp, rf, rst, ru, rs⟩ := id r
  have bad : (v.toInt64 < 1 ∨ 40 < v.toInt64) → EV 100 230 [.ref (ad 30), .int v] (sI (sI h (ad 0) 6 0) (ad 0) 6 (-3)) (fun b h2 => (b = some (.int (-3)) ∧ Rel n ad sa z0 h2 ∧ hZ h2 ≤ hZ h + 20 ∧ hU h2 ≤ hU h + 150) ∧ ∃ s', hI h2 (ad 30) 63 = nI s' ∧ s' ≤ s0 + 40) := by
    intro hc
    have fin : (some (Value.int (-3)) = some (Value.int (-3)) ∧ Rel n ad sa z0 (sI (sI (sI h (ad 0) 6 0) (ad 0) 6 (-3)) (ad 30) 11 (-3)) ∧ hZ (sI (sI (sI h (ad 0) 6 0) (ad 0) 6 (-3)) (ad 30) 11 (-3)) ≤ hZ h + 20 ∧ hU (sI (sI (sI h (ad 0) 6 0) (ad 0) 6 (-3)) (ad 30) 11 (-3)) ≤ hU h + 150) ∧ ∃ s', hI (sI (sI (sI h (ad 0) 6 0) (ad 0) 6 (-3)) (ad 30) 11 (-3)) (ad 30) 63 = nI s' ∧ s' ≤ s0 + 40 :=
      ⟨⟨rfl, Rel.why r (((Chg.rf.sI (fx_j fx) (.inl (by decide))).sI (fx_j fx) (.inl (by decide))).sI (fx_j fx) (.inl (by decide))) ⟨rfl, by decide⟩ (Eq.trans (Eq.trans (I_ne (fx_ne fx (by decide))) I_eq) (Eq.symm I_eq)), Nat.le_add_right _ _, Nat.le_add_right _ _⟩, s0, by rw [I_nk (by decide), I_ne (fx_ne fx (by decide)), I_ne (fx_ne fx (by decide))]; exact e63, by omega⟩
    refine w_mr0 (d := 98) (FX.sI (FX.sI fx)) (fun _ => fin) (fun _ _ => fin) (fun c1 c2 => ?_)
    rcases hc with c | c
    · exact absurd c c1
    · exact absurd c c2
  refine w_ru0 (d := 98) fx (fun c => ?_) (fun c1 c2 => ?_) (fun c1 c2 => ?_)
  · exact bad (.inl (v_l.1.mpr c))
  · -- a run
    obtain ⟨m, m1, m4, rfl⟩ : ∃ m, 1 ≤ m ∧ m ≤ 40 ∧ v = nI m := by
      have a' : (1 : Int32).toInt = 1 := rfl
      have b' : (40 : Int32).toInt = 40 := rfl
      rw [Int32.lt_iff_toInt_lt, a'] at c1
      rw [Int32.le_iff_toInt_le, b'] at c2
      refine ⟨v.toInt.toNat, by omega, by omega, i_inj ?_⟩
      rw [nI_toInt (by omega)]; omega
    obtain ⟨w, w8, ew⟩ := rf.2.2.1.2
    have ok := ok_h fx rf ru rs e63 w8 ew
    have vi := vi_h (w := w) fx rf ru e63 (by omega)
    have fx0 : FX n ad sa z0 (sI h (ad 0) 6 0) := FX.sI fx
    refine w_go0 (d := 98) fx0 (c_arr (d := 97) (w := w) (L := fun t => lnP (hI h (ad (100 + 5 * t)) 1) (hI h (ad (100 + 5 * t)) 2) w) (C := fun t => crP (hI h (ad (100 + 5 * t)) 1) (hI h (ad (100 + 5 * t)) 2) w) fx0 (by rw [I_ne (fx_ne fx (by decide))]; exact ew) w8 (fun j hj i hi => by rw [I_ne ((fx_lt fx (i := 0) (.inl (by decide))).2.2 j hj)]; exact rst j hj i hi) (fun t => by rw [I_ne (fx_ne fx (by omega)), I_ne (fx_ne fx (by omega))]) (fun t => by rw [I_ne (fx_ne fx (by omega)), I_ne (fx_ne fx (by omega))]) (fun A x => ?_))
    obtain ⟨kw, wh, rv⟩ := go_h (w := w) (pa := pa) (np := np) (mid := mid) fx rt rf rst ru rs e63 (by omega) (fun _ => rfl) (fun _ => rfl) x
    refine w_go4 (d := 98) kw.1 (c_lopr (d := 93) (m := m) kw ok wh m4 (by omega) vi rv rfl (fun C rc => ?_) _)
    refine w_ru1 (d := 99) (rc.1.fx kw.1) ?_
    obtain ⟨mw, rx0⟩ := mx_h (o := eOr n ad h w) fx rt rf ru rs e63 x rc.1
    refine w_mr0 (d := 98) (rc.1.fx kw.1) (fun c => absurd (v_l.1.mp c) c1) (fun _ c => absurd c2 (v_l.2.mp c)) (fun _ _ => ?_)
    refine m_lopr (d := 94) (m := m) mw ok m4 (by omega) vi rx0 (fun M rx => ?_) _
    have vY := VI.run (s0 := s0) ok vi m (by omega)
    obtain ⟨q1, q2, q3, q4⟩ := run_rel (G := sI M (ad 30) 11 0) fx rt ra rp rf rst ru rs (by omega) x rc rx vY rfl
    exact ⟨⟨rfl, q1, by rw [q2]; omega, by rw [q3]; omega⟩, s0 + m, q4, by omega⟩
  · exact bad (.inr (v_l.2.mpr c2))
