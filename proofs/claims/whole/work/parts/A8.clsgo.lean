/-! ===== the class's plans, by the pure picture ===== -/
/-- the class does a plan, and m plans more may lie in each other -/
def CPL (n np : Nat) (ad mid pa : Nat → Nat) (LV : Nat → Prop) (P : aP) (h : mH) (d m : Nat) : Prop := ∀ p hc S (Q : mQ), p < 10 → RC n np ad mid pa LV P h hc 0 S → VS n np LV 0 S → (∀ hc' f, f = (gPln P m p S).1 → RC n np ad mid pa LV P h hc' 0 (gPln P m p S).2.2 → (f = 1 → hI hc' (ad 9) 8 = (gPln P m p S).2.1) → Q (some (.int f)) hc') → EV d 101 [.ref (ad 9), .int (nI p), .int (nI (9 - m))] hc Q
section CPS
variable {n np : Nat} {ad sa : Nat → Nat} {z0 : Nat} {mid pa : Nat → Nat} {LV : Nat → Prop} {P : aP} {h hc hc' : mH} {w : Nat} {S T : aS} {Q : mQ} {e m p i : Nat}
theorem c_s4 (ih : CPL n np ad mid pa LV P h (e + 7) m) (m8 : m < 8) (fx : FX n ad sa z0 h) (cw : CW np ad mid pa LV P h sa z0) (vp : VP n np LV P) (r : RC n np ad mid pa LV P h hc 1 T) (v : VS n np LV 1 T) (hp : p < 10) (hi : i < P.len p) (e4 : P.op (16 * p + i) = 4)
    (hQ : ∀ hc' f, f = (gStp (gPln P m) P (16 * p + i) T).1 → RC n np ad mid pa LV P h hc' 0 (gStp (gPln P m) P (16 * p + i) T).2.2 → (f = 1 → hI hc' (ad 9) 8 = (gStp (gPln P m) P (16 * p + i) T).2.1) → Q (some (.int f)) hc') : EV (e + 9) 102 [.ref (ad 9), .int (nI (64 * p + 4 * i)), .int (nI (8 - m))] hc Q := by
  have l16 := (vp.2.2.1 p hp).1
  have n6 := vp.2.1
  obtain ⟨o13, ok⟩ := (vp.2.2.1 p hp).2 i hi
  have hA : 64 * p + 4 * i + 3 < 640 := by omega
  have fxc := r.1.fx fx
  have kp : ∀ j, hI hc (ad 10) j = hI h (ad 10) j := fun j => r.1.2.2.1 (ad 10) j (cI_ad fx (by decide) (by decide))
  obtain ⟨s0, s1, s2, s3⟩ := (cw.2.2.2.2.2 p hp).2 i hi
  rw [← kp] at s0 s1 s2 s3
  have ed : 8 - m + 1 = 9 - m := by omega
  have vw := v.wk
  have rw' := r.wk
  have gok := gPln_ok vp m
  have eu : gStp (gPln P m) P (16 * p + i) T = (1, P.a (16 * p + i), T) := by unfold gStp; rw [if_pos e4]
  rw [eu] at hQ
  rw [e4] at s0
  obtain ⟨f5, f6⟩ := r.f5 fx cw
  exact w_c4 (d := e + 8) fxc hA f5 f6 s0 s1 s2 s3 (hQ _ _ rfl (rw'.ans fx) (fun _ => I_eq))
theorem c_s7 (ih : CPL n np ad mid pa LV P h (e + 7) m) (m8 : m < 8) (fx : FX n ad sa z0 h) (cw : CW np ad mid pa LV P h sa z0) (vp : VP n np LV P) (r : RC n np ad mid pa LV P h hc 1 T) (v : VS n np LV 1 T) (hp : p < 10) (hi : i < P.len p) (e7 : P.op (16 * p + i) = 7)
    (hQ : ∀ hc' f, f = (gStp (gPln P m) P (16 * p + i) T).1 → RC n np ad mid pa LV P h hc' 0 (gStp (gPln P m) P (16 * p + i) T).2.2 → (f = 1 → hI hc' (ad 9) 8 = (gStp (gPln P m) P (16 * p + i) T).2.1) → Q (some (.int f)) hc') : EV (e + 9) 102 [.ref (ad 9), .int (nI (64 * p + 4 * i)), .int (nI (8 - m))] hc Q := by
  have l16 := (vp.2.2.1 p hp).1
  have n6 := vp.2.1
  obtain ⟨o13, ok⟩ := (vp.2.2.1 p hp).2 i hi
  have hA : 64 * p + 4 * i + 3 < 640 := by omega
  have fxc := r.1.fx fx
  have kp : ∀ j, hI hc (ad 10) j = hI h (ad 10) j := fun j => r.1.2.2.1 (ad 10) j (cI_ad fx (by decide) (by decide))
  obtain ⟨s0, s1, s2, s3⟩ := (cw.2.2.2.2.2 p hp).2 i hi
  rw [← kp] at s0 s1 s2 s3
  have ed : 8 - m + 1 = 9 - m := by omega
  have vw := v.wk
  have rw' := r.wk
  have gok := gPln_ok vp m
  have ha := ofP (ok.2.2.1 (congrArg nI e7))
  rw [e7] at s0
  rw [ha.2] at s1
  rw [gS_7u e7] at hQ
  refine w_s7 (d := e + 8) fxc hA s0 s1 s2 s3 (w_fl (d := e + 7) fxc ?_)
  rw [ed]
  refine ih _ hc T _ ha.1 rw' vw (fun hc1 f ef r1 a1 => ?_)
  generalize gPln P m (P.a (16 * p + i)).toNatClampNeg T = R at *
  have fx1 := r1.1.fx fx
  refine w_flr (d := e + 7) fx1 (fun f1 => ?_) (fun fn => ?_)
  · rw [if_pos (ef.symm.trans f1)] at hQ
    refine w_sr155 (d := e + 8) (FX.sI fx1) (hQ _ _ rfl ?_ (fun z => absurd z (by decide)))
    rw [a1 f1]
    exact r1.lst fx
  · rw [if_neg (fun z => fn (ef.trans z))] at hQ
    exact w_sr155 (d := e + 8) fx1 (hQ _ _ ef r1 a1)
theorem c_s8 (ih : CPL n np ad mid pa LV P h (e + 7) m) (m8 : m < 8) (fx : FX n ad sa z0 h) (cw : CW np ad mid pa LV P h sa z0) (vp : VP n np LV P) (r : RC n np ad mid pa LV P h hc 1 T) (v : VS n np LV 1 T) (hp : p < 10) (hi : i < P.len p) (e8 : P.op (16 * p + i) = 8)
    (hQ : ∀ hc' f, f = (gStp (gPln P m) P (16 * p + i) T).1 → RC n np ad mid pa LV P h hc' 0 (gStp (gPln P m) P (16 * p + i) T).2.2 → (f = 1 → hI hc' (ad 9) 8 = (gStp (gPln P m) P (16 * p + i) T).2.1) → Q (some (.int f)) hc') : EV (e + 9) 102 [.ref (ad 9), .int (nI (64 * p + 4 * i)), .int (nI (8 - m))] hc Q := by
  have l16 := (vp.2.2.1 p hp).1
  have n6 := vp.2.1
  obtain ⟨o13, ok⟩ := (vp.2.2.1 p hp).2 i hi
  have hA : 64 * p + 4 * i + 3 < 640 := by omega
  have fxc := r.1.fx fx
  have kp : ∀ j, hI hc (ad 10) j = hI h (ad 10) j := fun j => r.1.2.2.1 (ad 10) j (cI_ad fx (by decide) (by decide))
  obtain ⟨s0, s1, s2, s3⟩ := (cw.2.2.2.2.2 p hp).2 i hi
  rw [← kp] at s0 s1 s2 s3
  have ed : 8 - m + 1 = 9 - m := by omega
  have vw := v.wk
  have rw' := r.wk
  have gok := gPln_ok vp m
  obtain ⟨q1, q2, q3, q4⟩ := ok.2.2.2.1 (congrArg nI e8)
  have ha := ofP q1
  have hcc := ofP q2
  rw [e8] at s0
  rw [ha.2] at s1
  rw [hcc.2] at s3
  rw [gS_8u e8] at hQ
  obtain ⟨va, oa, -⟩ := gok (P.a (16 * p + i)).toNatClampNeg T ha.1 vw
  refine w_s8 (d := e + 8) fxc hA s0 s1 s2 s3 (w_ty (d := e + 7) fxc ?_)
  rw [ed]
  refine ih _ hc T _ ha.1 rw' vw (fun hc1 f ef r1 a1 => ?_)
  generalize gPln P m (P.a (16 * p + i)).toNatClampNeg T = R at *
  have fx1 := r1.1.fx fx
  have two : R.1 < 0 ∧ R.1 ≠ -19 ∧ (P.b (16 * p + i) = 0 ∨ R.1 = -10 - P.b (16 * p + i)) → EV (e + 7) 101 [.ref (ad 9), .int (nI (P.c (16 * p + i)).toNatClampNeg), .int (nI (8 - m + 1))] hc1 (fun v_ h_ => WR (e + 7) cd_111 57 [some (.ref (ad 9)), some (.int (nI (P.a (16 * p + i)).toNatClampNeg)), some (.int (P.b (16 * p + i))), some (.int (nI (P.c (16 * p + i)).toNatClampNeg)), some (.int (nI (8 - m))), some (.int f), some (.int 1)] (v_.toList ++ []) h_ (fun v_ h_ => WR (e + 8) cd_102 166 [some (.ref (ad 9)), some (.int (nI (64 * p + 4 * i))), some (.int (nI (8 - m))), some (.int (nI (P.a (16 * p + i)).toNatClampNeg)), some (.int (P.b (16 * p + i))), some (.int (nI (P.c (16 * p + i)).toNatClampNeg))] (v_.toList ++ []) h_ Q)) := by
    intro cd
    rw [if_pos cd] at hQ
    rw [ed]
    exact ih _ hc1 R.2.2 _ hcc.1 r1 va (fun hc2 f2 ef2 r2 a2 => w_tyz (d := e + 7) (r2.1.fx fx) (w_sr166 (d := e + 8) (r2.1.fx fx) (hQ _ _ ef2 r2 a2)))
  have one : ¬ (R.1 < 0 ∧ R.1 ≠ -19 ∧ (P.b (16 * p + i) = 0 ∨ R.1 = -10 - P.b (16 * p + i))) → WR (e + 8) cd_102 166 [some (.ref (ad 9)), some (.int (nI (64 * p + 4 * i))), some (.int (nI (8 - m))), some (.int (nI (P.a (16 * p + i)).toNatClampNeg)), some (.int (P.b (16 * p + i))), some (.int (nI (P.c (16 * p + i)).toNatClampNeg))] [.int f] hc1 Q := by
    intro cd
    rw [if_neg cd] at hQ
    exact w_sr166 (d := e + 8) fx1 (hQ _ _ ef r1 a1)
  have lt0 : ¬ 0 ≤ f → R.1 < 0 := fun z => by rw [← ef]; exact Int32.not_le.mp z
  refine w_tyr (d := e + 7) fx1 (fun c0 => one (fun z => ?_)) (fun c0 c1 => one (fun z => z.2.1 (ef.symm.trans c1))) (fun c0 c1 c2 => two ⟨lt0 c0, fun z => c1 (ef.trans z), .inl c2⟩) (fun c0 c1 c2 c3 => one (fun z => ?_)) (fun c0 c1 c2 c3 => two ⟨lt0 c0, fun z => c1 (ef.trans z), .inr (ef.symm.trans c3)⟩)
  · have z1 := z.1
    rw [← ef] at z1
    exact absurd c0 (Int32.not_le.mpr z1)
  · rcases z.2.2 with q | q
    · exact c2 q
    · exact c3 (ef.trans q)
theorem c_f9 {R R2 : aR} {f f2 e : Int32} {hc2 : mH} (fx : FX n ad sa z0 h) (rn : ¬ R.1 = -19) (ef : f = R.1) (r2 : RC n np ad mid pa LV P h hc2 0 R2.2.2) (ef2 : f2 = R2.1) (a2 : f2 = 1 → hI hc2 (ad 9) 8 = R2.2.1) (ea : f = 1 → e = R.2.1)
    (hQ : ∀ hc' g, g = (fin9 R R2).1 → RC n np ad mid pa LV P h hc' 0 (fin9 R R2).2.2 → (g = 1 → hI hc' (ad 9) 8 = (fin9 R R2).2.1) → Q (some (.int g)) hc') :
    (¬ f2 = 0 → 0 ≤ f → Q (some (.int f2)) hc2) ∧ (¬ f2 = 0 → ¬ 0 ≤ f → Q (some (.int f2)) (sI hc2 (ad 9) 12 (-10 - f))) ∧ (f2 = 0 → Q (some (.int f)) (sI hc2 (ad 9) 8 e)) := by
  refine ⟨fun u0 w0 => ?_, fun u0 w0 => ?_, fun u0 => ?_⟩
  · rw [fin9_4 rn (fun z => u0 (ef2.trans z)) (fun z => by rw [← ef] at z; exact absurd w0 (Int32.not_le.mpr z))] at hQ
    exact hQ _ _ ef2 r2 a2
  · rw [fin9_3 rn (fun z => u0 (ef2.trans z)) (by rw [← ef]; exact Int32.not_le.mp w0)] at hQ
    refine hQ _ _ ef2 ?_ (fun z => ?_)
    · rw [ef]; exact r2.cau fx
    · rw [I_nk (by decide)]; exact a2 z
  · rw [fin9_2 rn (ef2.symm.trans u0)] at hQ
    exact hQ _ _ ef (r2.ans fx) (fun z => by rw [I_eq]; exact ea z)
theorem c_f9n {R R2 : aR} {hc1 : mH} (r19 : R.1 = -19) (r1 : RC n np ad mid pa LV P h hc1 0 R.2.2)
    (hQ : ∀ hc' g, g = (fin9 R R2).1 → RC n np ad mid pa LV P h hc' 0 (fin9 R R2).2.2 → (g = 1 → hI hc' (ad 9) 8 = (fin9 R R2).2.1) → Q (some (.int g)) hc') : Q (some (.int (-19))) hc1 := by
  rw [fin9_1 r19] at hQ
  exact hQ _ _ r19.symm r1 (fun z => absurd z (by decide))
theorem c_s9 (ih : CPL n np ad mid pa LV P h (e + 7) m) (m8 : m < 8) (fx : FX n ad sa z0 h) (cw : CW np ad mid pa LV P h sa z0) (vp : VP n np LV P) (r : RC n np ad mid pa LV P h hc 1 T) (v : VS n np LV 1 T) (hp : p < 10) (hi : i < P.len p) (e9 : P.op (16 * p + i) = 9)
    (hQ : ∀ hc' f, f = (gStp (gPln P m) P (16 * p + i) T).1 → RC n np ad mid pa LV P h hc' 0 (gStp (gPln P m) P (16 * p + i) T).2.2 → (f = 1 → hI hc' (ad 9) 8 = (gStp (gPln P m) P (16 * p + i) T).2.1) → Q (some (.int f)) hc') : EV (e + 9) 102 [.ref (ad 9), .int (nI (64 * p + 4 * i)), .int (nI (8 - m))] hc Q := by
  have l16 := (vp.2.2.1 p hp).1
  have n6 := vp.2.1
  obtain ⟨o13, ok⟩ := (vp.2.2.1 p hp).2 i hi
  have hA : 64 * p + 4 * i + 3 < 640 := by omega
  have fxc := r.1.fx fx
  have kp : ∀ j, hI hc (ad 10) j = hI h (ad 10) j := fun j => r.1.2.2.1 (ad 10) j (cI_ad fx (by decide) (by decide))
  obtain ⟨s0, s1, s2, s3⟩ := (cw.2.2.2.2.2 p hp).2 i hi
  rw [← kp] at s0 s1 s2 s3
  have ed : 8 - m + 1 = 9 - m := by omega
  have vw := v.wk
  have rw' := r.wk
  have gok := gPln_ok vp m
  obtain ⟨q1, q2⟩ := ok.2.2.2.2.1 (congrArg nI e9)
  have ha := ofP q1
  have hbb := ofP q2
  rw [e9] at s0
  rw [ha.2] at s1
  rw [hbb.2] at s2
  rw [gS_9u e9] at hQ
  obtain ⟨va, oa, -⟩ := gok (P.a (16 * p + i)).toNatClampNeg T ha.1 vw
  refine w_s9 (d := e + 8) fxc hA s0 s1 s2 s3 (w_fi (d := e + 7) fxc ?_)
  rw [ed]
  refine ih _ hc T _ ha.1 rw' vw (fun hc1 f ef r1 a1 => ?_)
  generalize gPln P m (P.a (16 * p + i)).toNatClampNeg T = R at *
  have fx1 := r1.1.fx fx
  refine w_fir (d := e + 7) fx1 (fun fn => ?_) (fun f19 => ?_)
  · have rn : ¬ R.1 = -19 := fun z => fn (ef.trans z)
    rw [ed]
    refine ih _ hc1 R.2.2 _ hbb.1 r1 va (fun hc2 f2 ef2 r2 a2 => ?_)
    have fx2 := r2.1.fx fx
    have kk := c_f9 (e := hI hc1 (ad 9) 8) fx rn ef r2 ef2 a2 a1 hQ
    exact w_fiz (d := e + 7) fx2 (fun u0 w0 => w_sr175 (d := e + 8) fx2 (kk.1 u0 w0)) (fun u0 w0 => w_sr175 (d := e + 8) (FX.sI fx2) (kk.2.1 u0 w0)) (fun u0 => w_sr175 (d := e + 8) (FX.sI fx2) (kk.2.2 u0))
  · have r19 : R.1 = -19 := ef.symm.trans f19
    exact w_sr175 (d := e + 8) fx1 (c_f9n r19 r1 hQ)
theorem c_s10 (ih : CPL n np ad mid pa LV P h (e + 7) m) (m8 : m < 8) (fx : FX n ad sa z0 h) (cw : CW np ad mid pa LV P h sa z0) (vp : VP n np LV P) (r : RC n np ad mid pa LV P h hc 1 T) (v : VS n np LV 1 T) (hp : p < 10) (hi : i < P.len p) (e10 : P.op (16 * p + i) = 10)
    (hQ : ∀ hc' f, f = (gStp (gPln P m) P (16 * p + i) T).1 → RC n np ad mid pa LV P h hc' 0 (gStp (gPln P m) P (16 * p + i) T).2.2 → (f = 1 → hI hc' (ad 9) 8 = (gStp (gPln P m) P (16 * p + i) T).2.1) → Q (some (.int f)) hc') : EV (e + 9) 102 [.ref (ad 9), .int (nI (64 * p + 4 * i)), .int (nI (8 - m))] hc Q := by
  have l16 := (vp.2.2.1 p hp).1
  have n6 := vp.2.1
  obtain ⟨o13, ok⟩ := (vp.2.2.1 p hp).2 i hi
  have hA : 64 * p + 4 * i + 3 < 640 := by omega
  have fxc := r.1.fx fx
  have kp : ∀ j, hI hc (ad 10) j = hI h (ad 10) j := fun j => r.1.2.2.1 (ad 10) j (cI_ad fx (by decide) (by decide))
  obtain ⟨s0, s1, s2, s3⟩ := (cw.2.2.2.2.2 p hp).2 i hi
  rw [← kp] at s0 s1 s2 s3
  have ed : 8 - m + 1 = 9 - m := by omega
  have vw := v.wk
  have rw' := r.wk
  have gok := gPln_ok vp m
  obtain ⟨q1, q2⟩ := ok.2.2.2.2.2.1 (congrArg nI e10)
  have ha := ofB n6 q1
  have hbb := ofP q2
  rw [e10] at s0
  rw [ha.2] at s1
  rw [hbb.2] at s2
  rw [gS_10u e10] at hQ
  obtain ⟨f5, f6⟩ := r.f5 fx cw
  obtain ⟨t1, t2, ⟨t4, t5⟩, -, -, -, t3, -⟩ := fx_tb fxc _ ha.1
  have eh := r.2.1.2.2.2 _ ha.1
  refine w_s10 (d := e + 8) fxc hA s0 s1 s2 s3 (w_ho (d := e + 7) fxc f6 ha.1 n6 t1 t2 t3 t4 t5 eh ?_)
  rw [ed]
  refine ih _ _ (uI T 56 (P.a (16 * p + i)).toNatClampNeg (T.2.1 56 (P.a (16 * p + i)).toNatClampNeg + 1)) _ hbb.1 (rw'.hld fx ha.1) (vw.oth (by decide) (by decide) (by decide) (by decide)) (fun hc1 f ef r1 a1 => ?_)
  generalize gPln P m (P.b (16 * p + i)).toNatClampNeg (uI T 56 (P.a (16 * p + i)).toNatClampNeg (T.2.1 56 (P.a (16 * p + i)).toNatClampNeg + 1)) = R at *
  have fx1 := r1.1.fx fx
  obtain ⟨g5, g6⟩ := r1.f5 fx cw
  obtain ⟨t1, t2, ⟨t4, t5⟩, -, -, -, t3, -⟩ := fx_tb fx1 _ ha.1
  have eh1 := r1.2.1.2.2.2 _ ha.1
  refine w_hor (d := e + 7) fx1 g6 ha.1 n6 t1 t2 t3 t4 t5 eh1 (w_sr184 (d := e + 8) (FX.sI fx1) (hQ _ _ ef (r1.hld fx ha.1) (fun z => ?_)))
  rw [I_ne (fx_ne fx (by omega))]
  exact a1 z
theorem c_sd (ih : CPL n np ad mid pa LV P h (e + 7) m) (m8 : m < 8) (fx : FX n ad sa z0 h) (cw : CW np ad mid pa LV P h sa z0) (vp : VP n np LV P) (r : RC n np ad mid pa LV P h hc 1 T) (v : VS n np LV 1 T) (hp : p < 10) (hi : i < P.len p) (e4 : ¬ P.op (16 * p + i) = 4) (e7 : ¬ P.op (16 * p + i) = 7) (e8 : ¬ P.op (16 * p + i) = 8) (e9 : ¬ P.op (16 * p + i) = 9) (e10 : ¬ P.op (16 * p + i) = 10)
    (hQ : ∀ hc' f, f = (gStp (gPln P m) P (16 * p + i) T).1 → RC n np ad mid pa LV P h hc' 0 (gStp (gPln P m) P (16 * p + i) T).2.2 → (f = 1 → hI hc' (ad 9) 8 = (gStp (gPln P m) P (16 * p + i) T).2.1) → Q (some (.int f)) hc') : EV (e + 9) 102 [.ref (ad 9), .int (nI (64 * p + 4 * i)), .int (nI (8 - m))] hc Q := by
  have l16 := (vp.2.2.1 p hp).1
  have n6 := vp.2.1
  obtain ⟨o13, ok⟩ := (vp.2.2.1 p hp).2 i hi
  have hA : 64 * p + 4 * i + 3 < 640 := by omega
  have fxc := r.1.fx fx
  have kp : ∀ j, hI hc (ad 10) j = hI h (ad 10) j := fun j => r.1.2.2.1 (ad 10) j (cI_ad fx (by decide) (by decide))
  obtain ⟨s0, s1, s2, s3⟩ := (cw.2.2.2.2.2 p hp).2 i hi
  rw [← kp] at s0 s1 s2 s3
  have ed : 8 - m + 1 = 9 - m := by omega
  have vw := v.wk
  have rw' := r.wk
  have gok := gPln_ok vp m
  rw [gS_du e4 e7 e8 e9 e10] at hQ
  refine c_does (d := e + 5) hA fx cw vp r v hp hi e4 e7 e8 e9 e10 s0 s1 s2 s3 (fun hc1 f ef r1 => ?_)
  unfold cRes at ef
  obtain ⟨-, fl, hfl, efl⟩ := gDo_ok vp hp hi v e4 e7 e8 e9 e10
  by_cases z : (gDo P (16 * p + i) T).1 = 0
  · rw [if_pos z] at hQ ef
    exact hQ _ _ ef r1 (fun q => by rw [ef] at q; exact absurd q (by decide))
  · rw [if_neg z] at hQ ef
    refine hQ _ _ ef r1 (fun q => ?_)
    rw [ef, efl] at q
    exact absurd q (nf (by omega)).2.2.2.2
theorem c_stp (ih : CPL n np ad mid pa LV P h (e + 7) m) (m8 : m < 8) (fx : FX n ad sa z0 h) (cw : CW np ad mid pa LV P h sa z0) (vp : VP n np LV P) (r : RC n np ad mid pa LV P h hc 1 T) (v : VS n np LV 1 T) (hp : p < 10) (hi : i < P.len p)
    (hQ : ∀ hc' f, f = (gStp (gPln P m) P (16 * p + i) T).1 → RC n np ad mid pa LV P h hc' 0 (gStp (gPln P m) P (16 * p + i) T).2.2 → (f = 1 → hI hc' (ad 9) 8 = (gStp (gPln P m) P (16 * p + i) T).2.1) → Q (some (.int f)) hc') : EV (e + 9) 102 [.ref (ad 9), .int (nI (64 * p + 4 * i)), .int (nI (8 - m))] hc Q := by
  by_cases e4 : P.op (16 * p + i) = 4
  · exact c_s4 ih m8 fx cw vp r v hp hi e4 hQ
  by_cases e7 : P.op (16 * p + i) = 7
  · exact c_s7 ih m8 fx cw vp r v hp hi e7 hQ
  by_cases e8 : P.op (16 * p + i) = 8
  · exact c_s8 ih m8 fx cw vp r v hp hi e8 hQ
  by_cases e9 : P.op (16 * p + i) = 9
  · exact c_s9 ih m8 fx cw vp r v hp hi e9 hQ
  by_cases e10 : P.op (16 * p + i) = 10
  · exact c_s10 ih m8 fx cw vp r v hp hi e10 hQ
  exact c_sd ih m8 fx cw vp r v hp hi e4 e7 e8 e9 e10 hQ
theorem c_lop (ih : CPL n np ad mid pa LV P h (e + 7) m) (m8 : m < 8) (fx : FX n ad sa z0 h) (cw : CW np ad mid pa LV P h sa z0) (vp : VP n np LV P) (hp : p < 10) : ∀ k i hc S o4, i + k = P.len p → RC n np ad mid pa LV P h hc 0 S → VS n np LV 0 S →
    (∀ hc' f, f = (gLop (gPln P m) P p k i S).1 → RC n np ad mid pa LV P h hc' 0 (gLop (gPln P m) P p k i S).2.2 → (f = 1 → hI hc' (ad 9) 8 = (gLop (gPln P m) P p k i S).2.1) → Q (some (.int f)) hc') → WR (e + 9) cd_101 23 [some (.ref (ad 9)), some (.int (nI p)), some (.int (nI (8 - m))), some (.int (nI i)), o4] [] hc Q := by
  have l16 := (vp.2.2.1 p hp).1
  have gok := gPln_ok vp m
  intro k
  induction k with
  | zero =>
    intro i hc S o4 hi r v hQ
    have t3 : hI hc (ad 11) p = nI (P.len p) := (r.1.2.2.1 (ad 11) p (cI_ad fx (by decide) (by decide))).trans (cw.2.2.2.2.2 p hp).1
    exact w_dpe (d := e + 9) (r.1.fx fx) hp l16 t3 (by omega) (hQ _ _ rfl r (fun z => absurd z (by decide)))
  | succ k ihk =>
    intro i hc S o4 hi r v hQ
    have t3 : hI hc (ad 11) p = nI (P.len p) := (r.1.2.2.1 (ad 11) p (cI_ad fx (by decide) (by decide))).trans (cw.2.2.2.2.2 p hp).1
    unfold gLop at hQ
    by_cases h100 : 100 ≤ S.1 1
    · rw [if_pos h100] at hQ
      have e100 : S.1 1 = 100 := by have := v.1; omega
      exact w_dpb (d := e + 9) (r.1.fx fx) hp l16 t3 (by omega) (by rw [r.2.1.1.2.1, e100]; rfl) (hQ _ _ rfl r (fun z => absurd z (by decide)))
    · rw [if_neg h100] at hQ
      refine w_dpn (d := e + 9) (r.1.fx fx) hp l16 t3 (by omega) (by omega) r.2.1.1.2.1 ?_
      have va := (gStp_ok gok vp hp (by omega) (v.beg h100) (p := p) (i := i)).1
      refine c_stp ih m8 fx cw vp (r.beg fx) (v.beg h100) hp (by omega) (fun hc1 f ef r1 a1 => ?_)
      generalize gStp (gPln P m) P (16 * p + i) (uN S 1 (S.1 1 + 1)) = R at *
      refine w_dpr (d := e + 9) (r1.1.fx fx) (by omega) (fun f0 => ?_) (fun fn => ?_)
      · rw [if_pos (ef.symm.trans f0)] at hQ
        exact ihk (i + 1) hc1 R.2.2 _ (by omega) r1 va hQ
      · rw [if_neg (fun z => fn (ef.trans z))] at hQ
        exact hQ _ _ ef r1 a1
theorem c_plan (fx : FX n ad sa z0 h) (cw : CW np ad mid pa LV P h sa z0) (vp : VP n np LV P) : ∀ m d, m ≤ 8 → 7 + 3 * m ≤ d → CPL n np ad mid pa LV P h d m := by
  intro m
  induction m with
  | zero =>
    intro d _ hd p hc S Q hp r v hQ
    obtain ⟨d', rfl⟩ : ∃ d', d = d' + 1 := ⟨d - 1, by omega⟩
    exact w_dpd (d := d') (r.1.fx fx) (hQ _ _ rfl r (fun z => absurd z (by decide)))
  | succ m ih =>
    intro d hm hd p hc S Q hp r v hQ
    obtain ⟨e, rfl⟩ : ∃ e, d = e + 10 := ⟨d - 10, by omega⟩
    have e9 : 9 - (m + 1) = 8 - m := by omega
    have v3 := v.2.2.2.1
    rw [e9]
    refine w_dpm (d := e + 9) (r.1.fx fx) (by omega) r.2.1.1.2.2.2.1 ?_
    have em : (if nI (S.1 3) < nI (8 - m) then nI (8 - m) else nI (S.1 3)) = nI (if S.1 3 < 8 - m then 8 - m else S.1 3) := by
      by_cases q : S.1 3 < 8 - m
      · rw [if_pos q, if_pos ((nI_ltI (by omega) (by omega)).mpr q)]
      · rw [if_neg q, if_neg (fun z => q ((nI_ltI (by omega) (by omega)).mp z))]
    rw [em]
    refine c_lop (ih (e + 7) (by omega) (by omega)) (by omega) fx cw vp hp (P.len p) 0 _ _ _ (by omega) (r.dep fx) (v.dep ?_) hQ
    split
    · omega
    · exact v3
end CPS
