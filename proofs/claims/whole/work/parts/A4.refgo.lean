/-! ===== the reference's plans: a step, the loop, the whole ===== -/
section RN3
variable {n np : Nat} {ad sa : Nat → Nat} {z0 : Nat} {LV : Nat → Prop} {P : aP} {G G' G2 : mH} {S : aS} {Q : mQ} {pl : Int32} {m k p i : Nat}
theorem gS_7u {H : Nat → aS → aR} {j : Nat} (e7 : P.op j = 7) : gStp H P j S = if (H (P.a j).toNatClampNeg S).1 = 1 then (0, 0, uI (H (P.a j).toNatClampNeg S).2.2 33 0 (H (P.a j).toNatClampNeg S).2.1) else H (P.a j).toNatClampNeg S := by unfold gStp; rw [if_neg (by omega), if_pos e7]
theorem gS_8u {H : Nat → aS → aR} {j : Nat} (e8 : P.op j = 8) : gStp H P j S = if (H (P.a j).toNatClampNeg S).1 < 0 ∧ (H (P.a j).toNatClampNeg S).1 ≠ -19 ∧ (P.b j = 0 ∨ (H (P.a j).toNatClampNeg S).1 = -10 - P.b j) then H (P.c j).toNatClampNeg (H (P.a j).toNatClampNeg S).2.2 else H (P.a j).toNatClampNeg S := by unfold gStp; rw [if_neg (by omega), if_neg (by omega), if_pos e8]
theorem gS_10u {H : Nat → aS → aR} {j : Nat} (e10 : P.op j = 10) : gStp H P j S = ((H (P.b j).toNatClampNeg (uI S 56 (P.a j).toNatClampNeg (S.2.1 56 (P.a j).toNatClampNeg + 1))).1, (H (P.b j).toNatClampNeg (uI S 56 (P.a j).toNatClampNeg (S.2.1 56 (P.a j).toNatClampNeg + 1))).2.1,
      uI (H (P.b j).toNatClampNeg (uI S 56 (P.a j).toNatClampNeg (S.2.1 56 (P.a j).toNatClampNeg + 1))).2.2 56 (P.a j).toNatClampNeg ((H (P.b j).toNatClampNeg (uI S 56 (P.a j).toNatClampNeg (S.2.1 56 (P.a j).toNatClampNeg + 1))).2.2.2.1 56 (P.a j).toNatClampNeg - 1)) := by unfold gStp; rw [if_neg (by omega), if_neg (by omega), if_neg (by omega), if_neg (by omega), if_pos e10]
theorem gS_du {H : Nat → aS → aR} {j : Nat} (e4 : ¬ P.op j = 4) (e7 : ¬ P.op j = 7) (e8 : ¬ P.op j = 8) (e9 : ¬ P.op j = 9) (e10 : ¬ P.op j = 10) : gStp H P j S = if (gDo P j S).1 = 0 then (0, 0, (gDo P j S).2) else (-10 - (gDo P j S).1, 0, (gDo P j S).2) := by unfold gStp; rw [if_neg e4, if_neg e7, if_neg e8, if_neg e9, if_neg e10]
/-- one step, with what lies behind it -/
theorem m_stp (ih : MRN n np ad sa z0 LV P pl Q m (k + 1)) (hk : k + 1 + m = 8) (fx : FX n ad sa z0 G) (sm : SM n np ad LV P G) (vp : VP n np LV P) (v : VS n np LV 0 S) (r : RM ad G S) (l : LPt ad k p i G) (t47 : hI G (ad 30) 47 = 0) (t29 : hI G (ad 30) 29 = 0) (p10 : p < 10) (hi : i < P.len p) (hb : ¬ 100 ≤ S.1 1)
    (hQ : ∀ G', CH ad G G' → KF ad k G G' → AFT ad k p i (gStp (gPln P m) P (16 * p + i) (uN S 1 (S.1 1 + 1))).1 (gStp (gPln P m) P (16 * p + i) (uN S 1 (S.1 1 + 1))).2.1 (gStp (gPln P m) P (16 * p + i) (uN S 1 (S.1 1 + 1))).2.2 G' → LOP ad pl Q G') : LOP ad pl Q G := by
  have k8 : k < 8 := by omega
  have l16 := (vp.2.2.1 p p10).1
  have i16 : i < 16 := by omega
  have n6 := vp.2.1
  obtain ⟨o13, ok⟩ := (vp.2.2.1 p p10).2 i hi
  obtain ⟨sl, ss⟩ := sm.1 p p10
  obtain ⟨s1, s2, s3, s4⟩ := ss i hi
  have v1 : VS n np LV 1 (uN S 1 (S.1 1 + 1)) := v.beg hb
  have gok := gPln_ok vp m
  generalize eT : uN S 1 (S.1 1 + 1) = T at *
  have vw := v1.wk
  -- the step has begun
  have ch1 : CH ad G (sI (sI G (ad 30) 31 (nI (S.1 1 + 1))) (ad 49) k (nI (i + 1))) := CH.c (CH.a CHx.rf (.inl ⟨by decide, by decide⟩)) ⟨by decide, by decide⟩
  have kf1 : KF ad k G (sI (sI G (ad 30) 31 (nI (S.1 1 + 1))) (ad 49) k (nI (i + 1))) := KF.c (KF.f fx KF.rf) (Nat.le_refl k)
  have r1 : RM ad (sI (sI G (ad 30) 31 (nI (S.1 1 + 1))) (ad 49) k (nI (i + 1))) T := by
    rw [← eT]; exact RM.ci (FX.sI fx) (r.n1 fx) ⟨by decide, by decide⟩
  have l1 : LPt ad k p (i + 1) (sI (sI G (ad 30) 31 (nI (S.1 1 + 1))) (ad 49) k (nI (i + 1))) := ⟨by rw [I_ne (fx_ne fx (by decide)), I_nk (by decide)]; exact l.1, by rw [I_ne (fx_ne fx (by decide)), I_ne (fx_ne fx (by decide))]; exact l.2.1, I_eq⟩
  have g47 : hI (sI (sI G (ad 30) 31 (nI (S.1 1 + 1))) (ad 49) k (nI (i + 1))) (ad 30) 47 = 0 := by rw [I_ne (fx_ne fx (by decide)), I_nk (by decide)]; exact t47
  have g29 : hI (sI (sI G (ad 30) 31 (nI (S.1 1 + 1))) (ad 49) k (nI (i + 1))) (ad 30) 29 = 0 := by rw [I_ne (fx_ne fx (by decide)), I_nk (by decide)]; exact t29
  generalize eG1 : sI (sI G (ad 30) 31 (nI (S.1 1 + 1))) (ad 49) k (nI (i + 1)) = G1 at ch1 kf1 r1 l1 g47 g29
  have fx1 : FX n ad sa z0 G1 := CHx.fx fx ch1
  have sm1 := SM.ch fx sm ch1
  have hQ1 : ∀ (R : aR), gStp (gPln P m) P (16 * p + i) T = R → ∀ G2, CH ad G1 G2 → KF ad k G1 G2 → ∀ G', CH ad G2 G' → KF ad k G2 G' → AFT ad k p i R.1 R.2.1 R.2.2 G' → LOP ad pl Q G' := by
    intro R eR G2 c2 f2 G' c f a
    rw [← eR] at a
    exact hQ G' (CHx.tr ch1 (CHx.tr c2 c)) (KF.tr kf1 (KF.tr f2 f)) a
  obtain ⟨-, ok1, ok2, ok3, ok4, ok5, ok6, ok7, ok8⟩ := ok
  refine w_lpg fx k8 l.1 t47 t29 ?_
  by_cases e7 : P.op (16 * p + i) = 7
  · have ha := ofP (ok2 (congrArg nI e7))
    rw [ha.2] at s2
    refine w_gs7 (d := 98) fx k8 p10 l16 l.1 l.2.1 l.2.2 sl hi (by omega) r.1.2.1 (by rw [s1, e7]; rfl) s2 ?_
    rw [eG1]
    refine m_sub ih hk fx1 sm1 vw r1 l1 g47 ha.1 (fun G' fx' L => m_k132 fx' L _ _ _ _ _) (fun G2 c2 f2 l2 b2 _ r2 t2 w2 => ?_)
    exact m_7 (CHx.fx fx1 c2) k8 p10 i16 r2 l2 t2 b2 w2 (hQ1 _ (gS_7u e7) G2 c2 f2)
  by_cases e8 : P.op (16 * p + i) = 8
  · obtain ⟨q1, q2, q3, q4⟩ := ok3 (congrArg nI e8)
    have ha := ofP q1
    have hc := ofP q2
    obtain ⟨b, hb8, eb⟩ : ∃ b, b ≤ 8 ∧ P.b (16 * p + i) = nI b := by
      have a2 := i_nlt q3
      have a1 := i_le q4
      have z0' : (0 : Int32).toInt = 0 := rfl
      have z8 : (8 : Int32).toInt = 8 := rfl
      obtain ⟨q, hq, e⟩ := ix_of (x := P.b (16 * p + i)) (n := 9) (by omega) (by omega)
      exact ⟨q, by omega, e⟩
    rw [ha.2] at s2
    refine w_gs8 (d := 98) fx k8 p10 l16 l.1 l.2.1 l.2.2 sl hi (by omega) r.1.2.1 (by rw [s1, e8]; rfl) s2 ?_
    rw [eG1]
    refine m_sub ih hk fx1 sm1 vw r1 l1 g47 ha.1 (fun G' fx' L => m_k132 fx' L _ _ _ _ _) (fun G2 c2 f2 l2 b2 _ r2 t2 w2 => ?_)
    have fx2 := CHx.fx fx1 c2
    have sm2 := SM.ch fx1 sm1 c2
    obtain ⟨va, oa, -⟩ := gok (P.a (16 * p + i)).toNatClampNeg T ha.1 vw
    have eu := gS_8u (S := T) (H := gPln P m) e8
    refine w_lpb fx2 k8 l2.1 t2 ?_
    have w0 := w2
    rcases w2 with ⟨eo, w⟩ | ⟨eo, w, -⟩ | ⟨f, f1, f9, eo, w, wf⟩
    · rw [if_neg (fun z => absurd z.1 (by rw [eo]; decide))] at eu
      exact w_b8_1 (d := 97) fx2 k8 p10 i16 l2.1 l2.2.1 l2.2.2 rfl rfl b2 w rfl (m_b0 fx2 r2 l2 eo (hQ1 _ eu G2 c2 f2))
    · rw [if_neg (fun z => absurd z.1 (by rw [eo]; decide))] at eu
      exact w_b8_2 (d := 97) fx2 k8 p10 i16 l2.1 l2.2.1 l2.2.2 rfl rfl b2 w rfl (m_bw fx2 r2 l2 (by rw [eo]; decide) w w0 (hQ1 _ eu G2 c2 f2))
    · obtain ⟨-, -, s3', s4'⟩ := (sm2.1 p p10).2 i hi
      rw [eb] at s3'
      rw [hc.2] at s4'
      have keep : gStp (gPln P m) P (16 * p + i) T = gPln P m (P.a (16 * p + i)).toNatClampNeg T → WR 99 cd_209 89 [some (.ref (ad 30)), some (.int pl)] ((none : Option Value).toList ++ []) (sI (sI G2 (ad 30) 47 0) (ad 30) 29 3) Q := fun eu' => m_bw fx2 r2 l2 (by rw [eo]; exact (nf f9).2.2.2.1) w w0 (hQ1 _ eu' G2 c2 f2)
      have save : gStp (gPln P m) P (16 * p + i) T = gPln P m (P.c (16 * p + i)).toNatClampNeg (gPln P m (P.a (16 * p + i)).toNatClampNeg T).2.2 → EV 98 211 [.ref (ad 30), .int 20, .int (nI (P.c (16 * p + i)).toNatClampNeg)] (sI G2 (ad 30) 47 0) (fun v_ h_ => WR 98 cd_213 199 [some (.ref (ad 30)), some (.int (nI k)), some (.int (nI (16 * p + i))), some (.int (hI G2 (ad 45) (16 * p + i))), some (.int (nI b))] (v_.toList ++ []) h_ (fun v_ h_ => WR 99 cd_209 89 [some (.ref (ad 30)), some (.int pl)] (v_.toList ++ []) h_ Q)) := by
        intro eu'
        have c3 : CH ad G2 (sI G2 (ad 30) 47 0) := CH.f CHx.rf (.inr (.inr (.inr rfl)))
        refine m_sub ih hk (FX.sI fx2) (SM.ch fx2 sm2 c3) va (r2.cf fx2 (.inr (.inr (.inr rfl)))) (l2.f fx2 (by decide)) I_eq hc.1 (fun G' fx' L => m_k199 fx' L _ _ _ _) (fun G4 c4 f4 l4 b4 _ r4 t4 w4 => ?_)
        exact m_20 (CHx.fx (FX.sI fx2) c4) k8 p10 i16 r4 l4 t4 b4 w4 (hQ1 _ eu' G4 (CHx.tr c2 (CHx.tr c3 c4)) (KF.tr f2 (KF.tr (KF.f fx2 KF.rf) f4)))
      refine w_b8_3 (d := 97) fx2 k8 p10 i16 l2.1 l2.2.1 l2.2.2 rfl s3' b2 w hb8 s4' f1 f9 wf (fun e9 => ?_) (fun n9 b0 => ?_) (fun n9 b0 bf => ?_) (fun n9 b0 bf => ?_)
      · refine keep ?_
        rw [eu, if_neg]
        intro z
        exact z.2.1 (by rw [eo, e9]; decide)
      · refine save ?_
        rw [eu, if_pos]
        refine ⟨by rw [eo]; exact (nf f9).1, fun z => n9 ?_, .inl (by rw [eb]; exact b0)⟩
        rw [eo] at z
        rw [(nf f9).2.1.mp z]; rfl
      · refine keep ?_
        rw [eu, if_neg]
        intro z
        rcases z.2.2 with z | z
        · exact b0 (by rw [← eb]; exact z)
        · rw [eo, eb] at z
          exact bf ((nf_inj f9 (by omega)).mp z)
      · refine save ?_
        rw [eu, if_pos]
        refine ⟨by rw [eo]; exact (nf f9).1, fun z => n9 ?_, .inr (by rw [eo, eb]; exact (nf_inj f9 (by omega)).mpr bf)⟩
        rw [eo] at z
        rw [(nf f9).2.1.mp z]; rfl
  by_cases e9 : P.op (16 * p + i) = 9
  · obtain ⟨q1, q2⟩ := ok4 (congrArg nI e9)
    have ha := ofP q1
    have hbb := ofP q2
    rw [ha.2] at s2
    refine w_gs9 (d := 98) fx k8 p10 l16 l.1 l.2.1 l.2.2 sl hi (by omega) r.1.2.1 (by rw [s1, e9]; rfl) s2 ?_
    rw [eG1]
    refine m_sub ih hk fx1 sm1 vw r1 l1 g47 ha.1 (fun G' fx' L => m_k132 fx' L _ _ _ _ _) (fun G2 c2 f2 l2 b2 _ r2 t2 w2 => ?_)
    have fx2 := CHx.fx fx1 c2
    have sm2 := SM.ch fx1 sm1 c2
    obtain ⟨va, oa, -⟩ := gok (P.a (16 * p + i)).toNatClampNeg T ha.1 vw
    have eu := gS_9u (S := T) (G := gPln P m) e9
    generalize gPln P m (P.a (16 * p + i)).toNatClampNeg T = rr at *
    obtain ⟨-, -, s3', -⟩ := (sm2.1 p p10).2 i hi
    rw [hbb.2] at s3'
    -- the plan that must be done
    have must : ∀ (x y : Int32), ¬ rr.1 = -19 → (∀ G4, hI G4 (ad 51) k = x → hI G4 (ad 52) k = y → (rr.1 = 0 ∧ hI G4 (ad 51) k = 1) ∨ (rr.1 = 1 ∧ hI G4 (ad 51) k = 2 ∧ hI G4 (ad 52) k = rr.2.1) ∨ ∃ f, 1 ≤ f ∧ f ≤ 9 ∧ rr.1 = -10 - nI f ∧ hI G4 (ad 51) k = 3 ∧ hI G4 (ad 52) k = nI f) → EV 98 211 [.ref (ad 30), .int 21, .int (nI (P.b (16 * p + i)).toNatClampNeg)] (sI (sI (sI G2 (ad 30) 47 0) (ad 51) k x) (ad 52) k y) (fun v_ h_ => WR 98 cd_213 254 [some (.ref (ad 30)), some (.int (nI k)), some (.int (nI (16 * p + i))), some (.int (hI G2 (ad 45) (16 * p + i))), some (.int (nI (P.b (16 * p + i)).toNatClampNeg))] (v_.toList ++ []) h_ (fun v_ h_ => WR 99 cd_209 89 [some (.ref (ad 30)), some (.int pl)] (v_.toList ++ []) h_ Q)) := by
      intro x y hr hxy
      have c3 : CH ad G2 (sI (sI (sI G2 (ad 30) 47 0) (ad 51) k x) (ad 52) k y) := CH.c (CH.c (CH.f CHx.rf (.inr (.inr (.inr rfl)))) ⟨by decide, by decide⟩) ⟨by decide, by decide⟩
      have k3 : KF ad k G2 (sI (sI (sI G2 (ad 30) 47 0) (ad 51) k x) (ad 52) k y) := KF.c (KF.c (KF.f fx2 KF.rf) (Nat.le_refl k)) (Nat.le_refl k)
      have l3 : LPt ad k p (i + 1) (sI (sI (sI G2 (ad 30) 47 0) (ad 51) k x) (ad 52) k y) := LPt.a (FX.sI (FX.sI fx2)) (LPt.a (FX.sI fx2) (l2.f fx2 (by decide)) (by decide) (by decide) (by decide)) (by decide) (by decide) (by decide)
      have r3 : RM ad (sI (sI (sI G2 (ad 30) 47 0) (ad 51) k x) (ad 52) k y) rr.2.2 := RM.ci (FX.sI (FX.sI fx2)) (RM.ci (FX.sI fx2) (r2.cf fx2 (.inr (.inr (.inr rfl)))) ⟨by decide, by decide⟩) ⟨by decide, by decide⟩
      have t3 : hI (sI (sI (sI G2 (ad 30) 47 0) (ad 51) k x) (ad 52) k y) (ad 30) 47 = 0 := by rw [I_ne (fx_ne fx2 (by decide)), I_ne (fx_ne fx2 (by decide)), I_eq]
      refine m_sub ih hk (FX.sI (FX.sI (FX.sI fx2))) (SM.ch fx2 sm2 c3) va r3 l3 t3 hbb.1 (fun G' fx' L => m_k254 fx' L _ _ _ _) (fun G4 c4 f4 l4 b4 o4 r4 t4 w4 => ?_)
      refine m_21 (rr := rr) (CHx.fx (FX.sI (FX.sI (FX.sI fx2))) c4) k8 p10 i16 r4 l4 t4 b4 w4 hr (hxy G4 ?_ ?_) (hQ1 _ eu G4 (CHx.tr c2 (CHx.tr c3 c4)) (KF.tr f2 (KF.tr k3 f4)))
      · rw [o4 51 (.inl rfl), I_ne (fx_ne fx2 (by decide)), I_eq]
      · rw [o4 52 (.inr rfl), I_eq]
    refine w_lpb fx2 k8 l2.1 t2 ?_
    have w0 := w2
    rcases w2 with ⟨eo, w⟩ | ⟨eo, w, wf⟩ | ⟨f, f1, f9, eo, w, wf⟩
    · exact w_b9_1 (d := 98) fx2 k8 p10 i16 l2.1 l2.2.1 l2.2.2 rfl s3' b2 w rfl (must _ _ (by rw [eo]; decide) (fun G4 h1 _ => .inl ⟨eo, h1⟩))
    · exact w_b9_2 (d := 98) fx2 k8 p10 i16 l2.1 l2.2.1 l2.2.2 rfl s3' b2 w wf (must _ _ (by rw [eo]; decide) (fun G4 h1 h2 => .inr (.inl ⟨eo, h1, h2⟩)))
    · refine w_b9_3 (d := 98) fx2 k8 p10 i16 l2.1 l2.2.1 l2.2.2 rfl s3' b2 w f1 f9 wf (fun e9 => ?_) (fun n9 => must _ _ (fun z => n9 ?_) (fun G4 h1 h2 => .inr (.inr ⟨f, f1, f9, eo, h1, h2⟩)))
      · have er : rr.1 = -19 := by rw [eo, e9]; decide
        rw [fin9_1 er] at eu
        exact w_lr89 (FX.sI fx2) (hQ1 _ eu G2 c2 f2 _ (CH.f CHx.rf (.inr (.inr (.inr rfl)))) (KF.f fx2 KF.rf) ⟨r2.cf fx2 (.inr (.inr (.inr rfl))), I_eq, .inr ⟨by rw [eo]; exact (nf f9).2.2.2.1, by rw [I_nk (by decide)]; exact l2.1, w0.f (by decide) (by decide)⟩⟩)
      · rw [eo] at z
        rw [(nf f9).2.1.mp z]; rfl
  by_cases e10 : P.op (16 * p + i) = 10
  · obtain ⟨q1, q2⟩ := ok5 (congrArg nI e10)
    have ha := ofB n6 q1
    have hbb := ofP q2
    rw [hbb.2] at s3
    rw [ha.2] at s2
    refine w_gs10 (d := 98) fx k8 p10 l16 l.1 l.2.1 l.2.2 sl hi (by omega) r.1.2.1 (by omega) (by rw [s1, e10]; rfl) s2 s3 ?_
    rw [eG1]
    have c2' : CH ad G1 (sI G1 (ad 56) (P.a (16 * p + i)).toNatClampNeg (hI G (ad 56) (P.a (16 * p + i)).toNatClampNeg + 1)) := CHx.i CHx.rf (.inl (.inr ⟨by decide, by decide⟩))
    have k2' : KF ad k G1 (sI G1 (ad 56) (P.a (16 * p + i)).toNatClampNeg (hI G (ad 56) (P.a (16 * p + i)).toNatClampNeg + 1)) := KF.a fx1 KF.rf (.inr (by decide))
    have eh : hI G (ad 56) (P.a (16 * p + i)).toNatClampNeg = T.2.1 56 (P.a (16 * p + i)).toNatClampNeg := by rw [← eT]; exact r.r5 (i := 56) (by decide) (by decide) _
    have r2' : RM ad (sI G1 (ad 56) (P.a (16 * p + i)).toNatClampNeg (hI G (ad 56) (P.a (16 * p + i)).toNatClampNeg + 1)) (uI T 56 (P.a (16 * p + i)).toNatClampNeg (T.2.1 56 (P.a (16 * p + i)).toNatClampNeg + 1)) := by
      rw [eh]; exact r1.i fx1 (.inr ⟨by decide, by decide⟩)
    refine m_sub ih hk (FX.sI fx1) (SM.ch fx1 sm1 c2') (vw.oth (by decide) (by decide) (by decide) (by decide)) r2' (LPt.a fx1 l1 (by decide) (by decide) (by decide)) (by rw [I_ne (fx_ne fx1 (by decide))]; exact g47) hbb.1 (fun G' fx' L => m_k127 fx' L _ _ _ _ _) (fun G2 c2 f2 l2 b2 _ r2 t2 w2 => ?_)
    have sm2 := SM.ch (FX.sI fx1) (SM.ch fx1 sm1 c2') c2
    obtain ⟨-, s2', -, -⟩ := (sm2.1 p p10).2 i hi
    rw [ha.2] at s2'
    exact m_10 (a := (P.a (16 * p + i)).toNatClampNeg) (by omega) (CHx.fx (FX.sI fx1) c2) k8 p10 i16 r2 l2 t2 b2 s2' w2 (hQ1 _ (gS_10u e10) G2 (CHx.tr c2' c2) (KF.tr k2' f2))
  by_cases e4 : P.op (16 * p + i) = 4
  · have eu : gStp (gPln P m) P (16 * p + i) T = (1, P.a (16 * p + i), T) := by unfold gStp; rw [if_pos e4]
    refine w_gsdl (d := 98) fx k8 p10 l16 l.1 l.2.1 l.2.2 sl hi (by omega) r.1.2.1 (u := 4) (by omega) (by rw [s1, e4]) s2 s3 s4 ?_
    rw [eG1]
    refine w_m4 (d := 96) fx1 (w_gsf0 (FX.sI (FX.sI fx1)) _ _ _ _ _ (w_lr132 (FX.sI (FX.sI fx1)) (hQ1 _ eu G1 CHx.rf KF.rf _ (CH.f (CH.f CHx.rf (.inr (.inl rfl))) (.inr (.inr (.inl rfl)))) (KF.f fx1 (KF.f fx1 KF.rf)) ⟨RM.cf (FX.sI fx1) (r1.cf fx1 (.inr (.inl rfl))) (.inr (.inr (.inl rfl))), by rw [I_nk (by decide), I_nk (by decide)]; exact g47, .inr ⟨show (1 : Int32) ≠ 0 by decide, by rw [I_nk (by decide), I_nk (by decide)]; exact l1.1, .inr (.inl ⟨rfl, by rw [I_nk (by decide), I_eq], I_eq⟩)⟩⟩)))
  -- the others
  have eu := gS_du (S := T) (H := gPln P m) e4 e7 e8 e9 e10
  obtain ⟨-, fl, hfl, efl⟩ := gDo_ok vp p10 hi v1 e4 e7 e8 e9 e10
  have main : EV 98 216 [.ref (ad 30), .int (nI (P.op (16 * p + i))), .int (P.a (16 * p + i)), .int (P.b (16 * p + i)), .int (P.c (16 * p + i))] G1 (fun v_ h_ => WR 98 cd_215 183 [some (.ref (ad 30)), some (.int (nI k)), some (.int (nI p)), some (.int (nI (16 * p + i))), some (.int (nI (P.op (16 * p + i)))), none] (v_.toList ++ []) h_ (fun v_ h_ => WR 99 cd_209 132 [some (.ref (ad 30)), some (.int pl)] (v_.toList ++ []) h_ Q)) := by
    refine m_does fx1 sm1 vp r1 v1 p10 hi e4 e7 e8 e9 e10 (fun G2 cd2 r2 => ?_)
    have fx2 := CHx.fx fx1 cd2
    have kk := KF.d (k := k) fx1 cd2
    have l2 : LPt ad k p (i + 1) G2 := ⟨(CHx.kf fx1 cd2 (by unfold actF; decide) (by unfold actR; decide)).trans l1.1, (CHx.k fx1 cd2 (by unfold actR; decide) (by decide) k).trans l1.2.1, (CHx.k fx1 cd2 (by unfold actR; decide) (by decide) k).trans l1.2.2⟩
    have a47 : hI G2 (ad 30) 47 = 0 := (CHx.kf fx1 cd2 (by unfold actF; decide) (by unfold actR; decide)).trans g47
    have a29 : hI G2 (ad 30) 29 = 0 := (CHx.kf fx1 cd2 (by unfold actF; decide) (by unfold actR; decide)).trans g29
    show WR 98 cd_215 183 _ [.int (gDo P (16 * p + i) T).1] G2 _
    by_cases q : (gDo P (16 * p + i) T).1 = 0
    · rw [if_pos q] at eu
      rw [q]
      exact w_gsf0 fx2 _ _ _ _ _ (w_lr132 fx2 (hQ1 _ eu G2 (CHd.ch cd2) kk G2 CHx.rf KF.rf ⟨r2, a47, .inl ⟨rfl, l2, a29⟩⟩))
    · rw [if_neg q, efl] at eu
      have f0 : fl ≠ 0 := fun z => q (by rw [efl, z]; rfl)
      rw [efl]
      exact w_gsf (d := 97) fx2 (by omega) (by omega) _ _ _ _ _ (w_lr132 (FX.sI (FX.sI fx2)) (hQ1 _ eu G2 (CHd.ch cd2) kk _ (CH.f (CH.f CHx.rf (.inr (.inl rfl))) (.inr (.inr (.inl rfl)))) (KF.f fx2 (KF.f fx2 KF.rf)) ⟨RM.cf (FX.sI fx2) (r2.cf fx2 (.inr (.inl rfl))) (.inr (.inr (.inl rfl))), by rw [I_nk (by decide), I_nk (by decide)]; exact a47, .inr ⟨(nf (by omega)).2.2.2.1, by rw [I_nk (by decide), I_nk (by decide)]; exact l2.1, .inr (.inr ⟨fl, by omega, by omega, rfl, by rw [I_nk (by decide), I_eq], I_eq⟩)⟩⟩))
  by_cases o6 : P.op (16 * p + i) ≤ 6
  · refine w_gsdl (d := 98) fx k8 p10 l16 l.1 l.2.1 l.2.2 sl hi (by omega) r.1.2.1 o6 s1 s2 s3 s4 ?_
    rw [eG1]; exact main
  · refine w_gsdh (d := 98) fx k8 p10 l16 l.1 l.2.1 l.2.2 sl hi (by omega) r.1.2.1 (by omega) o13 s1 s2 s3 s4 ?_
    rw [eG1]; exact main
theorem m_lop (ih : MRN n np ad sa z0 LV P pl Q m (k + 1)) (hk : k + 1 + m = 8) (vp : VP n np LV P) (p10 : p < 10) : ∀ r i G S, i + r = P.len p → FX n ad sa z0 G → SM n np ad LV P G → VS n np LV 0 S → RM ad G S → LPt ad k p i G → hI G (ad 30) 47 = 0 → hI G (ad 30) 29 = 0 →
    (∀ G', CH ad G G' → KF ad k G G' → RM ad G' (gLop (gPln P m) P p r i S).2.2 → POS ad k (gLop (gPln P m) P p r i S).1 (gLop (gPln P m) P p r i S).2.1 G' → LOP ad pl Q G') → LOP ad pl Q G := by
  have k8 : k < 8 := by omega
  have l16 := (vp.2.2.1 p p10).1
  have gok := gPln_ok vp m
  intro r
  induction r with
  | zero =>
    intro i G S hi fx sm v rm l t47 t29 hQ
    refine w_lpg fx k8 l.1 t47 t29 (w_gse (d := 97) fx k8 p10 l16 l.1 l.2.1 l.2.2 (sm.1 p p10).1 (by omega) (w_lr132 (FX.sI (FX.sI fx)) ?_))
    have c : CH ad G (sI (sI G (ad 30) 29 1) (ad 30) 30 0) := CH.f (CH.f CHx.rf (.inr (.inl rfl))) (.inr (.inr (.inl rfl)))
    refine m_pop (o := 0) (val := 0) (FX.sI (FX.sI fx)) k8 (RM.cf (FX.sI fx) (rm.cf fx (.inr (.inl rfl))) (.inr (.inr (.inl rfl)))) (by rw [I_nk (by decide), I_nk (by decide)]; exact l.1) (by rw [I_nk (by decide), I_nk (by decide)]; exact t47) (.inl ⟨rfl, by rw [I_nk (by decide), I_eq]⟩) (fun G' c' f' r' p' => hQ G' (CHx.tr c c') (KF.tr (KF.f fx (KF.f fx KF.rf)) f') r' p')
  | succ r ihr =>
    intro i G S hi fx sm v rm l t47 t29 hQ
    unfold gLop at hQ
    by_cases h100 : 100 ≤ S.1 1
    · rw [if_pos h100] at hQ
      have e100 : S.1 1 = 100 := by have := v.1; omega
      refine w_lpg fx k8 l.1 t47 t29 (w_gsb (d := 97) fx k8 p10 l16 l.1 l.2.1 l.2.2 (sm.1 p p10).1 (by omega) (by rw [rm.1.2.1, e100]; rfl) (w_lr132 (FX.sI (FX.sI fx)) ?_))
      have c : CH ad G (sI (sI G (ad 30) 29 3) (ad 30) 30 9) := CH.f (CH.f CHx.rf (.inr (.inl rfl))) (.inr (.inr (.inl rfl)))
      refine m_pop (o := -19) (val := 0) (FX.sI (FX.sI fx)) k8 (RM.cf (FX.sI fx) (rm.cf fx (.inr (.inl rfl))) (.inr (.inr (.inl rfl)))) (by rw [I_nk (by decide), I_nk (by decide)]; exact l.1) (by rw [I_nk (by decide), I_nk (by decide)]; exact t47) (.inr (.inr ⟨9, by decide, by decide, by decide, by rw [I_nk (by decide), I_eq], I_eq⟩)) (fun G' c' f' r' p' => hQ G' (CHx.tr c c') (KF.tr (KF.f fx (KF.f fx KF.rf)) f') r' p')
    · rw [if_neg h100] at hQ
      refine m_stp ih hk fx sm vp v rm l t47 t29 p10 (by omega) h100 (fun G2 c2 f2 a2 => ?_)
      have va := (gStp_ok gok vp p10 (by omega) (v.beg h100) (p := p) (i := i)).1
      generalize gStp (gPln P m) P (16 * p + i) (uN S 1 (S.1 1 + 1)) = R at *
      have fx2 := CHx.fx fx c2
      obtain ⟨r2, t2, ⟨eo, l2, w2⟩ | ⟨no, l2, w2⟩⟩ := a2
      · rw [if_pos eo] at hQ
        exact ihr (i + 1) G2 R.2.2 (by omega) fx2 (SM.ch fx sm c2) va r2 l2 t2 w2 (fun G' c' f' r' p' => hQ G' (CHx.tr c2 c') (KF.tr f2 f') r' p')
      · rw [if_neg no] at hQ
        exact m_pop fx2 k8 r2 l2 t2 w2 (fun G' c' f' r' p' => hQ G' (CHx.tr c2 c') (KF.tr f2 f') r' p')
theorem m_run (vp : VP n np LV P) : ∀ m k, k + m = 8 → MRN n np ad sa z0 LV P pl Q m k := by
  intro m
  induction m with
  | zero =>
    intro k hk p G S p10 fx sm v pr hQ
    obtain rfl : k = 8 := by omega
    obtain ⟨a1, a2, a3, a4, a5⟩ := pr
    exact hQ G CHx.rf KF.rf a5 ⟨a1, a2, .inr (.inr ⟨8, by decide, by decide, show (-18 : Int32) = -10 - nI 8 by decide, a3, a4⟩)⟩
  | succ m ih =>
    intro k hk p G S p10 fx sm v pr hQ
    obtain ⟨l, t47, t29, rm⟩ := pr
    refine m_lop (ih (k + 1) (by omega)) (by omega) vp p10 (P.len p) 0 G _ (by omega) fx sm (v.dep ?_) rm l t47 t29 hQ
    split
    · omega
    · exact v.2.2.2.1
end RN3
