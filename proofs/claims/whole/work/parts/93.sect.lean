/-! ===== seconds: the tails of class and reference ===== -/
theorem div_nn {s : UInt64} (hs : FP.Core.val64 s ≠ .nan) {c : Nat} (hc : 1 ≤ c) (hc3 : c ≤ 30) : FP.Core.val64 (FP.ddiv s (FP.i2d (nI c))) ≠ .nan := by
  show FP.Core.val64 (FP.Core.ddiv s (FP.Core.i2d (nI c))) ≠ .nan
  rw [FP.Core.val64_ddiv]
  have tn : (nI c).toInt = c := nI_toInt (by omega)
  have big := FP.Core.i2d_big (v := nI c) (by omega)
  obtain ⟨a, cc, q, e⟩ := (FP.Core.fin_bits (FP.Core.i2d (nI c))).mpr (by omega)
  have nz : cc ≠ 0 := fun z => by
    have := (FP.Core.zero_bits2 (FP.Core.i2d (nI c))).mp ⟨a, q, by rw [e, z]⟩
    omega
  rw [e]
  cases es : FP.Core.val64 s with
  | nan => exact absurd es hs
  | inf b => intro z; cases z
  | fin b c' q' =>
    show (if cc = 0 then (if c' = 0 then FP.Core.Datum.nan else .inf (b != a)) else FP.Core.roundRatio FP.Core.b64 (b != a) c' cc (q' - q)) ≠ .nan
    rw [if_neg nz]
    exact FP.Core.roundRatio_ne_nan _ _ _ _ _
/-- the class's heap in seconds -/
def CO (ad : Nat → Nat) (h C : mH) (y : Int32) : Prop := (hT C = hT h ∧ hN C = hN h ∧ hZ C = hZ h ∧ hU C = hU h) ∧ (∀ a j, ¬ (a = ad 0 ∧ j = 6) → hI C a j = hI h a j) ∧ hI C (ad 0) 6 = y ∧ hR C = hR h ∧ hD C = hD h ∧ ∀ z, z ≠ ad 22 → hL C z = hL h z
section SE
variable {d : Nat} {Q : mQ} {n : Nat} {ad sa : Nat → Nat} {z0 : Nat} {mid pa : Nat → Nat} {np : Nat} {h C M : mH} {kc t ln sz w : Nat} {y : Int32} {X : Nat → UInt64}
theorem CO.of (o : OL (sI h (ad 0) 6 0) C (ad 22)) : CO ad h C 0 := ⟨o.1, fun a j q => by rw [o.2.1, hI_sI, if_neg q], by rw [o.2.1, I_eq], o.2.2.1, o.2.2.2.1, o.2.2.2.2⟩
theorem CO.o2 {C2 : mH} (c : CO ad h C y) (o : OL C C2 (ad 22)) : CO ad h C2 y := ⟨⟨o.1.1.trans c.1.1, o.1.2.1.trans c.1.2.1, o.1.2.2.1.trans c.1.2.2.1, o.1.2.2.2.trans c.1.2.2.2⟩, fun a j q => by rw [o.2.1]; exact c.2.1 a j q, by rw [o.2.1]; exact c.2.2.1, o.2.2.1.trans c.2.2.2.1, o.2.2.2.1.trans c.2.2.2.2.1, fun z hz => (o.2.2.2.2 z hz).trans (c.2.2.2.2.2 z hz)⟩
theorem CO.set {v : Int32} (c : CO ad h C y) : CO ad h (sI C (ad 0) 6 v) v := ⟨c.1, fun a j q => by rw [hI_sI, if_neg q]; exact c.2.1 a j q, I_eq, c.2.2.2.1, c.2.2.2.2.1, c.2.2.2.2.2⟩
theorem CO.fx (fx : FX n ad sa z0 h) (c : CO ad h C y) : FX n ad sa z0 C := fx.of c.1.1 c.1.2.1 c.1.2.2.1 (fun _ _ _ => by rw [c.2.2.2.1]) (fun _ => by rw [c.2.2.2.1])
theorem sec_rel (fx : FX n ad sa z0 h) (rt : Rt ad h) (ra : Ra ad h) (rp : Rp n ad h) (rf : Rf ad h) (rst : Rst sa h) (ru : Ru n ad pa np h) (rs : Rs ad z0 mid pa np h) (c : CO ad h C y) (o : OD ad C M) : Rel n ad sa z0 (sI M (ad 30) 11 y) ∧ hZ (sI M (ad 30) 11 y) ≤ hZ h + 20 ∧ hU (sI M (ad 30) 11 y) ≤ hU h + 150 := by
  obtain ⟨⟨c1, c2, c3, c4⟩, cI, cy, cR, cD, cL⟩ := c
  obtain ⟨⟨o1, o2, o3, o4⟩, oI, oL, oR, oD⟩ := o
  have eI : ∀ a j, ¬ (a = ad 0 ∧ j = 6) → ¬ (a = ad 30 ∧ j = 11) → ¬ (a = ad 30 ∧ j = 17) → hI (sI M (ad 30) 11 y) a j = hI h a j := fun a j h0 h1 h2 => by rw [hI_sI, if_neg h1, oI a j h2, cI a j h0]
  have cg : Chg n ad [(0, 6), (30, 11), (30, 17)] [22, 42] h (sI M (ad 30) 11 y) := by
    refine ⟨⟨o1.trans c1, o2.trans c2, o3.trans c3, o4.trans c4⟩, fun i j hd hp hq => ?_, fun a ha => ?_⟩
    · simp only [List.mem_cons, List.not_mem_nil, or_false, not_or] at hp hq
      refine ⟨eI _ _ (fun e => hp.1 (by rw [fx_inj fx e.1, e.2])) (fun e => hp.2.1 (by rw [fx_inj fx e.1, e.2])) (fun e => hp.2.2 (by rw [fx_inj fx e.1, e.2])), ?_, ?_, ?_⟩
      · show hL M (ad i) j = _
        rw [oL, cL _ (fun e => hq.1 (fx_inj fx e))]
      · show hD M (ad i) j = _
        rw [oD _ (fun e => hq.2 (fx_inj fx e)), cD]
      · show hR M (ad i) j = _
        rw [oR, cR]
    · refine ⟨funext fun j => eI _ _ (fun e => ha 0 (.inl (by decide)) e.1) (fun e => ha 30 (.inl (by decide)) e.1) (fun e => ha 30 (.inl (by decide)) e.1), ?_, ?_, ?_⟩
      · show hL M a = _
        rw [oL, cL _ (ha 22 (.inl (by decide)))]
      · show hD M a = _
        rw [oD _ (ha 42 (.inl (by decide))), cD]
      · show hR M a = _
        rw [oR, cR]
  have ry : hI (sI M (ad 30) 11 y) (ad 0) 6 = hI (sI M (ad 30) 11 y) (ad 30) 11 := by
    rw [I_eq, I_ne (fx_ne fx (by decide)), oI _ _ (fun e => absurd (fx_inj fx e.1) (by decide)), cy]
  have ez : hZ (sI M (ad 30) 11 y) = hZ h := o3.trans c3
  have eu : hU (sI M (ad 30) 11 y) = hU h := o4.trans c4
  exact ⟨⟨mid, pa, np, FX.k fx cg.1 cg.2.1 cg.2.2 (by decide), ry, rt.k cg.2.1 (by decide), ra.k cg.2.1 (by decide), rp.k cg.2.1 (by decide), rf.k cg.2.1 (by decide), Rst.k fx rst cg.2.2, Ru.k fx ru cg.2.1 (by decide), Rs.k fx rs cg.1 cg.2.1 cg.2.2 (by decide)⟩, by omega, by omega⟩
theorem t_seconds (fx : FX n ad sa z0 h) (rt : Rt ad h) (ra : Ra ad h) (rp : Rp n ad h) (rf : Rf ad h) (rst : Rst sa h) (ru : Ru n ad pa np h) (rs : Rs ad z0 mid pa np h) (hc : kc < 24) (ht : t < 250) (e1 : hI h (ad 31) kc = nI t) (q : rowR ad z0 h t (mid t) ln) (hl : ln = 5 ∨ ln = 6) (hw : w ≤ 5) :
    WR 99 cd_75 57 [some (.ref (ad 0)), some (.int (nI kc)), some (.int (nI ln)), some (.int (nI w)), some (.ref (mid t)), none] [] (sI h (ad 0) 6 0) (fun v h1 => EV 100 193 [.ref (ad 30), .int (nI kc), .int (nI ln), .int (nI w)] h1 (fun v2 h2 => v2 = v ∧ Rel n ad sa z0 h2 ∧ hZ h2 ≤ hZ h + 20 ∧ hU h2 ≤ hU h + 150)) := by
  have fxH : FX n ad sa z0 (sI h (ad 0) 6 0) := FX.sI fx
  obtain ⟨v1, v2, v3, v4, ⟨v5, v6, v7, v8⟩, sz, v9, v10, v11, v12⟩ := id (q.s (smY fx (v := 0)))
  have hX : ∀ i, i < sz → canL ln (hL (sI h (ad 0) 6 0) (mid t + 1) i) ∧ (fun i => wD ln (hL h (mid t + 1) i)) i = wD ln (hL (sI h (ad 0) 6 0) (mid t + 1) i) := fun i hi => ⟨(v12 i hi).2, rfl⟩
  generalize hXX : (fun i => wD ln (hL h (mid t + 1) i)) = X at hX
  have cl := flC_le (X := X) sz
  have nF := flF_nn (X := X) sz
  have i0 : ∀ C y, CO ad h C y → ∀ i j, i ≠ 0 → hI C (ad i) j = hI h (ad i) j := fun C y c i j h0 => c.2.1 _ _ (fun e => h0 (fx_inj fx e.1))
  have z35 : hI h (ad 35) t = nI sz := by rw [← v11]; exact (I_ne (fx_ne fx (by decide))).symm
  have z33 : hI h (ad 33) t = nI ln := by rw [← v7]; exact (I_ne (fx_ne fx (by decide))).symm
  have d36 : ∀ i, i < sz → canL ln (hL h (ad 36) (30 * t + i)) ∧ X i = wD ln (hL h (ad 36) (30 * t + i)) := by
    intro i hi
    have e : hL h (mid t + 1) i = hL h (ad 36) (30 * t + i) := (v12 i hi).1
    rw [← e, ← hXX]
    exact ⟨(v12 i hi).2, rfl⟩
  -- the reference, up to what is asked
  have mdl : ∀ C y v, CO ad h C y → (∀ M, OD ad C M → hI M (ad 30) 17 = nI (flC X sz) → (∀ j, j < flC X sz → hD M (ad 42) j = sgG (flF X sz) (flC X sz) j) → WR 99 cd_193 98 [some (.ref (ad 30)), some (.int (nI kc)), some (.int (nI ln)), some (.int (nI w)), some (.int (nI t)), none, none] [] M (fun v2 h2 => v2 = v ∧ Rel n ad sa z0 h2 ∧ hZ h2 ≤ hZ h + 20 ∧ hU h2 ≤ hU h + 150)) → EV 100 193 [.ref (ad 30), .int (nI kc), .int (nI ln), .int (nI w)] C (fun v2 h2 => v2 = v ∧ Rel n ad sa z0 h2 ∧ hZ h2 ≤ hZ h + 20 ∧ hU h2 ≤ hU h + 150) := by
    intro C y v c k
    have l36 : hL C (ad 36) = hL h (ad 36) := c.2.2.2.2.2 _ (fx_ne fx (by decide))
    refine w_sm0_ (d := 98) (c.fx fx) hc ht (by omega) (by omega) hw ((i0 C y c 31 _ (by decide)).trans e1) ((i0 C y c 33 _ (by decide)).trans z33) ?_
    exact c_mmeas (d := 95) (c.fx fx) ht v9 ((i0 C y c 35 _ (by decide)).trans z35) hl (fun i hi => by rw [l36]; exact d36 i hi) (fun M o e17 g => k M o e17 g)
  have fin : ∀ C y M, CO ad h C y → OD ad C M → Rel n ad sa z0 (sI M (ad 30) 11 y) ∧ hZ (sI M (ad 30) 11 y) ≤ hZ h + 20 ∧ hU (sI M (ad 30) 11 y) ≤ hU h + 150 := fun C y M c o => sec_rel fx rt ra rp rf rst ru rs c o
  have msm : ∀ C M Q, CO ad h C 0 → OD ad C M → Q (some (.double (sOr (flF X sz) (flC X sz)))) (sI M (ad 30) 11 0) → EV 99 200 [.ref (ad 30), .int (nI t), .int (nI ln)] (sI M (ad 30) 11 0) Q := by
    intro C M Q c o hq
    refine c_msum (d := 97) (FX.sI (o.fx (c.fx fx))) ht v9 ?_ hl (fun i hi => ?_) hq
    · rw [I_ne (fx_ne fx (by decide)), o.2.1 _ _ (fun e => absurd (fx_inj fx e.1) (by decide))]
      exact (i0 C 0 c 35 _ (by decide)).trans z35
    · show canL ln (hL M (ad 36) (30 * t + i)) ∧ X i = wD ln (hL M (ad 36) (30 * t + i))
      rw [o.2.2.1, c.2.2.2.2.2 _ (fx_ne fx (by decide))]
      exact d36 i hi
  refine w_st57 (w := w) fxH ?_
  refine c_meas (d := 96) (X := X) fxH v1 v3 v4 v10 v9 v2 hl v6 hX (fun C o g => ?_)
  have co := CO.of o
  have fxC := co.fx fx
  have tC : hT C (ad 22) = 21 := fx_t22 fxC
  have nC : hN C (ad 22) = 30 := fx_n22 fxC
  have hF : ∀ j, j < flC X sz → hL C (ad 22) j = (flF X sz j).toInt64 ∧ FP.Core.val64 (flF X sz j) ≠ .nan := fun j hj => ⟨g j hj, nF j hj⟩
  have rk : ∀ (k : Nat) j, j < flC X sz → (k = 0 ∧ j = flC X sz - 1 ∨ k = 1 ∧ j = 0 ∨ k = 3 ∧ j = (flC X sz - 1) / 2) → ∀ Q : mQ, (∀ C2, CO ad h C2 0 → Q (some (.long (sgG (flF X sz) (flC X sz) j).toInt64)) C2) → EV 99 80 [.ref (ad 0), .int (nI (flC X sz)), .int (nI k)] C Q := by
    intro k j hj hk Q hq
    refine w_rk0 (d := 98) fxC ?_
    refine c_sort (d := 96) (F := flF X sz) fxC tC nC (by decide) (by omega) g (fun C2 o2 g2 => ?_)
    have c2 := co.o2 o2
    rcases hk with ⟨rfl, e⟩ | ⟨rfl, e⟩ | ⟨rfl, e⟩
    · refine w_rk8_0 (c2.fx fx) (by omega) (by omega) ?_
      rw [← e, g2 j hj]; exact hq C2 c2
    · refine w_rk8_1 (c2.fx fx) (by omega) (by omega) ?_
      rw [← e, g2 j hj]; exact hq C2 c2
    · refine w_rk8_3 (c2.fx fx) (by omega) (by omega) ?_
      rw [← e, g2 j hj]; exact hq C2 c2
  have sgN := sgG_in (F := flF X sz) (P := fun x => FP.Core.val64 x ≠ .nan) (flC X sz) nF
  show WR 99 cd_75 63 [some (.ref (ad 0)), some (.int (nI kc)), some (.int (nI ln)), some (.int (nI w)), some (.ref (mid t)), none] [.int (nI (flC X sz))] C _
  have hw' : w = 0 ∨ w = 1 ∨ w = 2 ∨ w = 3 ∨ w = 4 ∨ w = 5 := by omega
  by_cases c0 : flC X sz = 0
  · rw [c0]
    have e17z : ∀ M, hI M (ad 30) 17 = nI (flC X sz) → hI M (ad 30) 17 = 0 := fun M e => by rw [e, c0]; rfl
    rcases hw' with rfl | rfl | rfl | rfl | rfl | rfl
    · exact w_st0z fxC (mdl C 0 _ co (fun M od e17 _ => w_sr0z (od.fx fxC) (e17z M e17) ⟨rfl, fin C 0 M co od⟩))
    · exact w_st1z fxC (mdl C 0 _ co (fun M od e17 _ => w_sr1z (od.fx fxC) (e17z M e17) ⟨rfl, fin C 0 M co od⟩))
    · refine w_st2z fxC ?_
      refine w_moz (d := 98) fxC ?_
      refine w_st128 fxC _ _ _ _ _ _ ?_
      refine mdl C 0 _ co (fun M od e17 _ => w_sr2z (od.fx fxC) (e17z M e17) ?_)
      refine msm C M _ co od ?_
      exact w_sr214z (FX.sI (od.fx fxC)) (by rw [I_nk (by decide)]; exact e17z M e17) _ ⟨rfl, fin C 0 M co od⟩
    · exact w_st3z fxC (mdl C 0 _ co (fun M od e17 _ => w_sr3z (od.fx fxC) (e17z M e17) ⟨rfl, fin C 0 M co od⟩))
    · exact w_st4z (d := 98) fxC (mdl _ (-16) _ co.set (fun M od e17 _ => w_sr4z (d := 98) (od.fx (co.set.fx fx)) (e17z M e17) ⟨rfl, fin _ (-16) M co.set od⟩))
    · exact w_st5z fxC (mdl C 0 _ co (fun M od e17 _ => w_sr5z (od.fx fxC) (e17z M e17) ⟨rfl, fin C 0 M co od⟩))
  · have c1 : 1 ≤ flC X sz := by omega
    have c3 : flC X sz ≤ 30 := by omega
    have dl : ∀ M C2 j, CO ad h C2 0 → OD ad C2 M → j < flC X sz → (∀ j, j < flC X sz → hD M (ad 42) j = sgG (flF X sz) (flC X sz) j) → ∀ Q : mQ, Q (some (.long (sgG (flF X sz) (flC X sz) j).toInt64)) (sI M (ad 30) 11 0) → EV 99 198 [.double (hD M (ad 42) j)] (sI M (ad 30) 11 0) Q := by
      intro M C2 j c2 od hj gg Q hq
      rw [gg j hj]
      exact c_dl (d := 97) (.inr (sgN j hj)) hq
    have nc : ¬ lN (flC X sz) = 0 := fun z => by have := (lN_eq (b := 0) (by omega) (by decide)).mp z; omega
    rcases hw' with rfl | rfl | rfl | rfl | rfl | rfl
    · refine w_st0p fxC c1 c3 (rk 0 _ (by omega) (.inl ⟨rfl, rfl⟩) _ (fun C2 k2 => ?_))
      refine w_st118 (k2.fx fx) _ _ _ _ _ _ (mdl C2 0 _ k2 (fun M od e17 gg => ?_))
      refine w_sr0p (od.fx (k2.fx fx)) c1 c3 e17 (dl M C2 _ k2 od (by omega) gg _ ?_)
      exact w_sr183 (FX.sI (od.fx (k2.fx fx))) _ _ _ _ _ _ _ ⟨rfl, fin C2 0 M k2 od⟩
    · refine w_st1p fxC c1 c3 (rk 1 _ (by omega) (.inr (.inl ⟨rfl, rfl⟩)) _ (fun C2 k2 => ?_))
      refine w_st118 (k2.fx fx) _ _ _ _ _ _ (mdl C2 0 _ k2 (fun M od e17 gg => ?_))
      refine w_sr1p (od.fx (k2.fx fx)) c1 c3 e17 (dl M C2 _ k2 od (by omega) gg _ ?_)
      exact w_sr206 (FX.sI (od.fx (k2.fx fx))) _ _ _ _ _ _ _ ⟨rfl, fin C2 0 M k2 od⟩
    · refine w_st2p fxC c1 c3 ?_
      refine w_mo (d := 98) fxC c1 c3 ?_
      refine c_lost (d := 95) (F := flF X sz) fxC tC nC (by decide) c3 hF _ (fun lost => ?_) (fun nl => ?_)
      · refine w_mo9 fxC 1 (fun z => absurd z (by decide)) (fun _ => ?_)
        refine w_st128 fxC _ _ _ _ _ _ (mdl C 0 _ co (fun M od e17 gg => ?_))
        refine w_sr2p (od.fx fxC) c1 c3 e17 (msm C M _ co od ?_)
        have es : sOr (flF X sz) (flC X sz) = 9221120237041090560 := by unfold sOr; rw [lost]; rfl
        have n1 : ¬ deq 9221120237041090560 9221120237041090560 := fun z => de_self.mp z (by decide +kernel)
        rw [es]
        exact w_sr214 (FX.sI (od.fx fxC)) c1 c3 (by rw [I_nk (by decide)]; exact e17) _ (fun z => absurd z n1) (fun z => absurd z n1) (fun _ => ⟨rfl, fin C 0 M co od⟩)
      · obtain ⟨S, hS⟩ := Option.ne_none_iff_exists'.mp nl
        have nS := smG_nn (F := flF X sz) nF _ S (Nat.le_refl _) hS
        have nd := div_nn nS c1 c3
        refine w_mo9 fxC 0 (fun _ => ?_) (fun z => absurd rfl z)
        refine c_sum (d := 95) (F := flF X sz) fxC tC nC (by decide) c3 hF hS ?_
        refine w_mo23 fxC S (nn_vf nd) ?_
        refine c_bitsOf (d := 97) nd ?_
        refine w_mo29 fxC _ ?_
        refine w_st128 fxC _ _ _ _ _ _ (mdl C 0 _ co (fun M od e17 gg => ?_))
        refine w_sr2p (od.fx fxC) c1 c3 e17 (msm C M _ co od ?_)
        have es : sOr (flF X sz) (flC X sz) = S := by unfold sOr; rw [hS]; rfl
        rw [es]
        refine w_sr214 (FX.sI (od.fx fxC)) c1 c3 (by rw [I_nk (by decide)]; exact e17) S (fun _ => nn_vf nd) (fun _ => ?_) (fun z => absurd (de_self.mpr nS) z)
        refine c_dl (d := 97) (.inr nd) ?_
        exact w_sr248 (FX.sI (od.fx fxC)) _ _ _ _ _ _ _ ⟨rfl, fin C 0 M co od⟩
    · refine w_st3p fxC c1 c3 (rk 3 _ (by omega) (.inr (.inr ⟨rfl, rfl⟩)) _ (fun C2 k2 => ?_))
      refine w_st118 (k2.fx fx) _ _ _ _ _ _ (mdl C2 0 _ k2 (fun M od e17 gg => ?_))
      refine w_sr3p (od.fx (k2.fx fx)) c1 c3 e17 (dl M C2 _ k2 od (by omega) gg _ ?_)
      exact w_sr278 (FX.sI (od.fx (k2.fx fx))) _ _ _ _ _ _ _ ⟨rfl, fin C2 0 M k2 od⟩
    · refine w_st4p fxC c1 c3 ?_
      refine w_wh (d := 98) fxC ?_
      refine c_lost (d := 95) (F := flF X sz) fxC tC nC (by decide) c3 hF _ (fun lost => ?_) (fun nl => ?_)
      · refine w_wh5 fxC 1 (fun z => absurd z (by decide)) (fun _ => ?_)
        refine w_st152 fxC c1 c3 _ nc (mdl C 0 _ co (fun M od e17 gg => ?_))
        refine w_sr4p (od.fx fxC) c1 c3 e17 (msm C M _ co od ?_)
        have es : sOr (flF X sz) (flC X sz) = 9221120237041090560 := by unfold sOr; rw [lost]; rfl
        have e0 : FP.d2l 9221120237041090560 = 0 := by decide +kernel
        rw [es]
        refine w_sr286 (FX.sI (od.fx fxC)) c1 c3 (by rw [I_nk (by decide)]; exact e17) _ nc ?_
        rw [e0]
        exact ⟨rfl, fin C 0 M co od⟩
      · obtain ⟨S, hS⟩ := Option.ne_none_iff_exists'.mp nl
        refine w_wh5 fxC 0 (fun _ => ?_) (fun z => absurd rfl z)
        refine c_sum (d := 95) (F := flF X sz) fxC tC nC (by decide) c3 hF hS ?_
        refine w_wh17 fxC S ?_
        refine w_st152 fxC c1 c3 _ nc (mdl C 0 _ co (fun M od e17 gg => ?_))
        refine w_sr4p (od.fx fxC) c1 c3 e17 (msm C M _ co od ?_)
        have es : sOr (flF X sz) (flC X sz) = S := by unfold sOr; rw [hS]; rfl
        rw [es]
        exact w_sr286 (FX.sI (od.fx fxC)) c1 c3 (by rw [I_nk (by decide)]; exact e17) _ nc ⟨rfl, fin C 0 M co od⟩
    · exact w_st5p fxC c1 c3 (mdl C 0 _ co (fun M od e17 _ => w_sr5p (od.fx fxC) c1 c3 e17 ⟨rfl, fin C 0 M co od⟩))
end SE
