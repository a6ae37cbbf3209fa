/-! ===== the reference's whole act ===== -/
def mfF (j : Nat) : Prop := j = 11 ∨ j = 23 ∨ (29 ≤ j ∧ j ≤ 35) ∨ j = 37 ∨ j = 42 ∨ j = 43 ∨ j = 47
/-- what an act of the reference may have changed -/
def MFr (ad : Nat → Nat) (X G : mH) : Prop := (hT G = hT X ∧ hN G = hN X ∧ hZ G = hZ X ∧ hU G = hU X) ∧ hD G = hD X ∧ hR G = hR X ∧ (∀ a j, (∀ i, (i = 31 ∨ 48 ≤ i ∧ i ≤ 59) → a ≠ ad i) → ¬ (a = ad 30 ∧ mfF j) → hI G a j = hI X a j) ∧ ∀ a, a ≠ ad 36 → a ≠ ad 60 → hL G a = hL X a
/-- what both sides tell of an act -/
def MV (ad : Nat → Nat) (G : mH) (S : aS) (v : Int32) (g : Nat) : Prop := (hI G (ad 30) 42 = v ∧ hI G (ad 30) 31 = nI (S.1 1) ∧ hI G (ad 30) 32 = nI (S.1 3) ∧ hI G (ad 30) 34 = S.2.1 34 0 ∧ hI G (ad 30) 43 = nI g ∧ hI G (ad 30) 35 = nI (S.1 2)) ∧ (∀ i, hI G (ad 53) i = S.2.1 53 i) ∧ ∀ t, hI G (ad 56) t = S.2.1 56 t
theorem gBk_k : ∀ i (S : aS) g, (gBk i S g).1.1 = S.1 ∧ (∀ k, k ≠ 31 → ∀ j, (gBk i S g).1.2.1 k j = S.2.1 k j) ∧ (gBk i S g).1.2.2 = S.2.2 := by
  intro i
  induction i with
  | zero => intro S g; exact ⟨rfl, fun _ _ _ => rfl, rfl⟩
  | succ i ih =>
    intro S g
    unfold gBk
    split
    · exact ih S g
    · obtain ⟨a1, a2, a3⟩ := ih (uI S 31 (gC S i).toNatClampNeg (S.2.1 54 i)) (g + 1)
      exact ⟨a1, fun k hk j => (a2 k hk j).trans (uI_n hk), a3⟩
section MA
variable {n np : Nat} {ad sa : Nat → Nat} {z0 : Nat} {mid pa : Nat → Nat} {h X G G' G2 : mH} {Q : mQ} {p : Nat} {R : aR} {S : aS}
theorem MFr.rf : MFr ad G G := ⟨⟨rfl, rfl, rfl, rfl⟩, rfl, rfl, fun _ _ _ _ => rfl, fun _ _ _ => rfl⟩
theorem MFr.tr (x : MFr ad G G') (y : MFr ad G' G2) : MFr ad G G2 := ⟨⟨y.1.1.trans x.1.1, y.1.2.1.trans x.1.2.1, y.1.2.2.1.trans x.1.2.2.1, y.1.2.2.2.trans x.1.2.2.2⟩, y.2.1.trans x.2.1, y.2.2.1.trans x.2.2.1, fun a j h1 h2 => (y.2.2.2.1 a j h1 h2).trans (x.2.2.2.1 a j h1 h2), fun a h1 h2 => (y.2.2.2.2 a h1 h2).trans (x.2.2.2.2 a h1 h2)⟩
theorem MFr.f {j : Nat} {v : Int32} (x : MFr ad G G') (hj : mfF j) : MFr ad G (sI G' (ad 30) j v) := ⟨x.1, x.2.1, x.2.2.1, fun a k h1 h2 => by
  have ne : ¬ (a = ad 30 ∧ k = j) := fun e => h2 ⟨e.1, by rw [e.2]; exact hj⟩
  rw [hI_sI, if_neg ne]; exact x.2.2.2.1 a k h1 h2, x.2.2.2.2⟩
theorem MFr.fx (fx : FX n ad sa z0 G) (x : MFr ad G G') : FX n ad sa z0 G' := fx.of x.1.1 x.1.2.1 x.1.2.2.1 (fun _ _ _ => by rw [x.2.2.1]) (fun _ => by rw [x.2.2.1])
theorem MFr.ch {R' F' : Nat → Prop} (x : CHx R' F' ad G G') (h1 : ∀ i, R' i → i = 31 ∨ 48 ≤ i ∧ i ≤ 59) (h2 : ∀ j, F' j → mfF j) : MFr ad G G' := ⟨x.1, x.2.1, x.2.2.1, fun a j g1 g2 => x.2.2.2.1 a j (fun i hi => g1 i (h1 i hi)) (fun e => g2 ⟨e.1, h2 j e.2⟩), fun a g1 _ => x.2.2.2.2 a g1⟩
theorem MFr.c (x : CH ad G G') : MFr ad G G' := MFr.ch x (fun i hi => by unfold actR ctlR at hi; omega) (fun j hj => by unfold actF ctlF at hj; unfold mfF; omega)
theorem MFr.b (x : CHb ad G G') : MFr ad G G' := MFr.ch x (fun i hi => by omega) (fun j hj => by unfold mfF; omega)
theorem KP0.m (x : KP0 ad G G') : MFr ad G G' := ⟨x.1, x.2.1, x.2.2.1, fun a j h1 _ => by rw [x.2.2.2.1 a (h1 58 (by omega)) (h1 59 (by omega))], fun a h1 h2 => x.2.2.2.2.2.2.1 a h2⟩
theorem KP1.m (x : KP1 ad G G') : MFr ad G G' := ⟨x.1, x.2.1, x.2.2.1, fun a j h1 _ => by rw [x.2.2.2.1 a (h1 31 (by omega)) (h1 57 (by omega))], fun a h1 h2 => x.2.2.2.2.2.2.1 a h1⟩
theorem MFr.i (fx : FX n ad sa z0 G) (x : MFr ad G G') {i j : Nat} (h1 : i ≠ 30) (h2 : ¬ (i = 31 ∨ 48 ≤ i ∧ i ≤ 59)) : hI G' (ad i) j = hI G (ad i) j := x.2.2.2.1 _ _ (fun k hk e => h2 (by rw [fx_inj fx e]; exact hk)) (fun e => h1 (fx_inj fx e.1))
theorem RM.g42 {v : Int32} (fx : FX n ad sa z0 G) (r : RM ad G S) : RM ad (sI G (ad 30) 42 v) S := r.sc fx (fun _ _ _ => trivial) rfl (fun _ _ _ => rfl) rfl rfl rfl rfl rfl rfl
theorem RM.g11 {v : Int32} (fx : FX n ad sa z0 G) (r : RM ad G S) : RM ad (sI G (ad 30) 11 v) S := r.sc fx (fun _ _ _ => trivial) rfl (fun _ _ _ => rfl) rfl rfl rfl rfl rfl rfl
theorem sm_h (rp : Rp n ad h) (rs : Rs ad z0 mid pa np h) (e : ∀ i j, 30 ≤ i → i < 48 → hI G (ad i) j = hI h (ad i) j ∨ i = 30 ∨ i = 31) : SM n np ad (aLV ad h) (aPl ad h) G := by
  have e' : ∀ i j, 32 ≤ i → i < 48 → hI G (ad i) j = hI h (ad i) j := fun i j h1 h2 => by
    rcases e i j (by omega) h2 with q | q | q
    · exact q
    · omega
    · omega
  refine ⟨fun p hp => ?_, fun q hq => ?_, fun t ht lt => ?_⟩
  · obtain ⟨l, a1, a2, a3, a4⟩ := rp p hp
    have el : (aPl ad h).len p = l := by show (hI h (ad 43) p).toNatClampNeg = l; rw [a3]; exact nI_clamp (by omega)
    rw [el, e' 43 _ (by decide) (by decide)]
    refine ⟨a3, fun i hi => ?_⟩
    obtain ⟨-, -, -, -, b⟩ := a4 i hi
    have o := cl_op b.1
    rw [e' 44 _ (by decide) (by decide), e' 45 _ (by decide) (by decide), e' 46 _ (by decide) (by decide), e' 47 _ (by decide) (by decide)]
    exact ⟨o.2.symm, rfl, rfl, rfl⟩
  · obtain ⟨-, -, -, -, ⟨k, k7, ek⟩, -⟩ := rs.1.2.2.2.1 q hq
    rw [e' 37 _ (by decide) (by decide)]
    show _ = nI (hI h (ad 37) q).toNatClampNeg
    rw [ek, nI_clamp (by omega)]
  · rw [e' 33 _ (by decide) (by decide), e' 35 _ (by decide) (by decide)]
    show _ = nI (hI h (ad 33) t).toNatClampNeg ∧ _ = nI (hI h (ad 35) t).toNatClampNeg
    obtain ⟨-, -, -, -, q⟩ := lv_th rs ht lt
    rcases q with ⟨ln, q⟩ | q | q
    · obtain ⟨-, -, -, -, ⟨k5, -, k7, -⟩, sz, k1, -, k2, -⟩ := q
      rw [k2, k7, nI_clamp (by omega), nI_clamp (by omega)]
      exact ⟨rfl, rfl⟩
    · obtain ⟨-, -, -, -, ⟨-, k7, -⟩, sz, k1, -, k2, -⟩ := q
      rw [k2, k7, nI_clamp (by omega)]
      exact ⟨rfl, rfl⟩
    · obtain ⟨-, -, -, -, k, ⟨-, -, k7, -⟩, sz, k1, -, k2, -⟩ := q
      rw [k2, k7, nI_clamp (by omega)]
      exact ⟨rfl, rfl⟩
/-- the reference where it lays the first plan -/
def gB (ad : Nat → Nat) (h : mH) : mH := sI (sI (sI (sI (sI (sI (sI (sI (sI h (ad 30) 23 0) (ad 30) 31 0) (ad 30) 32 0) (ad 30) 33 0) (ad 30) 34 0) (ad 30) 35 0) (ad 30) 37 0) (ad 30) 43 0) (ad 30) 47 0
theorem gB_m : MFr ad G (gB ad G) := MFr.f (MFr.f (MFr.f (MFr.f (MFr.f (MFr.f (MFr.f (MFr.f (MFr.f MFr.rf (by unfold mfF; omega)) (by unfold mfF; omega)) (by unfold mfF; omega)) (by unfold mfF; omega)) (by unfold mfF; omega)) (by unfold mfF; omega)) (by unfold mfF; omega)) (by unfold mfF; omega)) (by unfold mfF; omega)
theorem gB_fx (fx : FX n ad sa z0 G) : FX n ad sa z0 (gB ad G) := FX.sI (FX.sI (FX.sI (FX.sI (FX.sI (FX.sI (FX.sI (FX.sI (FX.sI fx))))))))
theorem gB_o (fx : FX n ad sa z0 G) {i j : Nat} (hi : i ≠ 30) : hI (gB ad G) (ad i) j = hI G (ad i) j := by
  unfold gB
  rw [I_ne (fx_ne fx hi), I_ne (fx_ne fx hi), I_ne (fx_ne fx hi), I_ne (fx_ne fx hi), I_ne (fx_ne fx hi), I_ne (fx_ne fx hi), I_ne (fx_ne fx hi), I_ne (fx_ne fx hi), I_ne (fx_ne fx hi)]
theorem gB_f : hI (gB ad G) (ad 30) 23 = 0 ∧ hI (gB ad G) (ad 30) 31 = 0 ∧ hI (gB ad G) (ad 30) 32 = 0 ∧ hI (gB ad G) (ad 30) 33 = 0 ∧ hI (gB ad G) (ad 30) 34 = 0 ∧ hI (gB ad G) (ad 30) 35 = 0 ∧ hI (gB ad G) (ad 30) 37 = 0 ∧ hI (gB ad G) (ad 30) 43 = 0 ∧ hI (gB ad G) (ad 30) 47 = 0 := by
  unfold gB
  refine ⟨?_, ?_, ?_, ?_, ?_, ?_, ?_, ?_, I_eq⟩
  · rw [I_nk (by decide), I_nk (by decide), I_nk (by decide), I_nk (by decide), I_nk (by decide), I_nk (by decide), I_nk (by decide), I_nk (by decide), I_eq]
  · rw [I_nk (by decide), I_nk (by decide), I_nk (by decide), I_nk (by decide), I_nk (by decide), I_nk (by decide), I_nk (by decide), I_eq]
  · rw [I_nk (by decide), I_nk (by decide), I_nk (by decide), I_nk (by decide), I_nk (by decide), I_nk (by decide), I_eq]
  · rw [I_nk (by decide), I_nk (by decide), I_nk (by decide), I_nk (by decide), I_nk (by decide), I_eq]
  · rw [I_nk (by decide), I_nk (by decide), I_nk (by decide), I_nk (by decide), I_eq]
  · rw [I_nk (by decide), I_nk (by decide), I_nk (by decide), I_eq]
  · rw [I_nk (by decide), I_nk (by decide), I_eq]
  · rw [I_nk (by decide), I_eq]
theorem MV.of {v : Int32} {g : Nat} (r : RM ad G S) (e42 : hI G (ad 30) 42 = v) (e43 : hI G (ad 30) 43 = nI g) : MV ad G S v g := ⟨⟨e42, r.1.2.1, r.1.2.2.2, r.2.1.2, e43, r.1.2.2.1⟩, fun i => r.r5 (by decide) (by decide) i, fun t => r.r5 (by decide) (by decide) t⟩
theorem MV.f {v w : Int32} {g j : Nat} (fx : FX n ad sa z0 G) (x : MV ad G S v g) (hj : j = 11 ∨ j = 37) : MV ad (sI G (ad 30) j w) S v g := by
  obtain ⟨⟨a1, a2, a3, a4, a5, a6⟩, a7, a8⟩ := x
  have q : ∀ k, k ≠ 11 → k ≠ 37 → hI (sI G (ad 30) j w) (ad 30) k = hI G (ad 30) k := fun k h1 h2 => I_nk (by omega)
  exact ⟨⟨(q 42 (by decide) (by decide)).trans a1, (q 31 (by decide) (by decide)).trans a2, (q 32 (by decide) (by decide)).trans a3, (q 34 (by decide) (by decide)).trans a4, (q 43 (by decide) (by decide)).trans a5, (q 35 (by decide) (by decide)).trans a6⟩, fun i => (I_ne (fx_ne fx (by decide))).trans (a7 i), fun t => (I_ne (fx_ne fx (by decide))).trans (a8 t)⟩
theorem m_act (fx : FX n ad sa z0 h) (rp : Rp n ad h) (ru : Ru n ad pa np h) (rs : Rs ad z0 mid pa np h) (hp : p < 10) (eR : gPln (aPl ad h) 8 p (aS0 ad h) = R) (fxX : FX n ad sa z0 X) (exI : ∀ i j, 30 ≤ i → i < 76 → hI X (ad i) j = hI h (ad i) j) (exL : ∀ j, hL X (ad 36) j = hL h (ad 36) j)
    (hQs : ∀ G f, f = R.1 → MFr ad X G → MV ad G (gBk (R.2.2.1 0) R.2.2 0).1 (if R.1 = 1 then R.2.1 else 0) (gBk (R.2.2.1 0) R.2.2 0).2 → (∀ c, hI G (ad 31) c = (gBk (R.2.2.1 0) R.2.2 0).1.2.1 31 c) → (∀ k, hI G (ad 57) k = (gBk (R.2.2.1 0) R.2.2 0).1.2.1 57 k) → (∀ k, hL G (ad 36) k = (gBk (R.2.2.1 0) R.2.2 0).1.2.2 k) → hI G (ad 30) 11 = 0 → 0 ≤ R.1 → Q (some (.int f)) G)
    (hQf : ∀ G f, f = R.1 → MFr ad X G → MV ad G R.2.2 0 0 → (∀ c, c < 24 → hI G (ad 31) c = hI X (ad 31) c) → (∀ k, k < 30 → hI G (ad 57) k = hI X (ad 57) k) → (∀ k, k < 7500 → hL G (ad 36) k = hL X (ad 36) k) → hI G (ad 30) 11 = R.1 → ¬ 0 ≤ R.1 → Q (some (.int f)) G) :
    EV 100 209 [.ref (ad 30), .int (nI p)] X Q := by
  have vp := vp_h fx rp rs
  have vs := vs_h ru rs
  have np0 : ¬ nI p < 0 := nI_pos (by omega)
  have np1 : ¬ 10 ≤ nI p := fun z => by have := (nI_leI (a := 10) (by decide) (by omega)).mp z; omega
  refine w_ma0 (d := 98) fxX (fun z => absurd z np0) (fun _ z => absurd z np1) (fun _ _ => m_keep0 (d := 98) fxX (fun G1 kp => ?_))
  have fx1 : FX n ad sa z0 G1 := (KP0.m kp).fx fxX
  have fx2 := gB_fx fx1
  have kI : ∀ i j, 30 ≤ i → i < 58 → hI G1 (ad i) j = hI h (ad i) j := fun i j h1 h2 => by
    rw [kp.2.2.2.1 (ad i) (fx_ne fx (by omega)) (fx_ne fx (by omega))]
    exact exI i j h1 (by omega)
  have rm2 : RM ad (gB ad G1) (aS0 ad h) := by
    obtain ⟨e23, e31, e32, e33, e34, e35, e37, e43, e47⟩ := gB_f (ad := ad) (G := G1)
    refine ⟨⟨e37, e31, e35, e32⟩, ⟨e33, e34⟩, fun i hi j => ?_, fun j => ?_⟩
    · show _ = if i = 33 ∨ i = 34 then 0 else hI h (ad i) j
      unfold actR at hi
      rw [if_neg (by omega), gB_o fx1 (by omega)]
      exact kI i j (by omega) (by omega)
    · show hL G1 (ad 36) j = hL h (ad 36) j
      rw [kp.2.2.2.2.2.2.1 (ad 36) (fx_ne fx (by decide))]
      exact exL j
  have sm2 : SM n np ad (aLV ad h) (aPl ad h) (gB ad G1) := sm_h rp rs (fun i j h1 h2 => by
    by_cases e : i = 30
    · exact .inr (.inl e)
    · left
      rw [gB_o fx1 e]
      exact kI i j h1 (by omega))
  refine w_ma1 (d := 99) fx1 ?_
  refine c_piece (d := 97) (m := 8) (k := 0) (p := p) (S := aS0 ad h) rfl fx2 vs rm2 gB_f.1 gB_f.2.2.2.2.2.2.2.2 (fun G3 ch3 _ _ pr3 => ?_)
  refine m_run vp 8 0 rfl p G3 (aS0 ad h) hp (CHx.fx fx2 ch3) (SM.ch fx2 sm2 ch3) vs pr3 (fun G4 ch4 _ rm4 ps4 => ?_)
  have gk := gPln_ok vp 8 p (aS0 ad h) hp vs
  rw [eR] at rm4 ps4 gk
  have v4 := gk.1
  have fx3 := CHx.fx fx2 ch3
  have fx4 := CHx.fx fx3 ch4
  have m4 : MFr ad X G4 := MFr.tr (KP0.m kp) (MFr.tr gB_m (MFr.tr (MFr.c ch3) (MFr.c ch4)))
  have e43 : hI G4 (ad 30) 43 = nI 0 := by
    rw [CHx.kf fx3 ch4 (by unfold actF ctlF; omega) (by unfold actR ctlR; omega), CHx.kf fx2 ch3 (by unfold actF ctlF; omega) (by unfold actR ctlR; omega)]
    exact gB_f.2.2.2.2.2.2.2.1
  have k58 : ∀ i j, i = 58 ∨ i = 59 → hI G4 (ad i) j = hI G1 (ad i) j := fun i j hi => by
    rw [CHx.k fx3 ch4 (by unfold actR ctlR; omega) (by omega), CHx.k fx2 ch3 (by unfold actR ctlR; omega) (by omega), gB_o fx1 (by omega)]
  have k60 : hL G4 (ad 60) = hL G1 (ad 60) := by
    have n6 : ad 60 ≠ ad 36 := fx_ne fx (by decide)
    rw [ch4.2.2.2.2 _ n6, ch3.2.2.2.2 _ n6]
    rfl
  obtain ⟨p1, -, wv⟩ := ps4
  refine w_lpe (d := 99) fx4 p1 ?_
  -- what went back
  have bk : ∀ (av f : Int32) (w' : Int32), f = R.1 → 0 ≤ R.1 → av = (if R.1 = 1 then R.2.1 else 0) → hI G4 (ad 30) 29 = w' → (∀ G, FX n ad sa z0 G → hI G (ad 30) 29 = w' → Q (some (.int f)) (sI G (ad 30) 11 0) → WR 99 cd_209 186 [some (.ref (ad 30)), some (.int (nI p))] [] G Q) → EV 99 221 [.ref (ad 30)] (sI G4 (ad 30) 42 av) (fun v_ h_ => WR 99 cd_209 186 [some (.ref (ad 30)), some (.int (nI p))] (v_.toList ++ []) h_ Q) := by
    intro av f w' ef c0 eav ew kk
    have h1 := v4.1
    have h2 := v4.2.1
    have r5 : RM ad (sI G4 (ad 30) 42 av) R.2.2 := rm4.g42 fx4
    have fx5 : FX n ad sa z0 (sI G4 (ad 30) 42 av) := FX.sI fx4
    have k := fun o2 => m_gb (d := 97) (n := n) (np := np) (sa := sa) (z0 := z0) (LV := aLV ad h) (Q := fun v_ h_ => WR 99 cd_209 186 [some (.ref (ad 30)), some (.int (nI p))] (v_.toList ++ []) h_ Q) (R.2.2.1 0) (sI G4 (ad 30) 42 av) R.2.2 0 o2 fx5 r5 v4 (Nat.le_refl _) (by omega) (by rw [I_nk (by decide)]; exact e43) (fun G6 cb r6 e6 => by
      have fx6 := CHx.fx fx5 cb
      have b29 : hI G6 (ad 30) 29 = w' := by rw [CHx.kf fx5 cb (by omega) (by omega), I_nk (by decide)]; exact ew
      have b42 : hI G6 (ad 30) 42 = av := by rw [CHx.kf fx5 cb (by omega) (by omega), I_eq]
      refine kk _ (FX.sI fx6) (by rw [I_nk (by decide)]; exact b29) ?_
      have mf : MFr ad X (sI (sI G6 (ad 30) 37 0) (ad 30) 11 0) := MFr.f (MFr.f (MFr.tr (MFr.f m4 (by unfold mfF; omega)) (MFr.b cb)) (by unfold mfF; omega)) (by unfold mfF; omega)
      have mv : MV ad (sI (sI G6 (ad 30) 37 0) (ad 30) 11 0) (gBk (R.2.2.1 0) R.2.2 0).1 (if R.1 = 1 then R.2.1 else 0) (gBk (R.2.2.1 0) R.2.2 0).2 := MV.f (FX.sI fx6) (MV.f fx6 (MV.of r6 (b42.trans eav) e6) (.inr rfl)) (.inl rfl)
      exact hQs _ f ef mf mv (fun c => ((I_ne (fx_ne fx (by decide))).trans (I_ne (fx_ne fx (by decide)))).trans (r6.r31 c)) (fun c => ((I_ne (fx_ne fx (by decide))).trans (I_ne (fx_ne fx (by decide)))).trans (r6.r5 (by decide) (by decide) c)) (fun c => r6.2.2.2 c) I_eq c0)
    by_cases z : R.2.2.1 0 = 0
    · rw [z] at k
      exact w_mg0 (d := 98) fx5 (by rw [r5.1.1, z]; rfl) (k _)
    · obtain ⟨H, eH⟩ : ∃ H, R.2.2.1 0 = H + 1 := ⟨R.2.2.1 0 - 1, by omega⟩
      rw [eH, li_s] at k
      exact w_mg1 (d := 98) (H := H + 1) fx5 (by omega) (by omega) (by rw [r5.1.1, eH]) (k _)
  rcases wv with ⟨eo, w⟩ | ⟨eo, w, wv2⟩ | ⟨f, f1, f9, eo, w, wf⟩
  · exact w_mb1 (d := 99) fx4 w rfl (bk 0 0 1 eo.symm (by rw [eo]; decide) (by rw [if_neg (by rw [eo]; decide)]) w (fun G fxG e29 q => w_ma4_1 (d := 98) fxG e29 q))
  · exact w_mb2 (d := 99) fx4 w rfl (bk _ 1 2 eo.symm (by rw [eo]; decide) (by rw [if_pos eo]; exact wv2) w (fun G fxG e29 q => w_ma4_2 (d := 98) fxG e29 q))
  · have fx5 : FX n ad sa z0 (sI G4 (ad 30) 42 0) := FX.sI fx4
    refine w_mb3 (d := 99) fx4 w rfl (m_keep1 (d := 98) fx5 (fun G6 kq => ?_))
    have fx6 := (KP1.m kq).fx fx5
    have o6 : ∀ i j, i ≠ 31 → i ≠ 57 → hI G6 (ad i) j = hI (sI G4 (ad 30) 42 0) (ad i) j := fun i j h1 h2 => by rw [kq.2.2.2.1 (ad i) (fx_ne fx h1) (fx_ne fx h2)]
    have r5 : RM ad (sI G4 (ad 30) 42 0) R.2.2 := rm4.g42 fx4
    have mv5 : MV ad (sI G4 (ad 30) 42 0) R.2.2 0 0 := MV.of r5 I_eq (by rw [I_nk (by decide)]; exact e43)
    have mv6 : MV ad G6 R.2.2 0 0 := by
      obtain ⟨⟨a1, a2, a3, a4, a5, a6⟩, a7, a8⟩ := mv5
      exact ⟨⟨(o6 30 _ (by decide) (by decide)).trans a1, (o6 30 _ (by decide) (by decide)).trans a2, (o6 30 _ (by decide) (by decide)).trans a3, (o6 30 _ (by decide) (by decide)).trans a4, (o6 30 _ (by decide) (by decide)).trans a5, (o6 30 _ (by decide) (by decide)).trans a6⟩, fun i => (o6 53 i (by decide) (by decide)).trans (a7 i), fun t => (o6 56 t (by decide) (by decide)).trans (a8 t)⟩
    have t30 : hI G6 (ad 30) 30 = nI f := by rw [o6 30 30 (by decide) (by decide), I_nk (by decide)]; exact wf
    have mf : MFr ad X (sI (sI G6 (ad 30) 37 0) (ad 30) 11 (-10 - nI f)) := MFr.f (MFr.f (MFr.tr (MFr.f m4 (by unfold mfF; omega)) (KP1.m kq)) (by unfold mfF; omega)) (by unfold mfF; omega)
    have mv : MV ad (sI (sI G6 (ad 30) 37 0) (ad 30) 11 (-10 - nI f)) R.2.2 0 0 := MV.f (FX.sI fx6) (MV.f fx6 mv6 (.inr rfl)) (.inl rfl)
    refine w_ma3 (d := 97) fx6 f1 f9 t30 (hQf _ _ eo.symm mf mv (fun c hc => ?_) (fun c hc => ?_) (fun c hc => ?_) (I_eq.trans eo.symm) ?_)
    · rw [I_ne (fx_ne fx (by decide)), I_ne (fx_ne fx (by decide)), kq.2.2.2.2.1 c hc, I_ne (fx_ne fx (by decide)), k58 58 c (.inl rfl), kp.2.2.2.2.1 c hc]
    · rw [I_ne (fx_ne fx (by decide)), I_ne (fx_ne fx (by decide)), kq.2.2.2.2.2.1 c hc, I_ne (fx_ne fx (by decide)), k58 59 c (.inr rfl), kp.2.2.2.2.2.1 c hc]
    · show hL G6 (ad 36) c = hL X (ad 36) c
      rw [kq.2.2.2.2.2.2.2 c hc]
      show hL G4 (ad 60) c = _
      rw [k60, kp.2.2.2.2.2.2.2 c hc]
    · rw [eo]
      exact fun z => absurd (nf f9).1 (Int32.not_lt.mpr z)
end MA
