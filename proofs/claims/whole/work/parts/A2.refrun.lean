/-! ===== the reference's run of a plan, by the pure picture ===== -/
/-- at step i of plan p, k plans below -/
def LPt (ad : Nat → Nat) (k p i : Nat) (G : mH) : Prop := hI G (ad 30) 23 = nI (k + 1) ∧ hI G (ad 48) k = nI p ∧ hI G (ad 49) k = nI i
def WVt (ad : Nat → Nat) (o val : Int32) (G : mH) : Prop := (o = 0 ∧ hI G (ad 30) 29 = 1) ∨ (o = 1 ∧ hI G (ad 30) 29 = 2 ∧ hI G (ad 30) 30 = val) ∨ ∃ f, 1 ≤ f ∧ f ≤ 9 ∧ o = -10 - nI f ∧ hI G (ad 30) 29 = 3 ∧ hI G (ad 30) 30 = nI f
/-- a plan has ended, k plans below -/
def POS (ad : Nat → Nat) (k : Nat) (o val : Int32) (G : mH) : Prop := hI G (ad 30) 23 = nI k ∧ hI G (ad 30) 47 = (if k = 0 then 0 else 1) ∧ WVt ad o val G
/-- the levels below k are as before -/
def KF (ad : Nat → Nat) (k : Nat) (G G' : mH) : Prop := ∀ i, ctlR i → ∀ j, j < k → hI G' (ad i) j = hI G (ad i) j
/-- a plan has just been laid upon k others -/
def PRm (ad : Nat → Nat) (m k p : Nat) (S : aS) (G : mH) : Prop := match m with
  | 0 => hI G (ad 30) 23 = 8 ∧ hI G (ad 30) 47 = 1 ∧ hI G (ad 30) 29 = 3 ∧ hI G (ad 30) 30 = 8 ∧ RM ad G S
  | m + 1 => LPt ad k p 0 G ∧ hI G (ad 30) 47 = 0 ∧ hI G (ad 30) 29 = 0 ∧ RM ad G (uN S 3 (if S.1 3 < 8 - m then 8 - m else S.1 3))
section RN1
variable {n np : Nat} {ad sa : Nat → Nat} {z0 : Nat} {LV : Nat → Prop} {P : aP} {G G' G2 : mH} {S : aS} {Q : mQ} {pl : Int32}
theorem KF.rf {k : Nat} : KF ad k G G := fun _ _ _ _ => rfl
theorem KF.tr {k : Nat} (x : KF ad k G G') (y : KF ad k G' G2) : KF ad k G G2 := fun i hi j hj => (y i hi j hj).trans (x i hi j hj)
theorem KF.le {k l : Nat} (x : KF ad k G G') (h : l ≤ k) : KF ad l G G' := fun i hi j hj => x i hi j (by omega)
theorem KF.f {k f : Nat} {v : Int32} (fx : FX n ad sa z0 G) (x : KF ad k G G') : KF ad k G (sI G' (ad 30) f v) := fun i hi j hj => (I_ne (fx_ne fx (by unfold ctlR at hi; omega))).trans (x i hi j hj)
theorem KF.a {k i f : Nat} {v : Int32} (fx : FX n ad sa z0 G) (x : KF ad k G G') (h : i < 48 ∨ 52 < i) : KF ad k G (sI G' (ad i) f v) := fun i' hi j hj => (I_ne (fx_ne fx (by unfold ctlR at hi; omega))).trans (x i' hi j hj)
theorem KF.c {k i f : Nat} {v : Int32} (x : KF ad k G G') (h : k ≤ f) : KF ad k G (sI G' (ad i) f v) := fun i' hi j hj => (I_nk (by omega)).trans (x i' hi j hj)
theorem KF.d {k : Nat} (fx : FX n ad sa z0 G) (x : CHd ad G G') : KF ad k G G' := fun i hi j _ => CHx.k fx x (by unfold ctlR at hi; unfold actR; omega) (by unfold ctlR at hi; omega) j
theorem CH.f {j : Nat} {v : Int32} (x : CH ad G G') (h : ctlF j) : CH ad G (sI G' (ad 30) j v) := CHx.f x (.inr h)
theorem CH.a {j : Nat} {v : Int32} (x : CH ad G G') (h : actF j) : CH ad G (sI G' (ad 30) j v) := CHx.f x (.inl h)
theorem CH.c {i j : Nat} {v : Int32} (x : CH ad G G') (h : ctlR i) : CH ad G (sI G' (ad i) j v) := CHx.i x (.inr h)
theorem nmax {a b : Nat} (h : a < b) : (if a < b then b else a) = b := if_pos h
theorem c_piece {d m k p : Nat} {w : Int32} (hk : k + m = 8) (fx : FX n ad sa z0 G) (v : VS n np LV 0 S) (r : RM ad G S) (t0 : hI G (ad 30) 23 = nI k) (t1 : hI G (ad 30) 47 = 0)
    (hQ : ∀ G', CH ad G G' → (∀ i, ctlR i → ∀ j, j < k → ¬ (i = 50 ∧ j + 1 = k) → hI G' (ad i) j = hI G (ad i) j) → (1 ≤ k → hI G' (ad 50) (k - 1) = w) → PRm ad m k p S G' → Q none G') : EV (d + 2) 211 [.ref (ad 30), .int w, .int (nI p)] G Q := by
  have v3 := v.2.2.2.1
  have ne : ∀ i j : Nat, i ≠ j → ad i ≠ ad j := fun i j h => fx_ne fx h
  cases m with
  | zero =>
    obtain rfl : k = 8 := by omega
    refine w_pi8 (d := d) fx t0 (hQ _ (CH.f (CH.f (CH.f (CH.c CHx.rf ⟨by decide, by decide⟩) (.inr (.inl rfl))) (.inr (.inr (.inl rfl)))) (.inr (.inr (.inr rfl)))) (fun i hi j hj hn => ?_) (fun _ => ?_) ⟨?_, I_eq, ?_, ?_, ?_⟩)
    · rw [I_ne (ne _ _ (by unfold ctlR at hi; omega)), I_ne (ne _ _ (by unfold ctlR at hi; omega)), I_ne (ne _ _ (by unfold ctlR at hi; omega))]
      by_cases e : i = 50
      · subst e; exact I_nk (by omega)
      · exact I_ne (ne _ _ e)
    · rw [I_ne (ne _ _ (by decide)), I_ne (ne _ _ (by decide)), I_ne (ne _ _ (by decide)), I_eq]
    · rw [I_nk (by decide), I_nk (by decide), I_nk (by decide), I_ne (ne _ _ (by decide))]; exact t0
    · rw [I_nk (by decide), I_nk (by decide), I_eq]
    · rw [I_nk (by decide), I_eq]
    · exact RM.cf (FX.sI (FX.sI (FX.sI fx))) (RM.cf (FX.sI (FX.sI fx)) (RM.cf (FX.sI fx) (r.ci fx ⟨by decide, by decide⟩) (.inr (.inl rfl))) (.inr (.inr (.inl rfl)))) (.inr (.inr (.inr rfl)))
  | succ m =>
    have fin : ∀ (H : mH) D', FX n ad sa z0 H → CH ad G H → RM ad H S → (∀ i, ctlR i → ∀ j, j < k → ¬ (i = 50 ∧ j + 1 = k) → hI H (ad i) j = hI G (ad i) j) → (1 ≤ k → hI H (ad 50) (k - 1) = w) → hI H (ad 30) 47 = 0 → D' = (if S.1 3 < 8 - m then 8 - m else S.1 3) → Q none (sI (sI (sI (sI (sI H (ad 48) k (nI p)) (ad 49) k 0) (ad 30) 23 (nI (k + 1))) (ad 30) 32 (nI D')) (ad 30) 29 0) := by
      intro H D' fxH ch rH lv bk t47 eD
      refine hQ _ (CH.f (CH.a (CH.f (CH.c (CH.c ch ⟨by decide, by decide⟩) ⟨by decide, by decide⟩) (.inl rfl)) (.inl ⟨by decide, by decide⟩)) (.inr (.inl rfl))) (fun i hi j hj hn => ?_) (fun h1 => ?_) ⟨⟨?_, ?_, ?_⟩, ?_, I_eq, ?_⟩
      · rw [I_ne (ne _ _ (by unfold ctlR at hi; omega)), I_ne (ne _ _ (by unfold ctlR at hi; omega)), I_ne (ne _ _ (by unfold ctlR at hi; omega)), I_nk (by omega), I_nk (by omega)]
        exact lv i hi j hj hn
      · rw [I_ne (ne _ _ (by decide)), I_ne (ne _ _ (by decide)), I_ne (ne _ _ (by decide)), I_nk (by omega), I_nk (by omega)]
        exact bk h1
      · rw [I_nk (by decide), I_nk (by decide), I_eq]
      · rw [I_ne (ne _ _ (by decide)), I_ne (ne _ _ (by decide)), I_ne (ne _ _ (by decide)), I_ne (ne _ _ (by decide)), I_eq]
      · rw [I_ne (ne _ _ (by decide)), I_ne (ne _ _ (by decide)), I_ne (ne _ _ (by decide)), I_eq]; rfl
      · rw [I_nk (by decide), I_nk (by decide), I_nk (by decide), I_ne (ne _ _ (by decide)), I_ne (ne _ _ (by decide))]; exact t47
      · rw [← eD]
        exact RM.cf (FX.sI (FX.sI (FX.sI (FX.sI fxH)))) (RM.n3 (FX.sI (FX.sI (FX.sI fxH))) (RM.cf (FX.sI (FX.sI fxH)) (RM.ci (FX.sI fxH) (rH.ci fxH ⟨by decide, by decide⟩) ⟨by decide, by decide⟩) (.inl rfl))) (.inr (.inl rfl))
    by_cases k0 : k = 0
    · subst k0
      by_cases hd : S.1 3 < 1
      · have q := fin G (0 + 1) fx CHx.rf r (fun _ _ j hj _ => absurd hj (Nat.not_lt_zero _)) (fun z => absurd z (by decide)) t1 (by rw [if_pos (by omega)]; omega)
        exact w_pi0l (d := d + 1) fx hd t0 r.1.2.2.2 q
      · have q := fin G (S.1 3) fx CHx.rf r (fun _ _ j hj _ => absurd hj (Nat.not_lt_zero _)) (fun z => absurd z (by decide)) t1 (by rw [if_neg (by omega)])
        exact w_pi0g (d := d + 1) fx (by omega) v3 t0 r.1.2.2.2 q
    · have lv : ∀ i, ctlR i → ∀ j, j < k → ¬ (i = 50 ∧ j + 1 = k) → hI (sI G (ad 50) (k - 1) w) (ad i) j = hI G (ad i) j := fun i hi j hj hn => by
        by_cases e : i = 50
        · subst e; exact I_nk (by omega)
        · exact I_ne (ne _ _ e)
      have base := fun D' => fin (sI G (ad 50) (k - 1) w) D' (FX.sI fx) (CH.c CHx.rf ⟨by decide, by decide⟩) (r.ci fx ⟨by decide, by decide⟩) lv (fun _ => I_eq) (by rw [I_ne (ne _ _ (by decide))]; exact t1)
      by_cases hd : S.1 3 < k + 1
      · exact w_pikl (d := d + 1) fx (by omega) (by omega) hd t0 r.1.2.2.2 (base (k + 1) (by rw [if_pos (by omega)]; omega))
      · exact w_pikg (d := d + 1) fx (by omega) (by omega) (by omega) v3 t0 r.1.2.2.2 (base (S.1 3) (by rw [if_neg (by omega)]))
/-- the loop's head -/
def LOP (ad : Nat → Nat) (pl : Int32) (Q : mQ) (G : mH) : Prop := WR 99 cd_209 71 [some (.ref (ad 30)), some (.int pl)] [] G Q
/-- a plan that has ended is taken off -/
theorem m_pop {k : Nat} {o val : Int32} (fx : FX n ad sa z0 G) (k8 : k < 8) (r : RM ad G S) (t0 : hI G (ad 30) 23 = nI (k + 1)) (t1 : hI G (ad 30) 47 = 0) (wv : WVt ad o val G) (hQ : ∀ G', CH ad G G' → KF ad k G G' → RM ad G' S → POS ad k o val G' → LOP ad pl Q G') : LOP ad pl Q G := by
  have fin : ∀ z : Int32, z = (if k = 0 then 0 else 1) → LOP ad pl Q (sI (sI G (ad 30) 23 (nI k)) (ad 30) 47 z) := by
    intro z hz
    refine hQ _ (CH.f (CH.f CHx.rf (.inl rfl)) (.inr (.inr (.inr rfl)))) (KF.f fx (KF.f fx KF.rf)) (RM.cf (FX.sI fx) (r.cf fx (.inl rfl)) (.inr (.inr (.inr rfl)))) ⟨by rw [I_nk (by decide), I_eq], by rw [I_eq]; exact hz, ?_⟩
    unfold WVt at wv ⊢
    rw [I_nk (by decide), I_nk (by decide), I_nk (by decide), I_nk (by decide)]
    exact wv
  by_cases k0 : k = 0
  · subst k0
    have f0 := fin 0 rfl
    rcases wv with ⟨-, w⟩ | ⟨-, w, -⟩ | ⟨f, -, -, -, w, -⟩
    · exact w_lpz1 fx t0 t1 w f0
    · exact w_lpz2 fx t0 t1 w f0
    · exact w_lpz3 fx t0 t1 w f0
  · have f1 := fin 1 (by rw [if_neg k0])
    rcases wv with ⟨-, w⟩ | ⟨-, w, -⟩ | ⟨f, -, -, -, w, -⟩
    · exact w_lpp1 fx k8 t0 (by omega) t1 w f1
    · exact w_lpp2 fx k8 t0 (by omega) t1 w f1
    · exact w_lpp3 fx k8 t0 (by omega) t1 w f1
/-- what the run of m plans does, k below -/
def MRN (n np : Nat) (ad sa : Nat → Nat) (z0 : Nat) (LV : Nat → Prop) (P : aP) (pl : Int32) (Q : mQ) (m k : Nat) : Prop := ∀ p G S, p < 10 → FX n ad sa z0 G → SM n np ad LV P G → VS n np LV 0 S → PRm ad m k p S G →
  (∀ G', CH ad G G' → KF ad k G G' → RM ad G' (gPln P m p S).2.2 → POS ad k (gPln P m p S).1 (gPln P m p S).2.1 G' → LOP ad pl Q G') → LOP ad pl Q G
/-- a plan laid upon the one that is at step i, and run -/
theorem m_sub {m k p i q : Nat} {w : Int32} {Qx : mQ} (ih : MRN n np ad sa z0 LV P pl Q m (k + 1)) (hk : k + 1 + m = 8) (fx : FX n ad sa z0 G) (sm : SM n np ad LV P G) (v : VS n np LV 0 S) (r : RM ad G S) (l : LPt ad k p i G) (t1 : hI G (ad 30) 47 = 0) (hq : q < 10) (hx : ∀ G1, FX n ad sa z0 G1 → LOP ad pl Q G1 → Qx none G1)
    (hQ : ∀ G', CH ad G G' → KF ad k G G' → LPt ad k p i G' → hI G' (ad 50) k = w → (∀ i, i = 51 ∨ i = 52 → hI G' (ad i) k = hI G (ad i) k) → RM ad G' (gPln P m q S).2.2 → hI G' (ad 30) 47 = 1 → WVt ad (gPln P m q S).1 (gPln P m q S).2.1 G' → LOP ad pl Q G') : EV 98 211 [.ref (ad 30), .int w, .int (nI q)] G Qx := by
  refine c_piece (d := 96) (p := q) hk fx v r l.1 t1 (fun G1 ch1 lv1 by1 pr1 => hx G1 (CHx.fx fx ch1) ?_)
  refine ih q G1 S hq (CHx.fx fx ch1) (SM.ch fx sm ch1) v pr1 (fun G2 ch2 kf2 rm2 ps2 => ?_)
  have lo : ∀ i', ctlR i' → i' ≠ 50 → hI G2 (ad i') k = hI G (ad i') k := fun i' hi' h5 => (kf2 i' hi' k (by omega)).trans (lv1 i' hi' k (by omega) (fun e => h5 e.1))
  refine hQ G2 (CHx.tr ch1 ch2) (fun i' hi' j hj => (kf2 i' hi' j (by omega)).trans (lv1 i' hi' j (by omega) (fun e => by omega))) ⟨ps2.1, (lo 48 ⟨by decide, by decide⟩ (by decide)).trans l.2.1, (lo 49 ⟨by decide, by decide⟩ (by decide)).trans l.2.2⟩ ?_ (fun i' hi' => lo i' (by unfold ctlR; omega) (by omega)) rm2 (ps2.2.1.trans (if_neg (by omega))) ps2.2.2
  rw [kf2 50 ⟨by decide, by decide⟩ k (by omega)]
  exact by1 (by omega)
end RN1
