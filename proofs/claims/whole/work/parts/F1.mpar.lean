/-! ===== run, the reference's side: wear, one turbine ===== -/
theorem yA_self {S : yS} {t : Nat} : yuA S t (yA S t) = S := by
  have e : u1 S.1 t (yA S t) = S.1 := by
    funext b
    unfold u1 yA
    split
    · rename_i c; rw [c]
    · rfl
  unfold yuA
  rw [e]
section MP
variable {n np : Nat} {ad sa : Nat → Nat} {z0 : Nat} {h X M : mH} {o : Nat → Nat} {no st : Nat} {B E : Nat → Int64} {S : yS} {t s0 w i d : Nat} {Q : mQ} {l : Int32}
theorem m_fal {sl f : Nat} (k : MW n ad sa z0 h X) (r : RX n np ad X o no st B E S M) (t6 : t < 6) (k40 : yK S ≤ 40) (fo : yO S ≤ 30000) (hst : st ≤ 30000) (hQ : ∀ M', RX n np ad X o no st B E (yFal S t sl f st) M' → Q none M') : EV (d + 1) 244 [.ref (ad 30), .int (nI t), .int (nI sl), .int (nI f)] M Q := by
  have fxM := r.1.fx k.1
  have r1 : RX n np ad X o no st B E (yuA S t 4) (sI M (ad 66) t 4) := r.sta k SI1.st
  have r2 : RX n np ad X o no st B E (yuD (yuA S t 4) 68 t 0) (sD (sI M (ad 66) t 4) (ad 68) t 0) := r1.d k (r0 := 68) (.inl (by decide))
  by_cases c : yK S < 40
  · have r3 : RX n np ad X o no st B E ((yuD (yuA S t 4) 68 t 0).1, (yuD (yuA S t 4) 68 t 0).2.1, (yuD (yuA S t 4) 68 t 0).2.2.1, (yuD (yuA S t 4) 68 t 0).2.2.2.1, (yuD (yuA S t 4) 68 t 0).2.2.2.2.1, (yuD (yuA S t 4) 68 t 0).2.2.2.2.2.1, yO S + 1) (sI (sD (sI M (ad 66) t 4) (ad 68) t 0) (ad 30) 65 (nI (yO S + 1))) := RX.f0 (S := yuD (yuA S t 4) 68 t 0) k r2 rfl rfl rfl rfl rfl rfl rfl
    have r4 := r3.f1 (S' := yFal S t sl f st) (t := t) (sl := sl) (f := f) k rfl rfl rfl rfl (if_pos c) (if_pos c) rfl
    exact w_fal fxM t6 fo hst r.2.2.2.2.1.2.2.1 r.2.2.2.2.1.2.1 c r.2.2.2.2.1.1 (hQ _ r4)
  · have e : yK S = 40 := by omega
    have r3 : RX n np ad X o no st B E (yFal S t sl f st) (sI (sD (sI M (ad 66) t 4) (ad 68) t 0) (ad 30) 65 (nI (yO S + 1))) := RX.f0 (S := yuD (yuA S t 4) 68 t 0) k r2 rfl rfl rfl rfl (if_neg c) (if_neg c) rfl
    refine w_fag fxM t6 fo hst r.2.2.2.2.1.2.2.1 r.2.2.2.2.1.2.1 ?_ (hQ _ r3)
    have q := r.2.2.2.2.1.1
    rw [e] at q; exact q
theorem RX.sl (k : MW n ad sa z0 h X) (r : RX n np ad X o no st B E S M) (j : Nat) : hI M (ad 57) j = hI h (ad 57) j := by
  rw [r.1.2.2.1 _ _ (fmI_ad k.1 (by omega))]; exact k.2.2.1 57 j (by decide) (by decide) (by omega)
theorem RX.kd (k : MW n ad sa z0 h X) (r : RX n np ad X o no st B E S M) (j : Nat) : hI M (ad 37) j = hI h (ad 37) j := by
  rw [r.1.2.2.1 _ _ (fmI_ad k.1 (by omega))]; exact k.2.2.1 37 j (by decide) (by decide) (by omega)
theorem RX.tr0 (k : MW n ad sa z0 h X) (r : RX n np ad X o no st B E S M) : 0 ≤ hI M (ad 30) 9 := by rw [r.2.2.2.1.1]; exact pMs_nn (yT S) k.2.1
theorem m_wa {sl : Nat} (k : MW n ad sa z0 h X) (ok : eOK n np ad h s0 w) (r : RX n np ad X o no st B E S M) (ht : t < n) (hsl : sl < 5) (k40 : yK S ≤ 40) (fo : yO S ≤ 30000) (hst : st ≤ 30000) (hl : -10000 ≤ l.toInt ∧ l.toInt ≤ 10000)
    (hQ1 : ∀ R, yWe ad h t sl l S = R → R.1 = 0 → ∀ M', RX n np ad X o no st B E R.2 M' → Q (some (.int 1)) M') (hQ2 : ∀ R, yWe ad h t sl l S = R → R.1 ≠ 0 → ∀ M', RX n np ad X o no st B E (yFal R.2 t sl R.1 st) M' → Q (some (.int 0)) M') : EV (d + 4) 243 [.ref (ad 30), .int (nI t), .int (nI sl), .int l] M Q := by
  have n6 := ok.1.1
  have np6 := ok.1.2.1
  have fxM := r.1.fx k.1
  rcases ok.2.2.2.1 t sl ht hsl with e | ⟨q, hq, e⟩
  · refine w_wan (d := d + 3) fxM (by omega) hsl ((r.sl k _).trans e) ?_
    refine m_fal (f := 1) (d := d + 2) k r (by omega) k40 fo hst (fun M' r' => ?_)
    exact w_wax1 (r'.1.fx k.1) (hQ2 (1, S) (we_n e) (show (1 : Nat) ≠ 0 by decide) M' r')
  · have ek := ok.2.2.2.2 q hq
    have ew := we_q (ad := ad) (h := h) (t := t) (sl := sl) (l := l) (S := S) (by omega) e
    refine w_was (d := d + 3) (pq := q) fxM (by omega) hsl (by omega) ((r.sl k _).trans e) ?_
    refine c_mwearI (d := d) (kd := eKd ad h q) fxM ((r.kd k q).trans ek.2) ek.1 (by omega) (r.tr0 k) hl (fun c => ?_) (fun c => ?_)
    · rw [if_neg c] at ew
      have r1 : RX n np ad X o no st B E (S.1, S.2.1, S.2.2.1, S.2.2.2.1 ++ wB (eKd ad h q), S.2.2.2.2) (pMs ad (wB (eKd ad h q)) M) := r.ps k (wB (eKd ad h q)) rfl rfl rfl rfl rfl rfl rfl
      have r2 : RX n np ad X o no st B E (yuW S (eKd ad h q) q l) (sL (sL (pMs ad (wB (eKd ad h q)) M) (ad 30) 15 (wrI (eKd ad h q) q l)) (ad 38) q (hL M (ad 38) q + wrI (eKd ad h q) q l)) := by
        rw [r.2.2.1 q hq]
        refine (r1.l15 k).w k rfl rfl ?_ rfl rfl rfl rfl
        show (if eKd ad h q = 4 ∧ q = 0 then S.2.2.1 else u1 S.2.2.1 q (S.2.2.1 q + wrI (eKd ad h q) q l)) = _
        rw [if_neg c]; rfl
      exact w_wa0 (d := d + 3) (r2.1.fx k.1) (hQ1 _ ew rfl _ r2)
    · rw [if_pos c] at ew
      have r1 : RX n np ad X o no st B E (yuW S (eKd ad h q) q l) (pMs ad (wB (eKd ad h q)) M) := by
        refine r.ps k (wB (eKd ad h q)) rfl rfl ?_ rfl rfl rfl rfl
        show (if eKd ad h q = 4 ∧ q = 0 then S.2.2.1 else u1 S.2.2.1 q (S.2.2.1 q + wrI (eKd ad h q) q l)) = S.2.2.1
        exact if_pos c
      have r2 := r1.l15 (v := l.toInt64 * l.toInt64 / (nI 100).toInt64) k
      refine w_wa6 (d := d + 3) (r2.1.fx k.1) ?_
      refine m_fal (f := 6) (d := d + 2) k r2 (by omega) k40 fo hst (fun M' r' => ?_)
      exact w_wax6 (r'.1.fx k.1) (hQ2 _ ew (show (6 : Nat) ≠ 0 by decide) M' r')
theorem RX.nu (r : RX n np ad X o no st B E S M) (ht : t < n) : hD M (ad 73) t = yD S 73 t ∧ hD M (ad 67) t = yD S 67 t ∧ hD M (ad 68) t = yD S 68 t ∧ hD M (ad 69) t = yD S 69 t ∧ hD M (ad 70) t = yD S 70 t :=
  ⟨r.2.1.2 73 (.inr (.inr rfl)) t ht, r.2.1.2 67 (.inl (by decide)) t ht, r.2.1.2 68 (.inl (by decide)) t ht, r.2.1.2 69 (.inl (by decide)) t ht, r.2.1.2 70 (.inl (by decide)) t ht⟩
theorem RX.bd (k : MW n ad sa z0 h X) (r : RX n np ad X o no st B E S M) (j : Nat) : hD M (ad 71) j = hD h (ad 71) j := by
  rw [r.1.2.2.2.2 _ _ (fmD_ad k.1 ⟨by decide, by unfold qOK; omega⟩)]; exact k.2.2.2.2 71 j (by decide) (by decide)
/-- the reference's vote -/
theorem m_vt (k : MW n ad sa z0 h X) (ok : eOK n np ad h s0 w) (hs : s0 + i ≤ 20480) (ht : t < n) (r : RX n np ad X o no (s0 + i) B E S M) (eb : ∀ s, s < 3 → B (3 * t + s) = eB ad h i (3 * t + s) ∧ E (3 * t + s) = eE ad h i (3 * t + s)) (hQ : ∀ M', RX n np ad X o no (s0 + i) B E S M' → Q (some (.double (eVo ad h s0 i t))) M') : EV (d + 4) 236 [.ref (ad 30), .int (nI t)] M Q := by
  have fxM := r.1.fx k.1
  have n6 := ok.1.1
  have e62 : hI M (ad 30) 62 = hI h (ad 30) 62 := by
    rw [r.1.2.2.1 _ _ (fmI_ad k.1 (by omega))]; exact k.2.2.1 30 62 (by decide) (by decide) (by omega)
  have eR : ∀ j, hD M (ad 63) j = hD h (ad 63) j := fun j => by
    rw [r.1.2.2.2.2 _ _ (fmD_ad k.1 ⟨by decide, by unfold qOK; omega⟩)]; exact k.2.2.2.2 63 j (by decide) (by decide)
  refine m_vote (d := d) (st := s0 + i) (mf := eFz ad h s0 i) (sp := fun s => decide (s < 3) && eSp ad h s0 i t s) (rd := fun s => hD h (ad 63) (3 * t + s)) fxM (by omega) ?_ (by omega) r.2.2.2.2.1.2.1 (fun s _ => eR _) (fun s hs3 => ?_) (fun s c => ?_) (fun s hs3 => ?_) (fun M' x => hQ M' (r.ov k x))
  · rcases ok.1.2.2.2.2.2.2 with q | q
    · refine .inl ⟨e62.trans q, ?_⟩
      unfold eFz
      exact decide_eq_false (fun z => by rw [q] at z; exact absurd z.1 (by decide))
    · refine .inr ⟨e62.trans q, ?_⟩
      unfold eFz
      rw [q]
      simp
  · rcases ok.2.1 t s ht hs3 with e | e
    · exact .inl e
    · exact .inr (isF_nn e.1)
  · have c : (decide (s < 3) && eSp ad h s0 i t s) = true := c
    simp only [Bool.and_eq_true, decide_eq_true_eq, eSp] at c
    exact (FP.Core.dcmp_eq.mp c.2.2.1).1
  · obtain ⟨b1, b2⟩ := r.2.2.2.2.2.2 t s ht hs3
    rw [(eb s hs3).1] at b1
    rw [(eb s hs3).2] at b2
    rw [b1, b2, r.sl k]
    show (decide (s < 3) && eSp ad h s0 i t s) = true ↔ _
    rw [decide_eq_true hs3, Bool.true_and]
    unfold eSp
    rw [decide_eq_true_eq]
    exact Iff.rfl
end MP
