/-! ===== the class's perform ===== -/
/-- the heap where the class begins to remember -/
def hB (ad : Nat → Nat) (h : mH) : mH := sI (sI (sI (sI (sI (sI (sI (sI (sR (sR (sI h (ad 0) 6 0) (ad 9) 5 (some (ad 1))) (ad 9) 6 (some (ad 7))) (ad 9) 7 0) (ad 9) 8 0) (ad 9) 9 0) (ad 9) 10 0) (ad 9) 11 0) (ad 9) 12 0) (ad 9) 13 0) (ad 13) 2 0
section PF
variable {n np : Nat} {ad sa : Nat → Nat} {z0 : Nat} {mid pa : Nat → Nat} {h hm hc : mH} {Q : mQ} {p : Nat} {R : aR}
theorem fx_hB0 (fx : FX n ad sa z0 h) : FX n ad sa z0 (sI (sI (sI (sI (sI (sI (sI (sR (sR (sI h (ad 0) 6 0) (ad 9) 5 (some (ad 1))) (ad 9) 6 (some (ad 7))) (ad 9) 7 0) (ad 9) 8 0) (ad 9) 9 0) (ad 9) 10 0) (ad 9) 11 0) (ad 9) 12 0) (ad 9) 13 0) := FX.sI (FX.sI (FX.sI (FX.sI (FX.sI (FX.sI (FX.sI (FX.sR9 (FX.sR9 (FX.sI fx) (by decide)) (by decide))))))))
theorem fx_hB (fx : FX n ad sa z0 h) : FX n ad sa z0 (hB ad h) := FX.sI (fx_hB0 fx)
theorem hT_I {a k : Nat} {v : Int32} {H : mH} : hT (sI H a k v) = hT H ∧ hN (sI H a k v) = hN H ∧ hZ (sI H a k v) = hZ H ∧ hU (sI H a k v) = hU H ∧ hD (sI H a k v) = hD H ∧ hL (sI H a k v) = hL H ∧ hR (sI H a k v) = hR H := ⟨rfl, rfl, rfl, rfl, rfl, rfl, rfl⟩
theorem hT_R {a k : Nat} {v : Option Nat} {H : mH} : hT (sR H a k v) = hT H ∧ hN (sR H a k v) = hN H ∧ hZ (sR H a k v) = hZ H ∧ hU (sR H a k v) = hU H ∧ hD (sR H a k v) = hD H ∧ hL (sR H a k v) = hL H := ⟨rfl, rfl, rfl, rfl, rfl, rfl⟩
theorem hB_T : hT (hB ad h) = hT h ∧ hN (hB ad h) = hN h ∧ hZ (hB ad h) = hZ h ∧ hU (hB ad h) = hU h ∧ hD (hB ad h) = hD h ∧ hL (hB ad h) = hL h := by
  unfold hB
  simp only [hT_I.1, hT_I.2.1, hT_I.2.2.1, hT_I.2.2.2.1, hT_I.2.2.2.2.1, hT_I.2.2.2.2.2.1, hT_R.1, hT_R.2.1, hT_R.2.2.1, hT_R.2.2.2.1, hT_R.2.2.2.2.1, hT_R.2.2.2.2.2, and_self]
theorem hB_Rd : hR (hB ad h) = u2 (u2 (hR h) (ad 9) 5 (some (ad 1))) (ad 9) 6 (some (ad 7)) := by
  unfold hB
  simp only [hT_I.2.2.2.2.2.2]
  rfl
theorem hB_R {a : Nat} (ha : a ≠ ad 9) : hR (hB ad h) a = hR h a := by rw [hB_Rd]; exact (u2_row _ ha _).trans (u2_row _ ha _)
theorem hB_9 (fx : FX n ad sa z0 h) {k : Nat} (h1 : 7 ≤ k) (h2 : k ≤ 13) : hI (hB ad h) (ad 9) k = 0 := by
  unfold hB
  rw [I_ne (fx_ne fx (by decide))]
  by_cases e : k = 13
  · rw [e, I_eq]
  rw [I_nk e]
  by_cases e : k = 12
  · rw [e, I_eq]
  rw [I_nk e]
  by_cases e : k = 11
  · rw [e, I_eq]
  rw [I_nk e]
  by_cases e : k = 10
  · rw [e, I_eq]
  rw [I_nk e]
  by_cases e : k = 9
  · rw [e, I_eq]
  rw [I_nk e]
  by_cases e : k = 8
  · rw [e, I_eq]
  rw [I_nk e]
  by_cases e : k = 7
  · rw [e, I_eq]
  omega
theorem hB_I {a j : Nat} (c : cI n ad a j) (c0 : ¬ (a = ad 0 ∧ j = 6)) (c8 : a ≠ ad 9) : hI (hB ad h) a j = hI h a j := by
  have c9 : ∀ k, 7 ≤ k → ¬ (a = ad 9 ∧ j = k) := fun k hk z => c8 z.1
  unfold hB
  rw [hI_sI, if_neg (fun z => c.2.1 z.1), hI_sI, if_neg (c9 13 (by decide)), hI_sI, if_neg (c9 12 (by decide)), hI_sI, if_neg (c9 11 (by decide)), hI_sI, if_neg (c9 10 (by decide)), hI_sI, if_neg (c9 9 (by decide)), hI_sI, if_neg (c9 8 (by decide)), hI_sI, if_neg (c9 7 (by decide)), hI_sR, hI_sR, hI_sI, if_neg c0]
theorem hB_o (fx : FX n ad sa z0 h) {i j : Nat} (h1 : i ≠ 13) (h2 : i ≠ 9) (h3 : i ≠ 0) : hI (hB ad h) (ad i) j = hI h (ad i) j := by
  unfold hB
  rw [I_ne (fx_ne fx h1), I_ne (fx_ne fx h2), I_ne (fx_ne fx h2), I_ne (fx_ne fx h2), I_ne (fx_ne fx h2), I_ne (fx_ne fx h2), I_ne (fx_ne fx h2), I_ne (fx_ne fx h2), hI_sR, hI_sR, I_ne (fx_ne fx h3)]
theorem hB_0 (fx : FX n ad sa z0 h) : hI (hB ad h) (ad 0) 6 = 0 := by
  have h1 : ad 0 ≠ ad 13 := fx_ne fx (by decide)
  have h2 : ad 0 ≠ ad 9 := fx_ne fx (by decide)
  unfold hB
  rw [I_ne h1, I_ne h2, I_ne h2, I_ne h2, I_ne h2, I_ne h2, I_ne h2, I_ne h2, hI_sR, hI_sR, I_eq]
theorem hm_of (fx : FX n ad sa z0 h) (x : REM n ad n (hB ad h) hm) : HM n ad sa z0 h hm := by
  obtain ⟨x1, x2, x3, x4, x5, x6, x7⟩ := id x
  have e : ∀ i j, i ≠ 16 → hI hm (ad i) j = hI (hB ad h) (ad i) j := fun i j hi => by rw [x4]; exact I_ne (fx_ne fx hi)
  refine ⟨x.fx (fx_hB fx), ⟨x1.1.trans hB_T.1, x1.2.1.trans hB_T.2.1, x1.2.2.1.trans hB_T.2.2.1, x1.2.2.2.trans hB_T.2.2.2.1⟩, x2.trans hB_T.2.2.2.2.1, x3.trans hB_T.2.2.2.2.2, fun a j c c0 c8 => ?_, ⟨⟨?_, ?_, ?_⟩, fun k h1 h2 => ?_, fun t ht => ?_⟩, fun a h1 h2 h3 => ?_, ⟨?_, ?_⟩, fun c hc => ?_, fun t s ht hs => ?_⟩
  · rw [x4, hI_sI, if_neg (fun z => c.2.2.2.1 z.1)]; exact hB_I c c0 c8
  · rw [e 13 2 (by decide)]; unfold hB; exact I_eq
  · rw [x4]; exact I_eq
  · rw [e 0 6 (by decide)]; exact hB_0 fx
  · rw [e 9 k (by decide)]; exact hB_9 fx h1 h2
  · rw [e _ 9 (by omega)]; exact hB_o fx (by omega) (by omega) (by omega)
  · rw [x5 a h2 h3]; exact hB_R h1
  · rw [x5 _ (fx_ne fx (by decide)) (fx_ne fx (by decide))]
    rw [hB_Rd]
    show (if ad 9 = ad 9 ∧ 5 = 6 then some (ad 7) else if ad 9 = ad 9 ∧ 5 = 5 then some (ad 1) else hR h (ad 9) 5) = some (ad 1)
    rw [if_neg (fun z => absurd z.2 (by decide)), if_pos ⟨rfl, rfl⟩]
  · rw [x5 _ (fx_ne fx (by decide)) (fx_ne fx (by decide))]
    rw [hB_Rd]
    show (if ad 9 = ad 9 ∧ 6 = 6 then some (ad 7) else if ad 9 = ad 9 ∧ 6 = 5 then some (ad 1) else hR h (ad 9) 6) = some (ad 7)
    rw [if_pos ⟨rfl, rfl⟩]
  · rw [x6 c hc, hB_R (fx_ne fx (by decide))]
  · rw [x7 t s ht hs, hB_R (fx_ne fx (by omega))]
theorem ok_c (rs : Rs ad z0 mid pa np h) {j : Nat} (hj : j < 24) : okR h 24 (hR h (ad 1) j) := by
  intro a ea
  rcases rs.2.1 j hj with ⟨-, e⟩ | ⟨q, hq, -, e⟩ | ⟨t, ht, -, e, q⟩
  · rw [ea] at e; cases e
  · rw [ea] at e; cases e
    exact .inl (rs.1.2.2.2.1 q hq).1
  · rw [ea] at e; cases e
    rcases q with ⟨ln, q⟩ | q | q
    · exact .inr (.inl q.1)
    · exact .inr (.inr q.1)
    · exact .inr (.inr q.1)
theorem ok_s (ru : Ru n ad pa np h) (rs : Rs ad z0 mid pa np h) {t s : Nat} (ht : t < n) (hs : s < 5) : okR h 26 (hR h (ad (101 + 5 * t)) s) := by
  intro a ea
  rcases (ru.2 t ht).2.2.2.2.2.2 s hs with ⟨-, e⟩ | ⟨q, hq, -, e⟩
  · rw [ea] at e; cases e
  · rw [ea] at e; cases e
    exact (rs.1.2.2.2.1 q hq).1
theorem c_perf (fx : FX n ad sa z0 h) (rp : Rp n ad h) (rst : Rst sa h) (ru : Ru n ad pa np h) (rs : Rs ad z0 mid pa np h) (hp : p < 10) (eR : gPln (aPl ad h) 8 p (aS0 ad h) = R)
    (hQs : ∀ hm hc' f, f = R.1 → HM n ad sa z0 h hm → RC n np ad mid pa (aLV ad h) (aPl ad h) hm hc' 0 (gBk (R.2.2.1 0) R.2.2 0).1 → hI hc' (ad 9) 8 = (if R.1 = 1 then R.2.1 else 0) → 0 ≤ R.1 → Q (some (.int f)) (sI (sI hc' (ad 13) 2 0) (ad 9) 13 (nI (gBk (R.2.2.1 0) R.2.2 0).2)))
    (hQf : ∀ hm hc hz W f, f = R.1 → HM n ad sa z0 h hm → RC n np ad mid pa (aLV ad h) (aPl ad h) hm hc 0 R.2.2 → hI hc (ad 9) 8 = 0 → hI hc (ad 9) 13 = hI hm (ad 9) 13 → (∀ a j, a ≠ ad 21 → unN ad hc W (hL hc) a j = hL hm a j) → BRB n ad W n hc hz → ¬ 0 ≤ R.1 → Q (some (.int f)) hz) :
    EV 99 99 [.ref (ad 9), .int (nI p), .ref (ad 1), .ref (ad 7)] (sI h (ad 0) 6 0) Q := by
  have vp := vp_h fx rp rs
  have vs := vs_h ru rs
  refine w_pf0 (d := 98) (FX.sI fx) (w_pf0b (d := 98) (fx_hB0 fx) (c_remember (d := 97) (fx_hB fx) (fun j hj => ?_) (fun t s ht hs => ?_) (fun hm rem => ?_)))
  · show okR (hB ad h) 24 (hR (hB ad h) (ad 1) j)
    rw [hB_R (fx_ne fx (by decide))]
    intro a ea
    rw [hB_T.1]
    exact ok_c rs hj a ea
  · show okR (hB ad h) 26 (hR (hB ad h) (ad (101 + 5 * t)) s)
    rw [hB_R (fx_ne fx (by omega))]
    intro a ea
    rw [hB_T.1]
    exact ok_s ru rs ht hs a ea
  have x := hm_of fx rem
  have cw := cw_h fx rp rst rs x
  refine w_pf1 (d := 98) x.1 ?_
  refine c_plan x.1 cw vp 8 98 (by omega) (by omega) p hm (aS0 ad h) _ hp (rc_h fx ru rs x) vs (fun hc f ef r1 a1 => ?_)
  have v1 := (gPln_ok vp 8 p (aS0 ad h) hp vs).1
  rw [eR] at ef r1 a1 v1
  have gb : ∀ hc, RC n np ad mid pa (aLV ad h) (aPl ad h) hm hc 0 R.2.2 → hI hc (ad 9) 8 = (if R.1 = 1 then R.2.1 else 0) → 0 ≤ R.1 → EV 98 117 [.ref (ad 13), .ref (ad 1)] hc (fun v_ h_ => WR 98 cd_99 107 [some (.ref (ad 9)), some (.int (nI p)), some (.ref (ad 1)), some (.ref (ad 7)), some (.int f)] (v_.toList ++ [.ref (ad 9)]) h_ Q) := by
    intro hc r ha c0
    have h1 := v1.1
    have h2 := v1.2.1
    have k := fun o4 => c_gb (d := 96) (Q := fun v_ h_ => WR 98 cd_99 107 [some (.ref (ad 9)), some (.int (nI p)), some (.ref (ad 1)), some (.ref (ad 7)), some (.int f)] (v_.toList ++ [.ref (ad 9)]) h_ Q) x.1 cw vp (R.2.2.1 0) hc R.2.2 0 o4 r v1 (Nat.le_refl _) (by omega) (fun hc' r' e9 => w_pf4 (d := 98) (FX.sI (r'.1.fx x.1)) (hQs hm hc' f ef x r' (by rw [e9]; exact ha) c0))
    by_cases z : R.2.2.1 0 = 0
    · rw [z] at k
      exact w_gb0 (d := 97) (r.1.fx x.1) (by rw [r.2.1.1.1, z]; rfl) (k _)
    · obtain ⟨H, eH⟩ : ∃ H, R.2.2.1 0 = H + 1 := ⟨R.2.2.1 0 - 1, by omega⟩
      rw [eH, li_s] at k
      exact w_gb1 (d := 97) (H := H + 1) (r.1.fx x.1) (by omega) (by omega) (by rw [r.2.1.1.1, eH]) (k _)
  refine w_pf2 (d := 98) (r1.1.fx x.1) (fun e1 c0 => ?_) (fun e1 c0 => ?_) (fun e1 c0 => ?_) (fun e1 c0 => ?_)
  · refine gb hc r1 ?_ (by rw [← ef]; exact c0)
    rw [if_pos (ef.symm.trans e1)]; exact a1 e1
  · rw [e1] at c0; exact absurd (by decide) c0
  · refine gb _ (r1.ans x.1) ?_ (by rw [← ef]; exact c0)
    rw [if_neg (fun z => e1 (ef.trans z)), I_eq]
  · have r2 := r1.ans (v := 0) x.1
    refine c_bring (d := 97) x.1 cw vp r2 v1 (fun j hj => ?_) (fun j hj => ?_) (fun W hz uu bz => w_pf3 (d := 98) (bz.fx (Nat.le_refl n) (r2.1.fx x.1)) (hQf hm _ hz W f ef x r2 I_eq ?_ uu bz (by rw [← ef]; exact c0)))
    · intro a ea
      rw [r2.1.2.2.2 (ad 17) (cR_ad fx (by decide) (fun t _ => by omega)), x.2.2.2.2.2.2.2.2.1 j hj] at ea
      have q := vr_h rs hj
      rw [ea] at q
      exact (r2.okE vp.1 x.1 cw q).1
    · intro a ea
      have q := x.2.2.2.2.2.2.2.2.2 (j / 5) (j % 5) (by omega) (by omega)
      rw [show 5 * (j / 5) + j % 5 = j by omega] at q
      rw [r2.1.2.2.2 (ad 18) (cR_ad fx (by decide) (fun t _ => by omega)), q] at ea
      have k := ok_s ru rs (t := j / 5) (s := j % 5) (by omega) (by omega) a ea
      rw [r2.1.1.1, x.2.1.1]; exact k
    · exact r2.1.2.2.1 (ad 9) 13 ⟨fx_ne fx (by decide), fx_ne fx (by decide), fx_ne fx (by decide), fx_ne fx (by decide), fx_ne fx (by decide), fun e => absurd e.2.2 (by decide), fun t ht e => absurd e.2 (by decide)⟩
end PF
