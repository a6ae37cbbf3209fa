/-! ===== a new thing in a case: row, cradle ===== -/
section NU
variable {d : Nat} {Q : mQ} {n : Nat} {ad sa : Nat → Nat} {z0 : Nat} {h H H1 H2 : mH} {kc t T1 T2 ln : Nat} {x s k n1 : Int32}
def fin2 (ad : Nat → Nat) (H2 : mH) (kc t : Nat) : mH := sI (sI H2 (ad 31) kc (nI t)) (ad 30) 11 0
theorem nt_I (e1 : E40 ad H H1) (e2 : EM ad H1 H2 t 30 s k n1) {a j : Nat} (q1 : ¬ (a = ad 30 ∧ j = 11)) (q2 : ¬ (a = ad 31 ∧ j = kc)) (q3 : ¬ (j = t ∧ (a = ad 32 ∨ a = ad 33 ∨ a = ad 34 ∨ a = ad 35))) (q4 : a ≠ ad 40) (q5 : a ≠ ad 32) : hI (fin2 ad H2 kc t) a j = hI H a j := by
  unfold fin2
  rw [hI_sI, if_neg q1, hI_sI, if_neg q2, e2.2.2.2.2.2.2.1 _ _ q3, e1.2.2.2.2.2.2.2 _ _ q4 q5]
theorem nt_Ii (fx : FX n ad sa z0 h) (e1 : E40 ad H H1) (e2 : EM ad H1 H2 t 30 s k n1) {i j : Nat} (q1 : ¬ (i = 30 ∧ j = 11)) (q2 : ¬ (i = 31 ∧ j = kc)) (q3 : ¬ (j = t ∧ (i = 33 ∨ i = 34 ∨ i = 35))) (q4 : i ≠ 40) (q5 : i ≠ 32) : hI (fin2 ad H2 kc t) (ad i) j = hI H (ad i) j := by
  refine nt_I e1 e2 (fun z => q1 ⟨fx_inj fx z.1, z.2⟩) (fun z => q2 ⟨fx_inj fx z.1, z.2⟩) (fun z => ?_) (fun z => q4 (fx_inj fx z)) (fun z => q5 (fx_inj fx z))
  rcases z with ⟨z1, z | z | z | z⟩
  · exact q5 (fx_inj fx z)
  · exact q3 ⟨z1, .inl (fx_inj fx z)⟩
  · exact q3 ⟨z1, .inr (.inl (fx_inj fx z))⟩
  · exact q3 ⟨z1, .inr (.inr (fx_inj fx z))⟩
theorem nt_Ia (e1 : E40 ad H H1) (e2 : EM ad H1 H2 t 30 s k n1) {a j : Nat} (q : ∀ i, ((i < 23 ∨ 30 ≤ i) ∧ i < 76) → a ≠ ad i) : hI (fin2 ad H2 kc t) a j = hI H a j := by
  refine nt_I e1 e2 (fun z => q 30 (by decide) z.1) (fun z => q 31 (by decide) z.1) (fun z => ?_) (q 40 (by decide)) (q 32 (by decide))
  rcases z with ⟨z1, z | z | z | z⟩
  · exact q 32 (by decide) z
  · exact q 33 (by decide) z
  · exact q 34 (by decide) z
  · exact q 35 (by decide) z
theorem nt_L (e1 : E40 ad H H1) (e2 : EM ad H1 H2 t 30 s k n1) {a j : Nat} (q : ¬ (a = ad 36 ∧ 30 * t ≤ j ∧ j < 30 * t + 30)) : hL (fin2 ad H2 kc t) a j = hL H a j := by
  show hL H2 a j = _
  rw [e2.2.2.2.2.2.2.2.2.1 _ _ q, e1.2.2.2.2.1]
theorem nt_T (e1 : E40 ad H H1) (e2 : EM ad H1 H2 t 30 s k n1) : hT (fin2 ad H2 kc t) = hT H := e2.1.trans e1.1
theorem nt_N (e1 : E40 ad H H1) (e2 : EM ad H1 H2 t 30 s k n1) : hN (fin2 ad H2 kc t) = hN H := e2.2.1.trans e1.2.1
theorem nt_R (e1 : E40 ad H H1) (e2 : EM ad H1 H2 t 30 s k n1) : hR (fin2 ad H2 kc t) = hR H := e2.2.2.2.2.2.1.trans e1.2.2.2.2.2.2.1
theorem nt_D (e1 : E40 ad H H1) (e2 : EM ad H1 H2 t 30 s k n1) : hD (fin2 ad H2 kc t) = hD H := e2.2.2.2.2.1.trans e1.2.2.2.2.2.1
theorem nt_Z (e1 : E40 ad H H1) (e2 : EM ad H1 H2 t 30 s k n1) : hZ (fin2 ad H2 kc t) = hZ H := e2.2.2.1.trans e1.2.2.1
theorem nt_U (e1 : E40 ad H H1) (e2 : EM ad H1 H2 t 30 s k n1) : hU (fin2 ad H2 kc t) = hU H := e2.2.2.2.1.trans e1.2.2.2.1
theorem nt_t (fx : FX n ad sa z0 h) (e2 : EM ad H1 H2 t 30 s k n1) : hI (fin2 ad H2 kc t) (ad 33) t = s ∧ hI (fin2 ad H2 kc t) (ad 34) t = k ∧ hI (fin2 ad H2 kc t) (ad 35) t = n1 := by
  unfold fin2
  obtain ⟨-, w1, w2, w3⟩ := e2.2.2.2.2.2.2.2.1
  refine ⟨?_, ?_, ?_⟩
  · rw [I_ne (fx_ne fx (by decide)), I_ne (fx_ne fx (by decide)), w1]
  · rw [I_ne (fx_ne fx (by decide)), I_ne (fx_ne fx (by decide)), w2]
  · rw [I_ne (fx_ne fx (by decide)), I_ne (fx_ne fx (by decide)), w3]
/-- two new cells, the first in a case -/
def NC (ad : Nat → Nat) (h H : mH) (kc T1 T2 : Nat) (x : Int32) (ln : Nat) : Prop :=
  (∀ a, a < hZ h → hT H a = hT h a ∧ hN H a = hN h a ∧ (∀ j, hL H a j = hL h a j) ∧ (∀ j, hD H a j = hD h a j) ∧ (∀ j, ¬ (a = ad 0 ∧ j = 6) → hI H a j = hI h a j) ∧ (∀ j, ¬ (a = ad 1 ∧ j = kc) → hR H a j = hR h a j)) ∧ hI H (ad 0) 6 = 0 ∧ hR H (ad 1) kc = some (hZ h) ∧
  (hT H (hZ h) = T1 ∧ hI H (hZ h) 0 = x ∧ hR H (hZ h) 1 = some (hZ h + 1)) ∧ (hT H (hZ h + 1) = T2 ∧ hN H (hZ h + 1) = ln ∧ (∀ i, hL H (hZ h + 1) i = 0) ∧ (∀ i, hR H (hZ h + 1) i = none)) ∧ hZ H = hZ h + 2 ∧ hU H = hU h + 2 + ln ∧ ∀ a, hZ h + 2 ≤ a → hT H a = 0
theorem NC.of (fx : FX n ad sa z0 h) (z : hzO h) : NC ad h (sR (sR (nw (sI (nw (sI h (ad 0) 6 0) T1 2 2) (hZ h) 0 x) T2 ln ln) (hZ h) 1 (some (hZ h + 1))) (ad 1) kc (some (hZ h))) kc T1 T2 x ln := by
  have l0 : ad 0 < hZ h := ad_lt fx (.inl (by decide))
  have l1 : ad 1 < hZ h := ad_lt fx (.inl (by decide))
  have z1 : hZ (sI (nw (sI h (ad 0) 6 0) T1 2 2) (hZ h) 0 x) = hZ h + 1 := rfl
  have z2 : hZ (sI h (ad 0) 6 0) = hZ h := rfl
  refine ⟨fun a ha => ⟨?_, ?_, fun j => ?_, fun j => ?_, fun j q => ?_, fun j q => ?_⟩, ?_, ?_, ⟨?_, ?_, ?_⟩, ⟨?_, ?_, fun i => ?_, fun i => ?_⟩, rfl, rfl, fun a ha => ?_⟩
  · rw [hT_sR, hT_sR, nw_T (by omega), hT_sI, nw_T (by omega), hT_sI]
  · rw [hN_sR, hN_sR, nw_N (by omega), hN_sI, nw_N (by omega), hN_sI]
  · rw [L_oR, L_oR, nw_L (by omega), L_oI, nw_L (by omega), L_oI]
  · rw [D_oR, D_oR, nw_D (by omega), D_oI, nw_D (by omega), D_oI]
  · rw [I_oR, I_oR, nw_I (by omega), I_ne (by omega), nw_I (by omega), hI_sI, if_neg q]
  · rw [hR_sR, if_neg q, R_ne (by omega), nw_R (by omega), R_oI, nw_R (by omega), R_oI]
  · rw [I_oR, I_oR, nw_I (by omega), I_ne (by omega), nw_I (by omega), I_eq]
  · rw [R_eq]
  · rw [hT_sR, hT_sR, nw_T (by omega), hT_sI]; exact nw_T0 (h := sI h (ad 0) 6 0)
  · rw [I_oR, I_oR, nw_I (by omega), I_eq]
  · rw [R_ne (by omega), R_eq]
  · rw [hT_sR, hT_sR]; exact nw_T0 (h := sI (nw (sI h (ad 0) 6 0) T1 2 2) (hZ h) 0 x)
  · rw [hN_sR, hN_sR]; exact nw_N0 (h := sI (nw (sI h (ad 0) 6 0) T1 2 2) (hZ h) 0 x)
  · rw [L_oR, L_oR]; exact nw_L0 (h := sI (nw (sI h (ad 0) 6 0) T1 2 2) (hZ h) 0 x)
  · rw [R_ne (by omega), R_ne (by omega)]; exact nw_R0 (h := sI (nw (sI h (ad 0) 6 0) T1 2 2) (hZ h) 0 x)
  · rw [hT_sR, hT_sR, nw_T (by omega), hT_sI, nw_T (by omega), hT_sI]; exact z a (by omega)
theorem NC.wf {mid pa : Nat → Nat} {np : Nat} (fx : FX n ad sa z0 h) (nc : NC ad h H kc T1 T2 x ln) (rs : Rs ad z0 mid pa np h) : WF ad H := by
  have lt : ∀ i, ((i < 23 ∨ 30 ≤ i) ∧ i < 76) → ad i < hZ h := fun i hd => ad_lt fx (.inl hd)
  have iH : ∀ i j, ((i < 23 ∨ 30 ≤ i) ∧ i < 76) → i ≠ 0 → hI H (ad i) j = hI h (ad i) j := fun i j hd q => (nc.1 _ (lt i hd)).2.2.2.2.1 j (fun z => q (fx_inj fx z.1))
  have lH : ∀ j, hL H (ad 36) j = hL h (ad 36) j := fun j => (nc.1 _ (lt 36 (by decide))).2.2.1 j
  have w := rs.wf
  intro c hc
  rw [iH 31 c (by decide) (by decide)]
  rcases w c hc with w | w | ⟨u, w1, w2, w3⟩
  · exact .inl w
  · exact .inr (.inl w)
  · refine .inr (.inr ⟨u, w1, w2, fun e => ?_⟩)
    rw [iH 33 u (by decide) (by decide)] at e
    obtain ⟨sz, y1, y2, y3⟩ := w3 e
    exact ⟨sz, y1, by rw [iH 35 u (by decide) (by decide)]; exact y2, fun i hi => by rw [lH]; exact y3 i hi⟩
theorem Rel.newthing (r : Rel n ad sa z0 h) (nc : NC ad h H kc T1 T2 x ln) (hln : ln ≤ 30) (fxH : FX n ad sa z0 H) (e1 : E40 ad H H1) (e2 : EM ad H1 H2 t 30 s k n1) (ht : t < 250) (nl : ¬ live ad H t) (n8 : s ≠ 8) (hth : ∀ mid pa np, thR ad z0 mid pa np (fin2 ad H2 kc t) t (hZ h)) :
    Rel n ad sa z0 (fin2 ad H2 kc t) ∧ hZ (fin2 ad H2 kc t) ≤ hZ h + 20 ∧ hU (fin2 ad H2 kc t) ≤ hU h + 150 := by
  obtain ⟨mid, pa, np, fx, ry, rt, ra, rp, rf, rst, ru, rs⟩ := id r
  obtain ⟨c1, c2, c3, -, -, cZ, cU, cT⟩ := nc
  have z : hzO h := rs.2.2.2
  have lt : ∀ i, dom n i → ad i < hZ h := fun i hd => ad_lt fx hd
  have D : ∀ i, ((i < 23 ∨ 30 ≤ i) ∧ i < 76) → dom n i := fun i hi => .inl hi
  have iH : ∀ i j, dom n i → ¬ (i = 0 ∧ j = 6) → hI H (ad i) j = hI h (ad i) j := fun i j hd q => (c1 _ (lt i hd)).2.2.2.2.1 j (fun z => q ⟨fx_inj fx z.1, z.2⟩)
  have lH : ∀ i j, dom n i → hL H (ad i) j = hL h (ad i) j := fun i j hd => (c1 _ (lt i hd)).2.2.1 j
  have n0 : ∀ {i j : Nat}, i ≠ 0 → ¬ (i = 0 ∧ j = 6) := fun q z => q z.1
  have nlh : ∀ u, u = t → ¬ live ad h u := by
    intro u e w
    subst e
    refine nl ?_
    rcases w with ⟨c, w1, w2⟩ | ⟨c, g, i, sz, w1, w2, w3, w4, w5, w6, w7, w8⟩
    · exact .inl ⟨c, w1, by rw [iH 31 c (D _ (by decide)) (n0 (by decide))]; exact w2⟩
    · exact .inr ⟨c, g, i, sz, w1, w2, by rw [iH 31 c (D _ (by decide)) (n0 (by decide))]; exact w3, by rw [iH 33 g (D _ (by decide)) (n0 (by decide))]; exact w4, by rw [iH 35 g (D _ (by decide)) (n0 (by decide))]; exact w5, w6, w7, by rw [lH 36 _ (D _ (by decide))]; exact w8⟩
  have cf : Chf n ad [(0, 6), (30, 11)] [1, 31, 32, 33, 34, 35, 36, 40] h (fin2 ad H2 kc t) := fun i j hd hp hq =>
    ⟨(nt_Ii fx e1 e2 (fun z => hp (by rw [z.1, z.2]; decide)) (fun z => hq (by rw [z.1]; decide)) (fun z => hq (by rcases z.2 with z | z | z <;> rw [z] <;> decide)) (fun z => hq (by rw [z]; decide)) (fun z => hq (by rw [z]; decide))).trans (iH i j hd (fun z => hp (by rw [z.1, z.2]; decide))),
     (nt_L e1 e2 (fun z => hq (by rw [fx_inj fx z.1]; decide))).trans (lH i j hd),
     (congrFun (congrFun (nt_D e1 e2) _) _).trans ((c1 _ (lt i hd)).2.2.2.1 j),
     (congrFun (congrFun (nt_R e1 e2) _) _).trans ((c1 _ (lt i hd)).2.2.2.2.2 j (fun z => hq (by rw [fx_inj fx z.1]; decide)))⟩
  have mt : u1 mid t (hZ h) t = hZ h := by unfold u1; rw [if_pos rfl]
  have tt := nt_t (kc := kc) fx e2
  have rs2 : Rs ad z0 (u1 mid t (hZ h)) pa np (fin2 ad H2 kc t) := by
    refine Rs.newthings (fun u => u = t) rs (c := kc) (t := t) ht rfl nlh (fun u e => by unfold u1; rw [if_neg e]) (fun u e => by unfold u1; rw [if_pos e]; exact Nat.le_refl _) (fun u v a b _ => a.trans b.symm) (fun a ha hl => ?_) (fun u hu nu => ?_) ?_ ?_ (fun q => ?_) (fun k' nk => ?_) ?_ ?_ ?_ (fun i sz u _ e8 => absurd (tt.1.symm.trans e8) n8) ?_
    · have na : ∀ i, ((i < 23 ∨ 30 ≤ i) ∧ i < 76) → a ≠ ad i := fun i hi => dy_ad fx (D i hi) ha
      obtain ⟨g1, g2, g3, g4, g5, g6⟩ := c1 a hl
      exact ⟨(congrFun (nt_T e1 e2) a).trans g1, (congrFun (nt_N e1 e2) a).trans g2, funext fun j => (nt_Ia e1 e2 na).trans (g5 j (fun z => na 0 (by decide) z.1)), funext fun j => (nt_L e1 e2 (fun z => na 36 (by decide) z.1)).trans (g3 j), funext fun j => (congrFun (congrFun (nt_R e1 e2) a) j).trans (g6 j (fun z => na 1 (by decide) z.1))⟩
    · have rd : ∀ i, ((i < 23 ∨ 30 ≤ i) ∧ i < 76) → i ≠ 0 → i ≠ 30 → i ≠ 31 → i ≠ 40 → i ≠ 32 → hI (fin2 ad H2 kc t) (ad i) u = hI h (ad i) u := fun i hi a0 a1 a2 a3 a4 => (nt_Ii fx e1 e2 (fun z => a1 z.1) (fun z => a2 z.1) (fun z => nu z.1) a3 a4).trans (iH i u (D i hi) (n0 a0))
      refine ⟨rd 33 (by decide) (by decide) (by decide) (by decide) (by decide) (by decide), rd 34 (by decide) (by decide) (by decide) (by decide) (by decide) (by decide), rd 35 (by decide) (by decide) (by decide) (by decide) (by decide) (by decide), fun i hi => (nt_L e1 e2 (fun z => ?_)).trans (lH 36 _ (D _ (by decide)))⟩
      have := z.2.1; have := z.2.2; have : u ≠ t := nu; omega
    · exact (cf 0 5 (D _ (by decide)) (by decide) (by decide)).1
    · exact (cf 30 6 (D _ (by decide)) (by decide) (by decide)).1
    · exact ⟨(nt_Ii fx e1 e2 (fun z => absurd z.1 (by decide)) (fun z => absurd z.1 (by decide)) (fun z => absurd z.2 (by decide)) (by decide) (by decide)).trans (iH 37 q (D _ (by decide)) (n0 (by decide))), (nt_L e1 e2 (fun z => absurd (fx_inj fx z.1) (by decide))).trans (lH 38 q (D _ (by decide)))⟩
    · exact ⟨(nt_Ii fx e1 e2 (fun z => absurd z.1 (by decide)) (fun z => nk z.2) (fun z => absurd z.2 (by decide)) (by decide) (by decide)).trans (iH 31 k' (D _ (by decide)) (n0 (by decide))), (congrFun (congrFun (nt_R e1 e2) _) _).trans ((c1 _ (lt 1 (D _ (by decide)))).2.2.2.2.2 k' (fun z => nk z.2))⟩
    · unfold fin2; rw [I_ne (fx_ne fx (by decide)), I_eq]
    · rw [mt, nt_R e1 e2]; exact c3
    · rw [mt]; exact hth _ _ _
    · rw [nt_Z e1 e2, nt_T e1 e2, cZ]; exact cT
  refine ⟨⟨u1 mid t (hZ h), pa, np, FX.sI (FX.sI (e2.fx (e1.fx fxH))), ?_, rt.k cf (by decide), ra.k cf (by decide), rp.k cf (by decide), rf.k cf (by decide), fun j hj i hi => Eq.trans ?_ (rst j hj i hi), Ru.k fx ru cf (by decide), rs2⟩, ?_, ?_⟩
  · show hI (fin2 ad H2 kc t) (ad 0) 6 = hI (fin2 ad H2 kc t) (ad 30) 11
    rw [nt_Ii fx e1 e2 (fun z => absurd z.1 (by decide)) (fun z => absurd z.1 (by decide)) (fun z => absurd z.2 (by decide)) (by decide) (by decide), c2]
    unfold fin2; rw [I_eq]
  · have ns : ∀ i, ((i < 23 ∨ 30 ≤ i) ∧ i < 76) → sa j ≠ ad i := fun i hi => (fx_lt fx (D i hi)).2.2 j hj
    exact (nt_Ia e1 e2 ns).trans ((c1 _ (z.lt (by rw [(fx_st fx j hj).2.1]; decide))).2.2.2.2.1 i (fun z => ns 0 (by decide) z.1))
  · rw [nt_Z e1 e2, cZ]; omega
  · rw [nt_U e1 e2, cU]; omega
theorem nt_row {lnk sz : Nat} (fx : FX n ad sa z0 h) (nc : NC ad h H kc 5 21 (nI lnk) sz) (hl : lnk < 8) (hs : sz ≤ 30) (e1 : E40 ad H H1) (e2 : EM ad H1 H2 t 30 (nI lnk) 0 (nI sz)) (mid pa : Nat → Nat) (np : Nat) (hc0 : canL lnk 0) : thR ad z0 mid pa np (fin2 ad H2 kc t) t (hZ h) := by
  obtain ⟨-, -, -, ⟨d1, d2, d3⟩, ⟨d4, d5, d6, d7⟩, -⟩ := nc
  have na : ∀ i, ((i < 23 ∨ 30 ≤ i) ∧ i < 76) → hZ h ≠ ad i := fun i hi => dy_ad fx (.inl hi) (fx_z fx)
  have nb : ∀ i, ((i < 23 ∨ 30 ≤ i) ∧ i < 76) → hZ h + 1 ≠ ad i := fun i hi => dy_ad fx (.inl hi) (Nat.le_trans (fx_z fx) (Nat.le_succ _))
  have tt := nt_t (kc := kc) fx e2
  have v0 : fv (nI lnk) = 0 := if_neg (fun q => by
    rcases q with q | q
    · have := (nI_eq (a := lnk) (b := 8) (by omega) (by decide)).mp q; omega
    · have := (nI_eq (a := lnk) (b := 9) (by omega) (by decide)).mp q; omega)
  refine .inl ⟨lnk, by rw [nt_T e1 e2]; exact d1, fx_z fx, by rw [nt_R e1 e2]; exact d3, by rw [nt_T e1 e2]; exact d4, ⟨hl, (nt_Ia e1 e2 na).trans d2, tt.1, tt.2.1⟩, sz, hs, by rw [nt_N e1 e2]; exact d5, tt.2.2, fun i hi => ?_⟩
  have y : hL (fin2 ad H2 kc t) (hZ h + 1) i = 0 := (nt_L e1 e2 (fun z => nb 36 (by decide) z.1)).trans (d6 i)
  have y2 : hL (fin2 ad H2 kc t) (ad 36) (30 * t + i) = 0 := (e2.2.2.2.2.2.2.2.2.2 i (by omega)).trans v0
  rw [y, y2]
  exact ⟨rfl, hc0⟩
theorem nt_cra {kk sz : Nat} (fx : FX n ad sa z0 h) (nc : NC ad h H kc 6 24 (nI kk) sz) (hl : kk < 8) (hs : sz ≤ 8) (e1 : E40 ad H H1) (e2 : EM ad H1 H2 t 30 9 (nI kk) (nI sz)) (mid pa : Nat → Nat) (np : Nat) : thR ad z0 mid pa np (fin2 ad H2 kc t) t (hZ h) := by
  obtain ⟨-, -, -, ⟨d1, d2, d3⟩, ⟨d4, d5, d6, d7⟩, -⟩ := nc
  have na : ∀ i, ((i < 23 ∨ 30 ≤ i) ∧ i < 76) → hZ h ≠ ad i := fun i hi => dy_ad fx (.inl hi) (fx_z fx)
  have tt := nt_t (kc := kc) fx e2
  refine .inr (.inr ⟨by rw [nt_T e1 e2]; exact d1, fx_z fx, by rw [nt_R e1 e2]; exact d3, by rw [nt_T e1 e2]; exact d4, kk, ⟨hl, (nt_Ia e1 e2 na).trans d2, tt.1, tt.2.1⟩, sz, hs, by rw [nt_N e1 e2]; exact d5, tt.2.2, fun i hi => .inl ⟨?_, ?_⟩⟩)
  · exact (e2.2.2.2.2.2.2.2.2.2 i (by omega)).trans rfl
  · rw [nt_R e1 e2]; exact d7 i
theorem told_0 (fx : FX n ad sa z0 h) {m : Nat} (hm : m < 2 ^ 31) (hQ : Q (some (.int (nI m))) (sI h (ad 30) 11 0)) : EV (d + 1) 154 [.ref (ad 30), .int (nI m)] h Q := by
  refine in_154 (Nat.le_of_ble_eq_true rfl) ?_
  show WR _ cd_154 0 [some (.ref (ad 30)), some (.int (nI m))] [] h _
  refine r_aload rfl rfl ?_
  refine r_iload rfl rfl ?_
  refine r_ic (x := (-1)) rfl rfl ?_
  refine r_icmp_ge (tg := 10) rfl rfl (fun _ => ?_) (fun q => False.elim (by have := i_nle q; have : (nI m).toInt = ((m : Nat) : Int) := nI_toInt (by omega); have : (-1 : Int32).toInt = -1 := rfl; omega))
  refine r_ic (x := 0) rfl rfl ?_
  refine r_putI rfl ⟨rfl, rfl, rfl⟩ (fx_t30 fx) ?_
  refine r_iload rfl rfl ?_
  refine r_iret rfl ?_
  exact hQ
theorem t_row (fx : FX n ad sa z0 H) (wf : WF ad H) (hc : kc < 24) {m : Nat} (hm : m ≤ 30) (hQ : ∀ t H1 H2, t < 250 → ¬ live ad H t → E40 ad H H1 → EM ad H1 H2 t 30 k 0 (nI m) → Q (some (.int (nI m))) (fin2 ad H2 kc t)) : WR (d + 3) cd_152 49 [some (.ref (ad 30)), some (.int (nI kc)), some (.int k), some (.int (nI m))] [] H Q := by
  refine r_aload rfl rfl ?_
  refine r_cv (y := 157) (ra := []) (rest := []) rfl ⟨⟨rfl, rfl⟩, rfl, by decide⟩ (fx_t30 fx) rfl rfl (Nat.le_of_ble_eq_true rfl) ?_
  refine c_sweep fx wf (fun H1 f e1 m1 l1 => ?_)
  show WR _ cd_152 53 [some (.ref (ad 30)), some (.int (nI kc)), some (.int k), some (.int (nI m))] [] H1 _
  have fx1 := e1.fx fx
  refine r_aload rfl rfl ?_
  refine r_getA (b := ad 31) rfl ⟨rfl, rfl, rfl⟩ (fx_t30 fx1) (fx_r30_0 fx1) ?_
  refine r_iload rfl rfl ?_
  refine r_aload rfl rfl ?_
  refine r_iload rfl rfl ?_
  refine r_ic (x := 0) rfl rfl ?_
  refine r_iload rfl rfl ?_
  refine r_cv (y := 159) (ra := [.int (nI m), .int 0, .int k]) (rest := [.int (nI kc), .ref (ad 31)]) rfl ⟨⟨rfl, rfl⟩, rfl, by decide⟩ (fx_t30 fx1) rfl rfl (Nat.le_of_ble_eq_true rfl) ?_
  refine c_make fx1 m1 (by decide) (fun t H2 ht ut e2 => ?_)
  show WR _ cd_152 65 [some (.ref (ad 30)), some (.int (nI kc)), some (.int k), some (.int (nI m))] [.int (nI t), .int (nI kc), .ref (ad 31)] H2 _
  have fx2 := e2.fx fx1
  refine r_iastore rfl (fx_t31 fx2) (vp_ct (fx_n31 fx2) (vp_in_nI hc (by omega))) ?_
  refine WR_h (h2 := sI H2 (ad 31) kc (nI t)) (congrArg (fun z => sI H2 (ad 31) z (nI t)) (nI_clamp (by omega))) ?_
  refine r_aload rfl rfl ?_
  refine r_iload rfl rfl ?_
  refine r_cv (y := 154) (ra := [.int (nI m)]) (rest := []) rfl ⟨⟨rfl, rfl⟩, rfl, by decide⟩ (fx_t30 (FX.sI fx2)) rfl rfl (Nat.le_of_ble_eq_true rfl) ?_
  refine told_0 (FX.sI fx2) (by omega) ?_
  show WR _ cd_152 71 [some (.ref (ad 30)), some (.int (nI kc)), some (.int k), some (.int (nI m))] [.int (nI m)] _ _
  refine r_iret rfl ?_
  exact hQ t H1 H2 ht (fun l => absurd ((l1 t ht l).symm.trans ut) (by decide)) e1 e2
theorem t_cra (fx : FX n ad sa z0 H) (wf : WF ad H) (hc : kc < 24) {m : Nat} (hm : m ≤ 8) (hQ : ∀ t H1 H2, t < 250 → ¬ live ad H t → E40 ad H H1 → EM ad H1 H2 t 30 9 k (nI m) → Q (some (.int (nI m))) (fin2 ad H2 kc t)) : WR (d + 3) cd_161 49 [some (.ref (ad 30)), some (.int (nI kc)), some (.int k), some (.int (nI m))] [] H Q := by
  refine r_aload rfl rfl ?_
  refine r_cv (y := 157) (ra := []) (rest := []) rfl ⟨⟨rfl, rfl⟩, rfl, by decide⟩ (fx_t30 fx) rfl rfl (Nat.le_of_ble_eq_true rfl) ?_
  refine c_sweep fx wf (fun H1 f e1 m1 l1 => ?_)
  show WR _ cd_161 53 [some (.ref (ad 30)), some (.int (nI kc)), some (.int k), some (.int (nI m))] [] H1 _
  have fx1 := e1.fx fx
  refine r_aload rfl rfl ?_
  refine r_getA (b := ad 31) rfl ⟨rfl, rfl, rfl⟩ (fx_t30 fx1) (fx_r30_0 fx1) ?_
  refine r_iload rfl rfl ?_
  refine r_aload rfl rfl ?_
  refine r_ic (x := 9) rfl rfl ?_
  refine r_iload rfl rfl ?_
  refine r_iload rfl rfl ?_
  refine r_cv (y := 159) (ra := [.int (nI m), .int k, .int 9]) (rest := [.int (nI kc), .ref (ad 31)]) rfl ⟨⟨rfl, rfl⟩, rfl, by decide⟩ (fx_t30 fx1) rfl rfl (Nat.le_of_ble_eq_true rfl) ?_
  refine c_make fx1 m1 (by decide) (fun t H2 ht ut e2 => ?_)
  show WR _ cd_161 66 [some (.ref (ad 30)), some (.int (nI kc)), some (.int k), some (.int (nI m))] [.int (nI t), .int (nI kc), .ref (ad 31)] H2 _
  have fx2 := e2.fx fx1
  refine r_iastore rfl (fx_t31 fx2) (vp_ct (fx_n31 fx2) (vp_in_nI hc (by omega))) ?_
  refine WR_h (h2 := sI H2 (ad 31) kc (nI t)) (congrArg (fun z => sI H2 (ad 31) z (nI t)) (nI_clamp (by omega))) ?_
  refine r_aload rfl rfl ?_
  refine r_iload rfl rfl ?_
  refine r_cv (y := 154) (ra := [.int (nI m)]) (rest := []) rfl ⟨⟨rfl, rfl⟩, rfl, by decide⟩ (fx_t30 (FX.sI fx2)) rfl rfl (Nat.le_of_ble_eq_true rfl) ?_
  refine told_0 (FX.sI fx2) (by omega) ?_
  show WR _ cd_161 72 [some (.ref (ad 30)), some (.int (nI kc)), some (.int k), some (.int (nI m))] [.int (nI m)] _ _
  refine r_iret rfl ?_
  exact hQ t H1 H2 ht (fun l => absurd ((l1 t ht l).symm.trans ut) (by decide)) e1 e2
end NU
