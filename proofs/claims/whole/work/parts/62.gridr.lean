/-! ===== grid: the relation behind it ===== -/
section GQ
variable {d : Nat} {Q : mQ} {n : Nat} {ad sa : Nat → Nat} {z0 : Nat} {h C M : mH} {t sz l J kc : Nat} {U f mid : Nat → Nat}
def midU (mid : Nat → Nat) (t : Nat) (U : Nat → Nat) (Z : Nat) : Nat → Nat → Nat
  | 0 => u1 mid t Z
  | j + 1 => u1 (midU mid t U Z j) (U j) (Z + 2 + 2 * j)
theorem midU_t {Z : Nat} : ∀ j, (∀ i, i < j → U i ≠ t) → midU mid t U Z j t = Z := by
  intro j
  induction j with
  | zero => intro _; show u1 mid t Z t = Z; unfold u1; rw [if_pos rfl]
  | succ j ih =>
    intro q
    show u1 (midU mid t U Z j) (U j) (Z + 2 + 2 * j) t = Z
    unfold u1; rw [if_neg (fun e => q j (by omega) e.symm)]; exact ih (fun i hi => q i (by omega))
theorem midU_i {Z : Nat} : ∀ j, (∀ i, i < j → ∀ i', i' < i → U i' ≠ U i) → ∀ i, i < j → midU mid t U Z j (U i) = Z + 2 + 2 * i := by
  intro j
  induction j with
  | zero => intro _ i hi; exact absurd hi (Nat.not_lt_zero _)
  | succ j ih =>
    intro q i hi
    show u1 (midU mid t U Z j) (U j) (Z + 2 + 2 * j) (U i) = _
    unfold u1
    by_cases e : i = j
    · rw [e, if_pos rfl]
    · rw [if_neg (fun z => q j (by omega) i (by omega) z)]; exact ih (fun i hi => q i (by omega)) i (by omega)
theorem midU_o {Z k : Nat} : ∀ j, ¬ NN t U j k → midU mid t U Z j k = mid k := by
  intro j
  induction j with
  | zero => intro q; show u1 mid t Z k = _; unfold u1; rw [if_neg (fun e => q (.inl e))]
  | succ j ih =>
    intro q
    show u1 (midU mid t U Z j) (U j) (Z + 2 + 2 * j) k = _
    unfold u1; rw [if_neg (fun e => q (.inr ⟨j, by omega, e⟩))]
    refine ih (fun z => q ?_)
    rcases z with z | ⟨i, z1, z2⟩
    · exact .inl z
    · exact .inr ⟨i, by omega, z2⟩
theorem GC.liveH (fx : FX n ad sa z0 h) (gc : GC n ad sa z0 h C sz l J) {u : Nat} (w : live ad h u) : live ad (sR C (ad 1) kc (some (hZ h))) u := by
  have lt : ∀ i, ((i < 23 ∨ 30 ≤ i) ∧ i < 76) → ad i < hZ h := fun i hd => ad_lt fx (.inl hd)
  have iH : ∀ i j, ((i < 23 ∨ 30 ≤ i) ∧ i < 76) → i ≠ 0 → hI (sR C (ad 1) kc (some (hZ h))) (ad i) j = hI h (ad i) j := fun i j hd q => I_oR.trans ((gc.1 _ (lt i hd)).2.2.2.2.1 j (fun z => q (fx_inj fx z.1)))
  have lH : ∀ j, hL (sR C (ad 1) kc (some (hZ h))) (ad 36) j = hL h (ad 36) j := fun j => L_oR.trans ((gc.1 _ (lt 36 (by decide))).2.2.1 j)
  rcases w with ⟨c, w1, w2⟩ | ⟨c, g, i, sz', w1, w2, w3, w4, w5, w6, w7, w8⟩
  · exact .inl ⟨c, w1, by rw [iH 31 c (by decide) (by decide)]; exact w2⟩
  · exact .inr ⟨c, g, i, sz', w1, w2, by rw [iH 31 c (by decide) (by decide)]; exact w3, by rw [iH 33 g (by decide) (by decide)]; exact w4, by rw [iH 35 g (by decide) (by decide)]; exact w5, w6, w7, by rw [lH]; exact w8⟩
theorem GC.wf {pa : Nat → Nat} {np : Nat} (fx : FX n ad sa z0 h) (gc : GC n ad sa z0 h C sz l J) (rs : Rs ad z0 mid pa np h) : WF ad (sR C (ad 1) kc (some (hZ h))) := by
  have lt : ∀ i, ((i < 23 ∨ 30 ≤ i) ∧ i < 76) → ad i < hZ h := fun i hd => ad_lt fx (.inl hd)
  have iH : ∀ i j, ((i < 23 ∨ 30 ≤ i) ∧ i < 76) → i ≠ 0 → hI (sR C (ad 1) kc (some (hZ h))) (ad i) j = hI h (ad i) j := fun i j hd q => I_oR.trans ((gc.1 _ (lt i hd)).2.2.2.2.1 j (fun z => q (fx_inj fx z.1)))
  have lH : ∀ j, hL (sR C (ad 1) kc (some (hZ h))) (ad 36) j = hL h (ad 36) j := fun j => L_oR.trans ((gc.1 _ (lt 36 (by decide))).2.2.1 j)
  have w := rs.wf
  intro c hc
  rw [iH 31 c (by decide) (by decide)]
  rcases w c hc with w | w | ⟨u, w1, w2, w3⟩
  · exact .inl w
  · exact .inr (.inl w)
  · refine .inr (.inr ⟨u, w1, w2, fun e => ?_⟩)
    rw [iH 33 u (by decide) (by decide)] at e
    obtain ⟨sz, y1, y2, y3⟩ := w3 e
    exact ⟨sz, y1, by rw [iH 35 u (by decide) (by decide)]; exact y2, fun i hi => by rw [lH]; exact y3 i hi⟩
theorem Rel.newgrid (r : Rel n ad sa z0 h) (gc : GC n ad sa z0 h C sz l J) (hJ : J ≤ sz) (hs : sz ≤ 8) (hl : l ≤ 12) (ht : t < 250) (nlt : ¬ live ad (sR C (ad 1) kc (some (hZ h))) t) (g : GM ad (sR C (ad 1) kc (some (hZ h))) M t U f sz l J) :
    Rel n ad sa z0 (fin2 ad M kc t) ∧ hZ (fin2 ad M kc t) ≤ hZ h + 20 ∧ hU (fin2 ad M kc t) ≤ hU h + 150 := by
  obtain ⟨mid, pa, np, fx, ry, rt, ra, rp, rf, rst, ru, rs⟩ := id r
  have fxM : FX n ad sa z0 M := GM.fx (FX.sRA (i := 1) gc.2.2.2.2.2.2.2.2 (.inl (by decide)) (by decide)) g
  have nlh : ∀ u, NN t U J u → ¬ live ad h u := by
    intro u w lv
    have lv2 := gc.liveH (kc := kc) fx lv
    rcases w with w | ⟨i, w1, w2⟩
    · rw [w] at lv2; exact nlt lv2
    · rw [w2] at lv2; exact (g.2.2.2.2.1 i w1).1.2.1 lv2
  obtain ⟨c1, c2, ⟨c3, c4, c5⟩, ⟨c6, c7, c8⟩, c9, cZ, cU, cz, cx⟩ := gc
  obtain ⟨⟨m1, m2, m3, m4, m5, m6⟩, gI, gL, ⟨t1, t2, t3, t4⟩, gU, -, -⟩ := g
  have z : hzO h := rs.2.2.2
  have lt : ∀ i, dom n i → ad i < hZ h := fun i hd => ad_lt fx hd
  have D : ∀ i, ((i < 23 ∨ 30 ≤ i) ∧ i < 76) → dom n i := fun i hi => .inl hi
  have n0 : ∀ {i j : Nat}, i ≠ 0 → ¬ (i = 0 ∧ j = 6) := fun q z => q z.1
  have iH : ∀ i j, dom n i → ¬ (i = 0 ∧ j = 6) → hI C (ad i) j = hI h (ad i) j := fun i j hd q => (c1 _ (lt i hd)).2.2.2.2.1 j (fun z => q ⟨fx_inj fx z.1, z.2⟩)
  have lH : ∀ i j, dom n i → hL C (ad i) j = hL h (ad i) j := fun i j hd => (c1 _ (lt i hd)).2.2.1 j
  have rI : ∀ a k, ¬ (a = ad 30 ∧ k = 11) → ¬ (a = ad 31 ∧ k = kc) → a ≠ ad 40 → a ≠ ad 32 → ¬ ((a = ad 33 ∨ a = ad 34 ∨ a = ad 35) ∧ NN t U J k) → hI (fin2 ad M kc t) a k = hI C a k := by
    intro a k q1 q2 q3 q4 q5
    unfold fin2
    rw [hI_sI, if_neg q1, hI_sI, if_neg q2, gI a k q3 q4 q5, I_oR]
  have rIa : ∀ a k, (∀ i, ((i < 23 ∨ 30 ≤ i) ∧ i < 76) → a ≠ ad i) → hI (fin2 ad M kc t) a k = hI C a k := fun a k q => rI a k (fun z => q 30 (by decide) z.1) (fun z => q 31 (by decide) z.1) (q 40 (by decide)) (q 32 (by decide)) (fun z => by
    rcases z.1 with z | z | z
    · exact q 33 (by decide) z
    · exact q 34 (by decide) z
    · exact q 35 (by decide) z)
  have rIi : ∀ i k, ¬ (i = 30 ∧ k = 11) → ¬ (i = 31 ∧ k = kc) → i ≠ 40 → i ≠ 32 → ¬ ((i = 33 ∨ i = 34 ∨ i = 35) ∧ NN t U J k) → hI (fin2 ad M kc t) (ad i) k = hI C (ad i) k := fun i k q1 q2 q3 q4 q5 => rI _ k (fun z => q1 ⟨fx_inj fx z.1, z.2⟩) (fun z => q2 ⟨fx_inj fx z.1, z.2⟩) (fun z => q3 (fx_inj fx z)) (fun z => q4 (fx_inj fx z)) (fun z => q5 ⟨by
    rcases z.1 with z | z | z
    · exact .inl (fx_inj fx z)
    · exact .inr (.inl (fx_inj fx z))
    · exact .inr (.inr (fx_inj fx z)), z.2⟩)
  have rM : ∀ i k, i ≠ 30 → i ≠ 31 → hI (fin2 ad M kc t) (ad i) k = hI M (ad i) k := fun i k q1 q2 => by
    unfold fin2; rw [I_ne (fx_ne fx q1), I_ne (fx_ne fx q2)]
  have rL : ∀ a k, ¬ (a = ad 36 ∧ ∃ u, NN t U J u ∧ 30 * u ≤ k ∧ k < 30 * u + 30) → hL (fin2 ad M kc t) a k = hL C a k := fun a k q => by
    unfold fin2; rw [L_oI, L_oI, gL a k q, L_oR]
  have rLM : ∀ a k, hL (fin2 ad M kc t) a k = hL M a k := fun a k => by unfold fin2; rw [L_oI, L_oI]
  have rT : ∀ a, hT (fin2 ad M kc t) a = hT C a := fun a => by unfold fin2; rw [hT_sI, hT_sI, m1, hT_sR]
  have rN : ∀ a, hN (fin2 ad M kc t) a = hN C a := fun a => by unfold fin2; rw [hN_sI, hN_sI, m2, hN_sR]
  have rD : ∀ a k, hD (fin2 ad M kc t) a k = hD C a k := fun a k => by unfold fin2; rw [D_oI, D_oI, m5, D_oR]
  have rR : ∀ a k, ¬ (a = ad 1 ∧ k = kc) → hR (fin2 ad M kc t) a k = hR C a k := fun a k q => by unfold fin2; rw [R_oI, R_oI, m6, hR_sR, if_neg q]
  have rR1 : hR (fin2 ad M kc t) (ad 1) kc = some (hZ h) := by unfold fin2; rw [R_oI, R_oI, m6, R_eq]
  have rZ : hZ (fin2 ad M kc t) = hZ C := by unfold fin2; rw [hZ_sI, hZ_sI, m3, hZ_sR]
  have rU : hU (fin2 ad M kc t) = hU C := by unfold fin2; rw [hU_sI, hU_sI, m4, hU_sR]
  have cf : Chf n ad [(0, 6), (30, 11)] [1, 31, 32, 33, 34, 35, 36, 40] h (fin2 ad M kc t) := fun i j hd hp hq =>
    ⟨(rIi i j (fun z => hp (by rw [z.1, z.2]; decide)) (fun z => hq (by rw [z.1]; decide)) (fun z => hq (by rw [z]; decide)) (fun z => hq (by rw [z]; decide)) (fun z => hq (by rcases z.1 with z | z | z <;> rw [z] <;> decide))).trans (iH i j hd (fun z => hp (by rw [z.1, z.2]; decide))),
     (rL _ _ (fun z => hq (by rw [fx_inj fx z.1]; decide))).trans (lH i j hd),
     (rD _ _).trans ((c1 _ (lt i hd)).2.2.2.1 j),
     (rR _ _ (fun z => hq (by rw [fx_inj fx z.1]; decide))).trans ((c1 _ (lt i hd)).2.2.2.2.2 j)⟩
  have nUt : ∀ i, i < J → U i ≠ t := fun i hi => (gU i hi).1.2.2.1
  have nUU : ∀ i, i < J → ∀ i', i' < i → U i' ≠ U i := fun i hi => (gU i hi).1.2.2.2
  have mt : midU mid t U (hZ h) J t = hZ h := midU_t J nUt
  have mi : ∀ i, i < J → midU mid t U (hZ h) J (U i) = hZ h + 2 + 2 * i := midU_i J nUU
  have dyn : ∀ a, hZ h ≤ a → ∀ i, ((i < 23 ∨ 30 ≤ i) ∧ i < 76) → a ≠ ad i := fun a ha i hi => dy_ad fx (D i hi) (Nat.le_trans (fx_z fx) ha)
  have hth : thR ad z0 (midU mid t U (hZ h) J) pa np (fin2 ad M kc t) t (hZ h) := by
    refine .inr (.inl ⟨(rT _).trans c3, fx_z fx, (rR _ _ (fun z => dyn _ (Nat.le_refl _) 1 (by decide) z.1)).trans c5, (rT _).trans c6, ⟨(rIa _ _ (dyn _ (Nat.le_refl _))).trans c4, (rM 33 t (by decide) (by decide)).trans t1, (rM 34 t (by decide) (by decide)).trans t2⟩, sz, hs, (rN _).trans c7, (rM 35 t (by decide) (by decide)).trans t3, fun i hi => ?_⟩)
    have eR := rR (hZ h + 1) i (fun z => dyn _ (Nat.le_succ _) 1 (by decide) z.1)
    by_cases q : i < J
    · right
      obtain ⟨⟨u1', -, -, -⟩, u2, u3, u4, u5, u6⟩ := gU i q
      obtain ⟨w1, w2, w3, w4, w5, w6, w7⟩ := c9 i q
      refine ⟨U i, u1', (rLM _ _).trans u6, ?_, ?_⟩
      · rw [mi i q, eR]; exact w1
      · rw [mi i q]
        have d1 := dyn (hZ h + 2 + 2 * i) (by omega)
        have d2 := dyn (hZ h + 2 + 2 * i + 1) (by omega)
        refine ⟨(rT _).trans w2, Nat.le_trans (fx_z fx) (by omega), (rR _ _ (fun z => d1 1 (by decide) z.1)).trans w4, (rT _).trans w5, ⟨by decide, (rIa _ _ d1).trans w3, (rM 33 _ (by decide) (by decide)).trans u2, (rM 34 _ (by decide) (by decide)).trans u3⟩, l, by omega, (rN _).trans w6, (rM 35 _ (by decide) (by decide)).trans u4, fun x hx => ?_⟩
        have y1 : hL (fin2 ad M kc t) (hZ h + 2 + 2 * i + 1) x = 0 := (rL _ _ (fun z => d2 36 (by decide) z.1)).trans (w7 x)
        have y2 : hL (fin2 ad M kc t) (ad 36) (30 * U i + x) = 0 := (rLM _ _).trans (u5 x (by omega))
        rw [y1, y2]
        exact ⟨rfl, canL_0 _⟩
    · left
      exact ⟨(rLM _ _).trans (t4 i (by omega) (by omega)), eR.trans (c8 i (by omega))⟩
  have rs2 : Rs ad z0 (midU mid t U (hZ h) J) pa np (fin2 ad M kc t) := by
    refine Rs.newthings (NN t U J) rs (c := kc) (t := t) ht (.inl rfl) nlh (fun u e => midU_o J e) (fun u e => ?_) (fun u v a b e => ?_) (fun a ha hl => ?_) (fun u hu nu => ?_) ?_ ?_ (fun q => ?_) (fun k' nk => ?_) ?_ ?_ ?_ (fun i sz' u hu e8 e35 hs' hi eL => ?_) ?_
    · rcases e with e | ⟨i, e1, e2⟩
      · rw [e, mt]; exact Nat.le_refl _
      · rw [e2, mi i e1]; omega
    · rcases a with a | ⟨i, a1, a2⟩
      · rcases b with b | ⟨i', b1, b2⟩
        · exact a.trans b.symm
        · rw [a, b2, mt, mi i' b1] at e; omega
      · rcases b with b | ⟨i', b1, b2⟩
        · rw [b, a2, mt, mi i a1] at e; omega
        · rw [a2, b2, mi i a1, mi i' b1] at e
          have : i = i' := by omega
          rw [a2, b2, this]
    · have na : ∀ i, ((i < 23 ∨ 30 ≤ i) ∧ i < 76) → a ≠ ad i := fun i hi => dy_ad fx (D i hi) ha
      obtain ⟨g1, g2, g3, g4, g5, g6⟩ := c1 a hl
      exact ⟨(rT a).trans g1, (rN a).trans g2, funext fun j => (rIa a j na).trans (g5 j (fun z => na 0 (by decide) z.1)), funext fun j => (rL a j (fun z => na 36 (by decide) z.1)).trans (g3 j), funext fun j => (rR a j (fun z => na 1 (by decide) z.1)).trans (g6 j)⟩
    · have rd : ∀ i, ((i < 23 ∨ 30 ≤ i) ∧ i < 76) → i ≠ 0 → i ≠ 30 → i ≠ 31 → i ≠ 40 → i ≠ 32 → hI (fin2 ad M kc t) (ad i) u = hI h (ad i) u := fun i hi a0 a1 a2 a3 a4 => (rIi i u (fun z => a1 z.1) (fun z => a2 z.1) a3 a4 (fun z => nu z.2)).trans (iH i u (D i hi) (n0 a0))
      refine ⟨rd 33 (by decide) (by decide) (by decide) (by decide) (by decide) (by decide), rd 34 (by decide) (by decide) (by decide) (by decide) (by decide) (by decide), rd 35 (by decide) (by decide) (by decide) (by decide) (by decide) (by decide), fun i hi => (rL _ _ (fun z => ?_)).trans (lH 36 _ (D _ (by decide)))⟩
      obtain ⟨-, w, z1, z2, z3⟩ := z
      have : w = u := by omega
      rw [this] at z1; exact nu z1
    · exact (cf 0 5 (D _ (by decide)) (by decide) (by decide)).1
    · exact (cf 30 6 (D _ (by decide)) (by decide) (by decide)).1
    · exact ⟨(rIi 37 q (fun z => absurd z.1 (by decide)) (fun z => absurd z.1 (by decide)) (by decide) (by decide) (fun z => absurd z.1 (by decide))).trans (iH 37 q (D _ (by decide)) (n0 (by decide))), (rL _ _ (fun z => absurd (fx_inj fx z.1) (by decide))).trans (lH 38 q (D _ (by decide)))⟩
    · exact ⟨(rIi 31 k' (fun z => absurd z.1 (by decide)) (fun z => nk z.2) (by decide) (by decide) (fun z => absurd z.1 (by decide))).trans (iH 31 k' (D _ (by decide)) (n0 (by decide))), (rR _ _ (fun z => nk z.2)).trans ((c1 _ (lt 1 (D _ (by decide)))).2.2.2.2.2 k')⟩
    · unfold fin2; rw [I_ne (fx_ne fx (by decide)), I_eq]
    · rw [mt]; exact rR1
    · rw [mt]; exact hth
    · have es : sz' = sz := (nI_eq (by omega) (by omega)).mp (e35.symm.trans ((rM 35 t (by decide) (by decide)).trans t3))
      by_cases q : i < J
      · have := (lN_eq (by have := (gU i q).1.1; omega) (by omega)).mp ((gU i q).2.2.2.2.2.symm.trans ((rLM _ _).symm.trans eL))
        exact .inr ⟨i, q, this.symm⟩
      · exact absurd ((t4 i (by omega) (by omega)).symm.trans ((rLM _ _).symm.trans eL)) (lN_m1 (by omega))
    · intro a ha
      rw [rZ] at ha; rw [rT]; exact cz a ha
  refine ⟨⟨midU mid t U (hZ h) J, pa, np, FX.sI (FX.sI fxM), ?_, rt.k cf (by decide), ra.k cf (by decide), rp.k cf (by decide), rf.k cf (by decide), fun j hj i hi => Eq.trans ?_ (rst j hj i hi), Ru.k fx ru cf (by decide), rs2⟩, ?_, ?_⟩
  · show hI (fin2 ad M kc t) (ad 0) 6 = hI (fin2 ad M kc t) (ad 30) 11
    rw [rIi 0 6 (fun z => absurd z.1 (by decide)) (fun z => absurd z.1 (by decide)) (by decide) (by decide) (fun z => absurd z.1 (by decide)), c2]
    unfold fin2; rw [I_eq]
  · have ns : ∀ i, ((i < 23 ∨ 30 ≤ i) ∧ i < 76) → sa j ≠ ad i := fun i hi => (fx_lt fx (D i hi)).2.2 j hj
    exact (rIa _ i ns).trans ((c1 _ (z.lt (by rw [(fx_st fx j hj).2.1]; decide))).2.2.2.2.1 i (fun z => ns 0 (by decide) z.1))
  · rw [rZ, cZ]; omega
  · have : J * (2 + l) ≤ 8 * 14 := Nat.mul_le_mul (by omega) (by omega)
    rw [rU, cU]; omega
end GQ
