/-! ===== the reference's steps of an act, by the pure picture ===== -/
def actR (i : Nat) : Prop := i = 31 ∨ 53 ≤ i ∧ i ≤ 57
def actF (j : Nat) : Prop := 31 ≤ j ∧ j ≤ 35 ∨ j = 37
def ctlR (i : Nat) : Prop := 48 ≤ i ∧ i ≤ 52
def ctlF (j : Nat) : Prop := j = 23 ∨ j = 29 ∨ j = 30 ∨ j = 47
/-- the reference's cells of an act -/
def RM (ad : Nat → Nat) (G : mH) (S : aS) : Prop := (hI G (ad 30) 37 = nI (S.1 0) ∧ hI G (ad 30) 31 = nI (S.1 1) ∧ hI G (ad 30) 35 = nI (S.1 2) ∧ hI G (ad 30) 32 = nI (S.1 3)) ∧ (hI G (ad 30) 33 = S.2.1 33 0 ∧ hI G (ad 30) 34 = S.2.1 34 0) ∧ (∀ i, actR i → ∀ j, hI G (ad i) j = S.2.1 i j) ∧ ∀ j, hL G (ad 36) j = S.2.2 j
/-- only rows R, places F of the reference itself, and items have changed -/
def CHx (R F : Nat → Prop) (ad : Nat → Nat) (G G' : mH) : Prop := (hT G' = hT G ∧ hN G' = hN G ∧ hZ G' = hZ G ∧ hU G' = hU G) ∧ hD G' = hD G ∧ hR G' = hR G ∧ (∀ a j, (∀ i, R i → a ≠ ad i) → ¬ (a = ad 30 ∧ F j) → hI G' a j = hI G a j) ∧ ∀ a, a ≠ ad 36 → hL G' a = hL G a
/-- a step's data alone -/
def CHd : (Nat → Nat) → mH → mH → Prop := CHx actR actF
/-- data and control -/
def CH : (Nat → Nat) → mH → mH → Prop := CHx (fun i => actR i ∨ ctlR i) (fun j => actF j ∨ ctlF j)
section RM1
variable {n np : Nat} {ad sa : Nat → Nat} {z0 : Nat} {LV : Nat → Prop} {P : aP} {G G' G2 : mH} {S : aS} {Q : mQ} {R F R' F' : Nat → Prop}
theorem CHx.rf : CHx R F ad G G := ⟨⟨rfl, rfl, rfl, rfl⟩, rfl, rfl, fun _ _ _ _ => rfl, fun _ _ => rfl⟩
theorem CHx.tr (x : CHx R F ad G G') (y : CHx R F ad G' G2) : CHx R F ad G G2 :=
  ⟨⟨y.1.1.trans x.1.1, y.1.2.1.trans x.1.2.1, y.1.2.2.1.trans x.1.2.2.1, y.1.2.2.2.trans x.1.2.2.2⟩, y.2.1.trans x.2.1, y.2.2.1.trans x.2.2.1, fun a j h1 h2 => (y.2.2.2.1 a j h1 h2).trans (x.2.2.2.1 a j h1 h2), fun a h => (y.2.2.2.2 a h).trans (x.2.2.2.2 a h)⟩
theorem CHx.wk (x : CHx R F ad G G') (h1 : ∀ i, R i → R' i) (h2 : ∀ j, F j → F' j) : CHx R' F' ad G G' := ⟨x.1, x.2.1, x.2.2.1, fun a j g1 g2 => x.2.2.2.1 a j (fun i hi => g1 i (h1 i hi)) (fun e => g2 ⟨e.1, h2 j e.2⟩), x.2.2.2.2⟩
theorem CHd.ch (x : CHd ad G G') : CH ad G G' := CHx.wk x (fun _ h => .inl h) (fun _ h => .inl h)
theorem CHx.i {i j : Nat} {v : Int32} (x : CHx R F ad G G') (hi : R i) : CHx R F ad G (sI G' (ad i) j v) := ⟨x.1, x.2.1, x.2.2.1, fun a k h1 h2 => (I_ne (h1 i hi)).trans (x.2.2.2.1 a k h1 h2), x.2.2.2.2⟩
theorem CHx.f {j : Nat} {v : Int32} (x : CHx R F ad G G') (hj : F j) : CHx R F ad G (sI G' (ad 30) j v) := ⟨x.1, x.2.1, x.2.2.1, fun a k h1 h2 => by
  have ne : ¬ (a = ad 30 ∧ k = j) := fun e => h2 ⟨e.1, by rw [e.2]; exact hj⟩
  rw [hI_sI, if_neg ne]; exact x.2.2.2.1 a k h1 h2, x.2.2.2.2⟩
theorem CHx.l {j : Nat} {v : Int64} (x : CHx R F ad G G') : CHx R F ad G (sL G' (ad 36) j v) := ⟨x.1, x.2.1, x.2.2.1, x.2.2.2.1, fun a h => (u2_row _ h _).trans (x.2.2.2.2 a h)⟩
theorem CHx.fx (fx : FX n ad sa z0 G) (x : CHx R F ad G G') : FX n ad sa z0 G' := fx.of x.1.1 x.1.2.1 x.1.2.2.1 (fun _ _ _ => by rw [x.2.2.1]) (fun _ => by rw [x.2.2.1])
theorem CHx.k (fx : FX n ad sa z0 G) (x : CHx R F ad G G') {i : Nat} (h1 : ¬ R i) (h2 : i ≠ 30) (j : Nat) : hI G' (ad i) j = hI G (ad i) j := x.2.2.2.1 _ _ (fun i' h e => h1 (fx_inj fx e ▸ h)) (fun e => h2 (fx_inj fx e.1))
theorem CHx.kf (fx : FX n ad sa z0 G) (x : CHx R F ad G G') {j : Nat} (h1 : ¬ F j) (h2 : ¬ R 30) : hI G' (ad 30) j = hI G (ad 30) j := x.2.2.2.1 _ _ (fun i' h e => h2 (fx_inj fx e ▸ h)) (fun e => h1 e.2)
theorem RM.i {i j : Nat} {v : Int32} (fx : FX n ad sa z0 G) (r : RM ad G S) (hi : actR i) : RM ad (sI G (ad i) j v) (uI S i j v) := by
  obtain ⟨⟨r1, r2, r3, r4⟩, ⟨r5, r6⟩, r7, r8⟩ := r
  have n30 : ad 30 ≠ ad i := fx_ne fx (by unfold actR at hi; omega)
  have n33 : 33 ≠ i := by unfold actR at hi; omega
  have n34 : 34 ≠ i := by unfold actR at hi; omega
  refine ⟨⟨(I_ne n30).trans r1, (I_ne n30).trans r2, (I_ne n30).trans r3, (I_ne n30).trans r4⟩, ⟨(I_ne n30).trans (r5.trans (uI_n n33).symm), (I_ne n30).trans (r6.trans (uI_n n34).symm)⟩, fun i' h' j' => ?_, r8⟩
  show (if ad i' = ad i ∧ j' = j then v else hI G (ad i') j') = if i' = i ∧ j' = j then v else S.2.1 i' j'
  by_cases e : i' = i ∧ j' = j
  · rw [if_pos e, if_pos ⟨by rw [e.1], e.2⟩]
  · rw [if_neg e, if_neg (fun z => e ⟨fx_inj fx z.1, z.2⟩)]; exact r7 i' h' j'
theorem RM.sc {j : Nat} {v : Int32} {T : aS} (fx : FX n ad sa z0 G) (r : RM ad G S) (h1 : ∀ f, f ≠ j → f = 37 ∨ f = 31 ∨ f = 35 ∨ f = 32 ∨ f = 33 ∨ f = 34 → True) (hT1 : T.2.2 = S.2.2) (hT2 : ∀ i, actR i → ∀ k, T.2.1 i k = S.2.1 i k)
    (a1 : (if 37 = j then v else nI (S.1 0)) = nI (T.1 0)) (a2 : (if 31 = j then v else nI (S.1 1)) = nI (T.1 1)) (a3 : (if 35 = j then v else nI (S.1 2)) = nI (T.1 2)) (a4 : (if 32 = j then v else nI (S.1 3)) = nI (T.1 3)) (a5 : (if 33 = j then v else S.2.1 33 0) = T.2.1 33 0) (a6 : (if 34 = j then v else S.2.1 34 0) = T.2.1 34 0) : RM ad (sI G (ad 30) j v) T := by
  obtain ⟨⟨r1, r2, r3, r4⟩, ⟨r5, r6⟩, r7, r8⟩ := r
  have q : ∀ f, hI (sI G (ad 30) j v) (ad 30) f = if f = j then v else hI G (ad 30) f := fun f => by
    rw [hI_sI]
    by_cases e : f = j
    · rw [if_pos ⟨rfl, e⟩, if_pos e]
    · rw [if_neg (fun z => e z.2), if_neg e]
  refine ⟨⟨by rw [q, r1]; exact a1, by rw [q, r2]; exact a2, by rw [q, r3]; exact a3, by rw [q, r4]; exact a4⟩, ⟨by rw [q, r5]; exact a5, by rw [q, r6]; exact a6⟩, fun i hi k => ?_, fun k => by rw [hT1]; exact r8 k⟩
  rw [I_ne (fx_ne fx (by unfold actR at hi; omega)), hT2 i hi]
  exact r7 i hi k
theorem RM.n0 {k : Nat} (fx : FX n ad sa z0 G) (r : RM ad G S) : RM ad (sI G (ad 30) 37 (nI k)) (uN S 0 k) := r.sc fx (fun _ _ _ => trivial) rfl (fun _ _ _ => rfl) rfl rfl rfl rfl rfl rfl
theorem RM.n1 {k : Nat} (fx : FX n ad sa z0 G) (r : RM ad G S) : RM ad (sI G (ad 30) 31 (nI k)) (uN S 1 k) := r.sc fx (fun _ _ _ => trivial) rfl (fun _ _ _ => rfl) rfl rfl rfl rfl rfl rfl
theorem RM.n2 {k : Nat} (fx : FX n ad sa z0 G) (r : RM ad G S) : RM ad (sI G (ad 30) 35 (nI k)) (uN S 2 k) := r.sc fx (fun _ _ _ => trivial) rfl (fun _ _ _ => rfl) rfl rfl rfl rfl rfl rfl
theorem RM.n3 {k : Nat} (fx : FX n ad sa z0 G) (r : RM ad G S) : RM ad (sI G (ad 30) 32 (nI k)) (uN S 3 k) := r.sc fx (fun _ _ _ => trivial) rfl (fun _ _ _ => rfl) rfl rfl rfl rfl rfl rfl
theorem RM.v33 {v : Int32} (fx : FX n ad sa z0 G) (r : RM ad G S) : RM ad (sI G (ad 30) 33 v) (uI S 33 0 v) := r.sc fx (fun _ _ _ => trivial) rfl (fun i hi _ => uI_n (by unfold actR at hi; omega)) rfl rfl rfl rfl rfl rfl
theorem RM.v34 {v : Int32} (fx : FX n ad sa z0 G) (r : RM ad G S) : RM ad (sI G (ad 30) 34 v) (uI S 34 0 v) := r.sc fx (fun _ _ _ => trivial) rfl (fun i hi _ => uI_n (by unfold actR at hi; omega)) rfl rfl rfl rfl rfl rfl
theorem RM.cf {j : Nat} {v : Int32} (fx : FX n ad sa z0 G) (r : RM ad G S) (h : ctlF j) : RM ad (sI G (ad 30) j v) S := by
  have e : ∀ f, 31 ≤ f → f ≤ 37 → ¬ f = j := fun f h1 h2 z => by unfold ctlF at h; omega
  exact r.sc fx (fun _ _ _ => trivial) rfl (fun _ _ _ => rfl) (if_neg (e 37 (by omega) (by omega))) (if_neg (e 31 (by omega) (by omega))) (if_neg (e 35 (by omega) (by omega))) (if_neg (e 32 (by omega) (by omega))) (if_neg (e 33 (by omega) (by omega))) (if_neg (e 34 (by omega) (by omega)))
theorem RM.ci {i j : Nat} {v : Int32} (fx : FX n ad sa z0 G) (r : RM ad G S) (h : ctlR i) : RM ad (sI G (ad i) j v) S := by
  obtain ⟨⟨r1, r2, r3, r4⟩, ⟨r5, r6⟩, r7, r8⟩ := r
  have n30 : ad 30 ≠ ad i := fx_ne fx (by unfold ctlR at h; omega)
  refine ⟨⟨(I_ne n30).trans r1, (I_ne n30).trans r2, (I_ne n30).trans r3, (I_ne n30).trans r4⟩, ⟨(I_ne n30).trans r5, (I_ne n30).trans r6⟩, fun i' h' j' => ?_, r8⟩
  rw [I_ne (fx_ne fx (by unfold ctlR at h; unfold actR at h'; omega))]
  exact r7 i' h' j'
theorem RM.l {j : Nat} {v : Int64} (r : RM ad G S) : RM ad (sL G (ad 36) j v) (uL S j v) := by
  obtain ⟨r1, r2, r7, r8⟩ := r
  refine ⟨r1, r2, r7, fun k => ?_⟩
  show (if ad 36 = ad 36 ∧ k = j then v else hL G (ad 36) k) = if k = j then v else S.2.2 k
  by_cases e : k = j
  · rw [if_pos ⟨rfl, e⟩, if_pos e]
  · rw [if_neg (fun z => e z.2), if_neg e]; exact r8 k
/-- the plans and what does not change, as the reference has them -/
def SM (n np : Nat) (ad : Nat → Nat) (LV : Nat → Prop) (P : aP) (G : mH) : Prop := (∀ p, p < 10 → hI G (ad 43) p = nI (P.len p) ∧ ∀ i, i < P.len p → hI G (ad 44) (16 * p + i) = nI (P.op (16 * p + i)) ∧ hI G (ad 45) (16 * p + i) = P.a (16 * p + i) ∧ hI G (ad 46) (16 * p + i) = P.b (16 * p + i) ∧ hI G (ad 47) (16 * p + i) = P.c (16 * p + i)) ∧ (∀ q, q < np → hI G (ad 37) q = nI (P.kd q)) ∧ ∀ t, t < 250 → LV t → hI G (ad 33) t = nI (P.so t) ∧ hI G (ad 35) t = nI (P.sz t)
theorem SM.ch (fx : FX n ad sa z0 G) (s : SM n np ad LV P G) (x : CH ad G G') : SM n np ad LV P G' := by
  have q : ∀ i j, (i = 43 ∨ i = 44 ∨ i = 45 ∨ i = 46 ∨ i = 47 ∨ i = 37 ∨ i = 33 ∨ i = 35) → hI G' (ad i) j = hI G (ad i) j := fun i j h => CHx.k fx x (by unfold actR ctlR; omega) (by omega) j
  refine ⟨fun p hp => ⟨(q 43 p (by decide)).trans (s.1 p hp).1, fun i hi => ?_⟩, fun t ht => (q 37 t (by decide)).trans (s.2.1 t ht), fun t ht lt => ⟨(q 33 t (by decide)).trans (s.2.2 t ht lt).1, (q 35 t (by decide)).trans (s.2.2 t ht lt).2⟩⟩
  obtain ⟨a1, a2, a3, a4⟩ := (s.1 p hp).2 i hi
  exact ⟨(q 44 _ (by decide)).trans a1, (q 45 _ (by decide)).trans a2, (q 46 _ (by decide)).trans a3, (q 47 _ (by decide)).trans a4⟩
theorem RM.r31 (r : RM ad G S) (c : Nat) : hI G (ad 31) c = S.2.1 31 c := r.2.2.1 31 (.inl rfl) c
theorem RM.r5 (r : RM ad G S) {i : Nat} (h1 : 53 ≤ i) (h2 : i ≤ 57) (c : Nat) : hI G (ad i) c = S.2.1 i c := r.2.2.1 i (.inr ⟨h1, h2⟩) c
theorem RM.push {v o : Int32} (fx : FX n ad sa z0 G) (r : RM ad G S) : RM ad (sI (sI (sI G (ad 54) (S.1 0) v) (ad 55) (S.1 0) o) (ad 30) 37 (nI (S.1 0 + 1))) (gPush S v o) := RM.n0 (FX.sI (FX.sI fx)) (RM.i (FX.sI fx) (r.i fx (.inr ⟨by decide, by decide⟩)) (.inr ⟨by decide, by decide⟩))
theorem CHd.push {v o : Int32} {k l : Nat} {w : Int32} (x : CHd ad G G') : CHd ad G (sI (sI (sI G' (ad 54) k v) (ad 55) l o) (ad 30) 37 w) := CHx.f (CHx.i (CHx.i x (.inr ⟨by decide, by decide⟩)) (.inr ⟨by decide, by decide⟩)) (.inr rfl)
theorem md_0 {a : Nat} {b c : Int32} (fx : FX n ad sa z0 G) (r : RM ad G S) (v : VS n np LV 1 S) (ha : a < 24) (hQ : ∀ G', CHd ad G G' → RM ad G' (gTake S a).2 → Q (some (.int (gTake S a).1)) G') : EV 98 216 [.ref (ad 30), .int 0, .int (nI a), .int b, .int c] G Q := by
  have h1 := v.2.1
  have h2 := v.1
  unfold gTake at hQ
  refine w_m0 (d := 96) (H := S.1 0) fx ha (r.r31 a) (by omega) r.1.1 (fun e => ?_) (fun e => ?_)
  · rw [if_neg e] at hQ
    exact hQ _ (CHx.i (CHd.push CHx.rf) (.inl rfl)) (RM.i (FX.sI (FX.sI (FX.sI fx))) (r.push fx) (.inl rfl))
  · rw [if_pos e] at hQ
    exact hQ _ CHx.rf r
theorem md_1 {a : Nat} {b c : Int32} (fx : FX n ad sa z0 G) (r : RM ad G S) (v : VS n np LV 1 S) (ha : a < 24) (hQ : ∀ G', CHd ad G G' → RM ad G' (gLay S a).2 → Q (some (.int (gLay S a).1)) G') : EV 98 216 [.ref (ad 30), .int 1, .int (nI a), .int b, .int c] G Q := by
  have h1 := v.2.1
  have h2 := v.1
  unfold gLay at hQ
  by_cases h0 : S.1 0 = 0
  · rw [if_pos h0] at hQ
    exact w_m1z (d := 97) fx (by rw [r.1.1, h0]; rfl) (hQ _ CHx.rf r)
  · rw [if_neg h0] at hQ
    refine w_m1 (d := 97) (H := S.1 0) fx ha (r.r31 a) (by omega) (by omega) r.1.1 (fun e => ?_) (fun e => ?_)
    · rw [if_pos e] at hQ
      refine hQ _ (CHx.i (CHx.f CHx.rf (.inr rfl)) (.inl rfl)) ?_
      rw [r.r5 (i := 54) (by decide) (by decide)]
      exact RM.i (FX.sI fx) (r.n0 fx) (.inl rfl)
    · rw [if_neg e] at hQ
      exact hQ _ CHx.rf r
theorem md_2 {a : Nat} {b c : Int32} (fx : FX n ad sa z0 G) (sm : SM n np ad LV P G) (vp : VP n np LV P) (r : RM ad G S) (v : VS n np LV 1 S) (ha : a < 24) (hQ : ∀ G', CHd ad G G' → RM ad G' (gWrite P S a b c).2 → Q (some (.int (gWrite P S a b c).1)) G') : EV 98 216 [.ref (ad 30), .int 2, .int (nI a), .int b, .int c] G Q := by
  unfold gWrite at hQ
  have np60 := vp.1
  rcases v.2.2.2.2.1 a ha with e | ⟨q, hq, e⟩ | ⟨t, ht, lt, e⟩
  · rw [if_pos e] at hQ
    exact w_m2n (d := 96) fx ha ((r.r31 a).trans e) (hQ _ CHx.rf r)
  · have n1 : ¬ S.2.1 31 a = -1 := by rw [e]; exact nI_nm1 (by omega)
    have n2 : 1000 ≤ S.2.1 31 a := by rw [e]; exact nI_le (a := 1000) (by omega) (by omega)
    rw [if_neg n1, if_pos n2] at hQ
    exact w_m2q (d := 95) (qp := q) fx ha (by omega) ((r.r31 a).trans e) (hQ _ CHx.rf r)
  · have n1 : ¬ S.2.1 31 a = -1 := by rw [e]; exact nI_nm1 (by omega)
    have n2 : ¬ 1000 ≤ S.2.1 31 a := by rw [e]; exact fun z => by have := (nI_leI (a := 1000) (by decide) (by omega)).mp z; omega
    obtain ⟨s1, s2⟩ := sm.2.2 t ht lt
    obtain ⟨o1, o2⟩ := vp.2.2.2.2 t ht lt
    have ct : (S.2.1 31 a).toNatClampNeg = t := by rw [e]; exact nI_clamp (by omega)
    rw [if_neg n1, if_neg n2, ct] at hQ
    by_cases h3 : P.so t = 3
    · rw [if_pos h3] at hQ
      have s3 : hI G (ad 33) t = 3 := by rw [s1, h3]; rfl
      by_cases hb : 0 ≤ b.toInt ∧ b.toInt < (P.sz t : Nat)
      · rw [if_pos hb] at hQ
        obtain ⟨k, hk, eb⟩ := ix_of (x := b) (n := P.sz t) hb.1 hb.2
        subst eb
        rw [nI_clamp (show k < 2 ^ 31 by omega)] at hQ
        exact w_m2w (d := 95) fx ha ht o2 ((r.r31 a).trans e) s3 s2 hk (hQ _ (CHx.l CHx.rf) r.l)
      · rw [if_neg hb] at hQ
        by_cases b0 : b.toInt < 0
        · exact w_m2o (d := 95) fx ha ht o2 ((r.r31 a).trans e) s3 s2 b0 (hQ _ CHx.rf r)
        · obtain ⟨k, hk, eb⟩ := nI_of (x := b) (fun z => b0 (by have := i_lt z; have z0 : (0 : Int32).toInt = 0 := rfl; omega))
          subst eb
          rw [nI_toInt hk] at hb
          exact w_m2p (d := 95) fx ha ht o2 ((r.r31 a).trans e) s3 s2 (by omega) hk (hQ _ CHx.rf r)
    · rw [if_neg h3] at hQ
      exact w_m2l (d := 95) fx ha ht o1 ((r.r31 a).trans e) s1 h3 (hQ _ CHx.rf r)
theorem md_s {x : Int32} (fx : FX n ad sa z0 G) (r : RM ad G S) (v : VS n np LV 1 S) (hQ : ∀ G', CHd ad G G' → RM ad G' (gSay S x) → Q (some (.int 0)) G') : (S.1 2 < 60 → Q (some (.int 0)) (sI (sI G (ad 53) (S.1 2) x) (ad 30) 35 (nI (S.1 2 + 1)))) ∧ (60 ≤ S.1 2 → Q (some (.int 0)) (sI G (ad 30) 35 (nI (S.1 2 + 1)))) := by
  unfold gSay at hQ
  refine ⟨fun h => ?_, fun h => ?_⟩
  · rw [if_pos h] at hQ
    exact hQ _ (CHx.f (CHx.i CHx.rf (.inr ⟨by decide, by decide⟩)) (.inl ⟨by decide, by decide⟩)) (RM.n2 (FX.sI fx) (r.i fx (.inr ⟨by decide, by decide⟩)))
  · rw [if_neg (by omega)] at hQ
    exact hQ _ (CHx.f CHx.rf (.inl ⟨by decide, by decide⟩)) (r.n2 fx)
theorem md_3 {a b c : Int32} (fx : FX n ad sa z0 G) (r : RM ad G S) (v : VS n np LV 1 S) (hQ : ∀ G', CHd ad G G' → RM ad G' (gSay S a) → Q (some (.int 0)) G') : EV 98 216 [.ref (ad 30), .int 3, .int a, .int b, .int c] G Q := by
  have k := md_s fx r v hQ
  have h1 := v.1
  have h2 := v.2.2.1
  by_cases h : S.1 2 < 60
  · exact w_m3l (d := 96) fx r.1.2.2.1 h (k.1 h)
  · exact w_m3g (d := 96) fx r.1.2.2.1 (by omega) (by omega) (k.2 (by omega))
theorem md_5 {a b c : Int32} (fx : FX n ad sa z0 G) (r : RM ad G S) (v : VS n np LV 1 S) (hQ : ∀ G', CHd ad G G' → RM ad G' (gSay S (S.2.1 33 0)) → Q (some (.int 0)) G') : EV 98 216 [.ref (ad 30), .int 5, .int a, .int b, .int c] G Q := by
  have k := md_s fx r v hQ
  have h1 := v.1
  have h2 := v.2.2.1
  by_cases h : S.1 2 < 60
  · refine w_m5l (d := 96) fx r.1.2.2.1 h ?_
    rw [r.2.1.1]; exact k.1 h
  · exact w_m5g (d := 96) fx r.1.2.2.1 (by omega) (by omega) (k.2 (by omega))
theorem md_11 {a : Nat} {b c : Int32} (fx : FX n ad sa z0 G) (r : RM ad G S) (v : VS n np LV 1 S) (ha : a < 6) (hQ : ∀ G', CHd ad G G' → RM ad G' (gWake S a).2 → Q (some (.int (gWake S a).1)) G') : EV 98 216 [.ref (ad 30), .int 11, .int (nI a), .int b, .int c] G Q := by
  have h1 := v.1
  have h2 := v.2.2.1
  have e9 := r.r5 (i := 56) (by decide) (by decide) a
  unfold gWake at hQ
  have y : ¬ S.2.1 56 a = 0 → (S.1 2 < 60 → Q (some (.int 0)) (sI (sI G (ad 53) (S.1 2) (S.2.1 56 a)) (ad 30) 35 (nI (S.1 2 + 1)))) ∧ (60 ≤ S.1 2 → Q (some (.int 0)) (sI G (ad 30) 35 (nI (S.1 2 + 1)))) := fun e => md_s fx r v (by rw [if_neg e] at hQ; exact hQ)
  have z : S.2.1 56 a = 0 → Q (some (.int 7)) G := fun e => by rw [if_pos e] at hQ; exact hQ _ CHx.rf r
  by_cases h : S.1 2 < 60
  · exact w_m11l (d := 96) fx ha e9 r.1.2.2.1 h (fun e => (y e).1 h) z
  · exact w_m11g (d := 96) fx ha e9 r.1.2.2.1 (by omega) (by omega) (fun e => (y e).2 (by omega)) z
theorem md_12s {a : Nat} {b : Nat} (hb : b ≤ 2) {c : Int32} (fx : FX n ad sa z0 G) (sm : SM n np ad LV P G) (vp : VP n np LV P) (r : RM ad G S) (v : VS n np LV 1 S) (ha : a < n) (hQ : ∀ G', CHd ad G G' → RM ad G' (gFit P S a b).2 → Q (some (.int (gFit P S a b).1)) G') : EV 98 216 [.ref (ad 30), .int 12, .int (nI a), .int (nI b), .int c] G Q := by
  have h1 := v.1
  have h2 := v.2.1
  obtain ⟨np60, n6, -, vk, vt⟩ := vp
  have e9 := r.r5 (i := 56) (by decide) (by decide) a
  have kb : gKind b = 7 := by unfold gKind; rw [if_pos (by omega)]
  unfold gFit at hQ
  rw [kb] at hQ
  rw [if_neg (show ¬ (S.2.1 56 a = 0 ∧ 2 < b) by omega)] at hQ
  by_cases h0 : S.1 0 = 0
  · rw [if_pos h0] at hQ
    exact w_m12zs (d := 96) fx hb (by omega) e9 (by rw [r.1.1, h0]; rfl) (fun _ => hQ _ CHx.rf r) (fun _ => hQ _ CHx.rf r)
  rw [if_neg h0] at hQ
  have e2 := r.r5 (i := 54) (by decide) (by decide) (S.1 0 - 1)
  rcases (v.2.2.2.2.2.1 (S.1 0 - 1) (by omega)).1 with ⟨q, hq, e⟩ | ⟨t, ht, lt, e⟩
  · have n2 : 1000 ≤ S.2.1 54 (S.1 0 - 1) := by rw [e]; exact nI_le (a := 1000) (by omega) (by omega)
    have cq : (S.2.1 54 (S.1 0 - 1)).toNatClampNeg - 1000 = q := by rw [e, nI_clamp (by omega)]; omega
    rw [cq] at hQ
    have kx := sm.2.1 q hq
    by_cases o : ofK (P.kd q) 7 = true
    · rw [if_pos ⟨n2, o⟩] at hQ
      have e3 := r.r5 (i := 57) (by decide) (by decide) (5 * a + b)
      by_cases h57 : S.2.1 57 (5 * a + b) = -1
      · rw [if_pos h57] at hQ
        exact w_m12es (d := 95) (qp := q) fx hb (by omega) e9 r.1.1 (by omega) (by omega) (by omega) (e2.trans e) kx (vk q hq) o (e3.trans h57) (fun _ => hQ _ (CHx.i (CHx.f CHx.rf (.inr rfl)) (.inr ⟨by decide, by decide⟩)) (RM.i (FX.sI fx) (r.n0 fx) (.inr ⟨by decide, by decide⟩))) (fun _ => hQ _ (CHx.i (CHx.f CHx.rf (.inr rfl)) (.inr ⟨by decide, by decide⟩)) (RM.i (FX.sI fx) (r.n0 fx) (.inr ⟨by decide, by decide⟩)))
      · obtain ⟨y, hy, e4, e5⟩ := okW_v v (s := 5 * a + b) (by omega) h57 np60
        rw [if_neg h57, e5] at hQ
        have fin : Q (some (.int 0)) (sI (sI (sI (sI (sI G (ad 30) 37 (nI (S.1 0 - 1))) (ad 57) (5 * a + b) (nI q)) (ad 54) (S.1 0 - 1) (nI (y + 1000))) (ad 55) (S.1 0 - 1) 23) (ad 30) 37 (nI (S.1 0))) := by
          have rr := RM.push (v := nI (1000 + y)) (o := 23) (FX.sI (FX.sI fx)) (RM.i (i := 57) (j := 5 * a + b) (v := nI q) (FX.sI fx) (r.n0 (k := S.1 0 - 1) fx) (.inr ⟨by decide, by decide⟩))
          have es : (uI (uN S 0 (S.1 0 - 1)) 57 (5 * a + b) (nI q)).1 0 = S.1 0 - 1 := (show (uN S 0 (S.1 0 - 1)).1 0 = S.1 0 - 1 from uN_s)
          rw [es, show S.1 0 - 1 + 1 = S.1 0 by omega, Nat.add_comm 1000 y] at rr
          rw [Nat.add_comm 1000 y] at hQ
          exact hQ _ (CHd.push (CHx.i (CHx.f CHx.rf (.inr rfl)) (.inr ⟨by decide, by decide⟩))) rr
        exact w_m12fs (d := 95) (qp := q) fx hb (by omega) e9 r.1.1 (by omega) (by omega) (by omega) (e2.trans e) kx (vk q hq) o (by omega) (e3.trans e4) (fun _ => fin) (fun _ => fin)
    · rw [if_neg (fun z => o z.2)] at hQ
      exact w_m12ns (d := 95) (qp := q) fx hb (by omega) e9 r.1.1 (by omega) (by omega) (by omega) (e2.trans e) kx (vk q hq) o (fun _ => hQ _ CHx.rf r) (fun _ => hQ _ CHx.rf r)
  · have n2 : ¬ (1000 ≤ S.2.1 54 (S.1 0 - 1) ∧ ofK (P.kd ((S.2.1 54 (S.1 0 - 1)).toNatClampNeg - 1000)) 7 = true) := by
      intro z
      have z := z.1
      rw [e] at z
      have := (nI_leI (a := 1000) (by decide) (by omega)).mp z; omega
    rw [if_neg n2] at hQ
    exact w_m12ts (d := 96) fx hb (by omega) e9 r.1.1 (by omega) (by omega) ht (e2.trans e) (fun _ => hQ _ CHx.rf r) (fun _ => hQ _ CHx.rf r)
theorem md_13s {a : Nat} {b : Nat} (hb : b ≤ 2) {c : Int32} (fx : FX n ad sa z0 G) (vp : VP n np LV P) (r : RM ad G S) (v : VS n np LV 1 S) (ha : a < n) (hQ : ∀ G', CHd ad G G' → RM ad G' (gStrip S a b).2 → Q (some (.int (gStrip S a b).1)) G') : EV 98 216 [.ref (ad 30), .int 13, .int (nI a), .int (nI b), .int c] G Q := by
  have h1 := v.1
  have h2 := v.2.1
  obtain ⟨np60, n6, -, vk, vt⟩ := vp
  have e9 := r.r5 (i := 56) (by decide) (by decide) a
  unfold gStrip at hQ
  rw [if_neg (show ¬ (S.2.1 56 a = 0 ∧ 2 < b) by omega)] at hQ
  have e3 := r.r5 (i := 57) (by decide) (by decide) (5 * a + b)
  by_cases h57 : S.2.1 57 (5 * a + b) = -1
  · rw [if_pos h57] at hQ
    exact w_m13ns (d := 96) fx hb (by omega) e9 (e3.trans h57) (fun _ => hQ _ CHx.rf r) (fun _ => hQ _ CHx.rf r)
  · obtain ⟨y, hy, e4, e5⟩ := okW_v v (s := 5 * a + b) (by omega) h57 np60
    rw [if_neg h57, e5] at hQ
    have fin : Q (some (.int 0)) (sI (sI (sI (sI G (ad 54) (S.1 0) (nI (y + 1000))) (ad 55) (S.1 0) 23) (ad 30) 37 (nI (S.1 0 + 1))) (ad 57) (5 * a + b) (-1)) := by
      rw [Nat.add_comm 1000 y] at hQ
      exact hQ _ (CHx.i (CHd.push CHx.rf) (.inr ⟨by decide, by decide⟩)) (RM.i (FX.sI (FX.sI (FX.sI fx))) (r.push fx) (.inr ⟨by decide, by decide⟩))
    exact w_m13ss (d := 95) fx hb (by omega) e9 r.1.1 (by omega) (by omega) (e3.trans e4) (fun _ => fin) (fun _ => fin)
theorem md_123 {a : Nat} {c : Int32} (fx : FX n ad sa z0 G) (sm : SM n np ad LV P G) (vp : VP n np LV P) (r : RM ad G S) (v : VS n np LV 1 S) (ha : a < n) (hQ : ∀ G', CHd ad G G' → RM ad G' (gFit P S a 3).2 → Q (some (.int (gFit P S a 3).1)) G') : EV 98 216 [.ref (ad 30), .int 12, .int (nI a), .int (3), .int c] G Q := by
  have h1 := v.1
  have h2 := v.2.1
  obtain ⟨np60, n6, -, vk, vt⟩ := vp
  have e9 := r.r5 (i := 56) (by decide) (by decide) a
  have kb : gKind 3 = 3 := by unfold gKind; decide
  unfold gFit at hQ
  rw [kb] at hQ
  by_cases h9 : S.2.1 56 a = 0
  · rw [if_pos (show S.2.1 56 a = 0 ∧ 2 < 3 from ⟨h9, by decide⟩)] at hQ
    exact w_m12h3 (d := 96) fx (by omega) (e9.trans h9) (hQ _ CHx.rf r)
  rw [if_neg (show ¬ (S.2.1 56 a = 0 ∧ 2 < 3) from fun z => h9 z.1)] at hQ
  by_cases h0 : S.1 0 = 0
  · rw [if_pos h0] at hQ
    exact w_m12z3 (d := 96) fx (by omega) e9 (by rw [r.1.1, h0]; rfl) (fun _ => hQ _ CHx.rf r) (fun z => absurd z h9)
  rw [if_neg h0] at hQ
  have e2 := r.r5 (i := 54) (by decide) (by decide) (S.1 0 - 1)
  rcases (v.2.2.2.2.2.1 (S.1 0 - 1) (by omega)).1 with ⟨q, hq, e⟩ | ⟨t, ht, lt, e⟩
  · have n2 : 1000 ≤ S.2.1 54 (S.1 0 - 1) := by rw [e]; exact nI_le (a := 1000) (by omega) (by omega)
    have cq : (S.2.1 54 (S.1 0 - 1)).toNatClampNeg - 1000 = q := by rw [e, nI_clamp (by omega)]; omega
    rw [cq] at hQ
    have kx := sm.2.1 q hq
    by_cases o : ofK (P.kd q) 3 = true
    · rw [if_pos ⟨n2, o⟩] at hQ
      have e3 := r.r5 (i := 57) (by decide) (by decide) (5 * a + 3)
      by_cases h57 : S.2.1 57 (5 * a + 3) = -1
      · rw [if_pos h57] at hQ
        exact w_m12e3 (d := 95) (qp := q) fx (by omega) e9 r.1.1 (by omega) (by omega) (by omega) (e2.trans e) kx (vk q hq) o (e3.trans h57) (fun _ => hQ _ (CHx.i (CHx.f CHx.rf (.inr rfl)) (.inr ⟨by decide, by decide⟩)) (RM.i (FX.sI fx) (r.n0 fx) (.inr ⟨by decide, by decide⟩))) (fun z => absurd z h9)
      · obtain ⟨y, hy, e4, e5⟩ := okW_v v (s := 5 * a + 3) (by omega) h57 np60
        rw [if_neg h57, e5] at hQ
        have fin : Q (some (.int 0)) (sI (sI (sI (sI (sI G (ad 30) 37 (nI (S.1 0 - 1))) (ad 57) (5 * a + 3) (nI q)) (ad 54) (S.1 0 - 1) (nI (y + 1000))) (ad 55) (S.1 0 - 1) 23) (ad 30) 37 (nI (S.1 0))) := by
          have rr := RM.push (v := nI (1000 + y)) (o := 23) (FX.sI (FX.sI fx)) (RM.i (i := 57) (j := 5 * a + 3) (v := nI q) (FX.sI fx) (r.n0 (k := S.1 0 - 1) fx) (.inr ⟨by decide, by decide⟩))
          have es : (uI (uN S 0 (S.1 0 - 1)) 57 (5 * a + 3) (nI q)).1 0 = S.1 0 - 1 := (show (uN S 0 (S.1 0 - 1)).1 0 = S.1 0 - 1 from uN_s)
          rw [es, show S.1 0 - 1 + 1 = S.1 0 by omega, Nat.add_comm 1000 y] at rr
          rw [Nat.add_comm 1000 y] at hQ
          exact hQ _ (CHd.push (CHx.i (CHx.f CHx.rf (.inr rfl)) (.inr ⟨by decide, by decide⟩))) rr
        exact w_m12f3 (d := 95) (qp := q) fx (by omega) e9 r.1.1 (by omega) (by omega) (by omega) (e2.trans e) kx (vk q hq) o (by omega) (e3.trans e4) (fun _ => fin) (fun z => absurd z h9)
    · rw [if_neg (fun z => o z.2)] at hQ
      exact w_m12n3 (d := 95) (qp := q) fx (by omega) e9 r.1.1 (by omega) (by omega) (by omega) (e2.trans e) kx (vk q hq) o (fun _ => hQ _ CHx.rf r) (fun z => absurd z h9)
  · have n2 : ¬ (1000 ≤ S.2.1 54 (S.1 0 - 1) ∧ ofK (P.kd ((S.2.1 54 (S.1 0 - 1)).toNatClampNeg - 1000)) 3 = true) := by
      intro z
      have z := z.1
      rw [e] at z
      have := (nI_leI (a := 1000) (by decide) (by omega)).mp z; omega
    rw [if_neg n2] at hQ
    exact w_m12t3 (d := 96) fx (by omega) e9 r.1.1 (by omega) (by omega) ht (e2.trans e) (fun _ => hQ _ CHx.rf r) (fun z => absurd z h9)
theorem md_133 {a : Nat} {c : Int32} (fx : FX n ad sa z0 G) (vp : VP n np LV P) (r : RM ad G S) (v : VS n np LV 1 S) (ha : a < n) (hQ : ∀ G', CHd ad G G' → RM ad G' (gStrip S a 3).2 → Q (some (.int (gStrip S a 3).1)) G') : EV 98 216 [.ref (ad 30), .int 13, .int (nI a), .int (3), .int c] G Q := by
  have h1 := v.1
  have h2 := v.2.1
  obtain ⟨np60, n6, -, vk, vt⟩ := vp
  have e9 := r.r5 (i := 56) (by decide) (by decide) a
  unfold gStrip at hQ
  by_cases h9 : S.2.1 56 a = 0
  · rw [if_pos (show S.2.1 56 a = 0 ∧ 2 < 3 from ⟨h9, by decide⟩)] at hQ
    exact w_m13h3 (d := 96) fx (by omega) (e9.trans h9) (hQ _ CHx.rf r)
  rw [if_neg (show ¬ (S.2.1 56 a = 0 ∧ 2 < 3) from fun z => h9 z.1)] at hQ
  have e3 := r.r5 (i := 57) (by decide) (by decide) (5 * a + 3)
  by_cases h57 : S.2.1 57 (5 * a + 3) = -1
  · rw [if_pos h57] at hQ
    exact w_m13n3 (d := 96) fx (by omega) e9 (e3.trans h57) (fun _ => hQ _ CHx.rf r) (fun z => absurd z h9)
  · obtain ⟨y, hy, e4, e5⟩ := okW_v v (s := 5 * a + 3) (by omega) h57 np60
    rw [if_neg h57, e5] at hQ
    have fin : Q (some (.int 0)) (sI (sI (sI (sI G (ad 54) (S.1 0) (nI (y + 1000))) (ad 55) (S.1 0) 23) (ad 30) 37 (nI (S.1 0 + 1))) (ad 57) (5 * a + 3) (-1)) := by
      rw [Nat.add_comm 1000 y] at hQ
      exact hQ _ (CHx.i (CHd.push CHx.rf) (.inr ⟨by decide, by decide⟩)) (RM.i (FX.sI (FX.sI (FX.sI fx))) (r.push fx) (.inr ⟨by decide, by decide⟩))
    exact w_m13s3 (d := 95) fx (by omega) e9 r.1.1 (by omega) (by omega) (e3.trans e4) (fun _ => fin) (fun z => absurd z h9)
theorem md_124 {a : Nat} {c : Int32} (fx : FX n ad sa z0 G) (sm : SM n np ad LV P G) (vp : VP n np LV P) (r : RM ad G S) (v : VS n np LV 1 S) (ha : a < n) (hQ : ∀ G', CHd ad G G' → RM ad G' (gFit P S a 4).2 → Q (some (.int (gFit P S a 4).1)) G') : EV 98 216 [.ref (ad 30), .int 12, .int (nI a), .int (4), .int c] G Q := by
  have h1 := v.1
  have h2 := v.2.1
  obtain ⟨np60, n6, -, vk, vt⟩ := vp
  have e9 := r.r5 (i := 56) (by decide) (by decide) a
  have kb : gKind 4 = 5 := by unfold gKind; decide
  unfold gFit at hQ
  rw [kb] at hQ
  by_cases h9 : S.2.1 56 a = 0
  · rw [if_pos (show S.2.1 56 a = 0 ∧ 2 < 4 from ⟨h9, by decide⟩)] at hQ
    exact w_m12h4 (d := 96) fx (by omega) (e9.trans h9) (hQ _ CHx.rf r)
  rw [if_neg (show ¬ (S.2.1 56 a = 0 ∧ 2 < 4) from fun z => h9 z.1)] at hQ
  by_cases h0 : S.1 0 = 0
  · rw [if_pos h0] at hQ
    exact w_m12z4 (d := 96) fx (by omega) e9 (by rw [r.1.1, h0]; rfl) (fun _ => hQ _ CHx.rf r) (fun z => absurd z h9)
  rw [if_neg h0] at hQ
  have e2 := r.r5 (i := 54) (by decide) (by decide) (S.1 0 - 1)
  rcases (v.2.2.2.2.2.1 (S.1 0 - 1) (by omega)).1 with ⟨q, hq, e⟩ | ⟨t, ht, lt, e⟩
  · have n2 : 1000 ≤ S.2.1 54 (S.1 0 - 1) := by rw [e]; exact nI_le (a := 1000) (by omega) (by omega)
    have cq : (S.2.1 54 (S.1 0 - 1)).toNatClampNeg - 1000 = q := by rw [e, nI_clamp (by omega)]; omega
    rw [cq] at hQ
    have kx := sm.2.1 q hq
    by_cases o : ofK (P.kd q) 5 = true
    · rw [if_pos ⟨n2, o⟩] at hQ
      have e3 := r.r5 (i := 57) (by decide) (by decide) (5 * a + 4)
      by_cases h57 : S.2.1 57 (5 * a + 4) = -1
      · rw [if_pos h57] at hQ
        exact w_m12e4 (d := 95) (qp := q) fx (by omega) e9 r.1.1 (by omega) (by omega) (by omega) (e2.trans e) kx (vk q hq) o (e3.trans h57) (fun _ => hQ _ (CHx.i (CHx.f CHx.rf (.inr rfl)) (.inr ⟨by decide, by decide⟩)) (RM.i (FX.sI fx) (r.n0 fx) (.inr ⟨by decide, by decide⟩))) (fun z => absurd z h9)
      · obtain ⟨y, hy, e4, e5⟩ := okW_v v (s := 5 * a + 4) (by omega) h57 np60
        rw [if_neg h57, e5] at hQ
        have fin : Q (some (.int 0)) (sI (sI (sI (sI (sI G (ad 30) 37 (nI (S.1 0 - 1))) (ad 57) (5 * a + 4) (nI q)) (ad 54) (S.1 0 - 1) (nI (y + 1000))) (ad 55) (S.1 0 - 1) 23) (ad 30) 37 (nI (S.1 0))) := by
          have rr := RM.push (v := nI (1000 + y)) (o := 23) (FX.sI (FX.sI fx)) (RM.i (i := 57) (j := 5 * a + 4) (v := nI q) (FX.sI fx) (r.n0 (k := S.1 0 - 1) fx) (.inr ⟨by decide, by decide⟩))
          have es : (uI (uN S 0 (S.1 0 - 1)) 57 (5 * a + 4) (nI q)).1 0 = S.1 0 - 1 := (show (uN S 0 (S.1 0 - 1)).1 0 = S.1 0 - 1 from uN_s)
          rw [es, show S.1 0 - 1 + 1 = S.1 0 by omega, Nat.add_comm 1000 y] at rr
          rw [Nat.add_comm 1000 y] at hQ
          exact hQ _ (CHd.push (CHx.i (CHx.f CHx.rf (.inr rfl)) (.inr ⟨by decide, by decide⟩))) rr
        exact w_m12f4 (d := 95) (qp := q) fx (by omega) e9 r.1.1 (by omega) (by omega) (by omega) (e2.trans e) kx (vk q hq) o (by omega) (e3.trans e4) (fun _ => fin) (fun z => absurd z h9)
    · rw [if_neg (fun z => o z.2)] at hQ
      exact w_m12n4 (d := 95) (qp := q) fx (by omega) e9 r.1.1 (by omega) (by omega) (by omega) (e2.trans e) kx (vk q hq) o (fun _ => hQ _ CHx.rf r) (fun z => absurd z h9)
  · have n2 : ¬ (1000 ≤ S.2.1 54 (S.1 0 - 1) ∧ ofK (P.kd ((S.2.1 54 (S.1 0 - 1)).toNatClampNeg - 1000)) 5 = true) := by
      intro z
      have z := z.1
      rw [e] at z
      have := (nI_leI (a := 1000) (by decide) (by omega)).mp z; omega
    rw [if_neg n2] at hQ
    exact w_m12t4 (d := 96) fx (by omega) e9 r.1.1 (by omega) (by omega) ht (e2.trans e) (fun _ => hQ _ CHx.rf r) (fun z => absurd z h9)
theorem md_134 {a : Nat} {c : Int32} (fx : FX n ad sa z0 G) (vp : VP n np LV P) (r : RM ad G S) (v : VS n np LV 1 S) (ha : a < n) (hQ : ∀ G', CHd ad G G' → RM ad G' (gStrip S a 4).2 → Q (some (.int (gStrip S a 4).1)) G') : EV 98 216 [.ref (ad 30), .int 13, .int (nI a), .int (4), .int c] G Q := by
  have h1 := v.1
  have h2 := v.2.1
  obtain ⟨np60, n6, -, vk, vt⟩ := vp
  have e9 := r.r5 (i := 56) (by decide) (by decide) a
  unfold gStrip at hQ
  by_cases h9 : S.2.1 56 a = 0
  · rw [if_pos (show S.2.1 56 a = 0 ∧ 2 < 4 from ⟨h9, by decide⟩)] at hQ
    exact w_m13h4 (d := 96) fx (by omega) (e9.trans h9) (hQ _ CHx.rf r)
  rw [if_neg (show ¬ (S.2.1 56 a = 0 ∧ 2 < 4) from fun z => h9 z.1)] at hQ
  have e3 := r.r5 (i := 57) (by decide) (by decide) (5 * a + 4)
  by_cases h57 : S.2.1 57 (5 * a + 4) = -1
  · rw [if_pos h57] at hQ
    exact w_m13n4 (d := 96) fx (by omega) e9 (e3.trans h57) (fun _ => hQ _ CHx.rf r) (fun z => absurd z h9)
  · obtain ⟨y, hy, e4, e5⟩ := okW_v v (s := 5 * a + 4) (by omega) h57 np60
    rw [if_neg h57, e5] at hQ
    have fin : Q (some (.int 0)) (sI (sI (sI (sI G (ad 54) (S.1 0) (nI (y + 1000))) (ad 55) (S.1 0) 23) (ad 30) 37 (nI (S.1 0 + 1))) (ad 57) (5 * a + 4) (-1)) := by
      rw [Nat.add_comm 1000 y] at hQ
      exact hQ _ (CHx.i (CHd.push CHx.rf) (.inr ⟨by decide, by decide⟩)) (RM.i (FX.sI (FX.sI (FX.sI fx))) (r.push fx) (.inr ⟨by decide, by decide⟩))
    exact w_m13s4 (d := 95) fx (by omega) e9 r.1.1 (by omega) (by omega) (e3.trans e4) (fun _ => fin) (fun z => absurd z h9)
/-- every step that does no plan -/
theorem m_does {p i : Nat} (fx : FX n ad sa z0 G) (sm : SM n np ad LV P G) (vp : VP n np LV P) (r : RM ad G S) (v : VS n np LV 1 S) (hp : p < 10) (hi : i < P.len p) (h4 : P.op (16 * p + i) ≠ 4) (h7 : P.op (16 * p + i) ≠ 7) (h8 : P.op (16 * p + i) ≠ 8) (h9 : P.op (16 * p + i) ≠ 9) (h10 : P.op (16 * p + i) ≠ 10)
    (hQ : ∀ G', CHd ad G G' → RM ad G' (gDo P (16 * p + i) S).2 → Q (some (.int (gDo P (16 * p + i) S).1)) G') : EV 98 216 [.ref (ad 30), .int (nI (P.op (16 * p + i))), .int (P.a (16 * p + i)), .int (P.b (16 * p + i)), .int (P.c (16 * p + i))] G Q := by
  obtain ⟨o13, ok⟩ := (vp.2.2.1 p hp).2 i hi
  have n6 := vp.2.1
  generalize 16 * p + i = k at *
  obtain ⟨-, ok1, ok2, ok3, ok4, ok5, ok6, ok7, ok8⟩ := ok
  have hop : P.op k = 0 ∨ P.op k = 1 ∨ P.op k = 2 ∨ P.op k = 3 ∨ P.op k = 5 ∨ P.op k = 6 ∨ P.op k = 11 ∨ P.op k = 12 ∨ P.op k = 13 := by omega
  rcases hop with e | e | e | e | e | e | e | e | e
  · have ha := ofC (ok1 (.inl (congrArg nI e)))
    unfold gDo at hQ; simp only [e] at hQ
    rw [e, ha.2]
    exact md_0 fx r v ha.1 hQ
  · have ha := ofC (ok1 (.inr (.inl (congrArg nI e))))
    unfold gDo at hQ; simp only [e] at hQ
    rw [e, ha.2]
    exact md_1 fx r v ha.1 hQ
  · have ha := ofC (ok1 (.inr (.inr (congrArg nI e))))
    unfold gDo at hQ; simp only [e] at hQ
    rw [e, ha.2]
    exact md_2 fx sm vp r v ha.1 hQ
  · unfold gDo at hQ; simp only [e] at hQ
    rw [e]
    exact md_3 fx r v hQ
  · unfold gDo at hQ; simp only [e] at hQ
    rw [e]
    exact md_5 fx r v hQ
  · unfold gDo at hQ; simp only [e] at hQ
    rw [e]
    exact w_m6 (d := 97) fx (hQ _ CHx.rf r)
  · have ha := ofB n6 (ok6 (congrArg nI e))
    unfold gDo at hQ; simp only [e] at hQ
    rw [e, ha.2]
    exact md_11 fx r v (by omega) hQ
  · have q := ok7 (.inl (congrArg nI e))
    have ha := ofB n6 q.1
    have hb := ofS q.2
    unfold gDo at hQ; simp only [e] at hQ
    rw [e, ha.2, hb.2]
    have cs : (P.b k).toNatClampNeg ≤ 2 ∨ (P.b k).toNatClampNeg = 3 ∨ (P.b k).toNatClampNeg = 4 := by omega
    rcases cs with c | c | c
    · exact md_12s c fx sm vp r v ha.1 hQ
    · rw [c] at hQ ⊢; exact md_123 fx sm vp r v ha.1 hQ
    · rw [c] at hQ ⊢; exact md_124 fx sm vp r v ha.1 hQ
  · have q := ok7 (.inr (congrArg nI e))
    have ha := ofB n6 q.1
    have hb := ofS q.2
    unfold gDo at hQ; simp only [e] at hQ
    rw [e, ha.2, hb.2]
    have cs : (P.b k).toNatClampNeg ≤ 2 ∨ (P.b k).toNatClampNeg = 3 ∨ (P.b k).toNatClampNeg = 4 := by omega
    rcases cs with c | c | c
    · exact md_13s c fx vp r v ha.1 hQ
    · rw [c] at hQ ⊢; exact md_133 fx vp r v ha.1 hQ
    · rw [c] at hQ ⊢; exact md_134 fx vp r v ha.1 hQ
end RM1
