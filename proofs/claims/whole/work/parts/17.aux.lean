/-! ===== more rows; the fixed world: objects and arrays that the constructors make ===== -/
theorem WR_pc {d : Nat} {cd : mC} {p q : Nat} {lv : mL} {st : List Value} {h : mH} {Q : mQ} (e : p = q) (k : WR d cd q lv st h Q) : WR d cd p lv st h Q := by subst e; exact k
theorem WR_st {d : Nat} {cd : mC} {p : Nat} {lv : mL} {st st2 : List Value} {h : mH} {Q : mQ} (e : st = st2) (k : WR d cd p lv st2 h Q) : WR d cd p lv st h Q := by subst e; exact k
theorem WR_lv {d : Nat} {cd : mC} {p : Nat} {lv lv2 : mL} {st : List Value} {h : mH} {Q : mQ} (e : lv = lv2) (k : WR d cd p lv2 st h Q) : WR d cd p lv st h Q := by subst e; exact k
theorem vp_ct {i : Int32} {n m : Nat} (e : n = m) (h : vp_in i m) : vp_in i n := by subst e; exact h
theorem vp_lit {i : Int32} {n : Nat} (h : ¬ (i < 0 ∨ n ≤ i.toNatClampNeg)) : vp_in i n := h
theorem vp_g {i m : Int32} {n : Nat} (h1 : ¬ i < 0) (h2 : ¬ m ≤ i) (h3 : m.toNatClampNeg = n) : vp_in i n := by
  subst h3
  intro q
  rcases q with q | q
  · exact h1 q
  · have a1 := Int32.not_lt.mp h1
    have a2 := Int32.not_le.mp h2
    rw [Int32.le_iff_toInt_le] at a1
    rw [Int32.lt_iff_toInt_lt] at a2
    have e0 : (0 : Int32).toInt = 0 := rfl
    rw [e0] at a1
    have q : m.toInt.toNat ≤ i.toInt.toNat := q
    omega
theorem isQ_of {a t : Nat} (h : a = t) (ht : 24 ≤ t ∧ t ≤ 27) : isQ a := by subst h; exact ht
theorem isA_of {a t : Nat} (h : a = t) (ht : (20 ≤ t ∧ t ≤ 27) ∨ t = 30) : isA a := by subst h; exact ht
def okEb (t u : Nat) : Bool := (t == 24 && (u == 4 || u == 5 || u == 6)) || (t == 25 && u == 8) || (t == 26 && u == 4) || (t == 27 && u == 5)
theorem okE_of {t u : Nat} (h : okEb t u = true) : okE t u := by
  unfold okEb at h
  simp only [Bool.or_eq_true, Bool.and_eq_true, beq_iff_eq] at h
  rcases h with ((⟨rfl, h⟩ | ⟨rfl, rfl⟩) | ⟨rfl, rfl⟩) | ⟨rfl, rfl⟩
  · rcases h with (rfl | rfl) | rfl
    · exact .inl rfl
    · exact .inr (.inl rfl)
    · exact .inr (.inr rfl)
  · exact rfl
  · exact rfl
  · exact rfl
theorem okR_of {h : mH} {a b t u : Nat} (h1 : hT h a = t) (h2 : hT h b = u) (h3 : okEb t u = true) : okR h (hT h a) (some b) := by
  intro c hc
  cases hc
  rw [h1, h2]
  exact okE_of h3
theorem okR_or {h : mH} {a b t : Nat} (h1 : hT h a = t) (h2 : okE t (hT h b)) : okR h (hT h a) (some b) := by
  intro c hc
  cases hc
  rw [h1]
  exact h2
def dlt (x y : UInt64) : Prop := FP.dcmp x y = some .lt
def dle (x y : UInt64) : Prop := FP.dcmp x y = some .lt ∨ FP.dcmp x y = some .eq
def dgt (x y : UInt64) : Prop := FP.dcmp x y = some .gt
def dge (x y : UInt64) : Prop := FP.dcmp x y = some .gt ∨ FP.dcmp x y = some .eq
def deq (x y : UInt64) : Prop := FP.dcmp x y = some .eq
section RS
variable {d : Nat} {cd : mC} {pc nx p1 : Nat} {lv lv' : mL} {st : List Value} {h : mH} {Q : mQ}
theorem r_aaload0 {i : Int32} {a : Nat} (hf : cd pc = some (.aaload, nx)) (ht : isQ (hT h a)) (hi : vp_in i (hN h a)) (hb : hR h a i.toNatClampNeg = none) (k : WR d cd nx lv (.null :: st) h Q) : WR d cd pc lv (.int i :: .ref a :: st) h Q := by
  refine r_aaload hf ht hi ?_
  rw [hb]; exact k
theorem r_aaloadS {i : Int32} {a : Nat} (hf : cd pc = some (.aaload, nx)) (ht : isQ (hT h a)) (hi : vp_in i (hN h a)) (k0 : hR h a i.toNatClampNeg = none → WR d cd nx lv (.null :: st) h Q) (k1 : ∀ b, hR h a i.toNatClampNeg = some b → WR d cd nx lv (.ref b :: st) h Q) : WR d cd pc lv (.int i :: .ref a :: st) h Q := by
  cases e : hR h a i.toNatClampNeg with
  | none => exact r_aaload0 hf ht hi e (k0 e)
  | some b => exact r_aaloadA hf ht hi e (k1 b e)
theorem r_getS {g t f a : Nat} (hf : cd pc = some (.getfield g, nx)) (hg : g / 100 = t ∧ g % 100 = f ∧ isRf (fty t f) = true) (ht : hT h a = t) (k0 : hR h a f = none → WR d cd nx lv (.null :: st) h Q) (k1 : ∀ b, hR h a f = some b → WR d cd nx lv (.ref b :: st) h Q) : WR d cd pc lv (.ref a :: st) h Q := by
  refine r_getR hf hg ht ?_
  cases e : hR h a f with
  | none => exact k0 e
  | some b => exact k1 b e
theorem r_instN {t : Nat} (hf : cd pc = some (.instanceof t, nx)) (ht : t = 4 ∨ t = 5 ∨ t = 6) (k : WR d cd nx lv (.int 0 :: st) h Q) : WR d cd pc lv (.null :: st) h Q := r_inst (v := none) hf ⟨ht, fun _ q => by cases q⟩ k
theorem r_instS {t a : Nat} (hf : cd pc = some (.instanceof t, nx)) (ht : t = 4 ∨ t = 5 ∨ t = 6) (h2 : 4 ≤ hT h a ∧ hT h a ≤ 6) (k1 : hT h a = t → WR d cd nx lv (.int 1 :: st) h Q) (k0 : ¬ hT h a = t → WR d cd nx lv (.int 0 :: st) h Q) : WR d cd pc lv (.ref a :: st) h Q := by
  refine r_inst (v := some a) hf ⟨ht, fun b q => by cases q; exact h2⟩ ?_
  by_cases e : hT h a = t
  · rw [if_pos (by show some (hT h a) = some t; rw [e])]; exact k1 e
  · rw [if_neg (by intro q; exact e (Option.some.inj q))]; exact k0 e
theorem r_instY {t a : Nat} (hf : cd pc = some (.instanceof t, nx)) (ht : t = 4 ∨ t = 5 ∨ t = 6) (h2 : hT h a = t) (k : WR d cd nx lv (.int 1 :: st) h Q) : WR d cd pc lv (.ref a :: st) h Q := r_instS hf ht (by omega) (fun _ => k) (fun q => absurd h2 q)
theorem r_instW {t u a : Nat} (hf : cd pc = some (.instanceof t, nx)) (ht : t = 4 ∨ t = 5 ∨ t = 6) (h2 : hT h a = u) (h3 : u ≠ t ∧ (u = 4 ∨ u = 5 ∨ u = 6)) (k : WR d cd nx lv (.int 0 :: st) h Q) : WR d cd pc lv (.ref a :: st) h Q := r_instS hf ht (by omega) (fun q => absurd (h2.symm.trans q) h3.1) (fun _ => k)
theorem r_ifnullN {t : Int} {tg : Nat} (hf : cd pc = some (.ifnull t, nx)) (ht : t.toNat = tg) (k : WR d cd tg lv st h Q) : WR d cd pc lv (.null :: st) h Q := r_ifnull (x := none) hf ht (fun _ => k) (fun q => absurd rfl q)
theorem r_ifnullA {t : Int} {tg a : Nat} (hf : cd pc = some (.ifnull t, nx)) (ht : t.toNat = tg) (k : WR d cd nx lv st h Q) : WR d cd pc lv (.ref a :: st) h Q := r_ifnull (x := some a) hf ht (fun q => by cases q) (fun _ => k)
theorem r_ifnonnullN {t : Int} {tg : Nat} (hf : cd pc = some (.ifnonnull t, nx)) (ht : t.toNat = tg) (k : WR d cd nx lv st h Q) : WR d cd pc lv (.null :: st) h Q := r_ifnonnull (x := none) hf ht (fun q => absurd rfl q) (fun _ => k)
theorem r_ifnonnullA {t : Int} {tg a : Nat} (hf : cd pc = some (.ifnonnull t, nx)) (ht : t.toNat = tg) (k : WR d cd tg lv st h Q) : WR d cd pc lv (.ref a :: st) h Q := r_ifnonnull (x := some a) hf ht (fun _ => k) (fun q => by cases q)
theorem r_acmpA_eq {x y : Nat} {t : Int} {tg : Nat} (hf : cd pc = some (.if_acmp .eq t, nx)) (ht : t.toNat = tg) (kt : x = y → WR d cd tg lv st h Q) (kf : ¬ x = y → WR d cd nx lv st h Q) : WR d cd pc lv (.ref y :: .ref x :: st) h Q := r_acmp_eq (x := some x) (y := some y) hf ht (fun q => kt (Option.some.inj q)) (fun q => kf (fun z => q (by rw [z])))
theorem r_acmpA_ne {x y : Nat} {t : Int} {tg : Nat} (hf : cd pc = some (.if_acmp .ne t, nx)) (ht : t.toNat = tg) (kt : ¬ x = y → WR d cd tg lv st h Q) (kf : x = y → WR d cd nx lv st h Q) : WR d cd pc lv (.ref y :: .ref x :: st) h Q := r_acmp_ne (x := some x) (y := some y) hf ht (fun q => kt (fun z => q (by rw [z]))) (fun q => kf (Option.some.inj q))
theorem r_acmpNN_eq {t : Int} {tg : Nat} (hf : cd pc = some (.if_acmp .eq t, nx)) (ht : t.toNat = tg) (k : WR d cd tg lv st h Q) : WR d cd pc lv (.null :: .null :: st) h Q := r_acmp_eq (x := none) (y := none) hf ht (fun _ => k) (fun q => absurd rfl q)
theorem r_acmpNN_ne {t : Int} {tg : Nat} (hf : cd pc = some (.if_acmp .ne t, nx)) (ht : t.toNat = tg) (k : WR d cd nx lv st h Q) : WR d cd pc lv (.null :: .null :: st) h Q := r_acmp_ne (x := none) (y := none) hf ht (fun q => absurd rfl q) (fun _ => k)
theorem r_acmpNA_eq {a : Nat} {t : Int} {tg : Nat} (hf : cd pc = some (.if_acmp .eq t, nx)) (ht : t.toNat = tg) (k : WR d cd nx lv st h Q) : WR d cd pc lv (.ref a :: .null :: st) h Q := r_acmp_eq (x := none) (y := some a) hf ht (fun q => by cases q) (fun _ => k)
theorem r_acmpNA_ne {a : Nat} {t : Int} {tg : Nat} (hf : cd pc = some (.if_acmp .ne t, nx)) (ht : t.toNat = tg) (k : WR d cd tg lv st h Q) : WR d cd pc lv (.ref a :: .null :: st) h Q := r_acmp_ne (x := none) (y := some a) hf ht (fun _ => k) (fun q => by cases q)
theorem r_acmpAN_eq {a : Nat} {t : Int} {tg : Nat} (hf : cd pc = some (.if_acmp .eq t, nx)) (ht : t.toNat = tg) (k : WR d cd nx lv st h Q) : WR d cd pc lv (.null :: .ref a :: st) h Q := r_acmp_eq (x := some a) (y := none) hf ht (fun q => by cases q) (fun _ => k)
theorem r_acmpAN_ne {a : Nat} {t : Int} {tg : Nat} (hf : cd pc = some (.if_acmp .ne t, nx)) (ht : t.toNat = tg) (k : WR d cd tg lv st h Q) : WR d cd pc lv (.null :: .ref a :: st) h Q := r_acmp_ne (x := some a) (y := none) hf ht (fun _ => k) (fun q => by cases q)
theorem r_tswL {dd lo hi : Int} {os : Array Int} {x : Int32} {tg : Nat} (hf : cd pc = some (.tableswitch dd lo hi os, nx)) (ht : (if x.toInt < lo ∨ hi < x.toInt then dd.toNat else (os.getD (x.toInt - lo).toNat 0).toNat) = tg) (k : WR d cd tg lv st h Q) : WR d cd pc lv (.int x :: st) h Q := by
  refine r_tsw hf rfl (fun q => ?_) (fun q => ?_)
  · rw [if_pos q] at ht; rw [ht]; exact k
  · rw [if_neg q] at ht; rw [ht]; exact k

theorem lgc (x y : Int64) : (lg_cmp x y = 0 ↔ x = y) ∧ (lg_cmp x y < 0 ↔ x < y) ∧ (0 ≤ lg_cmp x y ↔ y ≤ x) ∧ (0 < lg_cmp x y ↔ y < x) ∧ (lg_cmp x y ≤ 0 ↔ x ≤ y) := ⟨lg_cmp_eq x y, lg_cmp_lt x y, lg_cmp_ge x y, lg_cmp_gt x y, lg_cmp_le x y⟩
theorem r_lif_eq {x y : Int64} {t : Int} {tg : Nat} (hf : cd pc = some (.lcmp, p1)) (hf2 : cd p1 = some (.ifCond .eq t, nx)) (ht : t.toNat = tg) (kt : x = y → WR d cd tg lv st h Q) (kf : ¬ x = y → WR d cd nx lv st h Q) : WR d cd pc lv (.long y :: .long x :: st) h Q := r_lcmp hf (r_if_eq hf2 ht (fun q => kt ((lgc x y).1.mp q)) (fun q => kf (fun z => q ((lgc x y).1.mpr z))))
theorem r_lif_ne {x y : Int64} {t : Int} {tg : Nat} (hf : cd pc = some (.lcmp, p1)) (hf2 : cd p1 = some (.ifCond .ne t, nx)) (ht : t.toNat = tg) (kt : ¬ x = y → WR d cd tg lv st h Q) (kf : x = y → WR d cd nx lv st h Q) : WR d cd pc lv (.long y :: .long x :: st) h Q := r_lcmp hf (r_if_ne hf2 ht (fun q => kt (fun z => q ((lgc x y).1.mpr z))) (fun q => kf ((lgc x y).1.mp q)))
theorem r_lif_lt {x y : Int64} {t : Int} {tg : Nat} (hf : cd pc = some (.lcmp, p1)) (hf2 : cd p1 = some (.ifCond .lt t, nx)) (ht : t.toNat = tg) (kt : x < y → WR d cd tg lv st h Q) (kf : ¬ x < y → WR d cd nx lv st h Q) : WR d cd pc lv (.long y :: .long x :: st) h Q := r_lcmp hf (r_if_lt hf2 ht (fun q => kt ((lgc x y).2.1.mp q)) (fun q => kf (fun z => q ((lgc x y).2.1.mpr z))))
theorem r_lif_ge {x y : Int64} {t : Int} {tg : Nat} (hf : cd pc = some (.lcmp, p1)) (hf2 : cd p1 = some (.ifCond .ge t, nx)) (ht : t.toNat = tg) (kt : y ≤ x → WR d cd tg lv st h Q) (kf : ¬ y ≤ x → WR d cd nx lv st h Q) : WR d cd pc lv (.long y :: .long x :: st) h Q := r_lcmp hf (r_if_ge hf2 ht (fun q => kt ((lgc x y).2.2.1.mp q)) (fun q => kf (fun z => q ((lgc x y).2.2.1.mpr z))))
theorem r_lif_gt {x y : Int64} {t : Int} {tg : Nat} (hf : cd pc = some (.lcmp, p1)) (hf2 : cd p1 = some (.ifCond .gt t, nx)) (ht : t.toNat = tg) (kt : y < x → WR d cd tg lv st h Q) (kf : ¬ y < x → WR d cd nx lv st h Q) : WR d cd pc lv (.long y :: .long x :: st) h Q := r_lcmp hf (r_if_gt hf2 ht (fun q => kt ((lgc x y).2.2.2.1.mp q)) (fun q => kf (fun z => q ((lgc x y).2.2.2.1.mpr z))))
theorem r_lif_le {x y : Int64} {t : Int} {tg : Nat} (hf : cd pc = some (.lcmp, p1)) (hf2 : cd p1 = some (.ifCond .le t, nx)) (ht : t.toNat = tg) (kt : x ≤ y → WR d cd tg lv st h Q) (kf : ¬ x ≤ y → WR d cd nx lv st h Q) : WR d cd pc lv (.long y :: .long x :: st) h Q := r_lcmp hf (r_if_le hf2 ht (fun q => kt ((lgc x y).2.2.2.2.mp q)) (fun q => kf (fun z => q ((lgc x y).2.2.2.2.mpr z))))
theorem dcv (o : Option Ordering) : ((Op.cmpValue o .g < 0 ↔ o = some .lt) ∧ (0 ≤ Op.cmpValue o .g ↔ ¬ o = some .lt) ∧ (0 < Op.cmpValue o .g ↔ ¬ (o = some .lt ∨ o = some .eq)) ∧ (Op.cmpValue o .g ≤ 0 ↔ (o = some .lt ∨ o = some .eq)) ∧ (Op.cmpValue o .g = 0 ↔ o = some .eq)) ∧ ((0 < Op.cmpValue o .l ↔ o = some .gt) ∧ (Op.cmpValue o .l ≤ 0 ↔ ¬ o = some .gt) ∧ (Op.cmpValue o .l < 0 ↔ ¬ (o = some .gt ∨ o = some .eq)) ∧ (0 ≤ Op.cmpValue o .l ↔ (o = some .gt ∨ o = some .eq)) ∧ (Op.cmpValue o .l = 0 ↔ o = some .eq)) := by
  cases o with
  | none => decide
  | some r => cases r <;> decide
theorem r_dgif_lt {x y : UInt64} {t : Int} {tg : Nat} (hf : cd pc = some (.dcmp .g, p1)) (hf2 : cd p1 = some (.ifCond .lt t, nx)) (ht : t.toNat = tg) (kt : dlt x y → WR d cd tg lv st h Q) (kf : ¬ dlt x y → WR d cd nx lv st h Q) : WR d cd pc lv (.double y :: .double x :: st) h Q := r_dcmp hf (r_if_lt hf2 ht (fun q => kt ((dcv (FP.dcmp x y)).1.1.mp q)) (fun q => kf (fun z => q ((dcv (FP.dcmp x y)).1.1.mpr z))))
theorem r_dgif_ge {x y : UInt64} {t : Int} {tg : Nat} (hf : cd pc = some (.dcmp .g, p1)) (hf2 : cd p1 = some (.ifCond .ge t, nx)) (ht : t.toNat = tg) (kt : ¬ dlt x y → WR d cd tg lv st h Q) (kf : dlt x y → WR d cd nx lv st h Q) : WR d cd pc lv (.double y :: .double x :: st) h Q := r_dcmp hf (r_if_ge hf2 ht (fun q => kt ((dcv (FP.dcmp x y)).1.2.1.mp q)) (fun q => kf (Classical.byContradiction fun z => q ((dcv (FP.dcmp x y)).1.2.1.mpr z))))
theorem r_dgif_gt {x y : UInt64} {t : Int} {tg : Nat} (hf : cd pc = some (.dcmp .g, p1)) (hf2 : cd p1 = some (.ifCond .gt t, nx)) (ht : t.toNat = tg) (kt : ¬ dle x y → WR d cd tg lv st h Q) (kf : dle x y → WR d cd nx lv st h Q) : WR d cd pc lv (.double y :: .double x :: st) h Q := r_dcmp hf (r_if_gt hf2 ht (fun q => kt ((dcv (FP.dcmp x y)).1.2.2.1.mp q)) (fun q => kf (Classical.byContradiction fun z => q ((dcv (FP.dcmp x y)).1.2.2.1.mpr z))))
theorem r_dgif_le {x y : UInt64} {t : Int} {tg : Nat} (hf : cd pc = some (.dcmp .g, p1)) (hf2 : cd p1 = some (.ifCond .le t, nx)) (ht : t.toNat = tg) (kt : dle x y → WR d cd tg lv st h Q) (kf : ¬ dle x y → WR d cd nx lv st h Q) : WR d cd pc lv (.double y :: .double x :: st) h Q := r_dcmp hf (r_if_le hf2 ht (fun q => kt ((dcv (FP.dcmp x y)).1.2.2.2.1.mp q)) (fun q => kf (fun z => q ((dcv (FP.dcmp x y)).1.2.2.2.1.mpr z))))
theorem r_dgif_eq {x y : UInt64} {t : Int} {tg : Nat} (hf : cd pc = some (.dcmp .g, p1)) (hf2 : cd p1 = some (.ifCond .eq t, nx)) (ht : t.toNat = tg) (kt : deq x y → WR d cd tg lv st h Q) (kf : ¬ deq x y → WR d cd nx lv st h Q) : WR d cd pc lv (.double y :: .double x :: st) h Q := r_dcmp hf (r_if_eq hf2 ht (fun q => kt ((dcv (FP.dcmp x y)).1.2.2.2.2.mp q)) (fun q => kf (fun z => q ((dcv (FP.dcmp x y)).1.2.2.2.2.mpr z))))
theorem r_dgif_ne {x y : UInt64} {t : Int} {tg : Nat} (hf : cd pc = some (.dcmp .g, p1)) (hf2 : cd p1 = some (.ifCond .ne t, nx)) (ht : t.toNat = tg) (kt : ¬ deq x y → WR d cd tg lv st h Q) (kf : deq x y → WR d cd nx lv st h Q) : WR d cd pc lv (.double y :: .double x :: st) h Q := r_dcmp hf (r_if_ne hf2 ht (fun q => kt (fun z => q ((dcv (FP.dcmp x y)).1.2.2.2.2.mpr z))) (fun q => kf ((dcv (FP.dcmp x y)).1.2.2.2.2.mp q)))
theorem r_dlif_gt {x y : UInt64} {t : Int} {tg : Nat} (hf : cd pc = some (.dcmp .l, p1)) (hf2 : cd p1 = some (.ifCond .gt t, nx)) (ht : t.toNat = tg) (kt : dgt x y → WR d cd tg lv st h Q) (kf : ¬ dgt x y → WR d cd nx lv st h Q) : WR d cd pc lv (.double y :: .double x :: st) h Q := r_dcmp hf (r_if_gt hf2 ht (fun q => kt ((dcv (FP.dcmp x y)).2.1.mp q)) (fun q => kf (fun z => q ((dcv (FP.dcmp x y)).2.1.mpr z))))
theorem r_dlif_le {x y : UInt64} {t : Int} {tg : Nat} (hf : cd pc = some (.dcmp .l, p1)) (hf2 : cd p1 = some (.ifCond .le t, nx)) (ht : t.toNat = tg) (kt : ¬ dgt x y → WR d cd tg lv st h Q) (kf : dgt x y → WR d cd nx lv st h Q) : WR d cd pc lv (.double y :: .double x :: st) h Q := r_dcmp hf (r_if_le hf2 ht (fun q => kt ((dcv (FP.dcmp x y)).2.2.1.mp q)) (fun q => kf (Classical.byContradiction fun z => q ((dcv (FP.dcmp x y)).2.2.1.mpr z))))
theorem r_dlif_lt {x y : UInt64} {t : Int} {tg : Nat} (hf : cd pc = some (.dcmp .l, p1)) (hf2 : cd p1 = some (.ifCond .lt t, nx)) (ht : t.toNat = tg) (kt : ¬ dge x y → WR d cd tg lv st h Q) (kf : dge x y → WR d cd nx lv st h Q) : WR d cd pc lv (.double y :: .double x :: st) h Q := r_dcmp hf (r_if_lt hf2 ht (fun q => kt ((dcv (FP.dcmp x y)).2.2.2.1.mp q)) (fun q => kf (Classical.byContradiction fun z => q ((dcv (FP.dcmp x y)).2.2.2.1.mpr z))))
theorem r_dlif_ge {x y : UInt64} {t : Int} {tg : Nat} (hf : cd pc = some (.dcmp .l, p1)) (hf2 : cd p1 = some (.ifCond .ge t, nx)) (ht : t.toNat = tg) (kt : dge x y → WR d cd tg lv st h Q) (kf : ¬ dge x y → WR d cd nx lv st h Q) : WR d cd pc lv (.double y :: .double x :: st) h Q := r_dcmp hf (r_if_ge hf2 ht (fun q => kt ((dcv (FP.dcmp x y)).2.2.2.2.1.mp q)) (fun q => kf (fun z => q ((dcv (FP.dcmp x y)).2.2.2.2.1.mpr z))))
theorem r_dlif_eq {x y : UInt64} {t : Int} {tg : Nat} (hf : cd pc = some (.dcmp .l, p1)) (hf2 : cd p1 = some (.ifCond .eq t, nx)) (ht : t.toNat = tg) (kt : deq x y → WR d cd tg lv st h Q) (kf : ¬ deq x y → WR d cd nx lv st h Q) : WR d cd pc lv (.double y :: .double x :: st) h Q := r_dcmp hf (r_if_eq hf2 ht (fun q => kt ((dcv (FP.dcmp x y)).2.2.2.2.2.mp q)) (fun q => kf (fun z => q ((dcv (FP.dcmp x y)).2.2.2.2.2.mpr z))))
theorem r_dlif_ne {x y : UInt64} {t : Int} {tg : Nat} (hf : cd pc = some (.dcmp .l, p1)) (hf2 : cd p1 = some (.ifCond .ne t, nx)) (ht : t.toNat = tg) (kt : ¬ deq x y → WR d cd tg lv st h Q) (kf : deq x y → WR d cd nx lv st h Q) : WR d cd pc lv (.double y :: .double x :: st) h Q := r_dcmp hf (r_if_ne hf2 ht (fun q => kt (fun z => q ((dcv (FP.dcmp x y)).2.2.2.2.2.mpr z))) (fun q => kf ((dcv (FP.dcmp x y)).2.2.2.2.2.mp q)))
end RS
theorem tsw_0_4 {x : Int32} (q : ¬ (x.toInt < 0 ∨ 4 < x.toInt)) : x = 0 ∨ x = 1 ∨ x = 2 ∨ x = 3 ∨ x = 4 := by
  have key : ∀ k : Int32, x.toInt = k.toInt → x = k := fun k hk => Int32.toInt_inj.mp hk
  have hx : x.toInt = 0 ∨ x.toInt = 1 ∨ x.toInt = 2 ∨ x.toInt = 3 ∨ x.toInt = 4 := by omega
  rcases hx with e | e | e | e | e
  · exact .inl (key 0 e)
  · exact .inr (.inl (key 1 e))
  · exact .inr (.inr (.inl (key 2 e)))
  · exact .inr (.inr (.inr (.inl (key 3 e))))
  · exact .inr (.inr (.inr (.inr (key 4 e))))
theorem tsw_0_5 {x : Int32} (q : ¬ (x.toInt < 0 ∨ 5 < x.toInt)) : x = 0 ∨ x = 1 ∨ x = 2 ∨ x = 3 ∨ x = 4 ∨ x = 5 := by
  have key : ∀ k : Int32, x.toInt = k.toInt → x = k := fun k hk => Int32.toInt_inj.mp hk
  have hx : x.toInt = 0 ∨ x.toInt = 1 ∨ x.toInt = 2 ∨ x.toInt = 3 ∨ x.toInt = 4 ∨ x.toInt = 5 := by omega
  rcases hx with e | e | e | e | e | e
  · exact .inl (key 0 e)
  · exact .inr (.inl (key 1 e))
  · exact .inr (.inr (.inl (key 2 e)))
  · exact .inr (.inr (.inr (.inl (key 3 e))))
  · exact .inr (.inr (.inr (.inr (.inl (key 4 e)))))
  · exact .inr (.inr (.inr (.inr (.inr (key 5 e)))))
theorem tsw_0_6 {x : Int32} (q : ¬ (x.toInt < 0 ∨ 6 < x.toInt)) : x = 0 ∨ x = 1 ∨ x = 2 ∨ x = 3 ∨ x = 4 ∨ x = 5 ∨ x = 6 := by
  have key : ∀ k : Int32, x.toInt = k.toInt → x = k := fun k hk => Int32.toInt_inj.mp hk
  have hx : x.toInt = 0 ∨ x.toInt = 1 ∨ x.toInt = 2 ∨ x.toInt = 3 ∨ x.toInt = 4 ∨ x.toInt = 5 ∨ x.toInt = 6 := by omega
  rcases hx with e | e | e | e | e | e | e
  · exact .inl (key 0 e)
  · exact .inr (.inl (key 1 e))
  · exact .inr (.inr (.inl (key 2 e)))
  · exact .inr (.inr (.inr (.inl (key 3 e))))
  · exact .inr (.inr (.inr (.inr (.inl (key 4 e)))))
  · exact .inr (.inr (.inr (.inr (.inr (.inl (key 5 e))))))
  · exact .inr (.inr (.inr (.inr (.inr (.inr (key 6 e))))))
theorem tsw_0_7 {x : Int32} (q : ¬ (x.toInt < 0 ∨ 7 < x.toInt)) : x = 0 ∨ x = 1 ∨ x = 2 ∨ x = 3 ∨ x = 4 ∨ x = 5 ∨ x = 6 ∨ x = 7 := by
  have key : ∀ k : Int32, x.toInt = k.toInt → x = k := fun k hk => Int32.toInt_inj.mp hk
  have hx : x.toInt = 0 ∨ x.toInt = 1 ∨ x.toInt = 2 ∨ x.toInt = 3 ∨ x.toInt = 4 ∨ x.toInt = 5 ∨ x.toInt = 6 ∨ x.toInt = 7 := by omega
  rcases hx with e | e | e | e | e | e | e | e
  · exact .inl (key 0 e)
  · exact .inr (.inl (key 1 e))
  · exact .inr (.inr (.inl (key 2 e)))
  · exact .inr (.inr (.inr (.inl (key 3 e))))
  · exact .inr (.inr (.inr (.inr (.inl (key 4 e)))))
  · exact .inr (.inr (.inr (.inr (.inr (.inl (key 5 e))))))
  · exact .inr (.inr (.inr (.inr (.inr (.inr (.inl (key 6 e)))))))
  · exact .inr (.inr (.inr (.inr (.inr (.inr (.inr (key 7 e)))))))
theorem tsw_0_12 {x : Int32} (q : ¬ (x.toInt < 0 ∨ 12 < x.toInt)) : x = 0 ∨ x = 1 ∨ x = 2 ∨ x = 3 ∨ x = 4 ∨ x = 5 ∨ x = 6 ∨ x = 7 ∨ x = 8 ∨ x = 9 ∨ x = 10 ∨ x = 11 ∨ x = 12 := by
  have key : ∀ k : Int32, x.toInt = k.toInt → x = k := fun k hk => Int32.toInt_inj.mp hk
  have hx : x.toInt = 0 ∨ x.toInt = 1 ∨ x.toInt = 2 ∨ x.toInt = 3 ∨ x.toInt = 4 ∨ x.toInt = 5 ∨ x.toInt = 6 ∨ x.toInt = 7 ∨ x.toInt = 8 ∨ x.toInt = 9 ∨ x.toInt = 10 ∨ x.toInt = 11 ∨ x.toInt = 12 := by omega
  rcases hx with e | e | e | e | e | e | e | e | e | e | e | e | e
  · exact .inl (key 0 e)
  · exact .inr (.inl (key 1 e))
  · exact .inr (.inr (.inl (key 2 e)))
  · exact .inr (.inr (.inr (.inl (key 3 e))))
  · exact .inr (.inr (.inr (.inr (.inl (key 4 e)))))
  · exact .inr (.inr (.inr (.inr (.inr (.inl (key 5 e))))))
  · exact .inr (.inr (.inr (.inr (.inr (.inr (.inl (key 6 e)))))))
  · exact .inr (.inr (.inr (.inr (.inr (.inr (.inr (.inl (key 7 e))))))))
  · exact .inr (.inr (.inr (.inr (.inr (.inr (.inr (.inr (.inl (key 8 e)))))))))
  · exact .inr (.inr (.inr (.inr (.inr (.inr (.inr (.inr (.inr (.inl (key 9 e))))))))))
  · exact .inr (.inr (.inr (.inr (.inr (.inr (.inr (.inr (.inr (.inr (.inl (key 10 e)))))))))))
  · exact .inr (.inr (.inr (.inr (.inr (.inr (.inr (.inr (.inr (.inr (.inr (.inl (key 11 e))))))))))))
  · exact .inr (.inr (.inr (.inr (.inr (.inr (.inr (.inr (.inr (.inr (.inr (.inr (key 12 e))))))))))))
theorem tsw_0_13 {x : Int32} (q : ¬ (x.toInt < 0 ∨ 13 < x.toInt)) : x = 0 ∨ x = 1 ∨ x = 2 ∨ x = 3 ∨ x = 4 ∨ x = 5 ∨ x = 6 ∨ x = 7 ∨ x = 8 ∨ x = 9 ∨ x = 10 ∨ x = 11 ∨ x = 12 ∨ x = 13 := by
  have key : ∀ k : Int32, x.toInt = k.toInt → x = k := fun k hk => Int32.toInt_inj.mp hk
  have hx : x.toInt = 0 ∨ x.toInt = 1 ∨ x.toInt = 2 ∨ x.toInt = 3 ∨ x.toInt = 4 ∨ x.toInt = 5 ∨ x.toInt = 6 ∨ x.toInt = 7 ∨ x.toInt = 8 ∨ x.toInt = 9 ∨ x.toInt = 10 ∨ x.toInt = 11 ∨ x.toInt = 12 ∨ x.toInt = 13 := by omega
  rcases hx with e | e | e | e | e | e | e | e | e | e | e | e | e | e
  · exact .inl (key 0 e)
  · exact .inr (.inl (key 1 e))
  · exact .inr (.inr (.inl (key 2 e)))
  · exact .inr (.inr (.inr (.inl (key 3 e))))
  · exact .inr (.inr (.inr (.inr (.inl (key 4 e)))))
  · exact .inr (.inr (.inr (.inr (.inr (.inl (key 5 e))))))
  · exact .inr (.inr (.inr (.inr (.inr (.inr (.inl (key 6 e)))))))
  · exact .inr (.inr (.inr (.inr (.inr (.inr (.inr (.inl (key 7 e))))))))
  · exact .inr (.inr (.inr (.inr (.inr (.inr (.inr (.inr (.inl (key 8 e)))))))))
  · exact .inr (.inr (.inr (.inr (.inr (.inr (.inr (.inr (.inr (.inl (key 9 e))))))))))
  · exact .inr (.inr (.inr (.inr (.inr (.inr (.inr (.inr (.inr (.inr (.inl (key 10 e)))))))))))
  · exact .inr (.inr (.inr (.inr (.inr (.inr (.inr (.inr (.inr (.inr (.inr (.inl (key 11 e))))))))))))
  · exact .inr (.inr (.inr (.inr (.inr (.inr (.inr (.inr (.inr (.inr (.inr (.inr (.inl (key 12 e)))))))))))))
  · exact .inr (.inr (.inr (.inr (.inr (.inr (.inr (.inr (.inr (.inr (.inr (.inr (.inr (key 13 e)))))))))))))
theorem tsw_0_37 {x : Int32} (q : ¬ (x.toInt < 0 ∨ 37 < x.toInt)) : x = 0 ∨ x = 1 ∨ x = 2 ∨ x = 3 ∨ x = 4 ∨ x = 5 ∨ x = 6 ∨ x = 7 ∨ x = 8 ∨ x = 9 ∨ x = 10 ∨ x = 11 ∨ x = 12 ∨ x = 13 ∨ x = 14 ∨ x = 15 ∨ x = 16 ∨ x = 17 ∨ x = 18 ∨ x = 19 ∨ x = 20 ∨ x = 21 ∨ x = 22 ∨ x = 23 ∨ x = 24 ∨ x = 25 ∨ x = 26 ∨ x = 27 ∨ x = 28 ∨ x = 29 ∨ x = 30 ∨ x = 31 ∨ x = 32 ∨ x = 33 ∨ x = 34 ∨ x = 35 ∨ x = 36 ∨ x = 37 := by
  have key : ∀ k : Int32, x.toInt = k.toInt → x = k := fun k hk => Int32.toInt_inj.mp hk
  have hx : x.toInt = 0 ∨ x.toInt = 1 ∨ x.toInt = 2 ∨ x.toInt = 3 ∨ x.toInt = 4 ∨ x.toInt = 5 ∨ x.toInt = 6 ∨ x.toInt = 7 ∨ x.toInt = 8 ∨ x.toInt = 9 ∨ x.toInt = 10 ∨ x.toInt = 11 ∨ x.toInt = 12 ∨ x.toInt = 13 ∨ x.toInt = 14 ∨ x.toInt = 15 ∨ x.toInt = 16 ∨ x.toInt = 17 ∨ x.toInt = 18 ∨ x.toInt = 19 ∨ x.toInt = 20 ∨ x.toInt = 21 ∨ x.toInt = 22 ∨ x.toInt = 23 ∨ x.toInt = 24 ∨ x.toInt = 25 ∨ x.toInt = 26 ∨ x.toInt = 27 ∨ x.toInt = 28 ∨ x.toInt = 29 ∨ x.toInt = 30 ∨ x.toInt = 31 ∨ x.toInt = 32 ∨ x.toInt = 33 ∨ x.toInt = 34 ∨ x.toInt = 35 ∨ x.toInt = 36 ∨ x.toInt = 37 := by omega
  rcases hx with e | e | e | e | e | e | e | e | e | e | e | e | e | e | e | e | e | e | e | e | e | e | e | e | e | e | e | e | e | e | e | e | e | e | e | e | e | e
  · exact .inl (key 0 e)
  · exact .inr (.inl (key 1 e))
  · exact .inr (.inr (.inl (key 2 e)))
  · exact .inr (.inr (.inr (.inl (key 3 e))))
  · exact .inr (.inr (.inr (.inr (.inl (key 4 e)))))
  · exact .inr (.inr (.inr (.inr (.inr (.inl (key 5 e))))))
  · exact .inr (.inr (.inr (.inr (.inr (.inr (.inl (key 6 e)))))))
  · exact .inr (.inr (.inr (.inr (.inr (.inr (.inr (.inl (key 7 e))))))))
  · exact .inr (.inr (.inr (.inr (.inr (.inr (.inr (.inr (.inl (key 8 e)))))))))
  · exact .inr (.inr (.inr (.inr (.inr (.inr (.inr (.inr (.inr (.inl (key 9 e))))))))))
  · exact .inr (.inr (.inr (.inr (.inr (.inr (.inr (.inr (.inr (.inr (.inl (key 10 e)))))))))))
  · exact .inr (.inr (.inr (.inr (.inr (.inr (.inr (.inr (.inr (.inr (.inr (.inl (key 11 e))))))))))))
  · exact .inr (.inr (.inr (.inr (.inr (.inr (.inr (.inr (.inr (.inr (.inr (.inr (.inl (key 12 e)))))))))))))
  · exact .inr (.inr (.inr (.inr (.inr (.inr (.inr (.inr (.inr (.inr (.inr (.inr (.inr (.inl (key 13 e))))))))))))))
  · exact .inr (.inr (.inr (.inr (.inr (.inr (.inr (.inr (.inr (.inr (.inr (.inr (.inr (.inr (.inl (key 14 e)))))))))))))))
  · exact .inr (.inr (.inr (.inr (.inr (.inr (.inr (.inr (.inr (.inr (.inr (.inr (.inr (.inr (.inr (.inl (key 15 e))))))))))))))))
  · exact .inr (.inr (.inr (.inr (.inr (.inr (.inr (.inr (.inr (.inr (.inr (.inr (.inr (.inr (.inr (.inr (.inl (key 16 e)))))))))))))))))
  · exact .inr (.inr (.inr (.inr (.inr (.inr (.inr (.inr (.inr (.inr (.inr (.inr (.inr (.inr (.inr (.inr (.inr (.inl (key 17 e))))))))))))))))))
  · exact .inr (.inr (.inr (.inr (.inr (.inr (.inr (.inr (.inr (.inr (.inr (.inr (.inr (.inr (.inr (.inr (.inr (.inr (.inl (key 18 e)))))))))))))))))))
  · exact .inr (.inr (.inr (.inr (.inr (.inr (.inr (.inr (.inr (.inr (.inr (.inr (.inr (.inr (.inr (.inr (.inr (.inr (.inr (.inl (key 19 e))))))))))))))))))))
  · exact .inr (.inr (.inr (.inr (.inr (.inr (.inr (.inr (.inr (.inr (.inr (.inr (.inr (.inr (.inr (.inr (.inr (.inr (.inr (.inr (.inl (key 20 e)))))))))))))))))))))
  · exact .inr (.inr (.inr (.inr (.inr (.inr (.inr (.inr (.inr (.inr (.inr (.inr (.inr (.inr (.inr (.inr (.inr (.inr (.inr (.inr (.inr (.inl (key 21 e))))))))))))))))))))))
  · exact .inr (.inr (.inr (.inr (.inr (.inr (.inr (.inr (.inr (.inr (.inr (.inr (.inr (.inr (.inr (.inr (.inr (.inr (.inr (.inr (.inr (.inr (.inl (key 22 e)))))))))))))))))))))))
  · exact .inr (.inr (.inr (.inr (.inr (.inr (.inr (.inr (.inr (.inr (.inr (.inr (.inr (.inr (.inr (.inr (.inr (.inr (.inr (.inr (.inr (.inr (.inr (.inl (key 23 e))))))))))))))))))))))))
  · exact .inr (.inr (.inr (.inr (.inr (.inr (.inr (.inr (.inr (.inr (.inr (.inr (.inr (.inr (.inr (.inr (.inr (.inr (.inr (.inr (.inr (.inr (.inr (.inr (.inl (key 24 e)))))))))))))))))))))))))
  · exact .inr (.inr (.inr (.inr (.inr (.inr (.inr (.inr (.inr (.inr (.inr (.inr (.inr (.inr (.inr (.inr (.inr (.inr (.inr (.inr (.inr (.inr (.inr (.inr (.inr (.inl (key 25 e))))))))))))))))))))))))))
  · exact .inr (.inr (.inr (.inr (.inr (.inr (.inr (.inr (.inr (.inr (.inr (.inr (.inr (.inr (.inr (.inr (.inr (.inr (.inr (.inr (.inr (.inr (.inr (.inr (.inr (.inr (.inl (key 26 e)))))))))))))))))))))))))))
  · exact .inr (.inr (.inr (.inr (.inr (.inr (.inr (.inr (.inr (.inr (.inr (.inr (.inr (.inr (.inr (.inr (.inr (.inr (.inr (.inr (.inr (.inr (.inr (.inr (.inr (.inr (.inr (.inl (key 27 e))))))))))))))))))))))))))))
  · exact .inr (.inr (.inr (.inr (.inr (.inr (.inr (.inr (.inr (.inr (.inr (.inr (.inr (.inr (.inr (.inr (.inr (.inr (.inr (.inr (.inr (.inr (.inr (.inr (.inr (.inr (.inr (.inr (.inl (key 28 e)))))))))))))))))))))))))))))
  · exact .inr (.inr (.inr (.inr (.inr (.inr (.inr (.inr (.inr (.inr (.inr (.inr (.inr (.inr (.inr (.inr (.inr (.inr (.inr (.inr (.inr (.inr (.inr (.inr (.inr (.inr (.inr (.inr (.inr (.inl (key 29 e))))))))))))))))))))))))))))))
  · exact .inr (.inr (.inr (.inr (.inr (.inr (.inr (.inr (.inr (.inr (.inr (.inr (.inr (.inr (.inr (.inr (.inr (.inr (.inr (.inr (.inr (.inr (.inr (.inr (.inr (.inr (.inr (.inr (.inr (.inr (.inl (key 30 e)))))))))))))))))))))))))))))))
  · exact .inr (.inr (.inr (.inr (.inr (.inr (.inr (.inr (.inr (.inr (.inr (.inr (.inr (.inr (.inr (.inr (.inr (.inr (.inr (.inr (.inr (.inr (.inr (.inr (.inr (.inr (.inr (.inr (.inr (.inr (.inr (.inl (key 31 e))))))))))))))))))))))))))))))))
  · exact .inr (.inr (.inr (.inr (.inr (.inr (.inr (.inr (.inr (.inr (.inr (.inr (.inr (.inr (.inr (.inr (.inr (.inr (.inr (.inr (.inr (.inr (.inr (.inr (.inr (.inr (.inr (.inr (.inr (.inr (.inr (.inr (.inl (key 32 e)))))))))))))))))))))))))))))))))
  · exact .inr (.inr (.inr (.inr (.inr (.inr (.inr (.inr (.inr (.inr (.inr (.inr (.inr (.inr (.inr (.inr (.inr (.inr (.inr (.inr (.inr (.inr (.inr (.inr (.inr (.inr (.inr (.inr (.inr (.inr (.inr (.inr (.inr (.inl (key 33 e))))))))))))))))))))))))))))))))))
  · exact .inr (.inr (.inr (.inr (.inr (.inr (.inr (.inr (.inr (.inr (.inr (.inr (.inr (.inr (.inr (.inr (.inr (.inr (.inr (.inr (.inr (.inr (.inr (.inr (.inr (.inr (.inr (.inr (.inr (.inr (.inr (.inr (.inr (.inr (.inl (key 34 e)))))))))))))))))))))))))))))))))))
  · exact .inr (.inr (.inr (.inr (.inr (.inr (.inr (.inr (.inr (.inr (.inr (.inr (.inr (.inr (.inr (.inr (.inr (.inr (.inr (.inr (.inr (.inr (.inr (.inr (.inr (.inr (.inr (.inr (.inr (.inr (.inr (.inr (.inr (.inr (.inr (.inl (key 35 e))))))))))))))))))))))))))))))))))))
  · exact .inr (.inr (.inr (.inr (.inr (.inr (.inr (.inr (.inr (.inr (.inr (.inr (.inr (.inr (.inr (.inr (.inr (.inr (.inr (.inr (.inr (.inr (.inr (.inr (.inr (.inr (.inr (.inr (.inr (.inr (.inr (.inr (.inr (.inr (.inr (.inr (.inl (key 36 e)))))))))))))))))))))))))))))))))))))
  · exact .inr (.inr (.inr (.inr (.inr (.inr (.inr (.inr (.inr (.inr (.inr (.inr (.inr (.inr (.inr (.inr (.inr (.inr (.inr (.inr (.inr (.inr (.inr (.inr (.inr (.inr (.inr (.inr (.inr (.inr (.inr (.inr (.inr (.inr (.inr (.inr (.inr (key 37 e)))))))))))))))))))))))))))))))))))))
theorem tsw_2_6 {x : Int32} (q : ¬ (x.toInt < 2 ∨ 6 < x.toInt)) : x = 2 ∨ x = 3 ∨ x = 4 ∨ x = 5 ∨ x = 6 := by
  have key : ∀ k : Int32, x.toInt = k.toInt → x = k := fun k hk => Int32.toInt_inj.mp hk
  have hx : x.toInt = 2 ∨ x.toInt = 3 ∨ x.toInt = 4 ∨ x.toInt = 5 ∨ x.toInt = 6 := by omega
  rcases hx with e | e | e | e | e
  · exact .inl (key 2 e)
  · exact .inr (.inl (key 3 e))
  · exact .inr (.inr (.inl (key 4 e)))
  · exact .inr (.inr (.inr (.inl (key 5 e))))
  · exact .inr (.inr (.inr (.inr (key 6 e))))
theorem tsw_7_21 {x : Int32} (q : ¬ (x.toInt < 7 ∨ 21 < x.toInt)) : x = 7 ∨ x = 8 ∨ x = 9 ∨ x = 10 ∨ x = 11 ∨ x = 12 ∨ x = 13 ∨ x = 14 ∨ x = 15 ∨ x = 16 ∨ x = 17 ∨ x = 18 ∨ x = 19 ∨ x = 20 ∨ x = 21 := by
  have key : ∀ k : Int32, x.toInt = k.toInt → x = k := fun k hk => Int32.toInt_inj.mp hk
  have hx : x.toInt = 7 ∨ x.toInt = 8 ∨ x.toInt = 9 ∨ x.toInt = 10 ∨ x.toInt = 11 ∨ x.toInt = 12 ∨ x.toInt = 13 ∨ x.toInt = 14 ∨ x.toInt = 15 ∨ x.toInt = 16 ∨ x.toInt = 17 ∨ x.toInt = 18 ∨ x.toInt = 19 ∨ x.toInt = 20 ∨ x.toInt = 21 := by omega
  rcases hx with e | e | e | e | e | e | e | e | e | e | e | e | e | e | e
  · exact .inl (key 7 e)
  · exact .inr (.inl (key 8 e))
  · exact .inr (.inr (.inl (key 9 e)))
  · exact .inr (.inr (.inr (.inl (key 10 e))))
  · exact .inr (.inr (.inr (.inr (.inl (key 11 e)))))
  · exact .inr (.inr (.inr (.inr (.inr (.inl (key 12 e))))))
  · exact .inr (.inr (.inr (.inr (.inr (.inr (.inl (key 13 e)))))))
  · exact .inr (.inr (.inr (.inr (.inr (.inr (.inr (.inl (key 14 e))))))))
  · exact .inr (.inr (.inr (.inr (.inr (.inr (.inr (.inr (.inl (key 15 e)))))))))
  · exact .inr (.inr (.inr (.inr (.inr (.inr (.inr (.inr (.inr (.inl (key 16 e))))))))))
  · exact .inr (.inr (.inr (.inr (.inr (.inr (.inr (.inr (.inr (.inr (.inl (key 17 e)))))))))))
  · exact .inr (.inr (.inr (.inr (.inr (.inr (.inr (.inr (.inr (.inr (.inr (.inl (key 18 e))))))))))))
  · exact .inr (.inr (.inr (.inr (.inr (.inr (.inr (.inr (.inr (.inr (.inr (.inr (.inl (key 19 e)))))))))))))
  · exact .inr (.inr (.inr (.inr (.inr (.inr (.inr (.inr (.inr (.inr (.inr (.inr (.inr (.inl (key 20 e))))))))))))))
  · exact .inr (.inr (.inr (.inr (.inr (.inr (.inr (.inr (.inr (.inr (.inr (.inr (.inr (.inr (key 21 e))))))))))))))
theorem in_4 {d : Nat} {as : List Value} {h : mH} {Q : mQ} (hw : wtv as ≤ 2) (k : WR d cd_4 0 (en as 2) [] h Q) : EV (d + 1) 4 as h Q := EV_in (cd := cd_4) (mx := 2) rfl rfl hw k
theorem in_5 {d : Nat} {as : List Value} {h : mH} {Q : mQ} (hw : wtv as ≤ 1) (k : WR d cd_5 0 (en as 1) [] h Q) : EV (d + 1) 5 as h Q := EV_in (cd := cd_5) (mx := 1) rfl rfl hw k
theorem in_6 {d : Nat} {as : List Value} {h : mH} {Q : mQ} (hw : wtv as ≤ 3) (k : WR d cd_6 0 (en as 3) [] h Q) : EV (d + 1) 6 as h Q := EV_in (cd := cd_6) (mx := 3) rfl rfl hw k
theorem in_7 {d : Nat} {as : List Value} {h : mH} {Q : mQ} (hw : wtv as ≤ 2) (k : WR d cd_7 0 (en as 2) [] h Q) : EV (d + 1) 7 as h Q := EV_in (cd := cd_7) (mx := 2) rfl rfl hw k
theorem in_8 {d : Nat} {as : List Value} {h : mH} {Q : mQ} (hw : wtv as ≤ 1) (k : WR d cd_8 0 (en as 1) [] h Q) : EV (d + 1) 8 as h Q := EV_in (cd := cd_8) (mx := 1) rfl rfl hw k
theorem in_9 {d : Nat} {as : List Value} {h : mH} {Q : mQ} (hw : wtv as ≤ 2) (k : WR d cd_9 0 (en as 2) [] h Q) : EV (d + 1) 9 as h Q := EV_in (cd := cd_9) (mx := 2) rfl rfl hw k
theorem in_10 {d : Nat} {as : List Value} {h : mH} {Q : mQ} (hw : wtv as ≤ 2) (k : WR d cd_10 0 (en as 2) [] h Q) : EV (d + 1) 10 as h Q := EV_in (cd := cd_10) (mx := 2) rfl rfl hw k
theorem in_11 {d : Nat} {as : List Value} {h : mH} {Q : mQ} (hw : wtv as ≤ 4) (k : WR d cd_11 0 (en as 4) [] h Q) : EV (d + 1) 11 as h Q := EV_in (cd := cd_11) (mx := 4) rfl rfl hw k
theorem in_12 {d : Nat} {as : List Value} {h : mH} {Q : mQ} (hw : wtv as ≤ 1) (k : WR d cd_12 0 (en as 1) [] h Q) : EV (d + 1) 12 as h Q := EV_in (cd := cd_12) (mx := 1) rfl rfl hw k
theorem in_13 {d : Nat} {as : List Value} {h : mH} {Q : mQ} (hw : wtv as ≤ 2) (k : WR d cd_13 0 (en as 2) [] h Q) : EV (d + 1) 13 as h Q := EV_in (cd := cd_13) (mx := 2) rfl rfl hw k
theorem in_14 {d : Nat} {as : List Value} {h : mH} {Q : mQ} (hw : wtv as ≤ 1) (k : WR d cd_14 0 (en as 1) [] h Q) : EV (d + 1) 14 as h Q := EV_in (cd := cd_14) (mx := 1) rfl rfl hw k
theorem in_15 {d : Nat} {as : List Value} {h : mH} {Q : mQ} (hw : wtv as ≤ 3) (k : WR d cd_15 0 (en as 3) [] h Q) : EV (d + 1) 15 as h Q := EV_in (cd := cd_15) (mx := 3) rfl rfl hw k
theorem in_16 {d : Nat} {as : List Value} {h : mH} {Q : mQ} (hw : wtv as ≤ 1) (k : WR d cd_16 0 (en as 1) [] h Q) : EV (d + 1) 16 as h Q := EV_in (cd := cd_16) (mx := 1) rfl rfl hw k
theorem in_17 {d : Nat} {as : List Value} {h : mH} {Q : mQ} (hw : wtv as ≤ 6) (k : WR d cd_17 0 (en as 6) [] h Q) : EV (d + 1) 17 as h Q := EV_in (cd := cd_17) (mx := 6) rfl rfl hw k
theorem in_18 {d : Nat} {as : List Value} {h : mH} {Q : mQ} (hw : wtv as ≤ 3) (k : WR d cd_18 0 (en as 3) [] h Q) : EV (d + 1) 18 as h Q := EV_in (cd := cd_18) (mx := 3) rfl rfl hw k
theorem in_19 {d : Nat} {as : List Value} {h : mH} {Q : mQ} (hw : wtv as ≤ 4) (k : WR d cd_19 0 (en as 4) [] h Q) : EV (d + 1) 19 as h Q := EV_in (cd := cd_19) (mx := 4) rfl rfl hw k
theorem in_20 {d : Nat} {as : List Value} {h : mH} {Q : mQ} (hw : wtv as ≤ 1) (k : WR d cd_20 0 (en as 1) [] h Q) : EV (d + 1) 20 as h Q := EV_in (cd := cd_20) (mx := 1) rfl rfl hw k
theorem in_21 {d : Nat} {as : List Value} {h : mH} {Q : mQ} (hw : wtv as ≤ 4) (k : WR d cd_21 0 (en as 4) [] h Q) : EV (d + 1) 21 as h Q := EV_in (cd := cd_21) (mx := 4) rfl rfl hw k
theorem in_22 {d : Nat} {as : List Value} {h : mH} {Q : mQ} (hw : wtv as ≤ 3) (k : WR d cd_22 0 (en as 3) [] h Q) : EV (d + 1) 22 as h Q := EV_in (cd := cd_22) (mx := 3) rfl rfl hw k
theorem in_23 {d : Nat} {as : List Value} {h : mH} {Q : mQ} (hw : wtv as ≤ 3) (k : WR d cd_23 0 (en as 3) [] h Q) : EV (d + 1) 23 as h Q := EV_in (cd := cd_23) (mx := 3) rfl rfl hw k
theorem in_24 {d : Nat} {as : List Value} {h : mH} {Q : mQ} (hw : wtv as ≤ 2) (k : WR d cd_24 0 (en as 2) [] h Q) : EV (d + 1) 24 as h Q := EV_in (cd := cd_24) (mx := 2) rfl rfl hw k
theorem in_25 {d : Nat} {as : List Value} {h : mH} {Q : mQ} (hw : wtv as ≤ 3) (k : WR d cd_25 0 (en as 3) [] h Q) : EV (d + 1) 25 as h Q := EV_in (cd := cd_25) (mx := 3) rfl rfl hw k
theorem in_26 {d : Nat} {as : List Value} {h : mH} {Q : mQ} (hw : wtv as ≤ 1) (k : WR d cd_26 0 (en as 1) [] h Q) : EV (d + 1) 26 as h Q := EV_in (cd := cd_26) (mx := 1) rfl rfl hw k
theorem in_27 {d : Nat} {as : List Value} {h : mH} {Q : mQ} (hw : wtv as ≤ 1) (k : WR d cd_27 0 (en as 1) [] h Q) : EV (d + 1) 27 as h Q := EV_in (cd := cd_27) (mx := 1) rfl rfl hw k
theorem in_28 {d : Nat} {as : List Value} {h : mH} {Q : mQ} (hw : wtv as ≤ 1) (k : WR d cd_28 0 (en as 1) [] h Q) : EV (d + 1) 28 as h Q := EV_in (cd := cd_28) (mx := 1) rfl rfl hw k
theorem in_29 {d : Nat} {as : List Value} {h : mH} {Q : mQ} (hw : wtv as ≤ 7) (k : WR d cd_29 0 (en as 7) [] h Q) : EV (d + 1) 29 as h Q := EV_in (cd := cd_29) (mx := 7) rfl rfl hw k
theorem in_30 {d : Nat} {as : List Value} {h : mH} {Q : mQ} (hw : wtv as ≤ 5) (k : WR d cd_30 0 (en as 5) [] h Q) : EV (d + 1) 30 as h Q := EV_in (cd := cd_30) (mx := 5) rfl rfl hw k
theorem in_31 {d : Nat} {as : List Value} {h : mH} {Q : mQ} (hw : wtv as ≤ 5) (k : WR d cd_31 0 (en as 5) [] h Q) : EV (d + 1) 31 as h Q := EV_in (cd := cd_31) (mx := 5) rfl rfl hw k
theorem in_32 {d : Nat} {as : List Value} {h : mH} {Q : mQ} (hw : wtv as ≤ 3) (k : WR d cd_32 0 (en as 3) [] h Q) : EV (d + 1) 32 as h Q := EV_in (cd := cd_32) (mx := 3) rfl rfl hw k
theorem in_33 {d : Nat} {as : List Value} {h : mH} {Q : mQ} (hw : wtv as ≤ 1) (k : WR d cd_33 0 (en as 1) [] h Q) : EV (d + 1) 33 as h Q := EV_in (cd := cd_33) (mx := 1) rfl rfl hw k
theorem in_34 {d : Nat} {as : List Value} {h : mH} {Q : mQ} (hw : wtv as ≤ 1) (k : WR d cd_34 0 (en as 1) [] h Q) : EV (d + 1) 34 as h Q := EV_in (cd := cd_34) (mx := 1) rfl rfl hw k
theorem in_35 {d : Nat} {as : List Value} {h : mH} {Q : mQ} (hw : wtv as ≤ 1) (k : WR d cd_35 0 (en as 1) [] h Q) : EV (d + 1) 35 as h Q := EV_in (cd := cd_35) (mx := 1) rfl rfl hw k
theorem in_36 {d : Nat} {as : List Value} {h : mH} {Q : mQ} (hw : wtv as ≤ 3) (k : WR d cd_36 0 (en as 3) [] h Q) : EV (d + 1) 36 as h Q := EV_in (cd := cd_36) (mx := 3) rfl rfl hw k
theorem in_37 {d : Nat} {as : List Value} {h : mH} {Q : mQ} (hw : wtv as ≤ 1) (k : WR d cd_37 0 (en as 1) [] h Q) : EV (d + 1) 37 as h Q := EV_in (cd := cd_37) (mx := 1) rfl rfl hw k
theorem in_38 {d : Nat} {as : List Value} {h : mH} {Q : mQ} (hw : wtv as ≤ 2) (k : WR d cd_38 0 (en as 2) [] h Q) : EV (d + 1) 38 as h Q := EV_in (cd := cd_38) (mx := 2) rfl rfl hw k
theorem in_39 {d : Nat} {as : List Value} {h : mH} {Q : mQ} (hw : wtv as ≤ 2) (k : WR d cd_39 0 (en as 2) [] h Q) : EV (d + 1) 39 as h Q := EV_in (cd := cd_39) (mx := 2) rfl rfl hw k
theorem in_40 {d : Nat} {as : List Value} {h : mH} {Q : mQ} (hw : wtv as ≤ 5) (k : WR d cd_40 0 (en as 5) [] h Q) : EV (d + 1) 40 as h Q := EV_in (cd := cd_40) (mx := 5) rfl rfl hw k
theorem in_41 {d : Nat} {as : List Value} {h : mH} {Q : mQ} (hw : wtv as ≤ 6) (k : WR d cd_41 0 (en as 6) [] h Q) : EV (d + 1) 41 as h Q := EV_in (cd := cd_41) (mx := 6) rfl rfl hw k
theorem in_42 {d : Nat} {as : List Value} {h : mH} {Q : mQ} (hw : wtv as ≤ 7) (k : WR d cd_42 0 (en as 7) [] h Q) : EV (d + 1) 42 as h Q := EV_in (cd := cd_42) (mx := 7) rfl rfl hw k
theorem in_43 {d : Nat} {as : List Value} {h : mH} {Q : mQ} (hw : wtv as ≤ 5) (k : WR d cd_43 0 (en as 5) [] h Q) : EV (d + 1) 43 as h Q := EV_in (cd := cd_43) (mx := 5) rfl rfl hw k
theorem in_44 {d : Nat} {as : List Value} {h : mH} {Q : mQ} (hw : wtv as ≤ 5) (k : WR d cd_44 0 (en as 5) [] h Q) : EV (d + 1) 44 as h Q := EV_in (cd := cd_44) (mx := 5) rfl rfl hw k
theorem in_45 {d : Nat} {as : List Value} {h : mH} {Q : mQ} (hw : wtv as ≤ 4) (k : WR d cd_45 0 (en as 4) [] h Q) : EV (d + 1) 45 as h Q := EV_in (cd := cd_45) (mx := 4) rfl rfl hw k
theorem in_46 {d : Nat} {as : List Value} {h : mH} {Q : mQ} (hw : wtv as ≤ 8) (k : WR d cd_46 0 (en as 8) [] h Q) : EV (d + 1) 46 as h Q := EV_in (cd := cd_46) (mx := 8) rfl rfl hw k
theorem in_47 {d : Nat} {as : List Value} {h : mH} {Q : mQ} (hw : wtv as ≤ 3) (k : WR d cd_47 0 (en as 3) [] h Q) : EV (d + 1) 47 as h Q := EV_in (cd := cd_47) (mx := 3) rfl rfl hw k
theorem in_48 {d : Nat} {as : List Value} {h : mH} {Q : mQ} (hw : wtv as ≤ 2) (k : WR d cd_48 0 (en as 2) [] h Q) : EV (d + 1) 48 as h Q := EV_in (cd := cd_48) (mx := 2) rfl rfl hw k
theorem in_49 {d : Nat} {as : List Value} {h : mH} {Q : mQ} (hw : wtv as ≤ 4) (k : WR d cd_49 0 (en as 4) [] h Q) : EV (d + 1) 49 as h Q := EV_in (cd := cd_49) (mx := 4) rfl rfl hw k
theorem in_50 {d : Nat} {as : List Value} {h : mH} {Q : mQ} (hw : wtv as ≤ 8) (k : WR d cd_50 0 (en as 8) [] h Q) : EV (d + 1) 50 as h Q := EV_in (cd := cd_50) (mx := 8) rfl rfl hw k
theorem in_51 {d : Nat} {as : List Value} {h : mH} {Q : mQ} (hw : wtv as ≤ 9) (k : WR d cd_51 0 (en as 9) [] h Q) : EV (d + 1) 51 as h Q := EV_in (cd := cd_51) (mx := 9) rfl rfl hw k
theorem in_52 {d : Nat} {as : List Value} {h : mH} {Q : mQ} (hw : wtv as ≤ 2) (k : WR d cd_52 0 (en as 2) [] h Q) : EV (d + 1) 52 as h Q := EV_in (cd := cd_52) (mx := 2) rfl rfl hw k
theorem in_53 {d : Nat} {as : List Value} {h : mH} {Q : mQ} (hw : wtv as ≤ 2) (k : WR d cd_53 0 (en as 2) [] h Q) : EV (d + 1) 53 as h Q := EV_in (cd := cd_53) (mx := 2) rfl rfl hw k
theorem in_54 {d : Nat} {as : List Value} {h : mH} {Q : mQ} (hw : wtv as ≤ 2) (k : WR d cd_54 0 (en as 2) [] h Q) : EV (d + 1) 54 as h Q := EV_in (cd := cd_54) (mx := 2) rfl rfl hw k
theorem in_55 {d : Nat} {as : List Value} {h : mH} {Q : mQ} (hw : wtv as ≤ 5) (k : WR d cd_55 0 (en as 5) [] h Q) : EV (d + 1) 55 as h Q := EV_in (cd := cd_55) (mx := 5) rfl rfl hw k
theorem in_56 {d : Nat} {as : List Value} {h : mH} {Q : mQ} (hw : wtv as ≤ 6) (k : WR d cd_56 0 (en as 6) [] h Q) : EV (d + 1) 56 as h Q := EV_in (cd := cd_56) (mx := 6) rfl rfl hw k
theorem in_57 {d : Nat} {as : List Value} {h : mH} {Q : mQ} (hw : wtv as ≤ 8) (k : WR d cd_57 0 (en as 8) [] h Q) : EV (d + 1) 57 as h Q := EV_in (cd := cd_57) (mx := 8) rfl rfl hw k
theorem in_58 {d : Nat} {as : List Value} {h : mH} {Q : mQ} (hw : wtv as ≤ 4) (k : WR d cd_58 0 (en as 4) [] h Q) : EV (d + 1) 58 as h Q := EV_in (cd := cd_58) (mx := 4) rfl rfl hw k
theorem in_59 {d : Nat} {as : List Value} {h : mH} {Q : mQ} (hw : wtv as ≤ 5) (k : WR d cd_59 0 (en as 5) [] h Q) : EV (d + 1) 59 as h Q := EV_in (cd := cd_59) (mx := 5) rfl rfl hw k
theorem in_60 {d : Nat} {as : List Value} {h : mH} {Q : mQ} (hw : wtv as ≤ 2) (k : WR d cd_60 0 (en as 2) [] h Q) : EV (d + 1) 60 as h Q := EV_in (cd := cd_60) (mx := 2) rfl rfl hw k
theorem in_61 {d : Nat} {as : List Value} {h : mH} {Q : mQ} (hw : wtv as ≤ 4) (k : WR d cd_61 0 (en as 4) [] h Q) : EV (d + 1) 61 as h Q := EV_in (cd := cd_61) (mx := 4) rfl rfl hw k
theorem in_62 {d : Nat} {as : List Value} {h : mH} {Q : mQ} (hw : wtv as ≤ 4) (k : WR d cd_62 0 (en as 4) [] h Q) : EV (d + 1) 62 as h Q := EV_in (cd := cd_62) (mx := 4) rfl rfl hw k
theorem in_63 {d : Nat} {as : List Value} {h : mH} {Q : mQ} (hw : wtv as ≤ 3) (k : WR d cd_63 0 (en as 3) [] h Q) : EV (d + 1) 63 as h Q := EV_in (cd := cd_63) (mx := 3) rfl rfl hw k
theorem in_64 {d : Nat} {as : List Value} {h : mH} {Q : mQ} (hw : wtv as ≤ 6) (k : WR d cd_64 0 (en as 6) [] h Q) : EV (d + 1) 64 as h Q := EV_in (cd := cd_64) (mx := 6) rfl rfl hw k
theorem in_65 {d : Nat} {as : List Value} {h : mH} {Q : mQ} (hw : wtv as ≤ 2) (k : WR d cd_65 0 (en as 2) [] h Q) : EV (d + 1) 65 as h Q := EV_in (cd := cd_65) (mx := 2) rfl rfl hw k
theorem in_66 {d : Nat} {as : List Value} {h : mH} {Q : mQ} (hw : wtv as ≤ 4) (k : WR d cd_66 0 (en as 4) [] h Q) : EV (d + 1) 66 as h Q := EV_in (cd := cd_66) (mx := 4) rfl rfl hw k
theorem in_67 {d : Nat} {as : List Value} {h : mH} {Q : mQ} (hw : wtv as ≤ 2) (k : WR d cd_67 0 (en as 2) [] h Q) : EV (d + 1) 67 as h Q := EV_in (cd := cd_67) (mx := 2) rfl rfl hw k
theorem in_68 {d : Nat} {as : List Value} {h : mH} {Q : mQ} (hw : wtv as ≤ 2) (k : WR d cd_68 0 (en as 2) [] h Q) : EV (d + 1) 68 as h Q := EV_in (cd := cd_68) (mx := 2) rfl rfl hw k
theorem in_69 {d : Nat} {as : List Value} {h : mH} {Q : mQ} (hw : wtv as ≤ 3) (k : WR d cd_69 0 (en as 3) [] h Q) : EV (d + 1) 69 as h Q := EV_in (cd := cd_69) (mx := 3) rfl rfl hw k
theorem in_70 {d : Nat} {as : List Value} {h : mH} {Q : mQ} (hw : wtv as ≤ 4) (k : WR d cd_70 0 (en as 4) [] h Q) : EV (d + 1) 70 as h Q := EV_in (cd := cd_70) (mx := 4) rfl rfl hw k
theorem in_71 {d : Nat} {as : List Value} {h : mH} {Q : mQ} (hw : wtv as ≤ 3) (k : WR d cd_71 0 (en as 3) [] h Q) : EV (d + 1) 71 as h Q := EV_in (cd := cd_71) (mx := 3) rfl rfl hw k
theorem in_72 {d : Nat} {as : List Value} {h : mH} {Q : mQ} (hw : wtv as ≤ 4) (k : WR d cd_72 0 (en as 4) [] h Q) : EV (d + 1) 72 as h Q := EV_in (cd := cd_72) (mx := 4) rfl rfl hw k
theorem in_73 {d : Nat} {as : List Value} {h : mH} {Q : mQ} (hw : wtv as ≤ 2) (k : WR d cd_73 0 (en as 2) [] h Q) : EV (d + 1) 73 as h Q := EV_in (cd := cd_73) (mx := 2) rfl rfl hw k
theorem in_74 {d : Nat} {as : List Value} {h : mH} {Q : mQ} (hw : wtv as ≤ 2) (k : WR d cd_74 0 (en as 2) [] h Q) : EV (d + 1) 74 as h Q := EV_in (cd := cd_74) (mx := 2) rfl rfl hw k
theorem in_75 {d : Nat} {as : List Value} {h : mH} {Q : mQ} (hw : wtv as ≤ 6) (k : WR d cd_75 0 (en as 6) [] h Q) : EV (d + 1) 75 as h Q := EV_in (cd := cd_75) (mx := 6) rfl rfl hw k
theorem in_76 {d : Nat} {as : List Value} {h : mH} {Q : mQ} (hw : wtv as ≤ 1) (k : WR d cd_76 0 (en as 1) [] h Q) : EV (d + 1) 76 as h Q := EV_in (cd := cd_76) (mx := 1) rfl rfl hw k
theorem in_77 {d : Nat} {as : List Value} {h : mH} {Q : mQ} (hw : wtv as ≤ 6) (k : WR d cd_77 0 (en as 6) [] h Q) : EV (d + 1) 77 as h Q := EV_in (cd := cd_77) (mx := 6) rfl rfl hw k
theorem in_78 {d : Nat} {as : List Value} {h : mH} {Q : mQ} (hw : wtv as ≤ 2) (k : WR d cd_78 0 (en as 2) [] h Q) : EV (d + 1) 78 as h Q := EV_in (cd := cd_78) (mx := 2) rfl rfl hw k
theorem in_79 {d : Nat} {as : List Value} {h : mH} {Q : mQ} (hw : wtv as ≤ 7) (k : WR d cd_79 0 (en as 7) [] h Q) : EV (d + 1) 79 as h Q := EV_in (cd := cd_79) (mx := 7) rfl rfl hw k
theorem in_80 {d : Nat} {as : List Value} {h : mH} {Q : mQ} (hw : wtv as ≤ 3) (k : WR d cd_80 0 (en as 3) [] h Q) : EV (d + 1) 80 as h Q := EV_in (cd := cd_80) (mx := 3) rfl rfl hw k
theorem in_81 {d : Nat} {as : List Value} {h : mH} {Q : mQ} (hw : wtv as ≤ 6) (k : WR d cd_81 0 (en as 6) [] h Q) : EV (d + 1) 81 as h Q := EV_in (cd := cd_81) (mx := 6) rfl rfl hw k
theorem in_82 {d : Nat} {as : List Value} {h : mH} {Q : mQ} (hw : wtv as ≤ 2) (k : WR d cd_82 0 (en as 2) [] h Q) : EV (d + 1) 82 as h Q := EV_in (cd := cd_82) (mx := 2) rfl rfl hw k
theorem in_83 {d : Nat} {as : List Value} {h : mH} {Q : mQ} (hw : wtv as ≤ 2) (k : WR d cd_83 0 (en as 2) [] h Q) : EV (d + 1) 83 as h Q := EV_in (cd := cd_83) (mx := 2) rfl rfl hw k
theorem in_84 {d : Nat} {as : List Value} {h : mH} {Q : mQ} (hw : wtv as ≤ 7) (k : WR d cd_84 0 (en as 7) [] h Q) : EV (d + 1) 84 as h Q := EV_in (cd := cd_84) (mx := 7) rfl rfl hw k
theorem in_85 {d : Nat} {as : List Value} {h : mH} {Q : mQ} (hw : wtv as ≤ 7) (k : WR d cd_85 0 (en as 7) [] h Q) : EV (d + 1) 85 as h Q := EV_in (cd := cd_85) (mx := 7) rfl rfl hw k
theorem in_86 {d : Nat} {as : List Value} {h : mH} {Q : mQ} (hw : wtv as ≤ 6) (k : WR d cd_86 0 (en as 6) [] h Q) : EV (d + 1) 86 as h Q := EV_in (cd := cd_86) (mx := 6) rfl rfl hw k
theorem in_87 {d : Nat} {as : List Value} {h : mH} {Q : mQ} (hw : wtv as ≤ 5) (k : WR d cd_87 0 (en as 5) [] h Q) : EV (d + 1) 87 as h Q := EV_in (cd := cd_87) (mx := 5) rfl rfl hw k
theorem in_88 {d : Nat} {as : List Value} {h : mH} {Q : mQ} (hw : wtv as ≤ 9) (k : WR d cd_88 0 (en as 9) [] h Q) : EV (d + 1) 88 as h Q := EV_in (cd := cd_88) (mx := 9) rfl rfl hw k
theorem in_89 {d : Nat} {as : List Value} {h : mH} {Q : mQ} (hw : wtv as ≤ 2) (k : WR d cd_89 0 (en as 2) [] h Q) : EV (d + 1) 89 as h Q := EV_in (cd := cd_89) (mx := 2) rfl rfl hw k
theorem in_90 {d : Nat} {as : List Value} {h : mH} {Q : mQ} (hw : wtv as ≤ 9) (k : WR d cd_90 0 (en as 9) [] h Q) : EV (d + 1) 90 as h Q := EV_in (cd := cd_90) (mx := 9) rfl rfl hw k
theorem in_91 {d : Nat} {as : List Value} {h : mH} {Q : mQ} (hw : wtv as ≤ 9) (k : WR d cd_91 0 (en as 9) [] h Q) : EV (d + 1) 91 as h Q := EV_in (cd := cd_91) (mx := 9) rfl rfl hw k
theorem in_92 {d : Nat} {as : List Value} {h : mH} {Q : mQ} (hw : wtv as ≤ 6) (k : WR d cd_92 0 (en as 6) [] h Q) : EV (d + 1) 92 as h Q := EV_in (cd := cd_92) (mx := 6) rfl rfl hw k
theorem in_93 {d : Nat} {as : List Value} {h : mH} {Q : mQ} (hw : wtv as ≤ 1) (k : WR d cd_93 0 (en as 1) [] h Q) : EV (d + 1) 93 as h Q := EV_in (cd := cd_93) (mx := 1) rfl rfl hw k
theorem in_94 {d : Nat} {as : List Value} {h : mH} {Q : mQ} (hw : wtv as ≤ 5) (k : WR d cd_94 0 (en as 5) [] h Q) : EV (d + 1) 94 as h Q := EV_in (cd := cd_94) (mx := 5) rfl rfl hw k
theorem in_95 {d : Nat} {as : List Value} {h : mH} {Q : mQ} (hw : wtv as ≤ 2) (k : WR d cd_95 0 (en as 2) [] h Q) : EV (d + 1) 95 as h Q := EV_in (cd := cd_95) (mx := 2) rfl rfl hw k
theorem in_96 {d : Nat} {as : List Value} {h : mH} {Q : mQ} (hw : wtv as ≤ 7) (k : WR d cd_96 0 (en as 7) [] h Q) : EV (d + 1) 96 as h Q := EV_in (cd := cd_96) (mx := 7) rfl rfl hw k
theorem in_97 {d : Nat} {as : List Value} {h : mH} {Q : mQ} (hw : wtv as ≤ 3) (k : WR d cd_97 0 (en as 3) [] h Q) : EV (d + 1) 97 as h Q := EV_in (cd := cd_97) (mx := 3) rfl rfl hw k
theorem in_98 {d : Nat} {as : List Value} {h : mH} {Q : mQ} (hw : wtv as ≤ 3) (k : WR d cd_98 0 (en as 3) [] h Q) : EV (d + 1) 98 as h Q := EV_in (cd := cd_98) (mx := 3) rfl rfl hw k
theorem in_99 {d : Nat} {as : List Value} {h : mH} {Q : mQ} (hw : wtv as ≤ 5) (k : WR d cd_99 0 (en as 5) [] h Q) : EV (d + 1) 99 as h Q := EV_in (cd := cd_99) (mx := 5) rfl rfl hw k
theorem in_100 {d : Nat} {as : List Value} {h : mH} {Q : mQ} (hw : wtv as ≤ 4) (k : WR d cd_100 0 (en as 4) [] h Q) : EV (d + 1) 100 as h Q := EV_in (cd := cd_100) (mx := 4) rfl rfl hw k
theorem in_101 {d : Nat} {as : List Value} {h : mH} {Q : mQ} (hw : wtv as ≤ 5) (k : WR d cd_101 0 (en as 5) [] h Q) : EV (d + 1) 101 as h Q := EV_in (cd := cd_101) (mx := 5) rfl rfl hw k
theorem in_102 {d : Nat} {as : List Value} {h : mH} {Q : mQ} (hw : wtv as ≤ 6) (k : WR d cd_102 0 (en as 6) [] h Q) : EV (d + 1) 102 as h Q := EV_in (cd := cd_102) (mx := 6) rfl rfl hw k
theorem in_103 {d : Nat} {as : List Value} {h : mH} {Q : mQ} (hw : wtv as ≤ 2) (k : WR d cd_103 0 (en as 2) [] h Q) : EV (d + 1) 103 as h Q := EV_in (cd := cd_103) (mx := 2) rfl rfl hw k
theorem in_104 {d : Nat} {as : List Value} {h : mH} {Q : mQ} (hw : wtv as ≤ 3) (k : WR d cd_104 0 (en as 3) [] h Q) : EV (d + 1) 104 as h Q := EV_in (cd := cd_104) (mx := 3) rfl rfl hw k
theorem in_105 {d : Nat} {as : List Value} {h : mH} {Q : mQ} (hw : wtv as ≤ 3) (k : WR d cd_105 0 (en as 3) [] h Q) : EV (d + 1) 105 as h Q := EV_in (cd := cd_105) (mx := 3) rfl rfl hw k
theorem in_106 {d : Nat} {as : List Value} {h : mH} {Q : mQ} (hw : wtv as ≤ 1) (k : WR d cd_106 0 (en as 1) [] h Q) : EV (d + 1) 106 as h Q := EV_in (cd := cd_106) (mx := 1) rfl rfl hw k
theorem in_107 {d : Nat} {as : List Value} {h : mH} {Q : mQ} (hw : wtv as ≤ 6) (k : WR d cd_107 0 (en as 6) [] h Q) : EV (d + 1) 107 as h Q := EV_in (cd := cd_107) (mx := 6) rfl rfl hw k
theorem in_108 {d : Nat} {as : List Value} {h : mH} {Q : mQ} (hw : wtv as ≤ 3) (k : WR d cd_108 0 (en as 3) [] h Q) : EV (d + 1) 108 as h Q := EV_in (cd := cd_108) (mx := 3) rfl rfl hw k
theorem in_109 {d : Nat} {as : List Value} {h : mH} {Q : mQ} (hw : wtv as ≤ 2) (k : WR d cd_109 0 (en as 2) [] h Q) : EV (d + 1) 109 as h Q := EV_in (cd := cd_109) (mx := 2) rfl rfl hw k
theorem in_110 {d : Nat} {as : List Value} {h : mH} {Q : mQ} (hw : wtv as ≤ 4) (k : WR d cd_110 0 (en as 4) [] h Q) : EV (d + 1) 110 as h Q := EV_in (cd := cd_110) (mx := 4) rfl rfl hw k
theorem in_111 {d : Nat} {as : List Value} {h : mH} {Q : mQ} (hw : wtv as ≤ 7) (k : WR d cd_111 0 (en as 7) [] h Q) : EV (d + 1) 111 as h Q := EV_in (cd := cd_111) (mx := 7) rfl rfl hw k
theorem in_112 {d : Nat} {as : List Value} {h : mH} {Q : mQ} (hw : wtv as ≤ 7) (k : WR d cd_112 0 (en as 7) [] h Q) : EV (d + 1) 112 as h Q := EV_in (cd := cd_112) (mx := 7) rfl rfl hw k
theorem in_113 {d : Nat} {as : List Value} {h : mH} {Q : mQ} (hw : wtv as ≤ 5) (k : WR d cd_113 0 (en as 5) [] h Q) : EV (d + 1) 113 as h Q := EV_in (cd := cd_113) (mx := 5) rfl rfl hw k
theorem in_114 {d : Nat} {as : List Value} {h : mH} {Q : mQ} (hw : wtv as ≤ 6) (k : WR d cd_114 0 (en as 6) [] h Q) : EV (d + 1) 114 as h Q := EV_in (cd := cd_114) (mx := 6) rfl rfl hw k
theorem in_115 {d : Nat} {as : List Value} {h : mH} {Q : mQ} (hw : wtv as ≤ 3) (k : WR d cd_115 0 (en as 3) [] h Q) : EV (d + 1) 115 as h Q := EV_in (cd := cd_115) (mx := 3) rfl rfl hw k
theorem in_116 {d : Nat} {as : List Value} {h : mH} {Q : mQ} (hw : wtv as ≤ 4) (k : WR d cd_116 0 (en as 4) [] h Q) : EV (d + 1) 116 as h Q := EV_in (cd := cd_116) (mx := 4) rfl rfl hw k
theorem in_117 {d : Nat} {as : List Value} {h : mH} {Q : mQ} (hw : wtv as ≤ 5) (k : WR d cd_117 0 (en as 5) [] h Q) : EV (d + 1) 117 as h Q := EV_in (cd := cd_117) (mx := 5) rfl rfl hw k
theorem in_118 {d : Nat} {as : List Value} {h : mH} {Q : mQ} (hw : wtv as ≤ 2) (k : WR d cd_118 0 (en as 2) [] h Q) : EV (d + 1) 118 as h Q := EV_in (cd := cd_118) (mx := 2) rfl rfl hw k
theorem in_119 {d : Nat} {as : List Value} {h : mH} {Q : mQ} (hw : wtv as ≤ 2) (k : WR d cd_119 0 (en as 2) [] h Q) : EV (d + 1) 119 as h Q := EV_in (cd := cd_119) (mx := 2) rfl rfl hw k
theorem in_120 {d : Nat} {as : List Value} {h : mH} {Q : mQ} (hw : wtv as ≤ 2) (k : WR d cd_120 0 (en as 2) [] h Q) : EV (d + 1) 120 as h Q := EV_in (cd := cd_120) (mx := 2) rfl rfl hw k
theorem in_121 {d : Nat} {as : List Value} {h : mH} {Q : mQ} (hw : wtv as ≤ 4) (k : WR d cd_121 0 (en as 4) [] h Q) : EV (d + 1) 121 as h Q := EV_in (cd := cd_121) (mx := 4) rfl rfl hw k
theorem in_122 {d : Nat} {as : List Value} {h : mH} {Q : mQ} (hw : wtv as ≤ 5) (k : WR d cd_122 0 (en as 5) [] h Q) : EV (d + 1) 122 as h Q := EV_in (cd := cd_122) (mx := 5) rfl rfl hw k
theorem in_123 {d : Nat} {as : List Value} {h : mH} {Q : mQ} (hw : wtv as ≤ 3) (k : WR d cd_123 0 (en as 3) [] h Q) : EV (d + 1) 123 as h Q := EV_in (cd := cd_123) (mx := 3) rfl rfl hw k
theorem in_124 {d : Nat} {as : List Value} {h : mH} {Q : mQ} (hw : wtv as ≤ 4) (k : WR d cd_124 0 (en as 4) [] h Q) : EV (d + 1) 124 as h Q := EV_in (cd := cd_124) (mx := 4) rfl rfl hw k
theorem in_125 {d : Nat} {as : List Value} {h : mH} {Q : mQ} (hw : wtv as ≤ 2) (k : WR d cd_125 0 (en as 2) [] h Q) : EV (d + 1) 125 as h Q := EV_in (cd := cd_125) (mx := 2) rfl rfl hw k
theorem in_126 {d : Nat} {as : List Value} {h : mH} {Q : mQ} (hw : wtv as ≤ 6) (k : WR d cd_126 0 (en as 6) [] h Q) : EV (d + 1) 126 as h Q := EV_in (cd := cd_126) (mx := 6) rfl rfl hw k
theorem in_127 {d : Nat} {as : List Value} {h : mH} {Q : mQ} (hw : wtv as ≤ 4) (k : WR d cd_127 0 (en as 4) [] h Q) : EV (d + 1) 127 as h Q := EV_in (cd := cd_127) (mx := 4) rfl rfl hw k
theorem in_128 {d : Nat} {as : List Value} {h : mH} {Q : mQ} (hw : wtv as ≤ 6) (k : WR d cd_128 0 (en as 6) [] h Q) : EV (d + 1) 128 as h Q := EV_in (cd := cd_128) (mx := 6) rfl rfl hw k
theorem in_129 {d : Nat} {as : List Value} {h : mH} {Q : mQ} (hw : wtv as ≤ 2) (k : WR d cd_129 0 (en as 2) [] h Q) : EV (d + 1) 129 as h Q := EV_in (cd := cd_129) (mx := 2) rfl rfl hw k
theorem in_130 {d : Nat} {as : List Value} {h : mH} {Q : mQ} (hw : wtv as ≤ 6) (k : WR d cd_130 0 (en as 6) [] h Q) : EV (d + 1) 130 as h Q := EV_in (cd := cd_130) (mx := 6) rfl rfl hw k
theorem in_131 {d : Nat} {as : List Value} {h : mH} {Q : mQ} (hw : wtv as ≤ 4) (k : WR d cd_131 0 (en as 4) [] h Q) : EV (d + 1) 131 as h Q := EV_in (cd := cd_131) (mx := 4) rfl rfl hw k
theorem in_132 {d : Nat} {as : List Value} {h : mH} {Q : mQ} (hw : wtv as ≤ 1) (k : WR d cd_132 0 (en as 1) [] h Q) : EV (d + 1) 132 as h Q := EV_in (cd := cd_132) (mx := 1) rfl rfl hw k
theorem in_133 {d : Nat} {as : List Value} {h : mH} {Q : mQ} (hw : wtv as ≤ 12) (k : WR d cd_133 0 (en as 12) [] h Q) : EV (d + 1) 133 as h Q := EV_in (cd := cd_133) (mx := 12) rfl rfl hw k
theorem in_134 {d : Nat} {as : List Value} {h : mH} {Q : mQ} (hw : wtv as ≤ 16) (k : WR d cd_134 0 (en as 16) [] h Q) : EV (d + 1) 134 as h Q := EV_in (cd := cd_134) (mx := 16) rfl rfl hw k
theorem in_135 {d : Nat} {as : List Value} {h : mH} {Q : mQ} (hw : wtv as ≤ 2) (k : WR d cd_135 0 (en as 2) [] h Q) : EV (d + 1) 135 as h Q := EV_in (cd := cd_135) (mx := 2) rfl rfl hw k
theorem in_136 {d : Nat} {as : List Value} {h : mH} {Q : mQ} (hw : wtv as ≤ 6) (k : WR d cd_136 0 (en as 6) [] h Q) : EV (d + 1) 136 as h Q := EV_in (cd := cd_136) (mx := 6) rfl rfl hw k
theorem in_137 {d : Nat} {as : List Value} {h : mH} {Q : mQ} (hw : wtv as ≤ 3) (k : WR d cd_137 0 (en as 3) [] h Q) : EV (d + 1) 137 as h Q := EV_in (cd := cd_137) (mx := 3) rfl rfl hw k
theorem in_138 {d : Nat} {as : List Value} {h : mH} {Q : mQ} (hw : wtv as ≤ 4) (k : WR d cd_138 0 (en as 4) [] h Q) : EV (d + 1) 138 as h Q := EV_in (cd := cd_138) (mx := 4) rfl rfl hw k
theorem in_139 {d : Nat} {as : List Value} {h : mH} {Q : mQ} (hw : wtv as ≤ 3) (k : WR d cd_139 0 (en as 3) [] h Q) : EV (d + 1) 139 as h Q := EV_in (cd := cd_139) (mx := 3) rfl rfl hw k
theorem in_140 {d : Nat} {as : List Value} {h : mH} {Q : mQ} (hw : wtv as ≤ 3) (k : WR d cd_140 0 (en as 3) [] h Q) : EV (d + 1) 140 as h Q := EV_in (cd := cd_140) (mx := 3) rfl rfl hw k
theorem in_141 {d : Nat} {as : List Value} {h : mH} {Q : mQ} (hw : wtv as ≤ 5) (k : WR d cd_141 0 (en as 5) [] h Q) : EV (d + 1) 141 as h Q := EV_in (cd := cd_141) (mx := 5) rfl rfl hw k
theorem in_142 {d : Nat} {as : List Value} {h : mH} {Q : mQ} (hw : wtv as ≤ 2) (k : WR d cd_142 0 (en as 2) [] h Q) : EV (d + 1) 142 as h Q := EV_in (cd := cd_142) (mx := 2) rfl rfl hw k
theorem in_143 {d : Nat} {as : List Value} {h : mH} {Q : mQ} (hw : wtv as ≤ 3) (k : WR d cd_143 0 (en as 3) [] h Q) : EV (d + 1) 143 as h Q := EV_in (cd := cd_143) (mx := 3) rfl rfl hw k
theorem in_144 {d : Nat} {as : List Value} {h : mH} {Q : mQ} (hw : wtv as ≤ 3) (k : WR d cd_144 0 (en as 3) [] h Q) : EV (d + 1) 144 as h Q := EV_in (cd := cd_144) (mx := 3) rfl rfl hw k
theorem in_145 {d : Nat} {as : List Value} {h : mH} {Q : mQ} (hw : wtv as ≤ 3) (k : WR d cd_145 0 (en as 3) [] h Q) : EV (d + 1) 145 as h Q := EV_in (cd := cd_145) (mx := 3) rfl rfl hw k
theorem in_146 {d : Nat} {as : List Value} {h : mH} {Q : mQ} (hw : wtv as ≤ 1) (k : WR d cd_146 0 (en as 1) [] h Q) : EV (d + 1) 146 as h Q := EV_in (cd := cd_146) (mx := 1) rfl rfl hw k
theorem in_147 {d : Nat} {as : List Value} {h : mH} {Q : mQ} (hw : wtv as ≤ 2) (k : WR d cd_147 0 (en as 2) [] h Q) : EV (d + 1) 147 as h Q := EV_in (cd := cd_147) (mx := 2) rfl rfl hw k
theorem in_148 {d : Nat} {as : List Value} {h : mH} {Q : mQ} (hw : wtv as ≤ 3) (k : WR d cd_148 0 (en as 3) [] h Q) : EV (d + 1) 148 as h Q := EV_in (cd := cd_148) (mx := 3) rfl rfl hw k
theorem in_149 {d : Nat} {as : List Value} {h : mH} {Q : mQ} (hw : wtv as ≤ 2) (k : WR d cd_149 0 (en as 2) [] h Q) : EV (d + 1) 149 as h Q := EV_in (cd := cd_149) (mx := 2) rfl rfl hw k
theorem in_150 {d : Nat} {as : List Value} {h : mH} {Q : mQ} (hw : wtv as ≤ 3) (k : WR d cd_150 0 (en as 3) [] h Q) : EV (d + 1) 150 as h Q := EV_in (cd := cd_150) (mx := 3) rfl rfl hw k
theorem in_151 {d : Nat} {as : List Value} {h : mH} {Q : mQ} (hw : wtv as ≤ 2) (k : WR d cd_151 0 (en as 2) [] h Q) : EV (d + 1) 151 as h Q := EV_in (cd := cd_151) (mx := 2) rfl rfl hw k
theorem in_152 {d : Nat} {as : List Value} {h : mH} {Q : mQ} (hw : wtv as ≤ 4) (k : WR d cd_152 0 (en as 4) [] h Q) : EV (d + 1) 152 as h Q := EV_in (cd := cd_152) (mx := 4) rfl rfl hw k
theorem in_153 {d : Nat} {as : List Value} {h : mH} {Q : mQ} (hw : wtv as ≤ 1) (k : WR d cd_153 0 (en as 1) [] h Q) : EV (d + 1) 153 as h Q := EV_in (cd := cd_153) (mx := 1) rfl rfl hw k
theorem in_154 {d : Nat} {as : List Value} {h : mH} {Q : mQ} (hw : wtv as ≤ 2) (k : WR d cd_154 0 (en as 2) [] h Q) : EV (d + 1) 154 as h Q := EV_in (cd := cd_154) (mx := 2) rfl rfl hw k
theorem in_155 {d : Nat} {as : List Value} {h : mH} {Q : mQ} (hw : wtv as ≤ 6) (k : WR d cd_155 0 (en as 6) [] h Q) : EV (d + 1) 155 as h Q := EV_in (cd := cd_155) (mx := 6) rfl rfl hw k
theorem in_156 {d : Nat} {as : List Value} {h : mH} {Q : mQ} (hw : wtv as ≤ 2) (k : WR d cd_156 0 (en as 2) [] h Q) : EV (d + 1) 156 as h Q := EV_in (cd := cd_156) (mx := 2) rfl rfl hw k
theorem in_157 {d : Nat} {as : List Value} {h : mH} {Q : mQ} (hw : wtv as ≤ 4) (k : WR d cd_157 0 (en as 4) [] h Q) : EV (d + 1) 157 as h Q := EV_in (cd := cd_157) (mx := 4) rfl rfl hw k
theorem in_158 {d : Nat} {as : List Value} {h : mH} {Q : mQ} (hw : wtv as ≤ 3) (k : WR d cd_158 0 (en as 3) [] h Q) : EV (d + 1) 158 as h Q := EV_in (cd := cd_158) (mx := 3) rfl rfl hw k
theorem in_159 {d : Nat} {as : List Value} {h : mH} {Q : mQ} (hw : wtv as ≤ 6) (k : WR d cd_159 0 (en as 6) [] h Q) : EV (d + 1) 159 as h Q := EV_in (cd := cd_159) (mx := 6) rfl rfl hw k
theorem in_160 {d : Nat} {as : List Value} {h : mH} {Q : mQ} (hw : wtv as ≤ 6) (k : WR d cd_160 0 (en as 6) [] h Q) : EV (d + 1) 160 as h Q := EV_in (cd := cd_160) (mx := 6) rfl rfl hw k
theorem in_161 {d : Nat} {as : List Value} {h : mH} {Q : mQ} (hw : wtv as ≤ 4) (k : WR d cd_161 0 (en as 4) [] h Q) : EV (d + 1) 161 as h Q := EV_in (cd := cd_161) (mx := 4) rfl rfl hw k
theorem in_162 {d : Nat} {as : List Value} {h : mH} {Q : mQ} (hw : wtv as ≤ 3) (k : WR d cd_162 0 (en as 3) [] h Q) : EV (d + 1) 162 as h Q := EV_in (cd := cd_162) (mx := 3) rfl rfl hw k
theorem in_163 {d : Nat} {as : List Value} {h : mH} {Q : mQ} (hw : wtv as ≤ 4) (k : WR d cd_163 0 (en as 4) [] h Q) : EV (d + 1) 163 as h Q := EV_in (cd := cd_163) (mx := 4) rfl rfl hw k
theorem in_164 {d : Nat} {as : List Value} {h : mH} {Q : mQ} (hw : wtv as ≤ 3) (k : WR d cd_164 0 (en as 3) [] h Q) : EV (d + 1) 164 as h Q := EV_in (cd := cd_164) (mx := 3) rfl rfl hw k
theorem in_165 {d : Nat} {as : List Value} {h : mH} {Q : mQ} (hw : wtv as ≤ 2) (k : WR d cd_165 0 (en as 2) [] h Q) : EV (d + 1) 165 as h Q := EV_in (cd := cd_165) (mx := 2) rfl rfl hw k
theorem in_166 {d : Nat} {as : List Value} {h : mH} {Q : mQ} (hw : wtv as ≤ 2) (k : WR d cd_166 0 (en as 2) [] h Q) : EV (d + 1) 166 as h Q := EV_in (cd := cd_166) (mx := 2) rfl rfl hw k
theorem in_167 {d : Nat} {as : List Value} {h : mH} {Q : mQ} (hw : wtv as ≤ 7) (k : WR d cd_167 0 (en as 7) [] h Q) : EV (d + 1) 167 as h Q := EV_in (cd := cd_167) (mx := 7) rfl rfl hw k
theorem in_168 {d : Nat} {as : List Value} {h : mH} {Q : mQ} (hw : wtv as ≤ 4) (k : WR d cd_168 0 (en as 4) [] h Q) : EV (d + 1) 168 as h Q := EV_in (cd := cd_168) (mx := 4) rfl rfl hw k
theorem in_169 {d : Nat} {as : List Value} {h : mH} {Q : mQ} (hw : wtv as ≤ 3) (k : WR d cd_169 0 (en as 3) [] h Q) : EV (d + 1) 169 as h Q := EV_in (cd := cd_169) (mx := 3) rfl rfl hw k
theorem in_170 {d : Nat} {as : List Value} {h : mH} {Q : mQ} (hw : wtv as ≤ 5) (k : WR d cd_170 0 (en as 5) [] h Q) : EV (d + 1) 170 as h Q := EV_in (cd := cd_170) (mx := 5) rfl rfl hw k
theorem in_171 {d : Nat} {as : List Value} {h : mH} {Q : mQ} (hw : wtv as ≤ 2) (k : WR d cd_171 0 (en as 2) [] h Q) : EV (d + 1) 171 as h Q := EV_in (cd := cd_171) (mx := 2) rfl rfl hw k
theorem in_172 {d : Nat} {as : List Value} {h : mH} {Q : mQ} (hw : wtv as ≤ 6) (k : WR d cd_172 0 (en as 6) [] h Q) : EV (d + 1) 172 as h Q := EV_in (cd := cd_172) (mx := 6) rfl rfl hw k
theorem in_173 {d : Nat} {as : List Value} {h : mH} {Q : mQ} (hw : wtv as ≤ 6) (k : WR d cd_173 0 (en as 6) [] h Q) : EV (d + 1) 173 as h Q := EV_in (cd := cd_173) (mx := 6) rfl rfl hw k
theorem in_174 {d : Nat} {as : List Value} {h : mH} {Q : mQ} (hw : wtv as ≤ 5) (k : WR d cd_174 0 (en as 5) [] h Q) : EV (d + 1) 174 as h Q := EV_in (cd := cd_174) (mx := 5) rfl rfl hw k
theorem in_175 {d : Nat} {as : List Value} {h : mH} {Q : mQ} (hw : wtv as ≤ 7) (k : WR d cd_175 0 (en as 7) [] h Q) : EV (d + 1) 175 as h Q := EV_in (cd := cd_175) (mx := 7) rfl rfl hw k
theorem in_176 {d : Nat} {as : List Value} {h : mH} {Q : mQ} (hw : wtv as ≤ 7) (k : WR d cd_176 0 (en as 7) [] h Q) : EV (d + 1) 176 as h Q := EV_in (cd := cd_176) (mx := 7) rfl rfl hw k
theorem in_177 {d : Nat} {as : List Value} {h : mH} {Q : mQ} (hw : wtv as ≤ 4) (k : WR d cd_177 0 (en as 4) [] h Q) : EV (d + 1) 177 as h Q := EV_in (cd := cd_177) (mx := 4) rfl rfl hw k
theorem in_178 {d : Nat} {as : List Value} {h : mH} {Q : mQ} (hw : wtv as ≤ 7) (k : WR d cd_178 0 (en as 7) [] h Q) : EV (d + 1) 178 as h Q := EV_in (cd := cd_178) (mx := 7) rfl rfl hw k
theorem in_179 {d : Nat} {as : List Value} {h : mH} {Q : mQ} (hw : wtv as ≤ 11) (k : WR d cd_179 0 (en as 11) [] h Q) : EV (d + 1) 179 as h Q := EV_in (cd := cd_179) (mx := 11) rfl rfl hw k
theorem in_180 {d : Nat} {as : List Value} {h : mH} {Q : mQ} (hw : wtv as ≤ 4) (k : WR d cd_180 0 (en as 4) [] h Q) : EV (d + 1) 180 as h Q := EV_in (cd := cd_180) (mx := 4) rfl rfl hw k
theorem in_181 {d : Nat} {as : List Value} {h : mH} {Q : mQ} (hw : wtv as ≤ 6) (k : WR d cd_181 0 (en as 6) [] h Q) : EV (d + 1) 181 as h Q := EV_in (cd := cd_181) (mx := 6) rfl rfl hw k
theorem in_182 {d : Nat} {as : List Value} {h : mH} {Q : mQ} (hw : wtv as ≤ 5) (k : WR d cd_182 0 (en as 5) [] h Q) : EV (d + 1) 182 as h Q := EV_in (cd := cd_182) (mx := 5) rfl rfl hw k
theorem in_183 {d : Nat} {as : List Value} {h : mH} {Q : mQ} (hw : wtv as ≤ 5) (k : WR d cd_183 0 (en as 5) [] h Q) : EV (d + 1) 183 as h Q := EV_in (cd := cd_183) (mx := 5) rfl rfl hw k
theorem in_184 {d : Nat} {as : List Value} {h : mH} {Q : mQ} (hw : wtv as ≤ 6) (k : WR d cd_184 0 (en as 6) [] h Q) : EV (d + 1) 184 as h Q := EV_in (cd := cd_184) (mx := 6) rfl rfl hw k
theorem in_185 {d : Nat} {as : List Value} {h : mH} {Q : mQ} (hw : wtv as ≤ 2) (k : WR d cd_185 0 (en as 2) [] h Q) : EV (d + 1) 185 as h Q := EV_in (cd := cd_185) (mx := 2) rfl rfl hw k
theorem in_186 {d : Nat} {as : List Value} {h : mH} {Q : mQ} (hw : wtv as ≤ 2) (k : WR d cd_186 0 (en as 2) [] h Q) : EV (d + 1) 186 as h Q := EV_in (cd := cd_186) (mx := 2) rfl rfl hw k
theorem in_187 {d : Nat} {as : List Value} {h : mH} {Q : mQ} (hw : wtv as ≤ 2) (k : WR d cd_187 0 (en as 2) [] h Q) : EV (d + 1) 187 as h Q := EV_in (cd := cd_187) (mx := 2) rfl rfl hw k
theorem in_188 {d : Nat} {as : List Value} {h : mH} {Q : mQ} (hw : wtv as ≤ 2) (k : WR d cd_188 0 (en as 2) [] h Q) : EV (d + 1) 188 as h Q := EV_in (cd := cd_188) (mx := 2) rfl rfl hw k
theorem in_189 {d : Nat} {as : List Value} {h : mH} {Q : mQ} (hw : wtv as ≤ 5) (k : WR d cd_189 0 (en as 5) [] h Q) : EV (d + 1) 189 as h Q := EV_in (cd := cd_189) (mx := 5) rfl rfl hw k
theorem in_190 {d : Nat} {as : List Value} {h : mH} {Q : mQ} (hw : wtv as ≤ 5) (k : WR d cd_190 0 (en as 5) [] h Q) : EV (d + 1) 190 as h Q := EV_in (cd := cd_190) (mx := 5) rfl rfl hw k
theorem in_191 {d : Nat} {as : List Value} {h : mH} {Q : mQ} (hw : wtv as ≤ 2) (k : WR d cd_191 0 (en as 2) [] h Q) : EV (d + 1) 191 as h Q := EV_in (cd := cd_191) (mx := 2) rfl rfl hw k
theorem in_192 {d : Nat} {as : List Value} {h : mH} {Q : mQ} (hw : wtv as ≤ 2) (k : WR d cd_192 0 (en as 2) [] h Q) : EV (d + 1) 192 as h Q := EV_in (cd := cd_192) (mx := 2) rfl rfl hw k
theorem in_193 {d : Nat} {as : List Value} {h : mH} {Q : mQ} (hw : wtv as ≤ 7) (k : WR d cd_193 0 (en as 7) [] h Q) : EV (d + 1) 193 as h Q := EV_in (cd := cd_193) (mx := 7) rfl rfl hw k
theorem in_194 {d : Nat} {as : List Value} {h : mH} {Q : mQ} (hw : wtv as ≤ 7) (k : WR d cd_194 0 (en as 7) [] h Q) : EV (d + 1) 194 as h Q := EV_in (cd := cd_194) (mx := 7) rfl rfl hw k
theorem in_195 {d : Nat} {as : List Value} {h : mH} {Q : mQ} (hw : wtv as ≤ 3) (k : WR d cd_195 0 (en as 3) [] h Q) : EV (d + 1) 195 as h Q := EV_in (cd := cd_195) (mx := 3) rfl rfl hw k
theorem in_196 {d : Nat} {as : List Value} {h : mH} {Q : mQ} (hw : wtv as ≤ 4) (k : WR d cd_196 0 (en as 4) [] h Q) : EV (d + 1) 196 as h Q := EV_in (cd := cd_196) (mx := 4) rfl rfl hw k
theorem in_197 {d : Nat} {as : List Value} {h : mH} {Q : mQ} (hw : wtv as ≤ 2) (k : WR d cd_197 0 (en as 2) [] h Q) : EV (d + 1) 197 as h Q := EV_in (cd := cd_197) (mx := 2) rfl rfl hw k
theorem in_198 {d : Nat} {as : List Value} {h : mH} {Q : mQ} (hw : wtv as ≤ 2) (k : WR d cd_198 0 (en as 2) [] h Q) : EV (d + 1) 198 as h Q := EV_in (cd := cd_198) (mx := 2) rfl rfl hw k
theorem in_199 {d : Nat} {as : List Value} {h : mH} {Q : mQ} (hw : wtv as ≤ 2) (k : WR d cd_199 0 (en as 2) [] h Q) : EV (d + 1) 199 as h Q := EV_in (cd := cd_199) (mx := 2) rfl rfl hw k
theorem in_200 {d : Nat} {as : List Value} {h : mH} {Q : mQ} (hw : wtv as ≤ 9) (k : WR d cd_200 0 (en as 9) [] h Q) : EV (d + 1) 200 as h Q := EV_in (cd := cd_200) (mx := 9) rfl rfl hw k
theorem in_201 {d : Nat} {as : List Value} {h : mH} {Q : mQ} (hw : wtv as ≤ 9) (k : WR d cd_201 0 (en as 9) [] h Q) : EV (d + 1) 201 as h Q := EV_in (cd := cd_201) (mx := 9) rfl rfl hw k
theorem in_202 {d : Nat} {as : List Value} {h : mH} {Q : mQ} (hw : wtv as ≤ 5) (k : WR d cd_202 0 (en as 5) [] h Q) : EV (d + 1) 202 as h Q := EV_in (cd := cd_202) (mx := 5) rfl rfl hw k
theorem in_203 {d : Nat} {as : List Value} {h : mH} {Q : mQ} (hw : wtv as ≤ 7) (k : WR d cd_203 0 (en as 7) [] h Q) : EV (d + 1) 203 as h Q := EV_in (cd := cd_203) (mx := 7) rfl rfl hw k
theorem in_204 {d : Nat} {as : List Value} {h : mH} {Q : mQ} (hw : wtv as ≤ 1) (k : WR d cd_204 0 (en as 1) [] h Q) : EV (d + 1) 204 as h Q := EV_in (cd := cd_204) (mx := 1) rfl rfl hw k
theorem in_205 {d : Nat} {as : List Value} {h : mH} {Q : mQ} (hw : wtv as ≤ 5) (k : WR d cd_205 0 (en as 5) [] h Q) : EV (d + 1) 205 as h Q := EV_in (cd := cd_205) (mx := 5) rfl rfl hw k
theorem in_206 {d : Nat} {as : List Value} {h : mH} {Q : mQ} (hw : wtv as ≤ 2) (k : WR d cd_206 0 (en as 2) [] h Q) : EV (d + 1) 206 as h Q := EV_in (cd := cd_206) (mx := 2) rfl rfl hw k
theorem in_207 {d : Nat} {as : List Value} {h : mH} {Q : mQ} (hw : wtv as ≤ 1) (k : WR d cd_207 0 (en as 1) [] h Q) : EV (d + 1) 207 as h Q := EV_in (cd := cd_207) (mx := 1) rfl rfl hw k
theorem in_208 {d : Nat} {as : List Value} {h : mH} {Q : mQ} (hw : wtv as ≤ 3) (k : WR d cd_208 0 (en as 3) [] h Q) : EV (d + 1) 208 as h Q := EV_in (cd := cd_208) (mx := 3) rfl rfl hw k
theorem in_209 {d : Nat} {as : List Value} {h : mH} {Q : mQ} (hw : wtv as ≤ 2) (k : WR d cd_209 0 (en as 2) [] h Q) : EV (d + 1) 209 as h Q := EV_in (cd := cd_209) (mx := 2) rfl rfl hw k
theorem in_210 {d : Nat} {as : List Value} {h : mH} {Q : mQ} (hw : wtv as ≤ 3) (k : WR d cd_210 0 (en as 3) [] h Q) : EV (d + 1) 210 as h Q := EV_in (cd := cd_210) (mx := 3) rfl rfl hw k
theorem in_211 {d : Nat} {as : List Value} {h : mH} {Q : mQ} (hw : wtv as ≤ 3) (k : WR d cd_211 0 (en as 3) [] h Q) : EV (d + 1) 211 as h Q := EV_in (cd := cd_211) (mx := 3) rfl rfl hw k
theorem in_212 {d : Nat} {as : List Value} {h : mH} {Q : mQ} (hw : wtv as ≤ 3) (k : WR d cd_212 0 (en as 3) [] h Q) : EV (d + 1) 212 as h Q := EV_in (cd := cd_212) (mx := 3) rfl rfl hw k
theorem in_213 {d : Nat} {as : List Value} {h : mH} {Q : mQ} (hw : wtv as ≤ 5) (k : WR d cd_213 0 (en as 5) [] h Q) : EV (d + 1) 213 as h Q := EV_in (cd := cd_213) (mx := 5) rfl rfl hw k
theorem in_214 {d : Nat} {as : List Value} {h : mH} {Q : mQ} (hw : wtv as ≤ 1) (k : WR d cd_214 0 (en as 1) [] h Q) : EV (d + 1) 214 as h Q := EV_in (cd := cd_214) (mx := 1) rfl rfl hw k
theorem in_215 {d : Nat} {as : List Value} {h : mH} {Q : mQ} (hw : wtv as ≤ 6) (k : WR d cd_215 0 (en as 6) [] h Q) : EV (d + 1) 215 as h Q := EV_in (cd := cd_215) (mx := 6) rfl rfl hw k
theorem in_216 {d : Nat} {as : List Value} {h : mH} {Q : mQ} (hw : wtv as ≤ 6) (k : WR d cd_216 0 (en as 6) [] h Q) : EV (d + 1) 216 as h Q := EV_in (cd := cd_216) (mx := 6) rfl rfl hw k
theorem in_217 {d : Nat} {as : List Value} {h : mH} {Q : mQ} (hw : wtv as ≤ 3) (k : WR d cd_217 0 (en as 3) [] h Q) : EV (d + 1) 217 as h Q := EV_in (cd := cd_217) (mx := 3) rfl rfl hw k
theorem in_218 {d : Nat} {as : List Value} {h : mH} {Q : mQ} (hw : wtv as ≤ 2) (k : WR d cd_218 0 (en as 2) [] h Q) : EV (d + 1) 218 as h Q := EV_in (cd := cd_218) (mx := 2) rfl rfl hw k
theorem in_219 {d : Nat} {as : List Value} {h : mH} {Q : mQ} (hw : wtv as ≤ 5) (k : WR d cd_219 0 (en as 5) [] h Q) : EV (d + 1) 219 as h Q := EV_in (cd := cd_219) (mx := 5) rfl rfl hw k
theorem in_220 {d : Nat} {as : List Value} {h : mH} {Q : mQ} (hw : wtv as ≤ 4) (k : WR d cd_220 0 (en as 4) [] h Q) : EV (d + 1) 220 as h Q := EV_in (cd := cd_220) (mx := 4) rfl rfl hw k
theorem in_221 {d : Nat} {as : List Value} {h : mH} {Q : mQ} (hw : wtv as ≤ 3) (k : WR d cd_221 0 (en as 3) [] h Q) : EV (d + 1) 221 as h Q := EV_in (cd := cd_221) (mx := 3) rfl rfl hw k
theorem in_222 {d : Nat} {as : List Value} {h : mH} {Q : mQ} (hw : wtv as ≤ 2) (k : WR d cd_222 0 (en as 2) [] h Q) : EV (d + 1) 222 as h Q := EV_in (cd := cd_222) (mx := 2) rfl rfl hw k
theorem in_223 {d : Nat} {as : List Value} {h : mH} {Q : mQ} (hw : wtv as ≤ 2) (k : WR d cd_223 0 (en as 2) [] h Q) : EV (d + 1) 223 as h Q := EV_in (cd := cd_223) (mx := 2) rfl rfl hw k
theorem in_224 {d : Nat} {as : List Value} {h : mH} {Q : mQ} (hw : wtv as ≤ 2) (k : WR d cd_224 0 (en as 2) [] h Q) : EV (d + 1) 224 as h Q := EV_in (cd := cd_224) (mx := 2) rfl rfl hw k
theorem in_225 {d : Nat} {as : List Value} {h : mH} {Q : mQ} (hw : wtv as ≤ 2) (k : WR d cd_225 0 (en as 2) [] h Q) : EV (d + 1) 225 as h Q := EV_in (cd := cd_225) (mx := 2) rfl rfl hw k
theorem in_226 {d : Nat} {as : List Value} {h : mH} {Q : mQ} (hw : wtv as ≤ 4) (k : WR d cd_226 0 (en as 4) [] h Q) : EV (d + 1) 226 as h Q := EV_in (cd := cd_226) (mx := 4) rfl rfl hw k
theorem in_227 {d : Nat} {as : List Value} {h : mH} {Q : mQ} (hw : wtv as ≤ 7) (k : WR d cd_227 0 (en as 7) [] h Q) : EV (d + 1) 227 as h Q := EV_in (cd := cd_227) (mx := 7) rfl rfl hw k
theorem in_228 {d : Nat} {as : List Value} {h : mH} {Q : mQ} (hw : wtv as ≤ 3) (k : WR d cd_228 0 (en as 3) [] h Q) : EV (d + 1) 228 as h Q := EV_in (cd := cd_228) (mx := 3) rfl rfl hw k
theorem in_229 {d : Nat} {as : List Value} {h : mH} {Q : mQ} (hw : wtv as ≤ 6) (k : WR d cd_229 0 (en as 6) [] h Q) : EV (d + 1) 229 as h Q := EV_in (cd := cd_229) (mx := 6) rfl rfl hw k
theorem in_230 {d : Nat} {as : List Value} {h : mH} {Q : mQ} (hw : wtv as ≤ 4) (k : WR d cd_230 0 (en as 4) [] h Q) : EV (d + 1) 230 as h Q := EV_in (cd := cd_230) (mx := 4) rfl rfl hw k
theorem in_231 {d : Nat} {as : List Value} {h : mH} {Q : mQ} (hw : wtv as ≤ 3) (k : WR d cd_231 0 (en as 3) [] h Q) : EV (d + 1) 231 as h Q := EV_in (cd := cd_231) (mx := 3) rfl rfl hw k
theorem in_232 {d : Nat} {as : List Value} {h : mH} {Q : mQ} (hw : wtv as ≤ 2) (k : WR d cd_232 0 (en as 2) [] h Q) : EV (d + 1) 232 as h Q := EV_in (cd := cd_232) (mx := 2) rfl rfl hw k
theorem in_233 {d : Nat} {as : List Value} {h : mH} {Q : mQ} (hw : wtv as ≤ 1) (k : WR d cd_233 0 (en as 1) [] h Q) : EV (d + 1) 233 as h Q := EV_in (cd := cd_233) (mx := 1) rfl rfl hw k
theorem in_234 {d : Nat} {as : List Value} {h : mH} {Q : mQ} (hw : wtv as ≤ 1) (k : WR d cd_234 0 (en as 1) [] h Q) : EV (d + 1) 234 as h Q := EV_in (cd := cd_234) (mx := 1) rfl rfl hw k
theorem in_235 {d : Nat} {as : List Value} {h : mH} {Q : mQ} (hw : wtv as ≤ 12) (k : WR d cd_235 0 (en as 12) [] h Q) : EV (d + 1) 235 as h Q := EV_in (cd := cd_235) (mx := 12) rfl rfl hw k
theorem in_236 {d : Nat} {as : List Value} {h : mH} {Q : mQ} (hw : wtv as ≤ 9) (k : WR d cd_236 0 (en as 9) [] h Q) : EV (d + 1) 236 as h Q := EV_in (cd := cd_236) (mx := 9) rfl rfl hw k
theorem in_237 {d : Nat} {as : List Value} {h : mH} {Q : mQ} (hw : wtv as ≤ 15) (k : WR d cd_237 0 (en as 15) [] h Q) : EV (d + 1) 237 as h Q := EV_in (cd := cd_237) (mx := 15) rfl rfl hw k
theorem in_238 {d : Nat} {as : List Value} {h : mH} {Q : mQ} (hw : wtv as ≤ 2) (k : WR d cd_238 0 (en as 2) [] h Q) : EV (d + 1) 238 as h Q := EV_in (cd := cd_238) (mx := 2) rfl rfl hw k
theorem in_239 {d : Nat} {as : List Value} {h : mH} {Q : mQ} (hw : wtv as ≤ 16) (k : WR d cd_239 0 (en as 16) [] h Q) : EV (d + 1) 239 as h Q := EV_in (cd := cd_239) (mx := 16) rfl rfl hw k
theorem in_240 {d : Nat} {as : List Value} {h : mH} {Q : mQ} (hw : wtv as ≤ 4) (k : WR d cd_240 0 (en as 4) [] h Q) : EV (d + 1) 240 as h Q := EV_in (cd := cd_240) (mx := 4) rfl rfl hw k
theorem in_241 {d : Nat} {as : List Value} {h : mH} {Q : mQ} (hw : wtv as ≤ 4) (k : WR d cd_241 0 (en as 4) [] h Q) : EV (d + 1) 241 as h Q := EV_in (cd := cd_241) (mx := 4) rfl rfl hw k
theorem in_242 {d : Nat} {as : List Value} {h : mH} {Q : mQ} (hw : wtv as ≤ 4) (k : WR d cd_242 0 (en as 4) [] h Q) : EV (d + 1) 242 as h Q := EV_in (cd := cd_242) (mx := 4) rfl rfl hw k
theorem in_243 {d : Nat} {as : List Value} {h : mH} {Q : mQ} (hw : wtv as ≤ 6) (k : WR d cd_243 0 (en as 6) [] h Q) : EV (d + 1) 243 as h Q := EV_in (cd := cd_243) (mx := 6) rfl rfl hw k
theorem in_244 {d : Nat} {as : List Value} {h : mH} {Q : mQ} (hw : wtv as ≤ 4) (k : WR d cd_244 0 (en as 4) [] h Q) : EV (d + 1) 244 as h Q := EV_in (cd := cd_244) (mx := 4) rfl rfl hw k
theorem in_245 {d : Nat} {as : List Value} {h : mH} {Q : mQ} (hw : wtv as ≤ 2) (k : WR d cd_245 0 (en as 2) [] h Q) : EV (d + 1) 245 as h Q := EV_in (cd := cd_245) (mx := 2) rfl rfl hw k
theorem in_246 {d : Nat} {as : List Value} {h : mH} {Q : mQ} (hw : wtv as ≤ 3) (k : WR d cd_246 0 (en as 3) [] h Q) : EV (d + 1) 246 as h Q := EV_in (cd := cd_246) (mx := 3) rfl rfl hw k
theorem in_247 {d : Nat} {as : List Value} {h : mH} {Q : mQ} (hw : wtv as ≤ 3) (k : WR d cd_247 0 (en as 3) [] h Q) : EV (d + 1) 247 as h Q := EV_in (cd := cd_247) (mx := 3) rfl rfl hw k
theorem in_248 {d : Nat} {as : List Value} {h : mH} {Q : mQ} (hw : wtv as ≤ 1) (k : WR d cd_248 0 (en as 1) [] h Q) : EV (d + 1) 248 as h Q := EV_in (cd := cd_248) (mx := 1) rfl rfl hw k
theorem in_249 {d : Nat} {as : List Value} {h : mH} {Q : mQ} (hw : wtv as ≤ 4) (k : WR d cd_249 0 (en as 4) [] h Q) : EV (d + 1) 249 as h Q := EV_in (cd := cd_249) (mx := 4) rfl rfl hw k
