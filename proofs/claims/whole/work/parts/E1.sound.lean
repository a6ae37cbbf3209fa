/-! ===== run, pure: it stays sound ===== -/
section YS
variable {n : Nat} {ad : Nat → Nat} {h : mH} {s0 w : Nat} {S S' : yS} {s st t sl : Nat} {l : Int32}
/-- only turbine t has changed -/
def onT (t : Nat) (S S' : yS) : Prop := (∀ t', t' ≠ t → yA S' t' = yA S t' ∧ ∀ r, yD S' r t' = yD S r t') ∧ (yK S ≤ 40 → yK S' ≤ 40)
theorem onT.rf : onT t S S := ⟨fun _ _ => ⟨rfl, fun _ => rfl⟩, id⟩
theorem onT.tr {S2 : yS} (a : onT t S S') (b : onT t S' S2) : onT t S S2 := ⟨fun t' e => ⟨(b.1 t' e).1.trans (a.1 t' e).1, fun r => ((b.1 t' e).2 r).trans ((a.1 t' e).2 r)⟩, fun q => b.2 (a.2 q)⟩
theorem onT.d {r : Nat} {x : UInt64} : onT t S (yuD S r t x) := ⟨fun _ e => ⟨rfl, fun _ => yD_t e⟩, id⟩
theorem onT.a {v : Nat} : onT t S (yuA S t v) := ⟨fun _ e => ⟨yA_n e, fun _ => rfl⟩, id⟩
theorem onT.w0 {kd q : Nat} : onT t S (yuW S kd q l) := ⟨fun _ _ => ⟨rfl, fun _ => rfl⟩, id⟩
theorem onT.f {f : Nat} : onT t S (yuF S t sl f st) := ⟨fun _ _ => ⟨rfl, fun _ => rfl⟩, fun q => by
  show (if yK S < 40 then yK S + 1 else yK S) ≤ 40
  split <;> omega⟩
theorem onT.fal {f : Nat} : onT t S (yFal S t sl f st) := (onT.a.tr onT.d).tr onT.f
theorem yWe_2 : yA (yWe ad h t sl l S).2 = yA S ∧ yD (yWe ad h t sl l S).2 = yD S ∧ yK (yWe ad h t sl l S).2 = yK S ∧ yO (yWe ad h t sl l S).2 = yO S := by
  unfold yWe
  split
  · exact ⟨rfl, rfl, rfl, rfl⟩
  · exact ⟨rfl, rfl, rfl, rfl⟩
theorem onT.we : onT t S (yWe ad h t sl l S).2 := by
  obtain ⟨a, b, c, -⟩ := yWe_2 (ad := ad) (h := h) (t := t) (sl := sl) (l := l) (S := S)
  exact ⟨fun t' _ => ⟨congrFun a t', fun r => by rw [b]⟩, fun q => by rw [c]; exact q⟩
theorem y3_on : onT t S (y3 ad h st s t S) := by
  unfold y3
  split
  · unfold yEnd
    split
    · exact onT.we
    · exact onT.we.tr onT.fal
  · exact onT.rf
theorem y2_on : onT t S (y2 ad h s t S) := by
  unfold y2
  split
  · exact ((onT.d.tr onT.d).tr onT.d).tr onT.d
  · exact (onT.d.tr onT.d).tr onT.d
theorem y1_on : onT t S (y1 ad h st s t S) := by
  unfold y1
  split
  · exact y2_on.tr y3_on
  · unfold yEnd
    split
    · exact ((onT.we.tr onT.d).tr y2_on).tr y3_on
    · exact onT.we.tr onT.fal
theorem y0_on {v x : UInt64} : onT t S (y0 ad h st t v x S) := ((onT.d.tr onT.d).tr onT.a).tr y1_on
/-- how many findings came: none, or one -/
theorem y3_O : yO (y3 ad h st s t S) = yO S ∨ yO (y3 ad h st s t S) = yO S + 1 := by
  have k := (yWe_2 (ad := ad) (h := h) (t := t) (sl := 4) (l := FP.d2i (yD S 73 t)) (S := S)).2.2.2
  unfold y3
  split
  · unfold yEnd
    split
    · exact .inl k
    · refine .inr ?_
      show yO (yWe ad h t 4 (FP.d2i (yD S 73 t)) S).2 + 1 = _
      rw [k]
  · exact .inl rfl
theorem y2_O : yO (y2 ad h s t S) = yO S := by
  unfold y2
  split <;> rfl
theorem y1_O : yO (y1 ad h st s t S) = yO S ∨ yO (y1 ad h st s t S) = yO S + 1 := by
  unfold y1
  split
  · have k := y3_O (ad := ad) (h := h) (st := st) (s := s) (t := t) (S := y2 ad h s t S)
    rw [y2_O] at k; exact k
  · have k := (yWe_2 (ad := ad) (h := h) (t := t) (sl := 3) (l := FP.d2i (gAb (gBy s (yD S 67 t) (yD S 69 t)))) (S := S)).2.2.2
    unfold yEnd
    split
    · have q := y3_O (ad := ad) (h := h) (st := st) (s := s) (t := t) (S := y2 ad h s t (yuD (yWe ad h t 3 (FP.d2i (gAb (gBy s (yD S 67 t) (yD S 69 t)))) S).2 67 t (FP.dadd (yD S 67 t) (gBy s (yD S 67 t) (yD S 69 t)))))
      rw [y2_O, yO_D, k] at q; exact q
    · refine .inr ?_
      show yO (yWe ad h t 3 (FP.d2i (gAb (gBy s (yD S 67 t) (yD S 69 t)))) S).2 + 1 = _
      rw [k]
theorem yTur_O {i k : Nat} : yO (yTur n ad h s0 w i k S) = yO S ∨ yO (yTur n ad h s0 w i k S) = yO S + 1 := by
  unfold yTur
  split
  · exact .inl rfl
  · exact y1_O
theorem yTur_on {i k : Nat} : onT (eOr n ad h w k) S (yTur n ad h s0 w i k S) := by
  unfold yTur
  split
  · exact onT.d
  · exact y0_on
/-- a turbine's numbers are bounded as behind s steps -/
def vN (ad : Nat → Nat) (h : mH) (s : Nat) (S : yS) (t : Nat) : Prop := NB s (yD S 73 t) (yD S 67 t) (yD S 68 t) (yD S 69 t) (yD S 70 t) (hD h (ad 71) t)
def yTu (ad : Nat → Nat) (h : mH) (s : Nat) (S : yS) (t : Nat) : Prop := yA S t ≤ 4 ∧ canD (yD S 72 t) ∧ vN ad h s S t
theorem yTu.eq {s' : Nat} (x : yTu ad h s S t) (a : yA S' t = yA S t) (d : ∀ r, yD S' r t = yD S r t) (hs : s ≤ s') : yTu ad h s' S' t := by
  unfold yTu vN at x ⊢
  rw [a, d, d, d, d, d, d]
  exact ⟨x.1, x.2.1, NB_mono hs x.2.2⟩
theorem yTu.fal {f : Nat} (x : yTu ad h s S t) : yTu ad h s (yFal S t sl f st) t := by
  have e : ∀ r, r ≠ 68 → yD (yFal S t sl f st) r t = yD S r t := fun r hr => by
    show yD (yuD (yuA S t 4) 68 t 0) r t = _
    rw [yD_r hr]; rfl
  have e8 : yD (yFal S t sl f st) 68 t = 0 := yD_D (S := yuA S t 4)
  have eA : yA (yFal S t sl f st) t = 4 := yA_A (S := S)
  unfold yTu vN at x ⊢
  rw [e 72 (by decide), e 73 (by decide), e 67 (by decide), e 69 (by decide), e 70 (by decide), e8, eA]
  exact ⟨by decide, x.2.1, nb_fall x.2.2⟩
theorem yTu.we (x : yTu ad h s S t) : yTu ad h s (yWe ad h t sl l S).2 t := by
  obtain ⟨a, b, -⟩ := yWe_2 (ad := ad) (h := h) (t := t) (sl := sl) (l := l) (S := S)
  exact x.eq (congrFun a t) (fun r => by rw [b]) (Nat.le_refl _)
theorem y3_v {r : Nat} (x : yTu ad h s S t) : yTu ad h s (y3 ad h st r t S) t := by
  unfold y3
  split
  · unfold yEnd
    split
    · exact x.we
    · exact x.we.fal
  · exact x
/-- the rotor, by its places -/
theorem y2_D : yD (y2 ad h s t S) 68 t = gG2 (gG1 s (yD S 68 t) (yD S 69 t)) (gU (yD S 73 t) (yD S 67 t) (gG1 s (yD S 68 t) (yD S 69 t)) (yD S 69 t)) (hD h (ad 71) t) ∧ yD (y2 ad h s t S) 69 t = gU (yD S 73 t) (yD S 67 t) (gG1 s (yD S 68 t) (yD S 69 t)) (yD S 69 t) ∧
    yD (y2 ad h s t S) 70 t = gEn (yD S 70 t) (gG2 (gG1 s (yD S 68 t) (yD S 69 t)) (gU (yD S 73 t) (yD S 67 t) (gG1 s (yD S 68 t) (yD S 69 t)) (yD S 69 t)) (hD h (ad 71) t)) (gU (yD S 73 t) (yD S 67 t) (gG1 s (yD S 68 t) (yD S 69 t)) (yD S 69 t)) ∧ (∀ r, r ≠ 68 → r ≠ 69 → r ≠ 70 → yD (y2 ad h s t S) r t = yD S r t) ∧ yA (y2 ad h s t S) = yA S := by
  unfold y2 gG2 gEn
  generalize gG1 s (yD S 68 t) (yD S 69 t) = g1
  generalize gU (yD S 73 t) (yD S 67 t) g1 (yD S 69 t) = u1
  split
  · refine ⟨?_, ?_, yD_D, fun r h1 h2 h3 => ?_, rfl⟩
    · rw [yD_r (by decide), yD_D]
    · rw [yD_r (by decide), yD_r (by decide), yD_D]
    · rw [yD_r h3, yD_r h1, yD_r h2, yD_r h1]
  · refine ⟨?_, ?_, yD_D, fun r h1 h2 h3 => ?_, rfl⟩
    · rw [yD_r (by decide), yD_r (by decide), yD_D]
    · rw [yD_r (by decide), yD_D]
    · rw [yD_r h3, yD_r h2, yD_r h1]
/-- what the rotor needs of the numbers -/
def vP (ad : Nat → Nat) (h : mH) (s : Nat) (S : yS) (t : Nat) : Prop := bd (yD S 73 t) 1000 ∧ bd (yD S 67 t) (90 + 12 * (s + 1)) ∧ bd (yD S 68 t) s ∧ (bd (yD S 69 t) (s * 2 ^ 40) ∧ 0 ≤ zv (yD S 69 t)) ∧ bd (yD S 70 t) (s * 2 ^ 80) ∧ (hD h (ad 71) t = 9218868437227405312 ∨ isNN (hD h (ad 71) t))
theorem yTu.p (x : yTu ad h s S t) : vP ad h s S t := by
  obtain ⟨h1, h2, h3, h4, h5, h6⟩ := NB_bd.mp x.2.2
  exact ⟨h1, h2.mono (by omega), h3, h4, h5, h6⟩
theorem y2_v {r : Nat} (hs : s ≤ 20480) (a : yA S t ≤ 4) (c : canD (yD S 72 t)) (x : vP ad h s S t) : yTu ad h (s + 1) (y2 ad h r t S) t := by
  obtain ⟨h1, h2, h3, ⟨h4, h5⟩, h6, h7⟩ := x
  obtain ⟨e1, e2, e3, e4, e5⟩ := y2_D (ad := ad) (h := h) (s := r) (t := t) (S := S)
  have g1 := (g1_ok (r := r) hs h4 h3).2.2.2.2
  have u1 := u_ok hs h1 h2 g1 h4 h5
  have g2 := g2_ok hs g1 u1.1 u1.2 h7 h6
  unfold yTu vN
  rw [e1, e2, e3, e4 72 (by decide) (by decide) (by decide), e4 73 (by decide) (by decide) (by decide), e4 67 (by decide) (by decide) (by decide), e5]
  exact ⟨a, c, NB_bd.mpr ⟨h1, h2, g2.2.2.1, u1, g2.2.2.2.2, h7⟩⟩
theorem y1_v {r : Nat} (hs : s ≤ 20480) (x : yTu ad h s S t) : yTu ad h (s + 1) (y1 ad h st r t S) t := by
  unfold y1
  split
  · exact y3_v (y2_v hs x.1 x.2.1 x.p)
  · unfold yEnd
    obtain ⟨h1, h2, h3, ⟨h4, h5⟩, h6, h7⟩ := NB_bd.mp x.2.2
    have bb := (by_ok (r := r) hs h4 h2).2
    split
    · obtain ⟨a, b, -⟩ := yWe_2 (ad := ad) (h := h) (t := t) (sl := 3) (l := FP.d2i (gAb (gBy r (yD S 67 t) (yD S 69 t)))) (S := S)
      generalize (yWe ad h t 3 (FP.d2i (gAb (gBy r (yD S 67 t) (yD S 69 t)))) S).2 = R at *
      refine y3_v (y2_v hs ?_ ?_ ?_)
      · show yA R t ≤ 4
        rw [a]; exact x.1
      · rw [yD_r (by decide), b]; exact x.2.1
      · unfold vP
        rw [yD_D, yD_r (by decide), yD_r (by decide), yD_r (by decide), yD_r (by decide), b]
        exact ⟨h1, p_ok hs h2 bb, h3, ⟨h4, h5⟩, h6, h7⟩
    · exact (x.we.fal).eq rfl (fun _ => rfl) (Nat.le_succ s)
end YS
