/-! ===== sweep and make by contract (fb_holes: a starting text of the kit) ===== -/
theorem fb_holes : ∀ (m n : Nat) (f : Nat → Nat), (∀ i, i < n → f i < m) → (∀ i j, i < j → j < n → f i ≠ f j) → n ≤ m := by
  intro m
  induction m with
  | zero =>
    intro n f h1 _
    rcases Nat.eq_zero_or_pos n with h | h
    · omega
    · exact absurd (h1 0 h) (Nat.not_lt_zero _)
  | succ m ih =>
    intro n f h1 h2
    by_cases hx : ∃ i, i < n ∧ f i = m
    · obtain ⟨a, ha, hfa⟩ := hx
      have hg := ih (n - 1) (fun i => if i < a then f i else f (i + 1)) (by
        intro i hi
        by_cases q : i < a
        · simp only [if_pos q]
          have b1 := h1 i (by omega)
          have b2 := h2 i a q ha
          omega
        · simp only [if_neg q]
          have b1 := h1 (i + 1) (by omega)
          have b2 := h2 a (i + 1) (by omega) (by omega)
          omega) (by
        intro i j hij hj
        by_cases q : i < a
        · by_cases r : j < a
          · simp only [if_pos q, if_pos r]
            exact h2 i j hij (by omega)
          · simp only [if_pos q, if_neg r]
            exact h2 i (j + 1) (by omega) (by omega)
        · have r : ¬ j < a := by omega
          simp only [if_neg q, if_neg r]
          exact h2 (i + 1) (j + 1) (by omega) (by omega))
      omega
    · have hg := ih n f (fun i hi => by
        have b1 := h1 i hi
        have b2 : f i ≠ m := fun e => hx ⟨i, hi, e⟩
        omega) h2
      omega
section SW
variable {d : Nat} {Q : mQ} {n : Nat} {ad sa : Nat → Nat} {z0 : Nat} {h h' h1 : mH}
/-- only the marks (40, 32) have changed -/
def E40 (ad : Nat → Nat) (h h' : mH) : Prop := hT h' = hT h ∧ hN h' = hN h ∧ hZ h' = hZ h ∧ hU h' = hU h ∧ hL h' = hL h ∧ hD h' = hD h ∧ hR h' = hR h ∧ ∀ a j, a ≠ ad 40 → a ≠ ad 32 → hI h' a j = hI h a j
theorem E40.rf : E40 ad h h := ⟨rfl, rfl, rfl, rfl, rfl, rfl, rfl, fun _ _ _ _ => rfl⟩
theorem E40.s40 {k : Nat} {v : Int32} (e : E40 ad h h') : E40 ad h (sI h' (ad 40) k v) := by
  obtain ⟨a, b, c, d, f, g, i, j⟩ := e
  exact ⟨a, b, c, d, f, g, i, fun x y h1 h2 => (I_ne h1).trans (j x y h1 h2)⟩
theorem E40.s32 {k : Nat} {v : Int32} (e : E40 ad h h') : E40 ad h (sI h' (ad 32) k v) := by
  obtain ⟨a, b, c, d, f, g, i, j⟩ := e
  exact ⟨a, b, c, d, f, g, i, fun x y h1 h2 => (I_ne h2).trans (j x y h1 h2)⟩
theorem E40.fx (e : E40 ad h h') (fx : FX n ad sa z0 h) : FX n ad sa z0 h' := by
  unfold FX; rw [e.1, e.2.1, e.2.2.1, e.2.2.2.2.2.2.1]; exact fx
theorem E40.i (e : E40 ad h h') (fx : FX n ad sa z0 h) {i j : Nat} (h1 : i ≠ 40) (h2 : i ≠ 32) : hI h' (ad i) j = hI h (ad i) j := e.2.2.2.2.2.2.2 _ _ (fx_ne fx h1) (fx_ne fx h2)
/-- what sweep needs of the store -/
def WF (ad : Nat → Nat) (h : mH) : Prop := ∀ c, c < 24 → hI h (ad 31) c = -1 ∨ (∃ q, q < 60 ∧ hI h (ad 31) c = nI (1000 + q)) ∨ ∃ t, t < 250 ∧ hI h (ad 31) c = nI t ∧ (hI h (ad 33) t = 8 → ∃ sz, sz ≤ 8 ∧ hI h (ad 35) t = nI sz ∧ ∀ i, i < sz → hL h (ad 36) (30 * t + i) = -1 ∨ ∃ u, u < 250 ∧ hL h (ad 36) (30 * t + i) = lN u)
theorem Rs.wf {mid pa : Nat → Nat} {np : Nat} (r : Rs ad z0 mid pa np h) : WF ad h := by
  intro c hc
  have hnp := r.1.1
  rcases r.2.1 c hc with ⟨e, -⟩ | ⟨q, hq, e, -⟩ | ⟨t, ht, e, -, w⟩
  · exact .inl e
  · exact .inr (.inl ⟨q, by omega, e⟩)
  · refine .inr (.inr ⟨t, ht, e, fun e8 => ?_⟩)
    rcases w with ⟨ln, w⟩ | w | w
    · have := w.2.2.2.2.1.2.2.1.symm.trans e8
      have := (nI_eq (a := ln) (b := 8) (by have := w.2.2.2.2.1.1; omega) (by decide)).mp this
      have := w.2.2.2.2.1.1; omega
    · obtain ⟨-, -, -, -, -, sz, w1, -, w2, w3⟩ := w
      refine ⟨sz, w1, w2, fun i hi => ?_⟩
      rcases w3 i hi with ⟨z, -⟩ | ⟨u, z1, z2, -⟩
      · exact .inl z
      · exact .inr ⟨u, z1, z2⟩
    · obtain ⟨-, -, -, -, k, ⟨-, -, w1, -⟩, -⟩ := w
      exact absurd (w1.symm.trans e8) (by decide)
/-- marks are 0 or 1, and at most k of them are 1 -/
def MKS (ad : Nat → Nat) (row : Nat) (h : mH) (f : Nat → Nat) (k : Nat) : Prop := ∀ t, t < 250 → (hI h (ad row) t = 0 ∨ hI h (ad row) t = 1) ∧ (hI h (ad row) t = 1 → ∃ i, i < k ∧ f i = t)
theorem MKS.mono {row k k' : Nat} {f : Nat → Nat} (m : MKS ad row h f k) (hk : k ≤ k') : MKS ad row h f k' := fun t ht => ⟨(m t ht).1, fun e => by obtain ⟨i, h1, h2⟩ := (m t ht).2 e; exact ⟨i, by omega, h2⟩⟩
theorem MKS.add {row k u : Nat} {f : Nat → Nat} (m : MKS ad row h f k) : MKS ad row (sI h (ad row) u 1) (u1 f k u) (k + 1) := by
  intro t ht
  by_cases e : t = u
  · subst e
    rw [I_eq]
    exact ⟨.inr rfl, fun _ => ⟨k, by omega, by unfold u1; rw [if_pos rfl]⟩⟩
  · rw [I_nk e]
    refine ⟨(m t ht).1, fun z => ?_⟩
    obtain ⟨i, h1, h2⟩ := (m t ht).2 z
    exact ⟨i, by omega, by unfold u1; rw [if_neg (by omega)]; exact h2⟩
theorem MKS.free {row k : Nat} {f : Nat → Nat} (m : MKS ad row h f k) (hk : k < 250) : ∃ t, t < 250 ∧ hI h (ad row) t = 0 := by
  apply Classical.byContradiction
  intro no
  have all : ∀ t, t < 250 → ∃ i, i < k ∧ f i = t := fun t ht => (m t ht).2 (by
    rcases (m t ht).1 with z | z
    · exact absurd ⟨t, ht, z⟩ no
    · exact z)
  have g : ∃ g : Nat → Nat, ∀ t, t < 250 → g t < k ∧ f (g t) = t := ⟨fun t => if ht : t < 250 then Classical.choose (all t ht) else 0, fun t ht => by dsimp only; rw [dif_pos ht]; exact Classical.choose_spec (all t ht)⟩
  obtain ⟨g, hg⟩ := g
  have := fb_holes k 250 g (fun i hi => (hg i hi).1) (fun i j hij hj e => by
    have a := (hg i (by omega)).2; have b := (hg j hj).2; rw [e] at a; omega)
  omega
theorem sw_133 {h1 : mH} (fx : FX n ad sa z0 h) (z1 : ∀ t, t < 250 → hI h1 (ad 40) t = 0 ∨ hI h1 (ad 40) t = 1) (hQ : ∀ h', E40 ad h h' → (∀ t, t < 250 → hI h' (ad 32) t = hI h1 (ad 40) t) → Q none h') :
    ∀ m i h' (o2 o3 : Option Value), i + m = 250 → E40 ad h h' → (∀ t, hI h' (ad 40) t = hI h1 (ad 40) t) → (∀ t, t < i → hI h' (ad 32) t = hI h1 (ad 40) t) → WR (d + 1) cd_157 133 [some (.ref (ad 30)), some (.int (nI i)), o2, o3] [] h' Q := by
  intro m
  have n43 : ad 40 ≠ ad 32 := fx_ne fx (by decide)
  induction m with
  | zero =>
    intro i h' o2 o3 hi e a b
    obtain rfl : i = 250 := by omega
    exact w_sw133 (e.fx fx) _ o2 o3 (fun z => absurd z (by decide)) (fun z => absurd z (by decide)) (fun _ => hQ h' e b) (fun z => absurd z (by decide))
  | succ m ih =>
    intro i h' o2 o3 hi e a b
    have ec : (nI i).toNatClampNeg = i := nI_clamp (by omega)
    refine w_sw133 (e.fx fx) _ o2 o3 (fun _ => vp_in_nI (by omega) (by omega)) ?_ (fun z => ?_) ?_
    · rw [ec, a]; intro _; exact z1 i (by omega)
    · have := (nI_leI (a := 250) (b := i) (by decide) (by omega)).mp z; omega
    · rw [ec, nI_1]
      intro _
      refine ih (i + 1) _ o2 o3 (by omega) e.s32 (fun t => ?_) (fun t ht => ?_)
      · rw [I_ne n43]; exact a t
      · by_cases q : t = i
        · subst q; rw [I_eq]; exact a t
        · rw [I_nk q]; exact b t (by omega)
/-- a live thing of a case below c is marked: itself, and what its grid holds -/
def mkd (ad : Nat → Nat) (h h' : mH) (c : Nat) : Prop := ∀ k, k < c → ∀ t, t < 250 → hI h (ad 31) k = nI t → hI h' (ad 40) t = 1
def mkg (ad : Nat → Nat) (h h' : mH) (k j : Nat) : Prop := ∀ g sz i t, g < 250 → hI h (ad 31) k = nI g → hI h (ad 33) g = 8 → hI h (ad 35) g = nI sz → sz ≤ 8 → i < sz → i < j → t < 250 → hL h (ad 36) (30 * g + i) = lN t → hI h' (ad 40) t = 1
theorem sI_1 {a k t : Nat} (e : hI h' a t = 1) : hI (sI h' a k 1) a t = 1 := by
  by_cases q : t = k
  · subst q; rw [I_eq]
  · rw [I_nk q]; exact e
theorem neg1_lt {t : Nat} (ht : t < 2 ^ 31) : ¬ nI t < 0 := nI_pos ht
theorem sw_89 (fx : FX n ad sa z0 h) {c g sz K : Nat} (hg : g < 250) (eg : hI h (ad 31) c = nI g) (e8 : hI h (ad 33) g = 8) (hs : sz ≤ 8) (es : hI h (ad 35) g = nI sz) (en : ∀ i, i < sz → hL h (ad 36) (30 * g + i) = -1 ∨ ∃ u, u < 250 ∧ hL h (ad 36) (30 * g + i) = lN u)
    (P : mH → Prop) (hP : ∀ h' k, P h' → P (sI h' (ad 40) k 1))
    (hQ : ∀ h' f k (o : Option Value), E40 ad h h' → MKS ad 40 h' f k → k ≤ K + 8 → mkg ad h h' c 8 → P h' → WR (d + 1) cd_157 125 [some (.ref (ad 30)), some (.int (nI c)), some (.int (nI g)), o] [] h' Q) :
    ∀ m j h' f k, j + m = sz → E40 ad h h' → MKS ad 40 h' f k → k ≤ K + j → mkg ad h h' c j → P h' → WR (d + 1) cd_157 89 [some (.ref (ad 30)), some (.int (nI c)), some (.int (nI g)), some (.int (nI j))] [] h' Q := by
  intro m
  have ec : (nI g).toNatClampNeg = g := nI_clamp (by omega)
  have fin : ∀ j h' f k, j = sz → E40 ad h h' → MKS ad 40 h' f k → k ≤ K + j → mkg ad h h' c j → P h' → WR (d + 1) cd_157 125 [some (.ref (ad 30)), some (.int (nI c)), some (.int (nI g)), some (.int (nI j))] [] h' Q := by
    intro j h' f k hj e mk hk gm p
    refine hQ h' f k _ e mk (by omega) (fun g' sz' i t a1 a2 a3 a4 a5 a6 a7 a8 a9 => ?_) p
    have : g' = g := (nI_eq (by omega) (by omega)).mp (a2.symm.trans eg)
    subst this
    have : sz' = sz := (nI_eq (by omega) (by omega)).mp (a4.symm.trans es)
    exact gm g' sz' i t a1 a2 a3 a4 a5 a6 (by omega) a8 a9
  induction m with
  | zero =>
    intro j h' f k hj e mk hk gm p
    have r35 : hI h' (ad 35) (nI g).toNatClampNeg = nI sz := by rw [ec, e.i fx (by decide) (by decide)]; exact es
    have z : nI sz ≤ nI j := nI_le (by omega) (by omega)
    refine w_sw89 (e.fx fx) (nI c) (nI g) (nI j) (vp_in_nI hg (by omega)) ?_ ?_ ?_ ?_ ?_ ?_
    all_goals (rw [r35])
    · intro w; exact absurd z w
    · intro w; exact absurd z w
    · intro _; exact fin j h' f k (by omega) e mk hk gm p
    · intro w; exact absurd z w
    · intro w; exact absurd z w
    · intro w; exact absurd z w
  | succ m ih =>
    intro j h' f k hj e mk hk gm p
    have r35 : hI h' (ad 35) (nI g).toNatClampNeg = nI sz := by rw [ec, e.i fx (by decide) (by decide)]; exact es
    have ix : (30 : Int32) * nI g + nI j = nI (30 * g + j) := by rw [show (30 : Int32) = nI 30 from rfl, pk_mul, nI_add]
    have r36 : hL h' (ad 36) ((30 : Int32) * nI g + nI j).toNatClampNeg = hL h (ad 36) (30 * g + j) := by rw [ix, nI_clamp (by omega), e.2.2.2.2.1]
    have nz : ¬ nI sz ≤ nI j := nI_ge (by omega) (by omega)
    have m1 : ((-1 : Int64).toInt32) < 0 := by decide
    have step : ∀ h2 f2 k2, E40 ad h h2 → MKS ad 40 h2 f2 k2 → k2 ≤ K + (j + 1) → mkg ad h h2 c (j + 1) → P h2 → WR (d + 1) cd_157 89 [some (.ref (ad 30)), some (.int (nI c)), some (.int (nI g)), some (.int (nI j + 1))] [] h2 Q := by
      intro h2 f2 k2 a1 a2 a3 a4 a5
      rw [nI_1]
      exact ih (j + 1) h2 f2 k2 (by omega) a1 a2 a3 a4 a5
    have more : ∀ h2, (∀ t, hI h' (ad 40) t = 1 → hI h2 (ad 40) t = 1) → (∀ t, t < 250 → hL h (ad 36) (30 * g + j) = lN t → hI h2 (ad 40) t = 1) → mkg ad h h2 c (j + 1) := by
      intro h2 up own g' sz' i t a1 a2 a3 a4 a5 a6 a7 a8 a9
      have eg' : g' = g := (nI_eq (by omega) (by omega)).mp (a2.symm.trans eg)
      by_cases q : i = j
      · rw [eg', q] at a9; exact own t a8 a9
      · exact up t (gm g' sz' i t a1 a2 a3 a4 a5 a6 (by omega) a8 a9)
    refine w_sw89 (e.fx fx) (nI c) (nI g) (nI j) (vp_in_nI hg (by omega)) ?_ ?_ ?_ ?_ ?_ ?_
    all_goals (rw [r35])
    · intro _; rw [ix]; exact vp_in_nI (by omega) (by omega)
    · rw [r36]
      intro _ z1 z2
      rcases en j (by omega) with w | ⟨u, hu, w⟩
      · rw [w] at z1; exact absurd m1 z1
      · rw [w, lN_i]; exact vp_in_nI hu (by omega)
    · intro w; exact absurd w nz
    · rw [r36]
      intro _ z1
      rcases en j (by omega) with w | ⟨u, hu, w⟩
      · refine step h' f k e mk (by omega) (more h' (fun _ q => q) (fun t ht q => ?_)) p
        exact absurd (w.symm.trans q) (lN_m1 (by omega))
      · rw [w, lN_i] at z1; exact absurd z1 (nI_pos (by omega))
    · rw [r36]
      intro _ z1 z2
      rcases en j (by omega) with w | ⟨u, hu, w⟩
      · rw [w] at z1; exact absurd m1 z1
      · rw [w, lN_i] at z2
        have := (nI_leI (a := 1000) (b := u) (by decide) (by omega)).mp z2; omega
    · rw [r36]
      intro _ z1 z2
      rcases en j (by omega) with w | ⟨u, hu, w⟩
      · rw [w] at z1; exact absurd m1 z1
      · rw [w, lN_i, nI_clamp (by omega)]
        refine step _ _ (k + 1) e.s40 mk.add (by omega) (more _ (fun t q => sI_1 q) (fun t ht q => ?_)) (hP _ _ p)
        have : u = t := (lN_eq (by omega) (by omega)).mp (w.symm.trans q)
        rw [this, I_eq]
theorem sw_52 (fx : FX n ad sa z0 h) (wf : WF ad h) (hQ : ∀ h' f (o2 o3 : Option Value), E40 ad h h' → MKS ad 40 h' f 216 → mkd ad h h' 24 → (∀ k, k < 24 → mkg ad h h' k 8) → WR (d + 1) cd_157 133 [some (.ref (ad 30)), some (.int 0), o2, o3] [] h' Q) :
    ∀ m c h' f k (o2 o3 : Option Value), c + m = 24 → E40 ad h h' → MKS ad 40 h' f k → k ≤ 24 + 8 * c → mkd ad h h' 24 → (∀ k, k < c → mkg ad h h' k 8) → WR (d + 1) cd_157 52 [some (.ref (ad 30)), some (.int (nI c)), o2, o3] [] h' Q := by
  intro m
  induction m with
  | zero =>
    intro c h' f k o2 o3 hc e mk hk md mg
    obtain rfl : c = 24 := by omega
    exact w_sw52 (e.fx fx) (nI 24) o2 o3 (fun z => absurd z (by decide)) (fun z => absurd z (by decide)) (fun _ => hQ h' f o2 o3 e (mk.mono (by omega)) md mg) (fun z => absurd z (by decide)) (fun z => absurd z (by decide)) (fun z => absurd z (by decide)) (fun z => absurd z (by decide))
  | succ m ih =>
    intro c h' f k o2 o3 hc e mk hk md mg
    have ec : (nI c).toNatClampNeg = c := nI_clamp (by omega)
    have r31 : hI h' (ad 31) (nI c).toNatClampNeg = hI h (ad 31) c := by rw [ec, e.i fx (by decide) (by decide)]
    have nxt : ∀ h2 f2 k2 (o2 o3 : Option Value), E40 ad h h2 → MKS ad 40 h2 f2 k2 → k2 ≤ 24 + 8 * (c + 1) → mkd ad h h2 24 → (∀ k, k < c → mkg ad h h2 k 8) → mkg ad h h2 c 8 → WR (d + 1) cd_157 125 [some (.ref (ad 30)), some (.int (nI c)), o2, o3] [] h2 Q := by
      intro h2 f2 k2 p2 p3 a1 a2 a3 a4 a5 a6
      refine w_sw125 (a1.fx fx) (nI c) p2 p3 ?_
      rw [nI_1]
      exact ih (c + 1) h2 f2 k2 p2 p3 (by omega) a1 a2 a3 a4 (fun k hk => by
        by_cases q : k = c
        · rw [q]; exact a6
        · exact a5 k (by omega))
    have none : ∀ (o2 o3 : Option Value), (∀ g, g < 250 → hI h (ad 31) c = nI g → ¬ hI h (ad 33) g = 8) → WR (d + 1) cd_157 125 [some (.ref (ad 30)), some (.int (nI c)), o2, o3] [] h' Q := fun p2 p3 no => nxt h' f k p2 p3 e mk (by omega) md mg (fun g sz i t a1 a2 a3 _ _ _ _ _ _ => absurd a3 (no g a1 a2))
    refine w_sw52 (e.fx fx) (nI c) o2 o3 (fun _ => vp_in_nI (by omega) (by omega)) ?_ (fun z => ?_) ?_ ?_ ?_ ?_
    · rw [r31]
      intro _ z1 z2
      rcases wf c (by omega) with w | ⟨q, hq, w⟩ | ⟨t, ht, w, -⟩
      · rw [w] at z1; exact absurd (by decide) z1
      · rw [w] at z2; exact absurd ((nI_leI (a := 1000) (by decide) (by omega)).mpr (by omega)) z2
      · rw [w]; exact vp_in_nI ht (by omega)
    · have := (nI_leI (a := 24) (b := c) (by decide) (by omega)).mp z; omega
    · rw [r31]
      intro _ z1
      refine none _ _ (fun g hg eg => ?_)
      rw [eg] at z1; exact absurd z1 (nI_pos (by omega))
    · rw [r31]
      intro _ z1 z2
      refine none _ _ (fun g hg eg => ?_)
      rw [eg] at z2
      have := (nI_leI (a := 1000) (b := g) (by decide) (by omega)).mp z2; omega
    · rw [r31]
      intro _ z1 z2
      rcases wf c (by omega) with w | ⟨q, hq, w⟩ | ⟨t, ht, w, -⟩
      · rw [w] at z1; exact absurd (by decide) z1
      · rw [w] at z2; exact absurd ((nI_leI (a := 1000) (by decide) (by omega)).mpr (by omega)) z2
      · rw [w, nI_clamp (by omega), e.i fx (by decide) (by decide)]
        intro z3
        refine none _ _ (fun g hg eg => ?_)
        have : g = t := (nI_eq (by omega) (by omega)).mp (eg.symm.trans w)
        rw [this]; exact z3
    · rw [r31]
      intro _ z1 z2
      rcases wf c (by omega) with w | ⟨q, hq, w⟩ | ⟨t, ht, w, en⟩
      · rw [w] at z1; exact absurd (by decide) z1
      · rw [w] at z2; exact absurd ((nI_leI (a := 1000) (by decide) (by omega)).mpr (by omega)) z2
      · rw [w, nI_clamp (by omega), e.i fx (by decide) (by decide)]
        intro z3
        obtain ⟨sz, s1, s2, s3⟩ := en z3
        refine sw_89 (K := k) fx ht w z3 s1 s2 s3 (fun h2 => mkd ad h h2 24 ∧ ∀ k, k < c → mkg ad h h2 k 8) (fun h2 k2 p => ⟨fun a b t ht' q => sI_1 (p.1 a b t ht' q), fun a b g' sz' i t c1 c2 c3 c4 c5 c6 c7 c8 c9 => sI_1 (p.2 a b g' sz' i t c1 c2 c3 c4 c5 c6 c7 c8 c9)⟩) (fun h2 f2 k2 o a1 a2 a3 a4 a5 => nxt h2 f2 k2 _ o a1 a2 (by omega) a5.1 a5.2 a4) sz 0 h' f k (by omega) e mk (by omega) (fun _ _ _ _ _ _ _ _ _ _ q => absurd q (Nat.not_lt_zero _)) ⟨md, mg⟩
theorem sw_24 (fx : FX n ad sa z0 h) (wf : WF ad h) (hQ : ∀ h' f k (o2 o3 : Option Value), E40 ad h h' → MKS ad 40 h' f k → k ≤ 24 → mkd ad h h' 24 → WR (d + 1) cd_157 52 [some (.ref (ad 30)), some (.int 0), o2, o3] [] h' Q) :
    ∀ m c h' f k (o2 o3 : Option Value), c + m = 24 → E40 ad h h' → MKS ad 40 h' f k → k ≤ c → mkd ad h h' c → WR (d + 1) cd_157 24 [some (.ref (ad 30)), some (.int (nI c)), o2, o3] [] h' Q := by
  intro m
  induction m with
  | zero =>
    intro c h' f k o2 o3 hc e mk hk md
    obtain rfl : c = 24 := by omega
    exact w_sw24 (e.fx fx) (nI 24) o2 o3 (fun z => absurd z (by decide)) (fun z => absurd z (by decide)) (fun _ => hQ h' f k o2 o3 e mk (by omega) md) (fun z => absurd z (by decide)) (fun z => absurd z (by decide)) (fun z => absurd z (by decide))
  | succ m ih =>
    intro c h' f k o2 o3 hc e mk hk md
    have ec : (nI c).toNatClampNeg = c := nI_clamp (by omega)
    have r31 : hI h' (ad 31) (nI c).toNatClampNeg = hI h (ad 31) c := by rw [ec, e.i fx (by decide) (by decide)]
    have keep : (∀ t, t < 250 → ¬ hI h (ad 31) c = nI t) → mkd ad h h' (c + 1) := fun no a ha t ht q => by
      by_cases z : a = c
      · rw [z] at q; exact absurd q (no t ht)
      · exact md a (by omega) t ht q
    refine w_sw24 (e.fx fx) (nI c) o2 o3 (fun _ => vp_in_nI (by omega) (by omega)) ?_ (fun z => ?_) ?_ ?_ ?_
    · rw [r31]
      intro _ z1 z2
      rcases wf c (by omega) with w | ⟨q, hq, w⟩ | ⟨t, ht, w, -⟩
      · rw [w] at z1; exact absurd (by decide) z1
      · rw [w] at z2; exact absurd ((nI_leI (a := 1000) (by decide) (by omega)).mpr (by omega)) z2
      · rw [w]; exact vp_in_nI ht (by omega)
    · have := (nI_leI (a := 24) (b := c) (by decide) (by omega)).mp z; omega
    · rw [r31, nI_1]
      intro _ z1
      refine ih (c + 1) h' f k o2 o3 (by omega) e mk (by omega) (keep (fun t ht q => ?_))
      rw [q] at z1; exact absurd z1 (nI_pos (by omega))
    · rw [r31, nI_1]
      intro _ z1 z2
      refine ih (c + 1) h' f k o2 o3 (by omega) e mk (by omega) (keep (fun t ht q => ?_))
      rw [q] at z2
      have := (nI_leI (a := 1000) (b := t) (by decide) (by omega)).mp z2; omega
    · rw [r31, nI_1]
      intro _ z1 z2
      rcases wf c (by omega) with w | ⟨q, hq, w⟩ | ⟨t, ht, w, -⟩
      · rw [w] at z1; exact absurd (by decide) z1
      · rw [w] at z2; exact absurd ((nI_leI (a := 1000) (by decide) (by omega)).mpr (by omega)) z2
      · rw [w, nI_clamp (by omega)]
        refine ih (c + 1) _ _ (k + 1) o2 o3 (by omega) e.s40 mk.add (by omega) (fun a ha u hu q => ?_)
        by_cases z : a = c
        · rw [z] at q
          have : u = t := (nI_eq (by omega) (by omega)).mp (q.symm.trans w)
          rw [this, I_eq]
        · exact sI_1 (md a (by omega) u hu q)
theorem sw_2 (fx : FX n ad sa z0 h) (hQ : ∀ h' (o2 o3 : Option Value), E40 ad h h' → (∀ t, t < 250 → hI h' (ad 40) t = 0) → WR (d + 1) cd_157 24 [some (.ref (ad 30)), some (.int 0), o2, o3] [] h' Q) :
    ∀ m i h' (o2 o3 : Option Value), i + m = 250 → E40 ad h h' → (∀ t, t < i → hI h' (ad 40) t = 0) → WR (d + 1) cd_157 2 [some (.ref (ad 30)), some (.int (nI i)), o2, o3] [] h' Q := by
  intro m
  induction m with
  | zero =>
    intro i h' o2 o3 hi e a
    obtain rfl : i = 250 := by omega
    exact w_sw2 (e.fx fx) (nI 250) o2 o3 (fun z => absurd z (by decide)) (fun _ => hQ h' o2 o3 e a) (fun z => absurd z (by decide))
  | succ m ih =>
    intro i h' o2 o3 hi e a
    have ec : (nI i).toNatClampNeg = i := nI_clamp (by omega)
    refine w_sw2 (e.fx fx) (nI i) o2 o3 (fun _ => vp_in_nI (by omega) (by omega)) (fun z => ?_) ?_
    · have := (nI_leI (a := 250) (b := i) (by decide) (by omega)).mp z; omega
    · rw [ec, nI_1]
      intro _
      refine ih (i + 1) _ o2 o3 (by omega) e.s40 (fun t ht => ?_)
      by_cases q : t = i
      · subst q; rw [I_eq]
      · rw [I_nk q]; exact a t (by omega)
theorem c_sweep (fx : FX n ad sa z0 h) (wf : WF ad h) (hQ : ∀ h' f, E40 ad h h' → MKS ad 32 h' f 216 → (∀ t, t < 250 → live ad h t → hI h' (ad 32) t = 1) → Q none h') : EV (d + 2) 157 [.ref (ad 30)] h Q := by
  refine w_sw0 fx ?_
  refine sw_2 fx (fun h1 o2 o3 e1 a1 => ?_) 250 0 h none none rfl E40.rf (fun t ht => absurd ht (Nat.not_lt_zero _))
  refine sw_24 fx wf (fun h2 f2 k2 o2 o3 e2 m2 hk2 d2 => ?_) 24 0 h1 (fun _ => 0) 0 o2 o3 rfl e1 (fun t ht => ⟨.inl (a1 t ht), fun z => absurd ((a1 t ht).symm.trans z) (by decide)⟩) (Nat.le_refl _) (fun a ha => absurd ha (Nat.not_lt_zero _))
  refine sw_52 fx wf (fun h3 f3 o2 o3 e3 m3 d3 g3 => ?_) 24 0 h2 f2 k2 o2 o3 rfl e2 m2 (by omega) d2 (fun k hk => absurd hk (Nat.not_lt_zero _))
  refine sw_133 (h1 := h3) fx (fun t ht => (m3 t ht).1) (fun h4 e4 u4 => ?_) 250 0 h3 o2 o3 rfl e3 (fun _ => rfl) (fun t ht => absurd ht (Nat.not_lt_zero _))
  refine hQ h4 f3 e4 (fun t ht => by rw [u4 t ht]; exact m3 t ht) (fun t ht l => ?_)
  rw [u4 t ht]
  rcases l with ⟨c, hc, el⟩ | ⟨c, g, i, sz, hc, hg, eg, e8, es, hs, hi, el⟩
  · exact d3 c hc t ht el
  · exact g3 c hc g sz i t hg eg e8 es hs hi (by omega) ht el
end SW
