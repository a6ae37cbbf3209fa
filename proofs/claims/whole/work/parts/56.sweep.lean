/-! ===== sweep and make by contract (fb_holes: a starting text of the kit) ===== -/
theorem fb_holes : ∀ (m n : Nat) (f : Nat → Nat), (∀ i, i < n → f i < m) → (∀ i j, i < j → j < n → f i ≠ f j) → n ≤ m := by
  intro m
  induction m with
  | zero =>
    intro n f h1 _
    rcases Nat.eq_zero_or_pos n with h | h
    · omega
    · exact absurd (h1 0 h) (Nat.not_lt_zero _)
  | succ m ih =>
    intro n f h1 h2
    by_cases hx : ∃ i, i < n ∧ f i = m
    · obtain ⟨a, ha, hfa⟩ := hx
      have hg := ih (n - 1) (fun i => if i < a then f i else f (i + 1)) (by
        intro i hi
        by_cases q : i < a
        · simp only [if_pos q]
          have b1 := h1 i (by omega)
          have b2 := h2 i a q ha
          omega
        · simp only [if_neg q]
          have b1 := h1 (i + 1) (by omega)
          have b2 := h2 a (i + 1) (by omega) (by omega)
          omega) (by
        intro i j hij hj
        by_cases q : i < a
        · by_cases r : j < a
          · simp only [if_pos q, if_pos r]
            exact h2 i j hij (by omega)
          · simp only [if_pos q, if_neg r]
            exact h2 i (j + 1) (by omega) (by omega)
        · have r : ¬ j < a := by omega
          simp only [if_neg q, if_neg r]
          exact h2 (i + 1) (j + 1) (by omega) (by omega))
      omega
    · have hg := ih n f (fun i hi => by
        have b1 := h1 i hi
        have b2 : f i ≠ m := fun e => hx ⟨i, hi, e⟩
        omega) h2
      omega
/-- two of them in one place -/
section SW
variable {d : Nat} {Q : mQ} {n : Nat} {ad sa : Nat → Nat} {z0 : Nat} {h h' h1 : mH}
/-- only the marks (40, 32) have changed -/
def E40 (ad : Nat → Nat) (h h' : mH) : Prop := hT h' = hT h ∧ hN h' = hN h ∧ hZ h' = hZ h ∧ hU h' = hU h ∧ hL h' = hL h ∧ hD h' = hD h ∧ hR h' = hR h ∧ ∀ a j, a ≠ ad 40 → a ≠ ad 32 → hI h' a j = hI h a j
theorem E40.rf : E40 ad h h := ⟨rfl, rfl, rfl, rfl, rfl, rfl, rfl, fun _ _ _ _ => rfl⟩
theorem E40.s40 {k : Nat} {v : Int32} (e : E40 ad h h') : E40 ad h (sI h' (ad 40) k v) := by
  obtain ⟨a, b, c, d, f, g, i, j⟩ := e
  exact ⟨a, b, c, d, f, g, i, fun x y h1 h2 => (I_ne h1).trans (j x y h1 h2)⟩
theorem E40.s32 {k : Nat} {v : Int32} (e : E40 ad h h') : E40 ad h (sI h' (ad 32) k v) := by
  obtain ⟨a, b, c, d, f, g, i, j⟩ := e
  exact ⟨a, b, c, d, f, g, i, fun x y h1 h2 => (I_ne h2).trans (j x y h1 h2)⟩
theorem E40.fx (e : E40 ad h h') (fx : FX n ad sa z0 h) : FX n ad sa z0 h' := by
  unfold FX; rw [e.1, e.2.1, e.2.2.1, e.2.2.2.2.2.2.1]; exact fx
theorem E40.i (e : E40 ad h h') (fx : FX n ad sa z0 h) {i j : Nat} (h1 : i ≠ 40) (h2 : i ≠ 32) : hI h' (ad i) j = hI h (ad i) j := e.2.2.2.2.2.2.2 _ _ (fx_ne fx h1) (fx_ne fx h2)
/-- what sweep needs of the store -/
def WF (ad : Nat → Nat) (h : mH) : Prop := ∀ c, c < 24 → hI h (ad 31) c = -1 ∨ (∃ q, q < 60 ∧ hI h (ad 31) c = nI (1000 + q)) ∨ ∃ t, t < 250 ∧ hI h (ad 31) c = nI t ∧ (hI h (ad 33) t = 8 → ∃ sz, sz ≤ 8 ∧ hI h (ad 35) t = nI sz ∧ ∀ i, i < sz → hL h (ad 36) (30 * t + i) = -1 ∨ ∃ u, u < 250 ∧ hL h (ad 36) (30 * t + i) = lN u)
theorem Rs.wf {mid pa : Nat → Nat} {np : Nat} (r : Rs ad z0 mid pa np h) : WF ad h := by
  intro c hc
  have hnp := r.1.1
  rcases r.2.1 c hc with ⟨e, -⟩ | ⟨q, hq, e, -⟩ | ⟨t, ht, e, -, w⟩
  · exact .inl e
  · exact .inr (.inl ⟨q, by omega, e⟩)
  · refine .inr (.inr ⟨t, ht, e, fun e8 => ?_⟩)
    rcases w with ⟨ln, w⟩ | w | w
    · have := w.2.2.2.2.1.2.2.1.symm.trans e8
      have := (nI_eq (a := ln) (b := 8) (by have := w.2.2.2.2.1.1; omega) (by decide)).mp this
      have := w.2.2.2.2.1.1; omega
    · obtain ⟨-, -, -, -, -, sz, w1, -, w2, w3⟩ := w
      refine ⟨sz, w1, w2, fun i hi => ?_⟩
      rcases w3 i hi with ⟨z, -⟩ | ⟨u, z1, z2, -⟩
      · exact .inl z
      · exact .inr ⟨u, z1, z2⟩
    · obtain ⟨-, -, -, -, k, ⟨-, -, w1, -⟩, -⟩ := w
      exact absurd (w1.symm.trans e8) (by decide)
/-- marks are 0 or 1, and at most k of them are 1 -/
def MKS (ad : Nat → Nat) (row : Nat) (h : mH) (f : Nat → Nat) (k : Nat) : Prop := ∀ t, t < 250 → (hI h (ad row) t = 0 ∨ hI h (ad row) t = 1) ∧ (hI h (ad row) t = 1 → ∃ i, i < k ∧ f i = t)
theorem MKS.mono {row k k' : Nat} {f : Nat → Nat} (m : MKS ad row h f k) (hk : k ≤ k') : MKS ad row h f k' := fun t ht => ⟨(m t ht).1, fun e => by obtain ⟨i, h1, h2⟩ := (m t ht).2 e; exact ⟨i, by omega, h2⟩⟩
theorem MKS.add {row k u : Nat} {f : Nat → Nat} (m : MKS ad row h f k) : MKS ad row (sI h (ad row) u 1) (u1 f k u) (k + 1) := by
  intro t ht
  by_cases e : t = u
  · subst e
    rw [I_eq]
    exact ⟨.inr rfl, fun _ => ⟨k, by omega, by unfold u1; rw [if_pos rfl]⟩⟩
  · rw [I_nk e]
    refine ⟨(m t ht).1, fun z => ?_⟩
    obtain ⟨i, h1, h2⟩ := (m t ht).2 z
    exact ⟨i, by omega, by unfold u1; rw [if_neg (by omega)]; exact h2⟩
theorem MKS.free {row k : Nat} {f : Nat → Nat} (m : MKS ad row h f k) (hk : k < 250) : ∃ t, t < 250 ∧ hI h (ad row) t = 0 := by
  apply Classical.byContradiction
  intro no
  have all : ∀ t, t < 250 → ∃ i, i < k ∧ f i = t := fun t ht => (m t ht).2 (by
    rcases (m t ht).1 with z | z
    · exact absurd ⟨t, ht, z⟩ no
    · exact z)
  have g : ∃ g : Nat → Nat, ∀ t, t < 250 → g t < k ∧ f (g t) = t := ⟨fun t => if ht : t < 250 then Classical.choose (all t ht) else 0, fun t ht => by rw [dif_pos ht]; exact Classical.choose_spec (all t ht)⟩
  obtain ⟨g, hg⟩ := g
  have := fb_holes k 250 g (fun i hi => (hg i hi).1) (fun i j hij hj e => by
    have a := (hg i (by omega)).2; have b := (hg j hj).2; rw [e] at a; omega)
  omega
theorem sw_133 {h1 : mH} (fx : FX n ad sa z0 h) (z1 : ∀ t, t < 250 → hI h1 (ad 40) t = 0 ∨ hI h1 (ad 40) t = 1) (hQ : ∀ h', E40 ad h h' → (∀ t, t < 250 → hI h' (ad 32) t = hI h1 (ad 40) t) → Q none h') :
    ∀ m i h' (o2 o3 : Option Value), i + m = 250 → E40 ad h h' → (∀ t, hI h' (ad 40) t = hI h1 (ad 40) t) → (∀ t, t < i → hI h' (ad 32) t = hI h1 (ad 40) t) → WR d cd_157 133 [some (.ref (ad 30)), some (.int (nI i)), o2, o3] [] h' Q := by
  intro m
  have n43 : ad 40 ≠ ad 32 := fx_ne fx (by decide)
  induction m with
  | zero =>
    intro i h' o2 o3 hi e a b
    obtain rfl : i = 250 := by omega
    exact w_sw133 (e.fx fx) _ o2 o3 (fun z => absurd z (by decide)) (fun z => absurd z (by decide)) (fun _ => hQ h' e b) (fun z => absurd z (by decide))
  | succ m ih =>
    intro i h' o2 o3 hi e a b
    have ec : (nI i).toNatClampNeg = i := nI_clamp (by omega)
    refine w_sw133 (e.fx fx) _ o2 o3 (fun _ => vp_in_nI (by omega) (by omega)) ?_ (fun z => ?_) ?_
    · rw [ec, a]; intro _; exact z1 i (by omega)
    · have := (nI_leI (a := 250) (b := i) (by decide) (by omega)).mp z; omega
    · rw [ec, nI_1]
      intro _
      refine ih (i + 1) _ o2 o3 (by omega) e.s32 (fun t => ?_) (fun t ht => ?_)
      · rw [I_ne n43]; exact a t
      · by_cases q : t = i
        · subst q; rw [I_eq]; exact a t
        · rw [I_nk q]; exact b t (by omega)
end SW
