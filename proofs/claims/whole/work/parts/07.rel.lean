/-! ===== what the tables say of a state; the small machine's heap and the machine's own ===== -/
def lw_good : List Cond := lw_tbl.filter goodWord
abbrev mRO : Type := List (Nat × Nat × (Nat → Int32))
def KK (B : Nat) (H0 : Heap) (D : va_G) (dA : Nat → ClassId) (RO : mRO) (sa : Nat → Nat) (U : State) : Prop :=
  (∀ t, 1 ≤ t → t ≤ 11 → u_Kn U (oN t) (FT t) (nF t) (D.1 t) (D.2 t)) ∧
  (∀ t, 20 ≤ t → t ≤ 27 → ArrOfT U (dA t) (aty t) ∧ va_RA U (dA t) (aty t)) ∧
  (∀ a i y q, Cond.methodLinkNest a i y q ∈ lw_tbl → va_Nw (.methodLinkNest a i y q) U) ∧
  (∀ t, 24 ≤ t → t ≤ 27 → va_AO (ecl t) U) ∧
  (∀ t, t = 4 ∨ t = 5 ∨ t = 6 → va_Nw (.castable (oN t) "WindPark$Thing") U) ∧
  (∀ t u, (t = 4 ∨ t = 5 ∨ t = 6) → (u = 4 ∨ u = 5 ∨ u = 6) → t ≠ u → va_Nc (oN t) (oN u) U) ∧
  (∀ j, j < 4 → va_Z (scl j) (snm j) "[I" (.ref (sa j)) (fun q => B ≤ q) U H0) ∧
  (∀ r ∈ RO, va_T .int r.1 r.2.1 (fun j => .int (r.2.2 j)) (fun q => B ≤ q) U H0) ∧ 0 < B ∧ (∀ x, Cond.declares x ∈ lw_tbl → va_Nw (.declares x) U)
theorem KK.moved {B : Nat} {H0 : Heap} {D : va_G} {dA : Nat → ClassId} {RO : mRO} {sa : Nat → Nat} {s U : State} (hW : s.WarmedH U.vm) (h : KK B H0 D dA RO sa s) : KK B H0 D dA RO sa U := by
  obtain ⟨h1, h2, h3, h4, h5, h6, h7, h8, h9, h10⟩ := h
  exact ⟨fun t a b => u_Kn_moved hW.alike (h1 t a b), fun t a b => ⟨arrOfT_moved hW.alike (h2 t a b).1, (h2 t a b).2.moved hW.alike⟩, fun a i y q hq => va_Nw.warmM hW (h3 a i y q hq), fun t a b => va_AO.moved hW.alike (h4 t a b), fun t a => va_Nw.warmC hW (h5 t a), fun t u a b c => va_Nc.moved hW.alike (h6 t u a b c), fun j a => va_Z.moved hW.alike (h7 j a), fun r a => va_T.moved hW.alike (h8 r a), h9, fun x hx => va_Nw.warmD hW (h10 x hx)⟩
theorem KK.same {B : Nat} {H0 : Heap} {D : va_G} {dA : Nat → ClassId} {RO : mRO} {sa : Nat → Nat} {s U : State} (hv : U.vm = s.vm) (h : KK B H0 D dA RO sa s) : KK B H0 D dA RO sa U := KK.moved (by rw [hv]; exact State.WarmedH.refl s) h
/-- the cell at a is as the small heap has it -/
def cOK (B : Nat) (D : va_G) (dA : Nat → ClassId) (RO : mRO) (h : mH) (H : Heap) (a : Nat) : Prop :=
  (1 ≤ hT h a → hT h a ≤ 11 → B ≤ a ∧ t_OB a (D.1 (hT h a)) (nF (hT h a)) (D.2 (hT h a)) H (fun f => vT (fty (hT h a) f) h a f)) ∧
  (20 ≤ hT h a → hT h a ≤ 27 → B ≤ a ∧ H[a]? = some (arrV (dA (hT h a)) (hN h a) (fun j => vT (aty (hT h a)) h a j))) ∧
  (hT h a = 30 → ∃ r ∈ RO, r.1 = a ∧ r.2.1 = hN h a ∧ ∀ j, j < hN h a → r.2.2 j = hI h a j)
def Rl (B : Nat) (H0 : Heap) (D : va_G) (dA : Nat → ClassId) (RO : mRO) (sa : Nat → Nat) (h : mH) (H : Heap) : Prop :=
  H.size = hZ h ∧ B ≤ hZ h ∧ (∀ q, q < B → H[q]? = H0[q]?) ∧ (∀ j, j < 4 → hR h 0 j = some (sa j)) ∧ 0 < B ∧ ∀ a, cOK B D dA RO h H a
theorem u2_at {α : Type} (f : Nat → Nat → α) (a k : Nat) (v : α) : u2 f a k v a k = v := by simp [u2]
theorem u2_ne {α : Type} (f : Nat → Nat → α) {a b : Nat} (h : b ≠ a) (k j : Nat) (v : α) : u2 f a k v b j = f b j := by simp [u2, h]
theorem vT_sI {z : FieldType} {h : mH} {a b k j : Nat} {v : Int32} (hb : b ≠ a) : vT z (sI h a k v) b j = vT z h b j := by
  unfold vT sI hI hL hD hR
  split <;> first | rfl | (simp only; rw [u2_ne _ hb])
theorem vT_sL {z : FieldType} {h : mH} {a b k j : Nat} {v : Int64} (hb : b ≠ a) : vT z (sL h a k v) b j = vT z h b j := by
  unfold vT sL hI hL hD hR
  split <;> first | rfl | (simp only; rw [u2_ne _ hb])
theorem vT_sD {z : FieldType} {h : mH} {a b k j : Nat} {v : UInt64} (hb : b ≠ a) : vT z (sD h a k v) b j = vT z h b j := by
  unfold vT sD hI hL hD hR
  split <;> first | rfl | (simp only; rw [u2_ne _ hb])
theorem vT_sR {z : FieldType} {h : mH} {a b k j : Nat} {v : Option Nat} (hb : b ≠ a) : vT z (sR h a k v) b j = vT z h b j := by
  unfold vT sR hI hL hD hR
  split <;> first | rfl | (simp only; rw [u2_ne _ hb])
/-- a store at a: the other cells stand as they were -/
theorem cOK.keep {B : Nat} {D : va_G} {dA : Nat → ClassId} {RO : mRO} {h h' : mH} {H H' : Heap} {b : Nat} (hc : cOK B D dA RO h H b) (ht : hT h' b = hT h b) (hn : hN h' b = hN h b) (hv : ∀ z j, vT z h' b j = vT z h b j) (hH : H'[b]? = H[b]?) : cOK B D dA RO h' H' b := by
  obtain ⟨c1, c2, c3⟩ := hc
  refine ⟨fun p q => ?_, fun p q => ?_, fun p => ?_⟩
  · rw [ht] at p q ⊢
    obtain ⟨x, y⟩ := c1 p q
    exact ⟨x, (y.kept hH).to fun k _ => (hv _ _).symm⟩
  · rw [ht] at p q ⊢
    obtain ⟨x, y⟩ := c2 p q
    refine ⟨x, ?_⟩
    rw [hH, y, hn]
    simp only [hv]
  · rw [ht] at p
    obtain ⟨r, r1, r2, r3, r4⟩ := c3 p
    refine ⟨r, r1, r2, by rw [hn]; exact r3, fun j hj => ?_⟩
    rw [hn] at hj
    have e := hv .int j
    have e2 : Value.int (hI h' b j) = Value.int (hI h b j) := e
    rw [r4 j hj]
    exact (Value.int.inj e2).symm
theorem Rl.store {B : Nat} {H0 : Heap} {D : va_G} {dA : Nat → ClassId} {RO : mRO} {sa : Nat → Nat} {h h' : mH} {H H' : Heap} {a : Nat} (hr : Rl B H0 D dA RO sa h H) (hB : B ≤ a) (ht : hT h' = hT h) (hn : hN h' = hN h) (hz : hZ h' = hZ h) (hv : ∀ b, b ≠ a → ∀ z j, vT z h' b j = vT z h b j) (hs : H'.size = H.size) (hH : ∀ q, q ≠ a → H'[q]? = H[q]?) (hc : cOK B D dA RO h' H' a) : Rl B H0 D dA RO sa h' H' := by
  obtain ⟨r1, r2, r3, r4, r5, r6⟩ := hr
  have h0 : (0 : Nat) ≠ a := by omega
  refine ⟨by rw [hs, hz]; exact r1, by rw [hz]; exact r2, fun q hq => by rw [hH q (by omega)]; exact r3 q hq, fun j hj => ?_, r5, fun b => ?_⟩
  · have e := hv 0 h0 (.object "") j
    have e2 : va_rf (hR h' 0 j) = va_rf (hR h 0 j) := e
    rw [r4 j hj] at e2
    cases q : hR h' 0 j with
    | none => rw [q] at e2; cases e2
    | some x => rw [q] at e2; cases e2; rfl
  · by_cases e : b = a
    · subst e; exact hc
    · exact (r6 b).keep (by rw [ht]) (by rw [hn]) (hv b e) (hH b e)
theorem arr_vT {z : FieldType} {cA : ClassId} {n k : Nat} {h h' : mH} {a : Nat} {x : Value} (h1 : vT z h' a k = x) (h2 : ∀ j, j ≠ k → vT z h' a j = vT z h a j) : (arrV cA n (fun j => vT z h a j)).setSlot k x = arrV cA n (fun j => vT z h' a j) := by
  rw [arrV_store]
  congr 1
  funext j
  unfold updV
  by_cases e : j = k
  · rw [if_pos e, e, h1]
  · rw [if_neg e, h2 j e]
