/-! ===== steps that read or change the heap ===== -/
theorem mem_good {w : Cond} (h : w ∈ lw_tbl) (g : goodWord w = true) : w ∈ lw_good := List.mem_filter.mpr ⟨h, g⟩
theorem mem_of_map {α : Type} {L : List α} {f : α → Cond} {ps : List Nat} (h : L.map f = ps.filterMap fun i => lw_tbl[i]?) {r : α} (hr : r ∈ L) : f r ∈ lw_tbl := by
  have h1 : f r ∈ L.map f := List.mem_map.mpr ⟨r, hr, rfl⟩
  rw [h] at h1
  obtain ⟨i, -, hi⟩ := List.mem_filterMap.mp h1
  exact List.mem_of_getElem? hi
theorem lk_mem {L : List (Nat × Nat × Nat)} {o x v : Nat} (h : lk L o x = some v) : (o, x, v) ∈ L := by
  unfold lk at h
  cases hf : L.find? (fun r => r.1 == o && r.2.1 == x) with
  | none => rw [hf] at h; cases h
  | some r =>
    rw [hf] at h
    have h1 := List.mem_of_find?_eq_some hf
    have h2 := List.find?_some hf
    simp only [Bool.and_eq_true, beq_iff_eq] at h2
    have h3 : r.2.2 = v := Option.some.inj h
    obtain ⟨a, b, c⟩ := r
    simp only at h2 h3
    rw [← h2.1, ← h2.2, ← h3]
    exact h1
section SH
variable {p : Program} {l : Launch} {e : Env} {R : Room} {s : State} {m : MethodId} {args : Array Value} {below : List Frame} {meth : Method} {c : Code} {Z : State → Prop} {B : Nat} {H0 : Heap} {D : va_G} {dA : Nat → ClassId} {RO : mRO} {sa : Nat → Nat} {cc : ByteArray} {nL o : Nat} {b z : Bool} {Ts : List Cond} {h0 : mH}
theorem lo_add {locs : List Loc} {a i : Nat} (h : lo_ok B locs) (ha : B ≤ a) : lo_ok B (locs ++ [⟨a, i⟩]) := by
  intro q hq
  rcases List.mem_append.mp hq with h1 | h1
  · exact h q h1
  · rw [List.mem_singleton] at h1
    subst h1
    exact ha
/-- an array of the small heap -/
theorem Rl.arr {h : mH} {H : Heap} {a t : Nat} (hq : Rl B H0 D dA RO sa h H) (ht : hT h a = t) (h1 : 20 ≤ t) (h2 : t ≤ 27) : B ≤ a ∧ H[a]? = some (arrV (dA t) (hN h a) (fun j => vT (aty t) h a j)) := by
  subst ht
  exact (hq.2.2.2.2.2 a).2.1 h1 h2
theorem Rl.obj {h : mH} {H : Heap} {a t : Nat} (hq : Rl B H0 D dA RO sa h H) (ht : hT h a = t) (h1 : 1 ≤ t) (h2 : t ≤ 11) : B ≤ a ∧ t_OB a (D.1 t) (nF t) (D.2 t) H (fun f => vT (fty t f) h a f) := by
  subst ht
  exact (hq.2.2.2.2.2 a).1 h1 h2
theorem Rl.ro {h : mH} {H : Heap} {a : Nat} (hq : Rl B H0 D dA RO sa h H) (hK : KK B H0 D dA RO sa s) (ht : hT h a = 30) : ∃ scr : Cell, H[a]? = some scr ∧ s.isArrayOf scr .int ∧ scr.vm ≠ .unknown ∧ hN h a ≤ scr.slots.size ∧ scr.slots.size.toInt32 = nI (hN h a) ∧ ∀ j : Nat, j < hN h a → scr.slots[j]? = some (.int (hI h a j)) := by
  obtain ⟨r, r1, r2, r3, r4⟩ := (hq.2.2.2.2.2 a).2.2 ht
  obtain ⟨scr, q1, q2, q3, q4, q5, q6, q7⟩ := hK.2.2.2.2.2.2.2.1 r r1
  subst r2
  rw [r3] at q4 q5 q6
  exact ⟨scr, by rw [hq.2.2.1 _ (Nat.lt_of_not_le q7)]; exact q1, q2, q3, q4, q5, fun j hj => by rw [q6 j hj]; exact congrArg (fun z => some (Value.int z)) (r4 j hj)⟩
theorem cOK_arr {h h' : mH} {H' : Heap} {a k t : Nat} {x : Value} (ht : hT h a = t) (h1 : 20 ≤ t) (h2 : t ≤ 27) (hB : B ≤ a) (ht' : hT h' = hT h) (hn' : hN h' = hN h) (e1 : H'[a]? = some ((arrV (dA t) (hN h a) (fun j => vT (aty t) h a j)).setSlot k x)) (v1 : vT (aty t) h' a k = x) (v2 : ∀ j, j ≠ k → vT (aty t) h' a j = vT (aty t) h a j) : cOK B D dA RO h' H' a := by
  refine ⟨fun p q => ?_, fun p q => ⟨hB, ?_⟩, fun p => ?_⟩
  · rw [ht', ht] at p q; omega
  · rw [ht', ht, hn', e1, arr_vT v1 v2]
  · rw [ht', ht] at p; omega
theorem cOK_obj {h h' : mH} {H' : Heap} {a k t : Nat} {x : Value} {cell : Cell} (ht : hT h a = t) (h1 : 1 ≤ t) (h2 : t ≤ 11) (hB : B ≤ a) (ht' : hT h' = hT h) (c1 : cell.cls = D.1 t) (c2 : cell.vm = .none) (c3 : ∀ f, f < nF t → cell.slots[D.2 t f]? = some (vT (fty t f) h a f)) (hap : ∀ x y, x < nF t → y < nF t → x ≠ y → D.2 t x ≠ D.2 t y) (hk : k < nF t) (e1 : H'[a]? = some (cell.setSlot (D.2 t k) x)) (v1 : vT (fty t k) h' a k = x) (v2 : ∀ j, j ≠ k → vT (fty t j) h' a j = vT (fty t j) h a j) : cOK B D dA RO h' H' a := by
  refine ⟨fun p q => ⟨hB, ?_⟩, fun p q => ?_, fun p => ?_⟩
  · rw [ht', ht]
    refine ⟨_, e1, c1, c2, fun f hf => ?_⟩
    rw [t_set c3 hap hk x f hf]
    unfold updV
    by_cases e : f = k
    · rw [if_pos e, e]; exact congrArg some v1.symm
    · rw [if_neg e]; exact congrArg some (v2 f e).symm
  · rw [ht', ht] at p q; omega
  · rw [ht', ht] at p; omega
theorem u2_j {α : Type} (f : Nat → Nat → α) (a k : Nat) {j : Nat} (h : j ≠ k) (v : α) : u2 f a k v a j = f a j := by simp [u2, h]
theorem vT_sI_j {z : FieldType} {h : mH} {a k j : Nat} {v : Int32} (hb : j ≠ k) : vT z (sI h a k v) a j = vT z h a j := by
  unfold vT sI hI hL hD hR
  split <;> first | rfl | (simp only; rw [u2_j _ _ _ hb])
theorem vT_sL_j {z : FieldType} {h : mH} {a k j : Nat} {v : Int64} (hb : j ≠ k) : vT z (sL h a k v) a j = vT z h a j := by
  unfold vT sL hI hL hD hR
  split <;> first | rfl | (simp only; rw [u2_j _ _ _ hb])
theorem vT_sD_j {z : FieldType} {h : mH} {a k j : Nat} {v : UInt64} (hb : j ≠ k) : vT z (sD h a k v) a j = vT z h a j := by
  unfold vT sD hI hL hD hR
  split <;> first | rfl | (simp only; rw [u2_j _ _ _ hb])
theorem vT_sR_j {z : FieldType} {h : mH} {a k j : Nat} {v : Option Nat} (hb : j ≠ k) : vT z (sR h a k v) a j = vT z h a j := by
  unfold vT sR hI hL hD hR
  split <;> first | rfl | (simp only; rw [u2_j _ _ _ hb])
theorem vp_lt {i : Int32} {n : Nat} (h : vp_in i n) : i.toNatClampNeg < n := Nat.not_le.mp fun q => h (Or.inr q)

set_option maxHeartbeats 1000000 in
theorem sn_iaload (C : Cx B H0 D dA RO sa p R s m args meth c cc nL o b z Ts) {E : mE} {i : Instr} {pc len : Nat} {lv lv' : mL} {st st' : List Value} {h h' : mH} {pc' : Nat} {H : Heap} {locs : List Loc} {ls : Array Slot}
    (hd : decode cc pc = .ok (.iaload, len)) (hln : len = iln (.iaload) len) (hrs : rsv o b z pc (.iaload) = some i) (hstp : stp E i (pc + len) lv st h (fun a b c d => a = pc' ∧ b = lv' ∧ c = st' ∧ d = h') qNo)
    (hRl : Rl B H0 D dA RO sa h H) (hlo : lo_ok B locs) (hl : lvR ls lv) (hnL : lv.length = nL) (hz0 : gE h0 h) (hcap : hZ h' ≤ hZ h0 + R.cells ∧ hU h' ≤ hU h0 + R.slots)
    (K : ∀ H' locs' ls', Rl B H0 D dA RO sa h' H' → lo_ok B locs' → lvR ls' lv' → lv'.length = nL → WG p l e R s m args below meth c Z h0 h' H' locs' pc' ls' st') : WG p l e R s m args below meth c Z h0 h H locs pc ls st := by
  obtain ⟨hx, hb, hml, hown, hts, hgd, hK, hfr, hlcl, hini⟩ := C

  obtain rfl : len = 1 := hln
  cases hrs
  obtain ⟨i, r, rfl, hs⟩ := pI_inv hstp
  obtain ⟨a, r, rfl, hs⟩ := pA_inv hs
  obtain ⟨ht, hin, rfl, rfl, rfl, rfl⟩ := hs
  rcases ht with ht | ht
  · obtain ⟨hB, hc⟩ := hRl.arr ht (by decide) (by decide)
    exact W.iald (v := .int (hI h a i.toNatClampNeg)) hx hb hc ((hK.2.1 20 (by decide) (by decide)).1 _ _) (fun q => by cases q) (by show ¬ (_ ∨ (arrV _ _ _).slots.size ≤ _); rw [arrV_size]; exact hin) (by show (arrV _ _ _).slots[_]? = _; rw [arrV_read _ _ (vp_lt hin)]; rfl) rfl rfl hd (K _ _ _ hRl hlo hl hnL)
  · obtain ⟨scr, c1, c2, c3, c4, c6, c5⟩ := hRl.ro hK ht
    exact W.iald (v := .int (hI h a i.toNatClampNeg)) hx hb c1 c2 c3 (fun q => hin (q.imp id fun z => Nat.le_trans c4 z)) (c5 _ (vp_lt hin)) rfl rfl hd (K _ _ _ hRl hlo hl hnL)
set_option maxHeartbeats 1000000 in
theorem sn_laload (C : Cx B H0 D dA RO sa p R s m args meth c cc nL o b z Ts) {E : mE} {i : Instr} {pc len : Nat} {lv lv' : mL} {st st' : List Value} {h h' : mH} {pc' : Nat} {H : Heap} {locs : List Loc} {ls : Array Slot}
    (hd : decode cc pc = .ok (.laload, len)) (hln : len = iln (.laload) len) (hrs : rsv o b z pc (.laload) = some i) (hstp : stp E i (pc + len) lv st h (fun a b c d => a = pc' ∧ b = lv' ∧ c = st' ∧ d = h') qNo)
    (hRl : Rl B H0 D dA RO sa h H) (hlo : lo_ok B locs) (hl : lvR ls lv) (hnL : lv.length = nL) (hz0 : gE h0 h) (hcap : hZ h' ≤ hZ h0 + R.cells ∧ hU h' ≤ hU h0 + R.slots)
    (K : ∀ H' locs' ls', Rl B H0 D dA RO sa h' H' → lo_ok B locs' → lvR ls' lv' → lv'.length = nL → WG p l e R s m args below meth c Z h0 h' H' locs' pc' ls' st') : WG p l e R s m args below meth c Z h0 h H locs pc ls st := by
  obtain ⟨hx, hb, hml, hown, hts, hgd, hK, hfr, hlcl, hini⟩ := C

  obtain rfl : len = 1 := hln
  cases hrs
  obtain ⟨i, r, rfl, hs⟩ := pI_inv hstp
  obtain ⟨a, r, rfl, hs⟩ := pA_inv hs
  obtain ⟨ht, hin, rfl, rfl, rfl, rfl⟩ := hs
  obtain ⟨hB, hc⟩ := hRl.arr ht (by decide) (by decide)
  exact W.lald (v := .long (hL h a i.toNatClampNeg)) hx hb hc ((hK.2.1 21 (by decide) (by decide)).1 _ _) (fun q => by cases q) (by show ¬ (_ ∨ (arrV _ _ _).slots.size ≤ _); rw [arrV_size]; exact hin) (by show (arrV _ _ _).slots[_]? = _; rw [arrV_read _ _ (vp_lt hin)]; rfl) rfl rfl hd (K _ _ _ hRl hlo hl hnL)
set_option maxHeartbeats 1000000 in
theorem sn_daload (C : Cx B H0 D dA RO sa p R s m args meth c cc nL o b z Ts) {E : mE} {i : Instr} {pc len : Nat} {lv lv' : mL} {st st' : List Value} {h h' : mH} {pc' : Nat} {H : Heap} {locs : List Loc} {ls : Array Slot}
    (hd : decode cc pc = .ok (.daload, len)) (hln : len = iln (.daload) len) (hrs : rsv o b z pc (.daload) = some i) (hstp : stp E i (pc + len) lv st h (fun a b c d => a = pc' ∧ b = lv' ∧ c = st' ∧ d = h') qNo)
    (hRl : Rl B H0 D dA RO sa h H) (hlo : lo_ok B locs) (hl : lvR ls lv) (hnL : lv.length = nL) (hz0 : gE h0 h) (hcap : hZ h' ≤ hZ h0 + R.cells ∧ hU h' ≤ hU h0 + R.slots)
    (K : ∀ H' locs' ls', Rl B H0 D dA RO sa h' H' → lo_ok B locs' → lvR ls' lv' → lv'.length = nL → WG p l e R s m args below meth c Z h0 h' H' locs' pc' ls' st') : WG p l e R s m args below meth c Z h0 h H locs pc ls st := by
  obtain ⟨hx, hb, hml, hown, hts, hgd, hK, hfr, hlcl, hini⟩ := C

  obtain rfl : len = 1 := hln
  cases hrs
  obtain ⟨i, r, rfl, hs⟩ := pI_inv hstp
  obtain ⟨a, r, rfl, hs⟩ := pA_inv hs
  obtain ⟨ht, hin, rfl, rfl, rfl, rfl⟩ := hs
  obtain ⟨hB, hc⟩ := hRl.arr ht (by decide) (by decide)
  exact W.dald (v := .double (hD h a i.toNatClampNeg)) hx hb hc ((hK.2.1 22 (by decide) (by decide)).1 _ _) (fun q => by cases q) (by show ¬ (_ ∨ (arrV _ _ _).slots.size ≤ _); rw [arrV_size]; exact hin) (by show (arrV _ _ _).slots[_]? = _; rw [arrV_read _ _ (vp_lt hin)]; rfl) rfl rfl hd (K _ _ _ hRl hlo hl hnL)
set_option maxHeartbeats 1000000 in
theorem sn_baload (C : Cx B H0 D dA RO sa p R s m args meth c cc nL o b z Ts) {E : mE} {i : Instr} {pc len : Nat} {lv lv' : mL} {st st' : List Value} {h h' : mH} {pc' : Nat} {H : Heap} {locs : List Loc} {ls : Array Slot}
    (hd : decode cc pc = .ok (.baload, len)) (hln : len = iln (.baload) len) (hrs : rsv o b z pc (.baload) = some i) (hstp : stp E i (pc + len) lv st h (fun a b c d => a = pc' ∧ b = lv' ∧ c = st' ∧ d = h') qNo)
    (hRl : Rl B H0 D dA RO sa h H) (hlo : lo_ok B locs) (hl : lvR ls lv) (hnL : lv.length = nL) (hz0 : gE h0 h) (hcap : hZ h' ≤ hZ h0 + R.cells ∧ hU h' ≤ hU h0 + R.slots)
    (K : ∀ H' locs' ls', Rl B H0 D dA RO sa h' H' → lo_ok B locs' → lvR ls' lv' → lv'.length = nL → WG p l e R s m args below meth c Z h0 h' H' locs' pc' ls' st') : WG p l e R s m args below meth c Z h0 h H locs pc ls st := by
  obtain ⟨hx, hb, hml, hown, hts, hgd, hK, hfr, hlcl, hini⟩ := C

  obtain rfl : len = 1 := hln
  cases hrs
  obtain ⟨i, r, rfl, hs⟩ := pI_inv hstp
  obtain ⟨a, r, rfl, hs⟩ := pA_inv hs
  obtain ⟨ht, hin, rfl, rfl, rfl, rfl⟩ := hs
  obtain ⟨hB, hc⟩ := hRl.arr ht (by decide) (by decide)
  exact W.zald (v := .int (hI h a i.toNatClampNeg)) hx hb hc ((hK.2.1 23 (by decide) (by decide)).1 _ _) (fun q => by cases q) (by show ¬ (_ ∨ (arrV _ _ _).slots.size ≤ _); rw [arrV_size]; exact hin) (by show (arrV _ _ _).slots[_]? = _; rw [arrV_read _ _ (vp_lt hin)]; rfl) rfl rfl hd (K _ _ _ hRl hlo hl hnL)
set_option maxHeartbeats 1000000 in
theorem sn_aaload (C : Cx B H0 D dA RO sa p R s m args meth c cc nL o b z Ts) {E : mE} {i : Instr} {pc len : Nat} {lv lv' : mL} {st st' : List Value} {h h' : mH} {pc' : Nat} {H : Heap} {locs : List Loc} {ls : Array Slot}
    (hd : decode cc pc = .ok (.aaload, len)) (hln : len = iln (.aaload) len) (hrs : rsv o b z pc (.aaload) = some i) (hstp : stp E i (pc + len) lv st h (fun a b c d => a = pc' ∧ b = lv' ∧ c = st' ∧ d = h') qNo)
    (hRl : Rl B H0 D dA RO sa h H) (hlo : lo_ok B locs) (hl : lvR ls lv) (hnL : lv.length = nL) (hz0 : gE h0 h) (hcap : hZ h' ≤ hZ h0 + R.cells ∧ hU h' ≤ hU h0 + R.slots)
    (K : ∀ H' locs' ls', Rl B H0 D dA RO sa h' H' → lo_ok B locs' → lvR ls' lv' → lv'.length = nL → WG p l e R s m args below meth c Z h0 h' H' locs' pc' ls' st') : WG p l e R s m args below meth c Z h0 h H locs pc ls st := by
  obtain ⟨hx, hb, hml, hown, hts, hgd, hK, hfr, hlcl, hini⟩ := C

  obtain rfl : len = 1 := hln
  cases hrs
  obtain ⟨i, r, rfl, hs⟩ := pI_inv hstp
  obtain ⟨a, r, rfl, hs⟩ := pA_inv hs
  obtain ⟨ht, hin, rfl, rfl, rfl, rfl⟩ := hs
  obtain ⟨q1, q2⟩ := ht
  obtain ⟨t, ht⟩ : ∃ t, hT h a = t := ⟨_, rfl⟩
  rw [ht] at q1 q2
  obtain ⟨hB, hc⟩ := hRl.arr ht (by omega) q2
  have ho : (aty t).isReference = true ∧ ∀ j, vT (aty t) h a j = va_rf (hR h a j) := by
    have : t = 24 ∨ t = 25 ∨ t = 26 ∨ t = 27 := by omega
    rcases this with rfl | rfl | rfl | rfl <;> exact ⟨rfl, fun _ => rfl⟩
  exact W.aald (v := va_rf (hR h a i.toNatClampNeg)) hx hb hc ((hK.2.1 t (by omega) q2).1 _ _) ho.1 (fun q => by cases q) (by show ¬ (_ ∨ (arrV _ _ _).slots.size ≤ _); rw [arrV_size]; exact hin) (by show (arrV _ _ _).slots[_]? = _; rw [arrV_read _ _ (vp_lt hin), ho.2]) rfl rfl hd (K _ _ _ hRl hlo hl hnL)
set_option maxHeartbeats 1000000 in
theorem sn_iastore (C : Cx B H0 D dA RO sa p R s m args meth c cc nL o b z Ts) {E : mE} {i : Instr} {pc len : Nat} {lv lv' : mL} {st st' : List Value} {h h' : mH} {pc' : Nat} {H : Heap} {locs : List Loc} {ls : Array Slot}
    (hd : decode cc pc = .ok (.iastore, len)) (hln : len = iln (.iastore) len) (hrs : rsv o b z pc (.iastore) = some i) (hstp : stp E i (pc + len) lv st h (fun a b c d => a = pc' ∧ b = lv' ∧ c = st' ∧ d = h') qNo)
    (hRl : Rl B H0 D dA RO sa h H) (hlo : lo_ok B locs) (hl : lvR ls lv) (hnL : lv.length = nL) (hz0 : gE h0 h) (hcap : hZ h' ≤ hZ h0 + R.cells ∧ hU h' ≤ hU h0 + R.slots)
    (K : ∀ H' locs' ls', Rl B H0 D dA RO sa h' H' → lo_ok B locs' → lvR ls' lv' → lv'.length = nL → WG p l e R s m args below meth c Z h0 h' H' locs' pc' ls' st') : WG p l e R s m args below meth c Z h0 h H locs pc ls st := by
  obtain ⟨hx, hb, hml, hown, hts, hgd, hK, hfr, hlcl, hini⟩ := C

  obtain rfl : len = 1 := hln
  cases hrs
  obtain ⟨v, r, rfl, hs⟩ := pI_inv hstp
  obtain ⟨i, r, rfl, hs⟩ := pI_inv hs
  obtain ⟨a, r, rfl, hs⟩ := pA_inv hs
  obtain ⟨ht, hin, rfl, rfl, rfl, rfl⟩ := hs
  obtain ⟨hB, hc⟩ := hRl.arr ht (by decide) (by decide)
  exact W.iast hx hb hc ((hK.2.1 20 (by decide) (by decide)).1 _ _) (fun q => by cases q) (by show ¬ (_ ∨ (arrV _ _ _).slots.size ≤ _); rw [arrV_size]; exact hin) rfl rfl hd (fun H' e1 e2 e3 => K _ _ _ (hRl.store hB rfl rfl rfl (fun b q z j => vT_sI q) e2 e3 (cOK_arr ht (by decide) (by decide) hB rfl rfl e1 (by show Value.int (u2 _ _ _ _ _ _) = _; rw [u2_at]) (fun j q => vT_sI_j q))) (lo_add hlo hB) hl hnL)
set_option maxHeartbeats 1000000 in
theorem sn_lastore (C : Cx B H0 D dA RO sa p R s m args meth c cc nL o b z Ts) {E : mE} {i : Instr} {pc len : Nat} {lv lv' : mL} {st st' : List Value} {h h' : mH} {pc' : Nat} {H : Heap} {locs : List Loc} {ls : Array Slot}
    (hd : decode cc pc = .ok (.lastore, len)) (hln : len = iln (.lastore) len) (hrs : rsv o b z pc (.lastore) = some i) (hstp : stp E i (pc + len) lv st h (fun a b c d => a = pc' ∧ b = lv' ∧ c = st' ∧ d = h') qNo)
    (hRl : Rl B H0 D dA RO sa h H) (hlo : lo_ok B locs) (hl : lvR ls lv) (hnL : lv.length = nL) (hz0 : gE h0 h) (hcap : hZ h' ≤ hZ h0 + R.cells ∧ hU h' ≤ hU h0 + R.slots)
    (K : ∀ H' locs' ls', Rl B H0 D dA RO sa h' H' → lo_ok B locs' → lvR ls' lv' → lv'.length = nL → WG p l e R s m args below meth c Z h0 h' H' locs' pc' ls' st') : WG p l e R s m args below meth c Z h0 h H locs pc ls st := by
  obtain ⟨hx, hb, hml, hown, hts, hgd, hK, hfr, hlcl, hini⟩ := C

  obtain rfl : len = 1 := hln
  cases hrs
  obtain ⟨v, r, rfl, hs⟩ := pL_inv hstp
  obtain ⟨i, r, rfl, hs⟩ := pI_inv hs
  obtain ⟨a, r, rfl, hs⟩ := pA_inv hs
  obtain ⟨ht, hin, rfl, rfl, rfl, rfl⟩ := hs
  obtain ⟨hB, hc⟩ := hRl.arr ht (by decide) (by decide)
  exact W.last hx hb hc ((hK.2.1 21 (by decide) (by decide)).1 _ _) (fun q => by cases q) (by show ¬ (_ ∨ (arrV _ _ _).slots.size ≤ _); rw [arrV_size]; exact hin) rfl rfl hd (fun H' e1 e2 e3 => K _ _ _ (hRl.store hB rfl rfl rfl (fun b q z j => vT_sL q) e2 e3 (cOK_arr ht (by decide) (by decide) hB rfl rfl e1 (by show Value.long (u2 _ _ _ _ _ _) = _; rw [u2_at]) (fun j q => vT_sL_j q))) (lo_add hlo hB) hl hnL)
set_option maxHeartbeats 1000000 in
theorem sn_dastore (C : Cx B H0 D dA RO sa p R s m args meth c cc nL o b z Ts) {E : mE} {i : Instr} {pc len : Nat} {lv lv' : mL} {st st' : List Value} {h h' : mH} {pc' : Nat} {H : Heap} {locs : List Loc} {ls : Array Slot}
    (hd : decode cc pc = .ok (.dastore, len)) (hln : len = iln (.dastore) len) (hrs : rsv o b z pc (.dastore) = some i) (hstp : stp E i (pc + len) lv st h (fun a b c d => a = pc' ∧ b = lv' ∧ c = st' ∧ d = h') qNo)
    (hRl : Rl B H0 D dA RO sa h H) (hlo : lo_ok B locs) (hl : lvR ls lv) (hnL : lv.length = nL) (hz0 : gE h0 h) (hcap : hZ h' ≤ hZ h0 + R.cells ∧ hU h' ≤ hU h0 + R.slots)
    (K : ∀ H' locs' ls', Rl B H0 D dA RO sa h' H' → lo_ok B locs' → lvR ls' lv' → lv'.length = nL → WG p l e R s m args below meth c Z h0 h' H' locs' pc' ls' st') : WG p l e R s m args below meth c Z h0 h H locs pc ls st := by
  obtain ⟨hx, hb, hml, hown, hts, hgd, hK, hfr, hlcl, hini⟩ := C

  obtain rfl : len = 1 := hln
  cases hrs
  obtain ⟨v, r, rfl, hs⟩ := pD_inv hstp
  obtain ⟨i, r, rfl, hs⟩ := pI_inv hs
  obtain ⟨a, r, rfl, hs⟩ := pA_inv hs
  obtain ⟨ht, hin, rfl, rfl, rfl, rfl⟩ := hs
  obtain ⟨hB, hc⟩ := hRl.arr ht (by decide) (by decide)
  exact W.dast hx hb hc ((hK.2.1 22 (by decide) (by decide)).1 _ _) (fun q => by cases q) (by show ¬ (_ ∨ (arrV _ _ _).slots.size ≤ _); rw [arrV_size]; exact hin) rfl rfl hd (fun H' e1 e2 e3 => K _ _ _ (hRl.store hB rfl rfl rfl (fun b q z j => vT_sD q) e2 e3 (cOK_arr ht (by decide) (by decide) hB rfl rfl e1 (by show Value.double (u2 _ _ _ _ _ _) = _; rw [u2_at]) (fun j q => vT_sD_j q))) (lo_add hlo hB) hl hnL)
set_option maxHeartbeats 1000000 in
theorem sn_bastore (C : Cx B H0 D dA RO sa p R s m args meth c cc nL o b z Ts) {E : mE} {i : Instr} {pc len : Nat} {lv lv' : mL} {st st' : List Value} {h h' : mH} {pc' : Nat} {H : Heap} {locs : List Loc} {ls : Array Slot}
    (hd : decode cc pc = .ok (.bastore, len)) (hln : len = iln (.bastore) len) (hrs : rsv o b z pc (.bastore) = some i) (hstp : stp E i (pc + len) lv st h (fun a b c d => a = pc' ∧ b = lv' ∧ c = st' ∧ d = h') qNo)
    (hRl : Rl B H0 D dA RO sa h H) (hlo : lo_ok B locs) (hl : lvR ls lv) (hnL : lv.length = nL) (hz0 : gE h0 h) (hcap : hZ h' ≤ hZ h0 + R.cells ∧ hU h' ≤ hU h0 + R.slots)
    (K : ∀ H' locs' ls', Rl B H0 D dA RO sa h' H' → lo_ok B locs' → lvR ls' lv' → lv'.length = nL → WG p l e R s m args below meth c Z h0 h' H' locs' pc' ls' st') : WG p l e R s m args below meth c Z h0 h H locs pc ls st := by
  obtain ⟨hx, hb, hml, hown, hts, hgd, hK, hfr, hlcl, hini⟩ := C

  obtain rfl : len = 1 := hln
  cases hrs
  obtain ⟨v, r, rfl, hs⟩ := pI_inv hstp
  obtain ⟨i, r, rfl, hs⟩ := pI_inv hs
  obtain ⟨a, r, rfl, hs⟩ := pA_inv hs
  obtain ⟨ht, hin, hv, rfl, rfl, rfl, rfl⟩ := hs
  have hnv : narrow .boolean (.int v) = .int v := by rcases hv with rfl | rfl <;> rfl
  obtain ⟨hB, hc⟩ := hRl.arr ht (by decide) (by decide)
  exact W.zast hx hb hc ((hK.2.1 23 (by decide) (by decide)).1 _ _) (fun q => by cases q) (by show ¬ (_ ∨ (arrV _ _ _).slots.size ≤ _); rw [arrV_size]; exact hin) rfl rfl hd (fun H' e1 e2 e3 => K _ _ _ (hRl.store hB rfl rfl rfl (fun b q z j => vT_sI q) e2 e3 (cOK_arr ht (by decide) (by decide) hB rfl rfl (by rw [hnv] at e1; exact e1) (by show Value.int (u2 _ _ _ _ _ _) = _; rw [u2_at]) (fun j q => vT_sI_j q))) (lo_add hlo hB) hl hnL)
set_option maxHeartbeats 1000000 in
theorem sn_arraylength (C : Cx B H0 D dA RO sa p R s m args meth c cc nL o b z Ts) {E : mE} {i : Instr} {pc len : Nat} {lv lv' : mL} {st st' : List Value} {h h' : mH} {pc' : Nat} {H : Heap} {locs : List Loc} {ls : Array Slot}
    (hd : decode cc pc = .ok (.arraylength, len)) (hln : len = iln (.arraylength) len) (hrs : rsv o b z pc (.arraylength) = some i) (hstp : stp E i (pc + len) lv st h (fun a b c d => a = pc' ∧ b = lv' ∧ c = st' ∧ d = h') qNo)
    (hRl : Rl B H0 D dA RO sa h H) (hlo : lo_ok B locs) (hl : lvR ls lv) (hnL : lv.length = nL) (hz0 : gE h0 h) (hcap : hZ h' ≤ hZ h0 + R.cells ∧ hU h' ≤ hU h0 + R.slots)
    (K : ∀ H' locs' ls', Rl B H0 D dA RO sa h' H' → lo_ok B locs' → lvR ls' lv' → lv'.length = nL → WG p l e R s m args below meth c Z h0 h' H' locs' pc' ls' st') : WG p l e R s m args below meth c Z h0 h H locs pc ls st := by
  obtain ⟨hx, hb, hml, hown, hts, hgd, hK, hfr, hlcl, hini⟩ := C

  obtain rfl : len = 1 := hln
  cases hrs
  obtain ⟨a, r, rfl, hs⟩ := pA_inv hstp
  obtain ⟨ht, rfl, rfl, rfl, rfl⟩ := hs
  rcases ht with ⟨q1, q3⟩ | q4
  · obtain ⟨hB, hc⟩ := hRl.arr rfl q1 q3
    exact W.alen hx hb hc ((hK.2.1 _ q1 q3).1 _ _) (by rw [arrV_size]; rfl) rfl rfl hd (K _ _ _ hRl hlo hl hnL)
  · obtain ⟨scr, c1, c2, c3, c4, c6, c5⟩ := hRl.ro hK q4
    exact W.alen hx hb c1 c2 c6 rfl rfl hd (K _ _ _ hRl hlo hl hnL)
end SH
