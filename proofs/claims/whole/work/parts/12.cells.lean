/-! ===== fields, new cells, casts, statics, natives ===== -/
theorem t11 {P : Nat → Prop} (h1 : P 1) (h2 : P 2) (h3 : P 3) (h4 : P 4) (h5 : P 5) (h6 : P 6) (h7 : P 7) (h8 : P 8) (h9 : P 9) (h10 : P 10) (h11 : P 11) : ∀ t, 1 ≤ t → t ≤ 11 → P t := by
  intro t a b
  have : t = 1 ∨ t = 2 ∨ t = 3 ∨ t = 4 ∨ t = 5 ∨ t = 6 ∨ t = 7 ∨ t = 8 ∨ t = 9 ∨ t = 10 ∨ t = 11 := by omega
  rcases this with rfl | rfl | rfl | rfl | rfl | rfl | rfl | rfl | rfl | rfl | rfl <;> assumption
theorem lay_good : ∀ t, 1 ≤ t → t ≤ 11 → ∀ w ∈ u_ws (oN t) (FT t) (nF t), w ∈ lw_good := by
  have key : ∀ (t : Nat) (ps : List Nat), u_ws (oN t) (FT t) (nF t) = ps.filterMap (fun i => lw_tbl[i]?) → ∀ w ∈ u_ws (oN t) (FT t) (nF t), w ∈ lw_good := by
    intro t ps h w hw
    refine mem_good ?_ ?_
    · rw [h] at hw
      obtain ⟨i, -, hi⟩ := List.mem_filterMap.mp hw
      exact List.mem_of_getElem? hi
    · obtain ⟨k, -, rfl⟩ := List.mem_map.mp hw
      unfold u_lay
      split <;> rfl
  exact t11 (key _ _ wL_1) (key _ _ wL_2) (key _ _ wL_3) (key _ _ wL_4) (key _ _ wL_5) (key _ _ wL_6) (key _ _ wL_7) (key _ _ wL_8) (key _ _ wL_9) (key _ _ wL_10) (key _ _ wL_11)
theorem nm_ok : ∀ t, 1 ≤ t → t ≤ 11 → ∀ a, a < nF t → ∀ b, b < nF t → a ≠ b → (FT t a).2.1 ≠ (FT t b).2.1 := t11 nm_1 nm_2 nm_3 nm_4 nm_5 nm_6 nm_7 nm_8 nm_9 nm_10 nm_11
theorem ty_ok : ∀ t, 1 ≤ t → t ≤ 11 → ∀ k, k < nF t → parseFieldDescriptor (FT t k).2.2.1 = some (fty t k) := t11 ty_1 ty_2 ty_3 ty_4 ty_5 ty_6 ty_7 ty_8 ty_9 ty_10 ty_11
def okZ (z : FieldType) : Bool := match z with
  | .int => true
  | .boolean => true
  | .long => true
  | .double => true
  | .object _ => true
  | .array _ => true
  | _ => false
theorem fty_z : ∀ t, 1 ≤ t → t ≤ 11 → ∀ k, k < nF t → okZ (fty t k) = true := t11 (by decide +kernel) (by decide +kernel) (by decide +kernel) (by decide +kernel) (by decide +kernel) (by decide +kernel) (by decide +kernel) (by decide +kernel) (by decide +kernel) (by decide +kernel) (by decide +kernel)
theorem ins_good {t : Nat} (h1 : 1 ≤ t) (h2 : t ≤ 11) : Cond.instantiable (oN t) (nF t) ∈ lw_good := by
  refine mem_good (mem_of_map (f := iN) wIn ?_) rfl
  exact t11 (P := fun t => t ∈ [1, 2, 3, 4, 5, 6, 7, 8, 9, 10, 11]) (by decide) (by decide) (by decide) (by decide) (by decide) (by decide) (by decide) (by decide) (by decide) (by decide) (by decide) t h1 h2
theorem ini_good {t : Nat} (h1 : 1 ≤ t) (h2 : t ≤ 18) : Cond.initialized (oN t) ∈ lw_good := by
  refine mem_good (mem_of_map (f := iT) wIt ?_) rfl
  have : t = 1 ∨ t = 2 ∨ t = 3 ∨ t = 4 ∨ t = 5 ∨ t = 6 ∨ t = 7 ∨ t = 8 ∨ t = 9 ∨ t = 10 ∨ t = 11 ∨ t = 12 ∨ t = 13 ∨ t = 14 ∨ t = 15 ∨ t = 16 ∨ t = 17 ∨ t = 18 := by omega
  rcases this with rfl | rfl | rfl | rfl | rfl | rfl | rfl | rfl | rfl | rfl | rfl | rfl | rfl | rfl | rfl | rfl | rfl | rfl <;> decide
theorem pV_inv {z : FieldType} {v : Value} {h : mH} {a k : Nat} {q : mH → Prop} (hp : pV z [v] h a k q) : ∃ h', q h' ∧ fits z v = true ∧ narrow z v = v ∧ hT h' = hT h ∧ hN h' = hN h ∧ hZ h' = hZ h ∧ hU h' = hU h ∧ vT z h' a k = v ∧ (∀ z' j, j ≠ k → vT z' h' a j = vT z' h a j) ∧ ∀ b, b ≠ a → ∀ z' j, vT z' h' b j = vT z' h b j := by
  unfold pV at hp
  split at hp
  · rename_i z st v' r e; cases e
    exact ⟨_, hp, rfl, rfl, rfl, rfl, rfl, rfl, congrArg Value.long (u2_at _ _ _ _), fun _ _ e => vT_sL_j e, fun _ e _ _ => vT_sL e⟩
  · rename_i z st v' r e; cases e
    exact ⟨_, hp, rfl, rfl, rfl, rfl, rfl, rfl, congrArg Value.double (u2_at _ _ _ _), fun _ _ e => vT_sD_j e, fun _ e _ _ => vT_sD e⟩
  · rename_i z st n v' r e; cases e
    exact ⟨_, hp, rfl, rfl, rfl, rfl, rfl, rfl, congrArg va_rf (u2_at _ _ _ _), fun _ _ e => vT_sR_j e, fun _ e _ _ => vT_sR e⟩
  · rename_i z st n r e; cases e
    exact ⟨_, hp, rfl, rfl, rfl, rfl, rfl, rfl, congrArg va_rf (u2_at _ _ _ _), fun _ _ e => vT_sR_j e, fun _ e _ _ => vT_sR e⟩
  · rename_i z st n v' r e; cases e
    exact ⟨_, hp, rfl, rfl, rfl, rfl, rfl, rfl, congrArg va_rf (u2_at _ _ _ _), fun _ _ e => vT_sR_j e, fun _ e _ _ => vT_sR e⟩
  · rename_i z st n r e; cases e
    exact ⟨_, hp, rfl, rfl, rfl, rfl, rfl, rfl, congrArg va_rf (u2_at _ _ _ _), fun _ _ e => vT_sR_j e, fun _ e _ _ => vT_sR e⟩
  · rename_i z st v' r e; cases e
    exact ⟨_, hp, rfl, rfl, rfl, rfl, rfl, rfl, congrArg Value.int (u2_at _ _ _ _), fun _ _ e => vT_sI_j e, fun _ e _ _ => vT_sI e⟩
  · rename_i z st v' r e; cases e
    obtain ⟨hv, hp⟩ := hp
    refine ⟨_, hp, ?_, ?_, rfl, rfl, rfl, rfl, congrArg Value.int (u2_at _ _ _ _), fun _ _ e => vT_sI_j e, fun _ e _ _ => vT_sI e⟩
    · rcases hv with rfl | rfl <;> rfl
    · rcases hv with rfl | rfl <;> rfl
  · exact hp.elim
theorem cst_k : ∀ r ∈ lkK, (match cst.getD r.2.2 .null with | .long _ => true | .double _ => true | _ => false) = true := by decide +kernel
theorem u1_at {α : Type} (f : Nat → α) (a : Nat) (v : α) : u1 f a v a = v := by simp [u1]
theorem u1_ne {α : Type} (f : Nat → α) {a b : Nat} (h : b ≠ a) (v : α) : u1 f a v b = f b := by simp [u1, h]
theorem vT_nw {z : FieldType} {h : mH} {t n m b j : Nat} (hb : b ≠ hZ h) : vT z (nw h t n m) b j = vT z h b j := by
  unfold vT nw hI hL hD hR
  split <;> (simp only; rw [u1_ne _ hb])
theorem vT_nw0 {z : FieldType} {h : mH} {t n m j : Nat} (hz : okZ z = true) : vT z (nw h t n m) (hZ h) j = defaultValue z := by
  unfold vT nw hI hL hD hR
  cases z <;> first | (simp only; rw [u1_at]; rfl) | cases hz
section SF
variable {p : Program} {l : Launch} {e : Env} {R : Room} {s : State} {m : MethodId} {args : Array Value} {below : List Frame} {meth : Method} {c : Code} {Z : State → Prop} {B : Nat} {H0 : Heap} {D : va_G} {dA : Nat → ClassId} {RO : mRO} {sa : Nat → Nat} {cc : ByteArray} {nL o : Nat} {b z : Bool} {Ts : List Cond} {h0 : mH}
theorem Rl.alloc {h : mH} {H H' : Heap} {t n k : Nat} (hq : Rl B H0 D dA RO sa h H) (hs : H'.size = hZ h + 1) (hH : ∀ q, q < hZ h → H'[q]? = H[q]?) (hc : cOK B D dA RO (nw h t n k) H' (hZ h)) : Rl B H0 D dA RO sa (nw h t n k) H' := by
  obtain ⟨r1, r2, r3, r4, r5, r6⟩ := hq
  refine ⟨hs, Nat.le_succ_of_le r2, fun q hq => by rw [hH q (by omega)]; exact r3 q hq, fun j hj => ?_, r5, fun a => ?_⟩
  · have e : hR (nw h t n k) 0 = hR h 0 := u1_ne _ (by omega) _
    rw [e]; exact r4 j hj
  · by_cases e : a = hZ h
    · subst e; exact hc
    · refine (r6 a).keep (u1_ne _ e _) (u1_ne _ e _) (fun z j => vT_nw e) ?_
      by_cases q : a < hZ h
      · exact hH a q
      · rw [Array.getElem?_eq_none (by omega), Array.getElem?_eq_none (by omega)]
theorem KK.apart (hts : ∀ w ∈ Ts, w.before args s = true) (hgd : ∀ w ∈ lw_good, w ∈ Ts) (hK : KK B H0 D dA RO sa s) {t : Nat} (h1 : 1 ≤ t) (h2 : t ≤ 11) : ∀ x y, x < nF t → y < nF t → x ≠ y → D.2 t x ≠ D.2 t y := by
  intro x y hx hy hne
  obtain ⟨hS, -⟩ := hK.1 t h1 h2
  obtain ⟨_, _, _, fa, hia, ea⟩ := hS x hx
  obtain ⟨_, _, _, fb, hib, eb⟩ := hS y hy
  have hin := fun w hw => hgd w (lay_good t h1 h2 w hw)
  rw [← ea, ← eb]
  refine u_apart (u_lays hts hin hx) (u_lays hts hin hy) hia hib ?_
  rw [(State.fieldFound?_type hia (ty_ok t h1 h2 x hx)).1, (State.fieldFound?_type hib (ty_ok t h1 h2 y hy)).1]
  exact nm_ok t h1 h2 x hx y hy hne
/-- an object of the small heap, as the rows ask for it -/
theorem Rl.cell {h : mH} {H : Heap} {a t : Nat} (hq : Rl B H0 D dA RO sa h H) (hK : KK B H0 D dA RO sa s) (ht : hT h a = t) (h1 : 1 ≤ t) (h2 : t ≤ 11) : ∃ cell : Cell, H[a]? = some cell ∧ cell.vm.isStatics = false ∧ s.vm.findClass (oN t) = some cell.cls := by
  obtain ⟨-, cell, q1, q2, q3, -⟩ := hq.obj ht h1 h2
  exact ⟨cell, q1, by rw [q3]; rfl, by rw [q2]; exact (hK.1 t h1 h2).2.1⟩

set_option maxHeartbeats 1000000 in
theorem sn_getfield (C : Cx B H0 D dA RO sa p R s m args meth c cc nL o b z Ts) {E : mE} {x : Nat} {i : Instr} {pc len : Nat} {lv lv' : mL} {st st' : List Value} {h h' : mH} {pc' : Nat} {H : Heap} {locs : List Loc} {ls : Array Slot}
    (hd : decode cc pc = .ok (.getfield x, len)) (hln : len = iln (.getfield x) len) (hrs : rsv o b z pc (.getfield x) = some i) (hstp : stp E i (pc + len) lv st h (fun a b c d => a = pc' ∧ b = lv' ∧ c = st' ∧ d = h') qNo)
    (hRl : Rl B H0 D dA RO sa h H) (hlo : lo_ok B locs) (hl : lvR ls lv) (hnL : lv.length = nL) (hz0 : gE h0 h) (hcap : hZ h' ≤ hZ h0 + R.cells ∧ hU h' ≤ hU h0 + R.slots)
    (K : ∀ H' locs' ls', Rl B H0 D dA RO sa h' H' → lo_ok B locs' → lvR ls' lv' → lv'.length = nL → WG p l e R s m args below meth c Z h0 h' H' locs' pc' ls' st') : WG p l e R s m args below meth c Z h0 h H locs pc ls st := by
  obtain ⟨hx, hb, hml, hown, hts, hgd, hK, hfr, hlcl, hini⟩ := C

  obtain rfl : len = 3 := hln
  simp only [rsv, Option.map_eq_some_iff] at hrs
  obtain ⟨g, hg, rfl⟩ := hrs
  have hm := lk_mem hg
  obtain ⟨g1, g2, g3⟩ : 1 ≤ g / 100 ∧ g / 100 ≤ 11 ∧ g % 100 < nF (g / 100) := lkF_k _ hm
  have hlink := hts _ (hgd _ (mem_good (mem_of_map (f := fW) wF hm) rfl))
  obtain ⟨a, r, rfl, hs⟩ := pA_inv hstp
  obtain ⟨ht, rfl, rfl, rfl, rfl⟩ := hs
  obtain ⟨hB, cell, q1, q2, q3, q4⟩ := hRl.obj ht g1 g2
  obtain ⟨hS, hfc, kC, hkC, hkind⟩ := hK.1 _ g1 g2
  obtain ⟨cf, kf, fi, f, hi, hsl⟩ := hS _ g3
  exact W.getf hx hb hown hlink hi (u_facts hfc hkC (u_lays hts (fun w hw => hgd w (lay_good _ g1 g2 w hw)) g3) hi).1 q1 (by rw [q3]; exact fun q => by cases q) (v := vT (fty (g / 100) (g % 100)) h a (g % 100)) (by rw [hsl]; exact q4 _ g3) rfl rfl hd (K _ _ _ hRl hlo hl hnL)
set_option maxHeartbeats 1000000 in
theorem sn_putfield (C : Cx B H0 D dA RO sa p R s m args meth c cc nL o b z Ts) {E : mE} {x : Nat} {i : Instr} {pc len : Nat} {lv lv' : mL} {st st' : List Value} {h h' : mH} {pc' : Nat} {H : Heap} {locs : List Loc} {ls : Array Slot}
    (hd : decode cc pc = .ok (.putfield x, len)) (hln : len = iln (.putfield x) len) (hrs : rsv o b z pc (.putfield x) = some i) (hstp : stp E i (pc + len) lv st h (fun a b c d => a = pc' ∧ b = lv' ∧ c = st' ∧ d = h') qNo)
    (hRl : Rl B H0 D dA RO sa h H) (hlo : lo_ok B locs) (hl : lvR ls lv) (hnL : lv.length = nL) (hz0 : gE h0 h) (hcap : hZ h' ≤ hZ h0 + R.cells ∧ hU h' ≤ hU h0 + R.slots)
    (K : ∀ H' locs' ls', Rl B H0 D dA RO sa h' H' → lo_ok B locs' → lvR ls' lv' → lv'.length = nL → WG p l e R s m args below meth c Z h0 h' H' locs' pc' ls' st') : WG p l e R s m args below meth c Z h0 h H locs pc ls st := by
  obtain ⟨hx, hb, hml, hown, hts, hgd, hK, hfr, hlcl, hini⟩ := C

  obtain rfl : len = 3 := hln
  simp only [rsv, Option.bind_eq_some_iff] at hrs
  obtain ⟨g, hg, hrs⟩ := hrs
  split at hrs
  case isFalse => cases hrs
  rename_i hfin
  cases hrs
  have hm := lk_mem hg
  obtain ⟨g1, g2, g3⟩ : 1 ≤ g / 100 ∧ g / 100 ≤ 11 ∧ g % 100 < nF (g / 100) := lkF_k _ hm
  have hlink := hts _ (hgd _ (mem_good (mem_of_map (f := fW) wF hm) rfl))
  match st, hstp with
  | v :: r, hstp =>
  obtain ⟨a, r, rfl, hs⟩ := pA_inv hstp
  obtain ⟨ht, hs⟩ := hs
  obtain ⟨h2, ⟨rfl, rfl, rfl, rfl⟩, p1, p2, p3, p4, p5, p6, p7, p8, p9⟩ := pV_inv hs
  obtain ⟨hB, cell, q1, q2, q3, q4⟩ := hRl.obj ht g1 g2
  obtain ⟨hS, hfc, kC, hkC, hkind⟩ := hK.1 _ g1 g2
  obtain ⟨cf, kf, fi, f, hi, hsl⟩ := hS _ g3
  have hin := fun w hw => hgd w (lay_good _ g1 g2 w hw)
  have hst := (u_facts hfc hkC (u_lays hts hin g3) hi).1
  have hap := KK.apart hts hgd hK g1 g2
  have hlay := hts _ (hin _ (u_in_lay g3))
  have hdty := ty_ok _ g1 g2 _ g3
  unfold u_lay at hlay
  have fin : ∀ H' : Heap, H'[a]? = some (cell.setSlot f.slot v) → H'.size = H.size → (∀ q, q ≠ a → H'[q]? = H[q]?) → WG p l e R s m args below meth c Z h0 h H' (locs ++ [⟨a, f.slot⟩]) (pc + 3) ls r := by
    intro H' e1 e2 e3
    have := K H' (locs ++ [⟨a, f.slot⟩]) ls (hRl.store hB p3 p4 p5 p9 e2 e3 (cOK_obj ht g1 g2 hB p3 q2 q3 q4 hap g3 (by rw [hsl] at e1; exact e1) p7 (fun j q => p8 _ j q))) (lo_add hlo hB) hl hnL
    unfold WG at this ⊢
    rw [p5, p6] at this
    exact this
  by_cases hf : (FT (g / 100) (g % 100)).2.2.2 = true
  · rw [if_pos hf] at hlay
    have hcase : b = true ∧ g / 100 = o := by
      rcases hfin with q | q
      · have q' : (FT (g / 100) (g % 100)).2.2.2 = false := q
        rw [q'] at hf; cases hf
      · exact q
    have hcf : m.cls = cf := by
      obtain ⟨_, _, c', _, _, _, -, -, hf', -, -, -, hown2, -⟩ := Cond.laysFinal_spec hlay
      have e1 : c' = cf := by have := hi.symm.trans hf'; simp at this; exact this.1.symm
      have hown3 : s.vm.findClass (oN o) = some c' := by rw [← hcase.2]; exact hown2
      rw [← e1]; exact Option.some.inj (hown.symm.trans hown3)
    have h6 := u_fits hfc hkC hkind (Or.inr hlay) hi hdty p2 p1
    exact W.putFinK hx hb hown hlink hi hst hcf (hini hcase.1) (by rw [q2]; exact h6) q1 q3 (by rw [hsl]; exact k2_hasslot (q4 _ g3)) rfl rfl hd fin
  · rw [if_neg hf] at hlay
    have h6 := u_store hfc hkC hkind hlay hi hdty p2 p1
    exact W.putK hx hb (f := f) ⟨hown, hlink, ⟨_, _, _, hi⟩, hst⟩ (by rw [q2]; exact h6) q1 q3 (by rw [hsl]; exact k2_hasslot (q4 _ g3)) rfl rfl hd fin
set_option maxHeartbeats 1000000 in
theorem sn_getstatic (C : Cx B H0 D dA RO sa p R s m args meth c cc nL o b z Ts) {E : mE} {x : Nat} {i : Instr} {pc len : Nat} {lv lv' : mL} {st st' : List Value} {h h' : mH} {pc' : Nat} {H : Heap} {locs : List Loc} {ls : Array Slot}
    (hd : decode cc pc = .ok (.getstatic x, len)) (hln : len = iln (.getstatic x) len) (hrs : rsv o b z pc (.getstatic x) = some i) (hstp : stp E i (pc + len) lv st h (fun a b c d => a = pc' ∧ b = lv' ∧ c = st' ∧ d = h') qNo)
    (hRl : Rl B H0 D dA RO sa h H) (hlo : lo_ok B locs) (hl : lvR ls lv) (hnL : lv.length = nL) (hz0 : gE h0 h) (hcap : hZ h' ≤ hZ h0 + R.cells ∧ hU h' ≤ hU h0 + R.slots)
    (K : ∀ H' locs' ls', Rl B H0 D dA RO sa h' H' → lo_ok B locs' → lvR ls' lv' → lv'.length = nL → WG p l e R s m args below meth c Z h0 h' H' locs' pc' ls' st') : WG p l e R s m args below meth c Z h0 h H locs pc ls st := by
  obtain ⟨hx, hb, hml, hown, hts, hgd, hK, hfr, hlcl, hini⟩ := C

  obtain rfl : len = 3 := hln
  simp only [rsv, Option.map_eq_some_iff] at hrs
  obtain ⟨j, hg, rfl⟩ := hrs
  have hm := lk_mem hg
  have hj : j < 4 := lkS_k _ hm
  have hlink := hts _ (hgd _ (mem_good (mem_of_map (f := sW) wS hm) rfl))
  obtain ⟨a, ha, rfl, rfl, rfl, rfl⟩ := hstp
  have e1 : a = sa j := by rw [hRl.2.2.2.1 j hj] at ha; exact (Option.some.inj ha).symm
  subst e1
  obtain ⟨cf, kf, fi, f, a', cell, f1, f2, f3, f4, f5, f6, f7, f8⟩ := hK.2.2.2.2.2.2.1 j hj
  exact W.gets hx hb hown hlink f1 f2 f3 f4 (by rw [hRl.2.2.1 _ (Nat.lt_of_not_le f8)]; exact f5) (fun q => by rw [q] at f6; cases f6) f7 rfl hd (K _ _ _ hRl hlo hl hnL)
set_option maxHeartbeats 1000000 in
theorem sn_ldc (C : Cx B H0 D dA RO sa p R s m args meth c cc nL o b z Ts) {E : mE} {x : Nat} {i : Instr} {pc len : Nat} {lv lv' : mL} {st st' : List Value} {h h' : mH} {pc' : Nat} {H : Heap} {locs : List Loc} {ls : Array Slot}
    (hd : decode cc pc = .ok (.ldc x, len)) (hln : len = iln (.ldc x) len) (hrs : rsv o b z pc (.ldc x) = some i) (hstp : stp E i (pc + len) lv st h (fun a b c d => a = pc' ∧ b = lv' ∧ c = st' ∧ d = h') qNo)
    (hRl : Rl B H0 D dA RO sa h H) (hlo : lo_ok B locs) (hl : lvR ls lv) (hnL : lv.length = nL) (hz0 : gE h0 h) (hcap : hZ h' ≤ hZ h0 + R.cells ∧ hU h' ≤ hU h0 + R.slots)
    (K : ∀ H' locs' ls', Rl B H0 D dA RO sa h' H' → lo_ok B locs' → lvR ls' lv' → lv'.length = nL → WG p l e R s m args below meth c Z h0 h' H' locs' pc' ls' st') : WG p l e R s m args below meth c Z h0 h H locs pc ls st := by
  obtain ⟨hx, hb, hml, hown, hts, hgd, hK, hfr, hlcl, hini⟩ := C

  obtain rfl : len = 2 := hln
  simp only [rsv, Option.map_eq_some_iff] at hrs
  obtain ⟨v, hg, rfl⟩ := hrs
  cases hlk : lk lkI o x with
  | none => rw [hlk] at hg; cases hg
  | some u =>
  rw [hlk] at hg
  have hg : (u : Int) = v := Option.some.inj hg
  subst hg
  have hw := hts _ (hgd _ (mem_good (mem_of_map (f := iW) wI (lk_mem hlk)) rfl))
  obtain ⟨rfl, rfl, rfl, rfl⟩ := hstp
  exact lv_ldc hx hb hown hw hd (K _ _ _ hRl hlo hl hnL)
set_option maxHeartbeats 1000000 in
theorem sn_ldc2 (C : Cx B H0 D dA RO sa p R s m args meth c cc nL o b z Ts) {E : mE} {x : Nat} {i : Instr} {pc len : Nat} {lv lv' : mL} {st st' : List Value} {h h' : mH} {pc' : Nat} {H : Heap} {locs : List Loc} {ls : Array Slot}
    (hd : decode cc pc = .ok (.ldc2_w x, len)) (hln : len = iln (.ldc2_w x) len) (hrs : rsv o b z pc (.ldc2_w x) = some i) (hstp : stp E i (pc + len) lv st h (fun a b c d => a = pc' ∧ b = lv' ∧ c = st' ∧ d = h') qNo)
    (hRl : Rl B H0 D dA RO sa h H) (hlo : lo_ok B locs) (hl : lvR ls lv) (hnL : lv.length = nL) (hz0 : gE h0 h) (hcap : hZ h' ≤ hZ h0 + R.cells ∧ hU h' ≤ hU h0 + R.slots)
    (K : ∀ H' locs' ls', Rl B H0 D dA RO sa h' H' → lo_ok B locs' → lvR ls' lv' → lv'.length = nL → WG p l e R s m args below meth c Z h0 h' H' locs' pc' ls' st') : WG p l e R s m args below meth c Z h0 h H locs pc ls st := by
  obtain ⟨hx, hb, hml, hown, hts, hgd, hK, hfr, hlcl, hini⟩ := C

  obtain rfl : len = 3 := hln
  simp only [rsv, Option.map_eq_some_iff] at hrs
  obtain ⟨v, hg, rfl⟩ := hrs
  have hw := mem_of_map (f := kW) wK (lk_mem hg)
  obtain ⟨rfl, rfl, rfl, rfl⟩ := hstp
  have hk : (∃ u, cst.getD v .null = .long u) ∨ ∃ u, cst.getD v .null = .double u := by
    have := cst_k _ (lk_mem hg)
    revert this
    show (match cst.getD v .null with | .long _ => true | .double _ => true | _ => false) = true → _
    cases cst.getD v .null with
    | long u => exact fun _ => .inl ⟨u, rfl⟩
    | double u => exact fun _ => .inr ⟨u, rfl⟩
    | int u => exact fun q => by cases q
    | float u => exact fun q => by cases q
    | null => exact fun q => by cases q
    | ref u => exact fun q => by cases q
    | retAddr u => exact fun q => by cases q
  unfold kW at hw
  rcases hk with ⟨u, e⟩ | ⟨u, e⟩
  · simp only [e] at hw K
    exact lv_ldc2 hx hb hown (hts _ (hgd _ (mem_good hw rfl))) hd (K _ _ _ hRl hlo hl hnL)
  · simp only [e] at hw K
    exact lv_ldc2d hx hb hown (hts _ (hgd _ (mem_good hw rfl))) hd (K _ _ _ hRl hlo hl hnL)
set_option maxHeartbeats 1000000 in
theorem sn_new (C : Cx B H0 D dA RO sa p R s m args meth c cc nL o b z Ts) {E : mE} {x : Nat} {i : Instr} {pc len : Nat} {lv lv' : mL} {st st' : List Value} {h h' : mH} {pc' : Nat} {H : Heap} {locs : List Loc} {ls : Array Slot}
    (hd : decode cc pc = .ok (.new x, len)) (hln : len = iln (.new x) len) (hrs : rsv o b z pc (.new x) = some i) (hstp : stp E i (pc + len) lv st h (fun a b c d => a = pc' ∧ b = lv' ∧ c = st' ∧ d = h') qNo)
    (hRl : Rl B H0 D dA RO sa h H) (hlo : lo_ok B locs) (hl : lvR ls lv) (hnL : lv.length = nL) (hz0 : gE h0 h) (hcap : hZ h' ≤ hZ h0 + R.cells ∧ hU h' ≤ hU h0 + R.slots)
    (K : ∀ H' locs' ls', Rl B H0 D dA RO sa h' H' → lo_ok B locs' → lvR ls' lv' → lv'.length = nL → WG p l e R s m args below meth c Z h0 h' H' locs' pc' ls' st') : WG p l e R s m args below meth c Z h0 h H locs pc ls st := by
  obtain ⟨hx, hb, hml, hown, hts, hgd, hK, hfr, hlcl, hini⟩ := C

  obtain rfl : len = 3 := hln
  simp only [rsv, Option.map_eq_some_iff] at hrs
  obtain ⟨t, hg, rfl⟩ := hrs
  have hm := lk_mem hg
  obtain ⟨g1, g2⟩ : 1 ≤ t ∧ t ≤ 11 := lkN_k _ hm
  have hlink : (Cond.classLink (oN o) x (oN t)).before args s = true := hts _ (hgd _ (mem_good (mem_of_map (f := nW) wN hm) rfl))
  obtain ⟨rfl, rfl, rfl, rfl⟩ := hstp
  obtain ⟨hS, hfc, kC, hkC, hkind⟩ := id (hK.1 t g1 g2)
  have c1 : hZ h + 1 ≤ hZ h0 + R.cells := hcap.1
  have c2 : hU h + nF t ≤ hU h0 + R.slots := hcap.2
  obtain ⟨z1, z2⟩ := hz0
  refine W.newcK (n := nF t) hx hb hown hlink (hts _ (hgd _ (ins_good g1 g2))) (hts _ (hgd _ (ini_good (t := t) g1 (by omega)))) rfl hd (by omega) (by omega) hfc (h := hZ h) hRl.1 fun H' kC' hk1 e1 e2 e3 => ?_
  have hin := fun w hw => hgd w (lay_good t g1 g2 w hw)
  have hob := u_born (o := hZ h) (H := H') (fty t) hts hin (hK.1 t g1 g2) hk1 e1 (ty_ok t g1 g2)
  have hr' : Rl B H0 D dA RO sa (nw h t (nF t) (nF t)) H' := by
    refine hRl.alloc e2 e3 ⟨fun p q => ?_, fun p q => ?_, fun p => ?_⟩
    · have et : hT (nw h t (nF t) (nF t)) (hZ h) = t := u1_at _ _ _
      rw [et]
      exact ⟨hRl.2.1, hob.to fun k hk => (vT_nw0 (fty_z t g1 g2 k hk)).symm⟩
    · have et : hT (nw h t (nF t) (nF t)) (hZ h) = t := u1_at _ _ _
      rw [et] at p q; omega
    · have et : hT (nw h t (nF t) (nF t)) (hZ h) = t := u1_at _ _ _
      rw [et] at p; omega
  have := K H' locs ls hr' hlo hl hnL
  unfold WG at this
  have ez : hZ (nw h t (nF t) (nF t)) - hZ h0 = hZ h - hZ h0 + 1 := by show hZ h + 1 - hZ h0 = _; omega
  have eu : hU (nw h t (nF t) (nF t)) - hU h0 = hU h - hU h0 + nF t := by show hU h + nF t - hU h0 = _; omega
  rw [ez, eu] at this
  exact this
theorem push_at {α : Type} (H : Array α) (x : α) {k : Nat} (h : H.size = k) : (H.push x)[k]? = some x := by subst h; simp
theorem push_lt {α : Type} (H : Array α) (x : α) {k q : Nat} (h : H.size = k) (hq : q < k) : (H.push x)[q]? = H[q]? := by subst h; rw [Array.getElem?_push_lt hq, Array.getElem?_eq_getElem hq]
theorem arr4 {t : ArrayType} (h : 20 ≤ atag t) : (20 ≤ atag t ∧ atag t ≤ 23) ∧ newarray.typeOf t = aty (atag t) ∧ okZ (aty (atag t)) = true ∧ componentBytes (aty (atag t)) ≤ 8 ∧ (∀ (U : State) (cA : ClassId), va_RA U cA (aty (atag t)) → U.vm.findClass ("[" ++ (aty (atag t)).toString) = some cA) ∧ Cond.arrayClass (aty (atag t)) ∈ lw_good := by
  have hw : ∀ k, k ∈ [20, 21, 22, 23] → aC k ∈ lw_good := fun k hk => mem_good (mem_of_map (f := aC) wAc hk) rfl
  cases t <;> first
    | (exfalso; revert h; decide)
    | exact ⟨by decide, rfl, rfl, by decide, fun _ _ q => q, hw _ (by decide)⟩
set_option maxHeartbeats 1000000 in
theorem sn_newarray (C : Cx B H0 D dA RO sa p R s m args meth c cc nL o b z Ts) {E : mE} {ta : ArrayType} {i : Instr} {pc len : Nat} {lv lv' : mL} {st st' : List Value} {h h' : mH} {pc' : Nat} {H : Heap} {locs : List Loc} {ls : Array Slot}
    (hd : decode cc pc = .ok (.newarray ta, len)) (hln : len = iln (.newarray ta) len) (hrs : rsv o b z pc (.newarray ta) = some i) (hstp : stp E i (pc + len) lv st h (fun a b c d => a = pc' ∧ b = lv' ∧ c = st' ∧ d = h') qNo)
    (hRl : Rl B H0 D dA RO sa h H) (hlo : lo_ok B locs) (hl : lvR ls lv) (hnL : lv.length = nL) (hz0 : gE h0 h) (hcap : hZ h' ≤ hZ h0 + R.cells ∧ hU h' ≤ hU h0 + R.slots)
    (K : ∀ H' locs' ls', Rl B H0 D dA RO sa h' H' → lo_ok B locs' → lvR ls' lv' → lv'.length = nL → WG p l e R s m args below meth c Z h0 h' H' locs' pc' ls' st') : WG p l e R s m args below meth c Z h0 h H locs pc ls st := by
  obtain ⟨hx, hb, hml, hown, hts, hgd, hK, hfr, hlcl, hini⟩ := C

  obtain rfl : len = 2 := hln
  cases hrs
  obtain ⟨n, r, rfl, hs⟩ := pI_inv hstp
  obtain ⟨⟨ht, hn, hn2⟩, rfl, rfl, rfl, rfl⟩ := hs
  obtain ⟨⟨t1, t2⟩, a2, a3, a4, a5, a6⟩ := arr4 ht
  have c1 : hZ h + 1 ≤ hZ h0 + R.cells := hcap.1
  have c2 : hU h + n.toNatClampNeg ≤ hU h0 + R.slots := hcap.2
  obtain ⟨z1, z2⟩ := hz0
  have hby : n.toNatClampNeg * componentBytes (newarray.typeOf ta) ≤ 536870912 := by
    rw [a2]
    exact Nat.le_trans (Nat.mul_le_mul hn2 a4) (by decide)
  refine W.newa hx hb (by rw [a2]; exact hts _ (hgd _ a6)) rfl hd rfl hn hby (by omega) (by omega) fun cA kA comp f1 f2 f3 => ?_
  rw [a2] at f1 f3 ⊢
  have eA : cA = dA (atag ta) := Option.some.inj (f1.symm.trans (a5 s _ (hK.2.1 _ t1 (by omega)).2))
  have e2 := Array.size_push (xs := H) (v := ({ cls := cA, slots := Array.replicate n.toNatClampNeg (defaultValue (aty (atag ta))), vm := .none } : Cell))
  rw [hRl.1] at e2
  have e1 := push_at H ({ cls := cA, slots := Array.replicate n.toNatClampNeg (defaultValue (aty (atag ta))), vm := .none } : Cell) hRl.1
  have e3 := fun q hq => push_lt H ({ cls := cA, slots := Array.replicate n.toNatClampNeg (defaultValue (aty (atag ta))), vm := .none } : Cell) hRl.1 (q := q) hq
  generalize H.push ({ cls := cA, slots := Array.replicate n.toNatClampNeg (defaultValue (aty (atag ta))), vm := .none } : Cell) = H' at e1 e2 e3 ⊢
  rw [hRl.1]
  have hr' : Rl B H0 D dA RO sa (nw h (atag ta) n.toNatClampNeg n.toNatClampNeg) H' := by
    have et : hT (nw h (atag ta) n.toNatClampNeg n.toNatClampNeg) (hZ h) = (atag ta) := u1_at _ _ _
    have en : hN (nw h (atag ta) n.toNatClampNeg n.toNatClampNeg) (hZ h) = n.toNatClampNeg := u1_at _ _ _
    refine hRl.alloc e2 e3 ⟨fun p q => ?_, fun p q => ⟨hRl.2.1, ?_⟩, fun p => ?_⟩
    · rw [et] at p q; omega
    · rw [et, en, e1, eA, arrV_new]
      congr 2
      funext j
      exact (vT_nw0 a3).symm
    · rw [et] at p; omega
  have := K H' locs ls hr' hlo hl hnL
  unfold WG at this
  have ez : hZ (nw h (atag ta) n.toNatClampNeg n.toNatClampNeg) - hZ h0 = hZ h - hZ h0 + 1 := by show hZ h + 1 - hZ h0 = _; omega
  have eu : hU (nw h (atag ta) n.toNatClampNeg n.toNatClampNeg) - hU h0 = hU h - hU h0 + n.toNatClampNeg := by show hU h + n.toNatClampNeg - hU h0 = _; omega
  rw [ez, eu] at this
  exact this
set_option maxHeartbeats 1000000 in
theorem sn_anewarray (C : Cx B H0 D dA RO sa p R s m args meth c cc nL o b z Ts) {E : mE} {x : Nat} {i : Instr} {pc len : Nat} {lv lv' : mL} {st st' : List Value} {h h' : mH} {pc' : Nat} {H : Heap} {locs : List Loc} {ls : Array Slot}
    (hd : decode cc pc = .ok (.anewarray x, len)) (hln : len = iln (.anewarray x) len) (hrs : rsv o b z pc (.anewarray x) = some i) (hstp : stp E i (pc + len) lv st h (fun a b c d => a = pc' ∧ b = lv' ∧ c = st' ∧ d = h') qNo)
    (hRl : Rl B H0 D dA RO sa h H) (hlo : lo_ok B locs) (hl : lvR ls lv) (hnL : lv.length = nL) (hz0 : gE h0 h) (hcap : hZ h' ≤ hZ h0 + R.cells ∧ hU h' ≤ hU h0 + R.slots)
    (K : ∀ H' locs' ls', Rl B H0 D dA RO sa h' H' → lo_ok B locs' → lvR ls' lv' → lv'.length = nL → WG p l e R s m args below meth c Z h0 h' H' locs' pc' ls' st') : WG p l e R s m args below meth c Z h0 h H locs pc ls st := by
  obtain ⟨hx, hb, hml, hown, hts, hgd, hK, hfr, hlcl, hini⟩ := C

  obtain rfl : len = 3 := hln
  simp only [rsv, Option.map_eq_some_iff] at hrs
  obtain ⟨t, hg, rfl⟩ := hrs
  have hm := lk_mem hg
  obtain ⟨g1, g2⟩ : 24 ≤ t ∧ t ≤ 27 := lkQ_k _ hm
  have hlink : (Cond.classLink (oN o) x (ecl t)).before args s = true := hts _ (hgd _ (mem_good (mem_of_map (f := qW) wQ hm) rfl))
  obtain ⟨n, r, rfl, hs⟩ := pI_inv hstp
  obtain ⟨⟨hn, hn2⟩, rfl, rfl, rfl, rfl⟩ := hs
  have g3 : 20 ≤ t := by omega
  have c1 : hZ h + 1 ≤ hZ h0 + R.cells := hcap.1
  have c2 : hU h + n.toNatClampNeg ≤ hU h0 + R.slots := hcap.2
  obtain ⟨z1, z2⟩ := hz0
  have ht : aty t = .object (ecl t) := by
    have : t = 24 ∨ t = 25 ∨ t = 26 ∨ t = 27 := by omega
    rcases this with rfl | rfl | rfl | rfl <;> rfl
  refine W.anew hx hb hown hlink (va_AO.use (hK.2.2.2.1 t g1 g2)) rfl hd rfl hn (by omega) (by omega) (by omega) fun cA kA comp f1 f2 f3 f4 => ?_
  have hra := (hK.2.1 t g3 g2).2
  rw [ht] at hra
  obtain ⟨_, _, _, _, _, hra⟩ := hra
  have eA : cA = dA t := Option.some.inj (f1.symm.trans hra)
  have e2 := Array.size_push (xs := H) (v := ({ cls := cA, slots := Array.replicate n.toNatClampNeg .null, vm := .none } : Cell))
  rw [hRl.1] at e2
  have e1 := push_at H ({ cls := cA, slots := Array.replicate n.toNatClampNeg .null, vm := .none } : Cell) hRl.1
  have e3 := fun q hq => push_lt H ({ cls := cA, slots := Array.replicate n.toNatClampNeg .null, vm := .none } : Cell) hRl.1 (q := q) hq
  generalize H.push ({ cls := cA, slots := Array.replicate n.toNatClampNeg .null, vm := .none } : Cell) = H' at e1 e2 e3 ⊢
  rw [hRl.1]
  have hr' : Rl B H0 D dA RO sa (nw h t n.toNatClampNeg n.toNatClampNeg) H' := by
    have et : hT (nw h t n.toNatClampNeg n.toNatClampNeg) (hZ h) = t := u1_at _ _ _
    have en : hN (nw h t n.toNatClampNeg n.toNatClampNeg) (hZ h) = n.toNatClampNeg := u1_at _ _ _
    refine hRl.alloc e2 e3 ⟨fun p q => ?_, fun p q => ⟨hRl.2.1, ?_⟩, fun p => ?_⟩
    · rw [et] at p q; omega
    · rw [et, en, e1, eA, arrV_new]
      congr 2
      funext j
      have : (.null : Value) = defaultValue (aty t) := by rw [ht]; rfl
      rw [this]
      exact (vT_nw0 (by rw [ht]; rfl)).symm
    · rw [et] at p; omega
  have := K H' locs ls hr' hlo hl hnL
  unfold WG at this
  have ez : hZ (nw h t n.toNatClampNeg n.toNatClampNeg) - hZ h0 = hZ h - hZ h0 + 1 := by show hZ h + 1 - hZ h0 = _; omega
  have eu : hU (nw h t n.toNatClampNeg n.toNatClampNeg) - hU h0 = hU h - hU h0 + n.toNatClampNeg := by show hU h + n.toNatClampNeg - hU h0 = _; omega
  rw [ez, eu] at this
  exact this
set_option maxHeartbeats 1000000 in
theorem sn_checkcast (C : Cx B H0 D dA RO sa p R s m args meth c cc nL o b z Ts) {E : mE} {x : Nat} {i : Instr} {pc len : Nat} {lv lv' : mL} {st st' : List Value} {h h' : mH} {pc' : Nat} {H : Heap} {locs : List Loc} {ls : Array Slot}
    (hd : decode cc pc = .ok (.checkcast x, len)) (hln : len = iln (.checkcast x) len) (hrs : rsv o b z pc (.checkcast x) = some i) (hstp : stp E i (pc + len) lv st h (fun a b c d => a = pc' ∧ b = lv' ∧ c = st' ∧ d = h') qNo)
    (hRl : Rl B H0 D dA RO sa h H) (hlo : lo_ok B locs) (hl : lvR ls lv) (hnL : lv.length = nL) (hz0 : gE h0 h) (hcap : hZ h' ≤ hZ h0 + R.cells ∧ hU h' ≤ hU h0 + R.slots)
    (K : ∀ H' locs' ls', Rl B H0 D dA RO sa h' H' → lo_ok B locs' → lvR ls' lv' → lv'.length = nL → WG p l e R s m args below meth c Z h0 h' H' locs' pc' ls' st') : WG p l e R s m args below meth c Z h0 h H locs pc ls st := by
  obtain ⟨hx, hb, hml, hown, hts, hgd, hK, hfr, hlcl, hini⟩ := C

  obtain rfl : len = 3 := hln
  simp only [rsv, Option.map_eq_some_iff] at hrs
  obtain ⟨t, hg, rfl⟩ := hrs
  have hm := lk_mem hg
  obtain ⟨g1, g2⟩ : 1 ≤ t ∧ t ≤ 11 := lkN_k _ hm
  have hlink : (Cond.classLink (oN o) x (oN t)).before args s = true := hts _ (hgd _ (mem_good (mem_of_map (f := nW) wN hm) rfl))
  obtain ⟨v, r, rfl, hs⟩ := pR_inv (k := fun v r => (∀ a, v = some a → hT h a = t) ∧ pc + 3 = pc' ∧ lv = lv' ∧ va_rf v :: r = st' ∧ h = h') hstp
  obtain ⟨hv, rfl, rfl, rfl, rfl⟩ := hs
  cases v with
  | none => exact lv_castN hx hb hd (K _ _ _ hRl hlo hl hnL)
  | some a => exact va_castS hx hb hown hlink (hK.1 t g1 g2).2 (hRl.cell hK (hv a rfl) g1 g2) hd (K _ _ _ hRl hlo hl hnL)
set_option maxHeartbeats 1000000 in
theorem sn_instanceof (C : Cx B H0 D dA RO sa p R s m args meth c cc nL o b z Ts) {E : mE} {x : Nat} {i : Instr} {pc len : Nat} {lv lv' : mL} {st st' : List Value} {h h' : mH} {pc' : Nat} {H : Heap} {locs : List Loc} {ls : Array Slot}
    (hd : decode cc pc = .ok (.instanceof x, len)) (hln : len = iln (.instanceof x) len) (hrs : rsv o b z pc (.instanceof x) = some i) (hstp : stp E i (pc + len) lv st h (fun a b c d => a = pc' ∧ b = lv' ∧ c = st' ∧ d = h') qNo)
    (hRl : Rl B H0 D dA RO sa h H) (hlo : lo_ok B locs) (hl : lvR ls lv) (hnL : lv.length = nL) (hz0 : gE h0 h) (hcap : hZ h' ≤ hZ h0 + R.cells ∧ hU h' ≤ hU h0 + R.slots)
    (K : ∀ H' locs' ls', Rl B H0 D dA RO sa h' H' → lo_ok B locs' → lvR ls' lv' → lv'.length = nL → WG p l e R s m args below meth c Z h0 h' H' locs' pc' ls' st') : WG p l e R s m args below meth c Z h0 h H locs pc ls st := by
  obtain ⟨hx, hb, hml, hown, hts, hgd, hK, hfr, hlcl, hini⟩ := C

  obtain rfl : len = 3 := hln
  simp only [rsv, Option.map_eq_some_iff] at hrs
  obtain ⟨t, hg, rfl⟩ := hrs
  have hm := lk_mem hg
  obtain ⟨g1, g2⟩ : 1 ≤ t ∧ t ≤ 11 := lkN_k _ hm
  have hlink : (Cond.classLink (oN o) x (oN t)).before args s = true := hts _ (hgd _ (mem_good (mem_of_map (f := nW) wN hm) rfl))
  obtain ⟨v, r, rfl, hs⟩ := pR_inv (k := fun v r => ((t = 4 ∨ t = 5 ∨ t = 6) ∧ ∀ a, v = some a → 4 ≤ hT h a ∧ hT h a ≤ 6) ∧ pc + 3 = pc' ∧ lv = lv' ∧ Value.int (if v.map (hT h) = some t then 1 else 0) :: r = st' ∧ h = h') hstp
  obtain ⟨⟨ht, hv⟩, rfl, rfl, rfl, rfl⟩ := hs
  cases v with
  | none =>
    rw [if_neg (by intro q; cases q)] at K
    exact lv_instN hx hb hd (K _ _ _ hRl hlo hl hnL)
  | some a =>
    obtain ⟨v1, v2⟩ := hv a rfl
    have hu : hT h a = 4 ∨ hT h a = 5 ∨ hT h a = 6 := by omega
    by_cases e : hT h a = t
    · rw [if_pos (by show some (hT h a) = some t; rw [e])] at K
      exact va_instS hx hb hown hlink (hK.1 t g1 g2).2 (hRl.cell hK e g1 g2) hd (K _ _ _ hRl hlo hl hnL)
    · rw [if_neg (by intro q; exact e (Option.some.inj q))] at K
      exact va_instNo hx hb hown hlink (hK.2.2.2.2.2.1 _ _ hu ht e) (hRl.cell hK rfl (by omega) (by omega)) hd (K _ _ _ hRl hlo hl hnL)
set_option maxHeartbeats 1000000 in
theorem sn_aastore (C : Cx B H0 D dA RO sa p R s m args meth c cc nL o b z Ts) {E : mE} {i : Instr} {pc len : Nat} {lv lv' : mL} {st st' : List Value} {h h' : mH} {pc' : Nat} {H : Heap} {locs : List Loc} {ls : Array Slot}
    (hd : decode cc pc = .ok (.aastore, len)) (hln : len = iln (.aastore) len) (hrs : rsv o b z pc (.aastore) = some i) (hstp : stp E i (pc + len) lv st h (fun a b c d => a = pc' ∧ b = lv' ∧ c = st' ∧ d = h') qNo)
    (hRl : Rl B H0 D dA RO sa h H) (hlo : lo_ok B locs) (hl : lvR ls lv) (hnL : lv.length = nL) (hz0 : gE h0 h) (hcap : hZ h' ≤ hZ h0 + R.cells ∧ hU h' ≤ hU h0 + R.slots)
    (K : ∀ H' locs' ls', Rl B H0 D dA RO sa h' H' → lo_ok B locs' → lvR ls' lv' → lv'.length = nL → WG p l e R s m args below meth c Z h0 h' H' locs' pc' ls' st') : WG p l e R s m args below meth c Z h0 h H locs pc ls st := by
  obtain ⟨hx, hb, hml, hown, hts, hgd, hK, hfr, hlcl, hini⟩ := C

  obtain rfl : len = 1 := hln
  cases hrs
  obtain ⟨v, r, rfl, hs⟩ := pR_inv (k := fun v r => pI r fun i r => pA r fun a r => isQ (hT h a) ∧ vp_in i (hN h a) ∧ okR h (hT h a) v ∧ pc + 1 = pc' ∧ lv = lv' ∧ r = st' ∧ sR h a i.toNatClampNeg v = h') hstp
  obtain ⟨i, r2, e2, hs2⟩ := pI_inv hs
  subst e2
  obtain ⟨a, r3, e3, hs3⟩ := pA_inv hs2
  subst e3
  obtain ⟨⟨q1, q2⟩, hin, hok, rfl, rfl, rfl, rfl⟩ := hs3
  obtain ⟨t, ht⟩ : ∃ t, hT h a = t := ⟨_, rfl⟩
  rw [ht] at q1 q2 hok
  have q3 : 20 ≤ t := by omega
  obtain ⟨hB, hc⟩ := hRl.arr ht q3 q2
  have hty : aty t = .object (ecl t) := by
    have : t = 24 ∨ t = 25 ∨ t = 26 ∨ t = 27 := by omega
    rcases this with rfl | rfl | rfl | rfl <;> rfl
  have hra := (hK.2.1 t q3 q2).2
  have harr := (hK.2.1 t q3 q2).1 (hN h a) (fun j => vT (aty t) h a j)
  rw [hty] at hra
  obtain ⟨kA, comp, hk1, hk2, hk3, -⟩ := hra
  have hin2 : ¬ (i < 0 ∨ (arrV (dA t) (hN h a) (fun j => vT (aty t) h a j)).slots.size ≤ i.toNatClampNeg) := by rw [arrV_size]; exact hin
  have fin : ∀ (H' : Heap), H'[a]? = some ((arrV (dA t) (hN h a) (fun j => vT (aty t) h a j)).setSlot i.toNatClampNeg (va_rf v)) → H'.size = H.size → (∀ q, q ≠ a → H'[q]? = H[q]?) → WG p l e R s m args below meth c Z h0 h H' (locs ++ [⟨a, i.toNatClampNeg⟩]) (pc + 1) ls r3 := by
    intro H' e1 e2 e3
    exact K H' _ ls (hRl.store hB rfl rfl rfl (fun b q z j => vT_sR q) e2 e3 (cOK_arr ht q3 q2 hB rfl rfl e1 (by rw [hty]; show va_rf (u2 _ _ _ _ _ _) = _; rw [u2_at]) (fun j q => vT_sR_j q))) (lo_add hlo hB) hl hnL
  cases v with
  | none =>
    rw [hty] at harr
    rw [hty] at hc hin2 fin
    exact va_WaastN hx hb hc harr (fun q => by cases q) hin2 rfl rfl hd fin
  | some y =>
    have hE := hok y rfl
    obtain ⟨kE, hkE, -⟩ := Vm.findClass_spec hk3
    have key : ∀ u, hT h y = u → 1 ≤ u → u ≤ 11 → (∀ cC, s.vm.findClass (oN u) = some cC → s.vm.assignable cC comp = true) → WG p l e R s m args below meth c Z h0 h H locs pc ls (va_rf (some y) :: .int i :: .ref a :: r3) := by
      intro u hu u1 u2 has
      obtain ⟨-, cv, c1, c2, c3, -⟩ := hRl.obj hu u1 u2
      obtain ⟨-, hfc, kC, hkC, hkind⟩ := hK.1 u u1 u2
      refine W.aast (t := .object (ecl t)) hx hb hc (fun q z => by cases z) (fun q => by cases q) hk1 hk2 rfl hkE ⟨fun q => hin2 (.inl q), Nat.not_le.mp fun q => hin2 (.inr q)⟩ c1 (fun q z => by rw [c3] at z; cases z) (kv := kC) (by rw [c2]; exact hkC) (by rw [c2]; exact has _ hfc) rfl rfl hd fin
    have same : ∀ u, ecl t = oN u → ∀ cC, s.vm.findClass (oN u) = some cC → s.vm.assignable cC comp = true := by
      intro u hu cC hcC
      rw [hu, hcC] at hk3
      rw [Option.some.inj hk3]
      exact va_asg _ _
    have this : t = 24 ∨ t = 25 ∨ t = 26 ∨ t = 27 := by omega
    rcases this with rfl | rfl | rfl | rfl
    · have hE : hT h y = 4 ∨ hT h y = 5 ∨ hT h y = 6 := hE
      refine key _ rfl (by omega) (by omega) fun cC hcC => ?_
      obtain ⟨c0, t0, f1, f2, f3⟩ := Cond.castable_spec (va_Nw.use (A := args) rfl (hK.2.2.2.2.1 _ hE))
      cases hcC.symm.trans f1
      have e9 : s.vm.findClass "WindPark$Thing" = some comp := hk3
      cases e9.symm.trans f2
      exact f3
    · have hE : hT h y = 8 := hE
      exact key 8 hE (by decide) (by decide) (same 8 rfl)
    · have hE : hT h y = 4 := hE
      exact key 4 hE (by decide) (by decide) (same 4 rfl)
    · have hE : hT h y = 5 := hE
      exact key 5 hE (by decide) (by decide) (same 5 rfl)
end SF
