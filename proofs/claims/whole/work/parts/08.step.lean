/-! ===== a step of the small machine is one of the machine ===== -/
theorem pI_inv {st : List Value} {k : Int32 → List Value → Prop} (h : pI st k) : ∃ x r, st = .int x :: r ∧ k x r := by
  match st, h with
  | .int x :: r, h => exact ⟨x, r, rfl, h⟩
theorem pL_inv {st : List Value} {k : Int64 → List Value → Prop} (h : pL st k) : ∃ x r, st = .long x :: r ∧ k x r := by
  match st, h with
  | .long x :: r, h => exact ⟨x, r, rfl, h⟩
theorem pF_inv {st : List Value} {k : UInt32 → List Value → Prop} (h : pF st k) : ∃ x r, st = .float x :: r ∧ k x r := by
  match st, h with
  | .float x :: r, h => exact ⟨x, r, rfl, h⟩
theorem pD_inv {st : List Value} {k : UInt64 → List Value → Prop} (h : pD st k) : ∃ x r, st = .double x :: r ∧ k x r := by
  match st, h with
  | .double x :: r, h => exact ⟨x, r, rfl, h⟩
theorem pR_inv {st : List Value} {k : Option Nat → List Value → Prop} (h : pR st k) : ∃ x r, st = va_rf x :: r ∧ k x r := by
  match st, h with
  | .ref x :: r, h => exact ⟨some x, r, rfl, h⟩
  | .null :: r, h => exact ⟨none, r, rfl, h⟩
theorem pA_inv {st : List Value} {k : Nat → List Value → Prop} (h : pA st k) : ∃ x r, st = .ref x :: r ∧ k x r := by
  match st, h with
  | .ref x :: r, h => exact ⟨x, r, rfl, h⟩
theorem gI_inv {lv : mL} {i : Nat} {k : Int32 → Prop} (h : gI lv i k) : ∃ x, lv[i]? = some (some (.int x)) ∧ k x := by
  unfold gI at h
  split at h
  · rename_i x hx; exact ⟨x, hx, h⟩
  · exact h.elim
theorem gL_inv {lv : mL} {i : Nat} {k : Int64 → Prop} (h : gL lv i k) : ∃ x, lv[i]? = some (some (.long x)) ∧ k x := by
  unfold gL at h
  split at h
  · rename_i x hx; exact ⟨x, hx, h⟩
  · exact h.elim
theorem gD_inv {lv : mL} {i : Nat} {k : UInt64 → Prop} (h : gD lv i k) : ∃ x, lv[i]? = some (some (.double x)) ∧ k x := by
  unfold gD at h
  split at h
  · rename_i x hx; exact ⟨x, hx, h⟩
  · exact h.elim
theorem gR_inv {lv : mL} {i : Nat} {k : Option Nat → Prop} (h : gR lv i k) : ∃ x, lv[i]? = some (some (va_rf x)) ∧ k x := by
  unfold gR at h
  split at h
  · rename_i x hx; exact ⟨some x, hx, h⟩
  · rename_i hx; exact ⟨none, hx, h⟩
  · exact h.elim
theorem tk_inv : ∀ {n : Nat} {acc st : List Value} {q : List Value → List Value → Prop}, tk n acc st q → ∃ as r, as.length = n ∧ st = as.reverse ++ r ∧ q (as ++ acc) r := by
  intro n
  induction n with
  | zero => intro acc st q h; cases st <;> exact ⟨[], _, rfl, rfl, h⟩
  | succ n ih =>
    intro acc st q h
    cases st with
    | nil => exact h.elim
    | cons v r =>
      obtain ⟨as, r', h1, h2, h3⟩ := ih (acc := v :: acc) (st := r) h
      refine ⟨as ++ [v], r', by simp [h1], ?_, ?_⟩
      · rw [h2]; simp
      · simpa using h3
theorem rf_cat (x : Option Nat) : (va_rf x).category = 1 := by cases x <;> rfl
abbrev kEq (pc : Nat) (lv : mL) (st : List Value) (h : mH) : mK := fun a b c d => pc = a ∧ lv = b ∧ st = c ∧ h = d
abbrev qNo : mQ := fun _ _ => False
abbrev qEq (v : Option Value) (h : mH) : mQ := fun a b => a = v ∧ b = h
/-- what holds of the method that is walked -/
def Cx (B : Nat) (H0 : Heap) (D : va_G) (dA : Nat → ClassId) (RO : mRO) (sa : Nat → Nat) (p : Program) (R : Room) (s : State) (m : MethodId) (args : Array Value) (meth : Method) (c : Code) (cc : ByteArray) (nL o : Nat) (b z : Bool) (Ts : List Cond) : Prop :=
  p.tables.exec = Jvm.exec ∧ c.code = cc ∧ c.maxLocals = nL ∧ s.vm.findClass (oN o) = some m.cls ∧ (∀ w ∈ Ts, w.before args s = true) ∧ (∀ w ∈ lw_good, w ∈ Ts) ∧ KK B H0 D dA RO sa s ∧ 1 ≤ R.frames ∧ 60 ≤ R.locals ∧ (b = true → meth.name = "<init>")
section SN
variable {p : Program} {l : Launch} {e : Env} {R : Room} {s : State} {m : MethodId} {args : Array Value} {below : List Frame} {meth : Method} {c : Code} {Z : State → Prop} {B : Nat} {H0 : Heap} {D : va_G} {dA : Nat → ClassId} {RO : mRO} {sa : Nat → Nat} {cc : ByteArray} {nL o : Nat} {b z : Bool} {Ts : List Cond} {h0 : mH}
abbrev WG (p : Program) (l : Launch) (e : Env) (R : Room) (s : State) (m : MethodId) (args : Array Value) (below : List Frame) (meth : Method) (c : Code) (Z : State → Prop) (h0 h : mH) (H : Heap) (locs : List Loc) (pc : Nat) (ls : Array Slot) (st : List Value) : Prop := W p l e R s m args below meth c H locs (hZ h - hZ h0) (hU h - hU h0) Z (F0 m pc ls st)
abbrev lo_ok (B : Nat) (locs : List Loc) : Prop := ∀ q ∈ locs, B ≤ q.base

set_option maxHeartbeats 1000000 in
theorem sn_iadd (C : Cx B H0 D dA RO sa p R s m args meth c cc nL o b z Ts) {E : mE} {i : Instr} {pc len : Nat} {lv lv' : mL} {st st' : List Value} {h h' : mH} {pc' : Nat} {H : Heap} {locs : List Loc} {ls : Array Slot}
    (hd : decode cc pc = .ok (.iadd, len)) (hln : len = iln (.iadd) len) (hrs : rsv o b z pc (.iadd) = some i) (hstp : stp E i (pc + len) lv st h (fun a b c d => a = pc' ∧ b = lv' ∧ c = st' ∧ d = h') qNo)
    (hRl : Rl B H0 D dA RO sa h H) (hlo : lo_ok B locs) (hl : lvR ls lv) (hnL : lv.length = nL) (hz0 : gE h0 h) (hcap : hZ h' ≤ hZ h0 + R.cells ∧ hU h' ≤ hU h0 + R.slots)
    (K : ∀ H' locs' ls', Rl B H0 D dA RO sa h' H' → lo_ok B locs' → lvR ls' lv' → lv'.length = nL → WG p l e R s m args below meth c Z h0 h' H' locs' pc' ls' st') : WG p l e R s m args below meth c Z h0 h H locs pc ls st := by
  obtain ⟨hx, hb, hml, hown, hts, hgd, hK, hfr, hlcl, hini⟩ := C

  obtain rfl : len = 1 := hln
  cases hrs
  obtain ⟨y, r, rfl, hs⟩ := pI_inv hstp
  obtain ⟨x, r, rfl, hs⟩ := pI_inv hs
  obtain ⟨rfl, rfl, rfl, rfl⟩ := hs
  exact lv_iadd hx hb hd (K _ _ _ hRl hlo hl hnL)
set_option maxHeartbeats 1000000 in
theorem sn_isub (C : Cx B H0 D dA RO sa p R s m args meth c cc nL o b z Ts) {E : mE} {i : Instr} {pc len : Nat} {lv lv' : mL} {st st' : List Value} {h h' : mH} {pc' : Nat} {H : Heap} {locs : List Loc} {ls : Array Slot}
    (hd : decode cc pc = .ok (.isub, len)) (hln : len = iln (.isub) len) (hrs : rsv o b z pc (.isub) = some i) (hstp : stp E i (pc + len) lv st h (fun a b c d => a = pc' ∧ b = lv' ∧ c = st' ∧ d = h') qNo)
    (hRl : Rl B H0 D dA RO sa h H) (hlo : lo_ok B locs) (hl : lvR ls lv) (hnL : lv.length = nL) (hz0 : gE h0 h) (hcap : hZ h' ≤ hZ h0 + R.cells ∧ hU h' ≤ hU h0 + R.slots)
    (K : ∀ H' locs' ls', Rl B H0 D dA RO sa h' H' → lo_ok B locs' → lvR ls' lv' → lv'.length = nL → WG p l e R s m args below meth c Z h0 h' H' locs' pc' ls' st') : WG p l e R s m args below meth c Z h0 h H locs pc ls st := by
  obtain ⟨hx, hb, hml, hown, hts, hgd, hK, hfr, hlcl, hini⟩ := C

  obtain rfl : len = 1 := hln
  cases hrs
  obtain ⟨y, r, rfl, hs⟩ := pI_inv hstp
  obtain ⟨x, r, rfl, hs⟩ := pI_inv hs
  obtain ⟨rfl, rfl, rfl, rfl⟩ := hs
  exact lv_isub hx hb hd (K _ _ _ hRl hlo hl hnL)
set_option maxHeartbeats 1000000 in
theorem sn_imul (C : Cx B H0 D dA RO sa p R s m args meth c cc nL o b z Ts) {E : mE} {i : Instr} {pc len : Nat} {lv lv' : mL} {st st' : List Value} {h h' : mH} {pc' : Nat} {H : Heap} {locs : List Loc} {ls : Array Slot}
    (hd : decode cc pc = .ok (.imul, len)) (hln : len = iln (.imul) len) (hrs : rsv o b z pc (.imul) = some i) (hstp : stp E i (pc + len) lv st h (fun a b c d => a = pc' ∧ b = lv' ∧ c = st' ∧ d = h') qNo)
    (hRl : Rl B H0 D dA RO sa h H) (hlo : lo_ok B locs) (hl : lvR ls lv) (hnL : lv.length = nL) (hz0 : gE h0 h) (hcap : hZ h' ≤ hZ h0 + R.cells ∧ hU h' ≤ hU h0 + R.slots)
    (K : ∀ H' locs' ls', Rl B H0 D dA RO sa h' H' → lo_ok B locs' → lvR ls' lv' → lv'.length = nL → WG p l e R s m args below meth c Z h0 h' H' locs' pc' ls' st') : WG p l e R s m args below meth c Z h0 h H locs pc ls st := by
  obtain ⟨hx, hb, hml, hown, hts, hgd, hK, hfr, hlcl, hini⟩ := C

  obtain rfl : len = 1 := hln
  cases hrs
  obtain ⟨y, r, rfl, hs⟩ := pI_inv hstp
  obtain ⟨x, r, rfl, hs⟩ := pI_inv hs
  obtain ⟨rfl, rfl, rfl, rfl⟩ := hs
  exact lv_imul hx hb hd (K _ _ _ hRl hlo hl hnL)
set_option maxHeartbeats 1000000 in
theorem sn_iand (C : Cx B H0 D dA RO sa p R s m args meth c cc nL o b z Ts) {E : mE} {i : Instr} {pc len : Nat} {lv lv' : mL} {st st' : List Value} {h h' : mH} {pc' : Nat} {H : Heap} {locs : List Loc} {ls : Array Slot}
    (hd : decode cc pc = .ok (.iand, len)) (hln : len = iln (.iand) len) (hrs : rsv o b z pc (.iand) = some i) (hstp : stp E i (pc + len) lv st h (fun a b c d => a = pc' ∧ b = lv' ∧ c = st' ∧ d = h') qNo)
    (hRl : Rl B H0 D dA RO sa h H) (hlo : lo_ok B locs) (hl : lvR ls lv) (hnL : lv.length = nL) (hz0 : gE h0 h) (hcap : hZ h' ≤ hZ h0 + R.cells ∧ hU h' ≤ hU h0 + R.slots)
    (K : ∀ H' locs' ls', Rl B H0 D dA RO sa h' H' → lo_ok B locs' → lvR ls' lv' → lv'.length = nL → WG p l e R s m args below meth c Z h0 h' H' locs' pc' ls' st') : WG p l e R s m args below meth c Z h0 h H locs pc ls st := by
  obtain ⟨hx, hb, hml, hown, hts, hgd, hK, hfr, hlcl, hini⟩ := C

  obtain rfl : len = 1 := hln
  cases hrs
  obtain ⟨y, r, rfl, hs⟩ := pI_inv hstp
  obtain ⟨x, r, rfl, hs⟩ := pI_inv hs
  obtain ⟨rfl, rfl, rfl, rfl⟩ := hs
  exact lv_iand hx hb hd (K _ _ _ hRl hlo hl hnL)
set_option maxHeartbeats 1000000 in
theorem sn_ishr (C : Cx B H0 D dA RO sa p R s m args meth c cc nL o b z Ts) {E : mE} {i : Instr} {pc len : Nat} {lv lv' : mL} {st st' : List Value} {h h' : mH} {pc' : Nat} {H : Heap} {locs : List Loc} {ls : Array Slot}
    (hd : decode cc pc = .ok (.ishr, len)) (hln : len = iln (.ishr) len) (hrs : rsv o b z pc (.ishr) = some i) (hstp : stp E i (pc + len) lv st h (fun a b c d => a = pc' ∧ b = lv' ∧ c = st' ∧ d = h') qNo)
    (hRl : Rl B H0 D dA RO sa h H) (hlo : lo_ok B locs) (hl : lvR ls lv) (hnL : lv.length = nL) (hz0 : gE h0 h) (hcap : hZ h' ≤ hZ h0 + R.cells ∧ hU h' ≤ hU h0 + R.slots)
    (K : ∀ H' locs' ls', Rl B H0 D dA RO sa h' H' → lo_ok B locs' → lvR ls' lv' → lv'.length = nL → WG p l e R s m args below meth c Z h0 h' H' locs' pc' ls' st') : WG p l e R s m args below meth c Z h0 h H locs pc ls st := by
  obtain ⟨hx, hb, hml, hown, hts, hgd, hK, hfr, hlcl, hini⟩ := C

  obtain rfl : len = 1 := hln
  cases hrs
  obtain ⟨y, r, rfl, hs⟩ := pI_inv hstp
  obtain ⟨x, r, rfl, hs⟩ := pI_inv hs
  obtain ⟨rfl, rfl, rfl, rfl⟩ := hs
  exact lv_ishr hx hb hd (K _ _ _ hRl hlo hl hnL)
set_option maxHeartbeats 1000000 in
theorem sn_ladd (C : Cx B H0 D dA RO sa p R s m args meth c cc nL o b z Ts) {E : mE} {i : Instr} {pc len : Nat} {lv lv' : mL} {st st' : List Value} {h h' : mH} {pc' : Nat} {H : Heap} {locs : List Loc} {ls : Array Slot}
    (hd : decode cc pc = .ok (.ladd, len)) (hln : len = iln (.ladd) len) (hrs : rsv o b z pc (.ladd) = some i) (hstp : stp E i (pc + len) lv st h (fun a b c d => a = pc' ∧ b = lv' ∧ c = st' ∧ d = h') qNo)
    (hRl : Rl B H0 D dA RO sa h H) (hlo : lo_ok B locs) (hl : lvR ls lv) (hnL : lv.length = nL) (hz0 : gE h0 h) (hcap : hZ h' ≤ hZ h0 + R.cells ∧ hU h' ≤ hU h0 + R.slots)
    (K : ∀ H' locs' ls', Rl B H0 D dA RO sa h' H' → lo_ok B locs' → lvR ls' lv' → lv'.length = nL → WG p l e R s m args below meth c Z h0 h' H' locs' pc' ls' st') : WG p l e R s m args below meth c Z h0 h H locs pc ls st := by
  obtain ⟨hx, hb, hml, hown, hts, hgd, hK, hfr, hlcl, hini⟩ := C

  obtain rfl : len = 1 := hln
  cases hrs
  obtain ⟨y, r, rfl, hs⟩ := pL_inv hstp
  obtain ⟨x, r, rfl, hs⟩ := pL_inv hs
  obtain ⟨rfl, rfl, rfl, rfl⟩ := hs
  exact lv_ladd hx hb hd (K _ _ _ hRl hlo hl hnL)
set_option maxHeartbeats 1000000 in
theorem sn_lsub (C : Cx B H0 D dA RO sa p R s m args meth c cc nL o b z Ts) {E : mE} {i : Instr} {pc len : Nat} {lv lv' : mL} {st st' : List Value} {h h' : mH} {pc' : Nat} {H : Heap} {locs : List Loc} {ls : Array Slot}
    (hd : decode cc pc = .ok (.lsub, len)) (hln : len = iln (.lsub) len) (hrs : rsv o b z pc (.lsub) = some i) (hstp : stp E i (pc + len) lv st h (fun a b c d => a = pc' ∧ b = lv' ∧ c = st' ∧ d = h') qNo)
    (hRl : Rl B H0 D dA RO sa h H) (hlo : lo_ok B locs) (hl : lvR ls lv) (hnL : lv.length = nL) (hz0 : gE h0 h) (hcap : hZ h' ≤ hZ h0 + R.cells ∧ hU h' ≤ hU h0 + R.slots)
    (K : ∀ H' locs' ls', Rl B H0 D dA RO sa h' H' → lo_ok B locs' → lvR ls' lv' → lv'.length = nL → WG p l e R s m args below meth c Z h0 h' H' locs' pc' ls' st') : WG p l e R s m args below meth c Z h0 h H locs pc ls st := by
  obtain ⟨hx, hb, hml, hown, hts, hgd, hK, hfr, hlcl, hini⟩ := C

  obtain rfl : len = 1 := hln
  cases hrs
  obtain ⟨y, r, rfl, hs⟩ := pL_inv hstp
  obtain ⟨x, r, rfl, hs⟩ := pL_inv hs
  obtain ⟨rfl, rfl, rfl, rfl⟩ := hs
  exact lv_lsub hx hb hd (K _ _ _ hRl hlo hl hnL)
set_option maxHeartbeats 1000000 in
theorem sn_lmul (C : Cx B H0 D dA RO sa p R s m args meth c cc nL o b z Ts) {E : mE} {i : Instr} {pc len : Nat} {lv lv' : mL} {st st' : List Value} {h h' : mH} {pc' : Nat} {H : Heap} {locs : List Loc} {ls : Array Slot}
    (hd : decode cc pc = .ok (.lmul, len)) (hln : len = iln (.lmul) len) (hrs : rsv o b z pc (.lmul) = some i) (hstp : stp E i (pc + len) lv st h (fun a b c d => a = pc' ∧ b = lv' ∧ c = st' ∧ d = h') qNo)
    (hRl : Rl B H0 D dA RO sa h H) (hlo : lo_ok B locs) (hl : lvR ls lv) (hnL : lv.length = nL) (hz0 : gE h0 h) (hcap : hZ h' ≤ hZ h0 + R.cells ∧ hU h' ≤ hU h0 + R.slots)
    (K : ∀ H' locs' ls', Rl B H0 D dA RO sa h' H' → lo_ok B locs' → lvR ls' lv' → lv'.length = nL → WG p l e R s m args below meth c Z h0 h' H' locs' pc' ls' st') : WG p l e R s m args below meth c Z h0 h H locs pc ls st := by
  obtain ⟨hx, hb, hml, hown, hts, hgd, hK, hfr, hlcl, hini⟩ := C

  obtain rfl : len = 1 := hln
  cases hrs
  obtain ⟨y, r, rfl, hs⟩ := pL_inv hstp
  obtain ⟨x, r, rfl, hs⟩ := pL_inv hs
  obtain ⟨rfl, rfl, rfl, rfl⟩ := hs
  exact lv_lmul hx hb hd (K _ _ _ hRl hlo hl hnL)
set_option maxHeartbeats 1000000 in
theorem sn_land (C : Cx B H0 D dA RO sa p R s m args meth c cc nL o b z Ts) {E : mE} {i : Instr} {pc len : Nat} {lv lv' : mL} {st st' : List Value} {h h' : mH} {pc' : Nat} {H : Heap} {locs : List Loc} {ls : Array Slot}
    (hd : decode cc pc = .ok (.land, len)) (hln : len = iln (.land) len) (hrs : rsv o b z pc (.land) = some i) (hstp : stp E i (pc + len) lv st h (fun a b c d => a = pc' ∧ b = lv' ∧ c = st' ∧ d = h') qNo)
    (hRl : Rl B H0 D dA RO sa h H) (hlo : lo_ok B locs) (hl : lvR ls lv) (hnL : lv.length = nL) (hz0 : gE h0 h) (hcap : hZ h' ≤ hZ h0 + R.cells ∧ hU h' ≤ hU h0 + R.slots)
    (K : ∀ H' locs' ls', Rl B H0 D dA RO sa h' H' → lo_ok B locs' → lvR ls' lv' → lv'.length = nL → WG p l e R s m args below meth c Z h0 h' H' locs' pc' ls' st') : WG p l e R s m args below meth c Z h0 h H locs pc ls st := by
  obtain ⟨hx, hb, hml, hown, hts, hgd, hK, hfr, hlcl, hini⟩ := C

  obtain rfl : len = 1 := hln
  cases hrs
  obtain ⟨y, r, rfl, hs⟩ := pL_inv hstp
  obtain ⟨x, r, rfl, hs⟩ := pL_inv hs
  obtain ⟨rfl, rfl, rfl, rfl⟩ := hs
  exact lv_land hx hb hd (K _ _ _ hRl hlo hl hnL)
set_option maxHeartbeats 1000000 in
theorem sn_lor (C : Cx B H0 D dA RO sa p R s m args meth c cc nL o b z Ts) {E : mE} {i : Instr} {pc len : Nat} {lv lv' : mL} {st st' : List Value} {h h' : mH} {pc' : Nat} {H : Heap} {locs : List Loc} {ls : Array Slot}
    (hd : decode cc pc = .ok (.lor, len)) (hln : len = iln (.lor) len) (hrs : rsv o b z pc (.lor) = some i) (hstp : stp E i (pc + len) lv st h (fun a b c d => a = pc' ∧ b = lv' ∧ c = st' ∧ d = h') qNo)
    (hRl : Rl B H0 D dA RO sa h H) (hlo : lo_ok B locs) (hl : lvR ls lv) (hnL : lv.length = nL) (hz0 : gE h0 h) (hcap : hZ h' ≤ hZ h0 + R.cells ∧ hU h' ≤ hU h0 + R.slots)
    (K : ∀ H' locs' ls', Rl B H0 D dA RO sa h' H' → lo_ok B locs' → lvR ls' lv' → lv'.length = nL → WG p l e R s m args below meth c Z h0 h' H' locs' pc' ls' st') : WG p l e R s m args below meth c Z h0 h H locs pc ls st := by
  obtain ⟨hx, hb, hml, hown, hts, hgd, hK, hfr, hlcl, hini⟩ := C

  obtain rfl : len = 1 := hln
  cases hrs
  obtain ⟨y, r, rfl, hs⟩ := pL_inv hstp
  obtain ⟨x, r, rfl, hs⟩ := pL_inv hs
  obtain ⟨rfl, rfl, rfl, rfl⟩ := hs
  exact lv_lor hx hb hd (K _ _ _ hRl hlo hl hnL)
set_option maxHeartbeats 1000000 in
theorem sn_lxor (C : Cx B H0 D dA RO sa p R s m args meth c cc nL o b z Ts) {E : mE} {i : Instr} {pc len : Nat} {lv lv' : mL} {st st' : List Value} {h h' : mH} {pc' : Nat} {H : Heap} {locs : List Loc} {ls : Array Slot}
    (hd : decode cc pc = .ok (.lxor, len)) (hln : len = iln (.lxor) len) (hrs : rsv o b z pc (.lxor) = some i) (hstp : stp E i (pc + len) lv st h (fun a b c d => a = pc' ∧ b = lv' ∧ c = st' ∧ d = h') qNo)
    (hRl : Rl B H0 D dA RO sa h H) (hlo : lo_ok B locs) (hl : lvR ls lv) (hnL : lv.length = nL) (hz0 : gE h0 h) (hcap : hZ h' ≤ hZ h0 + R.cells ∧ hU h' ≤ hU h0 + R.slots)
    (K : ∀ H' locs' ls', Rl B H0 D dA RO sa h' H' → lo_ok B locs' → lvR ls' lv' → lv'.length = nL → WG p l e R s m args below meth c Z h0 h' H' locs' pc' ls' st') : WG p l e R s m args below meth c Z h0 h H locs pc ls st := by
  obtain ⟨hx, hb, hml, hown, hts, hgd, hK, hfr, hlcl, hini⟩ := C

  obtain rfl : len = 1 := hln
  cases hrs
  obtain ⟨y, r, rfl, hs⟩ := pL_inv hstp
  obtain ⟨x, r, rfl, hs⟩ := pL_inv hs
  obtain ⟨rfl, rfl, rfl, rfl⟩ := hs
  exact lv_lxor hx hb hd (K _ _ _ hRl hlo hl hnL)
set_option maxHeartbeats 1000000 in
theorem sn_ineg (C : Cx B H0 D dA RO sa p R s m args meth c cc nL o b z Ts) {E : mE} {i : Instr} {pc len : Nat} {lv lv' : mL} {st st' : List Value} {h h' : mH} {pc' : Nat} {H : Heap} {locs : List Loc} {ls : Array Slot}
    (hd : decode cc pc = .ok (.ineg, len)) (hln : len = iln (.ineg) len) (hrs : rsv o b z pc (.ineg) = some i) (hstp : stp E i (pc + len) lv st h (fun a b c d => a = pc' ∧ b = lv' ∧ c = st' ∧ d = h') qNo)
    (hRl : Rl B H0 D dA RO sa h H) (hlo : lo_ok B locs) (hl : lvR ls lv) (hnL : lv.length = nL) (hz0 : gE h0 h) (hcap : hZ h' ≤ hZ h0 + R.cells ∧ hU h' ≤ hU h0 + R.slots)
    (K : ∀ H' locs' ls', Rl B H0 D dA RO sa h' H' → lo_ok B locs' → lvR ls' lv' → lv'.length = nL → WG p l e R s m args below meth c Z h0 h' H' locs' pc' ls' st') : WG p l e R s m args below meth c Z h0 h H locs pc ls st := by
  obtain ⟨hx, hb, hml, hown, hts, hgd, hK, hfr, hlcl, hini⟩ := C

  obtain rfl : len = 1 := hln
  cases hrs
  obtain ⟨y, r, rfl, hs⟩ := pI_inv hstp
  obtain ⟨rfl, rfl, rfl, rfl⟩ := hs
  exact lv_ineg hx hb hd (K _ _ _ hRl hlo hl hnL)
set_option maxHeartbeats 1000000 in
theorem sn_dneg (C : Cx B H0 D dA RO sa p R s m args meth c cc nL o b z Ts) {E : mE} {i : Instr} {pc len : Nat} {lv lv' : mL} {st st' : List Value} {h h' : mH} {pc' : Nat} {H : Heap} {locs : List Loc} {ls : Array Slot}
    (hd : decode cc pc = .ok (.dneg, len)) (hln : len = iln (.dneg) len) (hrs : rsv o b z pc (.dneg) = some i) (hstp : stp E i (pc + len) lv st h (fun a b c d => a = pc' ∧ b = lv' ∧ c = st' ∧ d = h') qNo)
    (hRl : Rl B H0 D dA RO sa h H) (hlo : lo_ok B locs) (hl : lvR ls lv) (hnL : lv.length = nL) (hz0 : gE h0 h) (hcap : hZ h' ≤ hZ h0 + R.cells ∧ hU h' ≤ hU h0 + R.slots)
    (K : ∀ H' locs' ls', Rl B H0 D dA RO sa h' H' → lo_ok B locs' → lvR ls' lv' → lv'.length = nL → WG p l e R s m args below meth c Z h0 h' H' locs' pc' ls' st') : WG p l e R s m args below meth c Z h0 h H locs pc ls st := by
  obtain ⟨hx, hb, hml, hown, hts, hgd, hK, hfr, hlcl, hini⟩ := C

  obtain rfl : len = 1 := hln
  cases hrs
  obtain ⟨y, r, rfl, hs⟩ := pD_inv hstp
  obtain ⟨rfl, rfl, rfl, rfl⟩ := hs
  exact lv_dneg hx hb hd (K _ _ _ hRl hlo hl hnL)
set_option maxHeartbeats 1000000 in
theorem sn_i2d (C : Cx B H0 D dA RO sa p R s m args meth c cc nL o b z Ts) {E : mE} {i : Instr} {pc len : Nat} {lv lv' : mL} {st st' : List Value} {h h' : mH} {pc' : Nat} {H : Heap} {locs : List Loc} {ls : Array Slot}
    (hd : decode cc pc = .ok (.i2d, len)) (hln : len = iln (.i2d) len) (hrs : rsv o b z pc (.i2d) = some i) (hstp : stp E i (pc + len) lv st h (fun a b c d => a = pc' ∧ b = lv' ∧ c = st' ∧ d = h') qNo)
    (hRl : Rl B H0 D dA RO sa h H) (hlo : lo_ok B locs) (hl : lvR ls lv) (hnL : lv.length = nL) (hz0 : gE h0 h) (hcap : hZ h' ≤ hZ h0 + R.cells ∧ hU h' ≤ hU h0 + R.slots)
    (K : ∀ H' locs' ls', Rl B H0 D dA RO sa h' H' → lo_ok B locs' → lvR ls' lv' → lv'.length = nL → WG p l e R s m args below meth c Z h0 h' H' locs' pc' ls' st') : WG p l e R s m args below meth c Z h0 h H locs pc ls st := by
  obtain ⟨hx, hb, hml, hown, hts, hgd, hK, hfr, hlcl, hini⟩ := C

  obtain rfl : len = 1 := hln
  cases hrs
  obtain ⟨y, r, rfl, hs⟩ := pI_inv hstp
  obtain ⟨rfl, rfl, rfl, rfl⟩ := hs
  exact lv_i2d hx hb hd (K _ _ _ hRl hlo hl hnL)
set_option maxHeartbeats 1000000 in
theorem sn_l2d (C : Cx B H0 D dA RO sa p R s m args meth c cc nL o b z Ts) {E : mE} {i : Instr} {pc len : Nat} {lv lv' : mL} {st st' : List Value} {h h' : mH} {pc' : Nat} {H : Heap} {locs : List Loc} {ls : Array Slot}
    (hd : decode cc pc = .ok (.l2d, len)) (hln : len = iln (.l2d) len) (hrs : rsv o b z pc (.l2d) = some i) (hstp : stp E i (pc + len) lv st h (fun a b c d => a = pc' ∧ b = lv' ∧ c = st' ∧ d = h') qNo)
    (hRl : Rl B H0 D dA RO sa h H) (hlo : lo_ok B locs) (hl : lvR ls lv) (hnL : lv.length = nL) (hz0 : gE h0 h) (hcap : hZ h' ≤ hZ h0 + R.cells ∧ hU h' ≤ hU h0 + R.slots)
    (K : ∀ H' locs' ls', Rl B H0 D dA RO sa h' H' → lo_ok B locs' → lvR ls' lv' → lv'.length = nL → WG p l e R s m args below meth c Z h0 h' H' locs' pc' ls' st') : WG p l e R s m args below meth c Z h0 h H locs pc ls st := by
  obtain ⟨hx, hb, hml, hown, hts, hgd, hK, hfr, hlcl, hini⟩ := C

  obtain rfl : len = 1 := hln
  cases hrs
  obtain ⟨y, r, rfl, hs⟩ := pL_inv hstp
  obtain ⟨rfl, rfl, rfl, rfl⟩ := hs
  exact lv_l2d hx hb hd (K _ _ _ hRl hlo hl hnL)
set_option maxHeartbeats 1000000 in
theorem sn_d2i (C : Cx B H0 D dA RO sa p R s m args meth c cc nL o b z Ts) {E : mE} {i : Instr} {pc len : Nat} {lv lv' : mL} {st st' : List Value} {h h' : mH} {pc' : Nat} {H : Heap} {locs : List Loc} {ls : Array Slot}
    (hd : decode cc pc = .ok (.d2i, len)) (hln : len = iln (.d2i) len) (hrs : rsv o b z pc (.d2i) = some i) (hstp : stp E i (pc + len) lv st h (fun a b c d => a = pc' ∧ b = lv' ∧ c = st' ∧ d = h') qNo)
    (hRl : Rl B H0 D dA RO sa h H) (hlo : lo_ok B locs) (hl : lvR ls lv) (hnL : lv.length = nL) (hz0 : gE h0 h) (hcap : hZ h' ≤ hZ h0 + R.cells ∧ hU h' ≤ hU h0 + R.slots)
    (K : ∀ H' locs' ls', Rl B H0 D dA RO sa h' H' → lo_ok B locs' → lvR ls' lv' → lv'.length = nL → WG p l e R s m args below meth c Z h0 h' H' locs' pc' ls' st') : WG p l e R s m args below meth c Z h0 h H locs pc ls st := by
  obtain ⟨hx, hb, hml, hown, hts, hgd, hK, hfr, hlcl, hini⟩ := C

  obtain rfl : len = 1 := hln
  cases hrs
  obtain ⟨y, r, rfl, hs⟩ := pD_inv hstp
  obtain ⟨rfl, rfl, rfl, rfl⟩ := hs
  exact lv_d2i hx hb hd (K _ _ _ hRl hlo hl hnL)
set_option maxHeartbeats 1000000 in
theorem sn_d2l (C : Cx B H0 D dA RO sa p R s m args meth c cc nL o b z Ts) {E : mE} {i : Instr} {pc len : Nat} {lv lv' : mL} {st st' : List Value} {h h' : mH} {pc' : Nat} {H : Heap} {locs : List Loc} {ls : Array Slot}
    (hd : decode cc pc = .ok (.d2l, len)) (hln : len = iln (.d2l) len) (hrs : rsv o b z pc (.d2l) = some i) (hstp : stp E i (pc + len) lv st h (fun a b c d => a = pc' ∧ b = lv' ∧ c = st' ∧ d = h') qNo)
    (hRl : Rl B H0 D dA RO sa h H) (hlo : lo_ok B locs) (hl : lvR ls lv) (hnL : lv.length = nL) (hz0 : gE h0 h) (hcap : hZ h' ≤ hZ h0 + R.cells ∧ hU h' ≤ hU h0 + R.slots)
    (K : ∀ H' locs' ls', Rl B H0 D dA RO sa h' H' → lo_ok B locs' → lvR ls' lv' → lv'.length = nL → WG p l e R s m args below meth c Z h0 h' H' locs' pc' ls' st') : WG p l e R s m args below meth c Z h0 h H locs pc ls st := by
  obtain ⟨hx, hb, hml, hown, hts, hgd, hK, hfr, hlcl, hini⟩ := C

  obtain rfl : len = 1 := hln
  cases hrs
  obtain ⟨y, r, rfl, hs⟩ := pD_inv hstp
  obtain ⟨rfl, rfl, rfl, rfl⟩ := hs
  exact lv_d2l hx hb hd (K _ _ _ hRl hlo hl hnL)
set_option maxHeartbeats 1000000 in
theorem sn_idiv (C : Cx B H0 D dA RO sa p R s m args meth c cc nL o b z Ts) {E : mE} {i : Instr} {pc len : Nat} {lv lv' : mL} {st st' : List Value} {h h' : mH} {pc' : Nat} {H : Heap} {locs : List Loc} {ls : Array Slot}
    (hd : decode cc pc = .ok (.idiv, len)) (hln : len = iln (.idiv) len) (hrs : rsv o b z pc (.idiv) = some i) (hstp : stp E i (pc + len) lv st h (fun a b c d => a = pc' ∧ b = lv' ∧ c = st' ∧ d = h') qNo)
    (hRl : Rl B H0 D dA RO sa h H) (hlo : lo_ok B locs) (hl : lvR ls lv) (hnL : lv.length = nL) (hz0 : gE h0 h) (hcap : hZ h' ≤ hZ h0 + R.cells ∧ hU h' ≤ hU h0 + R.slots)
    (K : ∀ H' locs' ls', Rl B H0 D dA RO sa h' H' → lo_ok B locs' → lvR ls' lv' → lv'.length = nL → WG p l e R s m args below meth c Z h0 h' H' locs' pc' ls' st') : WG p l e R s m args below meth c Z h0 h H locs pc ls st := by
  obtain ⟨hx, hb, hml, hown, hts, hgd, hK, hfr, hlcl, hini⟩ := C

  obtain rfl : len = 1 := hln
  cases hrs
  obtain ⟨y, r, rfl, hs⟩ := pI_inv hstp
  obtain ⟨x, r, rfl, hs⟩ := pI_inv hs
  obtain ⟨hne, rfl, rfl, rfl, rfl⟩ := hs
  exact lv_idiv hx hb hd hne (K _ _ _ hRl hlo hl hnL)
set_option maxHeartbeats 1000000 in
theorem sn_irem (C : Cx B H0 D dA RO sa p R s m args meth c cc nL o b z Ts) {E : mE} {i : Instr} {pc len : Nat} {lv lv' : mL} {st st' : List Value} {h h' : mH} {pc' : Nat} {H : Heap} {locs : List Loc} {ls : Array Slot}
    (hd : decode cc pc = .ok (.irem, len)) (hln : len = iln (.irem) len) (hrs : rsv o b z pc (.irem) = some i) (hstp : stp E i (pc + len) lv st h (fun a b c d => a = pc' ∧ b = lv' ∧ c = st' ∧ d = h') qNo)
    (hRl : Rl B H0 D dA RO sa h H) (hlo : lo_ok B locs) (hl : lvR ls lv) (hnL : lv.length = nL) (hz0 : gE h0 h) (hcap : hZ h' ≤ hZ h0 + R.cells ∧ hU h' ≤ hU h0 + R.slots)
    (K : ∀ H' locs' ls', Rl B H0 D dA RO sa h' H' → lo_ok B locs' → lvR ls' lv' → lv'.length = nL → WG p l e R s m args below meth c Z h0 h' H' locs' pc' ls' st') : WG p l e R s m args below meth c Z h0 h H locs pc ls st := by
  obtain ⟨hx, hb, hml, hown, hts, hgd, hK, hfr, hlcl, hini⟩ := C

  obtain rfl : len = 1 := hln
  cases hrs
  obtain ⟨y, r, rfl, hs⟩ := pI_inv hstp
  obtain ⟨x, r, rfl, hs⟩ := pI_inv hs
  obtain ⟨hne, rfl, rfl, rfl, rfl⟩ := hs
  exact lv_irem hx hb hd hne (K _ _ _ hRl hlo hl hnL)
set_option maxHeartbeats 1000000 in
theorem sn_ldiv (C : Cx B H0 D dA RO sa p R s m args meth c cc nL o b z Ts) {E : mE} {i : Instr} {pc len : Nat} {lv lv' : mL} {st st' : List Value} {h h' : mH} {pc' : Nat} {H : Heap} {locs : List Loc} {ls : Array Slot}
    (hd : decode cc pc = .ok (.ldiv, len)) (hln : len = iln (.ldiv) len) (hrs : rsv o b z pc (.ldiv) = some i) (hstp : stp E i (pc + len) lv st h (fun a b c d => a = pc' ∧ b = lv' ∧ c = st' ∧ d = h') qNo)
    (hRl : Rl B H0 D dA RO sa h H) (hlo : lo_ok B locs) (hl : lvR ls lv) (hnL : lv.length = nL) (hz0 : gE h0 h) (hcap : hZ h' ≤ hZ h0 + R.cells ∧ hU h' ≤ hU h0 + R.slots)
    (K : ∀ H' locs' ls', Rl B H0 D dA RO sa h' H' → lo_ok B locs' → lvR ls' lv' → lv'.length = nL → WG p l e R s m args below meth c Z h0 h' H' locs' pc' ls' st') : WG p l e R s m args below meth c Z h0 h H locs pc ls st := by
  obtain ⟨hx, hb, hml, hown, hts, hgd, hK, hfr, hlcl, hini⟩ := C

  obtain rfl : len = 1 := hln
  cases hrs
  obtain ⟨y, r, rfl, hs⟩ := pL_inv hstp
  obtain ⟨x, r, rfl, hs⟩ := pL_inv hs
  obtain ⟨hne, rfl, rfl, rfl, rfl⟩ := hs
  exact lv_ldiv hx hb hd hne (K _ _ _ hRl hlo hl hnL)
set_option maxHeartbeats 1000000 in
theorem sn_dadd (C : Cx B H0 D dA RO sa p R s m args meth c cc nL o b z Ts) {E : mE} {i : Instr} {pc len : Nat} {lv lv' : mL} {st st' : List Value} {h h' : mH} {pc' : Nat} {H : Heap} {locs : List Loc} {ls : Array Slot}
    (hd : decode cc pc = .ok (.dadd, len)) (hln : len = iln (.dadd) len) (hrs : rsv o b z pc (.dadd) = some i) (hstp : stp E i (pc + len) lv st h (fun a b c d => a = pc' ∧ b = lv' ∧ c = st' ∧ d = h') qNo)
    (hRl : Rl B H0 D dA RO sa h H) (hlo : lo_ok B locs) (hl : lvR ls lv) (hnL : lv.length = nL) (hz0 : gE h0 h) (hcap : hZ h' ≤ hZ h0 + R.cells ∧ hU h' ≤ hU h0 + R.slots)
    (K : ∀ H' locs' ls', Rl B H0 D dA RO sa h' H' → lo_ok B locs' → lvR ls' lv' → lv'.length = nL → WG p l e R s m args below meth c Z h0 h' H' locs' pc' ls' st') : WG p l e R s m args below meth c Z h0 h H locs pc ls st := by
  obtain ⟨hx, hb, hml, hown, hts, hgd, hK, hfr, hlcl, hini⟩ := C

  obtain rfl : len = 1 := hln
  cases hrs
  obtain ⟨y, r, rfl, hs⟩ := pD_inv hstp
  obtain ⟨x, r, rfl, hs⟩ := pD_inv hs
  obtain ⟨hne, rfl, rfl, rfl, rfl⟩ := hs
  exact lv_dadd hx hb hd hne (K _ _ _ hRl hlo hl hnL)
set_option maxHeartbeats 1000000 in
theorem sn_dsub (C : Cx B H0 D dA RO sa p R s m args meth c cc nL o b z Ts) {E : mE} {i : Instr} {pc len : Nat} {lv lv' : mL} {st st' : List Value} {h h' : mH} {pc' : Nat} {H : Heap} {locs : List Loc} {ls : Array Slot}
    (hd : decode cc pc = .ok (.dsub, len)) (hln : len = iln (.dsub) len) (hrs : rsv o b z pc (.dsub) = some i) (hstp : stp E i (pc + len) lv st h (fun a b c d => a = pc' ∧ b = lv' ∧ c = st' ∧ d = h') qNo)
    (hRl : Rl B H0 D dA RO sa h H) (hlo : lo_ok B locs) (hl : lvR ls lv) (hnL : lv.length = nL) (hz0 : gE h0 h) (hcap : hZ h' ≤ hZ h0 + R.cells ∧ hU h' ≤ hU h0 + R.slots)
    (K : ∀ H' locs' ls', Rl B H0 D dA RO sa h' H' → lo_ok B locs' → lvR ls' lv' → lv'.length = nL → WG p l e R s m args below meth c Z h0 h' H' locs' pc' ls' st') : WG p l e R s m args below meth c Z h0 h H locs pc ls st := by
  obtain ⟨hx, hb, hml, hown, hts, hgd, hK, hfr, hlcl, hini⟩ := C

  obtain rfl : len = 1 := hln
  cases hrs
  obtain ⟨y, r, rfl, hs⟩ := pD_inv hstp
  obtain ⟨x, r, rfl, hs⟩ := pD_inv hs
  obtain ⟨hne, rfl, rfl, rfl, rfl⟩ := hs
  exact lv_dsub hx hb hd hne (K _ _ _ hRl hlo hl hnL)
set_option maxHeartbeats 1000000 in
theorem sn_dmul (C : Cx B H0 D dA RO sa p R s m args meth c cc nL o b z Ts) {E : mE} {i : Instr} {pc len : Nat} {lv lv' : mL} {st st' : List Value} {h h' : mH} {pc' : Nat} {H : Heap} {locs : List Loc} {ls : Array Slot}
    (hd : decode cc pc = .ok (.dmul, len)) (hln : len = iln (.dmul) len) (hrs : rsv o b z pc (.dmul) = some i) (hstp : stp E i (pc + len) lv st h (fun a b c d => a = pc' ∧ b = lv' ∧ c = st' ∧ d = h') qNo)
    (hRl : Rl B H0 D dA RO sa h H) (hlo : lo_ok B locs) (hl : lvR ls lv) (hnL : lv.length = nL) (hz0 : gE h0 h) (hcap : hZ h' ≤ hZ h0 + R.cells ∧ hU h' ≤ hU h0 + R.slots)
    (K : ∀ H' locs' ls', Rl B H0 D dA RO sa h' H' → lo_ok B locs' → lvR ls' lv' → lv'.length = nL → WG p l e R s m args below meth c Z h0 h' H' locs' pc' ls' st') : WG p l e R s m args below meth c Z h0 h H locs pc ls st := by
  obtain ⟨hx, hb, hml, hown, hts, hgd, hK, hfr, hlcl, hini⟩ := C

  obtain rfl : len = 1 := hln
  cases hrs
  obtain ⟨y, r, rfl, hs⟩ := pD_inv hstp
  obtain ⟨x, r, rfl, hs⟩ := pD_inv hs
  obtain ⟨hne, rfl, rfl, rfl, rfl⟩ := hs
  exact lv_dmul hx hb hd hne (K _ _ _ hRl hlo hl hnL)
set_option maxHeartbeats 1000000 in
theorem sn_ddiv (C : Cx B H0 D dA RO sa p R s m args meth c cc nL o b z Ts) {E : mE} {i : Instr} {pc len : Nat} {lv lv' : mL} {st st' : List Value} {h h' : mH} {pc' : Nat} {H : Heap} {locs : List Loc} {ls : Array Slot}
    (hd : decode cc pc = .ok (.ddiv, len)) (hln : len = iln (.ddiv) len) (hrs : rsv o b z pc (.ddiv) = some i) (hstp : stp E i (pc + len) lv st h (fun a b c d => a = pc' ∧ b = lv' ∧ c = st' ∧ d = h') qNo)
    (hRl : Rl B H0 D dA RO sa h H) (hlo : lo_ok B locs) (hl : lvR ls lv) (hnL : lv.length = nL) (hz0 : gE h0 h) (hcap : hZ h' ≤ hZ h0 + R.cells ∧ hU h' ≤ hU h0 + R.slots)
    (K : ∀ H' locs' ls', Rl B H0 D dA RO sa h' H' → lo_ok B locs' → lvR ls' lv' → lv'.length = nL → WG p l e R s m args below meth c Z h0 h' H' locs' pc' ls' st') : WG p l e R s m args below meth c Z h0 h H locs pc ls st := by
  obtain ⟨hx, hb, hml, hown, hts, hgd, hK, hfr, hlcl, hini⟩ := C

  obtain rfl : len = 1 := hln
  cases hrs
  obtain ⟨y, r, rfl, hs⟩ := pD_inv hstp
  obtain ⟨x, r, rfl, hs⟩ := pD_inv hs
  obtain ⟨hne, rfl, rfl, rfl, rfl⟩ := hs
  exact lv_ddiv hx hb hd hne (K _ _ _ hRl hlo hl hnL)
set_option maxHeartbeats 1000000 in
theorem sn_f2d (C : Cx B H0 D dA RO sa p R s m args meth c cc nL o b z Ts) {E : mE} {i : Instr} {pc len : Nat} {lv lv' : mL} {st st' : List Value} {h h' : mH} {pc' : Nat} {H : Heap} {locs : List Loc} {ls : Array Slot}
    (hd : decode cc pc = .ok (.f2d, len)) (hln : len = iln (.f2d) len) (hrs : rsv o b z pc (.f2d) = some i) (hstp : stp E i (pc + len) lv st h (fun a b c d => a = pc' ∧ b = lv' ∧ c = st' ∧ d = h') qNo)
    (hRl : Rl B H0 D dA RO sa h H) (hlo : lo_ok B locs) (hl : lvR ls lv) (hnL : lv.length = nL) (hz0 : gE h0 h) (hcap : hZ h' ≤ hZ h0 + R.cells ∧ hU h' ≤ hU h0 + R.slots)
    (K : ∀ H' locs' ls', Rl B H0 D dA RO sa h' H' → lo_ok B locs' → lvR ls' lv' → lv'.length = nL → WG p l e R s m args below meth c Z h0 h' H' locs' pc' ls' st') : WG p l e R s m args below meth c Z h0 h H locs pc ls st := by
  obtain ⟨hx, hb, hml, hown, hts, hgd, hK, hfr, hlcl, hini⟩ := C

  obtain rfl : len = 1 := hln
  cases hrs
  obtain ⟨y, r, rfl, hs⟩ := pF_inv hstp
  obtain ⟨hne, rfl, rfl, rfl, rfl⟩ := hs
  exact lv_f2d hx hb hd hne (K _ _ _ hRl hlo hl hnL)
set_option maxHeartbeats 1000000 in
theorem sn_i2l (C : Cx B H0 D dA RO sa p R s m args meth c cc nL o b z Ts) {E : mE} {i : Instr} {pc len : Nat} {lv lv' : mL} {st st' : List Value} {h h' : mH} {pc' : Nat} {H : Heap} {locs : List Loc} {ls : Array Slot}
    (hd : decode cc pc = .ok (.i2l, len)) (hln : len = iln (.i2l) len) (hrs : rsv o b z pc (.i2l) = some i) (hstp : stp E i (pc + len) lv st h (fun a b c d => a = pc' ∧ b = lv' ∧ c = st' ∧ d = h') qNo)
    (hRl : Rl B H0 D dA RO sa h H) (hlo : lo_ok B locs) (hl : lvR ls lv) (hnL : lv.length = nL) (hz0 : gE h0 h) (hcap : hZ h' ≤ hZ h0 + R.cells ∧ hU h' ≤ hU h0 + R.slots)
    (K : ∀ H' locs' ls', Rl B H0 D dA RO sa h' H' → lo_ok B locs' → lvR ls' lv' → lv'.length = nL → WG p l e R s m args below meth c Z h0 h' H' locs' pc' ls' st') : WG p l e R s m args below meth c Z h0 h H locs pc ls st := by
  obtain ⟨hx, hb, hml, hown, hts, hgd, hK, hfr, hlcl, hini⟩ := C

  obtain rfl : len = 1 := hln
  cases hrs
  obtain ⟨y, r, rfl, hs⟩ := pI_inv hstp
  obtain ⟨rfl, rfl, rfl, rfl⟩ := hs
  exact lv_i2l hx hb hd rfl (K _ _ _ hRl hlo hl hnL)
set_option maxHeartbeats 1000000 in
theorem sn_l2i (C : Cx B H0 D dA RO sa p R s m args meth c cc nL o b z Ts) {E : mE} {i : Instr} {pc len : Nat} {lv lv' : mL} {st st' : List Value} {h h' : mH} {pc' : Nat} {H : Heap} {locs : List Loc} {ls : Array Slot}
    (hd : decode cc pc = .ok (.l2i, len)) (hln : len = iln (.l2i) len) (hrs : rsv o b z pc (.l2i) = some i) (hstp : stp E i (pc + len) lv st h (fun a b c d => a = pc' ∧ b = lv' ∧ c = st' ∧ d = h') qNo)
    (hRl : Rl B H0 D dA RO sa h H) (hlo : lo_ok B locs) (hl : lvR ls lv) (hnL : lv.length = nL) (hz0 : gE h0 h) (hcap : hZ h' ≤ hZ h0 + R.cells ∧ hU h' ≤ hU h0 + R.slots)
    (K : ∀ H' locs' ls', Rl B H0 D dA RO sa h' H' → lo_ok B locs' → lvR ls' lv' → lv'.length = nL → WG p l e R s m args below meth c Z h0 h' H' locs' pc' ls' st') : WG p l e R s m args below meth c Z h0 h H locs pc ls st := by
  obtain ⟨hx, hb, hml, hown, hts, hgd, hK, hfr, hlcl, hini⟩ := C

  obtain rfl : len = 1 := hln
  cases hrs
  obtain ⟨y, r, rfl, hs⟩ := pL_inv hstp
  obtain ⟨rfl, rfl, rfl, rfl⟩ := hs
  exact lv_l2i hx hb hd rfl (K _ _ _ hRl hlo hl hnL)
set_option maxHeartbeats 1000000 in
theorem sn_i2b (C : Cx B H0 D dA RO sa p R s m args meth c cc nL o b z Ts) {E : mE} {i : Instr} {pc len : Nat} {lv lv' : mL} {st st' : List Value} {h h' : mH} {pc' : Nat} {H : Heap} {locs : List Loc} {ls : Array Slot}
    (hd : decode cc pc = .ok (.i2b, len)) (hln : len = iln (.i2b) len) (hrs : rsv o b z pc (.i2b) = some i) (hstp : stp E i (pc + len) lv st h (fun a b c d => a = pc' ∧ b = lv' ∧ c = st' ∧ d = h') qNo)
    (hRl : Rl B H0 D dA RO sa h H) (hlo : lo_ok B locs) (hl : lvR ls lv) (hnL : lv.length = nL) (hz0 : gE h0 h) (hcap : hZ h' ≤ hZ h0 + R.cells ∧ hU h' ≤ hU h0 + R.slots)
    (K : ∀ H' locs' ls', Rl B H0 D dA RO sa h' H' → lo_ok B locs' → lvR ls' lv' → lv'.length = nL → WG p l e R s m args below meth c Z h0 h' H' locs' pc' ls' st') : WG p l e R s m args below meth c Z h0 h H locs pc ls st := by
  obtain ⟨hx, hb, hml, hown, hts, hgd, hK, hfr, hlcl, hini⟩ := C

  obtain rfl : len = 1 := hln
  cases hrs
  obtain ⟨y, r, rfl, hs⟩ := pI_inv hstp
  obtain ⟨rfl, rfl, rfl, rfl⟩ := hs
  exact lv_i2b hx hb hd rfl (K _ _ _ hRl hlo hl hnL)
set_option maxHeartbeats 1000000 in
theorem sn_i2s (C : Cx B H0 D dA RO sa p R s m args meth c cc nL o b z Ts) {E : mE} {i : Instr} {pc len : Nat} {lv lv' : mL} {st st' : List Value} {h h' : mH} {pc' : Nat} {H : Heap} {locs : List Loc} {ls : Array Slot}
    (hd : decode cc pc = .ok (.i2s, len)) (hln : len = iln (.i2s) len) (hrs : rsv o b z pc (.i2s) = some i) (hstp : stp E i (pc + len) lv st h (fun a b c d => a = pc' ∧ b = lv' ∧ c = st' ∧ d = h') qNo)
    (hRl : Rl B H0 D dA RO sa h H) (hlo : lo_ok B locs) (hl : lvR ls lv) (hnL : lv.length = nL) (hz0 : gE h0 h) (hcap : hZ h' ≤ hZ h0 + R.cells ∧ hU h' ≤ hU h0 + R.slots)
    (K : ∀ H' locs' ls', Rl B H0 D dA RO sa h' H' → lo_ok B locs' → lvR ls' lv' → lv'.length = nL → WG p l e R s m args below meth c Z h0 h' H' locs' pc' ls' st') : WG p l e R s m args below meth c Z h0 h H locs pc ls st := by
  obtain ⟨hx, hb, hml, hown, hts, hgd, hK, hfr, hlcl, hini⟩ := C

  obtain rfl : len = 1 := hln
  cases hrs
  obtain ⟨y, r, rfl, hs⟩ := pI_inv hstp
  obtain ⟨rfl, rfl, rfl, rfl⟩ := hs
  exact lv_i2s hx hb hd rfl (K _ _ _ hRl hlo hl hnL)
set_option maxHeartbeats 1000000 in
theorem sn_i2c (C : Cx B H0 D dA RO sa p R s m args meth c cc nL o b z Ts) {E : mE} {i : Instr} {pc len : Nat} {lv lv' : mL} {st st' : List Value} {h h' : mH} {pc' : Nat} {H : Heap} {locs : List Loc} {ls : Array Slot}
    (hd : decode cc pc = .ok (.i2c, len)) (hln : len = iln (.i2c) len) (hrs : rsv o b z pc (.i2c) = some i) (hstp : stp E i (pc + len) lv st h (fun a b c d => a = pc' ∧ b = lv' ∧ c = st' ∧ d = h') qNo)
    (hRl : Rl B H0 D dA RO sa h H) (hlo : lo_ok B locs) (hl : lvR ls lv) (hnL : lv.length = nL) (hz0 : gE h0 h) (hcap : hZ h' ≤ hZ h0 + R.cells ∧ hU h' ≤ hU h0 + R.slots)
    (K : ∀ H' locs' ls', Rl B H0 D dA RO sa h' H' → lo_ok B locs' → lvR ls' lv' → lv'.length = nL → WG p l e R s m args below meth c Z h0 h' H' locs' pc' ls' st') : WG p l e R s m args below meth c Z h0 h H locs pc ls st := by
  obtain ⟨hx, hb, hml, hown, hts, hgd, hK, hfr, hlcl, hini⟩ := C

  obtain rfl : len = 1 := hln
  cases hrs
  obtain ⟨y, r, rfl, hs⟩ := pI_inv hstp
  obtain ⟨rfl, rfl, rfl, rfl⟩ := hs
  exact lv_i2c hx hb hd rfl (K _ _ _ hRl hlo hl hnL)
set_option maxHeartbeats 1000000 in
theorem sn_lshl (C : Cx B H0 D dA RO sa p R s m args meth c cc nL o b z Ts) {E : mE} {i : Instr} {pc len : Nat} {lv lv' : mL} {st st' : List Value} {h h' : mH} {pc' : Nat} {H : Heap} {locs : List Loc} {ls : Array Slot}
    (hd : decode cc pc = .ok (.lshl, len)) (hln : len = iln (.lshl) len) (hrs : rsv o b z pc (.lshl) = some i) (hstp : stp E i (pc + len) lv st h (fun a b c d => a = pc' ∧ b = lv' ∧ c = st' ∧ d = h') qNo)
    (hRl : Rl B H0 D dA RO sa h H) (hlo : lo_ok B locs) (hl : lvR ls lv) (hnL : lv.length = nL) (hz0 : gE h0 h) (hcap : hZ h' ≤ hZ h0 + R.cells ∧ hU h' ≤ hU h0 + R.slots)
    (K : ∀ H' locs' ls', Rl B H0 D dA RO sa h' H' → lo_ok B locs' → lvR ls' lv' → lv'.length = nL → WG p l e R s m args below meth c Z h0 h' H' locs' pc' ls' st') : WG p l e R s m args below meth c Z h0 h H locs pc ls st := by
  obtain ⟨hx, hb, hml, hown, hts, hgd, hK, hfr, hlcl, hini⟩ := C

  obtain rfl : len = 1 := hln
  cases hrs
  obtain ⟨y, r, rfl, hs⟩ := pI_inv hstp
  obtain ⟨x, r, rfl, hs⟩ := pL_inv hs
  obtain ⟨rfl, rfl, rfl, rfl⟩ := hs
  exact lv_lshl hx hb hd rfl (K _ _ _ hRl hlo hl hnL)
set_option maxHeartbeats 1000000 in
theorem sn_lshr (C : Cx B H0 D dA RO sa p R s m args meth c cc nL o b z Ts) {E : mE} {i : Instr} {pc len : Nat} {lv lv' : mL} {st st' : List Value} {h h' : mH} {pc' : Nat} {H : Heap} {locs : List Loc} {ls : Array Slot}
    (hd : decode cc pc = .ok (.lshr, len)) (hln : len = iln (.lshr) len) (hrs : rsv o b z pc (.lshr) = some i) (hstp : stp E i (pc + len) lv st h (fun a b c d => a = pc' ∧ b = lv' ∧ c = st' ∧ d = h') qNo)
    (hRl : Rl B H0 D dA RO sa h H) (hlo : lo_ok B locs) (hl : lvR ls lv) (hnL : lv.length = nL) (hz0 : gE h0 h) (hcap : hZ h' ≤ hZ h0 + R.cells ∧ hU h' ≤ hU h0 + R.slots)
    (K : ∀ H' locs' ls', Rl B H0 D dA RO sa h' H' → lo_ok B locs' → lvR ls' lv' → lv'.length = nL → WG p l e R s m args below meth c Z h0 h' H' locs' pc' ls' st') : WG p l e R s m args below meth c Z h0 h H locs pc ls st := by
  obtain ⟨hx, hb, hml, hown, hts, hgd, hK, hfr, hlcl, hini⟩ := C

  obtain rfl : len = 1 := hln
  cases hrs
  obtain ⟨y, r, rfl, hs⟩ := pI_inv hstp
  obtain ⟨x, r, rfl, hs⟩ := pL_inv hs
  obtain ⟨rfl, rfl, rfl, rfl⟩ := hs
  exact lv_lshr hx hb hd rfl (K _ _ _ hRl hlo hl hnL)
set_option maxHeartbeats 1000000 in
theorem sn_lcmp (C : Cx B H0 D dA RO sa p R s m args meth c cc nL o b z Ts) {E : mE} {i : Instr} {pc len : Nat} {lv lv' : mL} {st st' : List Value} {h h' : mH} {pc' : Nat} {H : Heap} {locs : List Loc} {ls : Array Slot}
    (hd : decode cc pc = .ok (.lcmp, len)) (hln : len = iln (.lcmp) len) (hrs : rsv o b z pc (.lcmp) = some i) (hstp : stp E i (pc + len) lv st h (fun a b c d => a = pc' ∧ b = lv' ∧ c = st' ∧ d = h') qNo)
    (hRl : Rl B H0 D dA RO sa h H) (hlo : lo_ok B locs) (hl : lvR ls lv) (hnL : lv.length = nL) (hz0 : gE h0 h) (hcap : hZ h' ≤ hZ h0 + R.cells ∧ hU h' ≤ hU h0 + R.slots)
    (K : ∀ H' locs' ls', Rl B H0 D dA RO sa h' H' → lo_ok B locs' → lvR ls' lv' → lv'.length = nL → WG p l e R s m args below meth c Z h0 h' H' locs' pc' ls' st') : WG p l e R s m args below meth c Z h0 h H locs pc ls st := by
  obtain ⟨hx, hb, hml, hown, hts, hgd, hK, hfr, hlcl, hini⟩ := C

  obtain rfl : len = 1 := hln
  cases hrs
  obtain ⟨y, r, rfl, hs⟩ := pL_inv hstp
  obtain ⟨x, r, rfl, hs⟩ := pL_inv hs
  obtain ⟨rfl, rfl, rfl, rfl⟩ := hs
  exact W.lcmp hx hb hd (K _ _ _ hRl hlo hl hnL)
set_option maxHeartbeats 1000000 in
theorem sn_dcmp (C : Cx B H0 D dA RO sa p R s m args meth c cc nL o b z Ts) {E : mE} {op : CmpOp} {i : Instr} {pc len : Nat} {lv lv' : mL} {st st' : List Value} {h h' : mH} {pc' : Nat} {H : Heap} {locs : List Loc} {ls : Array Slot}
    (hd : decode cc pc = .ok (.dcmp op, len)) (hln : len = iln (.dcmp op) len) (hrs : rsv o b z pc (.dcmp op) = some i) (hstp : stp E i (pc + len) lv st h (fun a b c d => a = pc' ∧ b = lv' ∧ c = st' ∧ d = h') qNo)
    (hRl : Rl B H0 D dA RO sa h H) (hlo : lo_ok B locs) (hl : lvR ls lv) (hnL : lv.length = nL) (hz0 : gE h0 h) (hcap : hZ h' ≤ hZ h0 + R.cells ∧ hU h' ≤ hU h0 + R.slots)
    (K : ∀ H' locs' ls', Rl B H0 D dA RO sa h' H' → lo_ok B locs' → lvR ls' lv' → lv'.length = nL → WG p l e R s m args below meth c Z h0 h' H' locs' pc' ls' st') : WG p l e R s m args below meth c Z h0 h H locs pc ls st := by
  obtain ⟨hx, hb, hml, hown, hts, hgd, hK, hfr, hlcl, hini⟩ := C

  obtain rfl : len = 1 := hln
  cases hrs
  obtain ⟨y, r, rfl, hs⟩ := pD_inv hstp
  obtain ⟨x, r, rfl, hs⟩ := pD_inv hs
  obtain ⟨rfl, rfl, rfl, rfl⟩ := hs
  exact lv_dcmp hx hb hd (K _ _ _ hRl hlo hl hnL)
set_option maxHeartbeats 1000000 in
theorem sn_iconst (C : Cx B H0 D dA RO sa p R s m args meth c cc nL o b z Ts) {E : mE} {n : Int} {i : Instr} {pc len : Nat} {lv lv' : mL} {st st' : List Value} {h h' : mH} {pc' : Nat} {H : Heap} {locs : List Loc} {ls : Array Slot}
    (hd : decode cc pc = .ok (.iconst n, len)) (hln : len = iln (.iconst n) len) (hrs : rsv o b z pc (.iconst n) = some i) (hstp : stp E i (pc + len) lv st h (fun a b c d => a = pc' ∧ b = lv' ∧ c = st' ∧ d = h') qNo)
    (hRl : Rl B H0 D dA RO sa h H) (hlo : lo_ok B locs) (hl : lvR ls lv) (hnL : lv.length = nL) (hz0 : gE h0 h) (hcap : hZ h' ≤ hZ h0 + R.cells ∧ hU h' ≤ hU h0 + R.slots)
    (K : ∀ H' locs' ls', Rl B H0 D dA RO sa h' H' → lo_ok B locs' → lvR ls' lv' → lv'.length = nL → WG p l e R s m args below meth c Z h0 h' H' locs' pc' ls' st') : WG p l e R s m args below meth c Z h0 h H locs pc ls st := by
  obtain ⟨hx, hb, hml, hown, hts, hgd, hK, hfr, hlcl, hini⟩ := C

  obtain rfl : len = 1 := hln
  cases hrs
  obtain ⟨rfl, rfl, rfl, rfl⟩ := hstp
  exact lv_iconst hx hb hd rfl (K _ _ _ hRl hlo hl hnL)
set_option maxHeartbeats 1000000 in
theorem sn_bipush (C : Cx B H0 D dA RO sa p R s m args meth c cc nL o b z Ts) {E : mE} {n : Int} {i : Instr} {pc len : Nat} {lv lv' : mL} {st st' : List Value} {h h' : mH} {pc' : Nat} {H : Heap} {locs : List Loc} {ls : Array Slot}
    (hd : decode cc pc = .ok (.bipush n, len)) (hln : len = iln (.bipush n) len) (hrs : rsv o b z pc (.bipush n) = some i) (hstp : stp E i (pc + len) lv st h (fun a b c d => a = pc' ∧ b = lv' ∧ c = st' ∧ d = h') qNo)
    (hRl : Rl B H0 D dA RO sa h H) (hlo : lo_ok B locs) (hl : lvR ls lv) (hnL : lv.length = nL) (hz0 : gE h0 h) (hcap : hZ h' ≤ hZ h0 + R.cells ∧ hU h' ≤ hU h0 + R.slots)
    (K : ∀ H' locs' ls', Rl B H0 D dA RO sa h' H' → lo_ok B locs' → lvR ls' lv' → lv'.length = nL → WG p l e R s m args below meth c Z h0 h' H' locs' pc' ls' st') : WG p l e R s m args below meth c Z h0 h H locs pc ls st := by
  obtain ⟨hx, hb, hml, hown, hts, hgd, hK, hfr, hlcl, hini⟩ := C

  obtain rfl : len = 2 := hln
  simp only [rsv] at hrs
  split at hrs
  · rename_i hv
    cases hrs
    obtain ⟨rfl, rfl, rfl, rfl⟩ := hstp
    exact lv_bipush hx hb hd hv (K _ _ _ hRl hlo hl hnL)
  · cases hrs
set_option maxHeartbeats 1000000 in
theorem sn_sipush (C : Cx B H0 D dA RO sa p R s m args meth c cc nL o b z Ts) {E : mE} {n : Int} {i : Instr} {pc len : Nat} {lv lv' : mL} {st st' : List Value} {h h' : mH} {pc' : Nat} {H : Heap} {locs : List Loc} {ls : Array Slot}
    (hd : decode cc pc = .ok (.sipush n, len)) (hln : len = iln (.sipush n) len) (hrs : rsv o b z pc (.sipush n) = some i) (hstp : stp E i (pc + len) lv st h (fun a b c d => a = pc' ∧ b = lv' ∧ c = st' ∧ d = h') qNo)
    (hRl : Rl B H0 D dA RO sa h H) (hlo : lo_ok B locs) (hl : lvR ls lv) (hnL : lv.length = nL) (hz0 : gE h0 h) (hcap : hZ h' ≤ hZ h0 + R.cells ∧ hU h' ≤ hU h0 + R.slots)
    (K : ∀ H' locs' ls', Rl B H0 D dA RO sa h' H' → lo_ok B locs' → lvR ls' lv' → lv'.length = nL → WG p l e R s m args below meth c Z h0 h' H' locs' pc' ls' st') : WG p l e R s m args below meth c Z h0 h H locs pc ls st := by
  obtain ⟨hx, hb, hml, hown, hts, hgd, hK, hfr, hlcl, hini⟩ := C

  obtain rfl : len = 3 := hln
  simp only [rsv] at hrs
  split at hrs
  · rename_i hv
    cases hrs
    obtain ⟨rfl, rfl, rfl, rfl⟩ := hstp
    exact lv_sipush hx hb hd hv (K _ _ _ hRl hlo hl hnL)
  · cases hrs
set_option maxHeartbeats 1000000 in
theorem sn_lconst (C : Cx B H0 D dA RO sa p R s m args meth c cc nL o b z Ts) {E : mE} {n : Fin 2} {i : Instr} {pc len : Nat} {lv lv' : mL} {st st' : List Value} {h h' : mH} {pc' : Nat} {H : Heap} {locs : List Loc} {ls : Array Slot}
    (hd : decode cc pc = .ok (.lconst n, len)) (hln : len = iln (.lconst n) len) (hrs : rsv o b z pc (.lconst n) = some i) (hstp : stp E i (pc + len) lv st h (fun a b c d => a = pc' ∧ b = lv' ∧ c = st' ∧ d = h') qNo)
    (hRl : Rl B H0 D dA RO sa h H) (hlo : lo_ok B locs) (hl : lvR ls lv) (hnL : lv.length = nL) (hz0 : gE h0 h) (hcap : hZ h' ≤ hZ h0 + R.cells ∧ hU h' ≤ hU h0 + R.slots)
    (K : ∀ H' locs' ls', Rl B H0 D dA RO sa h' H' → lo_ok B locs' → lvR ls' lv' → lv'.length = nL → WG p l e R s m args below meth c Z h0 h' H' locs' pc' ls' st') : WG p l e R s m args below meth c Z h0 h H locs pc ls st := by
  obtain ⟨hx, hb, hml, hown, hts, hgd, hK, hfr, hlcl, hini⟩ := C

  obtain rfl : len = 1 := hln
  cases hrs
  obtain ⟨rfl, rfl, rfl, rfl⟩ := hstp
  exact lv_lconst hx hb hd rfl (K _ _ _ hRl hlo hl hnL)
set_option maxHeartbeats 1000000 in
theorem sn_dconst (C : Cx B H0 D dA RO sa p R s m args meth c cc nL o b z Ts) {E : mE} {n : Fin 2} {i : Instr} {pc len : Nat} {lv lv' : mL} {st st' : List Value} {h h' : mH} {pc' : Nat} {H : Heap} {locs : List Loc} {ls : Array Slot}
    (hd : decode cc pc = .ok (.dconst n, len)) (hln : len = iln (.dconst n) len) (hrs : rsv o b z pc (.dconst n) = some i) (hstp : stp E i (pc + len) lv st h (fun a b c d => a = pc' ∧ b = lv' ∧ c = st' ∧ d = h') qNo)
    (hRl : Rl B H0 D dA RO sa h H) (hlo : lo_ok B locs) (hl : lvR ls lv) (hnL : lv.length = nL) (hz0 : gE h0 h) (hcap : hZ h' ≤ hZ h0 + R.cells ∧ hU h' ≤ hU h0 + R.slots)
    (K : ∀ H' locs' ls', Rl B H0 D dA RO sa h' H' → lo_ok B locs' → lvR ls' lv' → lv'.length = nL → WG p l e R s m args below meth c Z h0 h' H' locs' pc' ls' st') : WG p l e R s m args below meth c Z h0 h H locs pc ls st := by
  obtain ⟨hx, hb, hml, hown, hts, hgd, hK, hfr, hlcl, hini⟩ := C

  obtain rfl : len = 1 := hln
  cases hrs
  obtain ⟨rfl, rfl, rfl, rfl⟩ := hstp
  match n with
  | 0 => exact lv_dconst0 hx hb hd (K _ _ _ hRl hlo hl hnL)
  | 1 => exact lv_dconst1 hx hb hd (K _ _ _ hRl hlo hl hnL)
set_option maxHeartbeats 1000000 in
theorem sn_aconst_null (C : Cx B H0 D dA RO sa p R s m args meth c cc nL o b z Ts) {E : mE} {i : Instr} {pc len : Nat} {lv lv' : mL} {st st' : List Value} {h h' : mH} {pc' : Nat} {H : Heap} {locs : List Loc} {ls : Array Slot}
    (hd : decode cc pc = .ok (.aconst_null, len)) (hln : len = iln (.aconst_null) len) (hrs : rsv o b z pc (.aconst_null) = some i) (hstp : stp E i (pc + len) lv st h (fun a b c d => a = pc' ∧ b = lv' ∧ c = st' ∧ d = h') qNo)
    (hRl : Rl B H0 D dA RO sa h H) (hlo : lo_ok B locs) (hl : lvR ls lv) (hnL : lv.length = nL) (hz0 : gE h0 h) (hcap : hZ h' ≤ hZ h0 + R.cells ∧ hU h' ≤ hU h0 + R.slots)
    (K : ∀ H' locs' ls', Rl B H0 D dA RO sa h' H' → lo_ok B locs' → lvR ls' lv' → lv'.length = nL → WG p l e R s m args below meth c Z h0 h' H' locs' pc' ls' st') : WG p l e R s m args below meth c Z h0 h H locs pc ls st := by
  obtain ⟨hx, hb, hml, hown, hts, hgd, hK, hfr, hlcl, hini⟩ := C

  obtain rfl : len = 1 := hln
  cases hrs
  obtain ⟨rfl, rfl, rfl, rfl⟩ := hstp
  exact lv_null hx hb hd (K _ _ _ hRl hlo hl hnL)
set_option maxHeartbeats 1000000 in
theorem sn_iload (C : Cx B H0 D dA RO sa p R s m args meth c cc nL o b z Ts) {E : mE} {n : Nat} {i : Instr} {pc len : Nat} {lv lv' : mL} {st st' : List Value} {h h' : mH} {pc' : Nat} {H : Heap} {locs : List Loc} {ls : Array Slot}
    (hd : decode cc pc = .ok (.iload n, len)) (hln : len = iln (.iload n) len) (hrs : rsv o b z pc (.iload n) = some i) (hstp : stp E i (pc + len) lv st h (fun a b c d => a = pc' ∧ b = lv' ∧ c = st' ∧ d = h') qNo)
    (hRl : Rl B H0 D dA RO sa h H) (hlo : lo_ok B locs) (hl : lvR ls lv) (hnL : lv.length = nL) (hz0 : gE h0 h) (hcap : hZ h' ≤ hZ h0 + R.cells ∧ hU h' ≤ hU h0 + R.slots)
    (K : ∀ H' locs' ls', Rl B H0 D dA RO sa h' H' → lo_ok B locs' → lvR ls' lv' → lv'.length = nL → WG p l e R s m args below meth c Z h0 h' H' locs' pc' ls' st') : WG p l e R s m args below meth c Z h0 h H locs pc ls st := by
  obtain ⟨hx, hb, hml, hown, hts, hgd, hK, hfr, hlcl, hini⟩ := C

  obtain rfl : len = 2 := hln
  cases hrs
  obtain ⟨x, hv, rfl, rfl, rfl, rfl⟩ := gI_inv hstp
  exact lv_iload hx hb hd (hl.at hv) (K _ _ _ hRl hlo hl hnL)
set_option maxHeartbeats 1000000 in
theorem sn_iload_n (C : Cx B H0 D dA RO sa p R s m args meth c cc nL o b z Ts) {E : mE} {n : Fin 4} {i : Instr} {pc len : Nat} {lv lv' : mL} {st st' : List Value} {h h' : mH} {pc' : Nat} {H : Heap} {locs : List Loc} {ls : Array Slot}
    (hd : decode cc pc = .ok (.iload_n n, len)) (hln : len = iln (.iload_n n) len) (hrs : rsv o b z pc (.iload_n n) = some i) (hstp : stp E i (pc + len) lv st h (fun a b c d => a = pc' ∧ b = lv' ∧ c = st' ∧ d = h') qNo)
    (hRl : Rl B H0 D dA RO sa h H) (hlo : lo_ok B locs) (hl : lvR ls lv) (hnL : lv.length = nL) (hz0 : gE h0 h) (hcap : hZ h' ≤ hZ h0 + R.cells ∧ hU h' ≤ hU h0 + R.slots)
    (K : ∀ H' locs' ls', Rl B H0 D dA RO sa h' H' → lo_ok B locs' → lvR ls' lv' → lv'.length = nL → WG p l e R s m args below meth c Z h0 h' H' locs' pc' ls' st') : WG p l e R s m args below meth c Z h0 h H locs pc ls st := by
  obtain ⟨hx, hb, hml, hown, hts, hgd, hK, hfr, hlcl, hini⟩ := C

  obtain rfl : len = 1 := hln
  cases hrs
  obtain ⟨x, hv, rfl, rfl, rfl, rfl⟩ := gI_inv hstp
  exact lv_iload_n hx hb hd rfl (hl.at hv) (K _ _ _ hRl hlo hl hnL)
set_option maxHeartbeats 1000000 in
theorem sn_lload (C : Cx B H0 D dA RO sa p R s m args meth c cc nL o b z Ts) {E : mE} {n : Nat} {i : Instr} {pc len : Nat} {lv lv' : mL} {st st' : List Value} {h h' : mH} {pc' : Nat} {H : Heap} {locs : List Loc} {ls : Array Slot}
    (hd : decode cc pc = .ok (.lload n, len)) (hln : len = iln (.lload n) len) (hrs : rsv o b z pc (.lload n) = some i) (hstp : stp E i (pc + len) lv st h (fun a b c d => a = pc' ∧ b = lv' ∧ c = st' ∧ d = h') qNo)
    (hRl : Rl B H0 D dA RO sa h H) (hlo : lo_ok B locs) (hl : lvR ls lv) (hnL : lv.length = nL) (hz0 : gE h0 h) (hcap : hZ h' ≤ hZ h0 + R.cells ∧ hU h' ≤ hU h0 + R.slots)
    (K : ∀ H' locs' ls', Rl B H0 D dA RO sa h' H' → lo_ok B locs' → lvR ls' lv' → lv'.length = nL → WG p l e R s m args below meth c Z h0 h' H' locs' pc' ls' st') : WG p l e R s m args below meth c Z h0 h H locs pc ls st := by
  obtain ⟨hx, hb, hml, hown, hts, hgd, hK, hfr, hlcl, hini⟩ := C

  obtain rfl : len = 2 := hln
  cases hrs
  obtain ⟨x, hv, rfl, rfl, rfl, rfl⟩ := gL_inv hstp
  exact lv_lload hx hb hd (hl.at hv) (K _ _ _ hRl hlo hl hnL)
set_option maxHeartbeats 1000000 in
theorem sn_lload_n (C : Cx B H0 D dA RO sa p R s m args meth c cc nL o b z Ts) {E : mE} {n : Fin 4} {i : Instr} {pc len : Nat} {lv lv' : mL} {st st' : List Value} {h h' : mH} {pc' : Nat} {H : Heap} {locs : List Loc} {ls : Array Slot}
    (hd : decode cc pc = .ok (.lload_n n, len)) (hln : len = iln (.lload_n n) len) (hrs : rsv o b z pc (.lload_n n) = some i) (hstp : stp E i (pc + len) lv st h (fun a b c d => a = pc' ∧ b = lv' ∧ c = st' ∧ d = h') qNo)
    (hRl : Rl B H0 D dA RO sa h H) (hlo : lo_ok B locs) (hl : lvR ls lv) (hnL : lv.length = nL) (hz0 : gE h0 h) (hcap : hZ h' ≤ hZ h0 + R.cells ∧ hU h' ≤ hU h0 + R.slots)
    (K : ∀ H' locs' ls', Rl B H0 D dA RO sa h' H' → lo_ok B locs' → lvR ls' lv' → lv'.length = nL → WG p l e R s m args below meth c Z h0 h' H' locs' pc' ls' st') : WG p l e R s m args below meth c Z h0 h H locs pc ls st := by
  obtain ⟨hx, hb, hml, hown, hts, hgd, hK, hfr, hlcl, hini⟩ := C

  obtain rfl : len = 1 := hln
  cases hrs
  obtain ⟨x, hv, rfl, rfl, rfl, rfl⟩ := gL_inv hstp
  exact lv_lload_n hx hb hd rfl (hl.at hv) (K _ _ _ hRl hlo hl hnL)
set_option maxHeartbeats 1000000 in
theorem sn_dload (C : Cx B H0 D dA RO sa p R s m args meth c cc nL o b z Ts) {E : mE} {n : Nat} {i : Instr} {pc len : Nat} {lv lv' : mL} {st st' : List Value} {h h' : mH} {pc' : Nat} {H : Heap} {locs : List Loc} {ls : Array Slot}
    (hd : decode cc pc = .ok (.dload n, len)) (hln : len = iln (.dload n) len) (hrs : rsv o b z pc (.dload n) = some i) (hstp : stp E i (pc + len) lv st h (fun a b c d => a = pc' ∧ b = lv' ∧ c = st' ∧ d = h') qNo)
    (hRl : Rl B H0 D dA RO sa h H) (hlo : lo_ok B locs) (hl : lvR ls lv) (hnL : lv.length = nL) (hz0 : gE h0 h) (hcap : hZ h' ≤ hZ h0 + R.cells ∧ hU h' ≤ hU h0 + R.slots)
    (K : ∀ H' locs' ls', Rl B H0 D dA RO sa h' H' → lo_ok B locs' → lvR ls' lv' → lv'.length = nL → WG p l e R s m args below meth c Z h0 h' H' locs' pc' ls' st') : WG p l e R s m args below meth c Z h0 h H locs pc ls st := by
  obtain ⟨hx, hb, hml, hown, hts, hgd, hK, hfr, hlcl, hini⟩ := C

  obtain rfl : len = 2 := hln
  cases hrs
  obtain ⟨x, hv, rfl, rfl, rfl, rfl⟩ := gD_inv hstp
  exact lv_dload hx hb hd (hl.at hv) (K _ _ _ hRl hlo hl hnL)
set_option maxHeartbeats 1000000 in
theorem sn_dload_n (C : Cx B H0 D dA RO sa p R s m args meth c cc nL o b z Ts) {E : mE} {n : Fin 4} {i : Instr} {pc len : Nat} {lv lv' : mL} {st st' : List Value} {h h' : mH} {pc' : Nat} {H : Heap} {locs : List Loc} {ls : Array Slot}
    (hd : decode cc pc = .ok (.dload_n n, len)) (hln : len = iln (.dload_n n) len) (hrs : rsv o b z pc (.dload_n n) = some i) (hstp : stp E i (pc + len) lv st h (fun a b c d => a = pc' ∧ b = lv' ∧ c = st' ∧ d = h') qNo)
    (hRl : Rl B H0 D dA RO sa h H) (hlo : lo_ok B locs) (hl : lvR ls lv) (hnL : lv.length = nL) (hz0 : gE h0 h) (hcap : hZ h' ≤ hZ h0 + R.cells ∧ hU h' ≤ hU h0 + R.slots)
    (K : ∀ H' locs' ls', Rl B H0 D dA RO sa h' H' → lo_ok B locs' → lvR ls' lv' → lv'.length = nL → WG p l e R s m args below meth c Z h0 h' H' locs' pc' ls' st') : WG p l e R s m args below meth c Z h0 h H locs pc ls st := by
  obtain ⟨hx, hb, hml, hown, hts, hgd, hK, hfr, hlcl, hini⟩ := C

  obtain rfl : len = 1 := hln
  cases hrs
  obtain ⟨x, hv, rfl, rfl, rfl, rfl⟩ := gD_inv hstp
  exact lv_dload_n hx hb hd rfl (hl.at hv) (K _ _ _ hRl hlo hl hnL)
set_option maxHeartbeats 1000000 in
theorem sn_aload (C : Cx B H0 D dA RO sa p R s m args meth c cc nL o b z Ts) {E : mE} {n : Nat} {i : Instr} {pc len : Nat} {lv lv' : mL} {st st' : List Value} {h h' : mH} {pc' : Nat} {H : Heap} {locs : List Loc} {ls : Array Slot}
    (hd : decode cc pc = .ok (.aload n, len)) (hln : len = iln (.aload n) len) (hrs : rsv o b z pc (.aload n) = some i) (hstp : stp E i (pc + len) lv st h (fun a b c d => a = pc' ∧ b = lv' ∧ c = st' ∧ d = h') qNo)
    (hRl : Rl B H0 D dA RO sa h H) (hlo : lo_ok B locs) (hl : lvR ls lv) (hnL : lv.length = nL) (hz0 : gE h0 h) (hcap : hZ h' ≤ hZ h0 + R.cells ∧ hU h' ≤ hU h0 + R.slots)
    (K : ∀ H' locs' ls', Rl B H0 D dA RO sa h' H' → lo_ok B locs' → lvR ls' lv' → lv'.length = nL → WG p l e R s m args below meth c Z h0 h' H' locs' pc' ls' st') : WG p l e R s m args below meth c Z h0 h H locs pc ls st := by
  obtain ⟨hx, hb, hml, hown, hts, hgd, hK, hfr, hlcl, hini⟩ := C

  obtain rfl : len = 2 := hln
  cases hrs
  simp only [stp] at hstp
  obtain ⟨x, hv, rfl, rfl, rfl, rfl⟩ := gR_inv hstp
  cases x with
  | none => exact lv_aloadN hx hb hd (hl.at hv) (K _ _ _ hRl hlo hl hnL)
  | some x => exact lv_aload hx hb hd (hl.at hv) (K _ _ _ hRl hlo hl hnL)
set_option maxHeartbeats 1000000 in
theorem sn_aload_n (C : Cx B H0 D dA RO sa p R s m args meth c cc nL o b z Ts) {E : mE} {n : Fin 4} {i : Instr} {pc len : Nat} {lv lv' : mL} {st st' : List Value} {h h' : mH} {pc' : Nat} {H : Heap} {locs : List Loc} {ls : Array Slot}
    (hd : decode cc pc = .ok (.aload_n n, len)) (hln : len = iln (.aload_n n) len) (hrs : rsv o b z pc (.aload_n n) = some i) (hstp : stp E i (pc + len) lv st h (fun a b c d => a = pc' ∧ b = lv' ∧ c = st' ∧ d = h') qNo)
    (hRl : Rl B H0 D dA RO sa h H) (hlo : lo_ok B locs) (hl : lvR ls lv) (hnL : lv.length = nL) (hz0 : gE h0 h) (hcap : hZ h' ≤ hZ h0 + R.cells ∧ hU h' ≤ hU h0 + R.slots)
    (K : ∀ H' locs' ls', Rl B H0 D dA RO sa h' H' → lo_ok B locs' → lvR ls' lv' → lv'.length = nL → WG p l e R s m args below meth c Z h0 h' H' locs' pc' ls' st') : WG p l e R s m args below meth c Z h0 h H locs pc ls st := by
  obtain ⟨hx, hb, hml, hown, hts, hgd, hK, hfr, hlcl, hini⟩ := C

  obtain rfl : len = 1 := hln
  cases hrs
  simp only [stp] at hstp
  obtain ⟨x, hv, rfl, rfl, rfl, rfl⟩ := gR_inv hstp
  cases x with
  | none => exact lv_aload_nN hx hb hd rfl (hl.at hv) (K _ _ _ hRl hlo hl hnL)
  | some x => exact lv_aload_n hx hb hd rfl (hl.at hv) (K _ _ _ hRl hlo hl hnL)
set_option maxHeartbeats 1000000 in
theorem sn_istore (C : Cx B H0 D dA RO sa p R s m args meth c cc nL o b z Ts) {E : mE} {n : Nat} {i : Instr} {pc len : Nat} {lv lv' : mL} {st st' : List Value} {h h' : mH} {pc' : Nat} {H : Heap} {locs : List Loc} {ls : Array Slot}
    (hd : decode cc pc = .ok (.istore n, len)) (hln : len = iln (.istore n) len) (hrs : rsv o b z pc (.istore n) = some i) (hstp : stp E i (pc + len) lv st h (fun a b c d => a = pc' ∧ b = lv' ∧ c = st' ∧ d = h') qNo)
    (hRl : Rl B H0 D dA RO sa h H) (hlo : lo_ok B locs) (hl : lvR ls lv) (hnL : lv.length = nL) (hz0 : gE h0 h) (hcap : hZ h' ≤ hZ h0 + R.cells ∧ hU h' ≤ hU h0 + R.slots)
    (K : ∀ H' locs' ls', Rl B H0 D dA RO sa h' H' → lo_ok B locs' → lvR ls' lv' → lv'.length = nL → WG p l e R s m args below meth c Z h0 h' H' locs' pc' ls' st') : WG p l e R s m args below meth c Z h0 h H locs pc ls st := by
  obtain ⟨hx, hb, hml, hown, hts, hgd, hK, hfr, hlcl, hini⟩ := C

  obtain rfl : len = 2 := hln
  cases hrs
  obtain ⟨y, r, rfl, hs⟩ := pI_inv hstp
  obtain ⟨hn, rfl, rfl, rfl, rfl⟩ := hs
  exact lv_istore hx hb hd hl hn rfl (fun ls' hl' => K _ _ _ hRl hlo (lvR.t1 (ls := ls) hl') (((t1_len _ _ _).trans hnL)))
set_option maxHeartbeats 1000000 in
theorem sn_istore_n (C : Cx B H0 D dA RO sa p R s m args meth c cc nL o b z Ts) {E : mE} {n : Fin 4} {i : Instr} {pc len : Nat} {lv lv' : mL} {st st' : List Value} {h h' : mH} {pc' : Nat} {H : Heap} {locs : List Loc} {ls : Array Slot}
    (hd : decode cc pc = .ok (.istore_n n, len)) (hln : len = iln (.istore_n n) len) (hrs : rsv o b z pc (.istore_n n) = some i) (hstp : stp E i (pc + len) lv st h (fun a b c d => a = pc' ∧ b = lv' ∧ c = st' ∧ d = h') qNo)
    (hRl : Rl B H0 D dA RO sa h H) (hlo : lo_ok B locs) (hl : lvR ls lv) (hnL : lv.length = nL) (hz0 : gE h0 h) (hcap : hZ h' ≤ hZ h0 + R.cells ∧ hU h' ≤ hU h0 + R.slots)
    (K : ∀ H' locs' ls', Rl B H0 D dA RO sa h' H' → lo_ok B locs' → lvR ls' lv' → lv'.length = nL → WG p l e R s m args below meth c Z h0 h' H' locs' pc' ls' st') : WG p l e R s m args below meth c Z h0 h H locs pc ls st := by
  obtain ⟨hx, hb, hml, hown, hts, hgd, hK, hfr, hlcl, hini⟩ := C

  obtain rfl : len = 1 := hln
  cases hrs
  obtain ⟨y, r, rfl, hs⟩ := pI_inv hstp
  obtain ⟨hn, rfl, rfl, rfl, rfl⟩ := hs
  exact lv_istore_n hx hb hd rfl hl hn rfl (fun ls' hl' => K _ _ _ hRl hlo (lvR.t1 (ls := ls) hl') (((t1_len _ _ _).trans hnL)))
set_option maxHeartbeats 1000000 in
theorem sn_lstore (C : Cx B H0 D dA RO sa p R s m args meth c cc nL o b z Ts) {E : mE} {n : Nat} {i : Instr} {pc len : Nat} {lv lv' : mL} {st st' : List Value} {h h' : mH} {pc' : Nat} {H : Heap} {locs : List Loc} {ls : Array Slot}
    (hd : decode cc pc = .ok (.lstore n, len)) (hln : len = iln (.lstore n) len) (hrs : rsv o b z pc (.lstore n) = some i) (hstp : stp E i (pc + len) lv st h (fun a b c d => a = pc' ∧ b = lv' ∧ c = st' ∧ d = h') qNo)
    (hRl : Rl B H0 D dA RO sa h H) (hlo : lo_ok B locs) (hl : lvR ls lv) (hnL : lv.length = nL) (hz0 : gE h0 h) (hcap : hZ h' ≤ hZ h0 + R.cells ∧ hU h' ≤ hU h0 + R.slots)
    (K : ∀ H' locs' ls', Rl B H0 D dA RO sa h' H' → lo_ok B locs' → lvR ls' lv' → lv'.length = nL → WG p l e R s m args below meth c Z h0 h' H' locs' pc' ls' st') : WG p l e R s m args below meth c Z h0 h H locs pc ls st := by
  obtain ⟨hx, hb, hml, hown, hts, hgd, hK, hfr, hlcl, hini⟩ := C

  obtain rfl : len = 2 := hln
  cases hrs
  obtain ⟨y, r, rfl, hs⟩ := pL_inv hstp
  obtain ⟨hn, rfl, rfl, rfl, rfl⟩ := hs
  exact lv_lstore hx hb hd hl hn rfl (fun ls' hl' => K _ _ _ hRl hlo (lvR.t2 (ls := ls) hl') (((t2_len _ _ _).trans hnL)))
set_option maxHeartbeats 1000000 in
theorem sn_lstore_n (C : Cx B H0 D dA RO sa p R s m args meth c cc nL o b z Ts) {E : mE} {n : Fin 4} {i : Instr} {pc len : Nat} {lv lv' : mL} {st st' : List Value} {h h' : mH} {pc' : Nat} {H : Heap} {locs : List Loc} {ls : Array Slot}
    (hd : decode cc pc = .ok (.lstore_n n, len)) (hln : len = iln (.lstore_n n) len) (hrs : rsv o b z pc (.lstore_n n) = some i) (hstp : stp E i (pc + len) lv st h (fun a b c d => a = pc' ∧ b = lv' ∧ c = st' ∧ d = h') qNo)
    (hRl : Rl B H0 D dA RO sa h H) (hlo : lo_ok B locs) (hl : lvR ls lv) (hnL : lv.length = nL) (hz0 : gE h0 h) (hcap : hZ h' ≤ hZ h0 + R.cells ∧ hU h' ≤ hU h0 + R.slots)
    (K : ∀ H' locs' ls', Rl B H0 D dA RO sa h' H' → lo_ok B locs' → lvR ls' lv' → lv'.length = nL → WG p l e R s m args below meth c Z h0 h' H' locs' pc' ls' st') : WG p l e R s m args below meth c Z h0 h H locs pc ls st := by
  obtain ⟨hx, hb, hml, hown, hts, hgd, hK, hfr, hlcl, hini⟩ := C

  obtain rfl : len = 1 := hln
  cases hrs
  obtain ⟨y, r, rfl, hs⟩ := pL_inv hstp
  obtain ⟨hn, rfl, rfl, rfl, rfl⟩ := hs
  exact lv_lstore_n hx hb hd rfl hl hn rfl (fun ls' hl' => K _ _ _ hRl hlo (lvR.t2 (ls := ls) hl') (((t2_len _ _ _).trans hnL)))
set_option maxHeartbeats 1000000 in
theorem sn_dstore (C : Cx B H0 D dA RO sa p R s m args meth c cc nL o b z Ts) {E : mE} {n : Nat} {i : Instr} {pc len : Nat} {lv lv' : mL} {st st' : List Value} {h h' : mH} {pc' : Nat} {H : Heap} {locs : List Loc} {ls : Array Slot}
    (hd : decode cc pc = .ok (.dstore n, len)) (hln : len = iln (.dstore n) len) (hrs : rsv o b z pc (.dstore n) = some i) (hstp : stp E i (pc + len) lv st h (fun a b c d => a = pc' ∧ b = lv' ∧ c = st' ∧ d = h') qNo)
    (hRl : Rl B H0 D dA RO sa h H) (hlo : lo_ok B locs) (hl : lvR ls lv) (hnL : lv.length = nL) (hz0 : gE h0 h) (hcap : hZ h' ≤ hZ h0 + R.cells ∧ hU h' ≤ hU h0 + R.slots)
    (K : ∀ H' locs' ls', Rl B H0 D dA RO sa h' H' → lo_ok B locs' → lvR ls' lv' → lv'.length = nL → WG p l e R s m args below meth c Z h0 h' H' locs' pc' ls' st') : WG p l e R s m args below meth c Z h0 h H locs pc ls st := by
  obtain ⟨hx, hb, hml, hown, hts, hgd, hK, hfr, hlcl, hini⟩ := C

  obtain rfl : len = 2 := hln
  cases hrs
  obtain ⟨y, r, rfl, hs⟩ := pD_inv hstp
  obtain ⟨hn, rfl, rfl, rfl, rfl⟩ := hs
  exact lv_dstore hx hb hd hl hn rfl (fun ls' hl' => K _ _ _ hRl hlo (lvR.t2 (ls := ls) hl') (((t2_len _ _ _).trans hnL)))
set_option maxHeartbeats 1000000 in
theorem sn_dstore_n (C : Cx B H0 D dA RO sa p R s m args meth c cc nL o b z Ts) {E : mE} {n : Fin 4} {i : Instr} {pc len : Nat} {lv lv' : mL} {st st' : List Value} {h h' : mH} {pc' : Nat} {H : Heap} {locs : List Loc} {ls : Array Slot}
    (hd : decode cc pc = .ok (.dstore_n n, len)) (hln : len = iln (.dstore_n n) len) (hrs : rsv o b z pc (.dstore_n n) = some i) (hstp : stp E i (pc + len) lv st h (fun a b c d => a = pc' ∧ b = lv' ∧ c = st' ∧ d = h') qNo)
    (hRl : Rl B H0 D dA RO sa h H) (hlo : lo_ok B locs) (hl : lvR ls lv) (hnL : lv.length = nL) (hz0 : gE h0 h) (hcap : hZ h' ≤ hZ h0 + R.cells ∧ hU h' ≤ hU h0 + R.slots)
    (K : ∀ H' locs' ls', Rl B H0 D dA RO sa h' H' → lo_ok B locs' → lvR ls' lv' → lv'.length = nL → WG p l e R s m args below meth c Z h0 h' H' locs' pc' ls' st') : WG p l e R s m args below meth c Z h0 h H locs pc ls st := by
  obtain ⟨hx, hb, hml, hown, hts, hgd, hK, hfr, hlcl, hini⟩ := C

  obtain rfl : len = 1 := hln
  cases hrs
  obtain ⟨y, r, rfl, hs⟩ := pD_inv hstp
  obtain ⟨hn, rfl, rfl, rfl, rfl⟩ := hs
  exact lv_dstore_n hx hb hd rfl hl hn rfl (fun ls' hl' => K _ _ _ hRl hlo (lvR.t2 (ls := ls) hl') (((t2_len _ _ _).trans hnL)))
set_option maxHeartbeats 1000000 in
theorem sn_astore (C : Cx B H0 D dA RO sa p R s m args meth c cc nL o b z Ts) {E : mE} {n : Nat} {i : Instr} {pc len : Nat} {lv lv' : mL} {st st' : List Value} {h h' : mH} {pc' : Nat} {H : Heap} {locs : List Loc} {ls : Array Slot}
    (hd : decode cc pc = .ok (.astore n, len)) (hln : len = iln (.astore n) len) (hrs : rsv o b z pc (.astore n) = some i) (hstp : stp E i (pc + len) lv st h (fun a b c d => a = pc' ∧ b = lv' ∧ c = st' ∧ d = h') qNo)
    (hRl : Rl B H0 D dA RO sa h H) (hlo : lo_ok B locs) (hl : lvR ls lv) (hnL : lv.length = nL) (hz0 : gE h0 h) (hcap : hZ h' ≤ hZ h0 + R.cells ∧ hU h' ≤ hU h0 + R.slots)
    (K : ∀ H' locs' ls', Rl B H0 D dA RO sa h' H' → lo_ok B locs' → lvR ls' lv' → lv'.length = nL → WG p l e R s m args below meth c Z h0 h' H' locs' pc' ls' st') : WG p l e R s m args below meth c Z h0 h H locs pc ls st := by
  obtain ⟨hx, hb, hml, hown, hts, hgd, hK, hfr, hlcl, hini⟩ := C

  obtain rfl : len = 2 := hln
  cases hrs
  simp only [stp] at hstp
  obtain ⟨y, r, rfl, hs⟩ := pR_inv hstp
  obtain ⟨hn, rfl, rfl, rfl, rfl⟩ := hs
  cases y with
  | none => exact lv_astoreN hx hb hd hl hn rfl (fun ls' hl' => K _ _ _ hRl hlo (lvR.t1 (ls := ls) hl') ((t1_len _ _ _).trans hnL))
  | some y => exact lv_astore hx hb hd hl hn rfl (fun ls' hl' => K _ _ _ hRl hlo (lvR.t1 (ls := ls) hl') ((t1_len _ _ _).trans hnL))
set_option maxHeartbeats 1000000 in
theorem sn_astore_n (C : Cx B H0 D dA RO sa p R s m args meth c cc nL o b z Ts) {E : mE} {n : Fin 4} {i : Instr} {pc len : Nat} {lv lv' : mL} {st st' : List Value} {h h' : mH} {pc' : Nat} {H : Heap} {locs : List Loc} {ls : Array Slot}
    (hd : decode cc pc = .ok (.astore_n n, len)) (hln : len = iln (.astore_n n) len) (hrs : rsv o b z pc (.astore_n n) = some i) (hstp : stp E i (pc + len) lv st h (fun a b c d => a = pc' ∧ b = lv' ∧ c = st' ∧ d = h') qNo)
    (hRl : Rl B H0 D dA RO sa h H) (hlo : lo_ok B locs) (hl : lvR ls lv) (hnL : lv.length = nL) (hz0 : gE h0 h) (hcap : hZ h' ≤ hZ h0 + R.cells ∧ hU h' ≤ hU h0 + R.slots)
    (K : ∀ H' locs' ls', Rl B H0 D dA RO sa h' H' → lo_ok B locs' → lvR ls' lv' → lv'.length = nL → WG p l e R s m args below meth c Z h0 h' H' locs' pc' ls' st') : WG p l e R s m args below meth c Z h0 h H locs pc ls st := by
  obtain ⟨hx, hb, hml, hown, hts, hgd, hK, hfr, hlcl, hini⟩ := C

  obtain rfl : len = 1 := hln
  cases hrs
  simp only [stp] at hstp
  obtain ⟨y, r, rfl, hs⟩ := pR_inv hstp
  obtain ⟨hn, rfl, rfl, rfl, rfl⟩ := hs
  cases y with
  | none => exact lv_astore_nN hx hb hd rfl hl hn rfl (fun ls' hl' => K _ _ _ hRl hlo (lvR.t1 (ls := ls) hl') ((t1_len _ _ _).trans hnL))
  | some y => exact lv_astore_n hx hb hd rfl hl hn rfl (fun ls' hl' => K _ _ _ hRl hlo (lvR.t1 (ls := ls) hl') ((t1_len _ _ _).trans hnL))
set_option maxHeartbeats 1000000 in
theorem sn_iinc (C : Cx B H0 D dA RO sa p R s m args meth c cc nL o b z Ts) {E : mE} {n : Nat} {k : Int} {i : Instr} {pc len : Nat} {lv lv' : mL} {st st' : List Value} {h h' : mH} {pc' : Nat} {H : Heap} {locs : List Loc} {ls : Array Slot}
    (hd : decode cc pc = .ok (.iinc n k, len)) (hln : len = iln (.iinc n k) len) (hrs : rsv o b z pc (.iinc n k) = some i) (hstp : stp E i (pc + len) lv st h (fun a b c d => a = pc' ∧ b = lv' ∧ c = st' ∧ d = h') qNo)
    (hRl : Rl B H0 D dA RO sa h H) (hlo : lo_ok B locs) (hl : lvR ls lv) (hnL : lv.length = nL) (hz0 : gE h0 h) (hcap : hZ h' ≤ hZ h0 + R.cells ∧ hU h' ≤ hU h0 + R.slots)
    (K : ∀ H' locs' ls', Rl B H0 D dA RO sa h' H' → lo_ok B locs' → lvR ls' lv' → lv'.length = nL → WG p l e R s m args below meth c Z h0 h' H' locs' pc' ls' st') : WG p l e R s m args below meth c Z h0 h H locs pc ls st := by
  obtain ⟨hx, hb, hml, hown, hts, hgd, hK, hfr, hlcl, hini⟩ := C

  obtain rfl : len = 3 := hln
  cases hrs
  obtain ⟨x, hv, rfl, rfl, rfl, rfl⟩ := gI_inv hstp
  obtain ⟨j, hj⟩ := List.getElem?_of_mem (lvl_mem (q := (n, .int x)).mpr hv)
  exact lv_iinc hx hb hd hl (k := j) hj rfl (List.getElem?_eq_some_iff.mp hv).1 rfl (fun ls' hl' => K _ _ _ hRl hlo (lvR.t1 (ls := ls) hl') ((t1_len _ _ _).trans hnL))
set_option maxHeartbeats 1000000 in
theorem sn_dup (C : Cx B H0 D dA RO sa p R s m args meth c cc nL o b z Ts) {E : mE} {i : Instr} {pc len : Nat} {lv lv' : mL} {st st' : List Value} {h h' : mH} {pc' : Nat} {H : Heap} {locs : List Loc} {ls : Array Slot}
    (hd : decode cc pc = .ok (.dup, len)) (hln : len = iln (.dup) len) (hrs : rsv o b z pc (.dup) = some i) (hstp : stp E i (pc + len) lv st h (fun a b c d => a = pc' ∧ b = lv' ∧ c = st' ∧ d = h') qNo)
    (hRl : Rl B H0 D dA RO sa h H) (hlo : lo_ok B locs) (hl : lvR ls lv) (hnL : lv.length = nL) (hz0 : gE h0 h) (hcap : hZ h' ≤ hZ h0 + R.cells ∧ hU h' ≤ hU h0 + R.slots)
    (K : ∀ H' locs' ls', Rl B H0 D dA RO sa h' H' → lo_ok B locs' → lvR ls' lv' → lv'.length = nL → WG p l e R s m args below meth c Z h0 h' H' locs' pc' ls' st') : WG p l e R s m args below meth c Z h0 h H locs pc ls st := by
  obtain ⟨hx, hb, hml, hown, hts, hgd, hK, hfr, hlcl, hini⟩ := C

  obtain rfl : len = 1 := hln
  cases hrs
  match st, hstp with
  | v :: r, hs =>
    obtain ⟨hv, rfl, rfl, rfl, rfl⟩ := hs
    exact lv_dup hx hb hd hv (K _ _ _ hRl hlo hl hnL)
set_option maxHeartbeats 1000000 in
theorem sn_dup2 (C : Cx B H0 D dA RO sa p R s m args meth c cc nL o b z Ts) {E : mE} {i : Instr} {pc len : Nat} {lv lv' : mL} {st st' : List Value} {h h' : mH} {pc' : Nat} {H : Heap} {locs : List Loc} {ls : Array Slot}
    (hd : decode cc pc = .ok (.dup2, len)) (hln : len = iln (.dup2) len) (hrs : rsv o b z pc (.dup2) = some i) (hstp : stp E i (pc + len) lv st h (fun a b c d => a = pc' ∧ b = lv' ∧ c = st' ∧ d = h') qNo)
    (hRl : Rl B H0 D dA RO sa h H) (hlo : lo_ok B locs) (hl : lvR ls lv) (hnL : lv.length = nL) (hz0 : gE h0 h) (hcap : hZ h' ≤ hZ h0 + R.cells ∧ hU h' ≤ hU h0 + R.slots)
    (K : ∀ H' locs' ls', Rl B H0 D dA RO sa h' H' → lo_ok B locs' → lvR ls' lv' → lv'.length = nL → WG p l e R s m args below meth c Z h0 h' H' locs' pc' ls' st') : WG p l e R s m args below meth c Z h0 h H locs pc ls st := by
  obtain ⟨hx, hb, hml, hown, hts, hgd, hK, hfr, hlcl, hini⟩ := C

  obtain rfl : len = 1 := hln
  cases hrs
  match st, hstp with
  | v :: u :: r, hs =>
    obtain ⟨⟨hv, hw⟩, rfl, rfl, rfl, rfl⟩ := hs
    exact lv_dup2_11 hx hb hd hv hw (K _ _ _ hRl hlo hl hnL)
theorem tgt_of {pc : Nat} {t : Int} (h : 0 ≤ (pc : Int) + t) : (pc : Int) + t = (((pc : Int) + t).toNat : Int) := (Int.toNat_of_nonneg h).symm
set_option maxHeartbeats 1000000 in
theorem sn_ifCond (C : Cx B H0 D dA RO sa p R s m args meth c cc nL o b z Ts) {E : mE} {cd : ClassFile.Cond} {t : Int} {i : Instr} {pc len : Nat} {lv lv' : mL} {st st' : List Value} {h h' : mH} {pc' : Nat} {H : Heap} {locs : List Loc} {ls : Array Slot}
    (hd : decode cc pc = .ok (.ifCond cd t, len)) (hln : len = iln (.ifCond cd t) len) (hrs : rsv o b z pc (.ifCond cd t) = some i) (hstp : stp E i (pc + len) lv st h (fun a b c d => a = pc' ∧ b = lv' ∧ c = st' ∧ d = h') qNo)
    (hRl : Rl B H0 D dA RO sa h H) (hlo : lo_ok B locs) (hl : lvR ls lv) (hnL : lv.length = nL) (hz0 : gE h0 h) (hcap : hZ h' ≤ hZ h0 + R.cells ∧ hU h' ≤ hU h0 + R.slots)
    (K : ∀ H' locs' ls', Rl B H0 D dA RO sa h' H' → lo_ok B locs' → lvR ls' lv' → lv'.length = nL → WG p l e R s m args below meth c Z h0 h' H' locs' pc' ls' st') : WG p l e R s m args below meth c Z h0 h H locs pc ls st := by
  obtain ⟨hx, hb, hml, hown, hts, hgd, hK, hfr, hlcl, hini⟩ := C

  obtain rfl : len = 3 := hln
  simp only [rsv] at hrs
  split at hrs
  · rename_i ht
    cases hrs
    obtain ⟨y, r, rfl, hs⟩ := pI_inv hstp
    cases cd with
    | eq => exact lv_if_eq hx hb hd (tgt_of ht) (fun q => by obtain ⟨rfl, rfl, rfl, rfl⟩ := hs.1 q; exact (K _ _ _ hRl hlo hl hnL)) (fun q => by obtain ⟨rfl, rfl, rfl, rfl⟩ := hs.2 q; exact (K _ _ _ hRl hlo hl hnL))
    | ne => exact lv_if_ne hx hb hd (tgt_of ht) (fun q => by obtain ⟨rfl, rfl, rfl, rfl⟩ := hs.1 q; exact (K _ _ _ hRl hlo hl hnL)) (fun q => by obtain ⟨rfl, rfl, rfl, rfl⟩ := hs.2 q; exact (K _ _ _ hRl hlo hl hnL))
    | lt => exact lv_if_lt hx hb hd (tgt_of ht) (fun q => by obtain ⟨rfl, rfl, rfl, rfl⟩ := hs.1 q; exact (K _ _ _ hRl hlo hl hnL)) (fun q => by obtain ⟨rfl, rfl, rfl, rfl⟩ := hs.2 q; exact (K _ _ _ hRl hlo hl hnL))
    | ge => exact lv_if_ge hx hb hd (tgt_of ht) (fun q => by obtain ⟨rfl, rfl, rfl, rfl⟩ := hs.1 q; exact (K _ _ _ hRl hlo hl hnL)) (fun q => by obtain ⟨rfl, rfl, rfl, rfl⟩ := hs.2 q; exact (K _ _ _ hRl hlo hl hnL))
    | gt => exact lv_if_gt hx hb hd (tgt_of ht) (fun q => by obtain ⟨rfl, rfl, rfl, rfl⟩ := hs.1 q; exact (K _ _ _ hRl hlo hl hnL)) (fun q => by obtain ⟨rfl, rfl, rfl, rfl⟩ := hs.2 q; exact (K _ _ _ hRl hlo hl hnL))
    | le => exact lv_if_le hx hb hd (tgt_of ht) (fun q => by obtain ⟨rfl, rfl, rfl, rfl⟩ := hs.1 q; exact (K _ _ _ hRl hlo hl hnL)) (fun q => by obtain ⟨rfl, rfl, rfl, rfl⟩ := hs.2 q; exact (K _ _ _ hRl hlo hl hnL))
  · cases hrs
set_option maxHeartbeats 1000000 in
theorem sn_if_icmp (C : Cx B H0 D dA RO sa p R s m args meth c cc nL o b z Ts) {E : mE} {cd : ClassFile.Cond} {t : Int} {i : Instr} {pc len : Nat} {lv lv' : mL} {st st' : List Value} {h h' : mH} {pc' : Nat} {H : Heap} {locs : List Loc} {ls : Array Slot}
    (hd : decode cc pc = .ok (.if_icmp cd t, len)) (hln : len = iln (.if_icmp cd t) len) (hrs : rsv o b z pc (.if_icmp cd t) = some i) (hstp : stp E i (pc + len) lv st h (fun a b c d => a = pc' ∧ b = lv' ∧ c = st' ∧ d = h') qNo)
    (hRl : Rl B H0 D dA RO sa h H) (hlo : lo_ok B locs) (hl : lvR ls lv) (hnL : lv.length = nL) (hz0 : gE h0 h) (hcap : hZ h' ≤ hZ h0 + R.cells ∧ hU h' ≤ hU h0 + R.slots)
    (K : ∀ H' locs' ls', Rl B H0 D dA RO sa h' H' → lo_ok B locs' → lvR ls' lv' → lv'.length = nL → WG p l e R s m args below meth c Z h0 h' H' locs' pc' ls' st') : WG p l e R s m args below meth c Z h0 h H locs pc ls st := by
  obtain ⟨hx, hb, hml, hown, hts, hgd, hK, hfr, hlcl, hini⟩ := C

  obtain rfl : len = 3 := hln
  simp only [rsv] at hrs
  split at hrs
  · rename_i ht
    cases hrs
    obtain ⟨y, r, rfl, hs⟩ := pI_inv hstp
    obtain ⟨x, r, rfl, hs⟩ := pI_inv hs
    cases cd with
    | eq => exact lv_icmp_eq hx hb hd (tgt_of ht) (fun q => by obtain ⟨rfl, rfl, rfl, rfl⟩ := hs.1 q; exact (K _ _ _ hRl hlo hl hnL)) (fun q => by obtain ⟨rfl, rfl, rfl, rfl⟩ := hs.2 q; exact (K _ _ _ hRl hlo hl hnL))
    | ne => exact lv_icmp_ne hx hb hd (tgt_of ht) (fun q => by obtain ⟨rfl, rfl, rfl, rfl⟩ := hs.1 q; exact (K _ _ _ hRl hlo hl hnL)) (fun q => by obtain ⟨rfl, rfl, rfl, rfl⟩ := hs.2 q; exact (K _ _ _ hRl hlo hl hnL))
    | lt => exact lv_icmp_lt hx hb hd (tgt_of ht) (fun q => by obtain ⟨rfl, rfl, rfl, rfl⟩ := hs.1 q; exact (K _ _ _ hRl hlo hl hnL)) (fun q => by obtain ⟨rfl, rfl, rfl, rfl⟩ := hs.2 q; exact (K _ _ _ hRl hlo hl hnL))
    | ge => exact lv_icmp_ge hx hb hd (tgt_of ht) (fun q => by obtain ⟨rfl, rfl, rfl, rfl⟩ := hs.1 q; exact (K _ _ _ hRl hlo hl hnL)) (fun q => by obtain ⟨rfl, rfl, rfl, rfl⟩ := hs.2 q; exact (K _ _ _ hRl hlo hl hnL))
    | gt => exact lv_icmp_gt hx hb hd (tgt_of ht) (fun q => by obtain ⟨rfl, rfl, rfl, rfl⟩ := hs.1 q; exact (K _ _ _ hRl hlo hl hnL)) (fun q => by obtain ⟨rfl, rfl, rfl, rfl⟩ := hs.2 q; exact (K _ _ _ hRl hlo hl hnL))
    | le => exact lv_icmp_le hx hb hd (tgt_of ht) (fun q => by obtain ⟨rfl, rfl, rfl, rfl⟩ := hs.1 q; exact (K _ _ _ hRl hlo hl hnL)) (fun q => by obtain ⟨rfl, rfl, rfl, rfl⟩ := hs.2 q; exact (K _ _ _ hRl hlo hl hnL))
  · cases hrs
set_option maxHeartbeats 1000000 in
theorem sn_if_acmp (C : Cx B H0 D dA RO sa p R s m args meth c cc nL o b z Ts) {E : mE} {cd : ACond} {t : Int} {i : Instr} {pc len : Nat} {lv lv' : mL} {st st' : List Value} {h h' : mH} {pc' : Nat} {H : Heap} {locs : List Loc} {ls : Array Slot}
    (hd : decode cc pc = .ok (.if_acmp cd t, len)) (hln : len = iln (.if_acmp cd t) len) (hrs : rsv o b z pc (.if_acmp cd t) = some i) (hstp : stp E i (pc + len) lv st h (fun a b c d => a = pc' ∧ b = lv' ∧ c = st' ∧ d = h') qNo)
    (hRl : Rl B H0 D dA RO sa h H) (hlo : lo_ok B locs) (hl : lvR ls lv) (hnL : lv.length = nL) (hz0 : gE h0 h) (hcap : hZ h' ≤ hZ h0 + R.cells ∧ hU h' ≤ hU h0 + R.slots)
    (K : ∀ H' locs' ls', Rl B H0 D dA RO sa h' H' → lo_ok B locs' → lvR ls' lv' → lv'.length = nL → WG p l e R s m args below meth c Z h0 h' H' locs' pc' ls' st') : WG p l e R s m args below meth c Z h0 h H locs pc ls st := by
  obtain ⟨hx, hb, hml, hown, hts, hgd, hK, hfr, hlcl, hini⟩ := C

  obtain rfl : len = 3 := hln
  simp only [rsv] at hrs
  split at hrs
  · rename_i ht
    cases hrs
    obtain ⟨y, r, rfl, hs⟩ := pR_inv (k := fun y r => pR r fun x r => brA cd x y (((pc : Int) + t).toNat = pc' ∧ lv = lv' ∧ r = st' ∧ h = h') (pc + 3 = pc' ∧ lv = lv' ∧ r = st' ∧ h = h')) hstp
    obtain ⟨x, r2, e2, hs2⟩ := pR_inv (k := fun x r => brA cd x y (((pc : Int) + t).toNat = pc' ∧ lv = lv' ∧ r = st' ∧ h = h') (pc + 3 = pc' ∧ lv = lv' ∧ r = st' ∧ h = h')) hs
    subst e2
    cases cd with
    | eq => exact lv_acmp_eq hx hb hd (tgt_of ht) (fun q => by obtain ⟨rfl, rfl, rfl, rfl⟩ := hs2.1 q; exact (K _ _ _ hRl hlo hl hnL)) (fun q => by obtain ⟨rfl, rfl, rfl, rfl⟩ := hs2.2 q; exact (K _ _ _ hRl hlo hl hnL))
    | ne => exact lv_acmp_ne hx hb hd (tgt_of ht) (fun q => by obtain ⟨rfl, rfl, rfl, rfl⟩ := hs2.1 q; exact (K _ _ _ hRl hlo hl hnL)) (fun q => by obtain ⟨rfl, rfl, rfl, rfl⟩ := hs2.2 q; exact (K _ _ _ hRl hlo hl hnL))
  · cases hrs
set_option maxHeartbeats 1000000 in
theorem sn_ifnull (C : Cx B H0 D dA RO sa p R s m args meth c cc nL o b z Ts) {E : mE} {t : Int} {i : Instr} {pc len : Nat} {lv lv' : mL} {st st' : List Value} {h h' : mH} {pc' : Nat} {H : Heap} {locs : List Loc} {ls : Array Slot}
    (hd : decode cc pc = .ok (.ifnull t, len)) (hln : len = iln (.ifnull t) len) (hrs : rsv o b z pc (.ifnull t) = some i) (hstp : stp E i (pc + len) lv st h (fun a b c d => a = pc' ∧ b = lv' ∧ c = st' ∧ d = h') qNo)
    (hRl : Rl B H0 D dA RO sa h H) (hlo : lo_ok B locs) (hl : lvR ls lv) (hnL : lv.length = nL) (hz0 : gE h0 h) (hcap : hZ h' ≤ hZ h0 + R.cells ∧ hU h' ≤ hU h0 + R.slots)
    (K : ∀ H' locs' ls', Rl B H0 D dA RO sa h' H' → lo_ok B locs' → lvR ls' lv' → lv'.length = nL → WG p l e R s m args below meth c Z h0 h' H' locs' pc' ls' st') : WG p l e R s m args below meth c Z h0 h H locs pc ls st := by
  obtain ⟨hx, hb, hml, hown, hts, hgd, hK, hfr, hlcl, hini⟩ := C

  obtain rfl : len = 3 := hln
  simp only [rsv] at hrs
  split at hrs
  · rename_i ht
    cases hrs
    simp only [stp] at hstp
    obtain ⟨y, r, rfl, hs⟩ := pR_inv hstp
    cases y with
    | none => obtain ⟨rfl, rfl, rfl, rfl⟩ := hs.1 rfl; exact lv_ifnullN hx hb hd (tgt_of ht) (K _ _ _ hRl hlo hl hnL)
    | some y => obtain ⟨rfl, rfl, rfl, rfl⟩ := hs.2 (fun q => by cases q); exact lv_ifnull hx hb hd (K _ _ _ hRl hlo hl hnL)
  · cases hrs
set_option maxHeartbeats 1000000 in
theorem sn_ifnonnull (C : Cx B H0 D dA RO sa p R s m args meth c cc nL o b z Ts) {E : mE} {t : Int} {i : Instr} {pc len : Nat} {lv lv' : mL} {st st' : List Value} {h h' : mH} {pc' : Nat} {H : Heap} {locs : List Loc} {ls : Array Slot}
    (hd : decode cc pc = .ok (.ifnonnull t, len)) (hln : len = iln (.ifnonnull t) len) (hrs : rsv o b z pc (.ifnonnull t) = some i) (hstp : stp E i (pc + len) lv st h (fun a b c d => a = pc' ∧ b = lv' ∧ c = st' ∧ d = h') qNo)
    (hRl : Rl B H0 D dA RO sa h H) (hlo : lo_ok B locs) (hl : lvR ls lv) (hnL : lv.length = nL) (hz0 : gE h0 h) (hcap : hZ h' ≤ hZ h0 + R.cells ∧ hU h' ≤ hU h0 + R.slots)
    (K : ∀ H' locs' ls', Rl B H0 D dA RO sa h' H' → lo_ok B locs' → lvR ls' lv' → lv'.length = nL → WG p l e R s m args below meth c Z h0 h' H' locs' pc' ls' st') : WG p l e R s m args below meth c Z h0 h H locs pc ls st := by
  obtain ⟨hx, hb, hml, hown, hts, hgd, hK, hfr, hlcl, hini⟩ := C

  obtain rfl : len = 3 := hln
  simp only [rsv] at hrs
  split at hrs
  · rename_i ht
    cases hrs
    simp only [stp] at hstp
    obtain ⟨y, r, rfl, hs⟩ := pR_inv hstp
    cases y with
    | none => obtain ⟨rfl, rfl, rfl, rfl⟩ := hs.2 rfl; exact lv_ifnonnullN hx hb hd (K _ _ _ hRl hlo hl hnL)
    | some y => obtain ⟨rfl, rfl, rfl, rfl⟩ := hs.1 (fun q => by cases q); exact lv_ifnonnull hx hb hd (tgt_of ht) (K _ _ _ hRl hlo hl hnL)
  · cases hrs
set_option maxHeartbeats 1000000 in
theorem sn_goto (C : Cx B H0 D dA RO sa p R s m args meth c cc nL o b z Ts) {E : mE} {t : Int} {i : Instr} {pc len : Nat} {lv lv' : mL} {st st' : List Value} {h h' : mH} {pc' : Nat} {H : Heap} {locs : List Loc} {ls : Array Slot}
    (hd : decode cc pc = .ok (.goto t, len)) (hln : len = iln (.goto t) len) (hrs : rsv o b z pc (.goto t) = some i) (hstp : stp E i (pc + len) lv st h (fun a b c d => a = pc' ∧ b = lv' ∧ c = st' ∧ d = h') qNo)
    (hRl : Rl B H0 D dA RO sa h H) (hlo : lo_ok B locs) (hl : lvR ls lv) (hnL : lv.length = nL) (hz0 : gE h0 h) (hcap : hZ h' ≤ hZ h0 + R.cells ∧ hU h' ≤ hU h0 + R.slots)
    (K : ∀ H' locs' ls', Rl B H0 D dA RO sa h' H' → lo_ok B locs' → lvR ls' lv' → lv'.length = nL → WG p l e R s m args below meth c Z h0 h' H' locs' pc' ls' st') : WG p l e R s m args below meth c Z h0 h H locs pc ls st := by
  obtain ⟨hx, hb, hml, hown, hts, hgd, hK, hfr, hlcl, hini⟩ := C

  obtain rfl : len = 3 := hln
  simp only [rsv] at hrs
  split at hrs
  · rename_i ht
    cases hrs
    obtain ⟨rfl, rfl, rfl, rfl⟩ := hstp
    exact lv_goto hx hb hd (tgt_of ht) (K _ _ _ hRl hlo hl hnL)
  · cases hrs
set_option maxHeartbeats 1000000 in
theorem sn_tableswitch (C : Cx B H0 D dA RO sa p R s m args meth c cc nL o b z Ts) {E : mE} {dd ll hh : Int} {os : Array Int} {i : Instr} {pc len : Nat} {lv lv' : mL} {st st' : List Value} {h h' : mH} {pc' : Nat} {H : Heap} {locs : List Loc} {ls : Array Slot}
    (hd : decode cc pc = .ok (.tableswitch dd ll hh os, len)) (hln : len = iln (.tableswitch dd ll hh os) len) (hrs : rsv o b z pc (.tableswitch dd ll hh os) = some i) (hstp : stp E i (pc + len) lv st h (fun a b c d => a = pc' ∧ b = lv' ∧ c = st' ∧ d = h') qNo)
    (hRl : Rl B H0 D dA RO sa h H) (hlo : lo_ok B locs) (hl : lvR ls lv) (hnL : lv.length = nL) (hz0 : gE h0 h) (hcap : hZ h' ≤ hZ h0 + R.cells ∧ hU h' ≤ hU h0 + R.slots)
    (K : ∀ H' locs' ls', Rl B H0 D dA RO sa h' H' → lo_ok B locs' → lvR ls' lv' → lv'.length = nL → WG p l e R s m args below meth c Z h0 h' H' locs' pc' ls' st') : WG p l e R s m args below meth c Z h0 h H locs pc ls st := by
  obtain ⟨hx, hb, hml, hown, hts, hgd, hK, hfr, hlcl, hini⟩ := C

  simp only [rsv] at hrs
  split at hrs
  · rename_i ht
    obtain ⟨ht1, ht2, ht3⟩ := ht
    cases hrs
    obtain ⟨x, r, rfl, hs⟩ := pI_inv hstp
    by_cases q : x.toInt < ll ∨ hh < x.toInt
    · obtain ⟨rfl, rfl, rfl, rfl⟩ := hs.1 q
      exact lv_tableOut hx hb hd q (tgt_of ht1) (K _ _ _ hRl hlo hl hnL)
    · obtain ⟨rfl, rfl, rfl, rfl⟩ := hs.2 q
      have q1 : ¬ x.toInt < ll := fun z => q (.inl z)
      have q2 : ¬ hh < x.toInt := fun z => q (.inr z)
      have hlt : (x.toInt - ll).toNat < os.size := by omega
      have e1 : os[(x.toInt - ll).toNat]? = some os[(x.toInt - ll).toNat] := Array.getElem?_eq_getElem hlt
      have e2 : (os.map fun t => (pc : Int) + t).getD (x.toInt - ll).toNat 0 = (pc : Int) + os[(x.toInt - ll).toNat] := by
        rw [Array.getD_eq_getD_getElem?, Array.getElem?_map, e1]; rfl
      have e3 : 0 ≤ (pc : Int) + os[(x.toInt - ll).toNat] := by
        have := List.all_eq_true.mp ht2 os[(x.toInt - ll).toNat] (by simp)
        simpa using this
      rw [e2] at K
      exact lv_tableIn hx hb hd q1 q2 e1 (tgt_of e3) (K _ _ _ hRl hlo hl hnL)
  · cases hrs
end SN
