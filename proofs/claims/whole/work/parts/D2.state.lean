/-! ===== run: the change of state, both sides; printed ===== -/
def dgeB (x y : UInt64) : Bool := decide (FP.dcmp x y = some .gt ∨ FP.dcmp x y = some .eq)
def dgtB (x y : UInt64) : Bool := decide (FP.dcmp x y = some .gt)
def dltB (x y : UInt64) : Bool := decide (FP.dcmp x y = some .lt)
/-- the state that follows: bl where no sensor speaks -/
def gSt (s : Nat) (bl : Bool) (w u b : UInt64) : Nat := match s with
  | 0 => if bl = false ∧ dgeB w 4616189618054758400 = true ∧ dgtB b 0 = true then 1 else 0
  | 1 => if bl = true ∨ dgtB u 4625196817309499392 = true then 3 else if dgeB u 4618441417868443648 = true then 2 else 1
  | 2 => if bl = true ∨ dgtB u 4625196817309499392 = true then 3 else 2
  | _ => if dltB u 4602678819172646912 = true then 0 else 3
/-- only one int may have changed, and is v -/
def SI1 (h h' : mH) (a j : Nat) (v : Int32) : Prop := (hT h' = hT h ∧ hN h' = hN h ∧ hZ h' = hZ h ∧ hU h' = hU h) ∧ hL h' = hL h ∧ hD h' = hD h ∧ hR h' = hR h ∧ (∀ a' j', ¬ (a' = a ∧ j' = j) → hI h' a' j' = hI h a' j') ∧ hI h' a j = v
theorem SI1.rf {h : mH} {a j : Nat} {v : Int32} (e : hI h a j = v) : SI1 h h a j v := ⟨⟨rfl, rfl, rfl, rfl⟩, rfl, rfl, rfl, fun _ _ _ => rfl, e⟩
theorem SI1.st {h : mH} {a j : Nat} {v : Int32} : SI1 h (sI h a j v) a j v := ⟨⟨rfl, rfl, rfl, rfl⟩, rfl, rfl, rfl, fun _ _ c => by rw [hI_sI, if_neg c], I_eq⟩
theorem dge_B {x y : UInt64} : dge x y ↔ dgeB x y = true := by unfold dge dgeB; simp
theorem dgt_B {x y : UInt64} : dgt x y ↔ dgtB x y = true := by unfold dgt dgtB; simp
theorem dlt_B {x y : UInt64} : dlt x y ↔ dltB x y = true := by unfold dlt dltB; simp
theorem dge_N {x y : UInt64} (c : ¬ dge x y) : dgeB x y = false := by rw [dge_B] at c; simpa using c
theorem dgt_N {x y : UInt64} (c : ¬ dgt x y) : dgtB x y = false := by rw [dgt_B] at c; simpa using c
theorem dlt_N {x y : UInt64} (c : ¬ dlt x y) : dltB x y = false := by rw [dlt_B] at c; simpa using c
section CG
variable {n : Nat} {ad sa : Nat → Nat} {z0 : Nat} {h : mH} {Q : mQ} {d t : Nat} {w u b : UInt64} {bl : Bool}
theorem c_st0 (fx : FX n ad sa z0 h) (ht : t < n) {vo : Int64} (ev : bl = true ↔ vo = 9221120237041090560) (e10 : hI h (ad (100 + 5 * t)) 10 = 0) (e11 : hL h (ad (100 + 5 * t)) 11 = vo) (e12 : hD h (ad (100 + 5 * t)) 12 = w) (e15 : hD h (ad (100 + 5 * t)) 15 = u) (e17 : hD h (ad (100 + 5 * t)) 17 = b) (hQ : ∀ h', SI1 h h' (ad (100 + 5 * t)) 10 (nI (gSt 0 bl w u b)) → Q none h') : EV (d + 2) 135 [.ref (ad (100 + 5 * t))] h Q := by
  have bt : vo = 9221120237041090560 → bl = true := ev.mpr
  have bf : ¬ vo = 9221120237041090560 → bl = false := fun z => by
    cases e : bl with
    | false => rfl
    | true => exact absurd (ev.mp e) z
  exact w_cs0 (d := d) fx ht (fx_k fx).2 (fx_tb fx t ht).2.1 e10 e11 e12 e15 e17
    (fun c0 c1 => hQ _ (by
    have k : gSt 0 bl w u b = 0 := by unfold gSt; simp [bf c0, dge_N c1]
    rw [k]; exact SI1.rf e10))
    (fun c0 c1 c2 => hQ _ (by
    have k : gSt 0 bl w u b = 0 := by unfold gSt; simp [bf c0, dge_B.mp c1, dgt_N c2]
    rw [k]; exact SI1.rf e10))
    (fun c0 c1 c2 => hQ _ (by
    have k : gSt 0 bl w u b = 1 := by unfold gSt; simp [bf c0, dge_B.mp c1, dgt_B.mp c2]
    rw [k]; exact SI1.st))
    (fun c0 => hQ _ (by
    have k : gSt 0 bl w u b = 0 := by unfold gSt; simp [bt c0]
    rw [k]; exact SI1.rf e10))
theorem c_st1 (fx : FX n ad sa z0 h) (ht : t < n) {vo : Int64} (ev : bl = true ↔ vo = 9221120237041090560) (e10 : hI h (ad (100 + 5 * t)) 10 = 1) (e11 : hL h (ad (100 + 5 * t)) 11 = vo) (e12 : hD h (ad (100 + 5 * t)) 12 = w) (e15 : hD h (ad (100 + 5 * t)) 15 = u) (e17 : hD h (ad (100 + 5 * t)) 17 = b) (hQ : ∀ h', SI1 h h' (ad (100 + 5 * t)) 10 (nI (gSt 1 bl w u b)) → Q none h') : EV (d + 2) 135 [.ref (ad (100 + 5 * t))] h Q := by
  have bt : vo = 9221120237041090560 → bl = true := ev.mpr
  have bf : ¬ vo = 9221120237041090560 → bl = false := fun z => by
    cases e : bl with
    | false => rfl
    | true => exact absurd (ev.mp e) z
  exact w_cs1 (d := d) fx ht (fx_k fx).2 (fx_tb fx t ht).2.1 e10 e11 e12 e15 e17
    (fun c0 c1 c2 => hQ _ (by
    have k : gSt 1 bl w u b = 1 := by unfold gSt; simp [bf c0, dgt_N c1, dge_N c2]
    rw [k]; exact SI1.rf e10))
    (fun c0 c1 c2 => hQ _ (by
    have k : gSt 1 bl w u b = 2 := by unfold gSt; simp [bf c0, dgt_N c1, dge_B.mp c2]
    rw [k]; exact SI1.st))
    (fun c0 c1 => hQ _ (by
    have k : gSt 1 bl w u b = 3 := by unfold gSt; simp [bf c0, dgt_B.mp c1]
    rw [k]; exact SI1.st))
    (fun c0 => hQ _ (by
    have k : gSt 1 bl w u b = 3 := by unfold gSt; simp [bt c0]
    rw [k]; exact SI1.st))
theorem c_st2 (fx : FX n ad sa z0 h) (ht : t < n) {vo : Int64} (ev : bl = true ↔ vo = 9221120237041090560) (e10 : hI h (ad (100 + 5 * t)) 10 = 2) (e11 : hL h (ad (100 + 5 * t)) 11 = vo) (e12 : hD h (ad (100 + 5 * t)) 12 = w) (e15 : hD h (ad (100 + 5 * t)) 15 = u) (e17 : hD h (ad (100 + 5 * t)) 17 = b) (hQ : ∀ h', SI1 h h' (ad (100 + 5 * t)) 10 (nI (gSt 2 bl w u b)) → Q none h') : EV (d + 2) 135 [.ref (ad (100 + 5 * t))] h Q := by
  have bt : vo = 9221120237041090560 → bl = true := ev.mpr
  have bf : ¬ vo = 9221120237041090560 → bl = false := fun z => by
    cases e : bl with
    | false => rfl
    | true => exact absurd (ev.mp e) z
  exact w_cs2 (d := d) fx ht (fx_k fx).2 (fx_tb fx t ht).2.1 e10 e11 e12 e15 e17
    (fun c0 c1 => hQ _ (by
    have k : gSt 2 bl w u b = 2 := by unfold gSt; simp [bf c0, dgt_N c1]
    rw [k]; exact SI1.rf e10))
    (fun c0 c1 => hQ _ (by
    have k : gSt 2 bl w u b = 3 := by unfold gSt; simp [bf c0, dgt_B.mp c1]
    rw [k]; exact SI1.st))
    (fun c0 => hQ _ (by
    have k : gSt 2 bl w u b = 3 := by unfold gSt; simp [bt c0]
    rw [k]; exact SI1.st))
theorem c_st3 (fx : FX n ad sa z0 h) (ht : t < n) {vo : Int64} (ev : bl = true ↔ vo = 9221120237041090560) (e10 : hI h (ad (100 + 5 * t)) 10 = 3) (e11 : hL h (ad (100 + 5 * t)) 11 = vo) (e12 : hD h (ad (100 + 5 * t)) 12 = w) (e15 : hD h (ad (100 + 5 * t)) 15 = u) (e17 : hD h (ad (100 + 5 * t)) 17 = b) (hQ : ∀ h', SI1 h h' (ad (100 + 5 * t)) 10 (nI (gSt 3 bl w u b)) → Q none h') : EV (d + 2) 135 [.ref (ad (100 + 5 * t))] h Q := by
  have bt : vo = 9221120237041090560 → bl = true := ev.mpr
  have bf : ¬ vo = 9221120237041090560 → bl = false := fun z => by
    cases e : bl with
    | false => rfl
    | true => exact absurd (ev.mp e) z
  exact w_cs3 (d := d + 1) fx ht (fx_k fx).2 (fx_tb fx t ht).2.1 e10 e11 e12 e15 e17
    (fun c0 => hQ _ (by
    have k : gSt 3 bl w u b = 3 := by unfold gSt; simp [dlt_N c0]
    rw [k]; exact SI1.rf e10))
    (fun c0 => hQ _ (by
    have k : gSt 3 bl w u b = 0 := by unfold gSt; simp [dlt_B.mp c0]
    rw [k]; exact SI1.st))
theorem m_st0 (fx : FX n ad sa z0 h) (t6 : t < 6) {vo : UInt64} (ev : bl = true ↔ ¬ deq vo vo) (e10 : hI h (ad 66) t = 0) (e72 : hD h (ad 72) t = vo) (e73 : hD h (ad 73) t = w) (e69 : hD h (ad 69) t = u) (e71 : hD h (ad 71) t = b) (hQ : ∀ h', SI1 h h' (ad 66) t (nI (gSt 0 bl w u b)) → Q none h') : EV (d + 1) 240 [.ref (ad 30), .int (nI t)] h Q := by
  have bt : ¬ deq vo vo → bl = true := ev.mpr
  have bf : ¬ ¬ deq vo vo → bl = false := fun z => by
    cases e : bl with
    | false => rfl
    | true => exact absurd (ev.mp e) z
  exact w_nst0 (d := d) fx t6 e10 e72 e73 e69 e71
    (fun c0 c1 => hQ _ (by
    have k : gSt 0 bl w u b = 0 := by unfold gSt; simp [bf (fun z => z c0), dge_N c1]
    rw [k]; exact SI1.rf e10))
    (fun c0 c1 c2 => hQ _ (by
    have k : gSt 0 bl w u b = 0 := by unfold gSt; simp [bf (fun z => z c0), dge_B.mp c1, dgt_N c2]
    rw [k]; exact SI1.rf e10))
    (fun c0 c1 c2 => hQ _ (by
    have k : gSt 0 bl w u b = 1 := by unfold gSt; simp [bf (fun z => z c0), dge_B.mp c1, dgt_B.mp c2]
    rw [k]; exact SI1.st))
    (fun c0 => hQ _ (by
    have k : gSt 0 bl w u b = 0 := by unfold gSt; simp [bt c0]
    rw [k]; exact SI1.rf e10))
theorem m_st1 (fx : FX n ad sa z0 h) (t6 : t < 6) {vo : UInt64} (ev : bl = true ↔ ¬ deq vo vo) (e10 : hI h (ad 66) t = 1) (e72 : hD h (ad 72) t = vo) (e73 : hD h (ad 73) t = w) (e69 : hD h (ad 69) t = u) (e71 : hD h (ad 71) t = b) (hQ : ∀ h', SI1 h h' (ad 66) t (nI (gSt 1 bl w u b)) → Q none h') : EV (d + 1) 240 [.ref (ad 30), .int (nI t)] h Q := by
  have bt : ¬ deq vo vo → bl = true := ev.mpr
  have bf : ¬ ¬ deq vo vo → bl = false := fun z => by
    cases e : bl with
    | false => rfl
    | true => exact absurd (ev.mp e) z
  exact w_nst1 (d := d) fx t6 e10 e72 e73 e69 e71
    (fun c0 c1 c2 => hQ _ (by
    have k : gSt 1 bl w u b = 1 := by unfold gSt; simp [bf (fun z => z c0), dgt_N c1, dge_N c2]
    rw [k]; exact SI1.rf e10))
    (fun c0 c1 c2 => hQ _ (by
    have k : gSt 1 bl w u b = 2 := by unfold gSt; simp [bf (fun z => z c0), dgt_N c1, dge_B.mp c2]
    rw [k]; exact SI1.st))
    (fun c0 c1 => hQ _ (by
    have k : gSt 1 bl w u b = 3 := by unfold gSt; simp [bf (fun z => z c0), dgt_B.mp c1]
    rw [k]; exact SI1.st))
    (fun c0 => hQ _ (by
    have k : gSt 1 bl w u b = 3 := by unfold gSt; simp [bt c0]
    rw [k]; exact SI1.st))
theorem m_st2 (fx : FX n ad sa z0 h) (t6 : t < 6) {vo : UInt64} (ev : bl = true ↔ ¬ deq vo vo) (e10 : hI h (ad 66) t = 2) (e72 : hD h (ad 72) t = vo) (e73 : hD h (ad 73) t = w) (e69 : hD h (ad 69) t = u) (e71 : hD h (ad 71) t = b) (hQ : ∀ h', SI1 h h' (ad 66) t (nI (gSt 2 bl w u b)) → Q none h') : EV (d + 1) 240 [.ref (ad 30), .int (nI t)] h Q := by
  have bt : ¬ deq vo vo → bl = true := ev.mpr
  have bf : ¬ ¬ deq vo vo → bl = false := fun z => by
    cases e : bl with
    | false => rfl
    | true => exact absurd (ev.mp e) z
  exact w_nst2 (d := d) fx t6 e10 e72 e73 e69 e71
    (fun c0 c1 => hQ _ (by
    have k : gSt 2 bl w u b = 2 := by unfold gSt; simp [bf (fun z => z c0), dgt_N c1]
    rw [k]; exact SI1.rf e10))
    (fun c0 c1 => hQ _ (by
    have k : gSt 2 bl w u b = 3 := by unfold gSt; simp [bf (fun z => z c0), dgt_B.mp c1]
    rw [k]; exact SI1.st))
    (fun c0 => hQ _ (by
    have k : gSt 2 bl w u b = 3 := by unfold gSt; simp [bt c0]
    rw [k]; exact SI1.st))
theorem m_st3 (fx : FX n ad sa z0 h) (t6 : t < 6) {vo : UInt64} (ev : bl = true ↔ ¬ deq vo vo) (e10 : hI h (ad 66) t = 3) (e72 : hD h (ad 72) t = vo) (e73 : hD h (ad 73) t = w) (e69 : hD h (ad 69) t = u) (e71 : hD h (ad 71) t = b) (hQ : ∀ h', SI1 h h' (ad 66) t (nI (gSt 3 bl w u b)) → Q none h') : EV (d + 1) 240 [.ref (ad 30), .int (nI t)] h Q := by
  have bt : ¬ deq vo vo → bl = true := ev.mpr
  have bf : ¬ ¬ deq vo vo → bl = false := fun z => by
    cases e : bl with
    | false => rfl
    | true => exact absurd (ev.mp e) z
  exact w_nst3 (d := d) fx t6 e10 e72 e73 e69 e71
    (fun c0 c1 => hQ _ (by
    have k : gSt 3 bl w u b = 3 := by unfold gSt; simp [bf (fun z => z c0), dlt_N c1]
    rw [k]; exact SI1.rf e10))
    (fun c0 c1 => hQ _ (by
    have k : gSt 3 bl w u b = 0 := by unfold gSt; simp [bf (fun z => z c0), dlt_B.mp c1]
    rw [k]; exact SI1.st))
    (fun c0 c1 => hQ _ (by
    have k : gSt 3 bl w u b = 3 := by unfold gSt; simp [bt c0, dlt_N c1]
    rw [k]; exact SI1.rf e10))
    (fun c0 c1 => hQ _ (by
    have k : gSt 3 bl w u b = 0 := by unfold gSt; simp [bt c0, dlt_B.mp c1]
    rw [k]; exact SI1.st))
end CG
