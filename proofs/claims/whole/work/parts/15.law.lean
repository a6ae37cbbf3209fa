/-! THE CLAIM OUT OF ONE WALK OF THE LAW'S BODY. Your part is whole_start (and what it stands on); all else here is the same for every law, but numbers. -/
def R_law : String := "WindParkLaw"
def lw_P (b : Addr) (xs : List Int32) (args : Array Value) (s : State) : Prop := args = #[.ref b] ∧ s.IntsAt b xs ∧ xs.length ≤ 3073 ∧ (Jvm.Cond.and given_1 narrow_1).before args s = true
/-- what a walk over the start with the record d0 says of its end, said of the start itself -/
theorem lw_closed {s t : State} {o : Outcome} {d0 : Drawn} {L : List Loc} {k n : Nat} (hd0 : s.drawn.sameBut d0 lw_cs) (hv : ∃ v, o = .returned v) (hW : (s.setDrawn d0).WarmedH t.vm) (hs : (s.setDrawn d0).sameButNew ({ t with vm := s.vm } : State) L k n) : State.butDraws s t lw_cs (fun t1 => Framed s o t1 L k n) := by
  have h2 : t.drawn = d0 := congrArg State.drawn hs.1
  refine ⟨⟨hv, hW, State.sameButNew.setDrawn hs s.drawn⟩, ?_, by decide⟩
  rw [h2]
  exact hd0
def lw_Q (_ : Array Value) (s : State) (o : Outcome) (t : State) : Prop := o = .returned (some (.int 1)) ∧ State.butDraws s t lw_cs (fun t1 => Framed s o t1 [] 600000 room_1.slots)
def lw_Z (below : List Frame) (a : Array Value) (s : State) : State → Prop := fun t => ∃ o, t.status = .running ∧ Ended t below o ∧ lw_Q a s o t
/-- the law's own end, with 1 on the stack, nothing written that was there before, its room as the claim has it; d0: the record of draws at this point (at the entry s.drawn: begin with 'refine W.base ?_' and 'have hd0 := Drawn.sameBut.refl s.drawn lw_cs') -/
theorem lw_ret {p : Program} {l : Launch} {e : Env} {s : State} {m : MethodId} {below : List Frame} {meth : Method} {c : Code} {b : Nat} {d0 : Drawn} (hd0 : s.drawn.sameBut d0 lw_cs) (hx : p.tables.exec = Jvm.exec) (hb : c.code = code) (hr : meth.sig.returnType = ret) (hlocks : meth.locks = false) {pc : Nat} {H : Heap} {ls : Array Slot} (hdg : decode code pc = .ok (.ireturn, 1)) : W p l e room_1 (s.setDrawn d0) m #[Value.ref b] below meth c H [] 600000 room_1.slots (lw_Z below #[Value.ref b] s) (F0 m pc ls [.int 1]) := by
  intro T hT X
  obtain ⟨fs, hret, hrun, hended, hW, hframe⟩ := X.leave (v := some (.int 1)) (hlocks := hlocks) (fun h => by rw [hr] at h; cases h)
  have hmeth' : T.vm.method? m = some meth := X.method'
  refine ⟨T.setFrames fs, ?_, .returned (some (.int 1)), hrun, hended, rfl, lw_closed hd0 ⟨_, rfl⟩ hW hframe⟩
  jvm_step X.here [X.here.top, hx, hb, hdg, hmeth', hr, ret, narrow_b1]
  (try refine ⟨rfl, ?_⟩); (try refine ⟨rfl, ?_⟩)
  first | (intro acts; rw [hret _ acts rfl rfl rfl]) | rw [hret _ _ rfl rfl rfl]
  exact Steps.refl _
/-- what holds at the law's entry: the machine, the code, the tables' words (any of lw_tbl by 'hts w (by decide +kernel)'), the script of L ints xs at the cell b, what the Statement gives of the start (any of its parts by flat_of_before) -/
def lw_At (p : Program) (s : State) (m : MethodId) (meth : Method) (c : Code) (b L : Nat) (xs : Nat → Int32) : Prop :=
  p.tables.exec = Jvm.exec ∧ c.code = code ∧ meth.sig.returnType = ret ∧ c.maxLocals = 4 ∧ s.vm.findClass R_law = some m.cls ∧ (∀ w ∈ lw_tbl, w.before #[Value.ref b] s = true) ∧ va_X b L xs s s.heap ∧ b < s.heap.size ∧ meth.locks = false ∧ (Jvm.Cond.and given_1 narrow_1).before #[Value.ref b] s = true
/-! ===== the law's start: the small heap that stands for the machine's, and the walk out of a run of the small machine ===== -/
def stL : List (List Int32) := [[129, 130, 134, 8, 24, 32, 96], [11, 12, 13, 14, 15, 16, 17], [1, 1, 0, -1, -1, -1, 0, 1], [0, 1, 1, 1, 0, -1, -1, -1]]
def stA (j : Nat) : List Int32 := stL.getD j []
/-- what a run of the law may take as given of its first heap: the script at b, the four tables, nothing else -/
def h0ok (h : mH) (b L : Nat) (xs : Nat → Int32) (sa : Nat → Nat) : Prop :=
  (hT h b = 30 ∧ hN h b = L ∧ ∀ j, j < L → hI h b j = xs j) ∧ b < hZ h ∧
  (∀ j, j < 4 → hR h 0 j = some (sa j) ∧ hT h (sa j) = 30 ∧ hN h (sa j) = (stA j).length ∧ (∀ i, i < (stA j).length → hI h (sa j) i = (stA j).getD i 0) ∧ sa j < hZ h) ∧
  0 < hZ h ∧ ∀ a, hZ h ≤ a → hT h a = 0
def roN (b L : Nat) (sa : Nat → Nat) (a : Nat) : Nat := if a = b then L else if a = sa 0 then 7 else if a = sa 1 then 7 else 8
def roI (b : Nat) (xs : Nat → Int32) (sa : Nat → Nat) (a j : Nat) : Int32 := if a = b then xs j else if a = sa 0 then (stA 0).getD j 0 else if a = sa 1 then (stA 1).getD j 0 else if a = sa 2 then (stA 2).getD j 0 else (stA 3).getD j 0
def roT (b : Nat) (sa : Nat → Nat) (a : Nat) : Nat := if a = b ∨ a = sa 0 ∨ a = sa 1 ∨ a = sa 2 ∨ a = sa 3 then 30 else 0
def roH (z b L : Nat) (xs : Nat → Int32) (sa : Nat → Nat) : mH := (roT b sa, roN b L sa, z, 0, roI b xs sa, fun _ _ => 0, fun _ _ => 0, fun _ j => some (sa j))
def roL (b L : Nat) (xs : Nat → Int32) (sa : Nat → Nat) : mRO := [(b, L, xs), (sa 0, 7, fun i => (stA 0).getD i 0), (sa 1, 7, fun i => (stA 1).getD i 0), (sa 2, 8, fun i => (stA 2).getD i 0), (sa 3, 8, fun i => (stA 3).getD i 0)]
/-- two lists of one cell are the same -/
theorem two_T {U : State} {H : Heap} {A A' : Nat → Prop} {t N M : Nat} {f g : Nat → Int32} (h : va_T .int t N (fun j => .int (f j)) A U H) (k : va_T .int t M (fun j => .int (g j)) A' U H) (hN : N < 2 ^ 31) (hM : M < 2 ^ 31) : N = M ∧ ∀ j, j < N → f j = g j := by
  obtain ⟨c1, a1, -, -, a4, a5, a6, -⟩ := h
  obtain ⟨c2, b1, -, -, b4, b5, b6, -⟩ := k
  cases a1.symm.trans b1
  have e : N = M := by
    have e1 : nI N = nI M := a5.symm.trans b5
    exact (nI_eq hN hM).mp e1
  subst e
  refine ⟨rfl, fun j hj => ?_⟩
  have e2 := (a6 j hj).symm.trans (b6 j hj)
  exact Value.int.inj (Option.some.inj e2)
theorem st_len : ∀ j, j < 4 → (stA j).length = (if j = 0 then 7 else if j = 1 then 7 else 8) := by decide
section LW
variable {p : Program} {e : Env} {s : State} {m : MethodId} {below : List Frame} {meth : Method} {c : Code}
/-- the four tables as the Statement gives them -/
theorem st_given {b : Nat} (hts : ∀ w ∈ lw_tbl, w.before #[Value.ref b] s = true) (hgv : (Jvm.Cond.and given_1 narrow_1).before #[Value.ref b] s = true) (j : Nat) (hj : j < 4) : ∃ t : Nat, va_Z (scl j) (snm j) "[I" (.ref t) (fun q => s.heap.size ≤ q) s s.heap ∧ va_T .int t (stA j).length (fun i => .int ((stA j).getD i 0)) (fun q => s.heap.size ≤ q) s s.heap := by
  have hf := flat_of_before _ hgv
  have hA : ∀ a : Nat, a < s.heap.size → ¬ (fun q => s.heap.size ≤ q) a := fun a h => Nat.not_le.mpr h
  have key : ∀ (C n : String) (l : List Int32), Cond.laysStatic C n "[I" ∈ lw_tbl → Cond.initialized C ∈ lw_tbl → Cond.arrayOf (.static C n "[I") .int ∈ flatC (Jvm.Cond.and given_1 narrow_1) → Cond.eq (.length (.static C n "[I")) (.int (Int32.ofNat l.length)) ∈ flatC (Jvm.Cond.and given_1 narrow_1) → l.length < 2 ^ 31 → (∀ i, i < l.length → Cond.eq (.elem (.static C n "[I") (.int (Int32.ofNat i))) (.int (l.getD i 0)) ∈ flatC (Jvm.Cond.and given_1 narrow_1)) → ∃ t : Nat, va_Z C n "[I" (.ref t) (fun q => s.heap.size ≤ q) s s.heap ∧ va_T .int t l.length (fun i => .int (l.getD i 0)) (fun q => s.heap.size ≤ q) s s.heap := by
    intro C n l w1 w2 w3 w4 hl w5
    obtain ⟨t, ht, hT⟩ := va_Tof (f := fun i => .int (l.getD i 0)) (A := fun q => s.heap.size ≤ q) hl (hf _ w3) (va_eqt (hf _ w4)) (fun i hi => va_eqt (hf _ (w5 i hi))) hA
    exact ⟨t, va_Zref (hts _ w1) (hts _ w2) ht hA, hT⟩
  have : j = 0 ∨ j = 1 ∨ j = 2 ∨ j = 3 := by omega
  rcases this with rfl | rfl | rfl | rfl
  · exact key _ _ (stA 0) (by decide +kernel) (by decide +kernel) (by decide +kernel) (by decide +kernel) (by decide) (by decide +kernel)
  · exact key _ _ (stA 1) (by decide +kernel) (by decide +kernel) (by decide +kernel) (by decide +kernel) (by decide) (by decide +kernel)
  · exact key _ _ (stA 2) (by decide +kernel) (by decide +kernel) (by decide +kernel) (by decide +kernel) (by decide) (by decide +kernel)
  · exact key _ _ (stA 3) (by decide +kernel) (by decide +kernel) (by decide +kernel) (by decide +kernel) (by decide) (by decide +kernel)
theorem nc_given {b : Nat} (hgv : (Jvm.Cond.and given_1 narrow_1).before #[Value.ref b] s = true) : ∀ t u, (t = 4 ∨ t = 5 ∨ t = 6) → (u = 4 ∨ u = 5 ∨ u = 6) → t ≠ u → va_Nc (oN t) (oN u) s := by
  have hf := flat_of_before _ hgv
  intro t u ht hu hne
  rcases ht with rfl | rfl | rfl <;> rcases hu with rfl | rfl | rfl <;> first
    | exact absurd rfl hne
    | exact va_Nc.of (hf _ (by decide +kernel))
/-- KK at the law's entry -/
theorem KK_start {b L : Nat} {xs : Nat → Int32} (hL : L ≤ 3073) (hts : ∀ w ∈ lw_tbl, w.before #[Value.ref b] s = true) (hX : va_X b L xs s s.heap) (hb : b < s.heap.size) (hgv : (Jvm.Cond.and given_1 narrow_1).before #[Value.ref b] s = true) : ∃ (D : va_G) (dA : Nat → ClassId) (sa : Nat → Nat), KK s.heap.size s.heap D dA (roL b L xs sa) sa s ∧ (∀ j, j < 4 → va_T .int (sa j) (stA j).length (fun i => .int ((stA j).getD i 0)) (fun q => s.heap.size ≤ q) s s.heap) ∧ va_T .int b L (fun j => .int (xs j)) (fun q => s.heap.size ≤ q) s s.heap := by
  have hgd : ∀ w ∈ lw_good, w ∈ lw_tbl := fun w hw => (List.mem_filter.mp hw).1
  have h1 : ∀ t : Nat, ∃ x : ClassId × (Nat → Nat), 1 ≤ t → t ≤ 11 → u_Kn s (oN t) (FT t) (nF t) x.1 x.2 := by
    intro t
    by_cases q : 1 ≤ t ∧ t ≤ 11
    · obtain ⟨cC, iS, h⟩ := u_known (n := nF t) hts (fun w hw => hgd w (lay_good t q.1 q.2 w hw)) (hts _ (hgd _ (ins_good q.1 q.2)))
      exact ⟨(cC, iS), fun _ _ => h⟩
    · exact ⟨(0, fun _ => 0), fun a b => absurd ⟨a, b⟩ q⟩
  obtain ⟨f1, hf1⟩ := Classical.axiomOfChoice h1
  have h4 : ∀ t, 24 ≤ t → t ≤ 27 → va_AO (ecl t) s := by
    intro t a b
    have : t = 24 ∨ t = 25 ∨ t = 26 ∨ t = 27 := by omega
    rcases this with rfl | rfl | rfl | rfl <;> exact va_AO.of (hts _ (by decide +kernel))
  have h2 : ∀ t : Nat, ∃ cA : ClassId, 20 ≤ t → t ≤ 27 → ArrOfT s cA (aty t) ∧ va_RA s cA (aty t) := by
    intro t
    by_cases q : 20 ≤ t ∧ t ≤ 27
    · have : t = 20 ∨ t = 21 ∨ t = 22 ∨ t = 23 ∨ 24 ≤ t := by omega
      rcases this with rfl | rfl | rfl | rfl | q2
      · obtain ⟨cA, kA, comp, w1, w2, w3⟩ := Cond.arrayClass_spec (hts (.arrayClass .int) (by decide +kernel))
        exact ⟨cA, fun _ _ => ⟨fun n z => ⟨(fun k h => by cases h), kA, w2, comp, w3⟩, w1⟩⟩
      · obtain ⟨cA, kA, comp, w1, w2, w3⟩ := Cond.arrayClass_spec (hts (.arrayClass .long) (by decide +kernel))
        exact ⟨cA, fun _ _ => ⟨fun n z => ⟨(fun k h => by cases h), kA, w2, comp, w3⟩, w1⟩⟩
      · obtain ⟨cA, kA, comp, w1, w2, w3⟩ := Cond.arrayClass_spec (hts (.arrayClass .double) (by decide +kernel))
        exact ⟨cA, fun _ _ => ⟨fun n z => ⟨(fun k h => by cases h), kA, w2, comp, w3⟩, w1⟩⟩
      · obtain ⟨cA, kA, comp, w1, w2, w3⟩ := Cond.arrayClass_spec (hts (.arrayClass .boolean) (by decide +kernel))
        exact ⟨cA, fun _ _ => ⟨fun n z => ⟨(fun k h => by cases h), kA, w2, comp, w3⟩, w1⟩⟩
      · have hty : aty t = .object (ecl t) := by
          have : t = 24 ∨ t = 25 ∨ t = 26 ∨ t = 27 := by omega
          rcases this with rfl | rfl | rfl | rfl <;> rfl
        obtain ⟨comp, cA, kA, w1, -, w3, w4, w5⟩ := Cond.arrayOver_spec (va_AO.use (A := #[]) (h4 t q2 q.2))
        rw [hty]
        exact ⟨cA, fun _ _ => ⟨fun n z => ⟨(fun k h => by cases h), kA, w3, comp, w4⟩, kA, comp, w3, w4, w1, w5⟩⟩
    · exact ⟨0, fun a b => absurd ⟨a, b⟩ q⟩
  obtain ⟨f2, hf2⟩ := Classical.axiomOfChoice h2
  have h3 : ∀ j : Nat, ∃ t : Nat, j < 4 → va_Z (scl j) (snm j) "[I" (.ref t) (fun q => s.heap.size ≤ q) s s.heap ∧ va_T .int t (stA j).length (fun i => .int ((stA j).getD i 0)) (fun q => s.heap.size ≤ q) s s.heap := by
    intro j
    by_cases q : j < 4
    · obtain ⟨t, h⟩ := st_given hts hgv j q
      exact ⟨t, fun _ => h⟩
    · exact ⟨0, fun h => absurd h q⟩
  obtain ⟨sa, hsa⟩ := Classical.axiomOfChoice h3
  have hTb : va_T .int b L (fun j => .int (xs j)) (fun q => s.heap.size ≤ q) s s.heap := by
    obtain ⟨scr, q1, q2, q3, q4, q5⟩ := hX
    exact ⟨scr, q1, q2, q3, by omega, by rw [q4], q5, Nat.not_le.mpr hb⟩
  refine ⟨(fun t => (f1 t).1, fun t => (f1 t).2), f2, sa, ⟨hf1, hf2, fun a i y q hq => va_Nw.of rfl (hts _ hq), h4, fun t ht => ?_, nc_given hgv, fun j hj => (hsa j hj).1, ?_, by omega, fun x hx => va_Nw.of rfl (hts _ hx)⟩, fun j hj => (hsa j hj).2, hTb⟩
  · rcases ht with rfl | rfl | rfl <;> exact va_Nw.of rfl (hts _ (by decide +kernel))
  · exact List.forall_mem_cons.mpr ⟨hTb, List.forall_mem_cons.mpr ⟨(hsa 0 (by decide)).2, List.forall_mem_cons.mpr ⟨(hsa 1 (by decide)).2, List.forall_mem_cons.mpr ⟨(hsa 2 (by decide)).2, List.forall_mem_cons.mpr ⟨(hsa 3 (by decide)).2, fun _ h => absurd h List.not_mem_nil⟩⟩⟩⟩⟩
/-- the first heap, and what it gives -/
theorem ro_ok {b L : Nat} {xs : Nat → Int32} {sa : Nat → Nat} {D : va_G} {dA : Nat → ClassId} (hL : L ≤ 3073) (hb : b < s.heap.size) (hT3 : ∀ j, j < 4 → va_T .int (sa j) (stA j).length (fun i => .int ((stA j).getD i 0)) (fun q => s.heap.size ≤ q) s s.heap) (hTb : va_T .int b L (fun j => .int (xs j)) (fun q => s.heap.size ≤ q) s s.heap) : Rl s.heap.size s.heap D dA (roL b L xs sa) sa (roH s.heap.size b L xs sa) s.heap ∧ h0ok (roH s.heap.size b L xs sa) b L xs sa := by
  have hlt : ∀ j, j < 4 → sa j < s.heap.size := fun j hj => by
    obtain ⟨_, _, _, _, _, _, _, h⟩ := hT3 j hj
    exact Nat.lt_of_not_le h
  have l0 : (stA 0).length = 7 := rfl
  have l1 : (stA 1).length = 7 := rfl
  have l2 : (stA 2).length = 8 := rfl
  have l3 : (stA 3).length = 8 := rfl
  have t0 := hT3 0 (by decide)
  have t1 := hT3 1 (by decide)
  have t2 := hT3 2 (by decide)
  have t3 := hT3 3 (by decide)
  -- each table's own row, whichever name the cell goes by
  have row : ∀ j, j < 4 → roT b sa (sa j) = 30 ∧ roN b L sa (sa j) = (stA j).length ∧ ∀ i, i < (stA j).length → roI b xs sa (sa j) i = (stA j).getD i 0 := by
    intro j hj
    have tj := hT3 j hj
    have hlj : (stA j).length < 2 ^ 31 := by rw [st_len j hj]; split <;> (try split) <;> decide
    have hm : sa j = b ∨ sa j = sa 0 ∨ sa j = sa 1 ∨ sa j = sa 2 ∨ sa j = sa 3 := by
      have : j = 0 ∨ j = 1 ∨ j = 2 ∨ j = 3 := by omega
      rcases this with rfl | rfl | rfl | rfl
      · exact .inr (.inl rfl)
      · exact .inr (.inr (.inl rfl))
      · exact .inr (.inr (.inr (.inl rfl)))
      · exact .inr (.inr (.inr (.inr rfl)))
    refine ⟨if_pos hm, ?_⟩
    unfold roN roI
    by_cases e0 : sa j = b
    · rw [e0] at tj
      obtain ⟨n1, n2⟩ := two_T hTb tj (by omega) hlj
      rw [if_pos e0]
      exact ⟨n1, fun i hi => by rw [if_pos e0]; exact n2 i (by omega)⟩
    · rw [if_neg e0]
      by_cases e1 : sa j = sa 0
      · rw [e1] at tj
        obtain ⟨n1, n2⟩ := two_T t0 tj (by rw [l0]; decide) hlj
        rw [if_pos e1]
        exact ⟨by rw [← n1, l0], fun i hi => by rw [if_neg e0, if_pos e1]; exact n2 i (by omega)⟩
      · rw [if_neg e1]
        by_cases e2 : sa j = sa 1
        · rw [e2] at tj
          obtain ⟨n1, n2⟩ := two_T t1 tj (by rw [l1]; decide) hlj
          rw [if_pos e2]
          exact ⟨by rw [← n1, l1], fun i hi => by rw [if_neg e0, if_neg e1, if_pos e2]; exact n2 i (by omega)⟩
        · rw [if_neg e2]
          by_cases e3 : sa j = sa 2
          · rw [e3] at tj
            obtain ⟨n1, n2⟩ := two_T t2 tj (by rw [l2]; decide) hlj
            exact ⟨by rw [← n1, l2], fun i hi => by rw [if_neg e0, if_neg e1, if_neg e2, if_pos e3]; exact n2 i (by omega)⟩
          · have e4 : sa j = sa 3 := by
              rcases hm with q | q | q | q | q
              · exact absurd q e0
              · exact absurd q e1
              · exact absurd q e2
              · exact absurd q e3
              · exact q
            rw [e4] at tj
            obtain ⟨n1, n2⟩ := two_T t3 tj (by rw [l3]; decide) hlj
            exact ⟨by rw [← n1, l3], fun i hi => by rw [if_neg e0, if_neg e1, if_neg e2, if_neg e3]; exact n2 i (by omega)⟩
  have rb : roT b sa b = 30 ∧ roN b L sa b = L ∧ ∀ j, roI b xs sa b j = xs j := ⟨if_pos (.inl rfl), if_pos rfl, fun j => if_pos rfl⟩
  have hz : 0 < s.heap.size := by omega
  refine ⟨⟨rfl, Nat.le_refl _, fun _ _ => rfl, fun j hj => rfl, hz, fun a => ?_⟩, ⟨rb.1, rb.2.1, fun j _ => rb.2.2 j⟩, hb, fun j hj => ⟨rfl, (row j hj).1, (row j hj).2.1, (row j hj).2.2, hlt j hj⟩, hz, fun a ha => ?_⟩
  · have ht : hT (roH s.heap.size b L xs sa) a = 30 ∨ hT (roH s.heap.size b L xs sa) a = 0 := by
      show roT b sa a = 30 ∨ roT b sa a = 0
      unfold roT
      split
      · exact .inl rfl
      · exact .inr rfl
    refine ⟨fun p q => by omega, fun p q => by omega, fun p => ?_⟩
    have p : roT b sa a = 30 := p
    unfold roT at p
    split at p
    case isFalse => cases p
    rename_i hm
    have put : ∀ r ∈ roL b L xs sa, r.1 = a → r.2.1 = roN b L sa a → (∀ j, j < roN b L sa a → r.2.2 j = roI b xs sa a j) → ∃ r ∈ roL b L xs sa, r.1 = a ∧ r.2.1 = hN (roH s.heap.size b L xs sa) a ∧ ∀ j, j < hN (roH s.heap.size b L xs sa) a → r.2.2 j = hI (roH s.heap.size b L xs sa) a j := fun r h1 h2 h3 h4 => ⟨r, h1, h2, h3, h4⟩
    by_cases e0 : a = b
    · subst e0
      exact put (a, L, xs) List.mem_cons_self rfl rb.2.1.symm fun j _ => (rb.2.2 j).symm
    · have hj : ∃ j, j < 4 ∧ a = sa j := by
        rcases hm with q | q | q | q | q
        · exact absurd q e0
        · exact ⟨0, by decide, q⟩
        · exact ⟨1, by decide, q⟩
        · exact ⟨2, by decide, q⟩
        · exact ⟨3, by decide, q⟩
      obtain ⟨j, hj, rfl⟩ := hj
      obtain ⟨-, r2, r3⟩ := row j hj
      have hmem : (sa j, (stA j).length, fun i => (stA j).getD i 0) ∈ roL b L xs sa := by
        have : j = 0 ∨ j = 1 ∨ j = 2 ∨ j = 3 := by omega
        rcases this with rfl | rfl | rfl | rfl
        · exact List.mem_cons_of_mem _ List.mem_cons_self
        · exact List.mem_cons_of_mem _ (List.mem_cons_of_mem _ List.mem_cons_self)
        · exact List.mem_cons_of_mem _ (List.mem_cons_of_mem _ (List.mem_cons_of_mem _ List.mem_cons_self))
        · exact List.mem_cons_of_mem _ (List.mem_cons_of_mem _ (List.mem_cons_of_mem _ (List.mem_cons_of_mem _ List.mem_cons_self)))
      exact put _ hmem rfl r2.symm fun i hi => (r3 i (by rw [← r2]; exact hi)).symm
  · show roT b sa a = 0
    refine if_neg ?_
    intro q
    have ha : s.heap.size ≤ a := ha
    rcases q with rfl | rfl | rfl | rfl | rfl
    · omega
    · have := hlt 0 (by decide); omega
    · have := hlt 1 (by decide); omega
    · have := hlt 2 (by decide); omega
    · have := hlt 3 (by decide); omega
set_option maxHeartbeats 1000000 in
/-- THE LAW OUT OF RUNS OF THE SMALL MACHINE -/
theorem whole_from (hyp : ∀ (h : mH) (b L : Nat) (xs : Nat → Int32) (sa : Nat → Nat), L ≤ 3073 → h0ok h b L xs sa → ∃ n h', wr (EVg cdT mxT 100) cd_0 n 0 (en [.ref b] 4) [] h (qEq (some (.int 1)) h') ∧ hZ h' ≤ hZ h + 600000 ∧ hU h' ≤ hU h + 7000000) (l : Launch) {b L : Nat} {xs : Nat → Int32} (hL : L ≤ 3073) (C0 : lw_At p s m meth c b L xs) : W p l e room_1 s m #[Value.ref b] below meth c s.heap [] 0 0 (lw_Z below #[Value.ref b] s) (entryFrame m ([Value.ref b] : List Value).toArray 4) := by
  obtain ⟨hx, hb, hr, hml, hown, hts, hX, hbl, hlocks, hgv⟩ := C0
  obtain ⟨D, dA, sa, hK, hT3, hTb⟩ := KK_start hL hts hX hbl hgv
  obtain ⟨hRl, hok⟩ := ro_ok (D := D) (dA := dA) hL hbl hT3 hTb
  obtain ⟨n, h', hq, hz, hu0⟩ := hyp _ b L xs sa hL hok
  have hu : hU h' ≤ hU (roH s.heap.size b L xs sa) + room_1.slots := Nat.le_trans hu0 (Nat.add_le_add_left (show 7000000 ≤ room_1.slots by decide) _)
  obtain ⟨ls, e1, hl⟩ := en_R m [.ref b] 4 (Nat.le_of_ble_eq_true rfl)
  rw [e1]
  have hgd : ∀ w ∈ lw_good, w ∈ lw_tbl := fun w hw => (List.mem_filter.mp hw).1
  have C : Cx s.heap.size s.heap D dA (roL b L xs sa) sa p room_1 s m #[Value.ref b] meth c code 4 14 false true lw_tbl := ⟨hx, hb, hml, hown, hts, hgd, hK, by decide, by decide, fun q => by cases q⟩
  have main := sn_run (l := l) (e := e) (below := below) (Z := lw_Z below #[Value.ref b] s) (h0 := roH s.heap.size b L xs sa) C (EVg_lin cdT mxT 100) (sn_met l _ _ _ _ _ _ 100) (by decide) (cd := cd_0) (show chkA 14 false true code cd_0 from mo_0) (v := some (.int 1)) (h' := h') ⟨hz, hu⟩ ?_ n 0 (en [.ref b] 4) [] _ hq s.heap [] ls hRl (fun q hq => absurd hq List.not_mem_nil) hl rfl (gE.r _)
  · unfold WG at main
    rw [Nat.sub_self, Nat.sub_self] at main
    exact main
  · intro raw i pc len lv st h2 H locs ls2 hd hln hrs hcd hstp hRl2 hlo
    cases raw
    case ireturn =>
      obtain rfl : len = 1 := hln
      cases hrs
      have hs : rtZ st h2 (qEq (some (.int 1)) h') := hstp
      unfold rtZ at hs
      split at hs
      case h_2 => exact hs.elim
      rename_i u
      obtain ⟨-, a1, a2⟩ := hs
      subst a2
      cases a1
      refine W.base ?_
      refine va_forget (fun q hq => hlo q hq) ?_
      refine W.widen (k := 600000) (n := room_1.slots) ?_ ?_ ?_
      · have hz : hZ h2 ≤ hZ (roH s.heap.size b L xs sa) + 600000 := hz
        omega
      · have hu : hU h2 ≤ hU (roH s.heap.size b L xs sa) + room_1.slots := hu
        omega
      · exact lw_ret (Drawn.sameBut.refl s.drawn lw_cs) hx hb hr hlocks hd
    case freturn => cases hrs
    case lreturn =>
      cases hrs
      have hs : rtL st h2 (qEq (some (.int 1)) h') := hstp
      unfold rtL at hs
      split at hs
      · obtain ⟨a1, -⟩ := hs; cases a1
      · exact hs.elim
    case dreturn =>
      cases hrs
      have hs : rtD st h2 (qEq (some (.int 1)) h') := hstp
      unfold rtD at hs
      split at hs
      · obtain ⟨a1, -⟩ := hs; cases a1
      · exact hs.elim
    case areturn =>
      cases hrs
      have hs : rtA st h2 (qEq (some (.int 1)) h') := hstp
      unfold rtA at hs
      split at hs
      · obtain ⟨a1, -⟩ := hs; cases a1
      · obtain ⟨a1, -⟩ := hs; cases a1
      · exact hs.elim
    case return_ =>
      cases hrs
      have hs : rtV st h2 (qEq (some (.int 1)) h') := hstp
      unfold rtV at hs
      split at hs
      · obtain ⟨a1, -⟩ := hs; cases a1
      · exact hs.elim
    all_goals (exfalso; exact no_ret (EVg_lin cdT mxT 100) (rsv_ret hrs rfl) hstp)
end LW
