/-! ===== calls ===== -/
def rmd (d mc ms : Nat) : Room := { frames := d, cells := mc, slots := ms, locals := 60 * d }
noncomputable def wsM (y : Nat) : List Cond := cW (mR y) :: lw_good
def mPc (B : Nat) (H0 : Heap) (D : va_G) (dA : Nat → ClassId) (RO : mRO) (sa : Nat → Nat) (as : List Value) (h : mH) : Array Value → State → Prop := va_Pc as (fun U => KK B H0 D dA RO sa U ∧ Rl B H0 D dA RO sa h U.heap)
def mQc (B : Nat) (H0 : Heap) (D : va_G) (dA : Nat → ClassId) (RO : mRO) (sa : Nat → Nat) (v : Option Value) (h : mH) : Array Value → State → Outcome → State → Prop := fun _ _ oc t => oc = .returned v ∧ Rl B H0 D dA RO sa h t.heap
/-- the runs of E, at depth d, are runs of the machine -/
def SE (l : Launch) (B : Nat) (H0 : Heap) (D : va_G) (dA : Nat → ClassId) (RO : mRO) (sa : Nat → Nat) (d : Nat) (E : mE) : Prop := ∀ y as h v h', E y as h (qEq v h') → gE h h' → Met l (mN y) (wsM y) (rmd d (hZ h' - hZ h) (hU h' - hU h)) (mPc B H0 D dA RO sa as h) (mQc B H0 D dA RO sa v h') (hZ h' - hZ h) (hU h' - hU h) (fun q => B ≤ q)
theorem code_good : ∀ r ∈ mTab, cW r ∈ lw_good := by
  have key : ∀ (L : List mRow) (ps : List Nat), L.map cW = ps.filterMap (fun i => lw_tbl[i]?) → ∀ r ∈ L, cW r ∈ lw_good := fun L ps h r hr => mem_good (mem_of_map (f := cW) h hr) rfl
  exact List.forall_mem_append.mpr ⟨key _ _ wC_0, List.forall_mem_append.mpr ⟨key _ _ wC_1, List.forall_mem_append.mpr ⟨key _ _ wC_2, List.forall_mem_append.mpr ⟨key _ _ wC_3, List.forall_mem_append.mpr ⟨key _ _ wC_4, List.forall_mem_append.mpr ⟨key _ _ wC_5, List.forall_mem_append.mpr ⟨key _ _ wC_6, key _ _ wC_7⟩⟩⟩⟩⟩⟩⟩
theorem wsM_good (y : Nat) : ∀ w ∈ wsM y, w ∈ lw_good := List.forall_mem_cons.mpr ⟨code_good _ (mR_mem y), fun _ h => h⟩
theorem own_k : ∀ r ∈ mTab, r.2.2.2.2.1 ≠ 0 := by decide +kernel
theorem iniM (y : Nat) : Cond.initialized (mN y).cls ∈ lw_good := by
  obtain ⟨-, -, h3, -, h5⟩ := pl_k _ (mR_mem y)
  have h3 : oN (mR y).2.2.2.2.1 = (mN y).cls := h3
  rw [← h3]
  rcases h5 with h5 | h5
  · exfalso
    exact own_k _ (mR_mem y) h5
  · exact ini_good h5.1 h5.2
theorem lkP1_r : ∀ r ∈ lkP1, (mR (r.2.2 / 512)).2.2.2.1 = none := by decide +kernel
theorem lkP2_r : ∀ r ∈ lkP2, (mR (r.2.2 / 512)).2.2.2.1 = none := by decide +kernel
theorem fm_k : ∀ f, f < 6 → (fmN f).cls = "WindPark$Thing" ∧ fmN f = ⟨"WindPark$Thing", (fmN f).name, (fmN f).desc⟩ := by decide +kernel
theorem len_of {y : MethodName} {n : Nat} (h : (parseMethodDescriptor y.desc).map (fun d => d.parameters.length) = some n) : ∀ sig, parseMethodDescriptor y.desc = some sig → n = sig.parameters.length := by
  intro sig hs
  rw [hs] at h
  exact (Option.some.inj h).symm
section SC
variable {p : Program} {l : Launch} {e : Env} {R : Room} {s : State} {m : MethodId} {args : Array Value} {below : List Frame} {meth : Method} {c : Code} {Z : State → Prop} {B : Nat} {H0 : Heap} {D : va_G} {dA : Nat → ClassId} {RO : mRO} {sa : Nat → Nat} {cc : ByteArray} {nL o : Nat} {b z : Bool} {Ts : List Cond} {h0 : mH}
theorem mPc_blind {as : List Value} {h : mH} : FrameBlind (mPc B H0 D dA RO sa as h) := by
  intro a U g mk q
  obtain ⟨q0, qK, qR⟩ := q
  exact ⟨q0, KK.same rfl qK, qR⟩
theorem run_end {H : Heap} {locs : List Loc} {cells slots mc ms pc : Nat} {ls : Array Slot} {st0 rest : List Value} {v : Option Value} {h' : mH} {a : Array Value} (hr : va_Run p l e R s m args below meth c H locs cells slots mc ms (F0 m pc ls st0) rest (mQc B H0 D dA RO sa v h' a) (fun q => B ≤ q)) (hlo : lo_ok B locs)
    (k : ∀ H1 locs1, Rl B H0 D dA RO sa h' H1 → lo_ok B locs1 → W p l e R s m args below meth c H1 locs1 (cells + mc) (slots + ms) Z (F0 m (pc + 3) ls (v.toList ++ rest))) : W p l e R s m args below meth c H locs cells slots Z (F0 m pc ls st0) := by
  intro T hT X
  obtain ⟨v2, st2, t, T', L, h1, X', hL, e1, e2, hq, go⟩ := hr T hT X
  obtain ⟨q1, q2⟩ := hq
  cases Outcome.returned.inj q1
  obtain ⟨t2, a1, b1⟩ := k T'.heap (locs ++ L) (by rw [e1]; exact q2) (fun q hq => by
    rcases List.mem_append.mp hq with z | z
    · exact hlo q z
    · exact hL q z) T' rfl X'
  exact ⟨t2, go _ a1, b1⟩
theorem ws_warm (hts : ∀ w ∈ Ts, w.before args s = true) (hgd : ∀ w ∈ lw_good, w ∈ Ts) (y : Nat) : ∀ w ∈ wsM y, ∀ (a' : Array Value) (U : State), s.WarmedH U.vm → w.before a' U = true := by
  intro w hw a' U hW
  have hg := wsM_good y w hw
  exact word_at hW (good_of_word (List.mem_filter.mp hg).2) (hts w (hgd w hg))
theorem goodIn_all {ws : List Cond} (hgd : ∀ w ∈ lw_good, w ∈ Ts) (h : ∀ w ∈ ws, w ∈ lw_good) : GoodIn Ts ws := fun w hw => ⟨hgd w (h w hw), good_of_word (List.mem_filter.mp (h w hw)).2⟩
theorem mkB (hts : ∀ w ∈ Ts, w.before args s = true) (hgd : ∀ w ∈ lw_good, w ∈ Ts) {y x n d mc ms : Nat} (hfr : d + 1 ≤ R.frames ∧ 60 * (d + 1) ≤ R.locals) (hl : Cond.methodLink (oN o) x (mN y) ∈ lw_good) (hn : (mN y).cls ≠ "java/lang/invoke/MethodHandle" ∧ (mN y).cls ≠ "java/lang/invoke/VarHandle") (hp : (parseMethodDescriptor (mN y).desc).map (fun d => d.parameters.length) = some n) : CallB R s args (oN o) x (mN y) (mR y).2.1 (mxT y) (mR y).2.2.2.1 (wsM y) (rmd d mc ms) mc ms n := by
  have hm := mx_k _ (mR_mem y)
  refine ⟨rfl, rfl, hfr.1, ?_, ws_warm hts hgd y, List.mem_cons_self, hts _ (hgd _ (code_good _ (mR_mem y))), hts _ (hgd _ (iniM y)), hn, len_of hp, hts _ (hgd _ hl)⟩
  show 8 + ((mR y).2.2.1 + 11) + 60 * d ≤ R.locals
  have := hfr.2
  omega
/-- what the caller owes behind a call: the room, and what goes on -/
theorem cal_inv {E : mE} (hE : LinE E) {y : Nat} {as rest : List Value} {nx pc' : Nat} {lv lv' : mL} {st' : List Value} {h h' : mH} (hc : cal E y as rest nx lv h (fun a b c d => a = pc' ∧ b = lv' ∧ c = st' ∧ d = h')) : wtv rest ≤ 8 ∧ gE h h' ∧ nx = pc' ∧ lv = lv' ∧ ∃ v, v.toList ++ rest = st' ∧ E y as h (qEq v h') := by
  obtain ⟨hw, hc⟩ := hc
  obtain ⟨v, h2, g, ⟨e1, e2, e3, e4⟩, hq⟩ := hE _ _ _ _ hc
  subst e4
  exact ⟨hw, g, e1, e2, v, e3, hq _ ⟨rfl, rfl⟩⟩
theorem WG_sum {h h' : mH} {H : Heap} {locs : List Loc} {pc : Nat} {ls : Array Slot} {st : List Value} (g0 : gE h0 h) (g : gE h h') (k : WG p l e R s m args below meth c Z h0 h' H locs pc ls st) : W p l e R s m args below meth c H locs (hZ h - hZ h0 + (hZ h' - hZ h)) (hU h - hU h0 + (hU h' - hU h)) Z (F0 m pc ls st) := by
  obtain ⟨g1, g2⟩ := g0
  obtain ⟨g3, g4⟩ := g
  have e1 : hZ h - hZ h0 + (hZ h' - hZ h) = hZ h' - hZ h0 := by omega
  have e2 : hU h - hU h0 + (hU h' - hU h) = hU h' - hU h0 := by omega
  rw [e1, e2]
  exact k
theorem room_ok {h h' : mH} (g0 : gE h0 h) (g : gE h h') (hcap : hZ h' ≤ hZ h0 + R.cells ∧ hU h' ≤ hU h0 + R.slots) : hZ h - hZ h0 + (hZ h' - hZ h) ≤ R.cells ∧ hU h - hU h0 + (hU h' - hU h) ≤ R.slots := by
  obtain ⟨g1, g2⟩ := g0
  obtain ⟨g3, g4⟩ := g
  omega
theorem wt_room {rest : List Value} (hw : wtv rest ≤ 8) {pc : Nat} {ls : Array Slot} {st : List Value} : 2 * (F0 m pc ls st).monitorRoom + (rest.map fun v => v.category).sum ≤ 8 := lv_room (rest := st) hw

set_option maxHeartbeats 1000000 in
theorem acp_sound (hx : p.tables.exec = Jvm.exec) (hb : c.code = cc) {ls : Array Slot} (hml : c.maxLocals = ls.size) {x : Nat} (hown : s.vm.findClass (oN o) = some m.cls) (hlink : (Cond.methodLink (oN o) x arraycopyName).before args s = true) (hnat : (Cond.native arraycopyName).before args s = true) (hstat : (Cond.static arraycopyName).before args s = true) (hini : (Cond.initialized "java/lang/System").before args s = true) (hK : KK B H0 D dA RO sa s)
    {pc pc' : Nat} {lv lv' : mL} {st st' : List Value} {h h' : mH} {H : Heap} {locs : List Loc} (hstp : acp (pc + 3) lv st h (fun a b c d => a = pc' ∧ b = lv' ∧ c = st' ∧ d = h')) (hRl : Rl B H0 D dA RO sa h H) (hlo : lo_ok B locs) (hl : lvR ls lv) (hnL : lv.length = nL) (hfr : 1 ≤ R.frames) (hlc : 60 ≤ R.locals) (hd : decode cc pc = .ok (.invokestatic x, 3))
    (K : ∀ H' locs' ls', Rl B H0 D dA RO sa h' H' → lo_ok B locs' → lvR ls' lv' → lv'.length = nL → WG p l e R s m args below meth c Z h0 h' H' locs' pc' ls' st') : WG p l e R s m args below meth c Z h0 h H locs pc ls st := by
  have nn : ∀ z : Int32, ¬ z < 0 → z.toInt = (z.toNatClampNeg : Int) := by
    intro z hz
    have hz0 : (0 : Int) ≤ z.toInt := by
      have := Int32.not_lt.mp hz
      simpa using Int32.le_iff_toInt_le.mp this
    show z.toInt = ((z.toInt.toNat : Nat) : Int)
    omega
  obtain ⟨n, r1, e1, s1⟩ := pI_inv hstp
  subst e1
  obtain ⟨dp, r2, e2, s2⟩ := pI_inv s1
  subst e2
  obtain ⟨a, r3, e3, s3⟩ := pA_inv s2
  subst e3
  obtain ⟨sp, r4, e4, s4⟩ := pI_inv s3
  subst e4
  obtain ⟨a0, r, e5, s5⟩ := pA_inv s4
  subst e5
  obtain ⟨⟨h1, h2, h3, h4, h5, hw, htt⟩, s5⟩ := s5
  have hwl : 2 * (F0 m pc ls (.int n :: .int dp :: .ref a :: .int sp :: .ref a0 :: r)).monitorRoom + (r.map fun v => v.category).sum + (nativeFrameWords "java/lang/System" "arraycopy" 5 + 11) ≤ R.locals := by
    have hw2 : nativeFrameWords "java/lang/System" "arraycopy" 5 ≤ 20 := by decide
    have : wtv r = (r.map fun v => v.category).sum := rfl
    show 2 * 0 + _ + _ ≤ _
    omega
  -- the walk, over both kinds of arrays
  have main : ∀ (t : Nat) (f g : Nat → Value), 20 ≤ t → t ≤ 27 → B ≤ a → H[a0]? = some (arrV (dA t) (hN h a0) f) → H[a]? = some (arrV (dA t) (hN h a) g) → ((refKind (aty t) != refKind (aty t)) || (!refKind (aty t) && aty t != aty t)) = false →
      (∀ (T : State), T.heap = H → ∀ vm', s.vm.Alike vm' → ∀ (dComp : ClassId) (kd : Class), s.vm.classes[dA t]? = some kd → kd.kind = .array dComp (aty t) → ∀ i, i < n.toNatClampNeg → fits (aty t) (f (sp.toNatClampNeg + i)) = true ∧ (T.setVm vm').takes dComp (f (sp.toNatClampNeg + i))) →
      (∀ H' locs', H'[a]? = some (arrV (dA t) (hN h a) (va_cpy f g sp.toNatClampNeg dp.toNatClampNeg n.toNatClampNeg)) → H'.size = H.size → (∀ q, q ≠ a → H'[q]? = H[q]?) → lo_ok B locs' → W p l e R s m args below meth c H' locs' (hZ h - hZ h0) (hU h - hU h0) Z (F0 m (pc + 3) ls r)) →
      WG p l e R s m args below meth c Z h0 h H locs pc ls (.int n :: .int dp :: .ref a :: .int sp :: .ref a0 :: r) := by
    intro t f g t1 t2 hBa hc0 hc1 hty hvals kk
    intro T hT X
    obtain ⟨-, k0, hk0, cm0, hkk0⟩ := (hK.2.1 t t1 t2).1 0 (fun _ => .null)
    obtain ⟨vm', X', step⟩ := X.arraycopy hx hown hlink hnat hstat hini (src := a0) (dst := a) (cs := arrV (dA t) (hN h a0) f) (cd := arrV (dA t) (hN h a) g) (srcPos := sp) (destPos := dp) (n := n) (by rw [hT]; exact hc0) (by rw [hT]; exact hc1)
      (fun _ q => by cases q) (fun _ q => by cases q) (fun q => by cases q) (fun q => by cases q) hk0 hk0 hkk0 hkk0 hty h1 h2 h3
      (by rw [nn sp h1, nn n h3, arrV_size]; omega)
      (by rw [nn dp h2, nn n h3, arrV_size]; omega)
      (fun vm₁ hal i hi => by
        have e : (arrV (dA t) (hN h a0) f).slots.getD (sp.toNatClampNeg + i) .null = f (sp.toNatClampNeg + i) := by
          rw [Array.getD_eq_getD_getElem?, arrV_read _ _ (by omega)]
          rfl
        rw [e]
        exact hvals T hT vm₁ hal _ _ hk0 hkk0 i hi)
      (g := F0 m pc ls (.int n :: .int dp :: .ref a :: .int sp :: .ref a0 :: r)) rfl (by rw [hml]) (rest := r) rfl (by rw [hb]; exact hd) hfr hwl
    have e1 : copied (arrV (dA t) (hN h a0) f) (arrV (dA t) (hN h a) g) sp dp n = arrV (dA t) (hN h a) (va_cpy f g sp.toNatClampNeg dp.toNatClampNeg n.toNatClampNeg) := va_copied (fun z => z) (dA t) (dA t) f g h4
    rw [e1] at X' step
    have hl2 : a < H.size := (Array.getElem?_eq_some_iff.mp hc1).1
    have hheap : ((T.setVm vm').setCell a (arrV (dA t) (hN h a) (va_cpy f g sp.toNatClampNeg dp.toNatClampNeg n.toNatClampNeg))).heap = H.setIfInBounds a (arrV (dA t) (hN h a) (va_cpy f g sp.toNatClampNeg dp.toNatClampNeg n.toNatClampNeg)) := by rw [← hT]; rfl
    obtain ⟨t9, a1, b1⟩ := kk _ _ (by simp [Array.getElem?_setIfInBounds, hl2]) (by simp) (fun q hq => by simp [Array.getElem?_setIfInBounds, Ne.symm hq]) (fun q hq => by
      rcases List.mem_append.mp hq with z | z
      · exact hlo q z
      · obtain ⟨z1, -, hz⟩ := List.mem_map.mp z
        rw [← hz]
        exact hBa) _ hheap X'
    exact ⟨t9, step t9 a1, b1⟩
  rcases s5 with ⟨ht, rfl, rfl, rfl, rfl⟩ | ⟨⟨q1, q2⟩, hok, rfl, rfl, rfl, rfl⟩
  · obtain ⟨hBa, hc1⟩ := hRl.arr ht (by decide) (by decide)
    obtain ⟨-, hc0⟩ := hRl.arr (htt.trans ht) (by decide) (by decide)
    refine main 21 _ _ (by decide) (by decide) hBa hc0 hc1 rfl (fun T hT vm' hal dComp kd hk hkk i hi => ⟨rfl, trivial⟩) fun H' locs' w1 w2 w3 w4 => ?_
    refine K H' locs' ls (hRl.store hBa rfl rfl rfl (fun b q z j => ?_) w2 w3 ?_) w4 hl hnL
    · unfold vT cpL hI hL hD hR
      split <;> first | rfl | (simp only; rw [u1_ne _ q])
    · refine ⟨fun p q => ?_, fun p q => ⟨hBa, ?_⟩, fun p => ?_⟩
      · have p : 1 ≤ hT h a := p
        have q : hT h a ≤ 11 := q
        omega
      · have e : hT (cpL h a0 sp.toNatClampNeg a dp.toNatClampNeg n.toNatClampNeg) a = 21 := ht
        rw [e, w1]
        congr 2
        funext j
        show va_cpy (fun j => Value.long (hL h a0 j)) (fun j => Value.long (hL h a j)) _ _ _ j = Value.long (u1 (hL h) a _ a j)
        rw [u1_at]
        unfold va_cpy
        split <;> rfl
      · have p : hT h a = 30 := p
        omega
  · obtain ⟨t, ht⟩ : ∃ t, hT h a = t := ⟨_, rfl⟩
    rw [ht] at q1 q2 hok
    have q3 : 20 ≤ t := by omega
    obtain ⟨hBa, hc1⟩ := hRl.arr ht q3 q2
    obtain ⟨-, hc0⟩ := hRl.arr (htt.trans ht) q3 q2
    have hty : aty t = .object (ecl t) := by
      have : t = 24 ∨ t = 25 ∨ t = 26 ∨ t = 27 := by omega
      rcases this with rfl | rfl | rfl | rfl <;> rfl
    have hvT : ∀ x j, vT (aty t) h x j = va_rf (hR h x j) := by intro x j; rw [hty]; rfl
    refine main t _ _ q3 q2 hBa hc0 hc1 (by rw [hty]; simp) (fun T hTh vm' hal dComp kd hk hkk i hi => ?_) fun H' locs' w1 w2 w3 w4 => ?_
    · simp only [hvT]
      rw [hty] at hkk ⊢
      cases hy : hR h a0 (sp.toNatClampNeg + i) with
      | none => exact ⟨rfl, trivial⟩
      | some y =>
        have hE := hok i hi y hy
        have hra := (hK.2.1 t q3 q2).2
        rw [hty] at hra
        obtain ⟨kA, comp, r1, r2, r3, -⟩ := hra
        cases hk.symm.trans r1
        cases hkk.symm.trans r2
        obtain ⟨kE, hkE, -⟩ := Vm.findClass_spec r3
        obtain ⟨kE', hkE', -⟩ := hal.2.2 _ _ hkE
        have key : ∀ u, hT h y = u → 1 ≤ u → u ≤ 11 → (∀ cC, s.vm.findClass (oN u) = some cC → s.vm.assignable cC dComp = true) → fits (.object (ecl t)) (va_rf (some y)) = true ∧ (T.setVm vm').takes dComp (va_rf (some y)) := by
          intro u hu u1 u2 has
          obtain ⟨-, cv, c1, c2, c3, -⟩ := hRl.obj hu u1 u2
          obtain ⟨-, hfc, kC, hkC, hkind⟩ := hK.1 u u1 u2
          obtain ⟨kC', hkC', -⟩ := hal.2.2 _ _ hkC
          refine ⟨rfl, cv, (show T.heap[y]? = some cv by rw [hTh]; exact c1), (fun q z => by rw [c3] at z; cases z), ⟨kC', by rw [c2]; exact hkC'⟩, ⟨kE', hkE'⟩, ?_⟩
          show vm'.assignable _ _ = true
          rw [hal.assignable, c2]
          exact has _ hfc
        have same : ∀ u, ecl t = oN u → ∀ cC, s.vm.findClass (oN u) = some cC → s.vm.assignable cC dComp = true := by
          intro u hu cC hcC
          rw [hu, hcC] at r3
          rw [Option.some.inj r3]
          exact va_asg _ _
        have this : t = 24 ∨ t = 25 ∨ t = 26 ∨ t = 27 := by omega
        rcases this with rfl | rfl | rfl | rfl
        · have hE : hT h y = 4 ∨ hT h y = 5 ∨ hT h y = 6 := hE
          refine key _ rfl (by omega) (by omega) fun cC hcC => ?_
          obtain ⟨c0, t0, f1, f2, f3⟩ := Cond.castable_spec (va_Nw.use (A := args) rfl (hK.2.2.2.2.1 _ hE))
          cases hcC.symm.trans f1
          have e9 : s.vm.findClass "WindPark$Thing" = some dComp := r3
          cases e9.symm.trans f2
          exact f3
        · have hE : hT h y = 8 := hE
          exact key 8 hE (by decide) (by decide) (same 8 rfl)
        · have hE : hT h y = 4 := hE
          exact key 4 hE (by decide) (by decide) (same 4 rfl)
        · have hE : hT h y = 5 := hE
          exact key 5 hE (by decide) (by decide) (same 5 rfl)
    · refine K H' locs' ls (hRl.store hBa rfl rfl rfl (fun b q z j => ?_) w2 w3 ?_) w4 hl hnL
      · unfold vT cpR hI hL hD hR
        split <;> first | rfl | (simp only; rw [u1_ne _ q])
      · refine ⟨fun p q => ?_, fun p q => ⟨hBa, ?_⟩, fun p => ?_⟩
        · have p : 1 ≤ hT h a := p
          have q : hT h a ≤ 11 := q
          omega
        · have e : hT (cpR h a0 sp.toNatClampNeg a dp.toNatClampNeg n.toNatClampNeg) a = t := ht
          rw [e, w1]
          congr 2
          funext j
          rw [hty]
          show va_cpy (fun j => va_rf (hR h a0 j)) (fun j => va_rf (hR h a j)) _ _ _ j = va_rf (u1 (hR h) a _ a j)
          rw [u1_at]
          unfold va_cpy
          split <;> rfl
        · have p : hT h a = 30 := p
          omega
set_option maxHeartbeats 1000000 in
theorem sn_invokestatic (C : Cx B H0 D dA RO sa p R s m args meth c cc nL o b z Ts) {E : mE} (hE : LinE E) {d : Nat} (hSE : SE l B H0 D dA RO sa d E) (hfd : d + 1 ≤ R.frames ∧ 60 * (d + 1) ≤ R.locals) {x : Nat} {i : Instr} {pc len : Nat} {lv lv' : mL} {st st' : List Value} {h h' : mH} {pc' : Nat} {H : Heap} {locs : List Loc} {ls : Array Slot}
    (hd : decode cc pc = .ok (.invokestatic x, len)) (hln : len = iln (.invokestatic x) len) (hrs : rsv o b z pc (.invokestatic x) = some i) (hstp : stp E i (pc + len) lv st h (fun a b c d => a = pc' ∧ b = lv' ∧ c = st' ∧ d = h') qNo)
    (hRl : Rl B H0 D dA RO sa h H) (hlo : lo_ok B locs) (hl : lvR ls lv) (hnL : lv.length = nL) (hz0 : gE h0 h) (hcap : hZ h' ≤ hZ h0 + R.cells ∧ hU h' ≤ hU h0 + R.slots)
    (K : ∀ H' locs' ls', Rl B H0 D dA RO sa h' H' → lo_ok B locs' → lvR ls' lv' → lv'.length = nL → WG p l e R s m args below meth c Z h0 h' H' locs' pc' ls' st') : WG p l e R s m args below meth c Z h0 h H locs pc ls st := by
  obtain ⟨hx, hb, hml, hown, hts, hgd, hK, hfr, hlcl, hini⟩ := C

  obtain rfl : len = 3 := hln
  simp only [rsv, Option.map_eq_some_iff] at hrs
  obtain ⟨n, hg, rfl⟩ := hrs
  have hm := lk_mem hg
  have hls : c.maxLocals = ls.size := by rw [hml, ← hnL]; exact hl.1.symm
  have hstp : ivs E n (pc + 3) lv st h (fun a b c d => a = pc' ∧ b = lv' ∧ c = st' ∧ d = h') := hstp
  rcases lkT_cut _ hm with hm0 | hm1
  · have hlink := hts _ (hgd _ (mem_good (mem_of_map (f := t0W) wT0 hm0) rfl))
    have h5 := lkT0_n _ hm0
    simp only at h5
    rcases h5 with rfl | rfl | rfl | rfl | rfl | rfl | rfl
    · obtain ⟨q, r, rfl, hs⟩ := pL_inv hstp
      obtain ⟨⟨hv, hw⟩, rfl, rfl, rfl, rfl⟩ := hs
      exact vn_l2d hx hb hls hown hlink (hts _ (hgd _ (mem_good (mem_of_map (f := t0n) wT0n (r := 1001) (by decide)) rfl))) (hts _ (hgd _ (mem_good (mem_of_map (f := t0s) wT0s (r := 1001) (by decide)) rfl))) (hts _ (hgd _ (ini_good (t := 15) (by decide) (by decide)))) hv hfr (by have : wtv r = (r.map fun v => v.category).sum := rfl; omega) hd (K _ _ _ hRl hlo hl hnL)
    · obtain ⟨q, r, rfl, hs⟩ := pI_inv hstp
      obtain ⟨⟨hv, hw⟩, rfl, rfl, rfl, rfl⟩ := hs
      exact vn_i2f hx hb hls hown hlink (hts _ (hgd _ (mem_good (mem_of_map (f := t0n) wT0n (r := 1002) (by decide)) rfl))) (hts _ (hgd _ (mem_good (mem_of_map (f := t0s) wT0s (r := 1002) (by decide)) rfl))) (hts _ (hgd _ (ini_good (t := 17) (by decide) (by decide)))) hv hfr (by have : wtv r = (r.map fun v => v.category).sum := rfl; omega) hd (K _ _ _ hRl hlo hl hnL)
    · obtain ⟨q, r, rfl, hs⟩ := pD_inv hstp
      obtain ⟨hw, rfl, rfl, rfl, rfl⟩ := hs
      exact vn_d2l hx hb hls hown hlink (hts _ (hgd _ (mem_good (mem_of_map (f := t0n) wT0n (r := 1003) (by decide)) rfl))) (hts _ (hgd _ (mem_good (mem_of_map (f := t0s) wT0s (r := 1003) (by decide)) rfl))) (hts _ (hgd _ (ini_good (t := 15) (by decide) (by decide)))) hfr (by have : wtv r = (r.map fun v => v.category).sum := rfl; omega) hd (K _ _ _ hRl hlo hl hnL)
    · exact acp_sound hx hb hls hown hlink (hts _ (hgd _ (mem_good (mem_of_map (f := t0n) wT0n (r := 1004) (by decide)) rfl))) (hts _ (hgd _ (mem_good (mem_of_map (f := t0s) wT0s (r := 1004) (by decide)) rfl))) (hts _ (hgd _ (ini_good (t := 18) (by decide) (by decide)))) hK hstp hRl hlo hl hnL hfr hlcl hd K
    · obtain ⟨y, r, rfl, hs⟩ := pI_inv hstp
      obtain ⟨q, r2, e2, hs2⟩ := pI_inv hs
      subst e2
      obtain ⟨hw, rfl, rfl, rfl, rfl⟩ := hs2
      exact va_mmax hx hb hls hown hlink (hts _ (hgd _ (mem_good (mem_of_map (f := t0s) wT0s (r := 1005) (by decide)) rfl))) (hts _ (hgd _ (ini_good (t := 16) (by decide) (by decide)))) (hts _ (hgd _ (mem_good wM1005 rfl))) hfr (by have : wtv r2 = (r2.map fun v => v.category).sum := rfl; omega) (by obtain ⟨g1, g2⟩ := hz0; omega) (by obtain ⟨g1, g2⟩ := hz0; omega) hd (K _ _ _ hRl hlo hl hnL)
    · obtain ⟨y, r, rfl, hs⟩ := pI_inv hstp
      obtain ⟨q, r2, e2, hs2⟩ := pI_inv hs
      subst e2
      obtain ⟨hw, rfl, rfl, rfl, rfl⟩ := hs2
      exact va_mmin hx hb hls hown hlink (hts _ (hgd _ (mem_good (mem_of_map (f := t0s) wT0s (r := 1006) (by decide)) rfl))) (hts _ (hgd _ (ini_good (t := 16) (by decide) (by decide)))) (hts _ (hgd _ (mem_good wM1006 rfl))) hfr (by have : wtv r2 = (r2.map fun v => v.category).sum := rfl; omega) (by obtain ⟨g1, g2⟩ := hz0; omega) (by obtain ⟨g1, g2⟩ := hz0; omega) hd (K _ _ _ hRl hlo hl hnL)
    · obtain ⟨q, r, rfl, hs⟩ := pI_inv hstp
      obtain ⟨hw, rfl, rfl, rfl, rfl⟩ := hs
      exact va_mabs hx hb hls hown hlink (hts _ (hgd _ (mem_good (mem_of_map (f := t0s) wT0s (r := 1007) (by decide)) rfl))) (hts _ (hgd _ (ini_good (t := 16) (by decide) (by decide)))) (hts _ (hgd _ (mem_good wM1007 rfl))) hfr (by have : wtv r = (r.map fun v => v.category).sum := rfl; omega) (by obtain ⟨g1, g2⟩ := hz0; omega) (by obtain ⟨g1, g2⟩ := hz0; omega) hd (K _ _ _ hRl hlo hl hnL)
  · obtain ⟨n1, n2, n3, n4, n5, n6, n7⟩ := lkT1_n _ hm1
    obtain ⟨hn, hp⟩ := lkT1_k _ hm1
    have hstp : tk (n / 32 % 16) [] st fun as r => cal E (n / 512) as r (pc + 3) lv h (fun a b c d => a = pc' ∧ b = lv' ∧ c = st' ∧ d = h') := by
      unfold ivs at hstp
      split at hstp
      · exact absurd rfl n1
      · exact absurd rfl n2
      · exact absurd rfl n3
      · exact absurd rfl n4
      · exact absurd rfl n5
      · exact absurd rfl n6
      · exact absurd rfl n7
      · exact hstp
    obtain ⟨as, r, has, hst, hcal⟩ := tk_inv hstp
    rw [List.append_nil] at hcal
    obtain ⟨hw, g, rfl, rfl, v, rfl, hrun⟩ := cal_inv hE hcal
    refine run_end (va_runS (As := as) (rest := r) ⟨hx, hb, hml, hown, hts⟩ (hSE _ _ _ _ _ hrun g) ⟨mkB hts hgd hfd (mem_good (mem_of_map (f := lnW) wT1 hm1) rfl) hn hp, hts _ (hgd _ (mem_good (mem_of_map (f := stW) wT1s hm1) rfl))⟩ ⟨mPc_blind, fun U hU hW => ⟨rfl, KK.moved hW hK, by rw [hU]; exact hRl⟩⟩ rfl has (by rw [← hnL]; exact hl.1) (by exact hst) (wt_room hw) hd (room_ok hz0 g hcap)) hlo fun H1 locs1 hr1 hlo1 => WG_sum hz0 g (K _ _ _ hr1 hlo1 hl hnL)
set_option maxHeartbeats 1000000 in
theorem sn_invokespecial (C : Cx B H0 D dA RO sa p R s m args meth c cc nL o b z Ts) {E : mE} (hE : LinE E) {d : Nat} (hSE : SE l B H0 D dA RO sa d E) (hfd : d + 1 ≤ R.frames ∧ 60 * (d + 1) ≤ R.locals) {x : Nat} {i : Instr} {pc len : Nat} {lv lv' : mL} {st st' : List Value} {h h' : mH} {pc' : Nat} {H : Heap} {locs : List Loc} {ls : Array Slot}
    (hd : decode cc pc = .ok (.invokespecial x, len)) (hln : len = iln (.invokespecial x) len) (hrs : rsv o b z pc (.invokespecial x) = some i) (hstp : stp E i (pc + len) lv st h (fun a b c d => a = pc' ∧ b = lv' ∧ c = st' ∧ d = h') qNo)
    (hRl : Rl B H0 D dA RO sa h H) (hlo : lo_ok B locs) (hl : lvR ls lv) (hnL : lv.length = nL) (hz0 : gE h0 h) (hcap : hZ h' ≤ hZ h0 + R.cells ∧ hU h' ≤ hU h0 + R.slots)
    (K : ∀ H' locs' ls', Rl B H0 D dA RO sa h' H' → lo_ok B locs' → lvR ls' lv' → lv'.length = nL → WG p l e R s m args below meth c Z h0 h' H' locs' pc' ls' st') : WG p l e R s m args below meth c Z h0 h H locs pc ls st := by
  obtain ⟨hx, hb, hml, hown, hts, hgd, hK, hfr, hlcl, hini⟩ := C

  obtain rfl : len = 3 := hln
  simp only [rsv, Option.map_eq_some_iff] at hrs
  obtain ⟨n, hg, rfl⟩ := hrs
  have hm := lk_mem hg
  have hstp : ivp E n (pc + 3) lv st h (fun a b c d => a = pc' ∧ b = lv' ∧ c = st' ∧ d = h') := hstp
  have hsz : (F0 m pc ls st).locals.size = nL := by rw [← hnL]; exact hl.1
  rcases lkP_cut _ hm with hm0 | hm1 | hm1
  · have h5 := lkP0_n _ hm0
    simp only at h5
    subst h5
    obtain ⟨a, r, rfl, hs⟩ := pA_inv hstp
    obtain ⟨hw, rfl, rfl, rfl, rfl⟩ := hs
    exact W.objInit hx hb hown (hts _ (hgd _ (mem_good (mem_of_map (f := p0W) wP0 hm0) rfl))) (hts _ (hgd _ (mem_good wOi rfl))) (hts _ (hgd _ (mem_good wOc rfl))) rfl (by rw [hsz, hml]) rfl hd hfr (by have : wtv r = (r.map fun v => v.category).sum := rfl; show 2 * 0 + _ + 12 ≤ _; omega) (K _ _ _ hRl hlo hl hnL)
  · have n1 := lkP1_n _ hm1
    obtain ⟨hn, hp, hini2⟩ := lkP1_k _ hm1
    have hret := lkP1_r _ hm1
    have hstp : tk (n / 32 % 16) [] st fun as r => pA r fun a r => cal E (n / 512) (.ref a :: as) r (pc + 3) lv h (fun a b c d => a = pc' ∧ b = lv' ∧ c = st' ∧ d = h') := by
      unfold ivp at hstp
      split at hstp
      · exact absurd rfl n1
      · exact hstp
    obtain ⟨as, r, has, hst, hcal⟩ := tk_inv hstp
    rw [List.append_nil] at hcal
    obtain ⟨a, r2, e2, hcal⟩ := pA_inv hcal
    subst e2
    obtain ⟨hw, g, rfl, rfl, v, rfl, hrun⟩ := cal_inv hE hcal
    have hB := mkB (o := o) (x := x) (R := R) (mc := hZ h' - hZ h) (ms := hU h' - hU h) hts hgd hfd (mem_good (mem_of_map (f := lnW) wP1 hm1) rfl) hn hp
    simp only at hret
    rw [hret] at hB
    refine run_end (va_runI (As := as) (rest := r2) ⟨hx, hb, hml, hown, hts⟩ (hSE _ _ _ _ _ hrun g) ⟨hB, hini2, hts _ (hgd _ (mem_good (mem_of_map (f := inW) wP1i hm1) rfl))⟩ ⟨mPc_blind, fun U hU hW => ⟨rfl, KK.moved hW hK, by rw [hU]; exact hRl⟩⟩ rfl has hsz (by exact hst) (wt_room hw) hd (room_ok hz0 g hcap)) hlo fun H1 locs1 hr1 hlo1 => WG_sum hz0 g (K _ _ _ hr1 hlo1 hl hnL)
  · have n1 := lkP2_n _ hm1
    obtain ⟨hn, hp, hini2⟩ := lkP2_k _ hm1
    have hret := lkP2_r _ hm1
    have hstp : tk (n / 32 % 16) [] st fun as r => pA r fun a r => cal E (n / 512) (.ref a :: as) r (pc + 3) lv h (fun a b c d => a = pc' ∧ b = lv' ∧ c = st' ∧ d = h') := by
      unfold ivp at hstp
      split at hstp
      · exact absurd rfl n1
      · exact hstp
    obtain ⟨as, r, has, hst, hcal⟩ := tk_inv hstp
    rw [List.append_nil] at hcal
    obtain ⟨a, r2, e2, hcal⟩ := pA_inv hcal
    subst e2
    obtain ⟨hw, g, rfl, rfl, v, rfl, hrun⟩ := cal_inv hE hcal
    have hmx := mx_k _ (mR_mem (n / 512))
    have hws : wsM (n / 512) = Cond.code (mN (n / 512)) (mR (n / 512)).2.1 (mxT (n / 512)) none :: lw_good := by
      have : wsM (n / 512) = Cond.code (mN (n / 512)) (mR (n / 512)).2.1 (mxT (n / 512)) (mR (n / 512)).2.2.2.1 :: lw_good := rfl
      simp only at hret
      rw [hret] at this
      exact this
    have hcn := va_cnB (R := R) (s := s) (args := args) (own := oN o) (host := "WindPark") (index := x) (rm := rmd d (hZ h' - hZ h) (hU h' - hU h)) (mc := hZ h' - hZ h) (ms := hU h' - hU h) (n / 32 % 16) hts (goodIn_all hgd (wsM_good (n / 512))) hws rfl rfl (hK.2.2.1 _ _ _ _ (mem_of_map (f := nsW) wP2 hm1)) (hts _ (hgd _ (iniM _))) ⟨hn.1, hn.2, hp⟩ ⟨hfd.1, by show 8 + ((mR (n / 512)).2.2.1 + 11) + 60 * d ≤ R.locals; have := hfd.2; omega⟩
    refine run_end (va_runIN (As := as) (rest := r2) ⟨hx, hb, hml, hown, hts⟩ (hSE _ _ _ _ _ hrun g) ⟨hcn, hini2, hts _ (hgd _ (mem_good (mem_of_map (f := inW) wP2i hm1) rfl))⟩ ⟨mPc_blind, fun U hU hW => ⟨rfl, KK.moved hW hK, by rw [hU]; exact hRl⟩⟩ rfl has hsz (by exact hst) (wt_room hw) hd (room_ok hz0 g hcap)) hlo fun H1 locs1 hr1 hlo1 => WG_sum hz0 g (K _ _ _ hr1 hlo1 hl hnL)
set_option maxHeartbeats 1000000 in
theorem sn_invokevirtual (C : Cx B H0 D dA RO sa p R s m args meth c cc nL o b z Ts) {E : mE} (hE : LinE E) {d : Nat} (hSE : SE l B H0 D dA RO sa d E) (hfd : d + 1 ≤ R.frames ∧ 60 * (d + 1) ≤ R.locals) {x : Nat} {i : Instr} {pc len : Nat} {lv lv' : mL} {st st' : List Value} {h h' : mH} {pc' : Nat} {H : Heap} {locs : List Loc} {ls : Array Slot}
    (hd : decode cc pc = .ok (.invokevirtual x, len)) (hln : len = iln (.invokevirtual x) len) (hrs : rsv o b z pc (.invokevirtual x) = some i) (hstp : stp E i (pc + len) lv st h (fun a b c d => a = pc' ∧ b = lv' ∧ c = st' ∧ d = h') qNo)
    (hRl : Rl B H0 D dA RO sa h H) (hlo : lo_ok B locs) (hl : lvR ls lv) (hnL : lv.length = nL) (hz0 : gE h0 h) (hcap : hZ h' ≤ hZ h0 + R.cells ∧ hU h' ≤ hU h0 + R.slots)
    (K : ∀ H' locs' ls', Rl B H0 D dA RO sa h' H' → lo_ok B locs' → lvR ls' lv' → lv'.length = nL → WG p l e R s m args below meth c Z h0 h' H' locs' pc' ls' st') : WG p l e R s m args below meth c Z h0 h H locs pc ls st := by
  obtain ⟨hx, hb, hml, hown, hts, hgd, hK, hfr, hlcl, hini⟩ := C

  obtain rfl : len = 3 := hln
  simp only [rsv, Option.map_eq_some_iff] at hrs
  obtain ⟨n, hg, rfl⟩ := hrs
  have hm := lk_mem hg
  have hsz : (F0 m pc ls st).locals.size = nL := by rw [← hnL]; exact hl.1
  obtain ⟨as, r, has, hst, hcal⟩ := tk_inv hstp
  rw [List.append_nil] at hcal
  obtain ⟨a, r2, e2, hcal⟩ := pA_inv hcal
  subst e2
  rcases lkV_cut _ hm with hm1 | hm1 | hm1
  · have n1 := lkV1_n _ hm1
    obtain ⟨hn, hp, hcl, k1, k2⟩ := lkV1_k _ hm1
    have hcal : hT h a = n % 32 ∧ cal E (n / 512) (.ref a :: as) r2 (pc + 3) lv h (fun a b c d => a = pc' ∧ b = lv' ∧ c = st' ∧ d = h') := by
      unfold ivv at hcal
      split at hcal
      · rename_i q; exact absurd q n1
      · exact hcal
    obtain ⟨ht, hcal⟩ := hcal
    obtain ⟨hw, g, rfl, rfl, v, rfl, hrun⟩ := cal_inv hE hcal
    refine run_end (va_runV (C := oN (n % 32)) (As := as) (rest := r2) ⟨hx, hb, hml, hown, hts⟩ (hSE _ _ _ _ _ hrun g) ⟨mkB hts hgd hfd (mem_good (mem_of_map (f := lnW) wV1 hm1) rfl) hn hp, hts _ (hgd _ (mem_good (mem_of_map (f := inW) wV1i hm1) rfl)), hts _ (hgd _ (mem_good (mem_of_map (f := seW) wV1s hm1) rfl))⟩ ⟨mPc_blind, hRl.cell hK ht k1 k2, fun U hU hW => ⟨rfl, KK.moved hW hK, by rw [hU]; exact hRl⟩⟩ rfl has hsz (by exact hst) (wt_room hw) hd (room_ok hz0 g hcap)) hlo fun H1 locs1 hr1 hlo1 => WG_sum hz0 g (K _ _ _ hr1 hlo1 hl hnL)
  · obtain ⟨hy, hp, ht2⟩ := lkV2_k _ hm1
    simp only at hy hp ht2
    have n1 : n % 32 ≠ 31 := by omega
    have hcal : hT h a = n % 32 ∧ cal E (n / 512) (.ref a :: as) r2 (pc + 3) lv h (fun a b c d => a = pc' ∧ b = lv' ∧ c = st' ∧ d = h') := by
      unfold ivv at hcal
      split at hcal
      · rename_i q; exact absurd q n1
      · exact hcal
    obtain ⟨ht, hcal⟩ := hcal
    obtain ⟨hw, g, rfl, rfl, v, rfl, hrun⟩ := cal_inv hE hcal
    have hws : ∀ w ∈ va_wsU (oN o) x (oN (n % 32)) "WindPark$Thing" (rcN (n % 32)) (mN (n / 512)) (wsM (n / 512)), w ∈ lw_good := by
      refine List.forall_mem_append.mpr ⟨?_, wsM_good _⟩
      exact List.forall_mem_cons.mpr ⟨mem_good (mem_of_map (f := v2W) wV2 hm1) rfl, List.forall_mem_cons.mpr ⟨mem_good (mem_of_map (f := v2m) wV2m hm1) rfl, List.forall_mem_cons.mpr ⟨mem_good (mem_of_map (f := v2s) wV2s hm1) rfl, List.forall_mem_cons.mpr ⟨mem_good (mem_of_map (f := inW) wV2i hm1) rfl, List.forall_mem_cons.mpr ⟨iniM _, fun _ q => absurd q List.not_mem_nil⟩⟩⟩⟩⟩
    have hmx := mx_k _ (mR_mem (n / 512))
    have hcu := va_cwU (R := R) (rm := rmd d (hZ h' - hZ h) (hU h' - hU h)) (mc := hZ h' - hZ h) (ms := hU h' - hU h) (bytes := (mR (n / 512)).2.1) (maxL := mxT (n / 512)) (ret := (mR (n / 512)).2.2.2.1) (ws' := lw_good) (n / 32 % 16) hts (goodIn_all hgd hws) rfl rfl rfl hy ⟨by decide, by decide, by rw [hp]; exact (by decide +kernel : (parseMethodDescriptor "(II)Z").map (fun d => d.parameters.length) = some 2)⟩ ⟨hfd.1, by show 8 + ((mR (n / 512)).2.2.1 + 11) + 60 * d ≤ R.locals; have := hfd.2; omega⟩
    refine run_end (va_runU (C := oN (n % 32)) (As := as) (rest := r2) ⟨hx, hb, hml, hown, hts⟩ (hSE _ _ _ _ _ hrun g) hcu ⟨mPc_blind, hRl.cell hK ht (by omega) (by omega), fun U hU hW => ⟨rfl, KK.moved hW hK, by rw [hU]; exact hRl⟩⟩ rfl has hsz (by exact hst) (wt_room hw) hd (room_ok hz0 g hcap)) hlo fun H1 locs1 hr1 hlo1 => WG_sum hz0 g (K _ _ _ hr1 hlo1 hl hnL)
  · obtain ⟨f5, n1, hp⟩ := lkV3_k _ hm1
    simp only at f5 n1 hp
    have hcal : ∃ y, vtab (n / 512) (hT h a) = some y ∧ cal E y (.ref a :: as) r2 (pc + 3) lv h (fun a b c d => a = pc' ∧ b = lv' ∧ c = st' ∧ d = h') := by
      unfold ivv at hcal
      split at hcal
      · exact hcal
      · rename_i q; exact absurd n1 q
    obtain ⟨y, hy, hcal⟩ := hcal
    have hvm : (n / 512, hT h a, y) ∈ vtabL := lk_mem (L := vtabL) hy
    obtain ⟨-, ht, hn⟩ := vtab_k _ hvm
    simp only at ht hn
    obtain ⟨hw, g, rfl, rfl, v, rfl, hrun⟩ := cal_inv hE hcal
    have hf6 : n / 512 ∈ [0, 1, 2, 3, 4, 5] := by
      have : n / 512 = 0 ∨ n / 512 = 1 ∨ n / 512 = 2 ∨ n / 512 = 3 ∨ n / 512 = 4 ∨ n / 512 = 5 := by omega
      rcases this with q | q | q | q | q | q <;> rw [q] <;> decide
    obtain ⟨fm1, fm2⟩ := fm_k (n / 512) (by omega)
    have hws : ∀ w ∈ va_wsU (oN o) x (oN (hT h a)) "WindPark$Thing" (fmN (n / 512)) (mN y) (wsM y), w ∈ lw_good := by
      refine List.forall_mem_append.mpr ⟨?_, wsM_good _⟩
      refine List.forall_mem_cons.mpr ⟨mem_good (mem_of_map (f := v3W) wV3 hm1) rfl, List.forall_mem_cons.mpr ⟨?_, List.forall_mem_cons.mpr ⟨mem_good (mem_of_map (f := v3s) wV3s hvm) rfl, List.forall_mem_cons.mpr ⟨mem_good (mem_of_map (f := v3i) wV3i hvm) rfl, List.forall_mem_cons.mpr ⟨iniM _, fun _ q => absurd q List.not_mem_nil⟩⟩⟩⟩⟩
      rw [fm1]
      exact mem_good (mem_of_map (f := v3m) wV3m hf6) rfl
    have hmx := mx_k _ (mR_mem y)
    have hdc : va_Nw (.declares ⟨"WindPark$Thing", (fmN (n / 512)).name, (fmN (n / 512)).desc⟩) s := by
      rw [← fm2]
      exact hK.2.2.2.2.2.2.2.2.2 _ (mem_of_map (f := v3d) wV3d hf6)
    have hcu := va_cwA (R := R) (rm := rmd d (hZ h' - hZ h) (hU h' - hU h)) (mc := hZ h' - hZ h) (ms := hU h' - hU h) (bytes := (mR y).2.1) (maxL := mxT y) (ret := (mR y).2.2.2.1) (ws' := lw_good) (n / 32 % 16) hts (goodIn_all hgd hws) rfl rfl rfl hdc ⟨by decide, by decide, hp⟩ ⟨hfd.1, by show 8 + ((mR y).2.2.1 + 11) + 60 * d ≤ R.locals; have := hfd.2; omega⟩
    refine run_end (va_runU (C := oN (hT h a)) (As := as) (rest := r2) ⟨hx, hb, hml, hown, hts⟩ (hSE _ _ _ _ _ hrun g) hcu ⟨mPc_blind, hRl.cell hK rfl (by omega) (by omega), fun U hU hW => ⟨rfl, KK.moved hW hK, by rw [hU]; exact hRl⟩⟩ rfl has hsz (by exact hst) (wt_room hw) hd (room_ok hz0 g hcap)) hlo fun H1 locs1 hr1 hlo1 => WG_sum hz0 g (K _ _ _ hr1 hlo1 hl hnL)
end SC
