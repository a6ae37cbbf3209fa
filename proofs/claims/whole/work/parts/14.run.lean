/-! ===== a run of the small machine is one of the machine ===== -/
theorem rtI_no {st : List Value} {h : mH} (q : rtI st h qNo) : False := by
  unfold rtI at q; split at q <;> exact q
theorem rtZ_no {st : List Value} {h : mH} (q : rtZ st h qNo) : False := by
  unfold rtZ at q; split at q
  · exact q.2
  · exact q
theorem rtL_no {st : List Value} {h : mH} (q : rtL st h qNo) : False := by
  unfold rtL at q; split at q <;> exact q
theorem rtD_no {st : List Value} {h : mH} (q : rtD st h qNo) : False := by
  unfold rtD at q; split at q <;> exact q
theorem rtA_no {st : List Value} {h : mH} (q : rtA st h qNo) : False := by
  unfold rtA at q; split at q <;> exact q
theorem rtV_no {st : List Value} {h : mH} (q : rtV st h qNo) : False := by
  unfold rtV at q; split at q <;> exact q
def isRet (i : Instr) : Bool := match i with
  | .ireturn => true
  | .freturn => true
  | .lreturn => true
  | .dreturn => true
  | .areturn => true
  | .return_ => true
  | _ => false
set_option maxHeartbeats 1000000 in
theorem rsv_ret {o : Nat} {b z : Bool} {pc : Nat} {raw i : Instr} (hrs : rsv o b z pc raw = some i) (hr : isRet raw = false) : isRet i = false := by
  cases raw <;> first
    | exact absurd hr (by decide)
    | (cases hrs; rfl)
    | (simp only [rsv, Option.map_eq_some_iff] at hrs; obtain ⟨_, _, rfl⟩ := hrs; rfl)
    | (simp only [rsv] at hrs; split at hrs <;> first | (cases hrs; rfl) | cases hrs)
    | (simp only [rsv, Option.bind_eq_some_iff] at hrs; obtain ⟨_, _, hrs⟩ := hrs; split at hrs <;> first | (cases hrs; rfl) | cases hrs)
theorem stp_noQ {E : mE} {i : Instr} (hi : isRet i = false) {nx : Nat} {lv : mL} {st : List Value} {h : mH} {k : mK} {Q : mQ} (q : stp E i nx lv st h k Q) : stp E i nx lv st h k qNo := by
  cases i <;> first | exact absurd hi (by decide) | exact q
theorem no_ret {E : mE} (hE : LinE E) {i : Instr} (hi : isRet i = false) {nx : Nat} {lv : mL} {st : List Value} {h : mH} {Q : mQ} (q : stp E i nx lv st h (fun _ _ _ _ => False) Q) : False := by
  rcases stp_lin hE i nx lv st h _ _ (stp_noQ hi q) with ⟨_, _, _, _, _, a, _⟩ | ⟨_, _, _, a, _⟩ <;> exact a
section SR
variable {p : Program} {l : Launch} {e : Env} {R : Room} {s : State} {m : MethodId} {args : Array Value} {below : List Frame} {meth : Method} {c : Code} {Z : State → Prop} {B : Nat} {H0 : Heap} {D : va_G} {dA : Nat → ClassId} {RO : mRO} {sa : Nat → Nat} {cc : ByteArray} {nL o : Nat} {b z : Bool} {Ts : List Cond} {h0 : mH}

set_option maxHeartbeats 1000000 in
theorem sn_all (C : Cx B H0 D dA RO sa p R s m args meth c cc nL o b z Ts) {E : mE} (hE : LinE E) {d : Nat} (hSE : SE l B H0 D dA RO sa d E) (hfd : d + 1 ≤ R.frames ∧ 60 * (d + 1) ≤ R.locals) {raw : Instr} {i : Instr} {pc len : Nat} {lv lv' : mL} {st st' : List Value} {h h' : mH} {pc' : Nat} {H : Heap} {locs : List Loc} {ls : Array Slot}
    (hd : decode cc pc = .ok (raw, len)) (hln : len = iln (raw) len) (hrs : rsv o b z pc (raw) = some i) (hstp : stp E i (pc + len) lv st h (fun a b c d => a = pc' ∧ b = lv' ∧ c = st' ∧ d = h') qNo)
    (hRl : Rl B H0 D dA RO sa h H) (hlo : lo_ok B locs) (hl : lvR ls lv) (hnL : lv.length = nL) (hz0 : gE h0 h) (hcap : hZ h' ≤ hZ h0 + R.cells ∧ hU h' ≤ hU h0 + R.slots)
    (K : ∀ H' locs' ls', Rl B H0 D dA RO sa h' H' → lo_ok B locs' → lvR ls' lv' → lv'.length = nL → WG p l e R s m args below meth c Z h0 h' H' locs' pc' ls' st') : WG p l e R s m args below meth c Z h0 h H locs pc ls st := by
  cases raw
  case iadd => exact sn_iadd C hd hln hrs hstp hRl hlo hl hnL hz0 hcap K
  case isub => exact sn_isub C hd hln hrs hstp hRl hlo hl hnL hz0 hcap K
  case imul => exact sn_imul C hd hln hrs hstp hRl hlo hl hnL hz0 hcap K
  case iand => exact sn_iand C hd hln hrs hstp hRl hlo hl hnL hz0 hcap K
  case ishr => exact sn_ishr C hd hln hrs hstp hRl hlo hl hnL hz0 hcap K
  case ladd => exact sn_ladd C hd hln hrs hstp hRl hlo hl hnL hz0 hcap K
  case lsub => exact sn_lsub C hd hln hrs hstp hRl hlo hl hnL hz0 hcap K
  case lmul => exact sn_lmul C hd hln hrs hstp hRl hlo hl hnL hz0 hcap K
  case land => exact sn_land C hd hln hrs hstp hRl hlo hl hnL hz0 hcap K
  case lor => exact sn_lor C hd hln hrs hstp hRl hlo hl hnL hz0 hcap K
  case lxor => exact sn_lxor C hd hln hrs hstp hRl hlo hl hnL hz0 hcap K
  case ineg => exact sn_ineg C hd hln hrs hstp hRl hlo hl hnL hz0 hcap K
  case dneg => exact sn_dneg C hd hln hrs hstp hRl hlo hl hnL hz0 hcap K
  case i2d => exact sn_i2d C hd hln hrs hstp hRl hlo hl hnL hz0 hcap K
  case l2d => exact sn_l2d C hd hln hrs hstp hRl hlo hl hnL hz0 hcap K
  case d2i => exact sn_d2i C hd hln hrs hstp hRl hlo hl hnL hz0 hcap K
  case d2l => exact sn_d2l C hd hln hrs hstp hRl hlo hl hnL hz0 hcap K
  case idiv => exact sn_idiv C hd hln hrs hstp hRl hlo hl hnL hz0 hcap K
  case irem => exact sn_irem C hd hln hrs hstp hRl hlo hl hnL hz0 hcap K
  case ldiv => exact sn_ldiv C hd hln hrs hstp hRl hlo hl hnL hz0 hcap K
  case dadd => exact sn_dadd C hd hln hrs hstp hRl hlo hl hnL hz0 hcap K
  case dsub => exact sn_dsub C hd hln hrs hstp hRl hlo hl hnL hz0 hcap K
  case dmul => exact sn_dmul C hd hln hrs hstp hRl hlo hl hnL hz0 hcap K
  case ddiv => exact sn_ddiv C hd hln hrs hstp hRl hlo hl hnL hz0 hcap K
  case f2d => exact sn_f2d C hd hln hrs hstp hRl hlo hl hnL hz0 hcap K
  case i2l => exact sn_i2l C hd hln hrs hstp hRl hlo hl hnL hz0 hcap K
  case l2i => exact sn_l2i C hd hln hrs hstp hRl hlo hl hnL hz0 hcap K
  case i2b => exact sn_i2b C hd hln hrs hstp hRl hlo hl hnL hz0 hcap K
  case i2s => exact sn_i2s C hd hln hrs hstp hRl hlo hl hnL hz0 hcap K
  case i2c => exact sn_i2c C hd hln hrs hstp hRl hlo hl hnL hz0 hcap K
  case lshl => exact sn_lshl C hd hln hrs hstp hRl hlo hl hnL hz0 hcap K
  case lshr => exact sn_lshr C hd hln hrs hstp hRl hlo hl hnL hz0 hcap K
  case lcmp => exact sn_lcmp C hd hln hrs hstp hRl hlo hl hnL hz0 hcap K
  case aconst_null => exact sn_aconst_null C hd hln hrs hstp hRl hlo hl hnL hz0 hcap K
  case dup => exact sn_dup C hd hln hrs hstp hRl hlo hl hnL hz0 hcap K
  case dup2 => exact sn_dup2 C hd hln hrs hstp hRl hlo hl hnL hz0 hcap K
  case iaload => exact sn_iaload C hd hln hrs hstp hRl hlo hl hnL hz0 hcap K
  case laload => exact sn_laload C hd hln hrs hstp hRl hlo hl hnL hz0 hcap K
  case daload => exact sn_daload C hd hln hrs hstp hRl hlo hl hnL hz0 hcap K
  case baload => exact sn_baload C hd hln hrs hstp hRl hlo hl hnL hz0 hcap K
  case aaload => exact sn_aaload C hd hln hrs hstp hRl hlo hl hnL hz0 hcap K
  case iastore => exact sn_iastore C hd hln hrs hstp hRl hlo hl hnL hz0 hcap K
  case lastore => exact sn_lastore C hd hln hrs hstp hRl hlo hl hnL hz0 hcap K
  case dastore => exact sn_dastore C hd hln hrs hstp hRl hlo hl hnL hz0 hcap K
  case bastore => exact sn_bastore C hd hln hrs hstp hRl hlo hl hnL hz0 hcap K
  case aastore => exact sn_aastore C hd hln hrs hstp hRl hlo hl hnL hz0 hcap K
  case arraylength => exact sn_arraylength C hd hln hrs hstp hRl hlo hl hnL hz0 hcap K
  case dcmp a => exact sn_dcmp C hd hln hrs hstp hRl hlo hl hnL hz0 hcap K
  case iconst a => exact sn_iconst C hd hln hrs hstp hRl hlo hl hnL hz0 hcap K
  case bipush a => exact sn_bipush C hd hln hrs hstp hRl hlo hl hnL hz0 hcap K
  case sipush a => exact sn_sipush C hd hln hrs hstp hRl hlo hl hnL hz0 hcap K
  case lconst a => exact sn_lconst C hd hln hrs hstp hRl hlo hl hnL hz0 hcap K
  case dconst a => exact sn_dconst C hd hln hrs hstp hRl hlo hl hnL hz0 hcap K
  case iload a => exact sn_iload C hd hln hrs hstp hRl hlo hl hnL hz0 hcap K
  case lload a => exact sn_lload C hd hln hrs hstp hRl hlo hl hnL hz0 hcap K
  case dload a => exact sn_dload C hd hln hrs hstp hRl hlo hl hnL hz0 hcap K
  case aload a => exact sn_aload C hd hln hrs hstp hRl hlo hl hnL hz0 hcap K
  case iload_n a => exact sn_iload_n C hd hln hrs hstp hRl hlo hl hnL hz0 hcap K
  case lload_n a => exact sn_lload_n C hd hln hrs hstp hRl hlo hl hnL hz0 hcap K
  case dload_n a => exact sn_dload_n C hd hln hrs hstp hRl hlo hl hnL hz0 hcap K
  case aload_n a => exact sn_aload_n C hd hln hrs hstp hRl hlo hl hnL hz0 hcap K
  case istore a => exact sn_istore C hd hln hrs hstp hRl hlo hl hnL hz0 hcap K
  case lstore a => exact sn_lstore C hd hln hrs hstp hRl hlo hl hnL hz0 hcap K
  case dstore a => exact sn_dstore C hd hln hrs hstp hRl hlo hl hnL hz0 hcap K
  case astore a => exact sn_astore C hd hln hrs hstp hRl hlo hl hnL hz0 hcap K
  case istore_n a => exact sn_istore_n C hd hln hrs hstp hRl hlo hl hnL hz0 hcap K
  case lstore_n a => exact sn_lstore_n C hd hln hrs hstp hRl hlo hl hnL hz0 hcap K
  case dstore_n a => exact sn_dstore_n C hd hln hrs hstp hRl hlo hl hnL hz0 hcap K
  case astore_n a => exact sn_astore_n C hd hln hrs hstp hRl hlo hl hnL hz0 hcap K
  case getfield a => exact sn_getfield C hd hln hrs hstp hRl hlo hl hnL hz0 hcap K
  case putfield a => exact sn_putfield C hd hln hrs hstp hRl hlo hl hnL hz0 hcap K
  case getstatic a => exact sn_getstatic C hd hln hrs hstp hRl hlo hl hnL hz0 hcap K
  case ldc a => exact sn_ldc C hd hln hrs hstp hRl hlo hl hnL hz0 hcap K
  case new a => exact sn_new C hd hln hrs hstp hRl hlo hl hnL hz0 hcap K
  case newarray a => exact sn_newarray C hd hln hrs hstp hRl hlo hl hnL hz0 hcap K
  case anewarray a => exact sn_anewarray C hd hln hrs hstp hRl hlo hl hnL hz0 hcap K
  case checkcast a => exact sn_checkcast C hd hln hrs hstp hRl hlo hl hnL hz0 hcap K
  case instanceof a => exact sn_instanceof C hd hln hrs hstp hRl hlo hl hnL hz0 hcap K
  case ifnull a => exact sn_ifnull C hd hln hrs hstp hRl hlo hl hnL hz0 hcap K
  case ifnonnull a => exact sn_ifnonnull C hd hln hrs hstp hRl hlo hl hnL hz0 hcap K
  case goto a => exact sn_goto C hd hln hrs hstp hRl hlo hl hnL hz0 hcap K
  case ldc2_w a => exact sn_ldc2 C hd hln hrs hstp hRl hlo hl hnL hz0 hcap K
  case iinc a b => exact sn_iinc C hd hln hrs hstp hRl hlo hl hnL hz0 hcap K
  case ifCond a b => exact sn_ifCond C hd hln hrs hstp hRl hlo hl hnL hz0 hcap K
  case if_icmp a b => exact sn_if_icmp C hd hln hrs hstp hRl hlo hl hnL hz0 hcap K
  case if_acmp a b => exact sn_if_acmp C hd hln hrs hstp hRl hlo hl hnL hz0 hcap K
  case tableswitch a b c d => exact sn_tableswitch C hd hln hrs hstp hRl hlo hl hnL hz0 hcap K
  case invokestatic a => exact sn_invokestatic C hE hSE hfd hd hln hrs hstp hRl hlo hl hnL hz0 hcap K
  case invokespecial a => exact sn_invokespecial C hE hSE hfd hd hln hrs hstp hRl hlo hl hnL hz0 hcap K
  case invokevirtual a => exact sn_invokevirtual C hE hSE hfd hd hln hrs hstp hRl hlo hl hnL hz0 hcap K
  case ireturn =>
    cases z
    · cases hrs; exact (rtI_no hstp).elim
    · cases hrs; exact (rtZ_no hstp).elim
  case freturn => cases hrs
  case lreturn => cases hrs; exact (rtL_no hstp).elim
  case dreturn => cases hrs; exact (rtD_no hstp).elim
  case areturn => cases hrs; exact (rtA_no hstp).elim
  case return_ => cases hrs; exact (rtV_no hstp).elim
  all_goals (cases hrs; exact hstp.elim)
/-- a run, up to the end that hend speaks of -/
theorem sn_run (C : Cx B H0 D dA RO sa p R s m args meth c cc nL o b z Ts) {E : mE} (hE : LinE E) {d : Nat} (hSE : SE l B H0 D dA RO sa d E) (hfd : d + 1 ≤ R.frames ∧ 60 * (d + 1) ≤ R.locals) {cd : mC} (hck : chkA o b z cc cd) {v : Option Value} {h' : mH} (hcap : hZ h' ≤ hZ h0 + R.cells ∧ hU h' ≤ hU h0 + R.slots)
    (hend : ∀ (raw i : Instr) (pc len : Nat) (lv : mL) (st : List Value) (h : mH) (H : Heap) (locs : List Loc) (ls : Array Slot), decode cc pc = .ok (raw, len) → len = iln raw len → rsv o b z pc raw = some i → cd pc = some (i, pc + len) → stp E i (pc + len) lv st h (fun _ _ _ _ => False) (qEq v h') → Rl B H0 D dA RO sa h H → lo_ok B locs → WG p l e R s m args below meth c Z h0 h H locs pc ls st) :
    ∀ (n pc : Nat) (lv : mL) (st : List Value) (h : mH), wr E cd n pc lv st h (qEq v h') → ∀ (H : Heap) (locs : List Loc) (ls : Array Slot), Rl B H0 D dA RO sa h H → lo_ok B locs → lvR ls lv → lv.length = nL → gE h0 h → WG p l e R s m args below meth c Z h0 h H locs pc ls st := by
  intro n
  induction n with
  | zero => intro pc lv st h q; exact q.elim
  | succ n ih =>
    intro pc lv st h q H locs ls hRl hlo hl hnL hz0
    unfold wr at q
    have hc := hck pc
    cases hcd : cd pc with
    | none => rw [hcd] at q; exact q.elim
    | some r =>
      obtain ⟨i, nx⟩ := r
      rw [hcd] at q hc
      unfold chk at hc
      simp only at hc
      split at hc
      case h_2 => cases hc
      rename_i raw len hd
      simp only [Bool.and_eq_true, decide_eq_true_eq] at hc
      obtain ⟨hnx, hln, hrs⟩ := hc
      subst hnx
      rcases stp_lin hE i _ lv st h _ _ q with ⟨pc', lv', st', h2, g, a, bb⟩ | ⟨v2, h2, g, ⟨rfl, rfl⟩, bb⟩
      · obtain ⟨v3, h3, g3, ⟨e1, e2⟩, -⟩ := wr_lin hE n pc' lv' st' h2 _ a
        subst e2
        refine sn_all C hE hSE hfd hd hln hrs (bb (fun a b c d => a = pc' ∧ b = lv' ∧ c = st' ∧ d = h2) qNo ⟨rfl, rfl, rfl, rfl⟩) hRl hlo hl hnL hz0 ⟨Nat.le_trans g3.1 hcap.1, Nat.le_trans g3.2 hcap.2⟩ fun H' locs' ls' r1 r2 r3 r4 => ?_
        exact ih pc' lv' st' h2 a H' locs' ls' r1 r2 r3 r4 (hz0.t g)
      · exact hend raw i pc len lv st h H locs ls hd hln hrs hcd (bb _ _ ⟨rfl, rfl⟩) hRl hlo
end SR
/-- the contracts of all methods: at every depth, every run of the small machine -/
theorem sn_met (l : Launch) (B : Nat) (H0 : Heap) (D : va_G) (dA : Nat → ClassId) (RO : mRO) (sa : Nat → Nat) : ∀ d, SE l B H0 D dA RO sa d (EVg cdT mxT d) := by
  intro d
  induction d with
  | zero => intro y as h v h' q; exact q.elim
  | succ d ih =>
    intro y as h v h' q g
    obtain ⟨hw, n, q⟩ := q
    obtain ⟨hpl, hi1, hi2, hi3, hi4⟩ := pl_k _ (mR_mem y)
    have hrow : rowOk (mR y) := mTab_ok _ (mR_mem y)
    refine Met.ofW (cc := (mR y).2.1) (maxL := mxT y) (ret := (mR y).2.2.2.1) hpl rfl ?_
    intro p e s m args below meth c s₁ Bd hml hv
    obtain ⟨rfl, hK, hRl⟩ := hv
    have hx := Bd.exec
    have hb := Bd.bytes
    have hr := Bd.returns
    have hts := atoms_spec (ws := wsM y) Bd.pre
    have hlocks := Bd.notSynchronized
    have hown : s.vm.findClass (oN (mR y).2.2.2.2.1) = some m.cls := by
      rw [hi2]
      exact findClass_of_methodNamed Bd.named
    obtain ⟨ls, e1, hl⟩ := en_R m as (mxT y) hw
    rw [e1]
    have C : Cx B H0 D dA RO sa p (headSpec (wsM y) (rmd (d + 1) (hZ h' - hZ h) (hU h' - hU h))).room s m as.toArray meth c (mR y).2.1 (mxT y) (mR y).2.2.2.2.1 (mR y).2.2.2.2.2.1 (mR y).2.2.2.2.2.2.1 (wsM y) := by
      refine ⟨hx, hb, hml, hown, hts, fun w hw => List.mem_cons_of_mem _ hw, hK, Nat.le_add_left 1 d, by show 60 ≤ 60 * (d + 1); omega, fun hi => ?_⟩
      exact ((name_of_methodNamed Bd.named Bd.method).1).trans (hi1 hi)
    have main := sn_run (l := l) (e := e) (below := below) (Z := MQ below (mQc B H0 D dA RO sa v h') as.toArray s (hZ h' - hZ h) (hU h' - hU h) (fun q => B ≤ q)) (h0 := h) C (EVg_lin cdT mxT d) ih ⟨Nat.le_refl _, Nat.le_refl _⟩ (cd := cdT y) hrow (v := v) (h' := h') (by obtain ⟨g1, g2⟩ := g; show hZ h' ≤ hZ h + (hZ h' - hZ h) ∧ hU h' ≤ hU h + (hU h' - hU h); omega) ?_ n 0 (en as (mxT y)) [] h q s.heap [] ls hRl (fun q hq => absurd hq List.not_mem_nil) hl (en_len as _ hw) (gE.r h)
    · unfold WG at main
      rw [Nat.sub_self, Nat.sub_self] at main
      exact main
    · intro raw i pc len lv st h2 H locs ls2 hd hln hrs hcd hstp hRl2 hlo
      have hrt := rt_ok _ (mR_mem y) pc
      have hcd2 : (mR y).2.2.2.2.2.2.2 pc = some (i, pc + len) := hcd
      rw [hcd2] at hrt
      have fin : ∀ (u : Option Value), u = v → h2 = h' → ∀ t : State, t.heap = H → s.WarmedH t.vm → mQc B H0 D dA RO sa v h' as.toArray s (.returned u) t := by
        intro u e1 e2 t ht hW
        exact ⟨by rw [e1], by rw [ht, ← e2]; exact hRl2⟩
      cases raw
      case ireturn =>
        obtain rfl : len = 1 := hln
        cases hz : (mR y).2.2.2.2.2.2.1 with
        | false =>
          rw [hz] at hrs
          cases hrs
          have hrt : (mR y).2.2.2.1 = some .int := by simpa [rtk] using hrt
          have hs : rtI st h2 (qEq v h') := hstp
          unfold rtI at hs
          split at hs
          case h_2 => exact hs.elim
          rename_i u
          obtain ⟨a1, a2⟩ := hs
          subst a2
          exact W.iret hx hb (by rw [hr]; exact hrt) (fin _ a1 rfl) hlo hd
        | true =>
          rw [hz] at hrs
          cases hrs
          have hrt : (mR y).2.2.2.1 = some .boolean := by simpa [rtk] using hrt
          have hs : rtZ st h2 (qEq v h') := hstp
          unfold rtZ at hs
          split at hs
          case h_2 => exact hs.elim
          rename_i u
          obtain ⟨a0, a1, a2⟩ := hs
          subst a2
          exact W.zret hx hb (by rw [hr]; exact hrt) (by rcases a0 with rfl | rfl <;> rfl) (fin _ a1 rfl) hlo hd
      case freturn => cases hrs
      case lreturn =>
        obtain rfl : len = 1 := hln
        cases hrs
        have hrt : (mR y).2.2.2.1 = some .long := by simpa [rtk] using hrt
        have hs : rtL st h2 (qEq v h') := hstp
        unfold rtL at hs
        split at hs
        case h_2 => exact hs.elim
        rename_i u
        obtain ⟨a1, a2⟩ := hs
        subst a2
        exact W.lret hx hb (by rw [hr]; exact hrt) (fin _ a1 rfl) hlo hd
      case dreturn =>
        obtain rfl : len = 1 := hln
        cases hrs
        have hrt : (mR y).2.2.2.1 = some .double := by simpa [rtk] using hrt
        have hs : rtD st h2 (qEq v h') := hstp
        unfold rtD at hs
        split at hs
        case h_2 => exact hs.elim
        rename_i u
        obtain ⟨a1, a2⟩ := hs
        subst a2
        exact W.dret hx hb (by rw [hr]; exact hrt) (fin _ a1 rfl) hlo hd
      case areturn =>
        obtain rfl : len = 1 := hln
        cases hrs
        have hrt : ∃ n, (mR y).2.2.2.1 = some (.object n) := by
          simp only [rtk] at hrt
          split at hrt
          · rename_i n e; exact ⟨n, e⟩
          · cases hrt
        obtain ⟨nm, hrt⟩ := hrt
        have hs : rtA st h2 (qEq v h') := hstp
        unfold rtA at hs
        split at hs
        case h_3 => exact hs.elim
        · rename_i u
          obtain ⟨a1, a2⟩ := hs
          subst a2
          exact W.aret hx hb (by rw [hr]; exact hrt) (.inl ⟨_, rfl⟩) (.inr ⟨_, rfl⟩) (fin _ a1 rfl) hlo hd
        · obtain ⟨a1, a2⟩ := hs
          subst a2
          exact W.aret hx hb (by rw [hr]; exact hrt) (.inl ⟨_, rfl⟩) (.inl rfl) (fin _ a1 rfl) hlo hd
      case return_ =>
        obtain rfl : len = 1 := hln
        cases hrs
        have hrt : (mR y).2.2.2.1 = none := by simpa [rtk] using hrt
        have hs : rtV st h2 (qEq v h') := hstp
        unfold rtV at hs
        split at hs
        case h_2 => exact hs.elim
        obtain ⟨a1, a2⟩ := hs
        subst a2
        exact W.vret hx hb (by rw [hr]; exact hrt) (fin _ a1 rfl) hlo hd
      all_goals (exfalso; exact no_ret (EVg_lin cdT mxT d) (rsv_ret hrs rfl) hstp)

