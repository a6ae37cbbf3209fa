/-! ===== rows to walk methods of the small machine ===== -/
noncomputable abbrev EV : Nat → mE := EVg cdT mxT
def WR (d : Nat) (cd : mC) (pc : Nat) (lv : mL) (st : List Value) (h : mH) (Q : mQ) : Prop := ∃ n, wr (EV d) cd n pc lv st h Q
theorem EV_mono {d y : Nat} {as : List Value} {h : mH} {Q Q' : mQ} (q : EV d y as h Q) (hQ : ∀ v h', Q v h' → Q' v h') : EV d y as h Q' := by
  obtain ⟨v, h', -, a, b⟩ := EVg_lin cdT mxT d y as h Q q
  exact b _ (hQ _ _ a)
theorem EV_gE {d y : Nat} {as : List Value} {h : mH} {Q : mQ} (q : EV d y as h Q) : EV d y as h (fun v h' => gE h h' ∧ Q v h') := by
  obtain ⟨v, h', g, a, b⟩ := EVg_lin cdT mxT d y as h Q q
  exact b _ ⟨g, a⟩
theorem WR_mono {d : Nat} {cd : mC} {pc : Nat} {lv : mL} {st : List Value} {h : mH} {Q Q' : mQ} (q : WR d cd pc lv st h Q) (hQ : ∀ v h', Q v h' → Q' v h') : WR d cd pc lv st h Q' := by
  obtain ⟨n, q⟩ := q
  obtain ⟨v, h', -, a, b⟩ := wr_lin (EVg_lin cdT mxT d) n pc lv st h Q q
  exact ⟨n, b _ (hQ _ _ a)⟩
theorem WR_wit {d : Nat} {cd : mC} {pc : Nat} {lv : mL} {st : List Value} {h : mH} {Q : mQ} (q : WR d cd pc lv st h Q) : ∃ v h', Q v h' ∧ WR d cd pc lv st h (qEq v h') := by
  obtain ⟨n, q⟩ := q
  obtain ⟨v, h', -, a, b⟩ := wr_lin (EVg_lin cdT mxT d) n pc lv st h Q q
  exact ⟨v, h', a, n, b _ ⟨rfl, rfl⟩⟩
theorem EV_in {d y mx : Nat} {cd : mC} {as : List Value} {h : mH} {Q : mQ} (h1 : cdT y = cd) (h2 : mxT y = mx) (hw : wtv as ≤ mx) (q : WR d cd 0 (en as mx) [] h Q) : EV (d + 1) y as h Q := by
  subst h1; subst h2
  exact ⟨hw, q⟩
/-- a step out of one way: k is the goal behind it -/
theorem WR_s {d : Nat} {cd : mC} {pc nx : Nat} {i : Instr} {lv : mL} {st : List Value} {h : mH} {Q : mQ} (hf : cd pc = some (i, nx)) (q : ∃ n, stp (EV d) i nx lv st h (fun pc lv st h => wr (EV d) cd n pc lv st h Q) Q) : WR d cd pc lv st h Q := by
  obtain ⟨n, q⟩ := q
  refine ⟨n + 1, ?_⟩
  unfold wr
  rw [hf]
  exact q
section RR
variable {d : Nat} {cd : mC} {pc nx : Nat} {lv lv' : mL} {st : List Value} {h : mH} {Q : mQ}

theorem r_ic {v : Int} {x : Int32} (hf : cd pc = some (.sipush v, nx)) (hx : Int32.ofInt v = x) (k : WR d cd nx lv (.int x :: st) h Q) : WR d cd pc lv st h Q := by
  obtain ⟨n, k⟩ := k
  subst hx
  exact WR_s hf ⟨n, k⟩
theorem r_lc {v : Fin 2} {x : Int64} (hf : cd pc = some (.lconst v, nx)) (hx : Int64.ofNat v.val = x) (k : WR d cd nx lv (.long x :: st) h Q) : WR d cd pc lv st h Q := by
  obtain ⟨n, k⟩ := k
  subst hx
  exact WR_s hf ⟨n, k⟩
theorem r_dc {v : Fin 2} {x : UInt64} (hf : cd pc = some (.dconst v, nx)) (hx : (if v.val = 0 then 0 else 4607182418800017408) = x) (k : WR d cd nx lv (.double x :: st) h Q) : WR d cd pc lv st h Q := by
  obtain ⟨n, k⟩ := k
  subst hx
  exact WR_s hf ⟨n, k⟩
theorem r_ldc {v : Nat} {x : Value} (hf : cd pc = some (.ldc2_w v, nx)) (hx : cst.getD v .null = x) (k : WR d cd nx lv (x :: st) h Q) : WR d cd pc lv st h Q := by
  obtain ⟨n, k⟩ := k
  subst hx
  exact WR_s hf ⟨n, k⟩
theorem r_null (hf : cd pc = some (.aconst_null, nx)) (k : WR d cd nx lv (.null :: st) h Q) : WR d cd pc lv st h Q := by
  obtain ⟨n, k⟩ := k
  exact WR_s hf ⟨n, k⟩
theorem r_iload {i : Nat} {x : Int32} (hf : cd pc = some (.iload i, nx)) (hl : lv[i]? = some (some (.int x))) (k : WR d cd nx lv (.int x :: st) h Q) : WR d cd pc lv st h Q := by
  obtain ⟨n, k⟩ := k
  exact WR_s hf ⟨n, by show gI lv i _; unfold gI; rw [hl]; exact k⟩
theorem r_lload {i : Nat} {x : Int64} (hf : cd pc = some (.lload i, nx)) (hl : lv[i]? = some (some (.long x))) (k : WR d cd nx lv (.long x :: st) h Q) : WR d cd pc lv st h Q := by
  obtain ⟨n, k⟩ := k
  exact WR_s hf ⟨n, by show gL lv i _; unfold gL; rw [hl]; exact k⟩
theorem r_dload {i : Nat} {x : UInt64} (hf : cd pc = some (.dload i, nx)) (hl : lv[i]? = some (some (.double x))) (k : WR d cd nx lv (.double x :: st) h Q) : WR d cd pc lv st h Q := by
  obtain ⟨n, k⟩ := k
  exact WR_s hf ⟨n, by show gD lv i _; unfold gD; rw [hl]; exact k⟩
theorem r_aload {i a : Nat} (hf : cd pc = some (.aload i, nx)) (hl : lv[i]? = some (some (.ref a))) (k : WR d cd nx lv (.ref a :: st) h Q) : WR d cd pc lv st h Q := by
  obtain ⟨n, k⟩ := k
  exact WR_s hf ⟨n, by simp only [stp]; unfold gR; rw [hl]; exact k⟩
theorem r_aloadq {i : Nat} {x : Option Nat} (hf : cd pc = some (.aload i, nx)) (hl : lv[i]? = some (some (va_rf x))) (k : WR d cd nx lv (va_rf x :: st) h Q) : WR d cd pc lv st h Q := by
  obtain ⟨n, k⟩ := k
  exact WR_s hf ⟨n, by simp only [stp]; unfold gR; rw [hl]; cases x <;> exact k⟩
theorem r_aload0 {i : Nat} (hf : cd pc = some (.aload i, nx)) (hl : lv[i]? = some (some .null)) (k : WR d cd nx lv (.null :: st) h Q) : WR d cd pc lv st h Q := by
  obtain ⟨n, k⟩ := k
  exact WR_s hf ⟨n, by simp only [stp]; unfold gR; rw [hl]; exact k⟩
theorem r_istore {i : Nat} {x : Int32} (hf : cd pc = some (.istore i, nx)) (hn : i < lv.length) (hl : t1 lv i (.int x) = lv') (k : WR d cd nx lv' st h Q) : WR d cd pc lv (.int x :: st) h Q := by
  obtain ⟨n, k⟩ := k
  subst hl
  exact WR_s hf ⟨n, hn, k⟩
theorem r_lstore {i : Nat} {x : Int64} (hf : cd pc = some (.lstore i, nx)) (hn : i + 1 < lv.length) (hl : t2 lv i (.long x) = lv') (k : WR d cd nx lv' st h Q) : WR d cd pc lv (.long x :: st) h Q := by
  obtain ⟨n, k⟩ := k
  subst hl
  exact WR_s hf ⟨n, hn, k⟩
theorem r_dstore {i : Nat} {x : UInt64} (hf : cd pc = some (.dstore i, nx)) (hn : i + 1 < lv.length) (hl : t2 lv i (.double x) = lv') (k : WR d cd nx lv' st h Q) : WR d cd pc lv (.double x :: st) h Q := by
  obtain ⟨n, k⟩ := k
  subst hl
  exact WR_s hf ⟨n, hn, k⟩
theorem r_astore {i : Nat} {a : Nat} (hf : cd pc = some (.astore i, nx)) (hn : i < lv.length) (hl : t1 lv i (.ref a) = lv') (k : WR d cd nx lv' st h Q) : WR d cd pc lv ((.ref a) :: st) h Q := by
  obtain ⟨n, k⟩ := k
  subst hl
  exact WR_s hf ⟨n, hn, k⟩
theorem r_astore0 {i : Nat} (hf : cd pc = some (.astore i, nx)) (hn : i < lv.length) (hl : t1 lv i .null = lv') (k : WR d cd nx lv' st h Q) : WR d cd pc lv (.null :: st) h Q := by
  obtain ⟨n, k⟩ := k
  subst hl
  exact WR_s hf ⟨n, hn, k⟩
theorem r_astoreq {i : Nat} {a : Option Nat} (hf : cd pc = some (.astore i, nx)) (hn : i < lv.length) (hl : t1 lv i (va_rf a) = lv') (k : WR d cd nx lv' st h Q) : WR d cd pc lv ((va_rf a) :: st) h Q := by
  obtain ⟨n, k⟩ := k
  subst hl
  cases a <;> exact WR_s hf ⟨n, hn, k⟩
theorem r_iinc {i : Nat} {c : Int} {x y : Int32} (hf : cd pc = some (.iinc i c, nx)) (hl : lv[i]? = some (some (.int x))) (hy : x + Int32.ofInt c = y) (hl' : t1 lv i (.int y) = lv') (k : WR d cd nx lv' st h Q) : WR d cd pc lv st h Q := by
  obtain ⟨n, k⟩ := k
  subst hl'; subst hy
  exact WR_s hf ⟨n, by show gI lv i _; unfold gI; rw [hl]; exact k⟩
theorem r_iadd {x y : Int32} (hf : cd pc = some (.iadd, nx)) (k : WR d cd nx lv (.int (x + y) :: st) h Q) : WR d cd pc lv (.int y :: .int x :: st) h Q := by
  obtain ⟨n, k⟩ := k
  exact WR_s hf ⟨n, k⟩
theorem r_isub {x y : Int32} (hf : cd pc = some (.isub, nx)) (k : WR d cd nx lv (.int (x - y) :: st) h Q) : WR d cd pc lv (.int y :: .int x :: st) h Q := by
  obtain ⟨n, k⟩ := k
  exact WR_s hf ⟨n, k⟩
theorem r_imul {x y : Int32} (hf : cd pc = some (.imul, nx)) (k : WR d cd nx lv (.int (x * y) :: st) h Q) : WR d cd pc lv (.int y :: .int x :: st) h Q := by
  obtain ⟨n, k⟩ := k
  exact WR_s hf ⟨n, k⟩
theorem r_iand {x y : Int32} (hf : cd pc = some (.iand, nx)) (k : WR d cd nx lv (.int (x &&& y) :: st) h Q) : WR d cd pc lv (.int y :: .int x :: st) h Q := by
  obtain ⟨n, k⟩ := k
  exact WR_s hf ⟨n, k⟩
theorem r_ishr {x y : Int32} (hf : cd pc = some (.ishr, nx)) (k : WR d cd nx lv (.int (x >>> (y &&& 31)) :: st) h Q) : WR d cd pc lv (.int y :: .int x :: st) h Q := by
  obtain ⟨n, k⟩ := k
  exact WR_s hf ⟨n, k⟩
theorem r_idiv {x y : Int32} (hf : cd pc = some (.idiv, nx)) (h0 : ¬ y = 0) (k : WR d cd nx lv (.int (x / y) :: st) h Q) : WR d cd pc lv (.int y :: .int x :: st) h Q := by
  obtain ⟨n, k⟩ := k
  exact WR_s hf ⟨n, h0, k⟩
theorem r_irem {x y : Int32} (hf : cd pc = some (.irem, nx)) (h0 : ¬ y = 0) (k : WR d cd nx lv (.int (x - x / y * y) :: st) h Q) : WR d cd pc lv (.int y :: .int x :: st) h Q := by
  obtain ⟨n, k⟩ := k
  exact WR_s hf ⟨n, h0, k⟩
theorem r_ineg {x : Int32} (hf : cd pc = some (.ineg, nx)) (k : WR d cd nx lv (.int (-x) :: st) h Q) : WR d cd pc lv (.int x :: st) h Q := by
  obtain ⟨n, k⟩ := k
  exact WR_s hf ⟨n, k⟩
theorem r_ladd {x y : Int64} (hf : cd pc = some (.ladd, nx)) (k : WR d cd nx lv (.long (x + y) :: st) h Q) : WR d cd pc lv (.long y :: .long x :: st) h Q := by
  obtain ⟨n, k⟩ := k
  exact WR_s hf ⟨n, k⟩
theorem r_lsub {x y : Int64} (hf : cd pc = some (.lsub, nx)) (k : WR d cd nx lv (.long (x - y) :: st) h Q) : WR d cd pc lv (.long y :: .long x :: st) h Q := by
  obtain ⟨n, k⟩ := k
  exact WR_s hf ⟨n, k⟩
theorem r_lmul {x y : Int64} (hf : cd pc = some (.lmul, nx)) (k : WR d cd nx lv (.long (x * y) :: st) h Q) : WR d cd pc lv (.long y :: .long x :: st) h Q := by
  obtain ⟨n, k⟩ := k
  exact WR_s hf ⟨n, k⟩
theorem r_land {x y : Int64} (hf : cd pc = some (.land, nx)) (k : WR d cd nx lv (.long (x &&& y) :: st) h Q) : WR d cd pc lv (.long y :: .long x :: st) h Q := by
  obtain ⟨n, k⟩ := k
  exact WR_s hf ⟨n, k⟩
theorem r_lor {x y : Int64} (hf : cd pc = some (.lor, nx)) (k : WR d cd nx lv (.long (x ||| y) :: st) h Q) : WR d cd pc lv (.long y :: .long x :: st) h Q := by
  obtain ⟨n, k⟩ := k
  exact WR_s hf ⟨n, k⟩
theorem r_lxor {x y : Int64} (hf : cd pc = some (.lxor, nx)) (k : WR d cd nx lv (.long (x ^^^ y) :: st) h Q) : WR d cd pc lv (.long y :: .long x :: st) h Q := by
  obtain ⟨n, k⟩ := k
  exact WR_s hf ⟨n, k⟩
theorem r_ldiv {x y : Int64} (hf : cd pc = some (.ldiv, nx)) (h0 : ¬ y = 0) (k : WR d cd nx lv (.long (x / y) :: st) h Q) : WR d cd pc lv (.long y :: .long x :: st) h Q := by
  obtain ⟨n, k⟩ := k
  exact WR_s hf ⟨n, h0, k⟩
theorem r_lshl {x : Int64} {y : Int32} (hf : cd pc = some (.lshl, nx)) (k : WR d cd nx lv (.long (x <<< (y.toInt64 &&& 63)) :: st) h Q) : WR d cd pc lv (.int y :: .long x :: st) h Q := by
  obtain ⟨n, k⟩ := k
  exact WR_s hf ⟨n, k⟩
theorem r_lshr {x : Int64} {y : Int32} (hf : cd pc = some (.lshr, nx)) (k : WR d cd nx lv (.long (x >>> (y.toInt64 &&& 63)) :: st) h Q) : WR d cd pc lv (.int y :: .long x :: st) h Q := by
  obtain ⟨n, k⟩ := k
  exact WR_s hf ⟨n, k⟩
theorem r_lcmp {x y : Int64} (hf : cd pc = some (.lcmp, nx)) (k : WR d cd nx lv (.int (lg_cmp x y) :: st) h Q) : WR d cd pc lv (.long y :: .long x :: st) h Q := by
  obtain ⟨n, k⟩ := k
  exact WR_s hf ⟨n, k⟩
theorem r_dcmp {x y : UInt64} {op : CmpOp} (hf : cd pc = some (.dcmp op, nx)) (k : WR d cd nx lv (.int (Op.cmpValue (FP.dcmp x y) op) :: st) h Q) : WR d cd pc lv (.double y :: .double x :: st) h Q := by
  obtain ⟨n, k⟩ := k
  exact WR_s hf ⟨n, k⟩
theorem r_dadd {x y : UInt64} (hf : cd pc = some (.dadd, nx)) (h0 : vf_n64 (FP.dadd x y)) (k : WR d cd nx lv (.double (FP.dadd x y) :: st) h Q) : WR d cd pc lv (.double y :: .double x :: st) h Q := by
  obtain ⟨n, k⟩ := k
  exact WR_s hf ⟨n, h0, k⟩
theorem r_dsub {x y : UInt64} (hf : cd pc = some (.dsub, nx)) (h0 : vf_n64 (FP.dsub x y)) (k : WR d cd nx lv (.double (FP.dsub x y) :: st) h Q) : WR d cd pc lv (.double y :: .double x :: st) h Q := by
  obtain ⟨n, k⟩ := k
  exact WR_s hf ⟨n, h0, k⟩
theorem r_dmul {x y : UInt64} (hf : cd pc = some (.dmul, nx)) (h0 : vf_n64 (FP.dmul x y)) (k : WR d cd nx lv (.double (FP.dmul x y) :: st) h Q) : WR d cd pc lv (.double y :: .double x :: st) h Q := by
  obtain ⟨n, k⟩ := k
  exact WR_s hf ⟨n, h0, k⟩
theorem r_ddiv {x y : UInt64} (hf : cd pc = some (.ddiv, nx)) (h0 : vf_n64 (FP.ddiv x y)) (k : WR d cd nx lv (.double (FP.ddiv x y) :: st) h Q) : WR d cd pc lv (.double y :: .double x :: st) h Q := by
  obtain ⟨n, k⟩ := k
  exact WR_s hf ⟨n, h0, k⟩
theorem r_dneg {x : UInt64} (hf : cd pc = some (.dneg, nx)) (k : WR d cd nx lv (.double (FP.dneg x) :: st) h Q) : WR d cd pc lv (.double x :: st) h Q := by
  obtain ⟨n, k⟩ := k
  exact WR_s hf ⟨n, k⟩
theorem r_i2l {x : Int32} (hf : cd pc = some (.i2l, nx)) (k : WR d cd nx lv (.long x.toInt64 :: st) h Q) : WR d cd pc lv (.int x :: st) h Q := by
  obtain ⟨n, k⟩ := k
  exact WR_s hf ⟨n, k⟩
theorem r_i2b {x : Int32} (hf : cd pc = some (.i2b, nx)) (k : WR d cd nx lv (.int x.toInt8.toInt32 :: st) h Q) : WR d cd pc lv (.int x :: st) h Q := by
  obtain ⟨n, k⟩ := k
  exact WR_s hf ⟨n, k⟩
theorem r_i2s {x : Int32} (hf : cd pc = some (.i2s, nx)) (k : WR d cd nx lv (.int x.toInt16.toInt32 :: st) h Q) : WR d cd pc lv (.int x :: st) h Q := by
  obtain ⟨n, k⟩ := k
  exact WR_s hf ⟨n, k⟩
theorem r_i2c {x : Int32} (hf : cd pc = some (.i2c, nx)) (k : WR d cd nx lv (.int (x.toUInt32 % 65536).toInt32 :: st) h Q) : WR d cd pc lv (.int x :: st) h Q := by
  obtain ⟨n, k⟩ := k
  exact WR_s hf ⟨n, k⟩
theorem r_i2d {x : Int32} (hf : cd pc = some (.i2d, nx)) (k : WR d cd nx lv (.double (FP.i2d x) :: st) h Q) : WR d cd pc lv (.int x :: st) h Q := by
  obtain ⟨n, k⟩ := k
  exact WR_s hf ⟨n, k⟩
theorem r_l2i {x : Int64} (hf : cd pc = some (.l2i, nx)) (k : WR d cd nx lv (.int x.toInt32 :: st) h Q) : WR d cd pc lv (.long x :: st) h Q := by
  obtain ⟨n, k⟩ := k
  exact WR_s hf ⟨n, k⟩
theorem r_l2d {x : Int64} (hf : cd pc = some (.l2d, nx)) (k : WR d cd nx lv (.double (FP.l2d x) :: st) h Q) : WR d cd pc lv (.long x :: st) h Q := by
  obtain ⟨n, k⟩ := k
  exact WR_s hf ⟨n, k⟩
theorem r_d2i {x : UInt64} (hf : cd pc = some (.d2i, nx)) (k : WR d cd nx lv (.int (FP.d2i x) :: st) h Q) : WR d cd pc lv (.double x :: st) h Q := by
  obtain ⟨n, k⟩ := k
  exact WR_s hf ⟨n, k⟩
theorem r_d2l {x : UInt64} (hf : cd pc = some (.d2l, nx)) (k : WR d cd nx lv (.long (FP.d2l x) :: st) h Q) : WR d cd pc lv (.double x :: st) h Q := by
  obtain ⟨n, k⟩ := k
  exact WR_s hf ⟨n, k⟩
theorem r_f2d {x : UInt32} (hf : cd pc = some (.f2d, nx)) (h0 : vf_n64 (FP.f2d x)) (k : WR d cd nx lv (.double (FP.f2d x) :: st) h Q) : WR d cd pc lv (.float x :: st) h Q := by
  obtain ⟨n, k⟩ := k
  exact WR_s hf ⟨n, h0, k⟩
theorem r_dup {v : Value} (hf : cd pc = some (.dup, nx)) (hv : v.category = 1) (k : WR d cd nx lv (v :: v :: st) h Q) : WR d cd pc lv (v :: st) h Q := by
  obtain ⟨n, k⟩ := k
  exact WR_s hf ⟨n, hv, k⟩
theorem r_dup2 {v u : Value} (hf : cd pc = some (.dup2, nx)) (hv : v.category = 1) (hu : u.category = 1) (k : WR d cd nx lv (v :: u :: v :: u :: st) h Q) : WR d cd pc lv (v :: u :: st) h Q := by
  obtain ⟨n, k⟩ := k
  exact WR_s hf ⟨n, ⟨hv, hu⟩, k⟩
theorem r_if_eq {x : Int32} {t : Int} {tg : Nat} (hf : cd pc = some (.ifCond .eq t, nx)) (ht : t.toNat = tg) (kt : x = 0 → WR d cd tg lv st h Q) (kf : ¬ x = 0 → WR d cd nx lv st h Q) : WR d cd pc lv (.int x :: st) h Q := by
  subst ht
  by_cases q : x = 0
  · obtain ⟨n, k⟩ := kt q
    exact WR_s hf ⟨n, fun _ => k, fun z => absurd q z⟩
  · obtain ⟨n, k⟩ := kf q
    exact WR_s hf ⟨n, fun z => absurd z q, fun _ => k⟩
theorem r_icmp_eq {x y : Int32} {t : Int} {tg : Nat} (hf : cd pc = some (.if_icmp .eq t, nx)) (ht : t.toNat = tg) (kt : x = y → WR d cd tg lv st h Q) (kf : ¬ x = y → WR d cd nx lv st h Q) : WR d cd pc lv (.int y :: .int x :: st) h Q := by
  subst ht
  by_cases q : x = y
  · obtain ⟨n, k⟩ := kt q
    exact WR_s hf ⟨n, fun _ => k, fun z => absurd q z⟩
  · obtain ⟨n, k⟩ := kf q
    exact WR_s hf ⟨n, fun z => absurd z q, fun _ => k⟩
theorem r_if_ne {x : Int32} {t : Int} {tg : Nat} (hf : cd pc = some (.ifCond .ne t, nx)) (ht : t.toNat = tg) (kt : ¬ x = 0 → WR d cd tg lv st h Q) (kf : x = 0 → WR d cd nx lv st h Q) : WR d cd pc lv (.int x :: st) h Q := by
  subst ht
  by_cases q : x = 0
  · obtain ⟨n, k⟩ := kf q
    exact WR_s hf ⟨n, fun z => absurd q z, fun _ => k⟩
  · obtain ⟨n, k⟩ := kt q
    exact WR_s hf ⟨n, fun _ => k, fun z => absurd z q⟩
theorem r_icmp_ne {x y : Int32} {t : Int} {tg : Nat} (hf : cd pc = some (.if_icmp .ne t, nx)) (ht : t.toNat = tg) (kt : ¬ x = y → WR d cd tg lv st h Q) (kf : x = y → WR d cd nx lv st h Q) : WR d cd pc lv (.int y :: .int x :: st) h Q := by
  subst ht
  by_cases q : x = y
  · obtain ⟨n, k⟩ := kf q
    exact WR_s hf ⟨n, fun z => absurd q z, fun _ => k⟩
  · obtain ⟨n, k⟩ := kt q
    exact WR_s hf ⟨n, fun _ => k, fun z => absurd z q⟩
theorem r_if_lt {x : Int32} {t : Int} {tg : Nat} (hf : cd pc = some (.ifCond .lt t, nx)) (ht : t.toNat = tg) (kt : x < 0 → WR d cd tg lv st h Q) (kf : ¬ x < 0 → WR d cd nx lv st h Q) : WR d cd pc lv (.int x :: st) h Q := by
  subst ht
  by_cases q : x < 0
  · obtain ⟨n, k⟩ := kt q
    exact WR_s hf ⟨n, fun _ => k, fun z => absurd q z⟩
  · obtain ⟨n, k⟩ := kf q
    exact WR_s hf ⟨n, fun z => absurd z q, fun _ => k⟩
theorem r_icmp_lt {x y : Int32} {t : Int} {tg : Nat} (hf : cd pc = some (.if_icmp .lt t, nx)) (ht : t.toNat = tg) (kt : x < y → WR d cd tg lv st h Q) (kf : ¬ x < y → WR d cd nx lv st h Q) : WR d cd pc lv (.int y :: .int x :: st) h Q := by
  subst ht
  by_cases q : x < y
  · obtain ⟨n, k⟩ := kt q
    exact WR_s hf ⟨n, fun _ => k, fun z => absurd q z⟩
  · obtain ⟨n, k⟩ := kf q
    exact WR_s hf ⟨n, fun z => absurd z q, fun _ => k⟩
theorem r_if_ge {x : Int32} {t : Int} {tg : Nat} (hf : cd pc = some (.ifCond .ge t, nx)) (ht : t.toNat = tg) (kt : 0 ≤ x → WR d cd tg lv st h Q) (kf : ¬ 0 ≤ x → WR d cd nx lv st h Q) : WR d cd pc lv (.int x :: st) h Q := by
  subst ht
  by_cases q : 0 ≤ x
  · obtain ⟨n, k⟩ := kt q
    exact WR_s hf ⟨n, fun _ => k, fun z => absurd q z⟩
  · obtain ⟨n, k⟩ := kf q
    exact WR_s hf ⟨n, fun z => absurd z q, fun _ => k⟩
theorem r_icmp_ge {x y : Int32} {t : Int} {tg : Nat} (hf : cd pc = some (.if_icmp .ge t, nx)) (ht : t.toNat = tg) (kt : y ≤ x → WR d cd tg lv st h Q) (kf : ¬ y ≤ x → WR d cd nx lv st h Q) : WR d cd pc lv (.int y :: .int x :: st) h Q := by
  subst ht
  by_cases q : y ≤ x
  · obtain ⟨n, k⟩ := kt q
    exact WR_s hf ⟨n, fun _ => k, fun z => absurd q z⟩
  · obtain ⟨n, k⟩ := kf q
    exact WR_s hf ⟨n, fun z => absurd z q, fun _ => k⟩
theorem r_if_gt {x : Int32} {t : Int} {tg : Nat} (hf : cd pc = some (.ifCond .gt t, nx)) (ht : t.toNat = tg) (kt : 0 < x → WR d cd tg lv st h Q) (kf : ¬ 0 < x → WR d cd nx lv st h Q) : WR d cd pc lv (.int x :: st) h Q := by
  subst ht
  by_cases q : 0 < x
  · obtain ⟨n, k⟩ := kt q
    exact WR_s hf ⟨n, fun _ => k, fun z => absurd q z⟩
  · obtain ⟨n, k⟩ := kf q
    exact WR_s hf ⟨n, fun z => absurd z q, fun _ => k⟩
theorem r_icmp_gt {x y : Int32} {t : Int} {tg : Nat} (hf : cd pc = some (.if_icmp .gt t, nx)) (ht : t.toNat = tg) (kt : y < x → WR d cd tg lv st h Q) (kf : ¬ y < x → WR d cd nx lv st h Q) : WR d cd pc lv (.int y :: .int x :: st) h Q := by
  subst ht
  by_cases q : y < x
  · obtain ⟨n, k⟩ := kt q
    exact WR_s hf ⟨n, fun _ => k, fun z => absurd q z⟩
  · obtain ⟨n, k⟩ := kf q
    exact WR_s hf ⟨n, fun z => absurd z q, fun _ => k⟩
theorem r_if_le {x : Int32} {t : Int} {tg : Nat} (hf : cd pc = some (.ifCond .le t, nx)) (ht : t.toNat = tg) (kt : x ≤ 0 → WR d cd tg lv st h Q) (kf : ¬ x ≤ 0 → WR d cd nx lv st h Q) : WR d cd pc lv (.int x :: st) h Q := by
  subst ht
  by_cases q : x ≤ 0
  · obtain ⟨n, k⟩ := kt q
    exact WR_s hf ⟨n, fun _ => k, fun z => absurd q z⟩
  · obtain ⟨n, k⟩ := kf q
    exact WR_s hf ⟨n, fun z => absurd z q, fun _ => k⟩
theorem r_icmp_le {x y : Int32} {t : Int} {tg : Nat} (hf : cd pc = some (.if_icmp .le t, nx)) (ht : t.toNat = tg) (kt : x ≤ y → WR d cd tg lv st h Q) (kf : ¬ x ≤ y → WR d cd nx lv st h Q) : WR d cd pc lv (.int y :: .int x :: st) h Q := by
  subst ht
  by_cases q : x ≤ y
  · obtain ⟨n, k⟩ := kt q
    exact WR_s hf ⟨n, fun _ => k, fun z => absurd q z⟩
  · obtain ⟨n, k⟩ := kf q
    exact WR_s hf ⟨n, fun z => absurd z q, fun _ => k⟩
theorem r_acmp_eq {x y : Option Nat} {t : Int} {tg : Nat} (hf : cd pc = some (.if_acmp .eq t, nx)) (ht : t.toNat = tg) (kt : x = y → WR d cd tg lv st h Q) (kf : ¬ x = y → WR d cd nx lv st h Q) : WR d cd pc lv (va_rf y :: va_rf x :: st) h Q := by
  subst ht
  by_cases q : x = y
  · obtain ⟨n, k⟩ := kt q
    cases x <;> cases y <;> exact WR_s hf ⟨n, fun _ => k, fun z => absurd q z⟩
  · obtain ⟨n, k⟩ := kf q
    cases x <;> cases y <;> exact WR_s hf ⟨n, fun z => absurd z q, fun _ => k⟩
theorem r_acmp_ne {x y : Option Nat} {t : Int} {tg : Nat} (hf : cd pc = some (.if_acmp .ne t, nx)) (ht : t.toNat = tg) (kt : ¬ x = y → WR d cd tg lv st h Q) (kf : x = y → WR d cd nx lv st h Q) : WR d cd pc lv (va_rf y :: va_rf x :: st) h Q := by
  subst ht
  by_cases q : x = y
  · obtain ⟨n, k⟩ := kf q
    cases x <;> cases y <;> exact WR_s hf ⟨n, fun z => absurd q z, fun _ => k⟩
  · obtain ⟨n, k⟩ := kt q
    cases x <;> cases y <;> exact WR_s hf ⟨n, fun _ => k, fun z => absurd z q⟩
theorem r_ifnull {x : Option Nat} {t : Int} {tg : Nat} (hf : cd pc = some (.ifnull t, nx)) (ht : t.toNat = tg) (kt : x = none → WR d cd tg lv st h Q) (kf : ¬ x = none → WR d cd nx lv st h Q) : WR d cd pc lv (va_rf x :: st) h Q := by
  subst ht
  cases x with
  | none => obtain ⟨n, k⟩ := kt rfl; exact WR_s hf ⟨n, fun _ => k, fun z => absurd rfl z⟩
  | some a => obtain ⟨n, k⟩ := kf (fun z => by cases z); exact WR_s hf ⟨n, (fun z => by cases z), fun _ => k⟩
theorem r_ifnonnull {x : Option Nat} {t : Int} {tg : Nat} (hf : cd pc = some (.ifnonnull t, nx)) (ht : t.toNat = tg) (kt : ¬ x = none → WR d cd tg lv st h Q) (kf : x = none → WR d cd nx lv st h Q) : WR d cd pc lv (va_rf x :: st) h Q := by
  subst ht
  cases x with
  | none => obtain ⟨n, k⟩ := kf rfl; exact WR_s hf ⟨n, fun z => absurd rfl z, fun _ => k⟩
  | some a => obtain ⟨n, k⟩ := kt (fun z => by cases z); exact WR_s hf ⟨n, fun _ => k, fun z => by cases z⟩
theorem r_goto {t : Int} {tg : Nat} (hf : cd pc = some (.goto t, nx)) (ht : t.toNat = tg) (k : WR d cd tg lv st h Q) : WR d cd pc lv st h Q := by
  subst ht
  obtain ⟨n, k⟩ := k
  exact WR_s hf ⟨n, k⟩
theorem r_tsw {dd lo hi : Int} {os : Array Int} {x : Int32} {tg : Nat} (hf : cd pc = some (.tableswitch dd lo hi os, nx)) (ht : dd.toNat = tg) (kd : x.toInt < lo ∨ hi < x.toInt → WR d cd tg lv st h Q) (kk : ¬ (x.toInt < lo ∨ hi < x.toInt) → WR d cd (os.getD (x.toInt - lo).toNat 0).toNat lv st h Q) : WR d cd pc lv (.int x :: st) h Q := by
  subst ht
  by_cases q : x.toInt < lo ∨ hi < x.toInt
  · obtain ⟨n, k⟩ := kd q
    exact WR_s hf ⟨n, fun _ => k, fun z => absurd q z⟩
  · obtain ⟨n, k⟩ := kk q
    exact WR_s hf ⟨n, fun z => absurd z q, fun _ => k⟩
theorem r_alen {a : Nat} (hf : cd pc = some (.arraylength, nx)) (ht : isA (hT h a)) (k : WR d cd nx lv (.int (nI (hN h a)) :: st) h Q) : WR d cd pc lv (.ref a :: st) h Q := by
  obtain ⟨n, k⟩ := k
  exact WR_s hf ⟨n, ht, k⟩
theorem r_iaload {i : Int32} {a : Nat} (hf : cd pc = some (.iaload, nx)) (ht : hT h a = 20 ∨ hT h a = 30) (hi : vp_in i (hN h a)) (k : WR d cd nx lv (.int (hI h a i.toNatClampNeg) :: st) h Q) : WR d cd pc lv (.int i :: .ref a :: st) h Q := by
  obtain ⟨n, k⟩ := k
  exact WR_s hf ⟨n, ht, hi, k⟩
theorem r_laload {i : Int32} {a : Nat} (hf : cd pc = some (.laload, nx)) (ht : hT h a = 21) (hi : vp_in i (hN h a)) (k : WR d cd nx lv (.long (hL h a i.toNatClampNeg) :: st) h Q) : WR d cd pc lv (.int i :: .ref a :: st) h Q := by
  obtain ⟨n, k⟩ := k
  exact WR_s hf ⟨n, ht, hi, k⟩
theorem r_daload {i : Int32} {a : Nat} (hf : cd pc = some (.daload, nx)) (ht : hT h a = 22) (hi : vp_in i (hN h a)) (k : WR d cd nx lv (.double (hD h a i.toNatClampNeg) :: st) h Q) : WR d cd pc lv (.int i :: .ref a :: st) h Q := by
  obtain ⟨n, k⟩ := k
  exact WR_s hf ⟨n, ht, hi, k⟩
theorem r_baload {i : Int32} {a : Nat} (hf : cd pc = some (.baload, nx)) (ht : hT h a = 23) (hi : vp_in i (hN h a)) (k : WR d cd nx lv (.int (hI h a i.toNatClampNeg) :: st) h Q) : WR d cd pc lv (.int i :: .ref a :: st) h Q := by
  obtain ⟨n, k⟩ := k
  exact WR_s hf ⟨n, ht, hi, k⟩
theorem r_aaload {i : Int32} {a : Nat} (hf : cd pc = some (.aaload, nx)) (ht : isQ (hT h a)) (hi : vp_in i (hN h a)) (k : WR d cd nx lv (va_rf (hR h a i.toNatClampNeg) :: st) h Q) : WR d cd pc lv (.int i :: .ref a :: st) h Q := by
  obtain ⟨n, k⟩ := k
  exact WR_s hf ⟨n, ht, hi, k⟩
theorem r_aaloadA {i : Int32} {a b : Nat} (hf : cd pc = some (.aaload, nx)) (ht : isQ (hT h a)) (hi : vp_in i (hN h a)) (hb : hR h a i.toNatClampNeg = some b) (k : WR d cd nx lv (.ref b :: st) h Q) : WR d cd pc lv (.int i :: .ref a :: st) h Q := by
  refine r_aaload hf ht hi ?_
  rw [hb]; exact k
theorem r_iastore {v : Int32} {i : Int32} {a : Nat} (hf : cd pc = some (.iastore, nx)) (ht : hT h a = 20) (hi : vp_in i (hN h a)) (k : WR d cd nx lv st (sI h a i.toNatClampNeg v) Q) : WR d cd pc lv (.int v :: .int i :: .ref a :: st) h Q := by
  obtain ⟨n, k⟩ := k
  exact WR_s hf ⟨n, ht, hi, k⟩
theorem r_lastore {v : Int64} {i : Int32} {a : Nat} (hf : cd pc = some (.lastore, nx)) (ht : hT h a = 21) (hi : vp_in i (hN h a)) (k : WR d cd nx lv st (sL h a i.toNatClampNeg v) Q) : WR d cd pc lv (.long v :: .int i :: .ref a :: st) h Q := by
  obtain ⟨n, k⟩ := k
  exact WR_s hf ⟨n, ht, hi, k⟩
theorem r_dastore {v : UInt64} {i : Int32} {a : Nat} (hf : cd pc = some (.dastore, nx)) (ht : hT h a = 22) (hi : vp_in i (hN h a)) (k : WR d cd nx lv st (sD h a i.toNatClampNeg v) Q) : WR d cd pc lv (.double v :: .int i :: .ref a :: st) h Q := by
  obtain ⟨n, k⟩ := k
  exact WR_s hf ⟨n, ht, hi, k⟩
theorem r_bastore {v : Int32} {i : Int32} {a : Nat} (hf : cd pc = some (.bastore, nx)) (ht : hT h a = 23) (hi : vp_in i (hN h a)) (hv : v = 0 ∨ v = 1) (k : WR d cd nx lv st (sI h a i.toNatClampNeg v) Q) : WR d cd pc lv (.int v :: .int i :: .ref a :: st) h Q := by
  obtain ⟨n, k⟩ := k
  exact WR_s hf ⟨n, ht, hi, hv, k⟩
theorem r_aastore {v : Option Nat} {i : Int32} {a : Nat} (hf : cd pc = some (.aastore, nx)) (ht : isQ (hT h a)) (hi : vp_in i (hN h a)) (hv : okR h (hT h a) v) (k : WR d cd nx lv st (sR h a i.toNatClampNeg v) Q) : WR d cd pc lv ((va_rf v) :: .int i :: .ref a :: st) h Q := by
  obtain ⟨n, k⟩ := k
  cases v <;> exact WR_s hf ⟨n, ht, hi, hv, k⟩
theorem r_aastoreA {v : Nat} {i : Int32} {a : Nat} (hf : cd pc = some (.aastore, nx)) (ht : isQ (hT h a)) (hi : vp_in i (hN h a)) (hv : okR h (hT h a) (some v)) (k : WR d cd nx lv st (sR h a i.toNatClampNeg (some v)) Q) : WR d cd pc lv ((.ref v) :: .int i :: .ref a :: st) h Q := by
  obtain ⟨n, k⟩ := k
  exact WR_s hf ⟨n, ht, hi, hv, k⟩
theorem r_aastore0 {i : Int32} {a : Nat} (hf : cd pc = some (.aastore, nx)) (ht : isQ (hT h a)) (hi : vp_in i (hN h a)) (hv : okR h (hT h a) none) (k : WR d cd nx lv st (sR h a i.toNatClampNeg none) Q) : WR d cd pc lv (.null :: .int i :: .ref a :: st) h Q := by
  obtain ⟨n, k⟩ := k
  exact WR_s hf ⟨n, ht, hi, hv, k⟩
theorem r_newarray {t : ArrayType} {m : Int32} (hf : cd pc = some (.newarray t, nx)) (ht : 20 ≤ atag t ∧ ¬ m < 0 ∧ m.toNatClampNeg ≤ 10000) (k : WR d cd nx lv (.ref (hZ h) :: st) (nw h (atag t) m.toNatClampNeg m.toNatClampNeg) Q) : WR d cd pc lv (.int m :: st) h Q := by
  obtain ⟨n, k⟩ := k
  exact WR_s hf ⟨n, ht, k⟩
theorem r_anewarray {t : Nat} {m : Int32} (hf : cd pc = some (.anewarray t, nx)) (ht : ¬ m < 0 ∧ m.toNatClampNeg ≤ 10000) (k : WR d cd nx lv (.ref (hZ h) :: st) (nw h t m.toNatClampNeg m.toNatClampNeg) Q) : WR d cd pc lv (.int m :: st) h Q := by
  obtain ⟨n, k⟩ := k
  exact WR_s hf ⟨n, ht, k⟩
theorem r_new {t m : Nat} (hf : cd pc = some (.new t, nx)) (hm : nF t = m) (k : WR d cd nx lv (.ref (hZ h) :: st) (nw h t m m) Q) : WR d cd pc lv st h Q := by
  obtain ⟨n, k⟩ := k
  subst hm
  exact WR_s hf ⟨n, k⟩
theorem r_getI {g t f a : Nat} (hf : cd pc = some (.getfield g, nx)) (hg : g / 100 = t ∧ g % 100 = f ∧ fty t f = .int) (ht : hT h a = t) (k : WR d cd nx lv (.int (hI h a f) :: st) h Q) : WR d cd pc lv (.ref a :: st) h Q := by
  obtain ⟨n, k⟩ := k
  obtain ⟨rfl, rfl, h3⟩ := hg
  exact WR_s hf ⟨n, ht, by rw [h3]; exact k⟩
theorem r_getZ {g t f a : Nat} (hf : cd pc = some (.getfield g, nx)) (hg : g / 100 = t ∧ g % 100 = f ∧ fty t f = .boolean) (ht : hT h a = t) (k : WR d cd nx lv (.int (hI h a f) :: st) h Q) : WR d cd pc lv (.ref a :: st) h Q := by
  obtain ⟨n, k⟩ := k
  obtain ⟨rfl, rfl, h3⟩ := hg
  exact WR_s hf ⟨n, ht, by rw [h3]; exact k⟩
theorem r_getL {g t f a : Nat} (hf : cd pc = some (.getfield g, nx)) (hg : g / 100 = t ∧ g % 100 = f ∧ fty t f = .long) (ht : hT h a = t) (k : WR d cd nx lv (.long (hL h a f) :: st) h Q) : WR d cd pc lv (.ref a :: st) h Q := by
  obtain ⟨n, k⟩ := k
  obtain ⟨rfl, rfl, h3⟩ := hg
  exact WR_s hf ⟨n, ht, by rw [h3]; exact k⟩
theorem r_getD {g t f a : Nat} (hf : cd pc = some (.getfield g, nx)) (hg : g / 100 = t ∧ g % 100 = f ∧ fty t f = .double) (ht : hT h a = t) (k : WR d cd nx lv (.double (hD h a f) :: st) h Q) : WR d cd pc lv (.ref a :: st) h Q := by
  obtain ⟨n, k⟩ := k
  obtain ⟨rfl, rfl, h3⟩ := hg
  exact WR_s hf ⟨n, ht, by rw [h3]; exact k⟩
def isRf (z : FieldType) : Bool := match z with
  | .object _ => true
  | .array _ => true
  | _ => false
theorem vT_rf {z : FieldType} (hz : isRf z = true) (h : mH) (a k : Nat) : vT z h a k = va_rf (hR h a k) := by
  cases z <;> first | rfl | cases hz
theorem r_getR {g t f a : Nat} (hf : cd pc = some (.getfield g, nx)) (hg : g / 100 = t ∧ g % 100 = f ∧ isRf (fty t f) = true) (ht : hT h a = t) (k : WR d cd nx lv (va_rf (hR h a f) :: st) h Q) : WR d cd pc lv (.ref a :: st) h Q := by
  obtain ⟨n, k⟩ := k
  obtain ⟨rfl, rfl, h3⟩ := hg
  exact WR_s hf ⟨n, ht, by rw [vT_rf h3]; exact k⟩
theorem r_getA {g t f a b : Nat} (hf : cd pc = some (.getfield g, nx)) (hg : g / 100 = t ∧ g % 100 = f ∧ isRf (fty t f) = true) (ht : hT h a = t) (hb : hR h a f = some b) (k : WR d cd nx lv (.ref b :: st) h Q) : WR d cd pc lv (.ref a :: st) h Q := by
  refine r_getR hf hg ht ?_
  rw [hb]; exact k
theorem r_putI {g t f a : Nat} {v : Int32} (hf : cd pc = some (.putfield g, nx)) (hg : g / 100 = t ∧ g % 100 = f ∧ fty t f = .int) (ht : hT h a = t) (k : WR d cd nx lv st (sI h a f v) Q) : WR d cd pc lv (.int v :: .ref a :: st) h Q := by
  obtain ⟨n, k⟩ := k
  obtain ⟨rfl, rfl, h3⟩ := hg
  exact WR_s hf ⟨n, ht, by rw [h3]; exact k⟩
theorem r_putL {g t f a : Nat} {v : Int64} (hf : cd pc = some (.putfield g, nx)) (hg : g / 100 = t ∧ g % 100 = f ∧ fty t f = .long) (ht : hT h a = t) (k : WR d cd nx lv st (sL h a f v) Q) : WR d cd pc lv (.long v :: .ref a :: st) h Q := by
  obtain ⟨n, k⟩ := k
  obtain ⟨rfl, rfl, h3⟩ := hg
  exact WR_s hf ⟨n, ht, by rw [h3]; exact k⟩
theorem r_putD {g t f a : Nat} {v : UInt64} (hf : cd pc = some (.putfield g, nx)) (hg : g / 100 = t ∧ g % 100 = f ∧ fty t f = .double) (ht : hT h a = t) (k : WR d cd nx lv st (sD h a f v) Q) : WR d cd pc lv (.double v :: .ref a :: st) h Q := by
  obtain ⟨n, k⟩ := k
  obtain ⟨rfl, rfl, h3⟩ := hg
  exact WR_s hf ⟨n, ht, by rw [h3]; exact k⟩
theorem r_putZ {g t f a : Nat} {v : Int32} (hf : cd pc = some (.putfield g, nx)) (hg : g / 100 = t ∧ g % 100 = f ∧ fty t f = .boolean) (ht : hT h a = t) (hv : v = 0 ∨ v = 1) (k : WR d cd nx lv st (sI h a f v) Q) : WR d cd pc lv (.int v :: .ref a :: st) h Q := by
  obtain ⟨n, k⟩ := k
  obtain ⟨rfl, rfl, h3⟩ := hg
  exact WR_s hf ⟨n, ht, by rw [h3]; exact ⟨hv, k⟩⟩
theorem pV_rf {z : FieldType} (hz : isRf z = true) {v : Option Nat} {a k : Nat} {q : mH → Prop} (hq : q (sR h a k v)) : pV z [va_rf v] h a k q := by
  cases z <;> first | (cases v <;> exact hq) | cases hz
theorem r_putR {g t f a : Nat} {v : Option Nat} (hf : cd pc = some (.putfield g, nx)) (hg : g / 100 = t ∧ g % 100 = f ∧ isRf (fty t f) = true) (ht : hT h a = t) (k : WR d cd nx lv st (sR h a f v) Q) : WR d cd pc lv ((va_rf v) :: .ref a :: st) h Q := by
  obtain ⟨n, k⟩ := k
  obtain ⟨rfl, rfl, h3⟩ := hg
  exact WR_s hf ⟨n, ht, pV_rf (v := v) h3 k⟩
theorem r_putA {g t f a : Nat} {v : Nat} (hf : cd pc = some (.putfield g, nx)) (hg : g / 100 = t ∧ g % 100 = f ∧ isRf (fty t f) = true) (ht : hT h a = t) (k : WR d cd nx lv st (sR h a f (some v)) Q) : WR d cd pc lv ((.ref v) :: .ref a :: st) h Q := by
  obtain ⟨n, k⟩ := k
  obtain ⟨rfl, rfl, h3⟩ := hg
  exact WR_s hf ⟨n, ht, pV_rf (v := (some v)) h3 k⟩
theorem r_put0 {g t f a : Nat} (hf : cd pc = some (.putfield g, nx)) (hg : g / 100 = t ∧ g % 100 = f ∧ isRf (fty t f) = true) (ht : hT h a = t) (k : WR d cd nx lv st (sR h a f none) Q) : WR d cd pc lv (.null :: .ref a :: st) h Q := by
  obtain ⟨n, k⟩ := k
  obtain ⟨rfl, rfl, h3⟩ := hg
  exact WR_s hf ⟨n, ht, pV_rf (v := none) h3 k⟩
theorem r_getstatic {j a : Nat} (hf : cd pc = some (.getstatic j, nx)) (ha : hR h 0 j = some a) (k : WR d cd nx lv (.ref a :: st) h Q) : WR d cd pc lv st h Q := by
  obtain ⟨n, k⟩ := k
  exact WR_s hf ⟨n, a, ha, k⟩
theorem r_cast {t a : Nat} (hf : cd pc = some (.checkcast t, nx)) (ht : hT h a = t) (k : WR d cd nx lv (.ref a :: st) h Q) : WR d cd pc lv (.ref a :: st) h Q := by
  obtain ⟨n, k⟩ := k
  exact WR_s hf ⟨n, (fun b hb => by cases hb; exact ht), k⟩
theorem r_inst {t : Nat} {v : Option Nat} (hf : cd pc = some (.instanceof t, nx)) (ht : (t = 4 ∨ t = 5 ∨ t = 6) ∧ ∀ a, v = some a → 4 ≤ hT h a ∧ hT h a ≤ 6) (k : WR d cd nx lv (.int (if v.map (hT h) = some t then 1 else 0) :: st) h Q) : WR d cd pc lv (va_rf v :: st) h Q := by
  obtain ⟨n, k⟩ := k
  cases v <;> exact WR_s hf ⟨n, ht, k⟩
theorem r_call {y : Nat} {as rest : List Value} (hw : wtv rest ≤ 8) (k : EV d y as h (fun v h' => WR d cd nx lv (v.toList ++ rest) h' Q)) : ∃ n, cal (EV d) y as rest nx lv h (fun pc lv st h => wr (EV d) cd n pc lv st h Q) := by
  obtain ⟨v, h', -, ⟨n, a⟩, b⟩ := EVg_lin cdT mxT d y as h _ k
  exact ⟨n, hw, b _ a⟩
theorem tk_rev : ∀ (as rest acc : List Value) (q : List Value → List Value → Prop), tk as.length acc (as ++ rest) q = q (as.reverse ++ acc) rest := by
  intro as
  induction as with
  | nil => intro rest acc q; cases rest <;> rfl
  | cons v as ih => intro rest acc q; show tk as.length (v :: acc) (as ++ rest) q = _; rw [ih]; simp
theorem ivs_def {E : mE} {g : Nat} {lv : mL} {k : mK} (h1 : g ≠ 1001) (h2 : g ≠ 1002) (h3 : g ≠ 1003) (h4 : g ≠ 1004) (h5 : g ≠ 1005) (h6 : g ≠ 1006) (h7 : g ≠ 1007) : ivs E g nx lv st h k = tk (g / 32 % 16) [] st fun as r => cal E (g / 512) as r nx lv h k := by
  unfold ivs
  split
  · exact absurd rfl h1
  · exact absurd rfl h2
  · exact absurd rfl h3
  · exact absurd rfl h4
  · exact absurd rfl h5
  · exact absurd rfl h6
  · exact absurd rfl h7
  · rfl
theorem ivp_def {E : mE} {g : Nat} {lv : mL} {k : mK} (h1 : g ≠ 999) : ivp E g nx lv st h k = tk (g / 32 % 16) [] st fun as r => pA r fun a r => cal E (g / 512) (.ref a :: as) r nx lv h k := by
  unfold ivp
  split
  · exact absurd rfl h1
  · rfl
theorem ivv_def {E : mE} {g : Nat} {lv : mL} {as r : List Value} {a : Nat} {k : mK} (h1 : g % 32 ≠ 31) : ivv E g nx lv as r a h k = (hT h a = g % 32 ∧ cal E (g / 512) (.ref a :: as) r nx lv h k) := by
  unfold ivv
  split
  · rename_i q; exact absurd q h1
  · rfl
/-- g: the call's number; y its method; ra the arguments as they lie on the stack, the last first -/
theorem r_cs {g y : Nat} {ra rest as : List Value} (hf : cd pc = some (.invokestatic g, nx)) (hg : (g / 512 = y ∧ g / 32 % 16 = ra.length) ∧ g ≠ 1001 ∧ g ≠ 1002 ∧ g ≠ 1003 ∧ g ≠ 1004 ∧ g ≠ 1005 ∧ g ≠ 1006 ∧ g ≠ 1007) (ha : ra.reverse = as) (hs : ra ++ rest = st) (hw : wtv rest ≤ 8) (k : EV d y as h (fun v h' => WR d cd nx lv (v.toList ++ rest) h' Q)) : WR d cd pc lv st h Q := by
  obtain ⟨⟨rfl, h2⟩, g1, g2, g3, g4, g5, g6, g7⟩ := hg
  subst ha; subst hs
  obtain ⟨n, k⟩ := r_call hw k
  refine WR_s hf ⟨n, ?_⟩
  simp only [stp]
  rw [ivs_def g1 g2 g3 g4 g5 g6 g7, h2, tk_rev, List.append_nil]
  exact k
theorem r_cp {g y a : Nat} {ra rest as : List Value} (hf : cd pc = some (.invokespecial g, nx)) (hg : (g / 512 = y ∧ g / 32 % 16 = ra.length) ∧ g ≠ 999) (ha : ra.reverse = as) (hs : ra ++ .ref a :: rest = st) (hw : wtv rest ≤ 8) (k : EV d y (.ref a :: as) h (fun v h' => WR d cd nx lv (v.toList ++ rest) h' Q)) : WR d cd pc lv st h Q := by
  obtain ⟨⟨rfl, h2⟩, g1⟩ := hg
  subst ha; subst hs
  obtain ⟨n, k⟩ := r_call hw k
  refine WR_s hf ⟨n, ?_⟩
  simp only [stp]
  rw [ivp_def g1, h2, tk_rev, List.append_nil]
  exact k
theorem r_obj {a : Nat} (hf : cd pc = some (.invokespecial 999, nx)) (hw : wtv st ≤ 8) (k : WR d cd nx lv st h Q) : WR d cd pc lv (.ref a :: st) h Q := by
  obtain ⟨n, k⟩ := k
  exact WR_s hf ⟨n, hw, k⟩
theorem r_cv {g y t a : Nat} {ra rest as : List Value} (hf : cd pc = some (.invokevirtual g, nx)) (hg : (g / 512 = y ∧ g / 32 % 16 = ra.length) ∧ g % 32 = t ∧ t ≠ 31) (ht : hT h a = t) (ha : ra.reverse = as) (hs : ra ++ .ref a :: rest = st) (hw : wtv rest ≤ 8) (k : EV d y (.ref a :: as) h (fun v h' => WR d cd nx lv (v.toList ++ rest) h' Q)) : WR d cd pc lv st h Q := by
  obtain ⟨⟨rfl, h2⟩, h3, h4⟩ := hg
  subst h3
  subst ha; subst hs
  obtain ⟨n, k⟩ := r_call hw k
  refine WR_s hf ⟨n, ?_⟩
  show tk _ _ _ _
  rw [h2, tk_rev, List.append_nil]
  show ivv _ _ _ _ _ _ _ _ _
  rw [ivv_def h4]
  exact ⟨ht, k⟩
theorem r_cw {g y a : Nat} {ra rest as : List Value} (hf : cd pc = some (.invokevirtual g, nx)) (hg : g / 32 % 16 = ra.length ∧ g % 32 = 31) (hy : vtab (g / 512) (hT h a) = some y) (ha : ra.reverse = as) (hs : ra ++ .ref a :: rest = st) (hw : wtv rest ≤ 8) (k : EV d y (.ref a :: as) h (fun v h' => WR d cd nx lv (v.toList ++ rest) h' Q)) : WR d cd pc lv st h Q := by
  obtain ⟨h2, h3⟩ := hg
  subst ha; subst hs
  obtain ⟨n, k⟩ := r_call hw k
  refine WR_s hf ⟨n, ?_⟩
  show tk _ _ _ _
  rw [h2, tk_rev, List.append_nil]
  show ivv _ _ _ _ _ _ _ _ _
  unfold ivv
  split
  · exact ⟨y, hy, k⟩
  · rename_i q; exact absurd h3 q
theorem r_l2dn {b : Int64} (hf : cd pc = some (.invokestatic 1001, nx)) (hv : vn_snl2d b = false) (hw : wtv st ≤ 8) (k : WR d cd nx lv (.double b.toUInt64 :: st) h Q) : WR d cd pc lv (.long b :: st) h Q := by
  obtain ⟨n, k⟩ := k
  exact WR_s hf ⟨n, ⟨hv, hw⟩, k⟩
theorem r_i2fn {b : Int32} (hf : cd pc = some (.invokestatic 1002, nx)) (hv : vn_sni2f b = false) (hw : wtv st ≤ 8) (k : WR d cd nx lv (.float b.toUInt32 :: st) h Q) : WR d cd pc lv (.int b :: st) h Q := by
  obtain ⟨n, k⟩ := k
  exact WR_s hf ⟨n, ⟨hv, hw⟩, k⟩
theorem r_d2ln {b : UInt64} (hf : cd pc = some (.invokestatic 1003, nx)) (hw : wtv st ≤ 8) (k : WR d cd nx lv (.long b.toInt64 :: st) h Q) : WR d cd pc lv (.double b :: st) h Q := by
  obtain ⟨n, k⟩ := k
  exact WR_s hf ⟨n, hw, k⟩
theorem r_max {x y : Int32} (hf : cd pc = some (.invokestatic 1005, nx)) (hw : wtv st ≤ 8) (k : WR d cd nx lv (.int (if x < y then y else x) :: st) h Q) : WR d cd pc lv (.int y :: .int x :: st) h Q := by
  obtain ⟨n, k⟩ := k
  exact WR_s hf ⟨n, hw, k⟩
theorem r_min {x y : Int32} (hf : cd pc = some (.invokestatic 1006, nx)) (hw : wtv st ≤ 8) (k : WR d cd nx lv (.int (if y < x then y else x) :: st) h Q) : WR d cd pc lv (.int y :: .int x :: st) h Q := by
  obtain ⟨n, k⟩ := k
  exact WR_s hf ⟨n, hw, k⟩
theorem r_abs {x : Int32} (hf : cd pc = some (.invokestatic 1007, nx)) (hw : wtv st ≤ 8) (k : WR d cd nx lv (.int (if 0 ≤ x then x else 0 - x) :: st) h Q) : WR d cd pc lv (.int x :: st) h Q := by
  obtain ⟨n, k⟩ := k
  exact WR_s hf ⟨n, hw, k⟩
theorem r_acpL {c dp sp : Int32} {a a0 : Nat} (hf : cd pc = some (.invokestatic 1004, nx)) (hc : ¬ sp < 0 ∧ ¬ dp < 0 ∧ ¬ c < 0 ∧ sp.toNatClampNeg + c.toNatClampNeg ≤ hN h a0 ∧ dp.toNatClampNeg + c.toNatClampNeg ≤ hN h a ∧ wtv st ≤ 8 ∧ hT h a0 = hT h a) (ht : hT h a = 21) (k : WR d cd nx lv st (cpL h a0 sp.toNatClampNeg a dp.toNatClampNeg c.toNatClampNeg) Q) : WR d cd pc lv (.int c :: .int dp :: .ref a :: .int sp :: .ref a0 :: st) h Q := by
  obtain ⟨n, k⟩ := k
  exact WR_s hf ⟨n, hc, .inl ⟨ht, k⟩⟩
theorem r_acpR {c dp sp : Int32} {a a0 : Nat} (hf : cd pc = some (.invokestatic 1004, nx)) (hc : ¬ sp < 0 ∧ ¬ dp < 0 ∧ ¬ c < 0 ∧ sp.toNatClampNeg + c.toNatClampNeg ≤ hN h a0 ∧ dp.toNatClampNeg + c.toNatClampNeg ≤ hN h a ∧ wtv st ≤ 8 ∧ hT h a0 = hT h a) (ht : isQ (hT h a)) (ho : ∀ j, j < c.toNatClampNeg → okR h (hT h a) (hR h a0 (sp.toNatClampNeg + j))) (k : WR d cd nx lv st (cpR h a0 sp.toNatClampNeg a dp.toNatClampNeg c.toNatClampNeg) Q) : WR d cd pc lv (.int c :: .int dp :: .ref a :: .int sp :: .ref a0 :: st) h Q := by
  obtain ⟨n, k⟩ := k
  exact WR_s hf ⟨n, hc, .inr ⟨ht, ho, k⟩⟩
theorem r_iret {x : Int32} (hf : cd pc = some (.ireturn, nx)) (k : Q (some (.int x)) h) : WR d cd pc lv [.int x] h Q := WR_s hf ⟨0, k⟩
theorem r_lret {x : Int64} (hf : cd pc = some (.lreturn, nx)) (k : Q (some (.long x)) h) : WR d cd pc lv [.long x] h Q := WR_s hf ⟨0, k⟩
theorem r_dret {x : UInt64} (hf : cd pc = some (.dreturn, nx)) (k : Q (some (.double x)) h) : WR d cd pc lv [.double x] h Q := WR_s hf ⟨0, k⟩
theorem r_aret {x : Nat} (hf : cd pc = some (.areturn, nx)) (k : Q (some (.ref x)) h) : WR d cd pc lv [.ref x] h Q := WR_s hf ⟨0, k⟩
theorem r_zret {x : Int32} (hf : cd pc = some (.freturn, nx)) (hx : x = 0 ∨ x = 1) (k : Q (some (.int x)) h) : WR d cd pc lv [.int x] h Q := WR_s hf ⟨0, hx, k⟩
theorem r_aret0 (hf : cd pc = some (.areturn, nx)) (k : Q (some .null) h) : WR d cd pc lv [.null] h Q := WR_s hf ⟨0, k⟩
theorem r_aretq {x : Option Nat} (hf : cd pc = some (.areturn, nx)) (k : Q (some (va_rf x)) h) : WR d cd pc lv [va_rf x] h Q := by
  cases x <;> exact WR_s hf ⟨0, k⟩
theorem r_vret (hf : cd pc = some (.return_, nx)) (k : Q none h) : WR d cd pc lv [] h Q := WR_s hf ⟨0, k⟩
end RR
