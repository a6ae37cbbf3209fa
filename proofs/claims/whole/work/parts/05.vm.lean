/-! ===== A small machine: what the walk of a method does to a typed heap. Heap: tags, lengths, next address, slots used; ints, longs, doubles, references by (address, place). ===== -/
def mH : Type := (Nat → Nat) × (Nat → Nat) × Nat × Nat × (Nat → Nat → Int32) × (Nat → Nat → Int64) × (Nat → Nat → UInt64) × (Nat → Nat → Option Nat)
def hT (h : mH) : Nat → Nat := h.1
def hN (h : mH) : Nat → Nat := h.2.1
def hZ (h : mH) : Nat := h.2.2.1
def hU (h : mH) : Nat := h.2.2.2.1
def hI (h : mH) : Nat → Nat → Int32 := h.2.2.2.2.1
def hL (h : mH) : Nat → Nat → Int64 := h.2.2.2.2.2.1
def hD (h : mH) : Nat → Nat → UInt64 := h.2.2.2.2.2.2.1
def hR (h : mH) : Nat → Nat → Option Nat := h.2.2.2.2.2.2.2
def u2 {α : Type} (f : Nat → Nat → α) (a k : Nat) (v : α) : Nat → Nat → α := fun b j => if b = a ∧ j = k then v else f b j
def u1 {α : Type} (f : Nat → α) (a : Nat) (v : α) : Nat → α := fun b => if b = a then v else f b
def sI (h : mH) (a k : Nat) (v : Int32) : mH := (hT h, hN h, hZ h, hU h, u2 (hI h) a k v, hL h, hD h, hR h)
def sL (h : mH) (a k : Nat) (v : Int64) : mH := (hT h, hN h, hZ h, hU h, hI h, u2 (hL h) a k v, hD h, hR h)
def sD (h : mH) (a k : Nat) (v : UInt64) : mH := (hT h, hN h, hZ h, hU h, hI h, hL h, u2 (hD h) a k v, hR h)
def sR (h : mH) (a k : Nat) (v : Option Nat) : mH := (hT h, hN h, hZ h, hU h, hI h, hL h, hD h, u2 (hR h) a k v)
/-- a new cell with tag t, n places, m slots, at the next address, all zero -/
def nw (h : mH) (t n m : Nat) : mH := (u1 (hT h) (hZ h) t, u1 (hN h) (hZ h) n, hZ h + 1, hU h + m, u1 (hI h) (hZ h) (fun _ => 0), u1 (hL h) (hZ h) (fun _ => 0), u1 (hD h) (hZ h) (fun _ => 0), u1 (hR h) (hZ h) (fun _ => none))
/-- n places from sp of a0 to dp of a, as they were before -/
def cpL (h : mH) (a0 sp a dp n : Nat) : mH := (hT h, hN h, hZ h, hU h, hI h, u1 (hL h) a (va_cpy (hL h a0) (hL h a) sp dp n), hD h, hR h)
def cpR (h : mH) (a0 sp a dp n : Nat) : mH := (hT h, hN h, hZ h, hU h, hI h, hL h, hD h, u1 (hR h) a (va_cpy (hR h a0) (hR h a) sp dp n))
abbrev mL : Type := List (Option Value)
abbrev mK : Type := Nat → mL → List Value → mH → Prop
abbrev mQ : Type := Option Value → mH → Prop
abbrev mE : Type := Nat → List Value → mH → mQ → Prop
-- the operand stack
def pI (st : List Value) (k : Int32 → List Value → Prop) : Prop := match st with
  | .int x :: r => k x r
  | _ => False
def pL (st : List Value) (k : Int64 → List Value → Prop) : Prop := match st with
  | .long x :: r => k x r
  | _ => False
def pF (st : List Value) (k : UInt32 → List Value → Prop) : Prop := match st with
  | .float x :: r => k x r
  | _ => False
def pD (st : List Value) (k : UInt64 → List Value → Prop) : Prop := match st with
  | .double x :: r => k x r
  | _ => False
def pR (st : List Value) (k : Option Nat → List Value → Prop) : Prop := match st with
  | .ref a :: r => k (some a) r
  | .null :: r => k none r
  | _ => False
def pA (st : List Value) (k : Nat → List Value → Prop) : Prop := match st with
  | .ref a :: r => k a r
  | _ => False
-- locals
def gI (lv : mL) (i : Nat) (k : Int32 → Prop) : Prop := match lv[i]? with
  | some (some (.int x)) => k x
  | _ => False
def gL (lv : mL) (i : Nat) (k : Int64 → Prop) : Prop := match lv[i]? with
  | some (some (.long x)) => k x
  | _ => False
def gD (lv : mL) (i : Nat) (k : UInt64 → Prop) : Prop := match lv[i]? with
  | some (some (.double x)) => k x
  | _ => False
def gR (lv : mL) (i : Nat) (k : Option Nat → Prop) : Prop := match lv[i]? with
  | some (some (.ref x)) => k (some x)
  | some (some .null) => k none
  | _ => False
/-- a wide value just below place i is lost -/
def kl (lv : mL) (i : Nat) : mL := match i with
  | 0 => lv
  | j + 1 => match lv[j]? with
    | some (some (.long _)) => lv.set j none
    | some (some (.double _)) => lv.set j none
    | _ => lv
def t1 (lv : mL) (i : Nat) (v : Value) : mL := (kl lv i).set i (some v)
def t2 (lv : mL) (i : Nat) (v : Value) : mL := ((kl lv i).set (i + 1) none).set i (some v)
/-- the locals at a method's entry -/
def en (vs : List Value) (n : Nat) : mL := match vs, n with
  | [], n => List.replicate n none
  | _ :: _, 0 => []
  | .long x :: r, n + 1 => some (.long x) :: none :: en r (n - 1)
  | .double x :: r, n + 1 => some (.double x) :: none :: en r (n - 1)
  | v :: r, n + 1 => some v :: en r n
def vT (z : FieldType) (h : mH) (a k : Nat) : Value := match z with
  | .long => .long (hL h a k)
  | .double => .double (hD h a k)
  | .object _ => va_rf (hR h a k)
  | .array _ => va_rf (hR h a k)
  | _ => .int (hI h a k)
def pV (z : FieldType) (st : List Value) (h : mH) (a k : Nat) (q : mH → Prop) : Prop := match z, st with
  | .long, .long v :: _ => q (sL h a k v)
  | .double, .double v :: _ => q (sD h a k v)
  | .object _, .ref v :: _ => q (sR h a k (some v))
  | .object _, .null :: _ => q (sR h a k none)
  | .array _, .ref v :: _ => q (sR h a k (some v))
  | .array _, .null :: _ => q (sR h a k none)
  | .int, .int v :: _ => q (sI h a k v)
  | .boolean, .int v :: _ => (v = 0 ∨ v = 1) ∧ q (sI h a k v)
  | _, _ => False
def wtv (st : List Value) : Nat := (st.map fun v => v.category).sum
/-- n values off the stack, the lowest first -/
def tk (n : Nat) (acc st : List Value) (q : List Value → List Value → Prop) : Prop := match n, st with
  | 0, st => q acc st
  | n + 1, v :: r => tk n (v :: acc) r q
  | _ + 1, [] => False
def brI (c : ClassFile.Cond) (x y : Int32) (A B : Prop) : Prop := match c with
  | .eq => (x = y → A) ∧ (¬ x = y → B)
  | .ne => (¬ x = y → A) ∧ (x = y → B)
  | .lt => (x < y → A) ∧ (¬ x < y → B)
  | .ge => (y ≤ x → A) ∧ (¬ y ≤ x → B)
  | .gt => (y < x → A) ∧ (¬ y < x → B)
  | .le => (x ≤ y → A) ∧ (¬ x ≤ y → B)
def brA (c : ACond) (x y : Option Nat) (A B : Prop) : Prop := match c with
  | .eq => (x = y → A) ∧ (¬ x = y → B)
  | .ne => (¬ x = y → A) ∧ (x = y → B)
def atag (t : ArrayType) : Nat := match t with
  | .int => 20
  | .long => 21
  | .double => 22
  | .boolean => 23
  | _ => 0
def isA (t : Nat) : Prop := (20 ≤ t ∧ t ≤ 27) ∨ t = 30
def isQ (t : Nat) : Prop := 24 ≤ t ∧ t ≤ 27
/-- an element with tag u may lie in an array with tag t -/
def okE (t u : Nat) : Prop := match t with
  | 24 => u = 4 ∨ u = 5 ∨ u = 6
  | 25 => u = 8
  | 26 => u = 4
  | 27 => u = 5
  | _ => False
def okR (h : mH) (t : Nat) (v : Option Nat) : Prop := ∀ a, v = some a → okE t (hT h a)
/-- a call: n = (method * 16 + arguments) * 32 + tag of the receiver (0: none is asked; 31: by the receiver's own) -/
def cal (E : mE) (y : Nat) (as rest : List Value) (nx : Nat) (lv : mL) (h : mH) (k : mK) : Prop :=
  wtv rest ≤ 8 ∧ E y as h (fun v h' => k nx lv (v.toList ++ rest) h')
def du1 (nx : Nat) (lv : mL) (st : List Value) (h : mH) (k : mK) : Prop := match st with
  | v :: r => v.category = 1 ∧ k nx lv (v :: v :: r) h
  | [] => False
def du2 (nx : Nat) (lv : mL) (st : List Value) (h : mH) (k : mK) : Prop := match st with
  | v :: w :: r => (v.category = 1 ∧ w.category = 1) ∧ k nx lv (v :: w :: v :: w :: r) h
  | _ => False
def pfd (g nx : Nat) (lv : mL) (st : List Value) (h : mH) (k : mK) : Prop := match st with
  | v :: r => pA r fun a r => hT h a = g / 100 ∧ pV (fty (g / 100) (g % 100)) [v] h a (g % 100) fun h' => k nx lv r h'
  | [] => False
def ivp (E : mE) (n nx : Nat) (lv : mL) (st : List Value) (h : mH) (k : mK) : Prop := match n with
  | 999 => pA st fun _ r => wtv r ≤ 8 ∧ k nx lv r h
  | n => tk (n / 32 % 16) [] st fun as r => pA r fun a r => cal E (n / 512) (.ref a :: as) r nx lv h k
def acp (nx : Nat) (lv : mL) (st : List Value) (h : mH) (k : mK) : Prop :=
  pI st fun n r => pI r fun dp r => pA r fun a r => pI r fun sp r => pA r fun a0 r =>
    (¬ sp < 0 ∧ ¬ dp < 0 ∧ ¬ n < 0 ∧ sp.toNatClampNeg + n.toNatClampNeg ≤ hN h a0 ∧ dp.toNatClampNeg + n.toNatClampNeg ≤ hN h a ∧ wtv r ≤ 8 ∧ hT h a0 = hT h a) ∧
    ((hT h a = 21 ∧ k nx lv r (cpL h a0 sp.toNatClampNeg a dp.toNatClampNeg n.toNatClampNeg)) ∨
     (isQ (hT h a) ∧ (∀ j, j < n.toNatClampNeg → okR h (hT h a) (hR h a0 (sp.toNatClampNeg + j))) ∧ k nx lv r (cpR h a0 sp.toNatClampNeg a dp.toNatClampNeg n.toNatClampNeg)))
def ivs (E : mE) (n nx : Nat) (lv : mL) (st : List Value) (h : mH) (k : mK) : Prop := match n with
  | 1001 => pL st fun b r => (vn_snl2d b = false ∧ wtv r ≤ 8) ∧ k nx lv (.double b.toUInt64 :: r) h
  | 1002 => pI st fun b r => (vn_sni2f b = false ∧ wtv r ≤ 8) ∧ k nx lv (.float b.toUInt32 :: r) h
  | 1003 => pD st fun b r => wtv r ≤ 8 ∧ k nx lv (.long b.toInt64 :: r) h
  | 1004 => acp nx lv st h k
  | 1005 => pI st fun y r => pI r fun x r => wtv r ≤ 8 ∧ k nx lv (.int (if x < y then y else x) :: r) h
  | 1006 => pI st fun y r => pI r fun x r => wtv r ≤ 8 ∧ k nx lv (.int (if y < x then y else x) :: r) h
  | 1007 => pI st fun x r => wtv r ≤ 8 ∧ k nx lv (.int (if 0 ≤ x then x else 0 - x) :: r) h
  | n => tk (n / 32 % 16) [] st fun as r => cal E (n / 512) as r nx lv h k
def ivv (E : mE) (n nx : Nat) (lv : mL) (as r : List Value) (a : Nat) (h : mH) (k : mK) : Prop := match n % 32 with
  | 31 => ∃ y, vtab (n / 512) (hT h a) = some y ∧ cal E y (.ref a :: as) r nx lv h k
  | t => hT h a = t ∧ cal E (n / 512) (.ref a :: as) r nx lv h k
def rtI (st : List Value) (h : mH) (Q : mQ) : Prop := match st with
  | [.int v] => Q (some (.int v)) h
  | _ => False
def rtZ (st : List Value) (h : mH) (Q : mQ) : Prop := match st with
  | [.int v] => (v = 0 ∨ v = 1) ∧ Q (some (.int v)) h
  | _ => False
def rtL (st : List Value) (h : mH) (Q : mQ) : Prop := match st with
  | [.long v] => Q (some (.long v)) h
  | _ => False
def rtD (st : List Value) (h : mH) (Q : mQ) : Prop := match st with
  | [.double v] => Q (some (.double v)) h
  | _ => False
def rtA (st : List Value) (h : mH) (Q : mQ) : Prop := match st with
  | [.ref v] => Q (some (.ref v)) h
  | [.null] => Q (some .null) h
  | _ => False
def rtV (st : List Value) (h : mH) (Q : mQ) : Prop := match st with
  | [] => Q none h
  | _ => False
def stp (E : mE) (i : Instr) (nx : Nat) (lv : mL) (st : List Value) (h : mH) (k : mK) (Q : mQ) : Prop := match i with
  | .sipush v => k nx lv (.int (Int32.ofInt v) :: st) h
  | .lconst n => k nx lv (.long (Int64.ofNat n.val) :: st) h
  | .dconst n => k nx lv (.double (if n.val = 0 then 0 else 4607182418800017408) :: st) h
  | .ldc2_w n => k nx lv (cst.getD n .null :: st) h
  | .aconst_null => k nx lv (.null :: st) h
  | .iload i => gI lv i fun x => k nx lv (.int x :: st) h
  | .lload i => gL lv i fun x => k nx lv (.long x :: st) h
  | .dload i => gD lv i fun x => k nx lv (.double x :: st) h
  | .aload i => gR lv i fun x => k nx lv (va_rf x :: st) h
  | .istore i => pI st fun x r => i < lv.length ∧ k nx (t1 lv i (.int x)) r h
  | .lstore i => pL st fun x r => i + 1 < lv.length ∧ k nx (t2 lv i (.long x)) r h
  | .dstore i => pD st fun x r => i + 1 < lv.length ∧ k nx (t2 lv i (.double x)) r h
  | .astore i => pR st fun x r => i < lv.length ∧ k nx (t1 lv i (va_rf x)) r h
  | .iinc i n => gI lv i fun x => k nx (t1 lv i (.int (x + Int32.ofInt n))) st h
  | .iadd => pI st fun y r => pI r fun x r => k nx lv (.int (x + y) :: r) h
  | .isub => pI st fun y r => pI r fun x r => k nx lv (.int (x - y) :: r) h
  | .imul => pI st fun y r => pI r fun x r => k nx lv (.int (x * y) :: r) h
  | .idiv => pI st fun y r => pI r fun x r => ¬ y = 0 ∧ k nx lv (.int (x / y) :: r) h
  | .irem => pI st fun y r => pI r fun x r => ¬ y = 0 ∧ k nx lv (.int (x - x / y * y) :: r) h
  | .iand => pI st fun y r => pI r fun x r => k nx lv (.int (x &&& y) :: r) h
  | .ishr => pI st fun y r => pI r fun x r => k nx lv (.int (x >>> (y &&& 31)) :: r) h
  | .ineg => pI st fun x r => k nx lv (.int (-x) :: r) h
  | .ladd => pL st fun y r => pL r fun x r => k nx lv (.long (x + y) :: r) h
  | .lsub => pL st fun y r => pL r fun x r => k nx lv (.long (x - y) :: r) h
  | .lmul => pL st fun y r => pL r fun x r => k nx lv (.long (x * y) :: r) h
  | .ldiv => pL st fun y r => pL r fun x r => ¬ y = 0 ∧ k nx lv (.long (x / y) :: r) h
  | .land => pL st fun y r => pL r fun x r => k nx lv (.long (x &&& y) :: r) h
  | .lor => pL st fun y r => pL r fun x r => k nx lv (.long (x ||| y) :: r) h
  | .lxor => pL st fun y r => pL r fun x r => k nx lv (.long (x ^^^ y) :: r) h
  | .lshl => pI st fun y r => pL r fun x r => k nx lv (.long (x <<< (y.toInt64 &&& 63)) :: r) h
  | .lshr => pI st fun y r => pL r fun x r => k nx lv (.long (x >>> (y.toInt64 &&& 63)) :: r) h
  | .lcmp => pL st fun y r => pL r fun x r => k nx lv (.int (lg_cmp x y) :: r) h
  | .dcmp op => pD st fun y r => pD r fun x r => k nx lv (.int (Op.cmpValue (FP.dcmp x y) op) :: r) h
  | .dadd => pD st fun y r => pD r fun x r => vf_n64 (FP.dadd x y) ∧ k nx lv (.double (FP.dadd x y) :: r) h
  | .dsub => pD st fun y r => pD r fun x r => vf_n64 (FP.dsub x y) ∧ k nx lv (.double (FP.dsub x y) :: r) h
  | .dmul => pD st fun y r => pD r fun x r => vf_n64 (FP.dmul x y) ∧ k nx lv (.double (FP.dmul x y) :: r) h
  | .ddiv => pD st fun y r => pD r fun x r => vf_n64 (FP.ddiv x y) ∧ k nx lv (.double (FP.ddiv x y) :: r) h
  | .dneg => pD st fun x r => k nx lv (.double (FP.dneg x) :: r) h
  | .i2l => pI st fun x r => k nx lv (.long x.toInt64 :: r) h
  | .l2i => pL st fun x r => k nx lv (.int x.toInt32 :: r) h
  | .i2b => pI st fun x r => k nx lv (.int x.toInt8.toInt32 :: r) h
  | .i2s => pI st fun x r => k nx lv (.int x.toInt16.toInt32 :: r) h
  | .i2c => pI st fun x r => k nx lv (.int (x.toUInt32 % 65536).toInt32 :: r) h
  | .i2d => pI st fun x r => k nx lv (.double (FP.i2d x) :: r) h
  | .l2d => pL st fun x r => k nx lv (.double (FP.l2d x) :: r) h
  | .d2i => pD st fun x r => k nx lv (.int (FP.d2i x) :: r) h
  | .d2l => pD st fun x r => k nx lv (.long (FP.d2l x) :: r) h
  | .f2d => pF st fun x r => vf_n64 (FP.f2d x) ∧ k nx lv (.double (FP.f2d x) :: r) h
  | .dup => du1 nx lv st h k
  | .dup2 => du2 nx lv st h k
  | .ifCond c t => pI st fun x r => brI c x 0 (k t.toNat lv r h) (k nx lv r h)
  | .if_icmp c t => pI st fun y r => pI r fun x r => brI c x y (k t.toNat lv r h) (k nx lv r h)
  | .if_acmp c t => pR st fun y r => pR r fun x r => brA c x y (k t.toNat lv r h) (k nx lv r h)
  | .ifnull t => pR st fun x r => (x = none → k t.toNat lv r h) ∧ (¬ x = none → k nx lv r h)
  | .ifnonnull t => pR st fun x r => (¬ x = none → k t.toNat lv r h) ∧ (x = none → k nx lv r h)
  | .goto t => k t.toNat lv st h
  | .tableswitch d lo hi os => pI st fun x r => (x.toInt < lo ∨ hi < x.toInt → k d.toNat lv r h) ∧ (¬ (x.toInt < lo ∨ hi < x.toInt) → k (os.getD (x.toInt - lo).toNat 0).toNat lv r h)
  | .arraylength => pA st fun a r => isA (hT h a) ∧ k nx lv (.int (nI (hN h a)) :: r) h
  | .iaload => pI st fun i r => pA r fun a r => (hT h a = 20 ∨ hT h a = 30) ∧ vp_in i (hN h a) ∧ k nx lv (.int (hI h a i.toNatClampNeg) :: r) h
  | .laload => pI st fun i r => pA r fun a r => hT h a = 21 ∧ vp_in i (hN h a) ∧ k nx lv (.long (hL h a i.toNatClampNeg) :: r) h
  | .daload => pI st fun i r => pA r fun a r => hT h a = 22 ∧ vp_in i (hN h a) ∧ k nx lv (.double (hD h a i.toNatClampNeg) :: r) h
  | .baload => pI st fun i r => pA r fun a r => hT h a = 23 ∧ vp_in i (hN h a) ∧ k nx lv (.int (hI h a i.toNatClampNeg) :: r) h
  | .aaload => pI st fun i r => pA r fun a r => isQ (hT h a) ∧ vp_in i (hN h a) ∧ k nx lv (va_rf (hR h a i.toNatClampNeg) :: r) h
  | .iastore => pI st fun v r => pI r fun i r => pA r fun a r => hT h a = 20 ∧ vp_in i (hN h a) ∧ k nx lv r (sI h a i.toNatClampNeg v)
  | .lastore => pL st fun v r => pI r fun i r => pA r fun a r => hT h a = 21 ∧ vp_in i (hN h a) ∧ k nx lv r (sL h a i.toNatClampNeg v)
  | .dastore => pD st fun v r => pI r fun i r => pA r fun a r => hT h a = 22 ∧ vp_in i (hN h a) ∧ k nx lv r (sD h a i.toNatClampNeg v)
  | .bastore => pI st fun v r => pI r fun i r => pA r fun a r => hT h a = 23 ∧ vp_in i (hN h a) ∧ (v = 0 ∨ v = 1) ∧ k nx lv r (sI h a i.toNatClampNeg v)
  | .aastore => pR st fun v r => pI r fun i r => pA r fun a r => isQ (hT h a) ∧ vp_in i (hN h a) ∧ okR h (hT h a) v ∧ k nx lv r (sR h a i.toNatClampNeg v)
  | .newarray t => pI st fun n r => (20 ≤ atag t ∧ ¬ n < 0 ∧ n.toNatClampNeg ≤ 10000) ∧ k nx lv (.ref (hZ h) :: r) (nw h (atag t) n.toNatClampNeg n.toNatClampNeg)
  | .anewarray t => pI st fun n r => (¬ n < 0 ∧ n.toNatClampNeg ≤ 10000) ∧ k nx lv (.ref (hZ h) :: r) (nw h t n.toNatClampNeg n.toNatClampNeg)
  | .new t => k nx lv (.ref (hZ h) :: st) (nw h t (nF t) (nF t))
  | .getfield g => pA st fun a r => hT h a = g / 100 ∧ k nx lv (vT (fty (g / 100) (g % 100)) h a (g % 100) :: r) h
  | .putfield g => pfd g nx lv st h k
  | .getstatic j => ∃ a, hR h 0 j = some a ∧ k nx lv (.ref a :: st) h
  | .checkcast t => pR st fun v r => (∀ a, v = some a → hT h a = t) ∧ k nx lv (va_rf v :: r) h
  | .instanceof t => pR st fun v r => ((t = 4 ∨ t = 5 ∨ t = 6) ∧ ∀ a, v = some a → 4 ≤ hT h a ∧ hT h a ≤ 6) ∧ k nx lv (.int (if v.map (hT h) = some t then 1 else 0) :: r) h
  | .invokespecial n => ivp E n nx lv st h k
  | .invokestatic n => ivs E n nx lv st h k
  | .invokevirtual n => tk (n / 32 % 16) [] st fun as r => pA r fun a r => ivv E n nx lv as r a h k
  | .ireturn => rtI st h Q
  | .freturn => rtZ st h Q
  | .lreturn => rtL st h Q
  | .dreturn => rtD st h Q
  | .areturn => rtA st h Q
  | .return_ => rtV st h Q
  | _ => False
def wr (E : mE) (cd : mC) : Nat → Nat → mL → List Value → mH → mQ → Prop
  | 0, _, _, _, _, _ => False
  | n + 1, pc, lv, st, h, Q => match cd pc with
    | some (i, nx) => stp E i nx lv st h (fun pc lv st h => wr E cd n pc lv st h Q) Q
    | none => False
/-- method y from the arguments as, at depth d: it ends with Q -/
def EVg (cdT : Nat → mC) (mxT : Nat → Nat) : Nat → mE
  | 0 => fun _ _ _ _ => False
  | d + 1 => fun y as h Q => wtv as ≤ mxT y ∧ ∃ n, wr (EVg cdT mxT d) (cdT y) n 0 (en as (mxT y)) [] h Q
/-- what goes on in one way only -/
def gE (h h' : mH) : Prop := hZ h ≤ hZ h' ∧ hU h ≤ hU h'
theorem gE.r (h : mH) : gE h h := ⟨Nat.le_refl _, Nat.le_refl _⟩
theorem gE.t {a b c : mH} (x : gE a b) (y : gE b c) : gE a c := ⟨Nat.le_trans x.1 y.1, Nat.le_trans x.2 y.2⟩
def Lin (h0 : mH) (F : mK → mQ → Prop) : Prop := ∀ k Q, F k Q → (∃ pc lv st h, gE h0 h ∧ k pc lv st h ∧ ∀ k' Q', k' pc lv st h → F k' Q') ∨ (∃ v h, gE h0 h ∧ Q v h ∧ ∀ k' Q', Q' v h → F k' Q')
def LinE (E : mE) : Prop := ∀ y as h Q, E y as h Q → ∃ v h', gE h h' ∧ Q v h' ∧ ∀ Q', Q' v h' → E y as h Q'
theorem Lin.k {h0 : mH} (pc : Nat) (lv : mL) (st : List Value) (h : mH) (g : gE h0 h := by exact ⟨Nat.le_refl _, Nat.le_refl _⟩) : Lin h0 (fun k _ => k pc lv st h) := fun _ _ hk => .inl ⟨_, _, _, _, g, hk, fun _ _ q => q⟩
theorem Lin.q {h0 : mH} (v : Option Value) (h : mH) (g : gE h0 h := by exact ⟨Nat.le_refl _, Nat.le_refl _⟩) : Lin h0 (fun _ Q => Q v h) := fun _ _ hk => .inr ⟨_, _, g, hk, fun _ _ q => q⟩
theorem Lin.no {h0 : mH} : Lin h0 (fun _ _ => False) := fun _ _ h => h.elim
theorem Lin.and {h0 : mH} {P : Prop} {F : mK → mQ → Prop} (h : Lin h0 F) : Lin h0 (fun k Q => P ∧ F k Q) := fun k Q hk => by
  rcases h k Q hk.2 with ⟨a, b, c, d, z, e, f⟩ | ⟨a, b, z, c, d⟩
  · exact .inl ⟨a, b, c, d, z, e, fun k' Q' q => ⟨hk.1, f k' Q' q⟩⟩
  · exact .inr ⟨a, b, z, c, fun k' Q' q => ⟨hk.1, d k' Q' q⟩⟩
theorem Lin.or {h0 : mH} {F G : mK → mQ → Prop} (h : Lin h0 F) (g : Lin h0 G) : Lin h0 (fun k Q => F k Q ∨ G k Q) := fun k Q hk => by
  rcases hk with hk | hk
  · rcases h k Q hk with ⟨a, b, c, d, z, e, f⟩ | ⟨a, b, z, c, d⟩
    · exact .inl ⟨a, b, c, d, z, e, fun k' Q' q => .inl (f k' Q' q)⟩
    · exact .inr ⟨a, b, z, c, fun k' Q' q => .inl (d k' Q' q)⟩
  · rcases g k Q hk with ⟨a, b, c, d, z, e, f⟩ | ⟨a, b, z, c, d⟩
    · exact .inl ⟨a, b, c, d, z, e, fun k' Q' q => .inr (f k' Q' q)⟩
    · exact .inr ⟨a, b, z, c, fun k' Q' q => .inr (d k' Q' q)⟩
theorem Lin.ex {h0 : mH} {α : Type} {F : α → mK → mQ → Prop} (h : ∀ x, Lin h0 (F x)) : Lin h0 (fun k Q => ∃ x, F x k Q) := fun k Q hk => by
  obtain ⟨x, hk⟩ := hk
  rcases h x k Q hk with ⟨a, b, c, d, z, e, f⟩ | ⟨a, b, z, c, d⟩
  · exact .inl ⟨a, b, c, d, z, e, fun k' Q' q => ⟨x, f k' Q' q⟩⟩
  · exact .inr ⟨a, b, z, c, fun k' Q' q => ⟨x, d k' Q' q⟩⟩
theorem Lin.br {h0 : mH} {P : Prop} {F G : mK → mQ → Prop} (h : Lin h0 F) (g : Lin h0 G) : Lin h0 (fun k Q => (P → F k Q) ∧ (¬ P → G k Q)) := fun k Q hk => by
  by_cases hP : P
  · rcases h k Q (hk.1 hP) with ⟨a, b, c, d, z, e, f⟩ | ⟨a, b, z, c, d⟩
    · exact .inl ⟨a, b, c, d, z, e, fun k' Q' q => ⟨fun _ => f k' Q' q, fun n => (n hP).elim⟩⟩
    · exact .inr ⟨a, b, z, c, fun k' Q' q => ⟨fun _ => d k' Q' q, fun n => (n hP).elim⟩⟩
  · rcases g k Q (hk.2 hP) with ⟨a, b, c, d, z, e, f⟩ | ⟨a, b, z, c, d⟩
    · exact .inl ⟨a, b, c, d, z, e, fun k' Q' q => ⟨fun n => (hP n).elim, fun _ => f k' Q' q⟩⟩
    · exact .inr ⟨a, b, z, c, fun k' Q' q => ⟨fun n => (hP n).elim, fun _ => d k' Q' q⟩⟩
theorem Lin.rb {h0 : mH} {P : Prop} {F G : mK → mQ → Prop} (h : Lin h0 F) (g : Lin h0 G) : Lin h0 (fun k Q => (¬ P → F k Q) ∧ (P → G k Q)) := fun k Q hk => by
  rcases Lin.br g h k Q ⟨hk.2, hk.1⟩ with ⟨a, b, c, d, z, e, f⟩ | ⟨a, b, z, c, d⟩
  · exact .inl ⟨a, b, c, d, z, e, fun k' Q' q => (f k' Q' q).symm⟩
  · exact .inr ⟨a, b, z, c, fun k' Q' q => (d k' Q' q).symm⟩
theorem Lin.brI {h0 : mH} {c : ClassFile.Cond} {x y : Int32} {F G : mK → mQ → Prop} (h : Lin h0 F) (g : Lin h0 G) : Lin h0 (fun k Q => brI c x y (F k Q) (G k Q)) := by
  cases c
  · exact Lin.br h g
  · exact Lin.rb h g
  · exact Lin.br h g
  · exact Lin.br h g
  · exact Lin.br h g
  · exact Lin.br h g
theorem Lin.brA {h0 : mH} {c : ACond} {x y : Option Nat} {F G : mK → mQ → Prop} (h : Lin h0 F) (g : Lin h0 G) : Lin h0 (fun k Q => brA c x y (F k Q) (G k Q)) := by
  cases c
  · exact Lin.br h g
  · exact Lin.rb h g
theorem Lin.pI {h0 : mH} {st : List Value} {F : Int32 → List Value → mK → mQ → Prop} (h : ∀ x r, Lin h0 (F x r)) : Lin h0 (fun k Q => pI st fun x r => F x r k Q) := by
  match st with
  | .int x :: r => exact h x r
  | [] | .long _ :: _ | .float _ :: _ | .double _ :: _ | .null :: _ | .ref _ :: _ | .retAddr _ :: _ => exact Lin.no
theorem Lin.pL {h0 : mH} {st : List Value} {F : Int64 → List Value → mK → mQ → Prop} (h : ∀ x r, Lin h0 (F x r)) : Lin h0 (fun k Q => pL st fun x r => F x r k Q) := by
  match st with
  | .long x :: r => exact h x r
  | [] | .int _ :: _ | .float _ :: _ | .double _ :: _ | .null :: _ | .ref _ :: _ | .retAddr _ :: _ => exact Lin.no
theorem Lin.pF {h0 : mH} {st : List Value} {F : UInt32 → List Value → mK → mQ → Prop} (h : ∀ x r, Lin h0 (F x r)) : Lin h0 (fun k Q => pF st fun x r => F x r k Q) := by
  match st with
  | .float x :: r => exact h x r
  | [] | .int _ :: _ | .long _ :: _ | .double _ :: _ | .null :: _ | .ref _ :: _ | .retAddr _ :: _ => exact Lin.no
theorem Lin.pD {h0 : mH} {st : List Value} {F : UInt64 → List Value → mK → mQ → Prop} (h : ∀ x r, Lin h0 (F x r)) : Lin h0 (fun k Q => pD st fun x r => F x r k Q) := by
  match st with
  | .double x :: r => exact h x r
  | [] | .int _ :: _ | .float _ :: _ | .long _ :: _ | .null :: _ | .ref _ :: _ | .retAddr _ :: _ => exact Lin.no
theorem Lin.pR {h0 : mH} {st : List Value} {F : Option Nat → List Value → mK → mQ → Prop} (h : ∀ x r, Lin h0 (F x r)) : Lin h0 (fun k Q => pR st fun x r => F x r k Q) := by
  match st with
  | .ref x :: r => exact h (some x) r
  | .null :: r => exact h none r
  | [] | .int _ :: _ | .float _ :: _ | .long _ :: _ | .double _ :: _ | .retAddr _ :: _ => exact Lin.no
theorem Lin.pA {h0 : mH} {st : List Value} {F : Nat → List Value → mK → mQ → Prop} (h : ∀ x r, Lin h0 (F x r)) : Lin h0 (fun k Q => pA st fun x r => F x r k Q) := by
  match st with
  | .ref x :: r => exact h x r
  | [] | .int _ :: _ | .float _ :: _ | .long _ :: _ | .null :: _ | .double _ :: _ | .retAddr _ :: _ => exact Lin.no
theorem Lin.g_I {h0 : mH} {lv : mL} {i : Nat} {F : Int32 → mK → mQ → Prop} (h : ∀ x, Lin h0 (F x)) : Lin h0 (fun k Q => gI lv i fun x => F x k Q) := by
  unfold gI
  split
  · exact h _
  · exact Lin.no
theorem Lin.g_L {h0 : mH} {lv : mL} {i : Nat} {F : Int64 → mK → mQ → Prop} (h : ∀ x, Lin h0 (F x)) : Lin h0 (fun k Q => gL lv i fun x => F x k Q) := by
  unfold gL
  split
  · exact h _
  · exact Lin.no
theorem Lin.g_D {h0 : mH} {lv : mL} {i : Nat} {F : UInt64 → mK → mQ → Prop} (h : ∀ x, Lin h0 (F x)) : Lin h0 (fun k Q => gD lv i fun x => F x k Q) := by
  unfold gD
  split
  · exact h _
  · exact Lin.no
theorem Lin.g_R {h0 : mH} {lv : mL} {i : Nat} {F : Option Nat → mK → mQ → Prop} (h : ∀ x, Lin h0 (F x)) : Lin h0 (fun k Q => gR lv i fun x => F x k Q) := by
  unfold gR
  split
  · exact h _
  · exact h _
  · exact Lin.no
theorem Lin.t_k {h0 : mH} {n : Nat} {acc st : List Value} {F : List Value → List Value → mK → mQ → Prop} (h : ∀ x r, Lin h0 (F x r)) : Lin h0 (fun k Q => tk n acc st fun x r => F x r k Q) := by
  induction n generalizing acc st with
  | zero => cases st <;> exact h _ _
  | succ n ih => cases st with
    | nil => exact Lin.no
    | cons v r => exact ih
theorem Lin.c_al {E : mE} (hE : LinE E) {y : Nat} {as rest : List Value} {nx : Nat} {lv : mL} {h : mH} : Lin h (fun k _ => cal E y as rest nx lv h k) := fun k Q hk => by
  obtain ⟨hw, hk⟩ := hk
  obtain ⟨v, h', z, a, b⟩ := hE _ _ _ _ hk
  exact .inl ⟨_, _, _, _, z, a, fun k' Q' q => ⟨hw, b _ q⟩⟩
theorem Lin.p_V {z : FieldType} {st : List Value} {h : mH} {a j : Nat} {nx : Nat} {lv : mL} {r : List Value} : Lin h (fun k Q => pV z st h a j fun x => k nx lv r x) := by
  unfold pV
  split
  all_goals first
    | exact Lin.k _ _ _ _
    | exact Lin.and (Lin.k _ _ _ _)
    | exact Lin.no
set_option maxHeartbeats 1000000 in
theorem stp_lin {E : mE} (hE : LinE E) (i : Instr) (nx : Nat) (lv : mL) (st : List Value) (h : mH) : Lin h (fun k Q => stp E i nx lv st h k Q) := by
  cases i
  case putfield g =>
    match st with
    | [] => exact Lin.no
    | v :: r => exact Lin.pA fun a r => Lin.and Lin.p_V
  case dup =>
    match st with
    | [] => exact Lin.no
    | v :: r => exact Lin.and (Lin.k _ _ _ _)
  case dup2 =>
    match st with
    | [] | [_] => exact Lin.no
    | v :: w :: r => exact Lin.and (Lin.k _ _ _ _)
  case invokespecial n =>
    show Lin h (fun k Q => ivp E n nx lv st h k)
    unfold ivp
    split
    · exact Lin.pA fun _ _ => Lin.and (Lin.k _ _ _ _)
    · exact Lin.t_k fun _ _ => Lin.pA fun _ _ => Lin.c_al hE
  case invokestatic n =>
    show Lin h (fun k Q => ivs E n nx lv st h k)
    unfold ivs
    split
    · exact Lin.pL fun _ _ => Lin.and (Lin.k _ _ _ _)
    · exact Lin.pI fun _ _ => Lin.and (Lin.k _ _ _ _)
    · exact Lin.pD fun _ _ => Lin.and (Lin.k _ _ _ _)
    · exact Lin.pI fun _ _ => Lin.pI fun _ _ => Lin.pA fun _ _ => Lin.pI fun _ _ => Lin.pA fun _ _ => Lin.and (Lin.or (Lin.and (Lin.k _ _ _ _)) (Lin.and (Lin.and (Lin.k _ _ _ _))))
    · exact Lin.pI fun _ _ => Lin.pI fun _ _ => Lin.and (Lin.k _ _ _ _)
    · exact Lin.pI fun _ _ => Lin.pI fun _ _ => Lin.and (Lin.k _ _ _ _)
    · exact Lin.pI fun _ _ => Lin.and (Lin.k _ _ _ _)
    · exact Lin.t_k fun _ _ => Lin.c_al hE
  case invokevirtual n =>
    refine Lin.t_k fun _ _ => Lin.pA fun a r => ?_
    unfold ivv
    split
    · exact Lin.ex fun y => Lin.and (Lin.c_al hE)
    · exact Lin.and (Lin.c_al hE)
  case newarray t => exact Lin.pI fun _ _ => Lin.and (Lin.k _ _ _ _ ⟨Nat.le_succ _, Nat.le_add_right _ _⟩)
  case anewarray t => exact Lin.pI fun _ _ => Lin.and (Lin.k _ _ _ _ ⟨Nat.le_succ _, Nat.le_add_right _ _⟩)
  case new t => exact Lin.k _ _ _ _ ⟨Nat.le_succ _, Nat.le_add_right _ _⟩
  case getstatic j => exact Lin.ex fun a => Lin.and (Lin.k _ _ _ _)
  case ireturn =>
    show Lin h (fun k Q => rtI st h Q)
    unfold rtI
    split
    · exact Lin.q _ _
    · exact Lin.no
  case freturn =>
    show Lin h (fun k Q => rtZ st h Q)
    unfold rtZ
    split
    · exact Lin.and (Lin.q _ _)
    · exact Lin.no
  case lreturn =>
    show Lin h (fun k Q => rtL st h Q)
    unfold rtL
    split
    · exact Lin.q _ _
    · exact Lin.no
  case dreturn =>
    show Lin h (fun k Q => rtD st h Q)
    unfold rtD
    split
    · exact Lin.q _ _
    · exact Lin.no
  case areturn =>
    show Lin h (fun k Q => rtA st h Q)
    unfold rtA
    split
    · exact Lin.q _ _
    · exact Lin.q _ _
    · exact Lin.no
  case return_ =>
    show Lin h (fun k Q => rtV st h Q)
    unfold rtV
    split
    · exact Lin.q _ _
    · exact Lin.no
  case ifCond c t => exact Lin.pI (F := fun x r k _ => brI c x 0 (k t.toNat lv r h) (k nx lv r h)) fun x r => Lin.brI (F := fun k _ => k t.toNat lv r h) (G := fun k _ => k nx lv r h) (Lin.k _ _ _ _) (Lin.k _ _ _ _)
  case if_icmp c t => exact Lin.pI (F := fun y r k _ => pI r fun x r => brI c x y (k t.toNat lv r h) (k nx lv r h)) fun y r => Lin.pI (F := fun x r k _ => brI c x y (k t.toNat lv r h) (k nx lv r h)) fun x r => Lin.brI (F := fun k _ => k t.toNat lv r h) (G := fun k _ => k nx lv r h) (Lin.k _ _ _ _) (Lin.k _ _ _ _)
  case if_acmp c t => exact Lin.pR (F := fun y r k _ => pR r fun x r => brA c x y (k t.toNat lv r h) (k nx lv r h)) fun y r => Lin.pR (F := fun x r k _ => brA c x y (k t.toNat lv r h) (k nx lv r h)) fun x r => Lin.brA (F := fun k _ => k t.toNat lv r h) (G := fun k _ => k nx lv r h) (Lin.k _ _ _ _) (Lin.k _ _ _ _)
  case ifnull t => exact Lin.pR (F := fun x r k _ => (x = none → k t.toNat lv r h) ∧ (¬ x = none → k nx lv r h)) fun x r => Lin.br (F := fun k _ => k t.toNat lv r h) (G := fun k _ => k nx lv r h) (Lin.k _ _ _ _) (Lin.k _ _ _ _)
  case ifnonnull t => exact Lin.pR (F := fun x r k _ => (¬ x = none → k t.toNat lv r h) ∧ (x = none → k nx lv r h)) fun x r => Lin.rb (F := fun k _ => k t.toNat lv r h) (G := fun k _ => k nx lv r h) (Lin.k _ _ _ _) (Lin.k _ _ _ _)
  case tableswitch d lo hi os => exact Lin.pI (F := fun x r k _ => (x.toInt < lo ∨ hi < x.toInt → k d.toNat lv r h) ∧ (¬ (x.toInt < lo ∨ hi < x.toInt) → k (os.getD (x.toInt - lo).toNat 0).toNat lv r h)) fun x r => Lin.br (F := fun k _ => k d.toNat lv r h) (G := fun k _ => k (os.getD (x.toInt - lo).toNat 0).toNat lv r h) (Lin.k _ _ _ _) (Lin.k _ _ _ _)
  case checkcast t => exact Lin.pR (F := fun v r k _ => (∀ a, v = some a → hT h a = t) ∧ k nx lv (va_rf v :: r) h) fun v r => Lin.and (Lin.k _ _ _ _)
  case instanceof t => exact Lin.pR (F := fun v r k _ => ((t = 4 ∨ t = 5 ∨ t = 6) ∧ ∀ a, v = some a → 4 ≤ hT h a ∧ hT h a ≤ 6) ∧ k nx lv (.int (if v.map (hT h) = some t then 1 else 0) :: r) h) fun v r => Lin.and (Lin.k _ _ _ _)
  case astore i => exact Lin.pR (F := fun x r k _ => i < lv.length ∧ k nx (t1 lv i (va_rf x)) r h) fun v r => Lin.and (Lin.k _ _ _ _)
  case aastore => exact Lin.pR (F := fun v r k _ => pI r fun i r => pA r fun a r => isQ (hT h a) ∧ vp_in i (hN h a) ∧ okR h (hT h a) v ∧ k nx lv r (sR h a i.toNatClampNeg v)) fun v r => Lin.pI fun _ _ => Lin.pA fun _ _ => Lin.and (Lin.and (Lin.and (Lin.k _ _ _ _)))
  case aload i => exact Lin.g_R (F := fun x k _ => k nx lv (va_rf x :: st) h) fun x => Lin.k _ _ _ _
  all_goals first
    | exact Lin.no
    | exact Lin.k _ _ _ _
    | exact Lin.g_I fun _ => Lin.k _ _ _ _
    | exact Lin.g_L fun _ => Lin.k _ _ _ _
    | exact Lin.g_D fun _ => Lin.k _ _ _ _
    | exact Lin.g_R fun _ => Lin.k _ _ _ _
    | exact Lin.pI fun _ _ => Lin.k _ _ _ _
    | exact Lin.pI fun _ _ => Lin.and (Lin.k _ _ _ _)
    | exact Lin.pL fun _ _ => Lin.k _ _ _ _
    | exact Lin.pL fun _ _ => Lin.and (Lin.k _ _ _ _)
    | exact Lin.pD fun _ _ => Lin.k _ _ _ _
    | exact Lin.pD fun _ _ => Lin.and (Lin.k _ _ _ _)
    | exact Lin.pF fun _ _ => Lin.and (Lin.k _ _ _ _)
    | exact Lin.pR fun _ _ => Lin.and (Lin.k _ _ _ _)
    | exact Lin.pA fun _ _ => Lin.and (Lin.k _ _ _ _)
    | exact Lin.pI fun _ _ => Lin.pI fun _ _ => Lin.k _ _ _ _
    | exact Lin.pI fun _ _ => Lin.pI fun _ _ => Lin.and (Lin.k _ _ _ _)
    | exact Lin.pL fun _ _ => Lin.pL fun _ _ => Lin.k _ _ _ _
    | exact Lin.pL fun _ _ => Lin.pL fun _ _ => Lin.and (Lin.k _ _ _ _)
    | exact Lin.pI fun _ _ => Lin.pL fun _ _ => Lin.k _ _ _ _
    | exact Lin.pD fun _ _ => Lin.pD fun _ _ => Lin.k _ _ _ _
    | exact Lin.pD fun _ _ => Lin.pD fun _ _ => Lin.and (Lin.k _ _ _ _)
    | exact Lin.pI fun _ _ => Lin.pA fun _ _ => Lin.and (Lin.and (Lin.k _ _ _ _))
    | exact Lin.pI fun _ _ => Lin.pI fun _ _ => Lin.pA fun _ _ => Lin.and (Lin.and (Lin.k _ _ _ _))
    | exact Lin.pL fun _ _ => Lin.pI fun _ _ => Lin.pA fun _ _ => Lin.and (Lin.and (Lin.k _ _ _ _))
    | exact Lin.pD fun _ _ => Lin.pI fun _ _ => Lin.pA fun _ _ => Lin.and (Lin.and (Lin.k _ _ _ _))
    | exact Lin.pI fun _ _ => Lin.pI fun _ _ => Lin.pA fun _ _ => Lin.and (Lin.and (Lin.and (Lin.k _ _ _ _)))
    | exact Lin.pR fun _ _ => Lin.pI fun _ _ => Lin.pA fun _ _ => Lin.and (Lin.and (Lin.and (Lin.k _ _ _ _)))
/-- a run of n steps ends in one way -/
theorem wr_lin {E : mE} (hE : LinE E) {cd : mC} : ∀ (n pc : Nat) (lv : mL) (st : List Value) (h : mH) (Q : mQ), wr E cd n pc lv st h Q → ∃ v h', gE h h' ∧ Q v h' ∧ ∀ Q', Q' v h' → wr E cd n pc lv st h Q' := by
  intro n
  induction n with
  | zero => intro pc lv st h Q q; exact q.elim
  | succ n ih =>
    intro pc lv st h Q q
    unfold wr at q ⊢
    cases hc : cd pc with
    | none => rw [hc] at q; exact q.elim
    | some r =>
      obtain ⟨i, nx⟩ := r
      rw [hc] at q
      rcases stp_lin hE i nx lv st h _ _ q with ⟨pc', lv', st', h', z, a, b⟩ | ⟨v, h', z, a, b⟩
      · obtain ⟨v, h2, z2, c, d⟩ := ih pc' lv' st' h' Q a
        exact ⟨v, h2, z.t z2, c, fun Q' q' => b _ _ (d Q' q')⟩
      · exact ⟨v, h', z, a, fun Q' q' => b _ _ q'⟩
theorem EVg_lin (cdT : Nat → mC) (mxT : Nat → Nat) : ∀ d, LinE (EVg cdT mxT d) := by
  intro d
  induction d with
  | zero => intro y as h Q q; exact q.elim
  | succ d ih =>
    intro y as h Q q
    obtain ⟨hw, n, q⟩ := q
    obtain ⟨v, h', z, a, b⟩ := wr_lin ih n _ _ _ _ _ q
    exact ⟨v, h', z, a, fun Q' q' => ⟨hw, n, b Q' q'⟩⟩
