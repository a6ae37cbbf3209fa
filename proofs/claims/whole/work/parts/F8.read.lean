/-! ===== no call changes what is only read; printed ===== -/
/-- a cell that is only read stays -/
def KB (cc : Nat) (h h' : mH) : Prop := (hT h cc = 30 ∧ cc < hZ h) → (hT h' cc = 30 ∧ cc < hZ h') ∧ hN h' cc = hN h cc ∧ ∀ j, hI h' cc j = hI h cc j
theorem KB.t {cc : Nat} {a b c : mH} (x : KB cc a b) (y : KB cc b c) : KB cc a c := fun q => ⟨(y (x q).1).1, (y (x q).1).2.1.trans (x q).2.1, fun j => ((y (x q).1).2.2 j).trans ((x q).2.2 j)⟩
def okJ (i : Instr) : Bool := match i with
  | .putfield g => g / 100 != 30
  | _ => true
def okOq (r : Option (Instr × Nat)) : Bool := match r with
  | some (i, _) => okJ i
  | none => true
def Lib (cc : Nat) (h0 : mH) (F : mK → mQ → Prop) : Prop := ∀ k Q, F k Q → (∃ pc lv st h, KB cc h0 h ∧ k pc lv st h ∧ ∀ k' Q', k' pc lv st h → F k' Q') ∨ (∃ v h, KB cc h0 h ∧ Q v h ∧ ∀ k' Q', Q' v h → F k' Q')
def LibE (cc : Nat) (E : mE) : Prop := ∀ y as h Q, E y as h Q → ∃ v h', KB cc h h' ∧ Q v h' ∧ ∀ Q', Q' v h' → E y as h Q'
theorem Lib.k {cc : Nat} {h0 : mH} (pc : Nat) (lv : mL) (st : List Value) (h : mH) (g : KB cc h0 h := by exact fun q => ⟨q, rfl, fun _ => rfl⟩) : Lib cc h0 (fun k _ => k pc lv st h) := fun _ _ hk => .inl ⟨_, _, _, _, g, hk, fun _ _ q => q⟩
theorem Lib.q {cc : Nat} {h0 : mH} (v : Option Value) (h : mH) (g : KB cc h0 h := by exact fun q => ⟨q, rfl, fun _ => rfl⟩) : Lib cc h0 (fun _ Q => Q v h) := fun _ _ hk => .inr ⟨_, _, g, hk, fun _ _ q => q⟩
theorem Lib.no {cc : Nat} {h0 : mH} : Lib cc h0 (fun _ _ => False) := fun _ _ h => h.elim
theorem Lib.and {cc : Nat} {h0 : mH} {P : Prop} {F : mK → mQ → Prop} (h : Lib cc h0 F) : Lib cc h0 (fun k Q => P ∧ F k Q) := fun k Q hk => by
  rcases h k Q hk.2 with ⟨a, b, c, d, z, e, f⟩ | ⟨a, b, z, c, d⟩
  · exact .inl ⟨a, b, c, d, z, e, fun k' Q' q => ⟨hk.1, f k' Q' q⟩⟩
  · exact .inr ⟨a, b, z, c, fun k' Q' q => ⟨hk.1, d k' Q' q⟩⟩
theorem Lib.andh {cc : Nat} {h0 : mH} {P : Prop} {F : mK → mQ → Prop} (h : P → Lib cc h0 F) : Lib cc h0 (fun k Q => P ∧ F k Q) := fun k Q hk => by
  rcases h hk.1 k Q hk.2 with ⟨a, b, c, d, z, e, f⟩ | ⟨a, b, z, c, d⟩
  · exact .inl ⟨a, b, c, d, z, e, fun k' Q' q => ⟨hk.1, f k' Q' q⟩⟩
  · exact .inr ⟨a, b, z, c, fun k' Q' q => ⟨hk.1, d k' Q' q⟩⟩
theorem Lib.or {cc : Nat} {h0 : mH} {F G : mK → mQ → Prop} (h : Lib cc h0 F) (g : Lib cc h0 G) : Lib cc h0 (fun k Q => F k Q ∨ G k Q) := fun k Q hk => by
  rcases hk with hk | hk
  · rcases h k Q hk with ⟨a, b, c, d, z, e, f⟩ | ⟨a, b, z, c, d⟩
    · exact .inl ⟨a, b, c, d, z, e, fun k' Q' q => .inl (f k' Q' q)⟩
    · exact .inr ⟨a, b, z, c, fun k' Q' q => .inl (d k' Q' q)⟩
  · rcases g k Q hk with ⟨a, b, c, d, z, e, f⟩ | ⟨a, b, z, c, d⟩
    · exact .inl ⟨a, b, c, d, z, e, fun k' Q' q => .inr (f k' Q' q)⟩
    · exact .inr ⟨a, b, z, c, fun k' Q' q => .inr (d k' Q' q)⟩
theorem Lib.ex {cc : Nat} {h0 : mH} {α : Type} {F : α → mK → mQ → Prop} (h : ∀ x, Lib cc h0 (F x)) : Lib cc h0 (fun k Q => ∃ x, F x k Q) := fun k Q hk => by
  obtain ⟨x, hk⟩ := hk
  rcases h x k Q hk with ⟨a, b, c, d, z, e, f⟩ | ⟨a, b, z, c, d⟩
  · exact .inl ⟨a, b, c, d, z, e, fun k' Q' q => ⟨x, f k' Q' q⟩⟩
  · exact .inr ⟨a, b, z, c, fun k' Q' q => ⟨x, d k' Q' q⟩⟩
theorem Lib.br {cc : Nat} {h0 : mH} {P : Prop} {F G : mK → mQ → Prop} (h : Lib cc h0 F) (g : Lib cc h0 G) : Lib cc h0 (fun k Q => (P → F k Q) ∧ (¬ P → G k Q)) := fun k Q hk => by
  by_cases hP : P
  · rcases h k Q (hk.1 hP) with ⟨a, b, c, d, z, e, f⟩ | ⟨a, b, z, c, d⟩
    · exact .inl ⟨a, b, c, d, z, e, fun k' Q' q => ⟨fun _ => f k' Q' q, fun n => (n hP).elim⟩⟩
    · exact .inr ⟨a, b, z, c, fun k' Q' q => ⟨fun _ => d k' Q' q, fun n => (n hP).elim⟩⟩
  · rcases g k Q (hk.2 hP) with ⟨a, b, c, d, z, e, f⟩ | ⟨a, b, z, c, d⟩
    · exact .inl ⟨a, b, c, d, z, e, fun k' Q' q => ⟨fun n => (hP n).elim, fun _ => f k' Q' q⟩⟩
    · exact .inr ⟨a, b, z, c, fun k' Q' q => ⟨fun n => (hP n).elim, fun _ => d k' Q' q⟩⟩
theorem Lib.rb {cc : Nat} {h0 : mH} {P : Prop} {F G : mK → mQ → Prop} (h : Lib cc h0 F) (g : Lib cc h0 G) : Lib cc h0 (fun k Q => (¬ P → F k Q) ∧ (P → G k Q)) := fun k Q hk => by
  rcases Lib.br g h k Q ⟨hk.2, hk.1⟩ with ⟨a, b, c, d, z, e, f⟩ | ⟨a, b, z, c, d⟩
  · exact .inl ⟨a, b, c, d, z, e, fun k' Q' q => (f k' Q' q).symm⟩
  · exact .inr ⟨a, b, z, c, fun k' Q' q => (d k' Q' q).symm⟩
theorem Lib.brI {cc : Nat} {h0 : mH} {c : ClassFile.Cond} {x y : Int32} {F G : mK → mQ → Prop} (h : Lib cc h0 F) (g : Lib cc h0 G) : Lib cc h0 (fun k Q => brI c x y (F k Q) (G k Q)) := by
  cases c
  · exact Lib.br h g
  · exact Lib.rb h g
  · exact Lib.br h g
  · exact Lib.br h g
  · exact Lib.br h g
  · exact Lib.br h g
theorem Lib.brA {cc : Nat} {h0 : mH} {c : ACond} {x y : Option Nat} {F G : mK → mQ → Prop} (h : Lib cc h0 F) (g : Lib cc h0 G) : Lib cc h0 (fun k Q => brA c x y (F k Q) (G k Q)) := by
  cases c
  · exact Lib.br h g
  · exact Lib.rb h g
theorem Lib.pI {cc : Nat} {h0 : mH} {st : List Value} {F : Int32 → List Value → mK → mQ → Prop} (h : ∀ x r, Lib cc h0 (F x r)) : Lib cc h0 (fun k Q => pI st fun x r => F x r k Q) := by
  match st with
  | .int x :: r => exact h x r
  | [] | .long _ :: _ | .float _ :: _ | .double _ :: _ | .null :: _ | .ref _ :: _ | .retAddr _ :: _ => exact Lib.no
theorem Lib.pL {cc : Nat} {h0 : mH} {st : List Value} {F : Int64 → List Value → mK → mQ → Prop} (h : ∀ x r, Lib cc h0 (F x r)) : Lib cc h0 (fun k Q => pL st fun x r => F x r k Q) := by
  match st with
  | .long x :: r => exact h x r
  | [] | .int _ :: _ | .float _ :: _ | .double _ :: _ | .null :: _ | .ref _ :: _ | .retAddr _ :: _ => exact Lib.no
theorem Lib.pF {cc : Nat} {h0 : mH} {st : List Value} {F : UInt32 → List Value → mK → mQ → Prop} (h : ∀ x r, Lib cc h0 (F x r)) : Lib cc h0 (fun k Q => pF st fun x r => F x r k Q) := by
  match st with
  | .float x :: r => exact h x r
  | [] | .int _ :: _ | .long _ :: _ | .double _ :: _ | .null :: _ | .ref _ :: _ | .retAddr _ :: _ => exact Lib.no
theorem Lib.pD {cc : Nat} {h0 : mH} {st : List Value} {F : UInt64 → List Value → mK → mQ → Prop} (h : ∀ x r, Lib cc h0 (F x r)) : Lib cc h0 (fun k Q => pD st fun x r => F x r k Q) := by
  match st with
  | .double x :: r => exact h x r
  | [] | .int _ :: _ | .float _ :: _ | .long _ :: _ | .null :: _ | .ref _ :: _ | .retAddr _ :: _ => exact Lib.no
theorem Lib.pR {cc : Nat} {h0 : mH} {st : List Value} {F : Option Nat → List Value → mK → mQ → Prop} (h : ∀ x r, Lib cc h0 (F x r)) : Lib cc h0 (fun k Q => pR st fun x r => F x r k Q) := by
  match st with
  | .ref x :: r => exact h (some x) r
  | .null :: r => exact h none r
  | [] | .int _ :: _ | .float _ :: _ | .long _ :: _ | .double _ :: _ | .retAddr _ :: _ => exact Lib.no
theorem Lib.pA {cc : Nat} {h0 : mH} {st : List Value} {F : Nat → List Value → mK → mQ → Prop} (h : ∀ x r, Lib cc h0 (F x r)) : Lib cc h0 (fun k Q => pA st fun x r => F x r k Q) := by
  match st with
  | .ref x :: r => exact h x r
  | [] | .int _ :: _ | .float _ :: _ | .long _ :: _ | .null :: _ | .double _ :: _ | .retAddr _ :: _ => exact Lib.no
theorem Lib.g_I {cc : Nat} {h0 : mH} {lv : mL} {i : Nat} {F : Int32 → mK → mQ → Prop} (h : ∀ x, Lib cc h0 (F x)) : Lib cc h0 (fun k Q => gI lv i fun x => F x k Q) := by
  unfold gI
  split
  · exact h _
  · exact Lib.no
theorem Lib.g_L {cc : Nat} {h0 : mH} {lv : mL} {i : Nat} {F : Int64 → mK → mQ → Prop} (h : ∀ x, Lib cc h0 (F x)) : Lib cc h0 (fun k Q => gL lv i fun x => F x k Q) := by
  unfold gL
  split
  · exact h _
  · exact Lib.no
theorem Lib.g_D {cc : Nat} {h0 : mH} {lv : mL} {i : Nat} {F : UInt64 → mK → mQ → Prop} (h : ∀ x, Lib cc h0 (F x)) : Lib cc h0 (fun k Q => gD lv i fun x => F x k Q) := by
  unfold gD
  split
  · exact h _
  · exact Lib.no
theorem Lib.g_R {cc : Nat} {h0 : mH} {lv : mL} {i : Nat} {F : Option Nat → mK → mQ → Prop} (h : ∀ x, Lib cc h0 (F x)) : Lib cc h0 (fun k Q => gR lv i fun x => F x k Q) := by
  unfold gR
  split
  · exact h _
  · exact h _
  · exact Lib.no
theorem Lib.t_k {cc : Nat} {h0 : mH} {n : Nat} {acc st : List Value} {F : List Value → List Value → mK → mQ → Prop} (h : ∀ x r, Lib cc h0 (F x r)) : Lib cc h0 (fun k Q => tk n acc st fun x r => F x r k Q) := by
  induction n generalizing acc st with
  | zero => cases st <;> exact h _ _
  | succ n ih => cases st with
    | nil => exact Lib.no
    | cons v r => exact ih
theorem Lib.c_al {cc : Nat} {E : mE} (hE : LibE cc E) {y : Nat} {as rest : List Value} {nx : Nat} {lv : mL} {h : mH} : Lib cc h (fun k _ => cal E y as rest nx lv h k) := fun k Q hk => by
  obtain ⟨hw, hk⟩ := hk
  obtain ⟨v, h', z, a, b⟩ := hE _ _ _ _ hk
  exact .inl ⟨_, _, _, _, z, a, fun k' Q' q => ⟨hw, b _ q⟩⟩
theorem KB.st0 {cc : Nat} {h : mH} {a j : Nat} {v : Int32} (q : hT h a ≠ 30) : KB cc h (sI h a j v) := fun x => ⟨x, rfl, fun j' => by
  rw [show hI (sI h a j v) cc j' = if cc = a ∧ j' = j then v else hI h cc j' from rfl, if_neg (fun z => q (by rw [← z.1]; exact x.1))]⟩
theorem KB.nw0 {cc : Nat} {h : mH} {t n m : Nat} : KB cc h (nw h t n m) := fun x => by
  have ne : ¬ cc = hZ h := fun e => by have := x.2; omega
  refine ⟨⟨?_, ?_⟩, ?_, fun j => ?_⟩
  · show (if cc = hZ h then t else hT h cc) = 30
    rw [if_neg ne]; exact x.1
  · show cc < hZ h + 1
    have := x.2; omega
  · show (if cc = hZ h then n else hN h cc) = hN h cc
    rw [if_neg ne]
  · show (if cc = hZ h then (fun _ => 0) else hI h cc) j = hI h cc j
    rw [if_neg ne]
theorem Lib.p_V {cc : Nat} {z : FieldType} {st : List Value} {h : mH} {a j : Nat} {nx : Nat} {lv : mL} {r : List Value} (q : hT h a ≠ 30) : Lib cc h (fun k Q => pV z st h a j fun x => k nx lv r x) := by
  unfold pV
  split
  all_goals first
    | exact Lib.k _ _ _ _
    | exact Lib.k _ _ _ _ (KB.st0 q)
    | exact Lib.and (Lib.k _ _ _ _ (KB.st0 q))
    | exact Lib.no
set_option maxHeartbeats 1000000 in
theorem stp_lib {cc : Nat} {E : mE} (hE : LibE cc E) (i : Instr) (hok : okJ i = true) (nx : Nat) (lv : mL) (st : List Value) (h : mH) : Lib cc h (fun k Q => stp E i nx lv st h k Q) := by
  cases i
  case putfield g =>
    match st with
    | [] => exact Lib.no
    | v :: r =>
      have hg : g / 100 ≠ 30 := by simpa [okJ] using hok
      exact Lib.pA fun a r => Lib.andh fun ht => Lib.p_V (fun e => hg (by rw [← ht]; exact e))
  case dup =>
    match st with
    | [] => exact Lib.no
    | v :: r => exact Lib.and (Lib.k _ _ _ _)
  case dup2 =>
    match st with
    | [] | [_] => exact Lib.no
    | v :: w :: r => exact Lib.and (Lib.k _ _ _ _)
  case invokespecial n =>
    show Lib cc h (fun k Q => ivp E n nx lv st h k)
    unfold ivp
    split
    · exact Lib.pA fun _ _ => Lib.and (Lib.k _ _ _ _)
    · exact Lib.t_k fun _ _ => Lib.pA fun _ _ => Lib.c_al hE
  case invokestatic n =>
    show Lib cc h (fun k Q => ivs E n nx lv st h k)
    unfold ivs
    split
    · exact Lib.pL fun _ _ => Lib.and (Lib.k _ _ _ _)
    · exact Lib.pI fun _ _ => Lib.and (Lib.k _ _ _ _)
    · exact Lib.pD fun _ _ => Lib.and (Lib.k _ _ _ _)
    · exact Lib.pI fun _ _ => Lib.pI fun _ _ => Lib.pA fun _ _ => Lib.pI fun _ _ => Lib.pA fun _ _ => Lib.and (Lib.or (Lib.and (Lib.k _ _ _ _)) (Lib.and (Lib.and (Lib.k _ _ _ _))))
    · exact Lib.pI fun _ _ => Lib.pI fun _ _ => Lib.and (Lib.k _ _ _ _)
    · exact Lib.pI fun _ _ => Lib.pI fun _ _ => Lib.and (Lib.k _ _ _ _)
    · exact Lib.pI fun _ _ => Lib.and (Lib.k _ _ _ _)
    · exact Lib.t_k fun _ _ => Lib.c_al hE
  case invokevirtual n =>
    refine Lib.t_k fun _ _ => Lib.pA fun a r => ?_
    unfold ivv
    split
    · exact Lib.ex fun y => Lib.and (Lib.c_al hE)
    · exact Lib.and (Lib.c_al hE)
  case newarray t => exact Lib.pI fun _ _ => Lib.and (Lib.k _ _ _ _ KB.nw0)
  case anewarray t => exact Lib.pI fun _ _ => Lib.and (Lib.k _ _ _ _ KB.nw0)
  case new t => exact Lib.k _ _ _ _ KB.nw0
  case getstatic j => exact Lib.ex fun a => Lib.and (Lib.k _ _ _ _)
  case ireturn =>
    show Lib cc h (fun k Q => rtI st h Q)
    unfold rtI
    split
    · exact Lib.q _ _
    · exact Lib.no
  case freturn =>
    show Lib cc h (fun k Q => rtZ st h Q)
    unfold rtZ
    split
    · exact Lib.and (Lib.q _ _)
    · exact Lib.no
  case lreturn =>
    show Lib cc h (fun k Q => rtL st h Q)
    unfold rtL
    split
    · exact Lib.q _ _
    · exact Lib.no
  case dreturn =>
    show Lib cc h (fun k Q => rtD st h Q)
    unfold rtD
    split
    · exact Lib.q _ _
    · exact Lib.no
  case areturn =>
    show Lib cc h (fun k Q => rtA st h Q)
    unfold rtA
    split
    · exact Lib.q _ _
    · exact Lib.q _ _
    · exact Lib.no
  case return_ =>
    show Lib cc h (fun k Q => rtV st h Q)
    unfold rtV
    split
    · exact Lib.q _ _
    · exact Lib.no
  case ifCond c t => exact Lib.pI (F := fun x r k _ => brI c x 0 (k t.toNat lv r h) (k nx lv r h)) fun x r => Lib.brI (F := fun k _ => k t.toNat lv r h) (G := fun k _ => k nx lv r h) (Lib.k _ _ _ _) (Lib.k _ _ _ _)
  case if_icmp c t => exact Lib.pI (F := fun y r k _ => pI r fun x r => brI c x y (k t.toNat lv r h) (k nx lv r h)) fun y r => Lib.pI (F := fun x r k _ => brI c x y (k t.toNat lv r h) (k nx lv r h)) fun x r => Lib.brI (F := fun k _ => k t.toNat lv r h) (G := fun k _ => k nx lv r h) (Lib.k _ _ _ _) (Lib.k _ _ _ _)
  case if_acmp c t => exact Lib.pR (F := fun y r k _ => pR r fun x r => brA c x y (k t.toNat lv r h) (k nx lv r h)) fun y r => Lib.pR (F := fun x r k _ => brA c x y (k t.toNat lv r h) (k nx lv r h)) fun x r => Lib.brA (F := fun k _ => k t.toNat lv r h) (G := fun k _ => k nx lv r h) (Lib.k _ _ _ _) (Lib.k _ _ _ _)
  case ifnull t => exact Lib.pR (F := fun x r k _ => (x = none → k t.toNat lv r h) ∧ (¬ x = none → k nx lv r h)) fun x r => Lib.br (F := fun k _ => k t.toNat lv r h) (G := fun k _ => k nx lv r h) (Lib.k _ _ _ _) (Lib.k _ _ _ _)
  case ifnonnull t => exact Lib.pR (F := fun x r k _ => (¬ x = none → k t.toNat lv r h) ∧ (x = none → k nx lv r h)) fun x r => Lib.rb (F := fun k _ => k t.toNat lv r h) (G := fun k _ => k nx lv r h) (Lib.k _ _ _ _) (Lib.k _ _ _ _)
  case tableswitch d lo hi os => exact Lib.pI (F := fun x r k _ => (x.toInt < lo ∨ hi < x.toInt → k d.toNat lv r h) ∧ (¬ (x.toInt < lo ∨ hi < x.toInt) → k (os.getD (x.toInt - lo).toNat 0).toNat lv r h)) fun x r => Lib.br (F := fun k _ => k d.toNat lv r h) (G := fun k _ => k (os.getD (x.toInt - lo).toNat 0).toNat lv r h) (Lib.k _ _ _ _) (Lib.k _ _ _ _)
  case checkcast t => exact Lib.pR (F := fun v r k _ => (∀ a, v = some a → hT h a = t) ∧ k nx lv (va_rf v :: r) h) fun v r => Lib.and (Lib.k _ _ _ _)
  case instanceof t => exact Lib.pR (F := fun v r k _ => ((t = 4 ∨ t = 5 ∨ t = 6) ∧ ∀ a, v = some a → 4 ≤ hT h a ∧ hT h a ≤ 6) ∧ k nx lv (.int (if v.map (hT h) = some t then 1 else 0) :: r) h) fun v r => Lib.and (Lib.k _ _ _ _)
  case iastore => exact Lib.pI fun _ _ => Lib.pI fun _ _ => Lib.pA fun _ _ => Lib.andh fun ht => Lib.and (Lib.k _ _ _ _ (KB.st0 (fun e => by omega)))
  case bastore => exact Lib.pI fun _ _ => Lib.pI fun _ _ => Lib.pA fun _ _ => Lib.andh fun ht => Lib.and (Lib.and (Lib.k _ _ _ _ (KB.st0 (fun e => by omega))))
  case astore i => exact Lib.pR (F := fun x r k _ => i < lv.length ∧ k nx (t1 lv i (va_rf x)) r h) fun v r => Lib.and (Lib.k _ _ _ _)
  case aastore => exact Lib.pR (F := fun v r k _ => pI r fun i r => pA r fun a r => isQ (hT h a) ∧ vp_in i (hN h a) ∧ okR h (hT h a) v ∧ k nx lv r (sR h a i.toNatClampNeg v)) fun v r => Lib.pI fun _ _ => Lib.pA fun _ _ => Lib.and (Lib.and (Lib.and (Lib.k _ _ _ _)))
  case aload i => exact Lib.g_R (F := fun x k _ => k nx lv (va_rf x :: st) h) fun x => Lib.k _ _ _ _
  all_goals first
    | exact Lib.no
    | exact Lib.k _ _ _ _
    | exact Lib.g_I fun _ => Lib.k _ _ _ _
    | exact Lib.g_L fun _ => Lib.k _ _ _ _
    | exact Lib.g_D fun _ => Lib.k _ _ _ _
    | exact Lib.g_R fun _ => Lib.k _ _ _ _
    | exact Lib.pI fun _ _ => Lib.k _ _ _ _
    | exact Lib.pI fun _ _ => Lib.and (Lib.k _ _ _ _)
    | exact Lib.pL fun _ _ => Lib.k _ _ _ _
    | exact Lib.pL fun _ _ => Lib.and (Lib.k _ _ _ _)
    | exact Lib.pD fun _ _ => Lib.k _ _ _ _
    | exact Lib.pD fun _ _ => Lib.and (Lib.k _ _ _ _)
    | exact Lib.pF fun _ _ => Lib.and (Lib.k _ _ _ _)
    | exact Lib.pR fun _ _ => Lib.and (Lib.k _ _ _ _)
    | exact Lib.pA fun _ _ => Lib.and (Lib.k _ _ _ _)
    | exact Lib.pI fun _ _ => Lib.pI fun _ _ => Lib.k _ _ _ _
    | exact Lib.pI fun _ _ => Lib.pI fun _ _ => Lib.and (Lib.k _ _ _ _)
    | exact Lib.pL fun _ _ => Lib.pL fun _ _ => Lib.k _ _ _ _
    | exact Lib.pL fun _ _ => Lib.pL fun _ _ => Lib.and (Lib.k _ _ _ _)
    | exact Lib.pI fun _ _ => Lib.pL fun _ _ => Lib.k _ _ _ _
    | exact Lib.pD fun _ _ => Lib.pD fun _ _ => Lib.k _ _ _ _
    | exact Lib.pD fun _ _ => Lib.pD fun _ _ => Lib.and (Lib.k _ _ _ _)
    | exact Lib.pI fun _ _ => Lib.pA fun _ _ => Lib.and (Lib.and (Lib.k _ _ _ _))
    | exact Lib.pI fun _ _ => Lib.pI fun _ _ => Lib.pA fun _ _ => Lib.and (Lib.and (Lib.k _ _ _ _))
    | exact Lib.pL fun _ _ => Lib.pI fun _ _ => Lib.pA fun _ _ => Lib.and (Lib.and (Lib.k _ _ _ _))
    | exact Lib.pD fun _ _ => Lib.pI fun _ _ => Lib.pA fun _ _ => Lib.and (Lib.and (Lib.k _ _ _ _))
    | exact Lib.pI fun _ _ => Lib.pI fun _ _ => Lib.pA fun _ _ => Lib.and (Lib.and (Lib.and (Lib.k _ _ _ _)))
    | exact Lib.pR fun _ _ => Lib.pI fun _ _ => Lib.pA fun _ _ => Lib.and (Lib.and (Lib.and (Lib.k _ _ _ _)))
/-- a run of n steps ends in one way -/
theorem wr_lib {cc : Nat} {E : mE} (hE : LibE cc E) {cd : mC} (hcd : ∀ pc, okOq (cd pc) = true) : ∀ (n pc : Nat) (lv : mL) (st : List Value) (h : mH) (Q : mQ), wr E cd n pc lv st h Q → ∃ v h', KB cc h h' ∧ Q v h' ∧ ∀ Q', Q' v h' → wr E cd n pc lv st h Q' := by
  intro n
  induction n with
  | zero => intro pc lv st h Q q; exact q.elim
  | succ n ih =>
    intro pc lv st h Q q
    unfold wr at q ⊢
    cases hc : cd pc with
    | none => rw [hc] at q; exact q.elim
    | some r =>
      obtain ⟨i, nx⟩ := r
      rw [hc] at q
      have hi : okJ i = true := by have q2 := hcd pc; rw [hc] at q2; exact q2
      rcases stp_lib hE i hi nx lv st h _ _ q with ⟨pc', lv', st', h', z, a, b⟩ | ⟨v, h', z, a, b⟩
      · obtain ⟨v, h2, z2, c, d⟩ := ih pc' lv' st' h' Q a
        exact ⟨v, h2, z.t z2, c, fun Q' q' => b _ _ (d Q' q')⟩
      · exact ⟨v, h', z, a, fun Q' q' => b _ _ q'⟩
theorem EVg_lib (cc : Nat) (cdT : Nat → mC) (mxT : Nat → Nat) (hcd : ∀ y, ∀ pc, okOq (cdT y pc) = true) : ∀ d, LibE cc (EVg cdT mxT d) := by
  intro d
  induction d with
  | zero => intro y as h Q q; exact q.elim
  | succ d ih =>
    intro y as h Q q
    obtain ⟨hw, n, q⟩ := q
    obtain ⟨v, h', z, a, b⟩ := wr_lib ih (hcd y) n _ _ _ _ _ q
    exact ⟨v, h', z, a, fun Q' q' => ⟨hw, n, b Q' q'⟩⟩
