/-! ===== no call but run changes the count of the steps; printed ===== -/
/-- place 63 of the reference's object stays -/
def KS (cc : Nat) (h h' : mH) : Prop := (hT h cc = 11 ∧ cc < hZ h) → (hT h' cc = 11 ∧ cc < hZ h') ∧ hI h' cc 63 = hI h cc 63
theorem KS.t {cc : Nat} {a b c : mH} (x : KS cc a b) (y : KS cc b c) : KS cc a c := fun q => ⟨(y (x q).1).1, (y (x q).1).2.trans (x q).2⟩
def okI (i : Instr) : Bool := match i with
  | .putfield g => g != 1163
  | .invokespecial n => n / 512 != 230
  | .invokestatic n => n / 512 != 230
  | .invokevirtual n => n / 512 != 230
  | _ => true
def okOp (r : Option (Instr × Nat)) : Bool := match r with
  | some (i, _) => okI i
  | none => true
theorem vtab_n {f t y : Nat} (h : vtab f t = some y) : y ≠ 230 := by
  unfold vtab at h
  cases e : vtabL.find? (fun r => r.1 == f && r.2.1 == t) with
  | none => rw [e] at h; cases h
  | some r =>
    rw [e] at h
    have m := List.mem_of_find?_eq_some e
    have k : ∀ r ∈ vtabL, r.2.2 ≠ 230 := by decide
    cases h
    exact k r m
def Lik (cc : Nat) (h0 : mH) (F : mK → mQ → Prop) : Prop := ∀ k Q, F k Q → (∃ pc lv st h, KS cc h0 h ∧ k pc lv st h ∧ ∀ k' Q', k' pc lv st h → F k' Q') ∨ (∃ v h, KS cc h0 h ∧ Q v h ∧ ∀ k' Q', Q' v h → F k' Q')
def LikE (cc : Nat) (E : mE) : Prop := ∀ y as h Q, y ≠ 230 → E y as h Q → ∃ v h', KS cc h h' ∧ Q v h' ∧ ∀ Q', Q' v h' → E y as h Q'
theorem Lik.k {cc : Nat} {h0 : mH} (pc : Nat) (lv : mL) (st : List Value) (h : mH) (g : KS cc h0 h := by exact fun q => ⟨q, rfl⟩) : Lik cc h0 (fun k _ => k pc lv st h) := fun _ _ hk => .inl ⟨_, _, _, _, g, hk, fun _ _ q => q⟩
theorem Lik.q {cc : Nat} {h0 : mH} (v : Option Value) (h : mH) (g : KS cc h0 h := by exact fun q => ⟨q, rfl⟩) : Lik cc h0 (fun _ Q => Q v h) := fun _ _ hk => .inr ⟨_, _, g, hk, fun _ _ q => q⟩
theorem Lik.no {cc : Nat} {h0 : mH} : Lik cc h0 (fun _ _ => False) := fun _ _ h => h.elim
theorem Lik.and {cc : Nat} {h0 : mH} {P : Prop} {F : mK → mQ → Prop} (h : Lik cc h0 F) : Lik cc h0 (fun k Q => P ∧ F k Q) := fun k Q hk => by
  rcases h k Q hk.2 with ⟨a, b, c, d, z, e, f⟩ | ⟨a, b, z, c, d⟩
  · exact .inl ⟨a, b, c, d, z, e, fun k' Q' q => ⟨hk.1, f k' Q' q⟩⟩
  · exact .inr ⟨a, b, z, c, fun k' Q' q => ⟨hk.1, d k' Q' q⟩⟩
theorem Lik.andh {cc : Nat} {h0 : mH} {P : Prop} {F : mK → mQ → Prop} (h : P → Lik cc h0 F) : Lik cc h0 (fun k Q => P ∧ F k Q) := fun k Q hk => by
  rcases h hk.1 k Q hk.2 with ⟨a, b, c, d, z, e, f⟩ | ⟨a, b, z, c, d⟩
  · exact .inl ⟨a, b, c, d, z, e, fun k' Q' q => ⟨hk.1, f k' Q' q⟩⟩
  · exact .inr ⟨a, b, z, c, fun k' Q' q => ⟨hk.1, d k' Q' q⟩⟩
theorem Lik.or {cc : Nat} {h0 : mH} {F G : mK → mQ → Prop} (h : Lik cc h0 F) (g : Lik cc h0 G) : Lik cc h0 (fun k Q => F k Q ∨ G k Q) := fun k Q hk => by
  rcases hk with hk | hk
  · rcases h k Q hk with ⟨a, b, c, d, z, e, f⟩ | ⟨a, b, z, c, d⟩
    · exact .inl ⟨a, b, c, d, z, e, fun k' Q' q => .inl (f k' Q' q)⟩
    · exact .inr ⟨a, b, z, c, fun k' Q' q => .inl (d k' Q' q)⟩
  · rcases g k Q hk with ⟨a, b, c, d, z, e, f⟩ | ⟨a, b, z, c, d⟩
    · exact .inl ⟨a, b, c, d, z, e, fun k' Q' q => .inr (f k' Q' q)⟩
    · exact .inr ⟨a, b, z, c, fun k' Q' q => .inr (d k' Q' q)⟩
theorem Lik.ex {cc : Nat} {h0 : mH} {α : Type} {F : α → mK → mQ → Prop} (h : ∀ x, Lik cc h0 (F x)) : Lik cc h0 (fun k Q => ∃ x, F x k Q) := fun k Q hk => by
  obtain ⟨x, hk⟩ := hk
  rcases h x k Q hk with ⟨a, b, c, d, z, e, f⟩ | ⟨a, b, z, c, d⟩
  · exact .inl ⟨a, b, c, d, z, e, fun k' Q' q => ⟨x, f k' Q' q⟩⟩
  · exact .inr ⟨a, b, z, c, fun k' Q' q => ⟨x, d k' Q' q⟩⟩
theorem Lik.br {cc : Nat} {h0 : mH} {P : Prop} {F G : mK → mQ → Prop} (h : Lik cc h0 F) (g : Lik cc h0 G) : Lik cc h0 (fun k Q => (P → F k Q) ∧ (¬ P → G k Q)) := fun k Q hk => by
  by_cases hP : P
  · rcases h k Q (hk.1 hP) with ⟨a, b, c, d, z, e, f⟩ | ⟨a, b, z, c, d⟩
    · exact .inl ⟨a, b, c, d, z, e, fun k' Q' q => ⟨fun _ => f k' Q' q, fun n => (n hP).elim⟩⟩
    · exact .inr ⟨a, b, z, c, fun k' Q' q => ⟨fun _ => d k' Q' q, fun n => (n hP).elim⟩⟩
  · rcases g k Q (hk.2 hP) with ⟨a, b, c, d, z, e, f⟩ | ⟨a, b, z, c, d⟩
    · exact .inl ⟨a, b, c, d, z, e, fun k' Q' q => ⟨fun n => (hP n).elim, fun _ => f k' Q' q⟩⟩
    · exact .inr ⟨a, b, z, c, fun k' Q' q => ⟨fun n => (hP n).elim, fun _ => d k' Q' q⟩⟩
theorem Lik.rb {cc : Nat} {h0 : mH} {P : Prop} {F G : mK → mQ → Prop} (h : Lik cc h0 F) (g : Lik cc h0 G) : Lik cc h0 (fun k Q => (¬ P → F k Q) ∧ (P → G k Q)) := fun k Q hk => by
  rcases Lik.br g h k Q ⟨hk.2, hk.1⟩ with ⟨a, b, c, d, z, e, f⟩ | ⟨a, b, z, c, d⟩
  · exact .inl ⟨a, b, c, d, z, e, fun k' Q' q => (f k' Q' q).symm⟩
  · exact .inr ⟨a, b, z, c, fun k' Q' q => (d k' Q' q).symm⟩
theorem Lik.brI {cc : Nat} {h0 : mH} {c : ClassFile.Cond} {x y : Int32} {F G : mK → mQ → Prop} (h : Lik cc h0 F) (g : Lik cc h0 G) : Lik cc h0 (fun k Q => brI c x y (F k Q) (G k Q)) := by
  cases c
  · exact Lik.br h g
  · exact Lik.rb h g
  · exact Lik.br h g
  · exact Lik.br h g
  · exact Lik.br h g
  · exact Lik.br h g
theorem Lik.brA {cc : Nat} {h0 : mH} {c : ACond} {x y : Option Nat} {F G : mK → mQ → Prop} (h : Lik cc h0 F) (g : Lik cc h0 G) : Lik cc h0 (fun k Q => brA c x y (F k Q) (G k Q)) := by
  cases c
  · exact Lik.br h g
  · exact Lik.rb h g
theorem Lik.pI {cc : Nat} {h0 : mH} {st : List Value} {F : Int32 → List Value → mK → mQ → Prop} (h : ∀ x r, Lik cc h0 (F x r)) : Lik cc h0 (fun k Q => pI st fun x r => F x r k Q) := by
  match st with
  | .int x :: r => exact h x r
  | [] | .long _ :: _ | .float _ :: _ | .double _ :: _ | .null :: _ | .ref _ :: _ | .retAddr _ :: _ => exact Lik.no
theorem Lik.pL {cc : Nat} {h0 : mH} {st : List Value} {F : Int64 → List Value → mK → mQ → Prop} (h : ∀ x r, Lik cc h0 (F x r)) : Lik cc h0 (fun k Q => pL st fun x r => F x r k Q) := by
  match st with
  | .long x :: r => exact h x r
  | [] | .int _ :: _ | .float _ :: _ | .double _ :: _ | .null :: _ | .ref _ :: _ | .retAddr _ :: _ => exact Lik.no
theorem Lik.pF {cc : Nat} {h0 : mH} {st : List Value} {F : UInt32 → List Value → mK → mQ → Prop} (h : ∀ x r, Lik cc h0 (F x r)) : Lik cc h0 (fun k Q => pF st fun x r => F x r k Q) := by
  match st with
  | .float x :: r => exact h x r
  | [] | .int _ :: _ | .long _ :: _ | .double _ :: _ | .null :: _ | .ref _ :: _ | .retAddr _ :: _ => exact Lik.no
theorem Lik.pD {cc : Nat} {h0 : mH} {st : List Value} {F : UInt64 → List Value → mK → mQ → Prop} (h : ∀ x r, Lik cc h0 (F x r)) : Lik cc h0 (fun k Q => pD st fun x r => F x r k Q) := by
  match st with
  | .double x :: r => exact h x r
  | [] | .int _ :: _ | .float _ :: _ | .long _ :: _ | .null :: _ | .ref _ :: _ | .retAddr _ :: _ => exact Lik.no
theorem Lik.pR {cc : Nat} {h0 : mH} {st : List Value} {F : Option Nat → List Value → mK → mQ → Prop} (h : ∀ x r, Lik cc h0 (F x r)) : Lik cc h0 (fun k Q => pR st fun x r => F x r k Q) := by
  match st with
  | .ref x :: r => exact h (some x) r
  | .null :: r => exact h none r
  | [] | .int _ :: _ | .float _ :: _ | .long _ :: _ | .double _ :: _ | .retAddr _ :: _ => exact Lik.no
theorem Lik.pA {cc : Nat} {h0 : mH} {st : List Value} {F : Nat → List Value → mK → mQ → Prop} (h : ∀ x r, Lik cc h0 (F x r)) : Lik cc h0 (fun k Q => pA st fun x r => F x r k Q) := by
  match st with
  | .ref x :: r => exact h x r
  | [] | .int _ :: _ | .float _ :: _ | .long _ :: _ | .null :: _ | .double _ :: _ | .retAddr _ :: _ => exact Lik.no
theorem Lik.g_I {cc : Nat} {h0 : mH} {lv : mL} {i : Nat} {F : Int32 → mK → mQ → Prop} (h : ∀ x, Lik cc h0 (F x)) : Lik cc h0 (fun k Q => gI lv i fun x => F x k Q) := by
  unfold gI
  split
  · exact h _
  · exact Lik.no
theorem Lik.g_L {cc : Nat} {h0 : mH} {lv : mL} {i : Nat} {F : Int64 → mK → mQ → Prop} (h : ∀ x, Lik cc h0 (F x)) : Lik cc h0 (fun k Q => gL lv i fun x => F x k Q) := by
  unfold gL
  split
  · exact h _
  · exact Lik.no
theorem Lik.g_D {cc : Nat} {h0 : mH} {lv : mL} {i : Nat} {F : UInt64 → mK → mQ → Prop} (h : ∀ x, Lik cc h0 (F x)) : Lik cc h0 (fun k Q => gD lv i fun x => F x k Q) := by
  unfold gD
  split
  · exact h _
  · exact Lik.no
theorem Lik.g_R {cc : Nat} {h0 : mH} {lv : mL} {i : Nat} {F : Option Nat → mK → mQ → Prop} (h : ∀ x, Lik cc h0 (F x)) : Lik cc h0 (fun k Q => gR lv i fun x => F x k Q) := by
  unfold gR
  split
  · exact h _
  · exact h _
  · exact Lik.no
theorem Lik.t_k {cc : Nat} {h0 : mH} {n : Nat} {acc st : List Value} {F : List Value → List Value → mK → mQ → Prop} (h : ∀ x r, Lik cc h0 (F x r)) : Lik cc h0 (fun k Q => tk n acc st fun x r => F x r k Q) := by
  induction n generalizing acc st with
  | zero => cases st <;> exact h _ _
  | succ n ih => cases st with
    | nil => exact Lik.no
    | cons v r => exact ih
theorem Lik.c_al {cc : Nat} {E : mE} (hE : LikE cc E) {y : Nat} (hy : y ≠ 230) {as rest : List Value} {nx : Nat} {lv : mL} {h : mH} : Lik cc h (fun k _ => cal E y as rest nx lv h k) := fun k Q hk => by
  obtain ⟨hw, hk⟩ := hk
  obtain ⟨v, h', z, a, b⟩ := hE _ _ _ _ hy hk
  exact .inl ⟨_, _, _, _, z, a, fun k' Q' q => ⟨hw, b _ q⟩⟩
theorem KS.st0 {cc : Nat} {h : mH} {a j : Nat} {v : Int32} (q : hT h a = 11 → j ≠ 63) : KS cc h (sI h a j v) := fun x => ⟨x, by
  rw [show hI (sI h a j v) cc 63 = if cc = a ∧ 63 = j then v else hI h cc 63 from rfl, if_neg (fun z => q (by rw [← z.1]; exact x.1) z.2.symm)]⟩
theorem KS.nw0 {cc : Nat} {h : mH} {t n m : Nat} : KS cc h (nw h t n m) := fun x => by
  have ne : ¬ cc = hZ h := fun e => by have := x.2; omega
  refine ⟨⟨?_, ?_⟩, ?_⟩
  · show (if cc = hZ h then t else hT h cc) = 11
    rw [if_neg ne]; exact x.1
  · show cc < hZ h + 1
    have := x.2; omega
  · show (if cc = hZ h then (fun _ => 0) else hI h cc) 63 = hI h cc 63
    rw [if_neg ne]
theorem Lik.p_V {cc : Nat} {z : FieldType} {st : List Value} {h : mH} {a j : Nat} {nx : Nat} {lv : mL} {r : List Value} (q : hT h a = 11 → j ≠ 63) : Lik cc h (fun k Q => pV z st h a j fun x => k nx lv r x) := by
  unfold pV
  split
  all_goals first
    | exact Lik.k _ _ _ _
    | exact Lik.k _ _ _ _ (KS.st0 q)
    | exact Lik.and (Lik.k _ _ _ _ (KS.st0 q))
    | exact Lik.no
set_option maxHeartbeats 1000000 in
theorem stp_lik {cc : Nat} {E : mE} (hE : LikE cc E) (i : Instr) (hok : okI i = true) (nx : Nat) (lv : mL) (st : List Value) (h : mH) : Lik cc h (fun k Q => stp E i nx lv st h k Q) := by
  cases i
  case putfield g =>
    match st with
    | [] => exact Lik.no
    | v :: r =>
      have hg : g ≠ 1163 := by simpa [okI] using hok
      exact Lik.pA fun a r => Lik.andh fun ht => Lik.p_V (fun e => by omega)
  case dup =>
    match st with
    | [] => exact Lik.no
    | v :: r => exact Lik.and (Lik.k _ _ _ _)
  case dup2 =>
    match st with
    | [] | [_] => exact Lik.no
    | v :: w :: r => exact Lik.and (Lik.k _ _ _ _)
  case invokespecial n =>
    show Lik cc h (fun k Q => ivp E n nx lv st h k)
    unfold ivp
    split
    · exact Lik.pA fun _ _ => Lik.and (Lik.k _ _ _ _)
    · exact Lik.t_k fun _ _ => Lik.pA fun _ _ => Lik.c_al hE (by simpa [okI] using hok)
  case invokestatic n =>
    show Lik cc h (fun k Q => ivs E n nx lv st h k)
    unfold ivs
    split
    · exact Lik.pL fun _ _ => Lik.and (Lik.k _ _ _ _)
    · exact Lik.pI fun _ _ => Lik.and (Lik.k _ _ _ _)
    · exact Lik.pD fun _ _ => Lik.and (Lik.k _ _ _ _)
    · exact Lik.pI fun _ _ => Lik.pI fun _ _ => Lik.pA fun _ _ => Lik.pI fun _ _ => Lik.pA fun _ _ => Lik.and (Lik.or (Lik.and (Lik.k _ _ _ _)) (Lik.and (Lik.and (Lik.k _ _ _ _))))
    · exact Lik.pI fun _ _ => Lik.pI fun _ _ => Lik.and (Lik.k _ _ _ _)
    · exact Lik.pI fun _ _ => Lik.pI fun _ _ => Lik.and (Lik.k _ _ _ _)
    · exact Lik.pI fun _ _ => Lik.and (Lik.k _ _ _ _)
    · exact Lik.t_k fun _ _ => Lik.c_al hE (by simpa [okI] using hok)
  case invokevirtual n =>
    refine Lik.t_k fun _ _ => Lik.pA fun a r => ?_
    unfold ivv
    split
    · exact Lik.ex fun y => Lik.andh fun hv => Lik.c_al hE (vtab_n hv)
    · exact Lik.and (Lik.c_al hE (by simpa [okI] using hok))
  case newarray t => exact Lik.pI fun _ _ => Lik.and (Lik.k _ _ _ _ KS.nw0)
  case anewarray t => exact Lik.pI fun _ _ => Lik.and (Lik.k _ _ _ _ KS.nw0)
  case new t => exact Lik.k _ _ _ _ KS.nw0
  case getstatic j => exact Lik.ex fun a => Lik.and (Lik.k _ _ _ _)
  case ireturn =>
    show Lik cc h (fun k Q => rtI st h Q)
    unfold rtI
    split
    · exact Lik.q _ _
    · exact Lik.no
  case freturn =>
    show Lik cc h (fun k Q => rtZ st h Q)
    unfold rtZ
    split
    · exact Lik.and (Lik.q _ _)
    · exact Lik.no
  case lreturn =>
    show Lik cc h (fun k Q => rtL st h Q)
    unfold rtL
    split
    · exact Lik.q _ _
    · exact Lik.no
  case dreturn =>
    show Lik cc h (fun k Q => rtD st h Q)
    unfold rtD
    split
    · exact Lik.q _ _
    · exact Lik.no
  case areturn =>
    show Lik cc h (fun k Q => rtA st h Q)
    unfold rtA
    split
    · exact Lik.q _ _
    · exact Lik.q _ _
    · exact Lik.no
  case return_ =>
    show Lik cc h (fun k Q => rtV st h Q)
    unfold rtV
    split
    · exact Lik.q _ _
    · exact Lik.no
  case ifCond c t => exact Lik.pI (F := fun x r k _ => brI c x 0 (k t.toNat lv r h) (k nx lv r h)) fun x r => Lik.brI (F := fun k _ => k t.toNat lv r h) (G := fun k _ => k nx lv r h) (Lik.k _ _ _ _) (Lik.k _ _ _ _)
  case if_icmp c t => exact Lik.pI (F := fun y r k _ => pI r fun x r => brI c x y (k t.toNat lv r h) (k nx lv r h)) fun y r => Lik.pI (F := fun x r k _ => brI c x y (k t.toNat lv r h) (k nx lv r h)) fun x r => Lik.brI (F := fun k _ => k t.toNat lv r h) (G := fun k _ => k nx lv r h) (Lik.k _ _ _ _) (Lik.k _ _ _ _)
  case if_acmp c t => exact Lik.pR (F := fun y r k _ => pR r fun x r => brA c x y (k t.toNat lv r h) (k nx lv r h)) fun y r => Lik.pR (F := fun x r k _ => brA c x y (k t.toNat lv r h) (k nx lv r h)) fun x r => Lik.brA (F := fun k _ => k t.toNat lv r h) (G := fun k _ => k nx lv r h) (Lik.k _ _ _ _) (Lik.k _ _ _ _)
  case ifnull t => exact Lik.pR (F := fun x r k _ => (x = none → k t.toNat lv r h) ∧ (¬ x = none → k nx lv r h)) fun x r => Lik.br (F := fun k _ => k t.toNat lv r h) (G := fun k _ => k nx lv r h) (Lik.k _ _ _ _) (Lik.k _ _ _ _)
  case ifnonnull t => exact Lik.pR (F := fun x r k _ => (¬ x = none → k t.toNat lv r h) ∧ (x = none → k nx lv r h)) fun x r => Lik.rb (F := fun k _ => k t.toNat lv r h) (G := fun k _ => k nx lv r h) (Lik.k _ _ _ _) (Lik.k _ _ _ _)
  case tableswitch d lo hi os => exact Lik.pI (F := fun x r k _ => (x.toInt < lo ∨ hi < x.toInt → k d.toNat lv r h) ∧ (¬ (x.toInt < lo ∨ hi < x.toInt) → k (os.getD (x.toInt - lo).toNat 0).toNat lv r h)) fun x r => Lik.br (F := fun k _ => k d.toNat lv r h) (G := fun k _ => k (os.getD (x.toInt - lo).toNat 0).toNat lv r h) (Lik.k _ _ _ _) (Lik.k _ _ _ _)
  case checkcast t => exact Lik.pR (F := fun v r k _ => (∀ a, v = some a → hT h a = t) ∧ k nx lv (va_rf v :: r) h) fun v r => Lik.and (Lik.k _ _ _ _)
  case instanceof t => exact Lik.pR (F := fun v r k _ => ((t = 4 ∨ t = 5 ∨ t = 6) ∧ ∀ a, v = some a → 4 ≤ hT h a ∧ hT h a ≤ 6) ∧ k nx lv (.int (if v.map (hT h) = some t then 1 else 0) :: r) h) fun v r => Lik.and (Lik.k _ _ _ _)
  case iastore => exact Lik.pI fun _ _ => Lik.pI fun _ _ => Lik.pA fun _ _ => Lik.andh fun ht => Lik.and (Lik.k _ _ _ _ (KS.st0 (fun e => by omega)))
  case bastore => exact Lik.pI fun _ _ => Lik.pI fun _ _ => Lik.pA fun _ _ => Lik.andh fun ht => Lik.and (Lik.and (Lik.k _ _ _ _ (KS.st0 (fun e => by omega))))
  case astore i => exact Lik.pR (F := fun x r k _ => i < lv.length ∧ k nx (t1 lv i (va_rf x)) r h) fun v r => Lik.and (Lik.k _ _ _ _)
  case aastore => exact Lik.pR (F := fun v r k _ => pI r fun i r => pA r fun a r => isQ (hT h a) ∧ vp_in i (hN h a) ∧ okR h (hT h a) v ∧ k nx lv r (sR h a i.toNatClampNeg v)) fun v r => Lik.pI fun _ _ => Lik.pA fun _ _ => Lik.and (Lik.and (Lik.and (Lik.k _ _ _ _)))
  case aload i => exact Lik.g_R (F := fun x k _ => k nx lv (va_rf x :: st) h) fun x => Lik.k _ _ _ _
  all_goals first
    | exact Lik.no
    | exact Lik.k _ _ _ _
    | exact Lik.g_I fun _ => Lik.k _ _ _ _
    | exact Lik.g_L fun _ => Lik.k _ _ _ _
    | exact Lik.g_D fun _ => Lik.k _ _ _ _
    | exact Lik.g_R fun _ => Lik.k _ _ _ _
    | exact Lik.pI fun _ _ => Lik.k _ _ _ _
    | exact Lik.pI fun _ _ => Lik.and (Lik.k _ _ _ _)
    | exact Lik.pL fun _ _ => Lik.k _ _ _ _
    | exact Lik.pL fun _ _ => Lik.and (Lik.k _ _ _ _)
    | exact Lik.pD fun _ _ => Lik.k _ _ _ _
    | exact Lik.pD fun _ _ => Lik.and (Lik.k _ _ _ _)
    | exact Lik.pF fun _ _ => Lik.and (Lik.k _ _ _ _)
    | exact Lik.pR fun _ _ => Lik.and (Lik.k _ _ _ _)
    | exact Lik.pA fun _ _ => Lik.and (Lik.k _ _ _ _)
    | exact Lik.pI fun _ _ => Lik.pI fun _ _ => Lik.k _ _ _ _
    | exact Lik.pI fun _ _ => Lik.pI fun _ _ => Lik.and (Lik.k _ _ _ _)
    | exact Lik.pL fun _ _ => Lik.pL fun _ _ => Lik.k _ _ _ _
    | exact Lik.pL fun _ _ => Lik.pL fun _ _ => Lik.and (Lik.k _ _ _ _)
    | exact Lik.pI fun _ _ => Lik.pL fun _ _ => Lik.k _ _ _ _
    | exact Lik.pD fun _ _ => Lik.pD fun _ _ => Lik.k _ _ _ _
    | exact Lik.pD fun _ _ => Lik.pD fun _ _ => Lik.and (Lik.k _ _ _ _)
    | exact Lik.pI fun _ _ => Lik.pA fun _ _ => Lik.and (Lik.and (Lik.k _ _ _ _))
    | exact Lik.pI fun _ _ => Lik.pI fun _ _ => Lik.pA fun _ _ => Lik.and (Lik.and (Lik.k _ _ _ _))
    | exact Lik.pL fun _ _ => Lik.pI fun _ _ => Lik.pA fun _ _ => Lik.and (Lik.and (Lik.k _ _ _ _))
    | exact Lik.pD fun _ _ => Lik.pI fun _ _ => Lik.pA fun _ _ => Lik.and (Lik.and (Lik.k _ _ _ _))
    | exact Lik.pI fun _ _ => Lik.pI fun _ _ => Lik.pA fun _ _ => Lik.and (Lik.and (Lik.and (Lik.k _ _ _ _)))
    | exact Lik.pR fun _ _ => Lik.pI fun _ _ => Lik.pA fun _ _ => Lik.and (Lik.and (Lik.and (Lik.k _ _ _ _)))
/-- a run of n steps ends in one way -/
theorem wr_lik {cc : Nat} {E : mE} (hE : LikE cc E) {cd : mC} (hcd : ∀ pc, okOp (cd pc) = true) : ∀ (n pc : Nat) (lv : mL) (st : List Value) (h : mH) (Q : mQ), wr E cd n pc lv st h Q → ∃ v h', KS cc h h' ∧ Q v h' ∧ ∀ Q', Q' v h' → wr E cd n pc lv st h Q' := by
  intro n
  induction n with
  | zero => intro pc lv st h Q q; exact q.elim
  | succ n ih =>
    intro pc lv st h Q q
    unfold wr at q ⊢
    cases hc : cd pc with
    | none => rw [hc] at q; exact q.elim
    | some r =>
      obtain ⟨i, nx⟩ := r
      rw [hc] at q
      have hi : okI i = true := by have q2 := hcd pc; rw [hc] at q2; exact q2
      rcases stp_lik hE i hi nx lv st h _ _ q with ⟨pc', lv', st', h', z, a, b⟩ | ⟨v, h', z, a, b⟩
      · obtain ⟨v, h2, z2, c, d⟩ := ih pc' lv' st' h' Q a
        exact ⟨v, h2, z.t z2, c, fun Q' q' => b _ _ (d Q' q')⟩
      · exact ⟨v, h', z, a, fun Q' q' => b _ _ q'⟩
theorem EVg_lik (cc : Nat) (cdT : Nat → mC) (mxT : Nat → Nat) (hcd : ∀ y, y ≠ 230 → ∀ pc, okOp (cdT y pc) = true) : ∀ d, LikE cc (EVg cdT mxT d) := by
  intro d
  induction d with
  | zero => intro y as h Q _ q; exact q.elim
  | succ d ih =>
    intro y as h Q hy q
    obtain ⟨hw, n, q⟩ := q
    obtain ⟨v, h', z, a, b⟩ := wr_lik ih (hcd y hy) n _ _ _ _ _ q
    exact ⟨v, h', z, a, fun Q' q' => ⟨hw, n, b Q' q'⟩⟩
