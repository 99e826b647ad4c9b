/-! the heap as functions of addresses: kind (0: not known; 1 + a class' place in vwCl; 20 int[], 21 long[], 22 double[], 23 boolean[], 24 Object[]), length, ints, references, longs, doubles; the heap's size; cells and slots made so far -/
def Hp : Type := (Nat → Nat) × (Nat → Nat) × (Nat → Nat → Int32) × (Nat → Nat → Option Nat) × (Nat → Nat → Int64) × (Nat → Nat → UInt64) × Nat × Nat × Nat
def Hp.kd (σ : Hp) : Nat → Nat := σ.1
def Hp.ln (σ : Hp) : Nat → Nat := σ.2.1
def Hp.iv (σ : Hp) : Nat → Nat → Int32 := σ.2.2.1
def Hp.rv (σ : Hp) : Nat → Nat → Option Nat := σ.2.2.2.1
def Hp.lv (σ : Hp) : Nat → Nat → Int64 := σ.2.2.2.2.1
def Hp.dv (σ : Hp) : Nat → Nat → UInt64 := σ.2.2.2.2.2.1
def Hp.sz (σ : Hp) : Nat := σ.2.2.2.2.2.2.1
def Hp.cl (σ : Hp) : Nat := σ.2.2.2.2.2.2.2.1
def Hp.sl (σ : Hp) : Nat := σ.2.2.2.2.2.2.2.2
def up2 {α : Type} (f : Nat → Nat → α) (a k : Nat) (x : α) : Nat → Nat → α := fun b j => if b = a ∧ j = k then x else f b j
def up1 {α : Type} (f : Nat → α) (a : Nat) (x : α) : Nat → α := fun b => if b = a then x else f b
def Hp.setI (σ : Hp) (a k : Nat) (x : Int32) : Hp := (σ.kd, σ.ln, up2 σ.iv a k x, σ.rv, σ.lv, σ.dv, σ.sz, σ.cl, σ.sl)
def Hp.setR (σ : Hp) (a k : Nat) (x : Option Nat) : Hp := (σ.kd, σ.ln, σ.iv, up2 σ.rv a k x, σ.lv, σ.dv, σ.sz, σ.cl, σ.sl)
def Hp.setL (σ : Hp) (a k : Nat) (x : Int64) : Hp := (σ.kd, σ.ln, σ.iv, σ.rv, up2 σ.lv a k x, σ.dv, σ.sz, σ.cl, σ.sl)
def Hp.setD (σ : Hp) (a k : Nat) (x : UInt64) : Hp := (σ.kd, σ.ln, σ.iv, σ.rv, σ.lv, up2 σ.dv a k x, σ.sz, σ.cl, σ.sl)
/-- a row of references anew -/
def Hp.row (σ : Hp) (a : Nat) (f : Nat → Option Nat) : Hp := (σ.kd, σ.ln, σ.iv, up1 σ.rv a f, σ.lv, σ.dv, σ.sz, σ.cl, σ.sl)
/-- a new cell, all zero, of kind K and length n, of w slots -/
def Hp.al (σ : Hp) (K n w : Nat) : Hp := (up1 σ.kd σ.sz K, up1 σ.ln σ.sz n, up1 σ.iv σ.sz (fun _ => 0), up1 σ.rv σ.sz (fun _ => none), up1 σ.lv σ.sz (fun _ => 0), up1 σ.dv σ.sz (fun _ => 0), σ.sz + 1, σ.cl + 1, σ.sl + w)
/-- an exception was made -/
def Hp.ex (σ : Hp) : Hp := (σ.kd, σ.ln, σ.iv, σ.rv, σ.lv, σ.dv, σ.sz + 1, σ.cl + 1, σ.sl + 6)
/-- the types of the fields of the classes in vwCl -/
def ftab (ci : Nat) : Nat → FieldType := match ci with
  | 2 => tyJx4a65c | 3 => tyX0 | 4 => tyX1 | 5 => tyX2 | 6 => tyX3 | 7 => tyX4 | 8 => tyX5 | 9 => tyX6 | 10 => tyX7 | 11 => tyX8 | 12 => tyX9 | 13 => tyX10
  | _ => fun _ => .int
def isRf (ci k : Nat) : Bool := (ftab ci k).isReference
def Hp.fv (σ : Hp) (ci a k : Nat) : Value := if isRf ci k = true then va_rf (σ.rv a k) else .int (σ.iv a k)
/-- what is fixed for a whole run of the law: where classes and fields lie, the array classes, the start, its arguments, the empty array of ArrayList, the script -/
def Cx : Type := va_G × (Nat → ClassId) × State × Array Value × Nat × Nat × Nat × (Nat → Int32) × Nat
def Cx.D (X : Cx) : va_G := X.1
def Cx.cs (X : Cx) : Nat → ClassId := X.2.1
def Cx.s0 (X : Cx) : State := X.2.2.1
def Cx.A0 (X : Cx) : Array Value := X.2.2.2.1
def Cx.t0 (X : Cx) : Nat := X.2.2.2.2.1
def Cx.sb (X : Cx) : Nat := X.2.2.2.2.2.1
def Cx.sL (X : Cx) : Nat := X.2.2.2.2.2.2.1
def Cx.xs (X : Cx) : Nat → Int32 := X.2.2.2.2.2.2.2.1
def Cx.mi (X : Cx) : Nat := X.2.2.2.2.2.2.2.2
def Cx.b0 (X : Cx) : Nat := X.s0.heap.size
def vwTy (X : Cx) : List (ClassId × FieldType) := [(X.cs 0, .int), (X.cs 0, .int), (X.cs 0, .int), (X.cs 3, .boolean), (X.cs 4, .object "java/lang/Object")]
/-- what the start gives -/
def K0 (X : Cx) : Prop := (∀ w ∈ lw_tbl, w.before X.A0 X.s0 = true) ∧ va_K X.D vwCl (vwTy X) X.s0 ∧
  vx_Zq Bundle.tN "UNASSIGNED_STACK" Bundle.steD (fun q => X.b0 ≤ q) X.s0 X.s0.heap ∧ vx_Zq Bundle.tN "SUPPRESSED_SENTINEL" Bundle.listD (fun q => X.b0 ≤ q) X.s0 X.s0.heap ∧
  va_Z "java/util/ArrayList" "DEFAULTCAPACITY_EMPTY_ELEMENTDATA" "[Ljava/lang/Object;" (.ref X.t0) (fun q => X.b0 ≤ q) X.s0 X.s0.heap ∧
  (∃ cell : Cell, X.s0.heap[X.t0]? = some cell ∧ X.s0.isArrayOf cell (.object "java/lang/Object") ∧ cell.slots.size = 0) ∧
  (∀ (ix : Nat) (tx : String), (Cond.stringRef "Hopyard" ix tx) ∈ lw_tbl → ∃ sa, vk_R "Hopyard" ix tx sa X.s0) ∧
  va_X X.sb X.sL X.xs X.s0 X.s0.heap ∧ X.sb < X.b0 ∧ X.t0 < X.b0 ∧ va_Mi "[Ljava/lang/Object;" X.mi X.s0
def hAt (X : Cx) (σ : Hp) (H : Heap) (a : Nat) : Prop :=
  (∀ (ci : Nat) (r : vw_C), σ.kd a = ci + 1 → vwCl[ci]? = some r → t_OB a (X.D.1 ci) r.2.2 (X.D.2 ci) H (σ.fv ci a)) ∧
  (σ.kd a = 20 → H[a]? = some (vp_cell (X.cs 0) (σ.ln a, .inl (σ.iv a)))) ∧
  (σ.kd a = 21 → H[a]? = some (vp_cell (X.cs 1) (σ.ln a, .inr (.inl (σ.lv a))))) ∧
  (σ.kd a = 22 → H[a]? = some (vp_cell (X.cs 2) (σ.ln a, .inr (.inr (.inr (.inl (σ.dv a))))))) ∧
  (σ.kd a = 23 → H[a]? = some (vp_cell (X.cs 3) (σ.ln a, .inl (σ.iv a)))) ∧
  (σ.kd a = 24 → H[a]? = some (vp_cell (X.cs 4) (σ.ln a, .inr (.inr (.inr (.inr (σ.rv a)))))))
def HS (X : Cx) (σ : Hp) (H : Heap) : Prop := H.size = σ.sz ∧ X.b0 ≤ σ.sz ∧ (∀ a, σ.kd a ≠ 0 → X.b0 ≤ a ∧ a < σ.sz ∧ (σ.kd a ≤ 14 ∨ 20 ≤ σ.kd a ∧ σ.kd a ≤ 24)) ∧ (∀ a, hAt X σ H a) ∧ ∀ q, q < X.b0 → H[q]? = X.s0.heap[q]?
/-- a method: its name, code, locals, what it returns, its handlers -/
def Mt : Type := MethodName × ByteArray × Nat × Option FieldType × List (Nat × Nat × Nat × Nat)
def Mt.y (M : Mt) : MethodName := M.1
def Mt.cc (M : Mt) : ByteArray := M.2.1
def Mt.ml (M : Mt) : Nat := M.2.2.1
def Mt.rt (M : Mt) : Option FieldType := M.2.2.2.1
def Mt.hh (M : Mt) : List (Nat × Nat × Nat × Nat) := M.2.2.2.2
def Mt.wd (M : Mt) : Cond := match M.hh with
  | [] => .code M.y M.cc M.ml M.rt
  | h => .codeWith M.y M.cc M.ml M.rt h
/-- a method's end: what it returns, or the class that it throws -/
abbrev Rs : Type := Option Value ⊕ String
def QcX (X : Cx) (o : Rs) (τ : Hp) : Array Value → State → Outcome → State → Prop := fun _ _ oc t => ∃ v, o = .inl v ∧ oc = .returned v ∧ HS X τ t.heap
def XcX (X : Cx) (o : Rs) (τ : Hp) : String → State → State → Prop := fun E _ t => o = .inr E ∧ HS X τ t.heap
def PcX (X : Cx) (av : List Value) (σ : Hp) : Array Value → State → Prop := fun a U => a = av.toArray ∧ K0 X ∧ X.s0.WarmedH U.vm ∧ HS X σ U.heap
def FxM (X : Cx) (M : Mt) (p : Program) (l : Launch) (s : State) (m : MethodId) (args : Array Value) (meth : Method) (c : Code) : Prop :=
  p.tables.exec = Jvm.exec ∧ c.code = M.cc ∧ c.maxLocals = M.ml ∧ meth.sig.returnType = M.rt ∧ meth.locks = false ∧ s.vm.findClass M.y.cls = some m.cls ∧ meth.name = M.y.name ∧ c.exceptionTable.toList = tableOf M.hh ∧ l.stackTraces = false ∧ K0 X ∧ X.s0.WarmedH s.vm ∧ X.b0 ≤ s.heap.size ∧ (∀ q, q < X.b0 → s.heap[q]? = X.s0.heap[q]?)
/-- the locals: some are known, all of them of one slot -/
def LsOk (la : Array Slot) (nL : Nat) (ls : List (Option Value)) : Prop := la.size = nL ∧ lv_wf la ∧ ∀ (i : Nat) (v : Value), ls[i]? = some (some v) → la[i]? = some (.val v) ∧ v.category = 1
/-- from this place of the method it comes to its end: the judgement of all that follows -/
def Ev (X : Cx) (M : Mt) (d pc : Nat) (ls : List (Option Value)) (st : List Value) (σ : Hp) (o : Rs) (τ : Hp) : Prop :=
  σ.cl ≤ τ.cl ∧ σ.sl ≤ τ.sl ∧ σ.sz ≤ τ.sz ∧
  ∀ (p : Program) (l : Launch) (e : Env) (R : Room) (s : State) (m : MethodId) (args : Array Value) (below : List Frame) (meth : Method) (c : Code) (H : Heap) (locs : List Loc) (k0 n0 : Nat) (la : Array Slot),
    FxM X M p l s m args meth c → d ≤ R.frames → 100 * d ≤ R.locals → k0 ≤ σ.cl → n0 ≤ σ.sl → τ.cl - k0 ≤ R.cells → τ.sl - n0 ≤ R.slots →
    s.heap.size ≤ σ.sz → HS X σ H → (∀ q ∈ locs, X.b0 ≤ q.base) → LsOk la M.ml ls →
    W p l e R s m args below meth c H locs (σ.cl - k0) (σ.sl - n0) (vx_MQ below (QcX X o τ) (XcX X o τ) args s (τ.cl - k0) (τ.sl - n0) (fun q => X.b0 ≤ q)) (F0 m pc la st)
/-- a method's contract: from the heap σ with these arguments it ends so -/
def Ct (X : Cx) (M : Mt) (d : Nat) (av : List Value) (σ : Hp) (o : Rs) (τ : Hp) : Prop :=
  σ.cl ≤ τ.cl ∧ σ.sl ≤ τ.sl ∧ σ.sz ≤ τ.sz ∧ ∀ l : Launch, l.stackTraces = false →
    vx_Met l M.y [M.wd] ({ frames := d, cells := τ.cl - σ.cl, slots := τ.sl - σ.sl, locals := 100 * d }) (PcX X av σ) (QcX X o τ) (XcX X o τ) (τ.cl - σ.cl) (τ.sl - σ.sl) (fun q => X.b0 ≤ q)
def enL (n : Nat) (av : List Value) : List (Option Value) := av.map some ++ List.replicate (n - av.length) none
theorem K0.good {X : Cx} {U : State} {w : Cond} {a : Array Value} (h : K0 X) (hW : X.s0.WarmedH U.vm) (hm : w ∈ lw_tbl) (hg : goodWord w = true) : w.before a U = true := word_at hW (good_of_word hg) (h.1 w hm)
theorem up2_eq {α : Type} (f : Nat → Nat → α) (a k : Nat) (x : α) : up2 f a k x a k = x := if_pos ⟨rfl, rfl⟩
theorem up2_ne {α : Type} (f : Nat → Nat → α) {a k b j : Nat} (x : α) (h : ¬ (b = a ∧ j = k)) : up2 f a k x b j = f b j := if_neg h
theorem up1_eq {α : Type} (f : Nat → α) (a : Nat) (x : α) : up1 f a x a = x := if_pos rfl
theorem up1_ne {α : Type} (f : Nat → α) {a b : Nat} (x : α) (h : ¬ b = a) : up1 f a x b = f b := if_neg h
-- locals
theorem LsOk.has {la : Array Slot} {nL : Nat} {ls : List (Option Value)} (h : LsOk la nL ls) {i : Nat} {v : Value} (hi : ls[i]? = some (some v)) : la[i]? = some (.val v) := (h.2.2 i v hi).1
def tol (ls : List (Option Value)) : List (Nat × Value) := (List.range ls.length).filterMap (fun j => match ls[j]? with | some (some w) => some (j, w) | _ => none)
theorem tol_mem {ls : List (Option Value)} {j : Nat} {w : Value} (h : ls[j]? = some (some w)) : (j, w) ∈ tol ls :=
  List.mem_filterMap.mpr ⟨j, List.mem_range.mpr (List.getElem?_eq_some_iff.mp h).1, by simp [h]⟩
theorem LsOk.lst {la : Array Slot} {nL : Nat} {ls : List (Option Value)} (h : LsOk la nL ls) : lv_has la nL (tol ls) := by
  refine ⟨h.1, h.2.1, fun q hq => ?_⟩
  obtain ⟨j, -, hj⟩ := List.mem_filterMap.mp hq
  split at hj
  · rename_i w hw
    cases hj
    exact (h.2.2 j w hw).1
  · cases hj
theorem LsOk.back {la la' : Array Slot} {nL : Nat} {ls : List (Option Value)} (h : LsOk la nL ls) {i : Nat} {v : Value} (hc : v.category = 1) (h4 : lv_has la' nL ((i, v) :: (tol ls).filter (fun q => !(q.1 == i) && !(q.1 + 1 == i && q.2.category == 2)))) : LsOk la' nL (ls.set i (some v)) := by
  refine ⟨h4.1, h4.2.1, fun j w hj => ?_⟩
  rw [List.getElem?_set] at hj
  by_cases hij : i = j
  · subst hij
    rw [if_pos rfl] at hj
    split at hj
    · cases hj
      exact ⟨h4.2.2 (i, v) List.mem_cons_self, hc⟩
    · cases hj
  · rw [if_neg hij] at hj
    have hk := h.2.2 j w hj
    refine ⟨h4.2.2 (j, w) (List.mem_cons_of_mem _ (List.mem_filter.mpr ⟨tol_mem hj, ?_⟩)), hk.2⟩
    have h9 : ¬ j = i := fun q => hij q.symm
    simp [h9, hk.2]
theorem LsOk.mono {la : Array Slot} {nL : Nat} {ls ls' : List (Option Value)} (h : LsOk la nL ls) (hm : ∀ (i : Nat) (v : Value), ls'[i]? = some (some v) → ls[i]? = some (some v)) : LsOk la nL ls' := ⟨h.1, h.2.1, fun i v hi => h.2.2 i v (hm i v hi)⟩
theorem Ev.forget {X : Cx} {M : Mt} {d pc : Nat} {ls ls' : List (Option Value)} {st : List Value} {σ τ : Hp} {o : Rs} (k : Ev X M d pc ls' st σ o τ) (hm : ∀ (i : Nat) (v : Value), ls'[i]? = some (some v) → ls[i]? = some (some v)) : Ev X M d pc ls st σ o τ :=
  ⟨k.1, k.2.1, k.2.2.1, fun p l e R s m args below meth c H locs k0 n0 la h1 h2 h3 h4 h5 h6 h7 h8 h9 h10 h11 => k.2.2.2 p l e R s m args below meth c H locs k0 n0 la h1 h2 h3 h4 h5 h6 h7 h8 h9 h10 (h11.mono hm)⟩
/-- an instruction that leaves the heap as it is -/
theorem Ev.pure {X : Cx} {M : Mt} {d pc pc' : Nat} {ls ls' : List (Option Value)} {st st' : List Value} {σ τ : Hp} {o : Rs}
    (h : ∀ (p : Program) (l : Launch) (e : Env) (R : Room) (s : State) (m : MethodId) (args : Array Value) (below : List Frame) (meth : Method) (c : Code) (H : Heap) (locs : List Loc) (cells slots : Nat) (Q : State → Prop) (la : Array Slot),
      FxM X M p l s m args meth c → d ≤ R.frames → 100 * d ≤ R.locals → cells ≤ R.cells → slots ≤ R.slots → s.heap.size ≤ σ.sz → HS X σ H → LsOk la M.ml ls → (∀ la', LsOk la' M.ml ls' → W p l e R s m args below meth c H locs cells slots Q (F0 m pc' la' st')) → W p l e R s m args below meth c H locs cells slots Q (F0 m pc la st))
    (k : Ev X M d pc' ls' st' σ o τ) : Ev X M d pc ls st σ o τ :=
  ⟨k.1, k.2.1, k.2.2.1, fun p l e R s m args below meth c H locs k0 n0 la h1 h2 h3 h4 h5 h6 h7 h8 h9 h10 h11 => by
    have e1 := k.1
    have e2 := k.2.1
    exact h p l e R s m args below meth c H locs _ _ _ la h1 h2 h3 (by omega) (by omega) h8 h9 h11 (fun la' hl => k.2.2.2 p l e R s m args below meth c H locs k0 n0 la' h1 h2 h3 h4 h5 h6 h7 h8 h9 h10 hl)⟩
section PURE
variable {X : Cx} {M : Mt} {d pc : Nat} {ls : List (Option Value)} {rest : List Value} {σ τ : Hp} {o : Rs}
theorem Ev.iconst {n : Int} {v : Int32} (d9 : decode M.cc pc = .ok (.iconst n, 1)) (hv : Int32.ofInt n = v) (k : Ev X M d (pc + 1) ls (.int v :: rest) σ o τ) : Ev X M d pc ls rest σ o τ :=
  Ev.pure (fun _ _ _ _ _ _ _ _ _ _ _ _ _ _ _ _ hF _ _ _ _ _ _ hl kk => lv_iconst hF.1 hF.2.1 d9 hv (kk _ hl)) k
theorem Ev.bipush {n : Int} {v : Int32} (d9 : decode M.cc pc = .ok (.bipush n, 2)) (hv : (Int8.ofInt n).toInt32 = v) (k : Ev X M d (pc + 2) ls (.int v :: rest) σ o τ) : Ev X M d pc ls rest σ o τ :=
  Ev.pure (fun _ _ _ _ _ _ _ _ _ _ _ _ _ _ _ _ hF _ _ _ _ _ _ hl kk => lv_bipush hF.1 hF.2.1 d9 hv (kk _ hl)) k
theorem Ev.sipush {n : Int} {v : Int32} (d9 : decode M.cc pc = .ok (.sipush n, 3)) (hv : (Int16.ofInt n).toInt32 = v) (k : Ev X M d (pc + 3) ls (.int v :: rest) σ o τ) : Ev X M d pc ls rest σ o τ :=
  Ev.pure (fun _ _ _ _ _ _ _ _ _ _ _ _ _ _ _ _ hF _ _ _ _ _ _ hl kk => lv_sipush hF.1 hF.2.1 d9 hv (kk _ hl)) k
theorem Ev.iload_n {n : Fin 4} {i : Nat} {x : Int32} (d9 : decode M.cc pc = .ok (.iload_n n, 1)) (hi : (n : Nat) = i) (hx : ls[i]? = some (some (.int x))) (k : Ev X M d (pc + 1) ls (.int x :: rest) σ o τ) : Ev X M d pc ls rest σ o τ :=
  Ev.pure (fun _ _ _ _ _ _ _ _ _ _ _ _ _ _ _ _ hF _ _ _ _ _ _ hl kk => lv_iload_n hF.1 hF.2.1 d9 hi (hl.has hx) (kk _ hl)) k
theorem Ev.iload {i : Nat} {x : Int32} (d9 : decode M.cc pc = .ok (.iload i, 2)) (hx : ls[i]? = some (some (.int x))) (k : Ev X M d (pc + 2) ls (.int x :: rest) σ o τ) : Ev X M d pc ls rest σ o τ :=
  Ev.pure (fun _ _ _ _ _ _ _ _ _ _ _ _ _ _ _ _ hF _ _ _ _ _ _ hl kk => lv_iload hF.1 hF.2.1 d9 (hl.has hx) (kk _ hl)) k
theorem Ev.fload {i : Nat} {x : UInt32} (d9 : decode M.cc pc = .ok (.fload i, 2)) (hx : ls[i]? = some (some (.float x))) (k : Ev X M d (pc + 2) ls (.float x :: rest) σ o τ) : Ev X M d pc ls rest σ o τ :=
  Ev.pure (fun _ _ _ _ _ _ _ _ _ _ _ _ _ _ _ _ hF _ _ _ _ _ _ hl kk => lv_fload hF.1 hF.2.1 d9 (hl.has hx) (kk _ hl)) k
theorem Ev.aload_n {n : Fin 4} {i : Nat} {r : Option Nat} (d9 : decode M.cc pc = .ok (.aload_n n, 1)) (hi : (n : Nat) = i) (hx : ls[i]? = some (some (va_rf r))) (k : Ev X M d (pc + 1) ls (va_rf r :: rest) σ o τ) : Ev X M d pc ls rest σ o τ := by
  cases r with
  | none => exact Ev.pure (fun _ _ _ _ _ _ _ _ _ _ _ _ _ _ _ _ hF _ _ _ _ _ _ hl kk => lv_aload_nN hF.1 hF.2.1 d9 hi (hl.has hx) (kk _ hl)) k
  | some a => exact Ev.pure (fun _ _ _ _ _ _ _ _ _ _ _ _ _ _ _ _ hF _ _ _ _ _ _ hl kk => lv_aload_n hF.1 hF.2.1 d9 hi (hl.has hx) (kk _ hl)) k
theorem Ev.aload {i : Nat} {r : Option Nat} (d9 : decode M.cc pc = .ok (.aload i, 2)) (hx : ls[i]? = some (some (va_rf r))) (k : Ev X M d (pc + 2) ls (va_rf r :: rest) σ o τ) : Ev X M d pc ls rest σ o τ := by
  cases r with
  | none => exact Ev.pure (fun _ _ _ _ _ _ _ _ _ _ _ _ _ _ _ _ hF _ _ _ _ _ _ hl kk => lv_aloadN hF.1 hF.2.1 d9 (hl.has hx) (kk _ hl)) k
  | some a => exact Ev.pure (fun _ _ _ _ _ _ _ _ _ _ _ _ _ _ _ _ hF _ _ _ _ _ _ hl kk => lv_aload hF.1 hF.2.1 d9 (hl.has hx) (kk _ hl)) k
theorem Ev.istore {i : Nat} {x : Int32} (d9 : decode M.cc pc = .ok (.istore i, 2)) (hn : i < M.ml) (k : Ev X M d (pc + 2) (ls.set i (some (.int x))) rest σ o τ) : Ev X M d pc ls (.int x :: rest) σ o τ :=
  Ev.pure (fun _ _ _ _ _ _ _ _ _ _ _ _ _ _ _ _ hF _ _ _ _ _ _ hl kk => lv_istore hF.1 hF.2.1 d9 hl.lst hn rfl (fun la' h => kk la' (hl.back rfl h))) k
theorem Ev.fstore {i : Nat} {x : UInt32} (d9 : decode M.cc pc = .ok (.fstore i, 2)) (hn : i < M.ml) (k : Ev X M d (pc + 2) (ls.set i (some (.float x))) rest σ o τ) : Ev X M d pc ls (.float x :: rest) σ o τ :=
  Ev.pure (fun _ _ _ _ _ _ _ _ _ _ _ _ _ _ _ _ hF _ _ _ _ _ _ hl kk => lv_fstore hF.1 hF.2.1 d9 hl.lst hn rfl (fun la' h => kk la' (hl.back rfl h))) k
theorem Ev.istore_n {n : Fin 4} {i : Nat} {x : Int32} (d9 : decode M.cc pc = .ok (.istore_n n, 1)) (hi : (n : Nat) = i) (hn : i < M.ml) (k : Ev X M d (pc + 1) (ls.set i (some (.int x))) rest σ o τ) : Ev X M d pc ls (.int x :: rest) σ o τ :=
  Ev.pure (fun _ _ _ _ _ _ _ _ _ _ _ _ _ _ _ _ hF _ _ _ _ _ _ hl kk => lv_istore_n hF.1 hF.2.1 d9 hi hl.lst hn rfl (fun la' h => kk la' (hl.back rfl h))) k
theorem Ev.astore_n {n : Fin 4} {i : Nat} {r : Option Nat} (d9 : decode M.cc pc = .ok (.astore_n n, 1)) (hi : (n : Nat) = i) (hn : i < M.ml) (k : Ev X M d (pc + 1) (ls.set i (some (va_rf r))) rest σ o τ) : Ev X M d pc ls (va_rf r :: rest) σ o τ := by
  cases r with
  | none => exact Ev.pure (fun _ _ _ _ _ _ _ _ _ _ _ _ _ _ _ _ hF _ _ _ _ _ _ hl kk => lv_astore_nN hF.1 hF.2.1 d9 hi hl.lst hn rfl (fun la' h => kk la' (hl.back rfl h))) k
  | some a => exact Ev.pure (fun _ _ _ _ _ _ _ _ _ _ _ _ _ _ _ _ hF _ _ _ _ _ _ hl kk => lv_astore_n hF.1 hF.2.1 d9 hi hl.lst hn rfl (fun la' h => kk la' (hl.back rfl h))) k
theorem Ev.astore {i : Nat} {r : Option Nat} (d9 : decode M.cc pc = .ok (.astore i, 2)) (hn : i < M.ml) (k : Ev X M d (pc + 2) (ls.set i (some (va_rf r))) rest σ o τ) : Ev X M d pc ls (va_rf r :: rest) σ o τ := by
  cases r with
  | none => exact Ev.pure (fun _ _ _ _ _ _ _ _ _ _ _ _ _ _ _ _ hF _ _ _ _ _ _ hl kk => lv_astoreN hF.1 hF.2.1 d9 hl.lst hn rfl (fun la' h => kk la' (hl.back rfl h))) k
  | some a => exact Ev.pure (fun _ _ _ _ _ _ _ _ _ _ _ _ _ _ _ _ hF _ _ _ _ _ _ hl kk => lv_astore hF.1 hF.2.1 d9 hl.lst hn rfl (fun la' h => kk la' (hl.back rfl h))) k
theorem Ev.iinc {i : Nat} {n : Int} {x v : Int32} (d9 : decode M.cc pc = .ok (.iinc i n, 3)) (hx : ls[i]? = some (some (.int x))) (hv : x + Int32.ofInt n = v) (hn : i < M.ml) (k : Ev X M d (pc + 3) (ls.set i (some (.int v))) rest σ o τ) : Ev X M d pc ls rest σ o τ :=
  Ev.pure (fun _ _ _ _ _ _ _ _ _ _ _ _ _ _ _ _ hF _ _ _ _ _ _ hl kk => (by
    obtain ⟨j, hj⟩ := List.getElem?_of_mem (tol_mem hx)
    exact lv_iinc hF.1 hF.2.1 d9 hl.lst hj hv hn rfl (fun la' h => kk la' (hl.back rfl h)))) k
theorem Ev.iadd {x y : Int32} (d9 : decode M.cc pc = .ok (.iadd, 1)) (k : Ev X M d (pc + 1) ls (.int (x + y) :: rest) σ o τ) : Ev X M d pc ls (.int y :: .int x :: rest) σ o τ :=
  Ev.pure (fun _ _ _ _ _ _ _ _ _ _ _ _ _ _ _ _ hF _ _ _ _ _ _ hl kk => lv_iadd hF.1 hF.2.1 d9 (kk _ hl)) k
theorem Ev.isub {x y : Int32} (d9 : decode M.cc pc = .ok (.isub, 1)) (k : Ev X M d (pc + 1) ls (.int (x - y) :: rest) σ o τ) : Ev X M d pc ls (.int y :: .int x :: rest) σ o τ :=
  Ev.pure (fun _ _ _ _ _ _ _ _ _ _ _ _ _ _ _ _ hF _ _ _ _ _ _ hl kk => lv_isub hF.1 hF.2.1 d9 (kk _ hl)) k
theorem Ev.imul {x y : Int32} (d9 : decode M.cc pc = .ok (.imul, 1)) (k : Ev X M d (pc + 1) ls (.int (x * y) :: rest) σ o τ) : Ev X M d pc ls (.int y :: .int x :: rest) σ o τ :=
  Ev.pure (fun _ _ _ _ _ _ _ _ _ _ _ _ _ _ _ _ hF _ _ _ _ _ _ hl kk => lv_imul hF.1 hF.2.1 d9 (kk _ hl)) k
theorem Ev.iand {x y : Int32} (d9 : decode M.cc pc = .ok (.iand, 1)) (k : Ev X M d (pc + 1) ls (.int (x &&& y) :: rest) σ o τ) : Ev X M d pc ls (.int y :: .int x :: rest) σ o τ :=
  Ev.pure (fun _ _ _ _ _ _ _ _ _ _ _ _ _ _ _ _ hF _ _ _ _ _ _ hl kk => lv_iand hF.1 hF.2.1 d9 (kk _ hl)) k
theorem Ev.ior {x y : Int32} (d9 : decode M.cc pc = .ok (.ior, 1)) (k : Ev X M d (pc + 1) ls (.int (x ||| y) :: rest) σ o τ) : Ev X M d pc ls (.int y :: .int x :: rest) σ o τ :=
  Ev.pure (fun _ _ _ _ _ _ _ _ _ _ _ _ _ _ _ _ hF _ _ _ _ _ _ hl kk => lv_ior hF.1 hF.2.1 d9 (kk _ hl)) k
theorem Ev.ishl {x y : Int32} (d9 : decode M.cc pc = .ok (.ishl, 1)) (k : Ev X M d (pc + 1) ls (.int (x <<< (y &&& 31)) :: rest) σ o τ) : Ev X M d pc ls (.int y :: .int x :: rest) σ o τ :=
  Ev.pure (fun _ _ _ _ _ _ _ _ _ _ _ _ _ _ _ _ hF _ _ _ _ _ _ hl kk => lv_ishl hF.1 hF.2.1 d9 (kk _ hl)) k
theorem Ev.ishr {x y : Int32} (d9 : decode M.cc pc = .ok (.ishr, 1)) (k : Ev X M d (pc + 1) ls (.int (x >>> (y &&& 31)) :: rest) σ o τ) : Ev X M d pc ls (.int y :: .int x :: rest) σ o τ :=
  Ev.pure (fun _ _ _ _ _ _ _ _ _ _ _ _ _ _ _ _ hF _ _ _ _ _ _ hl kk => lv_ishr hF.1 hF.2.1 d9 (kk _ hl)) k
theorem Ev.ineg {x : Int32} (d9 : decode M.cc pc = .ok (.ineg, 1)) (k : Ev X M d (pc + 1) ls (.int (-x) :: rest) σ o τ) : Ev X M d pc ls (.int x :: rest) σ o τ :=
  Ev.pure (fun _ _ _ _ _ _ _ _ _ _ _ _ _ _ _ _ hF _ _ _ _ _ _ hl kk => lv_ineg hF.1 hF.2.1 d9 (kk _ hl)) k
theorem Ev.i2c {x v : Int32} (d9 : decode M.cc pc = .ok (.i2c, 1)) (hv : (x.toUInt32 % 65536).toInt32 = v) (k : Ev X M d (pc + 1) ls (.int v :: rest) σ o τ) : Ev X M d pc ls (.int x :: rest) σ o τ :=
  Ev.pure (fun _ _ _ _ _ _ _ _ _ _ _ _ _ _ _ _ hF _ _ _ _ _ _ hl kk => lv_i2c hF.1 hF.2.1 d9 hv (kk _ hl)) k
theorem Ev.i2l {x : Int32} {v : Int64} (d9 : decode M.cc pc = .ok (.i2l, 1)) (hv : x.toInt64 = v) (k : Ev X M d (pc + 1) ls (.long v :: rest) σ o τ) : Ev X M d pc ls (.int x :: rest) σ o τ :=
  Ev.pure (fun _ _ _ _ _ _ _ _ _ _ _ _ _ _ _ _ hF _ _ _ _ _ _ hl kk => lv_i2l hF.1 hF.2.1 d9 hv (kk _ hl)) k
theorem Ev.i2f {x : Int32} (d9 : decode M.cc pc = .ok (.i2f, 1)) (k : Ev X M d (pc + 1) ls (.float (FP.i2f x) :: rest) σ o τ) : Ev X M d pc ls (.int x :: rest) σ o τ :=
  Ev.pure (fun _ _ _ _ _ _ _ _ _ _ _ _ _ _ _ _ hF _ _ _ _ _ _ hl kk => lv_i2f hF.1 hF.2.1 d9 (kk _ hl)) k
theorem Ev.fdiv {x y : UInt32} (d9 : decode M.cc pc = .ok (.fdiv, 1)) (hne : vf_n32 (FP.fdiv x y)) (k : Ev X M d (pc + 1) ls (.float (FP.fdiv x y) :: rest) σ o τ) : Ev X M d pc ls (.float y :: .float x :: rest) σ o τ :=
  Ev.pure (fun _ _ _ _ _ _ _ _ _ _ _ _ _ _ _ _ hF _ _ _ _ _ _ hl kk => lv_fdiv hF.1 hF.2.1 d9 hne (kk _ hl)) k
theorem Ev.f2d {x : UInt32} (d9 : decode M.cc pc = .ok (.f2d, 1)) (hne : vf_n64 (FP.f2d x)) (k : Ev X M d (pc + 1) ls (.double (FP.f2d x) :: rest) σ o τ) : Ev X M d pc ls (.float x :: rest) σ o τ :=
  Ev.pure (fun _ _ _ _ _ _ _ _ _ _ _ _ _ _ _ _ hF _ _ _ _ _ _ hl kk => lv_f2d hF.1 hF.2.1 d9 hne (kk _ hl)) k
theorem Ev.fconst0 (d9 : decode M.cc pc = .ok (.fconst 0, 1)) (k : Ev X M d (pc + 1) ls (.float 0 :: rest) σ o τ) : Ev X M d pc ls rest σ o τ :=
  Ev.pure (fun _ _ _ _ _ _ _ _ _ _ _ _ _ _ _ _ hF _ _ _ _ _ _ hl kk => lv_fconst0 hF.1 hF.2.1 d9 (kk _ hl)) k
theorem Ev.fcmp {x y : UInt32} {op : CmpOp} (d9 : decode M.cc pc = .ok (.fcmp op, 1)) (k : Ev X M d (pc + 1) ls (.int (Op.cmpValue (FP.fcmp x y) op) :: rest) σ o τ) : Ev X M d pc ls (.float y :: .float x :: rest) σ o τ :=
  Ev.pure (fun _ _ _ _ _ _ _ _ _ _ _ _ _ _ _ _ hF _ _ _ _ _ _ hl kk => lv_fcmp hF.1 hF.2.1 d9 (kk _ hl)) k
theorem Ev.dcmp {x y : UInt64} {op : CmpOp} (d9 : decode M.cc pc = .ok (.dcmp op, 1)) (k : Ev X M d (pc + 1) ls (.int (Op.cmpValue (FP.dcmp x y) op) :: rest) σ o τ) : Ev X M d pc ls (.double y :: .double x :: rest) σ o τ :=
  Ev.pure (fun _ _ _ _ _ _ _ _ _ _ _ _ _ _ _ _ hF _ _ _ _ _ _ hl kk => lv_dcmp hF.1 hF.2.1 d9 (kk _ hl)) k
theorem Ev.lcmp {x y : Int64} (d9 : decode M.cc pc = .ok (.lcmp, 1)) (k : Ev X M d (pc + 1) ls (.int (lg_cmp x y) :: rest) σ o τ) : Ev X M d pc ls (.long y :: .long x :: rest) σ o τ :=
  Ev.pure (fun _ _ _ _ _ _ _ _ _ _ _ _ _ _ _ _ hF _ _ _ _ _ _ hl kk => W.lcmp hF.1 hF.2.1 d9 (kk _ hl)) k
theorem Ev.dup {va : Value} (d9 : decode M.cc pc = .ok (.dup, 1)) (hc : va.category = 1) (k : Ev X M d (pc + 1) ls (va :: va :: rest) σ o τ) : Ev X M d pc ls (va :: rest) σ o τ :=
  Ev.pure (fun _ _ _ _ _ _ _ _ _ _ _ _ _ _ _ _ hF _ _ _ _ _ _ hl kk => lv_dup hF.1 hF.2.1 d9 hc (kk _ hl)) k
theorem Ev.pop {va : Value} (d9 : decode M.cc pc = .ok (.pop, 1)) (hc : va.category = 1) (k : Ev X M d (pc + 1) ls rest σ o τ) : Ev X M d pc ls (va :: rest) σ o τ :=
  Ev.pure (fun _ _ _ _ _ _ _ _ _ _ _ _ _ _ _ _ hF _ _ _ _ _ _ hl kk => lv_pop hF.1 hF.2.1 d9 hc (kk _ hl)) k
theorem Ev.dup_x1 {va vb : Value} (d9 : decode M.cc pc = .ok (.dup_x1, 1)) (hc : va.category = 1) (hc2 : vb.category = 1) (k : Ev X M d (pc + 1) ls (va :: vb :: va :: rest) σ o τ) : Ev X M d pc ls (va :: vb :: rest) σ o τ :=
  Ev.pure (fun _ _ _ _ _ _ _ _ _ _ _ _ _ _ _ _ hF _ _ _ _ _ _ hl kk => lv_dup_x1 hF.1 hF.2.1 d9 hc hc2 (kk _ hl)) k
theorem Ev.dup2 {va vb : Value} (d9 : decode M.cc pc = .ok (.dup2, 1)) (hc : va.category = 1) (hc2 : vb.category = 1) (k : Ev X M d (pc + 1) ls (va :: vb :: va :: vb :: rest) σ o τ) : Ev X M d pc ls (va :: vb :: rest) σ o τ :=
  Ev.pure (fun _ _ _ _ _ _ _ _ _ _ _ _ _ _ _ _ hF _ _ _ _ _ _ hl kk => lv_dup2_11 hF.1 hF.2.1 d9 hc hc2 (kk _ hl)) k
theorem Ev.aconst_null (d9 : decode M.cc pc = .ok (.aconst_null, 1)) (k : Ev X M d (pc + 1) ls (va_rf none :: rest) σ o τ) : Ev X M d pc ls rest σ o τ :=
  Ev.pure (fun _ _ _ _ _ _ _ _ _ _ _ _ _ _ _ _ hF _ _ _ _ _ _ hl kk => lv_null hF.1 hF.2.1 d9 (kk _ hl)) k
theorem Ev.goto {off : Int} {tgt : Nat} (d9 : decode M.cc pc = .ok (.goto off, 3)) (ht : (pc : Int) + off = (tgt : Int)) (k : Ev X M d tgt ls rest σ o τ) : Ev X M d pc ls rest σ o τ :=
  Ev.pure (fun _ _ _ _ _ _ _ _ _ _ _ _ _ _ _ _ hF _ _ _ _ _ _ hl kk => lv_goto hF.1 hF.2.1 d9 ht (kk _ hl)) k
theorem Ev.if_eq_t {x : Int32} {off : Int} {tgt : Nat} (d9 : decode M.cc pc = .ok (.ifCond .eq off, 3)) (ht : (pc : Int) + off = (tgt : Int)) (hc : x = 0) (k : Ev X M d tgt ls rest σ o τ) : Ev X M d pc ls (.int x :: rest) σ o τ :=
  Ev.pure (fun _ _ _ _ _ _ _ _ _ _ _ _ _ _ _ _ hF _ _ _ _ _ _ hl kk => lv_if_eq hF.1 hF.2.1 d9 ht (fun _ => kk _ hl) (fun n => by first | exact absurd hc n | exact absurd n hc)) k
theorem Ev.if_eq_f {x : Int32} {off : Int} (d9 : decode M.cc pc = .ok (.ifCond .eq off, 3)) {tgt : Nat} (ht : (pc : Int) + off = (tgt : Int)) (hc : ¬ (x = 0)) (k : Ev X M d (pc + 3) ls rest σ o τ) : Ev X M d pc ls (.int x :: rest) σ o τ :=
  Ev.pure (fun _ _ _ _ _ _ _ _ _ _ _ _ _ _ _ _ hF _ _ _ _ _ _ hl kk => lv_if_eq hF.1 hF.2.1 d9 ht (fun n => absurd n hc) (fun _ => kk _ hl)) k
theorem Ev.icmp_eq_t {x y : Int32} {off : Int} {tgt : Nat} (d9 : decode M.cc pc = .ok (.if_icmp .eq off, 3)) (ht : (pc : Int) + off = (tgt : Int)) (hc : x = y) (k : Ev X M d tgt ls rest σ o τ) : Ev X M d pc ls (.int y :: .int x :: rest) σ o τ :=
  Ev.pure (fun _ _ _ _ _ _ _ _ _ _ _ _ _ _ _ _ hF _ _ _ _ _ _ hl kk => lv_icmp_eq hF.1 hF.2.1 d9 ht (fun _ => kk _ hl) (fun n => by first | exact absurd hc n | exact absurd n hc)) k
theorem Ev.icmp_eq_f {x y : Int32} {off : Int} (d9 : decode M.cc pc = .ok (.if_icmp .eq off, 3)) {tgt : Nat} (ht : (pc : Int) + off = (tgt : Int)) (hc : ¬ (x = y)) (k : Ev X M d (pc + 3) ls rest σ o τ) : Ev X M d pc ls (.int y :: .int x :: rest) σ o τ :=
  Ev.pure (fun _ _ _ _ _ _ _ _ _ _ _ _ _ _ _ _ hF _ _ _ _ _ _ hl kk => lv_icmp_eq hF.1 hF.2.1 d9 ht (fun n => absurd n hc) (fun _ => kk _ hl)) k
theorem Ev.if_ne_t {x : Int32} {off : Int} {tgt : Nat} (d9 : decode M.cc pc = .ok (.ifCond .ne off, 3)) (ht : (pc : Int) + off = (tgt : Int)) (hc : ¬ x = 0) (k : Ev X M d tgt ls rest σ o τ) : Ev X M d pc ls (.int x :: rest) σ o τ :=
  Ev.pure (fun _ _ _ _ _ _ _ _ _ _ _ _ _ _ _ _ hF _ _ _ _ _ _ hl kk => lv_if_ne hF.1 hF.2.1 d9 ht (fun _ => kk _ hl) (fun n => by first | exact absurd hc n | exact absurd n hc)) k
theorem Ev.if_ne_f {x : Int32} {off : Int} (d9 : decode M.cc pc = .ok (.ifCond .ne off, 3)) {tgt : Nat} (ht : (pc : Int) + off = (tgt : Int)) (hc : ¬ (¬ x = 0)) (k : Ev X M d (pc + 3) ls rest σ o τ) : Ev X M d pc ls (.int x :: rest) σ o τ :=
  Ev.pure (fun _ _ _ _ _ _ _ _ _ _ _ _ _ _ _ _ hF _ _ _ _ _ _ hl kk => lv_if_ne hF.1 hF.2.1 d9 ht (fun n => absurd n hc) (fun _ => kk _ hl)) k
theorem Ev.icmp_ne_t {x y : Int32} {off : Int} {tgt : Nat} (d9 : decode M.cc pc = .ok (.if_icmp .ne off, 3)) (ht : (pc : Int) + off = (tgt : Int)) (hc : ¬ x = y) (k : Ev X M d tgt ls rest σ o τ) : Ev X M d pc ls (.int y :: .int x :: rest) σ o τ :=
  Ev.pure (fun _ _ _ _ _ _ _ _ _ _ _ _ _ _ _ _ hF _ _ _ _ _ _ hl kk => lv_icmp_ne hF.1 hF.2.1 d9 ht (fun _ => kk _ hl) (fun n => by first | exact absurd hc n | exact absurd n hc)) k
theorem Ev.icmp_ne_f {x y : Int32} {off : Int} (d9 : decode M.cc pc = .ok (.if_icmp .ne off, 3)) {tgt : Nat} (ht : (pc : Int) + off = (tgt : Int)) (hc : ¬ (¬ x = y)) (k : Ev X M d (pc + 3) ls rest σ o τ) : Ev X M d pc ls (.int y :: .int x :: rest) σ o τ :=
  Ev.pure (fun _ _ _ _ _ _ _ _ _ _ _ _ _ _ _ _ hF _ _ _ _ _ _ hl kk => lv_icmp_ne hF.1 hF.2.1 d9 ht (fun n => absurd n hc) (fun _ => kk _ hl)) k
theorem Ev.if_lt_t {x : Int32} {off : Int} {tgt : Nat} (d9 : decode M.cc pc = .ok (.ifCond .lt off, 3)) (ht : (pc : Int) + off = (tgt : Int)) (hc : x < 0) (k : Ev X M d tgt ls rest σ o τ) : Ev X M d pc ls (.int x :: rest) σ o τ :=
  Ev.pure (fun _ _ _ _ _ _ _ _ _ _ _ _ _ _ _ _ hF _ _ _ _ _ _ hl kk => lv_if_lt hF.1 hF.2.1 d9 ht (fun _ => kk _ hl) (fun n => by first | exact absurd hc n | exact absurd n hc)) k
theorem Ev.if_lt_f {x : Int32} {off : Int} (d9 : decode M.cc pc = .ok (.ifCond .lt off, 3)) {tgt : Nat} (ht : (pc : Int) + off = (tgt : Int)) (hc : ¬ (x < 0)) (k : Ev X M d (pc + 3) ls rest σ o τ) : Ev X M d pc ls (.int x :: rest) σ o τ :=
  Ev.pure (fun _ _ _ _ _ _ _ _ _ _ _ _ _ _ _ _ hF _ _ _ _ _ _ hl kk => lv_if_lt hF.1 hF.2.1 d9 ht (fun n => absurd n hc) (fun _ => kk _ hl)) k
theorem Ev.icmp_lt_t {x y : Int32} {off : Int} {tgt : Nat} (d9 : decode M.cc pc = .ok (.if_icmp .lt off, 3)) (ht : (pc : Int) + off = (tgt : Int)) (hc : x < y) (k : Ev X M d tgt ls rest σ o τ) : Ev X M d pc ls (.int y :: .int x :: rest) σ o τ :=
  Ev.pure (fun _ _ _ _ _ _ _ _ _ _ _ _ _ _ _ _ hF _ _ _ _ _ _ hl kk => lv_icmp_lt hF.1 hF.2.1 d9 ht (fun _ => kk _ hl) (fun n => by first | exact absurd hc n | exact absurd n hc)) k
theorem Ev.icmp_lt_f {x y : Int32} {off : Int} (d9 : decode M.cc pc = .ok (.if_icmp .lt off, 3)) {tgt : Nat} (ht : (pc : Int) + off = (tgt : Int)) (hc : ¬ (x < y)) (k : Ev X M d (pc + 3) ls rest σ o τ) : Ev X M d pc ls (.int y :: .int x :: rest) σ o τ :=
  Ev.pure (fun _ _ _ _ _ _ _ _ _ _ _ _ _ _ _ _ hF _ _ _ _ _ _ hl kk => lv_icmp_lt hF.1 hF.2.1 d9 ht (fun n => absurd n hc) (fun _ => kk _ hl)) k
theorem Ev.if_ge_t {x : Int32} {off : Int} {tgt : Nat} (d9 : decode M.cc pc = .ok (.ifCond .ge off, 3)) (ht : (pc : Int) + off = (tgt : Int)) (hc : 0 ≤ x) (k : Ev X M d tgt ls rest σ o τ) : Ev X M d pc ls (.int x :: rest) σ o τ :=
  Ev.pure (fun _ _ _ _ _ _ _ _ _ _ _ _ _ _ _ _ hF _ _ _ _ _ _ hl kk => lv_if_ge hF.1 hF.2.1 d9 ht (fun _ => kk _ hl) (fun n => by first | exact absurd hc n | exact absurd n hc)) k
theorem Ev.if_ge_f {x : Int32} {off : Int} (d9 : decode M.cc pc = .ok (.ifCond .ge off, 3)) {tgt : Nat} (ht : (pc : Int) + off = (tgt : Int)) (hc : ¬ (0 ≤ x)) (k : Ev X M d (pc + 3) ls rest σ o τ) : Ev X M d pc ls (.int x :: rest) σ o τ :=
  Ev.pure (fun _ _ _ _ _ _ _ _ _ _ _ _ _ _ _ _ hF _ _ _ _ _ _ hl kk => lv_if_ge hF.1 hF.2.1 d9 ht (fun n => absurd n hc) (fun _ => kk _ hl)) k
theorem Ev.icmp_ge_t {x y : Int32} {off : Int} {tgt : Nat} (d9 : decode M.cc pc = .ok (.if_icmp .ge off, 3)) (ht : (pc : Int) + off = (tgt : Int)) (hc : y ≤ x) (k : Ev X M d tgt ls rest σ o τ) : Ev X M d pc ls (.int y :: .int x :: rest) σ o τ :=
  Ev.pure (fun _ _ _ _ _ _ _ _ _ _ _ _ _ _ _ _ hF _ _ _ _ _ _ hl kk => lv_icmp_ge hF.1 hF.2.1 d9 ht (fun _ => kk _ hl) (fun n => by first | exact absurd hc n | exact absurd n hc)) k
theorem Ev.icmp_ge_f {x y : Int32} {off : Int} (d9 : decode M.cc pc = .ok (.if_icmp .ge off, 3)) {tgt : Nat} (ht : (pc : Int) + off = (tgt : Int)) (hc : ¬ (y ≤ x)) (k : Ev X M d (pc + 3) ls rest σ o τ) : Ev X M d pc ls (.int y :: .int x :: rest) σ o τ :=
  Ev.pure (fun _ _ _ _ _ _ _ _ _ _ _ _ _ _ _ _ hF _ _ _ _ _ _ hl kk => lv_icmp_ge hF.1 hF.2.1 d9 ht (fun n => absurd n hc) (fun _ => kk _ hl)) k
theorem Ev.if_gt_t {x : Int32} {off : Int} {tgt : Nat} (d9 : decode M.cc pc = .ok (.ifCond .gt off, 3)) (ht : (pc : Int) + off = (tgt : Int)) (hc : 0 < x) (k : Ev X M d tgt ls rest σ o τ) : Ev X M d pc ls (.int x :: rest) σ o τ :=
  Ev.pure (fun _ _ _ _ _ _ _ _ _ _ _ _ _ _ _ _ hF _ _ _ _ _ _ hl kk => lv_if_gt hF.1 hF.2.1 d9 ht (fun _ => kk _ hl) (fun n => by first | exact absurd hc n | exact absurd n hc)) k
theorem Ev.if_gt_f {x : Int32} {off : Int} (d9 : decode M.cc pc = .ok (.ifCond .gt off, 3)) {tgt : Nat} (ht : (pc : Int) + off = (tgt : Int)) (hc : ¬ (0 < x)) (k : Ev X M d (pc + 3) ls rest σ o τ) : Ev X M d pc ls (.int x :: rest) σ o τ :=
  Ev.pure (fun _ _ _ _ _ _ _ _ _ _ _ _ _ _ _ _ hF _ _ _ _ _ _ hl kk => lv_if_gt hF.1 hF.2.1 d9 ht (fun n => absurd n hc) (fun _ => kk _ hl)) k
theorem Ev.icmp_gt_t {x y : Int32} {off : Int} {tgt : Nat} (d9 : decode M.cc pc = .ok (.if_icmp .gt off, 3)) (ht : (pc : Int) + off = (tgt : Int)) (hc : y < x) (k : Ev X M d tgt ls rest σ o τ) : Ev X M d pc ls (.int y :: .int x :: rest) σ o τ :=
  Ev.pure (fun _ _ _ _ _ _ _ _ _ _ _ _ _ _ _ _ hF _ _ _ _ _ _ hl kk => lv_icmp_gt hF.1 hF.2.1 d9 ht (fun _ => kk _ hl) (fun n => by first | exact absurd hc n | exact absurd n hc)) k
theorem Ev.icmp_gt_f {x y : Int32} {off : Int} (d9 : decode M.cc pc = .ok (.if_icmp .gt off, 3)) {tgt : Nat} (ht : (pc : Int) + off = (tgt : Int)) (hc : ¬ (y < x)) (k : Ev X M d (pc + 3) ls rest σ o τ) : Ev X M d pc ls (.int y :: .int x :: rest) σ o τ :=
  Ev.pure (fun _ _ _ _ _ _ _ _ _ _ _ _ _ _ _ _ hF _ _ _ _ _ _ hl kk => lv_icmp_gt hF.1 hF.2.1 d9 ht (fun n => absurd n hc) (fun _ => kk _ hl)) k
theorem Ev.if_le_t {x : Int32} {off : Int} {tgt : Nat} (d9 : decode M.cc pc = .ok (.ifCond .le off, 3)) (ht : (pc : Int) + off = (tgt : Int)) (hc : x ≤ 0) (k : Ev X M d tgt ls rest σ o τ) : Ev X M d pc ls (.int x :: rest) σ o τ :=
  Ev.pure (fun _ _ _ _ _ _ _ _ _ _ _ _ _ _ _ _ hF _ _ _ _ _ _ hl kk => lv_if_le hF.1 hF.2.1 d9 ht (fun _ => kk _ hl) (fun n => by first | exact absurd hc n | exact absurd n hc)) k
theorem Ev.if_le_f {x : Int32} {off : Int} (d9 : decode M.cc pc = .ok (.ifCond .le off, 3)) {tgt : Nat} (ht : (pc : Int) + off = (tgt : Int)) (hc : ¬ (x ≤ 0)) (k : Ev X M d (pc + 3) ls rest σ o τ) : Ev X M d pc ls (.int x :: rest) σ o τ :=
  Ev.pure (fun _ _ _ _ _ _ _ _ _ _ _ _ _ _ _ _ hF _ _ _ _ _ _ hl kk => lv_if_le hF.1 hF.2.1 d9 ht (fun n => absurd n hc) (fun _ => kk _ hl)) k
theorem Ev.icmp_le_t {x y : Int32} {off : Int} {tgt : Nat} (d9 : decode M.cc pc = .ok (.if_icmp .le off, 3)) (ht : (pc : Int) + off = (tgt : Int)) (hc : x ≤ y) (k : Ev X M d tgt ls rest σ o τ) : Ev X M d pc ls (.int y :: .int x :: rest) σ o τ :=
  Ev.pure (fun _ _ _ _ _ _ _ _ _ _ _ _ _ _ _ _ hF _ _ _ _ _ _ hl kk => lv_icmp_le hF.1 hF.2.1 d9 ht (fun _ => kk _ hl) (fun n => by first | exact absurd hc n | exact absurd n hc)) k
theorem Ev.icmp_le_f {x y : Int32} {off : Int} (d9 : decode M.cc pc = .ok (.if_icmp .le off, 3)) {tgt : Nat} (ht : (pc : Int) + off = (tgt : Int)) (hc : ¬ (x ≤ y)) (k : Ev X M d (pc + 3) ls rest σ o τ) : Ev X M d pc ls (.int y :: .int x :: rest) σ o τ :=
  Ev.pure (fun _ _ _ _ _ _ _ _ _ _ _ _ _ _ _ _ hF _ _ _ _ _ _ hl kk => lv_icmp_le hF.1 hF.2.1 d9 ht (fun n => absurd n hc) (fun _ => kk _ hl)) k
theorem Ev.acmp_eq_t {rx ry : Option Nat} {off : Int} {tgt : Nat} (d9 : decode M.cc pc = .ok (.if_acmp .eq off, 3)) (ht : (pc : Int) + off = (tgt : Int)) (hc : rx = ry) (k : Ev X M d tgt ls rest σ o τ) : Ev X M d pc ls (va_rf ry :: va_rf rx :: rest) σ o τ :=
  Ev.pure (fun _ _ _ _ _ _ _ _ _ _ _ _ _ _ _ _ hF _ _ _ _ _ _ hl kk => lv_acmp_eq hF.1 hF.2.1 d9 ht (fun _ => kk _ hl) (fun n => by first | exact absurd hc n | exact absurd n hc)) k
theorem Ev.acmp_eq_f {rx ry : Option Nat} {off : Int} (d9 : decode M.cc pc = .ok (.if_acmp .eq off, 3)) {tgt : Nat} (ht : (pc : Int) + off = (tgt : Int)) (hc : ¬ (rx = ry)) (k : Ev X M d (pc + 3) ls rest σ o τ) : Ev X M d pc ls (va_rf ry :: va_rf rx :: rest) σ o τ :=
  Ev.pure (fun _ _ _ _ _ _ _ _ _ _ _ _ _ _ _ _ hF _ _ _ _ _ _ hl kk => lv_acmp_eq hF.1 hF.2.1 d9 ht (fun n => absurd n hc) (fun _ => kk _ hl)) k
theorem Ev.acmp_ne_t {rx ry : Option Nat} {off : Int} {tgt : Nat} (d9 : decode M.cc pc = .ok (.if_acmp .ne off, 3)) (ht : (pc : Int) + off = (tgt : Int)) (hc : ¬ rx = ry) (k : Ev X M d tgt ls rest σ o τ) : Ev X M d pc ls (va_rf ry :: va_rf rx :: rest) σ o τ :=
  Ev.pure (fun _ _ _ _ _ _ _ _ _ _ _ _ _ _ _ _ hF _ _ _ _ _ _ hl kk => lv_acmp_ne hF.1 hF.2.1 d9 ht (fun _ => kk _ hl) (fun n => by first | exact absurd hc n | exact absurd n hc)) k
theorem Ev.acmp_ne_f {rx ry : Option Nat} {off : Int} (d9 : decode M.cc pc = .ok (.if_acmp .ne off, 3)) {tgt : Nat} (ht : (pc : Int) + off = (tgt : Int)) (hc : ¬ (¬ rx = ry)) (k : Ev X M d (pc + 3) ls rest σ o τ) : Ev X M d pc ls (va_rf ry :: va_rf rx :: rest) σ o τ :=
  Ev.pure (fun _ _ _ _ _ _ _ _ _ _ _ _ _ _ _ _ hF _ _ _ _ _ _ hl kk => lv_acmp_ne hF.1 hF.2.1 d9 ht (fun n => absurd n hc) (fun _ => kk _ hl)) k
theorem Ev.ifnull_t {off : Int} {tgt : Nat} (d9 : decode M.cc pc = .ok (.ifnull off, 3)) (ht : (pc : Int) + off = (tgt : Int)) (k : Ev X M d tgt ls rest σ o τ) : Ev X M d pc ls (va_rf none :: rest) σ o τ :=
  Ev.pure (fun _ _ _ _ _ _ _ _ _ _ _ _ _ _ _ _ hF _ _ _ _ _ _ hl kk => lv_ifnullN hF.1 hF.2.1 d9 ht (kk _ hl)) k
theorem Ev.ifnull_f {a : Nat} {off : Int} (d9 : decode M.cc pc = .ok (.ifnull off, 3)) (k : Ev X M d (pc + 3) ls rest σ o τ) : Ev X M d pc ls (va_rf (some a) :: rest) σ o τ :=
  Ev.pure (fun _ _ _ _ _ _ _ _ _ _ _ _ _ _ _ _ hF _ _ _ _ _ _ hl kk => lv_ifnull hF.1 hF.2.1 d9 (kk _ hl)) k
theorem Ev.ifnonnull_t {a : Nat} {off : Int} {tgt : Nat} (d9 : decode M.cc pc = .ok (.ifnonnull off, 3)) (ht : (pc : Int) + off = (tgt : Int)) (k : Ev X M d tgt ls rest σ o τ) : Ev X M d pc ls (va_rf (some a) :: rest) σ o τ :=
  Ev.pure (fun _ _ _ _ _ _ _ _ _ _ _ _ _ _ _ _ hF _ _ _ _ _ _ hl kk => lv_ifnonnull hF.1 hF.2.1 d9 ht (kk _ hl)) k
theorem Ev.ifnonnull_f {off : Int} (d9 : decode M.cc pc = .ok (.ifnonnull off, 3)) (k : Ev X M d (pc + 3) ls rest σ o τ) : Ev X M d pc ls (va_rf none :: rest) σ o τ :=
  Ev.pure (fun _ _ _ _ _ _ _ _ _ _ _ _ _ _ _ _ hF _ _ _ _ _ _ hl kk => lv_ifnonnullN hF.1 hF.2.1 d9 (kk _ hl)) k
theorem Ev.castN {ix : Nat} (d9 : decode M.cc pc = .ok (.checkcast ix, 3)) (k : Ev X M d (pc + 3) ls (va_rf none :: rest) σ o τ) : Ev X M d pc ls (va_rf none :: rest) σ o τ :=
  Ev.pure (fun _ _ _ _ _ _ _ _ _ _ _ _ _ _ _ _ hF _ _ _ _ _ _ hl kk => lv_castN hF.1 hF.2.1 d9 (kk _ hl)) k
theorem Ev.tabIn {df lo hi : Int} {of : Array Int} {len : Nat} {x : Int32} {off : Int} {tgt : Nat} (d9 : decode M.cc pc = .ok (.tableswitch df lo hi of, len)) (h1 : ¬ x.toInt < lo) (h2 : ¬ hi < x.toInt) (ho : of[(x.toInt - lo).toNat]? = some off) (ht : (pc : Int) + off = (tgt : Int)) (k : Ev X M d tgt ls rest σ o τ) : Ev X M d pc ls (.int x :: rest) σ o τ :=
  Ev.pure (fun _ _ _ _ _ _ _ _ _ _ _ _ _ _ _ _ hF _ _ _ _ _ _ hl kk => lv_tableIn hF.1 hF.2.1 d9 h1 h2 ho ht (kk _ hl)) k
theorem Ev.tabOut {df lo hi : Int} {of : Array Int} {len : Nat} {x : Int32} {tgt : Nat} (d9 : decode M.cc pc = .ok (.tableswitch df lo hi of, len)) (h : x.toInt < lo ∨ hi < x.toInt) (ht : (pc : Int) + df = (tgt : Int)) (k : Ev X M d tgt ls rest σ o τ) : Ev X M d pc ls (.int x :: rest) σ o τ :=
  Ev.pure (fun _ _ _ _ _ _ _ _ _ _ _ _ _ _ _ _ hF _ _ _ _ _ _ hl kk => lv_tableOut hF.1 hF.2.1 d9 h ht (kk _ hl)) k
theorem Ev.ldc {ix : Nat} {v : Int32} (d9 : decode M.cc pc = .ok (.ldc ix, 2)) (hw : (Jvm.Cond.constant M.y.cls ix v) ∈ lw_tbl) (hg : goodWord (Jvm.Cond.constant M.y.cls ix v) = true) (k : Ev X M d (pc + 2) ls (.int v :: rest) σ o τ) : Ev X M d pc ls rest σ o τ :=
  Ev.pure (fun _ _ _ _ _ _ _ _ _ _ _ _ _ _ _ _ hF _ _ _ _ _ _ hl kk => lv_ldc hF.1 hF.2.1 hF.2.2.2.2.2.1 (hF.2.2.2.2.2.2.2.2.2.1.good hF.2.2.2.2.2.2.2.2.2.2.1 hw hg) d9 (kk _ hl)) k
end PURE
