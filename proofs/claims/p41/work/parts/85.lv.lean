/-! the law's own judgement: as Ev, but locals may hold longs (written by wip/p41/mkLv.py) -/
def isL : Option (Option Value) → Bool
  | some (some (.long _)) => true
  | _ => false
def Lk (la : Array Slot) (nL : Nat) (ls : List (Option Value)) : Prop := la.size = nL ∧ lv_wf la ∧ ∀ (i : Nat) (v : Value), ls[i]? = some (some v) → la[i]? = some (.val v) ∧ (v.category = 1 ∨ ∃ x, v = .long x)
theorem Lk.of {la : Array Slot} {nL : Nat} {ls : List (Option Value)} (h : LsOk la nL ls) : Lk la nL ls := ⟨h.1, h.2.1, fun i v hi => ⟨(h.2.2 i v hi).1, Or.inl (h.2.2 i v hi).2⟩⟩
theorem Lk.has {la : Array Slot} {nL : Nat} {ls : List (Option Value)} (h : Lk la nL ls) {i : Nat} {v : Value} (hi : ls[i]? = some (some v)) : la[i]? = some (.val v) := (h.2.2 i v hi).1
theorem Lk.lst {la : Array Slot} {nL : Nat} {ls : List (Option Value)} (h : Lk la nL ls) : lv_has la nL (tol ls) := by
  refine ⟨h.1, h.2.1, fun q hq => ?_⟩
  obtain ⟨j, -, hj⟩ := List.mem_filterMap.mp hq
  split at hj
  · rename_i w hw
    cases hj
    exact (h.2.2 j w hw).1
  · cases hj
theorem Lk.cat {la : Array Slot} {nL : Nat} {ls : List (Option Value)} (h : Lk la nL ls) {i j : Nat} {w : Value} (hj : ls[j]? = some (some w)) (hz : isL (ls[i - 1]?) = false) (e : j + 1 = i) : w.category ≠ 2 := fun hc => by
  rcases (h.2.2 j w hj).2 with q | ⟨x, q⟩
  · rw [q] at hc
    cases hc
  · have e2 : i - 1 = j := by omega
    rw [e2, hj, q] at hz
    cases hz
theorem Lk.back {la la' : Array Slot} {nL : Nat} {ls : List (Option Value)} (h : Lk la nL ls) {i : Nat} {v : Value} (hz : isL (ls[i - 1]?) = false) (hc : v.category = 1) (h4 : lv_has la' nL ((i, v) :: (tol ls).filter (fun q => !(q.1 == i) && !(q.1 + 1 == i && q.2.category == 2)))) : Lk la' nL (ls.set i (some v)) := by
  refine ⟨h4.1, h4.2.1, fun j w hj => ?_⟩
  rw [List.getElem?_set] at hj
  by_cases hij : i = j
  · subst hij
    rw [if_pos rfl] at hj
    split at hj
    · cases hj
      exact ⟨h4.2.2 (i, v) List.mem_cons_self, Or.inl hc⟩
    · cases hj
  · rw [if_neg hij] at hj
    have hk := h.2.2 j w hj
    refine ⟨h4.2.2 (j, w) (List.mem_cons_of_mem _ (List.mem_filter.mpr ⟨tol_mem hj, ?_⟩)), hk.2⟩
    have h9 : ¬ j = i := fun q => hij q.symm
    by_cases e : j + 1 = i
    · have := h.cat hj hz e
      simp [h9, this]
    · simp [h9, e]
theorem Lk.backL {la la' : Array Slot} {nL : Nat} {ls : List (Option Value)} (h : Lk la nL ls) {i : Nat} {x : Int64} (hz : isL (ls[i - 1]?) = false) (h4 : lv_has la' nL ((i, .long x) :: (tol ls).filter (fun q => !(q.1 == i) && (!(q.1 == i + 1) && !(q.1 + 1 == i && q.2.category == 2))))) : Lk la' nL ((ls.set i (some (.long x))).set (i + 1) none) := by
  refine ⟨h4.1, h4.2.1, fun j w hj => ?_⟩
  rw [List.getElem?_set] at hj
  by_cases hij1 : i + 1 = j
  · subst hij1
    rw [if_pos rfl] at hj
    split at hj <;> cases hj
  · rw [if_neg hij1, List.getElem?_set] at hj
    by_cases hij : i = j
    · subst hij
      rw [if_pos rfl] at hj
      split at hj
      · cases hj
        exact ⟨h4.2.2 (i, .long x) List.mem_cons_self, Or.inr ⟨x, rfl⟩⟩
      · cases hj
    · rw [if_neg hij] at hj
      have hk := h.2.2 j w hj
      refine ⟨h4.2.2 (j, w) (List.mem_cons_of_mem _ (List.mem_filter.mpr ⟨tol_mem hj, ?_⟩)), hk.2⟩
      have h9 : ¬ j = i := fun q => hij q.symm
      have h8 : ¬ j = i + 1 := fun q => hij1 q.symm
      by_cases e : j + 1 = i
      · have := h.cat hj hz e
        simp [h9, h8, this]
      · simp [h9, h8, e]
theorem Lk.mono {la : Array Slot} {nL : Nat} {ls ls' : List (Option Value)} (h : Lk la nL ls) (hm : ∀ (i : Nat) (v : Value), ls'[i]? = some (some v) → ls[i]? = some (some v)) : Lk la nL ls' := ⟨h.1, h.2.1, fun i v hi => h.2.2 i v (hm i v hi)⟩
/-- from this place of the method it comes to its end: the judgement of all that follows -/
def Lv (X : Cx) (M : Mt) (d pc : Nat) (ls : List (Option Value)) (st : List Value) (σ : Hp) (o : Rs) (τ : Hp) : Prop :=
  σ.cl ≤ τ.cl ∧ σ.sl ≤ τ.sl ∧ σ.sz ≤ τ.sz ∧
  ∀ (p : Program) (l : Launch) (e : Env) (R : Room) (s : State) (m : MethodId) (args : Array Value) (below : List Frame) (meth : Method) (c : Code) (H : Heap) (locs : List Loc) (k0 n0 : Nat) (la : Array Slot),
    FxM X M p l s m args meth c → d ≤ R.frames → 100 * d ≤ R.locals → k0 ≤ σ.cl → n0 ≤ σ.sl → τ.cl - k0 ≤ R.cells → τ.sl - n0 ≤ R.slots →
    s.heap.size ≤ σ.sz → HS X σ H → (∀ q ∈ locs, X.b0 ≤ q.base) → Lk la M.ml ls →
    W p l e R s m args below meth c H locs (σ.cl - k0) (σ.sl - n0) (vx_MQ below (QcX X o τ) (XcX X o τ) args s (τ.cl - k0) (τ.sl - n0) (fun q => X.b0 ≤ q)) (F0 m pc la st)
theorem Lv.forget {X : Cx} {M : Mt} {d pc : Nat} {ls ls' : List (Option Value)} {st : List Value} {σ τ : Hp} {o : Rs} (k : Lv X M d pc ls' st σ o τ) (hm : ∀ (i : Nat) (v : Value), ls'[i]? = some (some v) → ls[i]? = some (some v)) : Lv X M d pc ls st σ o τ :=
  ⟨k.1, k.2.1, k.2.2.1, fun p l e R s m args below meth c H locs k0 n0 la h1 h2 h3 h4 h5 h6 h7 h8 h9 h10 h11 => k.2.2.2 p l e R s m args below meth c H locs k0 n0 la h1 h2 h3 h4 h5 h6 h7 h8 h9 h10 (h11.mono hm)⟩
/-- an instruction that leaves the heap as it is -/
theorem Lv.pure {X : Cx} {M : Mt} {d pc pc' : Nat} {ls ls' : List (Option Value)} {st st' : List Value} {σ τ : Hp} {o : Rs}
    (h : ∀ (p : Program) (l : Launch) (e : Env) (R : Room) (s : State) (m : MethodId) (args : Array Value) (below : List Frame) (meth : Method) (c : Code) (H : Heap) (locs : List Loc) (cells slots : Nat) (Q : State → Prop) (la : Array Slot),
      FxM X M p l s m args meth c → d ≤ R.frames → 100 * d ≤ R.locals → cells ≤ R.cells → slots ≤ R.slots → s.heap.size ≤ σ.sz → HS X σ H → Lk la M.ml ls → (∀ la', Lk la' M.ml ls' → W p l e R s m args below meth c H locs cells slots Q (F0 m pc' la' st')) → W p l e R s m args below meth c H locs cells slots Q (F0 m pc la st))
    (k : Lv X M d pc' ls' st' σ o τ) : Lv X M d pc ls st σ o τ :=
  ⟨k.1, k.2.1, k.2.2.1, fun p l e R s m args below meth c H locs k0 n0 la h1 h2 h3 h4 h5 h6 h7 h8 h9 h10 h11 => by
    have e1 := k.1
    have e2 := k.2.1
    exact h p l e R s m args below meth c H locs _ _ _ la h1 h2 h3 (by omega) (by omega) h8 h9 h11 (fun la' hl => k.2.2.2 p l e R s m args below meth c H locs k0 n0 la' h1 h2 h3 h4 h5 h6 h7 h8 h9 h10 hl)⟩
/-- a step that changes the heap -/
theorem Lv.step {X : Cx} {M : Mt} {d pc pc' : Nat} {ls ls' : List (Option Value)} {st st' : List Value} {σ σ1 τ : Hp} {o : Rs} (hc : σ.cl ≤ σ1.cl) (hs : σ.sl ≤ σ1.sl) (hz : σ.sz ≤ σ1.sz)
    (h : ∀ (p : Program) (l : Launch) (e : Env) (R : Room) (s : State) (m : MethodId) (args : Array Value) (below : List Frame) (meth : Method) (c : Code) (H : Heap) (locs : List Loc) (cells slots : Nat) (Q : State → Prop) (la : Array Slot),
      FxM X M p l s m args meth c → d ≤ R.frames → 100 * d ≤ R.locals → cells + (σ1.cl - σ.cl) ≤ R.cells → slots + (σ1.sl - σ.sl) ≤ R.slots → s.heap.size ≤ σ.sz → HS X σ H → (∀ q ∈ locs, X.b0 ≤ q.base) → Lk la M.ml ls →
      (∀ (H' : Heap) (locs' : List Loc) (la' : Array Slot), HS X σ1 H' → (∀ q ∈ locs', X.b0 ≤ q.base) → Lk la' M.ml ls' → W p l e R s m args below meth c H' locs' (cells + (σ1.cl - σ.cl)) (slots + (σ1.sl - σ.sl)) Q (F0 m pc' la' st')) → W p l e R s m args below meth c H locs cells slots Q (F0 m pc la st))
    (k : Lv X M d pc' ls' st' σ1 o τ) : Lv X M d pc ls st σ o τ :=
  ⟨Nat.le_trans hc k.1, Nat.le_trans hs k.2.1, Nat.le_trans hz k.2.2.1, fun p l e R s m args below meth c H locs k0 n0 la h1 h2 h3 h4 h5 h6 h7 h8 h9 h10 h11 => by
    have e1 := k.1
    have e2 := k.2.1
    have q1 : σ.cl - k0 + (σ1.cl - σ.cl) = σ1.cl - k0 := by omega
    have q2 : σ.sl - n0 + (σ1.sl - σ.sl) = σ1.sl - n0 := by omega
    refine h p l e R s m args below meth c H locs _ _ _ la h1 h2 h3 (by omega) (by omega) h8 h9 h10 h11 (fun H' locs' la' g1 g2 g3 => ?_)
    rw [q1, q2]
    exact k.2.2.2 p l e R s m args below meth c H' locs' k0 n0 la' h1 h2 h3 (by omega) (by omega) h6 h7 (by omega) g1 g2 g3⟩
section LPURE
variable {X : Cx} {M : Mt} {d pc : Nat} {ls : List (Option Value)} {rest : List Value} {σ τ : Hp} {o : Rs}
theorem Lv.iconst {n : Int} {v : Int32} (d9 : decode M.cc pc = .ok (.iconst n, 1)) (hv : Int32.ofInt n = v) (k : Lv X M d (pc + 1) ls (.int v :: rest) σ o τ) : Lv X M d pc ls rest σ o τ :=
  Lv.pure (fun _ _ _ _ _ _ _ _ _ _ _ _ _ _ _ _ hF _ _ _ _ _ _ hl kk => lv_iconst hF.1 hF.2.1 d9 hv (kk _ hl)) k
theorem Lv.bipush {n : Int} {v : Int32} (d9 : decode M.cc pc = .ok (.bipush n, 2)) (hv : (Int8.ofInt n).toInt32 = v) (k : Lv X M d (pc + 2) ls (.int v :: rest) σ o τ) : Lv X M d pc ls rest σ o τ :=
  Lv.pure (fun _ _ _ _ _ _ _ _ _ _ _ _ _ _ _ _ hF _ _ _ _ _ _ hl kk => lv_bipush hF.1 hF.2.1 d9 hv (kk _ hl)) k
theorem Lv.sipush {n : Int} {v : Int32} (d9 : decode M.cc pc = .ok (.sipush n, 3)) (hv : (Int16.ofInt n).toInt32 = v) (k : Lv X M d (pc + 3) ls (.int v :: rest) σ o τ) : Lv X M d pc ls rest σ o τ :=
  Lv.pure (fun _ _ _ _ _ _ _ _ _ _ _ _ _ _ _ _ hF _ _ _ _ _ _ hl kk => lv_sipush hF.1 hF.2.1 d9 hv (kk _ hl)) k
theorem Lv.iload_n {n : Fin 4} {i : Nat} {x : Int32} (d9 : decode M.cc pc = .ok (.iload_n n, 1)) (hi : (n : Nat) = i) (hx : ls[i]? = some (some (.int x))) (k : Lv X M d (pc + 1) ls (.int x :: rest) σ o τ) : Lv X M d pc ls rest σ o τ :=
  Lv.pure (fun _ _ _ _ _ _ _ _ _ _ _ _ _ _ _ _ hF _ _ _ _ _ _ hl kk => lv_iload_n hF.1 hF.2.1 d9 hi (hl.has hx) (kk _ hl)) k
theorem Lv.iload {i : Nat} {x : Int32} (d9 : decode M.cc pc = .ok (.iload i, 2)) (hx : ls[i]? = some (some (.int x))) (k : Lv X M d (pc + 2) ls (.int x :: rest) σ o τ) : Lv X M d pc ls rest σ o τ :=
  Lv.pure (fun _ _ _ _ _ _ _ _ _ _ _ _ _ _ _ _ hF _ _ _ _ _ _ hl kk => lv_iload hF.1 hF.2.1 d9 (hl.has hx) (kk _ hl)) k
theorem Lv.fload {i : Nat} {x : UInt32} (d9 : decode M.cc pc = .ok (.fload i, 2)) (hx : ls[i]? = some (some (.float x))) (k : Lv X M d (pc + 2) ls (.float x :: rest) σ o τ) : Lv X M d pc ls rest σ o τ :=
  Lv.pure (fun _ _ _ _ _ _ _ _ _ _ _ _ _ _ _ _ hF _ _ _ _ _ _ hl kk => lv_fload hF.1 hF.2.1 d9 (hl.has hx) (kk _ hl)) k
theorem Lv.aload_n {n : Fin 4} {i : Nat} {r : Option Nat} (d9 : decode M.cc pc = .ok (.aload_n n, 1)) (hi : (n : Nat) = i) (hx : ls[i]? = some (some (va_rf r))) (k : Lv X M d (pc + 1) ls (va_rf r :: rest) σ o τ) : Lv X M d pc ls rest σ o τ := by
  cases r with
  | none => exact Lv.pure (fun _ _ _ _ _ _ _ _ _ _ _ _ _ _ _ _ hF _ _ _ _ _ _ hl kk => lv_aload_nN hF.1 hF.2.1 d9 hi (hl.has hx) (kk _ hl)) k
  | some a => exact Lv.pure (fun _ _ _ _ _ _ _ _ _ _ _ _ _ _ _ _ hF _ _ _ _ _ _ hl kk => lv_aload_n hF.1 hF.2.1 d9 hi (hl.has hx) (kk _ hl)) k
theorem Lv.aload {i : Nat} {r : Option Nat} (d9 : decode M.cc pc = .ok (.aload i, 2)) (hx : ls[i]? = some (some (va_rf r))) (k : Lv X M d (pc + 2) ls (va_rf r :: rest) σ o τ) : Lv X M d pc ls rest σ o τ := by
  cases r with
  | none => exact Lv.pure (fun _ _ _ _ _ _ _ _ _ _ _ _ _ _ _ _ hF _ _ _ _ _ _ hl kk => lv_aloadN hF.1 hF.2.1 d9 (hl.has hx) (kk _ hl)) k
  | some a => exact Lv.pure (fun _ _ _ _ _ _ _ _ _ _ _ _ _ _ _ _ hF _ _ _ _ _ _ hl kk => lv_aload hF.1 hF.2.1 d9 (hl.has hx) (kk _ hl)) k
theorem Lv.istore {i : Nat} {x : Int32} (d9 : decode M.cc pc = .ok (.istore i, 2)) (hn : i < M.ml) (hz : isL (ls[i - 1]?) = false) (k : Lv X M d (pc + 2) (ls.set i (some (.int x))) rest σ o τ) : Lv X M d pc ls (.int x :: rest) σ o τ :=
  Lv.pure (fun _ _ _ _ _ _ _ _ _ _ _ _ _ _ _ _ hF _ _ _ _ _ _ hl kk => lv_istore hF.1 hF.2.1 d9 hl.lst hn rfl (fun la' h => kk la' (hl.back hz rfl h))) k
theorem Lv.fstore {i : Nat} {x : UInt32} (d9 : decode M.cc pc = .ok (.fstore i, 2)) (hn : i < M.ml) (hz : isL (ls[i - 1]?) = false) (k : Lv X M d (pc + 2) (ls.set i (some (.float x))) rest σ o τ) : Lv X M d pc ls (.float x :: rest) σ o τ :=
  Lv.pure (fun _ _ _ _ _ _ _ _ _ _ _ _ _ _ _ _ hF _ _ _ _ _ _ hl kk => lv_fstore hF.1 hF.2.1 d9 hl.lst hn rfl (fun la' h => kk la' (hl.back hz rfl h))) k
theorem Lv.istore_n {n : Fin 4} {i : Nat} {x : Int32} (d9 : decode M.cc pc = .ok (.istore_n n, 1)) (hi : (n : Nat) = i) (hn : i < M.ml) (hz : isL (ls[i - 1]?) = false) (k : Lv X M d (pc + 1) (ls.set i (some (.int x))) rest σ o τ) : Lv X M d pc ls (.int x :: rest) σ o τ :=
  Lv.pure (fun _ _ _ _ _ _ _ _ _ _ _ _ _ _ _ _ hF _ _ _ _ _ _ hl kk => lv_istore_n hF.1 hF.2.1 d9 hi hl.lst hn rfl (fun la' h => kk la' (hl.back hz rfl h))) k
theorem Lv.astore_n {n : Fin 4} {i : Nat} {r : Option Nat} (d9 : decode M.cc pc = .ok (.astore_n n, 1)) (hi : (n : Nat) = i) (hn : i < M.ml) (hz : isL (ls[i - 1]?) = false) (k : Lv X M d (pc + 1) (ls.set i (some (va_rf r))) rest σ o τ) : Lv X M d pc ls (va_rf r :: rest) σ o τ := by
  cases r with
  | none => exact Lv.pure (fun _ _ _ _ _ _ _ _ _ _ _ _ _ _ _ _ hF _ _ _ _ _ _ hl kk => lv_astore_nN hF.1 hF.2.1 d9 hi hl.lst hn rfl (fun la' h => kk la' (hl.back hz rfl h))) k
  | some a => exact Lv.pure (fun _ _ _ _ _ _ _ _ _ _ _ _ _ _ _ _ hF _ _ _ _ _ _ hl kk => lv_astore_n hF.1 hF.2.1 d9 hi hl.lst hn rfl (fun la' h => kk la' (hl.back hz rfl h))) k
theorem Lv.astore {i : Nat} {r : Option Nat} (d9 : decode M.cc pc = .ok (.astore i, 2)) (hn : i < M.ml) (hz : isL (ls[i - 1]?) = false) (k : Lv X M d (pc + 2) (ls.set i (some (va_rf r))) rest σ o τ) : Lv X M d pc ls (va_rf r :: rest) σ o τ := by
  cases r with
  | none => exact Lv.pure (fun _ _ _ _ _ _ _ _ _ _ _ _ _ _ _ _ hF _ _ _ _ _ _ hl kk => lv_astoreN hF.1 hF.2.1 d9 hl.lst hn rfl (fun la' h => kk la' (hl.back hz rfl h))) k
  | some a => exact Lv.pure (fun _ _ _ _ _ _ _ _ _ _ _ _ _ _ _ _ hF _ _ _ _ _ _ hl kk => lv_astore hF.1 hF.2.1 d9 hl.lst hn rfl (fun la' h => kk la' (hl.back hz rfl h))) k
theorem Lv.iinc {i : Nat} {n : Int} {x v : Int32} (d9 : decode M.cc pc = .ok (.iinc i n, 3)) (hx : ls[i]? = some (some (.int x))) (hv : x + Int32.ofInt n = v) (hn : i < M.ml) (hz : isL (ls[i - 1]?) = false) (k : Lv X M d (pc + 3) (ls.set i (some (.int v))) rest σ o τ) : Lv X M d pc ls rest σ o τ :=
  Lv.pure (fun _ _ _ _ _ _ _ _ _ _ _ _ _ _ _ _ hF _ _ _ _ _ _ hl kk => (by
    obtain ⟨j, hj⟩ := List.getElem?_of_mem (tol_mem hx)
    exact lv_iinc hF.1 hF.2.1 d9 hl.lst hj hv hn rfl (fun la' h => kk la' (hl.back hz rfl h)))) k
theorem Lv.iadd {x y : Int32} (d9 : decode M.cc pc = .ok (.iadd, 1)) (k : Lv X M d (pc + 1) ls (.int (x + y) :: rest) σ o τ) : Lv X M d pc ls (.int y :: .int x :: rest) σ o τ :=
  Lv.pure (fun _ _ _ _ _ _ _ _ _ _ _ _ _ _ _ _ hF _ _ _ _ _ _ hl kk => lv_iadd hF.1 hF.2.1 d9 (kk _ hl)) k
theorem Lv.isub {x y : Int32} (d9 : decode M.cc pc = .ok (.isub, 1)) (k : Lv X M d (pc + 1) ls (.int (x - y) :: rest) σ o τ) : Lv X M d pc ls (.int y :: .int x :: rest) σ o τ :=
  Lv.pure (fun _ _ _ _ _ _ _ _ _ _ _ _ _ _ _ _ hF _ _ _ _ _ _ hl kk => lv_isub hF.1 hF.2.1 d9 (kk _ hl)) k
theorem Lv.imul {x y : Int32} (d9 : decode M.cc pc = .ok (.imul, 1)) (k : Lv X M d (pc + 1) ls (.int (x * y) :: rest) σ o τ) : Lv X M d pc ls (.int y :: .int x :: rest) σ o τ :=
  Lv.pure (fun _ _ _ _ _ _ _ _ _ _ _ _ _ _ _ _ hF _ _ _ _ _ _ hl kk => lv_imul hF.1 hF.2.1 d9 (kk _ hl)) k
theorem Lv.iand {x y : Int32} (d9 : decode M.cc pc = .ok (.iand, 1)) (k : Lv X M d (pc + 1) ls (.int (x &&& y) :: rest) σ o τ) : Lv X M d pc ls (.int y :: .int x :: rest) σ o τ :=
  Lv.pure (fun _ _ _ _ _ _ _ _ _ _ _ _ _ _ _ _ hF _ _ _ _ _ _ hl kk => lv_iand hF.1 hF.2.1 d9 (kk _ hl)) k
theorem Lv.i2l {x : Int32} {v : Int64} (d9 : decode M.cc pc = .ok (.i2l, 1)) (hv : x.toInt64 = v) (k : Lv X M d (pc + 1) ls (.long v :: rest) σ o τ) : Lv X M d pc ls (.int x :: rest) σ o τ :=
  Lv.pure (fun _ _ _ _ _ _ _ _ _ _ _ _ _ _ _ _ hF _ _ _ _ _ _ hl kk => lv_i2l hF.1 hF.2.1 d9 hv (kk _ hl)) k
theorem Lv.fconst0 (d9 : decode M.cc pc = .ok (.fconst 0, 1)) (k : Lv X M d (pc + 1) ls (.float 0 :: rest) σ o τ) : Lv X M d pc ls rest σ o τ :=
  Lv.pure (fun _ _ _ _ _ _ _ _ _ _ _ _ _ _ _ _ hF _ _ _ _ _ _ hl kk => lv_fconst0 hF.1 hF.2.1 d9 (kk _ hl)) k
theorem Lv.fcmp {x y : UInt32} {op : CmpOp} (d9 : decode M.cc pc = .ok (.fcmp op, 1)) (k : Lv X M d (pc + 1) ls (.int (Op.cmpValue (FP.fcmp x y) op) :: rest) σ o τ) : Lv X M d pc ls (.float y :: .float x :: rest) σ o τ :=
  Lv.pure (fun _ _ _ _ _ _ _ _ _ _ _ _ _ _ _ _ hF _ _ _ _ _ _ hl kk => lv_fcmp hF.1 hF.2.1 d9 (kk _ hl)) k
theorem Lv.lcmp {x y : Int64} (d9 : decode M.cc pc = .ok (.lcmp, 1)) (k : Lv X M d (pc + 1) ls (.int (lg_cmp x y) :: rest) σ o τ) : Lv X M d pc ls (.long y :: .long x :: rest) σ o τ :=
  Lv.pure (fun _ _ _ _ _ _ _ _ _ _ _ _ _ _ _ _ hF _ _ _ _ _ _ hl kk => W.lcmp hF.1 hF.2.1 d9 (kk _ hl)) k
theorem Lv.dup {va : Value} (d9 : decode M.cc pc = .ok (.dup, 1)) (hc : va.category = 1) (k : Lv X M d (pc + 1) ls (va :: va :: rest) σ o τ) : Lv X M d pc ls (va :: rest) σ o τ :=
  Lv.pure (fun _ _ _ _ _ _ _ _ _ _ _ _ _ _ _ _ hF _ _ _ _ _ _ hl kk => lv_dup hF.1 hF.2.1 d9 hc (kk _ hl)) k
theorem Lv.pop {va : Value} (d9 : decode M.cc pc = .ok (.pop, 1)) (hc : va.category = 1) (k : Lv X M d (pc + 1) ls rest σ o τ) : Lv X M d pc ls (va :: rest) σ o τ :=
  Lv.pure (fun _ _ _ _ _ _ _ _ _ _ _ _ _ _ _ _ hF _ _ _ _ _ _ hl kk => lv_pop hF.1 hF.2.1 d9 hc (kk _ hl)) k
theorem Lv.dup2 {va vb : Value} (d9 : decode M.cc pc = .ok (.dup2, 1)) (hc : va.category = 1) (hc2 : vb.category = 1) (k : Lv X M d (pc + 1) ls (va :: vb :: va :: vb :: rest) σ o τ) : Lv X M d pc ls (va :: vb :: rest) σ o τ :=
  Lv.pure (fun _ _ _ _ _ _ _ _ _ _ _ _ _ _ _ _ hF _ _ _ _ _ _ hl kk => lv_dup2_11 hF.1 hF.2.1 d9 hc hc2 (kk _ hl)) k
theorem Lv.goto {off : Int} {tgt : Nat} (d9 : decode M.cc pc = .ok (.goto off, 3)) (ht : (pc : Int) + off = (tgt : Int)) (k : Lv X M d tgt ls rest σ o τ) : Lv X M d pc ls rest σ o τ :=
  Lv.pure (fun _ _ _ _ _ _ _ _ _ _ _ _ _ _ _ _ hF _ _ _ _ _ _ hl kk => lv_goto hF.1 hF.2.1 d9 ht (kk _ hl)) k
theorem Lv.if_eq_t {x : Int32} {off : Int} {tgt : Nat} (d9 : decode M.cc pc = .ok (.ifCond .eq off, 3)) (ht : (pc : Int) + off = (tgt : Int)) (hc : x = 0) (k : Lv X M d tgt ls rest σ o τ) : Lv X M d pc ls (.int x :: rest) σ o τ :=
  Lv.pure (fun _ _ _ _ _ _ _ _ _ _ _ _ _ _ _ _ hF _ _ _ _ _ _ hl kk => lv_if_eq hF.1 hF.2.1 d9 ht (fun _ => kk _ hl) (fun n => by first | exact absurd hc n | exact absurd n hc)) k
theorem Lv.if_eq_f {x : Int32} {off : Int} (d9 : decode M.cc pc = .ok (.ifCond .eq off, 3)) {tgt : Nat} (ht : (pc : Int) + off = (tgt : Int)) (hc : ¬ (x = 0)) (k : Lv X M d (pc + 3) ls rest σ o τ) : Lv X M d pc ls (.int x :: rest) σ o τ :=
  Lv.pure (fun _ _ _ _ _ _ _ _ _ _ _ _ _ _ _ _ hF _ _ _ _ _ _ hl kk => lv_if_eq hF.1 hF.2.1 d9 ht (fun n => absurd n hc) (fun _ => kk _ hl)) k
theorem Lv.icmp_eq_t {x y : Int32} {off : Int} {tgt : Nat} (d9 : decode M.cc pc = .ok (.if_icmp .eq off, 3)) (ht : (pc : Int) + off = (tgt : Int)) (hc : x = y) (k : Lv X M d tgt ls rest σ o τ) : Lv X M d pc ls (.int y :: .int x :: rest) σ o τ :=
  Lv.pure (fun _ _ _ _ _ _ _ _ _ _ _ _ _ _ _ _ hF _ _ _ _ _ _ hl kk => lv_icmp_eq hF.1 hF.2.1 d9 ht (fun _ => kk _ hl) (fun n => by first | exact absurd hc n | exact absurd n hc)) k
theorem Lv.icmp_eq_f {x y : Int32} {off : Int} (d9 : decode M.cc pc = .ok (.if_icmp .eq off, 3)) {tgt : Nat} (ht : (pc : Int) + off = (tgt : Int)) (hc : ¬ (x = y)) (k : Lv X M d (pc + 3) ls rest σ o τ) : Lv X M d pc ls (.int y :: .int x :: rest) σ o τ :=
  Lv.pure (fun _ _ _ _ _ _ _ _ _ _ _ _ _ _ _ _ hF _ _ _ _ _ _ hl kk => lv_icmp_eq hF.1 hF.2.1 d9 ht (fun n => absurd n hc) (fun _ => kk _ hl)) k
theorem Lv.if_ne_t {x : Int32} {off : Int} {tgt : Nat} (d9 : decode M.cc pc = .ok (.ifCond .ne off, 3)) (ht : (pc : Int) + off = (tgt : Int)) (hc : ¬ x = 0) (k : Lv X M d tgt ls rest σ o τ) : Lv X M d pc ls (.int x :: rest) σ o τ :=
  Lv.pure (fun _ _ _ _ _ _ _ _ _ _ _ _ _ _ _ _ hF _ _ _ _ _ _ hl kk => lv_if_ne hF.1 hF.2.1 d9 ht (fun _ => kk _ hl) (fun n => by first | exact absurd hc n | exact absurd n hc)) k
theorem Lv.if_ne_f {x : Int32} {off : Int} (d9 : decode M.cc pc = .ok (.ifCond .ne off, 3)) {tgt : Nat} (ht : (pc : Int) + off = (tgt : Int)) (hc : ¬ (¬ x = 0)) (k : Lv X M d (pc + 3) ls rest σ o τ) : Lv X M d pc ls (.int x :: rest) σ o τ :=
  Lv.pure (fun _ _ _ _ _ _ _ _ _ _ _ _ _ _ _ _ hF _ _ _ _ _ _ hl kk => lv_if_ne hF.1 hF.2.1 d9 ht (fun n => absurd n hc) (fun _ => kk _ hl)) k
theorem Lv.icmp_ne_t {x y : Int32} {off : Int} {tgt : Nat} (d9 : decode M.cc pc = .ok (.if_icmp .ne off, 3)) (ht : (pc : Int) + off = (tgt : Int)) (hc : ¬ x = y) (k : Lv X M d tgt ls rest σ o τ) : Lv X M d pc ls (.int y :: .int x :: rest) σ o τ :=
  Lv.pure (fun _ _ _ _ _ _ _ _ _ _ _ _ _ _ _ _ hF _ _ _ _ _ _ hl kk => lv_icmp_ne hF.1 hF.2.1 d9 ht (fun _ => kk _ hl) (fun n => by first | exact absurd hc n | exact absurd n hc)) k
theorem Lv.icmp_ne_f {x y : Int32} {off : Int} (d9 : decode M.cc pc = .ok (.if_icmp .ne off, 3)) {tgt : Nat} (ht : (pc : Int) + off = (tgt : Int)) (hc : ¬ (¬ x = y)) (k : Lv X M d (pc + 3) ls rest σ o τ) : Lv X M d pc ls (.int y :: .int x :: rest) σ o τ :=
  Lv.pure (fun _ _ _ _ _ _ _ _ _ _ _ _ _ _ _ _ hF _ _ _ _ _ _ hl kk => lv_icmp_ne hF.1 hF.2.1 d9 ht (fun n => absurd n hc) (fun _ => kk _ hl)) k
theorem Lv.if_lt_t {x : Int32} {off : Int} {tgt : Nat} (d9 : decode M.cc pc = .ok (.ifCond .lt off, 3)) (ht : (pc : Int) + off = (tgt : Int)) (hc : x < 0) (k : Lv X M d tgt ls rest σ o τ) : Lv X M d pc ls (.int x :: rest) σ o τ :=
  Lv.pure (fun _ _ _ _ _ _ _ _ _ _ _ _ _ _ _ _ hF _ _ _ _ _ _ hl kk => lv_if_lt hF.1 hF.2.1 d9 ht (fun _ => kk _ hl) (fun n => by first | exact absurd hc n | exact absurd n hc)) k
theorem Lv.if_lt_f {x : Int32} {off : Int} (d9 : decode M.cc pc = .ok (.ifCond .lt off, 3)) {tgt : Nat} (ht : (pc : Int) + off = (tgt : Int)) (hc : ¬ (x < 0)) (k : Lv X M d (pc + 3) ls rest σ o τ) : Lv X M d pc ls (.int x :: rest) σ o τ :=
  Lv.pure (fun _ _ _ _ _ _ _ _ _ _ _ _ _ _ _ _ hF _ _ _ _ _ _ hl kk => lv_if_lt hF.1 hF.2.1 d9 ht (fun n => absurd n hc) (fun _ => kk _ hl)) k
theorem Lv.icmp_lt_t {x y : Int32} {off : Int} {tgt : Nat} (d9 : decode M.cc pc = .ok (.if_icmp .lt off, 3)) (ht : (pc : Int) + off = (tgt : Int)) (hc : x < y) (k : Lv X M d tgt ls rest σ o τ) : Lv X M d pc ls (.int y :: .int x :: rest) σ o τ :=
  Lv.pure (fun _ _ _ _ _ _ _ _ _ _ _ _ _ _ _ _ hF _ _ _ _ _ _ hl kk => lv_icmp_lt hF.1 hF.2.1 d9 ht (fun _ => kk _ hl) (fun n => by first | exact absurd hc n | exact absurd n hc)) k
theorem Lv.icmp_lt_f {x y : Int32} {off : Int} (d9 : decode M.cc pc = .ok (.if_icmp .lt off, 3)) {tgt : Nat} (ht : (pc : Int) + off = (tgt : Int)) (hc : ¬ (x < y)) (k : Lv X M d (pc + 3) ls rest σ o τ) : Lv X M d pc ls (.int y :: .int x :: rest) σ o τ :=
  Lv.pure (fun _ _ _ _ _ _ _ _ _ _ _ _ _ _ _ _ hF _ _ _ _ _ _ hl kk => lv_icmp_lt hF.1 hF.2.1 d9 ht (fun n => absurd n hc) (fun _ => kk _ hl)) k
theorem Lv.if_ge_t {x : Int32} {off : Int} {tgt : Nat} (d9 : decode M.cc pc = .ok (.ifCond .ge off, 3)) (ht : (pc : Int) + off = (tgt : Int)) (hc : 0 ≤ x) (k : Lv X M d tgt ls rest σ o τ) : Lv X M d pc ls (.int x :: rest) σ o τ :=
  Lv.pure (fun _ _ _ _ _ _ _ _ _ _ _ _ _ _ _ _ hF _ _ _ _ _ _ hl kk => lv_if_ge hF.1 hF.2.1 d9 ht (fun _ => kk _ hl) (fun n => by first | exact absurd hc n | exact absurd n hc)) k
theorem Lv.if_ge_f {x : Int32} {off : Int} (d9 : decode M.cc pc = .ok (.ifCond .ge off, 3)) {tgt : Nat} (ht : (pc : Int) + off = (tgt : Int)) (hc : ¬ (0 ≤ x)) (k : Lv X M d (pc + 3) ls rest σ o τ) : Lv X M d pc ls (.int x :: rest) σ o τ :=
  Lv.pure (fun _ _ _ _ _ _ _ _ _ _ _ _ _ _ _ _ hF _ _ _ _ _ _ hl kk => lv_if_ge hF.1 hF.2.1 d9 ht (fun n => absurd n hc) (fun _ => kk _ hl)) k
theorem Lv.icmp_ge_t {x y : Int32} {off : Int} {tgt : Nat} (d9 : decode M.cc pc = .ok (.if_icmp .ge off, 3)) (ht : (pc : Int) + off = (tgt : Int)) (hc : y ≤ x) (k : Lv X M d tgt ls rest σ o τ) : Lv X M d pc ls (.int y :: .int x :: rest) σ o τ :=
  Lv.pure (fun _ _ _ _ _ _ _ _ _ _ _ _ _ _ _ _ hF _ _ _ _ _ _ hl kk => lv_icmp_ge hF.1 hF.2.1 d9 ht (fun _ => kk _ hl) (fun n => by first | exact absurd hc n | exact absurd n hc)) k
theorem Lv.icmp_ge_f {x y : Int32} {off : Int} (d9 : decode M.cc pc = .ok (.if_icmp .ge off, 3)) {tgt : Nat} (ht : (pc : Int) + off = (tgt : Int)) (hc : ¬ (y ≤ x)) (k : Lv X M d (pc + 3) ls rest σ o τ) : Lv X M d pc ls (.int y :: .int x :: rest) σ o τ :=
  Lv.pure (fun _ _ _ _ _ _ _ _ _ _ _ _ _ _ _ _ hF _ _ _ _ _ _ hl kk => lv_icmp_ge hF.1 hF.2.1 d9 ht (fun n => absurd n hc) (fun _ => kk _ hl)) k
theorem Lv.if_gt_t {x : Int32} {off : Int} {tgt : Nat} (d9 : decode M.cc pc = .ok (.ifCond .gt off, 3)) (ht : (pc : Int) + off = (tgt : Int)) (hc : 0 < x) (k : Lv X M d tgt ls rest σ o τ) : Lv X M d pc ls (.int x :: rest) σ o τ :=
  Lv.pure (fun _ _ _ _ _ _ _ _ _ _ _ _ _ _ _ _ hF _ _ _ _ _ _ hl kk => lv_if_gt hF.1 hF.2.1 d9 ht (fun _ => kk _ hl) (fun n => by first | exact absurd hc n | exact absurd n hc)) k
theorem Lv.if_gt_f {x : Int32} {off : Int} (d9 : decode M.cc pc = .ok (.ifCond .gt off, 3)) {tgt : Nat} (ht : (pc : Int) + off = (tgt : Int)) (hc : ¬ (0 < x)) (k : Lv X M d (pc + 3) ls rest σ o τ) : Lv X M d pc ls (.int x :: rest) σ o τ :=
  Lv.pure (fun _ _ _ _ _ _ _ _ _ _ _ _ _ _ _ _ hF _ _ _ _ _ _ hl kk => lv_if_gt hF.1 hF.2.1 d9 ht (fun n => absurd n hc) (fun _ => kk _ hl)) k
theorem Lv.icmp_gt_t {x y : Int32} {off : Int} {tgt : Nat} (d9 : decode M.cc pc = .ok (.if_icmp .gt off, 3)) (ht : (pc : Int) + off = (tgt : Int)) (hc : y < x) (k : Lv X M d tgt ls rest σ o τ) : Lv X M d pc ls (.int y :: .int x :: rest) σ o τ :=
  Lv.pure (fun _ _ _ _ _ _ _ _ _ _ _ _ _ _ _ _ hF _ _ _ _ _ _ hl kk => lv_icmp_gt hF.1 hF.2.1 d9 ht (fun _ => kk _ hl) (fun n => by first | exact absurd hc n | exact absurd n hc)) k
theorem Lv.icmp_gt_f {x y : Int32} {off : Int} (d9 : decode M.cc pc = .ok (.if_icmp .gt off, 3)) {tgt : Nat} (ht : (pc : Int) + off = (tgt : Int)) (hc : ¬ (y < x)) (k : Lv X M d (pc + 3) ls rest σ o τ) : Lv X M d pc ls (.int y :: .int x :: rest) σ o τ :=
  Lv.pure (fun _ _ _ _ _ _ _ _ _ _ _ _ _ _ _ _ hF _ _ _ _ _ _ hl kk => lv_icmp_gt hF.1 hF.2.1 d9 ht (fun n => absurd n hc) (fun _ => kk _ hl)) k
theorem Lv.if_le_t {x : Int32} {off : Int} {tgt : Nat} (d9 : decode M.cc pc = .ok (.ifCond .le off, 3)) (ht : (pc : Int) + off = (tgt : Int)) (hc : x ≤ 0) (k : Lv X M d tgt ls rest σ o τ) : Lv X M d pc ls (.int x :: rest) σ o τ :=
  Lv.pure (fun _ _ _ _ _ _ _ _ _ _ _ _ _ _ _ _ hF _ _ _ _ _ _ hl kk => lv_if_le hF.1 hF.2.1 d9 ht (fun _ => kk _ hl) (fun n => by first | exact absurd hc n | exact absurd n hc)) k
theorem Lv.if_le_f {x : Int32} {off : Int} (d9 : decode M.cc pc = .ok (.ifCond .le off, 3)) {tgt : Nat} (ht : (pc : Int) + off = (tgt : Int)) (hc : ¬ (x ≤ 0)) (k : Lv X M d (pc + 3) ls rest σ o τ) : Lv X M d pc ls (.int x :: rest) σ o τ :=
  Lv.pure (fun _ _ _ _ _ _ _ _ _ _ _ _ _ _ _ _ hF _ _ _ _ _ _ hl kk => lv_if_le hF.1 hF.2.1 d9 ht (fun n => absurd n hc) (fun _ => kk _ hl)) k
theorem Lv.icmp_le_t {x y : Int32} {off : Int} {tgt : Nat} (d9 : decode M.cc pc = .ok (.if_icmp .le off, 3)) (ht : (pc : Int) + off = (tgt : Int)) (hc : x ≤ y) (k : Lv X M d tgt ls rest σ o τ) : Lv X M d pc ls (.int y :: .int x :: rest) σ o τ :=
  Lv.pure (fun _ _ _ _ _ _ _ _ _ _ _ _ _ _ _ _ hF _ _ _ _ _ _ hl kk => lv_icmp_le hF.1 hF.2.1 d9 ht (fun _ => kk _ hl) (fun n => by first | exact absurd hc n | exact absurd n hc)) k
theorem Lv.icmp_le_f {x y : Int32} {off : Int} (d9 : decode M.cc pc = .ok (.if_icmp .le off, 3)) {tgt : Nat} (ht : (pc : Int) + off = (tgt : Int)) (hc : ¬ (x ≤ y)) (k : Lv X M d (pc + 3) ls rest σ o τ) : Lv X M d pc ls (.int y :: .int x :: rest) σ o τ :=
  Lv.pure (fun _ _ _ _ _ _ _ _ _ _ _ _ _ _ _ _ hF _ _ _ _ _ _ hl kk => lv_icmp_le hF.1 hF.2.1 d9 ht (fun n => absurd n hc) (fun _ => kk _ hl)) k
theorem Lv.ldc {ix : Nat} {v : Int32} (d9 : decode M.cc pc = .ok (.ldc ix, 2)) (hw : (Jvm.Cond.constant M.y.cls ix v) ∈ lw_tbl) (hg : goodWord (Jvm.Cond.constant M.y.cls ix v) = true) (k : Lv X M d (pc + 2) ls (.int v :: rest) σ o τ) : Lv X M d pc ls rest σ o τ :=
  Lv.pure (fun _ _ _ _ _ _ _ _ _ _ _ _ _ _ _ _ hF _ _ _ _ _ _ hl kk => lv_ldc hF.1 hF.2.1 hF.2.2.2.2.2.1 (hF.2.2.2.2.2.2.2.2.2.1.good hF.2.2.2.2.2.2.2.2.2.2.1 hw hg) d9 (kk _ hl)) k
theorem Lv.iushr {x y v : Int32} (d9 : decode M.cc pc = .ok (.iushr, 1)) (hv : (x.toUInt32 >>> (y.toUInt32 &&& Int32.toUInt32 31)).toInt32 = v) (k : Lv X M d (pc + 1) ls (.int v :: rest) σ o τ) : Lv X M d pc ls (.int y :: .int x :: rest) σ o τ :=
  Lv.pure (fun _ _ _ _ _ _ _ _ _ _ _ _ _ _ _ _ hF _ _ _ _ _ _ hl kk => lv_iushr hF.1 hF.2.1 d9 hv (kk _ hl)) k
theorem Lv.ladd {x y : Int64} (d9 : decode M.cc pc = .ok (.ladd, 1)) (k : Lv X M d (pc + 1) ls (.long (x + y) :: rest) σ o τ) : Lv X M d pc ls (.long y :: .long x :: rest) σ o τ :=
  Lv.pure (fun _ _ _ _ _ _ _ _ _ _ _ _ _ _ _ _ hF _ _ _ _ _ _ hl kk => lv_ladd hF.1 hF.2.1 d9 (kk _ hl)) k
theorem Lv.lmul {x y : Int64} (d9 : decode M.cc pc = .ok (.lmul, 1)) (k : Lv X M d (pc + 1) ls (.long (x * y) :: rest) σ o τ) : Lv X M d pc ls (.long y :: .long x :: rest) σ o τ :=
  Lv.pure (fun _ _ _ _ _ _ _ _ _ _ _ _ _ _ _ _ hF _ _ _ _ _ _ hl kk => lv_lmul hF.1 hF.2.1 d9 (kk _ hl)) k
theorem Lv.lload_n {n : Fin 4} {i : Nat} {x : Int64} (d9 : decode M.cc pc = .ok (.lload_n n, 1)) (hi : (n : Nat) = i) (hx : ls[i]? = some (some (.long x))) (k : Lv X M d (pc + 1) ls (.long x :: rest) σ o τ) : Lv X M d pc ls rest σ o τ :=
  Lv.pure (fun _ _ _ _ _ _ _ _ _ _ _ _ _ _ _ _ hF _ _ _ _ _ _ hl kk => lv_lload_n hF.1 hF.2.1 d9 hi (hl.has hx) (kk _ hl)) k
theorem Lv.lload {i : Nat} {x : Int64} (d9 : decode M.cc pc = .ok (.lload i, 2)) (hx : ls[i]? = some (some (.long x))) (k : Lv X M d (pc + 2) ls (.long x :: rest) σ o τ) : Lv X M d pc ls rest σ o τ :=
  Lv.pure (fun _ _ _ _ _ _ _ _ _ _ _ _ _ _ _ _ hF _ _ _ _ _ _ hl kk => lv_lload hF.1 hF.2.1 d9 (hl.has hx) (kk _ hl)) k
theorem Lv.lstore_n {n : Fin 4} {i : Nat} {x : Int64} (d9 : decode M.cc pc = .ok (.lstore_n n, 1)) (hi : (n : Nat) = i) (hn : i + 1 < M.ml) (hz : isL (ls[i - 1]?) = false) (k : Lv X M d (pc + 1) ((ls.set i (some (.long x))).set (i + 1) none) rest σ o τ) : Lv X M d pc ls (.long x :: rest) σ o τ :=
  Lv.pure (fun _ _ _ _ _ _ _ _ _ _ _ _ _ _ _ _ hF _ _ _ _ _ _ hl kk => lv_lstore_n hF.1 hF.2.1 d9 hi hl.lst hn rfl (fun la' h => kk la' (hl.backL hz h))) k
theorem Lv.lstore {i : Nat} {x : Int64} (d9 : decode M.cc pc = .ok (.lstore i, 2)) (hn : i + 1 < M.ml) (hz : isL (ls[i - 1]?) = false) (k : Lv X M d (pc + 2) ((ls.set i (some (.long x))).set (i + 1) none) rest σ o τ) : Lv X M d pc ls (.long x :: rest) σ o τ :=
  Lv.pure (fun _ _ _ _ _ _ _ _ _ _ _ _ _ _ _ _ hF _ _ _ _ _ _ hl kk => lv_lstore hF.1 hF.2.1 d9 hl.lst hn rfl (fun la' h => kk la' (hl.backL hz h))) k
theorem Lv.fconst1 (d9 : decode M.cc pc = .ok (.fconst 1, 1)) (k : Lv X M d (pc + 1) ls (.float 1065353216 :: rest) σ o τ) : Lv X M d pc ls rest σ o τ :=
  Lv.pure (fun _ _ _ _ _ _ _ _ _ _ _ _ _ _ _ _ hF _ _ _ _ _ _ hl kk => lv_fconst1 hF.1 hF.2.1 d9 (kk _ hl)) k
theorem Lv.ldcf {ix : Nat} {v : UInt32} (d9 : decode M.cc pc = .ok (.ldc ix, 2)) (hw : (Jvm.Cond.constantFloat M.y.cls ix v) ∈ lw_tbl) (hg : goodWord (Jvm.Cond.constantFloat M.y.cls ix v) = true) (k : Lv X M d (pc + 2) ls (.float v :: rest) σ o τ) : Lv X M d pc ls rest σ o τ :=
  Lv.pure (fun _ _ _ _ _ _ _ _ _ _ _ _ _ _ _ _ hF _ _ _ _ _ _ hl kk => lv_ldcf hF.1 hF.2.1 hF.2.2.2.2.2.1 (hF.2.2.2.2.2.2.2.2.2.1.good hF.2.2.2.2.2.2.2.2.2.2.1 hw hg) d9 (kk _ hl)) k
theorem Lv.ldc2 {ix : Nat} {v : Int64} (d9 : decode M.cc pc = .ok (.ldc2_w ix, 3)) (hw : (Jvm.Cond.constantLong M.y.cls ix v) ∈ lw_tbl) (hg : goodWord (Jvm.Cond.constantLong M.y.cls ix v) = true) (k : Lv X M d (pc + 3) ls (.long v :: rest) σ o τ) : Lv X M d pc ls rest σ o τ :=
  Lv.pure (fun _ _ _ _ _ _ _ _ _ _ _ _ _ _ _ _ hF _ _ _ _ _ _ hl kk => lv_ldc2 hF.1 hF.2.1 hF.2.2.2.2.2.1 (hF.2.2.2.2.2.2.2.2.2.1.good hF.2.2.2.2.2.2.2.2.2.2.1 hw hg) d9 (kk _ hl)) k
theorem Lv.iald {a : Nat} {i : Int32} (hkd : σ.kd a = 20) (hj : vp_in i (σ.ln a)) (d9 : decode M.cc pc = .ok (.iaload, 1)) (k : Lv X M d (pc + 1) ls (.int (σ.iv a i.toNatClampNeg) :: rest) σ o τ) : Lv X M d pc ls (.int i :: va_rf (some a) :: rest) σ o τ :=
  Lv.pure (fun p l e R s m args below meth c H locs cells slots Q la hF _ _ _ _ _ hH hl kk => by
    obtain ⟨hx, hb, -, -, -, -, -, -, -, hK, hW, -, -⟩ := hF
    exact va_iald hx hb (hK.va hW) (va_P1 (q := (a, .inl (X.cs 0, (σ.ln a, .inl (σ.iv a))))) ((hH.2.2.2.1 a).2.1 hkd)) 0 0 rfl rfl hj d9 (kk _ hl)) k
theorem Lv.zald {a : Nat} {i : Int32} (hkd : σ.kd a = 23) (hj : vp_in i (σ.ln a)) (d9 : decode M.cc pc = .ok (.baload, 1)) (k : Lv X M d (pc + 1) ls (.int (σ.iv a i.toNatClampNeg) :: rest) σ o τ) : Lv X M d pc ls (.int i :: va_rf (some a) :: rest) σ o τ :=
  Lv.pure (fun p l e R s m args below meth c H locs cells slots Q la hF _ _ _ _ _ hH hl kk => by
    obtain ⟨hx, hb, -, -, -, -, -, -, -, hK, hW, -, -⟩ := hF
    exact va_zald hx hb (hK.va hW) (va_P1 (q := (a, .inl (X.cs 3, (σ.ln a, .inl (σ.iv a))))) ((hH.2.2.2.1 a).2.2.2.2.1 hkd)) 0 3 rfl rfl hj d9 (kk _ hl)) k
theorem Lv.iast {a : Nat} {i x : Int32} (hkd : σ.kd a = 20) (hj : vp_in i (σ.ln a)) (d9 : decode M.cc pc = .ok (.iastore, 1)) (k : Lv X M d (pc + 1) ls rest (σ.setI a i.toNatClampNeg x) o τ) : Lv X M d pc ls (.int x :: .int i :: va_rf (some a) :: rest) σ o τ :=
  Lv.step (σ1 := σ.setI a i.toNatClampNeg x) (Nat.le_refl _) (Nat.le_refl _) (Nat.le_refl _) (fun p l e R s m args below meth c H locs cells slots Q la hF _ _ hRc hRs _ hH hlo hl kk => by
    obtain ⟨hx, hb, -, -, -, -, -, -, -, hK, hW, -, -⟩ := hF
    rw [show (σ.setI a i.toNatClampNeg x).cl - σ.cl = 0 from Nat.sub_self _, show (σ.setI a i.toNatClampNeg x).sl - σ.sl = 0 from Nat.sub_self _] at kk
    have hba := hH.2.2.1 a (by omega)
    refine W.iast hx hb ((hH.2.2.2.1 a).2.1 hkd) (((hK.va hW).2 0 _ rfl).1 _ (fun j => .int (σ.iv a j))) (fun q => by cases q) (by show ¬ (i < 0 ∨ (arrV _ _ _).slots.size ≤ _); rw [arrV_size]; exact hj) rfl rfl d9 fun H1 e z oq => ?_
    refine kk H1 _ la (hH.upd hba.1 rfl rfl rfl (fun b hb => up2_row _ _ _ hb) (fun _ _ => rfl) (fun _ _ => rfl) (fun _ _ => rfl) z oq ⟨fun ci r hk hr => ?_, fun _ => ?_, fun h => ?_, fun h => ?_, fun h => ?_, fun h => ?_⟩) (mem_loc hlo hba.1) hl
    · have := vwCl_lt hr
      have : σ.kd a = ci + 1 := hk
      omega
    · rw [e]
      show _ = some (vp_cell _ (_, .inl (up2 σ.iv a _ x a)))
      rw [up2_upd, vp_cell_i, vp_cell_i, arrV_store]
      congr 2
      funext q
      by_cases hq : q = i.toNatClampNeg
      · subst hq
        simp [updV, upd]
      · simp [updV, upd, hq]
    all_goals (have : σ.kd a = _ := h; omega)) k
theorem Lv.zast {a : Nat} {i x : Int32} (hkd : σ.kd a = 23) (hj : vp_in i (σ.ln a)) (hn : narrow .boolean (.int x) = .int x) (d9 : decode M.cc pc = .ok (.bastore, 1)) (k : Lv X M d (pc + 1) ls rest (σ.setI a i.toNatClampNeg x) o τ) : Lv X M d pc ls (.int x :: .int i :: va_rf (some a) :: rest) σ o τ :=
  Lv.step (σ1 := σ.setI a i.toNatClampNeg x) (Nat.le_refl _) (Nat.le_refl _) (Nat.le_refl _) (fun p l e R s m args below meth c H locs cells slots Q la hF _ _ hRc hRs _ hH hlo hl kk => by
    obtain ⟨hx, hb, -, -, -, -, -, -, -, hK, hW, -, -⟩ := hF
    rw [show (σ.setI a i.toNatClampNeg x).cl - σ.cl = 0 from Nat.sub_self _, show (σ.setI a i.toNatClampNeg x).sl - σ.sl = 0 from Nat.sub_self _] at kk
    have hba := hH.2.2.1 a (by omega)
    refine W.zast hx hb ((hH.2.2.2.1 a).2.2.2.2.1 hkd) (((hK.va hW).2 3 _ rfl).1 _ (fun j => .int (σ.iv a j))) (fun q => by cases q) (by show ¬ (i < 0 ∨ (arrV _ _ _).slots.size ≤ _); rw [arrV_size]; exact hj) rfl rfl d9 fun H1 e z oq => ?_
    rw [hn] at e
    refine kk H1 _ la (hH.upd hba.1 rfl rfl rfl (fun b hb => up2_row _ _ _ hb) (fun _ _ => rfl) (fun _ _ => rfl) (fun _ _ => rfl) z oq ⟨fun ci r hk hr => ?_, fun h => ?_, fun h => ?_, fun h => ?_, fun _ => ?_, fun h => ?_⟩) (mem_loc hlo hba.1) hl
    · have := vwCl_lt hr
      have : σ.kd a = ci + 1 := hk
      omega
    rotate_left 3
    · rw [e]
      show _ = some (vp_cell _ (_, .inl (up2 σ.iv a _ x a)))
      rw [up2_upd, vp_cell_i, vp_cell_i, arrV_store]
      congr 2
      funext q
      by_cases hq : q = i.toNatClampNeg
      · subst hq
        simp [updV, upd]
      · simp [updV, upd, hq]
    all_goals (have : σ.kd a = _ := h; omega)) k
theorem Lv.newA {K ti : Nat} {at9 : ArrayType} {n : Int32} {j : Nat} (hn : ¬ n < 0) (hj : n.toNatClampNeg = j) (hsm : j ≤ 60000) (hti : (K, ti, at9) = (20, 0, .int) ∨ (K, ti, at9) = (23, 3, .boolean)) (hw : Cond.arrayClass (newarray.typeOf at9) ∈ lw_tbl)
    (d9 : decode M.cc pc = .ok (.newarray at9, 2)) (k : Lv X M d (pc + 2) ls (va_rf (some σ.sz) :: rest) (σ.al K j j) o τ) : Lv X M d pc ls (.int n :: rest) σ o τ :=
  Lv.step (σ1 := σ.al K j j) (Nat.le_succ _) (Nat.le_add_right _ _) (Nat.le_succ _) (fun p l e R s m args below meth c H locs cells slots Q la hF _ _ hRc hRs _ hH hlo hl kk => by
    obtain ⟨hx, hb, -, -, -, hown, -, -, -, hK, hW, -, -⟩ := hF
    have e1 : (σ.al K j j).cl - σ.cl = 1 := Nat.add_sub_cancel_left ..
    have e2 : (σ.al K j j).sl - σ.sl = j := Nat.add_sub_cancel_left ..
    rw [e1] at kk hRc
    rw [e2] at kk hRs
    have hbytes : j * componentBytes (newarray.typeOf at9) ≤ 536870912 := by
      have : componentBytes (newarray.typeOf at9) ≤ 8 := by cases at9 <;> decide
      calc j * componentBytes (newarray.typeOf at9) ≤ 60000 * 8 := Nat.mul_le_mul hsm this
        _ ≤ 536870912 := by decide
    refine va_newaK (h := σ.sz) hx hb (hK.good hW hw rfl) rfl d9 rfl hn hj hbytes hRc hRs hH.1 fun H1 cA f1 f2 f3 _ f5 => ?_
    refine kk H1 locs la (hH.newA (n := j) (K := K) ?_ f1 f2 f3 ?_) hlo hl
    · rcases hti with h | h <;> cases h <;> decide
    · rcases hti with h | h <;> cases h
      · have hc := ((hK.va hW).2 0 _ rfl).2
        have hc : s.vm.findClass ("[" ++ FieldType.int.toString) = some (X.cs 0) := hc
        cases f5.symm.trans hc
        rfl
      · have hc := ((hK.va hW).2 3 _ rfl).2
        have hc : s.vm.findClass ("[" ++ FieldType.boolean.toString) = some (X.cs 3) := hc
        cases f5.symm.trans hc
        rfl) k
theorem Lv.new {ci ix : Nat} {C : String} {T : u_T} {N : Nat} (hr : vwCl[ci]? = some (C, T, N)) (h2 : 2 ≤ ci) (hw : Cond.classLink M.y.cls ix C ∈ lw_tbl) (hw2 : Cond.instantiable C N ∈ lw_tbl) (hw3 : Cond.initialized C ∈ lw_tbl) (d9 : decode M.cc pc = .ok (.new ix, 3)) (k : Lv X M d (pc + 3) ls (va_rf (some σ.sz) :: rest) (σ.al (ci + 1) 0 N) o τ) : Lv X M d pc ls rest σ o τ :=
  Lv.step (σ1 := σ.al (ci + 1) 0 N) (Nat.le_succ _) (Nat.le_add_right _ _) (Nat.le_succ _) (fun p l e R s m args below meth c H locs cells slots Q la hF _ _ hRc hRs _ hH hlo hl kk => by
    obtain ⟨hx, hb, -, -, -, hown, -, -, -, hK, hW, -, -⟩ := hF
    have e1 : (σ.al (ci + 1) 0 N).cl - σ.cl = 1 := Nat.add_sub_cancel_left ..
    have e2 : (σ.al (ci + 1) 0 N).sl - σ.sl = N := Nat.add_sub_cancel_left ..
    rw [e1] at kk hRc
    rw [e2] at kk hRs
    have hKn := (hK.va hW).1 ci _ hr
    obtain ⟨k1, k2, -, -, k5⟩ := clok ci C T N h2 hr
    have hlt := vwCl_lt hr
    refine W.newcK hx hb hown (hK.good hW hw rfl) (hK.good hW hw2 rfl) (hK.good hW hw3 rfl) rfl d9 hRc hRs hKn.2.1 hH.1 fun H1 kC hkC f1 f2 f3 => ?_
    refine kk H1 locs la (hH.new (by omega) (by rw [f2, hH.1]) (fun q hq => f3 q (by rw [← hH.1]; exact hq)) ⟨fun ci' r hk' hr' => ?_, fun h => ?_, fun h => ?_, fun h => ?_, fun h => ?_, fun h => ?_⟩) hlo hl
    · have e : (σ.al (ci + 1) 0 N).kd σ.sz = ci + 1 := up1_eq _ _ _
      rw [e] at hk'
      have e' : ci' = ci := by omega
      subst e'
      cases hr.symm.trans hr'
      refine t_OB.to (u_born _ (hK.lays (args := args) hW k1) (fun _ h => h) hKn hkC f1 k2) (fun j hj => ?_)
      have a1 : (σ.al (ci' + 1) 0 N).iv σ.sz j = 0 := congrFun (up1_eq _ _ _) j
      have a2 : (σ.al (ci' + 1) 0 N).rv σ.sz j = none := congrFun (up1_eq _ _ _) j
      unfold Hp.fv
      rw [a1, a2]
      exact k5 j hj
    all_goals (have e : (σ.al (ci + 1) 0 N).kd σ.sz = ci + 1 := up1_eq _ _ _; rw [e] at h; omega)) k
theorem Lv.max {ix : Nat} {x y : Int32} (hw : Cond.methodLink M.y.cls ix Lib.Math.max.name ∈ lw_tbl) (hd : 1 ≤ d) (hsz : (rest.map fun v => v.category).sum ≤ 60) (d9 : decode M.cc pc = .ok (.invokestatic ix, 3)) (k : Lv X M d (pc + 3) ls (.int (if x < y then y else x) :: rest) σ o τ) : Lv X M d pc ls (.int y :: .int x :: rest) σ o τ :=
  Lv.pure (fun p l e R s m args below meth c H locs cells slots Q la hF hRf hRl hc hs _ hH hl kk => by
    obtain ⟨hx, hb, hml, -, -, hown, -, -, -, hK, hW, -, -⟩ := hF
    exact va_mmax hx hb (by rw [hml]; exact hl.1.symm) hown (hK.good hW hw rfl) (hK.good hW (tb1 (i := 138) rfl) rfl) (hK.good hW (tb1 (i := 8) rfl) rfl) (hK.good hW (tb1 (i := 139) rfl) rfl) (by omega) (by omega) hc hs d9 (kk _ hl)) k
/-- invokevirtual, private ones too -/
theorem Lv.callV {ci ix b n d' : Nat} {C : String} {T : u_T} {N : Nat} {M' : Mt} {As : List Value} {st : List Value} {v : Option Value} {σ1 : Hp} (hm : cokD M' n) (hr : vwCl[ci]? = some (C, T, N)) (hkd : σ.kd b = ci + 1) (hw : Cond.methodLink M.y.cls ix M'.y ∈ lw_tbl) (hi : Cond.instanceMethod M'.y ∈ lw_tbl) (hs : Cond.selects C M'.y M'.y ∈ lw_tbl)
    (d9 : decode M.cc pc = .ok (.invokevirtual ix, 3)) (hst : st = As.reverse ++ va_rf (some b) :: rest) (hn : As.length = n) (hsm : (rest.map fun v => v.category).sum ≤ 8) (hd : d' + 1 ≤ d) (hC : Ct X M' d' (va_rf (some b) :: As) σ (.inl v) σ1) (k : Lv X M d (pc + 3) ls (v.toList ++ rest) σ1 o τ) : Lv X M d pc ls st σ o τ :=
  Lv.step (σ1 := σ1) hC.1 hC.2.1 hC.2.2.1 (fun p l e R s m args below meth c H locs cells slots Q la hF hRf hRl hRc hRs _ hH hlo hl kk => by
    obtain ⟨hx, hb, hml, -, -, hown, -, -, hst9, hK, hW, -, -⟩ := hF
    exact run_ok (va_runV (As := As) (Ts := []) ⟨hx, hb, hml, hown, fun _ h => nomatch h⟩ (hC.met hst9) ⟨cb_of hK hW hm hw hd hRf hRl, hK.good hW hi rfl, hK.good hW hs rfl⟩ ⟨fb_PcX, hH.recv hK hW hkd hr, pc_of hK hW hH⟩ rfl hn hl.1 hst (by show 2 * 0 + _ ≤ 8; omega) d9 ⟨hRc, hRs⟩) hlo
      (fun H' locs' h1 h2 => kk H' locs' la h1 h2 hl)) k
/-- invokestatic -/
theorem Lv.callS {ix n d' : Nat} {M' : Mt} {As : List Value} {st : List Value} {v : Option Value} {σ1 : Hp} (hm : cokD M' n) (hw : Cond.methodLink M.y.cls ix M'.y ∈ lw_tbl) (hi : Cond.static M'.y ∈ lw_tbl)
    (d9 : decode M.cc pc = .ok (.invokestatic ix, 3)) (hst : st = As.reverse ++ rest) (hn : As.length = n) (hsm : (rest.map fun v => v.category).sum ≤ 8) (hd : d' + 1 ≤ d) (hC : Ct X M' d' As σ (.inl v) σ1) (k : Lv X M d (pc + 3) ls (v.toList ++ rest) σ1 o τ) : Lv X M d pc ls st σ o τ :=
  Lv.step (σ1 := σ1) hC.1 hC.2.1 hC.2.2.1 (fun p l e R s m args below meth c H locs cells slots Q la hF hRf hRl hRc hRs _ hH hlo hl kk => by
    obtain ⟨hx, hb, hml, -, -, hown, -, -, hst9, hK, hW, -, -⟩ := hF
    exact run_ok (va_runS (As := As) (Ts := []) ⟨hx, hb, hml, hown, fun _ h => nomatch h⟩ (hC.met hst9) ⟨cb_of hK hW hm hw hd hRf hRl, hK.good hW hi rfl⟩ ⟨fb_PcX, pc_of hK hW hH⟩ rfl hn hl.1 hst (by show 2 * 0 + _ ≤ 8; omega) d9 ⟨hRc, hRs⟩) hlo
      (fun H' locs' h1 h2 => kk H' locs' la h1 h2 hl)) k
/-- invokespecial of a constructor -/
theorem Lv.callI {ix b n d' : Nat} {M' : Mt} {As : List Value} {st : List Value} {σ1 : Hp} (hm : cokD M' n) (hrt : M'.rt = none) (hnm : M'.y.name = "<init>") (hw : Cond.methodLink M.y.cls ix M'.y ∈ lw_tbl) (hi : Cond.instanceMethod M'.y ∈ lw_tbl)
    (d9 : decode M.cc pc = .ok (.invokespecial ix, 3)) (hst : st = As.reverse ++ va_rf (some b) :: rest) (hn : As.length = n) (hsm : (rest.map fun v => v.category).sum ≤ 8) (hd : d' + 1 ≤ d) (hC : Ct X M' d' (va_rf (some b) :: As) σ (.inl none) σ1) (k : Lv X M d (pc + 3) ls rest σ1 o τ) : Lv X M d pc ls st σ o τ :=
  Lv.step (σ1 := σ1) hC.1 hC.2.1 hC.2.2.1 (fun p l e R s m args below meth c H locs cells slots Q la hF hRf hRl hRc hRs _ hH hlo hl kk => by
    obtain ⟨hx, hb, hml, -, -, hown, -, -, hst9, hK, hW, -, -⟩ := hF
    have hcb := cb_of (R := R) (args := args) (σ := σ) (σ1 := σ1) hK hW hm hw hd hRf hRl
    rw [hrt] at hcb
    exact run_ok (va_runI (As := As) (Ts := []) ⟨hx, hb, hml, hown, fun _ h => nomatch h⟩ (hC.met hst9) ⟨hcb, hnm, hK.good hW hi rfl⟩ ⟨fb_PcX, pc_of hK hW hH⟩ rfl hn hl.1 hst (by show 2 * 0 + _ ≤ 8; omega) d9 ⟨hRc, hRs⟩) hlo
      (fun H' locs' h1 h2 => kk H' locs' la h1 h2 hl)) k
/-- invokestatic of a method that catches -/
theorem Lv.callSH {ix n d' : Nat} {M' : Mt} {As : List Value} {st : List Value} {v : Option Value} {σ1 : Hp} (hm : cokH M' n) (hw : Cond.methodLink M.y.cls ix M'.y ∈ lw_tbl) (hi : Cond.static M'.y ∈ lw_tbl)
    (d9 : decode M.cc pc = .ok (.invokestatic ix, 3)) (hst : st = As.reverse ++ rest) (hn : As.length = n) (hsm : (rest.map fun v => v.category).sum ≤ 8) (hd : d' + 1 ≤ d) (hC : Ct X M' d' As σ (.inl v) σ1) (k : Lv X M d (pc + 3) ls (v.toList ++ rest) σ1 o τ) : Lv X M d pc ls st σ o τ :=
  Lv.step (σ1 := σ1) hC.1 hC.2.1 hC.2.2.1 (fun p l e R s m args below meth c H locs cells slots Q la hF hRf hRl hRc hRs _ hH hlo hl kk => by
    obtain ⟨hx, hb, hml, -, -, hown, -, -, hst9, hK, hW, -, -⟩ := hF
    have h70 := hm.2.2.2.2.2
    exact run_ok (vx_runSW (As := As) (Ts := []) (bytes := M'.cc) (maxL := M'.ml) (ret := M'.rt) (hh := M'.hh) ⟨hx, hb, hml, hown, fun _ h => nomatch h⟩ (hC.met hst9)
      ⟨⟨rfl, rfl, by show d' + 1 ≤ R.frames; omega, by show 8 + (M'.ml + 11) + 100 * d' ≤ R.locals; omega, fun w hw' a' U hW' => by
          rw [hm.1] at hw'
          rw [List.mem_singleton.mp hw']
          exact word_at hW' (good_of_word rfl) (hK.good (a := args) hW hm.2.1 rfl), by rw [hm.1]; exact List.mem_cons_self⟩,
        hK.good hW hm.2.1 rfl, hK.good hW hm.2.2.1 rfl, hm.2.2.2.1, hm.sig, hK.good hW hw rfl, hK.good hW hi rfl⟩ ⟨fb_PcX, pc_of hK hW hH⟩ rfl hn hl.1 hst (by show 2 * 0 + _ ≤ 8; omega) d9 ⟨hRc, hRs⟩) hlo
      (fun H' locs' h1 h2 => kk H' locs' la h1 h2 hl)) k
theorem Lv.iret {v : Int32} {ty : FieldType} (hr : M.rt = some ty) (hn : narrow ty (.int v) = .int v) (d9 : decode M.cc pc = .ok (.ireturn, 1)) : Lv X M d pc ls [.int v] σ (.inl (some (.int v))) σ :=
  ⟨Nat.le_refl _, Nat.le_refl _, Nat.le_refl _, fun p l e R s m args below meth c H locs k0 n0 la hF _ _ _ _ _ _ _ hH hlo hl => by
    obtain ⟨hx, hb, hml, hret, hlk, hown, -, -, -, hK, hW, -, -⟩ := hF
    exact vx_ret (W.zret hx hb (by rw [hret]; exact hr) hn (fun t ht hW9 => ⟨_, rfl, rfl, by rw [ht]; exact hH⟩) hlo d9 hlk)⟩
theorem Lv.fret {v : UInt32} (hr : M.rt = some .float) (d9 : decode M.cc pc = .ok (.freturn, 1)) : Lv X M d pc ls [.float v] σ (.inl (some (.float v))) σ :=
  ⟨Nat.le_refl _, Nat.le_refl _, Nat.le_refl _, fun p l e R s m args below meth c H locs k0 n0 la hF _ _ _ _ _ _ _ hH hlo hl => by
    obtain ⟨hx, hb, hml, hret, hlk, hown, -, -, -, hK, hW, -, -⟩ := hF
    exact vx_ret (W.fret hx hb (by rw [hret]; exact hr) (fun t ht hW9 => ⟨_, rfl, rfl, by rw [ht]; exact hH⟩) hlo d9 hlk)⟩
theorem Lv.lret {v : Int64} (hr : M.rt = some .long) (d9 : decode M.cc pc = .ok (.lreturn, 1)) : Lv X M d pc ls [.long v] σ (.inl (some (.long v))) σ :=
  ⟨Nat.le_refl _, Nat.le_refl _, Nat.le_refl _, fun p l e R s m args below meth c H locs k0 n0 la hF _ _ _ _ _ _ _ hH hlo hl => by
    obtain ⟨hx, hb, hml, hret, hlk, hown, -, -, -, hK, hW, -, -⟩ := hF
    exact vx_ret (W.lret hx hb (by rw [hret]; exact hr) (fun t ht hW9 => ⟨_, rfl, rfl, by rw [ht]; exact hH⟩) hlo d9 hlk)⟩
theorem Lv.sld {i : Int32} (hin : vp_in i X.sL) (d9 : decode M.cc pc = .ok (.iaload, 1)) (k : Lv X M d (pc + 1) ls (.int (X.xs i.toNatClampNeg) :: rest) σ o τ) : Lv X M d pc ls (.int i :: va_rf (some X.sb) :: rest) σ o τ :=
  Lv.pure (fun p l e R s m args below meth c H locs cells slots Q la hF _ _ _ _ _ hH hl kk => by
    obtain ⟨hx, hb, -, -, -, -, -, -, -, hK, hW, -, -⟩ := hF
    obtain ⟨-, -, -, -, -, -, -, hX, hs, -, -⟩ := hK
    obtain ⟨scr, h1, h2, h3, h4, h5⟩ := va_X.moved hW.alike hX
    have hlt : i.toNatClampNeg < X.sL := Nat.not_le.mp fun q => hin (Or.inr q)
    exact W.iald (v := .int (X.xs i.toNatClampNeg)) hx hb (by rw [hH.2.2.2.2 _ hs]; exact h1) h2 h3 (by rw [h4]; exact hin) (h5 _ hlt) rfl rfl d9 (kk _ hl)) k
theorem Lv.slen (d9 : decode M.cc pc = .ok (.arraylength, 1)) (k : Lv X M d (pc + 1) ls (.int (Int32.ofNat X.sL) :: rest) σ o τ) : Lv X M d pc ls (va_rf (some X.sb) :: rest) σ o τ :=
  Lv.pure (fun p l e R s m args below meth c H locs cells slots Q la hF _ _ _ _ _ hH hl kk => by
    obtain ⟨hx, hb, -, -, -, -, -, -, -, hK, hW, -, -⟩ := hF
    obtain ⟨-, -, -, -, -, -, -, hX, hs, -, -⟩ := hK
    obtain ⟨scr, h1, h2, h3, h4, h5⟩ := va_X.moved hW.alike hX
    exact W.alen (n := Int32.ofNat X.sL) hx hb (by rw [hH.2.2.2.2 _ hs]; exact h1) h2 (by rw [h4] <;> rfl) rfl rfl d9 (kk _ hl)) k
theorem Lv.fgt {ls' : List (Option Value)} {st : List Value} (h : lsub ls' ls) (k : Lv X M d pc ls' st σ o τ) : Lv X M d pc ls st σ o τ := k.forget (lsub.mono h)
end LPURE
theorem Ct.ofL {X : Cx} {M : Mt} {d : Nat} {av : List Value} {σ τ : Hp} {o : Rs} (hp : plainName M.y.cls = true) (hh : M.hh = []) (hlen : av.length ≤ M.ml) (hcat : ∀ v ∈ av, v.category = 1) (k : Lv X M d 0 (enL M.ml av) [] σ o τ) : Ct X M d av σ o τ :=
  ⟨k.1, k.2.1, k.2.2.1, fun l hl => by
    refine vx_ofW (cc := M.cc) (maxL := M.ml) (ret := M.rt) (ws' := []) hp (by unfold Mt.wd; rw [hh]) ?_
    intro p e s m args below meth c s₁ B hml htab hv
    obtain ⟨rfl, hK, hW, hH⟩ := hv
    have h0 : ∀ n : Nat, n - n = 0 := fun n => Nat.sub_self n
    have hnil : c.exceptionTable.toList = tableOf M.hh := by
      rw [hh]
      exact List.eq_nil_iff_forall_not_mem.mpr fun x hx => htab x hx
    have g := k.2.2.2 p l e (headSpec [M.wd] ({ frames := d, cells := τ.cl - σ.cl, slots := τ.sl - σ.sl, locals := 100 * d })).room s m av.toArray below meth c s.heap [] σ.cl σ.sl _
      ⟨B.exec, B.bytes, hml, B.returns, B.notSynchronized, findClass_of_methodNamed B.named, (name_of_methodNamed B.named B.method).1, hnil, hl, hK, hW, by rw [hH.1]; exact hH.2.1, hH.2.2.2.2⟩
      (Nat.le_refl _) (Nat.le_refl _) (Nat.le_refl _) (Nat.le_refl _) (Nat.le_refl _) (Nat.le_refl _) (by rw [hH.1]; exact Nat.le_refl _) hH (fun _ h => nomatch h) (Lk.of (LsOk.entry hcat hlen))
    rw [h0, h0] at g
    rw [lg_entry_eq]
    exact g⟩

section LIRULES
variable {X : Cx} {σ : Hp} {M : Mt} {d pc : Nat} {ls : List (Option Value)} {rest : List Value} {o : Rs} {τ : Hp}
theorem Li.add {a b : Int} (d9 : decode M.cc pc = .ok (.iadd, 1)) (k : Lv X M d (pc + 1) ls (.int (i32 (a + b)) :: rest) σ o τ) : Lv X M d pc ls (.int (i32 b) :: .int (i32 a) :: rest) σ o τ := Lv.iadd d9 (by rw [i32_add]; exact k)
theorem Li.sub {a b : Int} (d9 : decode M.cc pc = .ok (.isub, 1)) (k : Lv X M d (pc + 1) ls (.int (i32 (a - b)) :: rest) σ o τ) : Lv X M d pc ls (.int (i32 b) :: .int (i32 a) :: rest) σ o τ := Lv.isub d9 (by rw [i32_sub]; exact k)
theorem Li.mul {a b : Int} (d9 : decode M.cc pc = .ok (.imul, 1)) (k : Lv X M d (pc + 1) ls (.int (i32 (a * b)) :: rest) σ o τ) : Lv X M d pc ls (.int (i32 b) :: .int (i32 a) :: rest) σ o τ := Lv.imul d9 (by rw [i32_mul]; exact k)
theorem Li.const {n : Int} (d9 : decode M.cc pc = .ok (.iconst n, 1)) (k : Lv X M d (pc + 1) ls (.int (i32 n) :: rest) σ o τ) : Lv X M d pc ls rest σ o τ := Lv.iconst d9 rfl k
theorem Li.inc {i : Nat} {n a : Int} (d9 : decode M.cc pc = .ok (.iinc i n, 3)) (hx : ls[i]? = some (some (.int (i32 a)))) (hn : i < M.ml) (hz : isL (ls[i - 1]?) = false) (k : Lv X M d (pc + 3) (ls.set i (some (.int (i32 (a + n))))) rest σ o τ) : Lv X M d pc ls rest σ o τ := Lv.iinc d9 hx (i32_add a n) hn hz k
theorem Li.icmp_eq_t {a b : Int} {off : Int} {tgt : Nat} (d9 : decode M.cc pc = .ok (.if_icmp .eq off, 3)) (ht : (pc : Int) + off = (tgt : Int)) (ha : R32 a) (hb : R32 b) (hc : a = b) (k : Lv X M d tgt ls rest σ o τ) : Lv X M d pc ls (.int (i32 b) :: .int (i32 a) :: rest) σ o τ := Lv.icmp_eq_t d9 ht ((i32_eq ha hb).mpr hc) k
theorem Li.icmp_eq_f {a b : Int} {off : Int} {tgt : Nat} (d9 : decode M.cc pc = .ok (.if_icmp .eq off, 3)) (ht : (pc : Int) + off = (tgt : Int)) (ha : R32 a) (hb : R32 b) (hc : ¬ (a = b)) (k : Lv X M d (pc + 3) ls rest σ o τ) : Lv X M d pc ls (.int (i32 b) :: .int (i32 a) :: rest) σ o τ := Lv.icmp_eq_f d9 ht (fun h => hc ((i32_eq ha hb).mp h)) k
theorem Li.if_eq_t {a : Int} {off : Int} {tgt : Nat} (d9 : decode M.cc pc = .ok (.ifCond .eq off, 3)) (ht : (pc : Int) + off = (tgt : Int)) (ha : R32 a) (hc : a = 0) (k : Lv X M d tgt ls rest σ o τ) : Lv X M d pc ls (.int (i32 a) :: rest) σ o τ := Lv.if_eq_t d9 ht ((i32_eq ha R32_0).mpr hc) k
theorem Li.if_eq_f {a : Int} {off : Int} {tgt : Nat} (d9 : decode M.cc pc = .ok (.ifCond .eq off, 3)) (ht : (pc : Int) + off = (tgt : Int)) (ha : R32 a) (hc : ¬ (a = 0)) (k : Lv X M d (pc + 3) ls rest σ o τ) : Lv X M d pc ls (.int (i32 a) :: rest) σ o τ := Lv.if_eq_f d9 ht (fun h => hc ((i32_eq ha R32_0).mp h)) k
theorem Li.icmp_ne_t {a b : Int} {off : Int} {tgt : Nat} (d9 : decode M.cc pc = .ok (.if_icmp .ne off, 3)) (ht : (pc : Int) + off = (tgt : Int)) (ha : R32 a) (hb : R32 b) (hc : ¬ a = b) (k : Lv X M d tgt ls rest σ o τ) : Lv X M d pc ls (.int (i32 b) :: .int (i32 a) :: rest) σ o τ := Lv.icmp_ne_t d9 ht ((not_congr (i32_eq ha hb)).mpr hc) k
theorem Li.icmp_ne_f {a b : Int} {off : Int} {tgt : Nat} (d9 : decode M.cc pc = .ok (.if_icmp .ne off, 3)) (ht : (pc : Int) + off = (tgt : Int)) (ha : R32 a) (hb : R32 b) (hc : ¬ (¬ a = b)) (k : Lv X M d (pc + 3) ls rest σ o τ) : Lv X M d pc ls (.int (i32 b) :: .int (i32 a) :: rest) σ o τ := Lv.icmp_ne_f d9 ht (fun h => hc ((not_congr (i32_eq ha hb)).mp h)) k
theorem Li.if_ne_t {a : Int} {off : Int} {tgt : Nat} (d9 : decode M.cc pc = .ok (.ifCond .ne off, 3)) (ht : (pc : Int) + off = (tgt : Int)) (ha : R32 a) (hc : ¬ a = 0) (k : Lv X M d tgt ls rest σ o τ) : Lv X M d pc ls (.int (i32 a) :: rest) σ o τ := Lv.if_ne_t d9 ht ((not_congr (i32_eq ha R32_0)).mpr hc) k
theorem Li.if_ne_f {a : Int} {off : Int} {tgt : Nat} (d9 : decode M.cc pc = .ok (.ifCond .ne off, 3)) (ht : (pc : Int) + off = (tgt : Int)) (ha : R32 a) (hc : ¬ (¬ a = 0)) (k : Lv X M d (pc + 3) ls rest σ o τ) : Lv X M d pc ls (.int (i32 a) :: rest) σ o τ := Lv.if_ne_f d9 ht (fun h => hc ((not_congr (i32_eq ha R32_0)).mp h)) k
theorem Li.icmp_lt_t {a b : Int} {off : Int} {tgt : Nat} (d9 : decode M.cc pc = .ok (.if_icmp .lt off, 3)) (ht : (pc : Int) + off = (tgt : Int)) (ha : R32 a) (hb : R32 b) (hc : a < b) (k : Lv X M d tgt ls rest σ o τ) : Lv X M d pc ls (.int (i32 b) :: .int (i32 a) :: rest) σ o τ := Lv.icmp_lt_t d9 ht ((i32_lt ha hb).mpr hc) k
theorem Li.icmp_lt_f {a b : Int} {off : Int} {tgt : Nat} (d9 : decode M.cc pc = .ok (.if_icmp .lt off, 3)) (ht : (pc : Int) + off = (tgt : Int)) (ha : R32 a) (hb : R32 b) (hc : ¬ (a < b)) (k : Lv X M d (pc + 3) ls rest σ o τ) : Lv X M d pc ls (.int (i32 b) :: .int (i32 a) :: rest) σ o τ := Lv.icmp_lt_f d9 ht (fun h => hc ((i32_lt ha hb).mp h)) k
theorem Li.if_lt_t {a : Int} {off : Int} {tgt : Nat} (d9 : decode M.cc pc = .ok (.ifCond .lt off, 3)) (ht : (pc : Int) + off = (tgt : Int)) (ha : R32 a) (hc : a < 0) (k : Lv X M d tgt ls rest σ o τ) : Lv X M d pc ls (.int (i32 a) :: rest) σ o τ := Lv.if_lt_t d9 ht ((i32_lt ha R32_0).mpr hc) k
theorem Li.if_lt_f {a : Int} {off : Int} {tgt : Nat} (d9 : decode M.cc pc = .ok (.ifCond .lt off, 3)) (ht : (pc : Int) + off = (tgt : Int)) (ha : R32 a) (hc : ¬ (a < 0)) (k : Lv X M d (pc + 3) ls rest σ o τ) : Lv X M d pc ls (.int (i32 a) :: rest) σ o τ := Lv.if_lt_f d9 ht (fun h => hc ((i32_lt ha R32_0).mp h)) k
theorem Li.icmp_ge_t {a b : Int} {off : Int} {tgt : Nat} (d9 : decode M.cc pc = .ok (.if_icmp .ge off, 3)) (ht : (pc : Int) + off = (tgt : Int)) (ha : R32 a) (hb : R32 b) (hc : b ≤ a) (k : Lv X M d tgt ls rest σ o τ) : Lv X M d pc ls (.int (i32 b) :: .int (i32 a) :: rest) σ o τ := Lv.icmp_ge_t d9 ht ((i32_le hb ha).mpr hc) k
theorem Li.icmp_ge_f {a b : Int} {off : Int} {tgt : Nat} (d9 : decode M.cc pc = .ok (.if_icmp .ge off, 3)) (ht : (pc : Int) + off = (tgt : Int)) (ha : R32 a) (hb : R32 b) (hc : ¬ (b ≤ a)) (k : Lv X M d (pc + 3) ls rest σ o τ) : Lv X M d pc ls (.int (i32 b) :: .int (i32 a) :: rest) σ o τ := Lv.icmp_ge_f d9 ht (fun h => hc ((i32_le hb ha).mp h)) k
theorem Li.if_ge_t {a : Int} {off : Int} {tgt : Nat} (d9 : decode M.cc pc = .ok (.ifCond .ge off, 3)) (ht : (pc : Int) + off = (tgt : Int)) (ha : R32 a) (hc : 0 ≤ a) (k : Lv X M d tgt ls rest σ o τ) : Lv X M d pc ls (.int (i32 a) :: rest) σ o τ := Lv.if_ge_t d9 ht ((i32_le R32_0 ha).mpr hc) k
theorem Li.if_ge_f {a : Int} {off : Int} {tgt : Nat} (d9 : decode M.cc pc = .ok (.ifCond .ge off, 3)) (ht : (pc : Int) + off = (tgt : Int)) (ha : R32 a) (hc : ¬ (0 ≤ a)) (k : Lv X M d (pc + 3) ls rest σ o τ) : Lv X M d pc ls (.int (i32 a) :: rest) σ o τ := Lv.if_ge_f d9 ht (fun h => hc ((i32_le R32_0 ha).mp h)) k
theorem Li.icmp_gt_t {a b : Int} {off : Int} {tgt : Nat} (d9 : decode M.cc pc = .ok (.if_icmp .gt off, 3)) (ht : (pc : Int) + off = (tgt : Int)) (ha : R32 a) (hb : R32 b) (hc : b < a) (k : Lv X M d tgt ls rest σ o τ) : Lv X M d pc ls (.int (i32 b) :: .int (i32 a) :: rest) σ o τ := Lv.icmp_gt_t d9 ht ((i32_lt hb ha).mpr hc) k
theorem Li.icmp_gt_f {a b : Int} {off : Int} {tgt : Nat} (d9 : decode M.cc pc = .ok (.if_icmp .gt off, 3)) (ht : (pc : Int) + off = (tgt : Int)) (ha : R32 a) (hb : R32 b) (hc : ¬ (b < a)) (k : Lv X M d (pc + 3) ls rest σ o τ) : Lv X M d pc ls (.int (i32 b) :: .int (i32 a) :: rest) σ o τ := Lv.icmp_gt_f d9 ht (fun h => hc ((i32_lt hb ha).mp h)) k
theorem Li.if_gt_t {a : Int} {off : Int} {tgt : Nat} (d9 : decode M.cc pc = .ok (.ifCond .gt off, 3)) (ht : (pc : Int) + off = (tgt : Int)) (ha : R32 a) (hc : 0 < a) (k : Lv X M d tgt ls rest σ o τ) : Lv X M d pc ls (.int (i32 a) :: rest) σ o τ := Lv.if_gt_t d9 ht ((i32_lt R32_0 ha).mpr hc) k
theorem Li.if_gt_f {a : Int} {off : Int} {tgt : Nat} (d9 : decode M.cc pc = .ok (.ifCond .gt off, 3)) (ht : (pc : Int) + off = (tgt : Int)) (ha : R32 a) (hc : ¬ (0 < a)) (k : Lv X M d (pc + 3) ls rest σ o τ) : Lv X M d pc ls (.int (i32 a) :: rest) σ o τ := Lv.if_gt_f d9 ht (fun h => hc ((i32_lt R32_0 ha).mp h)) k
theorem Li.icmp_le_t {a b : Int} {off : Int} {tgt : Nat} (d9 : decode M.cc pc = .ok (.if_icmp .le off, 3)) (ht : (pc : Int) + off = (tgt : Int)) (ha : R32 a) (hb : R32 b) (hc : a ≤ b) (k : Lv X M d tgt ls rest σ o τ) : Lv X M d pc ls (.int (i32 b) :: .int (i32 a) :: rest) σ o τ := Lv.icmp_le_t d9 ht ((i32_le ha hb).mpr hc) k
theorem Li.icmp_le_f {a b : Int} {off : Int} {tgt : Nat} (d9 : decode M.cc pc = .ok (.if_icmp .le off, 3)) (ht : (pc : Int) + off = (tgt : Int)) (ha : R32 a) (hb : R32 b) (hc : ¬ (a ≤ b)) (k : Lv X M d (pc + 3) ls rest σ o τ) : Lv X M d pc ls (.int (i32 b) :: .int (i32 a) :: rest) σ o τ := Lv.icmp_le_f d9 ht (fun h => hc ((i32_le ha hb).mp h)) k
theorem Li.if_le_t {a : Int} {off : Int} {tgt : Nat} (d9 : decode M.cc pc = .ok (.ifCond .le off, 3)) (ht : (pc : Int) + off = (tgt : Int)) (ha : R32 a) (hc : a ≤ 0) (k : Lv X M d tgt ls rest σ o τ) : Lv X M d pc ls (.int (i32 a) :: rest) σ o τ := Lv.if_le_t d9 ht ((i32_le ha R32_0).mpr hc) k
theorem Li.if_le_f {a : Int} {off : Int} {tgt : Nat} (d9 : decode M.cc pc = .ok (.ifCond .le off, 3)) (ht : (pc : Int) + off = (tgt : Int)) (ha : R32 a) (hc : ¬ (a ≤ 0)) (k : Lv X M d (pc + 3) ls rest σ o τ) : Lv X M d pc ls (.int (i32 a) :: rest) σ o τ := Lv.if_le_f d9 ht (fun h => hc ((i32_le ha R32_0).mp h)) k
end LIRULES
