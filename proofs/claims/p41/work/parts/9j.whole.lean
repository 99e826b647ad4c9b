/-! THE CLAIM OUT OF ONE WALK OF THE LAW'S BODY. Your part is whole_start (and what it stands on); all else here is the same for every law, but numbers. -/
def R_law : String := "HopyardLaw"
def lw_P (b : Addr) (xs : List Int32) (args : Array Value) (s : State) : Prop := args = #[.ref b] ∧ s.IntsAt b xs ∧ xs.length ≤ 260 ∧ (Jvm.Cond.and given_1 narrow_1).before args s = true
/-- what a walk over the start with the record d0 says of its end, said of the start itself -/
theorem lw_closed {s t : State} {o : Outcome} {d0 : Drawn} {L : List Loc} {k n : Nat} (hd0 : s.drawn.sameBut d0 lw_cs) (hv : ∃ v, o = .returned v) (hW : (s.setDrawn d0).WarmedH t.vm) (hs : (s.setDrawn d0).sameButNew ({ t with vm := s.vm } : State) L k n) : State.butDraws s t lw_cs (fun t1 => Framed s o t1 L k n) := by
  have h2 : t.drawn = d0 := congrArg State.drawn hs.1
  refine ⟨⟨hv, hW, State.sameButNew.setDrawn hs s.drawn⟩, ?_, by decide⟩
  rw [h2]
  exact hd0
def lw_Q (_ : Array Value) (s : State) (o : Outcome) (t : State) : Prop := o = .returned (some (.int 1)) ∧ State.butDraws s t lw_cs (fun t1 => Framed s o t1 [] 1198993 5504488)
def lw_Z (below : List Frame) (a : Array Value) (s : State) : State → Prop := fun t => ∃ o, t.status = .running ∧ Ended t below o ∧ lw_Q a s o t
/-- the law's own end, with 1 on the stack, nothing written that was there before, its room as the claim has it; d0: the record of draws at this point (at the entry s.drawn: begin with 'refine W.base ?_' and 'have hd0 := Drawn.sameBut.refl s.drawn lw_cs') -/
theorem lw_ret {p : Program} {l : Launch} {e : Env} {s : State} {m : MethodId} {below : List Frame} {meth : Method} {c : Code} {b : Nat} {d0 : Drawn} (hd0 : s.drawn.sameBut d0 lw_cs) (hx : p.tables.exec = Jvm.exec) (hb : c.code = code) (hr : meth.sig.returnType = ret) (hlocks : meth.locks = false) {pc : Nat} {H : Heap} {ls : Array Slot} (hdg : decode code pc = .ok (.ireturn, 1)) : W p l e room_1 (s.setDrawn d0) m #[Value.ref b] below meth c H [] 1198993 5504488 (lw_Z below #[Value.ref b] s) (F0 m pc ls [.int 1]) := by
  intro T hT X
  obtain ⟨fs, hret, hrun, hended, hW, hframe⟩ := X.leave (v := some (.int 1)) (hlocks := hlocks) (fun h => by rw [hr] at h; cases h)
  have hmeth' : T.vm.method? m = some meth := X.method'
  refine ⟨T.setFrames fs, ?_, .returned (some (.int 1)), hrun, hended, rfl, lw_closed hd0 ⟨_, rfl⟩ hW hframe⟩
  jvm_step X.here [X.here.top, hx, hb, hdg, hmeth', hr, ret, narrow_b1]
  (try refine ⟨rfl, ?_⟩); (try refine ⟨rfl, ?_⟩)
  first | (intro acts; rw [hret _ acts rfl rfl rfl]) | rw [hret _ _ rfl rfl rfl]
  exact Steps.refl _
/-- what holds at the law's entry: the machine, the code, the tables' words (any of lw_tbl by 'hts w (by decide +kernel)'), the script of L ints xs at the cell b, what the Statement gives of the start (any of its parts by flat_of_before) -/
def lw_At (p : Program) (s : State) (m : MethodId) (meth : Method) (c : Code) (b L : Nat) (xs : Nat → Int32) : Prop :=
  p.tables.exec = Jvm.exec ∧ c.code = code ∧ meth.sig.returnType = ret ∧ c.maxLocals = 22 ∧ s.vm.findClass R_law = some m.cls ∧ (∀ w ∈ lw_tbl, w.before #[Value.ref b] s = true) ∧ va_X b L xs s s.heap ∧ b < s.heap.size ∧ meth.locks = false ∧ (Jvm.Cond.and given_1 narrow_1).before #[Value.ref b] s = true ∧ meth.name = "law" ∧ c.exceptionTable.toList = []
theorem sbn_forget {s s' : State} {L : List Loc} {k n k' n' : Nat} (h : s.sameButNew s' L k n) (hf : ∀ q ∈ L, s.heap.size ≤ q.base) (hk : k ≤ k') (hn : n ≤ n') : s.sameButNew s' [] k' n' := by
  obtain ⟨h1, h2, h3, h4, h5, h6⟩ := h
  refine ⟨h1, h2, Nat.le_trans h3 (Nat.add_le_add_left hk _), h4, Nat.le_trans h5 hn, fun a c hc => ?_⟩
  obtain ⟨c', q1, q2, q3, q4⟩ := h6 a c hc
  exact ⟨c', q1, q2, q3, fun i _ => q4 i (fun hm => absurd (hf _ hm) (Nat.not_le.mpr (Array.getElem?_eq_some_iff.mp hc).1))⟩
def hp0 (X : Cx) : Hp := (fun _ => 0, fun _ => 0, fun _ _ => 0, fun _ _ => none, fun _ _ => 0, fun _ _ => 0, X.s0.heap.size, 0, 0)
theorem hs0 (X : Cx) : HS X (hp0 X) X.s0.heap := by
  refine ⟨rfl, Nat.le_refl _, fun a h => absurd rfl h, fun a => ⟨fun ci r h _ => ?_, fun h => ?_, fun h => ?_, fun h => ?_, fun h => ?_, fun h => ?_⟩, fun _ _ => rfl⟩
  · have h : (0 : Nat) = ci + 1 := h
    omega
  · exact absurd (show (0 : Nat) = 20 from h) (by decide)
  · exact absurd (show (0 : Nat) = 21 from h) (by decide)
  · exact absurd (show (0 : Nat) = 22 from h) (by decide)
  · exact absurd (show (0 : Nat) = 23 from h) (by decide)
  · exact absurd (show (0 : Nat) = 24 from h) (by decide)
/-- from the entry, for every script of at most 260 ints, the law comes to its end with 1 -/
theorem whole_start {p : Program} {e : Env} {s : State} {m : MethodId} {below : List Frame} {meth : Method} {c : Code} (l : Launch) (hflags : l.flags = flags0) {b L : Nat} {xs : Nat → Int32} (hL : L ≤ 260) (C0 : lw_At p s m meth c b L xs) : W p l e room_1 s m #[Value.ref b] below meth c s.heap [] 0 0 (lw_Z below #[Value.ref b] s) (entryFrame m ([Value.ref b] : List Value).toArray 22) := by
  obtain ⟨hx, hb, hr, hml, hown, hts, hX, hbl, hlocks, hgv, hnm, htab⟩ := C0
  obtain ⟨X, hK, hN, e0, eb, eL, ht⟩ := start_x hts hX hbl (flat_of_before _ hgv)
  subst e0
  subst eb
  subst eL
  have hst : l.stackTraces = false := by
    unfold Launch.stackTraces
    rw [hflags]
    decide +kernel
  obtain ⟨τ, hEv, hc, hs⟩ := law_all (X := X) (σ := hp0 X) hN (Nat.le_trans hL (by decide)) ht rfl (fun _ => rfl) rfl rfl
  have hc2 : τ.cl - 0 ≤ 1198993 := Nat.le_trans (Nat.sub_le _ _) (Nat.le_trans hc (Nat.le_of_ble_eq_true rfl))
  have hs2 : τ.sl - 0 ≤ 5504488 := Nat.le_trans (Nat.sub_le _ _) (Nat.le_trans hs (Nat.le_of_ble_eq_true rfl))
  have g := hEv.2.2.2 p l e room_1 X.s0 m #[Value.ref X.sb] below meth c X.s0.heap [] 0 0 _
    ⟨hx, hb, hml, hr, hlocks, hown, hnm, htab, hst, hK, State.WarmedH.refl _, Nat.le_refl _, fun _ _ => rfl⟩
    (Nat.le_of_ble_eq_true rfl) (Nat.le_of_ble_eq_true rfl) (Nat.le_refl _) (Nat.le_refl _) hc2 hs2 (Nat.le_refl _) (hs0 X) (fun _ h => nomatch h) (Lk.of (LsOk.entry (av := [va_rf (some X.sb)]) (n := 22) (by simp [Value.category, va_rf]) (Nat.le_of_ble_eq_true rfl)))
  rw [lg_entry_eq]
  intro T hT Z
  obtain ⟨t, h1, o, h2, h3, h4⟩ := g T hT Z
  refine ⟨t, h1, o, h2, h3, ?_⟩
  rcases h4 with ⟨⟨v, hv, ho, -⟩, Lc, ⟨-, f2, f3⟩, hfree⟩ | ⟨q, hq, E, ce, L2, ⟨hv, -⟩, -⟩
  · cases hv
    exact ⟨ho, lw_closed (d0 := X.s0.drawn) (Drawn.sameBut.refl _ _) ⟨_, ho⟩ f2 (sbn_forget f3 hfree hc2 hs2)⟩
  · cases hv
