/-! calls by contract -/
theorem fb_PcX {X : Cx} {av : List Value} {σ : Hp} : FrameBlind (PcX X av σ) := fun _ _ _ _ h => h
section RUN
variable {p : Program} {l : Launch} {e : Env} {R : Room} {s : State} {m : MethodId} {args : Array Value} {below : List Frame} {meth : Method} {c : Code} {H : Heap} {locs : List Loc} {cells slots mc ms : Nat} {Q : State → Prop}
variable {X : Cx} {σ1 : Hp} {pc : Nat} {la : Array Slot} {st rest : List Value} {a : Array Value}
theorem run_ok {v : Option Value} (hr : va_Run p l e R s m args below meth c H locs cells slots mc ms (F0 m pc la st) rest (QcX X (.inl v) σ1 a) (fun q => X.b0 ≤ q)) (hlo : ∀ q ∈ locs, X.b0 ≤ q.base)
    (kk : ∀ (H' : Heap) (locs' : List Loc), HS X σ1 H' → (∀ q ∈ locs', X.b0 ≤ q.base) → W p l e R s m args below meth c H' locs' (cells + mc) (slots + ms) Q (F0 m (pc + 3) la (v.toList ++ rest))) : W p l e R s m args below meth c H locs cells slots Q (F0 m pc la st) := by
  intro T hT Y
  obtain ⟨v', st₀, t, T', L, h0, X', hL, e1, e2, ⟨v2, ho, hv2, hHS⟩, st⟩ := hr T hT Y
  cases ho
  cases hv2
  obtain ⟨t2, a1, b1⟩ := kk T'.heap (locs ++ L) (by rw [e1]; exact hHS) (fun q hq => (List.mem_append.mp hq).elim (hlo q) (hL q)) T' rfl X'
  exact ⟨t2, st t2 a1, b1⟩
theorem run_ok5 {v : Option Value} (hr : va_Run5 p l e R s m args below meth c H locs cells slots mc ms (F0 m pc la st) rest (QcX X (.inl v) σ1 a) (fun q => X.b0 ≤ q)) (hlo : ∀ q ∈ locs, X.b0 ≤ q.base)
    (kk : ∀ (H' : Heap) (locs' : List Loc), HS X σ1 H' → (∀ q ∈ locs', X.b0 ≤ q.base) → W p l e R s m args below meth c H' locs' (cells + mc) (slots + ms) Q (F0 m (pc + 5) la (v.toList ++ rest))) : W p l e R s m args below meth c H locs cells slots Q (F0 m pc la st) := by
  intro T hT Y
  obtain ⟨v', st₀, t, T', L, h0, X', hL, e1, e2, ⟨v2, ho, hv2, hHS⟩, st⟩ := hr T hT Y
  cases ho
  cases hv2
  obtain ⟨t2, a1, b1⟩ := kk T'.heap (locs ++ L) (by rw [e1]; exact hHS) (fun q hq => (List.mem_append.mp hq).elim (hlo q) (hL q)) T' rfl X'
  exact ⟨t2, st t2 a1, b1⟩
theorem run_thr {E : String} (hr : vx_Run p l e R s m args below meth c H locs cells slots mc ms (F0 m pc la st) rest (QcX X (.inr E) σ1 a) (XcX X (.inr E) σ1) (fun q => X.b0 ≤ q)) (hlo : ∀ q ∈ locs, X.b0 ≤ q.base)
    (kk : ∀ (H' : Heap) (locs' : List Loc) (q : Addr) (ce : Cell), HS X σ1 H' → (∀ q ∈ locs', X.b0 ≤ q.base) → H'[q]? = some ce → ce.vm = .none → s.vm.findClass E = some ce.cls → vx_W p l e R s m args below meth c H' locs' (cells + mc) (slots + ms) Q (F0 m pc la rest) q) : W p l e R s m args below meth c H locs cells slots Q (F0 m pc la st) := by
  intro T hT Y
  rcases hr T hT Y with ⟨v', st₀, t, T', L, h0, X', hL, e1, e2, ⟨v2, ho, hv2, hHS⟩, st⟩ | ⟨q, st₀, t, T', L, E', ce, h0, X', hL, e1, e2, ⟨ho, hHS⟩, hce, hcv, hcl, st⟩
  · cases ho
  · cases ho
    obtain ⟨t2, a1, b1⟩ := kk T'.heap (locs ++ L) q ce (by rw [e1]; exact hHS) (fun q hq => (List.mem_append.mp hq).elim (hlo q) (hL q)) (by rw [e1]; exact hce) hcv hcl T' rfl X'
    exact ⟨t2, st.trans a1, b1⟩
end RUN
theorem met_of {l : Launch} {y : MethodName} {ws : List Cond} {rm : Room} {Pc : Array Value → State → Prop} {Qc : Array Value → State → Outcome → State → Prop} {XC : String → State → State → Prop} {mc ms : Nat} {free : Addr → Prop} (h : vx_Met l y ws rm Pc Qc XC mc ms free) (hx : ∀ E st t, ¬ XC E st t) : Met l y ws rm Pc Qc mc ms free := by
  intro p e ha hc hk s m args below hf happ hp hK
  obtain ⟨n, o, h1, h2, h3, h4⟩ := h p e ha hc hk s m args below hf happ hp hK
  refine ⟨n, o, h1, h2, h3, ?_⟩
  rcases h4 with h4 | ⟨q, -, E, ce, L, hXC, -⟩
  · exact h4
  · exact absurd hXC (hx _ _ _)
theorem Ct.met {X : Cx} {M : Mt} {d : Nat} {av : List Value} {σ σ1 : Hp} {v : Option Value} (h : Ct X M d av σ (.inl v) σ1) {l : Launch} (hl : l.stackTraces = false) :
    Met l M.y [M.wd] ({ frames := d, cells := σ1.cl - σ.cl, slots := σ1.sl - σ.sl, locals := 100 * d }) (PcX X av σ) (QcX X (.inl v) σ1) (σ1.cl - σ.cl) (σ1.sl - σ.sl) (fun q => X.b0 ≤ q) :=
  met_of (h.2.2.2 l hl) (fun _ _ _ h => nomatch h.1)
/-- the callee's code, and what a call asks of its names -/
def cokD (M' : Mt) (n : Nat) : Prop := M'.hh = [] ∧ Cond.code M'.y M'.cc M'.ml M'.rt ∈ lw_tbl ∧ Cond.initialized M'.y.cls ∈ lw_tbl ∧ (M'.y.cls ≠ "java/lang/invoke/MethodHandle" ∧ M'.y.cls ≠ "java/lang/invoke/VarHandle") ∧ (parseMethodDescriptor M'.y.desc).map (fun d => d.parameters.length) = some n ∧ M'.ml ≤ 70
theorem cokD.wd {M' : Mt} {n : Nat} (h : cokD M' n) : M'.wd = .code M'.y M'.cc M'.ml M'.rt := by
  unfold Mt.wd
  rw [h.1]
theorem cokD.sig {M' : Mt} {n : Nat} (h : cokD M' n) : ∀ sig, parseMethodDescriptor M'.y.desc = some sig → n = sig.parameters.length := by
  intro sig hs
  have h2 := h.2.2.2.2.1
  rw [hs] at h2
  exact (Option.some.inj h2).symm
section CALL
variable {X : Cx} {M : Mt} {d pc : Nat} {ls : List (Option Value)} {rest : List Value} {σ τ : Hp} {o : Rs}
theorem cb_of {R : Room} {s : State} {args : Array Value} {d' ix n : Nat} {M' : Mt} {σ1 : Hp} (hK : K0 X) (hW : X.s0.WarmedH s.vm) (hm : cokD M' n) (hw : Cond.methodLink M.y.cls ix M'.y ∈ lw_tbl) (hd : d' + 1 ≤ d) (hRf : d ≤ R.frames) (hRl : 100 * d ≤ R.locals) :
    CallB R s args M.y.cls ix M'.y M'.cc M'.ml M'.rt [M'.wd] ({ frames := d', cells := σ1.cl - σ.cl, slots := σ1.sl - σ.sl, locals := 100 * d' } : Room) (σ1.cl - σ.cl) (σ1.sl - σ.sl) n := by
  have h70 := hm.2.2.2.2.2
  refine ⟨rfl, rfl, by show d' + 1 ≤ R.frames; omega, by show 8 + (M'.ml + 11) + 100 * d' ≤ R.locals; omega, fun w hw' a' U hW' => ?_, by rw [hm.wd]; exact List.mem_cons_self, hK.good hW hm.2.1 rfl, hK.good hW hm.2.2.1 rfl, hm.2.2.2.1, hm.sig, hK.good hW hw rfl⟩
  rw [hm.wd] at hw'
  rw [List.mem_singleton.mp hw']
  exact word_at hW' (good_of_word rfl) (hK.good (a := args) hW hm.2.1 rfl)
theorem pc_of {s : State} {av : List Value} {H : Heap} (hK : K0 X) (hW : X.s0.WarmedH s.vm) (hH : HS X σ H) : ∀ U : State, U.heap = H → s.WarmedH U.vm → PcX X av σ av.toArray U := fun U hU hW' => ⟨rfl, hK, State.WarmedH.trans hW hW', by rw [hU]; exact hH⟩
/-- invokevirtual, private ones too -/
theorem Ev.callV {ci ix b n d' : Nat} {C : String} {T : u_T} {N : Nat} {M' : Mt} {As : List Value} {st : List Value} {v : Option Value} {σ1 : Hp} (hm : cokD M' n) (hr : vwCl[ci]? = some (C, T, N)) (hkd : σ.kd b = ci + 1) (hw : Cond.methodLink M.y.cls ix M'.y ∈ lw_tbl) (hi : Cond.instanceMethod M'.y ∈ lw_tbl) (hs : Cond.selects C M'.y M'.y ∈ lw_tbl)
    (d9 : decode M.cc pc = .ok (.invokevirtual ix, 3)) (hst : st = As.reverse ++ va_rf (some b) :: rest) (hn : As.length = n) (hsm : (rest.map fun v => v.category).sum ≤ 8) (hd : d' + 1 ≤ d) (hC : Ct X M' d' (va_rf (some b) :: As) σ (.inl v) σ1) (k : Ev X M d (pc + 3) ls (v.toList ++ rest) σ1 o τ) : Ev X M d pc ls st σ o τ :=
  Ev.step (σ1 := σ1) hC.1 hC.2.1 hC.2.2.1 (fun p l e R s m args below meth c H locs cells slots Q la hF hRf hRl hRc hRs _ hH hlo hl kk => by
    obtain ⟨hx, hb, hml, -, -, hown, -, -, hst9, hK, hW, -, -⟩ := hF
    exact run_ok (va_runV (As := As) (Ts := []) ⟨hx, hb, hml, hown, fun _ h => nomatch h⟩ (hC.met hst9) ⟨cb_of hK hW hm hw hd hRf hRl, hK.good hW hi rfl, hK.good hW hs rfl⟩ ⟨fb_PcX, hH.recv hK hW hkd hr, pc_of hK hW hH⟩ rfl hn hl.1 hst (by show 2 * 0 + _ ≤ 8; omega) d9 ⟨hRc, hRs⟩) hlo
      (fun H' locs' h1 h2 => kk H' locs' la h1 h2 hl)) k
/-- .. which throws, and the throw isn't caught here -/
theorem Ev.callVx {ci ix b n d' : Nat} {C : String} {T : u_T} {N : Nat} {M' : Mt} {As : List Value} {st : List Value} {E : String} {σ1 : Hp} (hm : cokD M' n) (hr : vwCl[ci]? = some (C, T, N)) (hkd : σ.kd b = ci + 1) (hw : Cond.methodLink M.y.cls ix M'.y ∈ lw_tbl) (hi : Cond.instanceMethod M'.y ∈ lw_tbl) (hs : Cond.selects C M'.y M'.y ∈ lw_tbl)
    (d9 : decode M.cc pc = .ok (.invokevirtual ix, 3)) (hst : st = As.reverse ++ va_rf (some b) :: rest) (hn : As.length = n) (hsm : (rest.map fun v => v.category).sum ≤ 8) (hd : d' + 1 ≤ d) (hh : M.hh = []) (hC : Ct X M' d' (va_rf (some b) :: As) σ (.inr E) σ1) : Ev X M d pc ls st σ (.inr E) σ1 :=
  ⟨hC.1, hC.2.1, hC.2.2.1, fun p l e R s m args below meth c H locs k0 n0 la hF hRf hRl g1 g2 g3 g4 g5 hH hlo hl => by
    obtain ⟨hx, hb, hml, -, hlk, hown, -, htab, hst9, hK, hW, -, -⟩ := hF
    have e1 := hC.1
    have e2 := hC.2.1
    refine run_thr (vx_runV (As := As) (Ts := []) ⟨hx, hb, hml, hown, fun _ h => nomatch h⟩ (hC.2.2.2 l hst9) ⟨cb_of hK hW hm hw hd hRf hRl, hK.good hW hi rfl, hK.good hW hs rfl⟩ ⟨fb_PcX, hH.recv hK hW hkd hr, pc_of hK hW hH⟩ rfl hn hl.1 hst (by show 2 * 0 + _ ≤ 8; omega) d9 ⟨by omega, by omega⟩) hlo
      (fun H' locs' q ce h1 h2 h3 h4 h5 => vx_out (fun x hx => ?_) hlk h3 h4 h5 (fun t ht _ => ⟨rfl, by rw [ht]; exact h1⟩) h2 (by omega) (by omega))
    rw [htab, hh] at hx
    exact nomatch hx⟩
/-- invokestatic -/
theorem Ev.callS {ix n d' : Nat} {M' : Mt} {As : List Value} {st : List Value} {v : Option Value} {σ1 : Hp} (hm : cokD M' n) (hw : Cond.methodLink M.y.cls ix M'.y ∈ lw_tbl) (hi : Cond.static M'.y ∈ lw_tbl)
    (d9 : decode M.cc pc = .ok (.invokestatic ix, 3)) (hst : st = As.reverse ++ rest) (hn : As.length = n) (hsm : (rest.map fun v => v.category).sum ≤ 8) (hd : d' + 1 ≤ d) (hC : Ct X M' d' As σ (.inl v) σ1) (k : Ev X M d (pc + 3) ls (v.toList ++ rest) σ1 o τ) : Ev X M d pc ls st σ o τ :=
  Ev.step (σ1 := σ1) hC.1 hC.2.1 hC.2.2.1 (fun p l e R s m args below meth c H locs cells slots Q la hF hRf hRl hRc hRs _ hH hlo hl kk => by
    obtain ⟨hx, hb, hml, -, -, hown, -, -, hst9, hK, hW, -, -⟩ := hF
    exact run_ok (va_runS (As := As) (Ts := []) ⟨hx, hb, hml, hown, fun _ h => nomatch h⟩ (hC.met hst9) ⟨cb_of hK hW hm hw hd hRf hRl, hK.good hW hi rfl⟩ ⟨fb_PcX, pc_of hK hW hH⟩ rfl hn hl.1 hst (by show 2 * 0 + _ ≤ 8; omega) d9 ⟨hRc, hRs⟩) hlo
      (fun H' locs' h1 h2 => kk H' locs' la h1 h2 hl)) k
/-- invokespecial of a constructor -/
theorem Ev.callI {ix b n d' : Nat} {M' : Mt} {As : List Value} {st : List Value} {σ1 : Hp} (hm : cokD M' n) (hrt : M'.rt = none) (hnm : M'.y.name = "<init>") (hw : Cond.methodLink M.y.cls ix M'.y ∈ lw_tbl) (hi : Cond.instanceMethod M'.y ∈ lw_tbl)
    (d9 : decode M.cc pc = .ok (.invokespecial ix, 3)) (hst : st = As.reverse ++ va_rf (some b) :: rest) (hn : As.length = n) (hsm : (rest.map fun v => v.category).sum ≤ 8) (hd : d' + 1 ≤ d) (hC : Ct X M' d' (va_rf (some b) :: As) σ (.inl none) σ1) (k : Ev X M d (pc + 3) ls rest σ1 o τ) : Ev X M d pc ls st σ o τ :=
  Ev.step (σ1 := σ1) hC.1 hC.2.1 hC.2.2.1 (fun p l e R s m args below meth c H locs cells slots Q la hF hRf hRl hRc hRs _ hH hlo hl kk => by
    obtain ⟨hx, hb, hml, -, -, hown, -, -, hst9, hK, hW, -, -⟩ := hF
    have hcb := cb_of (R := R) (args := args) (σ := σ) (σ1 := σ1) hK hW hm hw hd hRf hRl
    rw [hrt] at hcb
    exact run_ok (va_runI (As := As) (Ts := []) ⟨hx, hb, hml, hown, fun _ h => nomatch h⟩ (hC.met hst9) ⟨hcb, hnm, hK.good hW hi rfl⟩ ⟨fb_PcX, pc_of hK hW hH⟩ rfl hn hl.1 hst (by show 2 * 0 + _ ≤ 8; omega) d9 ⟨hRc, hRs⟩) hlo
      (fun H' locs' h1 h2 => kk H' locs' la h1 h2 hl)) k
theorem cn_of {R : Room} {s : State} {args : Array Value} {d' ix n : Nat} {host : String} {M' : Mt} {σ1 : Hp} (hK : K0 X) (hW : X.s0.WarmedH s.vm) (hm : cokD M' n) (hw : Cond.methodLinkNest M.y.cls ix M'.y host ∈ lw_tbl) (hd : d' + 1 ≤ d) (hRf : d ≤ R.frames) (hRl : 100 * d ≤ R.locals) :
    va_CN R s args M.y.cls ix M'.y host M'.cc M'.ml M'.rt [M'.wd] ({ frames := d', cells := σ1.cl - σ.cl, slots := σ1.sl - σ.sl, locals := 100 * d' } : Room) (σ1.cl - σ.cl) (σ1.sl - σ.sl) n := by
  have h70 := hm.2.2.2.2.2
  refine ⟨⟨rfl, rfl, by show d' + 1 ≤ R.frames; omega, by show 8 + (M'.ml + 11) + 100 * d' ≤ R.locals; omega, fun w hw' a' U hW' => ?_, by rw [hm.wd]; exact List.mem_cons_self⟩, hK.good hW hm.2.1 rfl, hK.good hW hm.2.2.1 rfl, hm.2.2.2.1, hm.sig, va_Nw.use rfl (va_Nw.warmM hW (va_Nw.of rfl (hK.1 _ hw)))⟩
  rw [hm.wd] at hw'
  rw [List.mem_singleton.mp hw']
  exact word_at hW' (good_of_word rfl) (hK.good (a := args) hW hm.2.1 rfl)
/-- a nest mate's private constructor, static method -/
theorem Ev.callIN {ix b n d' : Nat} {host : String} {M' : Mt} {As : List Value} {st : List Value} {σ1 : Hp} (hm : cokD M' n) (hrt : M'.rt = none) (hnm : M'.y.name = "<init>") (hw : Cond.methodLinkNest M.y.cls ix M'.y host ∈ lw_tbl) (hi : Cond.instanceMethod M'.y ∈ lw_tbl)
    (d9 : decode M.cc pc = .ok (.invokespecial ix, 3)) (hst : st = As.reverse ++ va_rf (some b) :: rest) (hn : As.length = n) (hsm : (rest.map fun v => v.category).sum ≤ 8) (hd : d' + 1 ≤ d) (hC : Ct X M' d' (va_rf (some b) :: As) σ (.inl none) σ1) (k : Ev X M d (pc + 3) ls rest σ1 o τ) : Ev X M d pc ls st σ o τ :=
  Ev.step (σ1 := σ1) hC.1 hC.2.1 hC.2.2.1 (fun p l e R s m args below meth c H locs cells slots Q la hF hRf hRl hRc hRs _ hH hlo hl kk => by
    obtain ⟨hx, hb, hml, -, -, hown, -, -, hst9, hK, hW, -, -⟩ := hF
    have hcb := cn_of (R := R) (args := args) (σ := σ) (σ1 := σ1) hK hW hm hw hd hRf hRl
    rw [hrt] at hcb
    exact run_ok (va_runIN (As := As) (Ts := []) ⟨hx, hb, hml, hown, fun _ h => nomatch h⟩ (hC.met hst9) ⟨hcb, hnm, hK.good hW hi rfl⟩ ⟨fb_PcX, pc_of hK hW hH⟩ rfl hn hl.1 hst (by show 2 * 0 + _ ≤ 8; omega) d9 ⟨hRc, hRs⟩) hlo
      (fun H' locs' h1 h2 => kk H' locs' la h1 h2 hl)) k
theorem Ev.callSN {ix n d' : Nat} {host : String} {M' : Mt} {As : List Value} {st : List Value} {v : Option Value} {σ1 : Hp} (hm : cokD M' n) (hw : Cond.methodLinkNest M.y.cls ix M'.y host ∈ lw_tbl) (hi : Cond.static M'.y ∈ lw_tbl)
    (d9 : decode M.cc pc = .ok (.invokestatic ix, 3)) (hst : st = As.reverse ++ rest) (hn : As.length = n) (hsm : (rest.map fun v => v.category).sum ≤ 8) (hd : d' + 1 ≤ d) (hC : Ct X M' d' As σ (.inl v) σ1) (k : Ev X M d (pc + 3) ls (v.toList ++ rest) σ1 o τ) : Ev X M d pc ls st σ o τ :=
  Ev.step (σ1 := σ1) hC.1 hC.2.1 hC.2.2.1 (fun p l e R s m args below meth c H locs cells slots Q la hF hRf hRl hRc hRs _ hH hlo hl kk => by
    obtain ⟨hx, hb, hml, -, -, hown, -, -, hst9, hK, hW, -, -⟩ := hF
    exact run_ok (va_runSN (As := As) (Ts := []) ⟨hx, hb, hml, hown, fun _ h => nomatch h⟩ (hC.met hst9) ⟨cn_of hK hW hm hw hd hRf hRl, hK.good hW hi rfl, trivial⟩ ⟨fb_PcX, pc_of hK hW hH⟩ rfl hn hl.1 hst (by show 2 * 0 + _ ≤ 8; omega) d9 ⟨hRc, hRs⟩) hlo
      (fun H' locs' h1 h2 => kk H' locs' la h1 h2 hl)) k
/-- what a call through List asks -/
def cokF (x : MethodName) (M' : Mt) (n : Nat) : Prop := cokD M' n ∧ Cond.declares x ∈ lw_tbl ∧ Cond.interfaceMethod x.cls x.cls x.name x.desc ∈ lw_tbl ∧ Cond.publicMethod M'.y ∈ lw_tbl ∧ Cond.unhidden "java/util/ArrayList" x.name x.desc ∈ lw_tbl ∧ Cond.castable "java/util/ArrayList" x.cls ∈ lw_tbl ∧ Cond.selects "java/util/ArrayList" x M'.y ∈ lw_tbl ∧ Cond.instanceMethod M'.y ∈ lw_tbl ∧ (x.cls ≠ "java/lang/invoke/MethodHandle" ∧ x.cls ≠ "java/lang/invoke/VarHandle") ∧ x.desc = M'.y.desc
theorem Ev.callF {ix cnt b n d' : Nat} {x : MethodName} {M' : Mt} {As : List Value} {st : List Value} {v : Option Value} {σ1 : Hp} (hm : cokF x M' n) (hkd : σ.kd b = 3) (hw : Cond.methodLink M.y.cls ix x ∈ lw_tbl)
    (d9 : decode M.cc pc = .ok (.invokeinterface ix cnt, 5)) (hst : st = As.reverse ++ va_rf (some b) :: rest) (hn : As.length = n) (hsm : (rest.map fun v => v.category).sum ≤ 8) (hd : d' + 1 ≤ d) (hC : Ct X M' d' (va_rf (some b) :: As) σ (.inl v) σ1) (k : Ev X M d (pc + 5) ls (v.toList ++ rest) σ1 o τ) : Ev X M d pc ls st σ o τ :=
  Ev.step (σ1 := σ1) hC.1 hC.2.1 hC.2.2.1 (fun p l e R s m args below meth c H locs cells slots Q la hF hRf hRl hRc hRs _ hH hlo hl kk => by
    obtain ⟨hx, hb, hml, -, -, hown, -, -, hst9, hK, hW, -, -⟩ := hF
    obtain ⟨hmD, f1, f2, f3, f4, f5, f6, f7, f8, f9⟩ := hm
    have h70 := hmD.2.2.2.2.2
    have hFw : va_Fw "java/util/ArrayList" x M'.y s := va_Fw.moved f8 hW.alike (va_Fw.of (hK.1 _ f1) (hK.1 _ f2) (hK.1 _ f3) (hK.1 _ f4) (hK.1 _ f5))
    have hcode : (Cond.code M'.y M'.cc M'.ml M'.rt).before args s = true := hK.good hW hmD.2.1 rfl
    have hci : va_CI R s args M.y.cls "java/util/ArrayList" ix x M'.y M'.cc M'.ml M'.rt [M'.wd] ({ frames := d', cells := σ1.cl - σ.cl, slots := σ1.sl - σ.sl, locals := 100 * d' } : Room) (σ1.cl - σ.cl) (σ1.sl - σ.sl) n := by
      refine ⟨⟨rfl, rfl, by show d' + 1 ≤ R.frames; omega, by show 8 + (M'.ml + 11) + 100 * d' ≤ R.locals; omega, fun w hw' a' U hW' => ?_, by rw [hmD.wd]; exact List.mem_cons_self⟩, hK.good hW hw rfl, va_any rfl hFw.1, va_any rfl hFw.2.1, hK.good hW f6 rfl, hK.good hW f7 rfl, va_any rfl hFw.2.2.1, va_any rfl hFw.2.2.2.1, va_any rfl hFw.2.2.2.2, hK.good hW hmD.2.2.1 rfl, hcode, f8, by rw [f9]; exact hmD.sig⟩
      rw [hmD.wd] at hw'
      rw [List.mem_singleton.mp hw']
      exact word_at hW' (good_of_word rfl) hcode
    exact run_ok5 (va_runF (As := As) (Ts := []) ((hK.va hW).1 2 _ rfl).2 ⟨hx, hb, hml, hown, fun _ h => nomatch h⟩ (hC.met hst9) hci ⟨fb_PcX, hH.recv hK hW (ci := 2) hkd rfl, pc_of hK hW hH⟩ rfl hn hl.1 hst (by show 2 * 0 + _ ≤ 8; omega) d9 ⟨hRc, hRs⟩) hlo
      (fun H' locs' h1 h2 => kk H' locs' la h1 h2 hl)) k
end CALL
