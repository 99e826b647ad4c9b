/-! the heap's rules -/
theorem vwCl_lt {ci : Nat} {r : vw_C} (h : vwCl[ci]? = some r) : ci < 14 := by
  have h1 := (List.getElem?_eq_some_iff.mp h).1
  exact h1
theorem HS.obj {X : Cx} {σ : Hp} {H : Heap} {a ci : Nat} {r : vw_C} (h : HS X σ H) (hk : σ.kd a = ci + 1) (hr : vwCl[ci]? = some r) : t_OB a (X.D.1 ci) r.2.2 (X.D.2 ci) H (σ.fv ci a) := (h.2.2.2.1 a).1 ci r hk hr
theorem K0.va {X : Cx} {U : State} (h : K0 X) (hW : X.s0.WarmedH U.vm) : va_K X.D vwCl (vwTy X) U := va_K.moved hW.alike h.2.1
theorem lay_good (C : String) (T : u_T) (k : Nat) : goodWord (u_lay C T k) = true := by
  unfold u_lay
  split <;> rfl
theorem K0.lays {X : Cx} {U : State} {args : Array Value} {C : String} {T : u_T} {N : Nat} (h : K0 X) (hW : X.s0.WarmedH U.vm) (hin : ∀ w ∈ u_ws C T N, w ∈ lw_tbl) : ∀ w ∈ u_ws C T N, w.before args U = true := by
  intro w hw
  obtain ⟨k, -, rfl⟩ := List.mem_map.mp hw
  exact h.good hW (hin _ hw) (lay_good C T k)
theorem K0.same {X : Cx} {U : State} {own f d ref : String} (h : K0 X) (hW : X.s0.WarmedH U.vm) (hs : ref = own ∨ Cond.sameField ref own f d ∈ lw_tbl) : ∀ x, U.fieldFound? own f d = some x → U.fieldFound? ref f d = some x := by
  rcases hs with rfl | hs
  · exact fun _ h => h
  · exact fun x hx => u_same (args := #[]) (h.good hW hs rfl) x hx
/-- a step that changes the heap -/
theorem Ev.step {X : Cx} {M : Mt} {d pc pc' : Nat} {ls ls' : List (Option Value)} {st st' : List Value} {σ σ1 τ : Hp} {o : Rs} (hc : σ.cl ≤ σ1.cl) (hs : σ.sl ≤ σ1.sl) (hz : σ.sz ≤ σ1.sz)
    (h : ∀ (p : Program) (l : Launch) (e : Env) (R : Room) (s : State) (m : MethodId) (args : Array Value) (below : List Frame) (meth : Method) (c : Code) (H : Heap) (locs : List Loc) (cells slots : Nat) (Q : State → Prop) (la : Array Slot),
      FxM X M p l s m args meth c → d ≤ R.frames → 100 * d ≤ R.locals → cells + (σ1.cl - σ.cl) ≤ R.cells → slots + (σ1.sl - σ.sl) ≤ R.slots → s.heap.size ≤ σ.sz → HS X σ H → (∀ q ∈ locs, X.b0 ≤ q.base) → LsOk la M.ml ls →
      (∀ (H' : Heap) (locs' : List Loc) (la' : Array Slot), HS X σ1 H' → (∀ q ∈ locs', X.b0 ≤ q.base) → LsOk la' M.ml ls' → W p l e R s m args below meth c H' locs' (cells + (σ1.cl - σ.cl)) (slots + (σ1.sl - σ.sl)) Q (F0 m pc' la' st')) → W p l e R s m args below meth c H locs cells slots Q (F0 m pc la st))
    (k : Ev X M d pc' ls' st' σ1 o τ) : Ev X M d pc ls st σ o τ :=
  ⟨Nat.le_trans hc k.1, Nat.le_trans hs k.2.1, Nat.le_trans hz k.2.2.1, fun p l e R s m args below meth c H locs k0 n0 la h1 h2 h3 h4 h5 h6 h7 h8 h9 h10 h11 => by
    have e1 := k.1
    have e2 := k.2.1
    have q1 : σ.cl - k0 + (σ1.cl - σ.cl) = σ1.cl - k0 := by omega
    have q2 : σ.sl - n0 + (σ1.sl - σ.sl) = σ1.sl - n0 := by omega
    refine h p l e R s m args below meth c H locs _ _ _ la h1 h2 h3 (by omega) (by omega) h8 h9 h10 h11 (fun H' locs' la' g1 g2 g3 => ?_)
    rw [q1, q2]
    exact k.2.2.2 p l e R s m args below meth c H' locs' k0 n0 la' h1 h2 h3 (by omega) (by omega) h6 h7 (by omega) g1 g2 g3⟩
theorem hAt.mov {X : Cx} {σ σ' : Hp} {H H' : Heap} {b : Nat} (h : hAt X σ H b) (hq : H'[b]? = H[b]?) (e0 : σ'.kd b = σ.kd b) (e1 : σ'.ln b = σ.ln b) (r1 : σ'.iv b = σ.iv b) (r2 : σ'.rv b = σ.rv b) (r3 : σ'.lv b = σ.lv b) (r4 : σ'.dv b = σ.dv b) : hAt X σ' H' b := by
  obtain ⟨h1, h2, h3, h4, h5, h6⟩ := h
  have hf : ∀ ci, σ'.fv ci b = σ.fv ci b := fun ci => by funext k; unfold Hp.fv; rw [r1, r2]
  refine ⟨fun ci r hk hr => ?_, fun hk => ?_, fun hk => ?_, fun hk => ?_, fun hk => ?_, fun hk => ?_⟩
  · rw [hf]
    exact (h1 ci r (by rw [← e0]; exact hk) hr).kept hq
  · rw [hq, e1, r1]; exact h2 (by rw [← e0]; exact hk)
  · rw [hq, e1, r3]; exact h3 (by rw [← e0]; exact hk)
  · rw [hq, e1, r4]; exact h4 (by rw [← e0]; exact hk)
  · rw [hq, e1, r1]; exact h5 (by rw [← e0]; exact hk)
  · rw [hq, e1, r2]; exact h6 (by rw [← e0]; exact hk)
theorem HS.upd {X : Cx} {σ σ' : Hp} {H H' : Heap} {a : Nat} (h : HS X σ H) (ha0 : X.b0 ≤ a) (e0 : σ'.kd = σ.kd) (e1 : σ'.ln = σ.ln) (e2 : σ'.sz = σ.sz) (r1 : ∀ b, b ≠ a → σ'.iv b = σ.iv b) (r2 : ∀ b, b ≠ a → σ'.rv b = σ.rv b) (r3 : ∀ b, b ≠ a → σ'.lv b = σ.lv b) (r4 : ∀ b, b ≠ a → σ'.dv b = σ.dv b)
    (z : H'.size = H.size) (oq : ∀ q, q ≠ a → H'[q]? = H[q]?) (ha : hAt X σ' H' a) : HS X σ' H' := by
  obtain ⟨h1, h2, h3, h4, h5⟩ := h
  refine ⟨by rw [z, h1, e2], by rw [e2]; exact h2, fun b hb => by rw [e0] at hb ⊢; rw [e2]; exact h3 b hb, fun b => ?_, fun q hq => ?_⟩
  · by_cases hb : b = a
    · rw [hb]; exact ha
    · exact (h4 b).mov (oq b hb) (by rw [e0]) (by rw [e1]) (r1 b hb) (r2 b hb) (r3 b hb) (r4 b hb)
  · rw [oq q (by omega)]
    exact h5 q hq
theorem up2_row {α : Type} (f : Nat → Nat → α) {a b : Nat} (k : Nat) (x : α) (h : b ≠ a) : up2 f a k x b = f b := by
  funext j
  exact up2_ne f x (fun q => h q.1)
section HEAP
variable {X : Cx} {M : Mt} {d pc : Nat} {ls : List (Option Value)} {rest : List Value} {σ τ : Hp} {o : Rs}
theorem Ev.getf {ci k ix a : Nat} {C : String} {T : u_T} {N : Nat} {ref : String} (hr : vwCl[ci]? = some (C, T, N)) (hin : ∀ w ∈ u_ws C T N, w ∈ lw_tbl) (hk : k < N) (hw : Cond.fieldLink M.y.cls ix ref (T k).2.1 (T k).2.2.1 ∈ lw_tbl) (hs : ref = (T k).1 ∨ Cond.sameField ref (T k).1 (T k).2.1 (T k).2.2.1 ∈ lw_tbl)
    (hkd : σ.kd a = ci + 1) (d9 : decode M.cc pc = .ok (.getfield ix, 3)) (kk : Ev X M d (pc + 3) ls (σ.fv ci a k :: rest) σ o τ) : Ev X M d pc ls (va_rf (some a) :: rest) σ o τ :=
  Ev.pure (fun p l e R s m args below meth c H locs cells slots Q la hF _ _ _ _ _ hH hl kk => by
    obtain ⟨hx, hb, -, -, -, hown, -, -, -, hK, hW, -, -⟩ := hF
    obtain ⟨cell, q1, q2, q3, q4⟩ := hH.obj hkd hr
    obtain ⟨hS, hfc, kC, hkC, hkind⟩ := (hK.va hW).1 ci _ hr
    obtain ⟨cf, kf, fi, f, hi, hsl⟩ := hS k hk
    refine W.getf hx hb hown (hK.good hW hw rfl) (hK.same hW hs _ hi) (u_facts (args := args) hfc hkC (u_lays (hK.lays hW hin) (fun _ h => h) hk) hi).1 q1 (by rw [q3]; exact fun h => by cases h) (v := σ.fv ci a k) ?_ rfl rfl d9 (kk _ hl)
    rw [hsl]
    exact q4 k hk) kk
theorem HS.put {H H' : Heap} {σ' : Hp} {ci k a : Nat} {C : String} {T : u_T} {N : Nat} {v : Value} {cell : Cell} (hH : HS X σ H) (hr : vwCl[ci]? = some (C, T, N)) (hkd : σ.kd a = ci + 1) (hap : ∀ x y, x < N → y < N → x ≠ y → (X.D.2 ci) x ≠ (X.D.2 ci) y) (hk : k < N) (hc : H[a]? = some cell)
    (e1 : H'[a]? = some (cell.setSlot (X.D.2 ci k) v)) (z : H'.size = H.size) (oq : ∀ q, q ≠ a → H'[q]? = H[q]?) (f0 : σ'.kd = σ.kd) (f1 : σ'.ln = σ.ln) (f2 : σ'.sz = σ.sz) (r1 : ∀ b, b ≠ a → σ'.iv b = σ.iv b) (r2 : ∀ b, b ≠ a → σ'.rv b = σ.rv b) (r3 : ∀ b, b ≠ a → σ'.lv b = σ.lv b) (r4 : ∀ b, b ≠ a → σ'.dv b = σ.dv b)
    (hv : ∀ j, j < N → σ'.fv ci a j = updV (σ.fv ci a) k v j) : HS X σ' H' := by
  have hlt := vwCl_lt hr
  refine hH.upd (hH.2.2.1 a (by omega)).1 f0 f1 f2 r1 r2 r3 r4 z oq ⟨fun ci' r hk' hr' => ?_, fun h => ?_, fun h => ?_, fun h => ?_, fun h => ?_, fun h => ?_⟩
  · rw [f0, hkd] at hk'
    have e : ci' = ci := by omega
    subst e
    cases hr.symm.trans hr'
    obtain ⟨cell2, q1, q2, q3, q4⟩ := hH.obj hkd hr
    cases hc.symm.trans q1
    exact t_OB.to (V := updV (σ.fv ci' a) k v) ⟨_, e1, q2, q3, t_set q4 hap hk v⟩ (fun j hj => (hv j hj).symm)
  all_goals (rw [f0, hkd] at h; omega)
theorem fv_setI {ci a k : Nat} {x : Int32} (hrf : isRf ci k = false) (j : Nat) : (σ.setI a k x).fv ci a j = updV (σ.fv ci a) k (.int x) j := by
  by_cases hj : j = k
  · subst hj
    simp [Hp.fv, updV, hrf, Hp.setI, Hp.iv, up2]
  · simp [Hp.fv, updV, hj, Hp.setI, Hp.iv, Hp.rv, up2]
theorem fv_setR {ci a k : Nat} {x : Option Nat} (hrf : isRf ci k = true) (j : Nat) : (σ.setR a k x).fv ci a j = updV (σ.fv ci a) k (va_rf x) j := by
  by_cases hj : j = k
  · subst hj
    simp [Hp.fv, updV, hrf, Hp.setR, Hp.rv, up2]
  · simp [Hp.fv, updV, hj, Hp.setR, Hp.iv, Hp.rv, up2]
/-- a field is written, of any kind; final ones in constructors -/
theorem Ev.putf {ci k ix a : Nat} {C : String} {T : u_T} {N : Nat} {ref : String} {ty : Nat → FieldType} {v : Value} {σ1 : Hp} (hr : vwCl[ci]? = some (C, T, N)) (hin : ∀ w ∈ u_ws C T N, w ∈ lw_tbl) (hty : ∀ k, k < N → parseFieldDescriptor (T k).2.2.1 = some (ty k)) (hnm : ∀ a, a < N → ∀ b, b < N → a ≠ b → (T a).2.1 ≠ (T b).2.1)
    (hk : k < N) (hw : Cond.fieldLink M.y.cls ix ref (T k).2.1 (T k).2.2.1 ∈ lw_tbl) (hs : ref = (T k).1 ∨ Cond.sameField ref (T k).1 (T k).2.1 (T k).2.2.1 ∈ lw_tbl) (hfin : (T k).2.2.2 = false ∨ (M.y.name = "<init>" ∧ (T k).1 = M.y.cls)) (hn : narrow (ty k) v = v) (hfit : fits (ty k) v = true)
    (hkd : σ.kd a = ci + 1) (d9 : decode M.cc pc = .ok (.putfield ix, 3)) (c1 : σ1.cl = σ.cl) (c2 : σ1.sl = σ.sl) (f0 : σ1.kd = σ.kd) (f1 : σ1.ln = σ.ln) (f2 : σ1.sz = σ.sz) (r1 : ∀ b, b ≠ a → σ1.iv b = σ.iv b) (r2 : ∀ b, b ≠ a → σ1.rv b = σ.rv b) (r3 : ∀ b, b ≠ a → σ1.lv b = σ.lv b) (r4 : ∀ b, b ≠ a → σ1.dv b = σ.dv b)
    (hv : ∀ j, j < N → σ1.fv ci a j = updV (σ.fv ci a) k v j) (kk : Ev X M d (pc + 3) ls rest σ1 o τ) : Ev X M d pc ls (v :: va_rf (some a) :: rest) σ o τ :=
  Ev.step (by rw [c1]; exact Nat.le_refl _) (by rw [c2]; exact Nat.le_refl _) (by rw [f2]; exact Nat.le_refl _) (fun p l e R s m args below meth c H locs cells slots Q la hF _ _ hRc hRs _ hH hlo hl kk => by
    obtain ⟨hx, hb, -, -, -, hown, hnam, -, -, hK, hW, -, -⟩ := hF
    have g1 : σ1.cl - σ.cl = 0 := by omega
    have g2 : σ1.sl - σ.sl = 0 := by omega
    rw [g1, g2] at kk
    have hba := hH.2.2.1 a (by omega)
    have hts := hK.lays (args := args) hW hin
    have hap := va_apart (own := C) hts (fun _ h => h) ty hty hnm (hK.va hW) hr
    obtain ⟨cell, q1, q2, q3, q4⟩ := hH.obj hkd hr
    obtain ⟨hS, hfc, kC, hkC, hkind⟩ := (hK.va hW).1 ci _ hr
    obtain ⟨cf, kf, fi, f, hi, hsl⟩ := hS k hk
    have hlays := u_lays hts (fun _ h => h) hk
    have hst := (u_facts hfc hkC hlays hi).1
    have hlt : f.slot < cell.slots.size := by rw [hsl]; exact k2_hasslot (q4 k hk)
    have hlo' : ∀ q ∈ locs ++ [(⟨a, f.slot⟩ : Loc)], X.b0 ≤ q.base := fun q hq => by
      rcases List.mem_append.mp hq with h | h
      · exact hlo q h
      · rw [List.mem_singleton.mp h]; exact hba.1
    have fin : ∀ H' : Heap, H'[a]? = some (cell.setSlot f.slot v) → H'.size = H.size → (∀ q, q ≠ a → H'[q]? = H[q]?) → W p l e R s m args below meth c H' (locs ++ [⟨a, f.slot⟩]) cells slots Q (F0 m (pc + 3) la rest) := fun H' e1 e2 e3 =>
      kk H' _ la (hH.put hr hkd hap hk q1 (by rw [← hsl]; exact e1) e2 e3 f0 f1 f2 r1 r2 r3 r4 hv) hlo' hl
    have hlay := hts _ (u_in_lay hk)
    cases hfz : (T k).2.2.2 with
    | false =>
      unfold u_lay at hlay
      rw [if_neg (by rw [hfz]; decide)] at hlay
      exact W.putK hx hb (f := f) ⟨hown, hK.good hW hw rfl, ⟨_, _, _, hK.same hW hs _ hi⟩, hst⟩ (by rw [q2]; exact u_store hfc hkC hkind hlay hi (hty k hk) hn hfit) q1 q3 hlt rfl rfl d9 fin
    | true =>
      obtain ⟨hin2, hdecl⟩ : M.y.name = "<init>" ∧ (T k).1 = M.y.cls := hfin.resolve_left (by rw [hfz]; decide)
      unfold u_lay at hlay
      rw [if_pos hfz] at hlay
      have hcf : m.cls = cf := by
        obtain ⟨_, _, c', _, _, _, -, -, hf', -, -, -, hown2, -⟩ := Cond.laysFinal_spec hlay
        have e1 : c' = cf := by have := hi.symm.trans hf'; simp at this; exact this.1.symm
        rw [hdecl] at hown2
        rw [← e1]; exact Option.some.inj (hown.symm.trans hown2)
      exact W.putFinK hx hb hown (hK.good hW hw rfl) (hK.same hW hs _ hi) hst hcf (by rw [hnam]; exact hin2) (by rw [q2]; exact u_fits hfc hkC hkind (Or.inr hlay) hi (hty k hk) hn hfit) q1 q3 hlt rfl rfl d9 fin) kk
theorem Ev.putI {ci k ix a : Nat} {C : String} {T : u_T} {N : Nat} {ref : String} {x : Int32} (hr : vwCl[ci]? = some (C, T, N)) (hin : ∀ w ∈ u_ws C T N, w ∈ lw_tbl) (hty : ∀ k, k < N → parseFieldDescriptor (T k).2.2.1 = some (ftab ci k)) (hnm : ∀ a, a < N → ∀ b, b < N → a ≠ b → (T a).2.1 ≠ (T b).2.1)
    (hk : k < N) (hw : Cond.fieldLink M.y.cls ix ref (T k).2.1 (T k).2.2.1 ∈ lw_tbl) (hs : ref = (T k).1 ∨ Cond.sameField ref (T k).1 (T k).2.1 (T k).2.2.1 ∈ lw_tbl) (hfin : (T k).2.2.2 = false ∨ (M.y.name = "<init>" ∧ (T k).1 = M.y.cls)) (hrf : isRf ci k = false) (hn : narrow (ftab ci k) (.int x) = .int x) (hfit : fits (ftab ci k) (.int x) = true)
    (hkd : σ.kd a = ci + 1) (d9 : decode M.cc pc = .ok (.putfield ix, 3)) (kk : Ev X M d (pc + 3) ls rest (σ.setI a k x) o τ) : Ev X M d pc ls (.int x :: va_rf (some a) :: rest) σ o τ :=
  Ev.putf (σ1 := σ.setI a k x) hr hin hty hnm hk hw hs hfin hn hfit hkd d9 rfl rfl rfl rfl rfl (fun b hb => up2_row _ _ _ hb) (fun _ _ => rfl) (fun _ _ => rfl) (fun _ _ => rfl) (fun j _ => fv_setI hrf j) kk
theorem Ev.putR {ci k ix a : Nat} {C : String} {T : u_T} {N : Nat} {ref : String} {x : Option Nat} (hr : vwCl[ci]? = some (C, T, N)) (hin : ∀ w ∈ u_ws C T N, w ∈ lw_tbl) (hty : ∀ k, k < N → parseFieldDescriptor (T k).2.2.1 = some (ftab ci k)) (hnm : ∀ a, a < N → ∀ b, b < N → a ≠ b → (T a).2.1 ≠ (T b).2.1)
    (hk : k < N) (hw : Cond.fieldLink M.y.cls ix ref (T k).2.1 (T k).2.2.1 ∈ lw_tbl) (hs : ref = (T k).1 ∨ Cond.sameField ref (T k).1 (T k).2.1 (T k).2.2.1 ∈ lw_tbl) (hfin : (T k).2.2.2 = false ∨ (M.y.name = "<init>" ∧ (T k).1 = M.y.cls)) (hrf : isRf ci k = true)
    (hkd : σ.kd a = ci + 1) (d9 : decode M.cc pc = .ok (.putfield ix, 3)) (kk : Ev X M d (pc + 3) ls rest (σ.setR a k x) o τ) : Ev X M d pc ls (va_rf x :: va_rf (some a) :: rest) σ o τ := by
  have h1 : narrow (ftab ci k) (va_rf x) = va_rf x ∧ fits (ftab ci k) (va_rf x) = true := by
    unfold isRf at hrf
    cases hf : ftab ci k <;> rw [hf] at hrf <;> first | (cases hrf; done) | (cases x <;> exact ⟨rfl, rfl⟩)
  exact Ev.putf (σ1 := σ.setR a k x) hr hin hty hnm hk hw hs hfin h1.1 h1.2 hkd d9 rfl rfl rfl rfl rfl (fun _ _ => rfl) (fun b hb => up2_row _ _ _ hb) (fun _ _ => rfl) (fun _ _ => rfl) (fun j _ => fv_setR hrf j) kk
end HEAP
