/-! methods that catch: the rules -/
def xcp (E : String) : Prop := E = "java/lang/IllegalArgumentException" ∨ E = "java/lang/IllegalStateException" ∨ E = "java/util/NoSuchElementException" ∨ E = "java/lang/IndexOutOfBoundsException" ∨ E = "java/lang/UnsupportedOperationException"
/-- the start tells which of them aren't which -/
def KN (X : Cx) : Prop := ∀ E nm, xcp E → xcp nm → E ≠ nm → va_Nc E nm X.s0
def cokH (M' : Mt) (n : Nat) : Prop := M'.wd = Cond.codeWith M'.y M'.cc M'.ml M'.rt M'.hh ∧ Cond.codeWith M'.y M'.cc M'.ml M'.rt M'.hh ∈ lw_tbl ∧ Cond.initialized M'.y.cls ∈ lw_tbl ∧ (M'.y.cls ≠ "java/lang/invoke/MethodHandle" ∧ M'.y.cls ≠ "java/lang/invoke/VarHandle") ∧ (parseMethodDescriptor M'.y.desc).map (fun d => d.parameters.length) = some n ∧ M'.ml ≤ 70
theorem cokH.sig {M' : Mt} {n : Nat} (h : cokH M' n) : ∀ sig, parseMethodDescriptor M'.y.desc = some sig → n = sig.parameters.length := by
  intro sig hs
  have h2 := h.2.2.2.2.1
  rw [hs] at h2
  exact (Option.some.inj h2).symm
section CATCH
variable {X : Cx} {M : Mt} {d pc : Nat} {ls : List (Option Value)} {rest : List Value} {σ τ : Hp} {o : Rs}
/-- a call that throws, and the throw is caught here -/
theorem Ev.callVc {ci ix b n d' : Nat} {C : String} {T : u_T} {N : Nat} {M' : Mt} {As : List Value} {st : List Value} {E : String} {σ1 : Hp} {pre suf : List (Nat × Nat × Nat × Nat)} {xa xb xh xt : Nat} (hN : KN X) (hE : xcp E) (hm : cokD M' n) (hr : vwCl[ci]? = some (C, T, N)) (hkd : σ.kd b = ci + 1) (hw : Cond.methodLink M.y.cls ix M'.y ∈ lw_tbl) (hi : Cond.instanceMethod M'.y ∈ lw_tbl) (hs : Cond.selects C M'.y M'.y ∈ lw_tbl)
    (d9 : decode M.cc pc = .ok (.invokevirtual ix, 3)) (hst : st = As.reverse ++ va_rf (some b) :: rest) (hn : As.length = n) (hsm : (rest.map fun v => v.category).sum ≤ 8) (hd : d' + 1 ≤ d)
    (hh : M.hh = pre ++ (xa, xb, xh, xt) :: suf) (hcov : xa ≤ pc ∧ pc < xb) (ht0 : xt ≠ 0) (hpass : ∀ z ∈ pre, z.2.2.2 ≠ 0 ∧ ∃ nm, Cond.classLink M.y.cls z.2.2.2 nm ∈ lw_tbl ∧ xcp nm ∧ E ≠ nm) (hlink : Cond.classLink M.y.cls xt E ∈ lw_tbl) (hcast : Cond.castable E E ∈ lw_tbl)
    (hC : Ct X M' d' (va_rf (some b) :: As) σ (.inr E) σ1) (k : ∀ q : Nat, Ev X M d xh ls [va_rf (some q)] σ1 o τ) : Ev X M d pc ls st σ o τ := by
  have k0' := k 0
  refine ⟨Nat.le_trans hC.1 k0'.1, Nat.le_trans hC.2.1 k0'.2.1, Nat.le_trans hC.2.2.1 k0'.2.2.1, fun p l e R s m args below meth c H locs k0 n0 la hF hRf hRl g1 g2 g3 g4 g5 hH hlo hl => ?_⟩
  have hF9 := hF
  obtain ⟨hx, hb, hml, -, hlk, hown, -, htab, hst9, hK, hW, hsz, -⟩ := hF
  have e1 := hC.1
  have e2 := hC.2.1
  have e3 := hC.2.2.1
  have f1 := k0'.1
  have f2 := k0'.2.1
  refine run_thr (vx_runV (As := As) (Ts := []) ⟨hx, hb, hml, hown, fun _ h => nomatch h⟩ (hC.2.2.2 l hst9) ⟨cb_of hK hW hm hw hd hRf hRl, hK.good hW hi rfl, hK.good hW hs rfl⟩ ⟨fb_PcX, hH.recv hK hW hkd hr, pc_of hK hW hH⟩ rfl hn hl.1 hst (by show 2 * 0 + _ ≤ 8; omega) d9 ⟨by omega, by omega⟩) hlo
    (fun H' locs' q ce h1 h2 h3 h4 h5 => ?_)
  have hsplit : c.exceptionTable.toList = tableOf pre ++ (⟨xa, xb, xh, xt⟩ : ExceptionTableEntry) :: tableOf suf := by
    rw [htab, hh]
    unfold tableOf
    rw [List.map_append]
    rfl
  refine vx_catch (own := M.y.cls) (name := E) (E := E) hown (tableOf pre) ⟨xa, xb, xh, xt⟩ (tableOf suf) hsplit (fun z hz => ?_) ?_ ht0 (hK.good hW hlink rfl) (va_Nw.use rfl (hK.cast hW hcast)) h3 h4 h5 ?_
  · obtain ⟨y, hy, rfl⟩ := List.mem_map.mp hz
    obtain ⟨a1, nm, a2, a3, a4⟩ := hpass y hy
    exact Or.inr ⟨a1, nm, hK.good hW a2 rfl, va_Nc.moved hW.alike (hN E nm hE a3 a4)⟩
  · show (decide (xa ≤ pc) && decide (pc < xb)) = true
    rw [decide_eq_true hcov.1, decide_eq_true hcov.2]
    rfl
  · have g := (k q).2.2.2 p l e R s m args below meth c H' locs' k0 n0 la hF9 hRf hRl (by omega) (by omega) g3 g4 (by omega) h1 h2 hl
    rw [show σ.cl - k0 + (σ1.cl - σ.cl) = σ1.cl - k0 by omega, show σ.sl - n0 + (σ1.sl - σ.sl) = σ1.sl - n0 by omega]
    exact g
/-- invokestatic of a method that catches -/
theorem Ev.callSH {ix n d' : Nat} {M' : Mt} {As : List Value} {st : List Value} {v : Option Value} {σ1 : Hp} (hm : cokH M' n) (hw : Cond.methodLink M.y.cls ix M'.y ∈ lw_tbl) (hi : Cond.static M'.y ∈ lw_tbl)
    (d9 : decode M.cc pc = .ok (.invokestatic ix, 3)) (hst : st = As.reverse ++ rest) (hn : As.length = n) (hsm : (rest.map fun v => v.category).sum ≤ 8) (hd : d' + 1 ≤ d) (hC : Ct X M' d' As σ (.inl v) σ1) (k : Ev X M d (pc + 3) ls (v.toList ++ rest) σ1 o τ) : Ev X M d pc ls st σ o τ :=
  Ev.step (σ1 := σ1) hC.1 hC.2.1 hC.2.2.1 (fun p l e R s m args below meth c H locs cells slots Q la hF hRf hRl hRc hRs _ hH hlo hl kk => by
    obtain ⟨hx, hb, hml, -, -, hown, -, -, hst9, hK, hW, -, -⟩ := hF
    have h70 := hm.2.2.2.2.2
    exact run_ok (vx_runSW (As := As) (Ts := []) (bytes := M'.cc) (maxL := M'.ml) (ret := M'.rt) (hh := M'.hh) ⟨hx, hb, hml, hown, fun _ h => nomatch h⟩ (hC.met hst9)
      ⟨⟨rfl, rfl, by show d' + 1 ≤ R.frames; omega, by show 8 + (M'.ml + 11) + 100 * d' ≤ R.locals; omega, fun w hw' a' U hW' => by
          rw [hm.1] at hw'
          rw [List.mem_singleton.mp hw']
          exact word_at hW' (good_of_word rfl) (hK.good (a := args) hW hm.2.1 rfl), by rw [hm.1]; exact List.mem_cons_self⟩,
        hK.good hW hm.2.1 rfl, hK.good hW hm.2.2.1 rfl, hm.2.2.2.1, hm.sig, hK.good hW hw rfl, hK.good hW hi rfl⟩ ⟨fb_PcX, pc_of hK hW hH⟩ rfl hn hl.1 hst (by show 2 * 0 + _ ≤ 8; omega) d9 ⟨hRc, hRs⟩) hlo
      (fun H' locs' h1 h2 => kk H' locs' la h1 h2 hl)) k
end CATCH
/-- a contract from the entry of a method that catches -/
theorem Ct.ofH {X : Cx} {M : Mt} {d n : Nat} {av : List Value} {σ τ : Hp} {o : Rs} (hp : plainName M.y.cls = true) (hm : cokH M n) (hlen : av.length ≤ M.ml) (hcat : ∀ v ∈ av, v.category = 1) (k : Ev X M d 0 (enL M.ml av) [] σ o τ) : Ct X M d av σ o τ :=
  ⟨k.1, k.2.1, k.2.2.1, fun l hl => by
    refine vx_ofWH (cc := M.cc) (maxL := M.ml) (ret := M.rt) (hh := M.hh) (ws' := []) hp (by rw [hm.1]) ?_
    intro p e s m args below meth c s₁ B hml hv
    obtain ⟨rfl, hK, hW, hH⟩ := hv
    have h0 : ∀ n : Nat, n - n = 0 := fun n => Nat.sub_self n
    have htab : c.exceptionTable.toList = tableOf M.hh := vx_table (x := M.y) B (hK.good (a := av.toArray) hW hm.2.1 rfl)
    have g := k.2.2.2 p l e (headSpec [M.wd] ({ frames := d, cells := τ.cl - σ.cl, slots := τ.sl - σ.sl, locals := 100 * d })).room s m av.toArray below meth c s.heap [] σ.cl σ.sl _
      ⟨B.exec, B.bytes, hml, B.returns, B.notSynchronized, findClass_of_methodNamed B.named, (name_of_methodNamed B.named B.method).1, htab, hl, hK, hW, by rw [hH.1]; exact hH.2.1, hH.2.2.2.2⟩
      (Nat.le_refl _) (Nat.le_refl _) (Nat.le_refl _) (Nat.le_refl _) (Nat.le_refl _) (Nat.le_refl _) (by rw [hH.1]; exact Nat.le_refl _) hH (fun _ h => nomatch h) (LsOk.entry hcat hlen)
    rw [h0, h0] at g
    rw [lg_entry_eq]
    exact g⟩
