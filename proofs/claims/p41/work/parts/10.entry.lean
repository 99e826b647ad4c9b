/-! a method's contract from its entry; throws of the class; arraycopy; getClass -/
theorem lv_args_mem : ∀ (av : List Value) (k i : Nat) (v : Value), (∀ w ∈ av, w.category = 1) → av[i]? = some v → (k + i, v) ∈ lv_args k av := by
  intro av
  induction av with
  | nil => intro k i v _ h; cases h
  | cons a av ih =>
    intro k i v hc h
    unfold lv_args
    have ha : ¬ a.category = 2 := by rw [hc a List.mem_cons_self]; decide
    rw [if_neg ha]
    cases i with
    | zero => cases h; exact List.mem_cons_self
    | succ i =>
      have := ih (k + 1) i v (fun w hw => hc w (List.mem_cons_of_mem _ hw)) h
      rw [show k + (i + 1) = k + 1 + i by omega]
      exact List.mem_cons_of_mem _ this
theorem lg_sl_len : ∀ (av : List Value), (∀ w ∈ av, w.category = 1) → (lg_sl av).length = av.length := by
  intro av
  induction av with
  | nil => intro _; rfl
  | cons a av ih =>
    intro hc
    have ha : ¬ a.category = 2 := by rw [hc a List.mem_cons_self]; decide
    have h := ih (fun w hw => hc w (List.mem_cons_of_mem _ hw))
    unfold lg_sl at h ⊢
    rw [List.flatMap_cons, if_neg ha, List.length_append, h]
    simp
    omega
theorem LsOk.entry {av : List Value} {n : Nat} (hc : ∀ w ∈ av, w.category = 1) (hn : av.length ≤ n) : LsOk ((lg_sl av ++ List.replicate (n - (lg_sl av).length) Slot.unset).toArray) n (enL n av) := by
  have h := lv_entry av (n := n) (by rw [lg_sl_len av hc]; exact hn)
  refine ⟨h.1, h.2.1, fun i v hi => ?_⟩
  have hi' : av[i]? = some v := by
    unfold enL at hi
    by_cases hlt : i < av.length
    · rw [List.getElem?_append_left (by simpa using hlt), List.getElem?_map] at hi
      cases ha : av[i]? with
      | none => rw [ha] at hi; cases hi
      | some w => rw [ha] at hi; cases hi; rfl
    · rw [List.getElem?_append_right (by simpa using Nat.not_lt.mp hlt), List.getElem?_replicate] at hi
      split at hi <;> cases hi
  refine ⟨?_, hc v (List.mem_of_getElem? hi')⟩
  have := h.2.2 _ (lv_args_mem av 0 i v hc hi')
  rw [Nat.zero_add] at this
  exact this
theorem Ct.of {X : Cx} {M : Mt} {d : Nat} {av : List Value} {σ τ : Hp} {o : Rs} (hp : plainName M.y.cls = true) (hh : M.hh = []) (hlen : av.length ≤ M.ml) (hcat : ∀ v ∈ av, v.category = 1) (k : Ev X M d 0 (enL M.ml av) [] σ o τ) : Ct X M d av σ o τ :=
  ⟨k.1, k.2.1, k.2.2.1, fun l hl => by
    refine vx_ofW (cc := M.cc) (maxL := M.ml) (ret := M.rt) (ws' := []) hp (by unfold Mt.wd; rw [hh]) ?_
    intro p e s m args below meth c s₁ B hml htab hv
    obtain ⟨rfl, hK, hW, hH⟩ := hv
    have h0 : ∀ n : Nat, n - n = 0 := fun n => Nat.sub_self n
    have hnil : c.exceptionTable.toList = tableOf M.hh := by
      rw [hh]
      exact List.eq_nil_iff_forall_not_mem.mpr fun x hx => htab x hx
    have g := k.2.2.2 p l e (headSpec [M.wd] ({ frames := d, cells := τ.cl - σ.cl, slots := τ.sl - σ.sl, locals := 100 * d })).room s m av.toArray below meth c s.heap [] σ.cl σ.sl _
      ⟨B.exec, B.bytes, hml, B.returns, B.notSynchronized, findClass_of_methodNamed B.named, (name_of_methodNamed B.named B.method).1, hnil, hl, hK, hW, by rw [hH.1]; exact hH.2.1, hH.2.2.2.2⟩
      (Nat.le_refl _) (Nat.le_refl _) (Nat.le_refl _) (Nat.le_refl _) (Nat.le_refl _) (Nat.le_refl _) (by rw [hH.1]; exact Nat.le_refl _) hH (fun _ h => nomatch h) (LsOk.entry hcat hlen)
    rw [h0, h0] at g
    rw [lg_entry_eq]
    exact g⟩

def thrW (ik ic : Nat) (E : String) (i1 : Nat) (b1 : ByteArray) : Prop := Cond.classLink "Hopyard" ik E ∈ lw_tbl ∧ Cond.initialized E ∈ lw_tbl ∧ Cond.instantiable E 6 ∈ lw_tbl ∧ Bundle.fit E = true ∧ decode b1 0 = .ok (.aload_n 0, 1) ∧ decode b1 1 = .ok (.aload_n 1, 1) ∧ decode b1 2 = .ok (.invokespecial i1, 3) ∧ decode b1 5 = .ok (.return_, 1) ∧ (∀ (X : Cx) (U : State) (args : Array Value), K0 X → X.s0.WarmedH U.vm → ∀ w ∈ (ownA "Hopyard" ic E i1 b1).filter vx_no, w.before args U = true)
set_option maxRecDepth 10000 in
theorem thr_IAE : thrW 71 75 "java/lang/IllegalArgumentException" 7 prog_21_method_2_code := by
  refine ⟨(tb2 (i := 22) rfl), (tb1 (i := 14) rfl), (tb2 (i := 23) rfl), by decide +kernel, by decide +kernel, by decide +kernel, by decide +kernel, by decide +kernel, ?_⟩
  intro X U args hK hW
  have h : ∀ w ∈ ownA "Hopyard" 75 "java/lang/IllegalArgumentException" 7 prog_21_method_2_code, vx_no w = true → w.before args U = true := by
    simp only [ownA, Bundle.throwableAtoms, Bundle.throwableSAtoms, Bundle.chainSAtoms, Bundle.passSAtoms, List.cons_append, List.nil_append]
    exact (List.forall_mem_cons.mpr ⟨(fun _ => hK.good hW (tb1 (i := 11) rfl) rfl), (List.forall_mem_cons.mpr ⟨(fun _ => hK.good hW (tb2 (i := 44) rfl) rfl), (List.forall_mem_cons.mpr ⟨(fun _ => hK.good hW (tb2 (i := 53) rfl) rfl), (List.forall_mem_cons.mpr ⟨(fun _ => hK.good hW (tb2 (i := 59) rfl) rfl), (List.forall_mem_cons.mpr ⟨(fun _ => hK.good hW (tb2 (i := 62) rfl) rfl), (List.forall_mem_cons.mpr ⟨(fun _ => hK.good hW (tb2 (i := 64) rfl) rfl), (List.forall_mem_cons.mpr ⟨(fun _ => hK.good hW (tb2 (i := 45) rfl) rfl), (List.forall_mem_cons.mpr ⟨(fun _ => hK.good hW (tb2 (i := 46) rfl) rfl), (List.forall_mem_cons.mpr ⟨(fun _ => hK.good hW (tb1 (i := 42) rfl) rfl), (List.forall_mem_cons.mpr ⟨(fun _ => hK.good hW (tb1 (i := 43) rfl) rfl), (List.forall_mem_cons.mpr ⟨(fun _ => hK.good hW (tb2 (i := 47) rfl) rfl), (List.forall_mem_cons.mpr ⟨(fun _ => hK.good hW (tb2 (i := 52) rfl) rfl), (List.forall_mem_cons.mpr ⟨(fun _ => hK.good hW (tb2 (i := 60) rfl) rfl), (List.forall_mem_cons.mpr ⟨(fun _ => hK.good hW (tb2 (i := 80) rfl) rfl), (List.forall_mem_cons.mpr ⟨(fun _ => hK.good hW (tb2 (i := 34) rfl) rfl), (List.forall_mem_cons.mpr ⟨(fun _ => hK.good hW (tb2 (i := 81) rfl) rfl), (List.forall_mem_cons.mpr ⟨(fun _ => hK.good hW (tb2 (i := 36) rfl) rfl), (List.forall_mem_cons.mpr ⟨(fun _ => hK.good hW (tb2 (i := 82) rfl) rfl), (List.forall_mem_cons.mpr ⟨(fun _ => hK.good hW (tb2 (i := 38) rfl) rfl), (List.forall_mem_cons.mpr ⟨(fun _ => hK.good hW (tb2 (i := 48) rfl) rfl), (List.forall_mem_cons.mpr ⟨(fun h => absurd h (by simp [vx_no])), (List.forall_mem_cons.mpr ⟨(fun _ => hK.good hW (tb2 (i := 50) rfl) rfl), (List.forall_mem_cons.mpr ⟨(fun h => absurd h (by simp [vx_no])), (List.forall_mem_cons.mpr ⟨(fun _ => hK.good hW (tb2 (i := 40) rfl) rfl), (List.forall_mem_cons.mpr ⟨(fun _ => hK.good hW (tb2 (i := 76) rfl) rfl), (List.forall_mem_cons.mpr ⟨(fun _ => hK.good hW (tb2 (i := 77) rfl) rfl), (List.forall_mem_cons.mpr ⟨(fun _ => hK.good hW (tb2 (i := 79) rfl) rfl), (List.forall_mem_cons.mpr ⟨(fun _ => hK.good hW (tb2 (i := 40) rfl) rfl), (List.forall_mem_cons.mpr ⟨(fun _ => hK.good hW (tb2 (i := 67) rfl) rfl), (List.forall_mem_cons.mpr ⟨(fun _ => hK.good hW (tb2 (i := 68) rfl) rfl), (List.forall_mem_cons.mpr ⟨(fun _ => hK.good hW (tb2 (i := 69) rfl) rfl), (List.forall_mem_cons.mpr ⟨(fun _ => hK.good hW (tb2 (i := 70) rfl) rfl), (List.forall_mem_cons.mpr ⟨(fun _ => va_Nw.use rfl (va_Nw.warmD hW (va_Nw.of rfl (hK.1 _ (tb2 (i := 26) rfl))))), (List.forall_mem_cons.mpr ⟨(fun _ => hK.good hW (tb2 (i := 70) rfl) rfl), (List.forall_mem_cons.mpr ⟨(fun _ => hK.good hW (tb2 (i := 71) rfl) rfl), (List.forall_mem_cons.mpr ⟨(fun _ => hK.good hW (tb2 (i := 72) rfl) rfl), (List.forall_mem_cons.mpr ⟨(fun _ => hK.good hW (tb2 (i := 73) rfl) rfl), (List.forall_mem_cons.mpr ⟨(fun _ => va_Nw.use rfl (va_Nw.warmD hW (va_Nw.of rfl (hK.1 _ (tb2 (i := 28) rfl))))), (List.forall_mem_cons.mpr ⟨(fun _ => hK.good hW (tb2 (i := 73) rfl) rfl), (List.forall_mem_cons.mpr ⟨(fun _ => hK.good hW (tb2 (i := 74) rfl) rfl), (List.forall_mem_cons.mpr ⟨(fun _ => hK.good hW (tb2 (i := 75) rfl) rfl), (List.forall_mem_cons.mpr ⟨(fun _ => hK.good hW (tb2 (i := 76) rfl) rfl), (List.forall_mem_cons.mpr ⟨(fun _ => va_Nw.use rfl (va_Nw.warmD hW (va_Nw.of rfl (hK.1 _ (tb2 (i := 30) rfl))))), (List.forall_mem_cons.mpr ⟨(fun _ => hK.good hW (tb2 (i := 66) rfl) rfl), (List.forall_mem_cons.mpr ⟨(fun _ => hK.good hW (tb2 (i := 23) rfl) rfl), (List.forall_mem_cons.mpr ⟨(fun _ => hK.good hW (tb2 (i := 31) rfl) rfl), (List.forall_mem_cons.mpr ⟨(fun _ => hK.good hW (tb2 (i := 32) rfl) rfl), (List.forall_mem_cons.mpr ⟨(fun _ => hK.good hW (tb2 (i := 33) rfl) rfl), (List.forall_mem_cons.mpr ⟨(fun _ => hK.good hW (tb2 (i := 35) rfl) rfl), (List.forall_mem_cons.mpr ⟨(fun _ => hK.good hW (tb2 (i := 37) rfl) rfl), (List.forall_mem_cons.mpr ⟨(fun _ => hK.good hW (tb2 (i := 39) rfl) rfl), (List.forall_mem_cons.mpr ⟨(fun h => absurd h (by simp [vx_no])), (List.forall_mem_cons.mpr ⟨(fun h => absurd h (by simp [vx_no])), (List.forall_mem_cons.mpr ⟨(fun _ => hK.good hW (tb2 (i := 43) rfl) rfl), (List.forall_mem_cons.mpr ⟨(fun _ => hK.good hW (tb2 (i := 42) rfl) rfl), (List.forall_mem_cons.mpr ⟨(fun _ => hK.good hW (tb2 (i := 41) rfl) rfl), (fun _ h => nomatch h)⟩)⟩)⟩)⟩)⟩)⟩)⟩)⟩)⟩)⟩)⟩)⟩)⟩)⟩)⟩)⟩)⟩)⟩)⟩)⟩)⟩)⟩)⟩)⟩)⟩)⟩)⟩)⟩)⟩)⟩)⟩)⟩)⟩)⟩)⟩)⟩)⟩)⟩)⟩)⟩)⟩)⟩)⟩)⟩)⟩)⟩)⟩)⟩)⟩)⟩)⟩)⟩)⟩)⟩)⟩)⟩)
  exact fun w hw => h w (List.mem_filter.mp hw).1 (List.mem_filter.mp hw).2
set_option maxRecDepth 10000 in
theorem thr_ISE : thrW 82 86 "java/lang/IllegalStateException" 7 prog_22_method_2_code := by
  refine ⟨(tb2 (i := 115) rfl), (tb1 (i := 17) rfl), (tb2 (i := 116) rfl), by decide +kernel, by decide +kernel, by decide +kernel, by decide +kernel, by decide +kernel, ?_⟩
  intro X U args hK hW
  have h : ∀ w ∈ ownA "Hopyard" 86 "java/lang/IllegalStateException" 7 prog_22_method_2_code, vx_no w = true → w.before args U = true := by
    simp only [ownA, Bundle.throwableAtoms, Bundle.throwableSAtoms, Bundle.chainSAtoms, Bundle.passSAtoms, List.cons_append, List.nil_append]
    exact (List.forall_mem_cons.mpr ⟨(fun _ => hK.good hW (tb1 (i := 11) rfl) rfl), (List.forall_mem_cons.mpr ⟨(fun _ => hK.good hW (tb2 (i := 44) rfl) rfl), (List.forall_mem_cons.mpr ⟨(fun _ => hK.good hW (tb2 (i := 53) rfl) rfl), (List.forall_mem_cons.mpr ⟨(fun _ => hK.good hW (tb2 (i := 59) rfl) rfl), (List.forall_mem_cons.mpr ⟨(fun _ => hK.good hW (tb2 (i := 62) rfl) rfl), (List.forall_mem_cons.mpr ⟨(fun _ => hK.good hW (tb2 (i := 64) rfl) rfl), (List.forall_mem_cons.mpr ⟨(fun _ => hK.good hW (tb2 (i := 45) rfl) rfl), (List.forall_mem_cons.mpr ⟨(fun _ => hK.good hW (tb2 (i := 46) rfl) rfl), (List.forall_mem_cons.mpr ⟨(fun _ => hK.good hW (tb1 (i := 42) rfl) rfl), (List.forall_mem_cons.mpr ⟨(fun _ => hK.good hW (tb1 (i := 43) rfl) rfl), (List.forall_mem_cons.mpr ⟨(fun _ => hK.good hW (tb2 (i := 47) rfl) rfl), (List.forall_mem_cons.mpr ⟨(fun _ => hK.good hW (tb2 (i := 52) rfl) rfl), (List.forall_mem_cons.mpr ⟨(fun _ => hK.good hW (tb2 (i := 60) rfl) rfl), (List.forall_mem_cons.mpr ⟨(fun _ => hK.good hW (tb2 (i := 80) rfl) rfl), (List.forall_mem_cons.mpr ⟨(fun _ => hK.good hW (tb2 (i := 34) rfl) rfl), (List.forall_mem_cons.mpr ⟨(fun _ => hK.good hW (tb2 (i := 81) rfl) rfl), (List.forall_mem_cons.mpr ⟨(fun _ => hK.good hW (tb2 (i := 36) rfl) rfl), (List.forall_mem_cons.mpr ⟨(fun _ => hK.good hW (tb2 (i := 82) rfl) rfl), (List.forall_mem_cons.mpr ⟨(fun _ => hK.good hW (tb2 (i := 38) rfl) rfl), (List.forall_mem_cons.mpr ⟨(fun _ => hK.good hW (tb2 (i := 48) rfl) rfl), (List.forall_mem_cons.mpr ⟨(fun h => absurd h (by simp [vx_no])), (List.forall_mem_cons.mpr ⟨(fun _ => hK.good hW (tb2 (i := 50) rfl) rfl), (List.forall_mem_cons.mpr ⟨(fun h => absurd h (by simp [vx_no])), (List.forall_mem_cons.mpr ⟨(fun _ => hK.good hW (tb2 (i := 40) rfl) rfl), (List.forall_mem_cons.mpr ⟨(fun _ => hK.good hW (tb2 (i := 76) rfl) rfl), (List.forall_mem_cons.mpr ⟨(fun _ => hK.good hW (tb2 (i := 77) rfl) rfl), (List.forall_mem_cons.mpr ⟨(fun _ => hK.good hW (tb2 (i := 79) rfl) rfl), (List.forall_mem_cons.mpr ⟨(fun _ => hK.good hW (tb2 (i := 40) rfl) rfl), (List.forall_mem_cons.mpr ⟨(fun _ => hK.good hW (tb2 (i := 126) rfl) rfl), (List.forall_mem_cons.mpr ⟨(fun _ => hK.good hW (tb2 (i := 127) rfl) rfl), (List.forall_mem_cons.mpr ⟨(fun _ => hK.good hW (tb2 (i := 128) rfl) rfl), (List.forall_mem_cons.mpr ⟨(fun _ => hK.good hW (tb2 (i := 70) rfl) rfl), (List.forall_mem_cons.mpr ⟨(fun _ => va_Nw.use rfl (va_Nw.warmD hW (va_Nw.of rfl (hK.1 _ (tb2 (i := 26) rfl))))), (List.forall_mem_cons.mpr ⟨(fun _ => hK.good hW (tb2 (i := 70) rfl) rfl), (List.forall_mem_cons.mpr ⟨(fun _ => hK.good hW (tb2 (i := 71) rfl) rfl), (List.forall_mem_cons.mpr ⟨(fun _ => hK.good hW (tb2 (i := 72) rfl) rfl), (List.forall_mem_cons.mpr ⟨(fun _ => hK.good hW (tb2 (i := 73) rfl) rfl), (List.forall_mem_cons.mpr ⟨(fun _ => va_Nw.use rfl (va_Nw.warmD hW (va_Nw.of rfl (hK.1 _ (tb2 (i := 28) rfl))))), (List.forall_mem_cons.mpr ⟨(fun _ => hK.good hW (tb2 (i := 73) rfl) rfl), (List.forall_mem_cons.mpr ⟨(fun _ => hK.good hW (tb2 (i := 74) rfl) rfl), (List.forall_mem_cons.mpr ⟨(fun _ => hK.good hW (tb2 (i := 75) rfl) rfl), (List.forall_mem_cons.mpr ⟨(fun _ => hK.good hW (tb2 (i := 76) rfl) rfl), (List.forall_mem_cons.mpr ⟨(fun _ => va_Nw.use rfl (va_Nw.warmD hW (va_Nw.of rfl (hK.1 _ (tb2 (i := 30) rfl))))), (List.forall_mem_cons.mpr ⟨(fun _ => hK.good hW (tb2 (i := 125) rfl) rfl), (List.forall_mem_cons.mpr ⟨(fun _ => hK.good hW (tb2 (i := 116) rfl) rfl), (List.forall_mem_cons.mpr ⟨(fun _ => hK.good hW (tb2 (i := 118) rfl) rfl), (List.forall_mem_cons.mpr ⟨(fun _ => hK.good hW (tb2 (i := 55) rfl) rfl), (List.forall_mem_cons.mpr ⟨(fun _ => hK.good hW (tb2 (i := 119) rfl) rfl), (List.forall_mem_cons.mpr ⟨(fun _ => hK.good hW (tb2 (i := 120) rfl) rfl), (List.forall_mem_cons.mpr ⟨(fun _ => hK.good hW (tb2 (i := 121) rfl) rfl), (List.forall_mem_cons.mpr ⟨(fun _ => hK.good hW (tb2 (i := 122) rfl) rfl), (List.forall_mem_cons.mpr ⟨(fun h => absurd h (by simp [vx_no])), (List.forall_mem_cons.mpr ⟨(fun h => absurd h (by simp [vx_no])), (List.forall_mem_cons.mpr ⟨(fun _ => hK.good hW (tb2 (i := 43) rfl) rfl), (List.forall_mem_cons.mpr ⟨(fun _ => hK.good hW (tb2 (i := 42) rfl) rfl), (List.forall_mem_cons.mpr ⟨(fun _ => hK.good hW (tb2 (i := 123) rfl) rfl), (fun _ h => nomatch h)⟩)⟩)⟩)⟩)⟩)⟩)⟩)⟩)⟩)⟩)⟩)⟩)⟩)⟩)⟩)⟩)⟩)⟩)⟩)⟩)⟩)⟩)⟩)⟩)⟩)⟩)⟩)⟩)⟩)⟩)⟩)⟩)⟩)⟩)⟩)⟩)⟩)⟩)⟩)⟩)⟩)⟩)⟩)⟩)⟩)⟩)⟩)⟩)⟩)⟩)⟩)⟩)⟩)⟩)⟩)⟩)
  exact fun w hw => h w (List.mem_filter.mp hw).1 (List.mem_filter.mp hw).2
set_option maxRecDepth 10000 in
theorem thr_NSE : thrW 128 132 "java/util/NoSuchElementException" 13 prog_44_method_4_code := by
  refine ⟨(tb3 (i := 67) rfl), (tb1 (i := 22) rfl), (tb3 (i := 68) rfl), by decide +kernel, by decide +kernel, by decide +kernel, by decide +kernel, by decide +kernel, ?_⟩
  intro X U args hK hW
  have h : ∀ w ∈ ownA "Hopyard" 132 "java/util/NoSuchElementException" 13 prog_44_method_4_code, vx_no w = true → w.before args U = true := by
    simp only [ownA, Bundle.throwableAtoms, Bundle.throwableSAtoms, Bundle.chainSAtoms, Bundle.passSAtoms, List.cons_append, List.nil_append]
    exact (List.forall_mem_cons.mpr ⟨(fun _ => hK.good hW (tb1 (i := 11) rfl) rfl), (List.forall_mem_cons.mpr ⟨(fun _ => hK.good hW (tb2 (i := 44) rfl) rfl), (List.forall_mem_cons.mpr ⟨(fun _ => hK.good hW (tb2 (i := 53) rfl) rfl), (List.forall_mem_cons.mpr ⟨(fun _ => hK.good hW (tb2 (i := 59) rfl) rfl), (List.forall_mem_cons.mpr ⟨(fun _ => hK.good hW (tb2 (i := 62) rfl) rfl), (List.forall_mem_cons.mpr ⟨(fun _ => hK.good hW (tb2 (i := 64) rfl) rfl), (List.forall_mem_cons.mpr ⟨(fun _ => hK.good hW (tb2 (i := 45) rfl) rfl), (List.forall_mem_cons.mpr ⟨(fun _ => hK.good hW (tb2 (i := 46) rfl) rfl), (List.forall_mem_cons.mpr ⟨(fun _ => hK.good hW (tb1 (i := 42) rfl) rfl), (List.forall_mem_cons.mpr ⟨(fun _ => hK.good hW (tb1 (i := 43) rfl) rfl), (List.forall_mem_cons.mpr ⟨(fun _ => hK.good hW (tb2 (i := 47) rfl) rfl), (List.forall_mem_cons.mpr ⟨(fun _ => hK.good hW (tb2 (i := 52) rfl) rfl), (List.forall_mem_cons.mpr ⟨(fun _ => hK.good hW (tb2 (i := 60) rfl) rfl), (List.forall_mem_cons.mpr ⟨(fun _ => hK.good hW (tb2 (i := 80) rfl) rfl), (List.forall_mem_cons.mpr ⟨(fun _ => hK.good hW (tb2 (i := 34) rfl) rfl), (List.forall_mem_cons.mpr ⟨(fun _ => hK.good hW (tb2 (i := 81) rfl) rfl), (List.forall_mem_cons.mpr ⟨(fun _ => hK.good hW (tb2 (i := 36) rfl) rfl), (List.forall_mem_cons.mpr ⟨(fun _ => hK.good hW (tb2 (i := 82) rfl) rfl), (List.forall_mem_cons.mpr ⟨(fun _ => hK.good hW (tb2 (i := 38) rfl) rfl), (List.forall_mem_cons.mpr ⟨(fun _ => hK.good hW (tb2 (i := 48) rfl) rfl), (List.forall_mem_cons.mpr ⟨(fun h => absurd h (by simp [vx_no])), (List.forall_mem_cons.mpr ⟨(fun _ => hK.good hW (tb2 (i := 50) rfl) rfl), (List.forall_mem_cons.mpr ⟨(fun h => absurd h (by simp [vx_no])), (List.forall_mem_cons.mpr ⟨(fun _ => hK.good hW (tb2 (i := 40) rfl) rfl), (List.forall_mem_cons.mpr ⟨(fun _ => hK.good hW (tb2 (i := 76) rfl) rfl), (List.forall_mem_cons.mpr ⟨(fun _ => hK.good hW (tb2 (i := 77) rfl) rfl), (List.forall_mem_cons.mpr ⟨(fun _ => hK.good hW (tb2 (i := 79) rfl) rfl), (List.forall_mem_cons.mpr ⟨(fun _ => hK.good hW (tb2 (i := 40) rfl) rfl), (List.forall_mem_cons.mpr ⟨(fun _ => hK.good hW (tb3 (i := 78) rfl) rfl), (List.forall_mem_cons.mpr ⟨(fun _ => hK.good hW (tb3 (i := 79) rfl) rfl), (List.forall_mem_cons.mpr ⟨(fun _ => hK.good hW (tb3 (i := 80) rfl) rfl), (List.forall_mem_cons.mpr ⟨(fun _ => hK.good hW (tb2 (i := 70) rfl) rfl), (List.forall_mem_cons.mpr ⟨(fun _ => va_Nw.use rfl (va_Nw.warmD hW (va_Nw.of rfl (hK.1 _ (tb2 (i := 26) rfl))))), (List.forall_mem_cons.mpr ⟨(fun _ => hK.good hW (tb2 (i := 70) rfl) rfl), (List.forall_mem_cons.mpr ⟨(fun _ => hK.good hW (tb2 (i := 71) rfl) rfl), (List.forall_mem_cons.mpr ⟨(fun _ => hK.good hW (tb2 (i := 72) rfl) rfl), (List.forall_mem_cons.mpr ⟨(fun _ => hK.good hW (tb2 (i := 73) rfl) rfl), (List.forall_mem_cons.mpr ⟨(fun _ => va_Nw.use rfl (va_Nw.warmD hW (va_Nw.of rfl (hK.1 _ (tb2 (i := 28) rfl))))), (List.forall_mem_cons.mpr ⟨(fun _ => hK.good hW (tb2 (i := 73) rfl) rfl), (List.forall_mem_cons.mpr ⟨(fun _ => hK.good hW (tb2 (i := 74) rfl) rfl), (List.forall_mem_cons.mpr ⟨(fun _ => hK.good hW (tb2 (i := 75) rfl) rfl), (List.forall_mem_cons.mpr ⟨(fun _ => hK.good hW (tb2 (i := 76) rfl) rfl), (List.forall_mem_cons.mpr ⟨(fun _ => va_Nw.use rfl (va_Nw.warmD hW (va_Nw.of rfl (hK.1 _ (tb2 (i := 30) rfl))))), (List.forall_mem_cons.mpr ⟨(fun _ => hK.good hW (tb3 (i := 77) rfl) rfl), (List.forall_mem_cons.mpr ⟨(fun _ => hK.good hW (tb3 (i := 68) rfl) rfl), (List.forall_mem_cons.mpr ⟨(fun _ => hK.good hW (tb3 (i := 70) rfl) rfl), (List.forall_mem_cons.mpr ⟨(fun _ => hK.good hW (tb2 (i := 58) rfl) rfl), (List.forall_mem_cons.mpr ⟨(fun _ => hK.good hW (tb3 (i := 71) rfl) rfl), (List.forall_mem_cons.mpr ⟨(fun _ => hK.good hW (tb3 (i := 72) rfl) rfl), (List.forall_mem_cons.mpr ⟨(fun _ => hK.good hW (tb3 (i := 73) rfl) rfl), (List.forall_mem_cons.mpr ⟨(fun _ => hK.good hW (tb3 (i := 74) rfl) rfl), (List.forall_mem_cons.mpr ⟨(fun h => absurd h (by simp [vx_no])), (List.forall_mem_cons.mpr ⟨(fun h => absurd h (by simp [vx_no])), (List.forall_mem_cons.mpr ⟨(fun _ => hK.good hW (tb2 (i := 43) rfl) rfl), (List.forall_mem_cons.mpr ⟨(fun _ => hK.good hW (tb2 (i := 42) rfl) rfl), (List.forall_mem_cons.mpr ⟨(fun _ => hK.good hW (tb3 (i := 75) rfl) rfl), (fun _ h => nomatch h)⟩)⟩)⟩)⟩)⟩)⟩)⟩)⟩)⟩)⟩)⟩)⟩)⟩)⟩)⟩)⟩)⟩)⟩)⟩)⟩)⟩)⟩)⟩)⟩)⟩)⟩)⟩)⟩)⟩)⟩)⟩)⟩)⟩)⟩)⟩)⟩)⟩)⟩)⟩)⟩)⟩)⟩)⟩)⟩)⟩)⟩)⟩)⟩)⟩)⟩)⟩)⟩)⟩)⟩)⟩)⟩)
  exact fun w hw => h w (List.mem_filter.mp hw).1 (List.mem_filter.mp hw).2
set_option maxRecDepth 10000 in
theorem thr_UOE : thrW 148 152 "java/lang/UnsupportedOperationException" 7 prog_35_method_2_code := by
  refine ⟨(tb3 (i := 29) rfl), (tb1 (i := 23) rfl), (tb3 (i := 30) rfl), by decide +kernel, by decide +kernel, by decide +kernel, by decide +kernel, by decide +kernel, ?_⟩
  intro X U args hK hW
  have h : ∀ w ∈ ownA "Hopyard" 152 "java/lang/UnsupportedOperationException" 7 prog_35_method_2_code, vx_no w = true → w.before args U = true := by
    simp only [ownA, Bundle.throwableAtoms, Bundle.throwableSAtoms, Bundle.chainSAtoms, Bundle.passSAtoms, List.cons_append, List.nil_append]
    exact (List.forall_mem_cons.mpr ⟨(fun _ => hK.good hW (tb1 (i := 11) rfl) rfl), (List.forall_mem_cons.mpr ⟨(fun _ => hK.good hW (tb2 (i := 44) rfl) rfl), (List.forall_mem_cons.mpr ⟨(fun _ => hK.good hW (tb2 (i := 53) rfl) rfl), (List.forall_mem_cons.mpr ⟨(fun _ => hK.good hW (tb2 (i := 59) rfl) rfl), (List.forall_mem_cons.mpr ⟨(fun _ => hK.good hW (tb2 (i := 62) rfl) rfl), (List.forall_mem_cons.mpr ⟨(fun _ => hK.good hW (tb2 (i := 64) rfl) rfl), (List.forall_mem_cons.mpr ⟨(fun _ => hK.good hW (tb2 (i := 45) rfl) rfl), (List.forall_mem_cons.mpr ⟨(fun _ => hK.good hW (tb2 (i := 46) rfl) rfl), (List.forall_mem_cons.mpr ⟨(fun _ => hK.good hW (tb1 (i := 42) rfl) rfl), (List.forall_mem_cons.mpr ⟨(fun _ => hK.good hW (tb1 (i := 43) rfl) rfl), (List.forall_mem_cons.mpr ⟨(fun _ => hK.good hW (tb2 (i := 47) rfl) rfl), (List.forall_mem_cons.mpr ⟨(fun _ => hK.good hW (tb2 (i := 52) rfl) rfl), (List.forall_mem_cons.mpr ⟨(fun _ => hK.good hW (tb2 (i := 60) rfl) rfl), (List.forall_mem_cons.mpr ⟨(fun _ => hK.good hW (tb2 (i := 80) rfl) rfl), (List.forall_mem_cons.mpr ⟨(fun _ => hK.good hW (tb2 (i := 34) rfl) rfl), (List.forall_mem_cons.mpr ⟨(fun _ => hK.good hW (tb2 (i := 81) rfl) rfl), (List.forall_mem_cons.mpr ⟨(fun _ => hK.good hW (tb2 (i := 36) rfl) rfl), (List.forall_mem_cons.mpr ⟨(fun _ => hK.good hW (tb2 (i := 82) rfl) rfl), (List.forall_mem_cons.mpr ⟨(fun _ => hK.good hW (tb2 (i := 38) rfl) rfl), (List.forall_mem_cons.mpr ⟨(fun _ => hK.good hW (tb2 (i := 48) rfl) rfl), (List.forall_mem_cons.mpr ⟨(fun h => absurd h (by simp [vx_no])), (List.forall_mem_cons.mpr ⟨(fun _ => hK.good hW (tb2 (i := 50) rfl) rfl), (List.forall_mem_cons.mpr ⟨(fun h => absurd h (by simp [vx_no])), (List.forall_mem_cons.mpr ⟨(fun _ => hK.good hW (tb2 (i := 40) rfl) rfl), (List.forall_mem_cons.mpr ⟨(fun _ => hK.good hW (tb2 (i := 76) rfl) rfl), (List.forall_mem_cons.mpr ⟨(fun _ => hK.good hW (tb2 (i := 77) rfl) rfl), (List.forall_mem_cons.mpr ⟨(fun _ => hK.good hW (tb2 (i := 79) rfl) rfl), (List.forall_mem_cons.mpr ⟨(fun _ => hK.good hW (tb2 (i := 40) rfl) rfl), (List.forall_mem_cons.mpr ⟨(fun _ => hK.good hW (tb3 (i := 40) rfl) rfl), (List.forall_mem_cons.mpr ⟨(fun _ => hK.good hW (tb3 (i := 41) rfl) rfl), (List.forall_mem_cons.mpr ⟨(fun _ => hK.good hW (tb3 (i := 42) rfl) rfl), (List.forall_mem_cons.mpr ⟨(fun _ => hK.good hW (tb2 (i := 70) rfl) rfl), (List.forall_mem_cons.mpr ⟨(fun _ => va_Nw.use rfl (va_Nw.warmD hW (va_Nw.of rfl (hK.1 _ (tb2 (i := 26) rfl))))), (List.forall_mem_cons.mpr ⟨(fun _ => hK.good hW (tb2 (i := 70) rfl) rfl), (List.forall_mem_cons.mpr ⟨(fun _ => hK.good hW (tb2 (i := 71) rfl) rfl), (List.forall_mem_cons.mpr ⟨(fun _ => hK.good hW (tb2 (i := 72) rfl) rfl), (List.forall_mem_cons.mpr ⟨(fun _ => hK.good hW (tb2 (i := 73) rfl) rfl), (List.forall_mem_cons.mpr ⟨(fun _ => va_Nw.use rfl (va_Nw.warmD hW (va_Nw.of rfl (hK.1 _ (tb2 (i := 28) rfl))))), (List.forall_mem_cons.mpr ⟨(fun _ => hK.good hW (tb2 (i := 73) rfl) rfl), (List.forall_mem_cons.mpr ⟨(fun _ => hK.good hW (tb2 (i := 74) rfl) rfl), (List.forall_mem_cons.mpr ⟨(fun _ => hK.good hW (tb2 (i := 75) rfl) rfl), (List.forall_mem_cons.mpr ⟨(fun _ => hK.good hW (tb2 (i := 76) rfl) rfl), (List.forall_mem_cons.mpr ⟨(fun _ => va_Nw.use rfl (va_Nw.warmD hW (va_Nw.of rfl (hK.1 _ (tb2 (i := 30) rfl))))), (List.forall_mem_cons.mpr ⟨(fun _ => hK.good hW (tb3 (i := 39) rfl) rfl), (List.forall_mem_cons.mpr ⟨(fun _ => hK.good hW (tb3 (i := 30) rfl) rfl), (List.forall_mem_cons.mpr ⟨(fun _ => hK.good hW (tb3 (i := 32) rfl) rfl), (List.forall_mem_cons.mpr ⟨(fun _ => hK.good hW (tb2 (i := 57) rfl) rfl), (List.forall_mem_cons.mpr ⟨(fun _ => hK.good hW (tb3 (i := 33) rfl) rfl), (List.forall_mem_cons.mpr ⟨(fun _ => hK.good hW (tb3 (i := 34) rfl) rfl), (List.forall_mem_cons.mpr ⟨(fun _ => hK.good hW (tb3 (i := 35) rfl) rfl), (List.forall_mem_cons.mpr ⟨(fun _ => hK.good hW (tb3 (i := 36) rfl) rfl), (List.forall_mem_cons.mpr ⟨(fun h => absurd h (by simp [vx_no])), (List.forall_mem_cons.mpr ⟨(fun h => absurd h (by simp [vx_no])), (List.forall_mem_cons.mpr ⟨(fun _ => hK.good hW (tb2 (i := 43) rfl) rfl), (List.forall_mem_cons.mpr ⟨(fun _ => hK.good hW (tb2 (i := 42) rfl) rfl), (List.forall_mem_cons.mpr ⟨(fun _ => hK.good hW (tb3 (i := 37) rfl) rfl), (fun _ h => nomatch h)⟩)⟩)⟩)⟩)⟩)⟩)⟩)⟩)⟩)⟩)⟩)⟩)⟩)⟩)⟩)⟩)⟩)⟩)⟩)⟩)⟩)⟩)⟩)⟩)⟩)⟩)⟩)⟩)⟩)⟩)⟩)⟩)⟩)⟩)⟩)⟩)⟩)⟩)⟩)⟩)⟩)⟩)⟩)⟩)⟩)⟩)⟩)⟩)⟩)⟩)⟩)⟩)⟩)⟩)⟩)⟩)
  exact fun w hw => h w (List.mem_filter.mp hw).1 (List.mem_filter.mp hw).2
set_option maxRecDepth 10000 in
theorem thr_IOB : thrW 315 319 "java/lang/IndexOutOfBoundsException" 7 prog_23_method_2_code := by
  refine ⟨(tb3 (i := 8) rfl), (tb1 (i := 21) rfl), (tb3 (i := 9) rfl), by decide +kernel, by decide +kernel, by decide +kernel, by decide +kernel, by decide +kernel, ?_⟩
  intro X U args hK hW
  have h : ∀ w ∈ ownA "Hopyard" 319 "java/lang/IndexOutOfBoundsException" 7 prog_23_method_2_code, vx_no w = true → w.before args U = true := by
    simp only [ownA, Bundle.throwableAtoms, Bundle.throwableSAtoms, Bundle.chainSAtoms, Bundle.passSAtoms, List.cons_append, List.nil_append]
    exact (List.forall_mem_cons.mpr ⟨(fun _ => hK.good hW (tb1 (i := 11) rfl) rfl), (List.forall_mem_cons.mpr ⟨(fun _ => hK.good hW (tb2 (i := 44) rfl) rfl), (List.forall_mem_cons.mpr ⟨(fun _ => hK.good hW (tb2 (i := 53) rfl) rfl), (List.forall_mem_cons.mpr ⟨(fun _ => hK.good hW (tb2 (i := 59) rfl) rfl), (List.forall_mem_cons.mpr ⟨(fun _ => hK.good hW (tb2 (i := 62) rfl) rfl), (List.forall_mem_cons.mpr ⟨(fun _ => hK.good hW (tb2 (i := 64) rfl) rfl), (List.forall_mem_cons.mpr ⟨(fun _ => hK.good hW (tb2 (i := 45) rfl) rfl), (List.forall_mem_cons.mpr ⟨(fun _ => hK.good hW (tb2 (i := 46) rfl) rfl), (List.forall_mem_cons.mpr ⟨(fun _ => hK.good hW (tb1 (i := 42) rfl) rfl), (List.forall_mem_cons.mpr ⟨(fun _ => hK.good hW (tb1 (i := 43) rfl) rfl), (List.forall_mem_cons.mpr ⟨(fun _ => hK.good hW (tb2 (i := 47) rfl) rfl), (List.forall_mem_cons.mpr ⟨(fun _ => hK.good hW (tb2 (i := 52) rfl) rfl), (List.forall_mem_cons.mpr ⟨(fun _ => hK.good hW (tb2 (i := 60) rfl) rfl), (List.forall_mem_cons.mpr ⟨(fun _ => hK.good hW (tb2 (i := 80) rfl) rfl), (List.forall_mem_cons.mpr ⟨(fun _ => hK.good hW (tb2 (i := 34) rfl) rfl), (List.forall_mem_cons.mpr ⟨(fun _ => hK.good hW (tb2 (i := 81) rfl) rfl), (List.forall_mem_cons.mpr ⟨(fun _ => hK.good hW (tb2 (i := 36) rfl) rfl), (List.forall_mem_cons.mpr ⟨(fun _ => hK.good hW (tb2 (i := 82) rfl) rfl), (List.forall_mem_cons.mpr ⟨(fun _ => hK.good hW (tb2 (i := 38) rfl) rfl), (List.forall_mem_cons.mpr ⟨(fun _ => hK.good hW (tb2 (i := 48) rfl) rfl), (List.forall_mem_cons.mpr ⟨(fun h => absurd h (by simp [vx_no])), (List.forall_mem_cons.mpr ⟨(fun _ => hK.good hW (tb2 (i := 50) rfl) rfl), (List.forall_mem_cons.mpr ⟨(fun h => absurd h (by simp [vx_no])), (List.forall_mem_cons.mpr ⟨(fun _ => hK.good hW (tb2 (i := 40) rfl) rfl), (List.forall_mem_cons.mpr ⟨(fun _ => hK.good hW (tb2 (i := 76) rfl) rfl), (List.forall_mem_cons.mpr ⟨(fun _ => hK.good hW (tb2 (i := 77) rfl) rfl), (List.forall_mem_cons.mpr ⟨(fun _ => hK.good hW (tb2 (i := 79) rfl) rfl), (List.forall_mem_cons.mpr ⟨(fun _ => hK.good hW (tb2 (i := 40) rfl) rfl), (List.forall_mem_cons.mpr ⟨(fun _ => hK.good hW (tb3 (i := 19) rfl) rfl), (List.forall_mem_cons.mpr ⟨(fun _ => hK.good hW (tb3 (i := 20) rfl) rfl), (List.forall_mem_cons.mpr ⟨(fun _ => hK.good hW (tb3 (i := 21) rfl) rfl), (List.forall_mem_cons.mpr ⟨(fun _ => hK.good hW (tb2 (i := 70) rfl) rfl), (List.forall_mem_cons.mpr ⟨(fun _ => va_Nw.use rfl (va_Nw.warmD hW (va_Nw.of rfl (hK.1 _ (tb2 (i := 26) rfl))))), (List.forall_mem_cons.mpr ⟨(fun _ => hK.good hW (tb2 (i := 70) rfl) rfl), (List.forall_mem_cons.mpr ⟨(fun _ => hK.good hW (tb2 (i := 71) rfl) rfl), (List.forall_mem_cons.mpr ⟨(fun _ => hK.good hW (tb2 (i := 72) rfl) rfl), (List.forall_mem_cons.mpr ⟨(fun _ => hK.good hW (tb2 (i := 73) rfl) rfl), (List.forall_mem_cons.mpr ⟨(fun _ => va_Nw.use rfl (va_Nw.warmD hW (va_Nw.of rfl (hK.1 _ (tb2 (i := 28) rfl))))), (List.forall_mem_cons.mpr ⟨(fun _ => hK.good hW (tb2 (i := 73) rfl) rfl), (List.forall_mem_cons.mpr ⟨(fun _ => hK.good hW (tb2 (i := 74) rfl) rfl), (List.forall_mem_cons.mpr ⟨(fun _ => hK.good hW (tb2 (i := 75) rfl) rfl), (List.forall_mem_cons.mpr ⟨(fun _ => hK.good hW (tb2 (i := 76) rfl) rfl), (List.forall_mem_cons.mpr ⟨(fun _ => va_Nw.use rfl (va_Nw.warmD hW (va_Nw.of rfl (hK.1 _ (tb2 (i := 30) rfl))))), (List.forall_mem_cons.mpr ⟨(fun _ => hK.good hW (tb3 (i := 18) rfl) rfl), (List.forall_mem_cons.mpr ⟨(fun _ => hK.good hW (tb3 (i := 9) rfl) rfl), (List.forall_mem_cons.mpr ⟨(fun _ => hK.good hW (tb3 (i := 11) rfl) rfl), (List.forall_mem_cons.mpr ⟨(fun _ => hK.good hW (tb2 (i := 56) rfl) rfl), (List.forall_mem_cons.mpr ⟨(fun _ => hK.good hW (tb3 (i := 12) rfl) rfl), (List.forall_mem_cons.mpr ⟨(fun _ => hK.good hW (tb3 (i := 13) rfl) rfl), (List.forall_mem_cons.mpr ⟨(fun _ => hK.good hW (tb3 (i := 14) rfl) rfl), (List.forall_mem_cons.mpr ⟨(fun _ => hK.good hW (tb3 (i := 15) rfl) rfl), (List.forall_mem_cons.mpr ⟨(fun h => absurd h (by simp [vx_no])), (List.forall_mem_cons.mpr ⟨(fun h => absurd h (by simp [vx_no])), (List.forall_mem_cons.mpr ⟨(fun _ => hK.good hW (tb2 (i := 43) rfl) rfl), (List.forall_mem_cons.mpr ⟨(fun _ => hK.good hW (tb2 (i := 42) rfl) rfl), (List.forall_mem_cons.mpr ⟨(fun _ => hK.good hW (tb3 (i := 16) rfl) rfl), (fun _ h => nomatch h)⟩)⟩)⟩)⟩)⟩)⟩)⟩)⟩)⟩)⟩)⟩)⟩)⟩)⟩)⟩)⟩)⟩)⟩)⟩)⟩)⟩)⟩)⟩)⟩)⟩)⟩)⟩)⟩)⟩)⟩)⟩)⟩)⟩)⟩)⟩)⟩)⟩)⟩)⟩)⟩)⟩)⟩)⟩)⟩)⟩)⟩)⟩)⟩)⟩)⟩)⟩)⟩)⟩)⟩)⟩)⟩)
  exact fun w hw => h w (List.mem_filter.mp hw).1 (List.mem_filter.mp hw).2
section THR
variable {X : Cx} {M : Mt} {d pc : Nat} {ls : List (Option Value)} {rest : List Value} {σ τ : Hp} {o : Rs}
theorem K0.zq {U : State} (hK : K0 X) (hW : X.s0.WarmedH U.vm) (hq : ∀ q, q < X.b0 → U.heap[q]? = X.s0.heap[q]?) :
    vx_Zq Bundle.tN "UNASSIGNED_STACK" Bundle.steD (fun q => X.b0 ≤ q) U U.heap ∧ vx_Zq Bundle.tN "SUPPRESSED_SENTINEL" Bundle.listD (fun q => X.b0 ≤ q) U U.heap :=
  ⟨(vx_Zq.moved hW.alike hK.2.2.1).kept (fun a _ h2 => hq a (Nat.not_le.mp h2)), (vx_Zq.moved hW.alike hK.2.2.2.1).kept (fun a _ h2 => hq a (Nat.not_le.mp h2))⟩
set_option maxHeartbeats 1000000 in
theorem Ev.thr {ik is ic i1 : Nat} {E tx : String} {b1 : ByteArray} (hT : thrW ik ic E i1 b1) (hM : M.y.cls = "Hopyard") (hh : M.hh = []) (hd : 6 ≤ d) (hsm : (rest.map fun v => v.category).sum ≤ 60) (hs : Cond.stringRef "Hopyard" is tx ∈ lw_tbl)
    (d0 : decode M.cc pc = .ok (.new ik, 3)) (d3 : decode M.cc (pc + 3) = .ok (.dup, 1)) (d4 : decode M.cc (pc + 4) = .ok (.ldc is, 2)) (d6 : decode M.cc (pc + 6) = .ok (.invokespecial ic, 3)) (d9 : decode M.cc (pc + 9) = .ok (.athrow, 1)) : Ev X M d pc ls rest σ (.inr E) σ.ex :=
  ⟨Nat.le_succ _, Nat.le_add_right _ _, Nat.le_succ _, fun p l e R s m args below meth c H locs k0 n0 la hF hRf hRl g1 g2 g3 g4 g5 hH hlo hl => by
    obtain ⟨hx, hb, hml, hret, hlk, hown, -, htab, hst, hK, hW, hbs, hbq⟩ := hF
    obtain ⟨t1, t2, t2i, t3, b0, b1', b2, b5, t5⟩ := hT
    obtain ⟨sa, hsa⟩ := hK.2.2.2.2.2.2.1 is tx hs
    have e1 : σ.ex.cl = σ.cl + 1 := rfl
    have e2 : σ.ex.sl = σ.sl + 6 := rfl
    intro T hT0 Z
    have htr : e.platform.stackTraces = false := (show e.platform.stackTraces = l.stackTraces by rw [Z.admits.platform]).trans hst
    have Y := vx_rebase Z (R' := { frames := R.frames, locals := R.locals, cells := 1, slots := 6 }) (Nat.le_refl _) (Nat.le_refl _) (by show _ + 1 ≤ _; omega) (by show _ + 6 ≤ _; omega)
    obtain ⟨s', hA⟩ : ∃ z, z = (T.setVm s.vm).setFrames (.invoking m args :: below) := ⟨_, rfl⟩
    rw [← hA] at Y
    have hvm : s'.vm = s.vm := by rw [hA]; rfl
    have hhp : s'.heap = H := by rw [hA]; exact hT0
    have hW0 : s.WarmedH s'.vm := by rw [hvm]; exact State.WarmedH.refl s
    have hW' : X.s0.WarmedH s'.vm := by rw [hvm]; exact hW
    obtain ⟨hU', hN'⟩ := K0.zq (U := s') hK hW' (fun q hq => by rw [hhp]; exact hH.2.2.2.2 q hq)
    have h : ∀ w ∈ ownA "Hopyard" ic E i1 b1, w.before args s' = true := vx_own (t5 X s' args hK hW') (vx_isRefq hU'.1) (vx_isRefq hN'.1) hU'.2.word hN'.2.word
    have hown' : s'.vm.findClass "Hopyard" = some m.cls := by rw [hvm, ← hM]; exact hown
    obtain ⟨vm₁, cX, kX, hfX, hkX, -, -, X₁, st1⟩ := Y.newCold hx (own := "Hopyard") (C := E) (index := ik) (n := 6) hown' (hK.good hW' t1 rfl) (hK.good hW' t2i rfl) (hK.good hW' t2 rfl)
      (g := F0 m pc la rest) rfl (by rw [hb]; exact d0) (Nat.le_refl _) (Nat.le_refl _)
    generalize hT1 : (T.setVm vm₁).pushCell { cls := cX, slots := kX.instanceTypes.map defaultValue, vm := .none } = T1 at X₁ st1
    have hcat : (Value.ref T.heap.size).category = 1 := rfl
    have hcellA : T1.heap[T.heap.size]? = some (freshCell cX kX) := by rw [← hT1]; exact State.heap_pushCell_size _ _
    have hs1 : T1.heap.size = T.heap.size + 1 := by rw [← hT1, size_pushCell]; rfl
    have ho1 : ∀ q, q < T.heap.size → T1.heap[q]? = T.heap[q]? := fun q hq => by
      rw [← hT1]
      show (T.heap.push _)[q]? = _
      rw [Array.getElem?_push, if_neg (by omega)]
    have d3' : decode c.code (pc + 3) = .ok (.dup, 1) := by rw [hb]; exact d3
    have d4' : decode c.code (pc + 4) = .ok (.ldc is, 2) := by rw [hb]; exact d4
    have hstr' : vk_R "Hopyard" is tx sa s' := vk_R.warm hW' hsa
    obtain ⟨U, hsteps, hrun, hend, hWU, hsame, hUs, hUq, ce, hce, hcv, hcc⟩ := sx_ctor X₁ hx htr (own := "Hopyard") (cls := E) (ic := ic) hown' t3 b0 b1' b2 b5 h (fun x hx => nomatch hx) hfX hkX hcellA (by rw [hhp, hT0]; exact Nat.le_refl _) (msg := .ref sa) rfl
      (g := { method := m, pc := pc + 6, locals := la, stack := .ref sa :: .ref T.heap.size :: .ref T.heap.size :: rest, locked := none }) rfl (by rw [hml]; exact hl.1) rfl rfl (rest := rest) rfl
      (by rw [hb]; exact d6) (by rw [hb]; exact d9) (fun x hx => by rw [htab, hh] at hx; exact nomatch hx) (by show 5 < R.frames; omega) (by simp only [List.map_cons, List.sum_cons, hcat]; show 2 * 0 + _ + 81 ≤ R.locals; omega) hlk
    have hWs : s.WarmedH U.vm := State.WarmedH.trans hW0 hWU
    have hcl : s.vm.findClass E = some ce.cls := by rw [← hvm]; exact hcc
    have hall : s.sameButNew ({ U with vm := s.vm } : State) locs (σ.ex.cl - k0) (σ.ex.sl - n0) := by
      subst hA
      obtain ⟨e3, e4⟩ := hsame
      rw [State.setFrames_setFrames] at e3
      have h2 : (T.setVm s.vm).sameButNew ({ U with vm := s.vm } : State) [] (0 + 1) (0 + 6) := ⟨e3, e4⟩
      have h3 := Z.same.trans h2
      rw [List.append_nil] at h3
      exact h3.mono (by omega) (by omega)
    have hUH : HS X σ.ex U.heap := hH.exn (by rw [hUs, hs1, hT0]) (fun q hq => by
      rw [← hT0] at hq ⊢
      rw [hUq q (Nat.ne_of_lt hq), ho1 q hq])
    refine ⟨U, ?_, .threw T.heap.size, hrun, hend, Or.inr ⟨T.heap.size, rfl, E, ce, locs, ⟨rfl, hUH⟩, hce, hcv, hcl, hWs, hall, hlo⟩⟩
    refine st1 _ ?_
    show Steps p.tables e below (T1.setTop { method := m, pc := pc + 3, locals := la, stack := .ref T.heap.size :: rest, locked := none }) _
    jvm_step X₁.here [X₁.here.top, hx, d3', Value.category]
    exact X₁.ldcString hx (own := "Hopyard") (text := tx) (index := is) (a := sa) hown' hstr'.1 hstr'.2
      (g := { method := m, pc := pc + 4, locals := la, stack := .ref T.heap.size :: .ref T.heap.size :: rest, locked := none }) rfl d4' _ hsteps⟩
set_option maxHeartbeats 1000000 in
theorem Ev.thrW {ik is ic i1 : Nat} {E tx : String} {b1 : ByteArray} (hT : thrW ik ic E i1 b1) (hM : M.y.cls = "Hopyard") (hh : M.hh = []) (hd : 6 ≤ d) (hsm : (rest.map fun v => v.category).sum ≤ 60) (hs : Cond.stringRef "Hopyard" is tx ∈ lw_tbl)
    (d0 : decode M.cc pc = .ok (.new ik, 3)) (d3 : decode M.cc (pc + 3) = .ok (.dup, 1)) (d4 : decode M.cc (pc + 4) = .ok (.ldc_w is, 3)) (d6 : decode M.cc (pc + 7) = .ok (.invokespecial ic, 3)) (d9 : decode M.cc (pc + 10) = .ok (.athrow, 1)) : Ev X M d pc ls rest σ (.inr E) σ.ex :=
  ⟨Nat.le_succ _, Nat.le_add_right _ _, Nat.le_succ _, fun p l e R s m args below meth c H locs k0 n0 la hF hRf hRl g1 g2 g3 g4 g5 hH hlo hl => by
    obtain ⟨hx, hb, hml, hret, hlk, hown, -, htab, hst, hK, hW, hbs, hbq⟩ := hF
    obtain ⟨t1, t2, t2i, t3, b0, b1', b2, b5, t5⟩ := hT
    obtain ⟨sa, hsa⟩ := hK.2.2.2.2.2.2.1 is tx hs
    have e1 : σ.ex.cl = σ.cl + 1 := rfl
    have e2 : σ.ex.sl = σ.sl + 6 := rfl
    intro T hT0 Z
    have htr : e.platform.stackTraces = false := (show e.platform.stackTraces = l.stackTraces by rw [Z.admits.platform]).trans hst
    have Y := vx_rebase Z (R' := { frames := R.frames, locals := R.locals, cells := 1, slots := 6 }) (Nat.le_refl _) (Nat.le_refl _) (by show _ + 1 ≤ _; omega) (by show _ + 6 ≤ _; omega)
    obtain ⟨s', hA⟩ : ∃ z, z = (T.setVm s.vm).setFrames (.invoking m args :: below) := ⟨_, rfl⟩
    rw [← hA] at Y
    have hvm : s'.vm = s.vm := by rw [hA]; rfl
    have hhp : s'.heap = H := by rw [hA]; exact hT0
    have hW0 : s.WarmedH s'.vm := by rw [hvm]; exact State.WarmedH.refl s
    have hW' : X.s0.WarmedH s'.vm := by rw [hvm]; exact hW
    obtain ⟨hU', hN'⟩ := K0.zq (U := s') hK hW' (fun q hq => by rw [hhp]; exact hH.2.2.2.2 q hq)
    have h : ∀ w ∈ ownA "Hopyard" ic E i1 b1, w.before args s' = true := vx_own (t5 X s' args hK hW') (vx_isRefq hU'.1) (vx_isRefq hN'.1) hU'.2.word hN'.2.word
    have hown' : s'.vm.findClass "Hopyard" = some m.cls := by rw [hvm, ← hM]; exact hown
    obtain ⟨vm₁, cX, kX, hfX, hkX, -, -, X₁, st1⟩ := Y.newCold hx (own := "Hopyard") (C := E) (index := ik) (n := 6) hown' (hK.good hW' t1 rfl) (hK.good hW' t2i rfl) (hK.good hW' t2 rfl)
      (g := F0 m pc la rest) rfl (by rw [hb]; exact d0) (Nat.le_refl _) (Nat.le_refl _)
    generalize hT1 : (T.setVm vm₁).pushCell { cls := cX, slots := kX.instanceTypes.map defaultValue, vm := .none } = T1 at X₁ st1
    have hcat : (Value.ref T.heap.size).category = 1 := rfl
    have hcellA : T1.heap[T.heap.size]? = some (freshCell cX kX) := by rw [← hT1]; exact State.heap_pushCell_size _ _
    have hs1 : T1.heap.size = T.heap.size + 1 := by rw [← hT1, size_pushCell]; rfl
    have ho1 : ∀ q, q < T.heap.size → T1.heap[q]? = T.heap[q]? := fun q hq => by
      rw [← hT1]
      show (T.heap.push _)[q]? = _
      rw [Array.getElem?_push, if_neg (by omega)]
    have d3' : decode c.code (pc + 3) = .ok (.dup, 1) := by rw [hb]; exact d3
    have d4' : decode c.code (pc + 4) = .ok (.ldc_w is, 3) := by rw [hb]; exact d4
    have hstr' : vk_R "Hopyard" is tx sa s' := vk_R.warm hW' hsa
    obtain ⟨U, hsteps, hrun, hend, hWU, hsame, hUs, hUq, ce, hce, hcv, hcc⟩ := sx_ctor X₁ hx htr (own := "Hopyard") (cls := E) (ic := ic) hown' t3 b0 b1' b2 b5 h (fun x hx => nomatch hx) hfX hkX hcellA (by rw [hhp, hT0]; exact Nat.le_refl _) (msg := .ref sa) rfl
      (g := { method := m, pc := pc + 7, locals := la, stack := .ref sa :: .ref T.heap.size :: .ref T.heap.size :: rest, locked := none }) rfl (by rw [hml]; exact hl.1) rfl rfl (rest := rest) rfl
      (by rw [hb]; exact d6) (by rw [hb]; exact d9) (fun x hx => by rw [htab, hh] at hx; exact nomatch hx) (by show 5 < R.frames; omega) (by simp only [List.map_cons, List.sum_cons, hcat]; show 2 * 0 + _ + 81 ≤ R.locals; omega) hlk
    have hWs : s.WarmedH U.vm := State.WarmedH.trans hW0 hWU
    have hcl : s.vm.findClass E = some ce.cls := by rw [← hvm]; exact hcc
    have hall : s.sameButNew ({ U with vm := s.vm } : State) locs (σ.ex.cl - k0) (σ.ex.sl - n0) := by
      subst hA
      obtain ⟨e3, e4⟩ := hsame
      rw [State.setFrames_setFrames] at e3
      have h2 : (T.setVm s.vm).sameButNew ({ U with vm := s.vm } : State) [] (0 + 1) (0 + 6) := ⟨e3, e4⟩
      have h3 := Z.same.trans h2
      rw [List.append_nil] at h3
      exact h3.mono (by omega) (by omega)
    have hUH : HS X σ.ex U.heap := hH.exn (by rw [hUs, hs1, hT0]) (fun q hq => by
      rw [← hT0] at hq ⊢
      rw [hUq q (Nat.ne_of_lt hq), ho1 q hq])
    refine ⟨U, ?_, .threw T.heap.size, hrun, hend, Or.inr ⟨T.heap.size, rfl, E, ce, locs, ⟨rfl, hUH⟩, hce, hcv, hcl, hWs, hall, hlo⟩⟩
    refine st1 _ ?_
    show Steps p.tables e below (T1.setTop { method := m, pc := pc + 3, locals := la, stack := .ref T.heap.size :: rest, locked := none }) _
    jvm_step X₁.here [X₁.here.top, hx, d3', Value.category]
    exact X₁.ldcStringW hx (own := "Hopyard") (text := tx) (index := is) (a := sa) hown' hstr'.1 hstr'.2
      (g := { method := m, pc := pc + 4, locals := la, stack := .ref T.heap.size :: .ref T.heap.size :: rest, locked := none }) rfl d4' _ hsteps⟩
end THR
