/-! new things, statics, the JDK's natives, ends, throws -/
section MAKE
variable {X : Cx} {M : Mt} {d pc : Nat} {ls : List (Option Value)} {rest : List Value} {σ τ : Hp} {o : Rs}
theorem Ev.aast {a : Nat} {i : Int32} {v : Option Nat} (hkd : σ.kd a = 24) (hj : vp_in i (σ.ln a)) (hv : ∀ y, v = some y → 3 ≤ σ.kd y ∧ σ.kd y ≤ 14) (d9 : decode M.cc pc = .ok (.aastore, 1)) (k : Ev X M d (pc + 1) ls rest (σ.setR a i.toNatClampNeg v) o τ) : Ev X M d pc ls (va_rf v :: .int i :: va_rf (some a) :: rest) σ o τ :=
  Ev.step (σ1 := σ.setR a i.toNatClampNeg v) (Nat.le_refl _) (Nat.le_refl _) (Nat.le_refl _) (fun p l e R s m args below meth c H locs cells slots Q la hF _ _ hRc hRs _ hH hlo hl kk => by
    obtain ⟨hx, hb, -, -, -, -, -, -, -, hK, hW, -, -⟩ := hF
    rw [show (σ.setR a i.toNatClampNeg v).cl - σ.cl = 0 from Nat.sub_self _, show (σ.setR a i.toNatClampNeg v).sl - σ.sl = 0 from Nat.sub_self _] at kk
    have hba := hH.2.2.1 a (by omega)
    have hcell := (hH.2.2.2.1 a).2.2.2.2.2 hkd
    have fin : ∀ H1 : Heap, H1[a]? = some ((vp_cell (X.cs 4) (σ.ln a, .inr (.inr (.inr (.inr (σ.rv a)))))).setSlot i.toNatClampNeg (va_rf v)) → H1.size = H.size → (∀ q, q ≠ a → H1[q]? = H[q]?) → W p l e R s m args below meth c H1 (locs ++ [⟨a, i.toNatClampNeg⟩]) cells slots Q (F0 m (pc + 1) la rest) := fun H1 e z oq => by
      refine kk H1 _ la (hH.upd hba.1 rfl rfl rfl (fun _ _ => rfl) (fun b hb => up2_row _ _ _ hb) (fun _ _ => rfl) (fun _ _ => rfl) z oq ⟨fun ci r hk hr => ?_, fun h => ?_, fun h => ?_, fun h => ?_, fun h => ?_, fun _ => ?_⟩) (mem_loc hlo hba.1) hl
      · have := vwCl_lt hr
        have : σ.kd a = ci + 1 := hk
        omega
      rotate_left 4
      · rw [e]
        show _ = some (vp_cell _ (_, .inr (.inr (.inr (.inr (up2 σ.rv a _ v a))))))
        rw [up2_va, vp_cell_q, vp_cell_q, arrV_store]
        congr 2
        funext q
        by_cases hq : q = i.toNatClampNeg
        · subst hq
          simp [updV, va_up]
        · simp [updV, va_up, hq]
      all_goals (have : σ.kd a = _ := h; omega)
    cases v with
    | none => exact va_WaastN (C := "java/lang/Object") hx hb hcell (((hK.va hW).2 4 _ rfl).1 _ (fun j => va_rf (σ.rv a j))) (fun h => by cases h) (by show ¬ (i < 0 ∨ (arrV _ _ _).slots.size ≤ _); rw [arrV_size]; exact hj) rfl rfl d9 fin
    | some y =>
      have hlt : i.toNatClampNeg < σ.ln a := Nat.not_le.mp fun q => hj (Or.inr q)
      obtain ⟨h3, h15⟩ := hv y rfl
      obtain ⟨cellV, g1, g3, ⟨kC, hkC⟩, hasg⟩ := hH.any hK hW h3 h15
      obtain ⟨kA, comp, k1, k2, k3, -⟩ := ((hK.va hW).2 4 _ rfl).2
      obtain ⟨kE, hkE, -⟩ := Vm.findClass_spec k3
      exact W.aast hx hb hcell (fun q h => by cases h) (fun h => by cases h) k1 k2 rfl hkE ⟨fun q => hj (Or.inl q), by show _ < (arrV _ _ _).slots.size; rw [arrV_size]; exact hlt⟩ g1 (fun q h => by rw [h] at g3; cases g3) hkC (hasg _ k3) rfl rfl d9 fin) k
theorem Ev.new {ci ix : Nat} {C : String} {T : u_T} {N : Nat} (hr : vwCl[ci]? = some (C, T, N)) (h2 : 2 ≤ ci) (hw : Cond.classLink M.y.cls ix C ∈ lw_tbl) (hw2 : Cond.instantiable C N ∈ lw_tbl) (hw3 : Cond.initialized C ∈ lw_tbl) (d9 : decode M.cc pc = .ok (.new ix, 3)) (k : Ev X M d (pc + 3) ls (va_rf (some σ.sz) :: rest) (σ.al (ci + 1) 0 N) o τ) : Ev X M d pc ls rest σ o τ :=
  Ev.step (σ1 := σ.al (ci + 1) 0 N) (Nat.le_succ _) (Nat.le_add_right _ _) (Nat.le_succ _) (fun p l e R s m args below meth c H locs cells slots Q la hF _ _ hRc hRs _ hH hlo hl kk => by
    obtain ⟨hx, hb, -, -, -, hown, -, -, -, hK, hW, -, -⟩ := hF
    have e1 : (σ.al (ci + 1) 0 N).cl - σ.cl = 1 := Nat.add_sub_cancel_left ..
    have e2 : (σ.al (ci + 1) 0 N).sl - σ.sl = N := Nat.add_sub_cancel_left ..
    rw [e1] at kk hRc
    rw [e2] at kk hRs
    have hKn := (hK.va hW).1 ci _ hr
    obtain ⟨k1, k2, -, -, k5⟩ := clok ci C T N h2 hr
    have hlt := vwCl_lt hr
    refine W.newcK hx hb hown (hK.good hW hw rfl) (hK.good hW hw2 rfl) (hK.good hW hw3 rfl) rfl d9 hRc hRs hKn.2.1 hH.1 fun H1 kC hkC f1 f2 f3 => ?_
    refine kk H1 locs la (hH.new (by omega) (by rw [f2, hH.1]) (fun q hq => f3 q (by rw [← hH.1]; exact hq)) ⟨fun ci' r hk' hr' => ?_, fun h => ?_, fun h => ?_, fun h => ?_, fun h => ?_, fun h => ?_⟩) hlo hl
    · have e : (σ.al (ci + 1) 0 N).kd σ.sz = ci + 1 := up1_eq _ _ _
      rw [e] at hk'
      have e' : ci' = ci := by omega
      subst e'
      cases hr.symm.trans hr'
      refine t_OB.to (u_born _ (hK.lays (args := args) hW k1) (fun _ h => h) hKn hkC f1 k2) (fun j hj => ?_)
      have a1 : (σ.al (ci' + 1) 0 N).iv σ.sz j = 0 := congrFun (up1_eq _ _ _) j
      have a2 : (σ.al (ci' + 1) 0 N).rv σ.sz j = none := congrFun (up1_eq _ _ _) j
      unfold Hp.fv
      rw [a1, a2]
      exact k5 j hj
    all_goals (have e : (σ.al (ci + 1) 0 N).kd σ.sz = ci + 1 := up1_eq _ _ _; rw [e] at h; omega)) k
def zeroA (X : Cx) (K n : Nat) : Cell := match K with
  | 20 => vp_cell (X.cs 0) (n, .inl (fun _ => 0))
  | 21 => vp_cell (X.cs 1) (n, .inr (.inl (fun _ => 0)))
  | 22 => vp_cell (X.cs 2) (n, .inr (.inr (.inr (.inl (fun _ => 0)))))
  | 23 => vp_cell (X.cs 3) (n, .inl (fun _ => 0))
  | _ => vp_cell (X.cs 4) (n, .inr (.inr (.inr (.inr (fun _ => none)))))
theorem HS.newA {H H1 : Heap} {n K : Nat} {cell : Cell} (hH : HS X σ H) (hK : 20 ≤ K ∧ K ≤ 24) (f1 : H1[σ.sz]? = some cell) (f2 : H1.size = σ.sz + 1) (f3 : ∀ q, q < σ.sz → H1[q]? = H[q]?)
    (hc : cell = zeroA X K n) : HS X (σ.al K n n) H1 := by
  have a0 : (σ.al K n n).kd σ.sz = K := up1_eq _ _ _
  have a1 : (σ.al K n n).ln σ.sz = n := up1_eq _ _ _
  have a2 : (σ.al K n n).iv σ.sz = fun _ => 0 := up1_eq _ _ _
  have a3 : (σ.al K n n).rv σ.sz = fun _ => none := up1_eq _ _ _
  have a4 : (σ.al K n n).lv σ.sz = fun _ => 0 := up1_eq _ _ _
  have a5 : (σ.al K n n).dv σ.sz = fun _ => 0 := up1_eq _ _ _
  refine hH.new (Or.inr hK) (by rw [f2, hH.1]) (fun q hq => f3 q (by rw [← hH.1]; exact hq)) ⟨fun ci r hk hr => ?_, fun h => ?_, fun h => ?_, fun h => ?_, fun h => ?_, fun h => ?_⟩
  · have := vwCl_lt hr
    rw [a0] at hk
    omega
  all_goals (rw [a0] at h; subst h; first | (rw [f1, hc, a1, a2]; rfl) | (rw [f1, hc, a1, a4]; rfl) | (rw [f1, hc, a1, a5]; rfl) | (rw [f1, hc, a1, a3]; rfl))
theorem Ev.newA {K ti : Nat} {at9 : ArrayType} {n : Int32} {j : Nat} (hn : ¬ n < 0) (hj : n.toNatClampNeg = j) (hsm : j ≤ 60000) (hti : (K, ti, at9) = (20, 0, .int) ∨ (K, ti, at9) = (23, 3, .boolean)) (hw : Cond.arrayClass (newarray.typeOf at9) ∈ lw_tbl)
    (d9 : decode M.cc pc = .ok (.newarray at9, 2)) (k : Ev X M d (pc + 2) ls (va_rf (some σ.sz) :: rest) (σ.al K j j) o τ) : Ev X M d pc ls (.int n :: rest) σ o τ :=
  Ev.step (σ1 := σ.al K j j) (Nat.le_succ _) (Nat.le_add_right _ _) (Nat.le_succ _) (fun p l e R s m args below meth c H locs cells slots Q la hF _ _ hRc hRs _ hH hlo hl kk => by
    obtain ⟨hx, hb, -, -, -, hown, -, -, -, hK, hW, -, -⟩ := hF
    have e1 : (σ.al K j j).cl - σ.cl = 1 := Nat.add_sub_cancel_left ..
    have e2 : (σ.al K j j).sl - σ.sl = j := Nat.add_sub_cancel_left ..
    rw [e1] at kk hRc
    rw [e2] at kk hRs
    have hbytes : j * componentBytes (newarray.typeOf at9) ≤ 536870912 := by
      have : componentBytes (newarray.typeOf at9) ≤ 8 := by cases at9 <;> decide
      calc j * componentBytes (newarray.typeOf at9) ≤ 60000 * 8 := Nat.mul_le_mul hsm this
        _ ≤ 536870912 := by decide
    refine va_newaK (h := σ.sz) hx hb (hK.good hW hw rfl) rfl d9 rfl hn hj hbytes hRc hRs hH.1 fun H1 cA f1 f2 f3 _ f5 => ?_
    refine kk H1 locs la (hH.newA (n := j) (K := K) ?_ f1 f2 f3 ?_) hlo hl
    · rcases hti with h | h <;> cases h <;> decide
    · rcases hti with h | h <;> cases h
      · have hc := ((hK.va hW).2 0 _ rfl).2
        have hc : s.vm.findClass ("[" ++ FieldType.int.toString) = some (X.cs 0) := hc
        cases f5.symm.trans hc
        rfl
      · have hc := ((hK.va hW).2 3 _ rfl).2
        have hc : s.vm.findClass ("[" ++ FieldType.boolean.toString) = some (X.cs 3) := hc
        cases f5.symm.trans hc
        rfl) k
theorem Ev.anewA {ix : Nat} {n : Int32} {j : Nat} (hn : ¬ n < 0) (hj : n.toNatClampNeg = j) (hsm : j ≤ 60000) (hw : Cond.classLink M.y.cls ix "java/lang/Object" ∈ lw_tbl)
    (d9 : decode M.cc pc = .ok (.anewarray ix, 3)) (k : Ev X M d (pc + 3) ls (va_rf (some σ.sz) :: rest) (σ.al 24 j j) o τ) : Ev X M d pc ls (.int n :: rest) σ o τ :=
  Ev.step (σ1 := σ.al 24 j j) (Nat.le_succ _) (Nat.le_add_right _ _) (Nat.le_succ _) (fun p l e R s m args below meth c H locs cells slots Q la hF _ _ hRc hRs _ hH hlo hl kk => by
    obtain ⟨hx, hb, -, -, -, hown, -, -, -, hK, hW, -, -⟩ := hF
    have e1 : (σ.al 24 j j).cl - σ.cl = 1 := Nat.add_sub_cancel_left ..
    have e2 : (σ.al 24 j j).sl - σ.sl = j := Nat.add_sub_cancel_left ..
    rw [e1] at kk hRc
    rw [e2] at kk hRs
    subst hj
    have hover : va_AO "java/lang/Object" s := va_AO.moved hW.alike (va_AO.of (hK.1 _ (tb1 (i := 174) rfl)))
    refine W.anew hx hb hown (hK.good hW hw rfl) (va_AO.use hover) rfl d9 rfl hn (by omega) hRc hRs fun cA kA comp f1 f2 f3 f4 => ?_
    have hc : s.vm.findClass ("[" ++ (FieldType.object "java/lang/Object").toString) = some (X.cs 4) := by
      obtain ⟨-, -, -, -, -, h4⟩ := ((hK.va hW).2 4 _ rfl).2
      exact h4
    cases f1.symm.trans hc
    have hz := hH.1
    rw [hz]
    refine kk _ locs la (hH.newA (n := n.toNatClampNeg) (K := 24) (cell := ({ cls := X.cs 4, slots := Array.replicate n.toNatClampNeg .null, vm := .none } : Cell)) (by decide) (by rw [← hz]; exact Array.getElem?_push_size) (by rw [Array.size_push, hz]) (fun q hq => by rw [Array.getElem?_push, if_neg (by omega)]) ?_) hlo hl
    show _ = vp_cell (X.cs 4) (n.toNatClampNeg, .inr (.inr (.inr (.inr (fun _ => none)))))
    rw [vp_cell_q]
    first | exact (arrV_new _ _ _).symm | exact arrV_new _ _ _) k
/-- ArrayList's empty array -/
theorem Ev.getsE {ix : Nat} (hw : Cond.fieldLink M.y.cls ix "java/util/ArrayList" "DEFAULTCAPACITY_EMPTY_ELEMENTDATA" "[Ljava/lang/Object;" ∈ lw_tbl) (d9 : decode M.cc pc = .ok (.getstatic ix, 3)) (k : Ev X M d (pc + 3) ls (va_rf (some X.t0) :: rest) σ o τ) : Ev X M d pc ls rest σ o τ :=
  Ev.pure (fun p l e R s m args below meth c H locs cells slots Q la hF _ _ _ _ _ hH hl kk => by
    obtain ⟨hx, hb, -, -, -, hown, -, -, -, hK, hW, -, -⟩ := hF
    obtain ⟨cf, kf, fi, f, a, cell, h1, h2, h3, h4, h5, h6, h7, h8⟩ := va_Z.moved hW.alike hK.2.2.2.2.1
    exact W.gets hx hb hown (hK.good hW hw rfl) h1 h2 h3 h4 (by rw [hH.2.2.2.2 _ (Nat.not_le.mp h8)]; exact h5) (fun e => by rw [e] at h6; cases h6) h7 rfl d9 (kk _ hl)) k
theorem Ev.objInit {ix a : Nat} (hw : Cond.methodLink M.y.cls ix Lib.objectInit ∈ lw_tbl) (hd : 1 ≤ d) (hsz : (rest.map fun v => v.category).sum ≤ 60) (d9 : decode M.cc pc = .ok (.invokespecial ix, 3)) (k : Ev X M d (pc + 3) ls rest σ o τ) : Ev X M d pc ls (va_rf (some a) :: rest) σ o τ :=
  Ev.pure (fun p l e R s m args below meth c H locs cells slots Q la hF hRf hRl _ _ _ hH hl kk => by
    obtain ⟨hx, hb, hml, -, -, hown, -, -, -, hK, hW, -, -⟩ := hF
    exact W.objInit hx hb hown (hK.good hW hw rfl) (hK.good hW (tb1 (i := 42) rfl) rfl) (hK.good hW (tb1 (i := 43) rfl) rfl) rfl (by rw [hml]; exact hl.1) rfl d9 (by omega) (by show 2 * 0 + _ + 12 ≤ _; omega) (kk _ hl)) k
theorem Ev.max {ix : Nat} {x y : Int32} (hw : Cond.methodLink M.y.cls ix Lib.Math.max.name ∈ lw_tbl) (hd : 1 ≤ d) (hsz : (rest.map fun v => v.category).sum ≤ 60) (d9 : decode M.cc pc = .ok (.invokestatic ix, 3)) (k : Ev X M d (pc + 3) ls (.int (if x < y then y else x) :: rest) σ o τ) : Ev X M d pc ls (.int y :: .int x :: rest) σ o τ :=
  Ev.pure (fun p l e R s m args below meth c H locs cells slots Q la hF hRf hRl hc hs _ hH hl kk => by
    obtain ⟨hx, hb, hml, -, -, hown, -, -, -, hK, hW, -, -⟩ := hF
    exact va_mmax hx hb (by rw [hml]; exact hl.1.symm) hown (hK.good hW hw rfl) (hK.good hW (tb1 (i := 138) rfl) rfl) (hK.good hW (tb1 (i := 8) rfl) rfl) (hK.good hW (tb1 (i := 139) rfl) rfl) (by omega) (by omega) hc hs d9 (kk _ hl)) k
theorem Ev.min {ix : Nat} {x y : Int32} (hw : Cond.methodLink M.y.cls ix Lib.Math.min.name ∈ lw_tbl) (hd : 1 ≤ d) (hsz : (rest.map fun v => v.category).sum ≤ 60) (d9 : decode M.cc pc = .ok (.invokestatic ix, 3)) (k : Ev X M d (pc + 3) ls (.int (if y < x then y else x) :: rest) σ o τ) : Ev X M d pc ls (.int y :: .int x :: rest) σ o τ :=
  Ev.pure (fun p l e R s m args below meth c H locs cells slots Q la hF hRf hRl hc hs _ hH hl kk => by
    obtain ⟨hx, hb, hml, -, -, hown, -, -, -, hK, hW, -, -⟩ := hF
    exact va_mmin hx hb (by rw [hml]; exact hl.1.symm) hown (hK.good hW hw rfl) (hK.good hW (tb1 (i := 177) rfl) rfl) (hK.good hW (tb1 (i := 8) rfl) rfl) (hK.good hW (tb1 (i := 178) rfl) rfl) (by omega) (by omega) hc hs d9 (kk _ hl)) k
end MAKE
section ENDS
variable {X : Cx} {M : Mt} {d pc : Nat} {ls : List (Option Value)} {σ : Hp}
theorem Ev.iret {v : Int32} {ty : FieldType} (hr : M.rt = some ty) (hn : narrow ty (.int v) = .int v) (d9 : decode M.cc pc = .ok (.ireturn, 1)) : Ev X M d pc ls [.int v] σ (.inl (some (.int v))) σ :=
  ⟨Nat.le_refl _, Nat.le_refl _, Nat.le_refl _, fun p l e R s m args below meth c H locs k0 n0 la hF _ _ _ _ _ _ _ hH hlo hl => by
    obtain ⟨hx, hb, hml, hret, hlk, hown, -, -, -, hK, hW, -, -⟩ := hF
    exact vx_ret (W.zret hx hb (by rw [hret]; exact hr) hn (fun t ht hW9 => ⟨_, rfl, rfl, by rw [ht]; exact hH⟩) hlo d9 hlk)⟩
theorem Ev.aret {v : Option Nat} {ty : FieldType} (hr : M.rt = some ty) (ht : ty.isReference = true) (d9 : decode M.cc pc = .ok (.areturn, 1)) : Ev X M d pc ls [va_rf v] σ (.inl (some (va_rf v))) σ :=
  ⟨Nat.le_refl _, Nat.le_refl _, Nat.le_refl _, fun p l e R s m args below meth c H locs k0 n0 la hF _ _ _ _ _ _ _ hH hlo hl => by
    obtain ⟨hx, hb, hml, hret, hlk, hown, -, -, -, hK, hW, -, -⟩ := hF
    exact vx_ret (W.aret hx hb (by rw [hret]; exact hr) (by cases ty <;> first | exact Or.inl ⟨_, rfl⟩ | exact Or.inr ⟨_, rfl⟩ | (cases ht; done)) (by cases v; exact Or.inl rfl; exact Or.inr ⟨_, rfl⟩) (fun t ht hW9 => ⟨_, rfl, rfl, by rw [ht]; exact hH⟩) hlo d9 hlk)⟩
theorem Ev.vret (hr : M.rt = none) (d9 : decode M.cc pc = .ok (.return_, 1)) : Ev X M d pc ls [] σ (.inl none) σ :=
  ⟨Nat.le_refl _, Nat.le_refl _, Nat.le_refl _, fun p l e R s m args below meth c H locs k0 n0 la hF _ _ _ _ _ _ _ hH hlo hl => by
    obtain ⟨hx, hb, hml, hret, hlk, hown, -, -, -, hK, hW, -, -⟩ := hF
    exact vx_ret (W.vret hx hb (by rw [hret]; exact hr) (fun t ht hW9 => ⟨_, rfl, rfl, by rw [ht]; exact hH⟩) hlo d9 hlk)⟩
theorem Ev.fret {v : UInt32} (hr : M.rt = some .float) (d9 : decode M.cc pc = .ok (.freturn, 1)) : Ev X M d pc ls [.float v] σ (.inl (some (.float v))) σ :=
  ⟨Nat.le_refl _, Nat.le_refl _, Nat.le_refl _, fun p l e R s m args below meth c H locs k0 n0 la hF _ _ _ _ _ _ _ hH hlo hl => by
    obtain ⟨hx, hb, hml, hret, hlk, hown, -, -, -, hK, hW, -, -⟩ := hF
    exact vx_ret (W.fret hx hb (by rw [hret]; exact hr) (fun t ht hW9 => ⟨_, rfl, rfl, by rw [ht]; exact hH⟩) hlo d9 hlk)⟩
end ENDS
