/-! arraycopy, getClass, the class constant; a handler that answers a number -/
section NAT
variable {X : Cx} {M : Mt} {d pc : Nat} {ls : List (Option Value)} {rest : List Value} {σ τ : Hp} {o : Rs}
theorem i32_nn {z : Int32} (hz : ¬ z < 0) : z.toInt = (z.toNatClampNeg : Int) := by
  have hz0 : (0 : Int) ≤ z.toInt := by
    have := Int32.not_lt.mp hz
    simpa using Int32.le_iff_toInt_le.mp this
  show z.toInt = ((z.toInt.toNat : Nat) : Int)
  omega
theorem Ev.copy {ix a0 a : Nat} {sp dp n : Int32} (hk0 : σ.kd a0 = 24) (hk1 : σ.kd a = 24) (h1 : ¬ sp < 0) (h2 : ¬ dp < 0) (h3 : ¬ n < 0) (h4 : sp.toNatClampNeg + n.toNatClampNeg ≤ σ.ln a0) (h5 : dp.toNatClampNeg + n.toNatClampNeg ≤ σ.ln a)
    (hel : ∀ i, i < n.toNatClampNeg → ∀ y, σ.rv a0 (sp.toNatClampNeg + i) = some y → 3 ≤ σ.kd y ∧ σ.kd y ≤ 14) (hd : 1 ≤ d) (hsm : (rest.map fun v => v.category).sum ≤ 40) (hw : Cond.methodLink M.y.cls ix arraycopyName ∈ lw_tbl)
    (d9 : decode M.cc pc = .ok (.invokestatic ix, 3)) (k : Ev X M d (pc + 3) ls rest (σ.row a (va_cpy (σ.rv a0) (σ.rv a) sp.toNatClampNeg dp.toNatClampNeg n.toNatClampNeg)) o τ) : Ev X M d pc ls (.int n :: .int dp :: va_rf (some a) :: .int sp :: va_rf (some a0) :: rest) σ o τ :=
  Ev.step (σ1 := σ.row a (va_cpy (σ.rv a0) (σ.rv a) sp.toNatClampNeg dp.toNatClampNeg n.toNatClampNeg)) (Nat.le_refl _) (Nat.le_refl _) (Nat.le_refl _) (fun p l e R s m args below meth c H locs cells slots Q la hF hRf hRl hRc hRs _ hH hlo hl kk => by
    obtain ⟨hx, hb, hml, -, -, hown, -, -, -, hK, hW, -, -⟩ := hF
    have z1 : (σ.row a (va_cpy (σ.rv a0) (σ.rv a) sp.toNatClampNeg dp.toNatClampNeg n.toNatClampNeg)).cl - σ.cl = 0 := Nat.sub_self _
    have z2 : (σ.row a (va_cpy (σ.rv a0) (σ.rv a) sp.toNatClampNeg dp.toNatClampNeg n.toNatClampNeg)).sl - σ.sl = 0 := Nat.sub_self _
    rw [z1, z2] at kk
    have hc0 := (hH.2.2.2.1 a0).2.2.2.2.2 hk0
    have hc1 := (hH.2.2.2.1 a).2.2.2.2.2 hk1
    have hba := (hH.2.2.1 a (by omega)).1
    have hKa := (hK.va hW).2 4 _ rfl
    obtain ⟨-, k0, hkk0, cm0, hq0⟩ := hKa.1 (σ.ln a0) (fun j => va_rf (σ.rv a0 j))
    obtain ⟨-, k1, hkk1, cm1, hq1⟩ := hKa.1 (σ.ln a) (fun j => va_rf (σ.rv a j))
    have hwd : nativeFrameWords "java/lang/System" "arraycopy" 5 ≤ 40 := by decide
    intro T hT Z
    obtain ⟨vm', X', step⟩ := Z.arraycopy hx hown (hK.good hW hw rfl) (hK.good hW (tb1 (i := 181) rfl) rfl) (hK.good hW (tb1 (i := 180) rfl) rfl) (hK.good hW (tb1 (i := 10) rfl) rfl) (src := a0) (dst := a) (cs := vp_cell (X.cs 4) (σ.ln a0, .inr (.inr (.inr (.inr (σ.rv a0)))))) (cd := vp_cell (X.cs 4) (σ.ln a, .inr (.inr (.inr (.inr (σ.rv a)))))) (srcPos := sp) (destPos := dp) (n := n) (by rw [hT]; exact hc0) (by rw [hT]; exact hc1)
      (fun _ h => by cases h) (fun _ h => by cases h) (fun h => by cases h) (fun h => by cases h) hkk0 hkk1 hq0 hq1 rfl h1 h2 h3
      (by rw [i32_nn h1, i32_nn h3]; show ¬ _ > ((arrV _ _ (fun j => va_rf (σ.rv a0 j))).slots.size : Int); rw [arrV_size]; omega)
      (by rw [i32_nn h2, i32_nn h3]; show ¬ _ > ((arrV _ _ (fun j => va_rf (σ.rv a j))).slots.size : Int); rw [arrV_size]; omega)
      (fun vm₁ hal i hi => by
        have e : (vp_cell (X.cs 4) (σ.ln a0, .inr (.inr (.inr (.inr (σ.rv a0)))))).slots.getD (sp.toNatClampNeg + i) .null = va_rf (σ.rv a0 (sp.toNatClampNeg + i)) := by
          show (arrV _ _ (fun j => va_rf (σ.rv a0 j))).slots.getD _ _ = _
          rw [Array.getD_eq_getD_getElem?, arrV_read _ _ (by omega)]
          rfl
        rw [e]
        cases hy : σ.rv a0 (sp.toNatClampNeg + i) with
        | none => exact ⟨rfl, trivial⟩
        | some y =>
          obtain ⟨y3, y15⟩ := hel i hi y hy
          obtain ⟨cellV, g1, g2, ⟨kC, hkC⟩, hasg⟩ := hH.any hK hW y3 y15
          obtain ⟨kA, comp, r1, r2, r3, -⟩ := hKa.2
          cases hkk1.symm.trans r1
          cases hq1.symm.trans r2
          obtain ⟨kE, hkE, -⟩ := Vm.findClass_spec r3
          obtain ⟨kC', hkC', -⟩ := hal.2.2 _ _ hkC
          obtain ⟨kE', hkE', -⟩ := hal.2.2 _ _ hkE
          refine ⟨rfl, cellV, (show T.heap[y]? = some cellV by rw [hT]; exact g1), (fun q h => by rw [h] at g2; cases g2), ⟨kC', hkC'⟩, ⟨kE', hkE'⟩, ?_⟩
          show vm₁.assignable _ _ = true
          rw [hal.assignable]
          exact hasg _ r3)
      (g := F0 m pc la (.int n :: .int dp :: .ref a :: .int sp :: .ref a0 :: rest)) rfl (by rw [hml]; exact hl.1) (rest := rest) rfl (by rw [hb]; exact d9) (by omega) (by show 2 * 0 + _ + _ ≤ _; omega)
    have e1 : copied (vp_cell (X.cs 4) (σ.ln a0, .inr (.inr (.inr (.inr (σ.rv a0)))))) (vp_cell (X.cs 4) (σ.ln a, .inr (.inr (.inr (.inr (σ.rv a)))))) sp dp n = vp_cell (X.cs 4) (σ.ln a, .inr (.inr (.inr (.inr (va_cpy (σ.rv a0) (σ.rv a) sp.toNatClampNeg dp.toNatClampNeg n.toNatClampNeg))))) := by
      rw [vp_cell_q, vp_cell_q, vp_cell_q]
      exact va_copied (fun z => va_rf z) _ _ (σ.rv a0) (σ.rv a) h4
    rw [e1] at X' step
    have hl9 : a < H.size := (Array.getElem?_eq_some_iff.mp hc1).1
    have hheap : ((T.setVm vm').setCell a (vp_cell (X.cs 4) (σ.ln a, .inr (.inr (.inr (.inr (va_cpy (σ.rv a0) (σ.rv a) sp.toNatClampNeg dp.toNatClampNeg n.toNatClampNeg))))))).heap = H.setIfInBounds a (vp_cell (X.cs 4) (σ.ln a, .inr (.inr (.inr (.inr (va_cpy (σ.rv a0) (σ.rv a) sp.toNatClampNeg dp.toNatClampNeg n.toNatClampNeg)))))) := by rw [← hT]; rfl
    have hup : HS X (σ.row a (va_cpy (σ.rv a0) (σ.rv a) sp.toNatClampNeg dp.toNatClampNeg n.toNatClampNeg)) (H.setIfInBounds a (vp_cell (X.cs 4) (σ.ln a, .inr (.inr (.inr (.inr (va_cpy (σ.rv a0) (σ.rv a) sp.toNatClampNeg dp.toNatClampNeg n.toNatClampNeg))))))) := by
      refine hH.upd (a := a) hba rfl rfl rfl (fun _ _ => rfl) (fun b hb => up1_ne _ _ hb) (fun _ _ => rfl) (fun _ _ => rfl) (by simp) (fun q hq => by simp [Array.getElem?_setIfInBounds, Ne.symm hq]) ⟨fun ci r hk hr => ?_, fun h => ?_, fun h => ?_, fun h => ?_, fun h => ?_, fun _ => ?_⟩
      · have := vwCl_lt hr
        have : σ.kd a = ci + 1 := hk
        omega
      rotate_left 4
      · have e9 : (σ.row a (va_cpy (σ.rv a0) (σ.rv a) sp.toNatClampNeg dp.toNatClampNeg n.toNatClampNeg)).rv a = va_cpy (σ.rv a0) (σ.rv a) sp.toNatClampNeg dp.toNatClampNeg n.toNatClampNeg := up1_eq _ _ _
        rw [e9]
        simp [Array.getElem?_setIfInBounds, hl9]
        rfl
      all_goals (have : σ.kd a = _ := h; omega)
    obtain ⟨t, a1, b1⟩ := kk _ _ la hup (fun q hq => (List.mem_append.mp hq).elim (hlo q) (fun h => by obtain ⟨z, -, hz⟩ := List.mem_map.mp h; rw [← hz]; exact hba)) hl _ hheap X'
    exact ⟨t, step t a1, b1⟩) k
theorem Ev.getC {ix a : Nat} (hk : σ.kd a = 24) (hw : Cond.methodLink M.y.cls ix ⟨"java/lang/Object", "getClass", "()Ljava/lang/Class;"⟩ ∈ lw_tbl) (hd : 1 ≤ d) (hsm : (rest.map fun v => v.category).sum ≤ 40) (d9 : decode M.cc pc = .ok (.invokevirtual ix, 3)) (k : Ev X M d (pc + 3) ls (va_rf (some X.mi) :: rest) σ o τ) : Ev X M d pc ls (va_rf (some a) :: rest) σ o τ :=
  Ev.pure (fun p l e R s m args below meth c H locs cells slots Q la hF hRf hRl _ _ _ hH hl kk => by
    obtain ⟨hx, hb, hml, -, -, hown, -, -, -, hK, hW, -, -⟩ := hF
    have hc := (hH.2.2.2.1 a).2.2.2.2.2 hk
    have hnm : s.vm.findClass "[Ljava/lang/Object;" = some (X.cs 4) := va_nmO ((hK.va hW).2 4 _ rfl).2 (by decide)
    exact va_getC (C := "[Ljava/lang/Object;") hx hb (by rw [hml]; exact hl.1.symm) hown (hK.good hW hw rfl) (va_Dc.use (va_Dc.moved hW.alike (va_Dc.of (hK.1 _ (tb7 (i := 4) rfl))))) (hK.good hW (tb7 (i := 3) rfl) rfl) (hK.good hW (tb1 (i := 148) rfl) rfl) (hK.good hW (tb1 (i := 169) rfl) rfl) (va_Mi.moved hW.alike hK.2.2.2.2.2.2.2.2.2.2) ⟨_, hc, rfl, by rw [hnm]; rfl⟩ (by omega) (by omega) d9 (kk _ hl)) k
theorem Ev.ldcM {ix : Nat} (hw : Cond.classLink M.y.cls ix "[Ljava/lang/Object;" ∈ lw_tbl) (d9 : decode M.cc pc = .ok (.ldc ix, 2)) (k : Ev X M d (pc + 2) ls (va_rf (some X.mi) :: rest) σ o τ) : Ev X M d pc ls rest σ o τ :=
  Ev.pure (fun p l e R s m args below meth c H locs cells slots Q la hF hRf hRl _ _ _ hH hl kk => by
    obtain ⟨hx, hb, hml, -, -, hown, -, -, -, hK, hW, -, -⟩ := hF
    exact va_ldcM hx hb hown (hK.good hW hw rfl) (va_Mi.moved hW.alike hK.2.2.2.2.2.2.2.2.2.2) d9 (kk _ hl)) k
end NAT
