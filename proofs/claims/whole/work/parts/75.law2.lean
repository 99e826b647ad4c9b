/-! the law: onTime's wrapper -/
theorem n64_all : ∀ x : Fin 21, ∀ y : Fin 21, ¬ y.val = 0 → ((FP.f2d (FP.fdiv (FP.i2f (i32 (x.val : Int))) (FP.i2f (i32 (y.val : Int))))) &&& 0x7fffffffffffffff ≤ 0x7ff0000000000000) ∧ Op.cmpValue (FP.dcmp (FP.f2d (FP.fdiv (FP.i2f (i32 (x.val : Int))) (FP.i2f (i32 (y.val : Int))))) (FP.f2d (FP.fdiv (FP.i2f (i32 (x.val : Int))) (FP.i2f (i32 (y.val : Int)))))) .l = i32 0 := by decide +kernel
theorem n64_rat {a b : Int} (h : rat_ok a b) : vf_n64 (FP.f2d (FP.fdiv (FP.i2f (i32 a)) (FP.i2f (i32 b)))) ∧ Op.cmpValue (FP.dcmp (FP.f2d (FP.fdiv (FP.i2f (i32 a)) (FP.i2f (i32 b)))) (FP.f2d (FP.fdiv (FP.i2f (i32 a)) (FP.i2f (i32 b))))) .l = i32 0 := by
  obtain ⟨⟨h1, h2⟩, h3, h4⟩ := h
  have g := n64_all ⟨a.toNat, by omega⟩ ⟨b.toNat, by omega⟩ (by show ¬ b.toNat = 0; omega)
  have e1 : ((a.toNat : Nat) : Int) = a := Int.toNat_of_nonneg h1
  have e2 : ((b.toNat : Nat) : Int) = b := Int.toNat_of_nonneg (by omega)
  unfold vf_n64
  rw [← e1, ← e2]
  exact g
def m_L_onTime : Mt := (yL_onTime, cL_onTime, 3, some .int, [(0, 8, 11, 35)])
theorem k_L_onTime : cokH m_L_onTime 2 := ⟨rfl, (tb5 (i := 210) rfl), (tb1 (i := 0) rfl), by decide, by decide +kernel, by decide⟩
theorem ki_L_onTime : Cond.static m_L_onTime.y ∈ lw_tbl := (tb5 (i := 209) rfl)
theorem w_onTime {X : Cx} {σ : Hp} {A : Nat → Int → Nat} {c : Cs} {B : Int → Nat} {m0 oL oD : Nat} {v : Vw} {T E : Int} (hN : KN X) (hL : LW X σ A c B m0 oL oD v) (hV : INV c v) (hI : IM v T E) :
    ∃ τ A' B', Ct X m_L_onTime 7 [va_rf (some (A 13 0)), va_rf (some oD)] σ (.inl (some (.int (i32 ((f_onTime v).2 0 0))))) τ ∧ LW X τ A' (g_X10_onTime c).2 B' m0 oL oD v ∧ INV (g_X10_onTime c).2 (f_onTime v).2 ∧ A' 13 0 = A 13 0 ∧ (((f_onTime v).2 0 0 = 0 ∧ ∃ a b, rat_ok a b ∧ (f_onTime v).1 = rat a b ∧ τ.dv oD 0 = FP.f2d (FP.fdiv (FP.i2f (i32 a)) (FP.i2f (i32 b)))) ∨ (f_onTime v).2 0 0 = 1) := by
  obtain ⟨ok, hA, hV2⟩ := fc_onTime hV hI
  obtain ⟨τ, A2, B2, hC, hS, hE2, hw⟩ := s_X10_onTime (X := X) (ρ := σ) ok A σ B hL.1 (ws1 hL.1.2)
  obtain ⟨L1, l2, l3⟩ := hL.call hS
  have e13 := (hE2 13 0 (rg13 hL.1.2)).1
  have kd13 : σ.kd (A 13 0) = 14 := hL.1.1.kd (rg13 hL.1.2)
  rcases hA with ⟨z, a, b, hr, e, e2⟩ | ⟨z, e, e2⟩
  · rw [e] at hC
    rw [z]
    have hC' : Ct X m_X10_onTime (6) [va_rf (some (A 13 0))] σ (.inl (some (.float (FP.fdiv (FP.i2f (i32 a)) (FP.i2f (i32 b)))))) τ := by
      rw [← rat_bits]
      exact hC
    refine ⟨τ.setD oD 0 (FP.f2d (FP.fdiv (FP.i2f (i32 a)) (FP.i2f (i32 b)))), A2, B2, Ct.ofH (by decide +kernel) k_L_onTime (Nat.le_of_ble_eq_true rfl) (by simp [Value.category, va_rf]) ?_, L1.setD _ _, hV2, e13, Or.inl ⟨rfl, a, b, hr, e2, up2_eq _ _ _ _⟩⟩
    refine Ev.aload_n (i := 1) dL_onTime_0 rfl rfl ?_
    refine Ei.const dL_onTime_1 ?_
    refine Ev.aload_n (i := 0) dL_onTime_2 rfl rfl ?_
    refine Ev.callV (ci := 13) (C := RX10) (T := TX10) (N := 12) (As := []) (v := some (.float (FP.fdiv (FP.i2f (i32 a)) (FP.i2f (i32 b))))) k_X10_onTime rfl kd13 (tb5 (i := 211) rfl) ki_X10_onTime kv_X10_onTime dL_onTime_3 rfl rfl (Nat.le_of_ble_eq_true rfl) (Nat.le_refl _) hC' ?_
    refine Ev.f2d dL_onTime_6 (n64_rat hr).1 ?_
    refine Ev.dast L1.2.2.2.1 (vin0 L1.2.2.2.2) dL_onTime_7 ?_
    rw [clamp0]
    refine Ev.goto (tgt := 14) dL_onTime_8 (by decide) ?_
    refine Ei.const dL_onTime_14 ?_
    exact Ev.iret rfl rfl dL_onTime_15
  · rw [e] at hC
    rw [z]
    refine ⟨τ, A2, B2, Ct.ofH (by decide +kernel) k_L_onTime (Nat.le_of_ble_eq_true rfl) (by simp [Value.category, va_rf]) ?_, L1, hV2, e13, Or.inr rfl⟩
    refine Ev.aload_n (i := 1) dL_onTime_0 rfl rfl ?_
    refine Ei.const dL_onTime_1 ?_
    refine Ev.aload_n (i := 0) dL_onTime_2 rfl rfl ?_
    have hp : ∀ z ∈ ([] : List (Nat × Nat × Nat × Nat)), z.2.2.2 ≠ 0 ∧ ∃ nm, Cond.classLink m_L_onTime.y.cls z.2.2.2 nm ∈ lw_tbl ∧ xcp nm ∧ xNSE ≠ nm := fun z hz => by
      cases hz
    refine Ev.callVc (ci := 13) (C := RX10) (T := TX10) (N := 12) (As := []) (E := xNSE) (pre := []) (suf := []) (xa := 0) (xb := 8) (xh := 11) (xt := 35) hN (Or.inr (Or.inr (Or.inl rfl))) k_X10_onTime rfl kd13 (tb5 (i := 211) rfl) ki_X10_onTime kv_X10_onTime dL_onTime_3 rfl rfl (Nat.le_of_ble_eq_true rfl) (Nat.le_refl _) rfl (by decide) (by decide) hp (tb3 (i := 16) rfl) (tb3 (i := 31) rfl) hC (fun q => ?_)
    refine Ev.astore_n (i := 2) dL_onTime_11 rfl (by decide) ?_
    refine Ei.const dL_onTime_12 ?_
    exact Ev.iret rfl rfl dL_onTime_13
