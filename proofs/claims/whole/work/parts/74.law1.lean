/-! the law: its methods that catch (written by wip/whole/mk74.py) -/
theorem rg13 {c : Cs} (h : Fx0 c) : rg c 13 0 := ⟨⟨by decide, by decide⟩, Int.le_refl 0, by rw [h.1.2.1]; decide⟩
theorem ws1 {c : Cs} (h : Fx0 c) : WS c [(13, 0)] := fun x hx => by
  rcases List.mem_cons.mp hx with rfl | hx
  · exact wv_r (rg13 h)
  · cases hx
theorem ws2 {c : Cs} (h : Fx0 c) {a : Int} : WS c [(13, 0), (0, a)] := fun x hx => by
  rcases List.mem_cons.mp hx with rfl | hx
  · exact wv_r (rg13 h)
  · rcases List.mem_cons.mp hx with rfl | hx
    · exact wv_i
    · cases hx
theorem ws3 {c : Cs} (h : Fx0 c) {a b : Int} : WS c [(13, 0), (0, a), (0, b)] := fun x hx => by
  rcases List.mem_cons.mp hx with rfl | hx
  · exact wv_r (rg13 h)
  · rcases List.mem_cons.mp hx with rfl | hx
    · exact wv_i
    · rcases List.mem_cons.mp hx with rfl | hx
      · exact wv_i
      · cases hx
theorem ws4 {c : Cs} (h : Fx0 c) {a b e : Int} : WS c [(13, 0), (0, a), (0, b), (0, e)] := fun x hx => by
  rcases List.mem_cons.mp hx with rfl | hx
  · exact wv_r (rg13 h)
  · rcases List.mem_cons.mp hx with rfl | hx
    · exact wv_i
    · rcases List.mem_cons.mp hx with rfl | hx
      · exact wv_i
      · rcases List.mem_cons.mp hx with rfl | hx
        · exact wv_i
        · cases hx
theorem vin0 {n : Nat} (h : n = 1) : vp_in (i32 0) n := by
  rw [h]
  exact i32_vin (a := 0) (Int.le_refl 0) (by decide) (by decide)
theorem cd_one (a : Int) (v : Vw) : (f_isOne a v).2 0 0 ≤ 1 := by
  unfold f_isOne
  split <;> simp [upv]
theorem cd_can (v : Vw) : (f_canForecast v).2 0 0 ≤ 1 := by
  unfold f_canForecast
  repeat' split
  all_goals simp [upv]
theorem cd_stk (a : Int) (v : Vw) : (f_stock a v).2 0 0 ≤ 1 := by
  unfold f_stock
  split <;> exact cd_one _ _
theorem cd_l28 {a was : Int} (n : Nat) (k : Int) (v : Vw) (h : v 0 0 ≤ 1) : (l_pass_28 a was n k v).2 0 0 ≤ 1 := by
  rw [fr_l_pass_28 n k v 0 0 (by decide)]
  exact h
theorem clamp0 : (i32 0).toNatClampNeg = 0 := by decide
def m_L_addRecipe : Mt := (yL_addRecipe, cL_addRecipe, 6, some .int, [(0, 12, 15, 13), (0, 12, 19, 15)])
theorem k_L_addRecipe : cokH m_L_addRecipe 5 := ⟨rfl, (tb2 (i := 10) rfl), (tb1 (i := 0) rfl), by decide, by decide +kernel, by decide⟩
theorem ki_L_addRecipe : Cond.static m_L_addRecipe.y ∈ lw_tbl := (tb2 (i := 9) rfl)
theorem cd_addRecipe {a b f : Int} {v : Vw} (h : (0 : Int) ≤ v 0 0) : (f_addRecipe a b f v).2 0 0 ≤ 2 := by
  unfold f_addRecipe
  repeat' split
  all_goals first
    | (simp [f_fails, upv, f_adds]; done)
    | exact Int.le_trans (cd_one _ _) (by decide)
    | (rw [fr_starts 0 0 (by decide)]; simp [upv]; done)
    | (show f_starts _ _ _ 0 0 ≤ _; rw [fr_starts 0 0 (by decide)]; simp [upv]; done)
theorem w_addRecipe {X : Cx} {σ : Hp} {A : Nat → Int → Nat} {c : Cs} {B : Int → Nat} {m0 oL oD : Nat} {v : Vw} {T E a b f : Int} (hN : KN X) (hL : LW X σ A c B m0 oL oD v) (hV : INV c v) (hI : IM v T E) (ha : R32 a) (hb : R32 b) (hf : R32 f) :
    ∃ τ A' B', Ct X m_L_addRecipe 8 [va_rf (some (A 13 0)), .int (i32 a), .int (i32 b), .int (i32 f), va_rf (some oL)] σ (.inl (some (.int (i32 ((f_addRecipe a b f v).2 0 0))))) τ ∧ LW X τ A' (g_X10_addRecipe a b f c).2 B' m0 oL oD v ∧ INV (g_X10_addRecipe a b f c).2 (f_addRecipe a b f v).2 ∧ A' 13 0 = A 13 0 ∧ ((f_addRecipe a b f v).2 0 0 = 0 → τ.lv oL 0 = (i32 (f_addRecipe a b f v).1).toInt64) := by
  obtain ⟨ok, hA, hV2⟩ := fc_addRecipe hV hI ha hb hf
  have cd := cd_addRecipe (a := a) (b := b) (f := f) (v := v) (hI.2 0 0).1
  obtain ⟨τ, A2, B2, hC, hS, hE2, hw⟩ := s_X10_addRecipe (X := X) (ρ := σ) ok A σ B hL.1 (ws4 hL.1.2)
  obtain ⟨L1, l2, l3⟩ := hL.call hS
  have e13 := (hE2 13 0 (rg13 hL.1.2)).1
  have kd13 : σ.kd (A 13 0) = 14 := hL.1.1.kd (rg13 hL.1.2)
  rcases hA with ⟨z, e⟩ | ⟨z, e⟩
  · rw [e] at hC
    rw [z]
    refine ⟨τ.setL oL 0 (i32 (f_addRecipe a b f v).1).toInt64, A2, B2, Ct.ofH (by decide +kernel) k_L_addRecipe (Nat.le_of_ble_eq_true rfl) (by simp [Value.category, va_rf]) ?_, L1.setL _ _, hV2, e13, fun _ => up2_eq _ _ _ _⟩
    refine Ev.aload dL_addRecipe_0 rfl ?_
    refine Ei.const dL_addRecipe_2 ?_
    refine Ev.aload_n (i := 0) dL_addRecipe_3 rfl rfl ?_
    refine Ev.iload_n (i := 1) dL_addRecipe_4 rfl rfl ?_
    refine Ev.iload_n (i := 2) dL_addRecipe_5 rfl rfl ?_
    refine Ev.iload_n (i := 3) dL_addRecipe_6 rfl rfl ?_
    refine Ev.callV (ci := 13) (C := RX10) (T := TX10) (N := 12) (As := [_, _, _]) (v := some (.int (i32 (f_addRecipe a b f v).1))) k_X10_addRecipe rfl kd13 (tb2 (i := 13) rfl) ki_X10_addRecipe kv_X10_addRecipe dL_addRecipe_7 rfl rfl (Nat.le_of_ble_eq_true rfl) (Nat.le_refl _) hC ?_
    refine Ev.i2l dL_addRecipe_10 rfl ?_
    refine Ev.last L1.2.2.1.1 (vin0 L1.2.2.1.2) dL_addRecipe_11 ?_
    rw [clamp0]
    refine Ev.goto (tgt := 23) dL_addRecipe_12 (by decide) ?_
    refine Ei.const dL_addRecipe_23 ?_
    exact Ev.iret rfl rfl dL_addRecipe_24
  · rw [e] at hC
    by_cases z1 : (f_addRecipe a b f v).2 0 0 = 1
    · rw [z1] at hC ⊢
      refine ⟨τ, A2, B2, Ct.ofH (by decide +kernel) k_L_addRecipe (Nat.le_of_ble_eq_true rfl) (by simp [Value.category, va_rf]) ?_, L1, hV2, e13, fun q => by omega⟩
      refine Ev.aload dL_addRecipe_0 rfl ?_
      refine Ei.const dL_addRecipe_2 ?_
      refine Ev.aload_n (i := 0) dL_addRecipe_3 rfl rfl ?_
      refine Ev.iload_n (i := 1) dL_addRecipe_4 rfl rfl ?_
      refine Ev.iload_n (i := 2) dL_addRecipe_5 rfl rfl ?_
      refine Ev.iload_n (i := 3) dL_addRecipe_6 rfl rfl ?_
      have hp : ∀ z ∈ ([] : List (Nat × Nat × Nat × Nat)), z.2.2.2 ≠ 0 ∧ ∃ nm, Cond.classLink m_L_addRecipe.y.cls z.2.2.2 nm ∈ lw_tbl ∧ xcp nm ∧ xIAE ≠ nm := fun z hz => by
        cases hz
      refine Ev.callVc (ci := 13) (C := RX10) (T := TX10) (N := 12) (As := [_, _, _]) (E := xIAE) (pre := []) (suf := [(0, 12, 19, 15)]) (xa := 0) (xb := 12) (xh := 15) (xt := 13) hN (Or.inl rfl) k_X10_addRecipe rfl kd13 (tb2 (i := 13) rfl) ki_X10_addRecipe kv_X10_addRecipe dL_addRecipe_7 rfl rfl (Nat.le_of_ble_eq_true rfl) (Nat.le_refl _) rfl (by decide) (by decide) hp (tb2 (i := 11) rfl) (tb2 (i := 23) rfl) hC (fun q => ?_)
      refine Ev.astore dL_addRecipe_15 (by decide) ?_
      refine Ei.const dL_addRecipe_17 ?_
      exact Ev.iret rfl rfl dL_addRecipe_18
    · have y1 := z1
      have z2 : (f_addRecipe a b f v).2 0 0 = 2 := by omega
      rw [z2] at hC ⊢
      refine ⟨τ, A2, B2, Ct.ofH (by decide +kernel) k_L_addRecipe (Nat.le_of_ble_eq_true rfl) (by simp [Value.category, va_rf]) ?_, L1, hV2, e13, fun q => by omega⟩
      refine Ev.aload dL_addRecipe_0 rfl ?_
      refine Ei.const dL_addRecipe_2 ?_
      refine Ev.aload_n (i := 0) dL_addRecipe_3 rfl rfl ?_
      refine Ev.iload_n (i := 1) dL_addRecipe_4 rfl rfl ?_
      refine Ev.iload_n (i := 2) dL_addRecipe_5 rfl rfl ?_
      refine Ev.iload_n (i := 3) dL_addRecipe_6 rfl rfl ?_
      have hp : ∀ z ∈ ([(0, 12, 15, 13)] : List (Nat × Nat × Nat × Nat)), z.2.2.2 ≠ 0 ∧ ∃ nm, Cond.classLink m_L_addRecipe.y.cls z.2.2.2 nm ∈ lw_tbl ∧ xcp nm ∧ xISE ≠ nm := fun z hz => by
        rcases List.mem_cons.mp hz with rfl | hz
        · exact ⟨by decide, _, (tb2 (i := 11) rfl), Or.inl rfl, by decide⟩
        cases hz
      refine Ev.callVc (ci := 13) (C := RX10) (T := TX10) (N := 12) (As := [_, _, _]) (E := xISE) (pre := [(0, 12, 15, 13)]) (suf := []) (xa := 0) (xb := 12) (xh := 19) (xt := 15) hN (Or.inr (Or.inl rfl)) k_X10_addRecipe rfl kd13 (tb2 (i := 13) rfl) ki_X10_addRecipe kv_X10_addRecipe dL_addRecipe_7 rfl rfl (Nat.le_of_ble_eq_true rfl) (Nat.le_refl _) rfl (by decide) (by decide) hp (tb2 (i := 12) rfl) (tb2 (i := 116) rfl) hC (fun q => ?_)
      refine Ev.astore dL_addRecipe_19 (by decide) ?_
      refine Ei.const dL_addRecipe_21 ?_
      exact Ev.iret rfl rfl dL_addRecipe_22
def m_L_addVessel : Mt := (yL_addVessel, cL_addVessel, 4, some .int, [(0, 9, 12, 13), (0, 9, 15, 15)])
theorem k_L_addVessel : cokH m_L_addVessel 3 := ⟨rfl, (tb2 (i := 160) rfl), (tb1 (i := 0) rfl), by decide, by decide +kernel, by decide⟩
theorem ki_L_addVessel : Cond.static m_L_addVessel.y ∈ lw_tbl := (tb2 (i := 159) rfl)
theorem cd_addVessel {a : Int} {v : Vw} (h : (0 : Int) ≤ v 0 0) : (f_addVessel a v).2 0 0 ≤ 2 := by
  unfold f_addVessel
  repeat' split
  all_goals first
    | (simp [f_fails, upv, f_adds]; done)
    | exact Int.le_trans (cd_one _ _) (by decide)
    | (rw [fr_starts 0 0 (by decide)]; simp [upv]; done)
    | (show f_starts _ _ _ 0 0 ≤ _; rw [fr_starts 0 0 (by decide)]; simp [upv]; done)
theorem w_addVessel {X : Cx} {σ : Hp} {A : Nat → Int → Nat} {c : Cs} {B : Int → Nat} {m0 oL oD : Nat} {v : Vw} {T E a : Int} (hN : KN X) (hL : LW X σ A c B m0 oL oD v) (hV : INV c v) (hI : IM v T E) (ha : R32 a) :
    ∃ τ A' B', Ct X m_L_addVessel 8 [va_rf (some (A 13 0)), .int (i32 a), va_rf (some oL)] σ (.inl (some (.int (i32 ((f_addVessel a v).2 0 0))))) τ ∧ LW X τ A' (g_X10_addVessel a c).2 B' m0 oL oD v ∧ INV (g_X10_addVessel a c).2 (f_addVessel a v).2 ∧ A' 13 0 = A 13 0 ∧ ((f_addVessel a v).2 0 0 = 0 → τ.lv oL 0 = (i32 (f_addVessel a v).1).toInt64) := by
  obtain ⟨ok, hA, hV2⟩ := fc_addVessel hV hI ha
  have cd := cd_addVessel (a := a) (v := v) (hI.2 0 0).1
  obtain ⟨τ, A2, B2, hC, hS, hE2, hw⟩ := s_X10_addVessel (X := X) (ρ := σ) ok A σ B hL.1 (ws2 hL.1.2)
  obtain ⟨L1, l2, l3⟩ := hL.call hS
  have e13 := (hE2 13 0 (rg13 hL.1.2)).1
  have kd13 : σ.kd (A 13 0) = 14 := hL.1.1.kd (rg13 hL.1.2)
  rcases hA with ⟨z, e⟩ | ⟨z, e⟩
  · rw [e] at hC
    rw [z]
    refine ⟨τ.setL oL 0 (i32 (f_addVessel a v).1).toInt64, A2, B2, Ct.ofH (by decide +kernel) k_L_addVessel (Nat.le_of_ble_eq_true rfl) (by simp [Value.category, va_rf]) ?_, L1.setL _ _, hV2, e13, fun _ => up2_eq _ _ _ _⟩
    refine Ev.aload_n (i := 2) dL_addVessel_0 rfl rfl ?_
    refine Ei.const dL_addVessel_1 ?_
    refine Ev.aload_n (i := 0) dL_addVessel_2 rfl rfl ?_
    refine Ev.iload_n (i := 1) dL_addVessel_3 rfl rfl ?_
    refine Ev.callV (ci := 13) (C := RX10) (T := TX10) (N := 12) (As := [_]) (v := some (.int (i32 (f_addVessel a v).1))) k_X10_addVessel rfl kd13 (tb2 (i := 161) rfl) ki_X10_addVessel kv_X10_addVessel dL_addVessel_4 rfl rfl (Nat.le_of_ble_eq_true rfl) (Nat.le_refl _) hC ?_
    refine Ev.i2l dL_addVessel_7 rfl ?_
    refine Ev.last L1.2.2.1.1 (vin0 L1.2.2.1.2) dL_addVessel_8 ?_
    rw [clamp0]
    refine Ev.goto (tgt := 18) dL_addVessel_9 (by decide) ?_
    refine Ei.const dL_addVessel_18 ?_
    exact Ev.iret rfl rfl dL_addVessel_19
  · rw [e] at hC
    by_cases z1 : (f_addVessel a v).2 0 0 = 1
    · rw [z1] at hC ⊢
      refine ⟨τ, A2, B2, Ct.ofH (by decide +kernel) k_L_addVessel (Nat.le_of_ble_eq_true rfl) (by simp [Value.category, va_rf]) ?_, L1, hV2, e13, fun q => by omega⟩
      refine Ev.aload_n (i := 2) dL_addVessel_0 rfl rfl ?_
      refine Ei.const dL_addVessel_1 ?_
      refine Ev.aload_n (i := 0) dL_addVessel_2 rfl rfl ?_
      refine Ev.iload_n (i := 1) dL_addVessel_3 rfl rfl ?_
      have hp : ∀ z ∈ ([] : List (Nat × Nat × Nat × Nat)), z.2.2.2 ≠ 0 ∧ ∃ nm, Cond.classLink m_L_addVessel.y.cls z.2.2.2 nm ∈ lw_tbl ∧ xcp nm ∧ xIAE ≠ nm := fun z hz => by
        cases hz
      refine Ev.callVc (ci := 13) (C := RX10) (T := TX10) (N := 12) (As := [_]) (E := xIAE) (pre := []) (suf := [(0, 9, 15, 15)]) (xa := 0) (xb := 9) (xh := 12) (xt := 13) hN (Or.inl rfl) k_X10_addVessel rfl kd13 (tb2 (i := 161) rfl) ki_X10_addVessel kv_X10_addVessel dL_addVessel_4 rfl rfl (Nat.le_of_ble_eq_true rfl) (Nat.le_refl _) rfl (by decide) (by decide) hp (tb2 (i := 11) rfl) (tb2 (i := 23) rfl) hC (fun q => ?_)
      refine Ev.astore_n (i := 3) dL_addVessel_12 rfl (by decide) ?_
      refine Ei.const dL_addVessel_13 ?_
      exact Ev.iret rfl rfl dL_addVessel_14
    · have y1 := z1
      have z2 : (f_addVessel a v).2 0 0 = 2 := by omega
      rw [z2] at hC ⊢
      refine ⟨τ, A2, B2, Ct.ofH (by decide +kernel) k_L_addVessel (Nat.le_of_ble_eq_true rfl) (by simp [Value.category, va_rf]) ?_, L1, hV2, e13, fun q => by omega⟩
      refine Ev.aload_n (i := 2) dL_addVessel_0 rfl rfl ?_
      refine Ei.const dL_addVessel_1 ?_
      refine Ev.aload_n (i := 0) dL_addVessel_2 rfl rfl ?_
      refine Ev.iload_n (i := 1) dL_addVessel_3 rfl rfl ?_
      have hp : ∀ z ∈ ([(0, 9, 12, 13)] : List (Nat × Nat × Nat × Nat)), z.2.2.2 ≠ 0 ∧ ∃ nm, Cond.classLink m_L_addVessel.y.cls z.2.2.2 nm ∈ lw_tbl ∧ xcp nm ∧ xISE ≠ nm := fun z hz => by
        rcases List.mem_cons.mp hz with rfl | hz
        · exact ⟨by decide, _, (tb2 (i := 11) rfl), Or.inl rfl, by decide⟩
        cases hz
      refine Ev.callVc (ci := 13) (C := RX10) (T := TX10) (N := 12) (As := [_]) (E := xISE) (pre := [(0, 9, 12, 13)]) (suf := []) (xa := 0) (xb := 9) (xh := 15) (xt := 15) hN (Or.inr (Or.inl rfl)) k_X10_addVessel rfl kd13 (tb2 (i := 161) rfl) ki_X10_addVessel kv_X10_addVessel dL_addVessel_4 rfl rfl (Nat.le_of_ble_eq_true rfl) (Nat.le_refl _) rfl (by decide) (by decide) hp (tb2 (i := 12) rfl) (tb2 (i := 116) rfl) hC (fun q => ?_)
      refine Ev.astore_n (i := 3) dL_addVessel_15 rfl (by decide) ?_
      refine Ei.const dL_addVessel_16 ?_
      exact Ev.iret rfl rfl dL_addVessel_17
def m_L_setCrews : Mt := (yL_setCrews, cL_setCrews, 4, some .int, [(0, 9, 12, 13)])
theorem k_L_setCrews : cokH m_L_setCrews 3 := ⟨rfl, (tb2 (i := 219) rfl), (tb1 (i := 0) rfl), by decide, by decide +kernel, by decide⟩
theorem ki_L_setCrews : Cond.static m_L_setCrews.y ∈ lw_tbl := (tb2 (i := 218) rfl)
theorem cd_setCrews {a : Int} {v : Vw} (h : (0 : Int) ≤ v 0 0) : (f_setCrews a v).2 0 0 ≤ 1 := by
  unfold f_setCrews
  repeat' split
  all_goals first
    | (simp [f_fails, upv, f_adds]; done)
    | exact Int.le_trans (cd_one _ _) (by decide)
    | (rw [fr_starts 0 0 (by decide)]; simp [upv]; done)
    | (show f_starts _ _ _ 0 0 ≤ _; rw [fr_starts 0 0 (by decide)]; simp [upv]; done)
theorem w_setCrews {X : Cx} {σ : Hp} {A : Nat → Int → Nat} {c : Cs} {B : Int → Nat} {m0 oL oD : Nat} {v : Vw} {T E a : Int} (hN : KN X) (hL : LW X σ A c B m0 oL oD v) (hV : INV c v) (hI : IM v T E) (ha : R32 a) :
    ∃ τ A' B', Ct X m_L_setCrews 7 [va_rf (some (A 13 0)), .int (i32 a), va_rf (some oL)] σ (.inl (some (.int (i32 ((f_setCrews a v).2 0 0))))) τ ∧ LW X τ A' (g_X10_setCrews a c).2 B' m0 oL oD v ∧ INV (g_X10_setCrews a c).2 (f_setCrews a v).2 ∧ A' 13 0 = A 13 0 ∧ ((f_setCrews a v).2 0 0 = 0 → τ.lv oL 0 = (i32 (f_setCrews a v).1).toInt64) := by
  obtain ⟨ok, hA, hV2⟩ := fc_setCrews hV ha
  have cd := cd_setCrews (a := a) (v := v) (hI.2 0 0).1
  obtain ⟨τ, A2, B2, hC, hS, hE2, hw⟩ := s_X10_setCrews (X := X) (ρ := σ) ok A σ B hL.1 (ws2 hL.1.2)
  obtain ⟨L1, l2, l3⟩ := hL.call hS
  have e13 := (hE2 13 0 (rg13 hL.1.2)).1
  have kd13 : σ.kd (A 13 0) = 14 := hL.1.1.kd (rg13 hL.1.2)
  rcases hA with ⟨z, e⟩ | ⟨z, e⟩
  · rw [e] at hC
    rw [z]
    refine ⟨τ.setL oL 0 (i32 (f_setCrews a v).1).toInt64, A2, B2, Ct.ofH (by decide +kernel) k_L_setCrews (Nat.le_of_ble_eq_true rfl) (by simp [Value.category, va_rf]) ?_, L1.setL _ _, hV2, e13, fun _ => up2_eq _ _ _ _⟩
    refine Ev.aload_n (i := 2) dL_setCrews_0 rfl rfl ?_
    refine Ei.const dL_setCrews_1 ?_
    refine Ev.aload_n (i := 0) dL_setCrews_2 rfl rfl ?_
    refine Ev.iload_n (i := 1) dL_setCrews_3 rfl rfl ?_
    refine Ev.callV (ci := 13) (C := RX10) (T := TX10) (N := 12) (As := [_]) (v := some (.int (i32 (f_setCrews a v).1))) k_X10_setCrews rfl kd13 (tb2 (i := 220) rfl) ki_X10_setCrews kv_X10_setCrews dL_setCrews_4 rfl rfl (Nat.le_of_ble_eq_true rfl) (Nat.le_refl _) hC ?_
    refine Ev.i2l dL_setCrews_7 rfl ?_
    refine Ev.last L1.2.2.1.1 (vin0 L1.2.2.1.2) dL_setCrews_8 ?_
    rw [clamp0]
    refine Ev.goto (tgt := 15) dL_setCrews_9 (by decide) ?_
    refine Ei.const dL_setCrews_15 ?_
    exact Ev.iret rfl rfl dL_setCrews_16
  · rw [e] at hC
    have z1 : (f_setCrews a v).2 0 0 = 1 := by omega
    rw [z1]
    refine ⟨τ, A2, B2, Ct.ofH (by decide +kernel) k_L_setCrews (Nat.le_of_ble_eq_true rfl) (by simp [Value.category, va_rf]) ?_, L1, hV2, e13, fun q => by omega⟩
    refine Ev.aload_n (i := 2) dL_setCrews_0 rfl rfl ?_
    refine Ei.const dL_setCrews_1 ?_
    refine Ev.aload_n (i := 0) dL_setCrews_2 rfl rfl ?_
    refine Ev.iload_n (i := 1) dL_setCrews_3 rfl rfl ?_
    have hp : ∀ z ∈ ([] : List (Nat × Nat × Nat × Nat)), z.2.2.2 ≠ 0 ∧ ∃ nm, Cond.classLink m_L_setCrews.y.cls z.2.2.2 nm ∈ lw_tbl ∧ xcp nm ∧ xIAE ≠ nm := fun z hz => by
      cases hz
    refine Ev.callVc (ci := 13) (C := RX10) (T := TX10) (N := 12) (As := [_]) (E := xIAE) (pre := []) (suf := []) (xa := 0) (xb := 9) (xh := 12) (xt := 13) hN (Or.inl rfl) k_X10_setCrews rfl kd13 (tb2 (i := 220) rfl) ki_X10_setCrews kv_X10_setCrews dL_setCrews_4 rfl rfl (Nat.le_of_ble_eq_true rfl) (Nat.le_refl _) rfl (by decide) (by decide) hp (tb2 (i := 11) rfl) (tb2 (i := 23) rfl) hC (fun q => ?_)
    refine Ev.astore_n (i := 3) dL_setCrews_12 rfl (by decide) ?_
    refine Ei.const dL_setCrews_13 ?_
    exact Ev.iret rfl rfl dL_setCrews_14
def m_L_addPacks : Mt := (yL_addPacks, cL_addPacks, 5, some .int, [(0, 10, 13, 13)])
theorem k_L_addPacks : cokH m_L_addPacks 4 := ⟨rfl, (tb2 (i := 227) rfl), (tb1 (i := 0) rfl), by decide, by decide +kernel, by decide⟩
theorem ki_L_addPacks : Cond.static m_L_addPacks.y ∈ lw_tbl := (tb2 (i := 226) rfl)
theorem cd_addPacks {a b : Int} {v : Vw} (h : (0 : Int) ≤ v 0 0) : (f_addPacks a b v).2 0 0 ≤ 1 := by
  unfold f_addPacks
  repeat' split
  all_goals first
    | (simp [f_fails, upv, f_adds]; done)
    | exact Int.le_trans (cd_one _ _) (by decide)
    | (rw [fr_starts 0 0 (by decide)]; simp [upv]; done)
    | (show f_starts _ _ _ 0 0 ≤ _; rw [fr_starts 0 0 (by decide)]; simp [upv]; done)
theorem w_addPacks {X : Cx} {σ : Hp} {A : Nat → Int → Nat} {c : Cs} {B : Int → Nat} {m0 oL oD : Nat} {v : Vw} {T E a b : Int} (hN : KN X) (hL : LW X σ A c B m0 oL oD v) (hV : INV c v) (hI : IM v T E) (ha : R32 a) (hb : R32 b) :
    ∃ τ A' B', Ct X m_L_addPacks 8 [va_rf (some (A 13 0)), .int (i32 a), .int (i32 b), va_rf (some oL)] σ (.inl (some (.int (i32 ((f_addPacks a b v).2 0 0))))) τ ∧ LW X τ A' (g_X10_addPacks a b c).2 B' m0 oL oD v ∧ INV (g_X10_addPacks a b c).2 (f_addPacks a b v).2 ∧ A' 13 0 = A 13 0 ∧ ((f_addPacks a b v).2 0 0 = 0 → τ.lv oL 0 = (i32 (f_addPacks a b v).1).toInt64) := by
  obtain ⟨ok, hA, hV2⟩ := fc_addPacks hV hI ha hb
  have cd := cd_addPacks (a := a) (b := b) (v := v) (hI.2 0 0).1
  obtain ⟨τ, A2, B2, hC, hS, hE2, hw⟩ := s_X10_addPacks (X := X) (ρ := σ) ok A σ B hL.1 (ws3 hL.1.2)
  obtain ⟨L1, l2, l3⟩ := hL.call hS
  have e13 := (hE2 13 0 (rg13 hL.1.2)).1
  have kd13 : σ.kd (A 13 0) = 14 := hL.1.1.kd (rg13 hL.1.2)
  rcases hA with ⟨z, e⟩ | ⟨z, e⟩
  · rw [e] at hC
    rw [z]
    refine ⟨τ.setL oL 0 (i32 (f_addPacks a b v).1).toInt64, A2, B2, Ct.ofH (by decide +kernel) k_L_addPacks (Nat.le_of_ble_eq_true rfl) (by simp [Value.category, va_rf]) ?_, L1.setL _ _, hV2, e13, fun _ => up2_eq _ _ _ _⟩
    refine Ev.aload_n (i := 3) dL_addPacks_0 rfl rfl ?_
    refine Ei.const dL_addPacks_1 ?_
    refine Ev.aload_n (i := 0) dL_addPacks_2 rfl rfl ?_
    refine Ev.iload_n (i := 1) dL_addPacks_3 rfl rfl ?_
    refine Ev.iload_n (i := 2) dL_addPacks_4 rfl rfl ?_
    refine Ev.callV (ci := 13) (C := RX10) (T := TX10) (N := 12) (As := [_, _]) (v := some (.int (i32 (f_addPacks a b v).1))) k_X10_addPacks rfl kd13 (tb2 (i := 228) rfl) ki_X10_addPacks kv_X10_addPacks dL_addPacks_5 rfl rfl (Nat.le_of_ble_eq_true rfl) (Nat.le_refl _) hC ?_
    refine Ev.i2l dL_addPacks_8 rfl ?_
    refine Ev.last L1.2.2.1.1 (vin0 L1.2.2.1.2) dL_addPacks_9 ?_
    rw [clamp0]
    refine Ev.goto (tgt := 17) dL_addPacks_10 (by decide) ?_
    refine Ei.const dL_addPacks_17 ?_
    exact Ev.iret rfl rfl dL_addPacks_18
  · rw [e] at hC
    have z1 : (f_addPacks a b v).2 0 0 = 1 := by omega
    rw [z1]
    refine ⟨τ, A2, B2, Ct.ofH (by decide +kernel) k_L_addPacks (Nat.le_of_ble_eq_true rfl) (by simp [Value.category, va_rf]) ?_, L1, hV2, e13, fun q => by omega⟩
    refine Ev.aload_n (i := 3) dL_addPacks_0 rfl rfl ?_
    refine Ei.const dL_addPacks_1 ?_
    refine Ev.aload_n (i := 0) dL_addPacks_2 rfl rfl ?_
    refine Ev.iload_n (i := 1) dL_addPacks_3 rfl rfl ?_
    refine Ev.iload_n (i := 2) dL_addPacks_4 rfl rfl ?_
    have hp : ∀ z ∈ ([] : List (Nat × Nat × Nat × Nat)), z.2.2.2 ≠ 0 ∧ ∃ nm, Cond.classLink m_L_addPacks.y.cls z.2.2.2 nm ∈ lw_tbl ∧ xcp nm ∧ xIAE ≠ nm := fun z hz => by
      cases hz
    refine Ev.callVc (ci := 13) (C := RX10) (T := TX10) (N := 12) (As := [_, _]) (E := xIAE) (pre := []) (suf := []) (xa := 0) (xb := 10) (xh := 13) (xt := 13) hN (Or.inl rfl) k_X10_addPacks rfl kd13 (tb2 (i := 228) rfl) ki_X10_addPacks kv_X10_addPacks dL_addPacks_5 rfl rfl (Nat.le_of_ble_eq_true rfl) (Nat.le_refl _) rfl (by decide) (by decide) hp (tb2 (i := 11) rfl) (tb2 (i := 23) rfl) hC (fun q => ?_)
    refine Ev.astore dL_addPacks_13 (by decide) ?_
    refine Ei.const dL_addPacks_15 ?_
    exact Ev.iret rfl rfl dL_addPacks_16
def m_L_pitches : Mt := (yL_pitches, cL_pitches, 4, some .int, [(0, 9, 12, 13)])
theorem k_L_pitches : cokH m_L_pitches 3 := ⟨rfl, (tb2 (i := 235) rfl), (tb1 (i := 0) rfl), by decide, by decide +kernel, by decide⟩
theorem ki_L_pitches : Cond.static m_L_pitches.y ∈ lw_tbl := (tb2 (i := 234) rfl)
theorem cd_pitches {a : Int} {v : Vw} (h : (0 : Int) ≤ v 0 0) : (f_pitches a v).2 0 0 ≤ 1 := by
  unfold f_pitches
  repeat' split
  all_goals first
    | (simp [f_fails, upv, f_adds]; done)
    | exact Int.le_trans (cd_one _ _) (by decide)
    | (rw [fr_starts 0 0 (by decide)]; simp [upv]; done)
    | (show f_starts _ _ _ 0 0 ≤ _; rw [fr_starts 0 0 (by decide)]; simp [upv]; done)
theorem w_pitches {X : Cx} {σ : Hp} {A : Nat → Int → Nat} {c : Cs} {B : Int → Nat} {m0 oL oD : Nat} {v : Vw} {T E a : Int} (hN : KN X) (hL : LW X σ A c B m0 oL oD v) (hV : INV c v) (hI : IM v T E) (ha : R32 a) :
    ∃ τ A' B', Ct X m_L_pitches 8 [va_rf (some (A 13 0)), .int (i32 a), va_rf (some oL)] σ (.inl (some (.int (i32 ((f_pitches a v).2 0 0))))) τ ∧ LW X τ A' (g_X10_pitches a c).2 B' m0 oL oD v ∧ INV (g_X10_pitches a c).2 (f_pitches a v).2 ∧ A' 13 0 = A 13 0 ∧ ((f_pitches a v).2 0 0 = 0 → τ.lv oL 0 = (i32 (f_pitches a v).1).toInt64) := by
  obtain ⟨ok, hA, hV2⟩ := fc_pitches hV hI ha
  have cd := cd_pitches (a := a) (v := v) (hI.2 0 0).1
  obtain ⟨τ, A2, B2, hC, hS, hE2, hw⟩ := s_X10_pitches (X := X) (ρ := σ) ok A σ B hL.1 (ws2 hL.1.2)
  obtain ⟨L1, l2, l3⟩ := hL.call hS
  have e13 := (hE2 13 0 (rg13 hL.1.2)).1
  have kd13 : σ.kd (A 13 0) = 14 := hL.1.1.kd (rg13 hL.1.2)
  rcases hA with ⟨z, e⟩ | ⟨z, e⟩
  · rw [e] at hC
    rw [z]
    refine ⟨τ.setL oL 0 (i32 (f_pitches a v).1).toInt64, A2, B2, Ct.ofH (by decide +kernel) k_L_pitches (Nat.le_of_ble_eq_true rfl) (by simp [Value.category, va_rf]) ?_, L1.setL _ _, hV2, e13, fun _ => up2_eq _ _ _ _⟩
    refine Ev.aload_n (i := 2) dL_pitches_0 rfl rfl ?_
    refine Ei.const dL_pitches_1 ?_
    refine Ev.aload_n (i := 0) dL_pitches_2 rfl rfl ?_
    refine Ev.iload_n (i := 1) dL_pitches_3 rfl rfl ?_
    refine Ev.callV (ci := 13) (C := RX10) (T := TX10) (N := 12) (As := [_]) (v := some (.int (i32 (f_pitches a v).1))) k_X10_pitches rfl kd13 (tb2 (i := 236) rfl) ki_X10_pitches kv_X10_pitches dL_pitches_4 rfl rfl (Nat.le_of_ble_eq_true rfl) (Nat.le_refl _) hC ?_
    refine Ev.i2l dL_pitches_7 rfl ?_
    refine Ev.last L1.2.2.1.1 (vin0 L1.2.2.1.2) dL_pitches_8 ?_
    rw [clamp0]
    refine Ev.goto (tgt := 15) dL_pitches_9 (by decide) ?_
    refine Ei.const dL_pitches_15 ?_
    exact Ev.iret rfl rfl dL_pitches_16
  · rw [e] at hC
    have z1 : (f_pitches a v).2 0 0 = 1 := by omega
    rw [z1]
    refine ⟨τ, A2, B2, Ct.ofH (by decide +kernel) k_L_pitches (Nat.le_of_ble_eq_true rfl) (by simp [Value.category, va_rf]) ?_, L1, hV2, e13, fun q => by omega⟩
    refine Ev.aload_n (i := 2) dL_pitches_0 rfl rfl ?_
    refine Ei.const dL_pitches_1 ?_
    refine Ev.aload_n (i := 0) dL_pitches_2 rfl rfl ?_
    refine Ev.iload_n (i := 1) dL_pitches_3 rfl rfl ?_
    have hp : ∀ z ∈ ([] : List (Nat × Nat × Nat × Nat)), z.2.2.2 ≠ 0 ∧ ∃ nm, Cond.classLink m_L_pitches.y.cls z.2.2.2 nm ∈ lw_tbl ∧ xcp nm ∧ xIAE ≠ nm := fun z hz => by
      cases hz
    refine Ev.callVc (ci := 13) (C := RX10) (T := TX10) (N := 12) (As := [_]) (E := xIAE) (pre := []) (suf := []) (xa := 0) (xb := 9) (xh := 12) (xt := 13) hN (Or.inl rfl) k_X10_pitches rfl kd13 (tb2 (i := 236) rfl) ki_X10_pitches kv_X10_pitches dL_pitches_4 rfl rfl (Nat.le_of_ble_eq_true rfl) (Nat.le_refl _) rfl (by decide) (by decide) hp (tb2 (i := 11) rfl) (tb2 (i := 23) rfl) hC (fun q => ?_)
    refine Ev.astore_n (i := 3) dL_pitches_12 rfl (by decide) ?_
    refine Ei.const dL_pitches_13 ?_
    exact Ev.iret rfl rfl dL_pitches_14
def m_L_nextGeneration : Mt := (yL_nextGeneration, cL_nextGeneration, 4, some .int, [(0, 9, 12, 13), (0, 9, 15, 35)])
theorem k_L_nextGeneration : cokH m_L_nextGeneration 3 := ⟨rfl, (tb3 (i := 15) rfl), (tb1 (i := 0) rfl), by decide, by decide +kernel, by decide⟩
theorem ki_L_nextGeneration : Cond.static m_L_nextGeneration.y ∈ lw_tbl := (tb3 (i := 14) rfl)
theorem cd_nextGeneration {a : Int} {v : Vw} (h : (0 : Int) ≤ v 0 0) : (f_nextGeneration a v).2 0 0 ≤ 2 := by
  unfold f_nextGeneration
  repeat' split
  all_goals first
    | (simp [f_fails, upv, f_adds]; done)
    | exact Int.le_trans (cd_one _ _) (by decide)
    | (rw [fr_starts 0 0 (by decide)]; simp [upv]; done)
    | (show f_starts _ _ _ 0 0 ≤ _; rw [fr_starts 0 0 (by decide)]; simp [upv]; done)
theorem w_nextGeneration {X : Cx} {σ : Hp} {A : Nat → Int → Nat} {c : Cs} {B : Int → Nat} {m0 oL oD : Nat} {v : Vw} {T E a : Int} (hN : KN X) (hL : LW X σ A c B m0 oL oD v) (hV : INV c v) (hI : IM v T E) (ha : R32 a) :
    ∃ τ A' B', Ct X m_L_nextGeneration 8 [va_rf (some (A 13 0)), .int (i32 a), va_rf (some oL)] σ (.inl (some (.int (i32 ((f_nextGeneration a v).2 0 0))))) τ ∧ LW X τ A' (g_X10_nextGeneration a c).2 B' m0 oL oD v ∧ INV (g_X10_nextGeneration a c).2 (f_nextGeneration a v).2 ∧ A' 13 0 = A 13 0 ∧ ((f_nextGeneration a v).2 0 0 = 0 → τ.lv oL 0 = (i32 (f_nextGeneration a v).1).toInt64) := by
  obtain ⟨ok, hA, hV2⟩ := fc_nextGeneration hV hI ha
  have cd := cd_nextGeneration (a := a) (v := v) (hI.2 0 0).1
  obtain ⟨τ, A2, B2, hC, hS, hE2, hw⟩ := s_X10_nextGeneration (X := X) (ρ := σ) ok A σ B hL.1 (ws2 hL.1.2)
  obtain ⟨L1, l2, l3⟩ := hL.call hS
  have e13 := (hE2 13 0 (rg13 hL.1.2)).1
  have kd13 : σ.kd (A 13 0) = 14 := hL.1.1.kd (rg13 hL.1.2)
  rcases hA with ⟨z, e⟩ | ⟨z, e⟩
  · rw [e] at hC
    rw [z]
    refine ⟨τ.setL oL 0 (i32 (f_nextGeneration a v).1).toInt64, A2, B2, Ct.ofH (by decide +kernel) k_L_nextGeneration (Nat.le_of_ble_eq_true rfl) (by simp [Value.category, va_rf]) ?_, L1.setL _ _, hV2, e13, fun _ => up2_eq _ _ _ _⟩
    refine Ev.aload_n (i := 2) dL_nextGeneration_0 rfl rfl ?_
    refine Ei.const dL_nextGeneration_1 ?_
    refine Ev.aload_n (i := 0) dL_nextGeneration_2 rfl rfl ?_
    refine Ev.iload_n (i := 1) dL_nextGeneration_3 rfl rfl ?_
    refine Ev.callV (ci := 13) (C := RX10) (T := TX10) (N := 12) (As := [_]) (v := some (.int (i32 (f_nextGeneration a v).1))) k_X10_nextGeneration rfl kd13 (tb3 (i := 17) rfl) ki_X10_nextGeneration kv_X10_nextGeneration dL_nextGeneration_4 rfl rfl (Nat.le_of_ble_eq_true rfl) (Nat.le_refl _) hC ?_
    refine Ev.i2l dL_nextGeneration_7 rfl ?_
    refine Ev.last L1.2.2.1.1 (vin0 L1.2.2.1.2) dL_nextGeneration_8 ?_
    rw [clamp0]
    refine Ev.goto (tgt := 18) dL_nextGeneration_9 (by decide) ?_
    refine Ei.const dL_nextGeneration_18 ?_
    exact Ev.iret rfl rfl dL_nextGeneration_19
  · rw [e] at hC
    by_cases z1 : (f_nextGeneration a v).2 0 0 = 1
    · rw [z1] at hC ⊢
      refine ⟨τ, A2, B2, Ct.ofH (by decide +kernel) k_L_nextGeneration (Nat.le_of_ble_eq_true rfl) (by simp [Value.category, va_rf]) ?_, L1, hV2, e13, fun q => by omega⟩
      refine Ev.aload_n (i := 2) dL_nextGeneration_0 rfl rfl ?_
      refine Ei.const dL_nextGeneration_1 ?_
      refine Ev.aload_n (i := 0) dL_nextGeneration_2 rfl rfl ?_
      refine Ev.iload_n (i := 1) dL_nextGeneration_3 rfl rfl ?_
      have hp : ∀ z ∈ ([] : List (Nat × Nat × Nat × Nat)), z.2.2.2 ≠ 0 ∧ ∃ nm, Cond.classLink m_L_nextGeneration.y.cls z.2.2.2 nm ∈ lw_tbl ∧ xcp nm ∧ xIAE ≠ nm := fun z hz => by
        cases hz
      refine Ev.callVc (ci := 13) (C := RX10) (T := TX10) (N := 12) (As := [_]) (E := xIAE) (pre := []) (suf := [(0, 9, 15, 35)]) (xa := 0) (xb := 9) (xh := 12) (xt := 13) hN (Or.inl rfl) k_X10_nextGeneration rfl kd13 (tb3 (i := 17) rfl) ki_X10_nextGeneration kv_X10_nextGeneration dL_nextGeneration_4 rfl rfl (Nat.le_of_ble_eq_true rfl) (Nat.le_refl _) rfl (by decide) (by decide) hp (tb2 (i := 11) rfl) (tb2 (i := 23) rfl) hC (fun q => ?_)
      refine Ev.astore_n (i := 3) dL_nextGeneration_12 rfl (by decide) ?_
      refine Ei.const dL_nextGeneration_13 ?_
      exact Ev.iret rfl rfl dL_nextGeneration_14
    · have y1 := z1
      have z2 : (f_nextGeneration a v).2 0 0 = 2 := by omega
      rw [z2] at hC ⊢
      refine ⟨τ, A2, B2, Ct.ofH (by decide +kernel) k_L_nextGeneration (Nat.le_of_ble_eq_true rfl) (by simp [Value.category, va_rf]) ?_, L1, hV2, e13, fun q => by omega⟩
      refine Ev.aload_n (i := 2) dL_nextGeneration_0 rfl rfl ?_
      refine Ei.const dL_nextGeneration_1 ?_
      refine Ev.aload_n (i := 0) dL_nextGeneration_2 rfl rfl ?_
      refine Ev.iload_n (i := 1) dL_nextGeneration_3 rfl rfl ?_
      have hp : ∀ z ∈ ([(0, 9, 12, 13)] : List (Nat × Nat × Nat × Nat)), z.2.2.2 ≠ 0 ∧ ∃ nm, Cond.classLink m_L_nextGeneration.y.cls z.2.2.2 nm ∈ lw_tbl ∧ xcp nm ∧ xNSE ≠ nm := fun z hz => by
        rcases List.mem_cons.mp hz with rfl | hz
        · exact ⟨by decide, _, (tb2 (i := 11) rfl), Or.inl rfl, by decide⟩
        cases hz
      refine Ev.callVc (ci := 13) (C := RX10) (T := TX10) (N := 12) (As := [_]) (E := xNSE) (pre := [(0, 9, 12, 13)]) (suf := []) (xa := 0) (xb := 9) (xh := 15) (xt := 35) hN (Or.inr (Or.inr (Or.inl rfl))) k_X10_nextGeneration rfl kd13 (tb3 (i := 17) rfl) ki_X10_nextGeneration kv_X10_nextGeneration dL_nextGeneration_4 rfl rfl (Nat.le_of_ble_eq_true rfl) (Nat.le_refl _) rfl (by decide) (by decide) hp (tb3 (i := 16) rfl) (tb3 (i := 31) rfl) hC (fun q => ?_)
      refine Ev.astore_n (i := 3) dL_nextGeneration_15 rfl (by decide) ?_
      refine Ei.const dL_nextGeneration_16 ?_
      exact Ev.iret rfl rfl dL_nextGeneration_17
def m_L_brew : Mt := (yL_brew, cL_brew, 5, some .int, [(0, 10, 13, 40), (0, 10, 17, 42), (0, 10, 21, 15), (0, 10, 25, 35)])
theorem k_L_brew : cokH m_L_brew 4 := ⟨rfl, (tb3 (i := 51) rfl), (tb1 (i := 0) rfl), by decide, by decide +kernel, by decide⟩
theorem ki_L_brew : Cond.static m_L_brew.y ∈ lw_tbl := (tb3 (i := 50) rfl)
theorem cd_brew {a b : Int} {v : Vw} (h : (0 : Int) ≤ v 0 0) : (f_brew a b v).2 0 0 ≤ 4 := by
  unfold f_brew
  repeat' split
  all_goals first
    | (simp [f_fails, upv, f_adds]; done)
    | exact Int.le_trans (cd_one _ _) (by decide)
    | (rw [fr_starts 0 0 (by decide)]; simp [upv]; done)
    | (show f_starts _ _ _ 0 0 ≤ _; rw [fr_starts 0 0 (by decide)]; simp [upv]; done)
theorem w_brew {X : Cx} {σ : Hp} {A : Nat → Int → Nat} {c : Cs} {B : Int → Nat} {m0 oL oD : Nat} {v : Vw} {T E a b : Int} (hN : KN X) (hL : LW X σ A c B m0 oL oD v) (hV : INV c v) (hI : IM v T E) (ha : R32 a) (hb : R32 b) :
    ∃ τ A' B', Ct X m_L_brew 9 [va_rf (some (A 13 0)), .int (i32 a), .int (i32 b), va_rf (some oL)] σ (.inl (some (.int (i32 ((f_brew a b v).2 0 0))))) τ ∧ LW X τ A' (g_X10_brew a b c).2 B' m0 oL oD v ∧ INV (g_X10_brew a b c).2 (f_brew a b v).2 ∧ A' 13 0 = A 13 0 ∧ ((f_brew a b v).2 0 0 = 0 → τ.lv oL 0 = (i32 (f_brew a b v).1).toInt64) := by
  obtain ⟨ok, hA, hV2⟩ := fc_brew hV hI ha hb
  have cd := cd_brew (a := a) (b := b) (v := v) (hI.2 0 0).1
  obtain ⟨τ, A2, B2, hC, hS, hE2, hw⟩ := s_X10_brew (X := X) (ρ := σ) ok A σ B hL.1 (ws3 hL.1.2)
  obtain ⟨L1, l2, l3⟩ := hL.call hS
  have e13 := (hE2 13 0 (rg13 hL.1.2)).1
  have kd13 : σ.kd (A 13 0) = 14 := hL.1.1.kd (rg13 hL.1.2)
  rcases hA with ⟨z, e⟩ | ⟨z, e⟩
  · rw [e] at hC
    rw [z]
    refine ⟨τ.setL oL 0 (i32 (f_brew a b v).1).toInt64, A2, B2, Ct.ofH (by decide +kernel) k_L_brew (Nat.le_of_ble_eq_true rfl) (by simp [Value.category, va_rf]) ?_, L1.setL _ _, hV2, e13, fun _ => up2_eq _ _ _ _⟩
    refine Ev.aload_n (i := 3) dL_brew_0 rfl rfl ?_
    refine Ei.const dL_brew_1 ?_
    refine Ev.aload_n (i := 0) dL_brew_2 rfl rfl ?_
    refine Ev.iload_n (i := 1) dL_brew_3 rfl rfl ?_
    refine Ev.iload_n (i := 2) dL_brew_4 rfl rfl ?_
    refine Ev.callV (ci := 13) (C := RX10) (T := TX10) (N := 12) (As := [_, _]) (v := some (.int (i32 (f_brew a b v).1))) k_X10_brew rfl kd13 (tb3 (i := 54) rfl) ki_X10_brew kv_X10_brew dL_brew_5 rfl rfl (Nat.le_of_ble_eq_true rfl) (Nat.le_refl _) hC ?_
    refine Ev.i2l dL_brew_8 rfl ?_
    refine Ev.last L1.2.2.1.1 (vin0 L1.2.2.1.2) dL_brew_9 ?_
    rw [clamp0]
    refine Ev.goto (tgt := 29) dL_brew_10 (by decide) ?_
    refine Ei.const dL_brew_29 ?_
    exact Ev.iret rfl rfl dL_brew_30
  · rw [e] at hC
    by_cases z1 : (f_brew a b v).2 0 0 = 1
    · rw [z1] at hC ⊢
      refine ⟨τ, A2, B2, Ct.ofH (by decide +kernel) k_L_brew (Nat.le_of_ble_eq_true rfl) (by simp [Value.category, va_rf]) ?_, L1, hV2, e13, fun q => by omega⟩
      refine Ev.aload_n (i := 3) dL_brew_0 rfl rfl ?_
      refine Ei.const dL_brew_1 ?_
      refine Ev.aload_n (i := 0) dL_brew_2 rfl rfl ?_
      refine Ev.iload_n (i := 1) dL_brew_3 rfl rfl ?_
      refine Ev.iload_n (i := 2) dL_brew_4 rfl rfl ?_
      have hp : ∀ z ∈ ([] : List (Nat × Nat × Nat × Nat)), z.2.2.2 ≠ 0 ∧ ∃ nm, Cond.classLink m_L_brew.y.cls z.2.2.2 nm ∈ lw_tbl ∧ xcp nm ∧ xIOB ≠ nm := fun z hz => by
        cases hz
      refine Ev.callVc (ci := 13) (C := RX10) (T := TX10) (N := 12) (As := [_, _]) (E := xIOB) (pre := []) (suf := [(0, 10, 17, 42), (0, 10, 21, 15), (0, 10, 25, 35)]) (xa := 0) (xb := 10) (xh := 13) (xt := 40) hN (Or.inr (Or.inr (Or.inr (Or.inl rfl)))) k_X10_brew rfl kd13 (tb3 (i := 54) rfl) ki_X10_brew kv_X10_brew dL_brew_5 rfl rfl (Nat.le_of_ble_eq_true rfl) (Nat.le_refl _) rfl (by decide) (by decide) hp (tb3 (i := 52) rfl) (tb3 (i := 64) rfl) hC (fun q => ?_)
      refine Ev.astore dL_brew_13 (by decide) ?_
      refine Ei.const dL_brew_15 ?_
      exact Ev.iret rfl rfl dL_brew_16
    · have y1 := z1
      by_cases z2 : (f_brew a b v).2 0 0 = 2
      · rw [z2] at hC ⊢
        refine ⟨τ, A2, B2, Ct.ofH (by decide +kernel) k_L_brew (Nat.le_of_ble_eq_true rfl) (by simp [Value.category, va_rf]) ?_, L1, hV2, e13, fun q => by omega⟩
        refine Ev.aload_n (i := 3) dL_brew_0 rfl rfl ?_
        refine Ei.const dL_brew_1 ?_
        refine Ev.aload_n (i := 0) dL_brew_2 rfl rfl ?_
        refine Ev.iload_n (i := 1) dL_brew_3 rfl rfl ?_
        refine Ev.iload_n (i := 2) dL_brew_4 rfl rfl ?_
        have hp : ∀ z ∈ ([(0, 10, 13, 40)] : List (Nat × Nat × Nat × Nat)), z.2.2.2 ≠ 0 ∧ ∃ nm, Cond.classLink m_L_brew.y.cls z.2.2.2 nm ∈ lw_tbl ∧ xcp nm ∧ xUOE ≠ nm := fun z hz => by
          rcases List.mem_cons.mp hz with rfl | hz
          · exact ⟨by decide, _, (tb3 (i := 52) rfl), Or.inr (Or.inr (Or.inr (Or.inl rfl))), by decide⟩
          cases hz
        refine Ev.callVc (ci := 13) (C := RX10) (T := TX10) (N := 12) (As := [_, _]) (E := xUOE) (pre := [(0, 10, 13, 40)]) (suf := [(0, 10, 21, 15), (0, 10, 25, 35)]) (xa := 0) (xb := 10) (xh := 17) (xt := 42) hN (Or.inr (Or.inr (Or.inr (Or.inr rfl)))) k_X10_brew rfl kd13 (tb3 (i := 54) rfl) ki_X10_brew kv_X10_brew dL_brew_5 rfl rfl (Nat.le_of_ble_eq_true rfl) (Nat.le_refl _) rfl (by decide) (by decide) hp (tb3 (i := 53) rfl) (tb3 (i := 85) rfl) hC (fun q => ?_)
        refine Ev.astore dL_brew_17 (by decide) ?_
        refine Ei.const dL_brew_19 ?_
        exact Ev.iret rfl rfl dL_brew_20
      · have y2 := z2
        by_cases z3 : (f_brew a b v).2 0 0 = 3
        · rw [z3] at hC ⊢
          refine ⟨τ, A2, B2, Ct.ofH (by decide +kernel) k_L_brew (Nat.le_of_ble_eq_true rfl) (by simp [Value.category, va_rf]) ?_, L1, hV2, e13, fun q => by omega⟩
          refine Ev.aload_n (i := 3) dL_brew_0 rfl rfl ?_
          refine Ei.const dL_brew_1 ?_
          refine Ev.aload_n (i := 0) dL_brew_2 rfl rfl ?_
          refine Ev.iload_n (i := 1) dL_brew_3 rfl rfl ?_
          refine Ev.iload_n (i := 2) dL_brew_4 rfl rfl ?_
          have hp : ∀ z ∈ ([(0, 10, 13, 40), (0, 10, 17, 42)] : List (Nat × Nat × Nat × Nat)), z.2.2.2 ≠ 0 ∧ ∃ nm, Cond.classLink m_L_brew.y.cls z.2.2.2 nm ∈ lw_tbl ∧ xcp nm ∧ xISE ≠ nm := fun z hz => by
            rcases List.mem_cons.mp hz with rfl | hz
            · exact ⟨by decide, _, (tb3 (i := 52) rfl), Or.inr (Or.inr (Or.inr (Or.inl rfl))), by decide⟩
            rcases List.mem_cons.mp hz with rfl | hz
            · exact ⟨by decide, _, (tb3 (i := 53) rfl), Or.inr (Or.inr (Or.inr (Or.inr rfl))), by decide⟩
            cases hz
          refine Ev.callVc (ci := 13) (C := RX10) (T := TX10) (N := 12) (As := [_, _]) (E := xISE) (pre := [(0, 10, 13, 40), (0, 10, 17, 42)]) (suf := [(0, 10, 25, 35)]) (xa := 0) (xb := 10) (xh := 21) (xt := 15) hN (Or.inr (Or.inl rfl)) k_X10_brew rfl kd13 (tb3 (i := 54) rfl) ki_X10_brew kv_X10_brew dL_brew_5 rfl rfl (Nat.le_of_ble_eq_true rfl) (Nat.le_refl _) rfl (by decide) (by decide) hp (tb2 (i := 12) rfl) (tb2 (i := 116) rfl) hC (fun q => ?_)
          refine Ev.astore dL_brew_21 (by decide) ?_
          refine Ei.const dL_brew_23 ?_
          exact Ev.iret rfl rfl dL_brew_24
        · have y3 := z3
          have z4 : (f_brew a b v).2 0 0 = 4 := by omega
          rw [z4] at hC ⊢
          refine ⟨τ, A2, B2, Ct.ofH (by decide +kernel) k_L_brew (Nat.le_of_ble_eq_true rfl) (by simp [Value.category, va_rf]) ?_, L1, hV2, e13, fun q => by omega⟩
          refine Ev.aload_n (i := 3) dL_brew_0 rfl rfl ?_
          refine Ei.const dL_brew_1 ?_
          refine Ev.aload_n (i := 0) dL_brew_2 rfl rfl ?_
          refine Ev.iload_n (i := 1) dL_brew_3 rfl rfl ?_
          refine Ev.iload_n (i := 2) dL_brew_4 rfl rfl ?_
          have hp : ∀ z ∈ ([(0, 10, 13, 40), (0, 10, 17, 42), (0, 10, 21, 15)] : List (Nat × Nat × Nat × Nat)), z.2.2.2 ≠ 0 ∧ ∃ nm, Cond.classLink m_L_brew.y.cls z.2.2.2 nm ∈ lw_tbl ∧ xcp nm ∧ xNSE ≠ nm := fun z hz => by
            rcases List.mem_cons.mp hz with rfl | hz
            · exact ⟨by decide, _, (tb3 (i := 52) rfl), Or.inr (Or.inr (Or.inr (Or.inl rfl))), by decide⟩
            rcases List.mem_cons.mp hz with rfl | hz
            · exact ⟨by decide, _, (tb3 (i := 53) rfl), Or.inr (Or.inr (Or.inr (Or.inr rfl))), by decide⟩
            rcases List.mem_cons.mp hz with rfl | hz
            · exact ⟨by decide, _, (tb2 (i := 12) rfl), Or.inr (Or.inl rfl), by decide⟩
            cases hz
          refine Ev.callVc (ci := 13) (C := RX10) (T := TX10) (N := 12) (As := [_, _]) (E := xNSE) (pre := [(0, 10, 13, 40), (0, 10, 17, 42), (0, 10, 21, 15)]) (suf := []) (xa := 0) (xb := 10) (xh := 25) (xt := 35) hN (Or.inr (Or.inr (Or.inl rfl))) k_X10_brew rfl kd13 (tb3 (i := 54) rfl) ki_X10_brew kv_X10_brew dL_brew_5 rfl rfl (Nat.le_of_ble_eq_true rfl) (Nat.le_refl _) rfl (by decide) (by decide) hp (tb3 (i := 16) rfl) (tb3 (i := 31) rfl) hC (fun q => ?_)
          refine Ev.astore dL_brew_25 (by decide) ?_
          refine Ei.const dL_brew_27 ?_
          exact Ev.iret rfl rfl dL_brew_28
def m_L_enqueue : Mt := (yL_enqueue, cL_enqueue, 4, some .int, [(0, 9, 12, 40), (0, 9, 15, 15)])
theorem k_L_enqueue : cokH m_L_enqueue 3 := ⟨rfl, (tb3 (i := 174) rfl), (tb1 (i := 0) rfl), by decide, by decide +kernel, by decide⟩
theorem ki_L_enqueue : Cond.static m_L_enqueue.y ∈ lw_tbl := (tb3 (i := 173) rfl)
theorem cd_enqueue {a : Int} {v : Vw} (h : (0 : Int) ≤ v 0 0) : (f_enqueue a v).2 0 0 ≤ 2 := by
  unfold f_enqueue
  repeat' split
  all_goals first
    | (simp [f_fails, upv, f_adds]; done)
    | exact Int.le_trans (cd_one _ _) (by decide)
    | (rw [fr_starts 0 0 (by decide)]; simp [upv]; done)
    | (show f_starts _ _ _ 0 0 ≤ _; rw [fr_starts 0 0 (by decide)]; simp [upv]; done)
theorem w_enqueue {X : Cx} {σ : Hp} {A : Nat → Int → Nat} {c : Cs} {B : Int → Nat} {m0 oL oD : Nat} {v : Vw} {T E a : Int} (hN : KN X) (hL : LW X σ A c B m0 oL oD v) (hV : INV c v) (hI : IM v T E) (ha : R32 a) :
    ∃ τ A' B', Ct X m_L_enqueue 8 [va_rf (some (A 13 0)), .int (i32 a), va_rf (some oL)] σ (.inl (some (.int (i32 ((f_enqueue a v).2 0 0))))) τ ∧ LW X τ A' (g_X10_enqueue a c).2 B' m0 oL oD v ∧ INV (g_X10_enqueue a c).2 (f_enqueue a v).2 ∧ A' 13 0 = A 13 0 ∧ ((f_enqueue a v).2 0 0 = 0 → τ.lv oL 0 = (i32 (f_enqueue a v).1).toInt64) := by
  obtain ⟨ok, hA, hV2⟩ := fc_enqueue hV hI ha
  have cd := cd_enqueue (a := a) (v := v) (hI.2 0 0).1
  obtain ⟨τ, A2, B2, hC, hS, hE2, hw⟩ := s_X10_enqueue (X := X) (ρ := σ) ok A σ B hL.1 (ws2 hL.1.2)
  obtain ⟨L1, l2, l3⟩ := hL.call hS
  have e13 := (hE2 13 0 (rg13 hL.1.2)).1
  have kd13 : σ.kd (A 13 0) = 14 := hL.1.1.kd (rg13 hL.1.2)
  rcases hA with ⟨z, e⟩ | ⟨z, e⟩
  · rw [e] at hC
    rw [z]
    refine ⟨τ.setL oL 0 (i32 (f_enqueue a v).1).toInt64, A2, B2, Ct.ofH (by decide +kernel) k_L_enqueue (Nat.le_of_ble_eq_true rfl) (by simp [Value.category, va_rf]) ?_, L1.setL _ _, hV2, e13, fun _ => up2_eq _ _ _ _⟩
    refine Ev.aload_n (i := 2) dL_enqueue_0 rfl rfl ?_
    refine Ei.const dL_enqueue_1 ?_
    refine Ev.aload_n (i := 0) dL_enqueue_2 rfl rfl ?_
    refine Ev.iload_n (i := 1) dL_enqueue_3 rfl rfl ?_
    refine Ev.callV (ci := 13) (C := RX10) (T := TX10) (N := 12) (As := [_]) (v := some (.int (i32 (f_enqueue a v).1))) k_X10_enqueue rfl kd13 (tb3 (i := 175) rfl) ki_X10_enqueue kv_X10_enqueue dL_enqueue_4 rfl rfl (Nat.le_of_ble_eq_true rfl) (Nat.le_refl _) hC ?_
    refine Ev.i2l dL_enqueue_7 rfl ?_
    refine Ev.last L1.2.2.1.1 (vin0 L1.2.2.1.2) dL_enqueue_8 ?_
    rw [clamp0]
    refine Ev.goto (tgt := 18) dL_enqueue_9 (by decide) ?_
    refine Ei.const dL_enqueue_18 ?_
    exact Ev.iret rfl rfl dL_enqueue_19
  · rw [e] at hC
    by_cases z1 : (f_enqueue a v).2 0 0 = 1
    · rw [z1] at hC ⊢
      refine ⟨τ, A2, B2, Ct.ofH (by decide +kernel) k_L_enqueue (Nat.le_of_ble_eq_true rfl) (by simp [Value.category, va_rf]) ?_, L1, hV2, e13, fun q => by omega⟩
      refine Ev.aload_n (i := 2) dL_enqueue_0 rfl rfl ?_
      refine Ei.const dL_enqueue_1 ?_
      refine Ev.aload_n (i := 0) dL_enqueue_2 rfl rfl ?_
      refine Ev.iload_n (i := 1) dL_enqueue_3 rfl rfl ?_
      have hp : ∀ z ∈ ([] : List (Nat × Nat × Nat × Nat)), z.2.2.2 ≠ 0 ∧ ∃ nm, Cond.classLink m_L_enqueue.y.cls z.2.2.2 nm ∈ lw_tbl ∧ xcp nm ∧ xIOB ≠ nm := fun z hz => by
        cases hz
      refine Ev.callVc (ci := 13) (C := RX10) (T := TX10) (N := 12) (As := [_]) (E := xIOB) (pre := []) (suf := [(0, 9, 15, 15)]) (xa := 0) (xb := 9) (xh := 12) (xt := 40) hN (Or.inr (Or.inr (Or.inr (Or.inl rfl)))) k_X10_enqueue rfl kd13 (tb3 (i := 175) rfl) ki_X10_enqueue kv_X10_enqueue dL_enqueue_4 rfl rfl (Nat.le_of_ble_eq_true rfl) (Nat.le_refl _) rfl (by decide) (by decide) hp (tb3 (i := 52) rfl) (tb3 (i := 64) rfl) hC (fun q => ?_)
      refine Ev.astore_n (i := 3) dL_enqueue_12 rfl (by decide) ?_
      refine Ei.const dL_enqueue_13 ?_
      exact Ev.iret rfl rfl dL_enqueue_14
    · have y1 := z1
      have z2 : (f_enqueue a v).2 0 0 = 2 := by omega
      rw [z2] at hC ⊢
      refine ⟨τ, A2, B2, Ct.ofH (by decide +kernel) k_L_enqueue (Nat.le_of_ble_eq_true rfl) (by simp [Value.category, va_rf]) ?_, L1, hV2, e13, fun q => by omega⟩
      refine Ev.aload_n (i := 2) dL_enqueue_0 rfl rfl ?_
      refine Ei.const dL_enqueue_1 ?_
      refine Ev.aload_n (i := 0) dL_enqueue_2 rfl rfl ?_
      refine Ev.iload_n (i := 1) dL_enqueue_3 rfl rfl ?_
      have hp : ∀ z ∈ ([(0, 9, 12, 40)] : List (Nat × Nat × Nat × Nat)), z.2.2.2 ≠ 0 ∧ ∃ nm, Cond.classLink m_L_enqueue.y.cls z.2.2.2 nm ∈ lw_tbl ∧ xcp nm ∧ xISE ≠ nm := fun z hz => by
        rcases List.mem_cons.mp hz with rfl | hz
        · exact ⟨by decide, _, (tb3 (i := 52) rfl), Or.inr (Or.inr (Or.inr (Or.inl rfl))), by decide⟩
        cases hz
      refine Ev.callVc (ci := 13) (C := RX10) (T := TX10) (N := 12) (As := [_]) (E := xISE) (pre := [(0, 9, 12, 40)]) (suf := []) (xa := 0) (xb := 9) (xh := 15) (xt := 15) hN (Or.inr (Or.inl rfl)) k_X10_enqueue rfl kd13 (tb3 (i := 175) rfl) ki_X10_enqueue kv_X10_enqueue dL_enqueue_4 rfl rfl (Nat.le_of_ble_eq_true rfl) (Nat.le_refl _) rfl (by decide) (by decide) hp (tb2 (i := 12) rfl) (tb2 (i := 116) rfl) hC (fun q => ?_)
      refine Ev.astore_n (i := 3) dL_enqueue_15 rfl (by decide) ?_
      refine Ei.const dL_enqueue_16 ?_
      exact Ev.iret rfl rfl dL_enqueue_17
def m_L_withdraw : Mt := (yL_withdraw, cL_withdraw, 4, some .int, [(0, 9, 12, 35)])
theorem k_L_withdraw : cokH m_L_withdraw 3 := ⟨rfl, (tb3 (i := 182) rfl), (tb1 (i := 0) rfl), by decide, by decide +kernel, by decide⟩
theorem ki_L_withdraw : Cond.static m_L_withdraw.y ∈ lw_tbl := (tb3 (i := 181) rfl)
theorem cd_withdraw {a : Int} {v : Vw} (h : (0 : Int) ≤ v 0 0) : (f_withdraw a v).2 0 0 ≤ 1 := by
  unfold f_withdraw
  split
  · simp [f_fails, upv]
  · show (f_takesOut a (upv v 0 0 0)).2 0 0 ≤ 1
    rw [fr_takesOut 0 0 (by decide)]
    simp [upv]
theorem w_withdraw {X : Cx} {σ : Hp} {A : Nat → Int → Nat} {c : Cs} {B : Int → Nat} {m0 oL oD : Nat} {v : Vw} {T E a : Int} (hN : KN X) (hL : LW X σ A c B m0 oL oD v) (hV : INV c v) (hI : IM v T E) (ha : R32 a) :
    ∃ τ A' B', Ct X m_L_withdraw 8 [va_rf (some (A 13 0)), .int (i32 a), va_rf (some oL)] σ (.inl (some (.int (i32 ((f_withdraw a v).2 0 0))))) τ ∧ LW X τ A' (g_X10_withdraw a c).2 B' m0 oL oD v ∧ INV (g_X10_withdraw a c).2 (f_withdraw a v).2 ∧ A' 13 0 = A 13 0 ∧ ((f_withdraw a v).2 0 0 = 0 → τ.lv oL 0 = (i32 (f_withdraw a v).1).toInt64) := by
  obtain ⟨ok, hA, hV2⟩ := fc_withdraw hV hI ha
  have cd := cd_withdraw (a := a) (v := v) (hI.2 0 0).1
  obtain ⟨τ, A2, B2, hC, hS, hE2, hw⟩ := s_X10_withdraw (X := X) (ρ := σ) ok A σ B hL.1 (ws2 hL.1.2)
  obtain ⟨L1, l2, l3⟩ := hL.call hS
  have e13 := (hE2 13 0 (rg13 hL.1.2)).1
  have kd13 : σ.kd (A 13 0) = 14 := hL.1.1.kd (rg13 hL.1.2)
  rcases hA with ⟨z, e⟩ | ⟨z, e⟩
  · rw [e] at hC
    rw [z]
    refine ⟨τ.setL oL 0 (i32 (f_withdraw a v).1).toInt64, A2, B2, Ct.ofH (by decide +kernel) k_L_withdraw (Nat.le_of_ble_eq_true rfl) (by simp [Value.category, va_rf]) ?_, L1.setL _ _, hV2, e13, fun _ => up2_eq _ _ _ _⟩
    refine Ev.aload_n (i := 2) dL_withdraw_0 rfl rfl ?_
    refine Ei.const dL_withdraw_1 ?_
    refine Ev.aload_n (i := 0) dL_withdraw_2 rfl rfl ?_
    refine Ev.iload_n (i := 1) dL_withdraw_3 rfl rfl ?_
    refine Ev.callV (ci := 13) (C := RX10) (T := TX10) (N := 12) (As := [_]) (v := some (.int (i32 (f_withdraw a v).1))) k_X10_withdraw rfl kd13 (tb3 (i := 183) rfl) ki_X10_withdraw kv_X10_withdraw dL_withdraw_4 rfl rfl (Nat.le_of_ble_eq_true rfl) (Nat.le_refl _) hC ?_
    refine Ev.i2l dL_withdraw_7 rfl ?_
    refine Ev.last L1.2.2.1.1 (vin0 L1.2.2.1.2) dL_withdraw_8 ?_
    rw [clamp0]
    refine Ev.goto (tgt := 15) dL_withdraw_9 (by decide) ?_
    refine Ei.const dL_withdraw_15 ?_
    exact Ev.iret rfl rfl dL_withdraw_16
  · rw [e] at hC
    have z1 : (f_withdraw a v).2 0 0 = 1 := by omega
    rw [z1]
    refine ⟨τ, A2, B2, Ct.ofH (by decide +kernel) k_L_withdraw (Nat.le_of_ble_eq_true rfl) (by simp [Value.category, va_rf]) ?_, L1, hV2, e13, fun q => by omega⟩
    refine Ev.aload_n (i := 2) dL_withdraw_0 rfl rfl ?_
    refine Ei.const dL_withdraw_1 ?_
    refine Ev.aload_n (i := 0) dL_withdraw_2 rfl rfl ?_
    refine Ev.iload_n (i := 1) dL_withdraw_3 rfl rfl ?_
    have hp : ∀ z ∈ ([] : List (Nat × Nat × Nat × Nat)), z.2.2.2 ≠ 0 ∧ ∃ nm, Cond.classLink m_L_withdraw.y.cls z.2.2.2 nm ∈ lw_tbl ∧ xcp nm ∧ xNSE ≠ nm := fun z hz => by
      cases hz
    refine Ev.callVc (ci := 13) (C := RX10) (T := TX10) (N := 12) (As := [_]) (E := xNSE) (pre := []) (suf := []) (xa := 0) (xb := 9) (xh := 12) (xt := 35) hN (Or.inr (Or.inr (Or.inl rfl))) k_X10_withdraw rfl kd13 (tb3 (i := 183) rfl) ki_X10_withdraw kv_X10_withdraw dL_withdraw_4 rfl rfl (Nat.le_of_ble_eq_true rfl) (Nat.le_refl _) rfl (by decide) (by decide) hp (tb3 (i := 16) rfl) (tb3 (i := 31) rfl) hC (fun q => ?_)
    refine Ev.astore_n (i := 3) dL_withdraw_12 rfl (by decide) ?_
    refine Ei.const dL_withdraw_13 ?_
    exact Ev.iret rfl rfl dL_withdraw_14
def m_L_queuedAt : Mt := (yL_queuedAt, cL_queuedAt, 4, some .int, [(0, 9, 12, 35)])
theorem k_L_queuedAt : cokH m_L_queuedAt 3 := ⟨rfl, (tb3 (i := 196) rfl), (tb1 (i := 0) rfl), by decide, by decide +kernel, by decide⟩
theorem ki_L_queuedAt : Cond.static m_L_queuedAt.y ∈ lw_tbl := (tb3 (i := 195) rfl)
theorem cd_queuedAt {a : Int} {v : Vw} (h : (0 : Int) ≤ v 0 0) : (f_queuedAt a v).2 0 0 ≤ 1 := by
  unfold f_queuedAt
  repeat' split
  all_goals first
    | (simp [f_fails, upv, f_adds]; done)
    | exact Int.le_trans (cd_one _ _) (by decide)
    | (rw [fr_starts 0 0 (by decide)]; simp [upv]; done)
    | (show f_starts _ _ _ 0 0 ≤ _; rw [fr_starts 0 0 (by decide)]; simp [upv]; done)
theorem w_queuedAt {X : Cx} {σ : Hp} {A : Nat → Int → Nat} {c : Cs} {B : Int → Nat} {m0 oL oD : Nat} {v : Vw} {T E a : Int} (hN : KN X) (hL : LW X σ A c B m0 oL oD v) (hV : INV c v) (hI : IM v T E) (ha : R32 a) :
    ∃ τ A' B', Ct X m_L_queuedAt 8 [va_rf (some (A 13 0)), .int (i32 a), va_rf (some oL)] σ (.inl (some (.int (i32 ((f_queuedAt a v).2 0 0))))) τ ∧ LW X τ A' (g_X10_queuedAt a c).2 B' m0 oL oD v ∧ INV (g_X10_queuedAt a c).2 (f_queuedAt a v).2 ∧ A' 13 0 = A 13 0 ∧ ((f_queuedAt a v).2 0 0 = 0 → τ.lv oL 0 = (i32 (f_queuedAt a v).1).toInt64) := by
  obtain ⟨ok, hA, hV2⟩ := fc_queuedAt hV hI ha
  have cd := cd_queuedAt (a := a) (v := v) (hI.2 0 0).1
  obtain ⟨τ, A2, B2, hC, hS, hE2, hw⟩ := s_X10_queuedAt (X := X) (ρ := σ) ok A σ B hL.1 (ws2 hL.1.2)
  obtain ⟨L1, l2, l3⟩ := hL.call hS
  have e13 := (hE2 13 0 (rg13 hL.1.2)).1
  have kd13 : σ.kd (A 13 0) = 14 := hL.1.1.kd (rg13 hL.1.2)
  rcases hA with ⟨z, e⟩ | ⟨z, e⟩
  · rw [e] at hC
    rw [z]
    refine ⟨τ.setL oL 0 (i32 (f_queuedAt a v).1).toInt64, A2, B2, Ct.ofH (by decide +kernel) k_L_queuedAt (Nat.le_of_ble_eq_true rfl) (by simp [Value.category, va_rf]) ?_, L1.setL _ _, hV2, e13, fun _ => up2_eq _ _ _ _⟩
    refine Ev.aload_n (i := 2) dL_queuedAt_0 rfl rfl ?_
    refine Ei.const dL_queuedAt_1 ?_
    refine Ev.aload_n (i := 0) dL_queuedAt_2 rfl rfl ?_
    refine Ev.iload_n (i := 1) dL_queuedAt_3 rfl rfl ?_
    refine Ev.callV (ci := 13) (C := RX10) (T := TX10) (N := 12) (As := [_]) (v := some (.int (i32 (f_queuedAt a v).1))) k_X10_queuedAt rfl kd13 (tb3 (i := 197) rfl) ki_X10_queuedAt kv_X10_queuedAt dL_queuedAt_4 rfl rfl (Nat.le_of_ble_eq_true rfl) (Nat.le_refl _) hC ?_
    refine Ev.i2l dL_queuedAt_7 rfl ?_
    refine Ev.last L1.2.2.1.1 (vin0 L1.2.2.1.2) dL_queuedAt_8 ?_
    rw [clamp0]
    refine Ev.goto (tgt := 15) dL_queuedAt_9 (by decide) ?_
    refine Ei.const dL_queuedAt_15 ?_
    exact Ev.iret rfl rfl dL_queuedAt_16
  · rw [e] at hC
    have z1 : (f_queuedAt a v).2 0 0 = 1 := by omega
    rw [z1]
    refine ⟨τ, A2, B2, Ct.ofH (by decide +kernel) k_L_queuedAt (Nat.le_of_ble_eq_true rfl) (by simp [Value.category, va_rf]) ?_, L1, hV2, e13, fun q => by omega⟩
    refine Ev.aload_n (i := 2) dL_queuedAt_0 rfl rfl ?_
    refine Ei.const dL_queuedAt_1 ?_
    refine Ev.aload_n (i := 0) dL_queuedAt_2 rfl rfl ?_
    refine Ev.iload_n (i := 1) dL_queuedAt_3 rfl rfl ?_
    have hp : ∀ z ∈ ([] : List (Nat × Nat × Nat × Nat)), z.2.2.2 ≠ 0 ∧ ∃ nm, Cond.classLink m_L_queuedAt.y.cls z.2.2.2 nm ∈ lw_tbl ∧ xcp nm ∧ xNSE ≠ nm := fun z hz => by
      cases hz
    refine Ev.callVc (ci := 13) (C := RX10) (T := TX10) (N := 12) (As := [_]) (E := xNSE) (pre := []) (suf := []) (xa := 0) (xb := 9) (xh := 12) (xt := 35) hN (Or.inr (Or.inr (Or.inl rfl))) k_X10_queuedAt rfl kd13 (tb3 (i := 197) rfl) ki_X10_queuedAt kv_X10_queuedAt dL_queuedAt_4 rfl rfl (Nat.le_of_ble_eq_true rfl) (Nat.le_refl _) rfl (by decide) (by decide) hp (tb3 (i := 16) rfl) (tb3 (i := 31) rfl) hC (fun q => ?_)
    refine Ev.astore_n (i := 3) dL_queuedAt_12 rfl (by decide) ?_
    refine Ei.const dL_queuedAt_13 ?_
    exact Ev.iret rfl rfl dL_queuedAt_14
def m_L_forecast : Mt := (yL_forecast, cL_forecast, 3, some .int, [(0, 8, 11, 35)])
theorem k_L_forecast : cokH m_L_forecast 2 := ⟨rfl, (tb3 (i := 203) rfl), (tb1 (i := 0) rfl), by decide, by decide +kernel, by decide⟩
theorem ki_L_forecast : Cond.static m_L_forecast.y ∈ lw_tbl := (tb3 (i := 202) rfl)
theorem cd_forecast {v : Vw} (h : (0 : Int) ≤ v 0 0) : (f_forecast v).2 0 0 ≤ 1 := by
  unfold f_forecast
  split
  · exact cd_can v
  · show (f_forecastOf 39 (f_canForecast v).2).2 0 0 ≤ 1
    rw [fr_forecastOf 0 0 (by decide)]
    exact cd_can v
theorem w_forecast {X : Cx} {σ : Hp} {A : Nat → Int → Nat} {c : Cs} {B : Int → Nat} {m0 oL oD : Nat} {v : Vw} {T E  : Int} (hN : KN X) (hL : LW X σ A c B m0 oL oD v) (hV : INV c v) (hI : IM v T E) :
    ∃ τ A' B', Ct X m_L_forecast 8 [va_rf (some (A 13 0)), va_rf (some oL)] σ (.inl (some (.int (i32 ((f_forecast v).2 0 0))))) τ ∧ LW X τ A' (g_X10_forecast c).2 B' m0 oL oD v ∧ INV (g_X10_forecast c).2 (f_forecast v).2 ∧ A' 13 0 = A 13 0 ∧ ((f_forecast v).2 0 0 = 0 → τ.lv oL 0 = (i32 (f_forecast v).1).toInt64) := by
  obtain ⟨ok, hA, hV2⟩ := fc_forecast hV hI
  have cd := cd_forecast (v := v) (hI.2 0 0).1
  obtain ⟨τ, A2, B2, hC, hS, hE2, hw⟩ := s_X10_forecast (X := X) (ρ := σ) ok A σ B hL.1 (ws1 hL.1.2)
  obtain ⟨L1, l2, l3⟩ := hL.call hS
  have e13 := (hE2 13 0 (rg13 hL.1.2)).1
  have kd13 : σ.kd (A 13 0) = 14 := hL.1.1.kd (rg13 hL.1.2)
  rcases hA with ⟨z, e⟩ | ⟨z, e⟩
  · rw [e] at hC
    rw [z]
    refine ⟨τ.setL oL 0 (i32 (f_forecast v).1).toInt64, A2, B2, Ct.ofH (by decide +kernel) k_L_forecast (Nat.le_of_ble_eq_true rfl) (by simp [Value.category, va_rf]) ?_, L1.setL _ _, hV2, e13, fun _ => up2_eq _ _ _ _⟩
    refine Ev.aload_n (i := 1) dL_forecast_0 rfl rfl ?_
    refine Ei.const dL_forecast_1 ?_
    refine Ev.aload_n (i := 0) dL_forecast_2 rfl rfl ?_
    refine Ev.callV (ci := 13) (C := RX10) (T := TX10) (N := 12) (As := []) (v := some (.int (i32 (f_forecast v).1))) k_X10_forecast rfl kd13 (tb3 (i := 204) rfl) ki_X10_forecast kv_X10_forecast dL_forecast_3 rfl rfl (Nat.le_of_ble_eq_true rfl) (Nat.le_refl _) hC ?_
    refine Ev.i2l dL_forecast_6 rfl ?_
    refine Ev.last L1.2.2.1.1 (vin0 L1.2.2.1.2) dL_forecast_7 ?_
    rw [clamp0]
    refine Ev.goto (tgt := 14) dL_forecast_8 (by decide) ?_
    refine Ei.const dL_forecast_14 ?_
    exact Ev.iret rfl rfl dL_forecast_15
  · rw [e] at hC
    have z1 : (f_forecast v).2 0 0 = 1 := by omega
    rw [z1]
    refine ⟨τ, A2, B2, Ct.ofH (by decide +kernel) k_L_forecast (Nat.le_of_ble_eq_true rfl) (by simp [Value.category, va_rf]) ?_, L1, hV2, e13, fun q => by omega⟩
    refine Ev.aload_n (i := 1) dL_forecast_0 rfl rfl ?_
    refine Ei.const dL_forecast_1 ?_
    refine Ev.aload_n (i := 0) dL_forecast_2 rfl rfl ?_
    have hp : ∀ z ∈ ([] : List (Nat × Nat × Nat × Nat)), z.2.2.2 ≠ 0 ∧ ∃ nm, Cond.classLink m_L_forecast.y.cls z.2.2.2 nm ∈ lw_tbl ∧ xcp nm ∧ xNSE ≠ nm := fun z hz => by
      cases hz
    refine Ev.callVc (ci := 13) (C := RX10) (T := TX10) (N := 12) (As := []) (E := xNSE) (pre := []) (suf := []) (xa := 0) (xb := 8) (xh := 11) (xt := 35) hN (Or.inr (Or.inr (Or.inl rfl))) k_X10_forecast rfl kd13 (tb3 (i := 204) rfl) ki_X10_forecast kv_X10_forecast dL_forecast_3 rfl rfl (Nat.le_of_ble_eq_true rfl) (Nat.le_refl _) rfl (by decide) (by decide) hp (tb3 (i := 16) rfl) (tb3 (i := 31) rfl) hC (fun q => ?_)
    refine Ev.astore_n (i := 2) dL_forecast_11 rfl (by decide) ?_
    refine Ei.const dL_forecast_12 ?_
    exact Ev.iret rfl rfl dL_forecast_13
def m_L_bestForecast : Mt := (yL_bestForecast, cL_bestForecast, 3, some .int, [(0, 8, 11, 35)])
theorem k_L_bestForecast : cokH m_L_bestForecast 2 := ⟨rfl, (tb4 (i := 16) rfl), (tb1 (i := 0) rfl), by decide, by decide +kernel, by decide⟩
theorem ki_L_bestForecast : Cond.static m_L_bestForecast.y ∈ lw_tbl := (tb4 (i := 15) rfl)
theorem cd_bestForecast {v : Vw} (h : (0 : Int) ≤ v 0 0) : (f_bestForecast v).2 0 0 ≤ 1 := by
  unfold f_bestForecast
  split
  · exact cd_can v
  · show (f_finds (f_canForecast v).2).2 0 0 ≤ 1
    rw [fr_finds 0 0 (by decide)]
    exact cd_can v
theorem w_bestForecast {X : Cx} {σ : Hp} {A : Nat → Int → Nat} {c : Cs} {B : Int → Nat} {m0 oL oD : Nat} {v : Vw} {T E  : Int} (hN : KN X) (hL : LW X σ A c B m0 oL oD v) (hV : INV c v) (hI : IM v T E) :
    ∃ τ A' B', Ct X m_L_bestForecast 22 [va_rf (some (A 13 0)), va_rf (some oL)] σ (.inl (some (.int (i32 ((f_bestForecast v).2 0 0))))) τ ∧ LW X τ A' (g_X10_bestForecast c).2 B' m0 oL oD v ∧ INV (g_X10_bestForecast c).2 (f_bestForecast v).2 ∧ A' 13 0 = A 13 0 ∧ ((f_bestForecast v).2 0 0 = 0 → τ.lv oL 0 = (i32 (f_bestForecast v).1).toInt64) := by
  obtain ⟨ok, hA, hV2⟩ := fc_bestForecast hV hI
  have cd := cd_bestForecast (v := v) (hI.2 0 0).1
  obtain ⟨τ, A2, B2, hC, hS, hE2, hw⟩ := s_X10_bestForecast (X := X) (ρ := σ) ok A σ B hL.1 (ws1 hL.1.2)
  obtain ⟨L1, l2, l3⟩ := hL.call hS
  have e13 := (hE2 13 0 (rg13 hL.1.2)).1
  have kd13 : σ.kd (A 13 0) = 14 := hL.1.1.kd (rg13 hL.1.2)
  rcases hA with ⟨z, e⟩ | ⟨z, e⟩
  · rw [e] at hC
    rw [z]
    refine ⟨τ.setL oL 0 (i32 (f_bestForecast v).1).toInt64, A2, B2, Ct.ofH (by decide +kernel) k_L_bestForecast (Nat.le_of_ble_eq_true rfl) (by simp [Value.category, va_rf]) ?_, L1.setL _ _, hV2, e13, fun _ => up2_eq _ _ _ _⟩
    refine Ev.aload_n (i := 1) dL_bestForecast_0 rfl rfl ?_
    refine Ei.const dL_bestForecast_1 ?_
    refine Ev.aload_n (i := 0) dL_bestForecast_2 rfl rfl ?_
    refine Ev.callV (ci := 13) (C := RX10) (T := TX10) (N := 12) (As := []) (v := some (.int (i32 (f_bestForecast v).1))) k_X10_bestForecast rfl kd13 (tb4 (i := 17) rfl) ki_X10_bestForecast kv_X10_bestForecast dL_bestForecast_3 rfl rfl (Nat.le_of_ble_eq_true rfl) (Nat.le_refl _) hC ?_
    refine Ev.i2l dL_bestForecast_6 rfl ?_
    refine Ev.last L1.2.2.1.1 (vin0 L1.2.2.1.2) dL_bestForecast_7 ?_
    rw [clamp0]
    refine Ev.goto (tgt := 14) dL_bestForecast_8 (by decide) ?_
    refine Ei.const dL_bestForecast_14 ?_
    exact Ev.iret rfl rfl dL_bestForecast_15
  · rw [e] at hC
    have z1 : (f_bestForecast v).2 0 0 = 1 := by omega
    rw [z1]
    refine ⟨τ, A2, B2, Ct.ofH (by decide +kernel) k_L_bestForecast (Nat.le_of_ble_eq_true rfl) (by simp [Value.category, va_rf]) ?_, L1, hV2, e13, fun q => by omega⟩
    refine Ev.aload_n (i := 1) dL_bestForecast_0 rfl rfl ?_
    refine Ei.const dL_bestForecast_1 ?_
    refine Ev.aload_n (i := 0) dL_bestForecast_2 rfl rfl ?_
    have hp : ∀ z ∈ ([] : List (Nat × Nat × Nat × Nat)), z.2.2.2 ≠ 0 ∧ ∃ nm, Cond.classLink m_L_bestForecast.y.cls z.2.2.2 nm ∈ lw_tbl ∧ xcp nm ∧ xNSE ≠ nm := fun z hz => by
      cases hz
    refine Ev.callVc (ci := 13) (C := RX10) (T := TX10) (N := 12) (As := []) (E := xNSE) (pre := []) (suf := []) (xa := 0) (xb := 8) (xh := 11) (xt := 35) hN (Or.inr (Or.inr (Or.inl rfl))) k_X10_bestForecast rfl kd13 (tb4 (i := 17) rfl) ki_X10_bestForecast kv_X10_bestForecast dL_bestForecast_3 rfl rfl (Nat.le_of_ble_eq_true rfl) (Nat.le_refl _) rfl (by decide) (by decide) hp (tb3 (i := 16) rfl) (tb3 (i := 31) rfl) hC (fun q => ?_)
    refine Ev.astore_n (i := 2) dL_bestForecast_11 rfl (by decide) ?_
    refine Ei.const dL_bestForecast_12 ?_
    exact Ev.iret rfl rfl dL_bestForecast_13
def m_L_bestForecastByTrying : Mt := (yL_bestForecastByTrying, cL_bestForecastByTrying, 3, some .int, [(0, 8, 11, 35)])
theorem k_L_bestForecastByTrying : cokH m_L_bestForecastByTrying 2 := ⟨rfl, (tb5 (i := 68) rfl), (tb1 (i := 0) rfl), by decide, by decide +kernel, by decide⟩
theorem ki_L_bestForecastByTrying : Cond.static m_L_bestForecastByTrying.y ∈ lw_tbl := (tb5 (i := 67) rfl)
theorem cd_bestForecastByTrying {v : Vw} (h : (0 : Int) ≤ v 0 0) : (f_bestForecastByTrying v).2 0 0 ≤ 1 := by
  unfold f_bestForecastByTrying
  show (f_bestForecast v).2 0 0 ≤ 1
  exact cd_bestForecast h
theorem w_bestForecastByTrying {X : Cx} {σ : Hp} {A : Nat → Int → Nat} {c : Cs} {B : Int → Nat} {m0 oL oD : Nat} {v : Vw} {T E  : Int} (hN : KN X) (hL : LW X σ A c B m0 oL oD v) (hV : INV c v) (hI : IM v T E) :
    ∃ τ A' B', Ct X m_L_bestForecastByTrying 10 [va_rf (some (A 13 0)), va_rf (some oL)] σ (.inl (some (.int (i32 ((f_bestForecastByTrying v).2 0 0))))) τ ∧ LW X τ A' (g_X10_bestForecastByTrying c).2 B' m0 oL oD v ∧ INV (g_X10_bestForecastByTrying c).2 (f_bestForecastByTrying v).2 ∧ A' 13 0 = A 13 0 ∧ ((f_bestForecastByTrying v).2 0 0 = 0 → τ.lv oL 0 = (i32 (f_bestForecastByTrying v).1).toInt64) := by
  obtain ⟨ok, hA, hV2⟩ := fc_bestForecastByTrying hV hI
  have cd := cd_bestForecastByTrying (v := v) (hI.2 0 0).1
  obtain ⟨τ, A2, B2, hC, hS, hE2, hw⟩ := s_X10_bestForecastByTrying (X := X) (ρ := σ) ok A σ B hL.1 (ws1 hL.1.2)
  obtain ⟨L1, l2, l3⟩ := hL.call hS
  have e13 := (hE2 13 0 (rg13 hL.1.2)).1
  have kd13 : σ.kd (A 13 0) = 14 := hL.1.1.kd (rg13 hL.1.2)
  rcases hA with ⟨z, e⟩ | ⟨z, e⟩
  · rw [e] at hC
    rw [z]
    refine ⟨τ.setL oL 0 (i32 (f_bestForecastByTrying v).1).toInt64, A2, B2, Ct.ofH (by decide +kernel) k_L_bestForecastByTrying (Nat.le_of_ble_eq_true rfl) (by simp [Value.category, va_rf]) ?_, L1.setL _ _, hV2, e13, fun _ => up2_eq _ _ _ _⟩
    refine Ev.aload_n (i := 1) dL_bestForecastByTrying_0 rfl rfl ?_
    refine Ei.const dL_bestForecastByTrying_1 ?_
    refine Ev.aload_n (i := 0) dL_bestForecastByTrying_2 rfl rfl ?_
    refine Ev.callV (ci := 13) (C := RX10) (T := TX10) (N := 12) (As := []) (v := some (.int (i32 (f_bestForecastByTrying v).1))) k_X10_bestForecastByTrying rfl kd13 (tb5 (i := 69) rfl) ki_X10_bestForecastByTrying kv_X10_bestForecastByTrying dL_bestForecastByTrying_3 rfl rfl (Nat.le_of_ble_eq_true rfl) (Nat.le_refl _) hC ?_
    refine Ev.i2l dL_bestForecastByTrying_6 rfl ?_
    refine Ev.last L1.2.2.1.1 (vin0 L1.2.2.1.2) dL_bestForecastByTrying_7 ?_
    rw [clamp0]
    refine Ev.goto (tgt := 14) dL_bestForecastByTrying_8 (by decide) ?_
    refine Ei.const dL_bestForecastByTrying_14 ?_
    exact Ev.iret rfl rfl dL_bestForecastByTrying_15
  · rw [e] at hC
    have z1 : (f_bestForecastByTrying v).2 0 0 = 1 := by omega
    rw [z1]
    refine ⟨τ, A2, B2, Ct.ofH (by decide +kernel) k_L_bestForecastByTrying (Nat.le_of_ble_eq_true rfl) (by simp [Value.category, va_rf]) ?_, L1, hV2, e13, fun q => by omega⟩
    refine Ev.aload_n (i := 1) dL_bestForecastByTrying_0 rfl rfl ?_
    refine Ei.const dL_bestForecastByTrying_1 ?_
    refine Ev.aload_n (i := 0) dL_bestForecastByTrying_2 rfl rfl ?_
    have hp : ∀ z ∈ ([] : List (Nat × Nat × Nat × Nat)), z.2.2.2 ≠ 0 ∧ ∃ nm, Cond.classLink m_L_bestForecastByTrying.y.cls z.2.2.2 nm ∈ lw_tbl ∧ xcp nm ∧ xNSE ≠ nm := fun z hz => by
      cases hz
    refine Ev.callVc (ci := 13) (C := RX10) (T := TX10) (N := 12) (As := []) (E := xNSE) (pre := []) (suf := []) (xa := 0) (xb := 8) (xh := 11) (xt := 35) hN (Or.inr (Or.inr (Or.inl rfl))) k_X10_bestForecastByTrying rfl kd13 (tb5 (i := 69) rfl) ki_X10_bestForecastByTrying kv_X10_bestForecastByTrying dL_bestForecastByTrying_3 rfl rfl (Nat.le_of_ble_eq_true rfl) (Nat.le_refl _) rfl (by decide) (by decide) hp (tb3 (i := 16) rfl) (tb3 (i := 31) rfl) hC (fun q => ?_)
    refine Ev.astore_n (i := 2) dL_bestForecastByTrying_11 rfl (by decide) ?_
    refine Ei.const dL_bestForecastByTrying_12 ?_
    exact Ev.iret rfl rfl dL_bestForecastByTrying_13
def m_L_improve : Mt := (yL_improve, cL_improve, 3, some .int, [(0, 8, 11, 35)])
theorem k_L_improve : cokH m_L_improve 2 := ⟨rfl, (tb5 (i := 95) rfl), (tb1 (i := 0) rfl), by decide, by decide +kernel, by decide⟩
theorem ki_L_improve : Cond.static m_L_improve.y ∈ lw_tbl := (tb5 (i := 94) rfl)
theorem cd_improve {v : Vw} (h : (0 : Int) ≤ v 0 0) : (f_improve v).2 0 0 ≤ 1 := by
  unfold f_improve
  split
  · exact cd_can v
  · rw [fr_l_improve_25 _ _ _ 0 0 (by decide), fr_finds 0 0 (by decide), fr_forecastOf 0 0 (by decide)]
    exact cd_can v
theorem w_improve {X : Cx} {σ : Hp} {A : Nat → Int → Nat} {c : Cs} {B : Int → Nat} {m0 oL oD : Nat} {v : Vw} {T E  : Int} (hN : KN X) (hL : LW X σ A c B m0 oL oD v) (hV : INV c v) (hI : IM v T E) :
    ∃ τ A' B', Ct X m_L_improve 22 [va_rf (some (A 13 0)), va_rf (some oL)] σ (.inl (some (.int (i32 ((f_improve v).2 0 0))))) τ ∧ LW X τ A' (g_X10_improve c).2 B' m0 oL oD v ∧ INV (g_X10_improve c).2 (f_improve v).2 ∧ A' 13 0 = A 13 0 ∧ ((f_improve v).2 0 0 = 0 → τ.lv oL 0 = (i32 (f_improve v).1).toInt64) := by
  obtain ⟨ok, hA, hV2⟩ := fc_improve hV hI
  have cd := cd_improve (v := v) (hI.2 0 0).1
  obtain ⟨τ, A2, B2, hC, hS, hE2, hw⟩ := s_X10_improve (X := X) (ρ := σ) ok A σ B hL.1 (ws1 hL.1.2)
  obtain ⟨L1, l2, l3⟩ := hL.call hS
  have e13 := (hE2 13 0 (rg13 hL.1.2)).1
  have kd13 : σ.kd (A 13 0) = 14 := hL.1.1.kd (rg13 hL.1.2)
  rcases hA with ⟨z, e⟩ | ⟨z, e⟩
  · rw [e] at hC
    rw [z]
    refine ⟨τ.setL oL 0 (i32 (f_improve v).1).toInt64, A2, B2, Ct.ofH (by decide +kernel) k_L_improve (Nat.le_of_ble_eq_true rfl) (by simp [Value.category, va_rf]) ?_, L1.setL _ _, hV2, e13, fun _ => up2_eq _ _ _ _⟩
    refine Ev.aload_n (i := 1) dL_improve_0 rfl rfl ?_
    refine Ei.const dL_improve_1 ?_
    refine Ev.aload_n (i := 0) dL_improve_2 rfl rfl ?_
    refine Ev.callV (ci := 13) (C := RX10) (T := TX10) (N := 12) (As := []) (v := some (.int (i32 (f_improve v).1))) k_X10_improve rfl kd13 (tb5 (i := 96) rfl) ki_X10_improve kv_X10_improve dL_improve_3 rfl rfl (Nat.le_of_ble_eq_true rfl) (Nat.le_refl _) hC ?_
    refine Ev.i2l dL_improve_6 rfl ?_
    refine Ev.last L1.2.2.1.1 (vin0 L1.2.2.1.2) dL_improve_7 ?_
    rw [clamp0]
    refine Ev.goto (tgt := 14) dL_improve_8 (by decide) ?_
    refine Ei.const dL_improve_14 ?_
    exact Ev.iret rfl rfl dL_improve_15
  · rw [e] at hC
    have z1 : (f_improve v).2 0 0 = 1 := by omega
    rw [z1]
    refine ⟨τ, A2, B2, Ct.ofH (by decide +kernel) k_L_improve (Nat.le_of_ble_eq_true rfl) (by simp [Value.category, va_rf]) ?_, L1, hV2, e13, fun q => by omega⟩
    refine Ev.aload_n (i := 1) dL_improve_0 rfl rfl ?_
    refine Ei.const dL_improve_1 ?_
    refine Ev.aload_n (i := 0) dL_improve_2 rfl rfl ?_
    have hp : ∀ z ∈ ([] : List (Nat × Nat × Nat × Nat)), z.2.2.2 ≠ 0 ∧ ∃ nm, Cond.classLink m_L_improve.y.cls z.2.2.2 nm ∈ lw_tbl ∧ xcp nm ∧ xNSE ≠ nm := fun z hz => by
      cases hz
    refine Ev.callVc (ci := 13) (C := RX10) (T := TX10) (N := 12) (As := []) (E := xNSE) (pre := []) (suf := []) (xa := 0) (xb := 8) (xh := 11) (xt := 35) hN (Or.inr (Or.inr (Or.inl rfl))) k_X10_improve rfl kd13 (tb5 (i := 96) rfl) ki_X10_improve kv_X10_improve dL_improve_3 rfl rfl (Nat.le_of_ble_eq_true rfl) (Nat.le_refl _) rfl (by decide) (by decide) hp (tb3 (i := 16) rfl) (tb3 (i := 31) rfl) hC (fun q => ?_)
    refine Ev.astore_n (i := 2) dL_improve_11 rfl (by decide) ?_
    refine Ei.const dL_improve_12 ?_
    exact Ev.iret rfl rfl dL_improve_13
def m_L_order : Mt := (yL_order, cL_order, 6, some .int, [(0, 12, 15, 40), (0, 12, 19, 13), (0, 12, 23, 15)])
theorem k_L_order : cokH m_L_order 5 := ⟨rfl, (tb5 (i := 103) rfl), (tb1 (i := 0) rfl), by decide, by decide +kernel, by decide⟩
theorem ki_L_order : Cond.static m_L_order.y ∈ lw_tbl := (tb5 (i := 102) rfl)
theorem cd_order {a b f : Int} {v : Vw} (h : (0 : Int) ≤ v 0 0) : (f_order a b f v).2 0 0 ≤ 3 := by
  unfold f_order
  repeat' split
  all_goals first
    | (simp [f_fails, upv, f_adds]; done)
    | exact Int.le_trans (cd_one _ _) (by decide)
    | (rw [fr_starts 0 0 (by decide)]; simp [upv]; done)
    | (show f_starts _ _ _ 0 0 ≤ _; rw [fr_starts 0 0 (by decide)]; simp [upv]; done)
theorem w_order {X : Cx} {σ : Hp} {A : Nat → Int → Nat} {c : Cs} {B : Int → Nat} {m0 oL oD : Nat} {v : Vw} {T E a b f : Int} (hN : KN X) (hL : LW X σ A c B m0 oL oD v) (hV : INV c v) (hI : IM v T E) (ha : R32 a) (hb : R32 b) (hf : R32 f) :
    ∃ τ A' B', Ct X m_L_order 9 [va_rf (some (A 13 0)), .int (i32 a), .int (i32 b), .int (i32 f), va_rf (some oL)] σ (.inl (some (.int (i32 ((f_order a b f v).2 0 0))))) τ ∧ LW X τ A' (g_X10_order a b f c).2 B' m0 oL oD v ∧ INV (g_X10_order a b f c).2 (f_order a b f v).2 ∧ A' 13 0 = A 13 0 ∧ ((f_order a b f v).2 0 0 = 0 → τ.lv oL 0 = (i32 (f_order a b f v).1).toInt64) := by
  obtain ⟨ok, hA, hV2⟩ := fc_order hV hI ha hb hf
  have cd := cd_order (a := a) (b := b) (f := f) (v := v) (hI.2 0 0).1
  obtain ⟨τ, A2, B2, hC, hS, hE2, hw⟩ := s_X10_order (X := X) (ρ := σ) ok A σ B hL.1 (ws4 hL.1.2)
  obtain ⟨L1, l2, l3⟩ := hL.call hS
  have e13 := (hE2 13 0 (rg13 hL.1.2)).1
  have kd13 : σ.kd (A 13 0) = 14 := hL.1.1.kd (rg13 hL.1.2)
  rcases hA with ⟨z, e⟩ | ⟨z, e⟩
  · rw [e] at hC
    rw [z]
    refine ⟨τ.setL oL 0 (i32 (f_order a b f v).1).toInt64, A2, B2, Ct.ofH (by decide +kernel) k_L_order (Nat.le_of_ble_eq_true rfl) (by simp [Value.category, va_rf]) ?_, L1.setL _ _, hV2, e13, fun _ => up2_eq _ _ _ _⟩
    refine Ev.aload dL_order_0 rfl ?_
    refine Ei.const dL_order_2 ?_
    refine Ev.aload_n (i := 0) dL_order_3 rfl rfl ?_
    refine Ev.iload_n (i := 1) dL_order_4 rfl rfl ?_
    refine Ev.iload_n (i := 2) dL_order_5 rfl rfl ?_
    refine Ev.iload_n (i := 3) dL_order_6 rfl rfl ?_
    refine Ev.callV (ci := 13) (C := RX10) (T := TX10) (N := 12) (As := [_, _, _]) (v := some (.int (i32 (f_order a b f v).1))) k_X10_order rfl kd13 (tb5 (i := 104) rfl) ki_X10_order kv_X10_order dL_order_7 rfl rfl (Nat.le_of_ble_eq_true rfl) (Nat.le_refl _) hC ?_
    refine Ev.i2l dL_order_10 rfl ?_
    refine Ev.last L1.2.2.1.1 (vin0 L1.2.2.1.2) dL_order_11 ?_
    rw [clamp0]
    refine Ev.goto (tgt := 27) dL_order_12 (by decide) ?_
    refine Ei.const dL_order_27 ?_
    exact Ev.iret rfl rfl dL_order_28
  · rw [e] at hC
    by_cases z1 : (f_order a b f v).2 0 0 = 1
    · rw [z1] at hC ⊢
      refine ⟨τ, A2, B2, Ct.ofH (by decide +kernel) k_L_order (Nat.le_of_ble_eq_true rfl) (by simp [Value.category, va_rf]) ?_, L1, hV2, e13, fun q => by omega⟩
      refine Ev.aload dL_order_0 rfl ?_
      refine Ei.const dL_order_2 ?_
      refine Ev.aload_n (i := 0) dL_order_3 rfl rfl ?_
      refine Ev.iload_n (i := 1) dL_order_4 rfl rfl ?_
      refine Ev.iload_n (i := 2) dL_order_5 rfl rfl ?_
      refine Ev.iload_n (i := 3) dL_order_6 rfl rfl ?_
      have hp : ∀ z ∈ ([] : List (Nat × Nat × Nat × Nat)), z.2.2.2 ≠ 0 ∧ ∃ nm, Cond.classLink m_L_order.y.cls z.2.2.2 nm ∈ lw_tbl ∧ xcp nm ∧ xIOB ≠ nm := fun z hz => by
        cases hz
      refine Ev.callVc (ci := 13) (C := RX10) (T := TX10) (N := 12) (As := [_, _, _]) (E := xIOB) (pre := []) (suf := [(0, 12, 19, 13), (0, 12, 23, 15)]) (xa := 0) (xb := 12) (xh := 15) (xt := 40) hN (Or.inr (Or.inr (Or.inr (Or.inl rfl)))) k_X10_order rfl kd13 (tb5 (i := 104) rfl) ki_X10_order kv_X10_order dL_order_7 rfl rfl (Nat.le_of_ble_eq_true rfl) (Nat.le_refl _) rfl (by decide) (by decide) hp (tb3 (i := 52) rfl) (tb3 (i := 64) rfl) hC (fun q => ?_)
      refine Ev.astore dL_order_15 (by decide) ?_
      refine Ei.const dL_order_17 ?_
      exact Ev.iret rfl rfl dL_order_18
    · have y1 := z1
      by_cases z2 : (f_order a b f v).2 0 0 = 2
      · rw [z2] at hC ⊢
        refine ⟨τ, A2, B2, Ct.ofH (by decide +kernel) k_L_order (Nat.le_of_ble_eq_true rfl) (by simp [Value.category, va_rf]) ?_, L1, hV2, e13, fun q => by omega⟩
        refine Ev.aload dL_order_0 rfl ?_
        refine Ei.const dL_order_2 ?_
        refine Ev.aload_n (i := 0) dL_order_3 rfl rfl ?_
        refine Ev.iload_n (i := 1) dL_order_4 rfl rfl ?_
        refine Ev.iload_n (i := 2) dL_order_5 rfl rfl ?_
        refine Ev.iload_n (i := 3) dL_order_6 rfl rfl ?_
        have hp : ∀ z ∈ ([(0, 12, 15, 40)] : List (Nat × Nat × Nat × Nat)), z.2.2.2 ≠ 0 ∧ ∃ nm, Cond.classLink m_L_order.y.cls z.2.2.2 nm ∈ lw_tbl ∧ xcp nm ∧ xIAE ≠ nm := fun z hz => by
          rcases List.mem_cons.mp hz with rfl | hz
          · exact ⟨by decide, _, (tb3 (i := 52) rfl), Or.inr (Or.inr (Or.inr (Or.inl rfl))), by decide⟩
          cases hz
        refine Ev.callVc (ci := 13) (C := RX10) (T := TX10) (N := 12) (As := [_, _, _]) (E := xIAE) (pre := [(0, 12, 15, 40)]) (suf := [(0, 12, 23, 15)]) (xa := 0) (xb := 12) (xh := 19) (xt := 13) hN (Or.inl rfl) k_X10_order rfl kd13 (tb5 (i := 104) rfl) ki_X10_order kv_X10_order dL_order_7 rfl rfl (Nat.le_of_ble_eq_true rfl) (Nat.le_refl _) rfl (by decide) (by decide) hp (tb2 (i := 11) rfl) (tb2 (i := 23) rfl) hC (fun q => ?_)
        refine Ev.astore dL_order_19 (by decide) ?_
        refine Ei.const dL_order_21 ?_
        exact Ev.iret rfl rfl dL_order_22
      · have y2 := z2
        have z3 : (f_order a b f v).2 0 0 = 3 := by omega
        rw [z3] at hC ⊢
        refine ⟨τ, A2, B2, Ct.ofH (by decide +kernel) k_L_order (Nat.le_of_ble_eq_true rfl) (by simp [Value.category, va_rf]) ?_, L1, hV2, e13, fun q => by omega⟩
        refine Ev.aload dL_order_0 rfl ?_
        refine Ei.const dL_order_2 ?_
        refine Ev.aload_n (i := 0) dL_order_3 rfl rfl ?_
        refine Ev.iload_n (i := 1) dL_order_4 rfl rfl ?_
        refine Ev.iload_n (i := 2) dL_order_5 rfl rfl ?_
        refine Ev.iload_n (i := 3) dL_order_6 rfl rfl ?_
        have hp : ∀ z ∈ ([(0, 12, 15, 40), (0, 12, 19, 13)] : List (Nat × Nat × Nat × Nat)), z.2.2.2 ≠ 0 ∧ ∃ nm, Cond.classLink m_L_order.y.cls z.2.2.2 nm ∈ lw_tbl ∧ xcp nm ∧ xISE ≠ nm := fun z hz => by
          rcases List.mem_cons.mp hz with rfl | hz
          · exact ⟨by decide, _, (tb3 (i := 52) rfl), Or.inr (Or.inr (Or.inr (Or.inl rfl))), by decide⟩
          rcases List.mem_cons.mp hz with rfl | hz
          · exact ⟨by decide, _, (tb2 (i := 11) rfl), Or.inl rfl, by decide⟩
          cases hz
        refine Ev.callVc (ci := 13) (C := RX10) (T := TX10) (N := 12) (As := [_, _, _]) (E := xISE) (pre := [(0, 12, 15, 40), (0, 12, 19, 13)]) (suf := []) (xa := 0) (xb := 12) (xh := 23) (xt := 15) hN (Or.inr (Or.inl rfl)) k_X10_order rfl kd13 (tb5 (i := 104) rfl) ki_X10_order kv_X10_order dL_order_7 rfl rfl (Nat.le_of_ble_eq_true rfl) (Nat.le_refl _) rfl (by decide) (by decide) hp (tb2 (i := 12) rfl) (tb2 (i := 116) rfl) hC (fun q => ?_)
        refine Ev.astore dL_order_23 (by decide) ?_
        refine Ei.const dL_order_25 ?_
        exact Ev.iret rfl rfl dL_order_26
def m_L_blend : Mt := (yL_blend, cL_blend, 6, some .int, [(0, 12, 15, 40), (0, 12, 19, 13), (0, 12, 23, 15)])
theorem k_L_blend : cokH m_L_blend 5 := ⟨rfl, (tb5 (i := 164) rfl), (tb1 (i := 0) rfl), by decide, by decide +kernel, by decide⟩
theorem ki_L_blend : Cond.static m_L_blend.y ∈ lw_tbl := (tb5 (i := 163) rfl)
theorem cd_blend {a b f : Int} {v : Vw} (h : (0 : Int) ≤ v 0 0) : (f_blend a b f v).2 0 0 ≤ 3 := by
  unfold f_blend
  repeat' split
  all_goals first
    | (simp [f_fails, upv, f_adds]; done)
    | exact Int.le_trans (cd_one _ _) (by decide)
    | (rw [fr_starts 0 0 (by decide)]; simp [upv]; done)
    | (show f_starts _ _ _ 0 0 ≤ _; rw [fr_starts 0 0 (by decide)]; simp [upv]; done)
theorem w_blend {X : Cx} {σ : Hp} {A : Nat → Int → Nat} {c : Cs} {B : Int → Nat} {m0 oL oD : Nat} {v : Vw} {T E a b f : Int} (hN : KN X) (hL : LW X σ A c B m0 oL oD v) (hV : INV c v) (hI : IM v T E) (ha : R32 a) (hb : R32 b) (hf : R32 f) :
    ∃ τ A' B', Ct X m_L_blend 8 [va_rf (some (A 13 0)), .int (i32 a), .int (i32 b), .int (i32 f), va_rf (some oL)] σ (.inl (some (.int (i32 ((f_blend a b f v).2 0 0))))) τ ∧ LW X τ A' (g_X10_blend a b f c).2 B' m0 oL oD v ∧ INV (g_X10_blend a b f c).2 (f_blend a b f v).2 ∧ A' 13 0 = A 13 0 ∧ ((f_blend a b f v).2 0 0 = 0 → τ.lv oL 0 = (i32 (f_blend a b f v).1).toInt64) := by
  obtain ⟨ok, hA, hV2⟩ := fc_blend hV hI ha hb hf
  have cd := cd_blend (a := a) (b := b) (f := f) (v := v) (hI.2 0 0).1
  obtain ⟨τ, A2, B2, hC, hS, hE2, hw⟩ := s_X10_blend (X := X) (ρ := σ) ok A σ B hL.1 (ws4 hL.1.2)
  obtain ⟨L1, l2, l3⟩ := hL.call hS
  have e13 := (hE2 13 0 (rg13 hL.1.2)).1
  have kd13 : σ.kd (A 13 0) = 14 := hL.1.1.kd (rg13 hL.1.2)
  rcases hA with ⟨z, e⟩ | ⟨z, e⟩
  · rw [e] at hC
    rw [z]
    refine ⟨τ.setL oL 0 (i32 (f_blend a b f v).1).toInt64, A2, B2, Ct.ofH (by decide +kernel) k_L_blend (Nat.le_of_ble_eq_true rfl) (by simp [Value.category, va_rf]) ?_, L1.setL _ _, hV2, e13, fun _ => up2_eq _ _ _ _⟩
    refine Ev.aload dL_blend_0 rfl ?_
    refine Ei.const dL_blend_2 ?_
    refine Ev.aload_n (i := 0) dL_blend_3 rfl rfl ?_
    refine Ev.iload_n (i := 1) dL_blend_4 rfl rfl ?_
    refine Ev.iload_n (i := 2) dL_blend_5 rfl rfl ?_
    refine Ev.iload_n (i := 3) dL_blend_6 rfl rfl ?_
    refine Ev.callV (ci := 13) (C := RX10) (T := TX10) (N := 12) (As := [_, _, _]) (v := some (.int (i32 (f_blend a b f v).1))) k_X10_blend rfl kd13 (tb5 (i := 165) rfl) ki_X10_blend kv_X10_blend dL_blend_7 rfl rfl (Nat.le_of_ble_eq_true rfl) (Nat.le_refl _) hC ?_
    refine Ev.i2l dL_blend_10 rfl ?_
    refine Ev.last L1.2.2.1.1 (vin0 L1.2.2.1.2) dL_blend_11 ?_
    rw [clamp0]
    refine Ev.goto (tgt := 27) dL_blend_12 (by decide) ?_
    refine Ei.const dL_blend_27 ?_
    exact Ev.iret rfl rfl dL_blend_28
  · rw [e] at hC
    by_cases z1 : (f_blend a b f v).2 0 0 = 1
    · rw [z1] at hC ⊢
      refine ⟨τ, A2, B2, Ct.ofH (by decide +kernel) k_L_blend (Nat.le_of_ble_eq_true rfl) (by simp [Value.category, va_rf]) ?_, L1, hV2, e13, fun q => by omega⟩
      refine Ev.aload dL_blend_0 rfl ?_
      refine Ei.const dL_blend_2 ?_
      refine Ev.aload_n (i := 0) dL_blend_3 rfl rfl ?_
      refine Ev.iload_n (i := 1) dL_blend_4 rfl rfl ?_
      refine Ev.iload_n (i := 2) dL_blend_5 rfl rfl ?_
      refine Ev.iload_n (i := 3) dL_blend_6 rfl rfl ?_
      have hp : ∀ z ∈ ([] : List (Nat × Nat × Nat × Nat)), z.2.2.2 ≠ 0 ∧ ∃ nm, Cond.classLink m_L_blend.y.cls z.2.2.2 nm ∈ lw_tbl ∧ xcp nm ∧ xIOB ≠ nm := fun z hz => by
        cases hz
      refine Ev.callVc (ci := 13) (C := RX10) (T := TX10) (N := 12) (As := [_, _, _]) (E := xIOB) (pre := []) (suf := [(0, 12, 19, 13), (0, 12, 23, 15)]) (xa := 0) (xb := 12) (xh := 15) (xt := 40) hN (Or.inr (Or.inr (Or.inr (Or.inl rfl)))) k_X10_blend rfl kd13 (tb5 (i := 165) rfl) ki_X10_blend kv_X10_blend dL_blend_7 rfl rfl (Nat.le_of_ble_eq_true rfl) (Nat.le_refl _) rfl (by decide) (by decide) hp (tb3 (i := 52) rfl) (tb3 (i := 64) rfl) hC (fun q => ?_)
      refine Ev.astore dL_blend_15 (by decide) ?_
      refine Ei.const dL_blend_17 ?_
      exact Ev.iret rfl rfl dL_blend_18
    · have y1 := z1
      by_cases z2 : (f_blend a b f v).2 0 0 = 2
      · rw [z2] at hC ⊢
        refine ⟨τ, A2, B2, Ct.ofH (by decide +kernel) k_L_blend (Nat.le_of_ble_eq_true rfl) (by simp [Value.category, va_rf]) ?_, L1, hV2, e13, fun q => by omega⟩
        refine Ev.aload dL_blend_0 rfl ?_
        refine Ei.const dL_blend_2 ?_
        refine Ev.aload_n (i := 0) dL_blend_3 rfl rfl ?_
        refine Ev.iload_n (i := 1) dL_blend_4 rfl rfl ?_
        refine Ev.iload_n (i := 2) dL_blend_5 rfl rfl ?_
        refine Ev.iload_n (i := 3) dL_blend_6 rfl rfl ?_
        have hp : ∀ z ∈ ([(0, 12, 15, 40)] : List (Nat × Nat × Nat × Nat)), z.2.2.2 ≠ 0 ∧ ∃ nm, Cond.classLink m_L_blend.y.cls z.2.2.2 nm ∈ lw_tbl ∧ xcp nm ∧ xIAE ≠ nm := fun z hz => by
          rcases List.mem_cons.mp hz with rfl | hz
          · exact ⟨by decide, _, (tb3 (i := 52) rfl), Or.inr (Or.inr (Or.inr (Or.inl rfl))), by decide⟩
          cases hz
        refine Ev.callVc (ci := 13) (C := RX10) (T := TX10) (N := 12) (As := [_, _, _]) (E := xIAE) (pre := [(0, 12, 15, 40)]) (suf := [(0, 12, 23, 15)]) (xa := 0) (xb := 12) (xh := 19) (xt := 13) hN (Or.inl rfl) k_X10_blend rfl kd13 (tb5 (i := 165) rfl) ki_X10_blend kv_X10_blend dL_blend_7 rfl rfl (Nat.le_of_ble_eq_true rfl) (Nat.le_refl _) rfl (by decide) (by decide) hp (tb2 (i := 11) rfl) (tb2 (i := 23) rfl) hC (fun q => ?_)
        refine Ev.astore dL_blend_19 (by decide) ?_
        refine Ei.const dL_blend_21 ?_
        exact Ev.iret rfl rfl dL_blend_22
      · have y2 := z2
        have z3 : (f_blend a b f v).2 0 0 = 3 := by omega
        rw [z3] at hC ⊢
        refine ⟨τ, A2, B2, Ct.ofH (by decide +kernel) k_L_blend (Nat.le_of_ble_eq_true rfl) (by simp [Value.category, va_rf]) ?_, L1, hV2, e13, fun q => by omega⟩
        refine Ev.aload dL_blend_0 rfl ?_
        refine Ei.const dL_blend_2 ?_
        refine Ev.aload_n (i := 0) dL_blend_3 rfl rfl ?_
        refine Ev.iload_n (i := 1) dL_blend_4 rfl rfl ?_
        refine Ev.iload_n (i := 2) dL_blend_5 rfl rfl ?_
        refine Ev.iload_n (i := 3) dL_blend_6 rfl rfl ?_
        have hp : ∀ z ∈ ([(0, 12, 15, 40), (0, 12, 19, 13)] : List (Nat × Nat × Nat × Nat)), z.2.2.2 ≠ 0 ∧ ∃ nm, Cond.classLink m_L_blend.y.cls z.2.2.2 nm ∈ lw_tbl ∧ xcp nm ∧ xISE ≠ nm := fun z hz => by
          rcases List.mem_cons.mp hz with rfl | hz
          · exact ⟨by decide, _, (tb3 (i := 52) rfl), Or.inr (Or.inr (Or.inr (Or.inl rfl))), by decide⟩
          rcases List.mem_cons.mp hz with rfl | hz
          · exact ⟨by decide, _, (tb2 (i := 11) rfl), Or.inl rfl, by decide⟩
          cases hz
        refine Ev.callVc (ci := 13) (C := RX10) (T := TX10) (N := 12) (As := [_, _, _]) (E := xISE) (pre := [(0, 12, 15, 40), (0, 12, 19, 13)]) (suf := []) (xa := 0) (xb := 12) (xh := 23) (xt := 15) hN (Or.inr (Or.inl rfl)) k_X10_blend rfl kd13 (tb5 (i := 165) rfl) ki_X10_blend kv_X10_blend dL_blend_7 rfl rfl (Nat.le_of_ble_eq_true rfl) (Nat.le_refl _) rfl (by decide) (by decide) hp (tb2 (i := 12) rfl) (tb2 (i := 116) rfl) hC (fun q => ?_)
        refine Ev.astore dL_blend_23 (by decide) ?_
        refine Ei.const dL_blend_25 ?_
        exact Ev.iret rfl rfl dL_blend_26
def m_L_cancel : Mt := (yL_cancel, cL_cancel, 4, some .int, [(0, 9, 12, 40), (0, 9, 15, 15)])
theorem k_L_cancel : cokH m_L_cancel 3 := ⟨rfl, (tb5 (i := 178) rfl), (tb1 (i := 0) rfl), by decide, by decide +kernel, by decide⟩
theorem ki_L_cancel : Cond.static m_L_cancel.y ∈ lw_tbl := (tb5 (i := 177) rfl)
theorem cd_cancel {a : Int} {v : Vw} (h : (0 : Int) ≤ v 0 0) : (f_cancel a v).2 0 0 ≤ 2 := by
  unfold f_cancel
  repeat' split
  all_goals first
    | (simp [f_fails, upv, f_adds]; done)
    | exact Int.le_trans (cd_one _ _) (by decide)
    | (rw [fr_starts 0 0 (by decide)]; simp [upv]; done)
    | (show f_starts _ _ _ 0 0 ≤ _; rw [fr_starts 0 0 (by decide)]; simp [upv]; done)
theorem w_cancel {X : Cx} {σ : Hp} {A : Nat → Int → Nat} {c : Cs} {B : Int → Nat} {m0 oL oD : Nat} {v : Vw} {T E a : Int} (hN : KN X) (hL : LW X σ A c B m0 oL oD v) (hV : INV c v) (hI : IM v T E) (ha : R32 a) :
    ∃ τ A' B', Ct X m_L_cancel 8 [va_rf (some (A 13 0)), .int (i32 a), va_rf (some oL)] σ (.inl (some (.int (i32 ((f_cancel a v).2 0 0))))) τ ∧ LW X τ A' (g_X10_cancel a c).2 B' m0 oL oD v ∧ INV (g_X10_cancel a c).2 (f_cancel a v).2 ∧ A' 13 0 = A 13 0 ∧ ((f_cancel a v).2 0 0 = 0 → τ.lv oL 0 = (i32 (f_cancel a v).1).toInt64) := by
  obtain ⟨ok, hA, hV2⟩ := fc_cancel hV hI ha
  have cd := cd_cancel (a := a) (v := v) (hI.2 0 0).1
  obtain ⟨τ, A2, B2, hC, hS, hE2, hw⟩ := s_X10_cancel (X := X) (ρ := σ) ok A σ B hL.1 (ws2 hL.1.2)
  obtain ⟨L1, l2, l3⟩ := hL.call hS
  have e13 := (hE2 13 0 (rg13 hL.1.2)).1
  have kd13 : σ.kd (A 13 0) = 14 := hL.1.1.kd (rg13 hL.1.2)
  rcases hA with ⟨z, e⟩ | ⟨z, e⟩
  · rw [e] at hC
    rw [z]
    refine ⟨τ.setL oL 0 (i32 (f_cancel a v).1).toInt64, A2, B2, Ct.ofH (by decide +kernel) k_L_cancel (Nat.le_of_ble_eq_true rfl) (by simp [Value.category, va_rf]) ?_, L1.setL _ _, hV2, e13, fun _ => up2_eq _ _ _ _⟩
    refine Ev.aload_n (i := 2) dL_cancel_0 rfl rfl ?_
    refine Ei.const dL_cancel_1 ?_
    refine Ev.aload_n (i := 0) dL_cancel_2 rfl rfl ?_
    refine Ev.iload_n (i := 1) dL_cancel_3 rfl rfl ?_
    refine Ev.callV (ci := 13) (C := RX10) (T := TX10) (N := 12) (As := [_]) (v := some (.int (i32 (f_cancel a v).1))) k_X10_cancel rfl kd13 (tb5 (i := 179) rfl) ki_X10_cancel kv_X10_cancel dL_cancel_4 rfl rfl (Nat.le_of_ble_eq_true rfl) (Nat.le_refl _) hC ?_
    refine Ev.i2l dL_cancel_7 rfl ?_
    refine Ev.last L1.2.2.1.1 (vin0 L1.2.2.1.2) dL_cancel_8 ?_
    rw [clamp0]
    refine Ev.goto (tgt := 18) dL_cancel_9 (by decide) ?_
    refine Ei.const dL_cancel_18 ?_
    exact Ev.iret rfl rfl dL_cancel_19
  · rw [e] at hC
    by_cases z1 : (f_cancel a v).2 0 0 = 1
    · rw [z1] at hC ⊢
      refine ⟨τ, A2, B2, Ct.ofH (by decide +kernel) k_L_cancel (Nat.le_of_ble_eq_true rfl) (by simp [Value.category, va_rf]) ?_, L1, hV2, e13, fun q => by omega⟩
      refine Ev.aload_n (i := 2) dL_cancel_0 rfl rfl ?_
      refine Ei.const dL_cancel_1 ?_
      refine Ev.aload_n (i := 0) dL_cancel_2 rfl rfl ?_
      refine Ev.iload_n (i := 1) dL_cancel_3 rfl rfl ?_
      have hp : ∀ z ∈ ([] : List (Nat × Nat × Nat × Nat)), z.2.2.2 ≠ 0 ∧ ∃ nm, Cond.classLink m_L_cancel.y.cls z.2.2.2 nm ∈ lw_tbl ∧ xcp nm ∧ xIOB ≠ nm := fun z hz => by
        cases hz
      refine Ev.callVc (ci := 13) (C := RX10) (T := TX10) (N := 12) (As := [_]) (E := xIOB) (pre := []) (suf := [(0, 9, 15, 15)]) (xa := 0) (xb := 9) (xh := 12) (xt := 40) hN (Or.inr (Or.inr (Or.inr (Or.inl rfl)))) k_X10_cancel rfl kd13 (tb5 (i := 179) rfl) ki_X10_cancel kv_X10_cancel dL_cancel_4 rfl rfl (Nat.le_of_ble_eq_true rfl) (Nat.le_refl _) rfl (by decide) (by decide) hp (tb3 (i := 52) rfl) (tb3 (i := 64) rfl) hC (fun q => ?_)
      refine Ev.astore_n (i := 3) dL_cancel_12 rfl (by decide) ?_
      refine Ei.const dL_cancel_13 ?_
      exact Ev.iret rfl rfl dL_cancel_14
    · have y1 := z1
      have z2 : (f_cancel a v).2 0 0 = 2 := by omega
      rw [z2] at hC ⊢
      refine ⟨τ, A2, B2, Ct.ofH (by decide +kernel) k_L_cancel (Nat.le_of_ble_eq_true rfl) (by simp [Value.category, va_rf]) ?_, L1, hV2, e13, fun q => by omega⟩
      refine Ev.aload_n (i := 2) dL_cancel_0 rfl rfl ?_
      refine Ei.const dL_cancel_1 ?_
      refine Ev.aload_n (i := 0) dL_cancel_2 rfl rfl ?_
      refine Ev.iload_n (i := 1) dL_cancel_3 rfl rfl ?_
      have hp : ∀ z ∈ ([(0, 9, 12, 40)] : List (Nat × Nat × Nat × Nat)), z.2.2.2 ≠ 0 ∧ ∃ nm, Cond.classLink m_L_cancel.y.cls z.2.2.2 nm ∈ lw_tbl ∧ xcp nm ∧ xISE ≠ nm := fun z hz => by
        rcases List.mem_cons.mp hz with rfl | hz
        · exact ⟨by decide, _, (tb3 (i := 52) rfl), Or.inr (Or.inr (Or.inr (Or.inl rfl))), by decide⟩
        cases hz
      refine Ev.callVc (ci := 13) (C := RX10) (T := TX10) (N := 12) (As := [_]) (E := xISE) (pre := [(0, 9, 12, 40)]) (suf := []) (xa := 0) (xb := 9) (xh := 15) (xt := 15) hN (Or.inr (Or.inl rfl)) k_X10_cancel rfl kd13 (tb5 (i := 179) rfl) ki_X10_cancel kv_X10_cancel dL_cancel_4 rfl rfl (Nat.le_of_ble_eq_true rfl) (Nat.le_refl _) rfl (by decide) (by decide) hp (tb2 (i := 12) rfl) (tb2 (i := 116) rfl) hC (fun q => ?_)
      refine Ev.astore_n (i := 3) dL_cancel_15 rfl (by decide) ?_
      refine Ei.const dL_cancel_16 ?_
      exact Ev.iret rfl rfl dL_cancel_17
def m_L_status : Mt := (yL_status, cL_status, 4, some .int, [(0, 9, 12, 40)])
theorem k_L_status : cokH m_L_status 3 := ⟨rfl, (tb5 (i := 195) rfl), (tb1 (i := 0) rfl), by decide, by decide +kernel, by decide⟩
theorem ki_L_status : Cond.static m_L_status.y ∈ lw_tbl := (tb5 (i := 194) rfl)
theorem cd_status {a : Int} {v : Vw} (h : (0 : Int) ≤ v 0 0) : (f_status a v).2 0 0 ≤ 1 := by
  unfold f_status
  repeat' split
  all_goals first
    | (simp [f_fails, upv, f_adds]; done)
    | exact Int.le_trans (cd_one _ _) (by decide)
    | (rw [fr_starts 0 0 (by decide)]; simp [upv]; done)
    | (show f_starts _ _ _ 0 0 ≤ _; rw [fr_starts 0 0 (by decide)]; simp [upv]; done)
theorem w_status {X : Cx} {σ : Hp} {A : Nat → Int → Nat} {c : Cs} {B : Int → Nat} {m0 oL oD : Nat} {v : Vw} {T E a : Int} (hN : KN X) (hL : LW X σ A c B m0 oL oD v) (hV : INV c v) (hI : IM v T E) (ha : R32 a) :
    ∃ τ A' B', Ct X m_L_status 8 [va_rf (some (A 13 0)), .int (i32 a), va_rf (some oL)] σ (.inl (some (.int (i32 ((f_status a v).2 0 0))))) τ ∧ LW X τ A' (g_X10_status a c).2 B' m0 oL oD v ∧ INV (g_X10_status a c).2 (f_status a v).2 ∧ A' 13 0 = A 13 0 ∧ ((f_status a v).2 0 0 = 0 → τ.lv oL 0 = (i32 (f_status a v).1).toInt64) := by
  obtain ⟨ok, hA, hV2⟩ := fc_status hV hI ha
  have cd := cd_status (a := a) (v := v) (hI.2 0 0).1
  obtain ⟨τ, A2, B2, hC, hS, hE2, hw⟩ := s_X10_status (X := X) (ρ := σ) ok A σ B hL.1 (ws2 hL.1.2)
  obtain ⟨L1, l2, l3⟩ := hL.call hS
  have e13 := (hE2 13 0 (rg13 hL.1.2)).1
  have kd13 : σ.kd (A 13 0) = 14 := hL.1.1.kd (rg13 hL.1.2)
  rcases hA with ⟨z, e⟩ | ⟨z, e⟩
  · rw [e] at hC
    rw [z]
    refine ⟨τ.setL oL 0 (i32 (f_status a v).1).toInt64, A2, B2, Ct.ofH (by decide +kernel) k_L_status (Nat.le_of_ble_eq_true rfl) (by simp [Value.category, va_rf]) ?_, L1.setL _ _, hV2, e13, fun _ => up2_eq _ _ _ _⟩
    refine Ev.aload_n (i := 2) dL_status_0 rfl rfl ?_
    refine Ei.const dL_status_1 ?_
    refine Ev.aload_n (i := 0) dL_status_2 rfl rfl ?_
    refine Ev.iload_n (i := 1) dL_status_3 rfl rfl ?_
    refine Ev.callV (ci := 13) (C := RX10) (T := TX10) (N := 12) (As := [_]) (v := some (.int (i32 (f_status a v).1))) k_X10_status rfl kd13 (tb5 (i := 196) rfl) ki_X10_status kv_X10_status dL_status_4 rfl rfl (Nat.le_of_ble_eq_true rfl) (Nat.le_refl _) hC ?_
    refine Ev.i2l dL_status_7 rfl ?_
    refine Ev.last L1.2.2.1.1 (vin0 L1.2.2.1.2) dL_status_8 ?_
    rw [clamp0]
    refine Ev.goto (tgt := 15) dL_status_9 (by decide) ?_
    refine Ei.const dL_status_15 ?_
    exact Ev.iret rfl rfl dL_status_16
  · rw [e] at hC
    have z1 : (f_status a v).2 0 0 = 1 := by omega
    rw [z1]
    refine ⟨τ, A2, B2, Ct.ofH (by decide +kernel) k_L_status (Nat.le_of_ble_eq_true rfl) (by simp [Value.category, va_rf]) ?_, L1, hV2, e13, fun q => by omega⟩
    refine Ev.aload_n (i := 2) dL_status_0 rfl rfl ?_
    refine Ei.const dL_status_1 ?_
    refine Ev.aload_n (i := 0) dL_status_2 rfl rfl ?_
    refine Ev.iload_n (i := 1) dL_status_3 rfl rfl ?_
    have hp : ∀ z ∈ ([] : List (Nat × Nat × Nat × Nat)), z.2.2.2 ≠ 0 ∧ ∃ nm, Cond.classLink m_L_status.y.cls z.2.2.2 nm ∈ lw_tbl ∧ xcp nm ∧ xIOB ≠ nm := fun z hz => by
      cases hz
    refine Ev.callVc (ci := 13) (C := RX10) (T := TX10) (N := 12) (As := [_]) (E := xIOB) (pre := []) (suf := []) (xa := 0) (xb := 9) (xh := 12) (xt := 40) hN (Or.inr (Or.inr (Or.inr (Or.inl rfl)))) k_X10_status rfl kd13 (tb5 (i := 196) rfl) ki_X10_status kv_X10_status dL_status_4 rfl rfl (Nat.le_of_ble_eq_true rfl) (Nat.le_refl _) rfl (by decide) (by decide) hp (tb3 (i := 52) rfl) (tb3 (i := 64) rfl) hC (fun q => ?_)
    refine Ev.astore_n (i := 3) dL_status_12 rfl (by decide) ?_
    refine Ei.const dL_status_13 ?_
    exact Ev.iret rfl rfl dL_status_14
def m_L_filledOn : Mt := (yL_filledOn, cL_filledOn, 4, some .int, [(0, 9, 12, 40), (0, 9, 15, 15)])
theorem k_L_filledOn : cokH m_L_filledOn 3 := ⟨rfl, (tb5 (i := 202) rfl), (tb1 (i := 0) rfl), by decide, by decide +kernel, by decide⟩
theorem ki_L_filledOn : Cond.static m_L_filledOn.y ∈ lw_tbl := (tb5 (i := 201) rfl)
theorem cd_filledOn {a : Int} {v : Vw} (h : (0 : Int) ≤ v 0 0) : (f_filledOn a v).2 0 0 ≤ 2 := by
  unfold f_filledOn
  repeat' split
  all_goals first
    | (simp [f_fails, upv, f_adds]; done)
    | exact Int.le_trans (cd_one _ _) (by decide)
    | (rw [fr_starts 0 0 (by decide)]; simp [upv]; done)
    | (show f_starts _ _ _ 0 0 ≤ _; rw [fr_starts 0 0 (by decide)]; simp [upv]; done)
theorem w_filledOn {X : Cx} {σ : Hp} {A : Nat → Int → Nat} {c : Cs} {B : Int → Nat} {m0 oL oD : Nat} {v : Vw} {T E a : Int} (hN : KN X) (hL : LW X σ A c B m0 oL oD v) (hV : INV c v) (hI : IM v T E) (ha : R32 a) :
    ∃ τ A' B', Ct X m_L_filledOn 8 [va_rf (some (A 13 0)), .int (i32 a), va_rf (some oL)] σ (.inl (some (.int (i32 ((f_filledOn a v).2 0 0))))) τ ∧ LW X τ A' (g_X10_filledOn a c).2 B' m0 oL oD v ∧ INV (g_X10_filledOn a c).2 (f_filledOn a v).2 ∧ A' 13 0 = A 13 0 ∧ ((f_filledOn a v).2 0 0 = 0 → τ.lv oL 0 = (i32 (f_filledOn a v).1).toInt64) := by
  obtain ⟨ok, hA, hV2⟩ := fc_filledOn hV hI ha
  have cd := cd_filledOn (a := a) (v := v) (hI.2 0 0).1
  obtain ⟨τ, A2, B2, hC, hS, hE2, hw⟩ := s_X10_filledOn (X := X) (ρ := σ) ok A σ B hL.1 (ws2 hL.1.2)
  obtain ⟨L1, l2, l3⟩ := hL.call hS
  have e13 := (hE2 13 0 (rg13 hL.1.2)).1
  have kd13 : σ.kd (A 13 0) = 14 := hL.1.1.kd (rg13 hL.1.2)
  rcases hA with ⟨z, e⟩ | ⟨z, e⟩
  · rw [e] at hC
    rw [z]
    refine ⟨τ.setL oL 0 (i32 (f_filledOn a v).1).toInt64, A2, B2, Ct.ofH (by decide +kernel) k_L_filledOn (Nat.le_of_ble_eq_true rfl) (by simp [Value.category, va_rf]) ?_, L1.setL _ _, hV2, e13, fun _ => up2_eq _ _ _ _⟩
    refine Ev.aload_n (i := 2) dL_filledOn_0 rfl rfl ?_
    refine Ei.const dL_filledOn_1 ?_
    refine Ev.aload_n (i := 0) dL_filledOn_2 rfl rfl ?_
    refine Ev.iload_n (i := 1) dL_filledOn_3 rfl rfl ?_
    refine Ev.callV (ci := 13) (C := RX10) (T := TX10) (N := 12) (As := [_]) (v := some (.int (i32 (f_filledOn a v).1))) k_X10_filledOn rfl kd13 (tb5 (i := 203) rfl) ki_X10_filledOn kv_X10_filledOn dL_filledOn_4 rfl rfl (Nat.le_of_ble_eq_true rfl) (Nat.le_refl _) hC ?_
    refine Ev.i2l dL_filledOn_7 rfl ?_
    refine Ev.last L1.2.2.1.1 (vin0 L1.2.2.1.2) dL_filledOn_8 ?_
    rw [clamp0]
    refine Ev.goto (tgt := 18) dL_filledOn_9 (by decide) ?_
    refine Ei.const dL_filledOn_18 ?_
    exact Ev.iret rfl rfl dL_filledOn_19
  · rw [e] at hC
    by_cases z1 : (f_filledOn a v).2 0 0 = 1
    · rw [z1] at hC ⊢
      refine ⟨τ, A2, B2, Ct.ofH (by decide +kernel) k_L_filledOn (Nat.le_of_ble_eq_true rfl) (by simp [Value.category, va_rf]) ?_, L1, hV2, e13, fun q => by omega⟩
      refine Ev.aload_n (i := 2) dL_filledOn_0 rfl rfl ?_
      refine Ei.const dL_filledOn_1 ?_
      refine Ev.aload_n (i := 0) dL_filledOn_2 rfl rfl ?_
      refine Ev.iload_n (i := 1) dL_filledOn_3 rfl rfl ?_
      have hp : ∀ z ∈ ([] : List (Nat × Nat × Nat × Nat)), z.2.2.2 ≠ 0 ∧ ∃ nm, Cond.classLink m_L_filledOn.y.cls z.2.2.2 nm ∈ lw_tbl ∧ xcp nm ∧ xIOB ≠ nm := fun z hz => by
        cases hz
      refine Ev.callVc (ci := 13) (C := RX10) (T := TX10) (N := 12) (As := [_]) (E := xIOB) (pre := []) (suf := [(0, 9, 15, 15)]) (xa := 0) (xb := 9) (xh := 12) (xt := 40) hN (Or.inr (Or.inr (Or.inr (Or.inl rfl)))) k_X10_filledOn rfl kd13 (tb5 (i := 203) rfl) ki_X10_filledOn kv_X10_filledOn dL_filledOn_4 rfl rfl (Nat.le_of_ble_eq_true rfl) (Nat.le_refl _) rfl (by decide) (by decide) hp (tb3 (i := 52) rfl) (tb3 (i := 64) rfl) hC (fun q => ?_)
      refine Ev.astore_n (i := 3) dL_filledOn_12 rfl (by decide) ?_
      refine Ei.const dL_filledOn_13 ?_
      exact Ev.iret rfl rfl dL_filledOn_14
    · have y1 := z1
      have z2 : (f_filledOn a v).2 0 0 = 2 := by omega
      rw [z2] at hC ⊢
      refine ⟨τ, A2, B2, Ct.ofH (by decide +kernel) k_L_filledOn (Nat.le_of_ble_eq_true rfl) (by simp [Value.category, va_rf]) ?_, L1, hV2, e13, fun q => by omega⟩
      refine Ev.aload_n (i := 2) dL_filledOn_0 rfl rfl ?_
      refine Ei.const dL_filledOn_1 ?_
      refine Ev.aload_n (i := 0) dL_filledOn_2 rfl rfl ?_
      refine Ev.iload_n (i := 1) dL_filledOn_3 rfl rfl ?_
      have hp : ∀ z ∈ ([(0, 9, 12, 40)] : List (Nat × Nat × Nat × Nat)), z.2.2.2 ≠ 0 ∧ ∃ nm, Cond.classLink m_L_filledOn.y.cls z.2.2.2 nm ∈ lw_tbl ∧ xcp nm ∧ xISE ≠ nm := fun z hz => by
        rcases List.mem_cons.mp hz with rfl | hz
        · exact ⟨by decide, _, (tb3 (i := 52) rfl), Or.inr (Or.inr (Or.inr (Or.inl rfl))), by decide⟩
        cases hz
      refine Ev.callVc (ci := 13) (C := RX10) (T := TX10) (N := 12) (As := [_]) (E := xISE) (pre := [(0, 9, 12, 40)]) (suf := []) (xa := 0) (xb := 9) (xh := 15) (xt := 15) hN (Or.inr (Or.inl rfl)) k_X10_filledOn rfl kd13 (tb5 (i := 203) rfl) ki_X10_filledOn kv_X10_filledOn dL_filledOn_4 rfl rfl (Nat.le_of_ble_eq_true rfl) (Nat.le_refl _) rfl (by decide) (by decide) hp (tb2 (i := 12) rfl) (tb2 (i := 116) rfl) hC (fun q => ?_)
      refine Ev.astore_n (i := 3) dL_filledOn_15 rfl (by decide) ?_
      refine Ei.const dL_filledOn_16 ?_
      exact Ev.iret rfl rfl dL_filledOn_17
def m_L_pass : Mt := (yL_pass, cL_pass, 4, some .int, [(0, 9, 12, 13)])
theorem k_L_pass : cokH m_L_pass 3 := ⟨rfl, (tb5 (i := 218) rfl), (tb1 (i := 0) rfl), by decide, by decide +kernel, by decide⟩
theorem ki_L_pass : Cond.static m_L_pass.y ∈ lw_tbl := (tb5 (i := 217) rfl)
theorem cd_pass {a : Int} {v : Vw} (h : (0 : Int) ≤ v 0 0) : (f_pass a v).2 0 0 ≤ 1 := by
  unfold f_pass
  split
  · simp [f_fails, upv]
  · exact cd_l28 _ _ _ (by simp [upv])
theorem w_pass {X : Cx} {σ : Hp} {A : Nat → Int → Nat} {c : Cs} {B : Int → Nat} {m0 oL oD : Nat} {v : Vw} {T E a : Int} (hN : KN X) (hL : LW X σ A c B m0 oL oD v) (hV : INV c v) (hI : IM v T E) (ha : R32 a) (hd : v 8 0 + 30 ≤ T) (hE : E + 102300 ≤ 1000000000) :
    ∃ τ A' B', Ct X m_L_pass 13 [va_rf (some (A 13 0)), .int (i32 a), va_rf (some oL)] σ (.inl (some (.int (i32 ((f_pass a v).2 0 0))))) τ ∧ LW X τ A' (g_X10_pass a c).2 B' m0 oL oD v ∧ INV (g_X10_pass a c).2 (f_pass a v).2 ∧ A' 13 0 = A 13 0 ∧ ((f_pass a v).2 0 0 = 0 → τ.lv oL 0 = (i32 (f_pass a v).1).toInt64) := by
  obtain ⟨ok, hA, hV2⟩ := fc_pass hV hI ha hd hE
  have cd := cd_pass (a := a) (v := v) (hI.2 0 0).1
  obtain ⟨τ, A2, B2, hC, hS, hE2, hw⟩ := s_X10_pass (X := X) (ρ := σ) ok A σ B hL.1 (ws2 hL.1.2)
  obtain ⟨L1, l2, l3⟩ := hL.call hS
  have e13 := (hE2 13 0 (rg13 hL.1.2)).1
  have kd13 : σ.kd (A 13 0) = 14 := hL.1.1.kd (rg13 hL.1.2)
  rcases hA with ⟨z, e⟩ | ⟨z, e⟩
  · rw [e] at hC
    rw [z]
    refine ⟨τ.setL oL 0 (i32 (f_pass a v).1).toInt64, A2, B2, Ct.ofH (by decide +kernel) k_L_pass (Nat.le_of_ble_eq_true rfl) (by simp [Value.category, va_rf]) ?_, L1.setL _ _, hV2, e13, fun _ => up2_eq _ _ _ _⟩
    refine Ev.aload_n (i := 2) dL_pass_0 rfl rfl ?_
    refine Ei.const dL_pass_1 ?_
    refine Ev.aload_n (i := 0) dL_pass_2 rfl rfl ?_
    refine Ev.iload_n (i := 1) dL_pass_3 rfl rfl ?_
    refine Ev.callV (ci := 13) (C := RX10) (T := TX10) (N := 12) (As := [_]) (v := some (.int (i32 (f_pass a v).1))) k_X10_pass rfl kd13 (tb5 (i := 219) rfl) ki_X10_pass kv_X10_pass dL_pass_4 rfl rfl (Nat.le_of_ble_eq_true rfl) (Nat.le_refl _) hC ?_
    refine Ev.i2l dL_pass_7 rfl ?_
    refine Ev.last L1.2.2.1.1 (vin0 L1.2.2.1.2) dL_pass_8 ?_
    rw [clamp0]
    refine Ev.goto (tgt := 15) dL_pass_9 (by decide) ?_
    refine Ei.const dL_pass_15 ?_
    exact Ev.iret rfl rfl dL_pass_16
  · rw [e] at hC
    have z1 : (f_pass a v).2 0 0 = 1 := by omega
    rw [z1]
    refine ⟨τ, A2, B2, Ct.ofH (by decide +kernel) k_L_pass (Nat.le_of_ble_eq_true rfl) (by simp [Value.category, va_rf]) ?_, L1, hV2, e13, fun q => by omega⟩
    refine Ev.aload_n (i := 2) dL_pass_0 rfl rfl ?_
    refine Ei.const dL_pass_1 ?_
    refine Ev.aload_n (i := 0) dL_pass_2 rfl rfl ?_
    refine Ev.iload_n (i := 1) dL_pass_3 rfl rfl ?_
    have hp : ∀ z ∈ ([] : List (Nat × Nat × Nat × Nat)), z.2.2.2 ≠ 0 ∧ ∃ nm, Cond.classLink m_L_pass.y.cls z.2.2.2 nm ∈ lw_tbl ∧ xcp nm ∧ xIAE ≠ nm := fun z hz => by
      cases hz
    refine Ev.callVc (ci := 13) (C := RX10) (T := TX10) (N := 12) (As := [_]) (E := xIAE) (pre := []) (suf := []) (xa := 0) (xb := 9) (xh := 12) (xt := 13) hN (Or.inl rfl) k_X10_pass rfl kd13 (tb5 (i := 219) rfl) ki_X10_pass kv_X10_pass dL_pass_4 rfl rfl (Nat.le_of_ble_eq_true rfl) (Nat.le_refl _) rfl (by decide) (by decide) hp (tb2 (i := 11) rfl) (tb2 (i := 23) rfl) hC (fun q => ?_)
    refine Ev.astore_n (i := 3) dL_pass_12 rfl (by decide) ?_
    refine Ei.const dL_pass_13 ?_
    exact Ev.iret rfl rfl dL_pass_14
def m_L_state : Mt := (yL_state, cL_state, 4, some .int, [(0, 9, 12, 40)])
theorem k_L_state : cokH m_L_state 3 := ⟨rfl, (tb6 (i := 101) rfl), (tb1 (i := 0) rfl), by decide, by decide +kernel, by decide⟩
theorem ki_L_state : Cond.static m_L_state.y ∈ lw_tbl := (tb6 (i := 100) rfl)
theorem cd_state {a : Int} {v : Vw} (h : (0 : Int) ≤ v 0 0) : (f_state a v).2 0 0 ≤ 1 := by
  unfold f_state
  repeat' split
  all_goals first
    | (simp [f_fails, upv, f_adds]; done)
    | exact Int.le_trans (cd_one _ _) (by decide)
    | (rw [fr_starts 0 0 (by decide)]; simp [upv]; done)
    | (show f_starts _ _ _ 0 0 ≤ _; rw [fr_starts 0 0 (by decide)]; simp [upv]; done)
theorem w_state {X : Cx} {σ : Hp} {A : Nat → Int → Nat} {c : Cs} {B : Int → Nat} {m0 oL oD : Nat} {v : Vw} {T E a : Int} (hN : KN X) (hL : LW X σ A c B m0 oL oD v) (hV : INV c v) (hI : IM v T E) (ha : R32 a) :
    ∃ τ A' B', Ct X m_L_state 8 [va_rf (some (A 13 0)), .int (i32 a), va_rf (some oL)] σ (.inl (some (.int (i32 ((f_state a v).2 0 0))))) τ ∧ LW X τ A' (g_X10_state a c).2 B' m0 oL oD v ∧ INV (g_X10_state a c).2 (f_state a v).2 ∧ A' 13 0 = A 13 0 ∧ ((f_state a v).2 0 0 = 0 → τ.lv oL 0 = (i32 (f_state a v).1).toInt64) := by
  obtain ⟨ok, hA, hV2⟩ := fc_state hV hI ha
  have cd := cd_state (a := a) (v := v) (hI.2 0 0).1
  obtain ⟨τ, A2, B2, hC, hS, hE2, hw⟩ := s_X10_state (X := X) (ρ := σ) ok A σ B hL.1 (ws2 hL.1.2)
  obtain ⟨L1, l2, l3⟩ := hL.call hS
  have e13 := (hE2 13 0 (rg13 hL.1.2)).1
  have kd13 : σ.kd (A 13 0) = 14 := hL.1.1.kd (rg13 hL.1.2)
  rcases hA with ⟨z, e⟩ | ⟨z, e⟩
  · rw [e] at hC
    rw [z]
    refine ⟨τ.setL oL 0 (i32 (f_state a v).1).toInt64, A2, B2, Ct.ofH (by decide +kernel) k_L_state (Nat.le_of_ble_eq_true rfl) (by simp [Value.category, va_rf]) ?_, L1.setL _ _, hV2, e13, fun _ => up2_eq _ _ _ _⟩
    refine Ev.aload_n (i := 2) dL_state_0 rfl rfl ?_
    refine Ei.const dL_state_1 ?_
    refine Ev.aload_n (i := 0) dL_state_2 rfl rfl ?_
    refine Ev.iload_n (i := 1) dL_state_3 rfl rfl ?_
    refine Ev.callV (ci := 13) (C := RX10) (T := TX10) (N := 12) (As := [_]) (v := some (.int (i32 (f_state a v).1))) k_X10_state rfl kd13 (tb6 (i := 102) rfl) ki_X10_state kv_X10_state dL_state_4 rfl rfl (Nat.le_of_ble_eq_true rfl) (Nat.le_refl _) hC ?_
    refine Ev.i2l dL_state_7 rfl ?_
    refine Ev.last L1.2.2.1.1 (vin0 L1.2.2.1.2) dL_state_8 ?_
    rw [clamp0]
    refine Ev.goto (tgt := 15) dL_state_9 (by decide) ?_
    refine Ei.const dL_state_15 ?_
    exact Ev.iret rfl rfl dL_state_16
  · rw [e] at hC
    have z1 : (f_state a v).2 0 0 = 1 := by omega
    rw [z1]
    refine ⟨τ, A2, B2, Ct.ofH (by decide +kernel) k_L_state (Nat.le_of_ble_eq_true rfl) (by simp [Value.category, va_rf]) ?_, L1, hV2, e13, fun q => by omega⟩
    refine Ev.aload_n (i := 2) dL_state_0 rfl rfl ?_
    refine Ei.const dL_state_1 ?_
    refine Ev.aload_n (i := 0) dL_state_2 rfl rfl ?_
    refine Ev.iload_n (i := 1) dL_state_3 rfl rfl ?_
    have hp : ∀ z ∈ ([] : List (Nat × Nat × Nat × Nat)), z.2.2.2 ≠ 0 ∧ ∃ nm, Cond.classLink m_L_state.y.cls z.2.2.2 nm ∈ lw_tbl ∧ xcp nm ∧ xIOB ≠ nm := fun z hz => by
      cases hz
    refine Ev.callVc (ci := 13) (C := RX10) (T := TX10) (N := 12) (As := [_]) (E := xIOB) (pre := []) (suf := []) (xa := 0) (xb := 9) (xh := 12) (xt := 40) hN (Or.inr (Or.inr (Or.inr (Or.inl rfl)))) k_X10_state rfl kd13 (tb6 (i := 102) rfl) ki_X10_state kv_X10_state dL_state_4 rfl rfl (Nat.le_of_ble_eq_true rfl) (Nat.le_refl _) rfl (by decide) (by decide) hp (tb3 (i := 52) rfl) (tb3 (i := 64) rfl) hC (fun q => ?_)
    refine Ev.astore_n (i := 3) dL_state_12 rfl (by decide) ?_
    refine Ei.const dL_state_13 ?_
    exact Ev.iret rfl rfl dL_state_14
def m_L_brewIn : Mt := (yL_brewIn, cL_brewIn, 4, some .int, [(0, 9, 12, 40), (0, 9, 15, 35)])
theorem k_L_brewIn : cokH m_L_brewIn 3 := ⟨rfl, (tb6 (i := 108) rfl), (tb1 (i := 0) rfl), by decide, by decide +kernel, by decide⟩
theorem ki_L_brewIn : Cond.static m_L_brewIn.y ∈ lw_tbl := (tb6 (i := 107) rfl)
theorem cd_brewIn {a : Int} {v : Vw} (h : (0 : Int) ≤ v 0 0) : (f_brewIn a v).2 0 0 ≤ 2 := by
  unfold f_brewIn
  repeat' split
  all_goals first
    | (simp [f_fails, upv, f_adds]; done)
    | exact Int.le_trans (cd_one _ _) (by decide)
    | (rw [fr_starts 0 0 (by decide)]; simp [upv]; done)
    | (show f_starts _ _ _ 0 0 ≤ _; rw [fr_starts 0 0 (by decide)]; simp [upv]; done)
theorem w_brewIn {X : Cx} {σ : Hp} {A : Nat → Int → Nat} {c : Cs} {B : Int → Nat} {m0 oL oD : Nat} {v : Vw} {T E a : Int} (hN : KN X) (hL : LW X σ A c B m0 oL oD v) (hV : INV c v) (hI : IM v T E) (ha : R32 a) :
    ∃ τ A' B', Ct X m_L_brewIn 8 [va_rf (some (A 13 0)), .int (i32 a), va_rf (some oL)] σ (.inl (some (.int (i32 ((f_brewIn a v).2 0 0))))) τ ∧ LW X τ A' (g_X10_brewIn a c).2 B' m0 oL oD v ∧ INV (g_X10_brewIn a c).2 (f_brewIn a v).2 ∧ A' 13 0 = A 13 0 ∧ ((f_brewIn a v).2 0 0 = 0 → τ.lv oL 0 = (i32 (f_brewIn a v).1).toInt64) := by
  obtain ⟨ok, hA, hV2⟩ := fc_brewIn hV hI ha
  have cd := cd_brewIn (a := a) (v := v) (hI.2 0 0).1
  obtain ⟨τ, A2, B2, hC, hS, hE2, hw⟩ := s_X10_brewIn (X := X) (ρ := σ) ok A σ B hL.1 (ws2 hL.1.2)
  obtain ⟨L1, l2, l3⟩ := hL.call hS
  have e13 := (hE2 13 0 (rg13 hL.1.2)).1
  have kd13 : σ.kd (A 13 0) = 14 := hL.1.1.kd (rg13 hL.1.2)
  rcases hA with ⟨z, e⟩ | ⟨z, e⟩
  · rw [e] at hC
    rw [z]
    refine ⟨τ.setL oL 0 (i32 (f_brewIn a v).1).toInt64, A2, B2, Ct.ofH (by decide +kernel) k_L_brewIn (Nat.le_of_ble_eq_true rfl) (by simp [Value.category, va_rf]) ?_, L1.setL _ _, hV2, e13, fun _ => up2_eq _ _ _ _⟩
    refine Ev.aload_n (i := 2) dL_brewIn_0 rfl rfl ?_
    refine Ei.const dL_brewIn_1 ?_
    refine Ev.aload_n (i := 0) dL_brewIn_2 rfl rfl ?_
    refine Ev.iload_n (i := 1) dL_brewIn_3 rfl rfl ?_
    refine Ev.callV (ci := 13) (C := RX10) (T := TX10) (N := 12) (As := [_]) (v := some (.int (i32 (f_brewIn a v).1))) k_X10_brewIn rfl kd13 (tb6 (i := 109) rfl) ki_X10_brewIn kv_X10_brewIn dL_brewIn_4 rfl rfl (Nat.le_of_ble_eq_true rfl) (Nat.le_refl _) hC ?_
    refine Ev.i2l dL_brewIn_7 rfl ?_
    refine Ev.last L1.2.2.1.1 (vin0 L1.2.2.1.2) dL_brewIn_8 ?_
    rw [clamp0]
    refine Ev.goto (tgt := 18) dL_brewIn_9 (by decide) ?_
    refine Ei.const dL_brewIn_18 ?_
    exact Ev.iret rfl rfl dL_brewIn_19
  · rw [e] at hC
    by_cases z1 : (f_brewIn a v).2 0 0 = 1
    · rw [z1] at hC ⊢
      refine ⟨τ, A2, B2, Ct.ofH (by decide +kernel) k_L_brewIn (Nat.le_of_ble_eq_true rfl) (by simp [Value.category, va_rf]) ?_, L1, hV2, e13, fun q => by omega⟩
      refine Ev.aload_n (i := 2) dL_brewIn_0 rfl rfl ?_
      refine Ei.const dL_brewIn_1 ?_
      refine Ev.aload_n (i := 0) dL_brewIn_2 rfl rfl ?_
      refine Ev.iload_n (i := 1) dL_brewIn_3 rfl rfl ?_
      have hp : ∀ z ∈ ([] : List (Nat × Nat × Nat × Nat)), z.2.2.2 ≠ 0 ∧ ∃ nm, Cond.classLink m_L_brewIn.y.cls z.2.2.2 nm ∈ lw_tbl ∧ xcp nm ∧ xIOB ≠ nm := fun z hz => by
        cases hz
      refine Ev.callVc (ci := 13) (C := RX10) (T := TX10) (N := 12) (As := [_]) (E := xIOB) (pre := []) (suf := [(0, 9, 15, 35)]) (xa := 0) (xb := 9) (xh := 12) (xt := 40) hN (Or.inr (Or.inr (Or.inr (Or.inl rfl)))) k_X10_brewIn rfl kd13 (tb6 (i := 109) rfl) ki_X10_brewIn kv_X10_brewIn dL_brewIn_4 rfl rfl (Nat.le_of_ble_eq_true rfl) (Nat.le_refl _) rfl (by decide) (by decide) hp (tb3 (i := 52) rfl) (tb3 (i := 64) rfl) hC (fun q => ?_)
      refine Ev.astore_n (i := 3) dL_brewIn_12 rfl (by decide) ?_
      refine Ei.const dL_brewIn_13 ?_
      exact Ev.iret rfl rfl dL_brewIn_14
    · have y1 := z1
      have z2 : (f_brewIn a v).2 0 0 = 2 := by omega
      rw [z2] at hC ⊢
      refine ⟨τ, A2, B2, Ct.ofH (by decide +kernel) k_L_brewIn (Nat.le_of_ble_eq_true rfl) (by simp [Value.category, va_rf]) ?_, L1, hV2, e13, fun q => by omega⟩
      refine Ev.aload_n (i := 2) dL_brewIn_0 rfl rfl ?_
      refine Ei.const dL_brewIn_1 ?_
      refine Ev.aload_n (i := 0) dL_brewIn_2 rfl rfl ?_
      refine Ev.iload_n (i := 1) dL_brewIn_3 rfl rfl ?_
      have hp : ∀ z ∈ ([(0, 9, 12, 40)] : List (Nat × Nat × Nat × Nat)), z.2.2.2 ≠ 0 ∧ ∃ nm, Cond.classLink m_L_brewIn.y.cls z.2.2.2 nm ∈ lw_tbl ∧ xcp nm ∧ xNSE ≠ nm := fun z hz => by
        rcases List.mem_cons.mp hz with rfl | hz
        · exact ⟨by decide, _, (tb3 (i := 52) rfl), Or.inr (Or.inr (Or.inr (Or.inl rfl))), by decide⟩
        cases hz
      refine Ev.callVc (ci := 13) (C := RX10) (T := TX10) (N := 12) (As := [_]) (E := xNSE) (pre := [(0, 9, 12, 40)]) (suf := []) (xa := 0) (xb := 9) (xh := 15) (xt := 35) hN (Or.inr (Or.inr (Or.inl rfl))) k_X10_brewIn rfl kd13 (tb6 (i := 109) rfl) ki_X10_brewIn kv_X10_brewIn dL_brewIn_4 rfl rfl (Nat.le_of_ble_eq_true rfl) (Nat.le_refl _) rfl (by decide) (by decide) hp (tb3 (i := 16) rfl) (tb3 (i := 31) rfl) hC (fun q => ?_)
      refine Ev.astore_n (i := 3) dL_brewIn_15 rfl (by decide) ?_
      refine Ei.const dL_brewIn_16 ?_
      exact Ev.iret rfl rfl dL_brewIn_17
def m_L_cleanDay : Mt := (yL_cleanDay, cL_cleanDay, 4, some .int, [(0, 9, 12, 40), (0, 9, 15, 35)])
theorem k_L_cleanDay : cokH m_L_cleanDay 3 := ⟨rfl, (tb6 (i := 116) rfl), (tb1 (i := 0) rfl), by decide, by decide +kernel, by decide⟩
theorem ki_L_cleanDay : Cond.static m_L_cleanDay.y ∈ lw_tbl := (tb6 (i := 115) rfl)
theorem cd_cleanDay {a : Int} {v : Vw} (h : (0 : Int) ≤ v 0 0) : (f_cleanDay a v).2 0 0 ≤ 2 := by
  unfold f_cleanDay
  repeat' split
  all_goals first
    | (simp [f_fails, upv, f_adds]; done)
    | exact Int.le_trans (cd_one _ _) (by decide)
    | (rw [fr_starts 0 0 (by decide)]; simp [upv]; done)
    | (show f_starts _ _ _ 0 0 ≤ _; rw [fr_starts 0 0 (by decide)]; simp [upv]; done)
theorem w_cleanDay {X : Cx} {σ : Hp} {A : Nat → Int → Nat} {c : Cs} {B : Int → Nat} {m0 oL oD : Nat} {v : Vw} {T E a : Int} (hN : KN X) (hL : LW X σ A c B m0 oL oD v) (hV : INV c v) (hI : IM v T E) (ha : R32 a) :
    ∃ τ A' B', Ct X m_L_cleanDay 8 [va_rf (some (A 13 0)), .int (i32 a), va_rf (some oL)] σ (.inl (some (.int (i32 ((f_cleanDay a v).2 0 0))))) τ ∧ LW X τ A' (g_X10_cleanDay a c).2 B' m0 oL oD v ∧ INV (g_X10_cleanDay a c).2 (f_cleanDay a v).2 ∧ A' 13 0 = A 13 0 ∧ ((f_cleanDay a v).2 0 0 = 0 → τ.lv oL 0 = (i32 (f_cleanDay a v).1).toInt64) := by
  obtain ⟨ok, hA, hV2⟩ := fc_cleanDay hV hI ha
  have cd := cd_cleanDay (a := a) (v := v) (hI.2 0 0).1
  obtain ⟨τ, A2, B2, hC, hS, hE2, hw⟩ := s_X10_cleanDay (X := X) (ρ := σ) ok A σ B hL.1 (ws2 hL.1.2)
  obtain ⟨L1, l2, l3⟩ := hL.call hS
  have e13 := (hE2 13 0 (rg13 hL.1.2)).1
  have kd13 : σ.kd (A 13 0) = 14 := hL.1.1.kd (rg13 hL.1.2)
  rcases hA with ⟨z, e⟩ | ⟨z, e⟩
  · rw [e] at hC
    rw [z]
    refine ⟨τ.setL oL 0 (i32 (f_cleanDay a v).1).toInt64, A2, B2, Ct.ofH (by decide +kernel) k_L_cleanDay (Nat.le_of_ble_eq_true rfl) (by simp [Value.category, va_rf]) ?_, L1.setL _ _, hV2, e13, fun _ => up2_eq _ _ _ _⟩
    refine Ev.aload_n (i := 2) dL_cleanDay_0 rfl rfl ?_
    refine Ei.const dL_cleanDay_1 ?_
    refine Ev.aload_n (i := 0) dL_cleanDay_2 rfl rfl ?_
    refine Ev.iload_n (i := 1) dL_cleanDay_3 rfl rfl ?_
    refine Ev.callV (ci := 13) (C := RX10) (T := TX10) (N := 12) (As := [_]) (v := some (.int (i32 (f_cleanDay a v).1))) k_X10_cleanDay rfl kd13 (tb6 (i := 117) rfl) ki_X10_cleanDay kv_X10_cleanDay dL_cleanDay_4 rfl rfl (Nat.le_of_ble_eq_true rfl) (Nat.le_refl _) hC ?_
    refine Ev.i2l dL_cleanDay_7 rfl ?_
    refine Ev.last L1.2.2.1.1 (vin0 L1.2.2.1.2) dL_cleanDay_8 ?_
    rw [clamp0]
    refine Ev.goto (tgt := 18) dL_cleanDay_9 (by decide) ?_
    refine Ei.const dL_cleanDay_18 ?_
    exact Ev.iret rfl rfl dL_cleanDay_19
  · rw [e] at hC
    by_cases z1 : (f_cleanDay a v).2 0 0 = 1
    · rw [z1] at hC ⊢
      refine ⟨τ, A2, B2, Ct.ofH (by decide +kernel) k_L_cleanDay (Nat.le_of_ble_eq_true rfl) (by simp [Value.category, va_rf]) ?_, L1, hV2, e13, fun q => by omega⟩
      refine Ev.aload_n (i := 2) dL_cleanDay_0 rfl rfl ?_
      refine Ei.const dL_cleanDay_1 ?_
      refine Ev.aload_n (i := 0) dL_cleanDay_2 rfl rfl ?_
      refine Ev.iload_n (i := 1) dL_cleanDay_3 rfl rfl ?_
      have hp : ∀ z ∈ ([] : List (Nat × Nat × Nat × Nat)), z.2.2.2 ≠ 0 ∧ ∃ nm, Cond.classLink m_L_cleanDay.y.cls z.2.2.2 nm ∈ lw_tbl ∧ xcp nm ∧ xIOB ≠ nm := fun z hz => by
        cases hz
      refine Ev.callVc (ci := 13) (C := RX10) (T := TX10) (N := 12) (As := [_]) (E := xIOB) (pre := []) (suf := [(0, 9, 15, 35)]) (xa := 0) (xb := 9) (xh := 12) (xt := 40) hN (Or.inr (Or.inr (Or.inr (Or.inl rfl)))) k_X10_cleanDay rfl kd13 (tb6 (i := 117) rfl) ki_X10_cleanDay kv_X10_cleanDay dL_cleanDay_4 rfl rfl (Nat.le_of_ble_eq_true rfl) (Nat.le_refl _) rfl (by decide) (by decide) hp (tb3 (i := 52) rfl) (tb3 (i := 64) rfl) hC (fun q => ?_)
      refine Ev.astore_n (i := 3) dL_cleanDay_12 rfl (by decide) ?_
      refine Ei.const dL_cleanDay_13 ?_
      exact Ev.iret rfl rfl dL_cleanDay_14
    · have y1 := z1
      have z2 : (f_cleanDay a v).2 0 0 = 2 := by omega
      rw [z2] at hC ⊢
      refine ⟨τ, A2, B2, Ct.ofH (by decide +kernel) k_L_cleanDay (Nat.le_of_ble_eq_true rfl) (by simp [Value.category, va_rf]) ?_, L1, hV2, e13, fun q => by omega⟩
      refine Ev.aload_n (i := 2) dL_cleanDay_0 rfl rfl ?_
      refine Ei.const dL_cleanDay_1 ?_
      refine Ev.aload_n (i := 0) dL_cleanDay_2 rfl rfl ?_
      refine Ev.iload_n (i := 1) dL_cleanDay_3 rfl rfl ?_
      have hp : ∀ z ∈ ([(0, 9, 12, 40)] : List (Nat × Nat × Nat × Nat)), z.2.2.2 ≠ 0 ∧ ∃ nm, Cond.classLink m_L_cleanDay.y.cls z.2.2.2 nm ∈ lw_tbl ∧ xcp nm ∧ xNSE ≠ nm := fun z hz => by
        rcases List.mem_cons.mp hz with rfl | hz
        · exact ⟨by decide, _, (tb3 (i := 52) rfl), Or.inr (Or.inr (Or.inr (Or.inl rfl))), by decide⟩
        cases hz
      refine Ev.callVc (ci := 13) (C := RX10) (T := TX10) (N := 12) (As := [_]) (E := xNSE) (pre := [(0, 9, 12, 40)]) (suf := []) (xa := 0) (xb := 9) (xh := 15) (xt := 35) hN (Or.inr (Or.inr (Or.inl rfl))) k_X10_cleanDay rfl kd13 (tb6 (i := 117) rfl) ki_X10_cleanDay kv_X10_cleanDay dL_cleanDay_4 rfl rfl (Nat.le_of_ble_eq_true rfl) (Nat.le_refl _) rfl (by decide) (by decide) hp (tb3 (i := 16) rfl) (tb3 (i := 31) rfl) hC (fun q => ?_)
      refine Ev.astore_n (i := 3) dL_cleanDay_15 rfl (by decide) ?_
      refine Ei.const dL_cleanDay_16 ?_
      exact Ev.iret rfl rfl dL_cleanDay_17
def m_L_recipeOf : Mt := (yL_recipeOf, cL_recipeOf, 4, some .int, [(0, 9, 12, 40)])
theorem k_L_recipeOf : cokH m_L_recipeOf 3 := ⟨rfl, (tb6 (i := 124) rfl), (tb1 (i := 0) rfl), by decide, by decide +kernel, by decide⟩
theorem ki_L_recipeOf : Cond.static m_L_recipeOf.y ∈ lw_tbl := (tb6 (i := 123) rfl)
theorem cd_recipeOf {a : Int} {v : Vw} (h : (0 : Int) ≤ v 0 0) : (f_recipeOf a v).2 0 0 ≤ 1 := by
  unfold f_recipeOf
  repeat' split
  all_goals first
    | (simp [f_fails, upv, f_adds]; done)
    | exact Int.le_trans (cd_one _ _) (by decide)
    | (rw [fr_starts 0 0 (by decide)]; simp [upv]; done)
    | (show f_starts _ _ _ 0 0 ≤ _; rw [fr_starts 0 0 (by decide)]; simp [upv]; done)
theorem w_recipeOf {X : Cx} {σ : Hp} {A : Nat → Int → Nat} {c : Cs} {B : Int → Nat} {m0 oL oD : Nat} {v : Vw} {T E a : Int} (hN : KN X) (hL : LW X σ A c B m0 oL oD v) (hV : INV c v) (hI : IM v T E) (ha : R32 a) :
    ∃ τ A' B', Ct X m_L_recipeOf 8 [va_rf (some (A 13 0)), .int (i32 a), va_rf (some oL)] σ (.inl (some (.int (i32 ((f_recipeOf a v).2 0 0))))) τ ∧ LW X τ A' (g_X10_recipeOf a c).2 B' m0 oL oD v ∧ INV (g_X10_recipeOf a c).2 (f_recipeOf a v).2 ∧ A' 13 0 = A 13 0 ∧ ((f_recipeOf a v).2 0 0 = 0 → τ.lv oL 0 = (i32 (f_recipeOf a v).1).toInt64) := by
  obtain ⟨ok, hA, hV2⟩ := fc_recipeOf hV hI ha
  have cd := cd_recipeOf (a := a) (v := v) (hI.2 0 0).1
  obtain ⟨τ, A2, B2, hC, hS, hE2, hw⟩ := s_X10_recipeOf (X := X) (ρ := σ) ok A σ B hL.1 (ws2 hL.1.2)
  obtain ⟨L1, l2, l3⟩ := hL.call hS
  have e13 := (hE2 13 0 (rg13 hL.1.2)).1
  have kd13 : σ.kd (A 13 0) = 14 := hL.1.1.kd (rg13 hL.1.2)
  rcases hA with ⟨z, e⟩ | ⟨z, e⟩
  · rw [e] at hC
    rw [z]
    refine ⟨τ.setL oL 0 (i32 (f_recipeOf a v).1).toInt64, A2, B2, Ct.ofH (by decide +kernel) k_L_recipeOf (Nat.le_of_ble_eq_true rfl) (by simp [Value.category, va_rf]) ?_, L1.setL _ _, hV2, e13, fun _ => up2_eq _ _ _ _⟩
    refine Ev.aload_n (i := 2) dL_recipeOf_0 rfl rfl ?_
    refine Ei.const dL_recipeOf_1 ?_
    refine Ev.aload_n (i := 0) dL_recipeOf_2 rfl rfl ?_
    refine Ev.iload_n (i := 1) dL_recipeOf_3 rfl rfl ?_
    refine Ev.callV (ci := 13) (C := RX10) (T := TX10) (N := 12) (As := [_]) (v := some (.int (i32 (f_recipeOf a v).1))) k_X10_recipeOf rfl kd13 (tb6 (i := 125) rfl) ki_X10_recipeOf kv_X10_recipeOf dL_recipeOf_4 rfl rfl (Nat.le_of_ble_eq_true rfl) (Nat.le_refl _) hC ?_
    refine Ev.i2l dL_recipeOf_7 rfl ?_
    refine Ev.last L1.2.2.1.1 (vin0 L1.2.2.1.2) dL_recipeOf_8 ?_
    rw [clamp0]
    refine Ev.goto (tgt := 15) dL_recipeOf_9 (by decide) ?_
    refine Ei.const dL_recipeOf_15 ?_
    exact Ev.iret rfl rfl dL_recipeOf_16
  · rw [e] at hC
    have z1 : (f_recipeOf a v).2 0 0 = 1 := by omega
    rw [z1]
    refine ⟨τ, A2, B2, Ct.ofH (by decide +kernel) k_L_recipeOf (Nat.le_of_ble_eq_true rfl) (by simp [Value.category, va_rf]) ?_, L1, hV2, e13, fun q => by omega⟩
    refine Ev.aload_n (i := 2) dL_recipeOf_0 rfl rfl ?_
    refine Ei.const dL_recipeOf_1 ?_
    refine Ev.aload_n (i := 0) dL_recipeOf_2 rfl rfl ?_
    refine Ev.iload_n (i := 1) dL_recipeOf_3 rfl rfl ?_
    have hp : ∀ z ∈ ([] : List (Nat × Nat × Nat × Nat)), z.2.2.2 ≠ 0 ∧ ∃ nm, Cond.classLink m_L_recipeOf.y.cls z.2.2.2 nm ∈ lw_tbl ∧ xcp nm ∧ xIOB ≠ nm := fun z hz => by
      cases hz
    refine Ev.callVc (ci := 13) (C := RX10) (T := TX10) (N := 12) (As := [_]) (E := xIOB) (pre := []) (suf := []) (xa := 0) (xb := 9) (xh := 12) (xt := 40) hN (Or.inr (Or.inr (Or.inr (Or.inl rfl)))) k_X10_recipeOf rfl kd13 (tb6 (i := 125) rfl) ki_X10_recipeOf kv_X10_recipeOf dL_recipeOf_4 rfl rfl (Nat.le_of_ble_eq_true rfl) (Nat.le_refl _) rfl (by decide) (by decide) hp (tb3 (i := 52) rfl) (tb3 (i := 64) rfl) hC (fun q => ?_)
    refine Ev.astore_n (i := 3) dL_recipeOf_12 rfl (by decide) ?_
    refine Ei.const dL_recipeOf_13 ?_
    exact Ev.iret rfl rfl dL_recipeOf_14
def m_L_generation : Mt := (yL_generation, cL_generation, 4, some .int, [(0, 9, 12, 40)])
theorem k_L_generation : cokH m_L_generation 3 := ⟨rfl, (tb6 (i := 136) rfl), (tb1 (i := 0) rfl), by decide, by decide +kernel, by decide⟩
theorem ki_L_generation : Cond.static m_L_generation.y ∈ lw_tbl := (tb6 (i := 135) rfl)
theorem cd_generation {a : Int} {v : Vw} (h : (0 : Int) ≤ v 0 0) : (f_generation a v).2 0 0 ≤ 1 := by
  unfold f_generation
  repeat' split
  all_goals first
    | (simp [f_fails, upv, f_adds]; done)
    | exact Int.le_trans (cd_one _ _) (by decide)
    | (rw [fr_starts 0 0 (by decide)]; simp [upv]; done)
    | (show f_starts _ _ _ 0 0 ≤ _; rw [fr_starts 0 0 (by decide)]; simp [upv]; done)
theorem w_generation {X : Cx} {σ : Hp} {A : Nat → Int → Nat} {c : Cs} {B : Int → Nat} {m0 oL oD : Nat} {v : Vw} {T E a : Int} (hN : KN X) (hL : LW X σ A c B m0 oL oD v) (hV : INV c v) (hI : IM v T E) (ha : R32 a) :
    ∃ τ A' B', Ct X m_L_generation 8 [va_rf (some (A 13 0)), .int (i32 a), va_rf (some oL)] σ (.inl (some (.int (i32 ((f_generation a v).2 0 0))))) τ ∧ LW X τ A' (g_X10_generation a c).2 B' m0 oL oD v ∧ INV (g_X10_generation a c).2 (f_generation a v).2 ∧ A' 13 0 = A 13 0 ∧ ((f_generation a v).2 0 0 = 0 → τ.lv oL 0 = (i32 (f_generation a v).1).toInt64) := by
  obtain ⟨ok, hA, hV2⟩ := fc_generation hV hI ha
  have cd := cd_generation (a := a) (v := v) (hI.2 0 0).1
  obtain ⟨τ, A2, B2, hC, hS, hE2, hw⟩ := s_X10_generation (X := X) (ρ := σ) ok A σ B hL.1 (ws2 hL.1.2)
  obtain ⟨L1, l2, l3⟩ := hL.call hS
  have e13 := (hE2 13 0 (rg13 hL.1.2)).1
  have kd13 : σ.kd (A 13 0) = 14 := hL.1.1.kd (rg13 hL.1.2)
  rcases hA with ⟨z, e⟩ | ⟨z, e⟩
  · rw [e] at hC
    rw [z]
    refine ⟨τ.setL oL 0 (i32 (f_generation a v).1).toInt64, A2, B2, Ct.ofH (by decide +kernel) k_L_generation (Nat.le_of_ble_eq_true rfl) (by simp [Value.category, va_rf]) ?_, L1.setL _ _, hV2, e13, fun _ => up2_eq _ _ _ _⟩
    refine Ev.aload_n (i := 2) dL_generation_0 rfl rfl ?_
    refine Ei.const dL_generation_1 ?_
    refine Ev.aload_n (i := 0) dL_generation_2 rfl rfl ?_
    refine Ev.iload_n (i := 1) dL_generation_3 rfl rfl ?_
    refine Ev.callV (ci := 13) (C := RX10) (T := TX10) (N := 12) (As := [_]) (v := some (.int (i32 (f_generation a v).1))) k_X10_generation rfl kd13 (tb6 (i := 137) rfl) ki_X10_generation kv_X10_generation dL_generation_4 rfl rfl (Nat.le_of_ble_eq_true rfl) (Nat.le_refl _) hC ?_
    refine Ev.i2l dL_generation_7 rfl ?_
    refine Ev.last L1.2.2.1.1 (vin0 L1.2.2.1.2) dL_generation_8 ?_
    rw [clamp0]
    refine Ev.goto (tgt := 15) dL_generation_9 (by decide) ?_
    refine Ei.const dL_generation_15 ?_
    exact Ev.iret rfl rfl dL_generation_16
  · rw [e] at hC
    have z1 : (f_generation a v).2 0 0 = 1 := by omega
    rw [z1]
    refine ⟨τ, A2, B2, Ct.ofH (by decide +kernel) k_L_generation (Nat.le_of_ble_eq_true rfl) (by simp [Value.category, va_rf]) ?_, L1, hV2, e13, fun q => by omega⟩
    refine Ev.aload_n (i := 2) dL_generation_0 rfl rfl ?_
    refine Ei.const dL_generation_1 ?_
    refine Ev.aload_n (i := 0) dL_generation_2 rfl rfl ?_
    refine Ev.iload_n (i := 1) dL_generation_3 rfl rfl ?_
    have hp : ∀ z ∈ ([] : List (Nat × Nat × Nat × Nat)), z.2.2.2 ≠ 0 ∧ ∃ nm, Cond.classLink m_L_generation.y.cls z.2.2.2 nm ∈ lw_tbl ∧ xcp nm ∧ xIOB ≠ nm := fun z hz => by
      cases hz
    refine Ev.callVc (ci := 13) (C := RX10) (T := TX10) (N := 12) (As := [_]) (E := xIOB) (pre := []) (suf := []) (xa := 0) (xb := 9) (xh := 12) (xt := 40) hN (Or.inr (Or.inr (Or.inr (Or.inl rfl)))) k_X10_generation rfl kd13 (tb6 (i := 137) rfl) ki_X10_generation kv_X10_generation dL_generation_4 rfl rfl (Nat.le_of_ble_eq_true rfl) (Nat.le_refl _) rfl (by decide) (by decide) hp (tb3 (i := 52) rfl) (tb3 (i := 64) rfl) hC (fun q => ?_)
    refine Ev.astore_n (i := 3) dL_generation_12 rfl (by decide) ?_
    refine Ei.const dL_generation_13 ?_
    exact Ev.iret rfl rfl dL_generation_14
def m_L_stage : Mt := (yL_stage, cL_stage, 4, some .int, [(0, 9, 12, 40)])
theorem k_L_stage : cokH m_L_stage 3 := ⟨rfl, (tb6 (i := 143) rfl), (tb1 (i := 0) rfl), by decide, by decide +kernel, by decide⟩
theorem ki_L_stage : Cond.static m_L_stage.y ∈ lw_tbl := (tb6 (i := 142) rfl)
theorem cd_stage {a : Int} {v : Vw} (h : (0 : Int) ≤ v 0 0) : (f_stage a v).2 0 0 ≤ 1 := by
  unfold f_stage
  repeat' split
  all_goals first
    | (simp [f_fails, upv, f_adds]; done)
    | exact Int.le_trans (cd_one _ _) (by decide)
    | (rw [fr_starts 0 0 (by decide)]; simp [upv]; done)
    | (show f_starts _ _ _ 0 0 ≤ _; rw [fr_starts 0 0 (by decide)]; simp [upv]; done)
theorem w_stage {X : Cx} {σ : Hp} {A : Nat → Int → Nat} {c : Cs} {B : Int → Nat} {m0 oL oD : Nat} {v : Vw} {T E a : Int} (hN : KN X) (hL : LW X σ A c B m0 oL oD v) (hV : INV c v) (hI : IM v T E) (ha : R32 a) :
    ∃ τ A' B', Ct X m_L_stage 8 [va_rf (some (A 13 0)), .int (i32 a), va_rf (some oL)] σ (.inl (some (.int (i32 ((f_stage a v).2 0 0))))) τ ∧ LW X τ A' (g_X10_stage a c).2 B' m0 oL oD v ∧ INV (g_X10_stage a c).2 (f_stage a v).2 ∧ A' 13 0 = A 13 0 ∧ ((f_stage a v).2 0 0 = 0 → τ.lv oL 0 = (i32 (f_stage a v).1).toInt64) := by
  obtain ⟨ok, hA, hV2⟩ := fc_stage hV hI ha
  have cd := cd_stage (a := a) (v := v) (hI.2 0 0).1
  obtain ⟨τ, A2, B2, hC, hS, hE2, hw⟩ := s_X10_stage (X := X) (ρ := σ) ok A σ B hL.1 (ws2 hL.1.2)
  obtain ⟨L1, l2, l3⟩ := hL.call hS
  have e13 := (hE2 13 0 (rg13 hL.1.2)).1
  have kd13 : σ.kd (A 13 0) = 14 := hL.1.1.kd (rg13 hL.1.2)
  rcases hA with ⟨z, e⟩ | ⟨z, e⟩
  · rw [e] at hC
    rw [z]
    refine ⟨τ.setL oL 0 (i32 (f_stage a v).1).toInt64, A2, B2, Ct.ofH (by decide +kernel) k_L_stage (Nat.le_of_ble_eq_true rfl) (by simp [Value.category, va_rf]) ?_, L1.setL _ _, hV2, e13, fun _ => up2_eq _ _ _ _⟩
    refine Ev.aload_n (i := 2) dL_stage_0 rfl rfl ?_
    refine Ei.const dL_stage_1 ?_
    refine Ev.aload_n (i := 0) dL_stage_2 rfl rfl ?_
    refine Ev.iload_n (i := 1) dL_stage_3 rfl rfl ?_
    refine Ev.callV (ci := 13) (C := RX10) (T := TX10) (N := 12) (As := [_]) (v := some (.int (i32 (f_stage a v).1))) k_X10_stage rfl kd13 (tb6 (i := 144) rfl) ki_X10_stage kv_X10_stage dL_stage_4 rfl rfl (Nat.le_of_ble_eq_true rfl) (Nat.le_refl _) hC ?_
    refine Ev.i2l dL_stage_7 rfl ?_
    refine Ev.last L1.2.2.1.1 (vin0 L1.2.2.1.2) dL_stage_8 ?_
    rw [clamp0]
    refine Ev.goto (tgt := 15) dL_stage_9 (by decide) ?_
    refine Ei.const dL_stage_15 ?_
    exact Ev.iret rfl rfl dL_stage_16
  · rw [e] at hC
    have z1 : (f_stage a v).2 0 0 = 1 := by omega
    rw [z1]
    refine ⟨τ, A2, B2, Ct.ofH (by decide +kernel) k_L_stage (Nat.le_of_ble_eq_true rfl) (by simp [Value.category, va_rf]) ?_, L1, hV2, e13, fun q => by omega⟩
    refine Ev.aload_n (i := 2) dL_stage_0 rfl rfl ?_
    refine Ei.const dL_stage_1 ?_
    refine Ev.aload_n (i := 0) dL_stage_2 rfl rfl ?_
    refine Ev.iload_n (i := 1) dL_stage_3 rfl rfl ?_
    have hp : ∀ z ∈ ([] : List (Nat × Nat × Nat × Nat)), z.2.2.2 ≠ 0 ∧ ∃ nm, Cond.classLink m_L_stage.y.cls z.2.2.2 nm ∈ lw_tbl ∧ xcp nm ∧ xIOB ≠ nm := fun z hz => by
      cases hz
    refine Ev.callVc (ci := 13) (C := RX10) (T := TX10) (N := 12) (As := [_]) (E := xIOB) (pre := []) (suf := []) (xa := 0) (xb := 9) (xh := 12) (xt := 40) hN (Or.inr (Or.inr (Or.inr (Or.inl rfl)))) k_X10_stage rfl kd13 (tb6 (i := 144) rfl) ki_X10_stage kv_X10_stage dL_stage_4 rfl rfl (Nat.le_of_ble_eq_true rfl) (Nat.le_refl _) rfl (by decide) (by decide) hp (tb3 (i := 52) rfl) (tb3 (i := 64) rfl) hC (fun q => ?_)
    refine Ev.astore_n (i := 3) dL_stage_12 rfl (by decide) ?_
    refine Ei.const dL_stage_13 ?_
    exact Ev.iret rfl rfl dL_stage_14
def m_L_vesselOf : Mt := (yL_vesselOf, cL_vesselOf, 4, some .int, [(0, 9, 12, 40), (0, 9, 15, 35)])
theorem k_L_vesselOf : cokH m_L_vesselOf 3 := ⟨rfl, (tb6 (i := 150) rfl), (tb1 (i := 0) rfl), by decide, by decide +kernel, by decide⟩
theorem ki_L_vesselOf : Cond.static m_L_vesselOf.y ∈ lw_tbl := (tb6 (i := 149) rfl)
theorem cd_vesselOf {a : Int} {v : Vw} (h : (0 : Int) ≤ v 0 0) : (f_vesselOf a v).2 0 0 ≤ 2 := by
  unfold f_vesselOf
  repeat' split
  all_goals first
    | (simp [f_fails, upv, f_adds]; done)
    | exact Int.le_trans (cd_one _ _) (by decide)
    | (rw [fr_starts 0 0 (by decide)]; simp [upv]; done)
    | (show f_starts _ _ _ 0 0 ≤ _; rw [fr_starts 0 0 (by decide)]; simp [upv]; done)
theorem w_vesselOf {X : Cx} {σ : Hp} {A : Nat → Int → Nat} {c : Cs} {B : Int → Nat} {m0 oL oD : Nat} {v : Vw} {T E a : Int} (hN : KN X) (hL : LW X σ A c B m0 oL oD v) (hV : INV c v) (hI : IM v T E) (ha : R32 a) :
    ∃ τ A' B', Ct X m_L_vesselOf 8 [va_rf (some (A 13 0)), .int (i32 a), va_rf (some oL)] σ (.inl (some (.int (i32 ((f_vesselOf a v).2 0 0))))) τ ∧ LW X τ A' (g_X10_vesselOf a c).2 B' m0 oL oD v ∧ INV (g_X10_vesselOf a c).2 (f_vesselOf a v).2 ∧ A' 13 0 = A 13 0 ∧ ((f_vesselOf a v).2 0 0 = 0 → τ.lv oL 0 = (i32 (f_vesselOf a v).1).toInt64) := by
  obtain ⟨ok, hA, hV2⟩ := fc_vesselOf hV hI ha
  have cd := cd_vesselOf (a := a) (v := v) (hI.2 0 0).1
  obtain ⟨τ, A2, B2, hC, hS, hE2, hw⟩ := s_X10_vesselOf (X := X) (ρ := σ) ok A σ B hL.1 (ws2 hL.1.2)
  obtain ⟨L1, l2, l3⟩ := hL.call hS
  have e13 := (hE2 13 0 (rg13 hL.1.2)).1
  have kd13 : σ.kd (A 13 0) = 14 := hL.1.1.kd (rg13 hL.1.2)
  rcases hA with ⟨z, e⟩ | ⟨z, e⟩
  · rw [e] at hC
    rw [z]
    refine ⟨τ.setL oL 0 (i32 (f_vesselOf a v).1).toInt64, A2, B2, Ct.ofH (by decide +kernel) k_L_vesselOf (Nat.le_of_ble_eq_true rfl) (by simp [Value.category, va_rf]) ?_, L1.setL _ _, hV2, e13, fun _ => up2_eq _ _ _ _⟩
    refine Ev.aload_n (i := 2) dL_vesselOf_0 rfl rfl ?_
    refine Ei.const dL_vesselOf_1 ?_
    refine Ev.aload_n (i := 0) dL_vesselOf_2 rfl rfl ?_
    refine Ev.iload_n (i := 1) dL_vesselOf_3 rfl rfl ?_
    refine Ev.callV (ci := 13) (C := RX10) (T := TX10) (N := 12) (As := [_]) (v := some (.int (i32 (f_vesselOf a v).1))) k_X10_vesselOf rfl kd13 (tb6 (i := 151) rfl) ki_X10_vesselOf kv_X10_vesselOf dL_vesselOf_4 rfl rfl (Nat.le_of_ble_eq_true rfl) (Nat.le_refl _) hC ?_
    refine Ev.i2l dL_vesselOf_7 rfl ?_
    refine Ev.last L1.2.2.1.1 (vin0 L1.2.2.1.2) dL_vesselOf_8 ?_
    rw [clamp0]
    refine Ev.goto (tgt := 18) dL_vesselOf_9 (by decide) ?_
    refine Ei.const dL_vesselOf_18 ?_
    exact Ev.iret rfl rfl dL_vesselOf_19
  · rw [e] at hC
    by_cases z1 : (f_vesselOf a v).2 0 0 = 1
    · rw [z1] at hC ⊢
      refine ⟨τ, A2, B2, Ct.ofH (by decide +kernel) k_L_vesselOf (Nat.le_of_ble_eq_true rfl) (by simp [Value.category, va_rf]) ?_, L1, hV2, e13, fun q => by omega⟩
      refine Ev.aload_n (i := 2) dL_vesselOf_0 rfl rfl ?_
      refine Ei.const dL_vesselOf_1 ?_
      refine Ev.aload_n (i := 0) dL_vesselOf_2 rfl rfl ?_
      refine Ev.iload_n (i := 1) dL_vesselOf_3 rfl rfl ?_
      have hp : ∀ z ∈ ([] : List (Nat × Nat × Nat × Nat)), z.2.2.2 ≠ 0 ∧ ∃ nm, Cond.classLink m_L_vesselOf.y.cls z.2.2.2 nm ∈ lw_tbl ∧ xcp nm ∧ xIOB ≠ nm := fun z hz => by
        cases hz
      refine Ev.callVc (ci := 13) (C := RX10) (T := TX10) (N := 12) (As := [_]) (E := xIOB) (pre := []) (suf := [(0, 9, 15, 35)]) (xa := 0) (xb := 9) (xh := 12) (xt := 40) hN (Or.inr (Or.inr (Or.inr (Or.inl rfl)))) k_X10_vesselOf rfl kd13 (tb6 (i := 151) rfl) ki_X10_vesselOf kv_X10_vesselOf dL_vesselOf_4 rfl rfl (Nat.le_of_ble_eq_true rfl) (Nat.le_refl _) rfl (by decide) (by decide) hp (tb3 (i := 52) rfl) (tb3 (i := 64) rfl) hC (fun q => ?_)
      refine Ev.astore_n (i := 3) dL_vesselOf_12 rfl (by decide) ?_
      refine Ei.const dL_vesselOf_13 ?_
      exact Ev.iret rfl rfl dL_vesselOf_14
    · have y1 := z1
      have z2 : (f_vesselOf a v).2 0 0 = 2 := by omega
      rw [z2] at hC ⊢
      refine ⟨τ, A2, B2, Ct.ofH (by decide +kernel) k_L_vesselOf (Nat.le_of_ble_eq_true rfl) (by simp [Value.category, va_rf]) ?_, L1, hV2, e13, fun q => by omega⟩
      refine Ev.aload_n (i := 2) dL_vesselOf_0 rfl rfl ?_
      refine Ei.const dL_vesselOf_1 ?_
      refine Ev.aload_n (i := 0) dL_vesselOf_2 rfl rfl ?_
      refine Ev.iload_n (i := 1) dL_vesselOf_3 rfl rfl ?_
      have hp : ∀ z ∈ ([(0, 9, 12, 40)] : List (Nat × Nat × Nat × Nat)), z.2.2.2 ≠ 0 ∧ ∃ nm, Cond.classLink m_L_vesselOf.y.cls z.2.2.2 nm ∈ lw_tbl ∧ xcp nm ∧ xNSE ≠ nm := fun z hz => by
        rcases List.mem_cons.mp hz with rfl | hz
        · exact ⟨by decide, _, (tb3 (i := 52) rfl), Or.inr (Or.inr (Or.inr (Or.inl rfl))), by decide⟩
        cases hz
      refine Ev.callVc (ci := 13) (C := RX10) (T := TX10) (N := 12) (As := [_]) (E := xNSE) (pre := [(0, 9, 12, 40)]) (suf := []) (xa := 0) (xb := 9) (xh := 15) (xt := 35) hN (Or.inr (Or.inr (Or.inl rfl))) k_X10_vesselOf rfl kd13 (tb6 (i := 151) rfl) ki_X10_vesselOf kv_X10_vesselOf dL_vesselOf_4 rfl rfl (Nat.le_of_ble_eq_true rfl) (Nat.le_refl _) rfl (by decide) (by decide) hp (tb3 (i := 16) rfl) (tb3 (i := 31) rfl) hC (fun q => ?_)
      refine Ev.astore_n (i := 3) dL_vesselOf_15 rfl (by decide) ?_
      refine Ei.const dL_vesselOf_16 ?_
      exact Ev.iret rfl rfl dL_vesselOf_17
def m_L_daysToGo : Mt := (yL_daysToGo, cL_daysToGo, 4, some .int, [(0, 9, 12, 40), (0, 9, 15, 35)])
theorem k_L_daysToGo : cokH m_L_daysToGo 3 := ⟨rfl, (tb6 (i := 158) rfl), (tb1 (i := 0) rfl), by decide, by decide +kernel, by decide⟩
theorem ki_L_daysToGo : Cond.static m_L_daysToGo.y ∈ lw_tbl := (tb6 (i := 157) rfl)
theorem cd_daysToGo {a : Int} {v : Vw} (h : (0 : Int) ≤ v 0 0) : (f_daysToGo a v).2 0 0 ≤ 2 := by
  unfold f_daysToGo
  repeat' split
  all_goals first
    | (simp [f_fails, upv, f_adds]; done)
    | exact Int.le_trans (cd_one _ _) (by decide)
    | (rw [fr_starts 0 0 (by decide)]; simp [upv]; done)
    | (show f_starts _ _ _ 0 0 ≤ _; rw [fr_starts 0 0 (by decide)]; simp [upv]; done)
theorem w_daysToGo {X : Cx} {σ : Hp} {A : Nat → Int → Nat} {c : Cs} {B : Int → Nat} {m0 oL oD : Nat} {v : Vw} {T E a : Int} (hN : KN X) (hL : LW X σ A c B m0 oL oD v) (hV : INV c v) (hI : IM v T E) (ha : R32 a) :
    ∃ τ A' B', Ct X m_L_daysToGo 8 [va_rf (some (A 13 0)), .int (i32 a), va_rf (some oL)] σ (.inl (some (.int (i32 ((f_daysToGo a v).2 0 0))))) τ ∧ LW X τ A' (g_X10_daysToGo a c).2 B' m0 oL oD v ∧ INV (g_X10_daysToGo a c).2 (f_daysToGo a v).2 ∧ A' 13 0 = A 13 0 ∧ ((f_daysToGo a v).2 0 0 = 0 → τ.lv oL 0 = (i32 (f_daysToGo a v).1).toInt64) := by
  obtain ⟨ok, hA, hV2⟩ := fc_daysToGo hV hI ha
  have cd := cd_daysToGo (a := a) (v := v) (hI.2 0 0).1
  obtain ⟨τ, A2, B2, hC, hS, hE2, hw⟩ := s_X10_daysToGo (X := X) (ρ := σ) ok A σ B hL.1 (ws2 hL.1.2)
  obtain ⟨L1, l2, l3⟩ := hL.call hS
  have e13 := (hE2 13 0 (rg13 hL.1.2)).1
  have kd13 : σ.kd (A 13 0) = 14 := hL.1.1.kd (rg13 hL.1.2)
  rcases hA with ⟨z, e⟩ | ⟨z, e⟩
  · rw [e] at hC
    rw [z]
    refine ⟨τ.setL oL 0 (i32 (f_daysToGo a v).1).toInt64, A2, B2, Ct.ofH (by decide +kernel) k_L_daysToGo (Nat.le_of_ble_eq_true rfl) (by simp [Value.category, va_rf]) ?_, L1.setL _ _, hV2, e13, fun _ => up2_eq _ _ _ _⟩
    refine Ev.aload_n (i := 2) dL_daysToGo_0 rfl rfl ?_
    refine Ei.const dL_daysToGo_1 ?_
    refine Ev.aload_n (i := 0) dL_daysToGo_2 rfl rfl ?_
    refine Ev.iload_n (i := 1) dL_daysToGo_3 rfl rfl ?_
    refine Ev.callV (ci := 13) (C := RX10) (T := TX10) (N := 12) (As := [_]) (v := some (.int (i32 (f_daysToGo a v).1))) k_X10_daysToGo rfl kd13 (tb6 (i := 159) rfl) ki_X10_daysToGo kv_X10_daysToGo dL_daysToGo_4 rfl rfl (Nat.le_of_ble_eq_true rfl) (Nat.le_refl _) hC ?_
    refine Ev.i2l dL_daysToGo_7 rfl ?_
    refine Ev.last L1.2.2.1.1 (vin0 L1.2.2.1.2) dL_daysToGo_8 ?_
    rw [clamp0]
    refine Ev.goto (tgt := 18) dL_daysToGo_9 (by decide) ?_
    refine Ei.const dL_daysToGo_18 ?_
    exact Ev.iret rfl rfl dL_daysToGo_19
  · rw [e] at hC
    by_cases z1 : (f_daysToGo a v).2 0 0 = 1
    · rw [z1] at hC ⊢
      refine ⟨τ, A2, B2, Ct.ofH (by decide +kernel) k_L_daysToGo (Nat.le_of_ble_eq_true rfl) (by simp [Value.category, va_rf]) ?_, L1, hV2, e13, fun q => by omega⟩
      refine Ev.aload_n (i := 2) dL_daysToGo_0 rfl rfl ?_
      refine Ei.const dL_daysToGo_1 ?_
      refine Ev.aload_n (i := 0) dL_daysToGo_2 rfl rfl ?_
      refine Ev.iload_n (i := 1) dL_daysToGo_3 rfl rfl ?_
      have hp : ∀ z ∈ ([] : List (Nat × Nat × Nat × Nat)), z.2.2.2 ≠ 0 ∧ ∃ nm, Cond.classLink m_L_daysToGo.y.cls z.2.2.2 nm ∈ lw_tbl ∧ xcp nm ∧ xIOB ≠ nm := fun z hz => by
        cases hz
      refine Ev.callVc (ci := 13) (C := RX10) (T := TX10) (N := 12) (As := [_]) (E := xIOB) (pre := []) (suf := [(0, 9, 15, 35)]) (xa := 0) (xb := 9) (xh := 12) (xt := 40) hN (Or.inr (Or.inr (Or.inr (Or.inl rfl)))) k_X10_daysToGo rfl kd13 (tb6 (i := 159) rfl) ki_X10_daysToGo kv_X10_daysToGo dL_daysToGo_4 rfl rfl (Nat.le_of_ble_eq_true rfl) (Nat.le_refl _) rfl (by decide) (by decide) hp (tb3 (i := 52) rfl) (tb3 (i := 64) rfl) hC (fun q => ?_)
      refine Ev.astore_n (i := 3) dL_daysToGo_12 rfl (by decide) ?_
      refine Ei.const dL_daysToGo_13 ?_
      exact Ev.iret rfl rfl dL_daysToGo_14
    · have y1 := z1
      have z2 : (f_daysToGo a v).2 0 0 = 2 := by omega
      rw [z2] at hC ⊢
      refine ⟨τ, A2, B2, Ct.ofH (by decide +kernel) k_L_daysToGo (Nat.le_of_ble_eq_true rfl) (by simp [Value.category, va_rf]) ?_, L1, hV2, e13, fun q => by omega⟩
      refine Ev.aload_n (i := 2) dL_daysToGo_0 rfl rfl ?_
      refine Ei.const dL_daysToGo_1 ?_
      refine Ev.aload_n (i := 0) dL_daysToGo_2 rfl rfl ?_
      refine Ev.iload_n (i := 1) dL_daysToGo_3 rfl rfl ?_
      have hp : ∀ z ∈ ([(0, 9, 12, 40)] : List (Nat × Nat × Nat × Nat)), z.2.2.2 ≠ 0 ∧ ∃ nm, Cond.classLink m_L_daysToGo.y.cls z.2.2.2 nm ∈ lw_tbl ∧ xcp nm ∧ xNSE ≠ nm := fun z hz => by
        rcases List.mem_cons.mp hz with rfl | hz
        · exact ⟨by decide, _, (tb3 (i := 52) rfl), Or.inr (Or.inr (Or.inr (Or.inl rfl))), by decide⟩
        cases hz
      refine Ev.callVc (ci := 13) (C := RX10) (T := TX10) (N := 12) (As := [_]) (E := xNSE) (pre := [(0, 9, 12, 40)]) (suf := []) (xa := 0) (xb := 9) (xh := 15) (xt := 35) hN (Or.inr (Or.inr (Or.inl rfl))) k_X10_daysToGo rfl kd13 (tb6 (i := 159) rfl) ki_X10_daysToGo kv_X10_daysToGo dL_daysToGo_4 rfl rfl (Nat.le_of_ble_eq_true rfl) (Nat.le_refl _) rfl (by decide) (by decide) hp (tb3 (i := 16) rfl) (tb3 (i := 31) rfl) hC (fun q => ?_)
      refine Ev.astore_n (i := 3) dL_daysToGo_15 rfl (by decide) ?_
      refine Ei.const dL_daysToGo_16 ?_
      exact Ev.iret rfl rfl dL_daysToGo_17
def m_L_stock : Mt := (yL_stock, cL_stock, 4, some .int, [(0, 9, 12, 40)])
theorem k_L_stock : cokH m_L_stock 3 := ⟨rfl, (tb6 (i := 166) rfl), (tb1 (i := 0) rfl), by decide, by decide +kernel, by decide⟩
theorem ki_L_stock : Cond.static m_L_stock.y ∈ lw_tbl := (tb6 (i := 165) rfl)
theorem cd_stock {a : Int} {v : Vw} (h : (0 : Int) ≤ v 0 0) : (f_stock a v).2 0 0 ≤ 1 := by
  exact cd_stk a v
theorem w_stock {X : Cx} {σ : Hp} {A : Nat → Int → Nat} {c : Cs} {B : Int → Nat} {m0 oL oD : Nat} {v : Vw} {T E a : Int} (hN : KN X) (hL : LW X σ A c B m0 oL oD v) (hV : INV c v) (hI : IM v T E) (ha : R32 a) :
    ∃ τ A' B', Ct X m_L_stock 8 [va_rf (some (A 13 0)), .int (i32 a), va_rf (some oL)] σ (.inl (some (.int (i32 ((f_stock a v).2 0 0))))) τ ∧ LW X τ A' (g_X10_stock a c).2 B' m0 oL oD v ∧ INV (g_X10_stock a c).2 (f_stock a v).2 ∧ A' 13 0 = A 13 0 ∧ ((f_stock a v).2 0 0 = 0 → τ.lv oL 0 = (i32 (f_stock a v).1).toInt64) := by
  obtain ⟨ok, hA, hV2⟩ := fc_stock hV hI ha
  have cd := cd_stock (a := a) (v := v) (hI.2 0 0).1
  obtain ⟨τ, A2, B2, hC, hS, hE2, hw⟩ := s_X10_stock (X := X) (ρ := σ) ok A σ B hL.1 (ws2 hL.1.2)
  obtain ⟨L1, l2, l3⟩ := hL.call hS
  have e13 := (hE2 13 0 (rg13 hL.1.2)).1
  have kd13 : σ.kd (A 13 0) = 14 := hL.1.1.kd (rg13 hL.1.2)
  rcases hA with ⟨z, e⟩ | ⟨z, e⟩
  · rw [e] at hC
    rw [z]
    refine ⟨τ.setL oL 0 (i32 (f_stock a v).1).toInt64, A2, B2, Ct.ofH (by decide +kernel) k_L_stock (Nat.le_of_ble_eq_true rfl) (by simp [Value.category, va_rf]) ?_, L1.setL _ _, hV2, e13, fun _ => up2_eq _ _ _ _⟩
    refine Ev.aload_n (i := 2) dL_stock_0 rfl rfl ?_
    refine Ei.const dL_stock_1 ?_
    refine Ev.aload_n (i := 0) dL_stock_2 rfl rfl ?_
    refine Ev.iload_n (i := 1) dL_stock_3 rfl rfl ?_
    refine Ev.callV (ci := 13) (C := RX10) (T := TX10) (N := 12) (As := [_]) (v := some (.int (i32 (f_stock a v).1))) k_X10_stock rfl kd13 (tb6 (i := 167) rfl) ki_X10_stock kv_X10_stock dL_stock_4 rfl rfl (Nat.le_of_ble_eq_true rfl) (Nat.le_refl _) hC ?_
    refine Ev.i2l dL_stock_7 rfl ?_
    refine Ev.last L1.2.2.1.1 (vin0 L1.2.2.1.2) dL_stock_8 ?_
    rw [clamp0]
    refine Ev.goto (tgt := 15) dL_stock_9 (by decide) ?_
    refine Ei.const dL_stock_15 ?_
    exact Ev.iret rfl rfl dL_stock_16
  · rw [e] at hC
    have z1 : (f_stock a v).2 0 0 = 1 := by omega
    rw [z1]
    refine ⟨τ, A2, B2, Ct.ofH (by decide +kernel) k_L_stock (Nat.le_of_ble_eq_true rfl) (by simp [Value.category, va_rf]) ?_, L1, hV2, e13, fun q => by omega⟩
    refine Ev.aload_n (i := 2) dL_stock_0 rfl rfl ?_
    refine Ei.const dL_stock_1 ?_
    refine Ev.aload_n (i := 0) dL_stock_2 rfl rfl ?_
    refine Ev.iload_n (i := 1) dL_stock_3 rfl rfl ?_
    have hp : ∀ z ∈ ([] : List (Nat × Nat × Nat × Nat)), z.2.2.2 ≠ 0 ∧ ∃ nm, Cond.classLink m_L_stock.y.cls z.2.2.2 nm ∈ lw_tbl ∧ xcp nm ∧ xIOB ≠ nm := fun z hz => by
      cases hz
    refine Ev.callVc (ci := 13) (C := RX10) (T := TX10) (N := 12) (As := [_]) (E := xIOB) (pre := []) (suf := []) (xa := 0) (xb := 9) (xh := 12) (xt := 40) hN (Or.inr (Or.inr (Or.inr (Or.inl rfl)))) k_X10_stock rfl kd13 (tb6 (i := 167) rfl) ki_X10_stock kv_X10_stock dL_stock_4 rfl rfl (Nat.le_of_ble_eq_true rfl) (Nat.le_refl _) rfl (by decide) (by decide) hp (tb3 (i := 52) rfl) (tb3 (i := 64) rfl) hC (fun q => ?_)
    refine Ev.astore_n (i := 3) dL_stock_12 rfl (by decide) ?_
    refine Ei.const dL_stock_13 ?_
    exact Ev.iret rfl rfl dL_stock_14
def m_L_stockByDeliveries : Mt := (yL_stockByDeliveries, cL_stockByDeliveries, 4, some .int, [(0, 9, 12, 40)])
theorem k_L_stockByDeliveries : cokH m_L_stockByDeliveries 3 := ⟨rfl, (tb6 (i := 173) rfl), (tb1 (i := 0) rfl), by decide, by decide +kernel, by decide⟩
theorem ki_L_stockByDeliveries : Cond.static m_L_stockByDeliveries.y ∈ lw_tbl := (tb6 (i := 172) rfl)
theorem cd_stockByDeliveries {a : Int} {v : Vw} (h : (0 : Int) ≤ v 0 0) : (f_stockByDeliveries a v).2 0 0 ≤ 1 := by
  exact cd_stk a v
theorem w_stockByDeliveries {X : Cx} {σ : Hp} {A : Nat → Int → Nat} {c : Cs} {B : Int → Nat} {m0 oL oD : Nat} {v : Vw} {T E a : Int} (hN : KN X) (hL : LW X σ A c B m0 oL oD v) (hV : INV c v) (hI : IM v T E) (ha : R32 a) :
    ∃ τ A' B', Ct X m_L_stockByDeliveries 8 [va_rf (some (A 13 0)), .int (i32 a), va_rf (some oL)] σ (.inl (some (.int (i32 ((f_stockByDeliveries a v).2 0 0))))) τ ∧ LW X τ A' (g_X10_stockByDeliveries a c).2 B' m0 oL oD v ∧ INV (g_X10_stockByDeliveries a c).2 (f_stockByDeliveries a v).2 ∧ A' 13 0 = A 13 0 ∧ ((f_stockByDeliveries a v).2 0 0 = 0 → τ.lv oL 0 = (i32 (f_stockByDeliveries a v).1).toInt64) := by
  obtain ⟨ok, hA, hV2⟩ := fc_stockByDeliveries hV hI ha
  have cd := cd_stockByDeliveries (a := a) (v := v) (hI.2 0 0).1
  obtain ⟨τ, A2, B2, hC, hS, hE2, hw⟩ := s_X10_stockByDeliveries (X := X) (ρ := σ) ok A σ B hL.1 (ws2 hL.1.2)
  obtain ⟨L1, l2, l3⟩ := hL.call hS
  have e13 := (hE2 13 0 (rg13 hL.1.2)).1
  have kd13 : σ.kd (A 13 0) = 14 := hL.1.1.kd (rg13 hL.1.2)
  rcases hA with ⟨z, e⟩ | ⟨z, e⟩
  · rw [e] at hC
    rw [z]
    refine ⟨τ.setL oL 0 (i32 (f_stockByDeliveries a v).1).toInt64, A2, B2, Ct.ofH (by decide +kernel) k_L_stockByDeliveries (Nat.le_of_ble_eq_true rfl) (by simp [Value.category, va_rf]) ?_, L1.setL _ _, hV2, e13, fun _ => up2_eq _ _ _ _⟩
    refine Ev.aload_n (i := 2) dL_stockByDeliveries_0 rfl rfl ?_
    refine Ei.const dL_stockByDeliveries_1 ?_
    refine Ev.aload_n (i := 0) dL_stockByDeliveries_2 rfl rfl ?_
    refine Ev.iload_n (i := 1) dL_stockByDeliveries_3 rfl rfl ?_
    refine Ev.callV (ci := 13) (C := RX10) (T := TX10) (N := 12) (As := [_]) (v := some (.int (i32 (f_stockByDeliveries a v).1))) k_X10_stockByDeliveries rfl kd13 (tb6 (i := 174) rfl) ki_X10_stockByDeliveries kv_X10_stockByDeliveries dL_stockByDeliveries_4 rfl rfl (Nat.le_of_ble_eq_true rfl) (Nat.le_refl _) hC ?_
    refine Ev.i2l dL_stockByDeliveries_7 rfl ?_
    refine Ev.last L1.2.2.1.1 (vin0 L1.2.2.1.2) dL_stockByDeliveries_8 ?_
    rw [clamp0]
    refine Ev.goto (tgt := 15) dL_stockByDeliveries_9 (by decide) ?_
    refine Ei.const dL_stockByDeliveries_15 ?_
    exact Ev.iret rfl rfl dL_stockByDeliveries_16
  · rw [e] at hC
    have z1 : (f_stockByDeliveries a v).2 0 0 = 1 := by omega
    rw [z1]
    refine ⟨τ, A2, B2, Ct.ofH (by decide +kernel) k_L_stockByDeliveries (Nat.le_of_ble_eq_true rfl) (by simp [Value.category, va_rf]) ?_, L1, hV2, e13, fun q => by omega⟩
    refine Ev.aload_n (i := 2) dL_stockByDeliveries_0 rfl rfl ?_
    refine Ei.const dL_stockByDeliveries_1 ?_
    refine Ev.aload_n (i := 0) dL_stockByDeliveries_2 rfl rfl ?_
    refine Ev.iload_n (i := 1) dL_stockByDeliveries_3 rfl rfl ?_
    have hp : ∀ z ∈ ([] : List (Nat × Nat × Nat × Nat)), z.2.2.2 ≠ 0 ∧ ∃ nm, Cond.classLink m_L_stockByDeliveries.y.cls z.2.2.2 nm ∈ lw_tbl ∧ xcp nm ∧ xIOB ≠ nm := fun z hz => by
      cases hz
    refine Ev.callVc (ci := 13) (C := RX10) (T := TX10) (N := 12) (As := [_]) (E := xIOB) (pre := []) (suf := []) (xa := 0) (xb := 9) (xh := 12) (xt := 40) hN (Or.inr (Or.inr (Or.inr (Or.inl rfl)))) k_X10_stockByDeliveries rfl kd13 (tb6 (i := 174) rfl) ki_X10_stockByDeliveries kv_X10_stockByDeliveries dL_stockByDeliveries_4 rfl rfl (Nat.le_of_ble_eq_true rfl) (Nat.le_refl _) rfl (by decide) (by decide) hp (tb3 (i := 52) rfl) (tb3 (i := 64) rfl) hC (fun q => ?_)
    refine Ev.astore_n (i := 3) dL_stockByDeliveries_12 rfl (by decide) ?_
    refine Ei.const dL_stockByDeliveries_13 ?_
    exact Ev.iret rfl rfl dL_stockByDeliveries_14
def m_L_deliveredBrew : Mt := (yL_deliveredBrew, cL_deliveredBrew, 4, some .int, [(0, 9, 12, 40)])
theorem k_L_deliveredBrew : cokH m_L_deliveredBrew 3 := ⟨rfl, (tb6 (i := 180) rfl), (tb1 (i := 0) rfl), by decide, by decide +kernel, by decide⟩
theorem ki_L_deliveredBrew : Cond.static m_L_deliveredBrew.y ∈ lw_tbl := (tb6 (i := 179) rfl)
theorem cd_deliveredBrew {a : Int} {v : Vw} (h : (0 : Int) ≤ v 0 0) : (f_deliveredBrew a v).2 0 0 ≤ 1 := by
  unfold f_deliveredBrew
  repeat' split
  all_goals first
    | (simp [f_fails, upv, f_adds]; done)
    | exact Int.le_trans (cd_one _ _) (by decide)
    | (rw [fr_starts 0 0 (by decide)]; simp [upv]; done)
    | (show f_starts _ _ _ 0 0 ≤ _; rw [fr_starts 0 0 (by decide)]; simp [upv]; done)
theorem w_deliveredBrew {X : Cx} {σ : Hp} {A : Nat → Int → Nat} {c : Cs} {B : Int → Nat} {m0 oL oD : Nat} {v : Vw} {T E a : Int} (hN : KN X) (hL : LW X σ A c B m0 oL oD v) (hV : INV c v) (hI : IM v T E) (ha : R32 a) :
    ∃ τ A' B', Ct X m_L_deliveredBrew 8 [va_rf (some (A 13 0)), .int (i32 a), va_rf (some oL)] σ (.inl (some (.int (i32 ((f_deliveredBrew a v).2 0 0))))) τ ∧ LW X τ A' (g_X10_deliveredBrew a c).2 B' m0 oL oD v ∧ INV (g_X10_deliveredBrew a c).2 (f_deliveredBrew a v).2 ∧ A' 13 0 = A 13 0 ∧ ((f_deliveredBrew a v).2 0 0 = 0 → τ.lv oL 0 = (i32 (f_deliveredBrew a v).1).toInt64) := by
  obtain ⟨ok, hA, hV2⟩ := fc_deliveredBrew hV hI ha
  have cd := cd_deliveredBrew (a := a) (v := v) (hI.2 0 0).1
  obtain ⟨τ, A2, B2, hC, hS, hE2, hw⟩ := s_X10_deliveredBrew (X := X) (ρ := σ) ok A σ B hL.1 (ws2 hL.1.2)
  obtain ⟨L1, l2, l3⟩ := hL.call hS
  have e13 := (hE2 13 0 (rg13 hL.1.2)).1
  have kd13 : σ.kd (A 13 0) = 14 := hL.1.1.kd (rg13 hL.1.2)
  rcases hA with ⟨z, e⟩ | ⟨z, e⟩
  · rw [e] at hC
    rw [z]
    refine ⟨τ.setL oL 0 (i32 (f_deliveredBrew a v).1).toInt64, A2, B2, Ct.ofH (by decide +kernel) k_L_deliveredBrew (Nat.le_of_ble_eq_true rfl) (by simp [Value.category, va_rf]) ?_, L1.setL _ _, hV2, e13, fun _ => up2_eq _ _ _ _⟩
    refine Ev.aload_n (i := 2) dL_deliveredBrew_0 rfl rfl ?_
    refine Ei.const dL_deliveredBrew_1 ?_
    refine Ev.aload_n (i := 0) dL_deliveredBrew_2 rfl rfl ?_
    refine Ev.iload_n (i := 1) dL_deliveredBrew_3 rfl rfl ?_
    refine Ev.callV (ci := 13) (C := RX10) (T := TX10) (N := 12) (As := [_]) (v := some (.int (i32 (f_deliveredBrew a v).1))) k_X10_deliveredBrew rfl kd13 (tb6 (i := 181) rfl) ki_X10_deliveredBrew kv_X10_deliveredBrew dL_deliveredBrew_4 rfl rfl (Nat.le_of_ble_eq_true rfl) (Nat.le_refl _) hC ?_
    refine Ev.i2l dL_deliveredBrew_7 rfl ?_
    refine Ev.last L1.2.2.1.1 (vin0 L1.2.2.1.2) dL_deliveredBrew_8 ?_
    rw [clamp0]
    refine Ev.goto (tgt := 15) dL_deliveredBrew_9 (by decide) ?_
    refine Ei.const dL_deliveredBrew_15 ?_
    exact Ev.iret rfl rfl dL_deliveredBrew_16
  · rw [e] at hC
    have z1 : (f_deliveredBrew a v).2 0 0 = 1 := by omega
    rw [z1]
    refine ⟨τ, A2, B2, Ct.ofH (by decide +kernel) k_L_deliveredBrew (Nat.le_of_ble_eq_true rfl) (by simp [Value.category, va_rf]) ?_, L1, hV2, e13, fun q => by omega⟩
    refine Ev.aload_n (i := 2) dL_deliveredBrew_0 rfl rfl ?_
    refine Ei.const dL_deliveredBrew_1 ?_
    refine Ev.aload_n (i := 0) dL_deliveredBrew_2 rfl rfl ?_
    refine Ev.iload_n (i := 1) dL_deliveredBrew_3 rfl rfl ?_
    have hp : ∀ z ∈ ([] : List (Nat × Nat × Nat × Nat)), z.2.2.2 ≠ 0 ∧ ∃ nm, Cond.classLink m_L_deliveredBrew.y.cls z.2.2.2 nm ∈ lw_tbl ∧ xcp nm ∧ xIOB ≠ nm := fun z hz => by
      cases hz
    refine Ev.callVc (ci := 13) (C := RX10) (T := TX10) (N := 12) (As := [_]) (E := xIOB) (pre := []) (suf := []) (xa := 0) (xb := 9) (xh := 12) (xt := 40) hN (Or.inr (Or.inr (Or.inr (Or.inl rfl)))) k_X10_deliveredBrew rfl kd13 (tb6 (i := 181) rfl) ki_X10_deliveredBrew kv_X10_deliveredBrew dL_deliveredBrew_4 rfl rfl (Nat.le_of_ble_eq_true rfl) (Nat.le_refl _) rfl (by decide) (by decide) hp (tb3 (i := 52) rfl) (tb3 (i := 64) rfl) hC (fun q => ?_)
    refine Ev.astore_n (i := 3) dL_deliveredBrew_12 rfl (by decide) ?_
    refine Ei.const dL_deliveredBrew_13 ?_
    exact Ev.iret rfl rfl dL_deliveredBrew_14
def m_L_deliveredOrder : Mt := (yL_deliveredOrder, cL_deliveredOrder, 4, some .int, [(0, 9, 12, 40)])
theorem k_L_deliveredOrder : cokH m_L_deliveredOrder 3 := ⟨rfl, (tb6 (i := 192) rfl), (tb1 (i := 0) rfl), by decide, by decide +kernel, by decide⟩
theorem ki_L_deliveredOrder : Cond.static m_L_deliveredOrder.y ∈ lw_tbl := (tb6 (i := 191) rfl)
theorem cd_deliveredOrder {a : Int} {v : Vw} (h : (0 : Int) ≤ v 0 0) : (f_deliveredOrder a v).2 0 0 ≤ 1 := by
  unfold f_deliveredOrder
  repeat' split
  all_goals first
    | (simp [f_fails, upv, f_adds]; done)
    | exact Int.le_trans (cd_one _ _) (by decide)
    | (rw [fr_starts 0 0 (by decide)]; simp [upv]; done)
    | (show f_starts _ _ _ 0 0 ≤ _; rw [fr_starts 0 0 (by decide)]; simp [upv]; done)
theorem w_deliveredOrder {X : Cx} {σ : Hp} {A : Nat → Int → Nat} {c : Cs} {B : Int → Nat} {m0 oL oD : Nat} {v : Vw} {T E a : Int} (hN : KN X) (hL : LW X σ A c B m0 oL oD v) (hV : INV c v) (hI : IM v T E) (ha : R32 a) :
    ∃ τ A' B', Ct X m_L_deliveredOrder 8 [va_rf (some (A 13 0)), .int (i32 a), va_rf (some oL)] σ (.inl (some (.int (i32 ((f_deliveredOrder a v).2 0 0))))) τ ∧ LW X τ A' (g_X10_deliveredOrder a c).2 B' m0 oL oD v ∧ INV (g_X10_deliveredOrder a c).2 (f_deliveredOrder a v).2 ∧ A' 13 0 = A 13 0 ∧ ((f_deliveredOrder a v).2 0 0 = 0 → τ.lv oL 0 = (i32 (f_deliveredOrder a v).1).toInt64) := by
  obtain ⟨ok, hA, hV2⟩ := fc_deliveredOrder hV hI ha
  have cd := cd_deliveredOrder (a := a) (v := v) (hI.2 0 0).1
  obtain ⟨τ, A2, B2, hC, hS, hE2, hw⟩ := s_X10_deliveredOrder (X := X) (ρ := σ) ok A σ B hL.1 (ws2 hL.1.2)
  obtain ⟨L1, l2, l3⟩ := hL.call hS
  have e13 := (hE2 13 0 (rg13 hL.1.2)).1
  have kd13 : σ.kd (A 13 0) = 14 := hL.1.1.kd (rg13 hL.1.2)
  rcases hA with ⟨z, e⟩ | ⟨z, e⟩
  · rw [e] at hC
    rw [z]
    refine ⟨τ.setL oL 0 (i32 (f_deliveredOrder a v).1).toInt64, A2, B2, Ct.ofH (by decide +kernel) k_L_deliveredOrder (Nat.le_of_ble_eq_true rfl) (by simp [Value.category, va_rf]) ?_, L1.setL _ _, hV2, e13, fun _ => up2_eq _ _ _ _⟩
    refine Ev.aload_n (i := 2) dL_deliveredOrder_0 rfl rfl ?_
    refine Ei.const dL_deliveredOrder_1 ?_
    refine Ev.aload_n (i := 0) dL_deliveredOrder_2 rfl rfl ?_
    refine Ev.iload_n (i := 1) dL_deliveredOrder_3 rfl rfl ?_
    refine Ev.callV (ci := 13) (C := RX10) (T := TX10) (N := 12) (As := [_]) (v := some (.int (i32 (f_deliveredOrder a v).1))) k_X10_deliveredOrder rfl kd13 (tb6 (i := 193) rfl) ki_X10_deliveredOrder kv_X10_deliveredOrder dL_deliveredOrder_4 rfl rfl (Nat.le_of_ble_eq_true rfl) (Nat.le_refl _) hC ?_
    refine Ev.i2l dL_deliveredOrder_7 rfl ?_
    refine Ev.last L1.2.2.1.1 (vin0 L1.2.2.1.2) dL_deliveredOrder_8 ?_
    rw [clamp0]
    refine Ev.goto (tgt := 15) dL_deliveredOrder_9 (by decide) ?_
    refine Ei.const dL_deliveredOrder_15 ?_
    exact Ev.iret rfl rfl dL_deliveredOrder_16
  · rw [e] at hC
    have z1 : (f_deliveredOrder a v).2 0 0 = 1 := by omega
    rw [z1]
    refine ⟨τ, A2, B2, Ct.ofH (by decide +kernel) k_L_deliveredOrder (Nat.le_of_ble_eq_true rfl) (by simp [Value.category, va_rf]) ?_, L1, hV2, e13, fun q => by omega⟩
    refine Ev.aload_n (i := 2) dL_deliveredOrder_0 rfl rfl ?_
    refine Ei.const dL_deliveredOrder_1 ?_
    refine Ev.aload_n (i := 0) dL_deliveredOrder_2 rfl rfl ?_
    refine Ev.iload_n (i := 1) dL_deliveredOrder_3 rfl rfl ?_
    have hp : ∀ z ∈ ([] : List (Nat × Nat × Nat × Nat)), z.2.2.2 ≠ 0 ∧ ∃ nm, Cond.classLink m_L_deliveredOrder.y.cls z.2.2.2 nm ∈ lw_tbl ∧ xcp nm ∧ xIOB ≠ nm := fun z hz => by
      cases hz
    refine Ev.callVc (ci := 13) (C := RX10) (T := TX10) (N := 12) (As := [_]) (E := xIOB) (pre := []) (suf := []) (xa := 0) (xb := 9) (xh := 12) (xt := 40) hN (Or.inr (Or.inr (Or.inr (Or.inl rfl)))) k_X10_deliveredOrder rfl kd13 (tb6 (i := 193) rfl) ki_X10_deliveredOrder kv_X10_deliveredOrder dL_deliveredOrder_4 rfl rfl (Nat.le_of_ble_eq_true rfl) (Nat.le_refl _) rfl (by decide) (by decide) hp (tb3 (i := 52) rfl) (tb3 (i := 64) rfl) hC (fun q => ?_)
    refine Ev.astore_n (i := 3) dL_deliveredOrder_12 rfl (by decide) ?_
    refine Ei.const dL_deliveredOrder_13 ?_
    exact Ev.iret rfl rfl dL_deliveredOrder_14
def m_L_deliveredUnits : Mt := (yL_deliveredUnits, cL_deliveredUnits, 4, some .int, [(0, 9, 12, 40)])
theorem k_L_deliveredUnits : cokH m_L_deliveredUnits 3 := ⟨rfl, (tb6 (i := 199) rfl), (tb1 (i := 0) rfl), by decide, by decide +kernel, by decide⟩
theorem ki_L_deliveredUnits : Cond.static m_L_deliveredUnits.y ∈ lw_tbl := (tb6 (i := 198) rfl)
theorem cd_deliveredUnits {a : Int} {v : Vw} (h : (0 : Int) ≤ v 0 0) : (f_deliveredUnits a v).2 0 0 ≤ 1 := by
  unfold f_deliveredUnits
  repeat' split
  all_goals first
    | (simp [f_fails, upv, f_adds]; done)
    | exact Int.le_trans (cd_one _ _) (by decide)
    | (rw [fr_starts 0 0 (by decide)]; simp [upv]; done)
    | (show f_starts _ _ _ 0 0 ≤ _; rw [fr_starts 0 0 (by decide)]; simp [upv]; done)
theorem w_deliveredUnits {X : Cx} {σ : Hp} {A : Nat → Int → Nat} {c : Cs} {B : Int → Nat} {m0 oL oD : Nat} {v : Vw} {T E a : Int} (hN : KN X) (hL : LW X σ A c B m0 oL oD v) (hV : INV c v) (hI : IM v T E) (ha : R32 a) :
    ∃ τ A' B', Ct X m_L_deliveredUnits 8 [va_rf (some (A 13 0)), .int (i32 a), va_rf (some oL)] σ (.inl (some (.int (i32 ((f_deliveredUnits a v).2 0 0))))) τ ∧ LW X τ A' (g_X10_deliveredUnits a c).2 B' m0 oL oD v ∧ INV (g_X10_deliveredUnits a c).2 (f_deliveredUnits a v).2 ∧ A' 13 0 = A 13 0 ∧ ((f_deliveredUnits a v).2 0 0 = 0 → τ.lv oL 0 = (i32 (f_deliveredUnits a v).1).toInt64) := by
  obtain ⟨ok, hA, hV2⟩ := fc_deliveredUnits hV hI ha
  have cd := cd_deliveredUnits (a := a) (v := v) (hI.2 0 0).1
  obtain ⟨τ, A2, B2, hC, hS, hE2, hw⟩ := s_X10_deliveredUnits (X := X) (ρ := σ) ok A σ B hL.1 (ws2 hL.1.2)
  obtain ⟨L1, l2, l3⟩ := hL.call hS
  have e13 := (hE2 13 0 (rg13 hL.1.2)).1
  have kd13 : σ.kd (A 13 0) = 14 := hL.1.1.kd (rg13 hL.1.2)
  rcases hA with ⟨z, e⟩ | ⟨z, e⟩
  · rw [e] at hC
    rw [z]
    refine ⟨τ.setL oL 0 (i32 (f_deliveredUnits a v).1).toInt64, A2, B2, Ct.ofH (by decide +kernel) k_L_deliveredUnits (Nat.le_of_ble_eq_true rfl) (by simp [Value.category, va_rf]) ?_, L1.setL _ _, hV2, e13, fun _ => up2_eq _ _ _ _⟩
    refine Ev.aload_n (i := 2) dL_deliveredUnits_0 rfl rfl ?_
    refine Ei.const dL_deliveredUnits_1 ?_
    refine Ev.aload_n (i := 0) dL_deliveredUnits_2 rfl rfl ?_
    refine Ev.iload_n (i := 1) dL_deliveredUnits_3 rfl rfl ?_
    refine Ev.callV (ci := 13) (C := RX10) (T := TX10) (N := 12) (As := [_]) (v := some (.int (i32 (f_deliveredUnits a v).1))) k_X10_deliveredUnits rfl kd13 (tb6 (i := 200) rfl) ki_X10_deliveredUnits kv_X10_deliveredUnits dL_deliveredUnits_4 rfl rfl (Nat.le_of_ble_eq_true rfl) (Nat.le_refl _) hC ?_
    refine Ev.i2l dL_deliveredUnits_7 rfl ?_
    refine Ev.last L1.2.2.1.1 (vin0 L1.2.2.1.2) dL_deliveredUnits_8 ?_
    rw [clamp0]
    refine Ev.goto (tgt := 15) dL_deliveredUnits_9 (by decide) ?_
    refine Ei.const dL_deliveredUnits_15 ?_
    exact Ev.iret rfl rfl dL_deliveredUnits_16
  · rw [e] at hC
    have z1 : (f_deliveredUnits a v).2 0 0 = 1 := by omega
    rw [z1]
    refine ⟨τ, A2, B2, Ct.ofH (by decide +kernel) k_L_deliveredUnits (Nat.le_of_ble_eq_true rfl) (by simp [Value.category, va_rf]) ?_, L1, hV2, e13, fun q => by omega⟩
    refine Ev.aload_n (i := 2) dL_deliveredUnits_0 rfl rfl ?_
    refine Ei.const dL_deliveredUnits_1 ?_
    refine Ev.aload_n (i := 0) dL_deliveredUnits_2 rfl rfl ?_
    refine Ev.iload_n (i := 1) dL_deliveredUnits_3 rfl rfl ?_
    have hp : ∀ z ∈ ([] : List (Nat × Nat × Nat × Nat)), z.2.2.2 ≠ 0 ∧ ∃ nm, Cond.classLink m_L_deliveredUnits.y.cls z.2.2.2 nm ∈ lw_tbl ∧ xcp nm ∧ xIOB ≠ nm := fun z hz => by
      cases hz
    refine Ev.callVc (ci := 13) (C := RX10) (T := TX10) (N := 12) (As := [_]) (E := xIOB) (pre := []) (suf := []) (xa := 0) (xb := 9) (xh := 12) (xt := 40) hN (Or.inr (Or.inr (Or.inr (Or.inl rfl)))) k_X10_deliveredUnits rfl kd13 (tb6 (i := 200) rfl) ki_X10_deliveredUnits kv_X10_deliveredUnits dL_deliveredUnits_4 rfl rfl (Nat.le_of_ble_eq_true rfl) (Nat.le_refl _) rfl (by decide) (by decide) hp (tb3 (i := 52) rfl) (tb3 (i := 64) rfl) hC (fun q => ?_)
    refine Ev.astore_n (i := 3) dL_deliveredUnits_12 rfl (by decide) ?_
    refine Ei.const dL_deliveredUnits_13 ?_
    exact Ev.iret rfl rfl dL_deliveredUnits_14
