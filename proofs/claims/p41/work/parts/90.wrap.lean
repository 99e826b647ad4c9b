/-! the law: its methods that catch (written by wip/p41/mk90.py) -/
theorem rg13 {c : Cs} (h : Fx0 c) : rg c 13 0 := ⟨⟨by decide, by decide⟩, Int.le_refl 0, by rw [h.1.2.1]; decide⟩
theorem ws1 {c : Cs} (h : Fx0 c) : WS c [(13, 0)] := fun x hx => by
  rcases List.mem_cons.mp hx with rfl | hx
  · exact wv_r (rg13 h)
  · cases hx
theorem ws2 {c : Cs} (h : Fx0 c) {a : Int} : WS c [(13, 0), (0, a)] := fun x hx => by
  rcases List.mem_cons.mp hx with rfl | hx
  · exact wv_r (rg13 h)
  · rcases List.mem_cons.mp hx with rfl | hx
    · exact wv_i
    · cases hx
theorem ws3 {c : Cs} (h : Fx0 c) {a b : Int} : WS c [(13, 0), (0, a), (0, b)] := fun x hx => by
  rcases List.mem_cons.mp hx with rfl | hx
  · exact wv_r (rg13 h)
  · rcases List.mem_cons.mp hx with rfl | hx
    · exact wv_i
    · rcases List.mem_cons.mp hx with rfl | hx
      · exact wv_i
      · cases hx
theorem ws4 {c : Cs} (h : Fx0 c) {a b e : Int} : WS c [(13, 0), (0, a), (0, b), (0, e)] := fun x hx => by
  rcases List.mem_cons.mp hx with rfl | hx
  · exact wv_r (rg13 h)
  · rcases List.mem_cons.mp hx with rfl | hx
    · exact wv_i
    · rcases List.mem_cons.mp hx with rfl | hx
      · exact wv_i
      · rcases List.mem_cons.mp hx with rfl | hx
        · exact wv_i
        · cases hx
theorem cd_one (a : Int) (v : Vw) : (f_isOne a v).2 0 0 ≤ 1 := by
  unfold f_isOne
  split <;> simp [upv]
theorem cd_can (v : Vw) : (f_canForecast v).2 0 0 ≤ 1 := by
  unfold f_canForecast
  repeat' split
  all_goals simp [upv]
theorem cd_stk (a : Int) (v : Vw) : (f_stock a v).2 0 0 ≤ 1 := by
  unfold f_stock
  split <;> exact cd_one _ _
theorem cd_l28 {a was : Int} (n : Nat) (k : Int) (v : Vw) (h : v 0 0 ≤ 1) : (l_pass_28 a was n k v).2 0 0 ≤ 1 := by
  rw [fr_l_pass_28 n k v 0 0 (by decide)]
  exact h
/-- what a call is told: its value, or the word for what it throws -/
def qc (cod : Int → Int) (p : Int × Vw) : Int := if p.2 0 0 = 0 then p.1 else cod (p.2 0 0)
theorem qc_v {cod : Int → Int} {p : Int × Vw} (h : p.2 0 0 = 0) : qc cod p = p.1 := if_pos h
theorem qc_x {cod : Int → Int} {p : Int × Vw} {k : Int} (h : p.2 0 0 = k) (hk : k ≠ 0) : qc cod p = cod k := by
  unfold qc
  rw [h, if_neg hk]
def m_L_addRecipe : Mt := (yL_addRecipe, cL_addRecipe, 5, some .int, [(0, 7, 8, 20), (0, 7, 13, 22)])
theorem k_L_addRecipe : cokH m_L_addRecipe 4 := ⟨rfl, (tb2 (i := 11) rfl), (tb1 (i := 0) rfl), by decide, by decide +kernel, by decide⟩
theorem ki_L_addRecipe : Cond.static m_L_addRecipe.y ∈ lw_tbl := (tb2 (i := 10) rfl)
def cod_addRecipe : Int → Int := fun k => if k = 1 then -78 else -79
theorem cd_addRecipe {a b f : Int} {v : Vw} (h : (0 : Int) ≤ v 0 0) : (f_addRecipe a b f v).2 0 0 ≤ 2 := by
  unfold f_addRecipe
  repeat' split
  all_goals first
    | (simp [f_fails, upv, f_adds]; done)
    | exact Int.le_trans (cd_one _ _) (by decide)
    | (rw [fr_starts 0 0 (by decide)]; simp [upv]; done)
    | (show f_starts _ _ _ 0 0 ≤ _; rw [fr_starts 0 0 (by decide)]; simp [upv]; done)
theorem w_addRecipe {X : Cx} {h : Nat} {v : Vw} {y x : Int} {n m : Nat} {R : List Ar} {T E a b f : Int} (hN : KN X) (hI : IM v T E) (ha : R32 a) (hb : R32 b) (hf : R32 f) : Kl X h m_L_addRecipe 8 [va_rf (some h), .int (i32 a), .int (i32 b), .int (i32 f)] (v, (y, x), (n, m), R) (.inl (some (.int (i32 (qc cod_addRecipe (f_addRecipe a b f v)))))) ((f_addRecipe a b f v).2, (y + 1, x + 1), (n, m), R) := by
  intro σ hR
  have kdh : σ.kd h = 13 + 1 := hR.kd
  have hR9 := hR
  obtain ⟨⟨A, c, B, hC, hV, eA, h6, hx⟩, -⟩ := hR
  have h6 : c.1 6 ≤ y := h6
  have hx : c.2.2.2 ≤ x := hx
  have hV : INV c v := hV
  obtain ⟨ok, hA, hV2⟩ := fc_addRecipe hV hI ha hb hf
  have cd := cd_addRecipe (a := a) (b := b) (f := f) (v := v) (hI.2 0 0).1
  obtain ⟨τ, A2, B2, hCt, hS, e13, hF⟩ := kc_up hC (s_X10_addRecipe ok) (ws4 hC.2)
  have hst := st_addRecipe a b f c
  subst eA
  have hW := hR9.call (y' := y + 1) (x' := x + 1) hS hV2 e13 (by have := hst.1; omega) (by have := hst.2; omega) hF
  rcases hA with ⟨z, e⟩ | ⟨z, e⟩
  · rw [e] at hCt
    rw [qc_v z]
    refine ⟨τ, Ct.ofH (by decide +kernel) k_L_addRecipe (Nat.le_of_ble_eq_true rfl) (by simp [Value.category, va_rf]) ?_, hW⟩
    refine Ev.aload_n (i := 0) dL_addRecipe_0 rfl rfl ?_
    refine Ev.iload_n (i := 1) dL_addRecipe_1 rfl rfl ?_
    refine Ev.iload_n (i := 2) dL_addRecipe_2 rfl rfl ?_
    refine Ev.iload_n (i := 3) dL_addRecipe_3 rfl rfl ?_
    refine Ev.callV (ci := 13) (C := RX10) (T := TX10) (N := 12) (As := [_, _, _]) (v := some (.int (i32 (f_addRecipe a b f v).1))) k_X10_addRecipe rfl kdh (tb2 (i := 14) rfl) ki_X10_addRecipe kv_X10_addRecipe dL_addRecipe_4 rfl rfl (Nat.le_of_ble_eq_true rfl) (Nat.le_refl _) hCt ?_
    exact Ev.iret rfl rfl dL_addRecipe_7
  · rw [e] at hCt
    by_cases z1 : (f_addRecipe a b f v).2 0 0 = 1
    · rw [z1] at hCt
      rw [qc_x z1 (by decide)]
      refine ⟨τ, Ct.ofH (by decide +kernel) k_L_addRecipe (Nat.le_of_ble_eq_true rfl) (by simp [Value.category, va_rf]) ?_, hW⟩
      refine Ev.aload_n (i := 0) dL_addRecipe_0 rfl rfl ?_
      refine Ev.iload_n (i := 1) dL_addRecipe_1 rfl rfl ?_
      refine Ev.iload_n (i := 2) dL_addRecipe_2 rfl rfl ?_
      refine Ev.iload_n (i := 3) dL_addRecipe_3 rfl rfl ?_
      have hp : ∀ z ∈ ([] : List (Nat × Nat × Nat × Nat)), z.2.2.2 ≠ 0 ∧ ∃ nm, Cond.classLink m_L_addRecipe.y.cls z.2.2.2 nm ∈ lw_tbl ∧ xcp nm ∧ xIAE ≠ nm := fun z hz => by
        cases hz
      refine Ev.callVc (ci := 13) (C := RX10) (T := TX10) (N := 12) (As := [_, _, _]) (E := xIAE) (pre := []) (suf := [(0, 7, 13, 22)]) (xa := 0) (xb := 7) (xh := 8) (xt := 20) hN (Or.inl rfl) k_X10_addRecipe rfl kdh (tb2 (i := 14) rfl) ki_X10_addRecipe kv_X10_addRecipe dL_addRecipe_4 rfl rfl (Nat.le_of_ble_eq_true rfl) (Nat.le_refl _) rfl (by decide) (by decide) hp (tb2 (i := 12) rfl) (tb2 (i := 24) rfl) hCt (fun q => ?_)
      refine Ev.astore dL_addRecipe_8 (by decide) ?_
      refine Ev.bipush (v := i32 (-78)) dL_addRecipe_10 (by decide) ?_
      exact Ev.iret rfl rfl dL_addRecipe_12
    · have y1 := z1
      have z2 : (f_addRecipe a b f v).2 0 0 = 2 := by omega
      rw [z2] at hCt
      rw [qc_x z2 (by decide)]
      refine ⟨τ, Ct.ofH (by decide +kernel) k_L_addRecipe (Nat.le_of_ble_eq_true rfl) (by simp [Value.category, va_rf]) ?_, hW⟩
      refine Ev.aload_n (i := 0) dL_addRecipe_0 rfl rfl ?_
      refine Ev.iload_n (i := 1) dL_addRecipe_1 rfl rfl ?_
      refine Ev.iload_n (i := 2) dL_addRecipe_2 rfl rfl ?_
      refine Ev.iload_n (i := 3) dL_addRecipe_3 rfl rfl ?_
      have hp : ∀ z ∈ ([(0, 7, 8, 20)] : List (Nat × Nat × Nat × Nat)), z.2.2.2 ≠ 0 ∧ ∃ nm, Cond.classLink m_L_addRecipe.y.cls z.2.2.2 nm ∈ lw_tbl ∧ xcp nm ∧ xISE ≠ nm := fun z hz => by
        rcases List.mem_cons.mp hz with rfl | hz
        · exact ⟨by decide, _, (tb2 (i := 12) rfl), Or.inl rfl, by decide⟩
        cases hz
      refine Ev.callVc (ci := 13) (C := RX10) (T := TX10) (N := 12) (As := [_, _, _]) (E := xISE) (pre := [(0, 7, 8, 20)]) (suf := []) (xa := 0) (xb := 7) (xh := 13) (xt := 22) hN (Or.inr (Or.inl rfl)) k_X10_addRecipe rfl kdh (tb2 (i := 14) rfl) ki_X10_addRecipe kv_X10_addRecipe dL_addRecipe_4 rfl rfl (Nat.le_of_ble_eq_true rfl) (Nat.le_refl _) rfl (by decide) (by decide) hp (tb2 (i := 13) rfl) (tb2 (i := 117) rfl) hCt (fun q => ?_)
      refine Ev.astore dL_addRecipe_13 (by decide) ?_
      refine Ev.bipush (v := i32 (-79)) dL_addRecipe_15 (by decide) ?_
      exact Ev.iret rfl rfl dL_addRecipe_17
def m_L_addVessel : Mt := (yL_addVessel, cL_addVessel, 3, some .int, [(0, 5, 6, 20), (0, 5, 10, 22)])
theorem k_L_addVessel : cokH m_L_addVessel 2 := ⟨rfl, (tb2 (i := 161) rfl), (tb1 (i := 0) rfl), by decide, by decide +kernel, by decide⟩
theorem ki_L_addVessel : Cond.static m_L_addVessel.y ∈ lw_tbl := (tb2 (i := 160) rfl)
def cod_addVessel : Int → Int := fun k => if k = 1 then -78 else -79
theorem cd_addVessel {a : Int} {v : Vw} (h : (0 : Int) ≤ v 0 0) : (f_addVessel a v).2 0 0 ≤ 2 := by
  unfold f_addVessel
  repeat' split
  all_goals first
    | (simp [f_fails, upv, f_adds]; done)
    | exact Int.le_trans (cd_one _ _) (by decide)
    | (rw [fr_starts 0 0 (by decide)]; simp [upv]; done)
    | (show f_starts _ _ _ 0 0 ≤ _; rw [fr_starts 0 0 (by decide)]; simp [upv]; done)
theorem w_addVessel {X : Cx} {h : Nat} {v : Vw} {y x : Int} {n m : Nat} {R : List Ar} {T E a : Int} (hN : KN X) (hI : IM v T E) (ha : R32 a) : Kl X h m_L_addVessel 8 [va_rf (some h), .int (i32 a)] (v, (y, x), (n, m), R) (.inl (some (.int (i32 (qc cod_addVessel (f_addVessel a v)))))) ((f_addVessel a v).2, (y + 1, x + 1), (n, m), R) := by
  intro σ hR
  have kdh : σ.kd h = 13 + 1 := hR.kd
  have hR9 := hR
  obtain ⟨⟨A, c, B, hC, hV, eA, h6, hx⟩, -⟩ := hR
  have h6 : c.1 6 ≤ y := h6
  have hx : c.2.2.2 ≤ x := hx
  have hV : INV c v := hV
  obtain ⟨ok, hA, hV2⟩ := fc_addVessel hV hI ha
  have cd := cd_addVessel (a := a) (v := v) (hI.2 0 0).1
  obtain ⟨τ, A2, B2, hCt, hS, e13, hF⟩ := kc_up hC (s_X10_addVessel ok) (ws2 hC.2)
  have hst := st_addVessel a c
  subst eA
  have hW := hR9.call (y' := y + 1) (x' := x + 1) hS hV2 e13 (by have := hst.1; omega) (by have := hst.2; omega) hF
  rcases hA with ⟨z, e⟩ | ⟨z, e⟩
  · rw [e] at hCt
    rw [qc_v z]
    refine ⟨τ, Ct.ofH (by decide +kernel) k_L_addVessel (Nat.le_of_ble_eq_true rfl) (by simp [Value.category, va_rf]) ?_, hW⟩
    refine Ev.aload_n (i := 0) dL_addVessel_0 rfl rfl ?_
    refine Ev.iload_n (i := 1) dL_addVessel_1 rfl rfl ?_
    refine Ev.callV (ci := 13) (C := RX10) (T := TX10) (N := 12) (As := [_]) (v := some (.int (i32 (f_addVessel a v).1))) k_X10_addVessel rfl kdh (tb2 (i := 162) rfl) ki_X10_addVessel kv_X10_addVessel dL_addVessel_2 rfl rfl (Nat.le_of_ble_eq_true rfl) (Nat.le_refl _) hCt ?_
    exact Ev.iret rfl rfl dL_addVessel_5
  · rw [e] at hCt
    by_cases z1 : (f_addVessel a v).2 0 0 = 1
    · rw [z1] at hCt
      rw [qc_x z1 (by decide)]
      refine ⟨τ, Ct.ofH (by decide +kernel) k_L_addVessel (Nat.le_of_ble_eq_true rfl) (by simp [Value.category, va_rf]) ?_, hW⟩
      refine Ev.aload_n (i := 0) dL_addVessel_0 rfl rfl ?_
      refine Ev.iload_n (i := 1) dL_addVessel_1 rfl rfl ?_
      have hp : ∀ z ∈ ([] : List (Nat × Nat × Nat × Nat)), z.2.2.2 ≠ 0 ∧ ∃ nm, Cond.classLink m_L_addVessel.y.cls z.2.2.2 nm ∈ lw_tbl ∧ xcp nm ∧ xIAE ≠ nm := fun z hz => by
        cases hz
      refine Ev.callVc (ci := 13) (C := RX10) (T := TX10) (N := 12) (As := [_]) (E := xIAE) (pre := []) (suf := [(0, 5, 10, 22)]) (xa := 0) (xb := 5) (xh := 6) (xt := 20) hN (Or.inl rfl) k_X10_addVessel rfl kdh (tb2 (i := 162) rfl) ki_X10_addVessel kv_X10_addVessel dL_addVessel_2 rfl rfl (Nat.le_of_ble_eq_true rfl) (Nat.le_refl _) rfl (by decide) (by decide) hp (tb2 (i := 12) rfl) (tb2 (i := 24) rfl) hCt (fun q => ?_)
      refine Ev.astore_n (i := 2) dL_addVessel_6 rfl (by decide) ?_
      refine Ev.bipush (v := i32 (-78)) dL_addVessel_7 (by decide) ?_
      exact Ev.iret rfl rfl dL_addVessel_9
    · have y1 := z1
      have z2 : (f_addVessel a v).2 0 0 = 2 := by omega
      rw [z2] at hCt
      rw [qc_x z2 (by decide)]
      refine ⟨τ, Ct.ofH (by decide +kernel) k_L_addVessel (Nat.le_of_ble_eq_true rfl) (by simp [Value.category, va_rf]) ?_, hW⟩
      refine Ev.aload_n (i := 0) dL_addVessel_0 rfl rfl ?_
      refine Ev.iload_n (i := 1) dL_addVessel_1 rfl rfl ?_
      have hp : ∀ z ∈ ([(0, 5, 6, 20)] : List (Nat × Nat × Nat × Nat)), z.2.2.2 ≠ 0 ∧ ∃ nm, Cond.classLink m_L_addVessel.y.cls z.2.2.2 nm ∈ lw_tbl ∧ xcp nm ∧ xISE ≠ nm := fun z hz => by
        rcases List.mem_cons.mp hz with rfl | hz
        · exact ⟨by decide, _, (tb2 (i := 12) rfl), Or.inl rfl, by decide⟩
        cases hz
      refine Ev.callVc (ci := 13) (C := RX10) (T := TX10) (N := 12) (As := [_]) (E := xISE) (pre := [(0, 5, 6, 20)]) (suf := []) (xa := 0) (xb := 5) (xh := 10) (xt := 22) hN (Or.inr (Or.inl rfl)) k_X10_addVessel rfl kdh (tb2 (i := 162) rfl) ki_X10_addVessel kv_X10_addVessel dL_addVessel_2 rfl rfl (Nat.le_of_ble_eq_true rfl) (Nat.le_refl _) rfl (by decide) (by decide) hp (tb2 (i := 13) rfl) (tb2 (i := 117) rfl) hCt (fun q => ?_)
      refine Ev.astore_n (i := 2) dL_addVessel_10 rfl (by decide) ?_
      refine Ev.bipush (v := i32 (-79)) dL_addVessel_11 (by decide) ?_
      exact Ev.iret rfl rfl dL_addVessel_13
def m_L_setCrews : Mt := (yL_setCrews, cL_setCrews, 3, some .int, [(0, 5, 6, 20)])
theorem k_L_setCrews : cokH m_L_setCrews 2 := ⟨rfl, (tb2 (i := 220) rfl), (tb1 (i := 0) rfl), by decide, by decide +kernel, by decide⟩
theorem ki_L_setCrews : Cond.static m_L_setCrews.y ∈ lw_tbl := (tb2 (i := 219) rfl)
def cod_setCrews : Int → Int := fun k => -78
theorem cd_setCrews {a : Int} {v : Vw} (h : (0 : Int) ≤ v 0 0) : (f_setCrews a v).2 0 0 ≤ 1 := by
  unfold f_setCrews
  repeat' split
  all_goals first
    | (simp [f_fails, upv, f_adds]; done)
    | exact Int.le_trans (cd_one _ _) (by decide)
    | (rw [fr_starts 0 0 (by decide)]; simp [upv]; done)
    | (show f_starts _ _ _ 0 0 ≤ _; rw [fr_starts 0 0 (by decide)]; simp [upv]; done)
theorem w_setCrews {X : Cx} {h : Nat} {v : Vw} {y x : Int} {n m : Nat} {R : List Ar} {T E a : Int} (hN : KN X) (hI : IM v T E) (ha : R32 a) : Kl X h m_L_setCrews 7 [va_rf (some h), .int (i32 a)] (v, (y, x), (n, m), R) (.inl (some (.int (i32 (qc cod_setCrews (f_setCrews a v)))))) ((f_setCrews a v).2, (y + 1, x + 1), (n, m), R) := by
  intro σ hR
  have kdh : σ.kd h = 13 + 1 := hR.kd
  have hR9 := hR
  obtain ⟨⟨A, c, B, hC, hV, eA, h6, hx⟩, -⟩ := hR
  have h6 : c.1 6 ≤ y := h6
  have hx : c.2.2.2 ≤ x := hx
  have hV : INV c v := hV
  obtain ⟨ok, hA, hV2⟩ := fc_setCrews hV ha
  have cd := cd_setCrews (a := a) (v := v) (hI.2 0 0).1
  obtain ⟨τ, A2, B2, hCt, hS, e13, hF⟩ := kc_up hC (s_X10_setCrews ok) (ws2 hC.2)
  have hst := st_setCrews a c
  subst eA
  have hW := hR9.call (y' := y + 1) (x' := x + 1) hS hV2 e13 (by have := hst.1; omega) (by have := hst.2; omega) hF
  rcases hA with ⟨z, e⟩ | ⟨z, e⟩
  · rw [e] at hCt
    rw [qc_v z]
    refine ⟨τ, Ct.ofH (by decide +kernel) k_L_setCrews (Nat.le_of_ble_eq_true rfl) (by simp [Value.category, va_rf]) ?_, hW⟩
    refine Ev.aload_n (i := 0) dL_setCrews_0 rfl rfl ?_
    refine Ev.iload_n (i := 1) dL_setCrews_1 rfl rfl ?_
    refine Ev.callV (ci := 13) (C := RX10) (T := TX10) (N := 12) (As := [_]) (v := some (.int (i32 (f_setCrews a v).1))) k_X10_setCrews rfl kdh (tb2 (i := 221) rfl) ki_X10_setCrews kv_X10_setCrews dL_setCrews_2 rfl rfl (Nat.le_of_ble_eq_true rfl) (Nat.le_refl _) hCt ?_
    exact Ev.iret rfl rfl dL_setCrews_5
  · rw [e] at hCt
    have z1 : (f_setCrews a v).2 0 0 = 1 := by omega
    rw [z1] at hCt
    rw [qc_x z1 (by decide)]
    refine ⟨τ, Ct.ofH (by decide +kernel) k_L_setCrews (Nat.le_of_ble_eq_true rfl) (by simp [Value.category, va_rf]) ?_, hW⟩
    refine Ev.aload_n (i := 0) dL_setCrews_0 rfl rfl ?_
    refine Ev.iload_n (i := 1) dL_setCrews_1 rfl rfl ?_
    have hp : ∀ z ∈ ([] : List (Nat × Nat × Nat × Nat)), z.2.2.2 ≠ 0 ∧ ∃ nm, Cond.classLink m_L_setCrews.y.cls z.2.2.2 nm ∈ lw_tbl ∧ xcp nm ∧ xIAE ≠ nm := fun z hz => by
      cases hz
    refine Ev.callVc (ci := 13) (C := RX10) (T := TX10) (N := 12) (As := [_]) (E := xIAE) (pre := []) (suf := []) (xa := 0) (xb := 5) (xh := 6) (xt := 20) hN (Or.inl rfl) k_X10_setCrews rfl kdh (tb2 (i := 221) rfl) ki_X10_setCrews kv_X10_setCrews dL_setCrews_2 rfl rfl (Nat.le_of_ble_eq_true rfl) (Nat.le_refl _) rfl (by decide) (by decide) hp (tb2 (i := 12) rfl) (tb2 (i := 24) rfl) hCt (fun q => ?_)
    refine Ev.astore_n (i := 2) dL_setCrews_6 rfl (by decide) ?_
    refine Ev.bipush (v := i32 (-78)) dL_setCrews_7 (by decide) ?_
    exact Ev.iret rfl rfl dL_setCrews_9
def m_L_addPacks : Mt := (yL_addPacks, cL_addPacks, 4, some .int, [(0, 6, 7, 20)])
theorem k_L_addPacks : cokH m_L_addPacks 3 := ⟨rfl, (tb2 (i := 228) rfl), (tb1 (i := 0) rfl), by decide, by decide +kernel, by decide⟩
theorem ki_L_addPacks : Cond.static m_L_addPacks.y ∈ lw_tbl := (tb2 (i := 227) rfl)
def cod_addPacks : Int → Int := fun k => -78
theorem cd_addPacks {a b : Int} {v : Vw} (h : (0 : Int) ≤ v 0 0) : (f_addPacks a b v).2 0 0 ≤ 1 := by
  unfold f_addPacks
  repeat' split
  all_goals first
    | (simp [f_fails, upv, f_adds]; done)
    | exact Int.le_trans (cd_one _ _) (by decide)
    | (rw [fr_starts 0 0 (by decide)]; simp [upv]; done)
    | (show f_starts _ _ _ 0 0 ≤ _; rw [fr_starts 0 0 (by decide)]; simp [upv]; done)
theorem w_addPacks {X : Cx} {h : Nat} {v : Vw} {y x : Int} {n m : Nat} {R : List Ar} {T E a b : Int} (hN : KN X) (hI : IM v T E) (ha : R32 a) (hb : R32 b) : Kl X h m_L_addPacks 8 [va_rf (some h), .int (i32 a), .int (i32 b)] (v, (y, x), (n, m), R) (.inl (some (.int (i32 (qc cod_addPacks (f_addPacks a b v)))))) ((f_addPacks a b v).2, (y + 1, x + 1), (n, m), R) := by
  intro σ hR
  have kdh : σ.kd h = 13 + 1 := hR.kd
  have hR9 := hR
  obtain ⟨⟨A, c, B, hC, hV, eA, h6, hx⟩, -⟩ := hR
  have h6 : c.1 6 ≤ y := h6
  have hx : c.2.2.2 ≤ x := hx
  have hV : INV c v := hV
  obtain ⟨ok, hA, hV2⟩ := fc_addPacks hV hI ha hb
  have cd := cd_addPacks (a := a) (b := b) (v := v) (hI.2 0 0).1
  obtain ⟨τ, A2, B2, hCt, hS, e13, hF⟩ := kc_up hC (s_X10_addPacks ok) (ws3 hC.2)
  have hst := st_addPacks a b c
  subst eA
  have hW := hR9.call (y' := y + 1) (x' := x + 1) hS hV2 e13 (by have := hst.1; omega) (by have := hst.2; omega) hF
  rcases hA with ⟨z, e⟩ | ⟨z, e⟩
  · rw [e] at hCt
    rw [qc_v z]
    refine ⟨τ, Ct.ofH (by decide +kernel) k_L_addPacks (Nat.le_of_ble_eq_true rfl) (by simp [Value.category, va_rf]) ?_, hW⟩
    refine Ev.aload_n (i := 0) dL_addPacks_0 rfl rfl ?_
    refine Ev.iload_n (i := 1) dL_addPacks_1 rfl rfl ?_
    refine Ev.iload_n (i := 2) dL_addPacks_2 rfl rfl ?_
    refine Ev.callV (ci := 13) (C := RX10) (T := TX10) (N := 12) (As := [_, _]) (v := some (.int (i32 (f_addPacks a b v).1))) k_X10_addPacks rfl kdh (tb2 (i := 229) rfl) ki_X10_addPacks kv_X10_addPacks dL_addPacks_3 rfl rfl (Nat.le_of_ble_eq_true rfl) (Nat.le_refl _) hCt ?_
    exact Ev.iret rfl rfl dL_addPacks_6
  · rw [e] at hCt
    have z1 : (f_addPacks a b v).2 0 0 = 1 := by omega
    rw [z1] at hCt
    rw [qc_x z1 (by decide)]
    refine ⟨τ, Ct.ofH (by decide +kernel) k_L_addPacks (Nat.le_of_ble_eq_true rfl) (by simp [Value.category, va_rf]) ?_, hW⟩
    refine Ev.aload_n (i := 0) dL_addPacks_0 rfl rfl ?_
    refine Ev.iload_n (i := 1) dL_addPacks_1 rfl rfl ?_
    refine Ev.iload_n (i := 2) dL_addPacks_2 rfl rfl ?_
    have hp : ∀ z ∈ ([] : List (Nat × Nat × Nat × Nat)), z.2.2.2 ≠ 0 ∧ ∃ nm, Cond.classLink m_L_addPacks.y.cls z.2.2.2 nm ∈ lw_tbl ∧ xcp nm ∧ xIAE ≠ nm := fun z hz => by
      cases hz
    refine Ev.callVc (ci := 13) (C := RX10) (T := TX10) (N := 12) (As := [_, _]) (E := xIAE) (pre := []) (suf := []) (xa := 0) (xb := 6) (xh := 7) (xt := 20) hN (Or.inl rfl) k_X10_addPacks rfl kdh (tb2 (i := 229) rfl) ki_X10_addPacks kv_X10_addPacks dL_addPacks_3 rfl rfl (Nat.le_of_ble_eq_true rfl) (Nat.le_refl _) rfl (by decide) (by decide) hp (tb2 (i := 12) rfl) (tb2 (i := 24) rfl) hCt (fun q => ?_)
    refine Ev.astore_n (i := 3) dL_addPacks_7 rfl (by decide) ?_
    refine Ev.bipush (v := i32 (-78)) dL_addPacks_8 (by decide) ?_
    exact Ev.iret rfl rfl dL_addPacks_10
def m_L_brew : Mt := (yL_brew, cL_brew, 4, some .int, [(0, 6, 7, 39), (0, 6, 11, 41), (0, 6, 15, 22), (0, 6, 19, 43)])
theorem k_L_brew : cokH m_L_brew 3 := ⟨rfl, (tb2 (i := 236) rfl), (tb1 (i := 0) rfl), by decide, by decide +kernel, by decide⟩
theorem ki_L_brew : Cond.static m_L_brew.y ∈ lw_tbl := (tb2 (i := 235) rfl)
def cod_brew : Int → Int := fun k => if k = 1 then -77 else if k = 2 then -76 else if k = 3 then -79 else -75
theorem cd_brew {a b : Int} {v : Vw} (h : (0 : Int) ≤ v 0 0) : (f_brew a b v).2 0 0 ≤ 4 := by
  unfold f_brew
  repeat' split
  all_goals first
    | (simp [f_fails, upv, f_adds]; done)
    | exact Int.le_trans (cd_one _ _) (by decide)
    | (rw [fr_starts 0 0 (by decide)]; simp [upv]; done)
    | (show f_starts _ _ _ 0 0 ≤ _; rw [fr_starts 0 0 (by decide)]; simp [upv]; done)
theorem w_brew {X : Cx} {h : Nat} {v : Vw} {y x : Int} {n m : Nat} {R : List Ar} {T E a b : Int} (hN : KN X) (hI : IM v T E) (ha : R32 a) (hb : R32 b) : Kl X h m_L_brew 9 [va_rf (some h), .int (i32 a), .int (i32 b)] (v, (y, x), (n, m), R) (.inl (some (.int (i32 (qc cod_brew (f_brew a b v)))))) ((f_brew a b v).2, (y + 1, x + 1), (n, m), R) := by
  intro σ hR
  have kdh : σ.kd h = 13 + 1 := hR.kd
  have hR9 := hR
  obtain ⟨⟨A, c, B, hC, hV, eA, h6, hx⟩, -⟩ := hR
  have h6 : c.1 6 ≤ y := h6
  have hx : c.2.2.2 ≤ x := hx
  have hV : INV c v := hV
  obtain ⟨ok, hA, hV2⟩ := fc_brew hV hI ha hb
  have cd := cd_brew (a := a) (b := b) (v := v) (hI.2 0 0).1
  obtain ⟨τ, A2, B2, hCt, hS, e13, hF⟩ := kc_up hC (s_X10_brew ok) (ws3 hC.2)
  have hst := st_brew a b c
  subst eA
  have hW := hR9.call (y' := y + 1) (x' := x + 1) hS hV2 e13 (by have := hst.1; omega) (by have := hst.2; omega) hF
  rcases hA with ⟨z, e⟩ | ⟨z, e⟩
  · rw [e] at hCt
    rw [qc_v z]
    refine ⟨τ, Ct.ofH (by decide +kernel) k_L_brew (Nat.le_of_ble_eq_true rfl) (by simp [Value.category, va_rf]) ?_, hW⟩
    refine Ev.aload_n (i := 0) dL_brew_0 rfl rfl ?_
    refine Ev.iload_n (i := 1) dL_brew_1 rfl rfl ?_
    refine Ev.iload_n (i := 2) dL_brew_2 rfl rfl ?_
    refine Ev.callV (ci := 13) (C := RX10) (T := TX10) (N := 12) (As := [_, _]) (v := some (.int (i32 (f_brew a b v).1))) k_X10_brew rfl kdh (tb3 (i := 0) rfl) ki_X10_brew kv_X10_brew dL_brew_3 rfl rfl (Nat.le_of_ble_eq_true rfl) (Nat.le_refl _) hCt ?_
    exact Ev.iret rfl rfl dL_brew_6
  · rw [e] at hCt
    by_cases z1 : (f_brew a b v).2 0 0 = 1
    · rw [z1] at hCt
      rw [qc_x z1 (by decide)]
      refine ⟨τ, Ct.ofH (by decide +kernel) k_L_brew (Nat.le_of_ble_eq_true rfl) (by simp [Value.category, va_rf]) ?_, hW⟩
      refine Ev.aload_n (i := 0) dL_brew_0 rfl rfl ?_
      refine Ev.iload_n (i := 1) dL_brew_1 rfl rfl ?_
      refine Ev.iload_n (i := 2) dL_brew_2 rfl rfl ?_
      have hp : ∀ z ∈ ([] : List (Nat × Nat × Nat × Nat)), z.2.2.2 ≠ 0 ∧ ∃ nm, Cond.classLink m_L_brew.y.cls z.2.2.2 nm ∈ lw_tbl ∧ xcp nm ∧ xIOB ≠ nm := fun z hz => by
        cases hz
      refine Ev.callVc (ci := 13) (C := RX10) (T := TX10) (N := 12) (As := [_, _]) (E := xIOB) (pre := []) (suf := [(0, 6, 11, 41), (0, 6, 15, 22), (0, 6, 19, 43)]) (xa := 0) (xb := 6) (xh := 7) (xt := 39) hN (Or.inr (Or.inr (Or.inr (Or.inl rfl)))) k_X10_brew rfl kdh (tb3 (i := 0) rfl) ki_X10_brew kv_X10_brew dL_brew_3 rfl rfl (Nat.le_of_ble_eq_true rfl) (Nat.le_refl _) rfl (by decide) (by decide) hp (tb2 (i := 237) rfl) (tb3 (i := 10) rfl) hCt (fun q => ?_)
      refine Ev.astore_n (i := 3) dL_brew_7 rfl (by decide) ?_
      refine Ev.bipush (v := i32 (-77)) dL_brew_8 (by decide) ?_
      exact Ev.iret rfl rfl dL_brew_10
    · have y1 := z1
      by_cases z2 : (f_brew a b v).2 0 0 = 2
      · rw [z2] at hCt
        rw [qc_x z2 (by decide)]
        refine ⟨τ, Ct.ofH (by decide +kernel) k_L_brew (Nat.le_of_ble_eq_true rfl) (by simp [Value.category, va_rf]) ?_, hW⟩
        refine Ev.aload_n (i := 0) dL_brew_0 rfl rfl ?_
        refine Ev.iload_n (i := 1) dL_brew_1 rfl rfl ?_
        refine Ev.iload_n (i := 2) dL_brew_2 rfl rfl ?_
        have hp : ∀ z ∈ ([(0, 6, 7, 39)] : List (Nat × Nat × Nat × Nat)), z.2.2.2 ≠ 0 ∧ ∃ nm, Cond.classLink m_L_brew.y.cls z.2.2.2 nm ∈ lw_tbl ∧ xcp nm ∧ xUOE ≠ nm := fun z hz => by
          rcases List.mem_cons.mp hz with rfl | hz
          · exact ⟨by decide, _, (tb2 (i := 237) rfl), Or.inr (Or.inr (Or.inr (Or.inl rfl))), by decide⟩
          cases hz
        refine Ev.callVc (ci := 13) (C := RX10) (T := TX10) (N := 12) (As := [_, _]) (E := xUOE) (pre := [(0, 6, 7, 39)]) (suf := [(0, 6, 15, 22), (0, 6, 19, 43)]) (xa := 0) (xb := 6) (xh := 11) (xt := 41) hN (Or.inr (Or.inr (Or.inr (Or.inr rfl)))) k_X10_brew rfl kdh (tb3 (i := 0) rfl) ki_X10_brew kv_X10_brew dL_brew_3 rfl rfl (Nat.le_of_ble_eq_true rfl) (Nat.le_refl _) rfl (by decide) (by decide) hp (tb2 (i := 238) rfl) (tb3 (i := 31) rfl) hCt (fun q => ?_)
        refine Ev.astore_n (i := 3) dL_brew_11 rfl (by decide) ?_
        refine Ev.bipush (v := i32 (-76)) dL_brew_12 (by decide) ?_
        exact Ev.iret rfl rfl dL_brew_14
      · have y2 := z2
        by_cases z3 : (f_brew a b v).2 0 0 = 3
        · rw [z3] at hCt
          rw [qc_x z3 (by decide)]
          refine ⟨τ, Ct.ofH (by decide +kernel) k_L_brew (Nat.le_of_ble_eq_true rfl) (by simp [Value.category, va_rf]) ?_, hW⟩
          refine Ev.aload_n (i := 0) dL_brew_0 rfl rfl ?_
          refine Ev.iload_n (i := 1) dL_brew_1 rfl rfl ?_
          refine Ev.iload_n (i := 2) dL_brew_2 rfl rfl ?_
          have hp : ∀ z ∈ ([(0, 6, 7, 39), (0, 6, 11, 41)] : List (Nat × Nat × Nat × Nat)), z.2.2.2 ≠ 0 ∧ ∃ nm, Cond.classLink m_L_brew.y.cls z.2.2.2 nm ∈ lw_tbl ∧ xcp nm ∧ xISE ≠ nm := fun z hz => by
            rcases List.mem_cons.mp hz with rfl | hz
            · exact ⟨by decide, _, (tb2 (i := 237) rfl), Or.inr (Or.inr (Or.inr (Or.inl rfl))), by decide⟩
            rcases List.mem_cons.mp hz with rfl | hz
            · exact ⟨by decide, _, (tb2 (i := 238) rfl), Or.inr (Or.inr (Or.inr (Or.inr rfl))), by decide⟩
            cases hz
          refine Ev.callVc (ci := 13) (C := RX10) (T := TX10) (N := 12) (As := [_, _]) (E := xISE) (pre := [(0, 6, 7, 39), (0, 6, 11, 41)]) (suf := [(0, 6, 19, 43)]) (xa := 0) (xb := 6) (xh := 15) (xt := 22) hN (Or.inr (Or.inl rfl)) k_X10_brew rfl kdh (tb3 (i := 0) rfl) ki_X10_brew kv_X10_brew dL_brew_3 rfl rfl (Nat.le_of_ble_eq_true rfl) (Nat.le_refl _) rfl (by decide) (by decide) hp (tb2 (i := 13) rfl) (tb2 (i := 117) rfl) hCt (fun q => ?_)
          refine Ev.astore_n (i := 3) dL_brew_15 rfl (by decide) ?_
          refine Ev.bipush (v := i32 (-79)) dL_brew_16 (by decide) ?_
          exact Ev.iret rfl rfl dL_brew_18
        · have y3 := z3
          have z4 : (f_brew a b v).2 0 0 = 4 := by omega
          rw [z4] at hCt
          rw [qc_x z4 (by decide)]
          refine ⟨τ, Ct.ofH (by decide +kernel) k_L_brew (Nat.le_of_ble_eq_true rfl) (by simp [Value.category, va_rf]) ?_, hW⟩
          refine Ev.aload_n (i := 0) dL_brew_0 rfl rfl ?_
          refine Ev.iload_n (i := 1) dL_brew_1 rfl rfl ?_
          refine Ev.iload_n (i := 2) dL_brew_2 rfl rfl ?_
          have hp : ∀ z ∈ ([(0, 6, 7, 39), (0, 6, 11, 41), (0, 6, 15, 22)] : List (Nat × Nat × Nat × Nat)), z.2.2.2 ≠ 0 ∧ ∃ nm, Cond.classLink m_L_brew.y.cls z.2.2.2 nm ∈ lw_tbl ∧ xcp nm ∧ xNSE ≠ nm := fun z hz => by
            rcases List.mem_cons.mp hz with rfl | hz
            · exact ⟨by decide, _, (tb2 (i := 237) rfl), Or.inr (Or.inr (Or.inr (Or.inl rfl))), by decide⟩
            rcases List.mem_cons.mp hz with rfl | hz
            · exact ⟨by decide, _, (tb2 (i := 238) rfl), Or.inr (Or.inr (Or.inr (Or.inr rfl))), by decide⟩
            rcases List.mem_cons.mp hz with rfl | hz
            · exact ⟨by decide, _, (tb2 (i := 13) rfl), Or.inr (Or.inl rfl), by decide⟩
            cases hz
          refine Ev.callVc (ci := 13) (C := RX10) (T := TX10) (N := 12) (As := [_, _]) (E := xNSE) (pre := [(0, 6, 7, 39), (0, 6, 11, 41), (0, 6, 15, 22)]) (suf := []) (xa := 0) (xb := 6) (xh := 19) (xt := 43) hN (Or.inr (Or.inr (Or.inl rfl))) k_X10_brew rfl kdh (tb3 (i := 0) rfl) ki_X10_brew kv_X10_brew dL_brew_3 rfl rfl (Nat.le_of_ble_eq_true rfl) (Nat.le_refl _) rfl (by decide) (by decide) hp (tb2 (i := 239) rfl) (tb3 (i := 69) rfl) hCt (fun q => ?_)
          refine Ev.astore_n (i := 3) dL_brew_19 rfl (by decide) ?_
          refine Ev.bipush (v := i32 (-75)) dL_brew_20 (by decide) ?_
          exact Ev.iret rfl rfl dL_brew_22
def m_L_enqueue : Mt := (yL_enqueue, cL_enqueue, 3, some .int, [(0, 5, 6, 39), (0, 5, 10, 22)])
theorem k_L_enqueue : cokH m_L_enqueue 2 := ⟨rfl, (tb3 (i := 153) rfl), (tb1 (i := 0) rfl), by decide, by decide +kernel, by decide⟩
theorem ki_L_enqueue : Cond.static m_L_enqueue.y ∈ lw_tbl := (tb3 (i := 152) rfl)
def cod_enqueue : Int → Int := fun k => if k = 1 then -77 else -79
theorem cd_enqueue {a : Int} {v : Vw} (h : (0 : Int) ≤ v 0 0) : (f_enqueue a v).2 0 0 ≤ 2 := by
  unfold f_enqueue
  repeat' split
  all_goals first
    | (simp [f_fails, upv, f_adds]; done)
    | exact Int.le_trans (cd_one _ _) (by decide)
    | (rw [fr_starts 0 0 (by decide)]; simp [upv]; done)
    | (show f_starts _ _ _ 0 0 ≤ _; rw [fr_starts 0 0 (by decide)]; simp [upv]; done)
theorem w_enqueue {X : Cx} {h : Nat} {v : Vw} {y x : Int} {n m : Nat} {R : List Ar} {T E a : Int} (hN : KN X) (hI : IM v T E) (ha : R32 a) : Kl X h m_L_enqueue 8 [va_rf (some h), .int (i32 a)] (v, (y, x), (n, m), R) (.inl (some (.int (i32 (qc cod_enqueue (f_enqueue a v)))))) ((f_enqueue a v).2, (y + 1, x + 1), (n, m), R) := by
  intro σ hR
  have kdh : σ.kd h = 13 + 1 := hR.kd
  have hR9 := hR
  obtain ⟨⟨A, c, B, hC, hV, eA, h6, hx⟩, -⟩ := hR
  have h6 : c.1 6 ≤ y := h6
  have hx : c.2.2.2 ≤ x := hx
  have hV : INV c v := hV
  obtain ⟨ok, hA, hV2⟩ := fc_enqueue hV hI ha
  have cd := cd_enqueue (a := a) (v := v) (hI.2 0 0).1
  obtain ⟨τ, A2, B2, hCt, hS, e13, hF⟩ := kc_up hC (s_X10_enqueue ok) (ws2 hC.2)
  have hst := st_enqueue a c
  subst eA
  have hW := hR9.call (y' := y + 1) (x' := x + 1) hS hV2 e13 (by have := hst.1; omega) (by have := hst.2; omega) hF
  rcases hA with ⟨z, e⟩ | ⟨z, e⟩
  · rw [e] at hCt
    rw [qc_v z]
    refine ⟨τ, Ct.ofH (by decide +kernel) k_L_enqueue (Nat.le_of_ble_eq_true rfl) (by simp [Value.category, va_rf]) ?_, hW⟩
    refine Ev.aload_n (i := 0) dL_enqueue_0 rfl rfl ?_
    refine Ev.iload_n (i := 1) dL_enqueue_1 rfl rfl ?_
    refine Ev.callV (ci := 13) (C := RX10) (T := TX10) (N := 12) (As := [_]) (v := some (.int (i32 (f_enqueue a v).1))) k_X10_enqueue rfl kdh (tb3 (i := 154) rfl) ki_X10_enqueue kv_X10_enqueue dL_enqueue_2 rfl rfl (Nat.le_of_ble_eq_true rfl) (Nat.le_refl _) hCt ?_
    exact Ev.iret rfl rfl dL_enqueue_5
  · rw [e] at hCt
    by_cases z1 : (f_enqueue a v).2 0 0 = 1
    · rw [z1] at hCt
      rw [qc_x z1 (by decide)]
      refine ⟨τ, Ct.ofH (by decide +kernel) k_L_enqueue (Nat.le_of_ble_eq_true rfl) (by simp [Value.category, va_rf]) ?_, hW⟩
      refine Ev.aload_n (i := 0) dL_enqueue_0 rfl rfl ?_
      refine Ev.iload_n (i := 1) dL_enqueue_1 rfl rfl ?_
      have hp : ∀ z ∈ ([] : List (Nat × Nat × Nat × Nat)), z.2.2.2 ≠ 0 ∧ ∃ nm, Cond.classLink m_L_enqueue.y.cls z.2.2.2 nm ∈ lw_tbl ∧ xcp nm ∧ xIOB ≠ nm := fun z hz => by
        cases hz
      refine Ev.callVc (ci := 13) (C := RX10) (T := TX10) (N := 12) (As := [_]) (E := xIOB) (pre := []) (suf := [(0, 5, 10, 22)]) (xa := 0) (xb := 5) (xh := 6) (xt := 39) hN (Or.inr (Or.inr (Or.inr (Or.inl rfl)))) k_X10_enqueue rfl kdh (tb3 (i := 154) rfl) ki_X10_enqueue kv_X10_enqueue dL_enqueue_2 rfl rfl (Nat.le_of_ble_eq_true rfl) (Nat.le_refl _) rfl (by decide) (by decide) hp (tb2 (i := 237) rfl) (tb3 (i := 10) rfl) hCt (fun q => ?_)
      refine Ev.astore_n (i := 2) dL_enqueue_6 rfl (by decide) ?_
      refine Ev.bipush (v := i32 (-77)) dL_enqueue_7 (by decide) ?_
      exact Ev.iret rfl rfl dL_enqueue_9
    · have y1 := z1
      have z2 : (f_enqueue a v).2 0 0 = 2 := by omega
      rw [z2] at hCt
      rw [qc_x z2 (by decide)]
      refine ⟨τ, Ct.ofH (by decide +kernel) k_L_enqueue (Nat.le_of_ble_eq_true rfl) (by simp [Value.category, va_rf]) ?_, hW⟩
      refine Ev.aload_n (i := 0) dL_enqueue_0 rfl rfl ?_
      refine Ev.iload_n (i := 1) dL_enqueue_1 rfl rfl ?_
      have hp : ∀ z ∈ ([(0, 5, 6, 39)] : List (Nat × Nat × Nat × Nat)), z.2.2.2 ≠ 0 ∧ ∃ nm, Cond.classLink m_L_enqueue.y.cls z.2.2.2 nm ∈ lw_tbl ∧ xcp nm ∧ xISE ≠ nm := fun z hz => by
        rcases List.mem_cons.mp hz with rfl | hz
        · exact ⟨by decide, _, (tb2 (i := 237) rfl), Or.inr (Or.inr (Or.inr (Or.inl rfl))), by decide⟩
        cases hz
      refine Ev.callVc (ci := 13) (C := RX10) (T := TX10) (N := 12) (As := [_]) (E := xISE) (pre := [(0, 5, 6, 39)]) (suf := []) (xa := 0) (xb := 5) (xh := 10) (xt := 22) hN (Or.inr (Or.inl rfl)) k_X10_enqueue rfl kdh (tb3 (i := 154) rfl) ki_X10_enqueue kv_X10_enqueue dL_enqueue_2 rfl rfl (Nat.le_of_ble_eq_true rfl) (Nat.le_refl _) rfl (by decide) (by decide) hp (tb2 (i := 13) rfl) (tb2 (i := 117) rfl) hCt (fun q => ?_)
      refine Ev.astore_n (i := 2) dL_enqueue_10 rfl (by decide) ?_
      refine Ev.bipush (v := i32 (-79)) dL_enqueue_11 (by decide) ?_
      exact Ev.iret rfl rfl dL_enqueue_13
def m_L_withdraw : Mt := (yL_withdraw, cL_withdraw, 3, some .int, [(0, 5, 6, 43)])
theorem k_L_withdraw : cokH m_L_withdraw 2 := ⟨rfl, (tb3 (i := 161) rfl), (tb1 (i := 0) rfl), by decide, by decide +kernel, by decide⟩
theorem ki_L_withdraw : Cond.static m_L_withdraw.y ∈ lw_tbl := (tb3 (i := 160) rfl)
def cod_withdraw : Int → Int := fun k => -75
theorem cd_withdraw {a : Int} {v : Vw} (h : (0 : Int) ≤ v 0 0) : (f_withdraw a v).2 0 0 ≤ 1 := by
  unfold f_withdraw
  split
  · simp [f_fails, upv]
  · show (f_takesOut a (upv v 0 0 0)).2 0 0 ≤ 1
    rw [fr_takesOut 0 0 (by decide)]
    simp [upv]
theorem w_withdraw {X : Cx} {h : Nat} {v : Vw} {y x : Int} {n m : Nat} {R : List Ar} {T E a : Int} (hN : KN X) (hI : IM v T E) (ha : R32 a) : Kl X h m_L_withdraw 8 [va_rf (some h), .int (i32 a)] (v, (y, x), (n, m), R) (.inl (some (.int (i32 (qc cod_withdraw (f_withdraw a v)))))) ((f_withdraw a v).2, (y + 1, x + 1), (n, m), R) := by
  intro σ hR
  have kdh : σ.kd h = 13 + 1 := hR.kd
  have hR9 := hR
  obtain ⟨⟨A, c, B, hC, hV, eA, h6, hx⟩, -⟩ := hR
  have h6 : c.1 6 ≤ y := h6
  have hx : c.2.2.2 ≤ x := hx
  have hV : INV c v := hV
  obtain ⟨ok, hA, hV2⟩ := fc_withdraw hV hI ha
  have cd := cd_withdraw (a := a) (v := v) (hI.2 0 0).1
  obtain ⟨τ, A2, B2, hCt, hS, e13, hF⟩ := kc_up hC (s_X10_withdraw ok) (ws2 hC.2)
  have hst := st_withdraw a c
  subst eA
  have hW := hR9.call (y' := y + 1) (x' := x + 1) hS hV2 e13 (by have := hst.1; omega) (by have := hst.2; omega) hF
  rcases hA with ⟨z, e⟩ | ⟨z, e⟩
  · rw [e] at hCt
    rw [qc_v z]
    refine ⟨τ, Ct.ofH (by decide +kernel) k_L_withdraw (Nat.le_of_ble_eq_true rfl) (by simp [Value.category, va_rf]) ?_, hW⟩
    refine Ev.aload_n (i := 0) dL_withdraw_0 rfl rfl ?_
    refine Ev.iload_n (i := 1) dL_withdraw_1 rfl rfl ?_
    refine Ev.callV (ci := 13) (C := RX10) (T := TX10) (N := 12) (As := [_]) (v := some (.int (i32 (f_withdraw a v).1))) k_X10_withdraw rfl kdh (tb3 (i := 162) rfl) ki_X10_withdraw kv_X10_withdraw dL_withdraw_2 rfl rfl (Nat.le_of_ble_eq_true rfl) (Nat.le_refl _) hCt ?_
    exact Ev.iret rfl rfl dL_withdraw_5
  · rw [e] at hCt
    have z1 : (f_withdraw a v).2 0 0 = 1 := by omega
    rw [z1] at hCt
    rw [qc_x z1 (by decide)]
    refine ⟨τ, Ct.ofH (by decide +kernel) k_L_withdraw (Nat.le_of_ble_eq_true rfl) (by simp [Value.category, va_rf]) ?_, hW⟩
    refine Ev.aload_n (i := 0) dL_withdraw_0 rfl rfl ?_
    refine Ev.iload_n (i := 1) dL_withdraw_1 rfl rfl ?_
    have hp : ∀ z ∈ ([] : List (Nat × Nat × Nat × Nat)), z.2.2.2 ≠ 0 ∧ ∃ nm, Cond.classLink m_L_withdraw.y.cls z.2.2.2 nm ∈ lw_tbl ∧ xcp nm ∧ xNSE ≠ nm := fun z hz => by
      cases hz
    refine Ev.callVc (ci := 13) (C := RX10) (T := TX10) (N := 12) (As := [_]) (E := xNSE) (pre := []) (suf := []) (xa := 0) (xb := 5) (xh := 6) (xt := 43) hN (Or.inr (Or.inr (Or.inl rfl))) k_X10_withdraw rfl kdh (tb3 (i := 162) rfl) ki_X10_withdraw kv_X10_withdraw dL_withdraw_2 rfl rfl (Nat.le_of_ble_eq_true rfl) (Nat.le_refl _) rfl (by decide) (by decide) hp (tb2 (i := 239) rfl) (tb3 (i := 69) rfl) hCt (fun q => ?_)
    refine Ev.astore_n (i := 2) dL_withdraw_6 rfl (by decide) ?_
    refine Ev.bipush (v := i32 (-75)) dL_withdraw_7 (by decide) ?_
    exact Ev.iret rfl rfl dL_withdraw_9
def m_L_queuedAt : Mt := (yL_queuedAt, cL_queuedAt, 3, some .int, [(0, 5, 6, 43)])
theorem k_L_queuedAt : cokH m_L_queuedAt 2 := ⟨rfl, (tb3 (i := 175) rfl), (tb1 (i := 0) rfl), by decide, by decide +kernel, by decide⟩
theorem ki_L_queuedAt : Cond.static m_L_queuedAt.y ∈ lw_tbl := (tb3 (i := 174) rfl)
def cod_queuedAt : Int → Int := fun k => -75
theorem cd_queuedAt {a : Int} {v : Vw} (h : (0 : Int) ≤ v 0 0) : (f_queuedAt a v).2 0 0 ≤ 1 := by
  unfold f_queuedAt
  repeat' split
  all_goals first
    | (simp [f_fails, upv, f_adds]; done)
    | exact Int.le_trans (cd_one _ _) (by decide)
    | (rw [fr_starts 0 0 (by decide)]; simp [upv]; done)
    | (show f_starts _ _ _ 0 0 ≤ _; rw [fr_starts 0 0 (by decide)]; simp [upv]; done)
theorem w_queuedAt {X : Cx} {h : Nat} {v : Vw} {y x : Int} {n m : Nat} {R : List Ar} {T E a : Int} (hN : KN X) (hI : IM v T E) (ha : R32 a) : Kl X h m_L_queuedAt 8 [va_rf (some h), .int (i32 a)] (v, (y, x), (n, m), R) (.inl (some (.int (i32 (qc cod_queuedAt (f_queuedAt a v)))))) (v, (y, x + 1), (n, m), R) := by
  intro σ hR
  have kdh : σ.kd h = 13 + 1 := hR.kd
  have hR9 := hR
  obtain ⟨⟨A, c, B, hC, hV, eA, h6, hx⟩, -⟩ := hR
  have h6 : c.1 6 ≤ y := h6
  have hx : c.2.2.2 ≤ x := hx
  have hV : INV c v := hV
  obtain ⟨ok, hA, hV2⟩ := fc_queuedAt hV hI ha
  have cd := cd_queuedAt (a := a) (v := v) (hI.2 0 0).1
  obtain ⟨τ, A2, B2, hCt, hS, e13, hF⟩ := kc_up hC (s_X10_queuedAt ok) (ws2 hC.2)
  have hst := so_queuedAt a c
  subst eA
  have hV3 : INV (g_X10_queuedAt a c).2 v := hV2.vfr (fun k hk => funext fun i => (fr_queuedAt k i hk.1).symm)
  have hW := hR9.call (v' := v) (y' := y) (x' := x + 1) hS hV3 e13 (by have := hst.1; omega) (by have := hst.2; omega) hF
  rcases hA with ⟨z, e⟩ | ⟨z, e⟩
  · rw [e] at hCt
    rw [qc_v z]
    refine ⟨τ, Ct.ofH (by decide +kernel) k_L_queuedAt (Nat.le_of_ble_eq_true rfl) (by simp [Value.category, va_rf]) ?_, hW⟩
    refine Ev.aload_n (i := 0) dL_queuedAt_0 rfl rfl ?_
    refine Ev.iload_n (i := 1) dL_queuedAt_1 rfl rfl ?_
    refine Ev.callV (ci := 13) (C := RX10) (T := TX10) (N := 12) (As := [_]) (v := some (.int (i32 (f_queuedAt a v).1))) k_X10_queuedAt rfl kdh (tb3 (i := 176) rfl) ki_X10_queuedAt kv_X10_queuedAt dL_queuedAt_2 rfl rfl (Nat.le_of_ble_eq_true rfl) (Nat.le_refl _) hCt ?_
    exact Ev.iret rfl rfl dL_queuedAt_5
  · rw [e] at hCt
    have z1 : (f_queuedAt a v).2 0 0 = 1 := by omega
    rw [z1] at hCt
    rw [qc_x z1 (by decide)]
    refine ⟨τ, Ct.ofH (by decide +kernel) k_L_queuedAt (Nat.le_of_ble_eq_true rfl) (by simp [Value.category, va_rf]) ?_, hW⟩
    refine Ev.aload_n (i := 0) dL_queuedAt_0 rfl rfl ?_
    refine Ev.iload_n (i := 1) dL_queuedAt_1 rfl rfl ?_
    have hp : ∀ z ∈ ([] : List (Nat × Nat × Nat × Nat)), z.2.2.2 ≠ 0 ∧ ∃ nm, Cond.classLink m_L_queuedAt.y.cls z.2.2.2 nm ∈ lw_tbl ∧ xcp nm ∧ xNSE ≠ nm := fun z hz => by
      cases hz
    refine Ev.callVc (ci := 13) (C := RX10) (T := TX10) (N := 12) (As := [_]) (E := xNSE) (pre := []) (suf := []) (xa := 0) (xb := 5) (xh := 6) (xt := 43) hN (Or.inr (Or.inr (Or.inl rfl))) k_X10_queuedAt rfl kdh (tb3 (i := 176) rfl) ki_X10_queuedAt kv_X10_queuedAt dL_queuedAt_2 rfl rfl (Nat.le_of_ble_eq_true rfl) (Nat.le_refl _) rfl (by decide) (by decide) hp (tb2 (i := 239) rfl) (tb3 (i := 69) rfl) hCt (fun q => ?_)
    refine Ev.astore_n (i := 2) dL_queuedAt_6 rfl (by decide) ?_
    refine Ev.bipush (v := i32 (-75)) dL_queuedAt_7 (by decide) ?_
    exact Ev.iret rfl rfl dL_queuedAt_9
def m_L_forecast : Mt := (yL_forecast, cL_forecast, 2, some .int, [(0, 4, 5, 43)])
theorem k_L_forecast : cokH m_L_forecast 1 := ⟨rfl, (tb3 (i := 182) rfl), (tb1 (i := 0) rfl), by decide, by decide +kernel, by decide⟩
theorem ki_L_forecast : Cond.static m_L_forecast.y ∈ lw_tbl := (tb3 (i := 181) rfl)
def cod_forecast : Int → Int := fun k => -75
theorem cd_forecast {v : Vw} (h : (0 : Int) ≤ v 0 0) : (f_forecast v).2 0 0 ≤ 1 := by
  unfold f_forecast
  split
  · exact cd_can v
  · show (f_forecastOf 39 (f_canForecast v).2).2 0 0 ≤ 1
    rw [fr_forecastOf 0 0 (by decide)]
    exact cd_can v
theorem w_forecast {X : Cx} {h : Nat} {v : Vw} {y x : Int} {n m : Nat} {R : List Ar} {T E  : Int} (hN : KN X) (hI : IM v T E) : Kl X h m_L_forecast 8 [va_rf (some h)] (v, (y, x), (n, m), R) (.inl (some (.int (i32 (qc cod_forecast (f_forecast v)))))) ((f_forecast v).2, (y + 1, x + 1), (n, m), R) := by
  intro σ hR
  have kdh : σ.kd h = 13 + 1 := hR.kd
  have hR9 := hR
  obtain ⟨⟨A, c, B, hC, hV, eA, h6, hx⟩, -⟩ := hR
  have h6 : c.1 6 ≤ y := h6
  have hx : c.2.2.2 ≤ x := hx
  have hV : INV c v := hV
  obtain ⟨ok, hA, hV2⟩ := fc_forecast hV hI
  have cd := cd_forecast (v := v) (hI.2 0 0).1
  obtain ⟨τ, A2, B2, hCt, hS, e13, hF⟩ := kc_up hC (s_X10_forecast ok) (ws1 hC.2)
  have hst := st_forecast hV hI
  subst eA
  have hW := hR9.call (y' := y + 1) (x' := x + 1) hS hV2 e13 (by have := hst.1; omega) (by have := hst.2; omega) hF
  rcases hA with ⟨z, e⟩ | ⟨z, e⟩
  · rw [e] at hCt
    rw [qc_v z]
    refine ⟨τ, Ct.ofH (by decide +kernel) k_L_forecast (Nat.le_of_ble_eq_true rfl) (by simp [Value.category, va_rf]) ?_, hW⟩
    refine Ev.aload_n (i := 0) dL_forecast_0 rfl rfl ?_
    refine Ev.callV (ci := 13) (C := RX10) (T := TX10) (N := 12) (As := []) (v := some (.int (i32 (f_forecast v).1))) k_X10_forecast rfl kdh (tb3 (i := 183) rfl) ki_X10_forecast kv_X10_forecast dL_forecast_1 rfl rfl (Nat.le_of_ble_eq_true rfl) (Nat.le_refl _) hCt ?_
    exact Ev.iret rfl rfl dL_forecast_4
  · rw [e] at hCt
    have z1 : (f_forecast v).2 0 0 = 1 := by omega
    rw [z1] at hCt
    rw [qc_x z1 (by decide)]
    refine ⟨τ, Ct.ofH (by decide +kernel) k_L_forecast (Nat.le_of_ble_eq_true rfl) (by simp [Value.category, va_rf]) ?_, hW⟩
    refine Ev.aload_n (i := 0) dL_forecast_0 rfl rfl ?_
    have hp : ∀ z ∈ ([] : List (Nat × Nat × Nat × Nat)), z.2.2.2 ≠ 0 ∧ ∃ nm, Cond.classLink m_L_forecast.y.cls z.2.2.2 nm ∈ lw_tbl ∧ xcp nm ∧ xNSE ≠ nm := fun z hz => by
      cases hz
    refine Ev.callVc (ci := 13) (C := RX10) (T := TX10) (N := 12) (As := []) (E := xNSE) (pre := []) (suf := []) (xa := 0) (xb := 4) (xh := 5) (xt := 43) hN (Or.inr (Or.inr (Or.inl rfl))) k_X10_forecast rfl kdh (tb3 (i := 183) rfl) ki_X10_forecast kv_X10_forecast dL_forecast_1 rfl rfl (Nat.le_of_ble_eq_true rfl) (Nat.le_refl _) rfl (by decide) (by decide) hp (tb2 (i := 239) rfl) (tb3 (i := 69) rfl) hCt (fun q => ?_)
    refine Ev.astore_n (i := 1) dL_forecast_5 rfl (by decide) ?_
    refine Ev.bipush (v := i32 (-75)) dL_forecast_6 (by decide) ?_
    exact Ev.iret rfl rfl dL_forecast_8
def m_L_bestForecast : Mt := (yL_bestForecast, cL_bestForecast, 2, some .int, [(0, 4, 5, 43)])
theorem k_L_bestForecast : cokH m_L_bestForecast 1 := ⟨rfl, (tb3 (i := 235) rfl), (tb1 (i := 0) rfl), by decide, by decide +kernel, by decide⟩
theorem ki_L_bestForecast : Cond.static m_L_bestForecast.y ∈ lw_tbl := (tb3 (i := 234) rfl)
def cod_bestForecast : Int → Int := fun k => -75
theorem cd_bestForecast {v : Vw} (h : (0 : Int) ≤ v 0 0) : (f_bestForecast v).2 0 0 ≤ 1 := by
  unfold f_bestForecast
  split
  · exact cd_can v
  · show (f_finds (f_canForecast v).2).2 0 0 ≤ 1
    rw [fr_finds 0 0 (by decide)]
    exact cd_can v
theorem w_bestForecast {X : Cx} {h : Nat} {v : Vw} {y x : Int} {n m : Nat} {R : List Ar} {T E  : Int} (hN : KN X) (hI : IM v T E) : Kl X h m_L_bestForecast 22 [va_rf (some h)] (v, (y, x), (n, m), R) (.inl (some (.int (i32 (qc cod_bestForecast (f_bestForecast v)))))) ((f_bestForecast v).2, (y + 1, x + 1), (n, m), R) := by
  intro σ hR
  have kdh : σ.kd h = 13 + 1 := hR.kd
  have hR9 := hR
  obtain ⟨⟨A, c, B, hC, hV, eA, h6, hx⟩, -⟩ := hR
  have h6 : c.1 6 ≤ y := h6
  have hx : c.2.2.2 ≤ x := hx
  have hV : INV c v := hV
  obtain ⟨ok, hA, hV2⟩ := fc_bestForecast hV hI
  have cd := cd_bestForecast (v := v) (hI.2 0 0).1
  obtain ⟨τ, A2, B2, hCt, hS, e13, hF⟩ := kc_up hC (s_X10_bestForecast ok) (ws1 hC.2)
  have hst := st_bestForecast hV hI
  subst eA
  have hW := hR9.call (y' := y + 1) (x' := x + 1) hS hV2 e13 (by have := hst.1; omega) (by have := hst.2; omega) hF
  rcases hA with ⟨z, e⟩ | ⟨z, e⟩
  · rw [e] at hCt
    rw [qc_v z]
    refine ⟨τ, Ct.ofH (by decide +kernel) k_L_bestForecast (Nat.le_of_ble_eq_true rfl) (by simp [Value.category, va_rf]) ?_, hW⟩
    refine Ev.aload_n (i := 0) dL_bestForecast_0 rfl rfl ?_
    refine Ev.callV (ci := 13) (C := RX10) (T := TX10) (N := 12) (As := []) (v := some (.int (i32 (f_bestForecast v).1))) k_X10_bestForecast rfl kdh (tb3 (i := 236) rfl) ki_X10_bestForecast kv_X10_bestForecast dL_bestForecast_1 rfl rfl (Nat.le_of_ble_eq_true rfl) (Nat.le_refl _) hCt ?_
    exact Ev.iret rfl rfl dL_bestForecast_4
  · rw [e] at hCt
    have z1 : (f_bestForecast v).2 0 0 = 1 := by omega
    rw [z1] at hCt
    rw [qc_x z1 (by decide)]
    refine ⟨τ, Ct.ofH (by decide +kernel) k_L_bestForecast (Nat.le_of_ble_eq_true rfl) (by simp [Value.category, va_rf]) ?_, hW⟩
    refine Ev.aload_n (i := 0) dL_bestForecast_0 rfl rfl ?_
    have hp : ∀ z ∈ ([] : List (Nat × Nat × Nat × Nat)), z.2.2.2 ≠ 0 ∧ ∃ nm, Cond.classLink m_L_bestForecast.y.cls z.2.2.2 nm ∈ lw_tbl ∧ xcp nm ∧ xNSE ≠ nm := fun z hz => by
      cases hz
    refine Ev.callVc (ci := 13) (C := RX10) (T := TX10) (N := 12) (As := []) (E := xNSE) (pre := []) (suf := []) (xa := 0) (xb := 4) (xh := 5) (xt := 43) hN (Or.inr (Or.inr (Or.inl rfl))) k_X10_bestForecast rfl kdh (tb3 (i := 236) rfl) ki_X10_bestForecast kv_X10_bestForecast dL_bestForecast_1 rfl rfl (Nat.le_of_ble_eq_true rfl) (Nat.le_refl _) rfl (by decide) (by decide) hp (tb2 (i := 239) rfl) (tb3 (i := 69) rfl) hCt (fun q => ?_)
    refine Ev.astore_n (i := 1) dL_bestForecast_5 rfl (by decide) ?_
    refine Ev.bipush (v := i32 (-75)) dL_bestForecast_6 (by decide) ?_
    exact Ev.iret rfl rfl dL_bestForecast_8
def m_L_bestForecastByTrying : Mt := (yL_bestForecastByTrying, cL_bestForecastByTrying, 2, some .int, [(0, 4, 5, 43)])
theorem k_L_bestForecastByTrying : cokH m_L_bestForecastByTrying 1 := ⟨rfl, (tb5 (i := 47) rfl), (tb1 (i := 0) rfl), by decide, by decide +kernel, by decide⟩
theorem ki_L_bestForecastByTrying : Cond.static m_L_bestForecastByTrying.y ∈ lw_tbl := (tb5 (i := 46) rfl)
def cod_bestForecastByTrying : Int → Int := fun k => -75
theorem cd_bestForecastByTrying {v : Vw} (h : (0 : Int) ≤ v 0 0) : (f_bestForecastByTrying v).2 0 0 ≤ 1 := by
  unfold f_bestForecastByTrying
  show (f_bestForecast v).2 0 0 ≤ 1
  exact cd_bestForecast h
theorem w_bestForecastByTrying {X : Cx} {h : Nat} {v : Vw} {y x : Int} {n m : Nat} {R : List Ar} {T E  : Int} (hN : KN X) (hI : IM v T E) : Kl X h m_L_bestForecastByTrying 10 [va_rf (some h)] (v, (y, x), (n, m), R) (.inl (some (.int (i32 (qc cod_bestForecastByTrying (f_bestForecastByTrying v)))))) ((f_bestForecastByTrying v).2, (y + 1, x + 1), (n, m), R) := by
  intro σ hR
  have kdh : σ.kd h = 13 + 1 := hR.kd
  have hR9 := hR
  obtain ⟨⟨A, c, B, hC, hV, eA, h6, hx⟩, -⟩ := hR
  have h6 : c.1 6 ≤ y := h6
  have hx : c.2.2.2 ≤ x := hx
  have hV : INV c v := hV
  obtain ⟨ok, hA, hV2⟩ := fc_bestForecastByTrying hV hI
  have cd := cd_bestForecastByTrying (v := v) (hI.2 0 0).1
  obtain ⟨τ, A2, B2, hCt, hS, e13, hF⟩ := kc_up hC (s_X10_bestForecastByTrying ok) (ws1 hC.2)
  have hst := st_bestForecastByTrying hV hI
  subst eA
  have hW := hR9.call (y' := y + 1) (x' := x + 1) hS hV2 e13 (by have := hst.1; omega) (by have := hst.2; omega) hF
  rcases hA with ⟨z, e⟩ | ⟨z, e⟩
  · rw [e] at hCt
    rw [qc_v z]
    refine ⟨τ, Ct.ofH (by decide +kernel) k_L_bestForecastByTrying (Nat.le_of_ble_eq_true rfl) (by simp [Value.category, va_rf]) ?_, hW⟩
    refine Ev.aload_n (i := 0) dL_bestForecastByTrying_0 rfl rfl ?_
    refine Ev.callV (ci := 13) (C := RX10) (T := TX10) (N := 12) (As := []) (v := some (.int (i32 (f_bestForecastByTrying v).1))) k_X10_bestForecastByTrying rfl kdh (tb5 (i := 48) rfl) ki_X10_bestForecastByTrying kv_X10_bestForecastByTrying dL_bestForecastByTrying_1 rfl rfl (Nat.le_of_ble_eq_true rfl) (Nat.le_refl _) hCt ?_
    exact Ev.iret rfl rfl dL_bestForecastByTrying_4
  · rw [e] at hCt
    have z1 : (f_bestForecastByTrying v).2 0 0 = 1 := by omega
    rw [z1] at hCt
    rw [qc_x z1 (by decide)]
    refine ⟨τ, Ct.ofH (by decide +kernel) k_L_bestForecastByTrying (Nat.le_of_ble_eq_true rfl) (by simp [Value.category, va_rf]) ?_, hW⟩
    refine Ev.aload_n (i := 0) dL_bestForecastByTrying_0 rfl rfl ?_
    have hp : ∀ z ∈ ([] : List (Nat × Nat × Nat × Nat)), z.2.2.2 ≠ 0 ∧ ∃ nm, Cond.classLink m_L_bestForecastByTrying.y.cls z.2.2.2 nm ∈ lw_tbl ∧ xcp nm ∧ xNSE ≠ nm := fun z hz => by
      cases hz
    refine Ev.callVc (ci := 13) (C := RX10) (T := TX10) (N := 12) (As := []) (E := xNSE) (pre := []) (suf := []) (xa := 0) (xb := 4) (xh := 5) (xt := 43) hN (Or.inr (Or.inr (Or.inl rfl))) k_X10_bestForecastByTrying rfl kdh (tb5 (i := 48) rfl) ki_X10_bestForecastByTrying kv_X10_bestForecastByTrying dL_bestForecastByTrying_1 rfl rfl (Nat.le_of_ble_eq_true rfl) (Nat.le_refl _) rfl (by decide) (by decide) hp (tb2 (i := 239) rfl) (tb3 (i := 69) rfl) hCt (fun q => ?_)
    refine Ev.astore_n (i := 1) dL_bestForecastByTrying_5 rfl (by decide) ?_
    refine Ev.bipush (v := i32 (-75)) dL_bestForecastByTrying_6 (by decide) ?_
    exact Ev.iret rfl rfl dL_bestForecastByTrying_8
def m_L_improve : Mt := (yL_improve, cL_improve, 2, some .int, [(0, 4, 5, 43)])
theorem k_L_improve : cokH m_L_improve 1 := ⟨rfl, (tb5 (i := 74) rfl), (tb1 (i := 0) rfl), by decide, by decide +kernel, by decide⟩
theorem ki_L_improve : Cond.static m_L_improve.y ∈ lw_tbl := (tb5 (i := 73) rfl)
def cod_improve : Int → Int := fun k => -75
theorem cd_improve {v : Vw} (h : (0 : Int) ≤ v 0 0) : (f_improve v).2 0 0 ≤ 1 := by
  unfold f_improve
  split
  · exact cd_can v
  · rw [fr_l_improve_25 _ _ _ 0 0 (by decide), fr_finds 0 0 (by decide), fr_forecastOf 0 0 (by decide)]
    exact cd_can v
theorem w_improve {X : Cx} {h : Nat} {v : Vw} {y x : Int} {n m : Nat} {R : List Ar} {T E  : Int} (hN : KN X) (hI : IM v T E) : Kl X h m_L_improve 22 [va_rf (some h)] (v, (y, x), (n, m), R) (.inl (some (.int (i32 (qc cod_improve (f_improve v)))))) ((f_improve v).2, (y + 1, x + 1), (n, m), R) := by
  intro σ hR
  have kdh : σ.kd h = 13 + 1 := hR.kd
  have hR9 := hR
  obtain ⟨⟨A, c, B, hC, hV, eA, h6, hx⟩, -⟩ := hR
  have h6 : c.1 6 ≤ y := h6
  have hx : c.2.2.2 ≤ x := hx
  have hV : INV c v := hV
  obtain ⟨ok, hA, hV2⟩ := fc_improve hV hI
  have cd := cd_improve (v := v) (hI.2 0 0).1
  obtain ⟨τ, A2, B2, hCt, hS, e13, hF⟩ := kc_up hC (s_X10_improve ok) (ws1 hC.2)
  have hst := st_improve hV hI
  subst eA
  have hW := hR9.call (y' := y + 1) (x' := x + 1) hS hV2 e13 (by have := hst.1; omega) (by have := hst.2; omega) hF
  rcases hA with ⟨z, e⟩ | ⟨z, e⟩
  · rw [e] at hCt
    rw [qc_v z]
    refine ⟨τ, Ct.ofH (by decide +kernel) k_L_improve (Nat.le_of_ble_eq_true rfl) (by simp [Value.category, va_rf]) ?_, hW⟩
    refine Ev.aload_n (i := 0) dL_improve_0 rfl rfl ?_
    refine Ev.callV (ci := 13) (C := RX10) (T := TX10) (N := 12) (As := []) (v := some (.int (i32 (f_improve v).1))) k_X10_improve rfl kdh (tb5 (i := 75) rfl) ki_X10_improve kv_X10_improve dL_improve_1 rfl rfl (Nat.le_of_ble_eq_true rfl) (Nat.le_refl _) hCt ?_
    exact Ev.iret rfl rfl dL_improve_4
  · rw [e] at hCt
    have z1 : (f_improve v).2 0 0 = 1 := by omega
    rw [z1] at hCt
    rw [qc_x z1 (by decide)]
    refine ⟨τ, Ct.ofH (by decide +kernel) k_L_improve (Nat.le_of_ble_eq_true rfl) (by simp [Value.category, va_rf]) ?_, hW⟩
    refine Ev.aload_n (i := 0) dL_improve_0 rfl rfl ?_
    have hp : ∀ z ∈ ([] : List (Nat × Nat × Nat × Nat)), z.2.2.2 ≠ 0 ∧ ∃ nm, Cond.classLink m_L_improve.y.cls z.2.2.2 nm ∈ lw_tbl ∧ xcp nm ∧ xNSE ≠ nm := fun z hz => by
      cases hz
    refine Ev.callVc (ci := 13) (C := RX10) (T := TX10) (N := 12) (As := []) (E := xNSE) (pre := []) (suf := []) (xa := 0) (xb := 4) (xh := 5) (xt := 43) hN (Or.inr (Or.inr (Or.inl rfl))) k_X10_improve rfl kdh (tb5 (i := 75) rfl) ki_X10_improve kv_X10_improve dL_improve_1 rfl rfl (Nat.le_of_ble_eq_true rfl) (Nat.le_refl _) rfl (by decide) (by decide) hp (tb2 (i := 239) rfl) (tb3 (i := 69) rfl) hCt (fun q => ?_)
    refine Ev.astore_n (i := 1) dL_improve_5 rfl (by decide) ?_
    refine Ev.bipush (v := i32 (-75)) dL_improve_6 (by decide) ?_
    exact Ev.iret rfl rfl dL_improve_8
def m_L_order : Mt := (yL_order, cL_order, 5, some .int, [(0, 7, 8, 39), (0, 7, 13, 20), (0, 7, 18, 22)])
theorem k_L_order : cokH m_L_order 4 := ⟨rfl, (tb5 (i := 82) rfl), (tb1 (i := 0) rfl), by decide, by decide +kernel, by decide⟩
theorem ki_L_order : Cond.static m_L_order.y ∈ lw_tbl := (tb5 (i := 81) rfl)
def cod_order : Int → Int := fun k => if k = 1 then -77 else if k = 2 then -78 else -79
theorem cd_order {a b f : Int} {v : Vw} (h : (0 : Int) ≤ v 0 0) : (f_order a b f v).2 0 0 ≤ 3 := by
  unfold f_order
  repeat' split
  all_goals first
    | (simp [f_fails, upv, f_adds]; done)
    | exact Int.le_trans (cd_one _ _) (by decide)
    | (rw [fr_starts 0 0 (by decide)]; simp [upv]; done)
    | (show f_starts _ _ _ 0 0 ≤ _; rw [fr_starts 0 0 (by decide)]; simp [upv]; done)
theorem w_order {X : Cx} {h : Nat} {v : Vw} {y x : Int} {n m : Nat} {R : List Ar} {T E a b f : Int} (hN : KN X) (hI : IM v T E) (ha : R32 a) (hb : R32 b) (hf : R32 f) : Kl X h m_L_order 9 [va_rf (some h), .int (i32 a), .int (i32 b), .int (i32 f)] (v, (y, x), (n, m), R) (.inl (some (.int (i32 (qc cod_order (f_order a b f v)))))) ((f_order a b f v).2, (y + 1, x + 1), (n, m), R) := by
  intro σ hR
  have kdh : σ.kd h = 13 + 1 := hR.kd
  have hR9 := hR
  obtain ⟨⟨A, c, B, hC, hV, eA, h6, hx⟩, -⟩ := hR
  have h6 : c.1 6 ≤ y := h6
  have hx : c.2.2.2 ≤ x := hx
  have hV : INV c v := hV
  obtain ⟨ok, hA, hV2⟩ := fc_order hV hI ha hb hf
  have cd := cd_order (a := a) (b := b) (f := f) (v := v) (hI.2 0 0).1
  obtain ⟨τ, A2, B2, hCt, hS, e13, hF⟩ := kc_up hC (s_X10_order ok) (ws4 hC.2)
  have hst := st_order a b f c
  subst eA
  have hW := hR9.call (y' := y + 1) (x' := x + 1) hS hV2 e13 (by have := hst.1; omega) (by have := hst.2; omega) hF
  rcases hA with ⟨z, e⟩ | ⟨z, e⟩
  · rw [e] at hCt
    rw [qc_v z]
    refine ⟨τ, Ct.ofH (by decide +kernel) k_L_order (Nat.le_of_ble_eq_true rfl) (by simp [Value.category, va_rf]) ?_, hW⟩
    refine Ev.aload_n (i := 0) dL_order_0 rfl rfl ?_
    refine Ev.iload_n (i := 1) dL_order_1 rfl rfl ?_
    refine Ev.iload_n (i := 2) dL_order_2 rfl rfl ?_
    refine Ev.iload_n (i := 3) dL_order_3 rfl rfl ?_
    refine Ev.callV (ci := 13) (C := RX10) (T := TX10) (N := 12) (As := [_, _, _]) (v := some (.int (i32 (f_order a b f v).1))) k_X10_order rfl kdh (tb5 (i := 83) rfl) ki_X10_order kv_X10_order dL_order_4 rfl rfl (Nat.le_of_ble_eq_true rfl) (Nat.le_refl _) hCt ?_
    exact Ev.iret rfl rfl dL_order_7
  · rw [e] at hCt
    by_cases z1 : (f_order a b f v).2 0 0 = 1
    · rw [z1] at hCt
      rw [qc_x z1 (by decide)]
      refine ⟨τ, Ct.ofH (by decide +kernel) k_L_order (Nat.le_of_ble_eq_true rfl) (by simp [Value.category, va_rf]) ?_, hW⟩
      refine Ev.aload_n (i := 0) dL_order_0 rfl rfl ?_
      refine Ev.iload_n (i := 1) dL_order_1 rfl rfl ?_
      refine Ev.iload_n (i := 2) dL_order_2 rfl rfl ?_
      refine Ev.iload_n (i := 3) dL_order_3 rfl rfl ?_
      have hp : ∀ z ∈ ([] : List (Nat × Nat × Nat × Nat)), z.2.2.2 ≠ 0 ∧ ∃ nm, Cond.classLink m_L_order.y.cls z.2.2.2 nm ∈ lw_tbl ∧ xcp nm ∧ xIOB ≠ nm := fun z hz => by
        cases hz
      refine Ev.callVc (ci := 13) (C := RX10) (T := TX10) (N := 12) (As := [_, _, _]) (E := xIOB) (pre := []) (suf := [(0, 7, 13, 20), (0, 7, 18, 22)]) (xa := 0) (xb := 7) (xh := 8) (xt := 39) hN (Or.inr (Or.inr (Or.inr (Or.inl rfl)))) k_X10_order rfl kdh (tb5 (i := 83) rfl) ki_X10_order kv_X10_order dL_order_4 rfl rfl (Nat.le_of_ble_eq_true rfl) (Nat.le_refl _) rfl (by decide) (by decide) hp (tb2 (i := 237) rfl) (tb3 (i := 10) rfl) hCt (fun q => ?_)
      refine Ev.astore dL_order_8 (by decide) ?_
      refine Ev.bipush (v := i32 (-77)) dL_order_10 (by decide) ?_
      exact Ev.iret rfl rfl dL_order_12
    · have y1 := z1
      by_cases z2 : (f_order a b f v).2 0 0 = 2
      · rw [z2] at hCt
        rw [qc_x z2 (by decide)]
        refine ⟨τ, Ct.ofH (by decide +kernel) k_L_order (Nat.le_of_ble_eq_true rfl) (by simp [Value.category, va_rf]) ?_, hW⟩
        refine Ev.aload_n (i := 0) dL_order_0 rfl rfl ?_
        refine Ev.iload_n (i := 1) dL_order_1 rfl rfl ?_
        refine Ev.iload_n (i := 2) dL_order_2 rfl rfl ?_
        refine Ev.iload_n (i := 3) dL_order_3 rfl rfl ?_
        have hp : ∀ z ∈ ([(0, 7, 8, 39)] : List (Nat × Nat × Nat × Nat)), z.2.2.2 ≠ 0 ∧ ∃ nm, Cond.classLink m_L_order.y.cls z.2.2.2 nm ∈ lw_tbl ∧ xcp nm ∧ xIAE ≠ nm := fun z hz => by
          rcases List.mem_cons.mp hz with rfl | hz
          · exact ⟨by decide, _, (tb2 (i := 237) rfl), Or.inr (Or.inr (Or.inr (Or.inl rfl))), by decide⟩
          cases hz
        refine Ev.callVc (ci := 13) (C := RX10) (T := TX10) (N := 12) (As := [_, _, _]) (E := xIAE) (pre := [(0, 7, 8, 39)]) (suf := [(0, 7, 18, 22)]) (xa := 0) (xb := 7) (xh := 13) (xt := 20) hN (Or.inl rfl) k_X10_order rfl kdh (tb5 (i := 83) rfl) ki_X10_order kv_X10_order dL_order_4 rfl rfl (Nat.le_of_ble_eq_true rfl) (Nat.le_refl _) rfl (by decide) (by decide) hp (tb2 (i := 12) rfl) (tb2 (i := 24) rfl) hCt (fun q => ?_)
        refine Ev.astore dL_order_13 (by decide) ?_
        refine Ev.bipush (v := i32 (-78)) dL_order_15 (by decide) ?_
        exact Ev.iret rfl rfl dL_order_17
      · have y2 := z2
        have z3 : (f_order a b f v).2 0 0 = 3 := by omega
        rw [z3] at hCt
        rw [qc_x z3 (by decide)]
        refine ⟨τ, Ct.ofH (by decide +kernel) k_L_order (Nat.le_of_ble_eq_true rfl) (by simp [Value.category, va_rf]) ?_, hW⟩
        refine Ev.aload_n (i := 0) dL_order_0 rfl rfl ?_
        refine Ev.iload_n (i := 1) dL_order_1 rfl rfl ?_
        refine Ev.iload_n (i := 2) dL_order_2 rfl rfl ?_
        refine Ev.iload_n (i := 3) dL_order_3 rfl rfl ?_
        have hp : ∀ z ∈ ([(0, 7, 8, 39), (0, 7, 13, 20)] : List (Nat × Nat × Nat × Nat)), z.2.2.2 ≠ 0 ∧ ∃ nm, Cond.classLink m_L_order.y.cls z.2.2.2 nm ∈ lw_tbl ∧ xcp nm ∧ xISE ≠ nm := fun z hz => by
          rcases List.mem_cons.mp hz with rfl | hz
          · exact ⟨by decide, _, (tb2 (i := 237) rfl), Or.inr (Or.inr (Or.inr (Or.inl rfl))), by decide⟩
          rcases List.mem_cons.mp hz with rfl | hz
          · exact ⟨by decide, _, (tb2 (i := 12) rfl), Or.inl rfl, by decide⟩
          cases hz
        refine Ev.callVc (ci := 13) (C := RX10) (T := TX10) (N := 12) (As := [_, _, _]) (E := xISE) (pre := [(0, 7, 8, 39), (0, 7, 13, 20)]) (suf := []) (xa := 0) (xb := 7) (xh := 18) (xt := 22) hN (Or.inr (Or.inl rfl)) k_X10_order rfl kdh (tb5 (i := 83) rfl) ki_X10_order kv_X10_order dL_order_4 rfl rfl (Nat.le_of_ble_eq_true rfl) (Nat.le_refl _) rfl (by decide) (by decide) hp (tb2 (i := 13) rfl) (tb2 (i := 117) rfl) hCt (fun q => ?_)
        refine Ev.astore dL_order_18 (by decide) ?_
        refine Ev.bipush (v := i32 (-79)) dL_order_20 (by decide) ?_
        exact Ev.iret rfl rfl dL_order_22
def m_L_blend : Mt := (yL_blend, cL_blend, 5, some .int, [(0, 7, 8, 39), (0, 7, 13, 20), (0, 7, 18, 22)])
theorem k_L_blend : cokH m_L_blend 4 := ⟨rfl, (tb5 (i := 143) rfl), (tb1 (i := 0) rfl), by decide, by decide +kernel, by decide⟩
theorem ki_L_blend : Cond.static m_L_blend.y ∈ lw_tbl := (tb5 (i := 142) rfl)
def cod_blend : Int → Int := fun k => if k = 1 then -77 else if k = 2 then -78 else -79
theorem cd_blend {a b f : Int} {v : Vw} (h : (0 : Int) ≤ v 0 0) : (f_blend a b f v).2 0 0 ≤ 3 := by
  unfold f_blend
  repeat' split
  all_goals first
    | (simp [f_fails, upv, f_adds]; done)
    | exact Int.le_trans (cd_one _ _) (by decide)
    | (rw [fr_starts 0 0 (by decide)]; simp [upv]; done)
    | (show f_starts _ _ _ 0 0 ≤ _; rw [fr_starts 0 0 (by decide)]; simp [upv]; done)
theorem w_blend {X : Cx} {h : Nat} {v : Vw} {y x : Int} {n m : Nat} {R : List Ar} {T E a b f : Int} (hN : KN X) (hI : IM v T E) (ha : R32 a) (hb : R32 b) (hf : R32 f) : Kl X h m_L_blend 8 [va_rf (some h), .int (i32 a), .int (i32 b), .int (i32 f)] (v, (y, x), (n, m), R) (.inl (some (.int (i32 (qc cod_blend (f_blend a b f v)))))) ((f_blend a b f v).2, (y + 1, x + 1), (n, m), R) := by
  intro σ hR
  have kdh : σ.kd h = 13 + 1 := hR.kd
  have hR9 := hR
  obtain ⟨⟨A, c, B, hC, hV, eA, h6, hx⟩, -⟩ := hR
  have h6 : c.1 6 ≤ y := h6
  have hx : c.2.2.2 ≤ x := hx
  have hV : INV c v := hV
  obtain ⟨ok, hA, hV2⟩ := fc_blend hV hI ha hb hf
  have cd := cd_blend (a := a) (b := b) (f := f) (v := v) (hI.2 0 0).1
  obtain ⟨τ, A2, B2, hCt, hS, e13, hF⟩ := kc_up hC (s_X10_blend ok) (ws4 hC.2)
  have hst := st_blend a b f c
  subst eA
  have hW := hR9.call (y' := y + 1) (x' := x + 1) hS hV2 e13 (by have := hst.1; omega) (by have := hst.2; omega) hF
  rcases hA with ⟨z, e⟩ | ⟨z, e⟩
  · rw [e] at hCt
    rw [qc_v z]
    refine ⟨τ, Ct.ofH (by decide +kernel) k_L_blend (Nat.le_of_ble_eq_true rfl) (by simp [Value.category, va_rf]) ?_, hW⟩
    refine Ev.aload_n (i := 0) dL_blend_0 rfl rfl ?_
    refine Ev.iload_n (i := 1) dL_blend_1 rfl rfl ?_
    refine Ev.iload_n (i := 2) dL_blend_2 rfl rfl ?_
    refine Ev.iload_n (i := 3) dL_blend_3 rfl rfl ?_
    refine Ev.callV (ci := 13) (C := RX10) (T := TX10) (N := 12) (As := [_, _, _]) (v := some (.int (i32 (f_blend a b f v).1))) k_X10_blend rfl kdh (tb5 (i := 144) rfl) ki_X10_blend kv_X10_blend dL_blend_4 rfl rfl (Nat.le_of_ble_eq_true rfl) (Nat.le_refl _) hCt ?_
    exact Ev.iret rfl rfl dL_blend_7
  · rw [e] at hCt
    by_cases z1 : (f_blend a b f v).2 0 0 = 1
    · rw [z1] at hCt
      rw [qc_x z1 (by decide)]
      refine ⟨τ, Ct.ofH (by decide +kernel) k_L_blend (Nat.le_of_ble_eq_true rfl) (by simp [Value.category, va_rf]) ?_, hW⟩
      refine Ev.aload_n (i := 0) dL_blend_0 rfl rfl ?_
      refine Ev.iload_n (i := 1) dL_blend_1 rfl rfl ?_
      refine Ev.iload_n (i := 2) dL_blend_2 rfl rfl ?_
      refine Ev.iload_n (i := 3) dL_blend_3 rfl rfl ?_
      have hp : ∀ z ∈ ([] : List (Nat × Nat × Nat × Nat)), z.2.2.2 ≠ 0 ∧ ∃ nm, Cond.classLink m_L_blend.y.cls z.2.2.2 nm ∈ lw_tbl ∧ xcp nm ∧ xIOB ≠ nm := fun z hz => by
        cases hz
      refine Ev.callVc (ci := 13) (C := RX10) (T := TX10) (N := 12) (As := [_, _, _]) (E := xIOB) (pre := []) (suf := [(0, 7, 13, 20), (0, 7, 18, 22)]) (xa := 0) (xb := 7) (xh := 8) (xt := 39) hN (Or.inr (Or.inr (Or.inr (Or.inl rfl)))) k_X10_blend rfl kdh (tb5 (i := 144) rfl) ki_X10_blend kv_X10_blend dL_blend_4 rfl rfl (Nat.le_of_ble_eq_true rfl) (Nat.le_refl _) rfl (by decide) (by decide) hp (tb2 (i := 237) rfl) (tb3 (i := 10) rfl) hCt (fun q => ?_)
      refine Ev.astore dL_blend_8 (by decide) ?_
      refine Ev.bipush (v := i32 (-77)) dL_blend_10 (by decide) ?_
      exact Ev.iret rfl rfl dL_blend_12
    · have y1 := z1
      by_cases z2 : (f_blend a b f v).2 0 0 = 2
      · rw [z2] at hCt
        rw [qc_x z2 (by decide)]
        refine ⟨τ, Ct.ofH (by decide +kernel) k_L_blend (Nat.le_of_ble_eq_true rfl) (by simp [Value.category, va_rf]) ?_, hW⟩
        refine Ev.aload_n (i := 0) dL_blend_0 rfl rfl ?_
        refine Ev.iload_n (i := 1) dL_blend_1 rfl rfl ?_
        refine Ev.iload_n (i := 2) dL_blend_2 rfl rfl ?_
        refine Ev.iload_n (i := 3) dL_blend_3 rfl rfl ?_
        have hp : ∀ z ∈ ([(0, 7, 8, 39)] : List (Nat × Nat × Nat × Nat)), z.2.2.2 ≠ 0 ∧ ∃ nm, Cond.classLink m_L_blend.y.cls z.2.2.2 nm ∈ lw_tbl ∧ xcp nm ∧ xIAE ≠ nm := fun z hz => by
          rcases List.mem_cons.mp hz with rfl | hz
          · exact ⟨by decide, _, (tb2 (i := 237) rfl), Or.inr (Or.inr (Or.inr (Or.inl rfl))), by decide⟩
          cases hz
        refine Ev.callVc (ci := 13) (C := RX10) (T := TX10) (N := 12) (As := [_, _, _]) (E := xIAE) (pre := [(0, 7, 8, 39)]) (suf := [(0, 7, 18, 22)]) (xa := 0) (xb := 7) (xh := 13) (xt := 20) hN (Or.inl rfl) k_X10_blend rfl kdh (tb5 (i := 144) rfl) ki_X10_blend kv_X10_blend dL_blend_4 rfl rfl (Nat.le_of_ble_eq_true rfl) (Nat.le_refl _) rfl (by decide) (by decide) hp (tb2 (i := 12) rfl) (tb2 (i := 24) rfl) hCt (fun q => ?_)
        refine Ev.astore dL_blend_13 (by decide) ?_
        refine Ev.bipush (v := i32 (-78)) dL_blend_15 (by decide) ?_
        exact Ev.iret rfl rfl dL_blend_17
      · have y2 := z2
        have z3 : (f_blend a b f v).2 0 0 = 3 := by omega
        rw [z3] at hCt
        rw [qc_x z3 (by decide)]
        refine ⟨τ, Ct.ofH (by decide +kernel) k_L_blend (Nat.le_of_ble_eq_true rfl) (by simp [Value.category, va_rf]) ?_, hW⟩
        refine Ev.aload_n (i := 0) dL_blend_0 rfl rfl ?_
        refine Ev.iload_n (i := 1) dL_blend_1 rfl rfl ?_
        refine Ev.iload_n (i := 2) dL_blend_2 rfl rfl ?_
        refine Ev.iload_n (i := 3) dL_blend_3 rfl rfl ?_
        have hp : ∀ z ∈ ([(0, 7, 8, 39), (0, 7, 13, 20)] : List (Nat × Nat × Nat × Nat)), z.2.2.2 ≠ 0 ∧ ∃ nm, Cond.classLink m_L_blend.y.cls z.2.2.2 nm ∈ lw_tbl ∧ xcp nm ∧ xISE ≠ nm := fun z hz => by
          rcases List.mem_cons.mp hz with rfl | hz
          · exact ⟨by decide, _, (tb2 (i := 237) rfl), Or.inr (Or.inr (Or.inr (Or.inl rfl))), by decide⟩
          rcases List.mem_cons.mp hz with rfl | hz
          · exact ⟨by decide, _, (tb2 (i := 12) rfl), Or.inl rfl, by decide⟩
          cases hz
        refine Ev.callVc (ci := 13) (C := RX10) (T := TX10) (N := 12) (As := [_, _, _]) (E := xISE) (pre := [(0, 7, 8, 39), (0, 7, 13, 20)]) (suf := []) (xa := 0) (xb := 7) (xh := 18) (xt := 22) hN (Or.inr (Or.inl rfl)) k_X10_blend rfl kdh (tb5 (i := 144) rfl) ki_X10_blend kv_X10_blend dL_blend_4 rfl rfl (Nat.le_of_ble_eq_true rfl) (Nat.le_refl _) rfl (by decide) (by decide) hp (tb2 (i := 13) rfl) (tb2 (i := 117) rfl) hCt (fun q => ?_)
        refine Ev.astore dL_blend_18 (by decide) ?_
        refine Ev.bipush (v := i32 (-79)) dL_blend_20 (by decide) ?_
        exact Ev.iret rfl rfl dL_blend_22
def m_L_cancel : Mt := (yL_cancel, cL_cancel, 3, some .int, [(0, 5, 6, 39), (0, 5, 10, 22)])
theorem k_L_cancel : cokH m_L_cancel 2 := ⟨rfl, (tb5 (i := 157) rfl), (tb1 (i := 0) rfl), by decide, by decide +kernel, by decide⟩
theorem ki_L_cancel : Cond.static m_L_cancel.y ∈ lw_tbl := (tb5 (i := 156) rfl)
def cod_cancel : Int → Int := fun k => if k = 1 then -77 else -79
theorem cd_cancel {a : Int} {v : Vw} (h : (0 : Int) ≤ v 0 0) : (f_cancel a v).2 0 0 ≤ 2 := by
  unfold f_cancel
  repeat' split
  all_goals first
    | (simp [f_fails, upv, f_adds]; done)
    | exact Int.le_trans (cd_one _ _) (by decide)
    | (rw [fr_starts 0 0 (by decide)]; simp [upv]; done)
    | (show f_starts _ _ _ 0 0 ≤ _; rw [fr_starts 0 0 (by decide)]; simp [upv]; done)
theorem w_cancel {X : Cx} {h : Nat} {v : Vw} {y x : Int} {n m : Nat} {R : List Ar} {T E a : Int} (hN : KN X) (hI : IM v T E) (ha : R32 a) : Kl X h m_L_cancel 8 [va_rf (some h), .int (i32 a)] (v, (y, x), (n, m), R) (.inl (some (.int (i32 (qc cod_cancel (f_cancel a v)))))) ((f_cancel a v).2, (y + 1, x + 1), (n, m), R) := by
  intro σ hR
  have kdh : σ.kd h = 13 + 1 := hR.kd
  have hR9 := hR
  obtain ⟨⟨A, c, B, hC, hV, eA, h6, hx⟩, -⟩ := hR
  have h6 : c.1 6 ≤ y := h6
  have hx : c.2.2.2 ≤ x := hx
  have hV : INV c v := hV
  obtain ⟨ok, hA, hV2⟩ := fc_cancel hV hI ha
  have cd := cd_cancel (a := a) (v := v) (hI.2 0 0).1
  obtain ⟨τ, A2, B2, hCt, hS, e13, hF⟩ := kc_up hC (s_X10_cancel ok) (ws2 hC.2)
  have hst := st_cancel a c
  subst eA
  have hW := hR9.call (y' := y + 1) (x' := x + 1) hS hV2 e13 (by have := hst.1; omega) (by have := hst.2; omega) hF
  rcases hA with ⟨z, e⟩ | ⟨z, e⟩
  · rw [e] at hCt
    rw [qc_v z]
    refine ⟨τ, Ct.ofH (by decide +kernel) k_L_cancel (Nat.le_of_ble_eq_true rfl) (by simp [Value.category, va_rf]) ?_, hW⟩
    refine Ev.aload_n (i := 0) dL_cancel_0 rfl rfl ?_
    refine Ev.iload_n (i := 1) dL_cancel_1 rfl rfl ?_
    refine Ev.callV (ci := 13) (C := RX10) (T := TX10) (N := 12) (As := [_]) (v := some (.int (i32 (f_cancel a v).1))) k_X10_cancel rfl kdh (tb5 (i := 158) rfl) ki_X10_cancel kv_X10_cancel dL_cancel_2 rfl rfl (Nat.le_of_ble_eq_true rfl) (Nat.le_refl _) hCt ?_
    exact Ev.iret rfl rfl dL_cancel_5
  · rw [e] at hCt
    by_cases z1 : (f_cancel a v).2 0 0 = 1
    · rw [z1] at hCt
      rw [qc_x z1 (by decide)]
      refine ⟨τ, Ct.ofH (by decide +kernel) k_L_cancel (Nat.le_of_ble_eq_true rfl) (by simp [Value.category, va_rf]) ?_, hW⟩
      refine Ev.aload_n (i := 0) dL_cancel_0 rfl rfl ?_
      refine Ev.iload_n (i := 1) dL_cancel_1 rfl rfl ?_
      have hp : ∀ z ∈ ([] : List (Nat × Nat × Nat × Nat)), z.2.2.2 ≠ 0 ∧ ∃ nm, Cond.classLink m_L_cancel.y.cls z.2.2.2 nm ∈ lw_tbl ∧ xcp nm ∧ xIOB ≠ nm := fun z hz => by
        cases hz
      refine Ev.callVc (ci := 13) (C := RX10) (T := TX10) (N := 12) (As := [_]) (E := xIOB) (pre := []) (suf := [(0, 5, 10, 22)]) (xa := 0) (xb := 5) (xh := 6) (xt := 39) hN (Or.inr (Or.inr (Or.inr (Or.inl rfl)))) k_X10_cancel rfl kdh (tb5 (i := 158) rfl) ki_X10_cancel kv_X10_cancel dL_cancel_2 rfl rfl (Nat.le_of_ble_eq_true rfl) (Nat.le_refl _) rfl (by decide) (by decide) hp (tb2 (i := 237) rfl) (tb3 (i := 10) rfl) hCt (fun q => ?_)
      refine Ev.astore_n (i := 2) dL_cancel_6 rfl (by decide) ?_
      refine Ev.bipush (v := i32 (-77)) dL_cancel_7 (by decide) ?_
      exact Ev.iret rfl rfl dL_cancel_9
    · have y1 := z1
      have z2 : (f_cancel a v).2 0 0 = 2 := by omega
      rw [z2] at hCt
      rw [qc_x z2 (by decide)]
      refine ⟨τ, Ct.ofH (by decide +kernel) k_L_cancel (Nat.le_of_ble_eq_true rfl) (by simp [Value.category, va_rf]) ?_, hW⟩
      refine Ev.aload_n (i := 0) dL_cancel_0 rfl rfl ?_
      refine Ev.iload_n (i := 1) dL_cancel_1 rfl rfl ?_
      have hp : ∀ z ∈ ([(0, 5, 6, 39)] : List (Nat × Nat × Nat × Nat)), z.2.2.2 ≠ 0 ∧ ∃ nm, Cond.classLink m_L_cancel.y.cls z.2.2.2 nm ∈ lw_tbl ∧ xcp nm ∧ xISE ≠ nm := fun z hz => by
        rcases List.mem_cons.mp hz with rfl | hz
        · exact ⟨by decide, _, (tb2 (i := 237) rfl), Or.inr (Or.inr (Or.inr (Or.inl rfl))), by decide⟩
        cases hz
      refine Ev.callVc (ci := 13) (C := RX10) (T := TX10) (N := 12) (As := [_]) (E := xISE) (pre := [(0, 5, 6, 39)]) (suf := []) (xa := 0) (xb := 5) (xh := 10) (xt := 22) hN (Or.inr (Or.inl rfl)) k_X10_cancel rfl kdh (tb5 (i := 158) rfl) ki_X10_cancel kv_X10_cancel dL_cancel_2 rfl rfl (Nat.le_of_ble_eq_true rfl) (Nat.le_refl _) rfl (by decide) (by decide) hp (tb2 (i := 13) rfl) (tb2 (i := 117) rfl) hCt (fun q => ?_)
      refine Ev.astore_n (i := 2) dL_cancel_10 rfl (by decide) ?_
      refine Ev.bipush (v := i32 (-79)) dL_cancel_11 (by decide) ?_
      exact Ev.iret rfl rfl dL_cancel_13
def m_L_status : Mt := (yL_status, cL_status, 3, some .int, [(0, 5, 6, 39)])
theorem k_L_status : cokH m_L_status 2 := ⟨rfl, (tb5 (i := 174) rfl), (tb1 (i := 0) rfl), by decide, by decide +kernel, by decide⟩
theorem ki_L_status : Cond.static m_L_status.y ∈ lw_tbl := (tb5 (i := 173) rfl)
def cod_status : Int → Int := fun k => -77
theorem cd_status {a : Int} {v : Vw} (h : (0 : Int) ≤ v 0 0) : (f_status a v).2 0 0 ≤ 1 := by
  unfold f_status
  repeat' split
  all_goals first
    | (simp [f_fails, upv, f_adds]; done)
    | exact Int.le_trans (cd_one _ _) (by decide)
    | (rw [fr_starts 0 0 (by decide)]; simp [upv]; done)
    | (show f_starts _ _ _ 0 0 ≤ _; rw [fr_starts 0 0 (by decide)]; simp [upv]; done)
theorem w_status {X : Cx} {h : Nat} {v : Vw} {y x : Int} {n m : Nat} {R : List Ar} {T E a : Int} (hN : KN X) (hI : IM v T E) (ha : R32 a) : Kl X h m_L_status 8 [va_rf (some h), .int (i32 a)] (v, (y, x), (n, m), R) (.inl (some (.int (i32 (qc cod_status (f_status a v)))))) (v, (y, x + 1), (n, m), R) := by
  intro σ hR
  have kdh : σ.kd h = 13 + 1 := hR.kd
  have hR9 := hR
  obtain ⟨⟨A, c, B, hC, hV, eA, h6, hx⟩, -⟩ := hR
  have h6 : c.1 6 ≤ y := h6
  have hx : c.2.2.2 ≤ x := hx
  have hV : INV c v := hV
  obtain ⟨ok, hA, hV2⟩ := fc_status hV hI ha
  have cd := cd_status (a := a) (v := v) (hI.2 0 0).1
  obtain ⟨τ, A2, B2, hCt, hS, e13, hF⟩ := kc_up hC (s_X10_status ok) (ws2 hC.2)
  have hst := so_status a c
  subst eA
  have hV3 : INV (g_X10_status a c).2 v := hV2.vfr (fun k hk => funext fun i => (fr_status k i hk.1).symm)
  have hW := hR9.call (v' := v) (y' := y) (x' := x + 1) hS hV3 e13 (by have := hst.1; omega) (by have := hst.2; omega) hF
  rcases hA with ⟨z, e⟩ | ⟨z, e⟩
  · rw [e] at hCt
    rw [qc_v z]
    refine ⟨τ, Ct.ofH (by decide +kernel) k_L_status (Nat.le_of_ble_eq_true rfl) (by simp [Value.category, va_rf]) ?_, hW⟩
    refine Ev.aload_n (i := 0) dL_status_0 rfl rfl ?_
    refine Ev.iload_n (i := 1) dL_status_1 rfl rfl ?_
    refine Ev.callV (ci := 13) (C := RX10) (T := TX10) (N := 12) (As := [_]) (v := some (.int (i32 (f_status a v).1))) k_X10_status rfl kdh (tb5 (i := 175) rfl) ki_X10_status kv_X10_status dL_status_2 rfl rfl (Nat.le_of_ble_eq_true rfl) (Nat.le_refl _) hCt ?_
    exact Ev.iret rfl rfl dL_status_5
  · rw [e] at hCt
    have z1 : (f_status a v).2 0 0 = 1 := by omega
    rw [z1] at hCt
    rw [qc_x z1 (by decide)]
    refine ⟨τ, Ct.ofH (by decide +kernel) k_L_status (Nat.le_of_ble_eq_true rfl) (by simp [Value.category, va_rf]) ?_, hW⟩
    refine Ev.aload_n (i := 0) dL_status_0 rfl rfl ?_
    refine Ev.iload_n (i := 1) dL_status_1 rfl rfl ?_
    have hp : ∀ z ∈ ([] : List (Nat × Nat × Nat × Nat)), z.2.2.2 ≠ 0 ∧ ∃ nm, Cond.classLink m_L_status.y.cls z.2.2.2 nm ∈ lw_tbl ∧ xcp nm ∧ xIOB ≠ nm := fun z hz => by
      cases hz
    refine Ev.callVc (ci := 13) (C := RX10) (T := TX10) (N := 12) (As := [_]) (E := xIOB) (pre := []) (suf := []) (xa := 0) (xb := 5) (xh := 6) (xt := 39) hN (Or.inr (Or.inr (Or.inr (Or.inl rfl)))) k_X10_status rfl kdh (tb5 (i := 175) rfl) ki_X10_status kv_X10_status dL_status_2 rfl rfl (Nat.le_of_ble_eq_true rfl) (Nat.le_refl _) rfl (by decide) (by decide) hp (tb2 (i := 237) rfl) (tb3 (i := 10) rfl) hCt (fun q => ?_)
    refine Ev.astore_n (i := 2) dL_status_6 rfl (by decide) ?_
    refine Ev.bipush (v := i32 (-77)) dL_status_7 (by decide) ?_
    exact Ev.iret rfl rfl dL_status_9
def m_L_filledOn : Mt := (yL_filledOn, cL_filledOn, 3, some .int, [(0, 5, 6, 39), (0, 5, 10, 22)])
theorem k_L_filledOn : cokH m_L_filledOn 2 := ⟨rfl, (tb6 (i := 195) rfl), (tb1 (i := 0) rfl), by decide, by decide +kernel, by decide⟩
theorem ki_L_filledOn : Cond.static m_L_filledOn.y ∈ lw_tbl := (tb6 (i := 194) rfl)
def cod_filledOn : Int → Int := fun k => if k = 1 then -77 else -79
theorem cd_filledOn {a : Int} {v : Vw} (h : (0 : Int) ≤ v 0 0) : (f_filledOn a v).2 0 0 ≤ 2 := by
  unfold f_filledOn
  repeat' split
  all_goals first
    | (simp [f_fails, upv, f_adds]; done)
    | exact Int.le_trans (cd_one _ _) (by decide)
    | (rw [fr_starts 0 0 (by decide)]; simp [upv]; done)
    | (show f_starts _ _ _ 0 0 ≤ _; rw [fr_starts 0 0 (by decide)]; simp [upv]; done)
theorem w_filledOn {X : Cx} {h : Nat} {v : Vw} {y x : Int} {n m : Nat} {R : List Ar} {T E a : Int} (hN : KN X) (hI : IM v T E) (ha : R32 a) : Kl X h m_L_filledOn 8 [va_rf (some h), .int (i32 a)] (v, (y, x), (n, m), R) (.inl (some (.int (i32 (qc cod_filledOn (f_filledOn a v)))))) (v, (y, x + 1), (n, m), R) := by
  intro σ hR
  have kdh : σ.kd h = 13 + 1 := hR.kd
  have hR9 := hR
  obtain ⟨⟨A, c, B, hC, hV, eA, h6, hx⟩, -⟩ := hR
  have h6 : c.1 6 ≤ y := h6
  have hx : c.2.2.2 ≤ x := hx
  have hV : INV c v := hV
  obtain ⟨ok, hA, hV2⟩ := fc_filledOn hV hI ha
  have cd := cd_filledOn (a := a) (v := v) (hI.2 0 0).1
  obtain ⟨τ, A2, B2, hCt, hS, e13, hF⟩ := kc_up hC (s_X10_filledOn ok) (ws2 hC.2)
  have hst := so_filledOn a c
  subst eA
  have hV3 : INV (g_X10_filledOn a c).2 v := hV2.vfr (fun k hk => funext fun i => (fr_filledOn k i hk.1).symm)
  have hW := hR9.call (v' := v) (y' := y) (x' := x + 1) hS hV3 e13 (by have := hst.1; omega) (by have := hst.2; omega) hF
  rcases hA with ⟨z, e⟩ | ⟨z, e⟩
  · rw [e] at hCt
    rw [qc_v z]
    refine ⟨τ, Ct.ofH (by decide +kernel) k_L_filledOn (Nat.le_of_ble_eq_true rfl) (by simp [Value.category, va_rf]) ?_, hW⟩
    refine Ev.aload_n (i := 0) dL_filledOn_0 rfl rfl ?_
    refine Ev.iload_n (i := 1) dL_filledOn_1 rfl rfl ?_
    refine Ev.callV (ci := 13) (C := RX10) (T := TX10) (N := 12) (As := [_]) (v := some (.int (i32 (f_filledOn a v).1))) k_X10_filledOn rfl kdh (tb6 (i := 196) rfl) ki_X10_filledOn kv_X10_filledOn dL_filledOn_2 rfl rfl (Nat.le_of_ble_eq_true rfl) (Nat.le_refl _) hCt ?_
    exact Ev.iret rfl rfl dL_filledOn_5
  · rw [e] at hCt
    by_cases z1 : (f_filledOn a v).2 0 0 = 1
    · rw [z1] at hCt
      rw [qc_x z1 (by decide)]
      refine ⟨τ, Ct.ofH (by decide +kernel) k_L_filledOn (Nat.le_of_ble_eq_true rfl) (by simp [Value.category, va_rf]) ?_, hW⟩
      refine Ev.aload_n (i := 0) dL_filledOn_0 rfl rfl ?_
      refine Ev.iload_n (i := 1) dL_filledOn_1 rfl rfl ?_
      have hp : ∀ z ∈ ([] : List (Nat × Nat × Nat × Nat)), z.2.2.2 ≠ 0 ∧ ∃ nm, Cond.classLink m_L_filledOn.y.cls z.2.2.2 nm ∈ lw_tbl ∧ xcp nm ∧ xIOB ≠ nm := fun z hz => by
        cases hz
      refine Ev.callVc (ci := 13) (C := RX10) (T := TX10) (N := 12) (As := [_]) (E := xIOB) (pre := []) (suf := [(0, 5, 10, 22)]) (xa := 0) (xb := 5) (xh := 6) (xt := 39) hN (Or.inr (Or.inr (Or.inr (Or.inl rfl)))) k_X10_filledOn rfl kdh (tb6 (i := 196) rfl) ki_X10_filledOn kv_X10_filledOn dL_filledOn_2 rfl rfl (Nat.le_of_ble_eq_true rfl) (Nat.le_refl _) rfl (by decide) (by decide) hp (tb2 (i := 237) rfl) (tb3 (i := 10) rfl) hCt (fun q => ?_)
      refine Ev.astore_n (i := 2) dL_filledOn_6 rfl (by decide) ?_
      refine Ev.bipush (v := i32 (-77)) dL_filledOn_7 (by decide) ?_
      exact Ev.iret rfl rfl dL_filledOn_9
    · have y1 := z1
      have z2 : (f_filledOn a v).2 0 0 = 2 := by omega
      rw [z2] at hCt
      rw [qc_x z2 (by decide)]
      refine ⟨τ, Ct.ofH (by decide +kernel) k_L_filledOn (Nat.le_of_ble_eq_true rfl) (by simp [Value.category, va_rf]) ?_, hW⟩
      refine Ev.aload_n (i := 0) dL_filledOn_0 rfl rfl ?_
      refine Ev.iload_n (i := 1) dL_filledOn_1 rfl rfl ?_
      have hp : ∀ z ∈ ([(0, 5, 6, 39)] : List (Nat × Nat × Nat × Nat)), z.2.2.2 ≠ 0 ∧ ∃ nm, Cond.classLink m_L_filledOn.y.cls z.2.2.2 nm ∈ lw_tbl ∧ xcp nm ∧ xISE ≠ nm := fun z hz => by
        rcases List.mem_cons.mp hz with rfl | hz
        · exact ⟨by decide, _, (tb2 (i := 237) rfl), Or.inr (Or.inr (Or.inr (Or.inl rfl))), by decide⟩
        cases hz
      refine Ev.callVc (ci := 13) (C := RX10) (T := TX10) (N := 12) (As := [_]) (E := xISE) (pre := [(0, 5, 6, 39)]) (suf := []) (xa := 0) (xb := 5) (xh := 10) (xt := 22) hN (Or.inr (Or.inl rfl)) k_X10_filledOn rfl kdh (tb6 (i := 196) rfl) ki_X10_filledOn kv_X10_filledOn dL_filledOn_2 rfl rfl (Nat.le_of_ble_eq_true rfl) (Nat.le_refl _) rfl (by decide) (by decide) hp (tb2 (i := 13) rfl) (tb2 (i := 117) rfl) hCt (fun q => ?_)
      refine Ev.astore_n (i := 2) dL_filledOn_10 rfl (by decide) ?_
      refine Ev.bipush (v := i32 (-79)) dL_filledOn_11 (by decide) ?_
      exact Ev.iret rfl rfl dL_filledOn_13
def m_L_pass : Mt := (yL_pass, cL_pass, 3, some .int, [(0, 5, 6, 20)])
theorem k_L_pass : cokH m_L_pass 2 := ⟨rfl, (tb5 (i := 181) rfl), (tb1 (i := 0) rfl), by decide, by decide +kernel, by decide⟩
theorem ki_L_pass : Cond.static m_L_pass.y ∈ lw_tbl := (tb5 (i := 180) rfl)
def cod_pass : Int → Int := fun k => -78
theorem cd_pass {a : Int} {v : Vw} (h : (0 : Int) ≤ v 0 0) : (f_pass a v).2 0 0 ≤ 1 := by
  unfold f_pass
  split
  · simp [f_fails, upv]
  · exact cd_l28 _ _ _ (by simp [upv])
theorem w_pass {X : Cx} {h : Nat} {v : Vw} {y x : Int} {n m : Nat} {R : List Ar} {T E a : Int} (hN : KN X) (hI : IM v T E) (ha : R32 a) (hd : v 8 0 + 30 ≤ T) (hE : E + 102300 ≤ 1000000000) : Kl X h m_L_pass 13 [va_rf (some h), .int (i32 a)] (v, (y, x), (n, m), R) (.inl (some (.int (i32 (qc cod_pass (f_pass a v)))))) ((f_pass a v).2, (y + 1, x + 1), (n, m), R) := by
  intro σ hR
  have kdh : σ.kd h = 13 + 1 := hR.kd
  have hR9 := hR
  obtain ⟨⟨A, c, B, hC, hV, eA, h6, hx⟩, -⟩ := hR
  have h6 : c.1 6 ≤ y := h6
  have hx : c.2.2.2 ≤ x := hx
  have hV : INV c v := hV
  obtain ⟨ok, hA, hV2⟩ := fc_pass hV hI ha hd hE
  have cd := cd_pass (a := a) (v := v) (hI.2 0 0).1
  obtain ⟨τ, A2, B2, hCt, hS, e13, hF⟩ := kc_up hC (s_X10_pass ok) (ws2 hC.2)
  have hst := st_pass a c
  subst eA
  have hW := hR9.call (y' := y + 1) (x' := x + 1) hS hV2 e13 (by have := hst.1; omega) (by have := hst.2; omega) hF
  rcases hA with ⟨z, e⟩ | ⟨z, e⟩
  · rw [e] at hCt
    rw [qc_v z]
    refine ⟨τ, Ct.ofH (by decide +kernel) k_L_pass (Nat.le_of_ble_eq_true rfl) (by simp [Value.category, va_rf]) ?_, hW⟩
    refine Ev.aload_n (i := 0) dL_pass_0 rfl rfl ?_
    refine Ev.iload_n (i := 1) dL_pass_1 rfl rfl ?_
    refine Ev.callV (ci := 13) (C := RX10) (T := TX10) (N := 12) (As := [_]) (v := some (.int (i32 (f_pass a v).1))) k_X10_pass rfl kdh (tb5 (i := 182) rfl) ki_X10_pass kv_X10_pass dL_pass_2 rfl rfl (Nat.le_of_ble_eq_true rfl) (Nat.le_refl _) hCt ?_
    exact Ev.iret rfl rfl dL_pass_5
  · rw [e] at hCt
    have z1 : (f_pass a v).2 0 0 = 1 := by omega
    rw [z1] at hCt
    rw [qc_x z1 (by decide)]
    refine ⟨τ, Ct.ofH (by decide +kernel) k_L_pass (Nat.le_of_ble_eq_true rfl) (by simp [Value.category, va_rf]) ?_, hW⟩
    refine Ev.aload_n (i := 0) dL_pass_0 rfl rfl ?_
    refine Ev.iload_n (i := 1) dL_pass_1 rfl rfl ?_
    have hp : ∀ z ∈ ([] : List (Nat × Nat × Nat × Nat)), z.2.2.2 ≠ 0 ∧ ∃ nm, Cond.classLink m_L_pass.y.cls z.2.2.2 nm ∈ lw_tbl ∧ xcp nm ∧ xIAE ≠ nm := fun z hz => by
      cases hz
    refine Ev.callVc (ci := 13) (C := RX10) (T := TX10) (N := 12) (As := [_]) (E := xIAE) (pre := []) (suf := []) (xa := 0) (xb := 5) (xh := 6) (xt := 20) hN (Or.inl rfl) k_X10_pass rfl kdh (tb5 (i := 182) rfl) ki_X10_pass kv_X10_pass dL_pass_2 rfl rfl (Nat.le_of_ble_eq_true rfl) (Nat.le_refl _) rfl (by decide) (by decide) hp (tb2 (i := 12) rfl) (tb2 (i := 24) rfl) hCt (fun q => ?_)
    refine Ev.astore_n (i := 2) dL_pass_6 rfl (by decide) ?_
    refine Ev.bipush (v := i32 (-78)) dL_pass_7 (by decide) ?_
    exact Ev.iret rfl rfl dL_pass_9
def m_L_state : Mt := (yL_state, cL_state, 3, some .int, [(0, 5, 6, 39)])
theorem k_L_state : cokH m_L_state 2 := ⟨rfl, (tb6 (i := 109) rfl), (tb1 (i := 0) rfl), by decide, by decide +kernel, by decide⟩
theorem ki_L_state : Cond.static m_L_state.y ∈ lw_tbl := (tb6 (i := 108) rfl)
def cod_state : Int → Int := fun k => -77
theorem cd_state {a : Int} {v : Vw} (h : (0 : Int) ≤ v 0 0) : (f_state a v).2 0 0 ≤ 1 := by
  unfold f_state
  repeat' split
  all_goals first
    | (simp [f_fails, upv, f_adds]; done)
    | exact Int.le_trans (cd_one _ _) (by decide)
    | (rw [fr_starts 0 0 (by decide)]; simp [upv]; done)
    | (show f_starts _ _ _ 0 0 ≤ _; rw [fr_starts 0 0 (by decide)]; simp [upv]; done)
theorem w_state {X : Cx} {h : Nat} {v : Vw} {y x : Int} {n m : Nat} {R : List Ar} {T E a : Int} (hN : KN X) (hI : IM v T E) (ha : R32 a) : Kl X h m_L_state 8 [va_rf (some h), .int (i32 a)] (v, (y, x), (n, m), R) (.inl (some (.int (i32 (qc cod_state (f_state a v)))))) (v, (y, x + 1), (n, m), R) := by
  intro σ hR
  have kdh : σ.kd h = 13 + 1 := hR.kd
  have hR9 := hR
  obtain ⟨⟨A, c, B, hC, hV, eA, h6, hx⟩, -⟩ := hR
  have h6 : c.1 6 ≤ y := h6
  have hx : c.2.2.2 ≤ x := hx
  have hV : INV c v := hV
  obtain ⟨ok, hA, hV2⟩ := fc_state hV hI ha
  have cd := cd_state (a := a) (v := v) (hI.2 0 0).1
  obtain ⟨τ, A2, B2, hCt, hS, e13, hF⟩ := kc_up hC (s_X10_state ok) (ws2 hC.2)
  have hst := so_state a c
  subst eA
  have hV3 : INV (g_X10_state a c).2 v := hV2.vfr (fun k hk => funext fun i => (fr_state k i hk.1).symm)
  have hW := hR9.call (v' := v) (y' := y) (x' := x + 1) hS hV3 e13 (by have := hst.1; omega) (by have := hst.2; omega) hF
  rcases hA with ⟨z, e⟩ | ⟨z, e⟩
  · rw [e] at hCt
    rw [qc_v z]
    refine ⟨τ, Ct.ofH (by decide +kernel) k_L_state (Nat.le_of_ble_eq_true rfl) (by simp [Value.category, va_rf]) ?_, hW⟩
    refine Ev.aload_n (i := 0) dL_state_0 rfl rfl ?_
    refine Ev.iload_n (i := 1) dL_state_1 rfl rfl ?_
    refine Ev.callV (ci := 13) (C := RX10) (T := TX10) (N := 12) (As := [_]) (v := some (.int (i32 (f_state a v).1))) k_X10_state rfl kdh (tb6 (i := 110) rfl) ki_X10_state kv_X10_state dL_state_2 rfl rfl (Nat.le_of_ble_eq_true rfl) (Nat.le_refl _) hCt ?_
    exact Ev.iret rfl rfl dL_state_5
  · rw [e] at hCt
    have z1 : (f_state a v).2 0 0 = 1 := by omega
    rw [z1] at hCt
    rw [qc_x z1 (by decide)]
    refine ⟨τ, Ct.ofH (by decide +kernel) k_L_state (Nat.le_of_ble_eq_true rfl) (by simp [Value.category, va_rf]) ?_, hW⟩
    refine Ev.aload_n (i := 0) dL_state_0 rfl rfl ?_
    refine Ev.iload_n (i := 1) dL_state_1 rfl rfl ?_
    have hp : ∀ z ∈ ([] : List (Nat × Nat × Nat × Nat)), z.2.2.2 ≠ 0 ∧ ∃ nm, Cond.classLink m_L_state.y.cls z.2.2.2 nm ∈ lw_tbl ∧ xcp nm ∧ xIOB ≠ nm := fun z hz => by
      cases hz
    refine Ev.callVc (ci := 13) (C := RX10) (T := TX10) (N := 12) (As := [_]) (E := xIOB) (pre := []) (suf := []) (xa := 0) (xb := 5) (xh := 6) (xt := 39) hN (Or.inr (Or.inr (Or.inr (Or.inl rfl)))) k_X10_state rfl kdh (tb6 (i := 110) rfl) ki_X10_state kv_X10_state dL_state_2 rfl rfl (Nat.le_of_ble_eq_true rfl) (Nat.le_refl _) rfl (by decide) (by decide) hp (tb2 (i := 237) rfl) (tb3 (i := 10) rfl) hCt (fun q => ?_)
    refine Ev.astore_n (i := 2) dL_state_6 rfl (by decide) ?_
    refine Ev.bipush (v := i32 (-77)) dL_state_7 (by decide) ?_
    exact Ev.iret rfl rfl dL_state_9
def m_L_brewIn : Mt := (yL_brewIn, cL_brewIn, 3, some .int, [(0, 5, 6, 39), (0, 5, 10, 43)])
theorem k_L_brewIn : cokH m_L_brewIn 2 := ⟨rfl, (tb6 (i := 64) rfl), (tb1 (i := 0) rfl), by decide, by decide +kernel, by decide⟩
theorem ki_L_brewIn : Cond.static m_L_brewIn.y ∈ lw_tbl := (tb6 (i := 63) rfl)
def cod_brewIn : Int → Int := fun k => if k = 1 then -77 else -75
theorem cd_brewIn {a : Int} {v : Vw} (h : (0 : Int) ≤ v 0 0) : (f_brewIn a v).2 0 0 ≤ 2 := by
  unfold f_brewIn
  repeat' split
  all_goals first
    | (simp [f_fails, upv, f_adds]; done)
    | exact Int.le_trans (cd_one _ _) (by decide)
    | (rw [fr_starts 0 0 (by decide)]; simp [upv]; done)
    | (show f_starts _ _ _ 0 0 ≤ _; rw [fr_starts 0 0 (by decide)]; simp [upv]; done)
theorem w_brewIn {X : Cx} {h : Nat} {v : Vw} {y x : Int} {n m : Nat} {R : List Ar} {T E a : Int} (hN : KN X) (hI : IM v T E) (ha : R32 a) : Kl X h m_L_brewIn 8 [va_rf (some h), .int (i32 a)] (v, (y, x), (n, m), R) (.inl (some (.int (i32 (qc cod_brewIn (f_brewIn a v)))))) (v, (y, x + 1), (n, m), R) := by
  intro σ hR
  have kdh : σ.kd h = 13 + 1 := hR.kd
  have hR9 := hR
  obtain ⟨⟨A, c, B, hC, hV, eA, h6, hx⟩, -⟩ := hR
  have h6 : c.1 6 ≤ y := h6
  have hx : c.2.2.2 ≤ x := hx
  have hV : INV c v := hV
  obtain ⟨ok, hA, hV2⟩ := fc_brewIn hV hI ha
  have cd := cd_brewIn (a := a) (v := v) (hI.2 0 0).1
  obtain ⟨τ, A2, B2, hCt, hS, e13, hF⟩ := kc_up hC (s_X10_brewIn ok) (ws2 hC.2)
  have hst := so_brewIn a c
  subst eA
  have hV3 : INV (g_X10_brewIn a c).2 v := hV2.vfr (fun k hk => funext fun i => (fr_brewIn k i hk.1).symm)
  have hW := hR9.call (v' := v) (y' := y) (x' := x + 1) hS hV3 e13 (by have := hst.1; omega) (by have := hst.2; omega) hF
  rcases hA with ⟨z, e⟩ | ⟨z, e⟩
  · rw [e] at hCt
    rw [qc_v z]
    refine ⟨τ, Ct.ofH (by decide +kernel) k_L_brewIn (Nat.le_of_ble_eq_true rfl) (by simp [Value.category, va_rf]) ?_, hW⟩
    refine Ev.aload_n (i := 0) dL_brewIn_0 rfl rfl ?_
    refine Ev.iload_n (i := 1) dL_brewIn_1 rfl rfl ?_
    refine Ev.callV (ci := 13) (C := RX10) (T := TX10) (N := 12) (As := [_]) (v := some (.int (i32 (f_brewIn a v).1))) k_X10_brewIn rfl kdh (tb6 (i := 65) rfl) ki_X10_brewIn kv_X10_brewIn dL_brewIn_2 rfl rfl (Nat.le_of_ble_eq_true rfl) (Nat.le_refl _) hCt ?_
    exact Ev.iret rfl rfl dL_brewIn_5
  · rw [e] at hCt
    by_cases z1 : (f_brewIn a v).2 0 0 = 1
    · rw [z1] at hCt
      rw [qc_x z1 (by decide)]
      refine ⟨τ, Ct.ofH (by decide +kernel) k_L_brewIn (Nat.le_of_ble_eq_true rfl) (by simp [Value.category, va_rf]) ?_, hW⟩
      refine Ev.aload_n (i := 0) dL_brewIn_0 rfl rfl ?_
      refine Ev.iload_n (i := 1) dL_brewIn_1 rfl rfl ?_
      have hp : ∀ z ∈ ([] : List (Nat × Nat × Nat × Nat)), z.2.2.2 ≠ 0 ∧ ∃ nm, Cond.classLink m_L_brewIn.y.cls z.2.2.2 nm ∈ lw_tbl ∧ xcp nm ∧ xIOB ≠ nm := fun z hz => by
        cases hz
      refine Ev.callVc (ci := 13) (C := RX10) (T := TX10) (N := 12) (As := [_]) (E := xIOB) (pre := []) (suf := [(0, 5, 10, 43)]) (xa := 0) (xb := 5) (xh := 6) (xt := 39) hN (Or.inr (Or.inr (Or.inr (Or.inl rfl)))) k_X10_brewIn rfl kdh (tb6 (i := 65) rfl) ki_X10_brewIn kv_X10_brewIn dL_brewIn_2 rfl rfl (Nat.le_of_ble_eq_true rfl) (Nat.le_refl _) rfl (by decide) (by decide) hp (tb2 (i := 237) rfl) (tb3 (i := 10) rfl) hCt (fun q => ?_)
      refine Ev.astore_n (i := 2) dL_brewIn_6 rfl (by decide) ?_
      refine Ev.bipush (v := i32 (-77)) dL_brewIn_7 (by decide) ?_
      exact Ev.iret rfl rfl dL_brewIn_9
    · have y1 := z1
      have z2 : (f_brewIn a v).2 0 0 = 2 := by omega
      rw [z2] at hCt
      rw [qc_x z2 (by decide)]
      refine ⟨τ, Ct.ofH (by decide +kernel) k_L_brewIn (Nat.le_of_ble_eq_true rfl) (by simp [Value.category, va_rf]) ?_, hW⟩
      refine Ev.aload_n (i := 0) dL_brewIn_0 rfl rfl ?_
      refine Ev.iload_n (i := 1) dL_brewIn_1 rfl rfl ?_
      have hp : ∀ z ∈ ([(0, 5, 6, 39)] : List (Nat × Nat × Nat × Nat)), z.2.2.2 ≠ 0 ∧ ∃ nm, Cond.classLink m_L_brewIn.y.cls z.2.2.2 nm ∈ lw_tbl ∧ xcp nm ∧ xNSE ≠ nm := fun z hz => by
        rcases List.mem_cons.mp hz with rfl | hz
        · exact ⟨by decide, _, (tb2 (i := 237) rfl), Or.inr (Or.inr (Or.inr (Or.inl rfl))), by decide⟩
        cases hz
      refine Ev.callVc (ci := 13) (C := RX10) (T := TX10) (N := 12) (As := [_]) (E := xNSE) (pre := [(0, 5, 6, 39)]) (suf := []) (xa := 0) (xb := 5) (xh := 10) (xt := 43) hN (Or.inr (Or.inr (Or.inl rfl))) k_X10_brewIn rfl kdh (tb6 (i := 65) rfl) ki_X10_brewIn kv_X10_brewIn dL_brewIn_2 rfl rfl (Nat.le_of_ble_eq_true rfl) (Nat.le_refl _) rfl (by decide) (by decide) hp (tb2 (i := 239) rfl) (tb3 (i := 69) rfl) hCt (fun q => ?_)
      refine Ev.astore_n (i := 2) dL_brewIn_10 rfl (by decide) ?_
      refine Ev.bipush (v := i32 (-75)) dL_brewIn_11 (by decide) ?_
      exact Ev.iret rfl rfl dL_brewIn_13
def m_L_cleanDay : Mt := (yL_cleanDay, cL_cleanDay, 3, some .int, [(0, 5, 6, 39), (0, 5, 10, 43)])
theorem k_L_cleanDay : cokH m_L_cleanDay 2 := ⟨rfl, (tb6 (i := 131) rfl), (tb1 (i := 0) rfl), by decide, by decide +kernel, by decide⟩
theorem ki_L_cleanDay : Cond.static m_L_cleanDay.y ∈ lw_tbl := (tb6 (i := 130) rfl)
def cod_cleanDay : Int → Int := fun k => if k = 1 then -77 else -75
theorem cd_cleanDay {a : Int} {v : Vw} (h : (0 : Int) ≤ v 0 0) : (f_cleanDay a v).2 0 0 ≤ 2 := by
  unfold f_cleanDay
  repeat' split
  all_goals first
    | (simp [f_fails, upv, f_adds]; done)
    | exact Int.le_trans (cd_one _ _) (by decide)
    | (rw [fr_starts 0 0 (by decide)]; simp [upv]; done)
    | (show f_starts _ _ _ 0 0 ≤ _; rw [fr_starts 0 0 (by decide)]; simp [upv]; done)
theorem w_cleanDay {X : Cx} {h : Nat} {v : Vw} {y x : Int} {n m : Nat} {R : List Ar} {T E a : Int} (hN : KN X) (hI : IM v T E) (ha : R32 a) : Kl X h m_L_cleanDay 8 [va_rf (some h), .int (i32 a)] (v, (y, x), (n, m), R) (.inl (some (.int (i32 (qc cod_cleanDay (f_cleanDay a v)))))) (v, (y, x + 1), (n, m), R) := by
  intro σ hR
  have kdh : σ.kd h = 13 + 1 := hR.kd
  have hR9 := hR
  obtain ⟨⟨A, c, B, hC, hV, eA, h6, hx⟩, -⟩ := hR
  have h6 : c.1 6 ≤ y := h6
  have hx : c.2.2.2 ≤ x := hx
  have hV : INV c v := hV
  obtain ⟨ok, hA, hV2⟩ := fc_cleanDay hV hI ha
  have cd := cd_cleanDay (a := a) (v := v) (hI.2 0 0).1
  obtain ⟨τ, A2, B2, hCt, hS, e13, hF⟩ := kc_up hC (s_X10_cleanDay ok) (ws2 hC.2)
  have hst := so_cleanDay a c
  subst eA
  have hV3 : INV (g_X10_cleanDay a c).2 v := hV2.vfr (fun k hk => funext fun i => (fr_cleanDay k i hk.1).symm)
  have hW := hR9.call (v' := v) (y' := y) (x' := x + 1) hS hV3 e13 (by have := hst.1; omega) (by have := hst.2; omega) hF
  rcases hA with ⟨z, e⟩ | ⟨z, e⟩
  · rw [e] at hCt
    rw [qc_v z]
    refine ⟨τ, Ct.ofH (by decide +kernel) k_L_cleanDay (Nat.le_of_ble_eq_true rfl) (by simp [Value.category, va_rf]) ?_, hW⟩
    refine Ev.aload_n (i := 0) dL_cleanDay_0 rfl rfl ?_
    refine Ev.iload_n (i := 1) dL_cleanDay_1 rfl rfl ?_
    refine Ev.callV (ci := 13) (C := RX10) (T := TX10) (N := 12) (As := [_]) (v := some (.int (i32 (f_cleanDay a v).1))) k_X10_cleanDay rfl kdh (tb6 (i := 132) rfl) ki_X10_cleanDay kv_X10_cleanDay dL_cleanDay_2 rfl rfl (Nat.le_of_ble_eq_true rfl) (Nat.le_refl _) hCt ?_
    exact Ev.iret rfl rfl dL_cleanDay_5
  · rw [e] at hCt
    by_cases z1 : (f_cleanDay a v).2 0 0 = 1
    · rw [z1] at hCt
      rw [qc_x z1 (by decide)]
      refine ⟨τ, Ct.ofH (by decide +kernel) k_L_cleanDay (Nat.le_of_ble_eq_true rfl) (by simp [Value.category, va_rf]) ?_, hW⟩
      refine Ev.aload_n (i := 0) dL_cleanDay_0 rfl rfl ?_
      refine Ev.iload_n (i := 1) dL_cleanDay_1 rfl rfl ?_
      have hp : ∀ z ∈ ([] : List (Nat × Nat × Nat × Nat)), z.2.2.2 ≠ 0 ∧ ∃ nm, Cond.classLink m_L_cleanDay.y.cls z.2.2.2 nm ∈ lw_tbl ∧ xcp nm ∧ xIOB ≠ nm := fun z hz => by
        cases hz
      refine Ev.callVc (ci := 13) (C := RX10) (T := TX10) (N := 12) (As := [_]) (E := xIOB) (pre := []) (suf := [(0, 5, 10, 43)]) (xa := 0) (xb := 5) (xh := 6) (xt := 39) hN (Or.inr (Or.inr (Or.inr (Or.inl rfl)))) k_X10_cleanDay rfl kdh (tb6 (i := 132) rfl) ki_X10_cleanDay kv_X10_cleanDay dL_cleanDay_2 rfl rfl (Nat.le_of_ble_eq_true rfl) (Nat.le_refl _) rfl (by decide) (by decide) hp (tb2 (i := 237) rfl) (tb3 (i := 10) rfl) hCt (fun q => ?_)
      refine Ev.astore_n (i := 2) dL_cleanDay_6 rfl (by decide) ?_
      refine Ev.bipush (v := i32 (-77)) dL_cleanDay_7 (by decide) ?_
      exact Ev.iret rfl rfl dL_cleanDay_9
    · have y1 := z1
      have z2 : (f_cleanDay a v).2 0 0 = 2 := by omega
      rw [z2] at hCt
      rw [qc_x z2 (by decide)]
      refine ⟨τ, Ct.ofH (by decide +kernel) k_L_cleanDay (Nat.le_of_ble_eq_true rfl) (by simp [Value.category, va_rf]) ?_, hW⟩
      refine Ev.aload_n (i := 0) dL_cleanDay_0 rfl rfl ?_
      refine Ev.iload_n (i := 1) dL_cleanDay_1 rfl rfl ?_
      have hp : ∀ z ∈ ([(0, 5, 6, 39)] : List (Nat × Nat × Nat × Nat)), z.2.2.2 ≠ 0 ∧ ∃ nm, Cond.classLink m_L_cleanDay.y.cls z.2.2.2 nm ∈ lw_tbl ∧ xcp nm ∧ xNSE ≠ nm := fun z hz => by
        rcases List.mem_cons.mp hz with rfl | hz
        · exact ⟨by decide, _, (tb2 (i := 237) rfl), Or.inr (Or.inr (Or.inr (Or.inl rfl))), by decide⟩
        cases hz
      refine Ev.callVc (ci := 13) (C := RX10) (T := TX10) (N := 12) (As := [_]) (E := xNSE) (pre := [(0, 5, 6, 39)]) (suf := []) (xa := 0) (xb := 5) (xh := 10) (xt := 43) hN (Or.inr (Or.inr (Or.inl rfl))) k_X10_cleanDay rfl kdh (tb6 (i := 132) rfl) ki_X10_cleanDay kv_X10_cleanDay dL_cleanDay_2 rfl rfl (Nat.le_of_ble_eq_true rfl) (Nat.le_refl _) rfl (by decide) (by decide) hp (tb2 (i := 239) rfl) (tb3 (i := 69) rfl) hCt (fun q => ?_)
      refine Ev.astore_n (i := 2) dL_cleanDay_10 rfl (by decide) ?_
      refine Ev.bipush (v := i32 (-75)) dL_cleanDay_11 (by decide) ?_
      exact Ev.iret rfl rfl dL_cleanDay_13
def m_L_recipeOf : Mt := (yL_recipeOf, cL_recipeOf, 3, some .int, [(0, 5, 6, 39)])
theorem k_L_recipeOf : cokH m_L_recipeOf 2 := ⟨rfl, (tb6 (i := 72) rfl), (tb1 (i := 0) rfl), by decide, by decide +kernel, by decide⟩
theorem ki_L_recipeOf : Cond.static m_L_recipeOf.y ∈ lw_tbl := (tb6 (i := 71) rfl)
def cod_recipeOf : Int → Int := fun k => -77
theorem cd_recipeOf {a : Int} {v : Vw} (h : (0 : Int) ≤ v 0 0) : (f_recipeOf a v).2 0 0 ≤ 1 := by
  unfold f_recipeOf
  repeat' split
  all_goals first
    | (simp [f_fails, upv, f_adds]; done)
    | exact Int.le_trans (cd_one _ _) (by decide)
    | (rw [fr_starts 0 0 (by decide)]; simp [upv]; done)
    | (show f_starts _ _ _ 0 0 ≤ _; rw [fr_starts 0 0 (by decide)]; simp [upv]; done)
theorem w_recipeOf {X : Cx} {h : Nat} {v : Vw} {y x : Int} {n m : Nat} {R : List Ar} {T E a : Int} (hN : KN X) (hI : IM v T E) (ha : R32 a) : Kl X h m_L_recipeOf 8 [va_rf (some h), .int (i32 a)] (v, (y, x), (n, m), R) (.inl (some (.int (i32 (qc cod_recipeOf (f_recipeOf a v)))))) (v, (y, x + 1), (n, m), R) := by
  intro σ hR
  have kdh : σ.kd h = 13 + 1 := hR.kd
  have hR9 := hR
  obtain ⟨⟨A, c, B, hC, hV, eA, h6, hx⟩, -⟩ := hR
  have h6 : c.1 6 ≤ y := h6
  have hx : c.2.2.2 ≤ x := hx
  have hV : INV c v := hV
  obtain ⟨ok, hA, hV2⟩ := fc_recipeOf hV hI ha
  have cd := cd_recipeOf (a := a) (v := v) (hI.2 0 0).1
  obtain ⟨τ, A2, B2, hCt, hS, e13, hF⟩ := kc_up hC (s_X10_recipeOf ok) (ws2 hC.2)
  have hst := so_recipeOf a c
  subst eA
  have hV3 : INV (g_X10_recipeOf a c).2 v := hV2.vfr (fun k hk => funext fun i => (fr_recipeOf k i hk.1).symm)
  have hW := hR9.call (v' := v) (y' := y) (x' := x + 1) hS hV3 e13 (by have := hst.1; omega) (by have := hst.2; omega) hF
  rcases hA with ⟨z, e⟩ | ⟨z, e⟩
  · rw [e] at hCt
    rw [qc_v z]
    refine ⟨τ, Ct.ofH (by decide +kernel) k_L_recipeOf (Nat.le_of_ble_eq_true rfl) (by simp [Value.category, va_rf]) ?_, hW⟩
    refine Ev.aload_n (i := 0) dL_recipeOf_0 rfl rfl ?_
    refine Ev.iload_n (i := 1) dL_recipeOf_1 rfl rfl ?_
    refine Ev.callV (ci := 13) (C := RX10) (T := TX10) (N := 12) (As := [_]) (v := some (.int (i32 (f_recipeOf a v).1))) k_X10_recipeOf rfl kdh (tb6 (i := 73) rfl) ki_X10_recipeOf kv_X10_recipeOf dL_recipeOf_2 rfl rfl (Nat.le_of_ble_eq_true rfl) (Nat.le_refl _) hCt ?_
    exact Ev.iret rfl rfl dL_recipeOf_5
  · rw [e] at hCt
    have z1 : (f_recipeOf a v).2 0 0 = 1 := by omega
    rw [z1] at hCt
    rw [qc_x z1 (by decide)]
    refine ⟨τ, Ct.ofH (by decide +kernel) k_L_recipeOf (Nat.le_of_ble_eq_true rfl) (by simp [Value.category, va_rf]) ?_, hW⟩
    refine Ev.aload_n (i := 0) dL_recipeOf_0 rfl rfl ?_
    refine Ev.iload_n (i := 1) dL_recipeOf_1 rfl rfl ?_
    have hp : ∀ z ∈ ([] : List (Nat × Nat × Nat × Nat)), z.2.2.2 ≠ 0 ∧ ∃ nm, Cond.classLink m_L_recipeOf.y.cls z.2.2.2 nm ∈ lw_tbl ∧ xcp nm ∧ xIOB ≠ nm := fun z hz => by
      cases hz
    refine Ev.callVc (ci := 13) (C := RX10) (T := TX10) (N := 12) (As := [_]) (E := xIOB) (pre := []) (suf := []) (xa := 0) (xb := 5) (xh := 6) (xt := 39) hN (Or.inr (Or.inr (Or.inr (Or.inl rfl)))) k_X10_recipeOf rfl kdh (tb6 (i := 73) rfl) ki_X10_recipeOf kv_X10_recipeOf dL_recipeOf_2 rfl rfl (Nat.le_of_ble_eq_true rfl) (Nat.le_refl _) rfl (by decide) (by decide) hp (tb2 (i := 237) rfl) (tb3 (i := 10) rfl) hCt (fun q => ?_)
    refine Ev.astore_n (i := 2) dL_recipeOf_6 rfl (by decide) ?_
    refine Ev.bipush (v := i32 (-77)) dL_recipeOf_7 (by decide) ?_
    exact Ev.iret rfl rfl dL_recipeOf_9
def m_L_generation : Mt := (yL_generation, cL_generation, 3, some .int, [(0, 5, 6, 39)])
theorem k_L_generation : cokH m_L_generation 2 := ⟨rfl, (tb6 (i := 142) rfl), (tb1 (i := 0) rfl), by decide, by decide +kernel, by decide⟩
theorem ki_L_generation : Cond.static m_L_generation.y ∈ lw_tbl := (tb6 (i := 141) rfl)
def cod_generation : Int → Int := fun k => -77
theorem cd_generation {a : Int} {v : Vw} (h : (0 : Int) ≤ v 0 0) : (f_generation a v).2 0 0 ≤ 1 := by
  unfold f_generation
  repeat' split
  all_goals first
    | (simp [f_fails, upv, f_adds]; done)
    | exact Int.le_trans (cd_one _ _) (by decide)
    | (rw [fr_starts 0 0 (by decide)]; simp [upv]; done)
    | (show f_starts _ _ _ 0 0 ≤ _; rw [fr_starts 0 0 (by decide)]; simp [upv]; done)
theorem w_generation {X : Cx} {h : Nat} {v : Vw} {y x : Int} {n m : Nat} {R : List Ar} {T E a : Int} (hN : KN X) (hI : IM v T E) (ha : R32 a) : Kl X h m_L_generation 8 [va_rf (some h), .int (i32 a)] (v, (y, x), (n, m), R) (.inl (some (.int (i32 (qc cod_generation (f_generation a v)))))) (v, (y, x + 1), (n, m), R) := by
  intro σ hR
  have kdh : σ.kd h = 13 + 1 := hR.kd
  have hR9 := hR
  obtain ⟨⟨A, c, B, hC, hV, eA, h6, hx⟩, -⟩ := hR
  have h6 : c.1 6 ≤ y := h6
  have hx : c.2.2.2 ≤ x := hx
  have hV : INV c v := hV
  obtain ⟨ok, hA, hV2⟩ := fc_generation hV hI ha
  have cd := cd_generation (a := a) (v := v) (hI.2 0 0).1
  obtain ⟨τ, A2, B2, hCt, hS, e13, hF⟩ := kc_up hC (s_X10_generation ok) (ws2 hC.2)
  have hst := so_generation a c
  subst eA
  have hV3 : INV (g_X10_generation a c).2 v := hV2.vfr (fun k hk => funext fun i => (fr_generation k i hk.1).symm)
  have hW := hR9.call (v' := v) (y' := y) (x' := x + 1) hS hV3 e13 (by have := hst.1; omega) (by have := hst.2; omega) hF
  rcases hA with ⟨z, e⟩ | ⟨z, e⟩
  · rw [e] at hCt
    rw [qc_v z]
    refine ⟨τ, Ct.ofH (by decide +kernel) k_L_generation (Nat.le_of_ble_eq_true rfl) (by simp [Value.category, va_rf]) ?_, hW⟩
    refine Ev.aload_n (i := 0) dL_generation_0 rfl rfl ?_
    refine Ev.iload_n (i := 1) dL_generation_1 rfl rfl ?_
    refine Ev.callV (ci := 13) (C := RX10) (T := TX10) (N := 12) (As := [_]) (v := some (.int (i32 (f_generation a v).1))) k_X10_generation rfl kdh (tb6 (i := 143) rfl) ki_X10_generation kv_X10_generation dL_generation_2 rfl rfl (Nat.le_of_ble_eq_true rfl) (Nat.le_refl _) hCt ?_
    exact Ev.iret rfl rfl dL_generation_5
  · rw [e] at hCt
    have z1 : (f_generation a v).2 0 0 = 1 := by omega
    rw [z1] at hCt
    rw [qc_x z1 (by decide)]
    refine ⟨τ, Ct.ofH (by decide +kernel) k_L_generation (Nat.le_of_ble_eq_true rfl) (by simp [Value.category, va_rf]) ?_, hW⟩
    refine Ev.aload_n (i := 0) dL_generation_0 rfl rfl ?_
    refine Ev.iload_n (i := 1) dL_generation_1 rfl rfl ?_
    have hp : ∀ z ∈ ([] : List (Nat × Nat × Nat × Nat)), z.2.2.2 ≠ 0 ∧ ∃ nm, Cond.classLink m_L_generation.y.cls z.2.2.2 nm ∈ lw_tbl ∧ xcp nm ∧ xIOB ≠ nm := fun z hz => by
      cases hz
    refine Ev.callVc (ci := 13) (C := RX10) (T := TX10) (N := 12) (As := [_]) (E := xIOB) (pre := []) (suf := []) (xa := 0) (xb := 5) (xh := 6) (xt := 39) hN (Or.inr (Or.inr (Or.inr (Or.inl rfl)))) k_X10_generation rfl kdh (tb6 (i := 143) rfl) ki_X10_generation kv_X10_generation dL_generation_2 rfl rfl (Nat.le_of_ble_eq_true rfl) (Nat.le_refl _) rfl (by decide) (by decide) hp (tb2 (i := 237) rfl) (tb3 (i := 10) rfl) hCt (fun q => ?_)
    refine Ev.astore_n (i := 2) dL_generation_6 rfl (by decide) ?_
    refine Ev.bipush (v := i32 (-77)) dL_generation_7 (by decide) ?_
    exact Ev.iret rfl rfl dL_generation_9
def m_L_stage : Mt := (yL_stage, cL_stage, 3, some .int, [(0, 5, 6, 39)])
theorem k_L_stage : cokH m_L_stage 2 := ⟨rfl, (tb6 (i := 84) rfl), (tb1 (i := 0) rfl), by decide, by decide +kernel, by decide⟩
theorem ki_L_stage : Cond.static m_L_stage.y ∈ lw_tbl := (tb6 (i := 83) rfl)
def cod_stage : Int → Int := fun k => -77
theorem cd_stage {a : Int} {v : Vw} (h : (0 : Int) ≤ v 0 0) : (f_stage a v).2 0 0 ≤ 1 := by
  unfold f_stage
  repeat' split
  all_goals first
    | (simp [f_fails, upv, f_adds]; done)
    | exact Int.le_trans (cd_one _ _) (by decide)
    | (rw [fr_starts 0 0 (by decide)]; simp [upv]; done)
    | (show f_starts _ _ _ 0 0 ≤ _; rw [fr_starts 0 0 (by decide)]; simp [upv]; done)
theorem w_stage {X : Cx} {h : Nat} {v : Vw} {y x : Int} {n m : Nat} {R : List Ar} {T E a : Int} (hN : KN X) (hI : IM v T E) (ha : R32 a) : Kl X h m_L_stage 8 [va_rf (some h), .int (i32 a)] (v, (y, x), (n, m), R) (.inl (some (.int (i32 (qc cod_stage (f_stage a v)))))) (v, (y, x + 1), (n, m), R) := by
  intro σ hR
  have kdh : σ.kd h = 13 + 1 := hR.kd
  have hR9 := hR
  obtain ⟨⟨A, c, B, hC, hV, eA, h6, hx⟩, -⟩ := hR
  have h6 : c.1 6 ≤ y := h6
  have hx : c.2.2.2 ≤ x := hx
  have hV : INV c v := hV
  obtain ⟨ok, hA, hV2⟩ := fc_stage hV hI ha
  have cd := cd_stage (a := a) (v := v) (hI.2 0 0).1
  obtain ⟨τ, A2, B2, hCt, hS, e13, hF⟩ := kc_up hC (s_X10_stage ok) (ws2 hC.2)
  have hst := so_stage a c
  subst eA
  have hV3 : INV (g_X10_stage a c).2 v := hV2.vfr (fun k hk => funext fun i => (fr_stage k i hk.1).symm)
  have hW := hR9.call (v' := v) (y' := y) (x' := x + 1) hS hV3 e13 (by have := hst.1; omega) (by have := hst.2; omega) hF
  rcases hA with ⟨z, e⟩ | ⟨z, e⟩
  · rw [e] at hCt
    rw [qc_v z]
    refine ⟨τ, Ct.ofH (by decide +kernel) k_L_stage (Nat.le_of_ble_eq_true rfl) (by simp [Value.category, va_rf]) ?_, hW⟩
    refine Ev.aload_n (i := 0) dL_stage_0 rfl rfl ?_
    refine Ev.iload_n (i := 1) dL_stage_1 rfl rfl ?_
    refine Ev.callV (ci := 13) (C := RX10) (T := TX10) (N := 12) (As := [_]) (v := some (.int (i32 (f_stage a v).1))) k_X10_stage rfl kdh (tb6 (i := 85) rfl) ki_X10_stage kv_X10_stage dL_stage_2 rfl rfl (Nat.le_of_ble_eq_true rfl) (Nat.le_refl _) hCt ?_
    exact Ev.iret rfl rfl dL_stage_5
  · rw [e] at hCt
    have z1 : (f_stage a v).2 0 0 = 1 := by omega
    rw [z1] at hCt
    rw [qc_x z1 (by decide)]
    refine ⟨τ, Ct.ofH (by decide +kernel) k_L_stage (Nat.le_of_ble_eq_true rfl) (by simp [Value.category, va_rf]) ?_, hW⟩
    refine Ev.aload_n (i := 0) dL_stage_0 rfl rfl ?_
    refine Ev.iload_n (i := 1) dL_stage_1 rfl rfl ?_
    have hp : ∀ z ∈ ([] : List (Nat × Nat × Nat × Nat)), z.2.2.2 ≠ 0 ∧ ∃ nm, Cond.classLink m_L_stage.y.cls z.2.2.2 nm ∈ lw_tbl ∧ xcp nm ∧ xIOB ≠ nm := fun z hz => by
      cases hz
    refine Ev.callVc (ci := 13) (C := RX10) (T := TX10) (N := 12) (As := [_]) (E := xIOB) (pre := []) (suf := []) (xa := 0) (xb := 5) (xh := 6) (xt := 39) hN (Or.inr (Or.inr (Or.inr (Or.inl rfl)))) k_X10_stage rfl kdh (tb6 (i := 85) rfl) ki_X10_stage kv_X10_stage dL_stage_2 rfl rfl (Nat.le_of_ble_eq_true rfl) (Nat.le_refl _) rfl (by decide) (by decide) hp (tb2 (i := 237) rfl) (tb3 (i := 10) rfl) hCt (fun q => ?_)
    refine Ev.astore_n (i := 2) dL_stage_6 rfl (by decide) ?_
    refine Ev.bipush (v := i32 (-77)) dL_stage_7 (by decide) ?_
    exact Ev.iret rfl rfl dL_stage_9
def m_L_vesselOf : Mt := (yL_vesselOf, cL_vesselOf, 3, some .int, [(0, 5, 6, 39), (0, 5, 10, 43)])
theorem k_L_vesselOf : cokH m_L_vesselOf 2 := ⟨rfl, (tb6 (i := 91) rfl), (tb1 (i := 0) rfl), by decide, by decide +kernel, by decide⟩
theorem ki_L_vesselOf : Cond.static m_L_vesselOf.y ∈ lw_tbl := (tb6 (i := 90) rfl)
def cod_vesselOf : Int → Int := fun k => if k = 1 then -77 else -75
theorem cd_vesselOf {a : Int} {v : Vw} (h : (0 : Int) ≤ v 0 0) : (f_vesselOf a v).2 0 0 ≤ 2 := by
  unfold f_vesselOf
  repeat' split
  all_goals first
    | (simp [f_fails, upv, f_adds]; done)
    | exact Int.le_trans (cd_one _ _) (by decide)
    | (rw [fr_starts 0 0 (by decide)]; simp [upv]; done)
    | (show f_starts _ _ _ 0 0 ≤ _; rw [fr_starts 0 0 (by decide)]; simp [upv]; done)
theorem w_vesselOf {X : Cx} {h : Nat} {v : Vw} {y x : Int} {n m : Nat} {R : List Ar} {T E a : Int} (hN : KN X) (hI : IM v T E) (ha : R32 a) : Kl X h m_L_vesselOf 8 [va_rf (some h), .int (i32 a)] (v, (y, x), (n, m), R) (.inl (some (.int (i32 (qc cod_vesselOf (f_vesselOf a v)))))) (v, (y, x + 1), (n, m), R) := by
  intro σ hR
  have kdh : σ.kd h = 13 + 1 := hR.kd
  have hR9 := hR
  obtain ⟨⟨A, c, B, hC, hV, eA, h6, hx⟩, -⟩ := hR
  have h6 : c.1 6 ≤ y := h6
  have hx : c.2.2.2 ≤ x := hx
  have hV : INV c v := hV
  obtain ⟨ok, hA, hV2⟩ := fc_vesselOf hV hI ha
  have cd := cd_vesselOf (a := a) (v := v) (hI.2 0 0).1
  obtain ⟨τ, A2, B2, hCt, hS, e13, hF⟩ := kc_up hC (s_X10_vesselOf ok) (ws2 hC.2)
  have hst := so_vesselOf a c
  subst eA
  have hV3 : INV (g_X10_vesselOf a c).2 v := hV2.vfr (fun k hk => funext fun i => (fr_vesselOf k i hk.1).symm)
  have hW := hR9.call (v' := v) (y' := y) (x' := x + 1) hS hV3 e13 (by have := hst.1; omega) (by have := hst.2; omega) hF
  rcases hA with ⟨z, e⟩ | ⟨z, e⟩
  · rw [e] at hCt
    rw [qc_v z]
    refine ⟨τ, Ct.ofH (by decide +kernel) k_L_vesselOf (Nat.le_of_ble_eq_true rfl) (by simp [Value.category, va_rf]) ?_, hW⟩
    refine Ev.aload_n (i := 0) dL_vesselOf_0 rfl rfl ?_
    refine Ev.iload_n (i := 1) dL_vesselOf_1 rfl rfl ?_
    refine Ev.callV (ci := 13) (C := RX10) (T := TX10) (N := 12) (As := [_]) (v := some (.int (i32 (f_vesselOf a v).1))) k_X10_vesselOf rfl kdh (tb6 (i := 92) rfl) ki_X10_vesselOf kv_X10_vesselOf dL_vesselOf_2 rfl rfl (Nat.le_of_ble_eq_true rfl) (Nat.le_refl _) hCt ?_
    exact Ev.iret rfl rfl dL_vesselOf_5
  · rw [e] at hCt
    by_cases z1 : (f_vesselOf a v).2 0 0 = 1
    · rw [z1] at hCt
      rw [qc_x z1 (by decide)]
      refine ⟨τ, Ct.ofH (by decide +kernel) k_L_vesselOf (Nat.le_of_ble_eq_true rfl) (by simp [Value.category, va_rf]) ?_, hW⟩
      refine Ev.aload_n (i := 0) dL_vesselOf_0 rfl rfl ?_
      refine Ev.iload_n (i := 1) dL_vesselOf_1 rfl rfl ?_
      have hp : ∀ z ∈ ([] : List (Nat × Nat × Nat × Nat)), z.2.2.2 ≠ 0 ∧ ∃ nm, Cond.classLink m_L_vesselOf.y.cls z.2.2.2 nm ∈ lw_tbl ∧ xcp nm ∧ xIOB ≠ nm := fun z hz => by
        cases hz
      refine Ev.callVc (ci := 13) (C := RX10) (T := TX10) (N := 12) (As := [_]) (E := xIOB) (pre := []) (suf := [(0, 5, 10, 43)]) (xa := 0) (xb := 5) (xh := 6) (xt := 39) hN (Or.inr (Or.inr (Or.inr (Or.inl rfl)))) k_X10_vesselOf rfl kdh (tb6 (i := 92) rfl) ki_X10_vesselOf kv_X10_vesselOf dL_vesselOf_2 rfl rfl (Nat.le_of_ble_eq_true rfl) (Nat.le_refl _) rfl (by decide) (by decide) hp (tb2 (i := 237) rfl) (tb3 (i := 10) rfl) hCt (fun q => ?_)
      refine Ev.astore_n (i := 2) dL_vesselOf_6 rfl (by decide) ?_
      refine Ev.bipush (v := i32 (-77)) dL_vesselOf_7 (by decide) ?_
      exact Ev.iret rfl rfl dL_vesselOf_9
    · have y1 := z1
      have z2 : (f_vesselOf a v).2 0 0 = 2 := by omega
      rw [z2] at hCt
      rw [qc_x z2 (by decide)]
      refine ⟨τ, Ct.ofH (by decide +kernel) k_L_vesselOf (Nat.le_of_ble_eq_true rfl) (by simp [Value.category, va_rf]) ?_, hW⟩
      refine Ev.aload_n (i := 0) dL_vesselOf_0 rfl rfl ?_
      refine Ev.iload_n (i := 1) dL_vesselOf_1 rfl rfl ?_
      have hp : ∀ z ∈ ([(0, 5, 6, 39)] : List (Nat × Nat × Nat × Nat)), z.2.2.2 ≠ 0 ∧ ∃ nm, Cond.classLink m_L_vesselOf.y.cls z.2.2.2 nm ∈ lw_tbl ∧ xcp nm ∧ xNSE ≠ nm := fun z hz => by
        rcases List.mem_cons.mp hz with rfl | hz
        · exact ⟨by decide, _, (tb2 (i := 237) rfl), Or.inr (Or.inr (Or.inr (Or.inl rfl))), by decide⟩
        cases hz
      refine Ev.callVc (ci := 13) (C := RX10) (T := TX10) (N := 12) (As := [_]) (E := xNSE) (pre := [(0, 5, 6, 39)]) (suf := []) (xa := 0) (xb := 5) (xh := 10) (xt := 43) hN (Or.inr (Or.inr (Or.inl rfl))) k_X10_vesselOf rfl kdh (tb6 (i := 92) rfl) ki_X10_vesselOf kv_X10_vesselOf dL_vesselOf_2 rfl rfl (Nat.le_of_ble_eq_true rfl) (Nat.le_refl _) rfl (by decide) (by decide) hp (tb2 (i := 239) rfl) (tb3 (i := 69) rfl) hCt (fun q => ?_)
      refine Ev.astore_n (i := 2) dL_vesselOf_10 rfl (by decide) ?_
      refine Ev.bipush (v := i32 (-75)) dL_vesselOf_11 (by decide) ?_
      exact Ev.iret rfl rfl dL_vesselOf_13
def m_L_daysToGo : Mt := (yL_daysToGo, cL_daysToGo, 3, some .int, [(0, 5, 6, 39), (0, 5, 10, 43)])
theorem k_L_daysToGo : cokH m_L_daysToGo 2 := ⟨rfl, (tb6 (i := 117) rfl), (tb1 (i := 0) rfl), by decide, by decide +kernel, by decide⟩
theorem ki_L_daysToGo : Cond.static m_L_daysToGo.y ∈ lw_tbl := (tb6 (i := 116) rfl)
def cod_daysToGo : Int → Int := fun k => if k = 1 then -77 else -75
theorem cd_daysToGo {a : Int} {v : Vw} (h : (0 : Int) ≤ v 0 0) : (f_daysToGo a v).2 0 0 ≤ 2 := by
  unfold f_daysToGo
  repeat' split
  all_goals first
    | (simp [f_fails, upv, f_adds]; done)
    | exact Int.le_trans (cd_one _ _) (by decide)
    | (rw [fr_starts 0 0 (by decide)]; simp [upv]; done)
    | (show f_starts _ _ _ 0 0 ≤ _; rw [fr_starts 0 0 (by decide)]; simp [upv]; done)
theorem w_daysToGo {X : Cx} {h : Nat} {v : Vw} {y x : Int} {n m : Nat} {R : List Ar} {T E a : Int} (hN : KN X) (hI : IM v T E) (ha : R32 a) : Kl X h m_L_daysToGo 8 [va_rf (some h), .int (i32 a)] (v, (y, x), (n, m), R) (.inl (some (.int (i32 (qc cod_daysToGo (f_daysToGo a v)))))) (v, (y, x + 1), (n, m), R) := by
  intro σ hR
  have kdh : σ.kd h = 13 + 1 := hR.kd
  have hR9 := hR
  obtain ⟨⟨A, c, B, hC, hV, eA, h6, hx⟩, -⟩ := hR
  have h6 : c.1 6 ≤ y := h6
  have hx : c.2.2.2 ≤ x := hx
  have hV : INV c v := hV
  obtain ⟨ok, hA, hV2⟩ := fc_daysToGo hV hI ha
  have cd := cd_daysToGo (a := a) (v := v) (hI.2 0 0).1
  obtain ⟨τ, A2, B2, hCt, hS, e13, hF⟩ := kc_up hC (s_X10_daysToGo ok) (ws2 hC.2)
  have hst := so_daysToGo a c
  subst eA
  have hV3 : INV (g_X10_daysToGo a c).2 v := hV2.vfr (fun k hk => funext fun i => (fr_daysToGo k i hk.1).symm)
  have hW := hR9.call (v' := v) (y' := y) (x' := x + 1) hS hV3 e13 (by have := hst.1; omega) (by have := hst.2; omega) hF
  rcases hA with ⟨z, e⟩ | ⟨z, e⟩
  · rw [e] at hCt
    rw [qc_v z]
    refine ⟨τ, Ct.ofH (by decide +kernel) k_L_daysToGo (Nat.le_of_ble_eq_true rfl) (by simp [Value.category, va_rf]) ?_, hW⟩
    refine Ev.aload_n (i := 0) dL_daysToGo_0 rfl rfl ?_
    refine Ev.iload_n (i := 1) dL_daysToGo_1 rfl rfl ?_
    refine Ev.callV (ci := 13) (C := RX10) (T := TX10) (N := 12) (As := [_]) (v := some (.int (i32 (f_daysToGo a v).1))) k_X10_daysToGo rfl kdh (tb6 (i := 118) rfl) ki_X10_daysToGo kv_X10_daysToGo dL_daysToGo_2 rfl rfl (Nat.le_of_ble_eq_true rfl) (Nat.le_refl _) hCt ?_
    exact Ev.iret rfl rfl dL_daysToGo_5
  · rw [e] at hCt
    by_cases z1 : (f_daysToGo a v).2 0 0 = 1
    · rw [z1] at hCt
      rw [qc_x z1 (by decide)]
      refine ⟨τ, Ct.ofH (by decide +kernel) k_L_daysToGo (Nat.le_of_ble_eq_true rfl) (by simp [Value.category, va_rf]) ?_, hW⟩
      refine Ev.aload_n (i := 0) dL_daysToGo_0 rfl rfl ?_
      refine Ev.iload_n (i := 1) dL_daysToGo_1 rfl rfl ?_
      have hp : ∀ z ∈ ([] : List (Nat × Nat × Nat × Nat)), z.2.2.2 ≠ 0 ∧ ∃ nm, Cond.classLink m_L_daysToGo.y.cls z.2.2.2 nm ∈ lw_tbl ∧ xcp nm ∧ xIOB ≠ nm := fun z hz => by
        cases hz
      refine Ev.callVc (ci := 13) (C := RX10) (T := TX10) (N := 12) (As := [_]) (E := xIOB) (pre := []) (suf := [(0, 5, 10, 43)]) (xa := 0) (xb := 5) (xh := 6) (xt := 39) hN (Or.inr (Or.inr (Or.inr (Or.inl rfl)))) k_X10_daysToGo rfl kdh (tb6 (i := 118) rfl) ki_X10_daysToGo kv_X10_daysToGo dL_daysToGo_2 rfl rfl (Nat.le_of_ble_eq_true rfl) (Nat.le_refl _) rfl (by decide) (by decide) hp (tb2 (i := 237) rfl) (tb3 (i := 10) rfl) hCt (fun q => ?_)
      refine Ev.astore_n (i := 2) dL_daysToGo_6 rfl (by decide) ?_
      refine Ev.bipush (v := i32 (-77)) dL_daysToGo_7 (by decide) ?_
      exact Ev.iret rfl rfl dL_daysToGo_9
    · have y1 := z1
      have z2 : (f_daysToGo a v).2 0 0 = 2 := by omega
      rw [z2] at hCt
      rw [qc_x z2 (by decide)]
      refine ⟨τ, Ct.ofH (by decide +kernel) k_L_daysToGo (Nat.le_of_ble_eq_true rfl) (by simp [Value.category, va_rf]) ?_, hW⟩
      refine Ev.aload_n (i := 0) dL_daysToGo_0 rfl rfl ?_
      refine Ev.iload_n (i := 1) dL_daysToGo_1 rfl rfl ?_
      have hp : ∀ z ∈ ([(0, 5, 6, 39)] : List (Nat × Nat × Nat × Nat)), z.2.2.2 ≠ 0 ∧ ∃ nm, Cond.classLink m_L_daysToGo.y.cls z.2.2.2 nm ∈ lw_tbl ∧ xcp nm ∧ xNSE ≠ nm := fun z hz => by
        rcases List.mem_cons.mp hz with rfl | hz
        · exact ⟨by decide, _, (tb2 (i := 237) rfl), Or.inr (Or.inr (Or.inr (Or.inl rfl))), by decide⟩
        cases hz
      refine Ev.callVc (ci := 13) (C := RX10) (T := TX10) (N := 12) (As := [_]) (E := xNSE) (pre := [(0, 5, 6, 39)]) (suf := []) (xa := 0) (xb := 5) (xh := 10) (xt := 43) hN (Or.inr (Or.inr (Or.inl rfl))) k_X10_daysToGo rfl kdh (tb6 (i := 118) rfl) ki_X10_daysToGo kv_X10_daysToGo dL_daysToGo_2 rfl rfl (Nat.le_of_ble_eq_true rfl) (Nat.le_refl _) rfl (by decide) (by decide) hp (tb2 (i := 239) rfl) (tb3 (i := 69) rfl) hCt (fun q => ?_)
      refine Ev.astore_n (i := 2) dL_daysToGo_10 rfl (by decide) ?_
      refine Ev.bipush (v := i32 (-75)) dL_daysToGo_11 (by decide) ?_
      exact Ev.iret rfl rfl dL_daysToGo_13
def m_L_stock : Mt := (yL_stock, cL_stock, 3, some .int, [(0, 5, 6, 39)])
theorem k_L_stock : cokH m_L_stock 2 := ⟨rfl, (tb6 (i := 171) rfl), (tb1 (i := 0) rfl), by decide, by decide +kernel, by decide⟩
theorem ki_L_stock : Cond.static m_L_stock.y ∈ lw_tbl := (tb6 (i := 170) rfl)
def cod_stock : Int → Int := fun k => -77
theorem cd_stock {a : Int} {v : Vw} (h : (0 : Int) ≤ v 0 0) : (f_stock a v).2 0 0 ≤ 1 := by
  exact cd_stk a v
theorem w_stock {X : Cx} {h : Nat} {v : Vw} {y x : Int} {n m : Nat} {R : List Ar} {T E a : Int} (hN : KN X) (hI : IM v T E) (ha : R32 a) : Kl X h m_L_stock 8 [va_rf (some h), .int (i32 a)] (v, (y, x), (n, m), R) (.inl (some (.int (i32 (qc cod_stock (f_stock a v)))))) (v, (y, x + 1), (n, m), R) := by
  intro σ hR
  have kdh : σ.kd h = 13 + 1 := hR.kd
  have hR9 := hR
  obtain ⟨⟨A, c, B, hC, hV, eA, h6, hx⟩, -⟩ := hR
  have h6 : c.1 6 ≤ y := h6
  have hx : c.2.2.2 ≤ x := hx
  have hV : INV c v := hV
  obtain ⟨ok, hA, hV2⟩ := fc_stock hV hI ha
  have cd := cd_stock (a := a) (v := v) (hI.2 0 0).1
  obtain ⟨τ, A2, B2, hCt, hS, e13, hF⟩ := kc_up hC (s_X10_stock ok) (ws2 hC.2)
  have hst := so_stock a c
  subst eA
  have hV3 : INV (g_X10_stock a c).2 v := hV2.vfr (fun k hk => funext fun i => (fr_stock k i hk.1).symm)
  have hW := hR9.call (v' := v) (y' := y) (x' := x + 1) hS hV3 e13 (by have := hst.1; omega) (by have := hst.2; omega) hF
  rcases hA with ⟨z, e⟩ | ⟨z, e⟩
  · rw [e] at hCt
    rw [qc_v z]
    refine ⟨τ, Ct.ofH (by decide +kernel) k_L_stock (Nat.le_of_ble_eq_true rfl) (by simp [Value.category, va_rf]) ?_, hW⟩
    refine Ev.aload_n (i := 0) dL_stock_0 rfl rfl ?_
    refine Ev.iload_n (i := 1) dL_stock_1 rfl rfl ?_
    refine Ev.callV (ci := 13) (C := RX10) (T := TX10) (N := 12) (As := [_]) (v := some (.int (i32 (f_stock a v).1))) k_X10_stock rfl kdh (tb6 (i := 172) rfl) ki_X10_stock kv_X10_stock dL_stock_2 rfl rfl (Nat.le_of_ble_eq_true rfl) (Nat.le_refl _) hCt ?_
    exact Ev.iret rfl rfl dL_stock_5
  · rw [e] at hCt
    have z1 : (f_stock a v).2 0 0 = 1 := by omega
    rw [z1] at hCt
    rw [qc_x z1 (by decide)]
    refine ⟨τ, Ct.ofH (by decide +kernel) k_L_stock (Nat.le_of_ble_eq_true rfl) (by simp [Value.category, va_rf]) ?_, hW⟩
    refine Ev.aload_n (i := 0) dL_stock_0 rfl rfl ?_
    refine Ev.iload_n (i := 1) dL_stock_1 rfl rfl ?_
    have hp : ∀ z ∈ ([] : List (Nat × Nat × Nat × Nat)), z.2.2.2 ≠ 0 ∧ ∃ nm, Cond.classLink m_L_stock.y.cls z.2.2.2 nm ∈ lw_tbl ∧ xcp nm ∧ xIOB ≠ nm := fun z hz => by
      cases hz
    refine Ev.callVc (ci := 13) (C := RX10) (T := TX10) (N := 12) (As := [_]) (E := xIOB) (pre := []) (suf := []) (xa := 0) (xb := 5) (xh := 6) (xt := 39) hN (Or.inr (Or.inr (Or.inr (Or.inl rfl)))) k_X10_stock rfl kdh (tb6 (i := 172) rfl) ki_X10_stock kv_X10_stock dL_stock_2 rfl rfl (Nat.le_of_ble_eq_true rfl) (Nat.le_refl _) rfl (by decide) (by decide) hp (tb2 (i := 237) rfl) (tb3 (i := 10) rfl) hCt (fun q => ?_)
    refine Ev.astore_n (i := 2) dL_stock_6 rfl (by decide) ?_
    refine Ev.bipush (v := i32 (-77)) dL_stock_7 (by decide) ?_
    exact Ev.iret rfl rfl dL_stock_9
def m_L_stockByDeliveries : Mt := (yL_stockByDeliveries, cL_stockByDeliveries, 3, some .int, [(0, 5, 6, 39)])
theorem k_L_stockByDeliveries : cokH m_L_stockByDeliveries 2 := ⟨rfl, (tb6 (i := 178) rfl), (tb1 (i := 0) rfl), by decide, by decide +kernel, by decide⟩
theorem ki_L_stockByDeliveries : Cond.static m_L_stockByDeliveries.y ∈ lw_tbl := (tb6 (i := 177) rfl)
def cod_stockByDeliveries : Int → Int := fun k => -77
theorem cd_stockByDeliveries {a : Int} {v : Vw} (h : (0 : Int) ≤ v 0 0) : (f_stockByDeliveries a v).2 0 0 ≤ 1 := by
  exact cd_stk a v
theorem w_stockByDeliveries {X : Cx} {h : Nat} {v : Vw} {y x : Int} {n m : Nat} {R : List Ar} {T E a : Int} (hN : KN X) (hI : IM v T E) (ha : R32 a) : Kl X h m_L_stockByDeliveries 8 [va_rf (some h), .int (i32 a)] (v, (y, x), (n, m), R) (.inl (some (.int (i32 (qc cod_stockByDeliveries (f_stockByDeliveries a v)))))) (v, (y, x + 1), (n, m), R) := by
  intro σ hR
  have kdh : σ.kd h = 13 + 1 := hR.kd
  have hR9 := hR
  obtain ⟨⟨A, c, B, hC, hV, eA, h6, hx⟩, -⟩ := hR
  have h6 : c.1 6 ≤ y := h6
  have hx : c.2.2.2 ≤ x := hx
  have hV : INV c v := hV
  obtain ⟨ok, hA, hV2⟩ := fc_stockByDeliveries hV hI ha
  have cd := cd_stockByDeliveries (a := a) (v := v) (hI.2 0 0).1
  obtain ⟨τ, A2, B2, hCt, hS, e13, hF⟩ := kc_up hC (s_X10_stockByDeliveries ok) (ws2 hC.2)
  have hst := so_stockByDeliveries a c
  subst eA
  have hV3 : INV (g_X10_stockByDeliveries a c).2 v := hV2.vfr (fun k hk => funext fun i => (fr_stockByDeliveries k i hk.1).symm)
  have hW := hR9.call (v' := v) (y' := y) (x' := x + 1) hS hV3 e13 (by have := hst.1; omega) (by have := hst.2; omega) hF
  rcases hA with ⟨z, e⟩ | ⟨z, e⟩
  · rw [e] at hCt
    rw [qc_v z]
    refine ⟨τ, Ct.ofH (by decide +kernel) k_L_stockByDeliveries (Nat.le_of_ble_eq_true rfl) (by simp [Value.category, va_rf]) ?_, hW⟩
    refine Ev.aload_n (i := 0) dL_stockByDeliveries_0 rfl rfl ?_
    refine Ev.iload_n (i := 1) dL_stockByDeliveries_1 rfl rfl ?_
    refine Ev.callV (ci := 13) (C := RX10) (T := TX10) (N := 12) (As := [_]) (v := some (.int (i32 (f_stockByDeliveries a v).1))) k_X10_stockByDeliveries rfl kdh (tb6 (i := 179) rfl) ki_X10_stockByDeliveries kv_X10_stockByDeliveries dL_stockByDeliveries_2 rfl rfl (Nat.le_of_ble_eq_true rfl) (Nat.le_refl _) hCt ?_
    exact Ev.iret rfl rfl dL_stockByDeliveries_5
  · rw [e] at hCt
    have z1 : (f_stockByDeliveries a v).2 0 0 = 1 := by omega
    rw [z1] at hCt
    rw [qc_x z1 (by decide)]
    refine ⟨τ, Ct.ofH (by decide +kernel) k_L_stockByDeliveries (Nat.le_of_ble_eq_true rfl) (by simp [Value.category, va_rf]) ?_, hW⟩
    refine Ev.aload_n (i := 0) dL_stockByDeliveries_0 rfl rfl ?_
    refine Ev.iload_n (i := 1) dL_stockByDeliveries_1 rfl rfl ?_
    have hp : ∀ z ∈ ([] : List (Nat × Nat × Nat × Nat)), z.2.2.2 ≠ 0 ∧ ∃ nm, Cond.classLink m_L_stockByDeliveries.y.cls z.2.2.2 nm ∈ lw_tbl ∧ xcp nm ∧ xIOB ≠ nm := fun z hz => by
      cases hz
    refine Ev.callVc (ci := 13) (C := RX10) (T := TX10) (N := 12) (As := [_]) (E := xIOB) (pre := []) (suf := []) (xa := 0) (xb := 5) (xh := 6) (xt := 39) hN (Or.inr (Or.inr (Or.inr (Or.inl rfl)))) k_X10_stockByDeliveries rfl kdh (tb6 (i := 179) rfl) ki_X10_stockByDeliveries kv_X10_stockByDeliveries dL_stockByDeliveries_2 rfl rfl (Nat.le_of_ble_eq_true rfl) (Nat.le_refl _) rfl (by decide) (by decide) hp (tb2 (i := 237) rfl) (tb3 (i := 10) rfl) hCt (fun q => ?_)
    refine Ev.astore_n (i := 2) dL_stockByDeliveries_6 rfl (by decide) ?_
    refine Ev.bipush (v := i32 (-77)) dL_stockByDeliveries_7 (by decide) ?_
    exact Ev.iret rfl rfl dL_stockByDeliveries_9
def m_L_deliveredBrew : Mt := (yL_deliveredBrew, cL_deliveredBrew, 3, some .int, [(0, 5, 6, 39)])
theorem k_L_deliveredBrew : cokH m_L_deliveredBrew 2 := ⟨rfl, (tb6 (i := 152) rfl), (tb1 (i := 0) rfl), by decide, by decide +kernel, by decide⟩
theorem ki_L_deliveredBrew : Cond.static m_L_deliveredBrew.y ∈ lw_tbl := (tb6 (i := 151) rfl)
def cod_deliveredBrew : Int → Int := fun k => -77
theorem cd_deliveredBrew {a : Int} {v : Vw} (h : (0 : Int) ≤ v 0 0) : (f_deliveredBrew a v).2 0 0 ≤ 1 := by
  unfold f_deliveredBrew
  repeat' split
  all_goals first
    | (simp [f_fails, upv, f_adds]; done)
    | exact Int.le_trans (cd_one _ _) (by decide)
    | (rw [fr_starts 0 0 (by decide)]; simp [upv]; done)
    | (show f_starts _ _ _ 0 0 ≤ _; rw [fr_starts 0 0 (by decide)]; simp [upv]; done)
theorem w_deliveredBrew {X : Cx} {h : Nat} {v : Vw} {y x : Int} {n m : Nat} {R : List Ar} {T E a : Int} (hN : KN X) (hI : IM v T E) (ha : R32 a) : Kl X h m_L_deliveredBrew 8 [va_rf (some h), .int (i32 a)] (v, (y, x), (n, m), R) (.inl (some (.int (i32 (qc cod_deliveredBrew (f_deliveredBrew a v)))))) (v, (y, x + 1), (n, m), R) := by
  intro σ hR
  have kdh : σ.kd h = 13 + 1 := hR.kd
  have hR9 := hR
  obtain ⟨⟨A, c, B, hC, hV, eA, h6, hx⟩, -⟩ := hR
  have h6 : c.1 6 ≤ y := h6
  have hx : c.2.2.2 ≤ x := hx
  have hV : INV c v := hV
  obtain ⟨ok, hA, hV2⟩ := fc_deliveredBrew hV hI ha
  have cd := cd_deliveredBrew (a := a) (v := v) (hI.2 0 0).1
  obtain ⟨τ, A2, B2, hCt, hS, e13, hF⟩ := kc_up hC (s_X10_deliveredBrew ok) (ws2 hC.2)
  have hst := so_deliveredBrew a c
  subst eA
  have hV3 : INV (g_X10_deliveredBrew a c).2 v := hV2.vfr (fun k hk => funext fun i => (fr_deliveredBrew k i hk.1).symm)
  have hW := hR9.call (v' := v) (y' := y) (x' := x + 1) hS hV3 e13 (by have := hst.1; omega) (by have := hst.2; omega) hF
  rcases hA with ⟨z, e⟩ | ⟨z, e⟩
  · rw [e] at hCt
    rw [qc_v z]
    refine ⟨τ, Ct.ofH (by decide +kernel) k_L_deliveredBrew (Nat.le_of_ble_eq_true rfl) (by simp [Value.category, va_rf]) ?_, hW⟩
    refine Ev.aload_n (i := 0) dL_deliveredBrew_0 rfl rfl ?_
    refine Ev.iload_n (i := 1) dL_deliveredBrew_1 rfl rfl ?_
    refine Ev.callV (ci := 13) (C := RX10) (T := TX10) (N := 12) (As := [_]) (v := some (.int (i32 (f_deliveredBrew a v).1))) k_X10_deliveredBrew rfl kdh (tb6 (i := 153) rfl) ki_X10_deliveredBrew kv_X10_deliveredBrew dL_deliveredBrew_2 rfl rfl (Nat.le_of_ble_eq_true rfl) (Nat.le_refl _) hCt ?_
    exact Ev.iret rfl rfl dL_deliveredBrew_5
  · rw [e] at hCt
    have z1 : (f_deliveredBrew a v).2 0 0 = 1 := by omega
    rw [z1] at hCt
    rw [qc_x z1 (by decide)]
    refine ⟨τ, Ct.ofH (by decide +kernel) k_L_deliveredBrew (Nat.le_of_ble_eq_true rfl) (by simp [Value.category, va_rf]) ?_, hW⟩
    refine Ev.aload_n (i := 0) dL_deliveredBrew_0 rfl rfl ?_
    refine Ev.iload_n (i := 1) dL_deliveredBrew_1 rfl rfl ?_
    have hp : ∀ z ∈ ([] : List (Nat × Nat × Nat × Nat)), z.2.2.2 ≠ 0 ∧ ∃ nm, Cond.classLink m_L_deliveredBrew.y.cls z.2.2.2 nm ∈ lw_tbl ∧ xcp nm ∧ xIOB ≠ nm := fun z hz => by
      cases hz
    refine Ev.callVc (ci := 13) (C := RX10) (T := TX10) (N := 12) (As := [_]) (E := xIOB) (pre := []) (suf := []) (xa := 0) (xb := 5) (xh := 6) (xt := 39) hN (Or.inr (Or.inr (Or.inr (Or.inl rfl)))) k_X10_deliveredBrew rfl kdh (tb6 (i := 153) rfl) ki_X10_deliveredBrew kv_X10_deliveredBrew dL_deliveredBrew_2 rfl rfl (Nat.le_of_ble_eq_true rfl) (Nat.le_refl _) rfl (by decide) (by decide) hp (tb2 (i := 237) rfl) (tb3 (i := 10) rfl) hCt (fun q => ?_)
    refine Ev.astore_n (i := 2) dL_deliveredBrew_6 rfl (by decide) ?_
    refine Ev.bipush (v := i32 (-77)) dL_deliveredBrew_7 (by decide) ?_
    exact Ev.iret rfl rfl dL_deliveredBrew_9
def m_L_deliveredOrder : Mt := (yL_deliveredOrder, cL_deliveredOrder, 3, some .int, [(0, 5, 6, 39)])
theorem k_L_deliveredOrder : cokH m_L_deliveredOrder 2 := ⟨rfl, (tb6 (i := 188) rfl), (tb1 (i := 0) rfl), by decide, by decide +kernel, by decide⟩
theorem ki_L_deliveredOrder : Cond.static m_L_deliveredOrder.y ∈ lw_tbl := (tb6 (i := 187) rfl)
def cod_deliveredOrder : Int → Int := fun k => -77
theorem cd_deliveredOrder {a : Int} {v : Vw} (h : (0 : Int) ≤ v 0 0) : (f_deliveredOrder a v).2 0 0 ≤ 1 := by
  unfold f_deliveredOrder
  repeat' split
  all_goals first
    | (simp [f_fails, upv, f_adds]; done)
    | exact Int.le_trans (cd_one _ _) (by decide)
    | (rw [fr_starts 0 0 (by decide)]; simp [upv]; done)
    | (show f_starts _ _ _ 0 0 ≤ _; rw [fr_starts 0 0 (by decide)]; simp [upv]; done)
theorem w_deliveredOrder {X : Cx} {h : Nat} {v : Vw} {y x : Int} {n m : Nat} {R : List Ar} {T E a : Int} (hN : KN X) (hI : IM v T E) (ha : R32 a) : Kl X h m_L_deliveredOrder 8 [va_rf (some h), .int (i32 a)] (v, (y, x), (n, m), R) (.inl (some (.int (i32 (qc cod_deliveredOrder (f_deliveredOrder a v)))))) (v, (y, x + 1), (n, m), R) := by
  intro σ hR
  have kdh : σ.kd h = 13 + 1 := hR.kd
  have hR9 := hR
  obtain ⟨⟨A, c, B, hC, hV, eA, h6, hx⟩, -⟩ := hR
  have h6 : c.1 6 ≤ y := h6
  have hx : c.2.2.2 ≤ x := hx
  have hV : INV c v := hV
  obtain ⟨ok, hA, hV2⟩ := fc_deliveredOrder hV hI ha
  have cd := cd_deliveredOrder (a := a) (v := v) (hI.2 0 0).1
  obtain ⟨τ, A2, B2, hCt, hS, e13, hF⟩ := kc_up hC (s_X10_deliveredOrder ok) (ws2 hC.2)
  have hst := so_deliveredOrder a c
  subst eA
  have hV3 : INV (g_X10_deliveredOrder a c).2 v := hV2.vfr (fun k hk => funext fun i => (fr_deliveredOrder k i hk.1).symm)
  have hW := hR9.call (v' := v) (y' := y) (x' := x + 1) hS hV3 e13 (by have := hst.1; omega) (by have := hst.2; omega) hF
  rcases hA with ⟨z, e⟩ | ⟨z, e⟩
  · rw [e] at hCt
    rw [qc_v z]
    refine ⟨τ, Ct.ofH (by decide +kernel) k_L_deliveredOrder (Nat.le_of_ble_eq_true rfl) (by simp [Value.category, va_rf]) ?_, hW⟩
    refine Ev.aload_n (i := 0) dL_deliveredOrder_0 rfl rfl ?_
    refine Ev.iload_n (i := 1) dL_deliveredOrder_1 rfl rfl ?_
    refine Ev.callV (ci := 13) (C := RX10) (T := TX10) (N := 12) (As := [_]) (v := some (.int (i32 (f_deliveredOrder a v).1))) k_X10_deliveredOrder rfl kdh (tb6 (i := 189) rfl) ki_X10_deliveredOrder kv_X10_deliveredOrder dL_deliveredOrder_2 rfl rfl (Nat.le_of_ble_eq_true rfl) (Nat.le_refl _) hCt ?_
    exact Ev.iret rfl rfl dL_deliveredOrder_5
  · rw [e] at hCt
    have z1 : (f_deliveredOrder a v).2 0 0 = 1 := by omega
    rw [z1] at hCt
    rw [qc_x z1 (by decide)]
    refine ⟨τ, Ct.ofH (by decide +kernel) k_L_deliveredOrder (Nat.le_of_ble_eq_true rfl) (by simp [Value.category, va_rf]) ?_, hW⟩
    refine Ev.aload_n (i := 0) dL_deliveredOrder_0 rfl rfl ?_
    refine Ev.iload_n (i := 1) dL_deliveredOrder_1 rfl rfl ?_
    have hp : ∀ z ∈ ([] : List (Nat × Nat × Nat × Nat)), z.2.2.2 ≠ 0 ∧ ∃ nm, Cond.classLink m_L_deliveredOrder.y.cls z.2.2.2 nm ∈ lw_tbl ∧ xcp nm ∧ xIOB ≠ nm := fun z hz => by
      cases hz
    refine Ev.callVc (ci := 13) (C := RX10) (T := TX10) (N := 12) (As := [_]) (E := xIOB) (pre := []) (suf := []) (xa := 0) (xb := 5) (xh := 6) (xt := 39) hN (Or.inr (Or.inr (Or.inr (Or.inl rfl)))) k_X10_deliveredOrder rfl kdh (tb6 (i := 189) rfl) ki_X10_deliveredOrder kv_X10_deliveredOrder dL_deliveredOrder_2 rfl rfl (Nat.le_of_ble_eq_true rfl) (Nat.le_refl _) rfl (by decide) (by decide) hp (tb2 (i := 237) rfl) (tb3 (i := 10) rfl) hCt (fun q => ?_)
    refine Ev.astore_n (i := 2) dL_deliveredOrder_6 rfl (by decide) ?_
    refine Ev.bipush (v := i32 (-77)) dL_deliveredOrder_7 (by decide) ?_
    exact Ev.iret rfl rfl dL_deliveredOrder_9
def m_L_deliveredUnits : Mt := (yL_deliveredUnits, cL_deliveredUnits, 3, some .int, [(0, 5, 6, 39)])
theorem k_L_deliveredUnits : cokH m_L_deliveredUnits 2 := ⟨rfl, (tb6 (i := 164) rfl), (tb1 (i := 0) rfl), by decide, by decide +kernel, by decide⟩
theorem ki_L_deliveredUnits : Cond.static m_L_deliveredUnits.y ∈ lw_tbl := (tb6 (i := 163) rfl)
def cod_deliveredUnits : Int → Int := fun k => -77
theorem cd_deliveredUnits {a : Int} {v : Vw} (h : (0 : Int) ≤ v 0 0) : (f_deliveredUnits a v).2 0 0 ≤ 1 := by
  unfold f_deliveredUnits
  repeat' split
  all_goals first
    | (simp [f_fails, upv, f_adds]; done)
    | exact Int.le_trans (cd_one _ _) (by decide)
    | (rw [fr_starts 0 0 (by decide)]; simp [upv]; done)
    | (show f_starts _ _ _ 0 0 ≤ _; rw [fr_starts 0 0 (by decide)]; simp [upv]; done)
theorem w_deliveredUnits {X : Cx} {h : Nat} {v : Vw} {y x : Int} {n m : Nat} {R : List Ar} {T E a : Int} (hN : KN X) (hI : IM v T E) (ha : R32 a) : Kl X h m_L_deliveredUnits 8 [va_rf (some h), .int (i32 a)] (v, (y, x), (n, m), R) (.inl (some (.int (i32 (qc cod_deliveredUnits (f_deliveredUnits a v)))))) (v, (y, x + 1), (n, m), R) := by
  intro σ hR
  have kdh : σ.kd h = 13 + 1 := hR.kd
  have hR9 := hR
  obtain ⟨⟨A, c, B, hC, hV, eA, h6, hx⟩, -⟩ := hR
  have h6 : c.1 6 ≤ y := h6
  have hx : c.2.2.2 ≤ x := hx
  have hV : INV c v := hV
  obtain ⟨ok, hA, hV2⟩ := fc_deliveredUnits hV hI ha
  have cd := cd_deliveredUnits (a := a) (v := v) (hI.2 0 0).1
  obtain ⟨τ, A2, B2, hCt, hS, e13, hF⟩ := kc_up hC (s_X10_deliveredUnits ok) (ws2 hC.2)
  have hst := so_deliveredUnits a c
  subst eA
  have hV3 : INV (g_X10_deliveredUnits a c).2 v := hV2.vfr (fun k hk => funext fun i => (fr_deliveredUnits k i hk.1).symm)
  have hW := hR9.call (v' := v) (y' := y) (x' := x + 1) hS hV3 e13 (by have := hst.1; omega) (by have := hst.2; omega) hF
  rcases hA with ⟨z, e⟩ | ⟨z, e⟩
  · rw [e] at hCt
    rw [qc_v z]
    refine ⟨τ, Ct.ofH (by decide +kernel) k_L_deliveredUnits (Nat.le_of_ble_eq_true rfl) (by simp [Value.category, va_rf]) ?_, hW⟩
    refine Ev.aload_n (i := 0) dL_deliveredUnits_0 rfl rfl ?_
    refine Ev.iload_n (i := 1) dL_deliveredUnits_1 rfl rfl ?_
    refine Ev.callV (ci := 13) (C := RX10) (T := TX10) (N := 12) (As := [_]) (v := some (.int (i32 (f_deliveredUnits a v).1))) k_X10_deliveredUnits rfl kdh (tb6 (i := 165) rfl) ki_X10_deliveredUnits kv_X10_deliveredUnits dL_deliveredUnits_2 rfl rfl (Nat.le_of_ble_eq_true rfl) (Nat.le_refl _) hCt ?_
    exact Ev.iret rfl rfl dL_deliveredUnits_5
  · rw [e] at hCt
    have z1 : (f_deliveredUnits a v).2 0 0 = 1 := by omega
    rw [z1] at hCt
    rw [qc_x z1 (by decide)]
    refine ⟨τ, Ct.ofH (by decide +kernel) k_L_deliveredUnits (Nat.le_of_ble_eq_true rfl) (by simp [Value.category, va_rf]) ?_, hW⟩
    refine Ev.aload_n (i := 0) dL_deliveredUnits_0 rfl rfl ?_
    refine Ev.iload_n (i := 1) dL_deliveredUnits_1 rfl rfl ?_
    have hp : ∀ z ∈ ([] : List (Nat × Nat × Nat × Nat)), z.2.2.2 ≠ 0 ∧ ∃ nm, Cond.classLink m_L_deliveredUnits.y.cls z.2.2.2 nm ∈ lw_tbl ∧ xcp nm ∧ xIOB ≠ nm := fun z hz => by
      cases hz
    refine Ev.callVc (ci := 13) (C := RX10) (T := TX10) (N := 12) (As := [_]) (E := xIOB) (pre := []) (suf := []) (xa := 0) (xb := 5) (xh := 6) (xt := 39) hN (Or.inr (Or.inr (Or.inr (Or.inl rfl)))) k_X10_deliveredUnits rfl kdh (tb6 (i := 165) rfl) ki_X10_deliveredUnits kv_X10_deliveredUnits dL_deliveredUnits_2 rfl rfl (Nat.le_of_ble_eq_true rfl) (Nat.le_refl _) rfl (by decide) (by decide) hp (tb2 (i := 237) rfl) (tb3 (i := 10) rfl) hCt (fun q => ?_)
    refine Ev.astore_n (i := 2) dL_deliveredUnits_6 rfl (by decide) ?_
    refine Ev.bipush (v := i32 (-77)) dL_deliveredUnits_7 (by decide) ?_
    exact Ev.iret rfl rfl dL_deliveredUnits_9
theorem w_day {X : Cx} {h : Nat} {v : Vw} {y x : Int} {n m : Nat} {R : List Ar} : Kl X h m_X10_day 1 [va_rf (some h)] (v, (y, x), (n, m), R) (.inl (some (.int (i32 (v 8 0))))) (v, (y, x), (n, m), R) := by
  intro σ hR
  have hR9 := hR
  obtain ⟨⟨A, c, B, hC, hV, eA, h6, hx⟩, -⟩ := hR
  obtain ⟨τ, A2, B2, hCt, hS, e13, hF⟩ := kc_up hC s_X10_day (ws1 hC.2)
  subst eA
  rw [(fc_day hV).1] at hCt
  exact ⟨τ, hCt, hR9.call hS hV e13 h6 hx hF⟩
theorem w_brews {X : Cx} {h : Nat} {v : Vw} {y x : Int} {n m : Nat} {R : List Ar} {T E : Int} (hI : IM v T E) : Kl X h m_X10_brews 2 [va_rf (some h)] (v, (y, x), (n, m), R) (.inl (some (.int (i32 (v 5 0))))) (v, (y, x), (n, m), R) := by
  intro σ hR
  have hR9 := hR
  obtain ⟨⟨A, c, B, hC, hV, eA, h6, hx⟩, -⟩ := hR
  obtain ⟨τ, A2, B2, hCt, hS, e13, hF⟩ := kc_up hC s_X10_brews (ws1 hC.2)
  subst eA
  rw [(fc_brews hV hI).1] at hCt
  exact ⟨τ, hCt, hR9.call hS hV e13 h6 hx hF⟩
theorem w_queued {X : Cx} {h : Nat} {v : Vw} {y x : Int} {n m : Nat} {R : List Ar} {T E : Int} (hI : IM v T E) : Kl X h m_X10_queued 2 [va_rf (some h)] (v, (y, x), (n, m), R) (.inl (some (.int (i32 (v 7 0))))) (v, (y, x), (n, m), R) := by
  intro σ hR
  have hR9 := hR
  obtain ⟨⟨A, c, B, hC, hV, eA, h6, hx⟩, -⟩ := hR
  obtain ⟨τ, A2, B2, hCt, hS, e13, hF⟩ := kc_up hC s_X10_queued (ws1 hC.2)
  subst eA
  rw [(fc_queued hV hI).1] at hCt
  exact ⟨τ, hCt, hR9.call hS hV e13 h6 hx hF⟩
theorem w_deliveries {X : Cx} {h : Nat} {v : Vw} {y x : Int} {n m : Nat} {R : List Ar} {T E : Int} (hI : IM v T E) : Kl X h m_X10_deliveries 2 [va_rf (some h)] (v, (y, x), (n, m), R) (.inl (some (.int (i32 (v 9 0))))) (v, (y, x), (n, m), R) := by
  intro σ hR
  have hR9 := hR
  obtain ⟨⟨A, c, B, hC, hV, eA, h6, hx⟩, -⟩ := hR
  obtain ⟨τ, A2, B2, hCt, hS, e13, hF⟩ := kc_up hC s_X10_deliveries (ws1 hC.2)
  subst eA
  rw [(fc_deliveries hV hI).1] at hCt
  exact ⟨τ, hCt, hR9.call hS hV e13 h6 hx hF⟩
