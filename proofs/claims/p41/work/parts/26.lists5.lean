/-! ArrayList: taking out, emptying, a new one (written by wip/whole/mk22.py) -/
theorem setR_row0 {σ : Hp} {B i : Nat} {x : Option Nat} : σ.setR B i x = σ.row B (fun j => if j = i then x else σ.rv B j) := by
  have e : up2 σ.rv B i x = up1 σ.rv B (fun j => if j = i then x else σ.rv B j) := by
    funext a j
    show (if a = B ∧ j = i then x else σ.rv a j) = (if a = B then (fun j => if j = i then x else σ.rv B j) else σ.rv a) j
    by_cases h : a = B
    · rw [if_pos h, h]
      by_cases h2 : j = i
      · rw [if_pos ⟨rfl, h2⟩, if_pos h2]
      · rw [if_neg (fun q => h2 q.2), if_neg h2]
    · rw [if_neg h, if_neg (fun q => h q.1)]
  show (_, _, _, up2 σ.rv B i x, _) = _
  rw [e]
  rfl
theorem rem_f {g : Nat → Option Nat} {xs : List Nat} {z : Int} (hz : 0 ≤ z ∧ z < (xs.length : Int)) (h5 : ∀ i x, xs[i]? = some x → g i = some x) : ∀ i y, (remL xs z.toNat)[i]? = some y → (if i = ((xs.length - 1 : Nat) : Int).toNat then none else va_cpy g g (z + 1).toNat z.toNat (((xs.length - 1 : Nat) : Int) - z).toNat i) = some y := by
  intro i y hy
  have hl := (List.getElem?_eq_some_iff.mp hy).1
  have hl2 := remL_len xs z.toNat (by omega)
  rw [remL_get xs z.toNat i] at hy
  rw [if_neg (by omega)]
  unfold va_cpy
  by_cases c1 : i < z.toNat
  · rw [if_pos c1] at hy
    rw [if_neg (by omega)]
    exact h5 i y hy
  · rw [if_neg c1] at hy
    rw [if_pos (by omega), show (z + 1).toNat + (i - z.toNat) = i + 1 by omega]
    exact h5 (i + 1) y hy
theorem rem_f0 {g : Nat → Option Nat} {xs : List Nat} {z : Int} (hz : 0 ≤ z ∧ z < (xs.length : Int)) (hl : ((xs.length - 1 : Nat) : Int) ≤ z) (h5 : ∀ i x, xs[i]? = some x → g i = some x) : ∀ i y, (remL xs z.toNat)[i]? = some y → (if i = ((xs.length - 1 : Nat) : Int).toNat then none else g i) = some y := by
  intro i y hy
  have hl := (List.getElem?_eq_some_iff.mp hy).1
  have hl2 := remL_len xs z.toNat (by omega)
  rw [remL_get xs z.toNat i, if_pos (by omega)] at hy
  rw [if_neg (by omega)]
  exact h5 i y hy
theorem rem_v {σ : Hp} {g : Nat → Option Nat} {n L : Nat} {z m : Int} (hv : ∀ i y, i < L → g i = some y → 3 ≤ σ.kd y ∧ σ.kd y ≤ 14) (hz : 0 ≤ z ∧ z < (n : Int)) (hm : m = ((n - 1 : Nat) : Int)) (hn : n ≤ L) : ∀ i y, i < L → (if i = m.toNat then none else va_cpy g g (z + 1).toNat z.toNat (m - z).toNat i) = some y → 3 ≤ σ.kd y ∧ σ.kd y ≤ 14 := by
  intro i y hi hy
  by_cases c : i = m.toNat
  · rw [if_pos c] at hy
    cases hy
  · rw [if_neg c] at hy
    unfold va_cpy at hy
    split at hy
    · exact hv _ y (by omega) hy
    · exact hv _ y hi hy
theorem LL.arr {X : Cx} {σ : Hp} {l B : Nat} {xs : List Nat} (hL : LL X σ l B xs) (h : 0 < xs.length) : σ.kd B = 24 ∧ xs.length ≤ σ.ln B ∧ σ.ln B ≤ 300 ∧ ∀ i y, i < σ.ln B → σ.rv B i = some y → 3 ≤ σ.kd y ∧ σ.kd y ≤ 14 := by
  rcases hL.2.2.2.2.2 with e | e
  · rw [e.2] at h
    exact absurd h (Nat.not_lt_zero _)
  · exact ⟨e.1, e.2.1, e.2.2.2.1, e.2.2.2.2⟩
theorem s_lfast {X : Cx} {σ : Hp} {l B : Nat} {z : Int} {xs : List Nat} (hW : WF X σ) (hL : LL X σ l B xs) (h0 : 0 ≤ z) (hz : z < (xs.length : Int)) : ∃ τ, Ct X m_Jx4a65c_fastRemove_b59b0 1 [va_rf (some l), va_rf (some B), .int (i32 z)] σ (.inl none) τ ∧ LL X τ l B (remL xs z.toNat) ∧ Fr X σ τ l B B := by
  have hL2 : LL X (σ.setI l 0 (σ.iv l 0 + i32 1)) l B xs := hL.mod
  have hW2 : WF X (σ.setI l 0 (σ.iv l 0 + i32 1)) := hW
  have h7 := hL2.arr (by omega)
  have h200 := hL.2.2.2.1
  have hl2 := remL_len xs z.toNat (by omega)
  have en : (xs.length : Int) - 1 = ((xs.length - 1 : Nat) : Int) := by omega
  by_cases c : ((xs.length - 1 : Nat) : Int) ≤ z
  · have hP := LL.anew (n := xs.length - 1) (f := fun j => if j = ((xs.length - 1 : Nat) : Int).toNat then none else (σ.setI l 0 (σ.iv l 0 + i32 1)).rv B j) (ys := remL xs z.toNat) hW2 hL2 h7.1 (by omega) (by omega) (by omega) (rem_f0 ⟨h0, hz⟩ c hL2.2.2.2.2.1) (fun i y hi hy => by
      by_cases e : i = ((xs.length - 1 : Nat) : Int).toNat
      · rw [if_pos e] at hy
        cases hy
      · rw [if_neg e] at hy
        exact h7.2.2.2 i y hi hy)
    refine ⟨_, ?_, hP.1, (Fr.mod hW).trans hW hP.2⟩
    refine Ct.of (by decide +kernel) rfl (Nat.le_of_ble_eq_true rfl) (by simp [Value.category, va_rf]) ?_
    refine Ev.aload_n (i := 0) dJx4a65c_fastRemove_b59b0_0 rfl rfl ?_
    refine Ev.dup dJx4a65c_fastRemove_b59b0_1 rfl ?_
    refine Er.gI (ci := 2) (k := 0) (σ.iv l 0) rfl rfl (by decide) (by decide) (tb1 (i := 61) rfl) (Or.inr (tb1 (i := 62) rfl)) rfl hL.1 dJx4a65c_fastRemove_b59b0_2 ?_
    refine Ei.const dJx4a65c_fastRemove_b59b0_5 ?_
    refine Ev.iadd dJx4a65c_fastRemove_b59b0_6 ?_
    refine Ev.pI (ci := 2) (k := 0) rfl (by decide) (by decide) (tb1 (i := 61) rfl) (Or.inr (tb1 (i := 62) rfl)) (Or.inl rfl) rfl rfl rfl hL.1 dJx4a65c_fastRemove_b59b0_7 ?_
    refine Ev.aload_n (i := 0) dJx4a65c_fastRemove_b59b0_10 rfl rfl ?_
    refine Er.gI (ci := 2) (k := 2) (i32 (xs.length : Int)) hL2.2.2.1 rfl (by decide) (by decide) (tb1 (i := 59) rfl) (Or.inl rfl) rfl hL2.1 dJx4a65c_fastRemove_b59b0_11 ?_
    refine Ei.const dJx4a65c_fastRemove_b59b0_14 ?_
    refine Ei.sub dJx4a65c_fastRemove_b59b0_15 ?_
    rw [en]
    refine Ev.dup dJx4a65c_fastRemove_b59b0_16 rfl ?_
    refine Ev.istore_n (i := 3) dJx4a65c_fastRemove_b59b0_17 rfl (by decide) ?_
    refine Ev.iload_n (i := 2) dJx4a65c_fastRemove_b59b0_18 rfl rfl ?_
    refine Ei.icmp_le_t (tgt := 34) dJx4a65c_fastRemove_b59b0_19 (by decide) ⟨by omega, by omega⟩ ⟨by omega, by omega⟩ (by omega) ?_
    refine Ev.aload_n (i := 1) dJx4a65c_fastRemove_b59b0_34 rfl rfl ?_
    refine Ev.aload_n (i := 0) dJx4a65c_fastRemove_b59b0_35 rfl rfl ?_
    refine Ev.iload_n (i := 3) dJx4a65c_fastRemove_b59b0_36 rfl rfl ?_
    refine Ev.dup_x1 dJx4a65c_fastRemove_b59b0_37 rfl rfl ?_
    refine Ev.pI (ci := 2) (k := 2) rfl (by decide) (by decide) (tb1 (i := 59) rfl) (Or.inl rfl) (Or.inl rfl) rfl rfl rfl hL2.1 dJx4a65c_fastRemove_b59b0_38 ?_
    refine Ev.aconst_null dJx4a65c_fastRemove_b59b0_41 ?_
    refine Er.aast h7.1 (by omega) (show ((xs.length - 1 : Nat) : Int) < (((σ.setI l 0 (σ.iv l 0 + i32 1)).ln B : Nat) : Int) by have := h7.2.1; omega) h7.2.2.1 (fun y hy => by cases hy) dJx4a65c_fastRemove_b59b0_42 ?_
    rw [show ((σ.setI l 0 (σ.iv l 0 + i32 1)).setI l 2 (i32 ((xs.length - 1 : Nat) : Int))).setR B ((xs.length - 1 : Nat) : Int).toNat none = ((σ.setI l 0 (σ.iv l 0 + i32 1)).setR B ((xs.length - 1 : Nat) : Int).toNat none).setI l 2 (i32 ((xs.length - 1 : Nat) : Int)) from rfl, setR_row0]
    exact Ev.vretE rfl dJx4a65c_fastRemove_b59b0_43 rfl rfl
  · have hP := LL.anew (n := xs.length - 1) (f := fun j => if j = ((xs.length - 1 : Nat) : Int).toNat then none else va_cpy ((σ.setI l 0 (σ.iv l 0 + i32 1)).rv B) ((σ.setI l 0 (σ.iv l 0 + i32 1)).rv B) (z + 1).toNat z.toNat (((xs.length - 1 : Nat) : Int) - z).toNat j) (ys := remL xs z.toNat) hW2 hL2 h7.1 (by omega) (by omega) (by omega) (rem_f ⟨h0, hz⟩ hL2.2.2.2.2.1) (rem_v h7.2.2.2 ⟨h0, hz⟩ rfl h7.2.1)
    refine ⟨_, ?_, hP.1, (Fr.mod hW).trans hW hP.2⟩
    refine Ct.of (by decide +kernel) rfl (Nat.le_of_ble_eq_true rfl) (by simp [Value.category, va_rf]) ?_
    refine Ev.aload_n (i := 0) dJx4a65c_fastRemove_b59b0_0 rfl rfl ?_
    refine Ev.dup dJx4a65c_fastRemove_b59b0_1 rfl ?_
    refine Er.gI (ci := 2) (k := 0) (σ.iv l 0) rfl rfl (by decide) (by decide) (tb1 (i := 61) rfl) (Or.inr (tb1 (i := 62) rfl)) rfl hL.1 dJx4a65c_fastRemove_b59b0_2 ?_
    refine Ei.const dJx4a65c_fastRemove_b59b0_5 ?_
    refine Ev.iadd dJx4a65c_fastRemove_b59b0_6 ?_
    refine Ev.pI (ci := 2) (k := 0) rfl (by decide) (by decide) (tb1 (i := 61) rfl) (Or.inr (tb1 (i := 62) rfl)) (Or.inl rfl) rfl rfl rfl hL.1 dJx4a65c_fastRemove_b59b0_7 ?_
    refine Ev.aload_n (i := 0) dJx4a65c_fastRemove_b59b0_10 rfl rfl ?_
    refine Er.gI (ci := 2) (k := 2) (i32 (xs.length : Int)) hL2.2.2.1 rfl (by decide) (by decide) (tb1 (i := 59) rfl) (Or.inl rfl) rfl hL2.1 dJx4a65c_fastRemove_b59b0_11 ?_
    refine Ei.const dJx4a65c_fastRemove_b59b0_14 ?_
    refine Ei.sub dJx4a65c_fastRemove_b59b0_15 ?_
    rw [en]
    refine Ev.dup dJx4a65c_fastRemove_b59b0_16 rfl ?_
    refine Ev.istore_n (i := 3) dJx4a65c_fastRemove_b59b0_17 rfl (by decide) ?_
    refine Ev.iload_n (i := 2) dJx4a65c_fastRemove_b59b0_18 rfl rfl ?_
    refine Ei.icmp_le_f (tgt := 34) dJx4a65c_fastRemove_b59b0_19 (by decide) ⟨by omega, by omega⟩ ⟨by omega, by omega⟩ (by omega) ?_
    refine Ev.aload_n (i := 1) dJx4a65c_fastRemove_b59b0_22 rfl rfl ?_
    refine Ev.iload_n (i := 2) dJx4a65c_fastRemove_b59b0_23 rfl rfl ?_
    refine Ei.const dJx4a65c_fastRemove_b59b0_24 ?_
    refine Ei.add dJx4a65c_fastRemove_b59b0_25 ?_
    refine Ev.aload_n (i := 1) dJx4a65c_fastRemove_b59b0_26 rfl rfl ?_
    refine Ev.iload_n (i := 2) dJx4a65c_fastRemove_b59b0_27 rfl rfl ?_
    refine Ev.iload_n (i := 3) dJx4a65c_fastRemove_b59b0_28 rfl rfl ?_
    refine Ev.iload_n (i := 2) dJx4a65c_fastRemove_b59b0_29 rfl rfl ?_
    refine Ei.sub dJx4a65c_fastRemove_b59b0_30 ?_
    refine Ev.copy h7.1 h7.1 (lz32 (by omega) (by omega)) (lz32 h0 (by omega)) (lz32 (by omega) (by omega)) (by rw [cl32 (by omega) (by omega), cl32 (by omega) (by omega)]; omega) (by rw [cl32 h0 (by omega), cl32 (by omega) (by omega)]; omega) (by rw [cl32 (by omega) (by omega), cl32 (by omega) (by omega)]; exact fun i hi y hy => h7.2.2.2 _ y (by omega) hy) (by decide) (by simp [Value.category, va_rf]) (tb3 (i := 106) rfl) dJx4a65c_fastRemove_b59b0_31 ?_
    rw [cl32 h0 (by omega), cl32 (z := z + 1) (by omega) (by omega), cl32 (z := ((xs.length - 1 : Nat) : Int) - z) (by omega) (by omega)]
    refine Ev.aload_n (i := 1) dJx4a65c_fastRemove_b59b0_34 rfl rfl ?_
    refine Ev.aload_n (i := 0) dJx4a65c_fastRemove_b59b0_35 rfl rfl ?_
    refine Ev.iload_n (i := 3) dJx4a65c_fastRemove_b59b0_36 rfl rfl ?_
    refine Ev.dup_x1 dJx4a65c_fastRemove_b59b0_37 rfl rfl ?_
    refine Ev.pI (ci := 2) (k := 2) rfl (by decide) (by decide) (tb1 (i := 59) rfl) (Or.inl rfl) (Or.inl rfl) rfl rfl rfl hL2.1 dJx4a65c_fastRemove_b59b0_38 ?_
    refine Ev.aconst_null dJx4a65c_fastRemove_b59b0_41 ?_
    refine Er.aast h7.1 (by omega) (show ((xs.length - 1 : Nat) : Int) < (((σ.setI l 0 (σ.iv l 0 + i32 1)).ln B : Nat) : Int) by have := h7.2.1; omega) h7.2.2.1 (fun y hy => by cases hy) dJx4a65c_fastRemove_b59b0_42 ?_
    rw [show ∀ (ρ : Hp), (ρ.setI l 2 (i32 ((xs.length - 1 : Nat) : Int))).setR B ((xs.length - 1 : Nat) : Int).toNat none = (ρ.setR B ((xs.length - 1 : Nat) : Int).toNat none).setI l 2 (i32 ((xs.length - 1 : Nat) : Int)) from fun _ => rfl, setR_row]
    exact Ev.vretE rfl dJx4a65c_fastRemove_b59b0_43 rfl rfl
theorem s_lrem {X : Cx} {σ : Hp} {l B x : Nat} {z : Int} {xs : List Nat} (hW : WF X σ) (hL : LL X σ l B xs) (h0 : 0 ≤ z) (hx : xs[z.toNat]? = some x) : ∃ τ, Ct X m_Jx4a65c_remove_915e3 3 [va_rf (some l), .int (i32 z)] σ (.inl (some (va_rf (some x)))) τ ∧ LL X τ l B (remL xs z.toNat) ∧ Fr X σ τ l B B := by
  have hz : z.toNat < xs.length := (List.getElem?_eq_some_iff.mp hx).1
  obtain ⟨τ, hC, hP, hF⟩ := s_lfast hW hL h0 (by omega)
  have h7 := hL.arr (by omega)
  have h4 := hL.2.2.2.1
  refine ⟨τ, ?_, hP, hF⟩
  refine Ct.of (by decide +kernel) rfl (Nat.le_of_ble_eq_true rfl) (by simp [Value.category, va_rf]) ?_
  refine Ev.iload_n (i := 1) dJx4a65c_remove_915e3_0 rfl rfl ?_
  refine Ev.aload_n (i := 0) dJx4a65c_remove_915e3_1 rfl rfl ?_
  refine Er.gI (ci := 2) (k := 2) (i32 (xs.length : Int)) hL.2.2.1 rfl (by decide) (by decide) (tb1 (i := 59) rfl) (Or.inl rfl) rfl hL.1 dJx4a65c_remove_915e3_2 ?_
  refine Ev.cs1 (As := [_, _]) k_J15_checkIndex_7cf53 (tb2 (i := 101) rfl) ki_J15_checkIndex_7cf53 dJx4a65c_remove_915e3_5 rfl rfl (Nat.le_of_ble_eq_true rfl) (by decide) (s_chk h0 (by omega) (by omega)) ?_
  refine Ev.pop dJx4a65c_remove_915e3_8 rfl ?_
  refine Ev.aload_n (i := 0) dJx4a65c_remove_915e3_9 rfl rfl ?_
  refine Er.gR (ci := 2) (k := 1) (some B) hL.2.1 rfl (by decide) (by decide) (tb1 (i := 58) rfl) (Or.inl rfl) rfl hL.1 dJx4a65c_remove_915e3_10 ?_
  refine Ev.astore_n (i := 2) dJx4a65c_remove_915e3_13 rfl (by decide) ?_
  refine Ev.aload_n (i := 2) dJx4a65c_remove_915e3_14 rfl rfl ?_
  refine Ev.iload_n (i := 1) dJx4a65c_remove_915e3_15 rfl rfl ?_
  refine Er.aald (some x) (hL.2.2.2.2.1 _ _ hx) h7.1 h0 (by omega) h7.2.2.1 dJx4a65c_remove_915e3_16 ?_
  refine Ev.astore_n (i := 3) dJx4a65c_remove_915e3_17 rfl (by decide) ?_
  refine Ev.aload_n (i := 0) dJx4a65c_remove_915e3_18 rfl rfl ?_
  refine Ev.aload_n (i := 2) dJx4a65c_remove_915e3_19 rfl rfl ?_
  refine Ev.iload_n (i := 1) dJx4a65c_remove_915e3_20 rfl rfl ?_
  refine Ev.callV (ci := 2) (As := [_, _]) k_Jx4a65c_fastRemove_b59b0 rfl hL.1 (tb3 (i := 102) rfl) ki_Jx4a65c_fastRemove_b59b0 kv_Jx4a65c_fastRemove_b59b0 dJx4a65c_remove_915e3_21 rfl rfl (Nat.le_of_ble_eq_true rfl) (by decide) hC ?_
  refine Ev.aload_n (i := 3) dJx4a65c_remove_915e3_24 rfl rfl ?_
  exact Ev.aretE rfl rfl dJx4a65c_remove_915e3_25 rfl rfl
def clf (g : Nat → Option Nat) (i : Nat) (j : Nat) : Option Nat := if j < i then none else g j
theorem clear_loop {X : Cx} {ρ : Hp} {l B n : Nat} {m : Value} (hk : ρ.kd B = 24) (hn : n ≤ ρ.ln B) (h4 : ρ.ln B ≤ 300) {g : Nat → Option Nat} : ∀ (k i : Nat), i + k = n → Ev X m_Jx4a65c_clear_da8c8 1 27 [some (va_rf (some l)), some (va_rf (some B)), some (.int (i32 (n : Int))), some (.int (i32 (i : Int)))] [] (ρ.row B (clf g i)) (.inl none) (ρ.row B (clf g n)) := by
  intro k
  induction k with
  | zero =>
    intro i hi
    rw [show i = n by omega]
    refine Ev.iload_n (i := 3) dJx4a65c_clear_da8c8_27 rfl rfl ?_
    refine Ev.iload_n (i := 2) dJx4a65c_clear_da8c8_28 rfl rfl ?_
    refine Ei.icmp_ge_t (tgt := 42) dJx4a65c_clear_da8c8_29 (by decide) ⟨by omega, by omega⟩ ⟨by omega, by omega⟩ (by omega) ?_
    exact Ev.vretE rfl dJx4a65c_clear_da8c8_42 rfl rfl
  | succ k ih =>
    intro i hi
    refine Ev.iload_n (i := 3) dJx4a65c_clear_da8c8_27 rfl rfl ?_
    refine Ev.iload_n (i := 2) dJx4a65c_clear_da8c8_28 rfl rfl ?_
    refine Ei.icmp_ge_f (tgt := 42) dJx4a65c_clear_da8c8_29 (by decide) ⟨by omega, by omega⟩ ⟨by omega, by omega⟩ (by omega) ?_
    refine Ev.aload_n (i := 1) dJx4a65c_clear_da8c8_32 rfl rfl ?_
    refine Ev.iload_n (i := 3) dJx4a65c_clear_da8c8_33 rfl rfl ?_
    refine Ev.aconst_null dJx4a65c_clear_da8c8_34 ?_
    refine Er.aast hk (by omega) (show (i : Int) < ((ρ.ln B : Nat) : Int) by omega) h4 (fun y hy => by cases hy) dJx4a65c_clear_da8c8_35 ?_
    rw [setR_row, Int.toNat_natCast]
    rw [show (fun j => if j = i then none else clf g i j) = clf g (i + 1) from funext fun j => by
      unfold clf
      by_cases e : j = i
      · rw [if_pos e, if_pos (by omega)]
      · rw [if_neg e]
        by_cases e2 : j < i
        · rw [if_pos e2, if_pos (by omega)]
        · rw [if_neg e2, if_neg (by omega)]]
    refine Ei.inc dJx4a65c_clear_da8c8_36 rfl (by decide) ?_
    refine Ev.goto (tgt := 27) dJx4a65c_clear_da8c8_39 (by decide) ?_
    exact ih (i + 1) (by omega)
theorem s_lclear {X : Cx} {σ : Hp} {l B : Nat} {xs : List Nat} (hW : WF X σ) (hL : LL X σ l B xs) : ∃ τ, Ct X m_Jx4a65c_clear_da8c8 1 [va_rf (some l)] σ (.inl none) τ ∧ LL X τ l B [] ∧ Fr X σ τ l B B := by
  have hL2 : LL X (σ.setI l 0 (σ.iv l 0 + i32 1)) l B xs := hL.mod
  have hW2 : WF X (σ.setI l 0 (σ.iv l 0 + i32 1)) := hW
  have h200 := hL.2.2.2.1
  rcases hL2.2.2.2.2.2 with e | e
  · obtain ⟨e1, e2⟩ := e
    subst e2
    have h24 : LL X ((σ.setI l 0 (σ.iv l 0 + i32 1)).setI l 2 (i32 0)) l B [] := ⟨hL2.1, hL2.2.1, if_pos ⟨rfl, rfl⟩, hL2.2.2.2.1, hL2.2.2.2.2.1, Or.inl ⟨e1, rfl⟩⟩
    refine ⟨_, ?_, h24, (Fr.mod hW).trans hW (Fr.mod hW2)⟩
    refine Ct.of (by decide +kernel) rfl (Nat.le_of_ble_eq_true rfl) (by simp [Value.category, va_rf]) ?_
    refine Ev.aload_n (i := 0) dJx4a65c_clear_da8c8_0 rfl rfl ?_
    refine Ev.dup dJx4a65c_clear_da8c8_1 rfl ?_
    refine Er.gI (ci := 2) (k := 0) (σ.iv l 0) rfl rfl (by decide) (by decide) (tb1 (i := 61) rfl) (Or.inr (tb1 (i := 62) rfl)) rfl hL.1 dJx4a65c_clear_da8c8_2 ?_
    refine Ei.const dJx4a65c_clear_da8c8_5 ?_
    refine Ev.iadd dJx4a65c_clear_da8c8_6 ?_
    refine Ev.pI (ci := 2) (k := 0) rfl (by decide) (by decide) (tb1 (i := 61) rfl) (Or.inr (tb1 (i := 62) rfl)) (Or.inl rfl) rfl rfl rfl hL.1 dJx4a65c_clear_da8c8_7 ?_
    refine Ev.aload_n (i := 0) dJx4a65c_clear_da8c8_10 rfl rfl ?_
    refine Er.gR (ci := 2) (k := 1) (some B) hL2.2.1 rfl (by decide) (by decide) (tb1 (i := 58) rfl) (Or.inl rfl) rfl hL2.1 dJx4a65c_clear_da8c8_11 ?_
    refine Ev.astore_n (i := 1) dJx4a65c_clear_da8c8_14 rfl (by decide) ?_
    refine Ev.aload_n (i := 0) dJx4a65c_clear_da8c8_15 rfl rfl ?_
    refine Er.gI (ci := 2) (k := 2) (i32 (([] : List Nat).length : Int)) hL2.2.2.1 rfl (by decide) (by decide) (tb1 (i := 59) rfl) (Or.inl rfl) rfl hL2.1 dJx4a65c_clear_da8c8_16 ?_
    refine Ev.istore_n (i := 2) dJx4a65c_clear_da8c8_19 rfl (by decide) ?_
    refine Ev.aload_n (i := 0) dJx4a65c_clear_da8c8_20 rfl rfl ?_
    refine Ei.const dJx4a65c_clear_da8c8_21 ?_
    refine Ev.dup_x1 dJx4a65c_clear_da8c8_22 rfl rfl ?_
    refine Ev.pI (ci := 2) (k := 2) rfl (by decide) (by decide) (tb1 (i := 59) rfl) (Or.inl rfl) (Or.inl rfl) rfl rfl rfl hL2.1 dJx4a65c_clear_da8c8_23 ?_
    refine Ev.istore_n (i := 3) dJx4a65c_clear_da8c8_26 rfl (by decide) ?_
    refine Ev.iload_n (i := 3) dJx4a65c_clear_da8c8_27 rfl rfl ?_
    refine Ev.iload_n (i := 2) dJx4a65c_clear_da8c8_28 rfl rfl ?_
    refine Ei.icmp_ge_t (tgt := 42) dJx4a65c_clear_da8c8_29 (by decide) ⟨by decide, by decide⟩ ⟨by decide, by decide⟩ (by show (0 : Int) ≤ 0; decide) ?_
    exact Ev.vretE rfl dJx4a65c_clear_da8c8_42 rfl rfl
  · have hP := LL.anew (n := 0) (f := clf ((σ.setI l 0 (σ.iv l 0 + i32 1)).rv B) xs.length) (ys := []) hW2 hL2 e.1 rfl (Nat.zero_le _) (Nat.zero_le _) (fun i x hx => by simp at hx) (fun i y hi hy => by
      unfold clf at hy
      split at hy
      · cases hy
      · exact e.2.2.2.2 i y hi hy)
    refine ⟨_, ?_, hP.1, (Fr.mod hW).trans hW hP.2⟩
    refine Ct.of (by decide +kernel) rfl (Nat.le_of_ble_eq_true rfl) (by simp [Value.category, va_rf]) ?_
    refine Ev.aload_n (i := 0) dJx4a65c_clear_da8c8_0 rfl rfl ?_
    refine Ev.dup dJx4a65c_clear_da8c8_1 rfl ?_
    refine Er.gI (ci := 2) (k := 0) (σ.iv l 0) rfl rfl (by decide) (by decide) (tb1 (i := 61) rfl) (Or.inr (tb1 (i := 62) rfl)) rfl hL.1 dJx4a65c_clear_da8c8_2 ?_
    refine Ei.const dJx4a65c_clear_da8c8_5 ?_
    refine Ev.iadd dJx4a65c_clear_da8c8_6 ?_
    refine Ev.pI (ci := 2) (k := 0) rfl (by decide) (by decide) (tb1 (i := 61) rfl) (Or.inr (tb1 (i := 62) rfl)) (Or.inl rfl) rfl rfl rfl hL.1 dJx4a65c_clear_da8c8_7 ?_
    refine Ev.aload_n (i := 0) dJx4a65c_clear_da8c8_10 rfl rfl ?_
    refine Er.gR (ci := 2) (k := 1) (some B) hL2.2.1 rfl (by decide) (by decide) (tb1 (i := 58) rfl) (Or.inl rfl) rfl hL2.1 dJx4a65c_clear_da8c8_11 ?_
    refine Ev.astore_n (i := 1) dJx4a65c_clear_da8c8_14 rfl (by decide) ?_
    refine Ev.aload_n (i := 0) dJx4a65c_clear_da8c8_15 rfl rfl ?_
    refine Er.gI (ci := 2) (k := 2) (i32 (xs.length : Int)) hL2.2.2.1 rfl (by decide) (by decide) (tb1 (i := 59) rfl) (Or.inl rfl) rfl hL2.1 dJx4a65c_clear_da8c8_16 ?_
    refine Ev.istore_n (i := 2) dJx4a65c_clear_da8c8_19 rfl (by decide) ?_
    refine Ev.aload_n (i := 0) dJx4a65c_clear_da8c8_20 rfl rfl ?_
    refine Ei.const dJx4a65c_clear_da8c8_21 ?_
    refine Ev.dup_x1 dJx4a65c_clear_da8c8_22 rfl rfl ?_
    refine Ev.pI (ci := 2) (k := 2) rfl (by decide) (by decide) (tb1 (i := 59) rfl) (Or.inl rfl) (Or.inl rfl) rfl rfl rfl hL2.1 dJx4a65c_clear_da8c8_23 ?_
    refine Ev.istore_n (i := 3) dJx4a65c_clear_da8c8_26 rfl (by decide) ?_
    have e0 : ((σ.setI l 0 (σ.iv l 0 + i32 1)).setI l 2 (i32 0)) = ((σ.setI l 0 (σ.iv l 0 + i32 1)).setI l 2 (i32 0)).row B (clf ((σ.setI l 0 (σ.iv l 0 + i32 1)).rv B) 0) := by
      rw [show clf ((σ.setI l 0 (σ.iv l 0 + i32 1)).rv B) 0 = (σ.setI l 0 (σ.iv l 0 + i32 1)).rv B from funext fun j => rfl]
      have e1 : up1 (σ.setI l 0 (σ.iv l 0 + i32 1)).rv B ((σ.setI l 0 (σ.iv l 0 + i32 1)).rv B) = (σ.setI l 0 (σ.iv l 0 + i32 1)).rv := by
        funext a
        show (if a = B then _ else _) = _
        split
        · rename_i h
          rw [h]
        · rfl
      show _ = (_, _, _, up1 (σ.setI l 0 (σ.iv l 0 + i32 1)).rv B ((σ.setI l 0 (σ.iv l 0 + i32 1)).rv B), _)
      rw [e1]
      rfl
    rw [e0]
    exact clear_loop (m := .null) (ρ := ((σ.setI l 0 (σ.iv l 0 + i32 1)).setI l 2 (i32 0))) e.1 e.2.1 e.2.2.2.1 xs.length 0 (by omega)
def m_Jxc12de_init_da8c8 : Mt := (yJxc12de_init_da8c8, cJxc12de_init_da8c8, 1, none, [])
theorem k_Jxc12de_init_da8c8 : cokD m_Jxc12de_init_da8c8 0 := ⟨rfl, tb1 (i := 51) rfl, (tb1 (i := 3) rfl), by decide, by decide +kernel, by decide⟩
theorem ki_Jxc12de_init_da8c8 : Cond.instanceMethod m_Jxc12de_init_da8c8.y ∈ lw_tbl := (tb1 (i := 50) rfl)
theorem s_acinit {X : Cx} {σ : Hp} {l : Nat} : Ct X m_Jxa1e45_init_da8c8 1 [va_rf (some l)] σ (.inl none) σ := by
  refine Ct.of (by decide +kernel) rfl (Nat.le_of_ble_eq_true rfl) (by simp [Value.category, va_rf]) ?_
  refine Ev.aload_n (i := 0) dJxa1e45_init_da8c8_0 rfl rfl ?_
  refine Ev.objInit (tb1 (i := 55) rfl) (by decide) (by simp) dJxa1e45_init_da8c8_1 ?_
  exact Ev.vretE rfl dJxa1e45_init_da8c8_4 rfl rfl
theorem s_alinit {X : Cx} {σ : Hp} {l : Nat} (h : σ.kd l = 3) : Ct X m_Jxc12de_init_da8c8 2 [va_rf (some l)] σ (.inl none) (σ.setI l 0 (i32 0)) := by
  refine Ct.of (by decide +kernel) rfl (Nat.le_of_ble_eq_true rfl) (by simp [Value.category, va_rf]) ?_
  refine Ev.aload_n (i := 0) dJxc12de_init_da8c8_0 rfl rfl ?_
  refine Ev.callI (As := []) k_Jxa1e45_init_da8c8 rfl rfl (tb1 (i := 52) rfl) ki_Jxa1e45_init_da8c8 dJxc12de_init_da8c8_1 rfl rfl (Nat.le_of_ble_eq_true rfl) (by decide) s_acinit ?_
  refine Ev.aload_n (i := 0) dJxc12de_init_da8c8_4 rfl rfl ?_
  refine Ei.const dJxc12de_init_da8c8_5 ?_
  refine Ev.pI (ci := 2) (k := 0) rfl (by decide) (by decide) (tb1 (i := 60) rfl) (Or.inl rfl) (Or.inl rfl) rfl rfl rfl h dJxc12de_init_da8c8_6 ?_
  exact Ev.vretE rfl dJxc12de_init_da8c8_9 rfl rfl
theorem s_linit {X : Cx} {σ : Hp} {l : Nat} (h : σ.kd l = 3) : Ct X m_Jx4a65c_init_da8c8 3 [va_rf (some l)] σ (.inl none) ((σ.setI l 0 (i32 0)).setR l 1 (some X.t0)) := by
  refine Ct.of (by decide +kernel) rfl (Nat.le_of_ble_eq_true rfl) (by simp [Value.category, va_rf]) ?_
  refine Ev.aload_n (i := 0) dJx4a65c_init_da8c8_0 rfl rfl ?_
  refine Ev.callI (As := []) k_Jxc12de_init_da8c8 rfl rfl (tb1 (i := 49) rfl) ki_Jxc12de_init_da8c8 dJx4a65c_init_da8c8_1 rfl rfl (Nat.le_of_ble_eq_true rfl) (by decide) (s_alinit h) ?_
  refine Ev.aload_n (i := 0) dJx4a65c_init_da8c8_4 rfl rfl ?_
  refine Ev.getsE (tb1 (i := 56) rfl) dJx4a65c_init_da8c8_5 ?_
  refine Ev.pR (ci := 2) (k := 1) rfl (by decide) (by decide) (tb1 (i := 58) rfl) (Or.inl rfl) (Or.inl rfl) rfl h dJx4a65c_init_da8c8_8 ?_
  exact Ev.vretE rfl dJx4a65c_init_da8c8_11 rfl rfl
