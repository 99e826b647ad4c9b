/-! ArrayList: adding, taking out (written by wip/whole/mk22.py) -/
/-- one more behind the others -/
theorem put_post {X : Cx} {σ : Hp} {l B x : Nat} {xs : List Nat} (hW : WF X σ) (hL : LL X σ l B xs) (hB : σ.kd B = 24) (hr : xs.length < σ.ln B) (h199 : xs.length ≤ 199) (hx : 3 ≤ σ.kd x ∧ σ.kd x ≤ 14) :
    LL X ((σ.setR B xs.length (some x)).setI l 2 (i32 ((xs.length : Int) + 1))) l B (xs ++ [x]) ∧ Fr X σ ((σ.setR B xs.length (some x)).setI l 2 (i32 ((xs.length : Int) + 1))) l B B := by
  refine ⟨?_, (Fr.set hW).trans hW (Fr.mod hW)⟩
  obtain ⟨h1, h2, h3, h4, h5, h6⟩ := hL
  have h6' : xs.length ≤ σ.ln B ∧ 1 ≤ σ.ln B ∧ σ.ln B ≤ 300 ∧ ∀ i y, i < σ.ln B → σ.rv B i = some y → 3 ≤ σ.kd y ∧ σ.kd y ≤ 14 := by
    rcases h6 with h6 | h6
    · have := (hW.2.2 B (by omega)).1
      have := hW.1
      omega
    · exact h6.2
  have hne : ¬ l = B := fun e => by rw [e] at h1; omega
  refine ⟨h1, (if_neg (fun h => hne h.1)).trans h2, ?_, by rw [List.length_append]; show xs.length + 1 ≤ 200; omega, fun i y hy => ?_, Or.inr ⟨hB, by rw [List.length_append]; show xs.length + 1 ≤ σ.ln B; omega, h6'.2.1, h6'.2.2.1, fun i y hi hy => ?_⟩⟩
  · rw [List.length_append]
    exact (if_pos ⟨rfl, rfl⟩).trans (congrArg i32 (by show (xs.length : Int) + 1 = ((xs.length + 1 : Nat) : Int); omega))
  · show (if B = B ∧ i = xs.length then some x else σ.rv B i) = some y
    rw [List.getElem?_append] at hy
    by_cases c : i < xs.length
    · rw [if_pos c] at hy
      rw [if_neg (fun h => by omega)]
      exact h5 i y hy
    · rw [if_neg c] at hy
      have hi : i = xs.length := by
        have := (List.getElem?_eq_some_iff.mp hy).1
        simp at this
        omega
      rw [if_pos ⟨rfl, hi⟩]
      rw [hi, Nat.sub_self] at hy
      exact hy
  · have hy' : (if B = B ∧ i = xs.length then some x else σ.rv B i) = some y := hy
    by_cases e : i = xs.length
    · rw [if_pos ⟨rfl, e⟩] at hy'
      cases hy'
      exact hx
    · rw [if_neg (fun h => e h.2)] at hy'
      exact h6'.2.2.2 i y hi hy'
theorem Fr.kds {X : Cx} {σ τ : Hp} {l B B' x : Nat} (h : Fr X σ τ l B B') (hx : 3 ≤ σ.kd x ∧ σ.kd x ≤ 14) : 3 ≤ τ.kd x ∧ τ.kd x ≤ 14 := by
  rw [(h.1 x (by omega)).1]
  exact hx
theorem LL.full {X : Cx} {σ : Hp} {l B : Nat} {xs : List Nat} (hW : WF X σ) (hL : LL X σ l B xs) : (cap X σ B = xs.length) ∨ (σ.kd B = 24 ∧ xs.length < σ.ln B) := by
  rcases hL.2.2.2.2.2 with h | h
  · rw [h.1, h.2]
    exact Or.inl cap_0
  · rw [cap_24 hW h.1]
    by_cases e : xs.length < σ.ln B
    · exact Or.inr ⟨h.1, e⟩
    · exact Or.inl (by omega)
theorem s_ladd3 {X : Cx} {σ : Hp} {l B x : Nat} {xs : List Nat} (hW : WF X σ) (hL : LL X σ l B xs) (h199 : xs.length ≤ 199) (hx : 3 ≤ σ.kd x ∧ σ.kd x ≤ 14) : ∃ τ B', Ct X m_Jx4a65c_add_72be8 5 [va_rf (some l), va_rf (some x), va_rf (some B), .int (i32 (xs.length : Int))] σ (.inl none) τ ∧ LL X τ l B' (xs ++ [x]) ∧ Fr X σ τ l B B' := by
  rcases hL.full hW with hf | hf
  · obtain ⟨τ1, hC, hL1, hk1, hr1, hF1⟩ := s_grow0 hW hL hf h199
    have hx9 := hF1.kds hx
    have hP := put_post hF1.2.2.2.2.1 hL1 hk1 hr1 h199 hx9
    have hl3 : τ1.kd l = 3 := hL1.1
    have h7 : τ1.kd σ.sz = 24 ∧ xs.length < τ1.ln σ.sz ∧ τ1.ln σ.sz ≤ 300 := ⟨hk1, hr1, by
      rcases hL1.room with e | e
      · have := hF1.2.2.2.2.1.2.2 σ.sz (by omega)
        have := hW.1
        have := hW.2.1
        omega
      · exact e.2.2⟩
    refine ⟨_, _, ?_, hP.1, hF1.trans hW hP.2⟩
    have hl : (cap X σ B : Int) = (xs.length : Int) := by rw [hf]
    refine Ct.of (by decide +kernel) rfl (Nat.le_of_ble_eq_true rfl) (by simp [Value.category, va_rf]) ?_
    refine Ev.iload_n (i := 3) dJx4a65c_add_72be8_0 rfl rfl ?_
    refine Ev.aload_n (i := 2) dJx4a65c_add_72be8_1 rfl rfl ?_
    have key : ∀ {o : Rs} {τ : Hp} {ls : List (Option Value)} {rest : List Value}, Ev X m_Jx4a65c_add_72be8 5 3 ls (.int (i32 (xs.length : Int)) :: rest) σ o τ → Ev X m_Jx4a65c_add_72be8 5 2 ls (va_rf (some B) :: rest) σ o τ := by
      intro o τ ls rest k
      rcases hL.room with e | e
      · rw [e.1]
        rw [e.2] at k
        exact Er.alen0 dJx4a65c_add_72be8_2 k
      · rw [cap_24 hW e.1] at hf
        rw [← hf] at k
        exact Er.alen e.1 e.2.2 dJx4a65c_add_72be8_2 k
    refine key ?_
    refine Ei.icmp_ne_f (tgt := 11) dJx4a65c_add_72be8_3 (by decide) ⟨by omega, by omega⟩ ⟨by omega, by omega⟩ (by omega) ?_
    refine Ev.aload_n (i := 0) dJx4a65c_add_72be8_6 rfl rfl ?_
    refine Ev.callV (ci := 2) (As := []) k_Jx4a65c_grow_d5877 rfl hL.1 (tb1 (i := 126) rfl) ki_Jx4a65c_grow_d5877 kv_Jx4a65c_grow_d5877 dJx4a65c_add_72be8_7 rfl rfl (Nat.le_of_ble_eq_true rfl) (by decide) hC ?_
    refine Ev.astore_n (i := 2) dJx4a65c_add_72be8_10 rfl (by decide) ?_
    refine Ev.aload_n (i := 2) dJx4a65c_add_72be8_11 rfl rfl ?_
    refine Ev.iload_n (i := 3) dJx4a65c_add_72be8_12 rfl rfl ?_
    refine Ev.aload_n (i := 1) dJx4a65c_add_72be8_13 rfl rfl ?_
    refine Er.aast h7.1 (by omega) (by omega) h7.2.2 (fun y hy => by cases hy; exact hx9) dJx4a65c_add_72be8_14 ?_
    refine Ev.aload_n (i := 0) dJx4a65c_add_72be8_15 rfl rfl ?_
    refine Ev.iload_n (i := 3) dJx4a65c_add_72be8_16 rfl rfl ?_
    refine Ei.const dJx4a65c_add_72be8_17 ?_
    refine Ei.add dJx4a65c_add_72be8_18 ?_
    refine Ev.pI (ci := 2) (k := 2) rfl (by decide) (by decide) (tb1 (i := 59) rfl) (Or.inl rfl) (Or.inl rfl) rfl rfl rfl hl3 dJx4a65c_add_72be8_19 ?_
    exact Ev.vretE rfl dJx4a65c_add_72be8_22 rfl rfl
  · have hP := put_post hW hL hf.1 hf.2 h199 hx
    have h7 : σ.kd B = 24 ∧ xs.length < σ.ln B ∧ σ.ln B ≤ 300 := ⟨hf.1, hf.2, by
      rcases hL.room with e | e
      · have := hW.2.2 B (by omega)
        have := hW.1
        omega
      · exact e.2.2⟩
    have hl3 := hL.1
    have hx9 := hx
    refine ⟨_, _, ?_, hP.1, hP.2⟩
    refine Ct.of (by decide +kernel) rfl (Nat.le_of_ble_eq_true rfl) (by simp [Value.category, va_rf]) ?_
    refine Ev.iload_n (i := 3) dJx4a65c_add_72be8_0 rfl rfl ?_
    refine Ev.aload_n (i := 2) dJx4a65c_add_72be8_1 rfl rfl ?_
    refine Er.alen h7.1 h7.2.2 dJx4a65c_add_72be8_2 ?_
    refine Ei.icmp_ne_t (tgt := 11) dJx4a65c_add_72be8_3 (by decide) ⟨by omega, by omega⟩ ⟨by omega, by omega⟩ (by omega) ?_
    refine Ev.aload_n (i := 2) dJx4a65c_add_72be8_11 rfl rfl ?_
    refine Ev.iload_n (i := 3) dJx4a65c_add_72be8_12 rfl rfl ?_
    refine Ev.aload_n (i := 1) dJx4a65c_add_72be8_13 rfl rfl ?_
    refine Er.aast h7.1 (by omega) (by omega) h7.2.2 (fun y hy => by cases hy; exact hx9) dJx4a65c_add_72be8_14 ?_
    refine Ev.aload_n (i := 0) dJx4a65c_add_72be8_15 rfl rfl ?_
    refine Ev.iload_n (i := 3) dJx4a65c_add_72be8_16 rfl rfl ?_
    refine Ei.const dJx4a65c_add_72be8_17 ?_
    refine Ei.add dJx4a65c_add_72be8_18 ?_
    refine Ev.pI (ci := 2) (k := 2) rfl (by decide) (by decide) (tb1 (i := 59) rfl) (Or.inl rfl) (Or.inl rfl) rfl rfl rfl hl3 dJx4a65c_add_72be8_19 ?_
    exact Ev.vretE rfl dJx4a65c_add_72be8_22 rfl rfl
theorem s_ladd {X : Cx} {σ : Hp} {l B x : Nat} {xs : List Nat} (hW : WF X σ) (hL : LL X σ l B xs) (h199 : xs.length ≤ 199) (hx : 3 ≤ σ.kd x ∧ σ.kd x ≤ 14) : ∃ τ B', Ct X m_Jx4a65c_add_9ea2d 6 [va_rf (some l), va_rf (some x)] σ (.inl (some (.int (i32 1)))) τ ∧ LL X τ l B' (xs ++ [x]) ∧ Fr X σ τ l B B' := by
  obtain ⟨τ, B', hC, hP, hF⟩ := s_ladd3 (σ := σ.setI l 0 (σ.iv l 0 + i32 1)) (l := l) (x := x) hW hL.mod h199 hx
  refine ⟨τ, B', ?_, hP, (Fr.mod hW).trans hW hF⟩
  have hL2 : LL X (σ.setI l 0 (σ.iv l 0 + i32 1)) l B xs := hL.mod
  refine Ct.of (by decide +kernel) rfl (Nat.le_of_ble_eq_true rfl) (by simp [Value.category, va_rf]) ?_
  refine Ev.aload_n (i := 0) dJx4a65c_add_9ea2d_0 rfl rfl ?_
  refine Ev.dup dJx4a65c_add_9ea2d_1 rfl ?_
  refine Er.gI (ci := 2) (k := 0) (σ.iv l 0) rfl rfl (by decide) (by decide) (tb1 (i := 61) rfl) (Or.inr (tb1 (i := 62) rfl)) rfl hL.1 dJx4a65c_add_9ea2d_2 ?_
  refine Ei.const dJx4a65c_add_9ea2d_5 ?_
  refine Ev.iadd dJx4a65c_add_9ea2d_6 ?_
  refine Ev.pI (ci := 2) (k := 0) rfl (by decide) (by decide) (tb1 (i := 61) rfl) (Or.inr (tb1 (i := 62) rfl)) (Or.inl rfl) rfl rfl rfl hL.1 dJx4a65c_add_9ea2d_7 ?_
  refine Ev.aload_n (i := 0) dJx4a65c_add_9ea2d_10 rfl rfl ?_
  refine Ev.aload_n (i := 1) dJx4a65c_add_9ea2d_11 rfl rfl ?_
  refine Ev.aload_n (i := 0) dJx4a65c_add_9ea2d_12 rfl rfl ?_
  refine Er.gR (ci := 2) (k := 1) (some B) hL2.2.1 rfl (by decide) (by decide) (tb1 (i := 58) rfl) (Or.inl rfl) rfl hL2.1 dJx4a65c_add_9ea2d_13 ?_
  refine Ev.aload_n (i := 0) dJx4a65c_add_9ea2d_16 rfl rfl ?_
  refine Er.gI (ci := 2) (k := 2) (i32 (xs.length : Int)) hL2.2.2.1 rfl (by decide) (by decide) (tb1 (i := 59) rfl) (Or.inl rfl) rfl hL2.1 dJx4a65c_add_9ea2d_17 ?_
  refine Ev.callV (ci := 2) (As := [_, _, _]) k_Jx4a65c_add_72be8 rfl hL2.1 (tb1 (i := 122) rfl) ki_Jx4a65c_add_72be8 kv_Jx4a65c_add_72be8 dJx4a65c_add_9ea2d_20 rfl rfl (Nat.le_of_ble_eq_true rfl) (by decide) hC ?_
  refine Ei.const dJx4a65c_add_9ea2d_23 ?_
  exact Ev.iretE rfl rfl dJx4a65c_add_9ea2d_24 rfl rfl
theorem s_lrange {X : Cx} {σ : Hp} {l B : Nat} {xs : List Nat} (hL : LL X σ l B xs) {z : Int} (h0 : 0 ≤ z) (hz : z ≤ (xs.length : Int)) : Ct X m_Jx4a65c_rangeCheckForAdd_d00df 1 [va_rf (some l), .int (i32 z)] σ (.inl none) σ := by
  have h4 := hL.2.2.2.1
  refine Ct.of (by decide +kernel) rfl (Nat.le_of_ble_eq_true rfl) (by simp [Value.category, va_rf]) ?_
  refine Ev.iload_n (i := 1) dJx4a65c_rangeCheckForAdd_d00df_0 rfl rfl ?_
  refine Ev.aload_n (i := 0) dJx4a65c_rangeCheckForAdd_d00df_1 rfl rfl ?_
  refine Er.gI (ci := 2) (k := 2) (i32 (xs.length : Int)) hL.2.2.1 rfl (by decide) (by decide) (tb1 (i := 59) rfl) (Or.inl rfl) rfl hL.1 dJx4a65c_rangeCheckForAdd_d00df_2 ?_
  refine Ei.icmp_gt_f (tgt := 12) dJx4a65c_rangeCheckForAdd_d00df_5 (by decide) ⟨by omega, by omega⟩ ⟨by omega, by omega⟩ (by omega) ?_
  refine Ev.iload_n (i := 1) dJx4a65c_rangeCheckForAdd_d00df_8 rfl rfl ?_
  refine Ei.if_ge_t (tgt := 25) dJx4a65c_rangeCheckForAdd_d00df_9 (by decide) ⟨by omega, by omega⟩ (by omega) ?_
  exact Ev.vretE rfl dJx4a65c_rangeCheckForAdd_d00df_25 rfl rfl
