/-! the law's helpers: brews (written by wip/p41/mk93.py) -/
def m_L_areBrews : Mt := (yL_areBrews, cL_areBrews, 7, some .boolean, [])
theorem k_L_areBrews : cokD m_L_areBrews 2 := ⟨rfl, (tb6 (i := 139) rfl), (tb1 (i := 0) rfl), by decide, by decide +kernel, by decide⟩
theorem ki_L_areBrews : Cond.static m_L_areBrews.y ∈ lw_tbl := (tb6 (i := 138) rfl)
theorem l_areBrews {X : Cx} {h : Nat} {v : Vw} {y : Int} {n m : Nat} {un it : Nat} {u tk : Int → Int} {T E K : Int} (hN : KN X) (hI : IM v T E) (hA : PA K v) (htk : ∀ j, 0 ≤ j → j < v 2 0 → tk j = v 20 j) (hJ : ∀ b, 0 ≤ b → b < v 5 0 → (v 28 b = 0 ∨ v 28 b = 2) → 1 ≤ v 30 b) : ∀ (n9 : Nat) (i x : Int), 0 ≤ i → i ≤ v 5 0 → (v 5 0 - i).toNat < n9 →
    Wv X h m_L_areBrews 12 22 [some (va_rf (some h)), some (va_rf (some it)), some (.int (i32 1)), some (.int (i32 i)), none, none, none] [] (v, (y, x), (n, m), Rz un it u tk) (.inl (some (.int (i32 1)))) (v, (y, x + 6 * (v 5 0 - i)), (n, m), Rz un it u tk) := by
  intro n9
  induction n9 with
  | zero => exact fun _ _ _ _ hn => absurd hn (Nat.not_lt_zero _)
  | succ n9 ih =>
    intro i x i0 i2 hn
    have u2 : 0 ≤ v 2 0 ∧ v 2 0 ≤ 8 := hI.2 2 0
    have u5 : 0 ≤ v 5 0 ∧ v 5 0 ≤ 30 := hI.2 5 0
    by_cases c9 : v 5 0 ≤ i
    · refine Wv.after (y := y) (x := x) (Int.le_refl _) (by omega) ?_
      refine Wv.iload_n (i := 3) dL_areBrews_22 rfl rfl ?_
      refine Wv.aload_n (i := 0) dL_areBrews_23 rfl rfl ?_
      refine Wv.callV (As := []) (v := some _) k_X10_brews (tb1 (i := 238) rfl) ki_X10_brews kv_X10_brews dL_areBrews_24 rfl rfl (Nat.le_of_ble_eq_true rfl) (Nat.le_of_ble_eq_true rfl) (w_brews hI) ?_
      refine Wi.icmp_ge_t (tgt := 177) dL_areBrews_27 (by decide) ⟨by omega, by omega⟩ ⟨by omega, by omega⟩ (by omega) ?_
      refine Wv.iload_n (i := 2) dL_areBrews_177 rfl rfl ?_
      exact Wv.iret rfl (nar_b (Or.inr rfl)) dL_areBrews_178
    · have i2 : i < v 5 0 := by omega
      have ha : 0 ≤ i ∧ i < v 5 0 := ⟨i0, i2⟩
      have u28 : 0 ≤ v 28 i ∧ v 28 i ≤ 4 := hI.2 28 i
      have u27 : 0 ≤ v 27 i ∧ v 27 i ≤ 4 := hI.2 27 i
      have u30 : 0 ≤ v 30 i ∧ v 30 i ≤ 15 := hI.2 30 i
      have next : ∀ (ls : List (Option Value)), lsub [some (va_rf (some h)), some (va_rf (some it)), some (.int (i32 1)), some (.int (i32 (i + 1))), none, none, none] ls → ∀ x', x' ≤ x + 6 → Wv X h m_L_areBrews 12 22 ls [] (v, (y, x'), (n, m), Rz un it u tk) (.inl (some (.int (i32 1)))) (v, (y, x + 6 * (v 5 0 - i)), (n, m), Rz un it u tk) := fun ls hl x' hx' => by
        have k := ih (i + 1) (x + 6) (by omega) (by omega) (by omega)
        rw [show x + 6 + 6 * (v 5 0 - (i + 1)) = x + 6 * (v 5 0 - i) by omega] at k
        exact Wv.more (Int.le_refl _) hx' (Wv.fgt hl k)
      have z : v 28 i = 0 ∨ v 28 i = 1 ∨ v 28 i = 2 ∨ v 28 i = 3 ∨ v 28 i = 4 := by omega
      rcases z with z | z | z | z | z
      · obtain ⟨a0, a1, a2, a3⟩ := hA.1.1 i i0 i2 (by omega)
        have et := htk (v 29 i) a0.1 a0.2
        have u20 : 0 ≤ v 20 (v 29 i) ∧ v 20 (v 29 i) ≤ 1 := hI.2 20 (v 29 i)
        have e20 : v 20 (v 29 i) = 0 := by
          have q : ¬ v 20 (v 29 i) = 1 := fun q => by have := a3.mp q; omega
          omega
        have p30 := hJ i i0 i2 (by omega)
        refine Wv.iload_n (i := 3) dL_areBrews_22 rfl rfl ?_
        refine Wv.aload_n (i := 0) dL_areBrews_23 rfl rfl ?_
        refine Wv.callV (As := []) (v := some _) k_X10_brews (tb1 (i := 238) rfl) ki_X10_brews kv_X10_brews dL_areBrews_24 rfl rfl (Nat.le_of_ble_eq_true rfl) (Nat.le_of_ble_eq_true rfl) (w_brews hI) ?_
        refine Wi.icmp_ge_f (tgt := 177) dL_areBrews_27 (by decide) ⟨by omega, by omega⟩ ⟨by omega, by omega⟩ (by omega) ?_
        refine Wv.aload_n (i := 0) dL_areBrews_30 rfl rfl ?_
        refine Wv.iload_n (i := 3) dL_areBrews_31 rfl rfl ?_
        refine Wv.callH (As := [_, _]) (v := some _) k_L_stage (tb6 (i := 82) rfl) ki_L_stage dL_areBrews_32 rfl rfl (Nat.le_of_ble_eq_true rfl) (Nat.le_of_ble_eq_true rfl) (n_stage hN hI ha (s := 102) (by rw [z]; rfl)) ?_
        refine Wv.istore dL_areBrews_35 (by decide) rfl ?_
        refine Wv.aload_n (i := 0) dL_areBrews_37 rfl rfl ?_
        refine Wv.iload_n (i := 3) dL_areBrews_38 rfl rfl ?_
        refine Wv.callH (As := [_, _]) (v := some _) k_L_vesselOf (tb6 (i := 89) rfl) ki_L_vesselOf dL_areBrews_39 rfl rfl (Nat.le_of_ble_eq_true rfl) (Nat.le_of_ble_eq_true rfl) (n_vesselOf hN hI ha (s := v 29 i) (if_neg (by omega))) ?_
        refine Wv.istore dL_areBrews_42 (by decide) rfl ?_
        refine Wv.aload_n (i := 0) dL_areBrews_44 rfl rfl ?_
        refine Wv.iload_n (i := 3) dL_areBrews_45 rfl rfl ?_
        refine Wv.callH (As := [_, _]) (v := some _) k_L_daysToGo (tb6 (i := 115) rfl) ki_L_daysToGo dL_areBrews_46 rfl rfl (Nat.le_of_ble_eq_true rfl) (Nat.le_of_ble_eq_true rfl) (n_daysToGo hN hI ha (s := v 30 i) (if_pos (by omega))) ?_
        refine Wv.istore dL_areBrews_49 (by decide) rfl ?_
        refine Wv.iload_n (i := 2) dL_areBrews_51 rfl rfl ?_
        refine Wv.iload dL_areBrews_52 rfl ?_
        refine Wv.bipush (v := i32 120) dL_areBrews_54 (by decide) ?_
        refine Wi.icmp_ne_t (tgt := 74) dL_areBrews_56 (by decide) ⟨by omega, by omega⟩ ⟨by omega, by omega⟩ (by omega) ?_
        refine Wv.aload_n (i := 0) dL_areBrews_74 rfl rfl ?_
        refine Wv.iload dL_areBrews_75 rfl ?_
        refine Wv.callH (As := [_, _]) (v := some _) k_L_brewIn (tb6 (i := 62) rfl) ki_L_brewIn dL_areBrews_77 rfl rfl (Nat.le_of_ble_eq_true rfl) (Nat.le_of_ble_eq_true rfl) (n_brewIn hN hI a0 (s := i) (by rw [if_pos a1]; exact a2)) ?_
        refine Wv.iload_n (i := 3) dL_areBrews_80 rfl rfl ?_
        refine Wi.icmp_ne_f (tgt := 114) dL_areBrews_81 (by decide) ⟨by omega, by omega⟩ ⟨by omega, by omega⟩ (by omega) ?_
        refine Wv.aload_n (i := 1) dL_areBrews_84 rfl rfl ?_
        refine Wv.iload dL_areBrews_85 rfl ?_
        refine Wv.zald 1 rfl (by omega) (by omega) (by decide) dL_areBrews_87 ?_
        refine Wv.iload dL_areBrews_88 rfl ?_
        refine Wv.bipush (v := i32 109) dL_areBrews_90 (by decide) ?_
        refine Wi.icmp_eq_f (tgt := 102) dL_areBrews_92 (by decide) ⟨by omega, by omega⟩ ⟨by omega, by omega⟩ (by omega) ?_
        refine Wv.iload dL_areBrews_95 rfl ?_
        refine Wv.bipush (v := i32 114) dL_areBrews_97 (by decide) ?_
        refine Wi.icmp_ne_t (tgt := 106) dL_areBrews_99 (by decide) ⟨by omega, by omega⟩ ⟨by omega, by omega⟩ (by omega) ?_
        refine Wi.const dL_areBrews_106 ?_
        refine Wi.icmp_ne_f (tgt := 114) dL_areBrews_107 (by decide) ⟨by omega, by omega⟩ ⟨by omega, by omega⟩ (by omega) ?_
        refine Wi.const dL_areBrews_110 ?_
        refine Wv.goto (tgt := 115) dL_areBrews_111 (by decide) ?_
        refine Wi.and1 dL_areBrews_115 ?_
        refine Wv.istore_n (i := 2) dL_areBrews_116 rfl (by decide) rfl ?_
        refine Wv.iload_n (i := 2) dL_areBrews_117 rfl rfl ?_
        refine Wv.aload_n (i := 0) dL_areBrews_118 rfl rfl ?_
        refine Wv.iload_n (i := 3) dL_areBrews_119 rfl rfl ?_
        refine Wv.callH (As := [_, _]) (v := some _) k_L_generation (tb6 (i := 140) rfl) ki_L_generation dL_areBrews_120 rfl rfl (Nat.le_of_ble_eq_true rfl) (Nat.le_of_ble_eq_true rfl) (n_generation hN hI ha (s := v 27 i) rfl) ?_
        refine Wi.if_lt_f (tgt := 168) dL_areBrews_123 (by decide) ⟨by omega, by omega⟩ (by omega) ?_
        refine Wv.aload_n (i := 0) dL_areBrews_126 rfl rfl ?_
        refine Wv.iload_n (i := 3) dL_areBrews_127 rfl rfl ?_
        refine Wv.callH (As := [_, _]) (v := some _) k_L_generation (tb6 (i := 140) rfl) ki_L_generation dL_areBrews_128 rfl rfl (Nat.le_of_ble_eq_true rfl) (Nat.le_of_ble_eq_true rfl) (n_generation hN hI ha (s := v 27 i) rfl) ?_
        refine Wi.const dL_areBrews_131 ?_
        refine Wi.icmp_gt_f (tgt := 168) dL_areBrews_132 (by decide) ⟨by omega, by omega⟩ ⟨by omega, by omega⟩ (by omega) ?_
        refine Wv.iload dL_areBrews_135 rfl ?_
        refine Wv.bipush (v := i32 102) dL_areBrews_137 (by decide) ?_
        refine Wi.icmp_eq_t (tgt := 149) dL_areBrews_139 (by decide) ⟨by omega, by omega⟩ ⟨by omega, by omega⟩ (by omega) ?_
        refine Wv.iload dL_areBrews_149 rfl ?_
        refine Wi.if_le_f (tgt := 168) dL_areBrews_151 (by decide) ⟨by omega, by omega⟩ (by omega) ?_
        refine Wv.goto (tgt := 164) dL_areBrews_154 (by decide) ?_
        refine Wi.const dL_areBrews_164 ?_
        refine Wv.goto (tgt := 169) dL_areBrews_165 (by decide) ?_
        refine Wi.and1 dL_areBrews_169 ?_
        refine Wv.istore_n (i := 2) dL_areBrews_170 rfl (by decide) rfl ?_
        refine Wi.inc dL_areBrews_171 rfl (by decide) rfl ?_
        refine Wv.goto (tgt := 22) dL_areBrews_174 (by decide) ?_
        refine next _ ?_ _ (by omega)
        exact ⟨rfl, rfl, rfl, rfl, trivial⟩
      · obtain ⟨a0, a1, a2, a3⟩ := hA.1.1 i i0 i2 (by omega)
        have et := htk (v 29 i) a0.1 a0.2
        have u20 : 0 ≤ v 20 (v 29 i) ∧ v 20 (v 29 i) ≤ 1 := hI.2 20 (v 29 i)
        have e20 : v 20 (v 29 i) = 0 := by
          have q : ¬ v 20 (v 29 i) = 1 := fun q => by have := a3.mp q; omega
          omega
        refine Wv.iload_n (i := 3) dL_areBrews_22 rfl rfl ?_
        refine Wv.aload_n (i := 0) dL_areBrews_23 rfl rfl ?_
        refine Wv.callV (As := []) (v := some _) k_X10_brews (tb1 (i := 238) rfl) ki_X10_brews kv_X10_brews dL_areBrews_24 rfl rfl (Nat.le_of_ble_eq_true rfl) (Nat.le_of_ble_eq_true rfl) (w_brews hI) ?_
        refine Wi.icmp_ge_f (tgt := 177) dL_areBrews_27 (by decide) ⟨by omega, by omega⟩ ⟨by omega, by omega⟩ (by omega) ?_
        refine Wv.aload_n (i := 0) dL_areBrews_30 rfl rfl ?_
        refine Wv.iload_n (i := 3) dL_areBrews_31 rfl rfl ?_
        refine Wv.callH (As := [_, _]) (v := some _) k_L_stage (tb6 (i := 82) rfl) ki_L_stage dL_areBrews_32 rfl rfl (Nat.le_of_ble_eq_true rfl) (Nat.le_of_ble_eq_true rfl) (n_stage hN hI ha (s := 119) (by rw [z]; rfl)) ?_
        refine Wv.istore dL_areBrews_35 (by decide) rfl ?_
        refine Wv.aload_n (i := 0) dL_areBrews_37 rfl rfl ?_
        refine Wv.iload_n (i := 3) dL_areBrews_38 rfl rfl ?_
        refine Wv.callH (As := [_, _]) (v := some _) k_L_vesselOf (tb6 (i := 89) rfl) ki_L_vesselOf dL_areBrews_39 rfl rfl (Nat.le_of_ble_eq_true rfl) (Nat.le_of_ble_eq_true rfl) (n_vesselOf hN hI ha (s := v 29 i) (if_neg (by omega))) ?_
        refine Wv.istore dL_areBrews_42 (by decide) rfl ?_
        refine Wv.aload_n (i := 0) dL_areBrews_44 rfl rfl ?_
        refine Wv.iload_n (i := 3) dL_areBrews_45 rfl rfl ?_
        refine Wv.callH (As := [_, _]) (v := some _) k_L_daysToGo (tb6 (i := 115) rfl) ki_L_daysToGo dL_areBrews_46 rfl rfl (Nat.le_of_ble_eq_true rfl) (Nat.le_of_ble_eq_true rfl) (n_daysToGo hN hI ha (s := -75) (if_neg (by omega))) ?_
        refine Wv.istore dL_areBrews_49 (by decide) rfl ?_
        refine Wv.iload_n (i := 2) dL_areBrews_51 rfl rfl ?_
        refine Wv.iload dL_areBrews_52 rfl ?_
        refine Wv.bipush (v := i32 120) dL_areBrews_54 (by decide) ?_
        refine Wi.icmp_ne_t (tgt := 74) dL_areBrews_56 (by decide) ⟨by omega, by omega⟩ ⟨by omega, by omega⟩ (by omega) ?_
        refine Wv.aload_n (i := 0) dL_areBrews_74 rfl rfl ?_
        refine Wv.iload dL_areBrews_75 rfl ?_
        refine Wv.callH (As := [_, _]) (v := some _) k_L_brewIn (tb6 (i := 62) rfl) ki_L_brewIn dL_areBrews_77 rfl rfl (Nat.le_of_ble_eq_true rfl) (Nat.le_of_ble_eq_true rfl) (n_brewIn hN hI a0 (s := i) (by rw [if_pos a1]; exact a2)) ?_
        refine Wv.iload_n (i := 3) dL_areBrews_80 rfl rfl ?_
        refine Wi.icmp_ne_f (tgt := 114) dL_areBrews_81 (by decide) ⟨by omega, by omega⟩ ⟨by omega, by omega⟩ (by omega) ?_
        refine Wv.aload_n (i := 1) dL_areBrews_84 rfl rfl ?_
        refine Wv.iload dL_areBrews_85 rfl ?_
        refine Wv.zald 1 rfl (by omega) (by omega) (by decide) dL_areBrews_87 ?_
        refine Wv.iload dL_areBrews_88 rfl ?_
        refine Wv.bipush (v := i32 109) dL_areBrews_90 (by decide) ?_
        refine Wi.icmp_eq_f (tgt := 102) dL_areBrews_92 (by decide) ⟨by omega, by omega⟩ ⟨by omega, by omega⟩ (by omega) ?_
        refine Wv.iload dL_areBrews_95 rfl ?_
        refine Wv.bipush (v := i32 114) dL_areBrews_97 (by decide) ?_
        refine Wi.icmp_ne_t (tgt := 106) dL_areBrews_99 (by decide) ⟨by omega, by omega⟩ ⟨by omega, by omega⟩ (by omega) ?_
        refine Wi.const dL_areBrews_106 ?_
        refine Wi.icmp_ne_f (tgt := 114) dL_areBrews_107 (by decide) ⟨by omega, by omega⟩ ⟨by omega, by omega⟩ (by omega) ?_
        refine Wi.const dL_areBrews_110 ?_
        refine Wv.goto (tgt := 115) dL_areBrews_111 (by decide) ?_
        refine Wi.and1 dL_areBrews_115 ?_
        refine Wv.istore_n (i := 2) dL_areBrews_116 rfl (by decide) rfl ?_
        refine Wv.iload_n (i := 2) dL_areBrews_117 rfl rfl ?_
        refine Wv.aload_n (i := 0) dL_areBrews_118 rfl rfl ?_
        refine Wv.iload_n (i := 3) dL_areBrews_119 rfl rfl ?_
        refine Wv.callH (As := [_, _]) (v := some _) k_L_generation (tb6 (i := 140) rfl) ki_L_generation dL_areBrews_120 rfl rfl (Nat.le_of_ble_eq_true rfl) (Nat.le_of_ble_eq_true rfl) (n_generation hN hI ha (s := v 27 i) rfl) ?_
        refine Wi.if_lt_f (tgt := 168) dL_areBrews_123 (by decide) ⟨by omega, by omega⟩ (by omega) ?_
        refine Wv.aload_n (i := 0) dL_areBrews_126 rfl rfl ?_
        refine Wv.iload_n (i := 3) dL_areBrews_127 rfl rfl ?_
        refine Wv.callH (As := [_, _]) (v := some _) k_L_generation (tb6 (i := 140) rfl) ki_L_generation dL_areBrews_128 rfl rfl (Nat.le_of_ble_eq_true rfl) (Nat.le_of_ble_eq_true rfl) (n_generation hN hI ha (s := v 27 i) rfl) ?_
        refine Wi.const dL_areBrews_131 ?_
        refine Wi.icmp_gt_f (tgt := 168) dL_areBrews_132 (by decide) ⟨by omega, by omega⟩ ⟨by omega, by omega⟩ (by omega) ?_
        refine Wv.iload dL_areBrews_135 rfl ?_
        refine Wv.bipush (v := i32 102) dL_areBrews_137 (by decide) ?_
        refine Wi.icmp_eq_f (tgt := 149) dL_areBrews_139 (by decide) ⟨by omega, by omega⟩ ⟨by omega, by omega⟩ (by omega) ?_
        refine Wv.iload dL_areBrews_142 rfl ?_
        refine Wv.bipush (v := i32 109) dL_areBrews_144 (by decide) ?_
        refine Wi.icmp_ne_t (tgt := 157) dL_areBrews_146 (by decide) ⟨by omega, by omega⟩ ⟨by omega, by omega⟩ (by omega) ?_
        refine Wv.iload dL_areBrews_157 rfl ?_
        refine Wv.bipush (v := i32 (-75)) dL_areBrews_159 (by decide) ?_
        refine Wi.icmp_ne_f (tgt := 168) dL_areBrews_161 (by decide) ⟨by omega, by omega⟩ ⟨by omega, by omega⟩ (by omega) ?_
        refine Wi.const dL_areBrews_164 ?_
        refine Wv.goto (tgt := 169) dL_areBrews_165 (by decide) ?_
        refine Wi.and1 dL_areBrews_169 ?_
        refine Wv.istore_n (i := 2) dL_areBrews_170 rfl (by decide) rfl ?_
        refine Wi.inc dL_areBrews_171 rfl (by decide) rfl ?_
        refine Wv.goto (tgt := 22) dL_areBrews_174 (by decide) ?_
        refine next _ ?_ _ (by omega)
        exact ⟨rfl, rfl, rfl, rfl, trivial⟩
      · obtain ⟨a0, a1, a2, a3⟩ := hA.1.1 i i0 i2 (by omega)
        have et := htk (v 29 i) a0.1 a0.2
        have u20 : 0 ≤ v 20 (v 29 i) ∧ v 20 (v 29 i) ≤ 1 := hI.2 20 (v 29 i)
        have e20 : v 20 (v 29 i) = 1 := a3.mpr (by omega)
        have p30 := hJ i i0 i2 (by omega)
        refine Wv.iload_n (i := 3) dL_areBrews_22 rfl rfl ?_
        refine Wv.aload_n (i := 0) dL_areBrews_23 rfl rfl ?_
        refine Wv.callV (As := []) (v := some _) k_X10_brews (tb1 (i := 238) rfl) ki_X10_brews kv_X10_brews dL_areBrews_24 rfl rfl (Nat.le_of_ble_eq_true rfl) (Nat.le_of_ble_eq_true rfl) (w_brews hI) ?_
        refine Wi.icmp_ge_f (tgt := 177) dL_areBrews_27 (by decide) ⟨by omega, by omega⟩ ⟨by omega, by omega⟩ (by omega) ?_
        refine Wv.aload_n (i := 0) dL_areBrews_30 rfl rfl ?_
        refine Wv.iload_n (i := 3) dL_areBrews_31 rfl rfl ?_
        refine Wv.callH (As := [_, _]) (v := some _) k_L_stage (tb6 (i := 82) rfl) ki_L_stage dL_areBrews_32 rfl rfl (Nat.le_of_ble_eq_true rfl) (Nat.le_of_ble_eq_true rfl) (n_stage hN hI ha (s := 109) (by rw [z]; rfl)) ?_
        refine Wv.istore dL_areBrews_35 (by decide) rfl ?_
        refine Wv.aload_n (i := 0) dL_areBrews_37 rfl rfl ?_
        refine Wv.iload_n (i := 3) dL_areBrews_38 rfl rfl ?_
        refine Wv.callH (As := [_, _]) (v := some _) k_L_vesselOf (tb6 (i := 89) rfl) ki_L_vesselOf dL_areBrews_39 rfl rfl (Nat.le_of_ble_eq_true rfl) (Nat.le_of_ble_eq_true rfl) (n_vesselOf hN hI ha (s := v 29 i) (if_neg (by omega))) ?_
        refine Wv.istore dL_areBrews_42 (by decide) rfl ?_
        refine Wv.aload_n (i := 0) dL_areBrews_44 rfl rfl ?_
        refine Wv.iload_n (i := 3) dL_areBrews_45 rfl rfl ?_
        refine Wv.callH (As := [_, _]) (v := some _) k_L_daysToGo (tb6 (i := 115) rfl) ki_L_daysToGo dL_areBrews_46 rfl rfl (Nat.le_of_ble_eq_true rfl) (Nat.le_of_ble_eq_true rfl) (n_daysToGo hN hI ha (s := v 30 i) (if_pos (by omega))) ?_
        refine Wv.istore dL_areBrews_49 (by decide) rfl ?_
        refine Wv.iload_n (i := 2) dL_areBrews_51 rfl rfl ?_
        refine Wv.iload dL_areBrews_52 rfl ?_
        refine Wv.bipush (v := i32 120) dL_areBrews_54 (by decide) ?_
        refine Wi.icmp_ne_t (tgt := 74) dL_areBrews_56 (by decide) ⟨by omega, by omega⟩ ⟨by omega, by omega⟩ (by omega) ?_
        refine Wv.aload_n (i := 0) dL_areBrews_74 rfl rfl ?_
        refine Wv.iload dL_areBrews_75 rfl ?_
        refine Wv.callH (As := [_, _]) (v := some _) k_L_brewIn (tb6 (i := 62) rfl) ki_L_brewIn dL_areBrews_77 rfl rfl (Nat.le_of_ble_eq_true rfl) (Nat.le_of_ble_eq_true rfl) (n_brewIn hN hI a0 (s := i) (by rw [if_pos a1]; exact a2)) ?_
        refine Wv.iload_n (i := 3) dL_areBrews_80 rfl rfl ?_
        refine Wi.icmp_ne_f (tgt := 114) dL_areBrews_81 (by decide) ⟨by omega, by omega⟩ ⟨by omega, by omega⟩ (by omega) ?_
        refine Wv.aload_n (i := 1) dL_areBrews_84 rfl rfl ?_
        refine Wv.iload dL_areBrews_85 rfl ?_
        refine Wv.zald 1 rfl (by omega) (by omega) (by decide) dL_areBrews_87 ?_
        refine Wv.iload dL_areBrews_88 rfl ?_
        refine Wv.bipush (v := i32 109) dL_areBrews_90 (by decide) ?_
        refine Wi.icmp_eq_t (tgt := 102) dL_areBrews_92 (by decide) ⟨by omega, by omega⟩ ⟨by omega, by omega⟩ (by omega) ?_
        refine Wi.const dL_areBrews_102 ?_
        refine Wv.goto (tgt := 107) dL_areBrews_103 (by decide) ?_
        refine Wi.icmp_ne_f (tgt := 114) dL_areBrews_107 (by decide) ⟨by omega, by omega⟩ ⟨by omega, by omega⟩ (by omega) ?_
        refine Wi.const dL_areBrews_110 ?_
        refine Wv.goto (tgt := 115) dL_areBrews_111 (by decide) ?_
        refine Wi.and1 dL_areBrews_115 ?_
        refine Wv.istore_n (i := 2) dL_areBrews_116 rfl (by decide) rfl ?_
        refine Wv.iload_n (i := 2) dL_areBrews_117 rfl rfl ?_
        refine Wv.aload_n (i := 0) dL_areBrews_118 rfl rfl ?_
        refine Wv.iload_n (i := 3) dL_areBrews_119 rfl rfl ?_
        refine Wv.callH (As := [_, _]) (v := some _) k_L_generation (tb6 (i := 140) rfl) ki_L_generation dL_areBrews_120 rfl rfl (Nat.le_of_ble_eq_true rfl) (Nat.le_of_ble_eq_true rfl) (n_generation hN hI ha (s := v 27 i) rfl) ?_
        refine Wi.if_lt_f (tgt := 168) dL_areBrews_123 (by decide) ⟨by omega, by omega⟩ (by omega) ?_
        refine Wv.aload_n (i := 0) dL_areBrews_126 rfl rfl ?_
        refine Wv.iload_n (i := 3) dL_areBrews_127 rfl rfl ?_
        refine Wv.callH (As := [_, _]) (v := some _) k_L_generation (tb6 (i := 140) rfl) ki_L_generation dL_areBrews_128 rfl rfl (Nat.le_of_ble_eq_true rfl) (Nat.le_of_ble_eq_true rfl) (n_generation hN hI ha (s := v 27 i) rfl) ?_
        refine Wi.const dL_areBrews_131 ?_
        refine Wi.icmp_gt_f (tgt := 168) dL_areBrews_132 (by decide) ⟨by omega, by omega⟩ ⟨by omega, by omega⟩ (by omega) ?_
        refine Wv.iload dL_areBrews_135 rfl ?_
        refine Wv.bipush (v := i32 102) dL_areBrews_137 (by decide) ?_
        refine Wi.icmp_eq_f (tgt := 149) dL_areBrews_139 (by decide) ⟨by omega, by omega⟩ ⟨by omega, by omega⟩ (by omega) ?_
        refine Wv.iload dL_areBrews_142 rfl ?_
        refine Wv.bipush (v := i32 109) dL_areBrews_144 (by decide) ?_
        refine Wi.icmp_ne_f (tgt := 157) dL_areBrews_146 (by decide) ⟨by omega, by omega⟩ ⟨by omega, by omega⟩ (by omega) ?_
        refine Wv.iload dL_areBrews_149 rfl ?_
        refine Wi.if_le_f (tgt := 168) dL_areBrews_151 (by decide) ⟨by omega, by omega⟩ (by omega) ?_
        refine Wv.goto (tgt := 164) dL_areBrews_154 (by decide) ?_
        refine Wi.const dL_areBrews_164 ?_
        refine Wv.goto (tgt := 169) dL_areBrews_165 (by decide) ?_
        refine Wi.and1 dL_areBrews_169 ?_
        refine Wv.istore_n (i := 2) dL_areBrews_170 rfl (by decide) rfl ?_
        refine Wi.inc dL_areBrews_171 rfl (by decide) rfl ?_
        refine Wv.goto (tgt := 22) dL_areBrews_174 (by decide) ?_
        refine next _ ?_ _ (by omega)
        exact ⟨rfl, rfl, rfl, rfl, trivial⟩
      · obtain ⟨a0, a1, a2, a3⟩ := hA.1.1 i i0 i2 (by omega)
        have et := htk (v 29 i) a0.1 a0.2
        have u20 : 0 ≤ v 20 (v 29 i) ∧ v 20 (v 29 i) ≤ 1 := hI.2 20 (v 29 i)
        have e20 : v 20 (v 29 i) = 1 := a3.mpr (by omega)
        refine Wv.iload_n (i := 3) dL_areBrews_22 rfl rfl ?_
        refine Wv.aload_n (i := 0) dL_areBrews_23 rfl rfl ?_
        refine Wv.callV (As := []) (v := some _) k_X10_brews (tb1 (i := 238) rfl) ki_X10_brews kv_X10_brews dL_areBrews_24 rfl rfl (Nat.le_of_ble_eq_true rfl) (Nat.le_of_ble_eq_true rfl) (w_brews hI) ?_
        refine Wi.icmp_ge_f (tgt := 177) dL_areBrews_27 (by decide) ⟨by omega, by omega⟩ ⟨by omega, by omega⟩ (by omega) ?_
        refine Wv.aload_n (i := 0) dL_areBrews_30 rfl rfl ?_
        refine Wv.iload_n (i := 3) dL_areBrews_31 rfl rfl ?_
        refine Wv.callH (As := [_, _]) (v := some _) k_L_stage (tb6 (i := 82) rfl) ki_L_stage dL_areBrews_32 rfl rfl (Nat.le_of_ble_eq_true rfl) (Nat.le_of_ble_eq_true rfl) (n_stage hN hI ha (s := 114) (by rw [z]; rfl)) ?_
        refine Wv.istore dL_areBrews_35 (by decide) rfl ?_
        refine Wv.aload_n (i := 0) dL_areBrews_37 rfl rfl ?_
        refine Wv.iload_n (i := 3) dL_areBrews_38 rfl rfl ?_
        refine Wv.callH (As := [_, _]) (v := some _) k_L_vesselOf (tb6 (i := 89) rfl) ki_L_vesselOf dL_areBrews_39 rfl rfl (Nat.le_of_ble_eq_true rfl) (Nat.le_of_ble_eq_true rfl) (n_vesselOf hN hI ha (s := v 29 i) (if_neg (by omega))) ?_
        refine Wv.istore dL_areBrews_42 (by decide) rfl ?_
        refine Wv.aload_n (i := 0) dL_areBrews_44 rfl rfl ?_
        refine Wv.iload_n (i := 3) dL_areBrews_45 rfl rfl ?_
        refine Wv.callH (As := [_, _]) (v := some _) k_L_daysToGo (tb6 (i := 115) rfl) ki_L_daysToGo dL_areBrews_46 rfl rfl (Nat.le_of_ble_eq_true rfl) (Nat.le_of_ble_eq_true rfl) (n_daysToGo hN hI ha (s := -75) (if_neg (by omega))) ?_
        refine Wv.istore dL_areBrews_49 (by decide) rfl ?_
        refine Wv.iload_n (i := 2) dL_areBrews_51 rfl rfl ?_
        refine Wv.iload dL_areBrews_52 rfl ?_
        refine Wv.bipush (v := i32 120) dL_areBrews_54 (by decide) ?_
        refine Wi.icmp_ne_t (tgt := 74) dL_areBrews_56 (by decide) ⟨by omega, by omega⟩ ⟨by omega, by omega⟩ (by omega) ?_
        refine Wv.aload_n (i := 0) dL_areBrews_74 rfl rfl ?_
        refine Wv.iload dL_areBrews_75 rfl ?_
        refine Wv.callH (As := [_, _]) (v := some _) k_L_brewIn (tb6 (i := 62) rfl) ki_L_brewIn dL_areBrews_77 rfl rfl (Nat.le_of_ble_eq_true rfl) (Nat.le_of_ble_eq_true rfl) (n_brewIn hN hI a0 (s := i) (by rw [if_pos a1]; exact a2)) ?_
        refine Wv.iload_n (i := 3) dL_areBrews_80 rfl rfl ?_
        refine Wi.icmp_ne_f (tgt := 114) dL_areBrews_81 (by decide) ⟨by omega, by omega⟩ ⟨by omega, by omega⟩ (by omega) ?_
        refine Wv.aload_n (i := 1) dL_areBrews_84 rfl rfl ?_
        refine Wv.iload dL_areBrews_85 rfl ?_
        refine Wv.zald 1 rfl (by omega) (by omega) (by decide) dL_areBrews_87 ?_
        refine Wv.iload dL_areBrews_88 rfl ?_
        refine Wv.bipush (v := i32 109) dL_areBrews_90 (by decide) ?_
        refine Wi.icmp_eq_f (tgt := 102) dL_areBrews_92 (by decide) ⟨by omega, by omega⟩ ⟨by omega, by omega⟩ (by omega) ?_
        refine Wv.iload dL_areBrews_95 rfl ?_
        refine Wv.bipush (v := i32 114) dL_areBrews_97 (by decide) ?_
        refine Wi.icmp_ne_f (tgt := 106) dL_areBrews_99 (by decide) ⟨by omega, by omega⟩ ⟨by omega, by omega⟩ (by omega) ?_
        refine Wi.const dL_areBrews_102 ?_
        refine Wv.goto (tgt := 107) dL_areBrews_103 (by decide) ?_
        refine Wi.icmp_ne_f (tgt := 114) dL_areBrews_107 (by decide) ⟨by omega, by omega⟩ ⟨by omega, by omega⟩ (by omega) ?_
        refine Wi.const dL_areBrews_110 ?_
        refine Wv.goto (tgt := 115) dL_areBrews_111 (by decide) ?_
        refine Wi.and1 dL_areBrews_115 ?_
        refine Wv.istore_n (i := 2) dL_areBrews_116 rfl (by decide) rfl ?_
        refine Wv.iload_n (i := 2) dL_areBrews_117 rfl rfl ?_
        refine Wv.aload_n (i := 0) dL_areBrews_118 rfl rfl ?_
        refine Wv.iload_n (i := 3) dL_areBrews_119 rfl rfl ?_
        refine Wv.callH (As := [_, _]) (v := some _) k_L_generation (tb6 (i := 140) rfl) ki_L_generation dL_areBrews_120 rfl rfl (Nat.le_of_ble_eq_true rfl) (Nat.le_of_ble_eq_true rfl) (n_generation hN hI ha (s := v 27 i) rfl) ?_
        refine Wi.if_lt_f (tgt := 168) dL_areBrews_123 (by decide) ⟨by omega, by omega⟩ (by omega) ?_
        refine Wv.aload_n (i := 0) dL_areBrews_126 rfl rfl ?_
        refine Wv.iload_n (i := 3) dL_areBrews_127 rfl rfl ?_
        refine Wv.callH (As := [_, _]) (v := some _) k_L_generation (tb6 (i := 140) rfl) ki_L_generation dL_areBrews_128 rfl rfl (Nat.le_of_ble_eq_true rfl) (Nat.le_of_ble_eq_true rfl) (n_generation hN hI ha (s := v 27 i) rfl) ?_
        refine Wi.const dL_areBrews_131 ?_
        refine Wi.icmp_gt_f (tgt := 168) dL_areBrews_132 (by decide) ⟨by omega, by omega⟩ ⟨by omega, by omega⟩ (by omega) ?_
        refine Wv.iload dL_areBrews_135 rfl ?_
        refine Wv.bipush (v := i32 102) dL_areBrews_137 (by decide) ?_
        refine Wi.icmp_eq_f (tgt := 149) dL_areBrews_139 (by decide) ⟨by omega, by omega⟩ ⟨by omega, by omega⟩ (by omega) ?_
        refine Wv.iload dL_areBrews_142 rfl ?_
        refine Wv.bipush (v := i32 109) dL_areBrews_144 (by decide) ?_
        refine Wi.icmp_ne_t (tgt := 157) dL_areBrews_146 (by decide) ⟨by omega, by omega⟩ ⟨by omega, by omega⟩ (by omega) ?_
        refine Wv.iload dL_areBrews_157 rfl ?_
        refine Wv.bipush (v := i32 (-75)) dL_areBrews_159 (by decide) ?_
        refine Wi.icmp_ne_f (tgt := 168) dL_areBrews_161 (by decide) ⟨by omega, by omega⟩ ⟨by omega, by omega⟩ (by omega) ?_
        refine Wi.const dL_areBrews_164 ?_
        refine Wv.goto (tgt := 169) dL_areBrews_165 (by decide) ?_
        refine Wi.and1 dL_areBrews_169 ?_
        refine Wv.istore_n (i := 2) dL_areBrews_170 rfl (by decide) rfl ?_
        refine Wi.inc dL_areBrews_171 rfl (by decide) rfl ?_
        refine Wv.goto (tgt := 22) dL_areBrews_174 (by decide) ?_
        refine next _ ?_ _ (by omega)
        exact ⟨rfl, rfl, rfl, rfl, trivial⟩
      · refine Wv.iload_n (i := 3) dL_areBrews_22 rfl rfl ?_
        refine Wv.aload_n (i := 0) dL_areBrews_23 rfl rfl ?_
        refine Wv.callV (As := []) (v := some _) k_X10_brews (tb1 (i := 238) rfl) ki_X10_brews kv_X10_brews dL_areBrews_24 rfl rfl (Nat.le_of_ble_eq_true rfl) (Nat.le_of_ble_eq_true rfl) (w_brews hI) ?_
        refine Wi.icmp_ge_f (tgt := 177) dL_areBrews_27 (by decide) ⟨by omega, by omega⟩ ⟨by omega, by omega⟩ (by omega) ?_
        refine Wv.aload_n (i := 0) dL_areBrews_30 rfl rfl ?_
        refine Wv.iload_n (i := 3) dL_areBrews_31 rfl rfl ?_
        refine Wv.callH (As := [_, _]) (v := some _) k_L_stage (tb6 (i := 82) rfl) ki_L_stage dL_areBrews_32 rfl rfl (Nat.le_of_ble_eq_true rfl) (Nat.le_of_ble_eq_true rfl) (n_stage hN hI ha (s := 120) (by rw [z]; rfl)) ?_
        refine Wv.istore dL_areBrews_35 (by decide) rfl ?_
        refine Wv.aload_n (i := 0) dL_areBrews_37 rfl rfl ?_
        refine Wv.iload_n (i := 3) dL_areBrews_38 rfl rfl ?_
        refine Wv.callH (As := [_, _]) (v := some _) k_L_vesselOf (tb6 (i := 89) rfl) ki_L_vesselOf dL_areBrews_39 rfl rfl (Nat.le_of_ble_eq_true rfl) (Nat.le_of_ble_eq_true rfl) (n_vesselOf hN hI ha (s := -75) (if_pos z)) ?_
        refine Wv.istore dL_areBrews_42 (by decide) rfl ?_
        refine Wv.aload_n (i := 0) dL_areBrews_44 rfl rfl ?_
        refine Wv.iload_n (i := 3) dL_areBrews_45 rfl rfl ?_
        refine Wv.callH (As := [_, _]) (v := some _) k_L_daysToGo (tb6 (i := 115) rfl) ki_L_daysToGo dL_areBrews_46 rfl rfl (Nat.le_of_ble_eq_true rfl) (Nat.le_of_ble_eq_true rfl) (n_daysToGo hN hI ha (s := -75) (if_neg (by omega))) ?_
        refine Wv.istore dL_areBrews_49 (by decide) rfl ?_
        refine Wv.iload_n (i := 2) dL_areBrews_51 rfl rfl ?_
        refine Wv.iload dL_areBrews_52 rfl ?_
        refine Wv.bipush (v := i32 120) dL_areBrews_54 (by decide) ?_
        refine Wi.icmp_ne_f (tgt := 74) dL_areBrews_56 (by decide) ⟨by omega, by omega⟩ ⟨by omega, by omega⟩ (by omega) ?_
        refine Wv.iload dL_areBrews_59 rfl ?_
        refine Wv.bipush (v := i32 (-75)) dL_areBrews_61 (by decide) ?_
        refine Wi.icmp_ne_f (tgt := 70) dL_areBrews_63 (by decide) ⟨by omega, by omega⟩ ⟨by omega, by omega⟩ (by omega) ?_
        refine Wi.const dL_areBrews_66 ?_
        refine Wv.goto (tgt := 115) dL_areBrews_67 (by decide) ?_
        refine Wi.and1 dL_areBrews_115 ?_
        refine Wv.istore_n (i := 2) dL_areBrews_116 rfl (by decide) rfl ?_
        refine Wv.iload_n (i := 2) dL_areBrews_117 rfl rfl ?_
        refine Wv.aload_n (i := 0) dL_areBrews_118 rfl rfl ?_
        refine Wv.iload_n (i := 3) dL_areBrews_119 rfl rfl ?_
        refine Wv.callH (As := [_, _]) (v := some _) k_L_generation (tb6 (i := 140) rfl) ki_L_generation dL_areBrews_120 rfl rfl (Nat.le_of_ble_eq_true rfl) (Nat.le_of_ble_eq_true rfl) (n_generation hN hI ha (s := v 27 i) rfl) ?_
        refine Wi.if_lt_f (tgt := 168) dL_areBrews_123 (by decide) ⟨by omega, by omega⟩ (by omega) ?_
        refine Wv.aload_n (i := 0) dL_areBrews_126 rfl rfl ?_
        refine Wv.iload_n (i := 3) dL_areBrews_127 rfl rfl ?_
        refine Wv.callH (As := [_, _]) (v := some _) k_L_generation (tb6 (i := 140) rfl) ki_L_generation dL_areBrews_128 rfl rfl (Nat.le_of_ble_eq_true rfl) (Nat.le_of_ble_eq_true rfl) (n_generation hN hI ha (s := v 27 i) rfl) ?_
        refine Wi.const dL_areBrews_131 ?_
        refine Wi.icmp_gt_f (tgt := 168) dL_areBrews_132 (by decide) ⟨by omega, by omega⟩ ⟨by omega, by omega⟩ (by omega) ?_
        refine Wv.iload dL_areBrews_135 rfl ?_
        refine Wv.bipush (v := i32 102) dL_areBrews_137 (by decide) ?_
        refine Wi.icmp_eq_f (tgt := 149) dL_areBrews_139 (by decide) ⟨by omega, by omega⟩ ⟨by omega, by omega⟩ (by omega) ?_
        refine Wv.iload dL_areBrews_142 rfl ?_
        refine Wv.bipush (v := i32 109) dL_areBrews_144 (by decide) ?_
        refine Wi.icmp_ne_t (tgt := 157) dL_areBrews_146 (by decide) ⟨by omega, by omega⟩ ⟨by omega, by omega⟩ (by omega) ?_
        refine Wv.iload dL_areBrews_157 rfl ?_
        refine Wv.bipush (v := i32 (-75)) dL_areBrews_159 (by decide) ?_
        refine Wi.icmp_ne_f (tgt := 168) dL_areBrews_161 (by decide) ⟨by omega, by omega⟩ ⟨by omega, by omega⟩ (by omega) ?_
        refine Wi.const dL_areBrews_164 ?_
        refine Wv.goto (tgt := 169) dL_areBrews_165 (by decide) ?_
        refine Wi.and1 dL_areBrews_169 ?_
        refine Wv.istore_n (i := 2) dL_areBrews_170 rfl (by decide) rfl ?_
        refine Wi.inc dL_areBrews_171 rfl (by decide) rfl ?_
        refine Wv.goto (tgt := 22) dL_areBrews_174 (by decide) ?_
        refine next _ ?_ _ (by omega)
        exact ⟨rfl, rfl, rfl, rfl, trivial⟩
theorem a_areBrews {X : Cx} {h : Nat} {v : Vw} {y x : Int} {n m : Nat} {un it : Nat} {u tk : Int → Int} {T E K : Int} (hN : KN X) (hI : IM v T E) (hA : PA K v) (htk : ∀ j, 0 ≤ j → j < v 2 0 → tk j = v 20 j) :
    Kl X h m_L_areBrews 12 [va_rf (some h), va_rf (some it)] (v, (y, x), (n, m), Rz un it u tk) (.inl (some (.int (i32 1)))) (v, (y, x + 180), (n, m), Rz un it u tk) := by
  have u5 : 0 ≤ v 5 0 ∧ v 5 0 ≤ 30 := hI.2 5 0
  have u7 : 0 ≤ v 7 0 ∧ v 7 0 ≤ 6 := hI.2 7 0
  refine Kl.of (by decide +kernel) rfl (Nat.le_of_ble_eq_true rfl) (by simp [Value.category, va_rf]) ?_
  refine Wv.after (y := y) (x := x + 6 * (v 5 0 - 0)) (Int.le_refl _) (by omega) ?_
  refine Wv.inv (fun c9' hV => ?_)
  have hq : v 5 0 + v 7 0 ≤ 30 := hV.2.2.1.1
  refine Wv.aload_n (i := 0) dL_areBrews_0 rfl rfl ?_
  refine Wv.callV (As := []) (v := some _) k_X10_brews (tb1 (i := 238) rfl) ki_X10_brews kv_X10_brews dL_areBrews_1 rfl rfl (Nat.le_of_ble_eq_true rfl) (Nat.le_of_ble_eq_true rfl) (w_brews hI) ?_
  refine Wv.aload_n (i := 0) dL_areBrews_4 rfl rfl ?_
  refine Wv.callV (As := []) (v := some _) k_X10_queued (tb1 (i := 221) rfl) ki_X10_queued kv_X10_queued dL_areBrews_5 rfl rfl (Nat.le_of_ble_eq_true rfl) (Nat.le_of_ble_eq_true rfl) (w_queued hI) ?_
  refine Wi.add dL_areBrews_8 ?_
  refine Wv.bipush (v := i32 30) dL_areBrews_9 (by decide) ?_
  refine Wi.icmp_gt_f (tgt := 18) dL_areBrews_11 (by decide) ⟨by omega, by omega⟩ ⟨by omega, by omega⟩ (by omega) ?_
  refine Wi.const dL_areBrews_14 ?_
  refine Wv.goto (tgt := 19) dL_areBrews_15 (by decide) ?_
  refine Wv.istore_n (i := 2) dL_areBrews_19 rfl (by decide) rfl ?_
  refine Wi.const dL_areBrews_20 ?_
  refine Wv.istore_n (i := 3) dL_areBrews_21 rfl (by decide) rfl ?_
  refine Wv.fgt (ls' := [some (va_rf (some h)), some (va_rf (some it)), some (.int (i32 1)), some (.int (i32 0)), none, none, none]) ⟨rfl, rfl, rfl, rfl, trivial⟩ ?_
  exact l_areBrews hN hI hA htk hV.2.2.2.1 ((v 5 0).toNat + 1) 0 x (Int.le_refl 0) u5.1 (by omega)
