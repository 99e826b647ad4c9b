/-! the law's helpers: stocks (written by wip/p41/mk95.py) -/
def m_L_areStocks : Mt := (yL_areStocks, cL_areStocks, 6, some .boolean, [])
theorem k_L_areStocks : cokD m_L_areStocks 2 := ⟨rfl, (tb6 (i := 149) rfl), (tb1 (i := 0) rfl), by decide, by decide +kernel, by decide⟩
theorem ki_L_areStocks : Cond.static m_L_areStocks.y ∈ lw_tbl := (tb6 (i := 148) rfl)
theorem l_stocks2 {X : Cx} {h : Nat} {v : Vw} {y : Int} {n m : Nat} {R : List Ar} {T E : Int} (hN : KN X) (hI : IM v T E) {r W : Int} (hr : 0 ≤ r ∧ r < v 1 0) (h44 : ∀ e, 0 ≤ e → e < v 9 0 → 0 ≤ v 44 e ∧ v 44 e < v 5 0) {o : Rs} {w' : Wl} (x1 : Int) (K : Wv X h m_L_areStocks 12 120 [some (va_rf (some h)), some (.int (i32 (v 1 0))), some (.int (i32 1)), some (.int (i32 r)), some (.int (i32 (W - sI (F46 v r) (v 9 0).toNat))), some (.int (i32 (v 9 0)))] [] (v, (y, x1), (n, m), R) o w') : ∀ (n9 : Nat) (i x : Int), 0 ≤ i → i ≤ v 9 0 → (v 9 0 - i).toNat < n9 → x + 3 * (v 9 0 - i) ≤ x1 →
    Wv X h m_L_areStocks 12 76 [some (va_rf (some h)), some (.int (i32 (v 1 0))), some (.int (i32 1)), some (.int (i32 r)), some (.int (i32 (W - sI (F46 v r) i.toNat))), some (.int (i32 i))] [] (v, (y, x), (n, m), R) o w' := by
  intro n9
  induction n9 with
  | zero => exact fun _ _ _ _ hn => absurd hn (Nat.not_lt_zero _)
  | succ n9 ih =>
    intro i x i0 i2 hn hx
    have u9 : 0 ≤ v 9 0 ∧ v 9 0 ≤ 127 := hI.2 9 0
    have u1 : 0 ≤ v 1 0 ∧ v 1 0 ≤ 5 := hI.2 1 0
    by_cases c9 : v 9 0 ≤ i
    · have ei : i = v 9 0 := by omega
      subst ei
      refine Wv.more (y' := y) (x' := x1) (Int.le_refl _) (by omega) ?_
      refine Wv.iload dL_areStocks_76 rfl ?_
      refine Wv.aload_n (i := 0) dL_areStocks_78 rfl rfl ?_
      refine Wv.callV (As := []) (v := some _) k_X10_deliveries (tb6 (i := 102) rfl) ki_X10_deliveries kv_X10_deliveries dL_areStocks_79 rfl rfl (Nat.le_of_ble_eq_true rfl) (Nat.le_of_ble_eq_true rfl) (w_deliveries hI) ?_
      refine Wi.icmp_ge_t (tgt := 120) dL_areStocks_82 (by decide) ⟨by omega, by omega⟩ ⟨by omega, by omega⟩ (by omega) ?_
      exact K
    · have i2 : i < v 9 0 := by omega
      have ha : 0 ≤ i ∧ i < v 9 0 := ⟨i0, i2⟩
      have st := sI_step (f := F46 v r) i0
      have hb := h44 i i0 i2
      have u26 : 0 ≤ v 26 (v 44 i) ∧ v 26 (v 44 i) ≤ 4 := hI.2 26 (v 44 i)
      have next : ∀ (c : Int) (ls : List (Option Value)), W - sI (F46 v r) (i + 1).toNat = c → lsub [some (va_rf (some h)), some (.int (i32 (v 1 0))), some (.int (i32 1)), some (.int (i32 r)), some (.int (i32 c)), some (.int (i32 (i + 1)))] ls → ∀ x', x' ≤ x + 3 → Wv X h m_L_areStocks 12 76 ls [] (v, (y, x'), (n, m), R) o w' := fun c ls hc hl x' hx' => by
        have k := ih (i + 1) (x + 3) (by omega) (by omega) (by omega) (by omega)
        rw [hc] at k
        exact Wv.more (Int.le_refl _) hx' (Wv.fgt hl k)
      by_cases z : v 26 (v 44 i) = r
      · have zf : F46 v r i = v 46 i := if_pos z
        refine Wv.iload dL_areStocks_76 rfl ?_
        refine Wv.aload_n (i := 0) dL_areStocks_78 rfl rfl ?_
        refine Wv.callV (As := []) (v := some _) k_X10_deliveries (tb6 (i := 102) rfl) ki_X10_deliveries kv_X10_deliveries dL_areStocks_79 rfl rfl (Nat.le_of_ble_eq_true rfl) (Nat.le_of_ble_eq_true rfl) (w_deliveries hI) ?_
        refine Wi.icmp_ge_f (tgt := 120) dL_areStocks_82 (by decide) ⟨by omega, by omega⟩ ⟨by omega, by omega⟩ (by omega) ?_
        refine Wv.iload dL_areStocks_85 rfl ?_
        refine Wv.aload_n (i := 0) dL_areStocks_87 rfl rfl ?_
        refine Wv.aload_n (i := 0) dL_areStocks_88 rfl rfl ?_
        refine Wv.iload dL_areStocks_89 rfl ?_
        refine Wv.callH (As := [_, _]) (v := some _) k_L_deliveredBrew (tb6 (i := 150) rfl) ki_L_deliveredBrew dL_areStocks_91 rfl rfl (Nat.le_of_ble_eq_true rfl) (Nat.le_of_ble_eq_true rfl) (n_deliveredBrew hN hI ha (s := v 44 i) rfl) ?_
        refine Wv.callH (As := [_, _]) (v := some _) k_L_recipeOf (tb6 (i := 70) rfl) ki_L_recipeOf dL_areStocks_94 rfl rfl (Nat.le_of_ble_eq_true rfl) (Nat.le_of_ble_eq_true rfl) (n_recipeOf hN hI hb (s := v 26 (v 44 i)) rfl) ?_
        refine Wv.iload_n (i := 3) dL_areStocks_97 rfl rfl ?_
        refine Wi.icmp_ne_f (tgt := 110) dL_areStocks_98 (by decide) ⟨by omega, by omega⟩ ⟨by omega, by omega⟩ (by omega) ?_
        refine Wv.aload_n (i := 0) dL_areStocks_101 rfl rfl ?_
        refine Wv.iload dL_areStocks_102 rfl ?_
        refine Wv.callH (As := [_, _]) (v := some _) k_L_deliveredUnits (tb6 (i := 162) rfl) ki_L_deliveredUnits dL_areStocks_104 rfl rfl (Nat.le_of_ble_eq_true rfl) (Nat.le_of_ble_eq_true rfl) (n_deliveredUnits hN hI ha (s := v 46 i) rfl) ?_
        refine Wv.goto (tgt := 111) dL_areStocks_107 (by decide) ?_
        refine Wi.sub dL_areStocks_111 ?_
        refine Wv.istore dL_areStocks_112 (by decide) rfl ?_
        refine Wi.inc dL_areStocks_114 rfl (by decide) rfl ?_
        refine Wv.goto (tgt := 76) dL_areStocks_117 (by decide) ?_
        refine next (W - sI (F46 v r) i.toNat - v 46 i) _ (by omega) ?_ _ (by omega)
        exact ⟨rfl, rfl, rfl, rfl, rfl, rfl, trivial⟩
      · have zf : F46 v r i = 0 := if_neg z
        refine Wv.iload dL_areStocks_76 rfl ?_
        refine Wv.aload_n (i := 0) dL_areStocks_78 rfl rfl ?_
        refine Wv.callV (As := []) (v := some _) k_X10_deliveries (tb6 (i := 102) rfl) ki_X10_deliveries kv_X10_deliveries dL_areStocks_79 rfl rfl (Nat.le_of_ble_eq_true rfl) (Nat.le_of_ble_eq_true rfl) (w_deliveries hI) ?_
        refine Wi.icmp_ge_f (tgt := 120) dL_areStocks_82 (by decide) ⟨by omega, by omega⟩ ⟨by omega, by omega⟩ (by omega) ?_
        refine Wv.iload dL_areStocks_85 rfl ?_
        refine Wv.aload_n (i := 0) dL_areStocks_87 rfl rfl ?_
        refine Wv.aload_n (i := 0) dL_areStocks_88 rfl rfl ?_
        refine Wv.iload dL_areStocks_89 rfl ?_
        refine Wv.callH (As := [_, _]) (v := some _) k_L_deliveredBrew (tb6 (i := 150) rfl) ki_L_deliveredBrew dL_areStocks_91 rfl rfl (Nat.le_of_ble_eq_true rfl) (Nat.le_of_ble_eq_true rfl) (n_deliveredBrew hN hI ha (s := v 44 i) rfl) ?_
        refine Wv.callH (As := [_, _]) (v := some _) k_L_recipeOf (tb6 (i := 70) rfl) ki_L_recipeOf dL_areStocks_94 rfl rfl (Nat.le_of_ble_eq_true rfl) (Nat.le_of_ble_eq_true rfl) (n_recipeOf hN hI hb (s := v 26 (v 44 i)) rfl) ?_
        refine Wv.iload_n (i := 3) dL_areStocks_97 rfl rfl ?_
        refine Wi.icmp_ne_t (tgt := 110) dL_areStocks_98 (by decide) ⟨by omega, by omega⟩ ⟨by omega, by omega⟩ (by omega) ?_
        refine Wi.const dL_areStocks_110 ?_
        refine Wi.sub dL_areStocks_111 ?_
        refine Wv.istore dL_areStocks_112 (by decide) rfl ?_
        refine Wi.inc dL_areStocks_114 rfl (by decide) rfl ?_
        refine Wv.goto (tgt := 76) dL_areStocks_117 (by decide) ?_
        refine next (W - sI (F46 v r) i.toNat - 0) _ (by omega) ?_ _ (by omega)
        exact ⟨rfl, rfl, rfl, rfl, rfl, rfl, trivial⟩
theorem l_stocks1 {X : Cx} {h : Nat} {v : Vw} {y : Int} {n m : Nat} {R : List Ar} {T E : Int} (hN : KN X) (hI : IM v T E) {r : Int} (hr : 0 ≤ r ∧ r < v 1 0) {o : Rs} {w' : Wl} (x1 : Int) (K : Wv X h m_L_areStocks 12 73 [some (va_rf (some h)), some (.int (i32 (v 1 0))), some (.int (i32 1)), some (.int (i32 r)), some (.int (i32 (sI (F20 v r) (v 5 0).toNat))), some (.int (i32 (v 5 0)))] [] (v, (y, x1), (n, m), R) o w') : ∀ (n9 : Nat) (i x : Int), 0 ≤ i → i ≤ v 5 0 → (v 5 0 - i).toNat < n9 → x + 3 * (v 5 0 - i) ≤ x1 →
    Wv X h m_L_areStocks 12 15 [some (va_rf (some h)), some (.int (i32 (v 1 0))), some (.int (i32 1)), some (.int (i32 r)), some (.int (i32 (sI (F20 v r) i.toNat))), some (.int (i32 i))] [] (v, (y, x), (n, m), R) o w' := by
  intro n9
  induction n9 with
  | zero => exact fun _ _ _ _ hn => absurd hn (Nat.not_lt_zero _)
  | succ n9 ih =>
    intro i x i0 i2 hn hx
    have u5 : 0 ≤ v 5 0 ∧ v 5 0 ≤ 30 := hI.2 5 0
    have u1 : 0 ≤ v 1 0 ∧ v 1 0 ≤ 5 := hI.2 1 0
    by_cases c9 : v 5 0 ≤ i
    · have ei : i = v 5 0 := by omega
      subst ei
      refine Wv.more (y' := y) (x' := x1) (Int.le_refl _) (by omega) ?_
      refine Wv.iload dL_areStocks_15 rfl ?_
      refine Wv.aload_n (i := 0) dL_areStocks_17 rfl rfl ?_
      refine Wv.callV (As := []) (v := some _) k_X10_brews (tb1 (i := 238) rfl) ki_X10_brews kv_X10_brews dL_areStocks_18 rfl rfl (Nat.le_of_ble_eq_true rfl) (Nat.le_of_ble_eq_true rfl) (w_brews hI) ?_
      refine Wi.icmp_ge_t (tgt := 73) dL_areStocks_21 (by decide) ⟨by omega, by omega⟩ ⟨by omega, by omega⟩ (by omega) ?_
      exact K
    · have i2 : i < v 5 0 := by omega
      have ha : 0 ≤ i ∧ i < v 5 0 := ⟨i0, i2⟩
      have st := sI_step (f := F20 v r) i0
      have u26 : 0 ≤ v 26 i ∧ v 26 i ≤ 4 := hI.2 26 i
      have u28 : 0 ≤ v 28 i ∧ v 28 i ≤ 4 := hI.2 28 i
      have next : ∀ (c : Int) (ls : List (Option Value)), sI (F20 v r) (i + 1).toNat = c → lsub [some (va_rf (some h)), some (.int (i32 (v 1 0))), some (.int (i32 1)), some (.int (i32 r)), some (.int (i32 c)), some (.int (i32 (i + 1)))] ls → ∀ x', x' ≤ x + 3 → Wv X h m_L_areStocks 12 15 ls [] (v, (y, x'), (n, m), R) o w' := fun c ls hc hl x' hx' => by
        have k := ih (i + 1) (x + 3) (by omega) (by omega) (by omega) (by omega)
        rw [hc] at k
        exact Wv.more (Int.le_refl _) hx' (Wv.fgt hl k)
      by_cases z : v 26 i = r
      · by_cases z3 : v 28 i = 3
        · have zf : F20 v r i = 20 := by unfold F20; rw [if_pos z, if_pos (Or.inl z3)]
          refine Wv.iload dL_areStocks_15 rfl ?_
          refine Wv.aload_n (i := 0) dL_areStocks_17 rfl rfl ?_
          refine Wv.callV (As := []) (v := some _) k_X10_brews (tb1 (i := 238) rfl) ki_X10_brews kv_X10_brews dL_areStocks_18 rfl rfl (Nat.le_of_ble_eq_true rfl) (Nat.le_of_ble_eq_true rfl) (w_brews hI) ?_
          refine Wi.icmp_ge_f (tgt := 73) dL_areStocks_21 (by decide) ⟨by omega, by omega⟩ ⟨by omega, by omega⟩ (by omega) ?_
          refine Wv.iload dL_areStocks_24 rfl ?_
          refine Wv.aload_n (i := 0) dL_areStocks_26 rfl rfl ?_
          refine Wv.iload dL_areStocks_27 rfl ?_
          refine Wv.callH (As := [_, _]) (v := some _) k_L_recipeOf (tb6 (i := 70) rfl) ki_L_recipeOf dL_areStocks_29 rfl rfl (Nat.le_of_ble_eq_true rfl) (Nat.le_of_ble_eq_true rfl) (n_recipeOf hN hI ha (s := v 26 i) rfl) ?_
          refine Wv.iload_n (i := 3) dL_areStocks_32 rfl rfl ?_
          refine Wi.icmp_ne_f (tgt := 63) dL_areStocks_33 (by decide) ⟨by omega, by omega⟩ ⟨by omega, by omega⟩ (by omega) ?_
          refine Wv.aload_n (i := 0) dL_areStocks_36 rfl rfl ?_
          refine Wv.iload dL_areStocks_37 rfl ?_
          refine Wv.callH (As := [_, _]) (v := some _) k_L_stage (tb6 (i := 82) rfl) ki_L_stage dL_areStocks_39 rfl rfl (Nat.le_of_ble_eq_true rfl) (Nat.le_of_ble_eq_true rfl) (n_stage hN hI ha (s := 114) (by rw [z3]; rfl)) ?_
          refine Wv.bipush (v := i32 114) dL_areStocks_42 (by decide) ?_
          refine Wi.icmp_eq_t (tgt := 58) dL_areStocks_44 (by decide) ⟨by omega, by omega⟩ ⟨by omega, by omega⟩ (by omega) ?_
          refine Wv.bipush (v := i32 20) dL_areStocks_58 (by decide) ?_
          refine Wv.goto (tgt := 64) dL_areStocks_60 (by decide) ?_
          refine Wi.add dL_areStocks_64 ?_
          refine Wv.istore dL_areStocks_65 (by decide) rfl ?_
          refine Wi.inc dL_areStocks_67 rfl (by decide) rfl ?_
          refine Wv.goto (tgt := 15) dL_areStocks_70 (by decide) ?_
          refine next (sI (F20 v r) i.toNat + 20) _ (by omega) ?_ _ (by omega)
          exact ⟨rfl, rfl, rfl, rfl, rfl, rfl, trivial⟩
        · by_cases z4 : v 28 i = 4
          · have zf : F20 v r i = 20 := by unfold F20; rw [if_pos z, if_pos (Or.inr z4)]
            refine Wv.iload dL_areStocks_15 rfl ?_
            refine Wv.aload_n (i := 0) dL_areStocks_17 rfl rfl ?_
            refine Wv.callV (As := []) (v := some _) k_X10_brews (tb1 (i := 238) rfl) ki_X10_brews kv_X10_brews dL_areStocks_18 rfl rfl (Nat.le_of_ble_eq_true rfl) (Nat.le_of_ble_eq_true rfl) (w_brews hI) ?_
            refine Wi.icmp_ge_f (tgt := 73) dL_areStocks_21 (by decide) ⟨by omega, by omega⟩ ⟨by omega, by omega⟩ (by omega) ?_
            refine Wv.iload dL_areStocks_24 rfl ?_
            refine Wv.aload_n (i := 0) dL_areStocks_26 rfl rfl ?_
            refine Wv.iload dL_areStocks_27 rfl ?_
            refine Wv.callH (As := [_, _]) (v := some _) k_L_recipeOf (tb6 (i := 70) rfl) ki_L_recipeOf dL_areStocks_29 rfl rfl (Nat.le_of_ble_eq_true rfl) (Nat.le_of_ble_eq_true rfl) (n_recipeOf hN hI ha (s := v 26 i) rfl) ?_
            refine Wv.iload_n (i := 3) dL_areStocks_32 rfl rfl ?_
            refine Wi.icmp_ne_f (tgt := 63) dL_areStocks_33 (by decide) ⟨by omega, by omega⟩ ⟨by omega, by omega⟩ (by omega) ?_
            refine Wv.aload_n (i := 0) dL_areStocks_36 rfl rfl ?_
            refine Wv.iload dL_areStocks_37 rfl ?_
            refine Wv.callH (As := [_, _]) (v := some _) k_L_stage (tb6 (i := 82) rfl) ki_L_stage dL_areStocks_39 rfl rfl (Nat.le_of_ble_eq_true rfl) (Nat.le_of_ble_eq_true rfl) (n_stage hN hI ha (s := 120) (by rw [z4]; rfl)) ?_
            refine Wv.bipush (v := i32 114) dL_areStocks_42 (by decide) ?_
            refine Wi.icmp_eq_f (tgt := 58) dL_areStocks_44 (by decide) ⟨by omega, by omega⟩ ⟨by omega, by omega⟩ (by omega) ?_
            refine Wv.aload_n (i := 0) dL_areStocks_47 rfl rfl ?_
            refine Wv.iload dL_areStocks_48 rfl ?_
            refine Wv.callH (As := [_, _]) (v := some _) k_L_stage (tb6 (i := 82) rfl) ki_L_stage dL_areStocks_50 rfl rfl (Nat.le_of_ble_eq_true rfl) (Nat.le_of_ble_eq_true rfl) (n_stage hN hI ha (s := 120) (by rw [z4]; rfl)) ?_
            refine Wv.bipush (v := i32 120) dL_areStocks_53 (by decide) ?_
            refine Wi.icmp_ne_f (tgt := 63) dL_areStocks_55 (by decide) ⟨by omega, by omega⟩ ⟨by omega, by omega⟩ (by omega) ?_
            refine Wv.bipush (v := i32 20) dL_areStocks_58 (by decide) ?_
            refine Wv.goto (tgt := 64) dL_areStocks_60 (by decide) ?_
            refine Wi.add dL_areStocks_64 ?_
            refine Wv.istore dL_areStocks_65 (by decide) rfl ?_
            refine Wi.inc dL_areStocks_67 rfl (by decide) rfl ?_
            refine Wv.goto (tgt := 15) dL_areStocks_70 (by decide) ?_
            refine next (sI (F20 v r) i.toNat + 20) _ (by omega) ?_ _ (by omega)
            exact ⟨rfl, rfl, rfl, rfl, rfl, rfl, trivial⟩
          · have zf : F20 v r i = 0 := by unfold F20; rw [if_pos z, if_neg (by omega)]
            obtain ⟨s, es, hs⟩ : ∃ s, phc (v 28 i) = s ∧ (s ≠ 114 ∧ s ≠ 120 ∧ 0 ≤ s ∧ s ≤ 200) := ⟨_, rfl, by
              have q : v 28 i = 0 ∨ v 28 i = 1 ∨ v 28 i = 2 := by omega
              rcases q with q | q | q <;> rw [q] <;> decide⟩
            refine Wv.iload dL_areStocks_15 rfl ?_
            refine Wv.aload_n (i := 0) dL_areStocks_17 rfl rfl ?_
            refine Wv.callV (As := []) (v := some _) k_X10_brews (tb1 (i := 238) rfl) ki_X10_brews kv_X10_brews dL_areStocks_18 rfl rfl (Nat.le_of_ble_eq_true rfl) (Nat.le_of_ble_eq_true rfl) (w_brews hI) ?_
            refine Wi.icmp_ge_f (tgt := 73) dL_areStocks_21 (by decide) ⟨by omega, by omega⟩ ⟨by omega, by omega⟩ (by omega) ?_
            refine Wv.iload dL_areStocks_24 rfl ?_
            refine Wv.aload_n (i := 0) dL_areStocks_26 rfl rfl ?_
            refine Wv.iload dL_areStocks_27 rfl ?_
            refine Wv.callH (As := [_, _]) (v := some _) k_L_recipeOf (tb6 (i := 70) rfl) ki_L_recipeOf dL_areStocks_29 rfl rfl (Nat.le_of_ble_eq_true rfl) (Nat.le_of_ble_eq_true rfl) (n_recipeOf hN hI ha (s := v 26 i) rfl) ?_
            refine Wv.iload_n (i := 3) dL_areStocks_32 rfl rfl ?_
            refine Wi.icmp_ne_f (tgt := 63) dL_areStocks_33 (by decide) ⟨by omega, by omega⟩ ⟨by omega, by omega⟩ (by omega) ?_
            refine Wv.aload_n (i := 0) dL_areStocks_36 rfl rfl ?_
            refine Wv.iload dL_areStocks_37 rfl ?_
            refine Wv.callH (As := [_, _]) (v := some _) k_L_stage (tb6 (i := 82) rfl) ki_L_stage dL_areStocks_39 rfl rfl (Nat.le_of_ble_eq_true rfl) (Nat.le_of_ble_eq_true rfl) (n_stage hN hI ha (s := s) es) ?_
            refine Wv.bipush (v := i32 114) dL_areStocks_42 (by decide) ?_
            refine Wi.icmp_eq_f (tgt := 58) dL_areStocks_44 (by decide) ⟨by omega, by omega⟩ ⟨by omega, by omega⟩ (by omega) ?_
            refine Wv.aload_n (i := 0) dL_areStocks_47 rfl rfl ?_
            refine Wv.iload dL_areStocks_48 rfl ?_
            refine Wv.callH (As := [_, _]) (v := some _) k_L_stage (tb6 (i := 82) rfl) ki_L_stage dL_areStocks_50 rfl rfl (Nat.le_of_ble_eq_true rfl) (Nat.le_of_ble_eq_true rfl) (n_stage hN hI ha (s := s) es) ?_
            refine Wv.bipush (v := i32 120) dL_areStocks_53 (by decide) ?_
            refine Wi.icmp_ne_t (tgt := 63) dL_areStocks_55 (by decide) ⟨by omega, by omega⟩ ⟨by omega, by omega⟩ (by omega) ?_
            refine Wi.const dL_areStocks_63 ?_
            refine Wi.add dL_areStocks_64 ?_
            refine Wv.istore dL_areStocks_65 (by decide) rfl ?_
            refine Wi.inc dL_areStocks_67 rfl (by decide) rfl ?_
            refine Wv.goto (tgt := 15) dL_areStocks_70 (by decide) ?_
            refine next (sI (F20 v r) i.toNat + 0) _ (by omega) ?_ _ (by omega)
            exact ⟨rfl, rfl, rfl, rfl, rfl, rfl, trivial⟩
      · have zf : F20 v r i = 0 := if_neg z
        refine Wv.iload dL_areStocks_15 rfl ?_
        refine Wv.aload_n (i := 0) dL_areStocks_17 rfl rfl ?_
        refine Wv.callV (As := []) (v := some _) k_X10_brews (tb1 (i := 238) rfl) ki_X10_brews kv_X10_brews dL_areStocks_18 rfl rfl (Nat.le_of_ble_eq_true rfl) (Nat.le_of_ble_eq_true rfl) (w_brews hI) ?_
        refine Wi.icmp_ge_f (tgt := 73) dL_areStocks_21 (by decide) ⟨by omega, by omega⟩ ⟨by omega, by omega⟩ (by omega) ?_
        refine Wv.iload dL_areStocks_24 rfl ?_
        refine Wv.aload_n (i := 0) dL_areStocks_26 rfl rfl ?_
        refine Wv.iload dL_areStocks_27 rfl ?_
        refine Wv.callH (As := [_, _]) (v := some _) k_L_recipeOf (tb6 (i := 70) rfl) ki_L_recipeOf dL_areStocks_29 rfl rfl (Nat.le_of_ble_eq_true rfl) (Nat.le_of_ble_eq_true rfl) (n_recipeOf hN hI ha (s := v 26 i) rfl) ?_
        refine Wv.iload_n (i := 3) dL_areStocks_32 rfl rfl ?_
        refine Wi.icmp_ne_t (tgt := 63) dL_areStocks_33 (by decide) ⟨by omega, by omega⟩ ⟨by omega, by omega⟩ (by omega) ?_
        refine Wi.const dL_areStocks_63 ?_
        refine Wi.add dL_areStocks_64 ?_
        refine Wv.istore dL_areStocks_65 (by decide) rfl ?_
        refine Wi.inc dL_areStocks_67 rfl (by decide) rfl ?_
        refine Wv.goto (tgt := 15) dL_areStocks_70 (by decide) ?_
        refine next (sI (F20 v r) i.toNat + 0) _ (by omega) ?_ _ (by omega)
        exact ⟨rfl, rfl, rfl, rfl, rfl, rfl, trivial⟩
theorem l_stocks0 {X : Cx} {h : Nat} {v : Vw} {y : Int} {n m : Nat} {R : List Ar} {T E : Int} (hN : KN X) (hI : IM v T E) (hB : VB v) : ∀ (n9 : Nat) (r x : Int), 0 ≤ r → r ≤ v 1 0 → (v 1 0 - r).toNat < n9 →
    Wv X h m_L_areStocks 12 4 [some (va_rf (some h)), some (.int (i32 (v 1 0))), some (.int (i32 1)), some (.int (i32 r)), none, none] [] (v, (y, x), (n, m), R) (.inl (some (.int (i32 1)))) (v, (y, x + 480 * (v 1 0 - r)), (n, m), R) := by
  intro n9
  induction n9 with
  | zero => exact fun _ _ _ _ hn => absurd hn (Nat.not_lt_zero _)
  | succ n9 ih =>
    intro r x r0 r2 hn
    have u5 : 0 ≤ v 5 0 ∧ v 5 0 ≤ 30 := hI.2 5 0
    have u9 : 0 ≤ v 9 0 ∧ v 9 0 ≤ 127 := hI.2 9 0
    have u1 : 0 ≤ v 1 0 ∧ v 1 0 ≤ 5 := hI.2 1 0
    by_cases c9 : v 1 0 ≤ r
    · refine Wv.after (y := y) (x := x) (Int.le_refl _) (by omega) ?_
      refine Wv.iload_n (i := 3) dL_areStocks_4 rfl rfl ?_
      refine Wv.iload_n (i := 1) dL_areStocks_5 rfl rfl ?_
      refine Wi.icmp_ge_t (tgt := 154) dL_areStocks_6 (by decide) ⟨by omega, by omega⟩ ⟨by omega, by omega⟩ (by omega) ?_
      refine Wv.iload_n (i := 2) dL_areStocks_154 rfl rfl ?_
      exact Wv.iret rfl (nar_b (Or.inr rfl)) dL_areStocks_155
    · have r2 : r < v 1 0 := by omega
      have hr : 0 ≤ r ∧ r < v 1 0 := ⟨r0, r2⟩
      have sb := stock_by (r := r) hB hI
      have sr := r_stockOf hI r
      rw [stock_eq u5.1] at sr
      refine Wv.iload_n (i := 3) dL_areStocks_4 rfl rfl ?_
      refine Wv.iload_n (i := 1) dL_areStocks_5 rfl rfl ?_
      refine Wi.icmp_ge_f (tgt := 154) dL_areStocks_6 (by decide) ⟨by omega, by omega⟩ ⟨by omega, by omega⟩ (by omega) ?_
      refine Wi.const dL_areStocks_9 ?_
      refine Wv.istore dL_areStocks_10 (by decide) rfl ?_
      refine Wi.const dL_areStocks_12 ?_
      refine Wv.istore dL_areStocks_13 (by decide) rfl ?_
      refine Wv.fgt (ls' := [some (va_rf (some h)), some (.int (i32 (v 1 0))), some (.int (i32 1)), some (.int (i32 r)), some (.int (i32 (sI (F20 v r) (0 : Int).toNat))), some (.int (i32 0))]) ⟨rfl, rfl, rfl, rfl, rfl, rfl, trivial⟩ ?_
      refine l_stocks1 hN hI hr (x + 90) ?_ ((v 5 0).toNat + 1) 0 x (Int.le_refl 0) u5.1 (by omega) (by omega)
      refine Wi.const dL_areStocks_73 ?_
      refine Wv.istore dL_areStocks_74 (by decide) rfl ?_
      have e0 : sI (F20 v r) (v 5 0).toNat = sI (F20 v r) (v 5 0).toNat - sI (F46 v r) (0 : Int).toNat := by
        have : sI (F46 v r) (0 : Int).toNat = 0 := rfl
        omega
      rw [e0]
      refine Wv.fgt (ls' := [some (va_rf (some h)), some (.int (i32 (v 1 0))), some (.int (i32 1)), some (.int (i32 r)), some (.int (i32 (sI (F20 v r) (v 5 0).toNat - sI (F46 v r) (0 : Int).toNat))), some (.int (i32 0))]) ⟨rfl, rfl, rfl, rfl, rfl, rfl, trivial⟩ ?_
      refine l_stocks2 hN hI hr (fun e a b => (hB.2.2.2.2.1 e a b).1) (x + 471) ?_ ((v 9 0).toNat + 1) 0 (x + 90) (Int.le_refl 0) u9.1 (by omega) (by omega)
      rw [sb]
      refine Wv.iload_n (i := 2) dL_areStocks_120 rfl rfl ?_
      refine Wv.aload_n (i := 0) dL_areStocks_121 rfl rfl ?_
      refine Wv.iload_n (i := 3) dL_areStocks_122 rfl rfl ?_
      refine Wv.callH (As := [_, _]) (v := some _) k_L_stock (tb6 (i := 169) rfl) ki_L_stock dL_areStocks_123 rfl rfl (Nat.le_of_ble_eq_true rfl) (Nat.le_of_ble_eq_true rfl) (n_stock hN hI hr rfl) ?_
      refine Wv.iload dL_areStocks_126 rfl ?_
      refine Wi.icmp_ne_f (tgt := 145) dL_areStocks_128 (by decide) ⟨by omega, by omega⟩ ⟨by omega, by omega⟩ (by omega) ?_
      refine Wv.aload_n (i := 0) dL_areStocks_131 rfl rfl ?_
      refine Wv.iload_n (i := 3) dL_areStocks_132 rfl rfl ?_
      refine Wv.callH (As := [_, _]) (v := some _) k_L_stockByDeliveries (tb6 (i := 176) rfl) ki_L_stockByDeliveries dL_areStocks_133 rfl rfl (Nat.le_of_ble_eq_true rfl) (Nat.le_of_ble_eq_true rfl) (n_stockByDeliveries hN hI hr rfl) ?_
      refine Wv.iload dL_areStocks_136 rfl ?_
      refine Wi.icmp_ne_f (tgt := 145) dL_areStocks_138 (by decide) ⟨by omega, by omega⟩ ⟨by omega, by omega⟩ (by omega) ?_
      refine Wi.const dL_areStocks_141 ?_
      refine Wv.goto (tgt := 146) dL_areStocks_142 (by decide) ?_
      refine Wi.and1 dL_areStocks_146 ?_
      refine Wv.istore_n (i := 2) dL_areStocks_147 rfl (by decide) rfl ?_
      refine Wi.inc dL_areStocks_148 rfl (by decide) rfl ?_
      refine Wv.goto (tgt := 4) dL_areStocks_151 (by decide) ?_
      refine Wv.more (y' := y) (x' := x + 480) (Int.le_refl _) (by omega) ?_
      have k := ih (r + 1) (x + 480) (by omega) (by omega) (by omega)
      rw [show x + 480 + 480 * (v 1 0 - (r + 1)) = x + 480 * (v 1 0 - r) by omega] at k
      refine Wv.fgt ?_ k
      exact ⟨rfl, rfl, rfl, rfl, trivial⟩
theorem a_areStocks {X : Cx} {h : Nat} {v : Vw} {y : Int} {n m : Nat} {R : List Ar} {T E : Int} (hN : KN X) (hI : IM v T E) {x : Int} : Kl X h m_L_areStocks 12 [va_rf (some h), .int (i32 (v 1 0))] (v, (y, x), (n, m), R) (.inl (some (.int (i32 1)))) (v, (y, x + 2400), (n, m), R) := by
  have u1 : 0 ≤ v 1 0 ∧ v 1 0 ≤ 5 := hI.2 1 0
  refine Kl.of (by decide +kernel) rfl (Nat.le_of_ble_eq_true rfl) (by simp [Value.category, va_rf]) ?_
  refine Wv.after (y := y) (x := x + 480 * (v 1 0 - 0)) (Int.le_refl _) (by omega) ?_
  refine Wv.inv (fun c9' hV => ?_)
  refine Wi.const dL_areStocks_0 ?_
  refine Wv.istore_n (i := 2) dL_areStocks_1 rfl (by decide) rfl ?_
  refine Wi.const dL_areStocks_2 ?_
  refine Wv.istore_n (i := 3) dL_areStocks_3 rfl (by decide) rfl ?_
  refine Wv.fgt (ls' := [some (va_rf (some h)), some (.int (i32 (v 1 0))), some (.int (i32 1)), some (.int (i32 0)), none, none]) ⟨rfl, rfl, rfl, rfl, trivial⟩ ?_
  exact l_stocks0 hN hI hV.2.1 ((v 1 0).toNat + 1) 0 x (Int.le_refl 0) u1.1 (by omega)
