/-! the law's helpers: vessels (written by wip/p41/mk92.py) -/
section AND1
variable {X : Cx} {h : Nat} {M : Mt} {d pc : Nat} {ls : List (Option Value)} {rest : List Value} {w w' : Wl} {o : Rs}
theorem Wi.and1 (d9 : decode M.cc pc = .ok (.iand, 1)) (k : Wv X h M d (pc + 1) ls (.int (i32 1) :: rest) w o w') : Wv X h M d pc ls (.int (i32 1) :: .int (i32 1) :: rest) w o w' := Wv.iand d9 k
end AND1
abbrev Rz (un it : Nat) (u tk : Int → Int) : List Ar := [(un, 20, 20, u), (it, 23, 8, tk)]
theorem cl_bd (v : Vw) : ∀ m : Nat, 0 ≤ cN (clF v) m ∧ cN (clF v) m ≤ (m : Int) := by
  intro m
  induction m with
  | zero => exact ⟨Int.le_refl 0, Int.le_refl 0⟩
  | succ m ih =>
    have e : cN (clF v) (m + 1) = cN (clF v) m + clF v (m : Int) := rfl
    have u : 0 ≤ clF v (m : Int) ∧ clF v (m : Int) ≤ 1 := by unfold clF; split <;> omega
    omega
theorem cl_st {v : Vw} {i : Int} (h0 : 0 ≤ i) : cN (clF v) (i + 1).toNat = cN (clF v) i.toNat + clF v i := by
  rw [show (i + 1).toNat = i.toNat + 1 by omega]
  show cN (clF v) i.toNat + clF v ((i.toNat : Nat) : Int) = _
  rw [Int.toNat_of_nonneg h0]
theorem cl_all {v : Vw} (h : PA0 v) (u2 : 0 ≤ v 2 0 ∧ v 2 0 ≤ 8) : cN (clF v) (v 2 0).toNat = clc v := by
  have a := cl4 (v := v) (((v 2 0) - 0).toNat + 1) 0 0 (Int.le_refl 0) u2.1 (by omega)
  rw [cl4_all h u2] at a
  have : cN (clF v) (0 : Int).toNat = 0 := rfl
  omega
def m_L_areVessels : Mt := (yL_areVessels, cL_areVessels, 10, some .boolean, [])
theorem k_L_areVessels : cokD m_L_areVessels 4 := ⟨rfl, (tb6 (i := 128) rfl), (tb1 (i := 0) rfl), by decide, by decide +kernel, by decide⟩
theorem ki_L_areVessels : Cond.static m_L_areVessels.y ∈ lw_tbl := (tb6 (i := 127) rfl)
theorem l_areVessels {X : Cx} {h : Nat} {v : Vw} {y : Int} {n m : Nat} {un it : Nat} {u tk : Int → Int} {T E K : Int} (hN : KN X) (hI : IM v T E) (hA : PA K v) (hK : 0 ≤ K ∧ K ≤ 100) (htk : ∀ j, 0 ≤ j → j < v 2 0 → tk j = v 20 j) : ∀ (n9 : Nat) (i x : Int), 0 ≤ i → i ≤ v 2 0 → (v 2 0 - i).toNat < n9 →
    Wv X h m_L_areVessels 12 9 [some (va_rf (some h)), some (.int (i32 (v 2 0))), some (va_rf (some it)), some (.int (i32 K)), some (.int (i32 (cN (clF v) i.toNat))), some (.int (i32 1)), some (.int (i32 i)), none, none, none] [] (v, (y, x), (n, m), Rz un it u tk) (.inl (some (.int (i32 1)))) (v, (y, x + 4 * (v 2 0 - i)), (n, m), Rz un it u tk) := by
  intro n9
  induction n9 with
  | zero => exact fun _ _ _ _ hn => absurd hn (Nat.not_lt_zero _)
  | succ n9 ih =>
    intro i x i0 i2 hn
    have u2 : 0 ≤ v 2 0 ∧ v 2 0 ≤ 8 := hI.2 2 0
    have u8 : 0 ≤ v 8 0 ∧ v 8 0 ≤ T := hI.2 8 0
    have hT := hI.1
    have cb := cl_bd v i.toNat
    by_cases c9 : v 2 0 ≤ i
    · have ei : i = v 2 0 := by omega
      have ec : cN (clF v) i.toNat ≤ K := by
        rw [ei, cl_all hA.1 u2]
        exact hA.2.2
      refine Wv.after (y := y) (x := x) (Int.le_refl _) (by omega) ?_
      refine Wv.iload dL_areVessels_9 rfl ?_
      refine Wv.iload_n (i := 1) dL_areVessels_11 rfl rfl ?_
      refine Wi.icmp_ge_t (tgt := 173) dL_areVessels_12 (by decide) ⟨by omega, by omega⟩ ⟨by omega, by omega⟩ (by omega) ?_
      refine Wv.iload dL_areVessels_173 rfl ?_
      refine Wi.if_eq_f (tgt := 188) dL_areVessels_175 (by decide) ⟨by omega, by omega⟩ (by omega) ?_
      refine Wv.iload dL_areVessels_178 rfl ?_
      refine Wv.iload_n (i := 3) dL_areVessels_180 rfl rfl ?_
      refine Wi.icmp_gt_f (tgt := 188) dL_areVessels_181 (by decide) ⟨by omega, by omega⟩ ⟨by omega, by omega⟩ (by omega) ?_
      refine Wi.const dL_areVessels_184 ?_
      refine Wv.goto (tgt := 189) dL_areVessels_185 (by decide) ?_
      exact Wv.iret rfl (nar_b (Or.inr rfl)) dL_areVessels_189
    · have i2 : i < v 2 0 := by omega
      have ha : 0 ≤ i ∧ i < v 2 0 := ⟨i0, i2⟩
      have cs := cl_st (v := v) i0
      have u15 : 0 ≤ v 15 i ∧ v 15 i ≤ 3 := hI.2 15 i
      have next : ∀ (c : Int) (ls : List (Option Value)), cN (clF v) (i + 1).toNat = c → lsub [some (va_rf (some h)), some (.int (i32 (v 2 0))), some (va_rf (some it)), some (.int (i32 K)), some (.int (i32 c)), some (.int (i32 1)), some (.int (i32 (i + 1))), none, none, none] ls → ∀ x', x' ≤ x + 4 → Wv X h m_L_areVessels 12 9 ls [] (v, (y, x'), (n, m), Rz un it u tk) (.inl (some (.int (i32 1)))) (v, (y, x + 4 * (v 2 0 - i)), (n, m), Rz un it u tk) := fun c ls hc hl x' hx' => by
        have k := ih (i + 1) (x + 4) (by omega) (by omega) (by omega)
        rw [show x + 4 + 4 * (v 2 0 - (i + 1)) = x + 4 * (v 2 0 - i) by omega, hc] at k
        exact Wv.more (Int.le_refl _) hx' (Wv.fgt hl k)
      have z : v 15 i = 0 ∨ v 15 i = 1 ∨ v 15 i = 2 ∨ v 15 i = 3 := by omega
      rcases z with z | z | z | z
      · have zc : clF v i = 0 := if_neg (by omega)
        refine Wv.iload dL_areVessels_9 rfl ?_
        refine Wv.iload_n (i := 1) dL_areVessels_11 rfl rfl ?_
        refine Wi.icmp_ge_f (tgt := 173) dL_areVessels_12 (by decide) ⟨by omega, by omega⟩ ⟨by omega, by omega⟩ (by omega) ?_
        refine Wv.aload_n (i := 0) dL_areVessels_15 rfl rfl ?_
        refine Wv.iload dL_areVessels_16 rfl ?_
        refine Wv.callH (As := [_, _]) (v := some _) k_L_state (tb6 (i := 107) rfl) ki_L_state dL_areVessels_18 rfl rfl (Nat.le_of_ble_eq_true rfl) (Nat.le_of_ble_eq_true rfl) (n_state hN hI ha (s := 99) (by rw [z]; rfl)) ?_
        refine Wv.istore dL_areVessels_21 (by decide) rfl ?_
        refine Wv.aload_n (i := 0) dL_areVessels_23 rfl rfl ?_
        refine Wv.iload dL_areVessels_24 rfl ?_
        refine Wv.callH (As := [_, _]) (v := some _) k_L_brewIn (tb6 (i := 62) rfl) ki_L_brewIn dL_areVessels_26 rfl rfl (Nat.le_of_ble_eq_true rfl) (Nat.le_of_ble_eq_true rfl) (n_brewIn hN hI ha (s := -75) (if_neg (by omega))) ?_
        refine Wv.istore dL_areVessels_29 (by decide) rfl ?_
        refine Wv.aload_n (i := 0) dL_areVessels_31 rfl rfl ?_
        refine Wv.iload dL_areVessels_32 rfl ?_
        refine Wv.callH (As := [_, _]) (v := some _) k_L_cleanDay (tb6 (i := 129) rfl) ki_L_cleanDay dL_areVessels_34 rfl rfl (Nat.le_of_ble_eq_true rfl) (Nat.le_of_ble_eq_true rfl) (n_cleanDay hN hI ha (s := -75) (if_neg (by omega))) ?_
        refine Wv.istore dL_areVessels_37 (by decide) rfl ?_
        refine Wv.iload dL_areVessels_39 rfl ?_
        refine Wv.iload dL_areVessels_41 rfl ?_
        refine Wv.bipush (v := i32 103) dL_areVessels_43 (by decide) ?_
        refine Wi.icmp_ne_t (tgt := 52) dL_areVessels_45 (by decide) ⟨by omega, by omega⟩ ⟨by omega, by omega⟩ (by omega) ?_
        refine Wi.const dL_areVessels_52 ?_
        refine Wi.add dL_areVessels_53 ?_
        refine Wv.istore dL_areVessels_54 (by decide) rfl ?_
        refine Wv.iload dL_areVessels_56 rfl ?_
        refine Wv.iload dL_areVessels_58 rfl ?_
        refine Wv.bipush (v := i32 117) dL_areVessels_60 (by decide) ?_
        refine Wi.icmp_ne_t (tgt := 89) dL_areVessels_62 (by decide) ⟨by omega, by omega⟩ ⟨by omega, by omega⟩ (by omega) ?_
        refine Wv.iload dL_areVessels_89 rfl ?_
        refine Wv.bipush (v := i32 (-75)) dL_areVessels_91 (by decide) ?_
        refine Wi.icmp_ne_f (tgt := 100) dL_areVessels_93 (by decide) ⟨by omega, by omega⟩ ⟨by omega, by omega⟩ (by omega) ?_
        refine Wi.const dL_areVessels_96 ?_
        refine Wv.goto (tgt := 101) dL_areVessels_97 (by decide) ?_
        refine Wi.and1 dL_areVessels_101 ?_
        refine Wv.istore dL_areVessels_102 (by decide) rfl ?_
        refine Wv.iload dL_areVessels_104 rfl ?_
        refine Wv.iload dL_areVessels_106 rfl ?_
        refine Wv.bipush (v := i32 103) dL_areVessels_108 (by decide) ?_
        refine Wi.icmp_ne_t (tgt := 152) dL_areVessels_110 (by decide) ⟨by omega, by omega⟩ ⟨by omega, by omega⟩ (by omega) ?_
        refine Wv.iload dL_areVessels_152 rfl ?_
        refine Wv.bipush (v := i32 (-75)) dL_areVessels_154 (by decide) ?_
        refine Wi.icmp_ne_f (tgt := 163) dL_areVessels_156 (by decide) ⟨by omega, by omega⟩ ⟨by omega, by omega⟩ (by omega) ?_
        refine Wi.const dL_areVessels_159 ?_
        refine Wv.goto (tgt := 164) dL_areVessels_160 (by decide) ?_
        refine Wi.and1 dL_areVessels_164 ?_
        refine Wv.istore dL_areVessels_165 (by decide) rfl ?_
        refine Wi.inc dL_areVessels_167 rfl (by decide) rfl ?_
        refine Wv.goto (tgt := 9) dL_areVessels_170 (by decide) ?_
        refine next (cN (clF v) i.toNat + 0) _ (by omega) ?_ _ (by omega)
        exact ⟨rfl, rfl, rfl, rfl, rfl, rfl, rfl, trivial⟩
      · have zc : clF v i = 0 := if_neg (by omega)
        obtain ⟨b0, b1, b2⟩ := hA.1.2.1 i i0 i2 z
        have u5 : 0 ≤ v 5 0 ∧ v 5 0 ≤ 30 := hI.2 5 0
        refine Wv.iload dL_areVessels_9 rfl ?_
        refine Wv.iload_n (i := 1) dL_areVessels_11 rfl rfl ?_
        refine Wi.icmp_ge_f (tgt := 173) dL_areVessels_12 (by decide) ⟨by omega, by omega⟩ ⟨by omega, by omega⟩ (by omega) ?_
        refine Wv.aload_n (i := 0) dL_areVessels_15 rfl rfl ?_
        refine Wv.iload dL_areVessels_16 rfl ?_
        refine Wv.callH (As := [_, _]) (v := some _) k_L_state (tb6 (i := 107) rfl) ki_L_state dL_areVessels_18 rfl rfl (Nat.le_of_ble_eq_true rfl) (Nat.le_of_ble_eq_true rfl) (n_state hN hI ha (s := 117) (by rw [z]; rfl)) ?_
        refine Wv.istore dL_areVessels_21 (by decide) rfl ?_
        refine Wv.aload_n (i := 0) dL_areVessels_23 rfl rfl ?_
        refine Wv.iload dL_areVessels_24 rfl ?_
        refine Wv.callH (As := [_, _]) (v := some _) k_L_brewIn (tb6 (i := 62) rfl) ki_L_brewIn dL_areVessels_26 rfl rfl (Nat.le_of_ble_eq_true rfl) (Nat.le_of_ble_eq_true rfl) (n_brewIn hN hI ha (s := v 16 i) (if_pos z)) ?_
        refine Wv.istore dL_areVessels_29 (by decide) rfl ?_
        refine Wv.aload_n (i := 0) dL_areVessels_31 rfl rfl ?_
        refine Wv.iload dL_areVessels_32 rfl ?_
        refine Wv.callH (As := [_, _]) (v := some _) k_L_cleanDay (tb6 (i := 129) rfl) ki_L_cleanDay dL_areVessels_34 rfl rfl (Nat.le_of_ble_eq_true rfl) (Nat.le_of_ble_eq_true rfl) (n_cleanDay hN hI ha (s := -75) (if_neg (by omega))) ?_
        refine Wv.istore dL_areVessels_37 (by decide) rfl ?_
        refine Wv.iload dL_areVessels_39 rfl ?_
        refine Wv.iload dL_areVessels_41 rfl ?_
        refine Wv.bipush (v := i32 103) dL_areVessels_43 (by decide) ?_
        refine Wi.icmp_ne_t (tgt := 52) dL_areVessels_45 (by decide) ⟨by omega, by omega⟩ ⟨by omega, by omega⟩ (by omega) ?_
        refine Wi.const dL_areVessels_52 ?_
        refine Wi.add dL_areVessels_53 ?_
        refine Wv.istore dL_areVessels_54 (by decide) rfl ?_
        refine Wv.iload dL_areVessels_56 rfl ?_
        refine Wv.iload dL_areVessels_58 rfl ?_
        refine Wv.bipush (v := i32 117) dL_areVessels_60 (by decide) ?_
        refine Wi.icmp_ne_f (tgt := 89) dL_areVessels_62 (by decide) ⟨by omega, by omega⟩ ⟨by omega, by omega⟩ (by omega) ?_
        refine Wv.iload dL_areVessels_65 rfl ?_
        refine Wi.if_lt_f (tgt := 85) dL_areVessels_67 (by decide) ⟨by omega, by omega⟩ (by omega) ?_
        refine Wv.aload_n (i := 0) dL_areVessels_70 rfl rfl ?_
        refine Wv.iload dL_areVessels_71 rfl ?_
        refine Wv.callH (As := [_, _]) (v := some _) k_L_vesselOf (tb6 (i := 89) rfl) ki_L_vesselOf dL_areVessels_73 rfl rfl (Nat.le_of_ble_eq_true rfl) (Nat.le_of_ble_eq_true rfl) (n_vesselOf hN hI b0 (s := i) (by rw [if_neg b1]; exact b2)) ?_
        refine Wv.iload dL_areVessels_76 rfl ?_
        refine Wi.icmp_ne_f (tgt := 85) dL_areVessels_78 (by decide) ⟨by omega, by omega⟩ ⟨by omega, by omega⟩ (by omega) ?_
        refine Wi.const dL_areVessels_81 ?_
        refine Wv.goto (tgt := 101) dL_areVessels_82 (by decide) ?_
        refine Wi.and1 dL_areVessels_101 ?_
        refine Wv.istore dL_areVessels_102 (by decide) rfl ?_
        refine Wv.iload dL_areVessels_104 rfl ?_
        refine Wv.iload dL_areVessels_106 rfl ?_
        refine Wv.bipush (v := i32 103) dL_areVessels_108 (by decide) ?_
        refine Wi.icmp_ne_t (tgt := 152) dL_areVessels_110 (by decide) ⟨by omega, by omega⟩ ⟨by omega, by omega⟩ (by omega) ?_
        refine Wv.iload dL_areVessels_152 rfl ?_
        refine Wv.bipush (v := i32 (-75)) dL_areVessels_154 (by decide) ?_
        refine Wi.icmp_ne_f (tgt := 163) dL_areVessels_156 (by decide) ⟨by omega, by omega⟩ ⟨by omega, by omega⟩ (by omega) ?_
        refine Wi.const dL_areVessels_159 ?_
        refine Wv.goto (tgt := 164) dL_areVessels_160 (by decide) ?_
        refine Wi.and1 dL_areVessels_164 ?_
        refine Wv.istore dL_areVessels_165 (by decide) rfl ?_
        refine Wi.inc dL_areVessels_167 rfl (by decide) rfl ?_
        refine Wv.goto (tgt := 9) dL_areVessels_170 (by decide) ?_
        refine next (cN (clF v) i.toNat + 0) _ (by omega) ?_ _ (by omega)
        exact ⟨rfl, rfl, rfl, rfl, rfl, rfl, rfl, trivial⟩
      · have zc : clF v i = 0 := if_neg (by omega)
        refine Wv.iload dL_areVessels_9 rfl ?_
        refine Wv.iload_n (i := 1) dL_areVessels_11 rfl rfl ?_
        refine Wi.icmp_ge_f (tgt := 173) dL_areVessels_12 (by decide) ⟨by omega, by omega⟩ ⟨by omega, by omega⟩ (by omega) ?_
        refine Wv.aload_n (i := 0) dL_areVessels_15 rfl rfl ?_
        refine Wv.iload dL_areVessels_16 rfl ?_
        refine Wv.callH (As := [_, _]) (v := some _) k_L_state (tb6 (i := 107) rfl) ki_L_state dL_areVessels_18 rfl rfl (Nat.le_of_ble_eq_true rfl) (Nat.le_of_ble_eq_true rfl) (n_state hN hI ha (s := 100) (by rw [z]; rfl)) ?_
        refine Wv.istore dL_areVessels_21 (by decide) rfl ?_
        refine Wv.aload_n (i := 0) dL_areVessels_23 rfl rfl ?_
        refine Wv.iload dL_areVessels_24 rfl ?_
        refine Wv.callH (As := [_, _]) (v := some _) k_L_brewIn (tb6 (i := 62) rfl) ki_L_brewIn dL_areVessels_26 rfl rfl (Nat.le_of_ble_eq_true rfl) (Nat.le_of_ble_eq_true rfl) (n_brewIn hN hI ha (s := -75) (if_neg (by omega))) ?_
        refine Wv.istore dL_areVessels_29 (by decide) rfl ?_
        refine Wv.aload_n (i := 0) dL_areVessels_31 rfl rfl ?_
        refine Wv.iload dL_areVessels_32 rfl ?_
        refine Wv.callH (As := [_, _]) (v := some _) k_L_cleanDay (tb6 (i := 129) rfl) ki_L_cleanDay dL_areVessels_34 rfl rfl (Nat.le_of_ble_eq_true rfl) (Nat.le_of_ble_eq_true rfl) (n_cleanDay hN hI ha (s := -75) (if_neg (by omega))) ?_
        refine Wv.istore dL_areVessels_37 (by decide) rfl ?_
        refine Wv.iload dL_areVessels_39 rfl ?_
        refine Wv.iload dL_areVessels_41 rfl ?_
        refine Wv.bipush (v := i32 103) dL_areVessels_43 (by decide) ?_
        refine Wi.icmp_ne_t (tgt := 52) dL_areVessels_45 (by decide) ⟨by omega, by omega⟩ ⟨by omega, by omega⟩ (by omega) ?_
        refine Wi.const dL_areVessels_52 ?_
        refine Wi.add dL_areVessels_53 ?_
        refine Wv.istore dL_areVessels_54 (by decide) rfl ?_
        refine Wv.iload dL_areVessels_56 rfl ?_
        refine Wv.iload dL_areVessels_58 rfl ?_
        refine Wv.bipush (v := i32 117) dL_areVessels_60 (by decide) ?_
        refine Wi.icmp_ne_t (tgt := 89) dL_areVessels_62 (by decide) ⟨by omega, by omega⟩ ⟨by omega, by omega⟩ (by omega) ?_
        refine Wv.iload dL_areVessels_89 rfl ?_
        refine Wv.bipush (v := i32 (-75)) dL_areVessels_91 (by decide) ?_
        refine Wi.icmp_ne_f (tgt := 100) dL_areVessels_93 (by decide) ⟨by omega, by omega⟩ ⟨by omega, by omega⟩ (by omega) ?_
        refine Wi.const dL_areVessels_96 ?_
        refine Wv.goto (tgt := 101) dL_areVessels_97 (by decide) ?_
        refine Wi.and1 dL_areVessels_101 ?_
        refine Wv.istore dL_areVessels_102 (by decide) rfl ?_
        refine Wv.iload dL_areVessels_104 rfl ?_
        refine Wv.iload dL_areVessels_106 rfl ?_
        refine Wv.bipush (v := i32 103) dL_areVessels_108 (by decide) ?_
        refine Wi.icmp_ne_t (tgt := 152) dL_areVessels_110 (by decide) ⟨by omega, by omega⟩ ⟨by omega, by omega⟩ (by omega) ?_
        refine Wv.iload dL_areVessels_152 rfl ?_
        refine Wv.bipush (v := i32 (-75)) dL_areVessels_154 (by decide) ?_
        refine Wi.icmp_ne_f (tgt := 163) dL_areVessels_156 (by decide) ⟨by omega, by omega⟩ ⟨by omega, by omega⟩ (by omega) ?_
        refine Wi.const dL_areVessels_159 ?_
        refine Wv.goto (tgt := 164) dL_areVessels_160 (by decide) ?_
        refine Wi.and1 dL_areVessels_164 ?_
        refine Wv.istore dL_areVessels_165 (by decide) rfl ?_
        refine Wi.inc dL_areVessels_167 rfl (by decide) rfl ?_
        refine Wv.goto (tgt := 9) dL_areVessels_170 (by decide) ?_
        refine next (cN (clF v) i.toNat + 0) _ (by omega) ?_ _ (by omega)
        exact ⟨rfl, rfl, rfl, rfl, rfl, rfl, rfl, trivial⟩
      · have zc : clF v i = 1 := if_pos z
        have u17 : 0 ≤ v 17 i ∧ v 17 i ≤ 2 := hI.2 17 i
        have q17 := hA.1.2.2.2 i z
        have et := htk i i0 i2
        have u20 : 0 ≤ v 20 i ∧ v 20 i ≤ 1 := hI.2 20 i
        refine Wv.inv (fun c9' hV => ?_)
        have p17 : 1 ≤ v 17 i := hV.2.2.2.2.2.2 i z
        by_cases c20 : v 20 i = 0
        · rw [if_pos c20] at q17
          refine Wv.iload dL_areVessels_9 rfl ?_
          refine Wv.iload_n (i := 1) dL_areVessels_11 rfl rfl ?_
          refine Wi.icmp_ge_f (tgt := 173) dL_areVessels_12 (by decide) ⟨by omega, by omega⟩ ⟨by omega, by omega⟩ (by omega) ?_
          refine Wv.aload_n (i := 0) dL_areVessels_15 rfl rfl ?_
          refine Wv.iload dL_areVessels_16 rfl ?_
          refine Wv.callH (As := [_, _]) (v := some _) k_L_state (tb6 (i := 107) rfl) ki_L_state dL_areVessels_18 rfl rfl (Nat.le_of_ble_eq_true rfl) (Nat.le_of_ble_eq_true rfl) (n_state hN hI ha (s := 103) (by rw [z]; rfl)) ?_
          refine Wv.istore dL_areVessels_21 (by decide) rfl ?_
          refine Wv.aload_n (i := 0) dL_areVessels_23 rfl rfl ?_
          refine Wv.iload dL_areVessels_24 rfl ?_
          refine Wv.callH (As := [_, _]) (v := some _) k_L_brewIn (tb6 (i := 62) rfl) ki_L_brewIn dL_areVessels_26 rfl rfl (Nat.le_of_ble_eq_true rfl) (Nat.le_of_ble_eq_true rfl) (n_brewIn hN hI ha (s := -75) (if_neg (by omega))) ?_
          refine Wv.istore dL_areVessels_29 (by decide) rfl ?_
          refine Wv.aload_n (i := 0) dL_areVessels_31 rfl rfl ?_
          refine Wv.iload dL_areVessels_32 rfl ?_
          refine Wv.callH (As := [_, _]) (v := some _) k_L_cleanDay (tb6 (i := 129) rfl) ki_L_cleanDay dL_areVessels_34 rfl rfl (Nat.le_of_ble_eq_true rfl) (Nat.le_of_ble_eq_true rfl) (n_cleanDay hN hI ha (s := v 8 0 + v 17 i) (if_pos z)) ?_
          refine Wv.istore dL_areVessels_37 (by decide) rfl ?_
          refine Wv.iload dL_areVessels_39 rfl ?_
          refine Wv.iload dL_areVessels_41 rfl ?_
          refine Wv.bipush (v := i32 103) dL_areVessels_43 (by decide) ?_
          refine Wi.icmp_ne_f (tgt := 52) dL_areVessels_45 (by decide) ⟨by omega, by omega⟩ ⟨by omega, by omega⟩ (by omega) ?_
          refine Wi.const dL_areVessels_48 ?_
          refine Wv.goto (tgt := 53) dL_areVessels_49 (by decide) ?_
          refine Wi.add dL_areVessels_53 ?_
          refine Wv.istore dL_areVessels_54 (by decide) rfl ?_
          refine Wv.iload dL_areVessels_56 rfl ?_
          refine Wv.iload dL_areVessels_58 rfl ?_
          refine Wv.bipush (v := i32 117) dL_areVessels_60 (by decide) ?_
          refine Wi.icmp_ne_t (tgt := 89) dL_areVessels_62 (by decide) ⟨by omega, by omega⟩ ⟨by omega, by omega⟩ (by omega) ?_
          refine Wv.iload dL_areVessels_89 rfl ?_
          refine Wv.bipush (v := i32 (-75)) dL_areVessels_91 (by decide) ?_
          refine Wi.icmp_ne_f (tgt := 100) dL_areVessels_93 (by decide) ⟨by omega, by omega⟩ ⟨by omega, by omega⟩ (by omega) ?_
          refine Wi.const dL_areVessels_96 ?_
          refine Wv.goto (tgt := 101) dL_areVessels_97 (by decide) ?_
          refine Wi.and1 dL_areVessels_101 ?_
          refine Wv.istore dL_areVessels_102 (by decide) rfl ?_
          refine Wv.iload dL_areVessels_104 rfl ?_
          refine Wv.iload dL_areVessels_106 rfl ?_
          refine Wv.bipush (v := i32 103) dL_areVessels_108 (by decide) ?_
          refine Wi.icmp_ne_f (tgt := 152) dL_areVessels_110 (by decide) ⟨by omega, by omega⟩ ⟨by omega, by omega⟩ (by omega) ?_
          refine Wv.iload dL_areVessels_113 rfl ?_
          refine Wv.aload_n (i := 0) dL_areVessels_115 rfl rfl ?_
          refine Wv.callV (As := []) (v := some _) k_X10_day (tb1 (i := 234) rfl) ki_X10_day kv_X10_day dL_areVessels_116 rfl rfl (Nat.le_of_ble_eq_true rfl) (Nat.le_of_ble_eq_true rfl) w_day ?_
          refine Wi.icmp_le_f (tgt := 148) dL_areVessels_119 (by decide) ⟨by omega, by omega⟩ ⟨by omega, by omega⟩ (by omega) ?_
          refine Wv.iload dL_areVessels_122 rfl ?_
          refine Wv.aload_n (i := 0) dL_areVessels_124 rfl rfl ?_
          refine Wv.callV (As := []) (v := some _) k_X10_day (tb1 (i := 234) rfl) ki_X10_day kv_X10_day dL_areVessels_125 rfl rfl (Nat.le_of_ble_eq_true rfl) (Nat.le_of_ble_eq_true rfl) w_day ?_
          refine Wv.aload_n (i := 2) dL_areVessels_128 rfl rfl ?_
          refine Wv.iload dL_areVessels_129 rfl ?_
          refine Wv.zald 1 rfl (by omega) (by omega) (by decide) dL_areVessels_131 ?_
          refine Wi.if_eq_t (tgt := 139) dL_areVessels_132 (by decide) ⟨by omega, by omega⟩ (by omega) ?_
          refine Wi.const dL_areVessels_139 ?_
          refine Wi.add dL_areVessels_140 ?_
          refine Wi.icmp_gt_f (tgt := 148) dL_areVessels_141 (by decide) ⟨by omega, by omega⟩ ⟨by omega, by omega⟩ (by omega) ?_
          refine Wi.const dL_areVessels_144 ?_
          refine Wv.goto (tgt := 164) dL_areVessels_145 (by decide) ?_
          refine Wi.and1 dL_areVessels_164 ?_
          refine Wv.istore dL_areVessels_165 (by decide) rfl ?_
          refine Wi.inc dL_areVessels_167 rfl (by decide) rfl ?_
          refine Wv.goto (tgt := 9) dL_areVessels_170 (by decide) ?_
          refine next (cN (clF v) i.toNat + 1) _ (by omega) ?_ _ (by omega)
          exact ⟨rfl, rfl, rfl, rfl, rfl, rfl, rfl, trivial⟩
        · rw [if_neg c20] at q17
          refine Wv.iload dL_areVessels_9 rfl ?_
          refine Wv.iload_n (i := 1) dL_areVessels_11 rfl rfl ?_
          refine Wi.icmp_ge_f (tgt := 173) dL_areVessels_12 (by decide) ⟨by omega, by omega⟩ ⟨by omega, by omega⟩ (by omega) ?_
          refine Wv.aload_n (i := 0) dL_areVessels_15 rfl rfl ?_
          refine Wv.iload dL_areVessels_16 rfl ?_
          refine Wv.callH (As := [_, _]) (v := some _) k_L_state (tb6 (i := 107) rfl) ki_L_state dL_areVessels_18 rfl rfl (Nat.le_of_ble_eq_true rfl) (Nat.le_of_ble_eq_true rfl) (n_state hN hI ha (s := 103) (by rw [z]; rfl)) ?_
          refine Wv.istore dL_areVessels_21 (by decide) rfl ?_
          refine Wv.aload_n (i := 0) dL_areVessels_23 rfl rfl ?_
          refine Wv.iload dL_areVessels_24 rfl ?_
          refine Wv.callH (As := [_, _]) (v := some _) k_L_brewIn (tb6 (i := 62) rfl) ki_L_brewIn dL_areVessels_26 rfl rfl (Nat.le_of_ble_eq_true rfl) (Nat.le_of_ble_eq_true rfl) (n_brewIn hN hI ha (s := -75) (if_neg (by omega))) ?_
          refine Wv.istore dL_areVessels_29 (by decide) rfl ?_
          refine Wv.aload_n (i := 0) dL_areVessels_31 rfl rfl ?_
          refine Wv.iload dL_areVessels_32 rfl ?_
          refine Wv.callH (As := [_, _]) (v := some _) k_L_cleanDay (tb6 (i := 129) rfl) ki_L_cleanDay dL_areVessels_34 rfl rfl (Nat.le_of_ble_eq_true rfl) (Nat.le_of_ble_eq_true rfl) (n_cleanDay hN hI ha (s := v 8 0 + v 17 i) (if_pos z)) ?_
          refine Wv.istore dL_areVessels_37 (by decide) rfl ?_
          refine Wv.iload dL_areVessels_39 rfl ?_
          refine Wv.iload dL_areVessels_41 rfl ?_
          refine Wv.bipush (v := i32 103) dL_areVessels_43 (by decide) ?_
          refine Wi.icmp_ne_f (tgt := 52) dL_areVessels_45 (by decide) ⟨by omega, by omega⟩ ⟨by omega, by omega⟩ (by omega) ?_
          refine Wi.const dL_areVessels_48 ?_
          refine Wv.goto (tgt := 53) dL_areVessels_49 (by decide) ?_
          refine Wi.add dL_areVessels_53 ?_
          refine Wv.istore dL_areVessels_54 (by decide) rfl ?_
          refine Wv.iload dL_areVessels_56 rfl ?_
          refine Wv.iload dL_areVessels_58 rfl ?_
          refine Wv.bipush (v := i32 117) dL_areVessels_60 (by decide) ?_
          refine Wi.icmp_ne_t (tgt := 89) dL_areVessels_62 (by decide) ⟨by omega, by omega⟩ ⟨by omega, by omega⟩ (by omega) ?_
          refine Wv.iload dL_areVessels_89 rfl ?_
          refine Wv.bipush (v := i32 (-75)) dL_areVessels_91 (by decide) ?_
          refine Wi.icmp_ne_f (tgt := 100) dL_areVessels_93 (by decide) ⟨by omega, by omega⟩ ⟨by omega, by omega⟩ (by omega) ?_
          refine Wi.const dL_areVessels_96 ?_
          refine Wv.goto (tgt := 101) dL_areVessels_97 (by decide) ?_
          refine Wi.and1 dL_areVessels_101 ?_
          refine Wv.istore dL_areVessels_102 (by decide) rfl ?_
          refine Wv.iload dL_areVessels_104 rfl ?_
          refine Wv.iload dL_areVessels_106 rfl ?_
          refine Wv.bipush (v := i32 103) dL_areVessels_108 (by decide) ?_
          refine Wi.icmp_ne_f (tgt := 152) dL_areVessels_110 (by decide) ⟨by omega, by omega⟩ ⟨by omega, by omega⟩ (by omega) ?_
          refine Wv.iload dL_areVessels_113 rfl ?_
          refine Wv.aload_n (i := 0) dL_areVessels_115 rfl rfl ?_
          refine Wv.callV (As := []) (v := some _) k_X10_day (tb1 (i := 234) rfl) ki_X10_day kv_X10_day dL_areVessels_116 rfl rfl (Nat.le_of_ble_eq_true rfl) (Nat.le_of_ble_eq_true rfl) w_day ?_
          refine Wi.icmp_le_f (tgt := 148) dL_areVessels_119 (by decide) ⟨by omega, by omega⟩ ⟨by omega, by omega⟩ (by omega) ?_
          refine Wv.iload dL_areVessels_122 rfl ?_
          refine Wv.aload_n (i := 0) dL_areVessels_124 rfl rfl ?_
          refine Wv.callV (As := []) (v := some _) k_X10_day (tb1 (i := 234) rfl) ki_X10_day kv_X10_day dL_areVessels_125 rfl rfl (Nat.le_of_ble_eq_true rfl) (Nat.le_of_ble_eq_true rfl) w_day ?_
          refine Wv.aload_n (i := 2) dL_areVessels_128 rfl rfl ?_
          refine Wv.iload dL_areVessels_129 rfl ?_
          refine Wv.zald 1 rfl (by omega) (by omega) (by decide) dL_areVessels_131 ?_
          refine Wi.if_eq_f (tgt := 139) dL_areVessels_132 (by decide) ⟨by omega, by omega⟩ (by omega) ?_
          refine Wi.const dL_areVessels_135 ?_
          refine Wv.goto (tgt := 140) dL_areVessels_136 (by decide) ?_
          refine Wi.add dL_areVessels_140 ?_
          refine Wi.icmp_gt_f (tgt := 148) dL_areVessels_141 (by decide) ⟨by omega, by omega⟩ ⟨by omega, by omega⟩ (by omega) ?_
          refine Wi.const dL_areVessels_144 ?_
          refine Wv.goto (tgt := 164) dL_areVessels_145 (by decide) ?_
          refine Wi.and1 dL_areVessels_164 ?_
          refine Wv.istore dL_areVessels_165 (by decide) rfl ?_
          refine Wi.inc dL_areVessels_167 rfl (by decide) rfl ?_
          refine Wv.goto (tgt := 9) dL_areVessels_170 (by decide) ?_
          refine next (cN (clF v) i.toNat + 1) _ (by omega) ?_ _ (by omega)
          exact ⟨rfl, rfl, rfl, rfl, rfl, rfl, rfl, trivial⟩
theorem a_areVessels {X : Cx} {h : Nat} {v : Vw} {y x : Int} {n m : Nat} {un it : Nat} {u tk : Int → Int} {T E K : Int} (hN : KN X) (hI : IM v T E) (hA : PA K v) (hK : 0 ≤ K ∧ K ≤ 100) (htk : ∀ j, 0 ≤ j → j < v 2 0 → tk j = v 20 j) :
    Kl X h m_L_areVessels 12 [va_rf (some h), .int (i32 (v 2 0)), va_rf (some it), .int (i32 K)] (v, (y, x), (n, m), Rz un it u tk) (.inl (some (.int (i32 1)))) (v, (y, x + 32), (n, m), Rz un it u tk) := by
  have u2 : 0 ≤ v 2 0 ∧ v 2 0 ≤ 8 := hI.2 2 0
  refine Kl.of (by decide +kernel) rfl (Nat.le_of_ble_eq_true rfl) (by simp [Value.category, va_rf]) ?_
  refine Wv.after (y := y) (x := x + 4 * (v 2 0 - 0)) (Int.le_refl _) (by omega) ?_
  refine Wi.const dL_areVessels_0 ?_
  refine Wv.istore dL_areVessels_1 (by decide) rfl ?_
  refine Wi.const dL_areVessels_3 ?_
  refine Wv.istore dL_areVessels_4 (by decide) rfl ?_
  refine Wi.const dL_areVessels_6 ?_
  refine Wv.istore dL_areVessels_7 (by decide) rfl ?_
  refine Wv.fgt (ls' := [some (va_rf (some h)), some (.int (i32 (v 2 0))), some (va_rf (some it)), some (.int (i32 K)), some (.int (i32 (cN (clF v) (0 : Int).toNat))), some (.int (i32 1)), some (.int (i32 0)), none, none, none]) ⟨rfl, rfl, rfl, rfl, rfl, rfl, rfl, trivial⟩ ?_
  exact l_areVessels hN hI hA hK htk ((v 2 0).toNat + 1) 0 x (Int.le_refl 0) u2.1 (by omega)
