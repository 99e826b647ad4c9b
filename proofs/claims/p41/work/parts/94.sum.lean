/-! the law's helpers: how many are filled; the digest of what is seen (written by wip/p41/mk94.py) -/
def ffF (v : Vw) (o : Int) : Int := if v 34 o = 102 then 1 else 0
theorem ff_sum (v : Vw) : ∀ n : Nat, 0 ≤ cN (ffF v) n ∧ cN (ffF v) n = (n : Int) - cN (flF v) n ∧ 0 ≤ cN (flF v) n := by
  intro n
  induction n with
  | zero => exact ⟨Int.le_refl 0, rfl, Int.le_refl 0⟩
  | succ n ih =>
    have e1 : cN (ffF v) (n + 1) = cN (ffF v) n + ffF v (n : Int) := rfl
    have e2 : cN (flF v) (n + 1) = cN (flF v) n + flF v (n : Int) := rfl
    by_cases c : v 34 (n : Int) = 102
    · have a : ffF v (n : Int) = 1 := if_pos c
      have b : flF v (n : Int) = 0 := if_pos c
      omega
    · have a : ffF v (n : Int) = 0 := if_neg c
      have b : flF v (n : Int) = 1 := if_neg c
      omega
theorem cN_st {f : Int → Int} {i : Int} (h0 : 0 ≤ i) : cN f (i + 1).toNat = cN f i.toNat + f i := by
  rw [show (i + 1).toNat = i.toNat + 1 by omega]
  show cN f i.toNat + f ((i.toNat : Nat) : Int) = _
  rw [Int.toNat_of_nonneg h0]
def m_L_filled : Mt := (yL_filled, cL_filled, 3, some .int, [])
theorem k_L_filled : cokD m_L_filled 1 := ⟨rfl, (tb6 (i := 125) rfl), (tb1 (i := 0) rfl), by decide, by decide +kernel, by decide⟩
theorem ki_L_filled : Cond.static m_L_filled.y ∈ lw_tbl := (tb6 (i := 124) rfl)
theorem l_filled {X : Cx} {h : Nat} {v : Vw} {y : Int} {n m : Nat} {R : List Ar} {T E : Int} (hN : KN X) (hI : IM v T E) (h34 : ∀ o, v 6 0 ≤ o → v 34 o = 0) : ∀ (n9 : Nat) (i x : Int), 0 ≤ i → i ≤ 20 → (20 - i).toNat < n9 →
    Wv X h m_L_filled 12 4 [some (va_rf (some h)), some (.int (i32 (cN (ffF v) i.toNat))), some (.int (i32 i))] [] (v, (y, x), (n, m), R) (.inl (some (.int (i32 (cN (ffF v) 20))))) (v, (y, x + (20 - i)), (n, m), R) := by
  intro n9
  induction n9 with
  | zero => exact fun _ _ _ _ hn => absurd hn (Nat.not_lt_zero _)
  | succ n9 ih =>
    intro i x i0 i2 hn
    have fb := ff_sum v i.toNat
    by_cases c9 : 20 ≤ i
    · refine Wv.after (y := y) (x := x) (Int.le_refl _) (by omega) ?_
      have ei : i = 20 := by omega
      subst ei
      refine Wv.iload_n (i := 2) dL_filled_4 rfl rfl ?_
      refine Wv.bipush (v := i32 20) dL_filled_5 (by decide) ?_
      refine Wi.icmp_ge_t (tgt := 34) dL_filled_7 (by decide) ⟨by omega, by omega⟩ ⟨by omega, by omega⟩ (by omega) ?_
      refine Wv.iload_n (i := 1) dL_filled_34 rfl rfl ?_
      exact Wv.iret rfl rfl dL_filled_35
    · have ha : 0 ≤ i ∧ i < 100 := ⟨i0, by omega⟩
      have cs := cN_st (f := ffF v) i0
      have u34 : 0 ≤ v 34 i ∧ v 34 i ≤ 255 := hI.2 34 i
      have next : ∀ (c : Int) (ls : List (Option Value)), cN (ffF v) (i + 1).toNat = c → lsub [some (va_rf (some h)), some (.int (i32 c)), some (.int (i32 (i + 1)))] ls → ∀ x', x' ≤ x + 1 → Wv X h m_L_filled 12 4 ls [] (v, (y, x'), (n, m), R) (.inl (some (.int (i32 (cN (ffF v) 20))))) (v, (y, x + (20 - i)), (n, m), R) := fun c ls hc hl x' hx' => by
        have k := ih (i + 1) (x + 1) (by omega) (by omega) (by omega)
        rw [show x + 1 + (20 - (i + 1)) = x + (20 - i) by omega, hc] at k
        exact Wv.more (Int.le_refl _) hx' (Wv.fgt hl k)
      by_cases z : v 34 i = 102
      · have zf : ffF v i = 1 := if_pos z
        have zo : i < v 6 0 := by
          by_cases q : i < v 6 0
          · exact q
          · have := h34 i (by omega)
            omega
        refine Wv.iload_n (i := 2) dL_filled_4 rfl rfl ?_
        refine Wv.bipush (v := i32 20) dL_filled_5 (by decide) ?_
        refine Wi.icmp_ge_f (tgt := 34) dL_filled_7 (by decide) ⟨by omega, by omega⟩ ⟨by omega, by omega⟩ (by omega) ?_
        refine Wv.iload_n (i := 1) dL_filled_10 rfl rfl ?_
        refine Wv.aload_n (i := 0) dL_filled_11 rfl rfl ?_
        refine Wv.iload_n (i := 2) dL_filled_12 rfl rfl ?_
        refine Wv.callH (As := [_, _]) (v := some _) k_L_status (tb5 (i := 172) rfl) ki_L_status dL_filled_13 rfl rfl (Nat.le_of_ble_eq_true rfl) (Nat.le_of_ble_eq_true rfl) (n_status hN hI ha (s := 102) (by rw [if_pos zo]; exact z)) ?_
        refine Wv.bipush (v := i32 102) dL_filled_16 (by decide) ?_
        refine Wi.icmp_ne_f (tgt := 25) dL_filled_18 (by decide) ⟨by omega, by omega⟩ ⟨by omega, by omega⟩ (by omega) ?_
        refine Wi.const dL_filled_21 ?_
        refine Wv.goto (tgt := 26) dL_filled_22 (by decide) ?_
        refine Wi.add dL_filled_26 ?_
        refine Wv.istore_n (i := 1) dL_filled_27 rfl (by decide) rfl ?_
        refine Wi.inc dL_filled_28 rfl (by decide) rfl ?_
        refine Wv.goto (tgt := 4) dL_filled_31 (by decide) ?_
        refine next (cN (ffF v) i.toNat + 1) _ (by omega) ?_ _ (by omega)
        exact ⟨rfl, rfl, rfl, trivial⟩
      · have zf : ffF v i = 0 := if_neg z
        obtain ⟨s, es, hs⟩ : ∃ s, (if i < v 6 0 then v 34 i else -77) = s ∧ (s ≠ 102 ∧ -77 ≤ s ∧ s ≤ 255) := ⟨_, rfl, by split <;> omega⟩
        refine Wv.iload_n (i := 2) dL_filled_4 rfl rfl ?_
        refine Wv.bipush (v := i32 20) dL_filled_5 (by decide) ?_
        refine Wi.icmp_ge_f (tgt := 34) dL_filled_7 (by decide) ⟨by omega, by omega⟩ ⟨by omega, by omega⟩ (by omega) ?_
        refine Wv.iload_n (i := 1) dL_filled_10 rfl rfl ?_
        refine Wv.aload_n (i := 0) dL_filled_11 rfl rfl ?_
        refine Wv.iload_n (i := 2) dL_filled_12 rfl rfl ?_
        refine Wv.callH (As := [_, _]) (v := some _) k_L_status (tb5 (i := 172) rfl) ki_L_status dL_filled_13 rfl rfl (Nat.le_of_ble_eq_true rfl) (Nat.le_of_ble_eq_true rfl) (n_status hN hI ha (s := s) es) ?_
        refine Wv.bipush (v := i32 102) dL_filled_16 (by decide) ?_
        refine Wi.icmp_ne_t (tgt := 25) dL_filled_18 (by decide) ⟨by omega, by omega⟩ ⟨by omega, by omega⟩ (by omega) ?_
        refine Wi.const dL_filled_25 ?_
        refine Wi.add dL_filled_26 ?_
        refine Wv.istore_n (i := 1) dL_filled_27 rfl (by decide) rfl ?_
        refine Wi.inc dL_filled_28 rfl (by decide) rfl ?_
        refine Wv.goto (tgt := 4) dL_filled_31 (by decide) ?_
        refine next (cN (ffF v) i.toNat + 0) _ (by omega) ?_ _ (by omega)
        exact ⟨rfl, rfl, rfl, trivial⟩
theorem a_filled {X : Cx} {h : Nat} {v : Vw} {y x : Int} {n m : Nat} {R : List Ar} {T E : Int} (hN : KN X) (hI : IM v T E) (hD : PD v) (h34 : ∀ o, v 6 0 ≤ o → v 34 o = 0) :
    Kl X h m_L_filled 12 [va_rf (some h)] (v, (y, x), (n, m), R) (.inl (some (.int (i32 (v 11 0))))) (v, (y, x + 20), (n, m), R) := by
  have e : cN (ffF v) 20 = v 11 0 := by
    have a := ff_sum v 20
    have b := hD.2.2.2.2
    unfold fl at b
    omega
  rw [← e]
  refine Kl.of (by decide +kernel) rfl (Nat.le_of_ble_eq_true rfl) (by simp [Value.category, va_rf]) ?_
  refine Wi.const dL_filled_0 ?_
  refine Wv.istore_n (i := 1) dL_filled_1 rfl (by decide) rfl ?_
  refine Wi.const dL_filled_2 ?_
  refine Wv.istore_n (i := 2) dL_filled_3 rfl (by decide) rfl ?_
  refine Wv.fgt (ls' := [some (va_rf (some h)), some (.int (i32 (cN (ffF v) (0 : Int).toNat))), some (.int (i32 0))]) ⟨rfl, rfl, rfl, trivial⟩ ?_
  exact l_filled hN hI h34 21 0 x (Int.le_refl 0) (by omega) (by omega)
def fo (g : Int64 → Int → Int64) : Nat → Int64 → Int64
  | 0, a => a
  | k + 1, a => g (fo g k a) (k : Int)
theorem fo_st {g : Int64 → Int → Int64} {i : Int} {a : Int64} (h0 : 0 ≤ i) : fo g (i + 1).toNat a = g (fo g i.toNat a) i := by
  rw [show (i + 1).toNat = i.toNat + 1 by omega]
  show g (fo g i.toNat a) ((i.toNat : Nat) : Int) = _
  rw [Int.toNat_of_nonneg h0]
def stt (v : Vw) (i : Int) : Int := if i < v 6 0 then v 34 i else -77
def dtg (v : Vw) (b : Int) : Int := if v 28 b = 0 ∨ v 28 b = 2 then v 30 b else -75
def g1 (v : Vw) (a : Int64) (i : Int) : Int64 := 31 * a + (i32 (cdc (v 15 i))).toInt64
def g2 (v : Vw) (a : Int64) (i : Int) : Int64 := 31 * a + (i32 (v 39 i)).toInt64
def g3 (v : Vw) (a : Int64) (i : Int) : Int64 := 31 * a + (i32 (phc (v 28 i))).toInt64 + 5 * (i32 (dtg v i)).toInt64
def g4 (v : Vw) (a : Int64) (i : Int) : Int64 := 31 * a + (i32 (stt v i)).toInt64
def sm0 (v : Vw) : Int64 := (i32 (v 8 0)).toInt64 + 31 * (i32 (v 5 0)).toInt64 + 7 * (i32 (v 9 0)).toInt64 + 101 * (i32 (v 7 0)).toInt64
def sm4 (v : Vw) (a : Int64) : Int64 := fo (g4 v) 20 a
def sm3 (v : Vw) (a : Int64) : Int64 := sm4 v (fo (g3 v) (v 5 0).toNat a)
def sm2 (v : Vw) (a : Int64) : Int64 := sm3 v (fo (g2 v) (v 7 0).toNat a)
def sm1 (v : Vw) (a : Int64) : Int64 := sm2 v (fo (g1 v) (v 2 0).toNat a)
/-- the digest -/
def Sm9 (v : Vw) : Int64 := sm1 v (sm0 v)
theorem Fl.sm {v w : Vw} (h : Fl v w) : Sm9 w = Sm9 v := by
  have e : ∀ k, k ≠ 0 → w k = v k := fun k hk => funext (h k hk)
  have a1 : g1 w = g1 v := by funext a i; unfold g1; rw [e 15 (by decide)]
  have a2 : g2 w = g2 v := by funext a i; unfold g2; rw [e 39 (by decide)]
  have a3 : g3 w = g3 v := by funext a i; unfold g3 dtg; rw [e 28 (by decide), e 30 (by decide)]
  have a4 : g4 w = g4 v := by funext a i; unfold g4 stt; rw [e 6 (by decide), e 34 (by decide)]
  unfold Sm9 sm1 sm2 sm3 sm4 sm0
  rw [a1, a2, a3, a4, e 8 (by decide), e 5 (by decide), e 9 (by decide), e 7 (by decide), e 2 (by decide)]
def m_L_sum : Mt := (yL_sum, cL_sum, 5, some .long, [])
theorem k_L_sum : cokD m_L_sum 2 := ⟨rfl, (tb6 (i := 99) rfl), (tb1 (i := 0) rfl), by decide, by decide +kernel, by decide⟩
theorem ki_L_sum : Cond.static m_L_sum.y ∈ lw_tbl := (tb6 (i := 98) rfl)
theorem l_sum4 {X : Cx} {h : Nat} {v : Vw} {y : Int} {n m : Nat} {R : List Ar} {T E : Int} (hN : KN X) (hI : IM v T E) (a : Int64) : ∀ (n9 : Nat) (i x : Int), 0 ≤ i → i ≤ 20 → (20 - i).toNat < n9 →
    Wv X h m_L_sum 12 144 [some (va_rf (some h)), some (.int (i32 (v 2 0))), some (.long (fo (g4 v) i.toNat a)), none, some (.int (i32 i))] [] (v, (y, x), (n, m), R) (.inl (some (.long (sm4 v a)))) (v, (y, x + 1 * (20 - i) + 0), (n, m), R) := by
  intro n9
  induction n9 with
  | zero => exact fun _ _ _ _ hn => absurd hn (Nat.not_lt_zero _)
  | succ n9 ih =>
    intro i x i0 i2 hn
    have ul : (0 : Int) ≤ 20 := by omega
    have u2 : 0 ≤ v 2 0 ∧ v 2 0 ≤ 8 := hI.2 2 0
    by_cases c9 : 20 ≤ i
    · have ei : i = 20 := by omega
      subst ei
      refine Wv.after (y := y) (x := x) (Int.le_refl _) (by omega) ?_
      refine Wv.iload dL_sum_144 rfl ?_
      refine Wv.bipush (v := i32 20) dL_sum_146 (by decide) ?_
      refine Wi.icmp_ge_t (tgt := 171) dL_sum_148 (by decide) ⟨by omega, by omega⟩ ⟨by omega, by omega⟩ (by omega) ?_
      refine Wv.lload_n (i := 2) dL_sum_171 rfl rfl ?_
      exact Wv.lret rfl dL_sum_172
    · have i2 : i < 20 := by omega
      have next : ∀ (c : Int64) (ls : List (Option Value)), fo (g4 v) (i + 1).toNat a = c → lsub [some (va_rf (some h)), some (.int (i32 (v 2 0))), some (.long c), none, some (.int (i32 (i + 1)))] ls → ∀ x', x' ≤ x + 1 → Wv X h m_L_sum 12 144 ls [] (v, (y, x'), (n, m), R) (.inl (some (.long (sm4 v a)))) (v, (y, x + 1 * (20 - i) + 0), (n, m), R) := fun c ls hc hl x' hx' => by
        have k := ih (i + 1) (x + 1) (by omega) (by omega) (by omega)
        rw [show x + 1 + 1 * (20 - (i + 1)) + 0 = x + 1 * (20 - i) + 0 by omega, hc] at k
        exact Wv.more (Int.le_refl _) hx' (Wv.fgt hl k)
      refine Wv.iload dL_sum_144 rfl ?_
      refine Wv.bipush (v := i32 20) dL_sum_146 (by decide) ?_
      refine Wi.icmp_ge_f (tgt := 171) dL_sum_148 (by decide) ⟨by omega, by omega⟩ ⟨by omega, by omega⟩ (by omega) ?_
      refine Wv.ldc2 dL_sum_151 (tb6 (i := 100) rfl) rfl ?_
      refine Wv.lload_n (i := 2) dL_sum_154 rfl rfl ?_
      refine Wv.lmul dL_sum_155 ?_
      refine Wv.aload_n (i := 0) dL_sum_156 rfl rfl ?_
      refine Wv.iload dL_sum_157 rfl ?_
      refine Wv.callH (As := [_, _]) (v := some _) k_L_status (tb5 (i := 172) rfl) ki_L_status dL_sum_159 rfl rfl (Nat.le_of_ble_eq_true rfl) (Nat.le_of_ble_eq_true rfl) (n_status hN hI ⟨i0, by omega⟩ (s := stt v i) rfl) ?_
      refine Wv.i2l dL_sum_162 rfl ?_
      refine Wv.ladd dL_sum_163 ?_
      refine Wv.lstore_n (i := 2) dL_sum_164 rfl (by decide) rfl ?_
      refine Wi.inc dL_sum_165 rfl (by decide) rfl ?_
      refine Wv.goto (tgt := 144) dL_sum_168 (by decide) ?_
      refine next (g4 v (fo (g4 v) i.toNat a) i) _ (fo_st i0) ?_ _ (by omega)
      exact ⟨rfl, rfl, rfl, rfl, trivial⟩
theorem l_sum3 {X : Cx} {h : Nat} {v : Vw} {y : Int} {n m : Nat} {R : List Ar} {T E : Int} (hN : KN X) (hI : IM v T E) (a : Int64) : ∀ (n9 : Nat) (i x : Int), 0 ≤ i → i ≤ v 5 0 → (v 5 0 - i).toNat < n9 →
    Wv X h m_L_sum 12 100 [some (va_rf (some h)), some (.int (i32 (v 2 0))), some (.long (fo (g3 v) i.toNat a)), none, some (.int (i32 i))] [] (v, (y, x), (n, m), R) (.inl (some (.long (sm3 v a)))) (v, (y, x + 2 * (v 5 0 - i) + 20), (n, m), R) := by
  intro n9
  induction n9 with
  | zero => exact fun _ _ _ _ hn => absurd hn (Nat.not_lt_zero _)
  | succ n9 ih =>
    intro i x i0 i2 hn
    have ul : 0 ≤ v 5 0 ∧ v 5 0 ≤ 30 := hI.2 5 0
    have u2 : 0 ≤ v 2 0 ∧ v 2 0 ≤ 8 := hI.2 2 0
    by_cases c9 : v 5 0 ≤ i
    · have ei : i = v 5 0 := by omega
      subst ei
      refine Wv.after (y := y) (x := x + 1 * (20 - 0) + 0) (Int.le_refl _) (by omega) ?_
      refine Wv.iload dL_sum_100 rfl ?_
      refine Wv.aload_n (i := 0) dL_sum_102 rfl rfl ?_
      refine Wv.callV (As := []) (v := some _) k_X10_brews (tb1 (i := 238) rfl) ki_X10_brews kv_X10_brews dL_sum_103 rfl rfl (Nat.le_of_ble_eq_true rfl) (Nat.le_of_ble_eq_true rfl) (w_brews hI) ?_
      refine Wi.icmp_ge_t (tgt := 141) dL_sum_106 (by decide) ⟨by omega, by omega⟩ ⟨by omega, by omega⟩ (by omega) ?_
      refine Wi.const dL_sum_141 ?_
      refine Wv.istore dL_sum_142 (by decide) rfl ?_
      refine Wv.fgt (ls' := [some (va_rf (some h)), some (.int (i32 (v 2 0))), some (.long (fo (g4 v) (0 : Int).toNat (fo (g3 v) (v 5 0).toNat a))), none, some (.int (i32 0))]) ⟨rfl, rfl, rfl, rfl, trivial⟩ ?_
      exact l_sum4 hN hI _ 21 0 x (Int.le_refl 0) (by omega) (by omega)
    · have i2 : i < v 5 0 := by omega
      have next : ∀ (c : Int64) (ls : List (Option Value)), fo (g3 v) (i + 1).toNat a = c → lsub [some (va_rf (some h)), some (.int (i32 (v 2 0))), some (.long c), none, some (.int (i32 (i + 1)))] ls → ∀ x', x' ≤ x + 2 → Wv X h m_L_sum 12 100 ls [] (v, (y, x'), (n, m), R) (.inl (some (.long (sm3 v a)))) (v, (y, x + 2 * (v 5 0 - i) + 20), (n, m), R) := fun c ls hc hl x' hx' => by
        have k := ih (i + 1) (x + 2) (by omega) (by omega) (by omega)
        rw [show x + 2 + 2 * (v 5 0 - (i + 1)) + 20 = x + 2 * (v 5 0 - i) + 20 by omega, hc] at k
        exact Wv.more (Int.le_refl _) hx' (Wv.fgt hl k)
      refine Wv.iload dL_sum_100 rfl ?_
      refine Wv.aload_n (i := 0) dL_sum_102 rfl rfl ?_
      refine Wv.callV (As := []) (v := some _) k_X10_brews (tb1 (i := 238) rfl) ki_X10_brews kv_X10_brews dL_sum_103 rfl rfl (Nat.le_of_ble_eq_true rfl) (Nat.le_of_ble_eq_true rfl) (w_brews hI) ?_
      refine Wi.icmp_ge_f (tgt := 141) dL_sum_106 (by decide) ⟨by omega, by omega⟩ ⟨by omega, by omega⟩ (by omega) ?_
      refine Wv.ldc2 dL_sum_109 (tb6 (i := 100) rfl) rfl ?_
      refine Wv.lload_n (i := 2) dL_sum_112 rfl rfl ?_
      refine Wv.lmul dL_sum_113 ?_
      refine Wv.aload_n (i := 0) dL_sum_114 rfl rfl ?_
      refine Wv.iload dL_sum_115 rfl ?_
      refine Wv.callH (As := [_, _]) (v := some _) k_L_stage (tb6 (i := 82) rfl) ki_L_stage dL_sum_117 rfl rfl (Nat.le_of_ble_eq_true rfl) (Nat.le_of_ble_eq_true rfl) (n_stage hN hI ⟨i0, i2⟩ (s := phc (v 28 i)) rfl) ?_
      refine Wv.i2l dL_sum_120 rfl ?_
      refine Wv.ladd dL_sum_121 ?_
      refine Wv.ldc2 dL_sum_122 (tb6 (i := 114) rfl) rfl ?_
      refine Wv.aload_n (i := 0) dL_sum_125 rfl rfl ?_
      refine Wv.iload dL_sum_126 rfl ?_
      refine Wv.callH (As := [_, _]) (v := some _) k_L_daysToGo (tb6 (i := 115) rfl) ki_L_daysToGo dL_sum_128 rfl rfl (Nat.le_of_ble_eq_true rfl) (Nat.le_of_ble_eq_true rfl) (n_daysToGo hN hI ⟨i0, i2⟩ (s := dtg v i) rfl) ?_
      refine Wv.i2l dL_sum_131 rfl ?_
      refine Wv.lmul dL_sum_132 ?_
      refine Wv.ladd dL_sum_133 ?_
      refine Wv.lstore_n (i := 2) dL_sum_134 rfl (by decide) rfl ?_
      refine Wi.inc dL_sum_135 rfl (by decide) rfl ?_
      refine Wv.goto (tgt := 100) dL_sum_138 (by decide) ?_
      refine next (g3 v (fo (g3 v) i.toNat a) i) _ (fo_st i0) ?_ _ (by omega)
      exact ⟨rfl, rfl, rfl, rfl, trivial⟩
theorem l_sum2 {X : Cx} {h : Nat} {v : Vw} {y : Int} {n m : Nat} {R : List Ar} {T E : Int} (hN : KN X) (hI : IM v T E) (a : Int64) : ∀ (n9 : Nat) (i x : Int), 0 ≤ i → i ≤ v 7 0 → (v 7 0 - i).toNat < n9 →
    Wv X h m_L_sum 12 68 [some (va_rf (some h)), some (.int (i32 (v 2 0))), some (.long (fo (g2 v) i.toNat a)), none, some (.int (i32 i))] [] (v, (y, x), (n, m), R) (.inl (some (.long (sm2 v a)))) (v, (y, x + 1 * (v 7 0 - i) + 80), (n, m), R) := by
  intro n9
  induction n9 with
  | zero => exact fun _ _ _ _ hn => absurd hn (Nat.not_lt_zero _)
  | succ n9 ih =>
    intro i x i0 i2 hn
    have ul : 0 ≤ v 7 0 ∧ v 7 0 ≤ 6 := hI.2 7 0
    have u2 : 0 ≤ v 2 0 ∧ v 2 0 ≤ 8 := hI.2 2 0
    by_cases c9 : v 7 0 ≤ i
    · have ei : i = v 7 0 := by omega
      subst ei
      have u5 : 0 ≤ v 5 0 ∧ v 5 0 ≤ 30 := hI.2 5 0
      refine Wv.after (y := y) (x := x + 2 * (v 5 0 - 0) + 20) (Int.le_refl _) (by omega) ?_
      refine Wv.iload dL_sum_68 rfl ?_
      refine Wv.aload_n (i := 0) dL_sum_70 rfl rfl ?_
      refine Wv.callV (As := []) (v := some _) k_X10_queued (tb1 (i := 221) rfl) ki_X10_queued kv_X10_queued dL_sum_71 rfl rfl (Nat.le_of_ble_eq_true rfl) (Nat.le_of_ble_eq_true rfl) (w_queued hI) ?_
      refine Wi.icmp_ge_t (tgt := 97) dL_sum_74 (by decide) ⟨by omega, by omega⟩ ⟨by omega, by omega⟩ (by omega) ?_
      refine Wi.const dL_sum_97 ?_
      refine Wv.istore dL_sum_98 (by decide) rfl ?_
      refine Wv.fgt (ls' := [some (va_rf (some h)), some (.int (i32 (v 2 0))), some (.long (fo (g3 v) (0 : Int).toNat (fo (g2 v) (v 7 0).toNat a))), none, some (.int (i32 0))]) ⟨rfl, rfl, rfl, rfl, trivial⟩ ?_
      exact l_sum3 hN hI _ ((v 5 0).toNat + 1) 0 x (Int.le_refl 0) u5.1 (by omega)
    · have i2 : i < v 7 0 := by omega
      have next : ∀ (c : Int64) (ls : List (Option Value)), fo (g2 v) (i + 1).toNat a = c → lsub [some (va_rf (some h)), some (.int (i32 (v 2 0))), some (.long c), none, some (.int (i32 (i + 1)))] ls → ∀ x', x' ≤ x + 1 → Wv X h m_L_sum 12 68 ls [] (v, (y, x'), (n, m), R) (.inl (some (.long (sm2 v a)))) (v, (y, x + 1 * (v 7 0 - i) + 80), (n, m), R) := fun c ls hc hl x' hx' => by
        have k := ih (i + 1) (x + 1) (by omega) (by omega) (by omega)
        rw [show x + 1 + 1 * (v 7 0 - (i + 1)) + 80 = x + 1 * (v 7 0 - i) + 80 by omega, hc] at k
        exact Wv.more (Int.le_refl _) hx' (Wv.fgt hl k)
      refine Wv.iload dL_sum_68 rfl ?_
      refine Wv.aload_n (i := 0) dL_sum_70 rfl rfl ?_
      refine Wv.callV (As := []) (v := some _) k_X10_queued (tb1 (i := 221) rfl) ki_X10_queued kv_X10_queued dL_sum_71 rfl rfl (Nat.le_of_ble_eq_true rfl) (Nat.le_of_ble_eq_true rfl) (w_queued hI) ?_
      refine Wi.icmp_ge_f (tgt := 97) dL_sum_74 (by decide) ⟨by omega, by omega⟩ ⟨by omega, by omega⟩ (by omega) ?_
      refine Wv.ldc2 dL_sum_77 (tb6 (i := 100) rfl) rfl ?_
      refine Wv.lload_n (i := 2) dL_sum_80 rfl rfl ?_
      refine Wv.lmul dL_sum_81 ?_
      refine Wv.aload_n (i := 0) dL_sum_82 rfl rfl ?_
      refine Wv.iload dL_sum_83 rfl ?_
      refine Wv.callH (As := [_, _]) (v := some _) k_L_queuedAt (tb3 (i := 173) rfl) ki_L_queuedAt dL_sum_85 rfl rfl (Nat.le_of_ble_eq_true rfl) (Nat.le_of_ble_eq_true rfl) (n_queuedAt hN hI ⟨i0, i2⟩ (s := v 39 i) rfl) ?_
      refine Wv.i2l dL_sum_88 rfl ?_
      refine Wv.ladd dL_sum_89 ?_
      refine Wv.lstore_n (i := 2) dL_sum_90 rfl (by decide) rfl ?_
      refine Wi.inc dL_sum_91 rfl (by decide) rfl ?_
      refine Wv.goto (tgt := 68) dL_sum_94 (by decide) ?_
      refine next (g2 v (fo (g2 v) i.toNat a) i) _ (fo_st i0) ?_ _ (by omega)
      exact ⟨rfl, rfl, rfl, rfl, trivial⟩
theorem l_sum1 {X : Cx} {h : Nat} {v : Vw} {y : Int} {n m : Nat} {R : List Ar} {T E : Int} (hN : KN X) (hI : IM v T E) (a : Int64) : ∀ (n9 : Nat) (i x : Int), 0 ≤ i → i ≤ v 2 0 → (v 2 0 - i).toNat < n9 →
    Wv X h m_L_sum 12 39 [some (va_rf (some h)), some (.int (i32 (v 2 0))), some (.long (fo (g1 v) i.toNat a)), none, some (.int (i32 i))] [] (v, (y, x), (n, m), R) (.inl (some (.long (sm1 v a)))) (v, (y, x + 1 * (v 2 0 - i) + 86), (n, m), R) := by
  intro n9
  induction n9 with
  | zero => exact fun _ _ _ _ hn => absurd hn (Nat.not_lt_zero _)
  | succ n9 ih =>
    intro i x i0 i2 hn
    have ul : 0 ≤ v 2 0 ∧ v 2 0 ≤ 8 := hI.2 2 0
    have u2 : 0 ≤ v 2 0 ∧ v 2 0 ≤ 8 := hI.2 2 0
    by_cases c9 : v 2 0 ≤ i
    · have ei : i = v 2 0 := by omega
      subst ei
      have u7 : 0 ≤ v 7 0 ∧ v 7 0 ≤ 6 := hI.2 7 0
      refine Wv.after (y := y) (x := x + 1 * (v 7 0 - 0) + 80) (Int.le_refl _) (by omega) ?_
      refine Wv.iload dL_sum_39 rfl ?_
      refine Wv.iload_n (i := 1) dL_sum_41 rfl rfl ?_
      refine Wi.icmp_ge_t (tgt := 65) dL_sum_42 (by decide) ⟨by omega, by omega⟩ ⟨by omega, by omega⟩ (by omega) ?_
      refine Wi.const dL_sum_65 ?_
      refine Wv.istore dL_sum_66 (by decide) rfl ?_
      refine Wv.fgt (ls' := [some (va_rf (some h)), some (.int (i32 (v 2 0))), some (.long (fo (g2 v) (0 : Int).toNat (fo (g1 v) (v 2 0).toNat a))), none, some (.int (i32 0))]) ⟨rfl, rfl, rfl, rfl, trivial⟩ ?_
      exact l_sum2 hN hI _ ((v 7 0).toNat + 1) 0 x (Int.le_refl 0) u7.1 (by omega)
    · have i2 : i < v 2 0 := by omega
      have next : ∀ (c : Int64) (ls : List (Option Value)), fo (g1 v) (i + 1).toNat a = c → lsub [some (va_rf (some h)), some (.int (i32 (v 2 0))), some (.long c), none, some (.int (i32 (i + 1)))] ls → ∀ x', x' ≤ x + 1 → Wv X h m_L_sum 12 39 ls [] (v, (y, x'), (n, m), R) (.inl (some (.long (sm1 v a)))) (v, (y, x + 1 * (v 2 0 - i) + 86), (n, m), R) := fun c ls hc hl x' hx' => by
        have k := ih (i + 1) (x + 1) (by omega) (by omega) (by omega)
        rw [show x + 1 + 1 * (v 2 0 - (i + 1)) + 86 = x + 1 * (v 2 0 - i) + 86 by omega, hc] at k
        exact Wv.more (Int.le_refl _) hx' (Wv.fgt hl k)
      refine Wv.iload dL_sum_39 rfl ?_
      refine Wv.iload_n (i := 1) dL_sum_41 rfl rfl ?_
      refine Wi.icmp_ge_f (tgt := 65) dL_sum_42 (by decide) ⟨by omega, by omega⟩ ⟨by omega, by omega⟩ (by omega) ?_
      refine Wv.ldc2 dL_sum_45 (tb6 (i := 100) rfl) rfl ?_
      refine Wv.lload_n (i := 2) dL_sum_48 rfl rfl ?_
      refine Wv.lmul dL_sum_49 ?_
      refine Wv.aload_n (i := 0) dL_sum_50 rfl rfl ?_
      refine Wv.iload dL_sum_51 rfl ?_
      refine Wv.callH (As := [_, _]) (v := some _) k_L_state (tb6 (i := 107) rfl) ki_L_state dL_sum_53 rfl rfl (Nat.le_of_ble_eq_true rfl) (Nat.le_of_ble_eq_true rfl) (n_state hN hI ⟨i0, i2⟩ (s := cdc (v 15 i)) rfl) ?_
      refine Wv.i2l dL_sum_56 rfl ?_
      refine Wv.ladd dL_sum_57 ?_
      refine Wv.lstore_n (i := 2) dL_sum_58 rfl (by decide) rfl ?_
      refine Wi.inc dL_sum_59 rfl (by decide) rfl ?_
      refine Wv.goto (tgt := 39) dL_sum_62 (by decide) ?_
      refine next (g1 v (fo (g1 v) i.toNat a) i) _ (fo_st i0) ?_ _ (by omega)
      exact ⟨rfl, rfl, rfl, rfl, trivial⟩
theorem a_sum {X : Cx} {h : Nat} {v : Vw} {y x : Int} {n m : Nat} {R : List Ar} {T E : Int} (hN : KN X) (hI : IM v T E) :
    Kl X h m_L_sum 12 [va_rf (some h), .int (i32 (v 2 0))] (v, (y, x), (n, m), R) (.inl (some (.long (Sm9 v)))) (v, (y, x + 94), (n, m), R) := by
  have u2 : 0 ≤ v 2 0 ∧ v 2 0 ≤ 8 := hI.2 2 0
  refine Kl.of (by decide +kernel) rfl (Nat.le_of_ble_eq_true rfl) (by simp [Value.category, va_rf]) ?_
  refine Wv.after (y := y) (x := x + 1 * (v 2 0 - 0) + 86) (Int.le_refl _) (by omega) ?_
  refine Wv.aload_n (i := 0) dL_sum_0 rfl rfl ?_
  refine Wv.callV (As := []) (v := some _) k_X10_day (tb1 (i := 234) rfl) ki_X10_day kv_X10_day dL_sum_1 rfl rfl (Nat.le_of_ble_eq_true rfl) (Nat.le_of_ble_eq_true rfl) w_day ?_
  refine Wv.i2l dL_sum_4 rfl ?_
  refine Wv.ldc2 dL_sum_5 (tb6 (i := 100) rfl) rfl ?_
  refine Wv.aload_n (i := 0) dL_sum_8 rfl rfl ?_
  refine Wv.callV (As := []) (v := some _) k_X10_brews (tb1 (i := 238) rfl) ki_X10_brews kv_X10_brews dL_sum_9 rfl rfl (Nat.le_of_ble_eq_true rfl) (Nat.le_of_ble_eq_true rfl) (w_brews hI) ?_
  refine Wv.i2l dL_sum_12 rfl ?_
  refine Wv.lmul dL_sum_13 ?_
  refine Wv.ladd dL_sum_14 ?_
  refine Wv.ldc2 dL_sum_15 (tb6 (i := 101) rfl) rfl ?_
  refine Wv.aload_n (i := 0) dL_sum_18 rfl rfl ?_
  refine Wv.callV (As := []) (v := some _) k_X10_deliveries (tb6 (i := 102) rfl) ki_X10_deliveries kv_X10_deliveries dL_sum_19 rfl rfl (Nat.le_of_ble_eq_true rfl) (Nat.le_of_ble_eq_true rfl) (w_deliveries hI) ?_
  refine Wv.i2l dL_sum_22 rfl ?_
  refine Wv.lmul dL_sum_23 ?_
  refine Wv.ladd dL_sum_24 ?_
  refine Wv.ldc2 dL_sum_25 (tb6 (i := 106) rfl) rfl ?_
  refine Wv.aload_n (i := 0) dL_sum_28 rfl rfl ?_
  refine Wv.callV (As := []) (v := some _) k_X10_queued (tb1 (i := 221) rfl) ki_X10_queued kv_X10_queued dL_sum_29 rfl rfl (Nat.le_of_ble_eq_true rfl) (Nat.le_of_ble_eq_true rfl) (w_queued hI) ?_
  refine Wv.i2l dL_sum_32 rfl ?_
  refine Wv.lmul dL_sum_33 ?_
  refine Wv.ladd dL_sum_34 ?_
  refine Wv.lstore_n (i := 2) dL_sum_35 rfl (by decide) rfl ?_
  refine Wi.const dL_sum_36 ?_
  refine Wv.istore dL_sum_37 (by decide) rfl ?_
  refine Wv.fgt (ls' := [some (va_rf (some h)), some (.int (i32 (v 2 0))), some (.long (fo (g1 v) (0 : Int).toNat (sm0 v))), none, some (.int (i32 0))]) ⟨rfl, rfl, rfl, rfl, trivial⟩ ?_
  exact l_sum1 hN hI _ ((v 2 0).toNat + 1) 0 x (Int.le_refl 0) u2.1 (by omega)
