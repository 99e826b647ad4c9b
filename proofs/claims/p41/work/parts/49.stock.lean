/-! the stocks, on both sides and by deliveries; the share of the orders filled in time -/
def F31 (v : Vw) (r b : Int) : Int := if v 28 b = 3 then (if v 26 b = r then v 31 b else 0) else 0
theorem sI_congr {f g : Int → Int} : ∀ n : Nat, (∀ i, 0 ≤ i → i < (n : Int) → f i = g i) → sI f n = sI g n := by
  intro n
  induction n with
  | zero => exact fun _ => rfl
  | succ n ih =>
    intro h
    show sI f n + f (n : Int) = sI g n + g (n : Int)
    rw [ih (fun i i0 i1 => h i i0 (by omega)), h _ (by omega) (by omega)]
theorem sI_add {f g : Int → Int} : ∀ n : Nat, sI (fun i => f i + g i) n = sI f n + sI g n := by
  intro n
  induction n with
  | zero => rfl
  | succ n ih =>
    show sI (fun i => f i + g i) n + (f (n : Int) + g (n : Int)) = sI f n + f (n : Int) + (sI g n + g (n : Int))
    rw [ih]
    omega
theorem sI_sub {f g : Int → Int} : ∀ n : Nat, sI (fun i => f i - g i) n = sI f n - sI g n := by
  intro n
  induction n with
  | zero => rfl
  | succ n ih =>
    show sI (fun i => f i - g i) n + (f (n : Int) - g (n : Int)) = sI f n + f (n : Int) - (sI g n + g (n : Int))
    rw [ih]
    omega
theorem sI_0 : ∀ n : Nat, sI (fun _ => 0) n = 0 := by
  intro n
  induction n with
  | zero => rfl
  | succ n ih =>
    show sI (fun _ => 0) n + 0 = 0
    rw [ih]
    rfl
theorem sI_at {b x : Int} : ∀ n : Nat, 0 ≤ b → sI (fun i => if i = b then x else 0) n = if b < (n : Int) then x else 0 := by
  intro n h0
  induction n with
  | zero =>
    show (0 : Int) = _
    rw [if_neg (by omega)]
  | succ n ih =>
    show sI (fun i => if i = b then x else 0) n + (if (n : Int) = b then x else 0) = _
    rw [ih]
    by_cases c : (n : Int) = b
    · rw [if_pos c, if_neg (by omega), if_pos (by omega)]
      omega
    · rw [if_neg c]
      by_cases c2 : b < (n : Int)
      · rw [if_pos c2, if_pos (by omega)]
        omega
      · rw [if_neg c2, if_neg (by omega)]
        omega
theorem sI_step {f : Int → Int} {i : Int} (h : 0 ≤ i) : sI f (i + 1).toNat = sI f i.toNat + f i := by
  rw [show (i + 1).toNat = i.toNat + 1 by omega]
  show sI f i.toNat + f ((i.toNat : Nat) : Int) = _
  rw [Int.toNat_of_nonneg h]
theorem stock_sum {v : Vw} {r : Int} : ∀ (n : Nat) (s b : Int), 0 ≤ b → b ≤ v 5 0 → (v 5 0 - b).toNat < n → l_stockOf_4 r v n s b = s + (sI (F31 v r) (v 5 0).toNat - sI (F31 v r) b.toNat) := by
  intro n
  induction n with
  | zero => exact fun _ _ _ _ h => absurd h (Nat.not_lt_zero _)
  | succ n ih =>
    intro s b b0 b1 hm
    rw [l_stockOf_4]
    by_cases c : v 5 0 ≤ b
    · rw [if_pos c, show v 5 0 = b by omega]
      omega
    · rw [if_neg c]
      have st := sI_step (f := F31 v r) b0
      have e : F31 v r b = (if v 28 b = 3 then (if v 26 b = r then v 31 b else 0) else 0) := rfl
      by_cases c1 : v 28 b = 3
      · rw [if_pos c1] at e ⊢
        by_cases c2 : v 26 b = r
        · rw [if_pos c2] at e ⊢
          rw [ih _ _ (by omega) (by omega) (by omega)]
          omega
        · rw [if_neg c2] at e ⊢
          rw [ih _ _ (by omega) (by omega) (by omega)]
          omega
      · rw [if_neg c1] at e ⊢
        rw [ih _ _ (by omega) (by omega) (by omega)]
        omega
theorem units_eq {c : Cs} {v : Vw} {T E r : Int} (hS : Sm c v) (hI : IM v T E) : ∀ (n m : Nat) (u i : Int), 0 ≤ i → (v 5 0 - i).toNat < n → (v 5 0 - i).toNat < m → l_X10_unitsReady_4 r c n u i = l_stockOf_4 r v m u i := by
  have hl := hS.l3 hI
  intro n
  induction n with
  | zero => exact fun _ _ _ _ h => absurd h (Nat.not_lt_zero _)
  | succ n ih =>
    intro m u i h0 hn hm
    cases m with
    | zero => exact absurd hm (Nat.not_lt_zero _)
    | succ m =>
      rw [l_X10_unitsReady_4, l_stockOf_4, hl]
      by_cases c1 : v 5 0 ≤ i
      · rw [if_pos c1, if_pos c1]
      · obtain ⟨q0, q1, q2, q3, q4, q5, q6⟩ := hS.cb.2 i h0 (by omega)
        rw [if_neg c1, if_neg c1, hS.e3 h0 (by omega)]
        unfold g_X0_holds
        rw [q3, q1]
        by_cases c2 : v 28 i = 3
        · rw [if_pos (phc_3.mpr c2), if_pos c2, q5 c2]
          by_cases c3 : v 26 i = r
          · rw [if_pos c3, if_pos c3, if_neg ne10]
            exact ih m _ _ (by omega) (by omega) (by omega)
          · rw [if_neg c3, if_neg c3, if_pos rfl, Int.add_zero]
            exact ih m _ _ (by omega) (by omega) (by omega)
        · rw [if_neg (fun h => c2 (phc_3.mp h)), if_neg c2, if_pos rfl, Int.add_zero]
          exact ih m _ _ (by omega) (by omega) (by omega)
theorem okl_units {c : Cs} {v : Vw} {T E r : Int} (hS : Sm c v) (hB : VB v) (hI : IM v T E) : ∀ (n : Nat) (u i : Int), 0 ≤ i → i ≤ v 5 0 → (v 5 0 - i).toNat < n → okl_X10_unitsReady_4 r c n u i := by
  have hl := hS.l3 hI
  have u5 : 0 ≤ v 5 0 ∧ v 5 0 ≤ 30 := hI.2 5 0
  intro n
  induction n with
  | zero => exact fun _ _ _ _ h => absurd h (Nat.not_lt_zero _)
  | succ n ih =>
    intro u i h0 h1 hn
    rw [okl_X10_unitsReady_4, hl]
    refine ⟨⟨by omega, by omega⟩, ?_⟩
    by_cases c1 : v 5 0 ≤ i
    · rw [if_pos c1]
      exact trivial
    · obtain ⟨q0, q1, q2, q3, q4, q5, q6⟩ := hS.cb.2 i h0 (by omega)
      have u26 := (hB.1 i h0 (by omega)).1
      have r2 := phc_r (v 28 i)
      rw [if_neg c1, hS.e3 h0 (by omega)]
      refine ⟨⟨h0, by omega⟩, ?_, ?_⟩
      · unfold ok_X0_holds
        rw [q3, q1]
        refine ⟨⟨by omega, by omega⟩, ?_⟩
        split
        · exact ⟨by omega, trivial⟩
        · exact trivial
      · split
        · exact ih _ _ (by omega) (by omega) (by omega)
        · exact ih _ _ (by omega) (by omega) (by omega)
theorem ready_eq {c : Cs} {v : Vw} {T E r : Int} (hS : Sm c v) (hB : VB v) (hI : IM v T E) : ok_X10_unitsReady r c ∧ g_X10_unitsReady r c = f_stockOf r v := by
  have u5 : 0 ≤ v 5 0 ∧ v 5 0 ≤ 30 := hI.2 5 0
  exact ⟨okl_units hS hB hI fu 0 0 (by omega) (by omega) (fuw (by omega)), units_eq hS hI fu _ 0 0 (by omega) (fuw (by omega)) (by omega)⟩
theorem IM.z {v : Vw} {T E : Int} (h : IM v T E) : IM (upv v 0 0 0) T E := h.up 0 0 0 (by show (0 : Int) ≤ 0 ∧ (0 : Int) ≤ 4; omega)
theorem fc_stock {c : Cs} {v : Vw} {T E a : Int} (hN : INV c v) (hI : IM v T E) (ha : R32 a) : ok_X10_stock a c ∧ Ans (fun _ => xIOB) (g_X10_stock a c) (f_stock a v) ∧ INV (g_X10_stock a c).2 (f_stock a v).2 := by
  have hl := hN.1.l1 hI
  unfold ok_X10_stock g_X10_stock f_stock
  by_cases h : 0 ≤ a ∧ a < v 1 0
  · have e : f_isRecipe a v = 1 := (c_isRecipe a v).elim (·.1) (fun q => absurd h q.2)
    have el := hN.1.e1 h.1 h.2
    obtain ⟨k1, k2⟩ := ready_eq (r := a) hN.1.v0 hN.2.1.v0 hI.z
    simp only [hl, el, e, isOne1, k2, if_pos h, if_neg ne10]
    exact ⟨⟨ok_rat hN.1 hI ha, k1, trivial⟩, Or.inl ⟨rfl, rfl⟩, hN.v0⟩
  · have e : f_isRecipe a v = 0 := (c_isRecipe a v).elim (fun q => absurd q.2 h) (·.1)
    simp only [hl, e, isOne0, if_neg h, if_true]
    exact ⟨⟨ok_rat hN.1 hI ha, trivial⟩, Or.inr ⟨Int.le_refl 1, rfl⟩, hN.v0⟩
def F20 (v : Vw) (r b : Int) : Int := if v 26 b = r then (if v 28 b = 3 ∨ v 28 b = 4 then 20 else 0) else 0
def F46 (v : Vw) (r e : Int) : Int := if v 26 (v 44 e) = r then v 46 e else 0
theorem sb_11 {c : Cs} {v : Vw} {T E r : Int} (hS : Sm c v) (hB : VB v) (hI : IM v T E) : ∀ (n : Nat) (u i : Int), 0 ≤ i → i ≤ v 5 0 → (v 5 0 - i).toNat < n → okl_X10_stockByDeliveries_11 r c n u i ∧ l_X10_stockByDeliveries_11 r c n u i = u + (sI (F20 v r) (v 5 0).toNat - sI (F20 v r) i.toNat) := by
  have hl := hS.l3 hI
  have u5 : 0 ≤ v 5 0 ∧ v 5 0 ≤ 30 := hI.2 5 0
  intro n
  induction n with
  | zero => exact fun _ _ _ _ h => absurd h (Nat.not_lt_zero _)
  | succ n ih =>
    intro u i h0 h1 hn
    rw [okl_X10_stockByDeliveries_11, l_X10_stockByDeliveries_11, hl]
    by_cases c1 : v 5 0 ≤ i
    · rw [if_pos c1, if_pos c1, show v 5 0 = i by omega]
      exact ⟨⟨⟨by omega, by omega⟩, trivial⟩, by omega⟩
    · obtain ⟨q0, q1, q2, q3, q4, q5, q6⟩ := hS.cb.2 i h0 (by omega)
      have u26 := (hB.1 i h0 (by omega)).1
      have u28 : 0 ≤ v 28 i ∧ v 28 i ≤ 4 := hI.2 28 i
      have r2 := phc_r (v 28 i)
      have st := sI_step (f := F20 v r) h0
      have e : F20 v r i = (if v 26 i = r then (if v 28 i = 3 ∨ v 28 i = 4 then 20 else 0) else 0) := rfl
      obtain ⟨j1, j2⟩ := ih u (i + 1) (by omega) (by omega) (by omega)
      obtain ⟨k1, k2⟩ := ih (u + 20) (i + 1) (by omega) (by omega) (by omega)
      rw [if_neg c1, if_neg c1, hS.e3 h0 (by omega), q3, q1]
      by_cases c2 : v 26 i = r
      · rw [if_pos c2] at e ⊢
        rw [if_pos c2]
        by_cases c3 : v 28 i = 3
        · rw [if_pos (Or.inl c3)] at e
          rw [if_pos (phc_3.mpr c3), if_pos (phc_3.mpr c3)]
          exact ⟨⟨⟨by omega, by omega⟩, ⟨h0, by omega⟩, by omega, ⟨by omega, by omega⟩, k1⟩, by omega⟩
        · rw [if_neg (fun h => c3 (phc_3.mp h)), if_neg (fun h => c3 (phc_3.mp h))]
          by_cases c4 : v 28 i = 4
          · rw [if_pos (Or.inr c4)] at e
            rw [if_pos ((phc_4 u28).mpr c4), if_pos ((phc_4 u28).mpr c4)]
            exact ⟨⟨⟨by omega, by omega⟩, ⟨h0, by omega⟩, by omega, ⟨by omega, by omega⟩, k1⟩, by omega⟩
          · rw [if_neg (fun h => h.elim c3 c4)] at e
            rw [if_neg (fun h => c4 ((phc_4 u28).mp h)), if_neg (fun h => c4 ((phc_4 u28).mp h))]
            exact ⟨⟨⟨by omega, by omega⟩, ⟨h0, by omega⟩, by omega, ⟨by omega, by omega⟩, j1⟩, by omega⟩
      · rw [if_neg c2] at e ⊢
        rw [if_neg c2]
        exact ⟨⟨⟨by omega, by omega⟩, ⟨h0, by omega⟩, by omega, j1⟩, by omega⟩
theorem sb_82 {c : Cs} {v : Vw} {T E r : Int} (hS : Sm c v) (hB : VB v) (hI : IM v T E) : ∀ (n : Nat) (u i : Int), 0 ≤ i → i ≤ v 9 0 → (v 9 0 - i).toNat < n → okl_X10_stockByDeliveries_82 r c n u i ∧ l_X10_stockByDeliveries_82 r c n u i = (.inl (some (0, u - (sI (F46 v r) (v 9 0).toNat - sI (F46 v r) i.toNat))), c) := by
  have hl := hS.l7 hI
  have u9 : 0 ≤ v 9 0 ∧ v 9 0 ≤ 127 := hI.2 9 0
  intro n
  induction n with
  | zero => exact fun _ _ _ _ h => absurd h (Nat.not_lt_zero _)
  | succ n ih =>
    intro u i h0 h1 hn
    rw [okl_X10_stockByDeliveries_82, l_X10_stockByDeliveries_82, hl]
    by_cases c1 : v 9 0 ≤ i
    · rw [if_pos c1, if_pos c1, show v 9 0 = i by omega]
      refine ⟨⟨⟨by omega, by omega⟩, trivial⟩, ?_⟩
      rw [Int.sub_self, Int.sub_zero]
    · obtain ⟨q0, q1, q2⟩ := hS.ce.2 i h0 (by omega)
      have u44 := (hB.2.2.2.2.1 i h0 (by omega)).1
      have p1 := (hS.cb.2 (v 44 i) u44.1 u44.2).2.1
      have u26 := (hB.1 (v 44 i) u44.1 u44.2).1
      have st := sI_step (f := F46 v r) h0
      have e : F46 v r i = (if v 26 (v 44 i) = r then v 46 i else 0) := rfl
      rw [if_neg c1, if_neg c1, hS.e7 h0 (by omega), q0, q2, p1]
      by_cases c2 : v 26 (v 44 i) = r
      · rw [if_pos c2] at e ⊢
        rw [if_pos c2]
        obtain ⟨k1, k2⟩ := ih (u - v 46 i) (i + 1) (by omega) (by omega) (by omega)
        refine ⟨⟨⟨by omega, by omega⟩, ⟨h0, by omega⟩, by omega, by omega, k1⟩, ?_⟩
        rw [k2, show u - v 46 i - (sI (F46 v r) (v 9 0).toNat - sI (F46 v r) (i + 1).toNat) = u - (sI (F46 v r) (v 9 0).toNat - sI (F46 v r) i.toNat) by omega]
      · rw [if_neg c2] at e ⊢
        rw [if_neg c2]
        obtain ⟨k1, k2⟩ := ih u (i + 1) (by omega) (by omega) (by omega)
        refine ⟨⟨⟨by omega, by omega⟩, ⟨h0, by omega⟩, by omega, by omega, k1⟩, ?_⟩
        rw [k2, show u - (sI (F46 v r) (v 9 0).toNat - sI (F46 v r) (i + 1).toNat) = u - (sI (F46 v r) (v 9 0).toNat - sI (F46 v r) i.toNat) by omega]
/-- what was delivered of a recipe, brew by brew -/
theorem sum_swap {v : Vw} {r : Int} {N : Nat} : ∀ M : Nat, (∀ e, 0 ≤ e → e < (M : Int) → 0 ≤ v 44 e ∧ v 44 e < (N : Int)) → sI (fun b => if v 26 b = r then sI (fun e => if v 44 e = b then v 46 e else 0) M else 0) N = sI (F46 v r) M := by
  intro M
  induction M with
  | zero =>
    intro _
    show sI (fun b => if v 26 b = r then 0 else 0) N = 0
    rw [sI_congr (g := fun _ => 0) N (fun i _ _ => by split <;> rfl)]
    exact sI_0 N
  | succ M ih =>
    intro h
    have h1 := h (M : Int) (by omega) (by omega)
    show _ = sI (F46 v r) M + F46 v r (M : Int)
    rw [← ih (fun e e0 e1 => h e e0 (by omega))]
    have e1 : sI (fun b => if v 26 b = r then sI (fun e => if v 44 e = b then v 46 e else 0) (M + 1) else 0) N = sI (fun b => (if v 26 b = r then sI (fun e => if v 44 e = b then v 46 e else 0) M else 0) + (if b = v 44 (M : Int) then F46 v r (M : Int) else 0)) N := by
      refine sI_congr N (fun b _ _ => ?_)
      show (if v 26 b = r then sI (fun e => if v 44 e = b then v 46 e else 0) M + (if v 44 (M : Int) = b then v 46 (M : Int) else 0) else 0) = _
      unfold F46
      by_cases c1 : v 26 b = r
      · rw [if_pos c1, if_pos c1]
        by_cases c2 : b = v 44 (M : Int)
        · rw [if_pos c2, if_pos c2.symm, if_pos (by rw [← c2]; exact c1)]
        · rw [if_neg c2, if_neg (fun q => c2 q.symm)]
      · rw [if_neg c1, if_neg c1]
        by_cases c2 : b = v 44 (M : Int)
        · rw [if_pos c2, if_neg (by rw [← c2]; exact c1)]
          rfl
        · rw [if_neg c2]
          rfl
    rw [e1, sI_add, sI_at N h1.1, if_pos h1.2]
theorem stock_by {v : Vw} {T E r : Int} (hB : VB v) (hI : IM v T E) : sI (F20 v r) (v 5 0).toNat - sI (F46 v r) (v 9 0).toNat = sI (F31 v r) (v 5 0).toNat := by
  have u5 : 0 ≤ v 5 0 ∧ v 5 0 ≤ 30 := hI.2 5 0
  have u9 : 0 ≤ v 9 0 ∧ v 9 0 ≤ 127 := hI.2 9 0
  rw [← sum_swap (v := v) (r := r) (N := (v 5 0).toNat) (v 9 0).toNat (fun e e0 e1 => by
    have := (hB.2.2.2.2.1 e e0 (by omega)).1
    exact ⟨this.1, by omega⟩), ← sI_sub]
  refine sI_congr _ (fun b b0 b1 => ?_)
  have h := hB.2.2.2.2.2 b b0 (by omega)
  show (if v 26 b = r then (if v 28 b = 3 ∨ v 28 b = 4 then 20 else 0) else 0) - (if v 26 b = r then dlu v b else 0) = (if v 28 b = 3 then (if v 26 b = r then v 31 b else 0) else 0)
  rw [h]
  repeat' split
  all_goals omega
theorem fc_stockByDeliveries {c : Cs} {v : Vw} {T E a : Int} (hN : INV c v) (hI : IM v T E) (ha : R32 a) : ok_X10_stockByDeliveries a c ∧ Ans (fun _ => xIOB) (g_X10_stockByDeliveries a c) (f_stockByDeliveries a v) ∧ INV (g_X10_stockByDeliveries a c).2 (f_stockByDeliveries a v).2 := by
  have hl := hN.1.l1 hI
  have u5 : 0 ≤ v 5 0 ∧ v 5 0 ≤ 30 := hI.2 5 0
  have u9 : 0 ≤ v 9 0 ∧ v 9 0 ≤ 127 := hI.2 9 0
  unfold ok_X10_stockByDeliveries g_X10_stockByDeliveries f_stockByDeliveries f_stock
  by_cases h : 0 ≤ a ∧ a < v 1 0
  · have e : f_isRecipe a v = 1 := (c_isRecipe a v).elim (·.1) (fun q => absurd h q.2)
    have el := hN.1.e1 h.1 h.2
    simp only [hl, el, e, isOne1, if_pos h, if_neg ne10]
    obtain ⟨j1, j2⟩ := sb_11 (r := a) hN.1 hN.2.1 hI fu 0 0 (by omega) (by omega) (fuw (by omega))
    obtain ⟨k1, k2⟩ := sb_82 (r := a) hN.1 hN.2.1 hI fu (l_X10_stockByDeliveries_11 a c fu 0 0) 0 (by omega) (by omega) (fuw (by omega))
    rw [k2]
    refine ⟨⟨ok_rat hN.1 hI ha, j1, k1⟩, Or.inl ⟨rfl, ?_⟩, hN.v0⟩
    have s1 := stock_by (r := a) hN.2.1 hI
    have s2 := stock_sum (v := upv v 0 0 0) (r := a) ((v 5 0 - 0).toNat + 1) 0 0 (by omega) u5.1 (show (v 5 0 - 0).toNat < _ by omega)
    have s3 : f_stockOf a (upv v 0 0 0) = 0 + (sI (F31 v a) (v 5 0).toNat - sI (F31 v a) (0 : Int).toNat) := s2
    show (Sum.inl (some (0, l_X10_stockByDeliveries_11 a c fu 0 0 - (sI (F46 v a) (v 9 0).toNat - sI (F46 v a) (0 : Int).toNat))) : Rr) = Sum.inl (some (0, f_stockOf a (upv v 0 0 0)))
    have z1 : sI (F46 v a) (0 : Int).toNat = 0 := rfl
    have z2 : sI (F20 v a) (0 : Int).toNat = 0 := rfl
    have z3 : sI (F31 v a) (0 : Int).toNat = 0 := rfl
    rw [j2, s3, z1, z2, z3, show 0 + (sI (F20 v a) (v 5 0).toNat - 0) - (sI (F46 v a) (v 9 0).toNat - 0) = 0 + (sI (F31 v a) (v 5 0).toNat - 0) by omega]
  · have e : f_isRecipe a v = 0 := (c_isRecipe a v).elim (fun q => absurd q.2 h) (·.1)
    simp only [hl, e, isOne0, if_neg h, if_true]
    exact ⟨⟨ok_rat hN.1 hI ha, trivial⟩, Or.inr ⟨Int.le_refl 1, rfl⟩, hN.v0⟩
theorem on_6 {c : Cs} {v : Vw} {T E : Int} (hS : Sm c v) (hB : VB v) (hI : IM v T E) : ∀ (n m : Nat) (a g i : Int), 0 ≤ i → i ≤ v 6 0 → (v 6 0 - i).toNat < n → (v 6 0 - i).toNat < m → okl_X10_onTime_6 c n a g i ∧ l_X10_onTime_6 c n a g i = l_onTime_6 v m a g i := by
  have hl := hS.l5 hI
  have u6 : 0 ≤ v 6 0 ∧ v 6 0 ≤ 20 := hI.2 6 0
  have hT := hI.1
  intro n
  induction n with
  | zero => exact fun _ _ _ _ _ _ h => absurd h (Nat.not_lt_zero _)
  | succ n ih =>
    intro m a g i h0 h1 hn hm
    cases m with
    | zero => exact absurd hm (Nat.not_lt_zero _)
    | succ m =>
      rw [okl_X10_onTime_6, l_X10_onTime_6, l_onTime_6, hl]
      by_cases c1 : v 6 0 ≤ i
      · rw [if_pos c1, if_pos c1, if_pos c1]
        exact ⟨⟨⟨by omega, by omega⟩, trivial⟩, rfl⟩
      · obtain ⟨⟨q0, q1, q2, q3, q4⟩, q5, q6⟩ := hS.co.2 i h0 (by omega)
        have u34 := (hB.2.2.2.1 i h0 (by omega)).1.2
        have u32 : 0 ≤ v 32 i ∧ v 32 i ≤ T + 99 := hI.2 32 i
        have u35 : 0 ≤ v 35 i ∧ v 35 i ≤ T := hI.2 35 i
        rw [if_neg c1, if_neg c1, if_neg c1, hS.e5 h0 (by omega), q3, q1]
        by_cases c2 : v 34 i = 102
        · rw [if_pos c2, if_pos c2, if_pos c2, q4 c2]
          by_cases c3 : v 32 i < v 35 i
          · rw [if_pos c3, if_pos c3, if_pos c3]
            obtain ⟨k1, k2⟩ := ih m (a + 1) (g + 0) (i + 1) (by omega) (by omega) (by omega) (by omega)
            exact ⟨⟨⟨by omega, by omega⟩, ⟨h0, by omega⟩, ⟨by omega, by omega⟩, ⟨by omega, by omega⟩, ⟨by omega, by omega⟩, k1⟩, k2⟩
          · rw [if_neg c3, if_neg c3, if_neg c3]
            obtain ⟨k1, k2⟩ := ih m (a + 1) (g + 1) (i + 1) (by omega) (by omega) (by omega) (by omega)
            exact ⟨⟨⟨by omega, by omega⟩, ⟨h0, by omega⟩, ⟨by omega, by omega⟩, ⟨by omega, by omega⟩, ⟨by omega, by omega⟩, k1⟩, k2⟩
        · rw [if_neg c2, if_neg c2, if_neg c2, Int.add_zero, Int.add_zero]
          obtain ⟨k1, k2⟩ := ih m a g (i + 1) (by omega) (by omega) (by omega) (by omega)
          exact ⟨⟨⟨by omega, by omega⟩, ⟨h0, by omega⟩, ⟨by omega, by omega⟩, k1⟩, k2⟩
theorem fc_onTime {c : Cs} {v : Vw} {T E : Int} (hN : INV c v) (hI : IM v T E) : ok_X10_onTime c ∧ ((((f_onTime v).2 0 0 = 0 ∧ ∃ a b, rat_ok a b ∧ (g_X10_onTime c).1 = .inl (some (1, rat a b)) ∧ (f_onTime v).1 = rat a b)) ∨ ((f_onTime v).2 0 0 = 1 ∧ (g_X10_onTime c).1 = .inr xNSE ∧ (f_onTime v).1 = 0)) ∧ INV (g_X10_onTime c).2 (f_onTime v).2 := by
  have u6 : 0 ≤ v 6 0 ∧ v 6 0 ≤ 20 := hI.2 6 0
  obtain ⟨k1, k2⟩ := on_6 hN.1 hN.2.1 hI fu ((v 6 0 - 0).toNat + 1) 0 0 0 (by omega) u6.1 (fuw (by omega)) (by omega)
  have r := r_l_onTime_6 hI ((v 6 0 - 0).toNat + 1) 0 0 0 (by omega) (by omega) (by omega) (by omega)
  unfold ok_X10_onTime g_X10_onTime f_onTime
  rw [k2]
  by_cases c1 : (l_onTime_6 v ((v 6 0 - 0).toNat + 1) 0 0 0).1 = 0
  · rw [if_pos c1, if_pos c1, if_pos c1]
    exact ⟨⟨k1, ⟨by omega, by omega⟩, trivial⟩, Or.inr ⟨rfl, rfl, rfl⟩, hN.v0⟩
  · rw [if_neg c1, if_neg c1, if_neg c1]
    have hr : rat_ok (l_onTime_6 v ((v 6 0 - 0).toNat + 1) 0 0 0).2 (l_onTime_6 v ((v 6 0 - 0).toNat + 1) 0 0 0).1 := by
      unfold rat_ok
      omega
    exact ⟨⟨k1, ⟨by omega, by omega⟩, hr, trivial⟩, Or.inl ⟨rfl, _, _, hr, rfl, rfl⟩, hN.v0⟩
