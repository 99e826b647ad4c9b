/-! forecasts: the class's last day, and the reference's -/
theorem ff_cls {c : Cs} {K : Nat} (l9 : c.2.2.1 9 = rng (K : Int)) (hK : K ≤ 8) (hb : ∀ j, 0 ≤ j → j < (K : Int) → R32 (c.2.1 10 1 j)) : ∀ (n i : Nat), i ≤ K → K - i < n → okl_X5_firstFree_4 c n (pk (c.2.1 10 1) i) (i : Int) ∧ l_X5_firstFree_4 c n (pk (c.2.1 10 1) i) (i : Int) = pk (c.2.1 10 1) K := by
  have hl : ((c.2.2.1 9).length : Int) = (K : Int) := by rw [l9]; exact rng_len (by omega)
  intro n
  induction n with
  | zero => exact fun _ _ h => absurd h (Nat.not_lt_zero _)
  | succ n ih =>
    intro i h1 hm
    rw [okl_X5_firstFree_4, l_X5_firstFree_4, hl]
    by_cases c1 : (K : Int) ≤ (i : Int)
    · rw [if_pos c1, if_pos c1]
      have : i = K := by omega
      subst this
      exact ⟨⟨⟨by omega, by omega⟩, trivial⟩, rfl⟩
    · rw [if_neg c1, if_neg c1, l9, lget_rng (show (0 : Int) ≤ (i : Int) by omega) (by omega)]
      have hr := pk_r (c.2.1 10 1) i
      have g := ih (i + 1) (by omega) (by omega)
      rw [show ((i + 1 : Nat) : Int) = (i : Int) + 1 by omega, pk] at g
      by_cases c2 : pk (c.2.1 10 1) i = -1
      · rw [if_pos c2] at g
        rw [if_pos c2, if_pos c2]
        exact ⟨⟨⟨by omega, by omega⟩, ⟨by omega, by omega⟩, g.1⟩, g.2⟩
      · rw [if_neg c2] at g
        rw [if_neg c2, if_neg c2]
        have b1 := hb _ (show 0 ≤ pk (c.2.1 10 1) i by omega) (by omega)
        have b2 := hb (i : Int) (by omega) (by omega)
        by_cases c3 : c.2.1 10 1 (pk (c.2.1 10 1) i) ≤ c.2.1 10 1 (i : Int)
        · rw [if_pos c3] at g
          rw [if_pos c3, if_pos c3]
          exact ⟨⟨⟨by omega, by omega⟩, ⟨by omega, by omega⟩, b2, b1, g.1⟩, g.2⟩
        · rw [if_neg c3] at g
          rw [if_neg c3, if_neg c3]
          exact ⟨⟨⟨by omega, by omega⟩, ⟨by omega, by omega⟩, b2, b1, g.1⟩, g.2⟩
theorem first_ok {c : Cs} {v : Vw} {T E : Int} {M : Int} (hN : INV c v) (hI : IM v T E) (hS : Sb (c.1 10).toNat M (cfs c)) (hM : M ≤ 2000000) : ok_X5_firstFree c ∧ g_X5_firstFree c = pk (c.2.1 10 1) (c.1 10).toNat := by
  have n10 : 0 ≤ c.1 10 := hN.1.c0.2.1.2.2
  have b10 := slots_le hN hI
  have l9 : c.2.2.1 9 = rng (((c.1 10).toNat : Nat) : Int) := by rw [Int.toNat_of_nonneg n10]; exact hN.1.cs.1
  exact ff_cls l9 (by omega) (fun j j0 j1 => by
    have := (hS j j0 j1).1
    have e : (cfs c).1 j = c.2.1 10 1 j := rfl
    exact ⟨by omega, by omega⟩) fu 0 (by omega) (fuw (by omega))
theorem put12 (c : Cs) (q x y j : Int) : (cput (cput c 10 2 q x) 10 1 q y).2.1 10 1 j = stf (c.2.1 10 1) q y j ∧ (cput (cput c 10 2 q x) 10 1 q y).2.1 10 2 j = stf (c.2.1 10 2) q x j := by simp [cput, stf]
theorem plan_ok {c : Cs} {v : Vw} {T E r : Int} (hN : INV c v) (hI : IM v T E) {M : Int} (hS : Sb (c.1 10).toNat M (cfs c)) (hK : 1 ≤ (c.1 10).toNat) (h0 : 0 ≤ r) (h1 : r < v 1 0) : ok_X7_plan (pk (c.2.1 10 1) (c.1 10).toNat) r c ∧ (g_X7_plan (pk (c.2.1 10 1) (c.1 10).toNat) r c).1 = fe (c.1 10).toNat (v 13) (v 12) (cfs c) r ∧ FP c (g_X7_plan (pk (c.2.1 10 1) (c.1 10).toNat) r c).2 ∧ cfs (g_X7_plan (pk (c.2.1 10 1) (c.1 10).toNat) r c).2 = fnx (c.1 10).toNat (v 13) (v 12) (cfs c) r := by
  obtain ⟨q0, q1, q2, q3, q4⟩ := hN.1.cr.2 r h0 h1
  have u12 : 0 ≤ v 12 r ∧ v 12 r ≤ 3 := hI.2 12 r
  have hp := pk_pos (f := c.2.1 10 1) hK
  have hs : R32 (c.2.1 10 2 (pk (c.2.1 10 1) (c.1 10).toNat)) := (hS _ hp.1 hp.2).2
  have e1 : (g_X7_plan (pk (c.2.1 10 1) (c.1 10).toNat) r c).1 = fe (c.1 10).toNat (v 13) (v 12) (cfs c) r := by
    show c.2.1 10 1 (pk (c.2.1 10 1) (c.1 10).toNat) + g_X6_fermentDaysAfter r (c.2.1 10 2 (pk (c.2.1 10 1) (c.1 10).toNat)) c = c.2.1 10 1 (pk (c.2.1 10 1) (c.1 10).toNat) + (if c.2.1 10 2 (pk (c.2.1 10 1) (c.1 10).toNat) = -1 ∨ c.2.1 10 2 (pk (c.2.1 10 1) (c.1 10).toNat) = v 12 r then v 13 r else v 13 r + 1)
    unfold g_X6_fermentDaysAfter
    rw [q1, q3]
    by_cases c1 : c.2.1 10 2 (pk (c.2.1 10 1) (c.1 10).toNat) = -1
    · rw [if_pos c1, if_pos (Or.inl c1)]
    · by_cases c2 : c.2.1 10 2 (pk (c.2.1 10 1) (c.1 10).toNat) = v 12 r
      · rw [if_neg c1, if_pos c2, if_pos (Or.inr c2)]
      · rw [if_neg c1, if_neg c2, if_neg (fun g => g.elim c1 c2)]
  have e2 : (g_X7_plan (pk (c.2.1 10 1) (c.1 10).toNat) r c).2 = cput (cput c 10 2 (pk (c.2.1 10 1) (c.1 10).toNat) (v 12 r)) 10 1 (pk (c.2.1 10 1) (c.1 10).toNat) (fe (c.1 10).toNat (v 13) (v 12) (cfs c) r + 2) := by
    rw [← e1, ← q1]
    rfl
  refine ⟨?_, e1, ?_, ?_⟩
  · unfold ok_X7_plan ok_X6_fermentDaysAfter
    rw [q1]
    refine ⟨⟨hs, ?_⟩, trivial⟩
    split
    · exact trivial
    · exact ⟨⟨by omega, by omega⟩, trivial⟩
  · rw [e2]
    exact (FP.put (Or.inr rfl)).trans (FP.put (Or.inl rfl))
  · rw [e2]
    exact Prod.ext (funext fun j => (put12 _ _ (v 12 r) (fe (c.1 10).toNat (v 13) (v 12) (cfs c) r + 2) j).1) (funext fun j => (put12 _ _ (v 12 r) (fe (c.1 10).toNat (v 13) (v 12) (cfs c) r + 2) j).2)
theorem IM.db {v : Vw} {T E : Int} (hI : IM v T E) : Db v := fun r => by
  have a : 0 ≤ v 13 r ∧ v 13 r ≤ 14 := hI.2 13 r
  have b : 0 ≤ v 12 r ∧ v 12 r ≤ 3 := hI.2 12 r
  exact ⟨a, by omega, by omega⟩
theorem fo_lock {l : Int} {v : Vw} {T E : Int} (hI : IM v T E) (ht : tel l = 9) : ∀ (n : Nat) (u i : Int) (c : Cs) (M : Int), INV c v → 1 ≤ (c.1 10).toNat → (∀ x ∈ c.2.2.1 l, 0 ≤ x ∧ x < v 1 0) → (c.2.2.1 l).length ≤ 6 → Sb (c.1 10).toNat M (cfs c) → 0 ≤ i → i ≤ ((c.2.2.1 l).length : Int) → (0 ≤ u ∧ u ≤ 2000000) → M + 17 * (((c.2.2.1 l).length : Int) - i) ≤ 1000000 → (((c.2.2.1 l).length : Int) - i).toNat < n →
    okl_X5_forecastOf_10 l n u i c ∧ (l_X5_forecastOf_10 l n u i c).1 = fcu (c.1 10).toNat (v 13) (v 12) ((c.2.2.1 l).drop i.toNat) (cfs c) u ∧ FP c (l_X5_forecastOf_10 l n u i c).2 := by
  intro n
  induction n with
  | zero => exact fun _ _ _ _ _ _ _ _ _ _ _ _ _ h => absurd h (Nat.not_lt_zero _)
  | succ n ih =>
    intro u i c M hN hK hx h6 hS h0 h1 hu hM hm
    rw [okl_X5_forecastOf_10, l_X5_forecastOf_10]
    by_cases c1 : ((c.2.2.1 l).length : Int) ≤ i
    · rw [if_pos c1, if_pos c1, List.drop_of_length_le (by omega)]
      exact ⟨⟨⟨by omega, by omega⟩, trivial⟩, rfl, FP.refl c⟩
    · rw [if_neg c1, if_neg c1, drop_lget h0 (by omega)]
      obtain ⟨f1, f2⟩ := first_ok hN hI hS (by omega)
      have hp := pk_pos (f := c.2.1 10 1) hK
      have hm2 := hx _ (lget_mem h0 (show i < ((c.2.2.1 l).length : Int) by omega))
      obtain ⟨p1, p2, p3, p4⟩ := plan_ok hN hI hS hK hm2.1 hm2.2
      have hfe := hS.fe1 (r := lget (c.2.2.1 l) i) hK hI.db
      rw [f2, if_neg (show ¬ pk (c.2.1 10 1) (c.1 10).toNat = -1 by omega), if_neg (show ¬ pk (c.2.1 10 1) (c.1 10).toNat = -1 by omega), p2]
      have e10 := congrFun p3.1 10
      have el : (g_X7_plan (pk (c.2.1 10 1) (c.1 10).toNat) (lget (c.2.2.1 l) i) c).2.2.2.1 l = c.2.2.1 l := by rw [p3.2.2.2]
      have hmx : 0 ≤ mx u (fe (c.1 10).toNat (v 13) (v 12) (cfs c) (lget (c.2.2.1 l) i)) ∧ mx u (fe (c.1 10).toNat (v 13) (v 12) (cfs c) (lget (c.2.2.1 l) i)) ≤ 2000000 := by
        unfold mx
        split <;> omega
      have g := ih (mx u (fe (c.1 10).toNat (v 13) (v 12) (cfs c) (lget (c.2.2.1 l) i))) (i + 1) (g_X7_plan (pk (c.2.1 10 1) (c.1 10).toNat) (lget (c.2.2.1 l) i) c).2 (M + 17) (hN.fx p3.fx) (by rw [e10]; exact hK) (by rw [el]; exact hx) (by rw [el]; exact h6) (by rw [e10, p4]; exact hS.nx1 hK hI.db) (by omega) (by rw [el]; omega) hmx (by rw [el]; omega) (by rw [el]; omega)
      rw [e10, el, p4] at g
      obtain ⟨g1, g2, g3⟩ := g
      exact ⟨⟨⟨by omega, by omega⟩, f1, ht, ⟨h0, by omega⟩, p1, ⟨by omega, by omega⟩, ⟨by omega, by omega⟩, g1⟩, g2, p3.trans g3⟩
theorem s0_b {v : Vw} {T E : Int} {K : Nat} {W : Int → Int} (hI : IM v T E) : Sb K 30000 (s0 v W) := by
  intro j h0 h1
  have hT := hI.1
  have u8 : 0 ≤ v 8 0 ∧ v 8 0 ≤ T := hI.2 8 0
  have u17 : 0 ≤ v 17 (W j) ∧ v 17 (W j) ≤ 2 := hI.2 17 (W j)
  have u30 : 0 ≤ v 30 (v 16 (W j)) ∧ v 30 (v 16 (W j)) ≤ 15 := hI.2 30 (v 16 (W j))
  have u19 : -1 ≤ v 19 (W j) ∧ v 19 (W j) ≤ 3 := hI.2 19 (W j)
  have : 0 ≤ df v (W j) ∧ df v (W j) ≤ 17 := by
    unfold df
    repeat' split
    all_goals omega
  refine ⟨?_, show R32 (v 19 (W j)) from ⟨by omega, by omega⟩⟩
  show 0 ≤ v 8 0 + df v (W j) ∧ v 8 0 + df v (W j) ≤ 30000
  omega
theorem reset_ok {c : Cs} {v : Vw} {T E : Int} (hN : INV c v) (hI : IM v T E) : ok_X5_resetSlots (v 8 0) c ∧ FP c (g_X5_resetSlots (v 8 0) c) ∧ Eqs (c.1 10).toNat (cfs (g_X5_resetSlots (v 8 0) c)) (s0 v (c.2.1 10 0)) := by
  have n10 : 0 ≤ c.1 10 := hN.1.c0.2.1.2.2
  have b10 := slots_le hN hI
  obtain ⟨r1, r2, r3⟩ := reset_lock hI fu 0 c hN (Int.le_refl 0) n10 (fuw (by omega))
  exact ⟨r1, r2, fun j j0 j1 => (r3 j j0).2 j0 (by omega)⟩
theorem Eqs.sb {K : Nat} {M : Int} {s t : Fs} (h : Eqs K s t) (k : Sb K M t) : Sb K M s := fun j h0 h1 => by
  rw [(h j h0 h1).1, (h j h0 h1).2]
  exact k j h0 h1
theorem fo_ok {l : Int} {c : Cs} {v : Vw} {T E : Int} (hN : INV c v) (hI : IM v T E) (ht : tel l = 9) (hK : 1 ≤ (c.1 10).toNat) (hx : ∀ x ∈ c.2.2.1 l, 0 ≤ x ∧ x < v 1 0) (h6 : (c.2.2.1 l).length ≤ 6) : ok_X5_forecastOf l (v 8 0) c ∧ (g_X5_forecastOf l (v 8 0) c).1 = fcu (c.1 10).toNat (v 13) (v 12) (c.2.2.1 l) (s0 v (c.2.1 10 0)) (v 8 0) ∧ FP c (g_X5_forecastOf l (v 8 0) c).2 := by
  have hT := hI.1
  have u8 : 0 ≤ v 8 0 ∧ v 8 0 ≤ T := hI.2 8 0
  obtain ⟨r1, r2, r3⟩ := reset_ok hN hI
  have el : (g_X5_resetSlots (v 8 0) c).2.2.1 l = c.2.2.1 l := by rw [r2.2.2.2]
  have e10 := congrFun r2.1 10
  obtain ⟨g1, g2, g3⟩ := fo_lock hI ht fu (v 8 0) 0 (g_X5_resetSlots (v 8 0) c) 30000 (hN.fx r2.fx) (by rw [e10]; exact hK) (by rw [el]; exact hx) (by rw [el]; exact h6) (by rw [e10]; exact r3.sb (s0_b hI)) (Int.le_refl 0) (by omega) (by omega) (by rw [el]; omega) (fuw (by rw [el]; omega))
  rw [el, e10, r3.fcu1 hK] at g2
  exact ⟨⟨r1, g1⟩, g2, r2.trans g3⟩
/-! the reference -/
def dl42 (v : Vw) (a b : Int) : Prop := v 42 a < v 42 b ∨ (v 42 a = v 42 b ∧ a < b)
theorem dl42_tr {v : Vw} {a b d : Int} (h1 : dl42 v a b) (h2 : dl42 v b d) : dl42 v a d := by
  unfold dl42 at *
  omega
theorem c39 {v : Vw} : ∀ (n : Nat) (next x : Int), 0 ≤ x → (v 2 0 - x).toNat < n → (next = -1 ∨ (0 ≤ next ∧ next < x ∧ next < v 2 0 ∧ v 20 next = 0)) →
    (l_forecastOf_39 v n next x = -1 ∧ next = -1 ∧ ∀ y, x ≤ y → y < v 2 0 → v 20 y ≠ 0) ∨ ((0 ≤ l_forecastOf_39 v n next x ∧ l_forecastOf_39 v n next x < v 2 0 ∧ v 20 (l_forecastOf_39 v n next x) = 0) ∧ (next ≠ -1 → l_forecastOf_39 v n next x = next ∨ dl42 v (l_forecastOf_39 v n next x) next) ∧ ∀ y, x ≤ y → y < v 2 0 → v 20 y = 0 → l_forecastOf_39 v n next x = y ∨ dl42 v (l_forecastOf_39 v n next x) y) := by
  intro n
  induction n with
  | zero => exact fun _ _ _ h => absurd h (Nat.not_lt_zero _)
  | succ n ih =>
    intro next x h0 hm hf
    rw [l_forecastOf_39]
    by_cases c1 : v 2 0 ≤ x
    · rw [if_pos c1]
      rcases hf with hf | ⟨f0, f1, f2, f3⟩
      · exact Or.inl ⟨hf, hf, fun y y0 y1 => by omega⟩
      · exact Or.inr ⟨⟨f0, f2, f3⟩, fun _ => Or.inl rfl, fun y y0 y1 => by omega⟩
    · rw [if_neg c1]
      by_cases c2 : v 20 x = 0
      · rw [if_pos c2]
        have key : ∀ f', (f' = x ∨ (f' = next ∧ next ≠ -1 ∧ dl42 v next x)) → (f' = x → next ≠ -1 → dl42 v x next) → (l_forecastOf_39 v n f' (x + 1) = -1 ∧ next = -1 ∧ ∀ y, x ≤ y → y < v 2 0 → v 20 y ≠ 0) ∨ ((0 ≤ l_forecastOf_39 v n f' (x + 1) ∧ l_forecastOf_39 v n f' (x + 1) < v 2 0 ∧ v 20 (l_forecastOf_39 v n f' (x + 1)) = 0) ∧ (next ≠ -1 → l_forecastOf_39 v n f' (x + 1) = next ∨ dl42 v (l_forecastOf_39 v n f' (x + 1)) next) ∧ ∀ y, x ≤ y → y < v 2 0 → v 20 y = 0 → l_forecastOf_39 v n f' (x + 1) = y ∨ dl42 v (l_forecastOf_39 v n f' (x + 1)) y) := fun f' h1 h2 => by
          have hf' : 0 ≤ f' ∧ f' < x + 1 ∧ f' < v 2 0 ∧ v 20 f' = 0 := by
            rcases h1 with rfl | ⟨rfl, h3, _⟩
            · exact ⟨h0, by omega, by omega, c2⟩
            · obtain ⟨f0, f1, f2, f3⟩ := hf.resolve_left h3
              exact ⟨f0, by omega, f2, f3⟩
          rcases ih f' (x + 1) (by omega) (by omega) (Or.inr hf') with ⟨_, g2, _⟩ | ⟨g1, g2, g3⟩
          · omega
          · have g2' := g2 (by omega)
            have tr : ∀ y, (f' = y ∨ dl42 v f' y) → l_forecastOf_39 v n f' (x + 1) = y ∨ dl42 v (l_forecastOf_39 v n f' (x + 1)) y := fun y hy => by
              rcases g2' with e | e
              · rw [e]
                exact hy
              · rcases hy with hy | hy
                · exact Or.inr (hy ▸ e)
                · exact Or.inr (dl42_tr e hy)
            refine Or.inr ⟨g1, fun hn => tr next ?_, fun y y0 y1 hy => ?_⟩
            · rcases h1 with e | ⟨e, _, _⟩
              · have := h2 e hn
                rw [← e] at this
                exact Or.inr this
              · exact Or.inl e
            · by_cases e : y = x
              · subst e
                refine tr y ?_
                rcases h1 with e | ⟨e, _, h4⟩
                · exact Or.inl e
                · rw [e]
                  exact Or.inr h4
              · exact g3 y (by omega) y1 hy
        by_cases c3 : next = -1
        · rw [if_pos c3]
          exact key x (Or.inl rfl) (fun _ hn => absurd c3 hn)
        · rw [if_neg c3]
          obtain ⟨f0, f1, f2, f3⟩ := hf.resolve_left c3
          by_cases c4 : v 42 next ≤ v 42 x
          · rw [if_pos c4]
            exact key next (Or.inr ⟨rfl, c3, by unfold dl42; omega⟩) (fun e _ => by omega)
          · rw [if_neg c4]
            exact key x (Or.inl rfl) (fun _ _ => by unfold dl42; omega)
      · rw [if_neg c2]
        rcases ih next (x + 1) (by omega) (by omega) (hf.imp id (fun h => ⟨h.1, by omega, h.2.2⟩)) with ⟨g1, g2, g3⟩ | ⟨g1, g2, g3⟩
        · refine Or.inl ⟨g1, g2, fun y y0 y1 => ?_⟩
          by_cases e : y = x
          · rw [e]
            exact c2
          · exact g3 y (by omega) y1
        · refine Or.inr ⟨g1, g2, fun y y0 y1 hy => ?_⟩
          by_cases e : y = x
          · rw [e] at hy
            exact absurd hy c2
          · exact g3 y (by omega) y1 hy
def RS (v : Vw) (s : Fs) (W : Int → Int) (K : Nat) : Prop := ∀ j, 0 ≤ j → j < (K : Int) → v 42 (W j) = s.1 j ∧ v 43 (W j) = s.2 j
theorem ff_ref {v : Vw} {s : Fs} {W : Int → Int} {K : Nat} (hW : WM v K W) (hR : RS v s W K) (hK : 1 ≤ K) : l_forecastOf_39 v (((v 2 0) - 0).toNat + 1) (-1) 0 = W (pk s.1 K) := by
  have hp := pk_pos (f := s.1) hK
  obtain ⟨⟨w0, w1⟩, w2⟩ := hW.1 _ hp.1 hp.2
  rcases c39 (v := v) (((v 2 0) - 0).toNat + 1) (-1) 0 (Int.le_refl 0) (by omega) (Or.inl rfl) with ⟨_, _, g⟩ | ⟨g1, _, g3⟩
  · exact absurd w2 (g _ w0 w1)
  · rcases g3 _ w0 w1 w2 with e | e
    · exact e
    · obtain ⟨j, j0, j1, j2⟩ := hW.2.2 _ g1.1 g1.2.1 g1.2.2
      rw [← j2] at e
      unfold dl42 at e
      rw [(hR j j0 j1).1, (hR _ hp.1 hp.2).1] at e
      have f := pk_first s.1 K j j0 j1
      rcases e with e | ⟨e1, e2⟩
      · omega
      · by_cases c : j < pk s.1 K
        · have := f.2 c
          omega
        · by_cases c2 : j = pk s.1 K
          · rw [← j2, c2]
          · have := hW.2.1 (pk s.1 K) j hp.1 (by omega) j1
            omega
def fre (v : Vw) (w r : Int) : Int := v 42 w + v 13 r + (if v 43 w = -1 ∨ v 43 w = v 12 r then 0 else 1)
theorem l25_step (kr n : Nat) (last k : Int) (v : Vw) (h : ¬ v 7 0 ≤ k) : l_forecastOf_25 kr (n + 1) last k v = l_forecastOf_25 kr n (mx last (fre v (l_forecastOf_39 v (((v 2 0) - 0).toNat + 1) (-1) 0) (v kr k))) (k + 1) (upv (upv v 42 (l_forecastOf_39 v (((v 2 0) - 0).toNat + 1) (-1) 0) (fre v (l_forecastOf_39 v (((v 2 0) - 0).toNat + 1) (-1) 0) (v kr k) + 2)) 43 (l_forecastOf_39 v (((v 2 0) - 0).toNat + 1) (-1) 0) (v 12 (v kr k))) := by
  rw [l_forecastOf_25, if_neg h]
  generalize l_forecastOf_39 v (((v 2 0) - 0).toNat + 1) (-1) 0 = w
  generalize v kr k = r
  unfold fre mx
  by_cases c1 : v 43 w = -1
  · rw [if_pos c1, if_pos (Or.inl c1)]
    by_cases c2 : v 42 w + v 13 r + 0 ≤ last
    · rw [if_pos c2, if_neg (by omega)]
    · rw [if_neg c2, if_pos (by omega)]
  · rw [if_neg c1]
    by_cases c3 : v 43 w = v 12 r
    · rw [if_pos c3, if_pos (Or.inr c3)]
      by_cases c2 : v 42 w + v 13 r + 0 ≤ last
      · rw [if_pos c2, if_neg (by omega)]
      · rw [if_neg c2, if_pos (by omega)]
    · rw [if_neg c3, if_neg (fun g : v 43 w = -1 ∨ v 43 w = v 12 r => g.elim c1 c3)]
      by_cases c2 : v 42 w + v 13 r + 1 ≤ last
      · rw [if_pos c2, if_neg (by omega)]
      · rw [if_neg c2, if_pos (by omega)]
theorem fr_lock {kr : Nat} {W : Int → Int} {K : Nat} (hk : kr ≠ 42 ∧ kr ≠ 43) (hK : 1 ≤ K) : ∀ (n : Nat) (last k : Int) (v : Vw) (s : Fs), WM v K W → RS v s W K → 0 ≤ k → k ≤ v 7 0 → (v 7 0 - k).toNat < n →
    (l_forecastOf_25 kr n last k v).1 = fcu K (v 13) (v 12) (((rng (v 7 0)).map (v kr)).drop k.toNat) s last := by
  intro n
  induction n with
  | zero => exact fun _ _ _ _ _ _ _ _ h => absurd h (Nat.not_lt_zero _)
  | succ n ih =>
    intro last k v s hW hR h0 h1 hm
    have hl := map_len (f := v kr) (show 0 ≤ v 7 0 by omega)
    by_cases c1 : v 7 0 ≤ k
    · rw [l_forecastOf_25, if_pos c1, List.drop_of_length_le (by omega)]
      rfl
    · rw [l25_step kr n last k v c1, ff_ref hW hR hK, drop_lget h0 (by omega), lget_map h0 (by omega)]
      have hp := pk_pos (f := s.1) hK
      have e : fre v (W (pk s.1 K)) (v kr k) = fe K (v 13) (v 12) s (v kr k) := by
        unfold fre fe
        rw [(hR _ hp.1 hp.2).1, (hR _ hp.1 hp.2).2]
        split <;> omega
      rw [e]
      have hn : ∀ j, 0 ≤ j → j < (K : Int) → j ≠ pk s.1 K → W j ≠ W (pk s.1 K) := fun j j0 j1 hj he => by
        rcases Int.lt_or_gt_of_ne hj with q | q
        · have := hW.2.1 j (pk s.1 K) j0 q hp.2
          omega
        · have := hW.2.1 (pk s.1 K) j hp.1 q j1
          omega
      have g := ih (mx last (fe K (v 13) (v 12) s (v kr k))) (k + 1) (upv (upv v 42 (W (pk s.1 K)) (fe K (v 13) (v 12) s (v kr k) + 2)) 43 (W (pk s.1 K)) (v 12 (v kr k))) (fnx K (v 13) (v 12) s (v kr k)) hW (fun j j0 j1 => by
        unfold fnx stf
        by_cases ej : j = pk s.1 K
        · show _ = (if j = pk s.1 K then _ else s.1 j) ∧ _ = (if j = pk s.1 K then _ else s.2 j)
          rw [if_pos ej, if_pos ej, ej]
          exact ⟨(upv_nk (by decide)).trans (upv_eq _ _ _ _), upv_eq _ _ _ _⟩
        · show _ = (if j = pk s.1 K then _ else s.1 j) ∧ _ = (if j = pk s.1 K then _ else s.2 j)
          rw [if_neg ej, if_neg ej]
          have hne := hn j j0 j1 ej
          obtain ⟨a, b⟩ := hR j j0 j1
          exact ⟨((upv_nk (by decide)).trans (upv_ni hne)).trans a, ((upv_ni hne).trans (upv_nk (by decide))).trans b⟩) (by omega) (show k + 1 ≤ v 7 0 by omega) (show (v 7 0 - (k + 1)).toNat < n by omega)
      have ekr : ∀ i, upv (upv v 42 (W (pk s.1 K)) (fe K (v 13) (v 12) s (v kr k) + 2)) 43 (W (pk s.1 K)) (v 12 (v kr k)) kr i = v kr i := fun i => (upv_nk hk.2).trans (upv_nk hk.1)
      rw [map_rng_congr (g := v kr) (fun i _ _ => ekr i)] at g
      exact g
theorem frees_42 (w : Int) (v : Vw) : f_frees w v = upv (upv v 42 w (v 8 0 + df v w)) 43 w (v 19 w) := by
  unfold f_frees df
  by_cases c1 : v 15 w = 1
  · rw [if_pos c1, if_neg (show ¬ v 15 w = 0 by omega), if_neg (show ¬ v 15 w = 3 by omega), if_neg (show ¬ v 15 w = 0 by omega), if_neg (show ¬ v 15 w = 3 by omega), if_neg (show ¬ v 15 w = 0 by omega), if_neg (show ¬ v 15 w = 3 by omega)]
    by_cases c2 : v 28 (v 16 w) = 0
    · rw [if_pos c2, if_pos ⟨c1, c2⟩, Int.add_assoc]
    · rw [if_neg c2, if_neg (fun g : v 15 w = 1 ∧ v 28 (v 16 w) = 0 => c2 g.2)]
  · rw [if_neg c1, if_neg (fun g : v 15 w = 1 ∧ v 28 (v 16 w) = 0 => c1 g.1)]
    by_cases c0 : v 15 w = 0
    · rw [if_pos c0, if_pos c0, Int.add_zero]
    · rw [if_neg c0, if_neg c0]
      by_cases c3 : v 15 w = 3
      · rw [if_pos c3, if_pos c3]
      · rw [if_neg c3, if_neg c3]
theorem df_42 {v : Vw} {w x y z : Int} : df (upv (upv v 42 w x) 43 w y) z = df v z := rfl
theorem l4_42 : ∀ (n : Nat) (w : Int) (v : Vw), 0 ≤ w → (v 2 0 - w).toNat < n → ∀ p, (w ≤ p ∧ p < v 2 0 → l_forecastOf_4 n w v 42 p = v 8 0 + df v p ∧ l_forecastOf_4 n w v 43 p = v 19 p) ∧ (¬ (w ≤ p ∧ p < v 2 0) → l_forecastOf_4 n w v 42 p = v 42 p ∧ l_forecastOf_4 n w v 43 p = v 43 p) := by
  intro n
  induction n with
  | zero => exact fun _ _ _ h => absurd h (Nat.not_lt_zero _)
  | succ n ih =>
    intro w v h0 hm p
    rw [l_forecastOf_4]
    by_cases c1 : v 2 0 ≤ w
    · rw [if_pos c1]
      exact ⟨fun q => by omega, fun _ => ⟨rfl, rfl⟩⟩
    · rw [if_neg c1, frees_42]
      obtain ⟨g1, g2⟩ := ih (w + 1) (upv (upv v 42 w (v 8 0 + df v w)) 43 w (v 19 w)) (by omega) (show (v 2 0 - (w + 1)).toNat < n by omega) p
      rw [df_42] at g1
      have e2 : upv (upv v 42 w (v 8 0 + df v w)) 43 w (v 19 w) 2 0 = v 2 0 := rfl
      rw [e2] at g1 g2
      by_cases e : p = w
      · subst e
        refine ⟨fun _ => ?_, fun q => absurd ⟨Int.le_refl p, by omega⟩ q⟩
        obtain ⟨a, b⟩ := g2 (by omega)
        exact ⟨a.trans ((upv_nk (by decide)).trans (upv_eq _ _ _ _)), b.trans (upv_eq _ _ _ _)⟩
      · refine ⟨fun q => g1 (by omega), fun q => ?_⟩
        obtain ⟨a, b⟩ := g2 (by omega)
        exact ⟨a.trans ((upv_nk (by decide)).trans (upv_ni e)), b.trans ((upv_ni e).trans (upv_nk (by decide)))⟩
theorem fo_ref {v : Vw} {kr : Nat} {W : Int → Int} {K : Nat} (hW : WM v K W) (hk : kr ≠ 42 ∧ kr ≠ 43) (hK : 1 ≤ K) (h7 : 0 ≤ v 7 0) (h2 : 0 ≤ v 2 0) : (f_forecastOf kr v).1 = fcu K (v 13) (v 12) ((rng (v 7 0)).map (v kr)) (s0 v W) 0 := by
  unfold f_forecastOf
  have g4 := l4_42 (((v 2 0) - 0).toNat + 1) 0 v (Int.le_refl 0) (by omega)
  have F : ∀ k, k ≠ 42 ∧ k ≠ 43 → l_forecastOf_4 (((v 2 0) - 0).toNat + 1) 0 v k = v k := fun k hk => funext (fun i => fr_l_forecastOf_4 _ _ _ k i hk)
  revert g4 F
  generalize l_forecastOf_4 (((v 2 0) - 0).toNat + 1) 0 v = V
  intro g4 F
  have e7 : V 7 0 = v 7 0 := by rw [F 7 (by decide)]
  have hW' : WM V K W := by
    unfold WM
    rw [F 2 (by decide), F 20 (by decide)]
    exact hW
  have g := fr_lock (kr := kr) hk hK (((v 7 0) - 0).toNat + 1) 0 0 V (s0 v W) hW' (fun j j0 j1 => by
    obtain ⟨⟨a, b⟩, _⟩ := hW.1 j j0 j1
    exact (g4 (W j)).1 ⟨a, b⟩) (Int.le_refl 0) (by rw [e7]; exact h7) (by rw [e7]; omega)
  rw [e7, F 13 (by decide), F 12 (by decide), F kr hk] at g
  exact g
