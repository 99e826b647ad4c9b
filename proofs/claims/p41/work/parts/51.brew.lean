/-! brews started by hand and from the queue -/
theorem clean_lock {c : Cs} {v : Vw} {T E k t : Int} (hS : Sm c v) (hI : IM v T E) (hk : (k = 102 ∧ t = 0) ∨ (k = 116 ∧ t = 1)) : ∀ (n m : Nat) (i : Int), 0 ≤ i → i ≤ v 2 0 → (v 2 0 - i).toNat < n → (v 2 0 - i).toNat < m → okl_X10_firstClean_2 k c n i ∧ l_X10_firstClean_2 k c n i = l_clean_2 t v m i ∧ (l_clean_2 t v m i = -1 ∨ ((i ≤ l_clean_2 t v m i ∧ l_clean_2 t v m i < v 2 0) ∧ v 20 (l_clean_2 t v m i) = t ∧ v 15 (l_clean_2 t v m i) = 0)) := by
  have hl := hS.l2 hI
  have u2 : 0 ≤ v 2 0 ∧ v 2 0 ≤ 8 := hI.2 2 0
  intro n
  induction n with
  | zero => exact fun _ _ _ _ h => absurd h (Nat.not_lt_zero _)
  | succ n ih =>
    intro m i h0 h1 hn hm
    cases m with
    | zero => exact absurd hm (Nat.not_lt_zero _)
    | succ m =>
      rw [okl_X10_firstClean_2, l_X10_firstClean_2, l_clean_2, hl]
      by_cases c1 : v 2 0 ≤ i
      · rw [if_pos c1, if_pos c1, if_pos c1]
        exact ⟨⟨⟨by omega, by omega⟩, trivial⟩, rfl, Or.inl rfl⟩
      · obtain ⟨q0, q1, q2, q3, q4, q5⟩ := hS.cv.2 i h0 (by omega)
        have r1 := kdc_r (v 20 i)
        have r2 := cdc_r (v 15 i)
        have u20 : 0 ≤ v 20 i ∧ v 20 i ≤ 1 := hI.2 20 i
        have ek : kdc (v 20 i) = k ↔ v 20 i = t := by
          rcases hk with ⟨rfl, rfl⟩ | ⟨rfl, rfl⟩
          · exact kdc_0
          · rw [kdc_1]
            omega
        rw [if_neg c1, if_neg c1, if_neg c1, hS.e2 h0 (by omega), q1, q2]
        obtain ⟨j1, j2, j3⟩ := ih m (i + 1) (by omega) (by omega) (by omega) (by omega)
        have j3' : l_clean_2 t v m (i + 1) = -1 ∨ ((i ≤ l_clean_2 t v m (i + 1) ∧ l_clean_2 t v m (i + 1) < v 2 0) ∧ v 20 (l_clean_2 t v m (i + 1)) = t ∧ v 15 (l_clean_2 t v m (i + 1)) = 0) := by
          rcases j3 with g | ⟨g1, g2⟩
          · exact Or.inl g
          · exact Or.inr ⟨⟨by omega, g1.2⟩, g2⟩
        have rk : R32 k := by rcases hk with ⟨rfl, _⟩ | ⟨rfl, _⟩ <;> exact ⟨by decide, by decide⟩
        by_cases c2 : v 20 i = t
        · rw [if_pos (ek.mpr c2), if_pos (ek.mpr c2), if_pos c2]
          by_cases c3 : v 15 i = 0
          · rw [if_pos (cdc_0.mpr c3), if_pos (cdc_0.mpr c3), if_pos c3]
            exact ⟨⟨⟨by omega, by omega⟩, ⟨h0, by omega⟩, ⟨by omega, by omega⟩, rk, ⟨by omega, by omega⟩, trivial⟩, rfl, Or.inr ⟨⟨Int.le_refl _, by omega⟩, c2, c3⟩⟩
          · rw [if_neg (fun h => c3 (cdc_0.mp h)), if_neg (fun h => c3 (cdc_0.mp h)), if_neg c3]
            exact ⟨⟨⟨by omega, by omega⟩, ⟨h0, by omega⟩, ⟨by omega, by omega⟩, rk, ⟨by omega, by omega⟩, j1⟩, j2, j3'⟩
        · rw [if_neg (fun h => c2 (ek.mp h)), if_neg (fun h => c2 (ek.mp h)), if_neg c2]
          exact ⟨⟨⟨by omega, by omega⟩, ⟨h0, by omega⟩, ⟨by omega, by omega⟩, rk, j1⟩, j2, j3'⟩
theorem clean_eq {c : Cs} {v : Vw} {T E k t : Int} (hS : Sm c v) (hI : IM v T E) (hk : (k = 102 ∧ t = 0) ∨ (k = 116 ∧ t = 1)) : ok_X10_firstClean k c ∧ g_X10_firstClean k c = f_clean t v ∧ (f_clean t v = -1 ∨ ((0 ≤ f_clean t v ∧ f_clean t v < v 2 0) ∧ v 20 (f_clean t v) = t ∧ v 15 (f_clean t v) = 0)) := by
  have u2 : 0 ≤ v 2 0 ∧ v 2 0 ≤ 8 := hI.2 2 0
  exact clean_lock hS hI hk fu ((v 2 0 - 0).toNat + 1) 0 (by omega) u2.1 (fuw (by omega)) (by omega)
theorem INV.starts {c : Cs} {v : Vw} {T E r w : Int} (hN : INV c v) (hI : IM v T E) (hr : 0 ≤ r ∧ r < v 1 0) (hw : 0 ≤ w ∧ w < v 2 0) (hc : v 15 w = 0) (hb : v 5 0 + 1 + v 7 0 ≤ 30) : ok_X10_startBrew r w c ∧ (g_X10_startBrew r w c).1 = v 5 0 ∧ INV (g_X10_startBrew r w c).2 (f_starts r w v) := by
  have u7 : 0 ≤ v 7 0 ∧ v 7 0 ≤ 6 := hI.2 7 0
  obtain ⟨g1, g2, g3⟩ := hN.1.starts hN.2.1 hI hr hw hc (by omega)
  refine ⟨g1, g2, ?_, ?_, CI_starts hN.2.2.1 hb, CJ_starts hN.2.2.2 (hN.2.2.2.2.1 r hr.1 hr.2)⟩
  · rw [starts_eq]
    exact g3
  · rw [starts_eq]
    exact hN.2.1.starts hI hr hw hc
theorem fc_brew {c : Cs} {v : Vw} {T E a b : Int} (hN : INV c v) (hI : IM v T E) (ha : R32 a) (hb : R32 b) : ok_X10_brew a b c ∧ Ans (fun k => if k = 1 then xIOB else if k = 2 then xUOE else if k = 3 then xISE else xNSE) (g_X10_brew a b c) (f_brew a b v) ∧ INV (g_X10_brew a b c).2 (f_brew a b v).2 := by
  have hl := hN.1.l1 hI
  have hl2 := hN.1.l2 hI
  have hl3 := hN.1.l3 hI
  have hl4 := hN.1.l4 hI
  have u7 : 0 ≤ v 7 0 ∧ v 7 0 ≤ 6 := hI.2 7 0
  have u5 : 0 ≤ v 5 0 ∧ v 5 0 ≤ 30 := hI.2 5 0
  unfold ok_X10_brew g_X10_brew f_brew ok_X10_isFullyBooked g_X10_isFullyBooked
  by_cases h : 0 ≤ a ∧ a < v 1 0
  · have e : f_isRecipe a v = 1 := (c_isRecipe a v).elim (·.1) (fun q => absurd h q.2)
    have el := hN.1.e1 h.1 h.2
    simp only [hl, el, e, if_pos h, if_neg ne10]
    by_cases h2 : 0 ≤ b ∧ b < v 2 0
    · have e2 : f_isVessel b v = 1 := (c_isVessel b v).elim (·.1) (fun q => absurd h2 q.2)
      have el2 := hN.1.e2 h2.1 h2.2
      obtain ⟨q0, q1, q2, q3, q4, q5⟩ := hN.1.cv.2 b h2.1 h2.2
      obtain ⟨r0, r1, r2, r3, r4⟩ := hN.1.cr.2 a h.1 h.2
      have w1 := kdc_r (v 20 b)
      have w2 := cdc_r (v 15 b)
      have u12 : 0 ≤ v 12 a ∧ v 12 a ≤ 3 := hI.2 12 a
      obtain ⟨k1, k2⟩ := isThere_eq hN.1 hI u12.1 (show v 12 a < 4 by omega)
      simp only [hl2, hl3, hl4, el2, e2, q1, q2, r2, k2, if_pos h2, if_neg ne10]
      by_cases c1 : v 20 b = 0
      · simp only [if_pos c1, if_neg (show ¬ kdc (v 20 b) = 116 from fun g => kdc_1.mp g c1)]
        by_cases c2 : v 15 b = 0
        · simp only [if_pos c2, if_pos (cdc_0.mpr c2)]
          by_cases c3 : v 5 0 + v 7 0 < 30
          · simp only [if_pos c3, if_true]
            by_cases c4 : f_hasYeast (v 12 a) v = 0
            · simp only [if_pos c4]
              exact ⟨⟨ok_rat hN.1 hI ha, ok_vat hN.1 hI hb, ⟨by omega, by omega⟩, ⟨by omega, by omega⟩, ⟨⟨by omega, by omega⟩, trivial⟩, by omega, k1, trivial⟩, Or.inr ⟨by show (1 : Int) ≤ 4; omega, rfl⟩, hN.v0⟩
            · simp only [if_neg c4]
              obtain ⟨g1, g2, g3⟩ := (hN.v0 (x := 0)).starts hI.z h h2 c2 (show v 5 0 + 1 + v 7 0 ≤ 30 by omega)
              refine ⟨⟨ok_rat hN.1 hI ha, ok_vat hN.1 hI hb, ⟨by omega, by omega⟩, ⟨by omega, by omega⟩, ⟨⟨by omega, by omega⟩, trivial⟩, by omega, k1, g1, trivial⟩, Or.inl ⟨?_, ?_⟩, g3⟩
              · show f_starts a b (upv v 0 0 0) 0 0 = 0
                rw [fr_starts 0 0 (by decide)]
                rfl
              · show (Sum.inl (some (0, (g_X10_startBrew a b c).1)) : Rr) = Sum.inl (some (0, f_starts a b (upv v 0 0 0) 5 0 - 1))
                rw [g2, (b_starts a b (upv v 0 0 0)).1]
                show (Sum.inl (some (0, v 5 0)) : Rr) = Sum.inl (some (0, v 5 0 + 1 - 1))
                rw [show v 5 0 + 1 - 1 = v 5 0 by omega]
          · simp only [if_neg c3, if_neg ne10]
            exact ⟨⟨ok_rat hN.1 hI ha, ok_vat hN.1 hI hb, ⟨by omega, by omega⟩, ⟨by omega, by omega⟩, ⟨⟨by omega, by omega⟩, trivial⟩, trivial⟩, Or.inr ⟨by show (1 : Int) ≤ 3; omega, rfl⟩, hN.v0⟩
        · simp only [if_neg c2, if_neg (show ¬ cdc (v 15 b) = 99 from fun g => c2 (cdc_0.mp g))]
          exact ⟨⟨ok_rat hN.1 hI ha, ok_vat hN.1 hI hb, ⟨by omega, by omega⟩, ⟨by omega, by omega⟩, trivial⟩, Or.inr ⟨by show (1 : Int) ≤ 3; omega, rfl⟩, hN.v0⟩
      · simp only [if_neg c1, if_pos (kdc_1.mpr c1)]
        exact ⟨⟨ok_rat hN.1 hI ha, ok_vat hN.1 hI hb, ⟨by omega, by omega⟩, trivial⟩, Or.inr ⟨by show (1 : Int) ≤ 2; omega, rfl⟩, hN.v0⟩
    · have e2 : f_isVessel b v = 0 := (c_isVessel b v).elim (fun q => absurd q.2 h2) (·.1)
      simp only [hl2, e2, if_neg h2, if_true]
      exact ⟨⟨ok_rat hN.1 hI ha, ok_vat hN.1 hI hb, trivial⟩, Or.inr ⟨Int.le_refl 1, rfl⟩, hN.v0⟩
  · have e : f_isRecipe a v = 0 := (c_isRecipe a v).elim (fun q => absurd q.2 h) (·.1)
    simp only [hl, e, if_neg h, if_true]
    exact ⟨⟨ok_rat hN.1 hI ha, trivial⟩, Or.inr ⟨Int.le_refl 1, rfl⟩, hN.v0⟩
theorem sq_lock {T E : Int} : ∀ (n m : Nat) (i : Int) (c : Cs) (v : Vw), INV c v → IM v T E → 0 ≤ i → i ≤ v 7 0 → (v 7 0 - i).toNat < n → (v 7 0 - i).toNat < m → okl_X10_startQueued_12 n i (v 7 0 - i) c ∧ INV (l_X10_startQueued_12 n i (v 7 0 - i) c) (l_startsQueue_2 m i v) := by
  intro n
  induction n with
  | zero => exact fun _ _ _ _ _ _ _ _ h => absurd h (Nat.not_lt_zero _)
  | succ n ih =>
    intro m i c v hN hI h0 h1 hn hm
    cases m with
    | zero => exact absurd hm (Nat.not_lt_zero _)
    | succ m =>
      have u7 : 0 ≤ v 7 0 ∧ v 7 0 ≤ 6 := hI.2 7 0
      have hl4 := hN.1.l4 hI
      obtain ⟨k1, k2, k3⟩ := clean_eq (k := 102) (t := 0) hN.1 hI (Or.inl ⟨rfl, rfl⟩)
      rw [l_startsQueue_2]
      by_cases c0 : f_clean 0 v = -1
      · have e : (if v 7 0 ≤ i then v else if f_clean 0 v = -1 then v else if f_hasYeast (v 12 (v 39 i)) v = 0 then l_startsQueue_2 m (i + 1) v else l_startsQueue_2 m i (f_starts (f_takesOut i v).1 (f_clean 0 v) (f_takesOut i v).2)) = v := by
          rw [if_pos c0]
          split <;> rfl
        rw [e]
        have e2 : ∀ (n : Nat) (i k : Int), 0 ≤ i → i ≤ 900 → 0 ≤ k → k ≤ 900 → k.toNat < n → okl_X10_startQueued_12 n i k c ∧ l_X10_startQueued_12 n i k c = c := by
          intro n
          induction n with
          | zero => exact fun _ _ _ _ _ _ h => absurd h (Nat.not_lt_zero _)
          | succ n ih2 =>
            intro i k h0 hi hk h9 hn
            rw [okl_X10_startQueued_12, l_X10_startQueued_12]
            by_cases c1 : k ≤ 0
            · rw [if_pos c1, if_pos c1]
              exact ⟨⟨⟨by omega, by omega⟩, trivial⟩, rfl⟩
            · rw [if_neg c1, if_neg c1]
              by_cases c2 : ((c.2.2.1 4).length : Int) ≤ i
              · rw [if_pos c2, if_pos c2]
                exact ⟨⟨⟨by omega, by omega⟩, ⟨by omega, by omega⟩, trivial⟩, rfl⟩
              · rw [if_neg c2, if_neg c2, if_pos (k2.trans c0), if_pos (k2.trans c0)]
                obtain ⟨j1, j2⟩ := ih2 (i + 1) (k + -1) (by omega) (by omega) (by omega) (by omega) (by omega)
                exact ⟨⟨⟨by omega, by omega⟩, ⟨by omega, by omega⟩, ⟨h0, by omega⟩, k1, j1⟩, j2⟩
        obtain ⟨g1, g2⟩ := e2 (n + 1) i (v 7 0 - i) h0 (by omega) (by omega) (by omega) (by omega)
        rw [g2]
        exact ⟨g1, hN⟩
      · rw [okl_X10_startQueued_12, l_X10_startQueued_12, hl4]
        by_cases c1 : v 7 0 ≤ i
        · rw [if_pos (show v 7 0 - i ≤ 0 by omega), if_pos (show v 7 0 - i ≤ 0 by omega), if_pos c1]
          exact ⟨⟨⟨by omega, by omega⟩, trivial⟩, hN⟩
        · have k3' := k3.resolve_left c0
          have hq := hN.2.2.2.2.2.1 i h0 (by omega)
          obtain ⟨r0, r1, r2, r3, r4⟩ := hN.1.cr.2 (v 39 i) hq.1 hq.2
          have u12 : 0 ≤ v 12 (v 39 i) ∧ v 12 (v 39 i) ≤ 3 := hI.2 12 (v 39 i)
          obtain ⟨y1, y2⟩ := isThere_eq hN.1 hI u12.1 (show v 12 (v 39 i) < 4 by omega)
          rw [if_neg (show ¬ v 7 0 - i ≤ 0 by omega), if_neg (show ¬ v 7 0 - i ≤ 0 by omega), if_neg c1, if_neg c1, if_neg c1, if_neg (show ¬ g_X10_firstClean 102 c = -1 by omega), if_neg (show ¬ g_X10_firstClean 102 c = -1 by omega), if_neg c0, hN.1.e4 h0 (by omega), r2, y2]
          by_cases c2 : f_hasYeast (v 12 (v 39 i)) v = 0
          · rw [if_pos c2, if_pos c2, if_pos c2]
            obtain ⟨j1, j2⟩ := ih m (i + 1) c v hN hI (by omega) (by omega) (by omega) (by omega)
            rw [show v 7 0 - (i + 1) = v 7 0 - i + -1 by omega] at j1 j2
            exact ⟨⟨⟨by omega, by omega⟩, ⟨by omega, by omega⟩, ⟨h0, by omega⟩, k1, by omega, y1, j1⟩, j2⟩
          · rw [if_neg c2, if_neg c2, if_neg c2]
            have hN2 := hN.takes h0 (show i < v 7 0 by omega)
            have hI2 := i_takesOut hI ⟨h0, show i < v 7 0 by omega⟩
            have t7 := (t_takesOut i v).2
            have F : ∀ k, k ≠ 7 ∧ k ≠ 39 → (f_takesOut i v).2 k = v k := fun k h => takes_fr h
            have hC := hN.2.2.1.1
            obtain ⟨g1, g2, g3⟩ := hN2.starts (r := v 39 i) (w := f_clean 0 v) hI2 (by rw [F 1 (by decide)]; exact hq) (by rw [F 2 (by decide)]; exact k3'.1) (by rw [F 15 (by decide)]; exact k3'.2.2) (by rw [F 5 (by decide), t7]; omega)
            have e1 : (f_takesOut i v).1 = v 39 i := (t_takesOut i v).1
            have hI3 := i_starts (r := (f_takesOut i v).1) (w := f_clean 0 v) hI2 (by rw [e1]; have : v 1 0 ≤ 5 := (hI.2 1 0).2; omega) (by have := r_clean hI 0; omega) (by rw [F 5 (by decide)]; omega) (hy_takes c2)
            have e7 : f_starts (f_takesOut i v).1 (f_clean 0 v) (f_takesOut i v).2 7 0 = v 7 0 - 1 := by rw [fr_starts 7 0 (by decide)]; exact t7
            rw [← e1, ← k2] at g3 g1
            rw [← k2] at hI3 e7
            obtain ⟨j1, j2⟩ := ih m i _ _ g3 hI3 h0 (by rw [e7]; omega) (by rw [e7]; omega) (by rw [e7]; omega)
            rw [e7, show v 7 0 - 1 - i = v 7 0 - i + -1 by omega, e1] at j1 j2
            rw [e1] at g1
            rw [k2] at j1 j2 g1
            rw [k2, e1]
            exact ⟨⟨⟨by omega, by omega⟩, ⟨by omega, by omega⟩, ⟨h0, by omega⟩, k1, by omega, y1, g1, j1⟩, j2⟩
theorem startQueued_ok {c : Cs} {v : Vw} {T E : Int} (hN : INV c v) (hI : IM v T E) : ok_X10_startQueued c ∧ INV (g_X10_startQueued c) (f_startsQueue v) := by
  have u7 : 0 ≤ v 7 0 ∧ v 7 0 ≤ 6 := hI.2 7 0
  have g := sq_lock fu ((v 7 0 - 0).toNat + 1) 0 c v hN hI (by omega) u7.1 (fuw (by omega)) (by omega)
  unfold ok_X10_startQueued g_X10_startQueued f_startsQueue
  rw [hN.1.l4 hI, Int.sub_zero]
  rw [Int.sub_zero] at g
  exact g
