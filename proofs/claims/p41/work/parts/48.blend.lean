/-! the orders: blended -/
def bC (c : Cs) (o b u : Int) : Cs := clst (g_X3_init (c.1 6) b u (cnew c 6)) (17 + o) ((g_X3_init (c.1 6) b u (cnew c 6)).2.2.1 (17 + o) ++ [c.1 6])
theorem bC_f6 {c : Cs} {o b u p : Int} {k : Nat} (h : p ≠ c.1 6) : (bC c o b u).2.1 6 k p = c.2.1 6 k p := by simp [bC, clst, g_X3_init, cput, cnew, h]
theorem bC_n6 {c : Cs} {o b u : Int} : (bC c o b u).2.1 6 0 (c.1 6) = b ∧ (bC c o b u).2.1 6 1 (c.1 6) = u := by simp [bC, clst, g_X3_init, cput, cnew]
theorem bC_l {c : Cs} {o b u j : Int} (h : ¬ j = 17 + o) : (bC c o b u).2.2.1 j = c.2.2.1 j := clst_ne (g_X3_init (c.1 6) b u (cnew c 6)) h
theorem bC_o {c : Cs} {o b u : Int} : (bC c o b u).2.2.1 (17 + o) = c.2.2.1 (17 + o) ++ [c.1 6] := clst_eq (g_X3_init (c.1 6) b u (cnew c 6)) (17 + o) _
def bV (v : Vw) (o b u : Int) : Vw := f_adds o b u (upv v 0 0 0)
theorem bV_fr {v : Vw} {o b u : Int} {k : Nat} (h : k ≠ 0 ∧ k ≠ 33 ∧ k ≠ 36 ∧ k ≠ 37) : bV v o b u k = v k := by
  funext i
  simp [bV, f_adds, upv, h.1, h.2.1, h.2.2.1, h.2.2.2]
theorem bV_33 {v : Vw} {o b u i : Int} : bV v o b u 33 i = if i = o then v 33 o + 1 else v 33 i := by simp [bV, f_adds, upv]
theorem bV_n {v : Vw} {o b u : Int} : bV v o b u 36 (4 * o + v 33 o) = b ∧ bV v o b u 37 (4 * o + v 33 o) = u := by simp [bV, f_adds, upv]
theorem bV_p {v : Vw} {o b u i : Int} (h : i ≠ 4 * o + v 33 o) : bV v o b u 36 i = v 36 i ∧ bV v o b u 37 i = v 37 i := by simp [bV, f_adds, upv, h]
theorem INV.blend {c : Cs} {v : Vw} {T E o b u : Int} (hN : INV c v) (hI : IM v T E) (ho : 0 ≤ o ∧ o < v 6 0) (hb : 0 ≤ b ∧ b < v 1 0) (hu : 1 ≤ u) (h4 : v 33 o < 4) : INV (bC c o b u) (bV v o b u) := by
  obtain ⟨⟨s0, s1, s2, s3, s4, s5, s6, s7, s8, s9, s10⟩, ⟨b1, b2, b3, b4, b5, b6⟩, ⟨i1, i2, i3, i4, i5, i6⟩, hJ⟩ := hN
  have F : ∀ k, k ≠ 0 ∧ k ≠ 33 ∧ k ≠ 36 ∧ k ≠ 37 → bV v o b u k = v k := fun k h => bV_fr h
  have u33 : ∀ x, 0 ≤ v 33 x ∧ v 33 x ≤ 4 := fun x => hI.2 33 x
  have n6 := s0.2.1.1
  have hc6 : (bC c o b u).1 6 = c.1 6 + 1 := rfl
  refine ⟨⟨?_, ?_, ?_, ?_, ?_, ?_, ?_, ?_, ?_, ?_, ?_⟩, ?_, ?_, ?_⟩
  · exact s0.fr rfl rfl rfl rfl rfl rfl (by rw [hc6]; omega) (Int.le_refl _) rfl rfl rfl (by rw [F 1 (by decide)]) (by rw [F 2 (by decide)]) (by rw [F 3 (by decide)]) (by rw [F 5 (by decide)]) (by rw [F 6 (by decide)]) (by rw [F 8 (by decide)]) (by rw [F 9 (by decide)]) (by rw [F 4 (by decide)]; exact Int.le_of_eq ((Int.sub_self _).trans (Int.sub_self _).symm))
  · exact s1.fr (bC_l (by omega)) rfl (F 1 (by decide)) (F 12 (by decide)) (F 13 (by decide)) (F 14 (by decide))
  · exact s2.fr (bC_l (by omega)) rfl (F 2 (by decide)) (F 15 (by decide)) (F 16 (by decide)) (F 17 (by decide)) (F 19 (by decide)) (F 20 (by decide))
  · exact s3.fr (bC_l (by omega)) rfl (F 5 (by decide)) (F 26 (by decide)) (F 27 (by decide)) (F 28 (by decide)) (F 29 (by decide)) (F 30 (by decide)) (F 31 (by decide))
  · exact s4.fr (bC_l (by omega)) (fun s _ _ => bC_l (by omega)) rfl rfl (Int.le_refl _) (F 4 (by decide)) (F 21 (by decide)) (F 22 (by decide)) (F 23 (by decide)) (F 24 (by decide)) (F 25 (by decide))
  · exact s5.fr (bC_l (by omega)) (F 7 (by decide)) (F 39 (by decide))
  · refine ⟨?_, fun x x0 x1 => ?_⟩
    · rw [F 6 (by decide), bC_l (by omega)]
      exact s6.1
    · rw [F 6 (by decide)] at x1
      obtain ⟨t0, t5, t6⟩ := s6.2 x x0 x1
      rw [F 32 (by decide), F 34 (by decide), F 35 (by decide), bV_33]
      refine ⟨t0, ?_⟩
      have old : ∀ p, p ∈ c.2.2.1 (17 + x) → (bC c o b u).2.1 6 0 p = c.2.1 6 0 p ∧ (bC c o b u).2.1 6 1 p = c.2.1 6 1 p := fun p hp => by
        have := t5 p hp
        exact ⟨bC_f6 (by omega), bC_f6 (by omega)⟩
      have oldv : ∀ k, 0 ≤ k → k < v 33 x → bV v o b u 36 (4 * x + k) = v 36 (4 * x + k) ∧ bV v o b u 37 (4 * x + k) = v 37 (4 * x + k) := fun k k0 k1 => bV_p (by
        have := u33 x
        have := u33 o
        by_cases e : x = o
        · subst e
          omega
        · omega)
      have e1 : (c.2.2.1 (17 + x)).map (fun p => ((bC c o b u).2.1 6 0 p, (bC c o b u).2.1 6 1 p)) = (rng (v 33 x)).map (fun k => (bV v o b u 36 (4 * x + k), bV v o b u 37 (4 * x + k))) := by
        refine Eq.trans (List.map_congr_left (fun p hp => ?_)) (t6.trans (map_rng_congr (fun k k0 k1 => ?_)))
        · rw [(old p hp).1, (old p hp).2]
        · rw [(oldv k k0 k1).1, (oldv k k0 k1).2]
      by_cases ex : x = o
      · subst ex
        rw [bC_o, if_pos rfl]
        refine ⟨fun p hp => ?_, ?_⟩
        · rw [hc6]
          rcases List.mem_append.mp hp with q | q
          · have := t5 p q
            omega
          · rw [List.mem_singleton.mp q]
            omega
        · rw [rng_succ (u33 x).1, List.map_append, List.map_append, e1]
          congr 1
          show [((bC c x b u).2.1 6 0 (c.1 6), (bC c x b u).2.1 6 1 (c.1 6))] = [(bV v x b u 36 (4 * x + v 33 x), bV v x b u 37 (4 * x + v 33 x))]
          rw [bC_n6.1, bC_n6.2, bV_n.1, bV_n.2]
      · rw [bC_l (by omega), if_neg ex]
        exact ⟨fun p hp => by rw [hc6]; have := t5 p hp; omega, e1⟩
  · exact s7.fr (bC_l (by omega)) (F 6 (by decide)) (F 32 (by decide))
  · exact s8.fr (bC_l (by omega)) rfl (F 9 (by decide)) (F 44 (by decide)) (F 45 (by decide)) (F 46 (by decide))
  · exact s9.fr (bC_l (by omega)) (F 2 (by decide)) (F 15 (by decide)) (F 18 (by decide)) (F 10 (by decide))
  · exact s10.fr (bC_l (by omega)) rfl rfl (F 2 (by decide)) (F 20 (by decide))
  · unfold VB
    simp only [dlu_fr (F 9 (by decide)) (F 44 (by decide)) (F 46 (by decide))]
    rw [F 1 (by decide), F 2 (by decide), F 4 (by decide), F 5 (by decide), F 6 (by decide), F 9 (by decide), F 15 (by decide), F 16 (by decide), F 25 (by decide), F 26 (by decide), F 28 (by decide), F 29 (by decide), F 31 (by decide), F 34 (by decide), F 44 (by decide), F 45 (by decide)]
    refine ⟨b1, b2, b3, fun x x0 x1 => ?_, b5, b6⟩
    obtain ⟨t1, t2⟩ := b4 x x0 x1
    rw [bV_33]
    by_cases ex : x = o
    · subst ex
      rw [if_pos rfl]
      refine ⟨⟨by omega, t1.2⟩, fun k k0 k1 => ?_⟩
      by_cases ek : k = v 33 x
      · subst ek
        rw [bV_n.1, bV_n.2]
        exact ⟨hb, hu⟩
      · have := bV_p (v := v) (o := x) (b := b) (u := u) (i := 4 * x + k) (by omega)
        rw [this.1, this.2]
        exact t2 k k0 (by omega)
    · rw [if_neg ex]
      refine ⟨t1, fun k k0 k1 => ?_⟩
      have := u33 x
      have := u33 o
      have := bV_p (v := v) (o := o) (b := b) (u := u) (i := 4 * x + k) (by omega)
      rw [this.1, this.2]
      exact t2 k k0 k1
  · unfold CI
    rw [fl_congr (v := v) (fun i => congrFun (F 34 (by decide)) i), dl_congr (v := v) (fun i => congrFun (F 28 (by decide)) i), pq_congr (v := v) (fun i => congrFun (F 28 (by decide)) i), F 4 (by decide), F 5 (by decide), F 6 (by decide), F 7 (by decide), F 9 (by decide), F 11 (by decide), F 28 (by decide), F 34 (by decide)]
    refine ⟨i1, i2, i3, i4, i5, fun x hx => ?_⟩
    rw [bV_33, if_neg (by omega)]
    exact i6 x hx
  · exact CJ_fr (v := v) (fun k hk i => congrFun (F k (by omega)) i) hJ
theorem fc_blend {c : Cs} {v : Vw} {T E a b u : Int} (hN : INV c v) (hI : IM v T E) (ha : R32 a) (hb : R32 b) (hu : R32 u) : ok_X10_blend a b u c ∧ Ans (fun k => if k = 1 then xIOB else if k = 2 then xIAE else xISE) (g_X10_blend a b u c) (f_blend a b u v) ∧ INV (g_X10_blend a b u c).2 (f_blend a b u v).2 := by
  have hl := hN.1.l1 hI
  have hl5 := hN.1.l5 hI
  unfold ok_X10_blend g_X10_blend f_blend
  by_cases h : 0 ≤ a ∧ a < v 6 0
  · have e : f_isOrder a v = 1 := (c_isOrder a v).elim (·.1) (fun q => absurd h q.2)
    have el := hN.1.e5 h.1 h.2
    obtain ⟨⟨q0, q1, q2, q3, q4⟩, q5, q6⟩ := hN.1.co.2 a h.1 h.2
    obtain ⟨p1, p2⟩ := parts hN.1 hI h.1 h.2
    have u33 : 0 ≤ v 33 a ∧ v 33 a ≤ 4 := hI.2 33 a
    have u3 := (hN.2.1.2.2.2.1 a h.1 h.2).1.2
    simp only [hl, hl5, el, e, if_pos h, if_neg ne10]
    by_cases h2 : 0 ≤ b ∧ b < v 1 0
    · have e2 : f_isRecipe b v = 1 := (c_isRecipe b v).elim (·.1) (fun q => absurd h2 q.2)
      have el2 := hN.1.e1 h2.1 h2.2
      simp only [el2, e2, q3, p1, if_pos h2, if_neg ne10]
      have o1 : ok_X10_isOutside u 1 40 c := ok_out hu ⟨by decide, by decide⟩ ⟨by decide, by decide⟩
      rcases outS u 1 40 c with ⟨x1, x2, x3, x4⟩ | ⟨x1, x2, x3⟩
      · rw [x1, x4]
        simp only [if_true, if_neg ne10]
        by_cases c1 : v 34 a = 111
        · simp only [if_pos c1]
          by_cases c4 : v 33 a < 4
          · simp only [if_pos c4, if_neg (show ¬ v 33 a = 4 by omega)]
            refine ⟨⟨ok_oat hN.1 hI ha, ok_rat hN.1 hI hb, o1, ⟨by omega, by omega⟩, ⟨q2, h.1⟩, ?_, ⟨q2, h.1⟩, trivial⟩, Or.inl ⟨?_, ?_⟩, hN.blend hI h h2 x2 c4⟩
            · show ((c.2.2.1 (17 + a)).length : Int) ≤ 199
              omega
            · show bV v a b u 0 0 = 0
              simp [bV, f_adds, upv]
            · show (Sum.inl (some (0, (((bC c a b u).2.2.1 (17 + a)).length : Int))) : Rr) = Sum.inl (some (0, bV v a b u 33 a))
              rw [bC_o, bV_33, if_pos rfl, List.length_append]
              show (Sum.inl (some (0, (((c.2.2.1 (17 + a)).length + 1 : Nat) : Int))) : Rr) = _
              rw [show (((c.2.2.1 (17 + a)).length + 1 : Nat) : Int) = v 33 a + 1 by omega]
          · simp only [if_neg c4, if_pos (show v 33 a = 4 by omega)]
            exact ⟨⟨ok_oat hN.1 hI ha, ok_rat hN.1 hI hb, o1, ⟨by omega, by omega⟩, ⟨q2, h.1⟩, trivial⟩, Or.inr ⟨by show (1 : Int) ≤ 3; omega, rfl⟩, hN.v0⟩
        · simp only [if_neg c1]
          exact ⟨⟨ok_oat hN.1 hI ha, ok_rat hN.1 hI hb, o1, ⟨by omega, by omega⟩, trivial⟩, Or.inr ⟨by show (1 : Int) ≤ 3; omega, rfl⟩, hN.v0⟩
      · rw [x1, x3]
        simp only [if_true, if_neg ne10]
        exact ⟨⟨ok_oat hN.1 hI ha, ok_rat hN.1 hI hb, o1, trivial⟩, Or.inr ⟨by show (1 : Int) ≤ 2; omega, rfl⟩, hN.v0⟩
    · have e2 : f_isRecipe b v = 0 := (c_isRecipe b v).elim (fun q => absurd q.2 h2) (·.1)
      simp only [e2, if_neg h2, if_true]
      exact ⟨⟨ok_oat hN.1 hI ha, ok_rat hN.1 hI hb, trivial⟩, Or.inr ⟨Int.le_refl 1, rfl⟩, hN.v0⟩
  · have e : f_isOrder a v = 0 := (c_isOrder a v).elim (fun q => absurd q.2 h) (·.1)
    simp only [hl, hl5, e, if_neg h, if_true]
    exact ⟨⟨ok_oat hN.1 hI ha, trivial⟩, Or.inr ⟨Int.le_refl 1, rfl⟩, hN.v0⟩
