/-! the calls that put in: recipes, packs, crews -/
theorem outS (x a b : Int) (c : Cs) : (g_X10_isOutside x a b c = 0 ∧ a ≤ x ∧ x ≤ b ∧ f_in x a b = 1) ∨ (g_X10_isOutside x a b c = 1 ∧ ¬ (a ≤ x ∧ x ≤ b) ∧ f_in x a b = 0) := by
  unfold g_X10_isOutside f_in
  repeat' split
  all_goals omega
theorem ok_out {x a b : Int} {c : Cs} (hx : R32 x) (ha : R32 a) (hb : R32 b) : ok_X10_isOutside x a b c := by
  unfold ok_X10_isOutside
  refine ⟨hx, ha, ?_⟩
  split
  · exact trivial
  · exact ⟨hb, trivial⟩
theorem ok_yst {s : Int} {c : Cs} {v : Vw} (hS : Sm c v) (ha : R32 s) : ok_X10_yeastOf s c := by
  have hl := l0_len hS
  unfold ok_X10_yeastOf
  rw [hl]
  repeat' first | exact trivial | refine ⟨?_, ?_⟩ | split | omega
theorem ok_rat {a : Int} {c : Cs} {v : Vw} {T E : Int} (hS : Sm c v) (hI : IM v T E) (ha : R32 a) : ok_X10_recipeAt a c := by
  have hl := hS.l1 hI
  unfold ok_X10_recipeAt
  rw [hl]
  repeat' first | exact trivial | refine ⟨?_, ?_⟩ | split | omega
theorem ok_vat {a : Int} {c : Cs} {v : Vw} {T E : Int} (hS : Sm c v) (hI : IM v T E) (ha : R32 a) : ok_X10_vesselAt a c := by
  have hl := hS.l2 hI
  unfold ok_X10_vesselAt
  rw [hl]
  repeat' first | exact trivial | refine ⟨?_, ?_⟩ | split | omega
theorem ok_oat {a : Int} {c : Cs} {v : Vw} {T E : Int} (hS : Sm c v) (hI : IM v T E) (ha : R32 a) : ok_X10_orderAt a c := by
  have hl := hS.l5 hI
  unfold ok_X10_orderAt
  rw [hl]
  repeat' first | exact trivial | refine ⟨?_, ?_⟩ | split | omega
theorem ok_qat {a : Int} {c : Cs} {v : Vw} {T E : Int} (hS : Sm c v) (hI : IM v T E) (ha : R32 a) : ok_X10_queuedRecipe a c := by
  have hl := hS.l4 hI
  unfold ok_X10_queuedRecipe
  rw [hl]
  repeat' first | exact trivial | refine ⟨?_, ?_⟩ | split | omega
theorem dlu_fr {v v' : Vw} (f9 : v' 9 = v 9) (f44 : v' 44 = v 44) (f46 : v' 46 = v 46) (b : Int) : dlu v' b = dlu v b := by
  unfold dlu
  rw [f9, f44, f46]
theorem VB.fr {v v' : Vw} (h : VB v) (h1 : v 1 0 ≤ v' 1 0) (f2 : v' 2 = v 2) (f4 : v' 4 = v 4) (f5 : v' 5 = v 5) (f6 : v' 6 = v 6) (f9 : v' 9 = v 9) (f15 : v' 15 = v 15) (f16 : v' 16 = v 16) (f25 : v' 25 = v 25) (f26 : v' 26 = v 26) (f28 : v' 28 = v 28) (f29 : v' 29 = v 29) (f31 : v' 31 = v 31) (f33 : v' 33 = v 33) (f34 : v' 34 = v 34) (f36 : v' 36 = v 36) (f37 : v' 37 = v 37) (f44 : v' 44 = v 44) (f45 : v' 45 = v 45) (f46 : v' 46 = v 46) : VB v' := by
  obtain ⟨g1, g2, g3, g4, g5, g6⟩ := h
  unfold VB
  simp only [dlu_fr f9 f44 f46]
  rw [f2, f4, f5, f6, f9, f15, f16, f25, f26, f28, f29, f31, f33, f34, f36, f37, f44, f45]
  refine ⟨fun b h0 h5 => ?_, g2, g3, fun o h0 h6 => ?_, g5, g6⟩
  · have := g1 b h0 h5
    exact ⟨⟨this.1.1, by omega⟩, this.2⟩
  · have := g4 o h0 h6
    exact ⟨this.1, fun k k0 k1 => ⟨⟨((this.2 k k0 k1).1).1, by have := ((this.2 k k0 k1).1).2; omega⟩, (this.2 k k0 k1).2⟩⟩
theorem fc_setCrews {c : Cs} {v : Vw} {a : Int} (hN : INV c v) (ha : R32 a) : ok_X10_setCrews a c ∧ Ans (fun _ => xIAE) (g_X10_setCrews a c) (f_setCrews a v) ∧ INV (g_X10_setCrews a c).2 (f_setCrews a v).2 := by
  unfold ok_X10_setCrews g_X10_setCrews f_setCrews
  refine ⟨⟨ok_out ha ⟨by decide, by decide⟩ ⟨by decide, by decide⟩, trivial⟩, ?_⟩
  rcases outS a 0 3 c with ⟨e1, h0, h3, e2⟩ | ⟨e1, h, e2⟩
  · rw [e1, e2, if_pos rfl, if_neg ne10]
    refine ⟨Or.inl ⟨rfl, ?_⟩, ?_⟩
    · show (Sum.inl (some (0, c.2.1 13 10 0)) : Rr) = _
      rw [hN.1.c0.2.2.1]
    · obtain ⟨⟨s0, s1, s2, s3, s4, s5, s6, s7, s8, s9, s10⟩, hB, hC, hJ⟩ := hN
      refine ⟨⟨⟨s0.1, s0.2.1, cput_eq _ _ _ _ _, s0.2.2.2⟩, s1, s2, s3, s4, s5, s6, s7.fr rfl rfl rfl, s8, s9, s10⟩, hB, CI_fr (fun k hk i => (upv_nk (by omega)).trans (up0 (by omega))) hC, CJ_fr (fun k hk i => (upv_nk (by omega)).trans (up0 (by omega))) hJ⟩
  · rw [e1, e2, if_pos rfl, if_neg ne10]
    exact ⟨Or.inr ⟨Int.le_refl 1, rfl⟩, hN.v0⟩
theorem fc_addPacks {c : Cs} {v : Vw} {T E a b : Int} (hN : INV c v) (hI : IM v T E) (ha : R32 a) (hb : R32 b) : ok_X10_addPacks a b c ∧ Ans (fun _ => xIAE) (g_X10_addPacks a b c) (f_addPacks a b v) ∧ INV (g_X10_addPacks a b c).2 (f_addPacks a b v).2 := by
  have hl := l0_len hN.1
  unfold ok_X10_addPacks g_X10_addPacks f_addPacks
  rcases c_in3 a with ⟨h0, h4, e⟩ | ⟨h, e⟩
  · have el := (l0_yeast hN.1 h0 h4).2
    have hp := (hN.1.cy.2 a h0 h4).1
    simp only [hl, el, e, hp, if_pos (show 0 ≤ a ∧ a < 4 from ⟨h0, h4⟩), if_neg ne10]
    refine ⟨⟨ok_yst hN.1 ha, ok_out hb ⟨by decide, by decide⟩ ⟨by decide, by decide⟩, trivial⟩, ?_⟩
    rcases outS b 1 9 c with ⟨e1, h1, h9, e2⟩ | ⟨e1, h, e2⟩
    · rw [e1, e2, if_pos rfl, if_neg ne10]
      refine ⟨Or.inl ⟨rfl, rfl⟩, ?_⟩
      obtain ⟨⟨s0, s1, s2, s3, s4, s5, s6, s7, s8, s9, s10⟩, hB, hC, hJ⟩ := hN
      refine ⟨⟨s0, s1, s2, s3, ⟨s4.1, fun s g0 g4 => ?_⟩, s5, s6, s7.fr rfl rfl rfl, s8, s9, s10⟩, hB, CI_fr (fun k hk i => (upv_nk (by omega)).trans (up0 (by omega))) hC, CJ_fr (fun k hk i => (upv_nk (by omega)).trans (up0 (by omega))) hJ⟩
      obtain ⟨y1, y2⟩ := s4.2 s g0 g4
      refine ⟨?_, y2⟩
      by_cases es : s = a
      · subst es
        rw [cput_eq]
        exact (upv_eq _ _ _ _).symm
      · rw [cput_i _ es]
        show _ = upv (upv v 0 0 0) 21 a _ 21 s
        rw [upv_ni es]
        exact y1
    · rw [e1, e2, if_pos rfl, if_neg ne10]
      exact ⟨Or.inr ⟨Int.le_refl 1, rfl⟩, hN.v0⟩
  · simp only [hl, e, if_neg (show ¬ (0 ≤ a ∧ a < 4) from h), if_true]
    exact ⟨⟨ok_yst hN.1 ha, trivial⟩, Or.inr ⟨Int.le_refl 1, rfl⟩, hN.v0⟩
theorem fc_addRecipe {c : Cs} {v : Vw} {T E a b d : Int} (hN : INV c v) (hI : IM v T E) (ha : R32 a) (hb : R32 b) (hd : R32 d) : ok_X10_addRecipe a b d c ∧ Ans (fun k => if k = 1 then xIAE else xISE) (g_X10_addRecipe a b d c) (f_addRecipe a b d v) ∧ INV (g_X10_addRecipe a b d c).2 (f_addRecipe a b d v).2 := by
  have hl := l0_len hN.1
  have hl1 := hN.1.l1 hI
  have u1 : 0 ≤ v 1 0 ∧ v 1 0 ≤ 5 := hI.2 1 0
  unfold ok_X10_addRecipe g_X10_addRecipe f_addRecipe
  rcases c_in3 a with ⟨h0, h4, e⟩ | ⟨h, e⟩
  · have el := (l0_yeast hN.1 h0 h4).2
    simp only [hl, hl1, el, e, if_pos (show 0 ≤ a ∧ a < 4 from ⟨h0, h4⟩), if_neg ne10]
    have o1 : ok_X10_isOutside b 1 14 c := ok_out hb ⟨by decide, by decide⟩ ⟨by decide, by decide⟩
    have o2 : ok_X10_isOutside d 0 14 c := ok_out hd ⟨by decide, by decide⟩ ⟨by decide, by decide⟩
    rcases outS b 1 14 c with ⟨e1, b1, b2, e2⟩ | ⟨e1, hx, e2⟩
    · rcases outS d 0 14 c with ⟨e3, d1, d2, e4⟩ | ⟨e3, hx, e4⟩
      · rw [e1, e2, e3, e4]
        simp only [if_true, if_neg ne10]
        by_cases c5 : v 1 0 < 5
        · simp only [if_pos c5, if_neg (show ¬ v 1 0 = 5 by omega)]
          obtain ⟨⟨s0, s1, s2, s3, s4, s5, s6, s7, s8, s9, s10⟩, hB, hC, hJ⟩ := hN
          have en : c.1 9 = v 1 0 := s0.1.1
          refine ⟨⟨ok_yst ⟨s0, s1, s2, s3, s4, s5, s6, s7, s8, s9, s10⟩ ha, o1, o2, ?_, trivial⟩, Or.inl ⟨rfl, ?_⟩, ⟨⟨?_, ⟨?_, fun r r0 r1 => ?_⟩, s2, s3, s4.fr rfl (fun s _ _ => clst_ne _ (by omega)) rfl rfl (Int.le_refl _) rfl rfl rfl rfl rfl rfl, s5, s6.fr rfl (fun o _ _ => clst_ne _ (by omega)) rfl rfl (Int.le_refl _) rfl rfl rfl rfl rfl rfl rfl, s7.fr rfl rfl rfl, s8, s9, s10⟩, ?_, ?_, ?_⟩⟩
          · show ((c.2.2.1 1).length : Int) ≤ 199
            omega
          · show (Sum.inl (some (0, (g_X6_init (c.1 9) (v 1 0) a a b d (cnew c 9)).2.1 9 0 (c.1 9))) : Rr) = Sum.inl (some (0, v 1 0 + 1 - 1))
            have : (g_X6_init (c.1 9) (v 1 0) a a b d (cnew c 9)).2.1 9 0 (c.1 9) = v 1 0 := by simp [g_X6_init, cput]
            rw [this, show v 1 0 + 1 - 1 = v 1 0 by omega]
          · obtain ⟨⟨q1, q2, q3, q4, q5, q6⟩, q7, q8, q9⟩ := s0
            refine ⟨⟨?_, q2, q3, q4, q5, q6⟩, q7, q8, q9⟩
            show c.1 9 + 1 = v 1 0 + 1
            omega
          · show c.2.2.1 1 ++ [c.1 9] = rng (v 1 0 + 1)
            rw [rng_succ u1.1, s1.1, en]
          · have r1' : r < v 1 0 + 1 := r1
            by_cases er : r = v 1 0
            · subst er
              simp [g_X6_init, cput, clst, upv, en]
            · obtain ⟨q1, q2, q3, q4, q5⟩ := s1.2 r r0 (by omega)
              have er' : ¬ r = c.1 9 := by omega
              simp [g_X6_init, cput, clst, cnew, upv, er, er', q1, q2, q3, q4, q5]
          · exact hB.fr (show v 1 0 ≤ v 1 0 + 1 by omega) rfl rfl rfl rfl rfl rfl rfl rfl rfl rfl rfl rfl rfl rfl rfl rfl rfl rfl rfl
          · exact CI_fr (v := v) (fun k hk i => by simp [upv]; omega) hC
          · obtain ⟨j1, j2, j3, j4⟩ := hJ
            refine ⟨j1, fun r r0 r1 => ?_, fun k k0 k1 => ?_, j4⟩
            · have r1' : r < v 1 0 + 1 := r1
              by_cases er : r = v 1 0
              · subst er
                simp [upv]
                omega
              · have := j2 r r0 (by omega)
                simp [upv, er]
                omega
            · have := j3 k k0 k1
              show 0 ≤ v 39 k ∧ v 39 k < v 1 0 + 1
              omega
        · simp only [if_neg c5, if_pos (show v 1 0 = 5 by omega)]
          exact ⟨⟨ok_yst hN.1 ha, o1, o2, trivial⟩, Or.inr ⟨by show (1 : Int) ≤ 2; omega, rfl⟩, hN.v0⟩
      · rw [e1, e2, e3, e4]
        simp only [if_true, if_neg ne10]
        exact ⟨⟨ok_yst hN.1 ha, o1, o2, trivial⟩, Or.inr ⟨Int.le_refl 1, rfl⟩, hN.v0⟩
    · rw [e1, e2]
      simp only [if_true, if_neg ne10]
      exact ⟨⟨ok_yst hN.1 ha, o1, trivial⟩, Or.inr ⟨Int.le_refl 1, rfl⟩, hN.v0⟩
  · simp only [hl, e, if_neg (show ¬ (0 ≤ a ∧ a < 4) from h), if_true]
    exact ⟨⟨ok_yst hN.1 ha, trivial⟩, Or.inr ⟨Int.le_refl 1, rfl⟩, hN.v0⟩
