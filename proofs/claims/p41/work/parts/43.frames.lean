/-! what each part of the tie between the two sides speaks of -/
theorem S0.fr {c c' : Cs} {v v' : Vw} (h : S0 c v) (a1 : c'.1 9 = c.1 9) (a2 : c'.1 11 = c.1 11) (a3 : c'.1 3 = c.1 3) (a4 : c'.1 5 = c.1 5) (a5 : c'.1 4 = c.1 4) (a6 : c'.1 2 = c.1 2) (a7 : c.1 6 ≤ c'.1 6) (a8 : c.1 7 ≤ c'.1 7) (a9 : c'.1 10 = c.1 10) (b1 : c'.2.1 13 10 0 = c.2.1 13 10 0) (b2 : c'.2.1 13 11 0 = c.2.1 13 11 0)
    (f1 : v' 1 0 = v 1 0) (f2 : v' 2 0 = v 2 0) (f3 : v' 3 0 = v 3 0) (f5 : v' 5 0 = v 5 0) (f6 : v' 6 0 = v 6 0) (f8 : v' 8 0 = v 8 0) (f9 : v' 9 0 = v 9 0) (f4 : c'.1 7 - c.1 7 ≤ v' 4 0 - v 4 0) : S0 c' v' := by
  obtain ⟨⟨h1, h2, h3, h4, h5, h6⟩, ⟨h7, ⟨h8, h8b⟩, h9⟩, h10, h11⟩ := h
  exact ⟨⟨by omega, by omega, by omega, by omega, by omega, by omega⟩, ⟨by omega, ⟨by omega, by omega⟩, by omega⟩, by omega, by omega⟩
theorem SR.fr {c c' : Cs} {v v' : Vw} (h : SR c v) (l1 : c'.2.2.1 1 = c.2.2.1 1) (a : c'.2.1 9 = c.2.1 9) (f1 : v' 1 = v 1) (f12 : v' 12 = v 12) (f13 : v' 13 = v 13) (f14 : v' 14 = v 14) : SR c' v' := by
  unfold SR
  rw [l1, a, f1, f12, f13, f14]
  exact h
theorem SV.fr {c c' : Cs} {v v' : Vw} (h : SV c v) (l1 : c'.2.2.1 2 = c.2.2.1 2) (a : c'.2.1 11 = c.2.1 11) (f2 : v' 2 = v 2) (f15 : v' 15 = v 15) (f16 : v' 16 = v 16) (f17 : v' 17 = v 17) (f19 : v' 19 = v 19) (f20 : v' 20 = v 20) : SV c' v' := by
  unfold SV
  rw [l1, a, f2, f15, f16, f17, f19, f20]
  exact h
theorem SB.fr {c c' : Cs} {v v' : Vw} (h : SB c v) (l1 : c'.2.2.1 3 = c.2.2.1 3) (a : c'.2.1 3 = c.2.1 3) (f5 : v' 5 = v 5) (f26 : v' 26 = v 26) (f27 : v' 27 = v 27) (f28 : v' 28 = v 28) (f29 : v' 29 = v 29) (f30 : v' 30 = v 30) (f31 : v' 31 = v 31) : SB c' v' := by
  unfold SB
  rw [l1, a, f5, f26, f27, f28, f29, f30, f31]
  exact h
theorem pts_fr {v v' : Vw} (f4 : v' 4 = v 4) (f22 : v' 22 = v 22) (f23 : v' 23 = v 23) (f24 : v' 24 = v 24) (f25 : v' 25 = v 25) (s : Int) : pts v' s = pts v s := by
  unfold pts
  rw [f4, f22, f23, f24, f25]
theorem SY.fr {c c' : Cs} {v v' : Vw} (h : SY c v) (l0 : c'.2.2.1 0 = c.2.2.1 0) (l1 : ∀ s, 0 ≤ s → s < 4 → c'.2.2.1 (13 + s) = c.2.2.1 (13 + s)) (a : c'.2.1 12 0 = c.2.1 12 0) (a7 : c'.2.1 7 = c.2.1 7) (n7 : c.1 7 ≤ c'.1 7) (f4 : v' 4 = v 4) (f21 : v' 21 = v 21) (f22 : v' 22 = v 22) (f23 : v' 23 = v 23) (f24 : v' 24 = v 24) (f25 : v' 25 = v 25) : SY c' v' := by
  refine ⟨l0.trans h.1, fun s h0 h4 => ?_⟩
  obtain ⟨g1, g2, g3⟩ := h.2 s h0 h4
  rw [l1 s h0 h4, a, a7, f21, pts_fr f4 f22 f23 f24 f25 s]
  exact ⟨g1, fun p hp => ⟨(g2 p hp).1, by have := (g2 p hp).2; omega⟩, g3⟩
theorem SQ.fr {c c' : Cs} {v v' : Vw} (h : SQ c v) (l1 : c'.2.2.1 4 = c.2.2.1 4) (f7 : v' 7 = v 7) (f39 : v' 39 = v 39) : SQ c' v' := by
  unfold SQ
  rw [l1, f7, f39]
  exact h
theorem SO.fr {c c' : Cs} {v v' : Vw} (h : SO c v) (l0 : c'.2.2.1 5 = c.2.2.1 5) (l1 : ∀ o, 0 ≤ o → o < v 6 0 → c'.2.2.1 (17 + o) = c.2.2.1 (17 + o)) (a : c'.2.1 5 = c.2.1 5) (a6 : c'.2.1 6 = c.2.1 6) (n6 : c.1 6 ≤ c'.1 6) (f6 : v' 6 = v 6) (f32 : v' 32 = v 32) (f33 : v' 33 = v 33) (f34 : v' 34 = v 34) (f35 : v' 35 = v 35) (f36 : v' 36 = v 36) (f37 : v' 37 = v 37) : SO c' v' := by
  refine ⟨by rw [l0, f6]; exact h.1, fun o h0 h1 => ?_⟩
  rw [f6] at h1
  obtain ⟨g1, g2, g3⟩ := h.2 o h0 h1
  rw [l1 o h0 h1, a, a6, f32, f33, f34, f35, f36, f37]
  exact ⟨g1, fun p hp => ⟨(g2 p hp).1, by have := (g2 p hp).2; omega⟩, g3⟩
theorem SU.fr {c c' : Cs} {v v' : Vw} (h : SU c v) (l1 : c'.2.2.1 6 = c.2.2.1 6) (f6 : v' 6 = v 6) (f32 : v' 32 = v 32) : SU c' v' := by
  unfold SU
  rw [l1, f6, due_congr (v := v) (fun i => congrFun f32 i)]
  exact h
theorem SE.fr {c c' : Cs} {v v' : Vw} (h : SE c v) (l1 : c'.2.2.1 7 = c.2.2.1 7) (a : c'.2.1 4 = c.2.1 4) (f9 : v' 9 = v 9) (f44 : v' 44 = v 44) (f45 : v' 45 = v 45) (f46 : v' 46 = v 46) : SE c' v' := by
  unfold SE
  rw [l1, a, f9, f44, f45, f46]
  exact h
theorem SD.fr {c c' : Cs} {v v' : Vw} (h : SD c v) (l1 : c'.2.2.1 8 = c.2.2.1 8) (f2 : v' 2 = v 2) (f15 : v' 15 = v 15) (f18 : v' 18 = v 18) (f10 : v' 10 = v 10) : SD c' v' := by
  unfold SD
  rw [l1, f2, f15, f18, f10]
  exact h
theorem SS.fr {c c' : Cs} {v v' : Vw} (h : SS c v) (l1 : c'.2.2.1 9 = c.2.2.1 9) (n : c'.1 10 = c.1 10) (a : c'.2.1 10 0 = c.2.1 10 0) (f2 : v' 2 = v 2) (f20 : v' 20 = v 20) : SS c' v' := by
  unfold SS
  rw [l1, n, a, f2, f20]
  exact h
theorem fuw {m : Nat} (h : m < 1000) : m < fu := by
  rw [fu_s]
  omega
theorem isThere_eq {c : Cs} {v : Vw} {T E s : Int} (hS : Sm c v) (hI : IM v T E) (h0 : 0 ≤ s) (h4 : s < 4) : ok_X9_isThere s (c.2.1 13 11 0) c ∧ g_X9_isThere s (c.2.1 13 11 0) c = f_hasYeast s v := by
  have hp : c.2.1 12 0 s = v 21 s := (hS.cy.2 s h0 h4).1
  have u21 : 0 ≤ v 21 s ∧ v 21 s ≤ 9 * T := hI.2 21 s
  have hT := hI.1
  have hl6 := pav_len hI s
  obtain ⟨hl, hf⟩ := yst hS h0 h4
  obtain ⟨g1, g2⟩ := yfirst hS hI h0 h4
  have ra : R32 (g_X9_firstUsable s (c.2.1 13 11 0) c) := by rcases g2 with ⟨_, g⟩ | ⟨g, g', _⟩ <;> exact ⟨by omega, by omega⟩
  unfold ok_X9_isThere g_X9_isThere f_hasYeast
  rw [hp]
  refine ⟨⟨⟨by omega, by omega⟩, ?_⟩, ?_⟩
  · split
    · exact trivial
    · exact ⟨g1, ra, trivial⟩
  · by_cases c1 : 0 < v 21 s
    · rw [if_pos c1, if_pos c1]
    · rw [if_neg c1, if_neg c1]
      rcases g2 with ⟨q1, q2⟩ | ⟨q1, q2, q3⟩
      · rw [if_pos (by omega), if_pos q1]
      · have hm := pav_mem.mp (lget_mem (xs := pav v s) q1 (by omega))
        rw [if_neg (by omega), if_neg (by omega)]
theorem l0_yeast {c : Cs} {v : Vw} (hS : Sm c v) {i : Int} (h0 : 0 ≤ i) (h1 : i < 4) : ((c.2.2.1 0).length : Int) = 4 ∧ lget (c.2.2.1 0) i = i := by
  rw [hS.cy.1]
  exact ⟨rng_len (by decide), lget_rng h0 h1⟩
theorem l0_len {c : Cs} {v : Vw} (hS : Sm c v) : ((c.2.2.1 0).length : Int) = 4 := by
  rw [hS.cy.1]
  exact rng_len (by decide)
theorem c_in3 (a : Int) : (0 ≤ a ∧ a < 4 ∧ f_in a 0 3 = 1) ∨ (¬ (0 ≤ a ∧ a < 4) ∧ f_in a 0 3 = 0) := by
  rcases c_in a 0 3 with h | h
  · exact Or.inl ⟨h.2.1, by omega, h.1⟩
  · exact Or.inr ⟨by omega, h.1⟩
theorem cp_count {s : Int} {v : Vw} (h4 : 0 ≤ v 4 0) : ∀ (n : Nat) (u i : Int), 0 ≤ i → (v 4 0 - i).toNat < n → l_pitches_24 s v n u i = u + (((rng (v 4 0)).drop i.toNat).countP (fun p => decide (¬ f_isUsable p s v = 0)) : Nat) := by
  have hl := rng_len h4
  intro n
  induction n with
  | zero => exact fun _ _ _ h => absurd h (Nat.not_lt_zero _)
  | succ n ih =>
    intro u i hi hm
    rw [l_pitches_24]
    by_cases c1 : v 4 0 ≤ i
    · rw [if_pos c1, List.drop_eq_nil_of_le (by omega)]
      simp
    · rw [if_neg c1, drop_lget hi (by omega), lget_rng hi (by omega)]
      by_cases c2 : f_isUsable i s v = 0
      · rw [if_pos c2, ih _ _ (by omega) (by omega), List.countP_cons_of_neg (by simp [c2])]
        omega
      · rw [if_neg c2, ih _ _ (by omega) (by omega), List.countP_cons_of_pos (by simp [c2])]
        omega
