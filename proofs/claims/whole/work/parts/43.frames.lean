/-! what each part of the tie between the two sides speaks of -/
theorem S0.fr {c c' : Cs} {v v' : Vw} (h : S0 c v) (a1 : c'.1 9 = c.1 9) (a2 : c'.1 11 = c.1 11) (a3 : c'.1 3 = c.1 3) (a4 : c'.1 5 = c.1 5) (a5 : c'.1 4 = c.1 4) (a6 : c'.1 2 = c.1 2) (a7 : c.1 6 ≤ c'.1 6) (a8 : c.1 7 ≤ c'.1 7) (a9 : c'.1 10 = c.1 10) (b1 : c'.2.1 13 10 0 = c.2.1 13 10 0) (b2 : c'.2.1 13 11 0 = c.2.1 13 11 0)
    (f1 : v' 1 0 = v 1 0) (f2 : v' 2 0 = v 2 0) (f3 : v' 3 0 = v 3 0) (f5 : v' 5 0 = v 5 0) (f6 : v' 6 0 = v 6 0) (f8 : v' 8 0 = v 8 0) (f9 : v' 9 0 = v 9 0) (f4 : c'.1 7 - c.1 7 ≤ v' 4 0 - v 4 0) : S0 c' v' := by
  obtain ⟨⟨h1, h2, h3, h4, h5, h6⟩, ⟨h7, ⟨h8, h8b⟩, h9⟩, h10, h11⟩ := h
  exact ⟨⟨by omega, by omega, by omega, by omega, by omega, by omega⟩, ⟨by omega, ⟨by omega, by omega⟩, by omega⟩, by omega, by omega⟩
theorem SR.fr {c c' : Cs} {v v' : Vw} (h : SR c v) (l1 : c'.2.2.1 1 = c.2.2.1 1) (a : c'.2.1 9 = c.2.1 9) (f1 : v' 1 = v 1) (f12 : v' 12 = v 12) (f13 : v' 13 = v 13) (f14 : v' 14 = v 14) : SR c' v' := by
  unfold SR
  rw [l1, a, f1, f12, f13, f14]
  exact h
theorem SV.fr {c c' : Cs} {v v' : Vw} (h : SV c v) (l1 : c'.2.2.1 2 = c.2.2.1 2) (a : c'.2.1 11 = c.2.1 11) (f2 : v' 2 = v 2) (f15 : v' 15 = v 15) (f16 : v' 16 = v 16) (f17 : v' 17 = v 17) (f19 : v' 19 = v 19) (f20 : v' 20 = v 20) : SV c' v' := by
  unfold SV
  rw [l1, a, f2, f15, f16, f17, f19, f20]
  exact h
theorem SB.fr {c c' : Cs} {v v' : Vw} (h : SB c v) (l1 : c'.2.2.1 3 = c.2.2.1 3) (a : c'.2.1 3 = c.2.1 3) (f5 : v' 5 = v 5) (f26 : v' 26 = v 26) (f27 : v' 27 = v 27) (f28 : v' 28 = v 28) (f29 : v' 29 = v 29) (f30 : v' 30 = v 30) (f31 : v' 31 = v 31) : SB c' v' := by
  unfold SB
  rw [l1, a, f5, f26, f27, f28, f29, f30, f31]
  exact h
theorem pts_fr {v v' : Vw} (f4 : v' 4 = v 4) (f22 : v' 22 = v 22) (f23 : v' 23 = v 23) (f24 : v' 24 = v 24) (f25 : v' 25 = v 25) (s : Int) : pts v' s = pts v s := by
  unfold pts
  rw [f4, f22, f23, f24, f25]
theorem SY.fr {c c' : Cs} {v v' : Vw} (h : SY c v) (l0 : c'.2.2.1 0 = c.2.2.1 0) (l1 : ∀ s, 0 ≤ s → s < 4 → c'.2.2.1 (13 + s) = c.2.2.1 (13 + s)) (a : c'.2.1 12 0 = c.2.1 12 0) (a7 : c'.2.1 7 = c.2.1 7) (n7 : c.1 7 ≤ c'.1 7) (f4 : v' 4 = v 4) (f21 : v' 21 = v 21) (f22 : v' 22 = v 22) (f23 : v' 23 = v 23) (f24 : v' 24 = v 24) (f25 : v' 25 = v 25) : SY c' v' := by
  refine ⟨l0.trans h.1, fun s h0 h4 => ?_⟩
  obtain ⟨g1, g2, g3⟩ := h.2 s h0 h4
  rw [l1 s h0 h4, a, a7, f21, pts_fr f4 f22 f23 f24 f25 s]
  exact ⟨g1, fun p hp => ⟨(g2 p hp).1, by have := (g2 p hp).2; omega⟩, g3⟩
theorem SQ.fr {c c' : Cs} {v v' : Vw} (h : SQ c v) (l1 : c'.2.2.1 4 = c.2.2.1 4) (f7 : v' 7 = v 7) (f39 : v' 39 = v 39) : SQ c' v' := by
  unfold SQ
  rw [l1, f7, f39]
  exact h
theorem SO.fr {c c' : Cs} {v v' : Vw} (h : SO c v) (l0 : c'.2.2.1 5 = c.2.2.1 5) (l1 : ∀ o, 0 ≤ o → o < v 6 0 → c'.2.2.1 (17 + o) = c.2.2.1 (17 + o)) (a : c'.2.1 5 = c.2.1 5) (a6 : c'.2.1 6 = c.2.1 6) (n6 : c.1 6 ≤ c'.1 6) (f6 : v' 6 = v 6) (f32 : v' 32 = v 32) (f33 : v' 33 = v 33) (f34 : v' 34 = v 34) (f35 : v' 35 = v 35) (f36 : v' 36 = v 36) (f37 : v' 37 = v 37) : SO c' v' := by
  refine ⟨by rw [l0, f6]; exact h.1, fun o h0 h1 => ?_⟩
  rw [f6] at h1
  obtain ⟨g1, g2, g3⟩ := h.2 o h0 h1
  rw [l1 o h0 h1, a, a6, f32, f33, f34, f35, f36, f37]
  exact ⟨g1, fun p hp => ⟨(g2 p hp).1, by have := (g2 p hp).2; omega⟩, g3⟩
theorem SU.fr {c c' : Cs} {v v' : Vw} (h : SU c v) (l1 : c'.2.2.1 6 = c.2.2.1 6) (f6 : v' 6 = v 6) (f32 : v' 32 = v 32) : SU c' v' := by
  unfold SU
  rw [l1, f6, due_congr (v := v) (fun i => congrFun f32 i)]
  exact h
theorem SE.fr {c c' : Cs} {v v' : Vw} (h : SE c v) (l1 : c'.2.2.1 7 = c.2.2.1 7) (a : c'.2.1 4 = c.2.1 4) (f9 : v' 9 = v 9) (f44 : v' 44 = v 44) (f45 : v' 45 = v 45) (f46 : v' 46 = v 46) : SE c' v' := by
  unfold SE
  rw [l1, a, f9, f44, f45, f46]
  exact h
theorem SD.fr {c c' : Cs} {v v' : Vw} (h : SD c v) (l1 : c'.2.2.1 8 = c.2.2.1 8) (f2 : v' 2 = v 2) (f15 : v' 15 = v 15) (f18 : v' 18 = v 18) (f10 : v' 10 = v 10) : SD c' v' := by
  unfold SD
  rw [l1, f2, f15, f18, f10]
  exact h
theorem SS.fr {c c' : Cs} {v v' : Vw} (h : SS c v) (l1 : c'.2.2.1 9 = c.2.2.1 9) (n : c'.1 10 = c.1 10) (a : c'.2.1 10 0 = c.2.1 10 0) (f2 : v' 2 = v 2) (f20 : v' 20 = v 20) : SS c' v' := by
  unfold SS
  rw [l1, n, a, f2, f20]
  exact h
theorem fuw {m : Nat} (h : m < 1000) : m < fu := by
  rw [fu_s]
  omega
theorem isThere_eq {c : Cs} {v : Vw} {T E s : Int} (hS : Sm c v) (hI : IM v T E) (h0 : 0 ≤ s) (h4 : s < 4) : ok_X9_isThere s (c.2.1 13 11 0) c ∧ g_X9_isThere s (c.2.1 13 11 0) c = f_hasYeast s v := by
  have hp : c.2.1 12 0 s = v 21 s := (hS.cy.2 s h0 h4).1
  have u21 : 0 ≤ v 21 s ∧ v 21 s ≤ 9 * T := hI.2 21 s
  have hT := hI.1
  have hl6 := pav_len hI s
  obtain ⟨hl, hf⟩ := yst hS h0 h4
  obtain ⟨g1, g2⟩ := yfirst hS hI h0 h4
  have ra : R32 (g_X9_firstUsable s (c.2.1 13 11 0) c) := by rcases g2 with ⟨_, g⟩ | ⟨g, g', _⟩ <;> exact ⟨by omega, by omega⟩
  unfold ok_X9_isThere g_X9_isThere f_hasYeast
  rw [hp]
  refine ⟨⟨⟨by omega, by omega⟩, ?_⟩, ?_⟩
  · split
    · exact trivial
    · exact ⟨g1, ra, trivial⟩
  · by_cases c1 : 0 < v 21 s
    · rw [if_pos c1, if_pos c1]
    · rw [if_neg c1, if_neg c1]
      rcases g2 with ⟨q1, q2⟩ | ⟨q1, q2, q3⟩
      · rw [if_pos (by omega), if_pos q1]
      · have hm := pav_mem.mp (lget_mem (xs := pav v s) q1 (by omega))
        rw [if_neg (by omega), if_neg (by omega)]
theorem l0_yeast {c : Cs} {v : Vw} (hS : Sm c v) {i : Int} (h0 : 0 ≤ i) (h1 : i < 4) : ((c.2.2.1 0).length : Int) = 4 ∧ lget (c.2.2.1 0) i = i := by
  rw [hS.cy.1]
  exact ⟨rng_len (by decide), lget_rng h0 h1⟩
theorem l0_len {c : Cs} {v : Vw} (hS : Sm c v) : ((c.2.2.1 0).length : Int) = 4 := by
  rw [hS.cy.1]
  exact rng_len (by decide)
theorem c_in3 (a : Int) : (0 ≤ a ∧ a < 4 ∧ f_in a 0 3 = 1) ∨ (¬ (0 ≤ a ∧ a < 4) ∧ f_in a 0 3 = 0) := by
  rcases c_in a 0 3 with h | h
  · exact Or.inl ⟨h.2.1, by omega, h.1⟩
  · exact Or.inr ⟨by omega, h.1⟩
theorem fc_nextGeneration {c : Cs} {v : Vw} {T E a : Int} (hN : INV c v) (hI : IM v T E) (ha : R32 a) : ok_X10_nextGeneration a c ∧ Ans (fun k => if k = 1 then xIAE else xNSE) (g_X10_nextGeneration a c) (f_nextGeneration a v) ∧ INV (g_X10_nextGeneration a c).2 (f_nextGeneration a v).2 := by
  have hl := l0_len hN.1
  unfold ok_X10_nextGeneration ok_X10_yeastOf g_X10_nextGeneration f_nextGeneration
  rcases c_in3 a with ⟨h0, h4, e⟩ | ⟨h, e⟩
  · have el := (l0_yeast hN.1 h0 h4).2
    obtain ⟨k1, k2⟩ := isThere_eq hN.1 hI h0 h4
    have hJ : IM (upv v 0 0 0) T E := hI.up 0 0 0 (by show (0 : Int) ≤ 0 ∧ (0 : Int) ≤ 4; omega)
    obtain ⟨y1, y2⟩ := yfirst hN.1.v0 hJ h0 h4 (v := upv v 0 0 0)
    obtain ⟨z1, z2⟩ := yst hN.1.v0 h0 h4 (v := upv v 0 0 0)
    have z3 := pav_len hJ a
    have ra : R32 (g_X9_firstUsable a (c.2.1 13 11 0) c) := by rcases y2 with ⟨_, g⟩ | ⟨g, g', _⟩ <;> exact ⟨by omega, by omega⟩
    simp only [hl, el, e, k2, if_pos (show 0 ≤ a ∧ a < 4 from ⟨h0, h4⟩), if_neg ne10]
    refine ⟨?_, ?_, ?_⟩
    · refine ⟨?_, k1, ?_⟩
      · repeat' first | exact trivial | refine ⟨?_, ?_⟩ | split | omega
      · split
        · exact trivial
        · refine ⟨⟨y1, ra, ?_⟩, trivial⟩
          split
          · exact trivial
          · rcases y2 with ⟨q1, q2⟩ | ⟨q1, q2, q3⟩
            · omega
            · exact ⟨⟨q1, q2⟩, trivial⟩
    · by_cases c1 : f_hasYeast a v = 0
      · simp only [if_pos c1]
        exact Or.inr ⟨by show (1 : Int) ≤ 2; omega, rfl⟩
      · simp only [if_neg c1]
        unfold g_X9_generationToTake
        rcases y2 with ⟨q1, q2⟩ | ⟨q1, q2, q3⟩
        · rw [if_pos q1, if_pos (show g_X9_firstUsable a (c.2.1 13 11 0) c < 0 by omega)]
          exact Or.inl ⟨rfl, rfl⟩
        · have hm := pav_mem.mp (lget_mem (xs := pav (upv v 0 0 0) a) q1 (by omega))
          rw [if_neg (show ¬ f_firstPitch a (upv v 0 0 0) = -1 by omega), if_neg (show ¬ g_X9_firstUsable a (c.2.1 13 11 0) c < 0 by omega), (z2 _ q1 q2).1, ← q3]
          exact Or.inl ⟨rfl, rfl⟩
    · repeat' split
      all_goals first | exact hN.v0 | exact hN.exc.v0
  · simp only [hl, e, if_neg (show ¬ (0 ≤ a ∧ a < 4) from h), if_true]
    refine ⟨?_, Or.inr ⟨Int.le_refl 1, rfl⟩, hN.v0⟩
    repeat' first | exact trivial | refine ⟨?_, ?_⟩ | split | omega
theorem cu_count {s d : Int} {c : Cs} : ∀ (n : Nat) (u i : Int), 0 ≤ i → (((c.2.2.1 (13 + s)).length : Int) - i).toNat < n → l_X9_countUsable_4 s d c n u i = u + (((c.2.2.1 (13 + s)).drop i.toNat).countP (fun p => decide (¬ g_X4_isUsable p d c = 0)) : Nat) := by
  intro n
  induction n with
  | zero => exact fun _ _ _ h => absurd h (Nat.not_lt_zero _)
  | succ n ih =>
    intro u i hi hm
    rw [l_X9_countUsable_4]
    by_cases c1 : ((c.2.2.1 (13 + s)).length : Int) ≤ i
    · rw [if_pos c1, List.drop_eq_nil_of_le (by omega)]
      simp
    · rw [if_neg c1, drop_lget hi (by omega)]
      by_cases c2 : g_X4_isUsable (lget (c.2.2.1 (13 + s)) i) d c = 0
      · rw [if_pos c2, ih _ _ (by omega) (by omega), List.countP_cons_of_neg (by simp [c2])]
        omega
      · rw [if_neg c2, ih _ _ (by omega) (by omega), List.countP_cons_of_pos (by simp [c2])]
        omega
theorem cp_count {s : Int} {v : Vw} (h4 : 0 ≤ v 4 0) : ∀ (n : Nat) (u i : Int), 0 ≤ i → (v 4 0 - i).toNat < n → l_pitches_24 s v n u i = u + (((rng (v 4 0)).drop i.toNat).countP (fun p => decide (¬ f_isUsable p s v = 0)) : Nat) := by
  have hl := rng_len h4
  intro n
  induction n with
  | zero => exact fun _ _ _ h => absurd h (Nat.not_lt_zero _)
  | succ n ih =>
    intro u i hi hm
    rw [l_pitches_24]
    by_cases c1 : v 4 0 ≤ i
    · rw [if_pos c1, List.drop_eq_nil_of_le (by omega)]
      simp
    · rw [if_neg c1, drop_lget hi (by omega), lget_rng hi (by omega)]
      by_cases c2 : f_isUsable i s v = 0
      · rw [if_pos c2, ih _ _ (by omega) (by omega), List.countP_cons_of_neg (by simp [c2])]
        omega
      · rw [if_neg c2, ih _ _ (by omega) (by omega), List.countP_cons_of_pos (by simp [c2])]
        omega
theorem okl_count {s d : Int} {c : Cs} (hl : (c.2.2.1 (13 + s)).length ≤ 900) (hd : R32 d) (hp : ∀ q, 0 ≤ q → q < ((c.2.2.1 (13 + s)).length : Int) → R32 (c.2.1 7 1 (lget (c.2.2.1 (13 + s)) q) + 10)) : ∀ (n : Nat) (u i : Int), 0 ≤ i → i ≤ ((c.2.2.1 (13 + s)).length : Int) → (((c.2.2.1 (13 + s)).length : Int) - i).toNat < n → okl_X9_countUsable_4 s d c n u i := by
  intro n
  induction n with
  | zero => exact fun _ p _ _ h => absurd h (Nat.not_lt_zero _)
  | succ n ih =>
    intro u i hi h2 hm
    rw [okl_X9_countUsable_4]
    refine ⟨⟨by omega, by omega⟩, ?_⟩
    by_cases c1 : ((c.2.2.1 (13 + s)).length : Int) ≤ i
    · rw [if_pos c1]
      exact trivial
    · rw [if_neg c1]
      refine ⟨⟨hi, by omega⟩, ⟨hd, hp i hi (by omega), trivial⟩, ?_⟩
      split
      · exact ih _ (i + 1) (by omega) (by omega) (by omega)
      · exact ih _ (i + 1) (by omega) (by omega) (by omega)
theorem ycount {c : Cs} {v : Vw} {T E s : Int} (hS : Sm c v) (hI : IM v T E) (h0 : 0 ≤ s) (h4 : s < 4) : ok_X9_countUsable s (c.2.1 13 11 0) c ∧ g_X9_countUsable s (c.2.1 13 11 0) c = l_pitches_24 s v ((v 4 0 - 0).toNat + 1) 0 0 := by
  have hd : c.2.1 13 11 0 = v 8 0 := hS.c0.2.2.2
  have u8 : 0 ≤ v 8 0 ∧ v 8 0 ≤ T := hI.2 8 0
  have hT := hI.1
  obtain ⟨hl, hf⟩ := yst hS h0 h4
  have hl6 := pav_len hI s
  have u4 : 0 ≤ v 4 0 ∧ v 4 0 ≤ 60 := hI.2 4 0
  refine ⟨?_, ?_⟩
  · unfold ok_X9_countUsable
    refine okl_count (by omega) ⟨by omega, by omega⟩ (fun q q0 q1 => ?_) fu 0 0 (by omega) (by omega) (fuw (by omega))
    rw [(hf q q0 q1).2]
    have u24 : 0 ≤ v 24 (lget (pav v s) q) ∧ v 24 (lget (pav v s) q) ≤ T := hI.2 24 _
    exact ⟨by omega, by omega⟩
  · unfold g_X9_countUsable
    rw [cu_count fu 0 0 (by omega) (fuw (by omega)), cp_count u4.1 _ 0 0 (by omega) (by omega)]
    show (0 : Int) + ((List.countP _ (c.2.2.1 (13 + s))) : Nat) = 0 + ((List.countP _ (rng (v 4 0))) : Nat)
    have e1 : List.countP (fun p => decide (¬ g_X4_isUsable p (c.2.1 13 11 0) c = 0)) (c.2.2.1 (13 + s)) = List.countP (fun x : Int × Int => decide (v 8 0 ≤ x.2 + 10)) ((c.2.2.1 (13 + s)).map (fun p => (c.2.1 7 0 p, c.2.1 7 1 p))) := by
      rw [List.countP_map]
      refine List.countP_congr (fun p _ => ?_)
      show decide (¬ g_X4_isUsable p (c.2.1 13 11 0) c = 0) = true ↔ decide (v 8 0 ≤ c.2.1 7 1 p + 10) = true
      rw [decide_eq_true_iff, decide_eq_true_iff]
      unfold g_X4_isUsable
      rw [hd]
      split <;> omega
    rw [e1, (hS.cy.2 s h0 h4).2.2]
    unfold pts
    rw [List.countP_map, List.countP_filter]
    have e2 : List.countP (fun a => ((fun x : Int × Int => decide (v 8 0 ≤ x.2 + 10)) ∘ fun p => (v 23 p, v 24 p)) a && decide (v 25 a = 0 ∧ v 22 a = s)) (rng (v 4 0)) = List.countP (fun p => decide (¬ f_isUsable p s v = 0)) (rng (v 4 0)) := by
      refine List.countP_congr (fun p _ => ?_)
      show (decide (v 8 0 ≤ v 24 p + 10) && decide (v 25 p = 0 ∧ v 22 p = s)) = true ↔ _
      rw [Bool.and_eq_true, decide_eq_true_iff, decide_eq_true_iff, decide_eq_true_iff, isU]
      exact And.comm
    rw [e2]
theorem fc_pitches {c : Cs} {v : Vw} {T E a : Int} (hN : INV c v) (hI : IM v T E) (ha : R32 a) : ok_X10_pitches a c ∧ Ans (fun _ => xIAE) (g_X10_pitches a c) (f_pitches a v) ∧ INV (g_X10_pitches a c).2 (f_pitches a v).2 := by
  have hl := l0_len hN.1
  unfold ok_X10_pitches ok_X10_yeastOf g_X10_pitches f_pitches
  rcases c_in3 a with ⟨h0, h4, e⟩ | ⟨h, e⟩
  · have el := (l0_yeast hN.1 h0 h4).2
    have hJ : IM (upv v 0 0 0) T E := hI.up 0 0 0 (by show (0 : Int) ≤ 0 ∧ (0 : Int) ≤ 4; omega)
    obtain ⟨k1, k2⟩ := ycount hN.1.v0 hJ h0 h4 (v := upv v 0 0 0)
    simp only [hl, el, e, k2, if_pos (show 0 ≤ a ∧ a < 4 from ⟨h0, h4⟩), if_neg ne10]
    refine ⟨⟨?_, k1, trivial⟩, Or.inl ⟨rfl, rfl⟩, hN.v0⟩
    repeat' first | exact trivial | refine ⟨?_, ?_⟩ | split | omega
  · simp only [hl, e, if_neg (show ¬ (0 ≤ a ∧ a < 4) from h), if_true]
    refine ⟨?_, Or.inr ⟨Int.le_refl 1, rfl⟩, hN.v0⟩
    repeat' first | exact trivial | refine ⟨?_, ?_⟩ | split | omega
