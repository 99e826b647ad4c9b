/-! a day passes: brews grow older, move on -/
theorem Sm.harv {c : Cs} {v : Vw} {s g d : Int} (hS : Sm c v) (h4 : 0 ≤ v 4 0) (h25 : v 25 (v 4 0) = 0) (hs : 0 ≤ s ∧ s < 4) : Sm (hC c s g d) (hV v s g d) := by
  obtain ⟨s0, s1, s2, s3, s4, s5, s6, s7, s8, s9, s10⟩ := hS
  have l0 : ∀ j, ¬ j = 13 + s → (hC c s g d).2.2.1 j = c.2.2.1 j := fun j hj => clst_ne (g_X4_init (c.1 7) g d (cnew c 7)) hj
  have F : ∀ k, k ≠ 4 ∧ k ≠ 22 ∧ k ≠ 23 ∧ k ≠ 24 → hV v s g d k = v k := fun k h => hV_fr h
  refine ⟨?_, ?_, ?_, ?_, s4.harv s0.2.1.2.1.1 h4 h25 hs, ?_, ?_, ?_, ?_, ?_, ?_⟩
  · refine s0.fr rfl rfl rfl rfl rfl rfl (Int.le_refl _) ?_ rfl rfl rfl (by rw [F 1 (by decide)]) (by rw [F 2 (by decide)]) (by rw [F 3 (by decide)]) (by rw [F 5 (by decide)]) (by rw [F 6 (by decide)]) (by rw [F 8 (by decide)]) (by rw [F 9 (by decide)]) ?_
    · show c.1 7 ≤ c.1 7 + 1
      omega
    · rw [show hV v s g d 4 0 = v 4 0 + 1 from upv_eq _ _ _ _]
      show c.1 7 + 1 - c.1 7 ≤ v 4 0 + 1 - v 4 0
      omega
  · exact s1.fr (l0 _ (by omega)) rfl (F 1 (by decide)) (F 12 (by decide)) (F 13 (by decide)) (F 14 (by decide))
  · exact s2.fr (l0 _ (by omega)) rfl (F 2 (by decide)) (F 15 (by decide)) (F 16 (by decide)) (F 17 (by decide)) (F 19 (by decide)) (F 20 (by decide))
  · exact s3.fr (l0 _ (by omega)) rfl (F 5 (by decide)) (F 26 (by decide)) (F 27 (by decide)) (F 28 (by decide)) (F 29 (by decide)) (F 30 (by decide)) (F 31 (by decide))
  · exact s5.fr (l0 _ (by omega)) (F 7 (by decide)) (F 39 (by decide))
  · exact s6.fr (l0 _ (by omega)) (fun o _ _ => l0 _ (by omega)) rfl rfl (Int.le_refl _) (F 6 (by decide)) (F 32 (by decide)) (F 33 (by decide)) (F 34 (by decide)) (F 35 (by decide)) (F 36 (by decide)) (F 37 (by decide))
  · exact s7.fr (l0 _ (by omega)) (F 6 (by decide)) (F 32 (by decide))
  · exact s8.fr (l0 _ (by omega)) rfl (F 9 (by decide)) (F 44 (by decide)) (F 45 (by decide)) (F 46 (by decide))
  · exact s9.fr (l0 _ (by omega)) (F 2 (by decide)) (F 15 (by decide)) (F 18 (by decide)) (F 10 (by decide))
  · exact s10.fr (l0 _ (by omega)) rfl rfl (F 2 (by decide)) (F 20 (by decide))
theorem VB.harv {v : Vw} {s g d : Int} (h : VB v) : VB (hV v s g d) := by
  have F : ∀ k, k ≠ 4 ∧ k ≠ 22 ∧ k ≠ 23 ∧ k ≠ 24 → hV v s g d k = v k := fun k h => hV_fr h
  refine h.st (F 1 (by decide)) (F 2 (by decide)) (F 5 (by decide)) (F 6 (by decide)) (F 9 (by decide)) (F 16 (by decide)) (F 26 (by decide)) (F 29 (by decide)) (F 33 (by decide)) (F 34 (by decide)) (F 36 (by decide)) (F 37 (by decide)) (F 44 (by decide)) (F 45 (by decide)) (F 46 (by decide)) (fun w => Or.inl (congrFun (F 15 (by decide)) w)) (fun p hp => ?_) (fun b _ _ => ?_)
  · have e4 : hV v s g d 4 0 = v 4 0 + 1 := upv_eq _ _ _ _
    rw [F 25 (by decide)]
    exact h.2.2.1.2 p (by omega)
  · rw [F 28 (by decide), F 31 (by decide)]
    exact ⟨Iff.rfl, Or.inl ⟨rfl, rfl⟩⟩
def ageC (b : Int) (c : Cs) : Cs := if (g_X0_isAtWork b c) = 0 then c else if (c.2.1 3 4 b) - 1 = 0 then g_X10_finishPhase b (cput c 3 4 b ((c.2.1 3 4 b) - 1)) else cput c 3 4 b ((c.2.1 3 4 b) - 1)
def okage (b : Int) (c : Cs) : Prop := ok_X0_isAtWork b c ∧ (¬ (g_X0_isAtWork b c) = 0 → R32 ((c.2.1 3 4 b) - 1) ∧ ((c.2.1 3 4 b) - 1 = 0 → ok_X10_finishPhase b (cput c 3 4 b ((c.2.1 3 4 b) - 1))))
theorem INV.goes {c : Cs} {v : Vw} {T E b : Int} (hN : INV c v) (hI : IM v T E) (h0 : 0 ≤ b) (h5 : b < v 5 0) : okage b c ∧ INV (ageC b c) (f_goesOn b v) := by
  have u5 : 0 ≤ v 5 0 ∧ v 5 0 ≤ 30 := hI.2 5 0
  have hCI := CI_goesOn (b := b) ⟨h0, by omega⟩ h5 hN.2.2.1
  have hCJ := CJ_goesOn (b := b) ⟨h0, h5⟩ hN.2.2.2
  have hl60 := pav_len hI
  obtain ⟨q0, q1, q2, q3, q4, q5, q6⟩ := hN.1.cb.2 b h0 h5
  have u28 : 0 ≤ v 28 b ∧ v 28 b ≤ 4 := hI.2 28 b
  have u30 : 0 ≤ v 30 b ∧ v 30 b ≤ 15 := hI.2 30 b
  have u27 : 0 ≤ v 27 b ∧ v 27 b ≤ 4 := hI.2 27 b
  have u4 : 0 ≤ v 4 0 ∧ v 4 0 ≤ 60 := hI.2 4 0
  have r3 := phc_r (v 28 b)
  have hw : ∀ z, v 28 b = z → g_X0_isAtWork b c = if z = 0 ∨ z = 2 then 1 else 0 := fun z hz => by
    unfold g_X0_isAtWork
    rw [q3, hz]
    by_cases c1 : z = 0
    · rw [if_pos (phc_0.mpr c1), if_pos (Or.inl c1)]
    · rw [if_neg (fun g => c1 (phc_0.mp g))]
      by_cases c2 : z = 2
      · rw [if_pos (phc_2.mpr c2), if_pos (Or.inr c2)]
      · rw [if_neg (fun g => c2 (phc_2.mp g)), if_neg (fun g => g.elim c1 c2)]
  have okw : ok_X0_isAtWork b c := by
    unfold ok_X0_isAtWork
    rw [q3]
    exact ⟨⟨by omega, by omega⟩, trivial⟩
  obtain ⟨⟨s0, s1, s2, s3, s4, s5, s6, s7, s8, s9, s10⟩, hB, hC0, hJ⟩ := hN
  have old : ∀ x k z, x ≠ b → (cput c 3 4 b z).2.1 3 k x = c.2.1 3 k x := fun x k z hx => cput_i c hx
  -- one day less to go
  have less : v 28 b = 0 ∨ v 28 b = 2 → ¬ v 30 b - 1 = 0 → Sm (cput c 3 4 b (v 30 b - 1)) (upv v 30 b (v 30 b - 1)) ∧ VB (upv v 30 b (v 30 b - 1)) := fun hs hz => by
    refine ⟨⟨s0, s1, s2, ?_, s4, s5, s6, s7.fr rfl rfl rfl, s8, s9, s10⟩, hB⟩
    refine s3.one (b := b) rfl (fun k x hx => cput_i c hx) rfl (fun k hk x hx => upv_ni hx) (fun _ _ => ?_)
    have e28 : upv v 30 b (v 30 b - 1) 28 b = v 28 b := rfl
    rw [e28]
    exact ⟨q0, q1, q2, q3, fun _ => (cput_eq _ _ _ _ _).trans (upv_eq _ _ _ _).symm, q5, q6⟩
  unfold okage ageC f_goesOn
  by_cases c0 : v 28 b = 0
  · have h1 := hJ.1 b h0 h5 (Or.inl c0)
    have e1 := hw 0 c0
    rw [if_pos (Or.inl rfl)] at e1
    rw [e1, q4 (Or.inl c0), if_neg ne10]
    by_cases cz : v 30 b - 1 = 0
    · rw [if_pos cz]
      have e3 : f_goesOn b v = l_goesOn_75 b (((2 : Int) - 0).toNat + 1) 0 (upv (upv v 30 b (v 30 b - 1)) 28 b 1) := by
        unfold f_goesOn
        rw [if_pos c0, if_pos (show v 30 b - 1 ≤ 0 by omega), if_neg (show ¬ v 28 b = 2 by omega)]
      rw [if_pos c0, if_pos (show v 30 b - 1 ≤ 0 by omega), if_neg (show ¬ v 28 b = 2 by omega)]
      rw [e3] at hCI hCJ
      have S1 : Sm (cput (cput c 3 4 b (v 30 b - 1)) 3 3 b 119) (upv (upv v 30 b (v 30 b - 1)) 28 b 1) := by
        refine ⟨s0, s1, s2, ?_, s4, s5, s6, s7.fr rfl rfl rfl, s8, s9, s10⟩
        refine s3.one (b := b) rfl (fun k x hx => (cput_i _ hx).trans (cput_i _ hx)) rfl (fun k hk x hx => (upv_ni hx).trans (upv_ni hx)) (fun _ _ => ?_)
        have e28 : upv (upv v 30 b (v 30 b - 1)) 28 b 1 28 b = 1 := upv_eq _ _ _ _
        rw [e28]
        rw [c0] at q6
        exact ⟨q0, q1, q2, cput_eq _ _ _ _ _, fun q => by omega, fun q => by omega, q6⟩
      have B1 : VB (upv (upv v 30 b (v 30 b - 1)) 28 b 1) := hB.st rfl rfl rfl rfl rfl rfl rfl rfl rfl rfl rfl rfl rfl rfl rfl (fun w => Or.inl rfl) hB.2.2.1.2 (fun x x0 x1 => by
        by_cases ex : x = b
        · subst ex
          have e28 : upv (upv v 30 x (v 30 x - 1)) 28 x 1 28 x = 1 := upv_eq _ _ _ _
          rw [e28, c0]
          exact ⟨⟨fun q => by omega, fun q => by omega⟩, Or.inr (Or.inl ⟨by decide, by decide, by decide, by decide⟩)⟩
        · have e28 : upv (upv v 30 b (v 30 b - 1)) 28 b 1 28 x = v 28 x := (upv_ni ex).trans (upv_ni ex)
          rw [e28]
          exact ⟨Iff.rfl, Or.inl ⟨rfl, rfl⟩⟩)
      have u26 := (hB.1 b h0 h5).1
      have y2 := (s1.2 (v 26 b) u26.1 u26.2).2.2.1
      have u12 : 0 ≤ v 12 (v 26 b) ∧ v 12 (v 26 b) ≤ 3 := hI.2 12 (v 26 b)
      have eg : g_X10_finishPhase b (cput c 3 4 b (v 30 b - 1)) = g_X9_harvest (v 12 (v 26 b)) (v 27 b + 1) (v 8 0) (cput (cput c 3 4 b (v 30 b - 1)) 3 3 b 119) := by
        unfold g_X10_finishPhase
        show (if c.2.1 3 3 b = 102 then g_X9_harvest (c.2.1 9 2 (c.2.1 3 1 b)) (c.2.1 3 2 b + 1) (c.2.1 13 11 0) _ else _) = _
        rw [q3, if_pos (phc_0.mpr c0), q1, q2, y2, s0.2.2.2]
      have hlen : ((c.2.2.1 (13 + v 12 (v 26 b))).length : Int) ≤ 190 := by
        have g1 := (ysty s4 u12.1 (show v 12 (v 26 b) < 4 by omega)).1
        have := hl60 (v 12 (v 26 b))
        omega
      have eo : ok_X10_finishPhase b (cput c 3 4 b (v 30 b - 1)) := by
        unfold ok_X10_finishPhase
        show R32 (c.2.1 3 3 b) ∧ (if c.2.1 3 3 b = 102 then c.2.1 3 1 b ≠ -1 ∧ (c.2.1 9 2 (c.2.1 3 1 b) ≠ -1 ∧ (ok_X9_harvest (c.2.1 9 2 (c.2.1 3 1 b)) (c.2.1 3 2 b + 1) (c.2.1 13 11 0) (cput (cput c 3 4 b (v 30 b - 1)) 3 3 b 119) ∧ True)) else True)
        rw [q3, if_pos (phc_0.mpr c0), q1, q2, y2]
        exact ⟨⟨by omega, by omega⟩, by omega, by omega, harv_ok ⟨by omega, by omega⟩ hlen, trivial⟩
      refine ⟨⟨okw, fun _ => ⟨⟨by omega, by omega⟩, fun _ => eo⟩⟩, ?_⟩
      rw [eg]
      rw [goes75] at hCI hCJ ⊢
      by_cases c4 : 4 ≤ v 27 b
      · have c4' : 4 ≤ upv (upv v 30 b (v 30 b - 1)) 28 b 1 27 b := c4
        rw [if_pos c4'] at hCI hCJ ⊢
        unfold g_X9_harvest
        rw [if_pos (show 4 < v 27 b + 1 by omega)]
        exact ⟨S1, B1, hCI, hCJ⟩
      · have c4' : ¬ 4 ≤ upv (upv v 30 b (v 30 b - 1)) 28 b 1 27 b := c4
        rw [if_neg c4'] at hCI hCJ ⊢
        rw [harv_eq (show ¬ 4 < v 27 b + 1 by omega)]
        have S2 := S1.harv (s := v 12 (v 26 b)) (g := v 27 b + 1) (d := v 8 0) u4.1 (hB.2.2.1.2 _ (Int.le_refl _)) ⟨u12.1, by omega⟩
        have B2 := B1.harv (s := v 12 (v 26 b)) (g := v 27 b + 1) (d := v 8 0)
        have e4 : hV (upv (upv v 30 b (v 30 b - 1)) 28 b 1) (v 12 (v 26 b)) (v 27 b + 1) (v 8 0) 4 0 = v 4 0 + 1 := upv_eq _ _ _ _
        have S3 := S2.harv (s := v 12 (v 26 b)) (g := v 27 b + 1) (d := v 8 0) (by rw [e4]; omega) (B2.2.2.1.2 _ (Int.le_refl _)) ⟨u12.1, by omega⟩
        exact ⟨S3, B2.harv, hCI, hCJ⟩
    · rw [if_neg cz]
      have e3 : f_goesOn b v = upv v 30 b (v 30 b - 1) := by
        unfold f_goesOn
        rw [if_pos c0, if_neg (show ¬ v 30 b - 1 ≤ 0 by omega)]
      rw [if_pos c0, if_neg (show ¬ v 30 b - 1 ≤ 0 by omega)]
      rw [e3] at hCI hCJ
      obtain ⟨g1, g2⟩ := less (Or.inl c0) cz
      exact ⟨⟨okw, fun _ => ⟨⟨by omega, by omega⟩, fun q => absurd q cz⟩⟩, g1, g2, hCI, hCJ⟩
  · rw [if_neg c0]
    by_cases c2 : v 28 b = 2
    · have h1 := hJ.1 b h0 h5 (Or.inr c2)
      have e1 := hw 2 c2
      rw [if_pos (Or.inr rfl)] at e1
      rw [e1, q4 (Or.inr c2), if_neg ne10, if_pos c2]
      by_cases cz : v 30 b - 1 = 0
      · have e3 : f_goesOn b v = upv (upv (upv v 30 b (v 30 b - 1)) 28 b 3) 31 b 20 := by
          unfold f_goesOn
          rw [if_neg c0, if_pos c2, if_pos (show v 30 b - 1 ≤ 0 by omega)]
        rw [if_pos cz, if_pos (show v 30 b - 1 ≤ 0 by omega)]
        rw [e3] at hCI hCJ
        have eg : g_X10_finishPhase b (cput c 3 4 b (v 30 b - 1)) = g_X0_becomeReady b (cput c 3 4 b (v 30 b - 1)) := by
          unfold g_X10_finishPhase
          show (if c.2.1 3 3 b = 102 then _ else _) = _
          rw [q3, if_neg (fun g => c0 (phc_0.mp g))]
        have eo : ok_X10_finishPhase b (cput c 3 4 b (v 30 b - 1)) := by
          unfold ok_X10_finishPhase
          show R32 (c.2.1 3 3 b) ∧ (if c.2.1 3 3 b = 102 then _ else True)
          rw [q3, if_neg (fun g => c0 (phc_0.mp g))]
          exact ⟨⟨by omega, by omega⟩, trivial⟩
        refine ⟨⟨okw, fun _ => ⟨⟨by omega, by omega⟩, fun _ => eo⟩⟩, ?_⟩
        rw [eg]
        refine ⟨⟨s0, s1, s2, ?_, s4, s5, s6, s7.fr rfl rfl rfl, s8, s9, s10⟩, ?_, hCI, hCJ⟩
        · refine s3.one (b := b) rfl (fun k x hx => (cput_i _ hx).trans ((cput_i _ hx).trans (cput_i _ hx))) rfl (fun k hk x hx => (upv_ni hx).trans ((upv_ni hx).trans (upv_ni hx))) (fun _ _ => ?_)
          have e28 : upv (upv (upv v 30 b (v 30 b - 1)) 28 b 3) 31 b 20 28 b = 3 := (upv_nk (by decide)).trans (upv_eq _ _ _ _)
          have e33 : (g_X0_becomeReady b (cput c 3 4 b (v 30 b - 1))).2.1 3 3 b = 114 := (cput_k _ (by decide)).trans (cput_eq _ _ _ _ _)
          rw [e28, e33]
          rw [c2] at q6
          exact ⟨q0, q1, q2, rfl, fun q => by omega, fun _ => (cput_eq _ _ _ _ _).trans (upv_eq _ _ _ _).symm, q6⟩
        · refine hB.st rfl rfl rfl rfl rfl rfl rfl rfl rfl rfl rfl rfl rfl rfl rfl (fun w => Or.inl rfl) hB.2.2.1.2 (fun x x0 x1 => ?_)
          by_cases ex : x = b
          · subst ex
            have e28 : upv (upv (upv v 30 x (v 30 x - 1)) 28 x 3) 31 x 20 28 x = 3 := (upv_nk (by decide)).trans (upv_eq _ _ _ _)
            rw [e28, c2]
            exact ⟨⟨fun q => by omega, fun q => by omega⟩, Or.inr (Or.inr ⟨by decide, by decide, rfl, upv_eq _ _ _ _⟩)⟩
          · have e28 : upv (upv (upv v 30 b (v 30 b - 1)) 28 b 3) 31 b 20 28 x = v 28 x := (upv_ni ex).trans ((upv_ni ex).trans (upv_ni ex))
            have e31 : upv (upv (upv v 30 b (v 30 b - 1)) 28 b 3) 31 b 20 31 x = v 31 x := (upv_ni ex).trans ((upv_ni ex).trans (upv_ni ex))
            rw [e28, e31]
            exact ⟨Iff.rfl, Or.inl ⟨rfl, rfl⟩⟩
      · have e3 : f_goesOn b v = upv v 30 b (v 30 b - 1) := by
          unfold f_goesOn
          rw [if_neg c0, if_pos c2, if_neg (show ¬ v 30 b - 1 ≤ 0 by omega)]
        rw [if_neg cz, if_neg (show ¬ v 30 b - 1 ≤ 0 by omega)]
        rw [e3] at hCI hCJ
        obtain ⟨g1, g2⟩ := less (Or.inr c2) cz
        exact ⟨⟨okw, fun _ => ⟨⟨by omega, by omega⟩, fun q => absurd q cz⟩⟩, g1, g2, hCI, hCJ⟩
    · have e1 := hw (v 28 b) rfl
      rw [if_neg (fun g => g.elim c0 c2)] at e1
      rw [e1, if_pos rfl, if_neg c2]
      exact ⟨⟨okw, fun q => absurd rfl q⟩, ⟨s0, s1, s2, s3, s4, s5, s6, s7, s8, s9, s10⟩, hB, hC0, hJ⟩
theorem age_step {n : Nat} {i : Int} {c : Cs} (h0 : 0 ≤ i) (hi : ¬ ((c.2.2.1 3).length : Int) ≤ i) (hg : lget (c.2.2.1 3) i = i) (hr : R32 i) (hok : okage i c) (k : okl_X10_ageBrews_2 n (i + 1) (ageC i c)) : okl_X10_ageBrews_2 (n + 1) i c ∧ l_X10_ageBrews_2 (n + 1) i c = l_X10_ageBrews_2 n (i + 1) (ageC i c) := by
  rw [okl_X10_ageBrews_2, l_X10_ageBrews_2, if_neg hi, if_neg hi, hg]
  unfold ageC at k ⊢
  obtain ⟨o1, o2⟩ := hok
  by_cases c1 : g_X0_isAtWork i c = 0
  · rw [if_pos c1] at k ⊢
    rw [if_pos c1, if_pos c1]
    exact ⟨⟨hr, ⟨h0, by omega⟩, o1, k⟩, rfl⟩
  · obtain ⟨o3, o4⟩ := o2 c1
    rw [if_neg c1] at k ⊢
    rw [if_neg c1, if_neg c1]
    by_cases c2 : c.2.1 3 4 i - 1 = 0
    · rw [if_pos c2] at k ⊢
      rw [if_pos c2, if_pos c2]
      exact ⟨⟨hr, ⟨h0, by omega⟩, o1, o3, o4 c2, k⟩, rfl⟩
    · rw [if_neg c2] at k ⊢
      rw [if_neg c2, if_neg c2]
      exact ⟨⟨hr, ⟨h0, by omega⟩, o1, o3, k⟩, rfl⟩
theorem age_day {T E : Int} : ∀ (n m : Nat) (i : Int) (c : Cs) (v : Vw), INV c v → IM v T E → 0 ≤ i → i ≤ v 5 0 → (v 5 0 - i).toNat < n → (v 5 0 - i).toNat < m → okl_X10_ageBrews_2 n i c ∧ INV (l_X10_ageBrews_2 n i c) (l_passes_67 m i v) := by
  intro n
  induction n with
  | zero => exact fun _ _ _ _ _ _ _ _ h => absurd h (Nat.not_lt_zero _)
  | succ n ih =>
    intro m i c v hN hI h0 h1 hn hm
    cases m with
    | zero => exact absurd hm (Nat.not_lt_zero _)
    | succ m =>
      have u5 : 0 ≤ v 5 0 ∧ v 5 0 ≤ 30 := hI.2 5 0
      have hl := hN.1.l3 hI
      rw [l_passes_67]
      by_cases c1 : v 5 0 ≤ i
      · rw [okl_X10_ageBrews_2, l_X10_ageBrews_2, hl, if_pos c1, if_pos c1, if_pos c1]
        exact ⟨⟨⟨by omega, by omega⟩, trivial⟩, hN⟩
      · rw [if_neg c1]
        obtain ⟨g1, g2⟩ := hN.goes hI h0 (by omega)
        have e5 : f_goesOn i v 5 0 = v 5 0 := fr_goesOn 5 0 (by decide)
        have hI2 := i_goesOn (b := i) hI ⟨h0, by omega⟩ (fun h => by
          have := pq_pos (v := v) (b := i) ⟨h0, by omega⟩ h
          have := hN.2.2.1.2.2.2.1
          omega) (fun h => hN.2.2.2.1 i h0 (by omega) h)
        obtain ⟨j1, j2⟩ := ih m (i + 1) _ _ g2 hI2 (by omega) (by omega) (by omega) (by omega)
        obtain ⟨k1, k2⟩ := age_step h0 (by omega) (hN.1.e3 h0 (by omega)) ⟨by omega, by omega⟩ g1 j1
        rw [k2]
        exact ⟨k1, j2⟩
