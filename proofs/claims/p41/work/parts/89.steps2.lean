/-! how much each call adds (written by wip/whole/mk77.py) -/
theorem l82_c (q : Int) (c : Cs) : ∀ (n : Nat) (u i : Int), (l_X10_stockByDeliveries_82 q c n u i).2 = c := by
  intro n
  induction n with
  | zero => exact fun _ _ => rfl
  | succ n ih =>
    intro u i
    rw [l_X10_stockByDeliveries_82]
    repeat' split
    · rfl
    · exact ih _ _
    · exact ih _ _
theorem st_addRecipe (a b f : Int) (c : Cs) : St c (g_X10_addRecipe a b f c).2 := by
  unfold g_X10_addRecipe
  repeat' split
  all_goals first
    | exact st_exc _
    | exact Kp.st ⟨rfl, rfl⟩
    | exact ⟨Int.le_refl _, by show c.2.2.2 ≤ c.2.2.2 + 1; omega⟩
    | (rw [l82_c]; exact Kp.st (Kp.refl _))
theorem st_addVessel (a : Int) (c : Cs) : St c (g_X10_addVessel a c).2 := by
  unfold g_X10_addVessel
  repeat' split
  all_goals first
    | exact st_exc _
    | exact Kp.st ⟨rfl, rfl⟩
    | exact ⟨Int.le_refl _, by show c.2.2.2 ≤ c.2.2.2 + 1; omega⟩
    | (rw [l82_c]; exact Kp.st (Kp.refl _))
theorem st_setCrews (a : Int) (c : Cs) : St c (g_X10_setCrews a c).2 := by
  unfold g_X10_setCrews
  repeat' split
  all_goals first
    | exact st_exc _
    | exact Kp.st ⟨rfl, rfl⟩
    | exact ⟨Int.le_refl _, by show c.2.2.2 ≤ c.2.2.2 + 1; omega⟩
    | (rw [l82_c]; exact Kp.st (Kp.refl _))
theorem st_addPacks (a b : Int) (c : Cs) : St c (g_X10_addPacks a b c).2 := by
  unfold g_X10_addPacks
  repeat' split
  all_goals first
    | exact st_exc _
    | exact Kp.st ⟨rfl, rfl⟩
    | exact ⟨Int.le_refl _, by show c.2.2.2 ≤ c.2.2.2 + 1; omega⟩
    | (rw [l82_c]; exact Kp.st (Kp.refl _))
theorem st_enqueue (a : Int) (c : Cs) : St c (g_X10_enqueue a c).2 := by
  unfold g_X10_enqueue
  repeat' split
  all_goals first
    | exact st_exc _
    | exact Kp.st ⟨rfl, rfl⟩
    | exact ⟨Int.le_refl _, by show c.2.2.2 ≤ c.2.2.2 + 1; omega⟩
    | (rw [l82_c]; exact Kp.st (Kp.refl _))
theorem st_withdraw (a : Int) (c : Cs) : St c (g_X10_withdraw a c).2 := by
  unfold g_X10_withdraw
  repeat' split
  all_goals first
    | exact st_exc _
    | exact Kp.st ⟨rfl, rfl⟩
    | exact ⟨Int.le_refl _, by show c.2.2.2 ≤ c.2.2.2 + 1; omega⟩
    | (rw [l82_c]; exact Kp.st (Kp.refl _))
theorem st_order (a b f : Int) (c : Cs) : St c (g_X10_order a b f c).2 := by
  unfold g_X10_order
  repeat' split
  all_goals first
    | exact st_exc _
    | exact Kp.st ⟨rfl, rfl⟩
    | exact ⟨Int.le_refl _, by show c.2.2.2 ≤ c.2.2.2 + 1; omega⟩
    | (rw [l82_c]; exact Kp.st (Kp.refl _))
theorem st_blend (a b f : Int) (c : Cs) : St c (g_X10_blend a b f c).2 := by
  unfold g_X10_blend
  repeat' split
  all_goals first
    | exact st_exc _
    | exact Kp.st ⟨rfl, rfl⟩
    | exact ⟨Int.le_refl _, by show c.2.2.2 ≤ c.2.2.2 + 1; omega⟩
    | (rw [l82_c]; exact Kp.st (Kp.refl _))
theorem st_cancel (a : Int) (c : Cs) : St c (g_X10_cancel a c).2 := by
  unfold g_X10_cancel
  repeat' split
  all_goals first
    | exact st_exc _
    | exact Kp.st ⟨rfl, rfl⟩
    | exact ⟨Int.le_refl _, by show c.2.2.2 ≤ c.2.2.2 + 1; omega⟩
    | (rw [l82_c]; exact Kp.st (Kp.refl _))
theorem st_pass (a : Int) (c : Cs) : St c (g_X10_pass a c).2 := by
  unfold g_X10_pass
  split
  · exact (kp_pass _ _ _ c).st
  · exact st_exc _
theorem st_brew (a b : Int) (c : Cs) : St c (g_X10_brew a b c).2 := by
  unfold g_X10_brew
  repeat' split
  all_goals first
    | exact st_exc _
    | exact Kp.st ⟨rfl, rfl⟩
    | exact (kp_start _ _ c).st
theorem st_forecast {c : Cs} {v : Vw} {T E : Int} (hN : INV c v) (hI : IM v T E) : St c (g_X10_forecast c).2 := by
  have e8 : c.2.1 13 11 0 = v 8 0 := hN.1.c0.2.2.2
  unfold g_X10_forecast
  rw [e8]
  rcases can_eq hN hI with ⟨a, b, d7, dK⟩ | ⟨a, b⟩
  · rw [if_pos a]
    obtain ⟨m1, m2, m3⟩ := q_mem hN (hI.2 7 0)
    exact (fo_ok (l := 4) hN hI rfl dK m1 m2).2.2.fx.kp.st
  · rw [if_neg a]
    exact st_exc _
theorem st_bestForecast {c : Cs} {v : Vw} {T E : Int} (hN : INV c v) (hI : IM v T E) : St c (g_X10_bestForecast c).2 := by
  have e8 : c.2.1 13 11 0 = v 8 0 := hN.1.c0.2.2.2
  unfold g_X10_bestForecast
  rw [e8]
  rcases can_eq hN hI with ⟨a, b, d7, dK⟩ | ⟨a, b⟩
  · rw [if_pos a]
    exact (findB_ok (v := upv v 0 0 0) hN.v0 (hI.up 0 0 0 (by show (0 : Int) ≤ 0 ∧ (0 : Int) ≤ 4; omega)) d7 dK (has_f b)).2.2.2.1.kp.st
  · rw [if_neg a]
    exact st_exc _
theorem st_bestForecastByTrying {c : Cs} {v : Vw} {T E : Int} (hN : INV c v) (hI : IM v T E) : St c (g_X10_bestForecastByTrying c).2 := by
  have e8 : c.2.1 13 11 0 = v 8 0 := hN.1.c0.2.2.2
  unfold g_X10_bestForecastByTrying
  rw [e8]
  rcases can_eq hN hI with ⟨a, b, d7, dK⟩ | ⟨a, b⟩
  · rw [if_pos a]
    exact (tryA_ok (v := upv v 0 0 0) hN.v0 (hI.up 0 0 0 (by show (0 : Int) ≤ 0 ∧ (0 : Int) ≤ 4; omega)) d7 dK (has_f b)).2.2.kp.st
  · rw [if_neg a]
    exact st_exc _
theorem st_improve {c : Cs} {v : Vw} {T E : Int} (hN : INV c v) (hI : IM v T E) : St c (g_X10_improve c).2 := by
  have e8 : c.2.1 13 11 0 = v 8 0 := hN.1.c0.2.2.2
  have u7 : 0 ≤ v 7 0 ∧ v 7 0 ≤ 6 := hI.2 7 0
  unfold g_X10_improve
  rw [e8]
  rcases can_eq hN hI with ⟨a, b, d7, dK⟩ | ⟨a, b⟩
  · rw [if_pos a]
    have hF := has_f b
    obtain ⟨m1, m2, m3⟩ := q_mem hN u7
    obtain ⟨g1, g2, g3⟩ := fo_ok (l := 4) hN hI rfl dK m1 m2
    have e8' : (g_X5_forecastOf 4 (v 8 0) c).2.2.1 13 11 0 = v 8 0 := by rw [g3.2.1 13 (by decide)]; exact e8
    have K1 : 1 ≤ ((g_X5_forecastOf 4 (v 8 0) c).2.1 10).toNat := by rw [g3.1]; exact dK
    obtain ⟨h1, h2, h3, h4, h5⟩ := findB_ok (v := upv v 0 0 0) (hN.fx g3.fx).v0 (hI.up 0 0 0 (by show (0 : Int) ≤ 0 ∧ (0 : Int) ≤ 4; omega)) d7 K1 hF
    rw [e8']
    have h4' : FX (g_X5_forecastOf 4 (v 8 0) c).2 (g_X5_findBest 4 (v 8 0) (g_X5_forecastOf 4 (v 8 0) c).2).2 := h4
    have l10 : (((g_X5_findBest 4 (v 8 0) (g_X5_forecastOf 4 (v 8 0) c).2).2.2.2.1 10).length : Int) = v 7 0 := by
      have : (g_X5_findBest 4 (v 8 0) (g_X5_forecastOf 4 (v 8 0) c).2).2.2.2.1 10 = (rng (v 7 0)).map ((f_finds (upv v 0 0 0)).2 41) := h3
      rw [this]
      exact map_len u7.1
    obtain ⟨k1, k2⟩ := copy_ok (c := (g_X5_findBest 4 (v 8 0) (g_X5_forecastOf 4 (v 8 0) c).2).2) (l := 10) (k := 4) (by decide) rfl rfl (by omega)
    show St c (g_X10_copyRecipes 10 4 (g_X5_findBest 4 (v 8 0) (g_X5_forecastOf 4 (v 8 0) c).2).2)
    rw [k2]
    exact Kp.st (g3.fx.kp.trans h4'.kp)
  · rw [if_neg a]
    exact st_exc _
/-- .. of a call that only asks -/
def St0 (c c' : Cs) : Prop := c'.1 6 = c.1 6 ∧ c'.2.2.2 ≤ c.2.2.2 + 1
theorem so_exc (c : Cs) : St0 c (cexc c) := ⟨rfl, Int.le_refl _⟩
theorem so_rfl (c : Cs) : St0 c c := ⟨rfl, by omega⟩
theorem so_queuedAt (a : Int) (c : Cs) : St0 c (g_X10_queuedAt a c).2 := by
  unfold g_X10_queuedAt
  repeat' split
  all_goals first
    | exact so_exc _
    | exact so_rfl _
    | (rw [l82_c]; exact so_rfl _)
theorem so_status (a : Int) (c : Cs) : St0 c (g_X10_status a c).2 := by
  unfold g_X10_status
  repeat' split
  all_goals first
    | exact so_exc _
    | exact so_rfl _
    | (rw [l82_c]; exact so_rfl _)
theorem so_filledOn (a : Int) (c : Cs) : St0 c (g_X10_filledOn a c).2 := by
  unfold g_X10_filledOn
  repeat' split
  all_goals first
    | exact so_exc _
    | exact so_rfl _
    | (rw [l82_c]; exact so_rfl _)
theorem so_onTime (c : Cs) : St0 c (g_X10_onTime  c).2 := by
  unfold g_X10_onTime
  repeat' split
  all_goals first
    | exact so_exc _
    | exact so_rfl _
    | (rw [l82_c]; exact so_rfl _)
theorem so_state (a : Int) (c : Cs) : St0 c (g_X10_state a c).2 := by
  unfold g_X10_state
  repeat' split
  all_goals first
    | exact so_exc _
    | exact so_rfl _
    | (rw [l82_c]; exact so_rfl _)
theorem so_brewIn (a : Int) (c : Cs) : St0 c (g_X10_brewIn a c).2 := by
  unfold g_X10_brewIn
  repeat' split
  all_goals first
    | exact so_exc _
    | exact so_rfl _
    | (rw [l82_c]; exact so_rfl _)
theorem so_cleanDay (a : Int) (c : Cs) : St0 c (g_X10_cleanDay a c).2 := by
  unfold g_X10_cleanDay
  repeat' split
  all_goals first
    | exact so_exc _
    | exact so_rfl _
    | (rw [l82_c]; exact so_rfl _)
theorem so_recipeOf (a : Int) (c : Cs) : St0 c (g_X10_recipeOf a c).2 := by
  unfold g_X10_recipeOf
  repeat' split
  all_goals first
    | exact so_exc _
    | exact so_rfl _
    | (rw [l82_c]; exact so_rfl _)
theorem so_generation (a : Int) (c : Cs) : St0 c (g_X10_generation a c).2 := by
  unfold g_X10_generation
  repeat' split
  all_goals first
    | exact so_exc _
    | exact so_rfl _
    | (rw [l82_c]; exact so_rfl _)
theorem so_stage (a : Int) (c : Cs) : St0 c (g_X10_stage a c).2 := by
  unfold g_X10_stage
  repeat' split
  all_goals first
    | exact so_exc _
    | exact so_rfl _
    | (rw [l82_c]; exact so_rfl _)
theorem so_vesselOf (a : Int) (c : Cs) : St0 c (g_X10_vesselOf a c).2 := by
  unfold g_X10_vesselOf
  repeat' split
  all_goals first
    | exact so_exc _
    | exact so_rfl _
    | (rw [l82_c]; exact so_rfl _)
theorem so_daysToGo (a : Int) (c : Cs) : St0 c (g_X10_daysToGo a c).2 := by
  unfold g_X10_daysToGo
  repeat' split
  all_goals first
    | exact so_exc _
    | exact so_rfl _
    | (rw [l82_c]; exact so_rfl _)
theorem so_stock (a : Int) (c : Cs) : St0 c (g_X10_stock a c).2 := by
  unfold g_X10_stock
  repeat' split
  all_goals first
    | exact so_exc _
    | exact so_rfl _
    | (rw [l82_c]; exact so_rfl _)
theorem so_stockByDeliveries (a : Int) (c : Cs) : St0 c (g_X10_stockByDeliveries a c).2 := by
  unfold g_X10_stockByDeliveries
  repeat' split
  all_goals first
    | exact so_exc _
    | exact so_rfl _
    | (rw [l82_c]; exact so_rfl _)
theorem so_deliveredBrew (a : Int) (c : Cs) : St0 c (g_X10_deliveredBrew a c).2 := by
  unfold g_X10_deliveredBrew
  repeat' split
  all_goals first
    | exact so_exc _
    | exact so_rfl _
    | (rw [l82_c]; exact so_rfl _)
theorem so_deliveredOrder (a : Int) (c : Cs) : St0 c (g_X10_deliveredOrder a c).2 := by
  unfold g_X10_deliveredOrder
  repeat' split
  all_goals first
    | exact so_exc _
    | exact so_rfl _
    | (rw [l82_c]; exact so_rfl _)
theorem so_deliveredUnits (a : Int) (c : Cs) : St0 c (g_X10_deliveredUnits a c).2 := by
  unfold g_X10_deliveredUnits
  repeat' split
  all_goals first
    | exact so_exc _
    | exact so_rfl _
    | (rw [l82_c]; exact so_rfl _)
