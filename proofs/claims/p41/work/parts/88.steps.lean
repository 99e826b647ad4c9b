/-! how much a call adds -/
def Kp (c c' : Cs) : Prop := c'.1 6 = c.1 6 ∧ c'.2.2.2 = c.2.2.2
theorem Kp.refl (c : Cs) : Kp c c := ⟨rfl, rfl⟩
theorem Kp.trans {a b d : Cs} (h : Kp a b) (k : Kp b d) : Kp a d := ⟨k.1.trans h.1, k.2.trans h.2⟩
theorem kp_take (s d : Int) (c : Cs) : Kp c (g_X9_take s d c).2 := by
  unfold g_X9_take
  split <;> exact ⟨rfl, rfl⟩
theorem kp_h7 (s g d : Int) : ∀ (n : Nat) (i : Int) (c : Cs), Kp c (l_X9_harvest_7 s g d n i c) := by
  intro n
  induction n with
  | zero => exact fun _ _ => Kp.refl _
  | succ n ih =>
    intro i c
    rw [l_X9_harvest_7]
    repeat' split
    all_goals first | exact Kp.refl _ | exact ih _ _
theorem kp_harvest (s g d : Int) (c : Cs) : Kp c (g_X9_harvest s g d c) := by
  unfold g_X9_harvest
  split
  · exact Kp.refl _
  · exact kp_h7 _ _ _ _ _ _
theorem kp_finish (b : Int) (c : Cs) : Kp c (g_X10_finishPhase b c) := by
  unfold g_X10_finishPhase
  split
  · have h := kp_harvest (c.2.1 9 2 (c.2.1 3 1 b)) (c.2.1 3 2 b + 1) (c.2.1 13 11 0) (cput c 3 3 b 119)
    exact ⟨h.1, h.2⟩
  · exact ⟨rfl, rfl⟩
theorem kp_age : ∀ (n : Nat) (i : Int) (c : Cs), Kp c (l_X10_ageBrews_2 n i c) := by
  intro n
  induction n with
  | zero => exact fun _ _ => Kp.refl _
  | succ n ih =>
    intro i c
    rw [l_X10_ageBrews_2]
    repeat' split
    · exact Kp.refl _
    · exact ih _ _
    · refine Kp.trans ?_ (ih _ _)
      exact ⟨(kp_finish _ _).1.trans rfl, (kp_finish _ _).2.trans rfl⟩
    · exact ih _ _
theorem kp_clean : ∀ (n : Nat) (i : Int) (c : Cs), Kp c (l_X10_continueCleaning_2 n i c) := by
  intro n
  induction n with
  | zero => exact fun _ _ => Kp.refl _
  | succ n ih =>
    intro i c
    rw [l_X10_continueCleaning_2]
    repeat' split
    all_goals first | exact Kp.refl _ | exact ih _ _
theorem kp_leave (b : Int) (c : Cs) : Kp c (g_X10_leaveVessel b c) := by
  unfold g_X10_leaveVessel
  split <;> exact ⟨rfl, rfl⟩
theorem kp_mature (b : Int) (c : Cs) : Kp c (g_X0_mature b c) := by
  unfold g_X0_mature
  repeat' split
  all_goals exact ⟨rfl, rfl⟩
theorem kp_move : ∀ (n : Nat) (i : Int) (c : Cs), Kp c (l_X10_moveWaitingBrews_2 n i c) := by
  intro n
  induction n with
  | zero => exact fun _ _ => Kp.refl _
  | succ n ih =>
    intro i c
    rw [l_X10_moveWaitingBrews_2]
    repeat' split
    · exact Kp.refl _
    · exact ih _ _
    · exact ((kp_leave _ c).trans (show Kp (g_X10_leaveVessel _ c) (g_X0_mature _ (g_X8_takeIn _ _ (g_X10_leaveVessel _ c))) from kp_mature _ _)).trans (ih _ _)
    · exact ih _ _
theorem kp_draw (o p : Int) : ∀ (n : Nat) (u i : Int) (c : Cs), Kp c (l_X10_draw_8 o p n u i c) := by
  intro n
  induction n with
  | zero => exact fun _ _ _ => Kp.refl _
  | succ n ih =>
    intro u i c
    rw [l_X10_draw_8]
    repeat' split
    all_goals first
      | exact Kp.refl _
      | exact ih _ _ _
      | (refine Kp.trans ?_ (ih _ _ _); exact ⟨(kp_leave _ _).1.trans rfl, (kp_leave _ _).2.trans rfl⟩)
theorem kp_fill (o : Int) : ∀ (n : Nat) (i : Int) (c : Cs), Kp c (l_X10_fill_2 o n i c) := by
  intro n
  induction n with
  | zero => exact fun _ _ => Kp.refl _
  | succ n ih =>
    intro i c
    rw [l_X10_fill_2]
    split
    · exact ⟨rfl, rfl⟩
    · exact (kp_draw _ _ _ _ _ c).trans (ih _ _)
theorem kp_fills : ∀ (n : Nat) (u i : Int) (c : Cs), Kp c (l_X10_fillOrders_4 n u i c).2 := by
  intro n
  induction n with
  | zero => exact fun _ _ _ => Kp.refl _
  | succ n ih =>
    intro u i c
    rw [l_X10_fillOrders_4]
    repeat' split
    · exact Kp.refl _
    · exact ih _ _ _
    · exact (kp_fill _ _ _ c).trans (ih _ _ _)
    · exact ih _ _ _
theorem kp_begin : ∀ (n : Nat) (x : Int) (c : Cs), Kp c (l_X10_beginCleaning_54 n x c) := by
  intro n
  induction n with
  | zero => exact fun _ _ => Kp.refl _
  | succ n ih =>
    intro x c
    rw [l_X10_beginCleaning_54]
    repeat' split
    all_goals first | exact Kp.refl _ | exact ih _ _
theorem kp_start (r w : Int) (c : Cs) : Kp c (g_X10_startBrew r w c).2 := kp_take (c.2.1 9 2 r) (c.2.1 13 11 0) (cnew c 3)
theorem kp_sq : ∀ (n : Nat) (i k : Int) (c : Cs), Kp c (l_X10_startQueued_12 n i k c) := by
  intro n
  induction n with
  | zero => exact fun _ _ _ => Kp.refl _
  | succ n ih =>
    intro i k c
    rw [l_X10_startQueued_12]
    repeat' split
    · exact Kp.refl _
    · exact Kp.refl _
    · exact ih _ _ _
    · exact ih _ _ _
    · refine Kp.trans ?_ (ih _ _ _)
      exact ⟨(kp_start _ _ _).1.trans rfl, (kp_start _ _ _).2.trans rfl⟩
theorem kp_day (c : Cs) : Kp c (g_X10_passOneDay c).2 := by
  unfold g_X10_passOneDay
  have h1 : Kp c (g_X10_continueCleaning (cput c 13 11 0 (c.2.1 13 11 0 + 1))) := kp_clean _ _ _
  have h2 := kp_age fu 0 (g_X10_continueCleaning (cput c 13 11 0 (c.2.1 13 11 0 + 1)))
  have h3 := kp_move fu 0 (g_X10_ageBrews (g_X10_continueCleaning (cput c 13 11 0 (c.2.1 13 11 0 + 1))))
  have h4 := kp_fills fu 0 0 (g_X10_moveWaitingBrews (g_X10_ageBrews (g_X10_continueCleaning (cput c 13 11 0 (c.2.1 13 11 0 + 1)))))
  exact (((((h1.trans h2).trans h3).trans h4).trans (kp_begin _ _ _)).trans (kp_sq _ _ _ _))
theorem kp_pass {a : Int} : ∀ (n : Nat) (u i : Int) (c : Cs), Kp c (l_X10_pass_24 a n u i c).2 := by
  intro n
  induction n with
  | zero => exact fun _ _ _ => Kp.refl _
  | succ n ih =>
    intro u i c
    rw [l_X10_pass_24]
    split
    · exact Kp.refl _
    · exact (kp_day c).trans (ih _ _ _)
/-- what a call may add: a part, an exception -/
def St (c c' : Cs) : Prop := c'.1 6 ≤ c.1 6 + 1 ∧ c'.2.2.2 ≤ c.2.2.2 + 1
theorem Kp.st {c c' : Cs} (h : Kp c c') : St c c' := ⟨by rw [h.1]; omega, by rw [h.2]; omega⟩
theorem FX.kp {c c' : Cs} (h : FX c c') : Kp c c' := ⟨by rw [h.1], h.2.2.2.2⟩
theorem st_exc (c : Cs) : St c (cexc c) := ⟨by show c.1 6 ≤ c.1 6 + 1; omega, Int.le_refl _⟩
