/-! the reference: forecasts (written by wip/whole/mk16.py) -/
def f_frees (w : Int) (v : Vw) : Vw :=
  if (v 15 w) = 1 then
    if (v 28 (v 16 w)) = 0 then
      if (v 15 w) = 0 then
        (upv (upv v 42 w (v 8 0)) 43 w (v 19 w))
      else
        if (v 15 w) = 3 then
          (upv (upv v 42 w ((v 8 0) + (v 17 w))) 43 w (v 19 w))
        else
          (upv (upv v 42 w (((v 8 0) + (v 30 (v 16 w))) + 2)) 43 w (v 19 w))
    else
      if (v 15 w) = 0 then
        (upv (upv v 42 w (v 8 0)) 43 w (v 19 w))
      else
        if (v 15 w) = 3 then
          (upv (upv v 42 w ((v 8 0) + (v 17 w))) 43 w (v 19 w))
        else
          (upv (upv v 42 w ((v 8 0) + 2)) 43 w (v 19 w))
  else
    if (v 15 w) = 0 then
      (upv (upv v 42 w (v 8 0)) 43 w (v 19 w))
    else
      if (v 15 w) = 3 then
        (upv (upv v 42 w ((v 8 0) + (v 17 w))) 43 w (v 19 w))
      else
        (upv (upv v 42 w ((v 8 0) + 2)) 43 w (v 19 w))
theorem i_frees {v : Vw} {T E : Int} {w : Int} (hI : IM v T E) (hw : 0 ≤ w ∧ w ≤ 7) : IM (f_frees w v) T (E) := by
  have hT := hI.1
  have q1 : 0 ≤ v 16 w ∧ v 16 w ≤ 29 := hI.2 16 w
  have q2 : 0 ≤ v 15 w ∧ v 15 w ≤ 3 := hI.2 15 w
  by_cases c3 : (v 15 w) = 1
  · have q4 : 0 ≤ v 28 (v 16 w) ∧ v 28 (v 16 w) ≤ 4 := hI.2 28 (v 16 w)
    by_cases c5 : (v 28 (v 16 w)) = 0
    · by_cases c6 : (v 15 w) = 0
      · have q7 : 0 ≤ v 8 0 ∧ v 8 0 ≤ T := hI.2 8 0
        have q8 : -1 ≤ v 19 w ∧ v 19 w ≤ 3 := hI.2 19 w
        rw [f_frees, if_pos c3, if_pos c5, if_pos c6]
        exact ((hI.up 42 w (v 8 0) (by show 0 ≤ (v 8 0) ∧ (v 8 0) ≤ T + 300; omega)).up 43 w (v 19 w) (by show -1 ≤ (v 19 w) ∧ (v 19 w) ≤ 3; omega))
      · by_cases c9 : (v 15 w) = 3
        · have q10 : 0 ≤ v 8 0 ∧ v 8 0 ≤ T := hI.2 8 0
          have q11 : 0 ≤ v 17 w ∧ v 17 w ≤ 2 := hI.2 17 w
          have q12 : -1 ≤ v 19 w ∧ v 19 w ≤ 3 := hI.2 19 w
          rw [f_frees, if_pos c3, if_pos c5, if_neg c6, if_pos c9]
          exact ((hI.up 42 w ((v 8 0) + (v 17 w)) (by show 0 ≤ ((v 8 0) + (v 17 w)) ∧ ((v 8 0) + (v 17 w)) ≤ T + 300; omega)).up 43 w (v 19 w) (by show -1 ≤ (v 19 w) ∧ (v 19 w) ≤ 3; omega))
        · have q13 : 0 ≤ v 8 0 ∧ v 8 0 ≤ T := hI.2 8 0
          have q14 : 0 ≤ v 30 (v 16 w) ∧ v 30 (v 16 w) ≤ 15 := hI.2 30 (v 16 w)
          have q15 : -1 ≤ v 19 w ∧ v 19 w ≤ 3 := hI.2 19 w
          rw [f_frees, if_pos c3, if_pos c5, if_neg c6, if_neg c9]
          exact ((hI.up 42 w (((v 8 0) + (v 30 (v 16 w))) + 2) (by show 0 ≤ (((v 8 0) + (v 30 (v 16 w))) + 2) ∧ (((v 8 0) + (v 30 (v 16 w))) + 2) ≤ T + 300; omega)).up 43 w (v 19 w) (by show -1 ≤ (v 19 w) ∧ (v 19 w) ≤ 3; omega))
    · by_cases c16 : (v 15 w) = 0
      · have q17 : 0 ≤ v 8 0 ∧ v 8 0 ≤ T := hI.2 8 0
        have q18 : -1 ≤ v 19 w ∧ v 19 w ≤ 3 := hI.2 19 w
        rw [f_frees, if_pos c3, if_neg c5, if_pos c16]
        exact ((hI.up 42 w (v 8 0) (by show 0 ≤ (v 8 0) ∧ (v 8 0) ≤ T + 300; omega)).up 43 w (v 19 w) (by show -1 ≤ (v 19 w) ∧ (v 19 w) ≤ 3; omega))
      · by_cases c19 : (v 15 w) = 3
        · have q20 : 0 ≤ v 8 0 ∧ v 8 0 ≤ T := hI.2 8 0
          have q21 : 0 ≤ v 17 w ∧ v 17 w ≤ 2 := hI.2 17 w
          have q22 : -1 ≤ v 19 w ∧ v 19 w ≤ 3 := hI.2 19 w
          rw [f_frees, if_pos c3, if_neg c5, if_neg c16, if_pos c19]
          exact ((hI.up 42 w ((v 8 0) + (v 17 w)) (by show 0 ≤ ((v 8 0) + (v 17 w)) ∧ ((v 8 0) + (v 17 w)) ≤ T + 300; omega)).up 43 w (v 19 w) (by show -1 ≤ (v 19 w) ∧ (v 19 w) ≤ 3; omega))
        · have q23 : 0 ≤ v 8 0 ∧ v 8 0 ≤ T := hI.2 8 0
          have q24 : -1 ≤ v 19 w ∧ v 19 w ≤ 3 := hI.2 19 w
          rw [f_frees, if_pos c3, if_neg c5, if_neg c16, if_neg c19]
          exact ((hI.up 42 w ((v 8 0) + 2) (by show 0 ≤ ((v 8 0) + 2) ∧ ((v 8 0) + 2) ≤ T + 300; omega)).up 43 w (v 19 w) (by show -1 ≤ (v 19 w) ∧ (v 19 w) ≤ 3; omega))
  · by_cases c25 : (v 15 w) = 0
    · have q26 : 0 ≤ v 8 0 ∧ v 8 0 ≤ T := hI.2 8 0
      have q27 : -1 ≤ v 19 w ∧ v 19 w ≤ 3 := hI.2 19 w
      rw [f_frees, if_neg c3, if_pos c25]
      exact ((hI.up 42 w (v 8 0) (by show 0 ≤ (v 8 0) ∧ (v 8 0) ≤ T + 300; omega)).up 43 w (v 19 w) (by show -1 ≤ (v 19 w) ∧ (v 19 w) ≤ 3; omega))
    · by_cases c28 : (v 15 w) = 3
      · have q29 : 0 ≤ v 8 0 ∧ v 8 0 ≤ T := hI.2 8 0
        have q30 : 0 ≤ v 17 w ∧ v 17 w ≤ 2 := hI.2 17 w
        have q31 : -1 ≤ v 19 w ∧ v 19 w ≤ 3 := hI.2 19 w
        rw [f_frees, if_neg c3, if_neg c25, if_pos c28]
        exact ((hI.up 42 w ((v 8 0) + (v 17 w)) (by show 0 ≤ ((v 8 0) + (v 17 w)) ∧ ((v 8 0) + (v 17 w)) ≤ T + 300; omega)).up 43 w (v 19 w) (by show -1 ≤ (v 19 w) ∧ (v 19 w) ≤ 3; omega))
      · have q32 : 0 ≤ v 8 0 ∧ v 8 0 ≤ T := hI.2 8 0
        have q33 : -1 ≤ v 19 w ∧ v 19 w ≤ 3 := hI.2 19 w
        rw [f_frees, if_neg c3, if_neg c25, if_neg c28]
        exact ((hI.up 42 w ((v 8 0) + 2) (by show 0 ≤ ((v 8 0) + 2) ∧ ((v 8 0) + 2) ≤ T + 300; omega)).up 43 w (v 19 w) (by show -1 ≤ (v 19 w) ∧ (v 19 w) ≤ 3; omega))
theorem fr_frees {w : Int} {v : Vw} (fk : Nat) (fi : Int) (hk : fk ≠ 42 ∧ fk ≠ 43) : (f_frees w v) fk fi = v fk fi := by
  by_cases c3 : (v 15 w) = 1
  · by_cases c5 : (v 28 (v 16 w)) = 0
    · by_cases c6 : (v 15 w) = 0
      · rw [f_frees, if_pos c3, if_pos c5, if_pos c6]
        exact ((upv_nk (by omega)).trans ((upv_nk (by omega)).trans rfl))
      · by_cases c9 : (v 15 w) = 3
        · rw [f_frees, if_pos c3, if_pos c5, if_neg c6, if_pos c9]
          exact ((upv_nk (by omega)).trans ((upv_nk (by omega)).trans rfl))
        · rw [f_frees, if_pos c3, if_pos c5, if_neg c6, if_neg c9]
          exact ((upv_nk (by omega)).trans ((upv_nk (by omega)).trans rfl))
    · by_cases c16 : (v 15 w) = 0
      · rw [f_frees, if_pos c3, if_neg c5, if_pos c16]
        exact ((upv_nk (by omega)).trans ((upv_nk (by omega)).trans rfl))
      · by_cases c19 : (v 15 w) = 3
        · rw [f_frees, if_pos c3, if_neg c5, if_neg c16, if_pos c19]
          exact ((upv_nk (by omega)).trans ((upv_nk (by omega)).trans rfl))
        · rw [f_frees, if_pos c3, if_neg c5, if_neg c16, if_neg c19]
          exact ((upv_nk (by omega)).trans ((upv_nk (by omega)).trans rfl))
  · by_cases c25 : (v 15 w) = 0
    · rw [f_frees, if_neg c3, if_pos c25]
      exact ((upv_nk (by omega)).trans ((upv_nk (by omega)).trans rfl))
    · by_cases c28 : (v 15 w) = 3
      · rw [f_frees, if_neg c3, if_neg c25, if_pos c28]
        exact ((upv_nk (by omega)).trans ((upv_nk (by omega)).trans rfl))
      · rw [f_frees, if_neg c3, if_neg c25, if_neg c28]
        exact ((upv_nk (by omega)).trans ((upv_nk (by omega)).trans rfl))
theorem up_frees (w : Int) {v : Vw} {T E : Int} (hI : IM v T E) : f_frees w v 42 w ≤ T + 19 := by
  have h1 : 0 ≤ v 8 0 ∧ v 8 0 ≤ T := hI.2 8 0
  have h2 : 0 ≤ v 17 w ∧ v 17 w ≤ 2 := hI.2 17 w
  have h3 : 0 ≤ v 30 (v 16 w) ∧ v 30 (v 16 w) ≤ 15 := hI.2 30 (v 16 w)
  unfold f_frees
  repeat' split
  all_goals (simp [upv]; omega)
theorem ne_frees (w w' : Int) (hne : w' ≠ w) {v : Vw} : f_frees w v 42 w' = v 42 w' := by
  unfold f_frees
  repeat' split
  all_goals (simp [upv]; omega)
/-- there is a fermenter at w or behind -/
def HasG (v : Vw) (w : Int) : Prop := ∃ w0, w ≤ w0 ∧ w0 < v 2 0 ∧ v 20 w0 = 0
def HasF (v : Vw) : Prop := HasG v 0
theorem HasF_fr {v w : Vw} (h2 : w 2 0 = v 2 0) (h20 : ∀ i, w 20 i = v 20 i) (h : HasF v) : HasF w := by
  obtain ⟨a, h1, h3, h4⟩ := h
  exact ⟨a, h1, by rw [h2]; exact h3, by rw [h20]; exact h4⟩
def l_forecastOf_4 : Nat → Int → Vw → Vw
  | 0, w, v => v
  | n + 1, w, v =>
    if (v 2 0) ≤ w then
      v
    else
      (l_forecastOf_4 n (w + 1) (f_frees w v))
theorem fr_l_forecastOf_4 : ∀ (n : Nat) (w : Int) (v : Vw) (fk : Nat) (fi : Int) (hk : fk ≠ 42 ∧ fk ≠ 43), (l_forecastOf_4 n w v) fk fi = v fk fi := by
  intro n w v fk fi hk
  induction n generalizing w v with
  | zero => rfl
  | succ n ih =>
    by_cases c1 : (v 2 0) ≤ w
    · rw [l_forecastOf_4, if_pos c1]
      try rfl
    · rw [l_forecastOf_4, if_neg c1]
      exact (ih (w + 1) (f_frees w v)).trans ((fr_frees (w := w) (v := v) fk fi (by omega)).trans rfl)
theorem i_l_forecastOf_4 {T E : Int} : ∀ (n : Nat) (w : Int) (v : Vw) (hI : IM v T E) (hw : 0 ≤ w ∧ w ≤ 100), IM (l_forecastOf_4 n w v) T (E) := by
  intro n
  induction n with
  | zero =>
    intro w v hI hw
    have hT := hI.1
    exact hI
  | succ n ih =>
    intro w v hI hw
    have hT := hI.1
    have u2 : 0 ≤ v 2 0 ∧ v 2 0 ≤ 8 := hI.2 2 0
    by_cases c1 : (v 2 0) ≤ w
    · rw [l_forecastOf_4, if_pos c1]
      exact hI
    · have hJ2 := (i_frees (w := w) hI (by show 0 ≤ w ∧ w ≤ 7; omega))
      have q3 : (f_frees w v) 2 0 = v 2 0 := (fr_frees (w := w) (v := v) 2 0 (by decide)).trans rfl
      rw [l_forecastOf_4, if_neg c1]
      exact ih (w + 1) (f_frees w v) hJ2 (by show 0 ≤ (w + 1) ∧ (w + 1) ≤ 100; omega)
theorem up_l_forecastOf_4 {T E : Int} : ∀ (n : Nat) (w : Int) (v : Vw), IM v T E → (0 ≤ w ∧ w ≤ 100) → (v 2 0 - w).toNat < n → ∀ w', w ≤ w' → w' < v 2 0 → l_forecastOf_4 n w v 42 w' ≤ T + 19 := by
  intro n
  induction n with
  | zero => exact fun _ _ _ _ h => absurd h (Nat.not_lt_zero _)
  | succ n ih =>
    intro w v hI hw hm w' h1 h2
    have u2 : 0 ≤ v 2 0 ∧ v 2 0 ≤ 8 := hI.2 2 0
    rw [l_forecastOf_4, if_neg (by omega)]
    have hJ := i_frees (w := w) hI (by omega)
    have e2 : f_frees w v 2 0 = v 2 0 := fr_frees 2 0 (by decide)
    by_cases e : w' = w
    · subst e
      have : ∀ (n : Nat) (w : Int) (v : Vw), w' < w → l_forecastOf_4 n w v 42 w' = v 42 w' := by
        intro n
        induction n with
        | zero => exact fun _ _ _ => rfl
        | succ n ih =>
          intro w v hl
          rw [l_forecastOf_4]
          split
          · rfl
          · rw [ih (w + 1) _ (by omega), ne_frees w w' (by omega)]
      rw [this n (w' + 1) _ (by omega)]
      exact up_frees w' hI
    · exact ih (w + 1) _ hJ (by omega) (by omega) w' (by omega) (by omega)
def l_forecastOf_39 (v : Vw) : Nat → Int → Int → Int
  | 0, first, w => first
  | n + 1, first, w =>
    if (v 2 0) ≤ w then
      first
    else
      if (v 20 w) = 0 then
        if first = (-1) then
          (l_forecastOf_39 v n w (w + 1))
        else
          if (v 42 first) ≤ (v 42 w) then
            (l_forecastOf_39 v n first (w + 1))
          else
            (l_forecastOf_39 v n w (w + 1))
      else
        (l_forecastOf_39 v n first (w + 1))
theorem r_l_forecastOf_39 {v : Vw} : ∀ (n : Nat) (first w : Int), -1 ≤ first → 0 ≤ w → (v 2 0 - w).toNat < n → (0 ≤ first → first < v 2 0) → (0 ≤ first ∨ HasG v w) → 0 ≤ l_forecastOf_39 v n first w ∧ l_forecastOf_39 v n first w < v 2 0 := by
  intro n
  induction n with
  | zero => exact fun _ _ _ _ h => absurd h (Nat.not_lt_zero _)
  | succ n ih =>
    intro first w h0 hw hm h1 h2
    rw [l_forecastOf_39]
    have key : ∀ f', -1 ≤ f' → (0 ≤ f' → f' < v 2 0) → ¬ v 2 0 ≤ w → (0 ≤ f' ∨ ¬ v 20 w = 0) → (0 ≤ first → 0 ≤ f') → 0 ≤ l_forecastOf_39 v n f' (w + 1) ∧ l_forecastOf_39 v n f' (w + 1) < v 2 0 := by
      intro f' g0 g1 g2 g3 g4
      refine ih f' (w + 1) g0 (by omega) (by omega) g1 ?_
      rcases h2 with h2 | ⟨w0, a1, a2, a3⟩
      · exact Or.inl (g4 h2)
      · by_cases e : w0 = w
        · subst e
          rcases g3 with g3 | g3
          · exact Or.inl g3
          · exact absurd a3 g3
        · exact Or.inr ⟨w0, by omega, a2, a3⟩
    split
    · rename_i hc
      rcases h2 with h2 | ⟨w0, a1, a2, a3⟩
      · exact ⟨h2, h1 h2⟩
      · omega
    · rename_i hc
      repeat' split
      all_goals first | exact key _ (by omega) (by omega) hc (by omega) (by omega) | exact key _ h0 h1 hc (by omega) (by omega)
def l_forecastOf_25 (kr : Nat) : Nat → Int → Int → Vw → Int × Vw
  | 0, last, k, v => (0, v)
  | n + 1, last, k, v =>
    if (v 7 0) ≤ k then
      (last, v)
    else
      if (v 43 (l_forecastOf_39 v (((v 2 0) - 0).toNat + 1) (-1) 0)) = (-1) then
        if (((v 42 (l_forecastOf_39 v (((v 2 0) - 0).toNat + 1) (-1) 0)) + (v 13 (v kr k))) + 0) ≤ last then
          (l_forecastOf_25 kr n last (k + 1) (upv (upv v 42 (l_forecastOf_39 v (((v 2 0) - 0).toNat + 1) (-1) 0) ((((v 42 (l_forecastOf_39 v (((v 2 0) - 0).toNat + 1) (-1) 0)) + (v 13 (v kr k))) + 0) + 2)) 43 (l_forecastOf_39 v (((v 2 0) - 0).toNat + 1) (-1) 0) (v 12 (v kr k))))
        else
          (l_forecastOf_25 kr n (((v 42 (l_forecastOf_39 v (((v 2 0) - 0).toNat + 1) (-1) 0)) + (v 13 (v kr k))) + 0) (k + 1) (upv (upv v 42 (l_forecastOf_39 v (((v 2 0) - 0).toNat + 1) (-1) 0) ((((v 42 (l_forecastOf_39 v (((v 2 0) - 0).toNat + 1) (-1) 0)) + (v 13 (v kr k))) + 0) + 2)) 43 (l_forecastOf_39 v (((v 2 0) - 0).toNat + 1) (-1) 0) (v 12 (v kr k))))
      else
        if (v 43 (l_forecastOf_39 v (((v 2 0) - 0).toNat + 1) (-1) 0)) = (v 12 (v kr k)) then
          if (((v 42 (l_forecastOf_39 v (((v 2 0) - 0).toNat + 1) (-1) 0)) + (v 13 (v kr k))) + 0) ≤ last then
            (l_forecastOf_25 kr n last (k + 1) (upv (upv v 42 (l_forecastOf_39 v (((v 2 0) - 0).toNat + 1) (-1) 0) ((((v 42 (l_forecastOf_39 v (((v 2 0) - 0).toNat + 1) (-1) 0)) + (v 13 (v kr k))) + 0) + 2)) 43 (l_forecastOf_39 v (((v 2 0) - 0).toNat + 1) (-1) 0) (v 12 (v kr k))))
          else
            (l_forecastOf_25 kr n (((v 42 (l_forecastOf_39 v (((v 2 0) - 0).toNat + 1) (-1) 0)) + (v 13 (v kr k))) + 0) (k + 1) (upv (upv v 42 (l_forecastOf_39 v (((v 2 0) - 0).toNat + 1) (-1) 0) ((((v 42 (l_forecastOf_39 v (((v 2 0) - 0).toNat + 1) (-1) 0)) + (v 13 (v kr k))) + 0) + 2)) 43 (l_forecastOf_39 v (((v 2 0) - 0).toNat + 1) (-1) 0) (v 12 (v kr k))))
        else
          if (((v 42 (l_forecastOf_39 v (((v 2 0) - 0).toNat + 1) (-1) 0)) + (v 13 (v kr k))) + 1) ≤ last then
            (l_forecastOf_25 kr n last (k + 1) (upv (upv v 42 (l_forecastOf_39 v (((v 2 0) - 0).toNat + 1) (-1) 0) ((((v 42 (l_forecastOf_39 v (((v 2 0) - 0).toNat + 1) (-1) 0)) + (v 13 (v kr k))) + 1) + 2)) 43 (l_forecastOf_39 v (((v 2 0) - 0).toNat + 1) (-1) 0) (v 12 (v kr k))))
          else
            (l_forecastOf_25 kr n (((v 42 (l_forecastOf_39 v (((v 2 0) - 0).toNat + 1) (-1) 0)) + (v 13 (v kr k))) + 1) (k + 1) (upv (upv v 42 (l_forecastOf_39 v (((v 2 0) - 0).toNat + 1) (-1) 0) ((((v 42 (l_forecastOf_39 v (((v 2 0) - 0).toNat + 1) (-1) 0)) + (v 13 (v kr k))) + 1) + 2)) 43 (l_forecastOf_39 v (((v 2 0) - 0).toNat + 1) (-1) 0) (v 12 (v kr k))))
theorem fr_l_forecastOf_25 {kr : Nat} : ∀ (n : Nat) (last k : Int) (v : Vw) (fk : Nat) (fi : Int) (hk : fk ≠ 42 ∧ fk ≠ 43), (l_forecastOf_25 kr n last k v).2 fk fi = v fk fi := by
  intro n last k v fk fi hk
  induction n generalizing last k v with
  | zero => rfl
  | succ n ih =>
    by_cases c11 : (v 7 0) ≤ k
    · rw [l_forecastOf_25, if_pos c11]
      try rfl
    · by_cases c20 : (v 43 (l_forecastOf_39 v (((v 2 0) - 0).toNat + 1) (-1) 0)) = (-1)
      · by_cases c21 : (((v 42 (l_forecastOf_39 v (((v 2 0) - 0).toNat + 1) (-1) 0)) + (v 13 (v kr k))) + 0) ≤ last
        · rw [l_forecastOf_25, if_neg c11, if_pos c20, if_pos c21]
          exact (ih last (k + 1) (upv (upv v 42 (l_forecastOf_39 v (((v 2 0) - 0).toNat + 1) (-1) 0) ((((v 42 (l_forecastOf_39 v (((v 2 0) - 0).toNat + 1) (-1) 0)) + (v 13 (v kr k))) + 0) + 2)) 43 (l_forecastOf_39 v (((v 2 0) - 0).toNat + 1) (-1) 0) (v 12 (v kr k)))).trans ((upv_nk (by omega)).trans ((upv_nk (by omega)).trans rfl))
        · rw [l_forecastOf_25, if_neg c11, if_pos c20, if_neg c21]
          exact (ih (((v 42 (l_forecastOf_39 v (((v 2 0) - 0).toNat + 1) (-1) 0)) + (v 13 (v kr k))) + 0) (k + 1) (upv (upv v 42 (l_forecastOf_39 v (((v 2 0) - 0).toNat + 1) (-1) 0) ((((v 42 (l_forecastOf_39 v (((v 2 0) - 0).toNat + 1) (-1) 0)) + (v 13 (v kr k))) + 0) + 2)) 43 (l_forecastOf_39 v (((v 2 0) - 0).toNat + 1) (-1) 0) (v 12 (v kr k)))).trans ((upv_nk (by omega)).trans ((upv_nk (by omega)).trans rfl))
      · by_cases c22 : (v 43 (l_forecastOf_39 v (((v 2 0) - 0).toNat + 1) (-1) 0)) = (v 12 (v kr k))
        · by_cases c23 : (((v 42 (l_forecastOf_39 v (((v 2 0) - 0).toNat + 1) (-1) 0)) + (v 13 (v kr k))) + 0) ≤ last
          · rw [l_forecastOf_25, if_neg c11, if_neg c20, if_pos c22, if_pos c23]
            exact (ih last (k + 1) (upv (upv v 42 (l_forecastOf_39 v (((v 2 0) - 0).toNat + 1) (-1) 0) ((((v 42 (l_forecastOf_39 v (((v 2 0) - 0).toNat + 1) (-1) 0)) + (v 13 (v kr k))) + 0) + 2)) 43 (l_forecastOf_39 v (((v 2 0) - 0).toNat + 1) (-1) 0) (v 12 (v kr k)))).trans ((upv_nk (by omega)).trans ((upv_nk (by omega)).trans rfl))
          · rw [l_forecastOf_25, if_neg c11, if_neg c20, if_pos c22, if_neg c23]
            exact (ih (((v 42 (l_forecastOf_39 v (((v 2 0) - 0).toNat + 1) (-1) 0)) + (v 13 (v kr k))) + 0) (k + 1) (upv (upv v 42 (l_forecastOf_39 v (((v 2 0) - 0).toNat + 1) (-1) 0) ((((v 42 (l_forecastOf_39 v (((v 2 0) - 0).toNat + 1) (-1) 0)) + (v 13 (v kr k))) + 0) + 2)) 43 (l_forecastOf_39 v (((v 2 0) - 0).toNat + 1) (-1) 0) (v 12 (v kr k)))).trans ((upv_nk (by omega)).trans ((upv_nk (by omega)).trans rfl))
        · by_cases c24 : (((v 42 (l_forecastOf_39 v (((v 2 0) - 0).toNat + 1) (-1) 0)) + (v 13 (v kr k))) + 1) ≤ last
          · rw [l_forecastOf_25, if_neg c11, if_neg c20, if_neg c22, if_pos c24]
            exact (ih last (k + 1) (upv (upv v 42 (l_forecastOf_39 v (((v 2 0) - 0).toNat + 1) (-1) 0) ((((v 42 (l_forecastOf_39 v (((v 2 0) - 0).toNat + 1) (-1) 0)) + (v 13 (v kr k))) + 1) + 2)) 43 (l_forecastOf_39 v (((v 2 0) - 0).toNat + 1) (-1) 0) (v 12 (v kr k)))).trans ((upv_nk (by omega)).trans ((upv_nk (by omega)).trans rfl))
          · rw [l_forecastOf_25, if_neg c11, if_neg c20, if_neg c22, if_neg c24]
            exact (ih (((v 42 (l_forecastOf_39 v (((v 2 0) - 0).toNat + 1) (-1) 0)) + (v 13 (v kr k))) + 1) (k + 1) (upv (upv v 42 (l_forecastOf_39 v (((v 2 0) - 0).toNat + 1) (-1) 0) ((((v 42 (l_forecastOf_39 v (((v 2 0) - 0).toNat + 1) (-1) 0)) + (v 13 (v kr k))) + 1) + 2)) 43 (l_forecastOf_39 v (((v 2 0) - 0).toNat + 1) (-1) 0) (v 12 (v kr k)))).trans ((upv_nk (by omega)).trans ((upv_nk (by omega)).trans rfl))
theorem i_l_forecastOf_25 {T E : Int} {kr : Nat} (hk : kr = 39 ∨ kr = 40) : ∀ (n : Nat) (last k : Int) (v : Vw) (hI : IM v T E) (hk0 : 0 ≤ k ∧ k ≤ 1000) (hl : 0 ≤ last ∧ last ≤ T + 300) (ht : HasF v) (hf : ∀ w, 0 ≤ w → w < v 2 0 → v 42 w ≤ T + 20 + 17 * k), IM (l_forecastOf_25 kr n last k v).2 T (E) ∧ (0 ≤ (l_forecastOf_25 kr n last k v).1 ∧ (l_forecastOf_25 kr n last k v).1 ≤ T + 300) := by
  intro n
  induction n with
  | zero =>
    intro last k v hI hk0 hl ht hf
    have hT := hI.1
    exact ⟨hI, (by show 0 ≤ 0 ∧ 0 ≤ T + 300; omega)⟩
  | succ n ih =>
    intro last k v hI hk0 hl ht hf
    have hT := hI.1
    have u2 : 0 ≤ v 2 0 ∧ v 2 0 ≤ 8 := hI.2 2 0
    have u7 : 0 ≤ v 7 0 ∧ v 7 0 ≤ 6 := hI.2 7 0
    by_cases c11 : (v 7 0) ≤ k
    · rw [l_forecastOf_25, if_pos c11]
      exact ⟨hI, (by show 0 ≤ last ∧ last ≤ T + 300; omega)⟩
    · have q12 := r_l_forecastOf_39 (v := v) (((v 2 0) - 0).toNat + 1) (-1) 0 (by omega) (by omega) (by omega) (by omega) (Or.inr ht)
      have q13 := hf (l_forecastOf_39 v (((v 2 0) - 0).toNat + 1) (-1) 0) (by omega) (by omega)
      have q14 : 0 ≤ v 2 0 ∧ v 2 0 ≤ 8 := hI.2 2 0
      have q15 : 0 ≤ v kr k ∧ v kr k ≤ 4 := by rcases hk with rfl | rfl <;> exact hI.2 _ k
      have q16 : 0 ≤ v 12 (v kr k) ∧ v 12 (v kr k) ≤ 3 := hI.2 12 (v kr k)
      have q17 : 0 ≤ v 42 (l_forecastOf_39 v (((v 2 0) - 0).toNat + 1) (-1) 0) ∧ v 42 (l_forecastOf_39 v (((v 2 0) - 0).toNat + 1) (-1) 0) ≤ T + 300 := hI.2 42 (l_forecastOf_39 v (((v 2 0) - 0).toNat + 1) (-1) 0)
      have q18 : 0 ≤ v 13 (v kr k) ∧ v 13 (v kr k) ≤ 14 := hI.2 13 (v kr k)
      have q19 : -1 ≤ v 43 (l_forecastOf_39 v (((v 2 0) - 0).toNat + 1) (-1) 0) ∧ v 43 (l_forecastOf_39 v (((v 2 0) - 0).toNat + 1) (-1) 0) ≤ 3 := hI.2 43 (l_forecastOf_39 v (((v 2 0) - 0).toNat + 1) (-1) 0)
      by_cases c20 : (v 43 (l_forecastOf_39 v (((v 2 0) - 0).toNat + 1) (-1) 0)) = (-1)
      · by_cases c21 : (((v 42 (l_forecastOf_39 v (((v 2 0) - 0).toNat + 1) (-1) 0)) + (v 13 (v kr k))) + 0) ≤ last
        · rw [l_forecastOf_25, if_neg c11, if_pos c20, if_pos c21]
          exact ih last (k + 1) (upv (upv v 42 (l_forecastOf_39 v (((v 2 0) - 0).toNat + 1) (-1) 0) ((((v 42 (l_forecastOf_39 v (((v 2 0) - 0).toNat + 1) (-1) 0)) + (v 13 (v kr k))) + 0) + 2)) 43 (l_forecastOf_39 v (((v 2 0) - 0).toNat + 1) (-1) 0) (v 12 (v kr k))) ((hI.up 42 (l_forecastOf_39 v (((v 2 0) - 0).toNat + 1) (-1) 0) ((((v 42 (l_forecastOf_39 v (((v 2 0) - 0).toNat + 1) (-1) 0)) + (v 13 (v kr k))) + 0) + 2) (by show 0 ≤ ((((v 42 (l_forecastOf_39 v (((v 2 0) - 0).toNat + 1) (-1) 0)) + (v 13 (v kr k))) + 0) + 2) ∧ ((((v 42 (l_forecastOf_39 v (((v 2 0) - 0).toNat + 1) (-1) 0)) + (v 13 (v kr k))) + 0) + 2) ≤ T + 300; omega)).up 43 (l_forecastOf_39 v (((v 2 0) - 0).toNat + 1) (-1) 0) (v 12 (v kr k)) (by show -1 ≤ (v 12 (v kr k)) ∧ (v 12 (v kr k)) ≤ 3; omega)) (by show 0 ≤ (k + 1) ∧ (k + 1) ≤ 1000; omega) (by show 0 ≤ last ∧ last ≤ T + 300; omega) (by exact ht) (by intro w h1 h2; have h3 := hf w h1 h2; unfold upv; repeat' split; all_goals omega)
        · rw [l_forecastOf_25, if_neg c11, if_pos c20, if_neg c21]
          exact ih (((v 42 (l_forecastOf_39 v (((v 2 0) - 0).toNat + 1) (-1) 0)) + (v 13 (v kr k))) + 0) (k + 1) (upv (upv v 42 (l_forecastOf_39 v (((v 2 0) - 0).toNat + 1) (-1) 0) ((((v 42 (l_forecastOf_39 v (((v 2 0) - 0).toNat + 1) (-1) 0)) + (v 13 (v kr k))) + 0) + 2)) 43 (l_forecastOf_39 v (((v 2 0) - 0).toNat + 1) (-1) 0) (v 12 (v kr k))) ((hI.up 42 (l_forecastOf_39 v (((v 2 0) - 0).toNat + 1) (-1) 0) ((((v 42 (l_forecastOf_39 v (((v 2 0) - 0).toNat + 1) (-1) 0)) + (v 13 (v kr k))) + 0) + 2) (by show 0 ≤ ((((v 42 (l_forecastOf_39 v (((v 2 0) - 0).toNat + 1) (-1) 0)) + (v 13 (v kr k))) + 0) + 2) ∧ ((((v 42 (l_forecastOf_39 v (((v 2 0) - 0).toNat + 1) (-1) 0)) + (v 13 (v kr k))) + 0) + 2) ≤ T + 300; omega)).up 43 (l_forecastOf_39 v (((v 2 0) - 0).toNat + 1) (-1) 0) (v 12 (v kr k)) (by show -1 ≤ (v 12 (v kr k)) ∧ (v 12 (v kr k)) ≤ 3; omega)) (by show 0 ≤ (k + 1) ∧ (k + 1) ≤ 1000; omega) (by show 0 ≤ (((v 42 (l_forecastOf_39 v (((v 2 0) - 0).toNat + 1) (-1) 0)) + (v 13 (v kr k))) + 0) ∧ (((v 42 (l_forecastOf_39 v (((v 2 0) - 0).toNat + 1) (-1) 0)) + (v 13 (v kr k))) + 0) ≤ T + 300; omega) (by exact ht) (by intro w h1 h2; have h3 := hf w h1 h2; unfold upv; repeat' split; all_goals omega)
      · by_cases c22 : (v 43 (l_forecastOf_39 v (((v 2 0) - 0).toNat + 1) (-1) 0)) = (v 12 (v kr k))
        · by_cases c23 : (((v 42 (l_forecastOf_39 v (((v 2 0) - 0).toNat + 1) (-1) 0)) + (v 13 (v kr k))) + 0) ≤ last
          · rw [l_forecastOf_25, if_neg c11, if_neg c20, if_pos c22, if_pos c23]
            exact ih last (k + 1) (upv (upv v 42 (l_forecastOf_39 v (((v 2 0) - 0).toNat + 1) (-1) 0) ((((v 42 (l_forecastOf_39 v (((v 2 0) - 0).toNat + 1) (-1) 0)) + (v 13 (v kr k))) + 0) + 2)) 43 (l_forecastOf_39 v (((v 2 0) - 0).toNat + 1) (-1) 0) (v 12 (v kr k))) ((hI.up 42 (l_forecastOf_39 v (((v 2 0) - 0).toNat + 1) (-1) 0) ((((v 42 (l_forecastOf_39 v (((v 2 0) - 0).toNat + 1) (-1) 0)) + (v 13 (v kr k))) + 0) + 2) (by show 0 ≤ ((((v 42 (l_forecastOf_39 v (((v 2 0) - 0).toNat + 1) (-1) 0)) + (v 13 (v kr k))) + 0) + 2) ∧ ((((v 42 (l_forecastOf_39 v (((v 2 0) - 0).toNat + 1) (-1) 0)) + (v 13 (v kr k))) + 0) + 2) ≤ T + 300; omega)).up 43 (l_forecastOf_39 v (((v 2 0) - 0).toNat + 1) (-1) 0) (v 12 (v kr k)) (by show -1 ≤ (v 12 (v kr k)) ∧ (v 12 (v kr k)) ≤ 3; omega)) (by show 0 ≤ (k + 1) ∧ (k + 1) ≤ 1000; omega) (by show 0 ≤ last ∧ last ≤ T + 300; omega) (by exact ht) (by intro w h1 h2; have h3 := hf w h1 h2; unfold upv; repeat' split; all_goals omega)
          · rw [l_forecastOf_25, if_neg c11, if_neg c20, if_pos c22, if_neg c23]
            exact ih (((v 42 (l_forecastOf_39 v (((v 2 0) - 0).toNat + 1) (-1) 0)) + (v 13 (v kr k))) + 0) (k + 1) (upv (upv v 42 (l_forecastOf_39 v (((v 2 0) - 0).toNat + 1) (-1) 0) ((((v 42 (l_forecastOf_39 v (((v 2 0) - 0).toNat + 1) (-1) 0)) + (v 13 (v kr k))) + 0) + 2)) 43 (l_forecastOf_39 v (((v 2 0) - 0).toNat + 1) (-1) 0) (v 12 (v kr k))) ((hI.up 42 (l_forecastOf_39 v (((v 2 0) - 0).toNat + 1) (-1) 0) ((((v 42 (l_forecastOf_39 v (((v 2 0) - 0).toNat + 1) (-1) 0)) + (v 13 (v kr k))) + 0) + 2) (by show 0 ≤ ((((v 42 (l_forecastOf_39 v (((v 2 0) - 0).toNat + 1) (-1) 0)) + (v 13 (v kr k))) + 0) + 2) ∧ ((((v 42 (l_forecastOf_39 v (((v 2 0) - 0).toNat + 1) (-1) 0)) + (v 13 (v kr k))) + 0) + 2) ≤ T + 300; omega)).up 43 (l_forecastOf_39 v (((v 2 0) - 0).toNat + 1) (-1) 0) (v 12 (v kr k)) (by show -1 ≤ (v 12 (v kr k)) ∧ (v 12 (v kr k)) ≤ 3; omega)) (by show 0 ≤ (k + 1) ∧ (k + 1) ≤ 1000; omega) (by show 0 ≤ (((v 42 (l_forecastOf_39 v (((v 2 0) - 0).toNat + 1) (-1) 0)) + (v 13 (v kr k))) + 0) ∧ (((v 42 (l_forecastOf_39 v (((v 2 0) - 0).toNat + 1) (-1) 0)) + (v 13 (v kr k))) + 0) ≤ T + 300; omega) (by exact ht) (by intro w h1 h2; have h3 := hf w h1 h2; unfold upv; repeat' split; all_goals omega)
        · by_cases c24 : (((v 42 (l_forecastOf_39 v (((v 2 0) - 0).toNat + 1) (-1) 0)) + (v 13 (v kr k))) + 1) ≤ last
          · rw [l_forecastOf_25, if_neg c11, if_neg c20, if_neg c22, if_pos c24]
            exact ih last (k + 1) (upv (upv v 42 (l_forecastOf_39 v (((v 2 0) - 0).toNat + 1) (-1) 0) ((((v 42 (l_forecastOf_39 v (((v 2 0) - 0).toNat + 1) (-1) 0)) + (v 13 (v kr k))) + 1) + 2)) 43 (l_forecastOf_39 v (((v 2 0) - 0).toNat + 1) (-1) 0) (v 12 (v kr k))) ((hI.up 42 (l_forecastOf_39 v (((v 2 0) - 0).toNat + 1) (-1) 0) ((((v 42 (l_forecastOf_39 v (((v 2 0) - 0).toNat + 1) (-1) 0)) + (v 13 (v kr k))) + 1) + 2) (by show 0 ≤ ((((v 42 (l_forecastOf_39 v (((v 2 0) - 0).toNat + 1) (-1) 0)) + (v 13 (v kr k))) + 1) + 2) ∧ ((((v 42 (l_forecastOf_39 v (((v 2 0) - 0).toNat + 1) (-1) 0)) + (v 13 (v kr k))) + 1) + 2) ≤ T + 300; omega)).up 43 (l_forecastOf_39 v (((v 2 0) - 0).toNat + 1) (-1) 0) (v 12 (v kr k)) (by show -1 ≤ (v 12 (v kr k)) ∧ (v 12 (v kr k)) ≤ 3; omega)) (by show 0 ≤ (k + 1) ∧ (k + 1) ≤ 1000; omega) (by show 0 ≤ last ∧ last ≤ T + 300; omega) (by exact ht) (by intro w h1 h2; have h3 := hf w h1 h2; unfold upv; repeat' split; all_goals omega)
          · rw [l_forecastOf_25, if_neg c11, if_neg c20, if_neg c22, if_neg c24]
            exact ih (((v 42 (l_forecastOf_39 v (((v 2 0) - 0).toNat + 1) (-1) 0)) + (v 13 (v kr k))) + 1) (k + 1) (upv (upv v 42 (l_forecastOf_39 v (((v 2 0) - 0).toNat + 1) (-1) 0) ((((v 42 (l_forecastOf_39 v (((v 2 0) - 0).toNat + 1) (-1) 0)) + (v 13 (v kr k))) + 1) + 2)) 43 (l_forecastOf_39 v (((v 2 0) - 0).toNat + 1) (-1) 0) (v 12 (v kr k))) ((hI.up 42 (l_forecastOf_39 v (((v 2 0) - 0).toNat + 1) (-1) 0) ((((v 42 (l_forecastOf_39 v (((v 2 0) - 0).toNat + 1) (-1) 0)) + (v 13 (v kr k))) + 1) + 2) (by show 0 ≤ ((((v 42 (l_forecastOf_39 v (((v 2 0) - 0).toNat + 1) (-1) 0)) + (v 13 (v kr k))) + 1) + 2) ∧ ((((v 42 (l_forecastOf_39 v (((v 2 0) - 0).toNat + 1) (-1) 0)) + (v 13 (v kr k))) + 1) + 2) ≤ T + 300; omega)).up 43 (l_forecastOf_39 v (((v 2 0) - 0).toNat + 1) (-1) 0) (v 12 (v kr k)) (by show -1 ≤ (v 12 (v kr k)) ∧ (v 12 (v kr k)) ≤ 3; omega)) (by show 0 ≤ (k + 1) ∧ (k + 1) ≤ 1000; omega) (by show 0 ≤ (((v 42 (l_forecastOf_39 v (((v 2 0) - 0).toNat + 1) (-1) 0)) + (v 13 (v kr k))) + 1) ∧ (((v 42 (l_forecastOf_39 v (((v 2 0) - 0).toNat + 1) (-1) 0)) + (v 13 (v kr k))) + 1) ≤ T + 300; omega) (by exact ht) (by intro w h1 h2; have h3 := hf w h1 h2; unfold upv; repeat' split; all_goals omega)
def f_forecastOf (kr : Nat) (v : Vw) : Int × Vw :=
  (l_forecastOf_25 kr (((v 7 0) - 0).toNat + 1) 0 0 (l_forecastOf_4 (((v 2 0) - 0).toNat + 1) 0 v))
theorem i_forecastOf {v : Vw} {T E : Int} {kr : Nat} (hI : IM v T E) (hk : kr = 39 ∨ kr = 40) (ht : HasF v) : IM (f_forecastOf kr v).2 T (E) ∧ (0 ≤ (f_forecastOf kr v).1 ∧ (f_forecastOf kr v).1 ≤ T + 300) := by
  have hT := hI.1
  have hJ25 := i_l_forecastOf_4  (((v 2 0) - 0).toNat + 1) 0 v hI (by show 0 ≤ 0 ∧ 0 ≤ 100; omega)
  have q26 : (l_forecastOf_4 (((v 2 0) - 0).toNat + 1) 0 v) 7 0 = v 7 0 := (fr_l_forecastOf_4 (((v 2 0) - 0).toNat + 1) 0 v 7 0 (by decide)).trans rfl
  rw [f_forecastOf]
  exact i_l_forecastOf_25 hk (((v 7 0) - 0).toNat + 1) 0 0 (l_forecastOf_4 (((v 2 0) - 0).toNat + 1) 0 v) hJ25 (by show 0 ≤ 0 ∧ 0 ≤ 1000; omega) (by show 0 ≤ 0 ∧ 0 ≤ T + 300; omega) (by obtain ⟨w, h1, h2, h3⟩ := ht; exact ⟨w, h1, by rw [fr_l_forecastOf_4 _ _ _ _ _ (by decide)]; exact h2, by rw [fr_l_forecastOf_4 _ _ _ _ _ (by decide)]; exact h3⟩) (by intro w h1 h2; rw [fr_l_forecastOf_4 _ _ _ _ _ (by decide)] at h2; have h3 := up_l_forecastOf_4 ((v 2 0 - 0).toNat + 1) 0 v hI (by omega) (by omega) w (by omega) h2; omega)
theorem fr_forecastOf {kr : Nat} {v : Vw} (fk : Nat) (fi : Int) (hk : fk ≠ 42 ∧ fk ≠ 43) : (f_forecastOf kr v).2 fk fi = v fk fi := by
  rw [f_forecastOf]
  exact (fr_l_forecastOf_25 (((v 7 0) - 0).toNat + 1) 0 0 (l_forecastOf_4 (((v 2 0) - 0).toNat + 1) 0 v) fk fi (by omega)).trans ((fr_l_forecastOf_4 (((v 2 0) - 0).toNat + 1) 0 v fk fi (by omega)).trans rfl)
def l_canForecast_4 (v : Vw) : Nat → Int → Int → Int
  | 0, has, w => has
  | n + 1, has, w =>
    if (v 2 0) ≤ w then
      has
    else
      if has = 0 then
        if (v 20 w) = 0 then
          (l_canForecast_4 v n 1 (w + 1))
        else
          (l_canForecast_4 v n 0 (w + 1))
      else
        (l_canForecast_4 v n 1 (w + 1))
theorem r_l_canForecast_4 {v : Vw} : ∀ (n : Nat) (has w : Int), 0 ≤ w → (0 ≤ has ∧ has ≤ 1) → (v 2 0 - w).toNat < n → (0 ≤ l_canForecast_4 v n has w ∧ l_canForecast_4 v n has w ≤ 1) ∧ (¬ l_canForecast_4 v n has w = 0 → ¬ has = 0 ∨ HasG v w) := by
  intro n
  induction n with
  | zero => exact fun _ _ _ _ h => absurd h (Nat.not_lt_zero _)
  | succ n ih =>
    intro has w hw hh hm
    rw [l_canForecast_4]
    have up : HasG v (w + 1) → HasG v w := fun ⟨a, h1, h2, h3⟩ => ⟨a, by omega, h2, h3⟩
    split
    · exact ⟨hh, fun h => Or.inl h⟩
    · rename_i hc
      split
      · split
        · rename_i h1 h2
          refine ⟨(ih 1 (w + 1) (by omega) (by omega) (by omega)).1, fun _ => Or.inr ⟨w, by omega, by omega, h2⟩⟩
        · rename_i h1 h2
          have g := ih 0 (w + 1) (by omega) (by omega) (by omega)
          exact ⟨g.1, fun h => (g.2 h).elim (fun h => absurd rfl h) (fun h => Or.inr (up h))⟩
      · rename_i h1
        exact ⟨(ih 1 (w + 1) (by omega) (by omega) (by omega)).1, fun _ => Or.inl h1⟩
def f_canForecast (v : Vw) : Int × Vw :=
  if (l_canForecast_4 v (((v 2 0) - 0).toNat + 1) 0 0) = 0 then
    (0, (upv v 0 0 1))
  else
    if (v 7 0) ≤ 0 then
      (0, (upv v 0 0 1))
    else
      (1, (upv v 0 0 0))
theorem i_canForecast {v : Vw} {T E : Int} (hI : IM v T E) : IM (f_canForecast v).2 T (E) := by
  have hT := hI.1
  have q5 := (r_l_canForecast_4 (v := v) (((v 2 0) - 0).toNat + 1) 0 0 (by omega) (by omega) (by omega)).1
  by_cases c6 : (l_canForecast_4 v (((v 2 0) - 0).toNat + 1) 0 0) = 0
  · rw [f_canForecast, if_pos c6]
    exact (hI.up 0 0 1 (by show 0 ≤ 1 ∧ 1 ≤ 4; omega))
  · have q7 : 0 ≤ v 7 0 ∧ v 7 0 ≤ 6 := hI.2 7 0
    by_cases c8 : (v 7 0) ≤ 0
    · rw [f_canForecast, if_neg c6, if_pos c8]
      exact (hI.up 0 0 1 (by show 0 ≤ 1 ∧ 1 ≤ 4; omega))
    · rw [f_canForecast, if_neg c6, if_neg c8]
      exact (hI.up 0 0 0 (by show 0 ≤ 0 ∧ 0 ≤ 4; omega))
theorem fr_canForecast {v : Vw} (fk : Nat) (fi : Int) (hk : fk ≠ 0) : (f_canForecast v).2 fk fi = v fk fi := by
  by_cases c6 : (l_canForecast_4 v (((v 2 0) - 0).toNat + 1) 0 0) = 0
  · rw [f_canForecast, if_pos c6]
    exact ((upv_nk (by omega)).trans rfl)
  · by_cases c8 : (v 7 0) ≤ 0
    · rw [f_canForecast, if_neg c6, if_pos c8]
      exact ((upv_nk (by omega)).trans rfl)
    · rw [f_canForecast, if_neg c6, if_neg c8]
      exact ((upv_nk (by omega)).trans rfl)
theorem c_canForecast (v : Vw) : (f_canForecast v).1 = 0 ∨ ((f_canForecast v).1 = 1 ∧ 0 < v 7 0) := by
  unfold f_canForecast
  repeat' split
  all_goals (first | exact Or.inl rfl | (refine Or.inr ⟨rfl, ?_⟩; omega))
theorem h_canForecast (v : Vw) (h : ¬ (f_canForecast v).1 = 0) : HasF (f_canForecast v).2 := by
  refine HasF_fr (fr_canForecast 2 0 (by decide)) (fun i => fr_canForecast 20 i (by decide)) ?_
  have g := (r_l_canForecast_4 (v := v) ((v 2 0 - 0).toNat + 1) 0 0 (by omega) (by omega) (by omega)).2
  unfold f_canForecast at h
  by_cases e : l_canForecast_4 v ((v 2 0 - 0).toNat + 1) 0 0 = 0
  · rw [if_pos e] at h
    exact absurd rfl h
  · exact (g e).elim (fun h => absurd rfl h) id
def f_forecast (v : Vw) : Int × Vw :=
  if (f_canForecast  v).1 = 0 then
    (0, (f_canForecast  v).2)
  else
    ((f_forecastOf 39 ((f_canForecast  v).2)).1, (f_forecastOf 39 ((f_canForecast  v).2)).2)
theorem i_forecast {v : Vw} {T E : Int} (hI : IM v T E) : IM (f_forecast v).2 T (E) := by
  have hT := hI.1
  have q1 : 0 ≤ v 7 0 ∧ v 7 0 ≤ 6 := hI.2 7 0
  have hJ2 := (i_canForecast  hI )
  have q3 : (f_canForecast  v).1 = 0 ∨ ((f_canForecast  v).1 = 1 ∧ 0 < (v 7 0)) := c_canForecast v
  have hcf : ¬ (f_canForecast  v).1 = 0 → HasF (f_canForecast  v).2 := h_canForecast v
  have q5 : 0 ≤ (v 7 0) ∧ (v 7 0) ≤ 6 := hI.2 7 0
  by_cases c6 : (f_canForecast  v).1 = 0
  · rw [f_forecast, if_pos c6]
    exact hJ2
  · have hJ7 := (i_forecastOf (kr := 39) hJ2 (by show 39 = 39 ∨ 39 = 40; omega) (by first | exact ht | exact hcf (by assumption) | exact hff (hcf (by assumption)))).1
    have q8 := (i_forecastOf (kr := 39) hJ2 (by show 39 = 39 ∨ 39 = 40; omega) (by first | exact ht | exact hcf (by assumption) | exact hff (hcf (by assumption)))).2
    have hff : HasF ((f_canForecast  v).2) → HasF (f_forecastOf 39 ((f_canForecast  v).2)).2 := fun h => HasF_fr (fr_forecastOf 2 0 (by decide)) (fun i => fr_forecastOf 20 i (by decide)) h
    rw [f_forecast, if_neg c6]
    exact hJ7
theorem fr_forecast {v : Vw} (fk : Nat) (fi : Int) (hk : fk ≠ 0 ∧ fk ≠ 42 ∧ fk ≠ 43) : (f_forecast v).2 fk fi = v fk fi := by
  by_cases c6 : (f_canForecast  v).1 = 0
  · rw [f_forecast, if_pos c6]
    exact ((fr_canForecast (v := v) fk fi (by omega)).trans rfl)
  · rw [f_forecast, if_neg c6]
    exact ((fr_forecastOf (kr := 39) (v := ((f_canForecast  v).2)) fk fi (by omega)).trans ((fr_canForecast (v := v) fk fi (by omega)).trans rfl))
def f_swaps (a b : Int) (v : Vw) : Vw :=
  (upv (upv v 40 a (v 40 b)) 40 b (v 40 a))
theorem i_swaps {v : Vw} {T E : Int} {a b : Int} (hI : IM v T E) (ha : 0 ≤ a ∧ a ≤ 5) (hb : 0 ≤ b ∧ b ≤ 5) : IM (f_swaps a b v) T (E) := by
  have hT := hI.1
  have q1 : 0 ≤ v 40 a ∧ v 40 a ≤ 4 := hI.2 40 a
  have q2 : 0 ≤ v 40 b ∧ v 40 b ≤ 4 := hI.2 40 b
  rw [f_swaps]
  exact ((hI.up 40 a (v 40 b) (by show 0 ≤ (v 40 b) ∧ (v 40 b) ≤ 4; omega)).up 40 b (v 40 a) (by show 0 ≤ (v 40 a) ∧ (v 40 a) ≤ 4; omega))
theorem fr_swaps {a b : Int} {v : Vw} (fk : Nat) (fi : Int) (hk : fk ≠ 40) : (f_swaps a b v) fk fi = v fk fi := by
  rw [f_swaps]
  exact ((upv_nk (by omega)).trans ((upv_nk (by omega)).trans rfl))
def l_turns_7 (v : Vw) : Nat → Int → Int
  | 0, k => k
  | n + 1, k =>
    if k < 0 then
      k
    else
      if (v 40 k) < (v 40 (k + 1)) then
        k
      else
        (l_turns_7 v n (k + (-1)))
theorem r_l_turns_7 {v : Vw} : ∀ (n : Nat) (k : Int), -1 ≤ k → (k + 1).toNat < n → -1 ≤ l_turns_7 v n k ∧ l_turns_7 v n k ≤ k ∧ (0 ≤ l_turns_7 v n k → v 40 (l_turns_7 v n k) < v 40 (l_turns_7 v n k + 1)) := by
  intro n
  induction n with
  | zero => exact fun _ _ h => absurd h (Nat.not_lt_zero _)
  | succ n ih =>
    intro k hk hm
    rw [l_turns_7]
    split
    · exact ⟨by omega, by omega, fun h => by omega⟩
    · split
      · rename_i h1 h2
        exact ⟨by omega, by omega, fun _ => h2⟩
      · rename_i h1 h2
        have g := ih (k + -1) (by omega) (by omega)
        exact ⟨g.1, by omega, g.2.2⟩
def l_turns_47 (k : Int) (v : Vw) : Nat → Int → Int
  | 0, j => j
  | n + 1, j =>
    if (v 40 k) < (v 40 j) then
      j
    else
      (l_turns_47 k v n (j + (-1)))
theorem r_l_turns_47 {v : Vw} (k : Int) : ∀ (n : Nat) (j : Int), k + 1 ≤ j → (0 ≤ k ∧ v 40 k < v 40 (k + 1)) → j.toNat < n → k + 1 ≤ l_turns_47 k v n j ∧ l_turns_47 k v n j ≤ j ∧ v 40 k < v 40 (l_turns_47 k v n j) := by
  intro n
  induction n with
  | zero => exact fun _ _ _ h => absurd h (Nat.not_lt_zero _)
  | succ n ih =>
    intro j hj hk hm
    rw [l_turns_47]
    split
    · rename_i h1
      exact ⟨hj, by omega, h1⟩
    · rename_i h1
      have e : ¬ j = k + 1 := fun e => by subst e; omega
      have g := ih (j + -1) (by omega) hk (by omega)
      exact ⟨g.1, by omega, g.2.2⟩
def l_turns_86 : Nat → Int → Int → Vw → Int × Vw
  | 0, lo, hi, v => (0, v)
  | n + 1, lo, hi, v =>
    if hi ≤ lo then
      (1, v)
    else
      (l_turns_86 n (lo + 1) (hi + (-1)) (f_swaps lo hi v))
theorem fr_l_turns_86 : ∀ (n : Nat) (lo hi : Int) (v : Vw) (fk : Nat) (fi : Int) (hk : fk ≠ 40), (l_turns_86 n lo hi v).2 fk fi = v fk fi := by
  intro n lo hi v fk fi hk
  induction n generalizing lo hi v with
  | zero => rfl
  | succ n ih =>
    by_cases c8 : hi ≤ lo
    · rw [l_turns_86, if_pos c8]
      try rfl
    · rw [l_turns_86, if_neg c8]
      exact (ih (lo + 1) (hi + (-1)) (f_swaps lo hi v)).trans ((fr_swaps (a := lo) (b := hi) (v := v) fk fi (by omega)).trans rfl)
theorem i_l_turns_86 {T E : Int} : ∀ (n : Nat) (lo hi : Int) (v : Vw) (hI : IM v T E) (hlo : 0 ≤ lo ∧ lo ≤ 100) (hhi : 0 ≤ hi ∧ hi ≤ 5), IM (l_turns_86 n lo hi v).2 T (E) := by
  intro n
  induction n with
  | zero =>
    intro lo hi v hI hlo hhi
    have hT := hI.1
    exact hI
  | succ n ih =>
    intro lo hi v hI hlo hhi
    have hT := hI.1
    by_cases c8 : hi ≤ lo
    · rw [l_turns_86, if_pos c8]
      exact hI
    · have hJ9 := (i_swaps (a := lo) (b := hi) hI (by show 0 ≤ lo ∧ lo ≤ 5; omega) (by show 0 ≤ hi ∧ hi ≤ 5; omega))
      rw [l_turns_86, if_neg c8]
      exact ih (lo + 1) (hi + (-1)) (f_swaps lo hi v) hJ9 (by show 0 ≤ (lo + 1) ∧ (lo + 1) ≤ 100; omega) (by show 0 ≤ (hi + (-1)) ∧ (hi + (-1)) ≤ 5; omega)
theorem rb_l_turns_86 : ∀ (n : Nat) (lo hi : Int) (v : Vw), 0 ≤ (l_turns_86 n lo hi v).1 ∧ (l_turns_86 n lo hi v).1 ≤ 1 := by
  intro n
  induction n with
  | zero => exact fun _ _ _ => ⟨Int.le_refl 0, Int.zero_le_ofNat 1⟩
  | succ n ih =>
    intro lo hi v
    rw [l_turns_86]
    split
    · exact ⟨Int.zero_le_ofNat 1, Int.le_refl 1⟩
    · exact ih _ _ _
def f_turns (v : Vw) : Int × Vw :=
  if 0 ≤ (l_turns_7 v ((((v 7 0) - 2) + 1).toNat + 1) ((v 7 0) - 2)) then
    (l_turns_86 ((((v 7 0) - 1) - ((l_turns_7 v ((((v 7 0) - 2) + 1).toNat + 1) ((v 7 0) - 2)) + 1)).toNat + 1) ((l_turns_7 v ((((v 7 0) - 2) + 1).toNat + 1) ((v 7 0) - 2)) + 1) ((v 7 0) - 1) (f_swaps (l_turns_7 v ((((v 7 0) - 2) + 1).toNat + 1) ((v 7 0) - 2)) (l_turns_47 (l_turns_7 v ((((v 7 0) - 2) + 1).toNat + 1) ((v 7 0) - 2)) v ((((v 7 0) - 1)).toNat + 1) ((v 7 0) - 1)) v))
  else
    (0, v)
theorem i_turns {v : Vw} {T E : Int} (hI : IM v T E) (hq : 1 ≤ v 7 0) : IM (f_turns v).2 T (E) := by
  have hT := hI.1
  have u7 : 0 ≤ v 7 0 ∧ v 7 0 ≤ 6 := hI.2 7 0
  have q10 := r_l_turns_7 (v := v) ((((v 7 0) - 2) + 1).toNat + 1) (v 7 0 - 2) (by omega) (by omega)
  by_cases c11 : 0 ≤ (l_turns_7 v ((((v 7 0) - 2) + 1).toNat + 1) ((v 7 0) - 2))
  · have q12 := r_l_turns_47 (v := v) (l_turns_7 v ((((v 7 0) - 2) + 1).toNat + 1) ((v 7 0) - 2)) ((((v 7 0) - 1)).toNat + 1) (v 7 0 - 1) (by omega) (by omega) (by omega)
    have hJ13 := (i_swaps (a := (l_turns_7 v ((((v 7 0) - 2) + 1).toNat + 1) ((v 7 0) - 2))) (b := (l_turns_47 (l_turns_7 v ((((v 7 0) - 2) + 1).toNat + 1) ((v 7 0) - 2)) v ((((v 7 0) - 1)).toNat + 1) ((v 7 0) - 1))) hI (by show 0 ≤ (l_turns_7 v ((((v 7 0) - 2) + 1).toNat + 1) ((v 7 0) - 2)) ∧ (l_turns_7 v ((((v 7 0) - 2) + 1).toNat + 1) ((v 7 0) - 2)) ≤ 5; omega) (by show 0 ≤ (l_turns_47 (l_turns_7 v ((((v 7 0) - 2) + 1).toNat + 1) ((v 7 0) - 2)) v ((((v 7 0) - 1)).toNat + 1) ((v 7 0) - 1)) ∧ (l_turns_47 (l_turns_7 v ((((v 7 0) - 2) + 1).toNat + 1) ((v 7 0) - 2)) v ((((v 7 0) - 1)).toNat + 1) ((v 7 0) - 1)) ≤ 5; omega))
    have q14 : (f_swaps (l_turns_7 v ((((v 7 0) - 2) + 1).toNat + 1) ((v 7 0) - 2)) (l_turns_47 (l_turns_7 v ((((v 7 0) - 2) + 1).toNat + 1) ((v 7 0) - 2)) v ((((v 7 0) - 1)).toNat + 1) ((v 7 0) - 1)) v) 7 0 = v 7 0 := (fr_swaps (a := (l_turns_7 v ((((v 7 0) - 2) + 1).toNat + 1) ((v 7 0) - 2))) (b := (l_turns_47 (l_turns_7 v ((((v 7 0) - 2) + 1).toNat + 1) ((v 7 0) - 2)) v ((((v 7 0) - 1)).toNat + 1) ((v 7 0) - 1))) (v := v) 7 0 (by decide)).trans rfl
    rw [f_turns, if_pos c11]
    exact i_l_turns_86  ((((v 7 0) - 1) - ((l_turns_7 v ((((v 7 0) - 2) + 1).toNat + 1) ((v 7 0) - 2)) + 1)).toNat + 1) ((l_turns_7 v ((((v 7 0) - 2) + 1).toNat + 1) ((v 7 0) - 2)) + 1) ((v 7 0) - 1) (f_swaps (l_turns_7 v ((((v 7 0) - 2) + 1).toNat + 1) ((v 7 0) - 2)) (l_turns_47 (l_turns_7 v ((((v 7 0) - 2) + 1).toNat + 1) ((v 7 0) - 2)) v ((((v 7 0) - 1)).toNat + 1) ((v 7 0) - 1)) v) hJ13 (by show 0 ≤ ((l_turns_7 v ((((v 7 0) - 2) + 1).toNat + 1) ((v 7 0) - 2)) + 1) ∧ ((l_turns_7 v ((((v 7 0) - 2) + 1).toNat + 1) ((v 7 0) - 2)) + 1) ≤ 100; omega) (by show 0 ≤ ((v 7 0) - 1) ∧ ((v 7 0) - 1) ≤ 5; omega)
  · rw [f_turns, if_neg c11]
    exact hI
theorem fr_turns {v : Vw} (fk : Nat) (fi : Int) (hk : fk ≠ 40) : (f_turns v).2 fk fi = v fk fi := by
  by_cases c11 : 0 ≤ (l_turns_7 v ((((v 7 0) - 2) + 1).toNat + 1) ((v 7 0) - 2))
  · rw [f_turns, if_pos c11]
    exact (fr_l_turns_86 ((((v 7 0) - 1) - ((l_turns_7 v ((((v 7 0) - 2) + 1).toNat + 1) ((v 7 0) - 2)) + 1)).toNat + 1) ((l_turns_7 v ((((v 7 0) - 2) + 1).toNat + 1) ((v 7 0) - 2)) + 1) ((v 7 0) - 1) (f_swaps (l_turns_7 v ((((v 7 0) - 2) + 1).toNat + 1) ((v 7 0) - 2)) (l_turns_47 (l_turns_7 v ((((v 7 0) - 2) + 1).toNat + 1) ((v 7 0) - 2)) v ((((v 7 0) - 1)).toNat + 1) ((v 7 0) - 1)) v) fk fi (by omega)).trans ((fr_swaps (a := (l_turns_7 v ((((v 7 0) - 2) + 1).toNat + 1) ((v 7 0) - 2))) (b := (l_turns_47 (l_turns_7 v ((((v 7 0) - 2) + 1).toNat + 1) ((v 7 0) - 2)) v ((((v 7 0) - 1)).toNat + 1) ((v 7 0) - 1))) (v := v) fk fi (by omega)).trans rfl)
  · rw [f_turns, if_neg c11]
    try rfl
theorem rb_turns (v : Vw) : 0 ≤ (f_turns v).1 ∧ (f_turns v).1 ≤ 1 := by
  unfold f_turns
  repeat' split
  all_goals first | exact rb_l_turns_86 _ _ _ _ | exact ⟨Int.le_refl 0, Int.zero_le_ofNat 1⟩
