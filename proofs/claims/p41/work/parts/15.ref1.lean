/-! the reference, method by method: what it computes as a function of its fields, its contract, its ranges (written by wip/whole/mk15.py out of the decode rows) -/
def f_thrown (v : Vw) : Int :=
  (v 0 0)
def f_fails (c : Int) (v : Vw) : Int × Vw :=
  (0, (upv v 0 0 c))
theorem i_fails {v : Vw} {T E : Int} {c : Int} (hI : IM v T E) (hc : 0 ≤ c ∧ c ≤ 4) : IM (f_fails c v).2 T (E) := by
  have hT := hI.1
  rw [f_fails]
  exact (hI.up 0 0 c (by show 0 ≤ c ∧ c ≤ 4; omega))
theorem fr_fails {c : Int} {v : Vw} (fk : Nat) (fi : Int) (hk : fk ≠ 0) : (f_fails c v).2 fk fi = v fk fi := by
  rw [f_fails]
  exact ((upv_nk (by omega)).trans rfl)
def f_in (x a b : Int) : Int :=
  if x < a then
    0
  else
    if b < x then
      0
    else
      1
theorem c_in (x a b : Int) : (f_in x a b = 1 ∧ a ≤ x ∧ x ≤ b) ∨ (f_in x a b = 0 ∧ ¬ (a ≤ x ∧ x ≤ b)) := by
  unfold f_in
  repeat' split
  all_goals omega
theorem r_in {x a b : Int} : 0 ≤ f_in x a b ∧ f_in x a b ≤ 1 := by
  have := c_in x a b
  omega
def f_isRecipe (x : Int) (v : Vw) : Int :=
  (f_in x 0 ((v 1 0) - 1))
theorem c_isRecipe (x : Int) (v : Vw) : (f_isRecipe x v = 1 ∧ 0 ≤ x ∧ x < v 1 0) ∨ (f_isRecipe x v = 0 ∧ ¬ (0 ≤ x ∧ x < v 1 0)) := by
  have := c_in x 0 (v 1 0 - 1)
  unfold f_isRecipe
  omega
theorem r_isRecipe {x : Int} {v : Vw} : 0 ≤ f_isRecipe x v ∧ f_isRecipe x v ≤ 1 := by
  have := c_isRecipe x v
  omega
def f_isVessel (x : Int) (v : Vw) : Int :=
  (f_in x 0 ((v 2 0) - 1))
theorem c_isVessel (x : Int) (v : Vw) : (f_isVessel x v = 1 ∧ 0 ≤ x ∧ x < v 2 0) ∨ (f_isVessel x v = 0 ∧ ¬ (0 ≤ x ∧ x < v 2 0)) := by
  have := c_in x 0 (v 2 0 - 1)
  unfold f_isVessel
  omega
theorem r_isVessel {x : Int} {v : Vw} : 0 ≤ f_isVessel x v ∧ f_isVessel x v ≤ 1 := by
  have := c_isVessel x v
  omega
def f_isBrew (x : Int) (v : Vw) : Int :=
  (f_in x 0 ((v 5 0) - 1))
theorem c_isBrew (x : Int) (v : Vw) : (f_isBrew x v = 1 ∧ 0 ≤ x ∧ x < v 5 0) ∨ (f_isBrew x v = 0 ∧ ¬ (0 ≤ x ∧ x < v 5 0)) := by
  have := c_in x 0 (v 5 0 - 1)
  unfold f_isBrew
  omega
theorem r_isBrew {x : Int} {v : Vw} : 0 ≤ f_isBrew x v ∧ f_isBrew x v ≤ 1 := by
  have := c_isBrew x v
  omega
def f_isOrder (x : Int) (v : Vw) : Int :=
  (f_in x 0 ((v 6 0) - 1))
theorem c_isOrder (x : Int) (v : Vw) : (f_isOrder x v = 1 ∧ 0 ≤ x ∧ x < v 6 0) ∨ (f_isOrder x v = 0 ∧ ¬ (0 ≤ x ∧ x < v 6 0)) := by
  have := c_in x 0 (v 6 0 - 1)
  unfold f_isOrder
  omega
theorem r_isOrder {x : Int} {v : Vw} : 0 ≤ f_isOrder x v ∧ f_isOrder x v ≤ 1 := by
  have := c_isOrder x v
  omega
def f_addRecipe (a b c : Int) (v : Vw) : Int × Vw :=
  if (f_in a 0 3) = 0 then
    ((f_fails 1 v).1, (f_fails 1 v).2)
  else
    if (f_in b 1 14) = 0 then
      ((f_fails 1 v).1, (f_fails 1 v).2)
    else
      if (f_in c 0 14) = 0 then
        ((f_fails 1 v).1, (f_fails 1 v).2)
      else
        if (v 1 0) = 5 then
          ((f_fails 2 v).1, (f_fails 2 v).2)
        else
          ((((v 1 0) + 1) - 1), (upv (upv (upv (upv (upv v 0 0 0) 12 (v 1 0) a) 13 (v 1 0) b) 14 (v 1 0) c) 1 0 ((v 1 0) + 1)))
theorem i_addRecipe {v : Vw} {T E : Int} {a b c : Int} (hI : IM v T E) (ha : -2147483648 ≤ a ∧ a < 2147483648) (hb : -2147483648 ≤ b ∧ b < 2147483648) (hc : -2147483648 ≤ c ∧ c < 2147483648) : IM (f_addRecipe a b c v).2 T (E) := by
  have hT := hI.1
  have q1 : 0 ≤ (f_in a 0 3) ∧ (f_in a 0 3) ≤ 1 := r_in
  have q2 := c_in a 0 3
  by_cases c3 : (f_in a 0 3) = 0
  · have hJ4 := (i_fails (c := 1) hI (by show 0 ≤ 1 ∧ 1 ≤ 4; omega))
    rw [f_addRecipe, if_pos c3]
    exact hJ4
  · have q5 : 0 ≤ (f_in b 1 14) ∧ (f_in b 1 14) ≤ 1 := r_in
    have q6 := c_in b 1 14
    by_cases c7 : (f_in b 1 14) = 0
    · have hJ8 := (i_fails (c := 1) hI (by show 0 ≤ 1 ∧ 1 ≤ 4; omega))
      rw [f_addRecipe, if_neg c3, if_pos c7]
      exact hJ8
    · have q9 : 0 ≤ (f_in c 0 14) ∧ (f_in c 0 14) ≤ 1 := r_in
      have q10 := c_in c 0 14
      by_cases c11 : (f_in c 0 14) = 0
      · have hJ12 := (i_fails (c := 1) hI (by show 0 ≤ 1 ∧ 1 ≤ 4; omega))
        rw [f_addRecipe, if_neg c3, if_neg c7, if_pos c11]
        exact hJ12
      · have q13 : 0 ≤ v 1 0 ∧ v 1 0 ≤ 5 := hI.2 1 0
        by_cases c14 : (v 1 0) = 5
        · have hJ15 := (i_fails (c := 2) hI (by show 0 ≤ 2 ∧ 2 ≤ 4; omega))
          rw [f_addRecipe, if_neg c3, if_neg c7, if_neg c11, if_pos c14]
          exact hJ15
        · rw [f_addRecipe, if_neg c3, if_neg c7, if_neg c11, if_neg c14]
          exact (((((hI.up 0 0 0 (by show 0 ≤ 0 ∧ 0 ≤ 4; omega)).up 12 (v 1 0) a (by show 0 ≤ a ∧ a ≤ 3; omega)).up 13 (v 1 0) b (by show 0 ≤ b ∧ b ≤ 14; omega)).up 14 (v 1 0) c (by show 0 ≤ c ∧ c ≤ 14; omega)).up 1 0 ((v 1 0) + 1) (by show 0 ≤ ((v 1 0) + 1) ∧ ((v 1 0) + 1) ≤ 5; omega))
theorem fr_addRecipe {a b c : Int} {v : Vw} (fk : Nat) (fi : Int) (hk : fk ≠ 0 ∧ fk ≠ 1 ∧ fk ≠ 12 ∧ fk ≠ 13 ∧ fk ≠ 14) : (f_addRecipe a b c v).2 fk fi = v fk fi := by
  by_cases c3 : (f_in a 0 3) = 0
  · rw [f_addRecipe, if_pos c3]
    exact ((fr_fails (c := 1) (v := v) fk fi (by omega)).trans rfl)
  · by_cases c7 : (f_in b 1 14) = 0
    · rw [f_addRecipe, if_neg c3, if_pos c7]
      exact ((fr_fails (c := 1) (v := v) fk fi (by omega)).trans rfl)
    · by_cases c11 : (f_in c 0 14) = 0
      · rw [f_addRecipe, if_neg c3, if_neg c7, if_pos c11]
        exact ((fr_fails (c := 1) (v := v) fk fi (by omega)).trans rfl)
      · by_cases c14 : (v 1 0) = 5
        · rw [f_addRecipe, if_neg c3, if_neg c7, if_neg c11, if_pos c14]
          exact ((fr_fails (c := 2) (v := v) fk fi (by omega)).trans rfl)
        · rw [f_addRecipe, if_neg c3, if_neg c7, if_neg c11, if_neg c14]
          exact ((upv_nk (by omega)).trans ((upv_nk (by omega)).trans ((upv_nk (by omega)).trans ((upv_nk (by omega)).trans ((upv_nk (by omega)).trans rfl)))))
def f_addVessel (a : Int) (v : Vw) : Int × Vw :=
  if a = 102 then
    if (v 2 0) = 8 then
      ((f_fails 2 v).1, (f_fails 2 v).2)
    else
      if a = 116 then
        ((((v 2 0) + 1) - 1), (upv (upv (upv (upv v 0 0 0) 20 (v 2 0) 1) 19 (v 2 0) (-1)) 2 0 ((v 2 0) + 1)))
      else
        ((((v 2 0) + 1) - 1), (upv (upv (upv (upv v 0 0 0) 20 (v 2 0) 0) 19 (v 2 0) (-1)) 2 0 ((v 2 0) + 1)))
  else
    if a = 116 then
      if (v 2 0) = 8 then
        ((f_fails 2 v).1, (f_fails 2 v).2)
      else
        ((((v 2 0) + 1) - 1), (upv (upv (upv (upv v 0 0 0) 20 (v 2 0) 1) 19 (v 2 0) (-1)) 2 0 ((v 2 0) + 1)))
    else
      ((f_fails 1 v).1, (f_fails 1 v).2)
theorem i_addVessel {v : Vw} {T E : Int} {a : Int} (hI : IM v T E) (ha : -2147483648 ≤ a ∧ a < 2147483648) : IM (f_addVessel a v).2 T (E) := by
  have hT := hI.1
  by_cases c1 : a = 102
  · have q2 : 0 ≤ v 2 0 ∧ v 2 0 ≤ 8 := hI.2 2 0
    by_cases c3 : (v 2 0) = 8
    · have hJ4 := (i_fails (c := 2) hI (by show 0 ≤ 2 ∧ 2 ≤ 4; omega))
      rw [f_addVessel, if_pos c1, if_pos c3]
      exact hJ4
    · by_cases c5 : a = 116
      · rw [f_addVessel, if_pos c1, if_neg c3, if_pos c5]
        exact ((((hI.up 0 0 0 (by show 0 ≤ 0 ∧ 0 ≤ 4; omega)).up 20 (v 2 0) 1 (by show 0 ≤ 1 ∧ 1 ≤ 1; omega)).up 19 (v 2 0) (-1) (by show -1 ≤ (-1) ∧ (-1) ≤ 3; omega)).up 2 0 ((v 2 0) + 1) (by show 0 ≤ ((v 2 0) + 1) ∧ ((v 2 0) + 1) ≤ 8; omega))
      · rw [f_addVessel, if_pos c1, if_neg c3, if_neg c5]
        exact ((((hI.up 0 0 0 (by show 0 ≤ 0 ∧ 0 ≤ 4; omega)).up 20 (v 2 0) 0 (by show 0 ≤ 0 ∧ 0 ≤ 1; omega)).up 19 (v 2 0) (-1) (by show -1 ≤ (-1) ∧ (-1) ≤ 3; omega)).up 2 0 ((v 2 0) + 1) (by show 0 ≤ ((v 2 0) + 1) ∧ ((v 2 0) + 1) ≤ 8; omega))
  · by_cases c6 : a = 116
    · have q7 : 0 ≤ v 2 0 ∧ v 2 0 ≤ 8 := hI.2 2 0
      by_cases c8 : (v 2 0) = 8
      · have hJ9 := (i_fails (c := 2) hI (by show 0 ≤ 2 ∧ 2 ≤ 4; omega))
        rw [f_addVessel, if_neg c1, if_pos c6, if_pos c8]
        exact hJ9
      · rw [f_addVessel, if_neg c1, if_pos c6, if_neg c8]
        exact ((((hI.up 0 0 0 (by show 0 ≤ 0 ∧ 0 ≤ 4; omega)).up 20 (v 2 0) 1 (by show 0 ≤ 1 ∧ 1 ≤ 1; omega)).up 19 (v 2 0) (-1) (by show -1 ≤ (-1) ∧ (-1) ≤ 3; omega)).up 2 0 ((v 2 0) + 1) (by show 0 ≤ ((v 2 0) + 1) ∧ ((v 2 0) + 1) ≤ 8; omega))
    · have hJ10 := (i_fails (c := 1) hI (by show 0 ≤ 1 ∧ 1 ≤ 4; omega))
      rw [f_addVessel, if_neg c1, if_neg c6]
      exact hJ10
theorem fr_addVessel {a : Int} {v : Vw} (fk : Nat) (fi : Int) (hk : fk ≠ 0 ∧ fk ≠ 2 ∧ fk ≠ 19 ∧ fk ≠ 20) : (f_addVessel a v).2 fk fi = v fk fi := by
  by_cases c1 : a = 102
  · by_cases c3 : (v 2 0) = 8
    · rw [f_addVessel, if_pos c1, if_pos c3]
      exact ((fr_fails (c := 2) (v := v) fk fi (by omega)).trans rfl)
    · by_cases c5 : a = 116
      · rw [f_addVessel, if_pos c1, if_neg c3, if_pos c5]
        exact ((upv_nk (by omega)).trans ((upv_nk (by omega)).trans ((upv_nk (by omega)).trans ((upv_nk (by omega)).trans rfl))))
      · rw [f_addVessel, if_pos c1, if_neg c3, if_neg c5]
        exact ((upv_nk (by omega)).trans ((upv_nk (by omega)).trans ((upv_nk (by omega)).trans ((upv_nk (by omega)).trans rfl))))
  · by_cases c6 : a = 116
    · by_cases c8 : (v 2 0) = 8
      · rw [f_addVessel, if_neg c1, if_pos c6, if_pos c8]
        exact ((fr_fails (c := 2) (v := v) fk fi (by omega)).trans rfl)
      · rw [f_addVessel, if_neg c1, if_pos c6, if_neg c8]
        exact ((upv_nk (by omega)).trans ((upv_nk (by omega)).trans ((upv_nk (by omega)).trans ((upv_nk (by omega)).trans rfl))))
    · rw [f_addVessel, if_neg c1, if_neg c6]
      exact ((fr_fails (c := 1) (v := v) fk fi (by omega)).trans rfl)
def f_setCrews (a : Int) (v : Vw) : Int × Vw :=
  if (f_in a 0 3) = 0 then
    ((f_fails 1 v).1, (f_fails 1 v).2)
  else
    ((v 3 0), (upv (upv v 0 0 0) 3 0 a))
theorem i_setCrews {v : Vw} {T E : Int} {a : Int} (hI : IM v T E) (ha : -2147483648 ≤ a ∧ a < 2147483648) : IM (f_setCrews a v).2 T (E) := by
  have hT := hI.1
  have q1 : 0 ≤ (f_in a 0 3) ∧ (f_in a 0 3) ≤ 1 := r_in
  have q2 := c_in a 0 3
  by_cases c3 : (f_in a 0 3) = 0
  · have hJ4 := (i_fails (c := 1) hI (by show 0 ≤ 1 ∧ 1 ≤ 4; omega))
    rw [f_setCrews, if_pos c3]
    exact hJ4
  · have q5 : 0 ≤ v 3 0 ∧ v 3 0 ≤ 3 := hI.2 3 0
    rw [f_setCrews, if_neg c3]
    exact ((hI.up 0 0 0 (by show 0 ≤ 0 ∧ 0 ≤ 4; omega)).up 3 0 a (by show 0 ≤ a ∧ a ≤ 3; omega))
theorem fr_setCrews {a : Int} {v : Vw} (fk : Nat) (fi : Int) (hk : fk ≠ 0 ∧ fk ≠ 3) : (f_setCrews a v).2 fk fi = v fk fi := by
  by_cases c3 : (f_in a 0 3) = 0
  · rw [f_setCrews, if_pos c3]
    exact ((fr_fails (c := 1) (v := v) fk fi (by omega)).trans rfl)
  · rw [f_setCrews, if_neg c3]
    exact ((upv_nk (by omega)).trans ((upv_nk (by omega)).trans rfl))
def f_isUsable (p s : Int) (v : Vw) : Int :=
  if (v 25 p) = 0 then
    if (v 22 p) = s then
      if ((v 24 p) + 10) < (v 8 0) then
        0
      else
        1
    else
      0
  else
    0
theorem r_isUsable {p s : Int} {v : Vw} : 0 ≤ f_isUsable p s v ∧ f_isUsable p s v ≤ 1 := by
  unfold f_isUsable
  repeat' split
  all_goals omega
def l_firstPitch_2 (s : Int) (v : Vw) : Nat → Int → Int
  | 0, _ => 0
  | n + 1, p =>
    if (v 4 0) ≤ p then
      (-1)
    else
      if (f_isUsable p s v) = 0 then
        (l_firstPitch_2 s v n (p + 1))
      else
        p
def f_firstPitch (s : Int) (v : Vw) : Int :=
  (l_firstPitch_2 s v (((v 4 0) - 0).toNat + 1) 0)
theorem r_l_firstPitch {s : Int} {v : Vw} : ∀ (n : Nat) (p : Int), 0 ≤ p → (v 4 0 - p).toNat < n → -1 ≤ l_firstPitch_2 s v n p ∧ (l_firstPitch_2 s v n p < v 4 0 ∨ l_firstPitch_2 s v n p = -1) := by
  intro n
  induction n with
  | zero => exact fun p _ h => absurd h (Nat.not_lt_zero _)
  | succ n ih =>
    intro p hp hm
    rw [l_firstPitch_2]
    split
    · omega
    · split
      · exact ih (p + 1) (by omega) (by omega)
      · omega
theorem r_firstPitch {v : Vw} {T E : Int} (hI : IM v T E) (s : Int) : -1 ≤ f_firstPitch s v ∧ f_firstPitch s v ≤ 59 := by
  have h := r_l_firstPitch (s := s) (v := v) ((v 4 0 - 0).toNat + 1) 0 (by omega) (by omega)
  have q : 0 ≤ v 4 0 ∧ v 4 0 ≤ 60 := hI.2 4 0
  unfold f_firstPitch
  omega
def l_pitches_24 (s : Int) (v : Vw) : Nat → Int → Int → Int
  | 0, k, p => k
  | n + 1, k, p =>
    if (v 4 0) ≤ p then
      k
    else
      if (f_isUsable p s v) = 0 then
        (l_pitches_24 s v n (k + 0) (p + 1))
      else
        (l_pitches_24 s v n (k + 1) (p + 1))
def f_pitches (s : Int) (v : Vw) : Int × Vw :=
  if (f_in s 0 3) = 0 then
    ((f_fails 1 v).1, (f_fails 1 v).2)
  else
    ((l_pitches_24 s (upv v 0 0 0) (((v 4 0) - 0).toNat + 1) 0 0), (upv v 0 0 0))
theorem i_pitches {v : Vw} {T E : Int} {s : Int} (hI : IM v T E) (hs : -2147483648 ≤ s ∧ s < 2147483648) : IM (f_pitches s v).2 T (E) := by
  have hT := hI.1
  have q4 : 0 ≤ (f_in s 0 3) ∧ (f_in s 0 3) ≤ 1 := r_in
  have q5 := c_in s 0 3
  by_cases c6 : (f_in s 0 3) = 0
  · have hJ7 := (i_fails (c := 1) hI (by show 0 ≤ 1 ∧ 1 ≤ 4; omega))
    rw [f_pitches, if_pos c6]
    exact hJ7
  · rw [f_pitches, if_neg c6]
    exact (hI.up 0 0 0 (by show 0 ≤ 0 ∧ 0 ≤ 4; omega))
theorem fr_pitches {s : Int} {v : Vw} (fk : Nat) (fi : Int) (hk : fk ≠ 0) : (f_pitches s v).2 fk fi = v fk fi := by
  by_cases c6 : (f_in s 0 3) = 0
  · rw [f_pitches, if_pos c6]
    exact ((fr_fails (c := 1) (v := v) fk fi (by omega)).trans rfl)
  · rw [f_pitches, if_neg c6]
    exact ((upv_nk (by omega)).trans rfl)
def f_hasYeast (s : Int) (v : Vw) : Int :=
  if 0 < (v 21 s) then
    1
  else
    if (f_firstPitch s v) = (-1) then
      0
    else
      1
theorem r_hasYeast {s : Int} {v : Vw} : 0 ≤ f_hasYeast s v ∧ f_hasYeast s v ≤ 1 := by
  unfold f_hasYeast
  repeat' split
  all_goals omega
def f_nextGeneration (s : Int) (v : Vw) : Int × Vw :=
  if (f_in s 0 3) = 0 then
    ((f_fails 1 v).1, (f_fails 1 v).2)
  else
    if (f_hasYeast s v) = 0 then
      ((f_fails 2 v).1, (f_fails 2 v).2)
    else
      if (f_firstPitch s (upv v 0 0 0)) = (-1) then
        (0, (upv v 0 0 0))
      else
        ((v 23 (f_firstPitch s (upv v 0 0 0))), (upv v 0 0 0))
theorem i_nextGeneration {v : Vw} {T E : Int} {s : Int} (hI : IM v T E) (hs : -2147483648 ≤ s ∧ s < 2147483648) : IM (f_nextGeneration s v).2 T (E) := by
  have hT := hI.1
  have q1 : 0 ≤ (f_in s 0 3) ∧ (f_in s 0 3) ≤ 1 := r_in
  have q2 := c_in s 0 3
  by_cases c3 : (f_in s 0 3) = 0
  · have hJ4 := (i_fails (c := 1) hI (by show 0 ≤ 1 ∧ 1 ≤ 4; omega))
    rw [f_nextGeneration, if_pos c3]
    exact hJ4
  · have q5 : 0 ≤ (f_hasYeast s v) ∧ (f_hasYeast s v) ≤ 1 := r_hasYeast
    by_cases c6 : (f_hasYeast s v) = 0
    · have hJ7 := (i_fails (c := 2) hI (by show 0 ≤ 2 ∧ 2 ≤ 4; omega))
      rw [f_nextGeneration, if_neg c3, if_pos c6]
      exact hJ7
    · have q8 := r_firstPitch (hI.up 0 0 0 (by show 0 ≤ 0 ∧ 0 ≤ 4; omega)) s
      by_cases c9 : (f_firstPitch s (upv v 0 0 0)) = (-1)
      · rw [f_nextGeneration, if_neg c3, if_neg c6, if_pos c9]
        exact (hI.up 0 0 0 (by show 0 ≤ 0 ∧ 0 ≤ 4; omega))
      · have q10 : 0 ≤ v 23 (f_firstPitch s (upv v 0 0 0)) ∧ v 23 (f_firstPitch s (upv v 0 0 0)) ≤ 4 := hI.2 23 (f_firstPitch s (upv v 0 0 0))
        rw [f_nextGeneration, if_neg c3, if_neg c6, if_neg c9]
        exact (hI.up 0 0 0 (by show 0 ≤ 0 ∧ 0 ≤ 4; omega))
theorem fr_nextGeneration {s : Int} {v : Vw} (fk : Nat) (fi : Int) (hk : fk ≠ 0) : (f_nextGeneration s v).2 fk fi = v fk fi := by
  by_cases c3 : (f_in s 0 3) = 0
  · rw [f_nextGeneration, if_pos c3]
    exact ((fr_fails (c := 1) (v := v) fk fi (by omega)).trans rfl)
  · by_cases c6 : (f_hasYeast s v) = 0
    · rw [f_nextGeneration, if_neg c3, if_pos c6]
      exact ((fr_fails (c := 2) (v := v) fk fi (by omega)).trans rfl)
    · by_cases c9 : (f_firstPitch s (upv v 0 0 0)) = (-1)
      · rw [f_nextGeneration, if_neg c3, if_neg c6, if_pos c9]
        exact ((upv_nk (by omega)).trans rfl)
      · rw [f_nextGeneration, if_neg c3, if_neg c6, if_neg c9]
        exact ((upv_nk (by omega)).trans rfl)
def f_starts (r w : Int) (v : Vw) : Vw :=
  if (f_firstPitch (v 12 r) v) = (-1) then
    if (v 19 w) = (-1) then
      (upv (upv (upv (upv (upv (upv (upv (upv (upv (upv v 21 (v 12 r) ((v 21 (v 12 r)) - 1)) 26 (v 5 0) r) 27 (v 5 0) 0) 28 (v 5 0) 0) 29 (v 5 0) w) 30 (v 5 0) ((v 13 r) + 0)) 15 w 1) 16 w (v 5 0)) 19 w (v 12 r)) 5 0 ((v 5 0) + 1))
    else
      if (v 19 w) = (v 12 r) then
        (upv (upv (upv (upv (upv (upv (upv (upv (upv (upv v 21 (v 12 r) ((v 21 (v 12 r)) - 1)) 26 (v 5 0) r) 27 (v 5 0) 0) 28 (v 5 0) 0) 29 (v 5 0) w) 30 (v 5 0) ((v 13 r) + 0)) 15 w 1) 16 w (v 5 0)) 19 w (v 12 r)) 5 0 ((v 5 0) + 1))
      else
        (upv (upv (upv (upv (upv (upv (upv (upv (upv (upv v 21 (v 12 r) ((v 21 (v 12 r)) - 1)) 26 (v 5 0) r) 27 (v 5 0) 0) 28 (v 5 0) 0) 29 (v 5 0) w) 30 (v 5 0) ((v 13 r) + 1)) 15 w 1) 16 w (v 5 0)) 19 w (v 12 r)) 5 0 ((v 5 0) + 1))
  else
    if (v 19 w) = (-1) then
      (upv (upv (upv (upv (upv (upv (upv (upv (upv (upv v 25 (f_firstPitch (v 12 r) v) 1) 26 (v 5 0) r) 27 (v 5 0) (v 23 (f_firstPitch (v 12 r) v))) 28 (v 5 0) 0) 29 (v 5 0) w) 30 (v 5 0) ((v 13 r) + 0)) 15 w 1) 16 w (v 5 0)) 19 w (v 12 r)) 5 0 ((v 5 0) + 1))
    else
      if (v 19 w) = (v 12 r) then
        (upv (upv (upv (upv (upv (upv (upv (upv (upv (upv v 25 (f_firstPitch (v 12 r) v) 1) 26 (v 5 0) r) 27 (v 5 0) (v 23 (f_firstPitch (v 12 r) v))) 28 (v 5 0) 0) 29 (v 5 0) w) 30 (v 5 0) ((v 13 r) + 0)) 15 w 1) 16 w (v 5 0)) 19 w (v 12 r)) 5 0 ((v 5 0) + 1))
      else
        (upv (upv (upv (upv (upv (upv (upv (upv (upv (upv v 25 (f_firstPitch (v 12 r) v) 1) 26 (v 5 0) r) 27 (v 5 0) (v 23 (f_firstPitch (v 12 r) v))) 28 (v 5 0) 0) 29 (v 5 0) w) 30 (v 5 0) ((v 13 r) + 1)) 15 w 1) 16 w (v 5 0)) 19 w (v 12 r)) 5 0 ((v 5 0) + 1))
theorem i_starts {v : Vw} {T E : Int} {r w : Int} (hI : IM v T E) (hr : 0 ≤ r ∧ r ≤ 4) (hw : 0 ≤ w ∧ w ≤ 7) (hb : v 5 0 ≤ 29) (hy : f_firstPitch (v 12 r) v = -1 → 1 ≤ v 21 (v 12 r)) : IM (f_starts r w v) T (E) := by
  have hT := hI.1
  have u5 : 0 ≤ v 5 0 ∧ v 5 0 ≤ 30 := hI.2 5 0
  have q1 : 0 ≤ v 12 r ∧ v 12 r ≤ 3 := hI.2 12 r
  have q2 := r_firstPitch hI (v 12 r)
  by_cases c3 : (f_firstPitch (v 12 r) v) = (-1)
  · have q4 : 0 ≤ v 21 (v 12 r) ∧ v 21 (v 12 r) ≤ 9 * T := hI.2 21 (v 12 r)
    have q5 : 0 ≤ v 13 r ∧ v 13 r ≤ 14 := hI.2 13 r
    have q6 : -1 ≤ v 19 w ∧ v 19 w ≤ 3 := hI.2 19 w
    by_cases c7 : (v 19 w) = (-1)
    · rw [f_starts, if_pos c3, if_pos c7]
      exact ((((((((((hI.up 21 (v 12 r) ((v 21 (v 12 r)) - 1) (by show 0 ≤ ((v 21 (v 12 r)) - 1) ∧ ((v 21 (v 12 r)) - 1) ≤ 9 * T; omega)).up 26 (v 5 0) r (by show 0 ≤ r ∧ r ≤ 4; omega)).up 27 (v 5 0) 0 (by show 0 ≤ 0 ∧ 0 ≤ 4; omega)).up 28 (v 5 0) 0 (by show 0 ≤ 0 ∧ 0 ≤ 4; omega)).up 29 (v 5 0) w (by show 0 ≤ w ∧ w ≤ 7; omega)).up 30 (v 5 0) ((v 13 r) + 0) (by show 0 ≤ ((v 13 r) + 0) ∧ ((v 13 r) + 0) ≤ 15; omega)).up 15 w 1 (by show 0 ≤ 1 ∧ 1 ≤ 3; omega)).up 16 w (v 5 0) (by show 0 ≤ (v 5 0) ∧ (v 5 0) ≤ 29; omega)).up 19 w (v 12 r) (by show -1 ≤ (v 12 r) ∧ (v 12 r) ≤ 3; omega)).up 5 0 ((v 5 0) + 1) (by show 0 ≤ ((v 5 0) + 1) ∧ ((v 5 0) + 1) ≤ 30; omega))
    · by_cases c8 : (v 19 w) = (v 12 r)
      · rw [f_starts, if_pos c3, if_neg c7, if_pos c8]
        exact ((((((((((hI.up 21 (v 12 r) ((v 21 (v 12 r)) - 1) (by show 0 ≤ ((v 21 (v 12 r)) - 1) ∧ ((v 21 (v 12 r)) - 1) ≤ 9 * T; omega)).up 26 (v 5 0) r (by show 0 ≤ r ∧ r ≤ 4; omega)).up 27 (v 5 0) 0 (by show 0 ≤ 0 ∧ 0 ≤ 4; omega)).up 28 (v 5 0) 0 (by show 0 ≤ 0 ∧ 0 ≤ 4; omega)).up 29 (v 5 0) w (by show 0 ≤ w ∧ w ≤ 7; omega)).up 30 (v 5 0) ((v 13 r) + 0) (by show 0 ≤ ((v 13 r) + 0) ∧ ((v 13 r) + 0) ≤ 15; omega)).up 15 w 1 (by show 0 ≤ 1 ∧ 1 ≤ 3; omega)).up 16 w (v 5 0) (by show 0 ≤ (v 5 0) ∧ (v 5 0) ≤ 29; omega)).up 19 w (v 12 r) (by show -1 ≤ (v 12 r) ∧ (v 12 r) ≤ 3; omega)).up 5 0 ((v 5 0) + 1) (by show 0 ≤ ((v 5 0) + 1) ∧ ((v 5 0) + 1) ≤ 30; omega))
      · rw [f_starts, if_pos c3, if_neg c7, if_neg c8]
        exact ((((((((((hI.up 21 (v 12 r) ((v 21 (v 12 r)) - 1) (by show 0 ≤ ((v 21 (v 12 r)) - 1) ∧ ((v 21 (v 12 r)) - 1) ≤ 9 * T; omega)).up 26 (v 5 0) r (by show 0 ≤ r ∧ r ≤ 4; omega)).up 27 (v 5 0) 0 (by show 0 ≤ 0 ∧ 0 ≤ 4; omega)).up 28 (v 5 0) 0 (by show 0 ≤ 0 ∧ 0 ≤ 4; omega)).up 29 (v 5 0) w (by show 0 ≤ w ∧ w ≤ 7; omega)).up 30 (v 5 0) ((v 13 r) + 1) (by show 0 ≤ ((v 13 r) + 1) ∧ ((v 13 r) + 1) ≤ 15; omega)).up 15 w 1 (by show 0 ≤ 1 ∧ 1 ≤ 3; omega)).up 16 w (v 5 0) (by show 0 ≤ (v 5 0) ∧ (v 5 0) ≤ 29; omega)).up 19 w (v 12 r) (by show -1 ≤ (v 12 r) ∧ (v 12 r) ≤ 3; omega)).up 5 0 ((v 5 0) + 1) (by show 0 ≤ ((v 5 0) + 1) ∧ ((v 5 0) + 1) ≤ 30; omega))
  · have q9 : 0 ≤ v 23 (f_firstPitch (v 12 r) v) ∧ v 23 (f_firstPitch (v 12 r) v) ≤ 4 := hI.2 23 (f_firstPitch (v 12 r) v)
    have q10 : 0 ≤ v 13 r ∧ v 13 r ≤ 14 := hI.2 13 r
    have q11 : -1 ≤ v 19 w ∧ v 19 w ≤ 3 := hI.2 19 w
    by_cases c12 : (v 19 w) = (-1)
    · rw [f_starts, if_neg c3, if_pos c12]
      exact ((((((((((hI.up 25 (f_firstPitch (v 12 r) v) 1 (by show 0 ≤ 1 ∧ 1 ≤ 1; omega)).up 26 (v 5 0) r (by show 0 ≤ r ∧ r ≤ 4; omega)).up 27 (v 5 0) (v 23 (f_firstPitch (v 12 r) v)) (by show 0 ≤ (v 23 (f_firstPitch (v 12 r) v)) ∧ (v 23 (f_firstPitch (v 12 r) v)) ≤ 4; omega)).up 28 (v 5 0) 0 (by show 0 ≤ 0 ∧ 0 ≤ 4; omega)).up 29 (v 5 0) w (by show 0 ≤ w ∧ w ≤ 7; omega)).up 30 (v 5 0) ((v 13 r) + 0) (by show 0 ≤ ((v 13 r) + 0) ∧ ((v 13 r) + 0) ≤ 15; omega)).up 15 w 1 (by show 0 ≤ 1 ∧ 1 ≤ 3; omega)).up 16 w (v 5 0) (by show 0 ≤ (v 5 0) ∧ (v 5 0) ≤ 29; omega)).up 19 w (v 12 r) (by show -1 ≤ (v 12 r) ∧ (v 12 r) ≤ 3; omega)).up 5 0 ((v 5 0) + 1) (by show 0 ≤ ((v 5 0) + 1) ∧ ((v 5 0) + 1) ≤ 30; omega))
    · by_cases c13 : (v 19 w) = (v 12 r)
      · rw [f_starts, if_neg c3, if_neg c12, if_pos c13]
        exact ((((((((((hI.up 25 (f_firstPitch (v 12 r) v) 1 (by show 0 ≤ 1 ∧ 1 ≤ 1; omega)).up 26 (v 5 0) r (by show 0 ≤ r ∧ r ≤ 4; omega)).up 27 (v 5 0) (v 23 (f_firstPitch (v 12 r) v)) (by show 0 ≤ (v 23 (f_firstPitch (v 12 r) v)) ∧ (v 23 (f_firstPitch (v 12 r) v)) ≤ 4; omega)).up 28 (v 5 0) 0 (by show 0 ≤ 0 ∧ 0 ≤ 4; omega)).up 29 (v 5 0) w (by show 0 ≤ w ∧ w ≤ 7; omega)).up 30 (v 5 0) ((v 13 r) + 0) (by show 0 ≤ ((v 13 r) + 0) ∧ ((v 13 r) + 0) ≤ 15; omega)).up 15 w 1 (by show 0 ≤ 1 ∧ 1 ≤ 3; omega)).up 16 w (v 5 0) (by show 0 ≤ (v 5 0) ∧ (v 5 0) ≤ 29; omega)).up 19 w (v 12 r) (by show -1 ≤ (v 12 r) ∧ (v 12 r) ≤ 3; omega)).up 5 0 ((v 5 0) + 1) (by show 0 ≤ ((v 5 0) + 1) ∧ ((v 5 0) + 1) ≤ 30; omega))
      · rw [f_starts, if_neg c3, if_neg c12, if_neg c13]
        exact ((((((((((hI.up 25 (f_firstPitch (v 12 r) v) 1 (by show 0 ≤ 1 ∧ 1 ≤ 1; omega)).up 26 (v 5 0) r (by show 0 ≤ r ∧ r ≤ 4; omega)).up 27 (v 5 0) (v 23 (f_firstPitch (v 12 r) v)) (by show 0 ≤ (v 23 (f_firstPitch (v 12 r) v)) ∧ (v 23 (f_firstPitch (v 12 r) v)) ≤ 4; omega)).up 28 (v 5 0) 0 (by show 0 ≤ 0 ∧ 0 ≤ 4; omega)).up 29 (v 5 0) w (by show 0 ≤ w ∧ w ≤ 7; omega)).up 30 (v 5 0) ((v 13 r) + 1) (by show 0 ≤ ((v 13 r) + 1) ∧ ((v 13 r) + 1) ≤ 15; omega)).up 15 w 1 (by show 0 ≤ 1 ∧ 1 ≤ 3; omega)).up 16 w (v 5 0) (by show 0 ≤ (v 5 0) ∧ (v 5 0) ≤ 29; omega)).up 19 w (v 12 r) (by show -1 ≤ (v 12 r) ∧ (v 12 r) ≤ 3; omega)).up 5 0 ((v 5 0) + 1) (by show 0 ≤ ((v 5 0) + 1) ∧ ((v 5 0) + 1) ≤ 30; omega))
theorem fr_starts {r w : Int} {v : Vw} (fk : Nat) (fi : Int) (hk : fk ≠ 5 ∧ fk ≠ 15 ∧ fk ≠ 16 ∧ fk ≠ 19 ∧ fk ≠ 21 ∧ fk ≠ 25 ∧ fk ≠ 26 ∧ fk ≠ 27 ∧ fk ≠ 28 ∧ fk ≠ 29 ∧ fk ≠ 30) : (f_starts r w v) fk fi = v fk fi := by
  by_cases c3 : (f_firstPitch (v 12 r) v) = (-1)
  · by_cases c7 : (v 19 w) = (-1)
    · rw [f_starts, if_pos c3, if_pos c7]
      exact ((upv_nk (by omega)).trans ((upv_nk (by omega)).trans ((upv_nk (by omega)).trans ((upv_nk (by omega)).trans ((upv_nk (by omega)).trans ((upv_nk (by omega)).trans ((upv_nk (by omega)).trans ((upv_nk (by omega)).trans ((upv_nk (by omega)).trans ((upv_nk (by omega)).trans rfl))))))))))
    · by_cases c8 : (v 19 w) = (v 12 r)
      · rw [f_starts, if_pos c3, if_neg c7, if_pos c8]
        exact ((upv_nk (by omega)).trans ((upv_nk (by omega)).trans ((upv_nk (by omega)).trans ((upv_nk (by omega)).trans ((upv_nk (by omega)).trans ((upv_nk (by omega)).trans ((upv_nk (by omega)).trans ((upv_nk (by omega)).trans ((upv_nk (by omega)).trans ((upv_nk (by omega)).trans rfl))))))))))
      · rw [f_starts, if_pos c3, if_neg c7, if_neg c8]
        exact ((upv_nk (by omega)).trans ((upv_nk (by omega)).trans ((upv_nk (by omega)).trans ((upv_nk (by omega)).trans ((upv_nk (by omega)).trans ((upv_nk (by omega)).trans ((upv_nk (by omega)).trans ((upv_nk (by omega)).trans ((upv_nk (by omega)).trans ((upv_nk (by omega)).trans rfl))))))))))
  · by_cases c12 : (v 19 w) = (-1)
    · rw [f_starts, if_neg c3, if_pos c12]
      exact ((upv_nk (by omega)).trans ((upv_nk (by omega)).trans ((upv_nk (by omega)).trans ((upv_nk (by omega)).trans ((upv_nk (by omega)).trans ((upv_nk (by omega)).trans ((upv_nk (by omega)).trans ((upv_nk (by omega)).trans ((upv_nk (by omega)).trans ((upv_nk (by omega)).trans rfl))))))))))
    · by_cases c13 : (v 19 w) = (v 12 r)
      · rw [f_starts, if_neg c3, if_neg c12, if_pos c13]
        exact ((upv_nk (by omega)).trans ((upv_nk (by omega)).trans ((upv_nk (by omega)).trans ((upv_nk (by omega)).trans ((upv_nk (by omega)).trans ((upv_nk (by omega)).trans ((upv_nk (by omega)).trans ((upv_nk (by omega)).trans ((upv_nk (by omega)).trans ((upv_nk (by omega)).trans rfl))))))))))
      · rw [f_starts, if_neg c3, if_neg c12, if_neg c13]
        exact ((upv_nk (by omega)).trans ((upv_nk (by omega)).trans ((upv_nk (by omega)).trans ((upv_nk (by omega)).trans ((upv_nk (by omega)).trans ((upv_nk (by omega)).trans ((upv_nk (by omega)).trans ((upv_nk (by omega)).trans ((upv_nk (by omega)).trans ((upv_nk (by omega)).trans rfl))))))))))
def f_addPacks (a b : Int) (v : Vw) : Int × Vw :=
  if (f_in a 0 3) = 0 then
    ((f_fails 1 v).1, (f_fails 1 v).2)
  else
    if (f_in b 1 9) = 0 then
      ((f_fails 1 v).1, (f_fails 1 v).2)
    else
      ((((v 21 a) + b)), (upv (upv v 0 0 0) 21 a ((v 21 a) + b)))
theorem i_addPacks {v : Vw} {T E : Int} {a b : Int} (hI : IM v T E) (ha : -2147483648 ≤ a ∧ a < 2147483648) (hb : -2147483648 ≤ b ∧ b < 2147483648) (hpk : 0 ≤ a → a ≤ 3 → v 21 a + 9 ≤ 9 * T) : IM (f_addPacks a b v).2 T (E) := by
  have hT := hI.1
  have q1 : 0 ≤ (f_in a 0 3) ∧ (f_in a 0 3) ≤ 1 := r_in
  have q2 := c_in a 0 3
  by_cases c3 : (f_in a 0 3) = 0
  · have hJ4 := (i_fails (c := 1) hI (by show 0 ≤ 1 ∧ 1 ≤ 4; omega))
    rw [f_addPacks, if_pos c3]
    exact hJ4
  · have q5 : 0 ≤ (f_in b 1 9) ∧ (f_in b 1 9) ≤ 1 := r_in
    have q6 := c_in b 1 9
    by_cases c7 : (f_in b 1 9) = 0
    · have hJ8 := (i_fails (c := 1) hI (by show 0 ≤ 1 ∧ 1 ≤ 4; omega))
      rw [f_addPacks, if_neg c3, if_pos c7]
      exact hJ8
    · have q9 : 0 ≤ v 21 a ∧ v 21 a ≤ 9 * T := hI.2 21 a
      rw [f_addPacks, if_neg c3, if_neg c7]
      exact ((hI.up 0 0 0 (by show 0 ≤ 0 ∧ 0 ≤ 4; omega)).up 21 a ((v 21 a) + b) (by show 0 ≤ ((v 21 a) + b) ∧ ((v 21 a) + b) ≤ 9 * T; omega))
theorem fr_addPacks {a b : Int} {v : Vw} (fk : Nat) (fi : Int) (hk : fk ≠ 0 ∧ fk ≠ 21) : (f_addPacks a b v).2 fk fi = v fk fi := by
  by_cases c3 : (f_in a 0 3) = 0
  · rw [f_addPacks, if_pos c3]
    exact ((fr_fails (c := 1) (v := v) fk fi (by omega)).trans rfl)
  · by_cases c7 : (f_in b 1 9) = 0
    · rw [f_addPacks, if_neg c3, if_pos c7]
      exact ((fr_fails (c := 1) (v := v) fk fi (by omega)).trans rfl)
    · rw [f_addPacks, if_neg c3, if_neg c7]
      exact ((upv_nk (by omega)).trans ((upv_nk (by omega)).trans rfl))
def f_enqueue (a : Int) (v : Vw) : Int × Vw :=
  if (f_isRecipe a v) = 0 then
    ((f_fails 1 v).1, (f_fails 1 v).2)
  else
    if (v 7 0) = 6 then
      ((f_fails 2 v).1, (f_fails 2 v).2)
    else
      if ((v 5 0) + (v 7 0)) < 30 then
        (((v 7 0) + 1), (upv (upv (upv v 0 0 0) 39 (v 7 0) a) 7 0 ((v 7 0) + 1)))
      else
        ((f_fails 2 v).1, (f_fails 2 v).2)
theorem i_enqueue {v : Vw} {T E : Int} {a : Int} (hI : IM v T E) (ha : -2147483648 ≤ a ∧ a < 2147483648) (hrc : v 1 0 ≤ 5) : IM (f_enqueue a v).2 T (E) := by
  have hT := hI.1
  have u1 : 0 ≤ v 1 0 ∧ v 1 0 ≤ 5 := hI.2 1 0
  have q1 : 0 ≤ (f_isRecipe a v) ∧ (f_isRecipe a v) ≤ 1 := r_isRecipe
  have q2 : ((f_isRecipe a v) = 1 ∧ 0 ≤ a ∧ a < (v 1 0)) ∨ ((f_isRecipe a v) = 0 ∧ ¬ (0 ≤ a ∧ a < (v 1 0))) := c_isRecipe a v
  have q3 : 0 ≤ (v 1 0) ∧ (v 1 0) ≤ 5 := hI.2 1 0
  by_cases c4 : (f_isRecipe a v) = 0
  · have hJ5 := (i_fails (c := 1) hI (by show 0 ≤ 1 ∧ 1 ≤ 4; omega))
    rw [f_enqueue, if_pos c4]
    exact hJ5
  · have q6 : 0 ≤ v 7 0 ∧ v 7 0 ≤ 6 := hI.2 7 0
    by_cases c7 : (v 7 0) = 6
    · have hJ8 := (i_fails (c := 2) hI (by show 0 ≤ 2 ∧ 2 ≤ 4; omega))
      rw [f_enqueue, if_neg c4, if_pos c7]
      exact hJ8
    · have q9 : 0 ≤ v 5 0 ∧ v 5 0 ≤ 30 := hI.2 5 0
      by_cases c10 : ((v 5 0) + (v 7 0)) < 30
      · rw [f_enqueue, if_neg c4, if_neg c7, if_pos c10]
        exact (((hI.up 0 0 0 (by show 0 ≤ 0 ∧ 0 ≤ 4; omega)).up 39 (v 7 0) a (by show 0 ≤ a ∧ a ≤ 4; omega)).up 7 0 ((v 7 0) + 1) (by show 0 ≤ ((v 7 0) + 1) ∧ ((v 7 0) + 1) ≤ 6; omega))
      · have hJ11 := (i_fails (c := 2) hI (by show 0 ≤ 2 ∧ 2 ≤ 4; omega))
        rw [f_enqueue, if_neg c4, if_neg c7, if_neg c10]
        exact hJ11
theorem fr_enqueue {a : Int} {v : Vw} (fk : Nat) (fi : Int) (hk : fk ≠ 0 ∧ fk ≠ 7 ∧ fk ≠ 39) : (f_enqueue a v).2 fk fi = v fk fi := by
  by_cases c4 : (f_isRecipe a v) = 0
  · rw [f_enqueue, if_pos c4]
    exact ((fr_fails (c := 1) (v := v) fk fi (by omega)).trans rfl)
  · by_cases c7 : (v 7 0) = 6
    · rw [f_enqueue, if_neg c4, if_pos c7]
      exact ((fr_fails (c := 2) (v := v) fk fi (by omega)).trans rfl)
    · by_cases c10 : ((v 5 0) + (v 7 0)) < 30
      · rw [f_enqueue, if_neg c4, if_neg c7, if_pos c10]
        exact ((upv_nk (by omega)).trans ((upv_nk (by omega)).trans ((upv_nk (by omega)).trans rfl)))
      · rw [f_enqueue, if_neg c4, if_neg c7, if_neg c10]
        exact ((fr_fails (c := 2) (v := v) fk fi (by omega)).trans rfl)
def l_takesOut_11 (was : Int) : Nat → Int → Vw → Int × Vw
  | 0, k, v => (0, v)
  | n + 1, k, v =>
    if (v 7 0) ≤ k then
      (was, (upv v 7 0 ((v 7 0) - 1)))
    else
      (l_takesOut_11 was n (k + 1) (upv v 39 (k - 1) (v 39 k)))
theorem fr_l_takesOut_11 {was : Int} : ∀ (n : Nat) (k : Int) (v : Vw) (fk : Nat) (fi : Int) (hk : fk ≠ 7 ∧ fk ≠ 39), (l_takesOut_11 was n k v).2 fk fi = v fk fi := by
  intro n k v fk fi hk
  induction n generalizing k v with
  | zero => rfl
  | succ n ih =>
    by_cases c1 : (v 7 0) ≤ k
    · rw [l_takesOut_11, if_pos c1]
      exact ((upv_nk (by omega)).trans rfl)
    · rw [l_takesOut_11, if_neg c1]
      exact (ih (k + 1) (upv v 39 (k - 1) (v 39 k))).trans ((upv_nk (by omega)).trans rfl)
theorem i_l_takesOut_11 {T E : Int} {was : Int} : ∀ (n : Nat) (k : Int) (v : Vw) (hI : IM v T E) (hk : 1 ≤ k ∧ k ≤ 1000) (hq : 1 ≤ v 7 0), IM (l_takesOut_11 was n k v).2 T (E) := by
  intro n
  induction n with
  | zero =>
    intro k v hI hk hq
    have hT := hI.1
    exact hI
  | succ n ih =>
    intro k v hI hk hq
    have hT := hI.1
    have u7 : 0 ≤ v 7 0 ∧ v 7 0 ≤ 6 := hI.2 7 0
    by_cases c1 : (v 7 0) ≤ k
    · rw [l_takesOut_11, if_pos c1]
      exact (hI.up 7 0 ((v 7 0) - 1) (by show 0 ≤ ((v 7 0) - 1) ∧ ((v 7 0) - 1) ≤ 6; omega))
    · have q2 : 0 ≤ v 39 k ∧ v 39 k ≤ 4 := hI.2 39 k
      rw [l_takesOut_11, if_neg c1]
      exact ih (k + 1) (upv v 39 (k - 1) (v 39 k)) (hI.up 39 (k - 1) (v 39 k) (by show 0 ≤ (v 39 k) ∧ (v 39 k) ≤ 4; omega)) (by show 1 ≤ (k + 1) ∧ (k + 1) ≤ 1000; omega) (by show 1 ≤ (v 7 0); omega)
def f_takesOut (i : Int) (v : Vw) : Int × Vw :=
  (l_takesOut_11 (v 39 i) (((v 7 0) - (i + 1)).toNat + 1) (i + 1) v)
theorem i_takesOut {v : Vw} {T E : Int} {i : Int} (hI : IM v T E) (hx : 0 ≤ i ∧ i < v 7 0) : IM (f_takesOut i v).2 T (E) := by
  have hT := hI.1
  have u7 : 0 ≤ v 7 0 ∧ v 7 0 ≤ 6 := hI.2 7 0
  have q3 : 0 ≤ v 39 i ∧ v 39 i ≤ 4 := hI.2 39 i
  rw [f_takesOut]
  exact i_l_takesOut_11  (((v 7 0) - (i + 1)).toNat + 1) (i + 1) v hI (by show 1 ≤ (i + 1) ∧ (i + 1) ≤ 1000; omega) (by show 1 ≤ (v 7 0); omega)
theorem fr_takesOut {i : Int} {v : Vw} (fk : Nat) (fi : Int) (hk : fk ≠ 7 ∧ fk ≠ 39) : (f_takesOut i v).2 fk fi = v fk fi := by
  rw [f_takesOut]
  exact (fr_l_takesOut_11 (((v 7 0) - (i + 1)).toNat + 1) (i + 1) v fk fi (by omega)).trans rfl
def f_withdraw (i : Int) (v : Vw) : Int × Vw :=
  if (f_in i 0 ((v 7 0) - 1)) = 0 then
    ((f_fails 1 v).1, (f_fails 1 v).2)
  else
    ((f_takesOut i (upv v 0 0 0)).1, (f_takesOut i (upv v 0 0 0)).2)
theorem i_withdraw {v : Vw} {T E : Int} {i : Int} (hI : IM v T E) (hi : -2147483648 ≤ i ∧ i < 2147483648) : IM (f_withdraw i v).2 T (E) := by
  have hT := hI.1
  have q1 : 0 ≤ v 7 0 ∧ v 7 0 ≤ 6 := hI.2 7 0
  have q2 : 0 ≤ (f_in i 0 ((v 7 0) - 1)) ∧ (f_in i 0 ((v 7 0) - 1)) ≤ 1 := r_in
  have q3 := c_in i 0 ((v 7 0) - 1)
  by_cases c4 : (f_in i 0 ((v 7 0) - 1)) = 0
  · have hJ5 := (i_fails (c := 1) hI (by show 0 ≤ 1 ∧ 1 ≤ 4; omega))
    rw [f_withdraw, if_pos c4]
    exact hJ5
  · have hJ6 := (i_takesOut (i := i) (hI.up 0 0 0 (by show 0 ≤ 0 ∧ 0 ≤ 4; omega)) (by show 0 ≤ i ∧ i < (v 7 0); omega))
    rw [f_withdraw, if_neg c4]
    exact hJ6
theorem fr_withdraw {i : Int} {v : Vw} (fk : Nat) (fi : Int) (hk : fk ≠ 0 ∧ fk ≠ 7 ∧ fk ≠ 39) : (f_withdraw i v).2 fk fi = v fk fi := by
  by_cases c4 : (f_in i 0 ((v 7 0) - 1)) = 0
  · rw [f_withdraw, if_pos c4]
    exact ((fr_fails (c := 1) (v := v) fk fi (by omega)).trans rfl)
  · rw [f_withdraw, if_neg c4]
    exact ((fr_takesOut (i := i) (v := (upv v 0 0 0)) fk fi (by omega)).trans ((upv_nk (by omega)).trans rfl))
def f_queued (v : Vw) : Int × Vw :=
  ((v 7 0), (upv v 0 0 0))
theorem i_queued {v : Vw} {T E : Int} (hI : IM v T E) : IM (f_queued v).2 T (E) := by
  have hT := hI.1
  have q1 : 0 ≤ v 7 0 ∧ v 7 0 ≤ 6 := hI.2 7 0
  rw [f_queued]
  exact (hI.up 0 0 0 (by show 0 ≤ 0 ∧ 0 ≤ 4; omega))
theorem fr_queued {v : Vw} (fk : Nat) (fi : Int) (hk : fk ≠ 0) : (f_queued v).2 fk fi = v fk fi := by
  rw [f_queued]
  exact ((upv_nk (by omega)).trans rfl)
def f_queuedAt (i : Int) (v : Vw) : Int × Vw :=
  if (f_in i 0 ((v 7 0) - 1)) = 0 then
    ((f_fails 1 v).1, (f_fails 1 v).2)
  else
    ((v 39 i), (upv v 0 0 0))
theorem i_queuedAt {v : Vw} {T E : Int} {i : Int} (hI : IM v T E) (hi : -2147483648 ≤ i ∧ i < 2147483648) : IM (f_queuedAt i v).2 T (E) := by
  have hT := hI.1
  have q1 : 0 ≤ v 7 0 ∧ v 7 0 ≤ 6 := hI.2 7 0
  have q2 : 0 ≤ (f_in i 0 ((v 7 0) - 1)) ∧ (f_in i 0 ((v 7 0) - 1)) ≤ 1 := r_in
  have q3 := c_in i 0 ((v 7 0) - 1)
  by_cases c4 : (f_in i 0 ((v 7 0) - 1)) = 0
  · have hJ5 := (i_fails (c := 1) hI (by show 0 ≤ 1 ∧ 1 ≤ 4; omega))
    rw [f_queuedAt, if_pos c4]
    exact hJ5
  · have q6 : 0 ≤ v 39 i ∧ v 39 i ≤ 4 := hI.2 39 i
    rw [f_queuedAt, if_neg c4]
    exact (hI.up 0 0 0 (by show 0 ≤ 0 ∧ 0 ≤ 4; omega))
theorem fr_queuedAt {i : Int} {v : Vw} (fk : Nat) (fi : Int) (hk : fk ≠ 0) : (f_queuedAt i v).2 fk fi = v fk fi := by
  by_cases c4 : (f_in i 0 ((v 7 0) - 1)) = 0
  · rw [f_queuedAt, if_pos c4]
    exact ((fr_fails (c := 1) (v := v) fk fi (by omega)).trans rfl)
  · rw [f_queuedAt, if_neg c4]
    exact ((upv_nk (by omega)).trans rfl)
def f_adds (o r a : Int) (v : Vw) : Vw :=
  (upv (upv (upv v 36 ((4 * o) + (v 33 o)) r) 37 ((4 * o) + (v 33 o)) a) 33 o ((v 33 o) + 1))
theorem i_adds {v : Vw} {T E : Int} {o r a : Int} (hI : IM v T E) (ho : 0 ≤ o ∧ o ≤ 19) (hr : 0 ≤ r ∧ r ≤ 4) (ha : 1 ≤ a ∧ a ≤ 40) (hp : v 33 o ≤ 3) : IM (f_adds o r a v) T (E) := by
  have hT := hI.1
  have q1 : 0 ≤ v 33 o ∧ v 33 o ≤ 4 := hI.2 33 o
  rw [f_adds]
  exact (((hI.up 36 ((4 * o) + (v 33 o)) r (by show 0 ≤ r ∧ r ≤ 4; omega)).up 37 ((4 * o) + (v 33 o)) a (by show 0 ≤ a ∧ a ≤ 40; omega)).up 33 o ((v 33 o) + 1) (by show 0 ≤ ((v 33 o) + 1) ∧ ((v 33 o) + 1) ≤ 4; omega))
theorem fr_adds {o r a : Int} {v : Vw} (fk : Nat) (fi : Int) (hk : fk ≠ 33 ∧ fk ≠ 36 ∧ fk ≠ 37) : (f_adds o r a v) fk fi = v fk fi := by
  rw [f_adds]
  exact ((upv_nk (by omega)).trans ((upv_nk (by omega)).trans ((upv_nk (by omega)).trans rfl)))
def f_order (a b c : Int) (v : Vw) : Int × Vw :=
  if (f_isRecipe a v) = 0 then
    ((f_fails 1 v).1, (f_fails 1 v).2)
  else
    if (f_in b 1 40) = 0 then
      ((f_fails 2 v).1, (f_fails 2 v).2)
    else
      if c < (v 8 0) then
        ((f_fails 2 v).1, (f_fails 2 v).2)
      else
        if c ≤ ((v 8 0) + 99) then
          if (v 6 0) = 20 then
            ((f_fails 3 v).1, (f_fails 3 v).2)
          else
            ((((v 6 0) + 1) - 1), (upv (f_adds (v 6 0) a b (upv (upv (upv v 0 0 0) 32 (v 6 0) c) 34 (v 6 0) 111)) 6 0 ((v 6 0) + 1)))
        else
          ((f_fails 2 v).1, (f_fails 2 v).2)
theorem i_order {v : Vw} {T E : Int} {a b c : Int} (hI : IM v T E) (ha : -2147483648 ≤ a ∧ a < 2147483648) (hb : -2147483648 ≤ b ∧ b < 2147483648) (hc : -2147483648 ≤ c ∧ c < 2147483648) (hp0 : v 33 (v 6 0) = 0) : IM (f_order a b c v).2 T (E) := by
  have hT := hI.1
  have u6 : 0 ≤ v 6 0 ∧ v 6 0 ≤ 20 := hI.2 6 0
  have q1 : 0 ≤ v 1 0 ∧ v 1 0 ≤ 5 := hI.2 1 0
  have q2 : 0 ≤ (f_isRecipe a v) ∧ (f_isRecipe a v) ≤ 1 := r_isRecipe
  have q3 : ((f_isRecipe a v) = 1 ∧ 0 ≤ a ∧ a < (v 1 0)) ∨ ((f_isRecipe a v) = 0 ∧ ¬ (0 ≤ a ∧ a < (v 1 0))) := c_isRecipe a v
  have q4 : 0 ≤ (v 1 0) ∧ (v 1 0) ≤ 5 := hI.2 1 0
  by_cases c5 : (f_isRecipe a v) = 0
  · have hJ6 := (i_fails (c := 1) hI (by show 0 ≤ 1 ∧ 1 ≤ 4; omega))
    rw [f_order, if_pos c5]
    exact hJ6
  · have q7 : 0 ≤ (f_in b 1 40) ∧ (f_in b 1 40) ≤ 1 := r_in
    have q8 := c_in b 1 40
    by_cases c9 : (f_in b 1 40) = 0
    · have hJ10 := (i_fails (c := 2) hI (by show 0 ≤ 2 ∧ 2 ≤ 4; omega))
      rw [f_order, if_neg c5, if_pos c9]
      exact hJ10
    · have q11 : 0 ≤ v 8 0 ∧ v 8 0 ≤ T := hI.2 8 0
      by_cases c12 : c < (v 8 0)
      · have hJ13 := (i_fails (c := 2) hI (by show 0 ≤ 2 ∧ 2 ≤ 4; omega))
        rw [f_order, if_neg c5, if_neg c9, if_pos c12]
        exact hJ13
      · by_cases c14 : c ≤ ((v 8 0) + 99)
        · by_cases c15 : (v 6 0) = 20
          · have hJ16 := (i_fails (c := 3) hI (by show 0 ≤ 3 ∧ 3 ≤ 4; omega))
            rw [f_order, if_neg c5, if_neg c9, if_neg c12, if_pos c14, if_pos c15]
            exact hJ16
          · have hJ17 := (i_adds (o := (v 6 0)) (r := a) (a := b) (((hI.up 0 0 0 (by show 0 ≤ 0 ∧ 0 ≤ 4; omega)).up 32 (v 6 0) c (by show 0 ≤ c ∧ c ≤ T + 99; omega)).up 34 (v 6 0) 111 (by show 0 ≤ 111 ∧ 111 ≤ 255; omega)) (by show 0 ≤ (v 6 0) ∧ (v 6 0) ≤ 19; omega) (by show 0 ≤ a ∧ a ≤ 4; omega) (by show 1 ≤ b ∧ b ≤ 40; omega) (by show (v 33 (v 6 0)) ≤ 3; omega))
            have q18 : (f_adds (v 6 0) a b (upv (upv (upv v 0 0 0) 32 (v 6 0) c) 34 (v 6 0) 111)) 6 0 = (v 6 0) := rfl
            have q19 : (f_adds (v 6 0) a b (upv (upv (upv v 0 0 0) 32 (v 6 0) c) 34 (v 6 0) 111)) 6 0 = v 6 0 := (fr_adds (o := (v 6 0)) (r := a) (a := b) (v := (upv (upv (upv v 0 0 0) 32 (v 6 0) c) 34 (v 6 0) 111)) 6 0 (by decide)).trans rfl
            rw [f_order, if_neg c5, if_neg c9, if_neg c12, if_pos c14, if_neg c15]
            exact (hJ17.up 6 0 ((v 6 0) + 1) (by show 0 ≤ ((v 6 0) + 1) ∧ ((v 6 0) + 1) ≤ 20; omega))
        · have hJ20 := (i_fails (c := 2) hI (by show 0 ≤ 2 ∧ 2 ≤ 4; omega))
          rw [f_order, if_neg c5, if_neg c9, if_neg c12, if_neg c14]
          exact hJ20
theorem fr_order {a b c : Int} {v : Vw} (fk : Nat) (fi : Int) (hk : fk ≠ 0 ∧ fk ≠ 6 ∧ fk ≠ 32 ∧ fk ≠ 33 ∧ fk ≠ 34 ∧ fk ≠ 36 ∧ fk ≠ 37) : (f_order a b c v).2 fk fi = v fk fi := by
  by_cases c5 : (f_isRecipe a v) = 0
  · rw [f_order, if_pos c5]
    exact ((fr_fails (c := 1) (v := v) fk fi (by omega)).trans rfl)
  · by_cases c9 : (f_in b 1 40) = 0
    · rw [f_order, if_neg c5, if_pos c9]
      exact ((fr_fails (c := 2) (v := v) fk fi (by omega)).trans rfl)
    · by_cases c12 : c < (v 8 0)
      · rw [f_order, if_neg c5, if_neg c9, if_pos c12]
        exact ((fr_fails (c := 2) (v := v) fk fi (by omega)).trans rfl)
      · by_cases c14 : c ≤ ((v 8 0) + 99)
        · by_cases c15 : (v 6 0) = 20
          · rw [f_order, if_neg c5, if_neg c9, if_neg c12, if_pos c14, if_pos c15]
            exact ((fr_fails (c := 3) (v := v) fk fi (by omega)).trans rfl)
          · rw [f_order, if_neg c5, if_neg c9, if_neg c12, if_pos c14, if_neg c15]
            exact ((upv_nk (by omega)).trans ((fr_adds (o := (v 6 0)) (r := a) (a := b) (v := (upv (upv (upv v 0 0 0) 32 (v 6 0) c) 34 (v 6 0) 111)) fk fi (by omega)).trans ((upv_nk (by omega)).trans ((upv_nk (by omega)).trans ((upv_nk (by omega)).trans rfl)))))
        · rw [f_order, if_neg c5, if_neg c9, if_neg c12, if_neg c14]
          exact ((fr_fails (c := 2) (v := v) fk fi (by omega)).trans rfl)
def f_blend (a b c : Int) (v : Vw) : Int × Vw :=
  if (f_isOrder a v) = 0 then
    ((f_fails 1 v).1, (f_fails 1 v).2)
  else
    if (f_isRecipe b v) = 0 then
      ((f_fails 1 v).1, (f_fails 1 v).2)
    else
      if (f_in c 1 40) = 0 then
        ((f_fails 2 v).1, (f_fails 2 v).2)
      else
        if (v 34 a) = 111 then
          if (v 33 a) = 4 then
            ((f_fails 3 v).1, (f_fails 3 v).2)
          else
            (((f_adds a b c (upv v 0 0 0)) 33 a), (f_adds a b c (upv v 0 0 0)))
        else
          ((f_fails 3 v).1, (f_fails 3 v).2)
theorem i_blend {v : Vw} {T E : Int} {a b c : Int} (hI : IM v T E) (ha : -2147483648 ≤ a ∧ a < 2147483648) (hb : -2147483648 ≤ b ∧ b < 2147483648) (hc : -2147483648 ≤ c ∧ c < 2147483648) : IM (f_blend a b c v).2 T (E) := by
  have hT := hI.1
  have q1 : 0 ≤ v 6 0 ∧ v 6 0 ≤ 20 := hI.2 6 0
  have q2 : 0 ≤ (f_isOrder a v) ∧ (f_isOrder a v) ≤ 1 := r_isOrder
  have q3 : ((f_isOrder a v) = 1 ∧ 0 ≤ a ∧ a < (v 6 0)) ∨ ((f_isOrder a v) = 0 ∧ ¬ (0 ≤ a ∧ a < (v 6 0))) := c_isOrder a v
  have q4 : 0 ≤ (v 6 0) ∧ (v 6 0) ≤ 20 := hI.2 6 0
  by_cases c5 : (f_isOrder a v) = 0
  · have hJ6 := (i_fails (c := 1) hI (by show 0 ≤ 1 ∧ 1 ≤ 4; omega))
    rw [f_blend, if_pos c5]
    exact hJ6
  · have q7 : 0 ≤ v 1 0 ∧ v 1 0 ≤ 5 := hI.2 1 0
    have q8 : 0 ≤ (f_isRecipe b v) ∧ (f_isRecipe b v) ≤ 1 := r_isRecipe
    have q9 : ((f_isRecipe b v) = 1 ∧ 0 ≤ b ∧ b < (v 1 0)) ∨ ((f_isRecipe b v) = 0 ∧ ¬ (0 ≤ b ∧ b < (v 1 0))) := c_isRecipe b v
    have q10 : 0 ≤ (v 1 0) ∧ (v 1 0) ≤ 5 := hI.2 1 0
    by_cases c11 : (f_isRecipe b v) = 0
    · have hJ12 := (i_fails (c := 1) hI (by show 0 ≤ 1 ∧ 1 ≤ 4; omega))
      rw [f_blend, if_neg c5, if_pos c11]
      exact hJ12
    · have q13 : 0 ≤ (f_in c 1 40) ∧ (f_in c 1 40) ≤ 1 := r_in
      have q14 := c_in c 1 40
      by_cases c15 : (f_in c 1 40) = 0
      · have hJ16 := (i_fails (c := 2) hI (by show 0 ≤ 2 ∧ 2 ≤ 4; omega))
        rw [f_blend, if_neg c5, if_neg c11, if_pos c15]
        exact hJ16
      · have q17 : 0 ≤ v 34 a ∧ v 34 a ≤ 255 := hI.2 34 a
        by_cases c18 : (v 34 a) = 111
        · have q19 : 0 ≤ v 33 a ∧ v 33 a ≤ 4 := hI.2 33 a
          by_cases c20 : (v 33 a) = 4
          · have hJ21 := (i_fails (c := 3) hI (by show 0 ≤ 3 ∧ 3 ≤ 4; omega))
            rw [f_blend, if_neg c5, if_neg c11, if_neg c15, if_pos c18, if_pos c20]
            exact hJ21
          · have hJ22 := (i_adds (o := a) (r := b) (a := c) (hI.up 0 0 0 (by show 0 ≤ 0 ∧ 0 ≤ 4; omega)) (by show 0 ≤ a ∧ a ≤ 19; omega) (by show 0 ≤ b ∧ b ≤ 4; omega) (by show 1 ≤ c ∧ c ≤ 40; omega) (by show (v 33 a) ≤ 3; omega))
            have q23 : (f_adds a b c (upv v 0 0 0)) 6 0 = (v 6 0) := rfl
            have q24 : 0 ≤ (f_adds a b c (upv v 0 0 0)) 33 a ∧ (f_adds a b c (upv v 0 0 0)) 33 a ≤ 4 := hJ22.2 33 a
            rw [f_blend, if_neg c5, if_neg c11, if_neg c15, if_pos c18, if_neg c20]
            exact hJ22
        · have hJ25 := (i_fails (c := 3) hI (by show 0 ≤ 3 ∧ 3 ≤ 4; omega))
          rw [f_blend, if_neg c5, if_neg c11, if_neg c15, if_neg c18]
          exact hJ25
theorem fr_blend {a b c : Int} {v : Vw} (fk : Nat) (fi : Int) (hk : fk ≠ 0 ∧ fk ≠ 33 ∧ fk ≠ 36 ∧ fk ≠ 37) : (f_blend a b c v).2 fk fi = v fk fi := by
  by_cases c5 : (f_isOrder a v) = 0
  · rw [f_blend, if_pos c5]
    exact ((fr_fails (c := 1) (v := v) fk fi (by omega)).trans rfl)
  · by_cases c11 : (f_isRecipe b v) = 0
    · rw [f_blend, if_neg c5, if_pos c11]
      exact ((fr_fails (c := 1) (v := v) fk fi (by omega)).trans rfl)
    · by_cases c15 : (f_in c 1 40) = 0
      · rw [f_blend, if_neg c5, if_neg c11, if_pos c15]
        exact ((fr_fails (c := 2) (v := v) fk fi (by omega)).trans rfl)
      · by_cases c18 : (v 34 a) = 111
        · by_cases c20 : (v 33 a) = 4
          · rw [f_blend, if_neg c5, if_neg c11, if_neg c15, if_pos c18, if_pos c20]
            exact ((fr_fails (c := 3) (v := v) fk fi (by omega)).trans rfl)
          · rw [f_blend, if_neg c5, if_neg c11, if_neg c15, if_pos c18, if_neg c20]
            exact ((fr_adds (o := a) (r := b) (a := c) (v := (upv v 0 0 0)) fk fi (by omega)).trans ((upv_nk (by omega)).trans rfl))
        · rw [f_blend, if_neg c5, if_neg c11, if_neg c15, if_neg c18]
          exact ((fr_fails (c := 3) (v := v) fk fi (by omega)).trans rfl)
def l_cancel_48 (a : Int) (v : Vw) : Nat → Int → Int → Int
  | 0, s, k => s
  | n + 1, s, k =>
    if (v 33 a) ≤ k then
      s
    else
      (l_cancel_48 a v n (s + (v 37 ((4 * a) + k))) (k + 1))
def f_cancel (a : Int) (v : Vw) : Int × Vw :=
  if (f_isOrder a v) = 0 then
    ((f_fails 1 v).1, (f_fails 1 v).2)
  else
    if (v 34 a) = 111 then
      ((l_cancel_48 a (upv (upv v 0 0 0) 34 a 99) (((v 33 a) - 0).toNat + 1) 0 0), (upv (upv v 0 0 0) 34 a 99))
    else
      ((f_fails 2 v).1, (f_fails 2 v).2)
theorem i_cancel {v : Vw} {T E : Int} {a : Int} (hI : IM v T E) (ha : -2147483648 ≤ a ∧ a < 2147483648) : IM (f_cancel a v).2 T (E) := by
  have hT := hI.1
  have q4 : 0 ≤ v 6 0 ∧ v 6 0 ≤ 20 := hI.2 6 0
  have q5 : 0 ≤ (f_isOrder a v) ∧ (f_isOrder a v) ≤ 1 := r_isOrder
  have q6 : ((f_isOrder a v) = 1 ∧ 0 ≤ a ∧ a < (v 6 0)) ∨ ((f_isOrder a v) = 0 ∧ ¬ (0 ≤ a ∧ a < (v 6 0))) := c_isOrder a v
  have q7 : 0 ≤ (v 6 0) ∧ (v 6 0) ≤ 20 := hI.2 6 0
  by_cases c8 : (f_isOrder a v) = 0
  · have hJ9 := (i_fails (c := 1) hI (by show 0 ≤ 1 ∧ 1 ≤ 4; omega))
    rw [f_cancel, if_pos c8]
    exact hJ9
  · have q10 : 0 ≤ v 34 a ∧ v 34 a ≤ 255 := hI.2 34 a
    by_cases c11 : (v 34 a) = 111
    · rw [f_cancel, if_neg c8, if_pos c11]
      exact ((hI.up 0 0 0 (by show 0 ≤ 0 ∧ 0 ≤ 4; omega)).up 34 a 99 (by show 0 ≤ 99 ∧ 99 ≤ 255; omega))
    · have hJ12 := (i_fails (c := 2) hI (by show 0 ≤ 2 ∧ 2 ≤ 4; omega))
      rw [f_cancel, if_neg c8, if_neg c11]
      exact hJ12
theorem fr_cancel {a : Int} {v : Vw} (fk : Nat) (fi : Int) (hk : fk ≠ 0 ∧ fk ≠ 34) : (f_cancel a v).2 fk fi = v fk fi := by
  by_cases c8 : (f_isOrder a v) = 0
  · rw [f_cancel, if_pos c8]
    exact ((fr_fails (c := 1) (v := v) fk fi (by omega)).trans rfl)
  · by_cases c11 : (v 34 a) = 111
    · rw [f_cancel, if_neg c8, if_pos c11]
      exact ((upv_nk (by omega)).trans ((upv_nk (by omega)).trans rfl))
    · rw [f_cancel, if_neg c8, if_neg c11]
      exact ((fr_fails (c := 2) (v := v) fk fi (by omega)).trans rfl)
def f_status (a : Int) (v : Vw) : Int × Vw :=
  if (f_isOrder a v) = 0 then
    (0, (upv v 0 0 1))
  else
    ((v 34 a), (upv v 0 0 0))
theorem i_status {v : Vw} {T E : Int} {a : Int} (hI : IM v T E) (ha : -2147483648 ≤ a ∧ a < 2147483648) : IM (f_status a v).2 T (E) := by
  have hT := hI.1
  have q1 : 0 ≤ v 6 0 ∧ v 6 0 ≤ 20 := hI.2 6 0
  have q2 : 0 ≤ (f_isOrder a v) ∧ (f_isOrder a v) ≤ 1 := r_isOrder
  have q3 : ((f_isOrder a v) = 1 ∧ 0 ≤ a ∧ a < (v 6 0)) ∨ ((f_isOrder a v) = 0 ∧ ¬ (0 ≤ a ∧ a < (v 6 0))) := c_isOrder a v
  have q4 : 0 ≤ (v 6 0) ∧ (v 6 0) ≤ 20 := hI.2 6 0
  by_cases c5 : (f_isOrder a v) = 0
  · rw [f_status, if_pos c5]
    exact (hI.up 0 0 1 (by show 0 ≤ 1 ∧ 1 ≤ 4; omega))
  · have q6 : 0 ≤ v 34 a ∧ v 34 a ≤ 255 := hI.2 34 a
    rw [f_status, if_neg c5]
    exact (hI.up 0 0 0 (by show 0 ≤ 0 ∧ 0 ≤ 4; omega))
theorem fr_status {a : Int} {v : Vw} (fk : Nat) (fi : Int) (hk : fk ≠ 0) : (f_status a v).2 fk fi = v fk fi := by
  by_cases c5 : (f_isOrder a v) = 0
  · rw [f_status, if_pos c5]
    exact ((upv_nk (by omega)).trans rfl)
  · rw [f_status, if_neg c5]
    exact ((upv_nk (by omega)).trans rfl)
def f_filledOn (a : Int) (v : Vw) : Int × Vw :=
  if (f_isOrder a v) = 0 then
    (0, (upv v 0 0 1))
  else
    if (v 34 a) = 102 then
      ((v 35 a), (upv v 0 0 0))
    else
      (0, (upv v 0 0 2))
theorem i_filledOn {v : Vw} {T E : Int} {a : Int} (hI : IM v T E) (ha : -2147483648 ≤ a ∧ a < 2147483648) : IM (f_filledOn a v).2 T (E) := by
  have hT := hI.1
  have q1 : 0 ≤ v 6 0 ∧ v 6 0 ≤ 20 := hI.2 6 0
  have q2 : 0 ≤ (f_isOrder a v) ∧ (f_isOrder a v) ≤ 1 := r_isOrder
  have q3 : ((f_isOrder a v) = 1 ∧ 0 ≤ a ∧ a < (v 6 0)) ∨ ((f_isOrder a v) = 0 ∧ ¬ (0 ≤ a ∧ a < (v 6 0))) := c_isOrder a v
  have q4 : 0 ≤ (v 6 0) ∧ (v 6 0) ≤ 20 := hI.2 6 0
  by_cases c5 : (f_isOrder a v) = 0
  · rw [f_filledOn, if_pos c5]
    exact (hI.up 0 0 1 (by show 0 ≤ 1 ∧ 1 ≤ 4; omega))
  · have q6 : 0 ≤ v 34 a ∧ v 34 a ≤ 255 := hI.2 34 a
    by_cases c7 : (v 34 a) = 102
    · have q8 : 0 ≤ v 35 a ∧ v 35 a ≤ T := hI.2 35 a
      rw [f_filledOn, if_neg c5, if_pos c7]
      exact (hI.up 0 0 0 (by show 0 ≤ 0 ∧ 0 ≤ 4; omega))
    · rw [f_filledOn, if_neg c5, if_neg c7]
      exact (hI.up 0 0 2 (by show 0 ≤ 2 ∧ 2 ≤ 4; omega))
theorem fr_filledOn {a : Int} {v : Vw} (fk : Nat) (fi : Int) (hk : fk ≠ 0) : (f_filledOn a v).2 fk fi = v fk fi := by
  by_cases c5 : (f_isOrder a v) = 0
  · rw [f_filledOn, if_pos c5]
    exact ((upv_nk (by omega)).trans rfl)
  · by_cases c7 : (v 34 a) = 102
    · rw [f_filledOn, if_neg c5, if_pos c7]
      exact ((upv_nk (by omega)).trans rfl)
    · rw [f_filledOn, if_neg c5, if_neg c7]
      exact ((upv_nk (by omega)).trans rfl)
def f_day (v : Vw) : Int × Vw :=
  ((v 8 0), (upv v 0 0 0))
theorem i_day {v : Vw} {T E : Int} (hI : IM v T E) : IM (f_day v).2 T (E) := by
  have hT := hI.1
  have q1 : 0 ≤ v 8 0 ∧ v 8 0 ≤ T := hI.2 8 0
  rw [f_day]
  exact (hI.up 0 0 0 (by show 0 ≤ 0 ∧ 0 ≤ 4; omega))
theorem fr_day {v : Vw} (fk : Nat) (fi : Int) (hk : fk ≠ 0) : (f_day v).2 fk fi = v fk fi := by
  rw [f_day]
  exact ((upv_nk (by omega)).trans rfl)
def f_isOne (a : Int) (v : Vw) : Int × Vw :=
  if a = 0 then
    (a, (upv v 0 0 1))
  else
    (a, (upv v 0 0 0))
theorem i_isOne {v : Vw} {T E : Int} {a : Int} (hI : IM v T E) (ha : 0 ≤ a ∧ a ≤ 1) : IM (f_isOne a v).2 T (E) := by
  have hT := hI.1
  by_cases c1 : a = 0
  · rw [f_isOne, if_pos c1]
    exact (hI.up 0 0 1 (by show 0 ≤ 1 ∧ 1 ≤ 4; omega))
  · rw [f_isOne, if_neg c1]
    exact (hI.up 0 0 0 (by show 0 ≤ 0 ∧ 0 ≤ 4; omega))
theorem fr_isOne {a : Int} {v : Vw} (fk : Nat) (fi : Int) (hk : fk ≠ 0) : (f_isOne a v).2 fk fi = v fk fi := by
  by_cases c1 : a = 0
  · rw [f_isOne, if_pos c1]
    exact ((upv_nk (by omega)).trans rfl)
  · rw [f_isOne, if_neg c1]
    exact ((upv_nk (by omega)).trans rfl)
theorem c_isOne (a : Int) (v : Vw) : (f_isOne a v).1 = a := by
  unfold f_isOne
  repeat' split
  all_goals rfl
def f_state (a : Int) (v : Vw) : Int × Vw :=
  if (f_isOne (f_isVessel a v) v).1 = 0 then
    (0, (f_isOne (f_isVessel a v) v).2)
  else
    if (v 15 a) = 0 then
      (99, (f_isOne (f_isVessel a v) v).2)
    else
      if (v 15 a) = 1 then
        (117, (f_isOne (f_isVessel a v) v).2)
      else
        if (v 15 a) = 2 then
          (100, (f_isOne (f_isVessel a v) v).2)
        else
          (103, (f_isOne (f_isVessel a v) v).2)
theorem i_state {v : Vw} {T E : Int} {a : Int} (hI : IM v T E) (ha : -2147483648 ≤ a ∧ a < 2147483648) : IM (f_state a v).2 T (E) := by
  have hT := hI.1
  have q1 : 0 ≤ v 2 0 ∧ v 2 0 ≤ 8 := hI.2 2 0
  have q2 : 0 ≤ (f_isVessel a v) ∧ (f_isVessel a v) ≤ 1 := r_isVessel
  have q3 : ((f_isVessel a v) = 1 ∧ 0 ≤ a ∧ a < (v 2 0)) ∨ ((f_isVessel a v) = 0 ∧ ¬ (0 ≤ a ∧ a < (v 2 0))) := c_isVessel a v
  have q4 : 0 ≤ (v 2 0) ∧ (v 2 0) ≤ 8 := hI.2 2 0
  have hJ5 := (i_isOne (a := (f_isVessel a v)) hI (by show 0 ≤ (f_isVessel a v) ∧ (f_isVessel a v) ≤ 1; omega))
  have q6 : (f_isOne (f_isVessel a v) v).1 = (f_isVessel a v) := c_isOne (f_isVessel a v) v
  by_cases c7 : (f_isOne (f_isVessel a v) v).1 = 0
  · rw [f_state, if_pos c7]
    exact hJ5
  · have q8 : 0 ≤ v 15 a ∧ v 15 a ≤ 3 := hI.2 15 a
    have q9 : ((f_isOne (f_isVessel a v) v).2) 15 a = v 15 a := (fr_isOne (a := (f_isVessel a v)) (v := v) 15 a (by decide)).trans rfl
    by_cases c10 : (v 15 a) = 0
    · rw [f_state, if_neg c7, if_pos c10]
      exact hJ5
    · by_cases c11 : (v 15 a) = 1
      · rw [f_state, if_neg c7, if_neg c10, if_pos c11]
        exact hJ5
      · by_cases c12 : (v 15 a) = 2
        · rw [f_state, if_neg c7, if_neg c10, if_neg c11, if_pos c12]
          exact hJ5
        · rw [f_state, if_neg c7, if_neg c10, if_neg c11, if_neg c12]
          exact hJ5
theorem fr_state {a : Int} {v : Vw} (fk : Nat) (fi : Int) (hk : fk ≠ 0) : (f_state a v).2 fk fi = v fk fi := by
  by_cases c7 : (f_isOne (f_isVessel a v) v).1 = 0
  · rw [f_state, if_pos c7]
    exact ((fr_isOne (a := (f_isVessel a v)) (v := v) fk fi (by omega)).trans rfl)
  · by_cases c10 : (v 15 a) = 0
    · rw [f_state, if_neg c7, if_pos c10]
      exact ((fr_isOne (a := (f_isVessel a v)) (v := v) fk fi (by omega)).trans rfl)
    · by_cases c11 : (v 15 a) = 1
      · rw [f_state, if_neg c7, if_neg c10, if_pos c11]
        exact ((fr_isOne (a := (f_isVessel a v)) (v := v) fk fi (by omega)).trans rfl)
      · by_cases c12 : (v 15 a) = 2
        · rw [f_state, if_neg c7, if_neg c10, if_neg c11, if_pos c12]
          exact ((fr_isOne (a := (f_isVessel a v)) (v := v) fk fi (by omega)).trans rfl)
        · rw [f_state, if_neg c7, if_neg c10, if_neg c11, if_neg c12]
          exact ((fr_isOne (a := (f_isVessel a v)) (v := v) fk fi (by omega)).trans rfl)
def f_brewIn (a : Int) (v : Vw) : Int × Vw :=
  if (f_isOne (f_isVessel a v) v).1 = 0 then
    (0, (f_isOne (f_isVessel a v) v).2)
  else
    if (v 15 a) = 1 then
      ((v 16 a), (f_isOne (f_isVessel a v) v).2)
    else
      ((f_fails 2 ((f_isOne (f_isVessel a v) v).2)).1, (f_fails 2 ((f_isOne (f_isVessel a v) v).2)).2)
theorem i_brewIn {v : Vw} {T E : Int} {a : Int} (hI : IM v T E) (ha : -2147483648 ≤ a ∧ a < 2147483648) : IM (f_brewIn a v).2 T (E) := by
  have hT := hI.1
  have q1 : 0 ≤ v 2 0 ∧ v 2 0 ≤ 8 := hI.2 2 0
  have q2 : 0 ≤ (f_isVessel a v) ∧ (f_isVessel a v) ≤ 1 := r_isVessel
  have q3 : ((f_isVessel a v) = 1 ∧ 0 ≤ a ∧ a < (v 2 0)) ∨ ((f_isVessel a v) = 0 ∧ ¬ (0 ≤ a ∧ a < (v 2 0))) := c_isVessel a v
  have q4 : 0 ≤ (v 2 0) ∧ (v 2 0) ≤ 8 := hI.2 2 0
  have hJ5 := (i_isOne (a := (f_isVessel a v)) hI (by show 0 ≤ (f_isVessel a v) ∧ (f_isVessel a v) ≤ 1; omega))
  have q6 : (f_isOne (f_isVessel a v) v).1 = (f_isVessel a v) := c_isOne (f_isVessel a v) v
  by_cases c7 : (f_isOne (f_isVessel a v) v).1 = 0
  · rw [f_brewIn, if_pos c7]
    exact hJ5
  · have q8 : 0 ≤ v 15 a ∧ v 15 a ≤ 3 := hI.2 15 a
    have q9 : ((f_isOne (f_isVessel a v) v).2) 15 a = v 15 a := (fr_isOne (a := (f_isVessel a v)) (v := v) 15 a (by decide)).trans rfl
    by_cases c10 : (v 15 a) = 1
    · have q11 : 0 ≤ v 16 a ∧ v 16 a ≤ 29 := hI.2 16 a
      have q12 : ((f_isOne (f_isVessel a v) v).2) 16 a = v 16 a := (fr_isOne (a := (f_isVessel a v)) (v := v) 16 a (by decide)).trans rfl
      rw [f_brewIn, if_neg c7, if_pos c10]
      exact hJ5
    · have hJ13 := (i_fails (c := 2) hJ5 (by show 0 ≤ 2 ∧ 2 ≤ 4; omega))
      rw [f_brewIn, if_neg c7, if_neg c10]
      exact hJ13
theorem fr_brewIn {a : Int} {v : Vw} (fk : Nat) (fi : Int) (hk : fk ≠ 0) : (f_brewIn a v).2 fk fi = v fk fi := by
  by_cases c7 : (f_isOne (f_isVessel a v) v).1 = 0
  · rw [f_brewIn, if_pos c7]
    exact ((fr_isOne (a := (f_isVessel a v)) (v := v) fk fi (by omega)).trans rfl)
  · by_cases c10 : (v 15 a) = 1
    · rw [f_brewIn, if_neg c7, if_pos c10]
      exact ((fr_isOne (a := (f_isVessel a v)) (v := v) fk fi (by omega)).trans rfl)
    · rw [f_brewIn, if_neg c7, if_neg c10]
      exact ((fr_fails (c := 2) (v := ((f_isOne (f_isVessel a v) v).2)) fk fi (by omega)).trans ((fr_isOne (a := (f_isVessel a v)) (v := v) fk fi (by omega)).trans rfl))
def f_cleanDay (a : Int) (v : Vw) : Int × Vw :=
  if (f_isOne (f_isVessel a v) v).1 = 0 then
    (0, (f_isOne (f_isVessel a v) v).2)
  else
    if (v 15 a) = 3 then
      (((v 8 0) + (v 17 a)), (f_isOne (f_isVessel a v) v).2)
    else
      ((f_fails 2 ((f_isOne (f_isVessel a v) v).2)).1, (f_fails 2 ((f_isOne (f_isVessel a v) v).2)).2)
theorem i_cleanDay {v : Vw} {T E : Int} {a : Int} (hI : IM v T E) (ha : -2147483648 ≤ a ∧ a < 2147483648) : IM (f_cleanDay a v).2 T (E) := by
  have hT := hI.1
  have q1 : 0 ≤ v 2 0 ∧ v 2 0 ≤ 8 := hI.2 2 0
  have q2 : 0 ≤ (f_isVessel a v) ∧ (f_isVessel a v) ≤ 1 := r_isVessel
  have q3 : ((f_isVessel a v) = 1 ∧ 0 ≤ a ∧ a < (v 2 0)) ∨ ((f_isVessel a v) = 0 ∧ ¬ (0 ≤ a ∧ a < (v 2 0))) := c_isVessel a v
  have q4 : 0 ≤ (v 2 0) ∧ (v 2 0) ≤ 8 := hI.2 2 0
  have hJ5 := (i_isOne (a := (f_isVessel a v)) hI (by show 0 ≤ (f_isVessel a v) ∧ (f_isVessel a v) ≤ 1; omega))
  have q6 : (f_isOne (f_isVessel a v) v).1 = (f_isVessel a v) := c_isOne (f_isVessel a v) v
  by_cases c7 : (f_isOne (f_isVessel a v) v).1 = 0
  · rw [f_cleanDay, if_pos c7]
    exact hJ5
  · have q8 : 0 ≤ v 15 a ∧ v 15 a ≤ 3 := hI.2 15 a
    have q9 : ((f_isOne (f_isVessel a v) v).2) 15 a = v 15 a := (fr_isOne (a := (f_isVessel a v)) (v := v) 15 a (by decide)).trans rfl
    by_cases c10 : (v 15 a) = 3
    · have q11 : 0 ≤ v 8 0 ∧ v 8 0 ≤ T := hI.2 8 0
      have q12 : ((f_isOne (f_isVessel a v) v).2) 8 0 = v 8 0 := (fr_isOne (a := (f_isVessel a v)) (v := v) 8 0 (by decide)).trans rfl
      have q13 : 0 ≤ v 17 a ∧ v 17 a ≤ 2 := hI.2 17 a
      have q14 : ((f_isOne (f_isVessel a v) v).2) 17 a = v 17 a := (fr_isOne (a := (f_isVessel a v)) (v := v) 17 a (by decide)).trans rfl
      rw [f_cleanDay, if_neg c7, if_pos c10]
      exact hJ5
    · have hJ15 := (i_fails (c := 2) hJ5 (by show 0 ≤ 2 ∧ 2 ≤ 4; omega))
      rw [f_cleanDay, if_neg c7, if_neg c10]
      exact hJ15
theorem fr_cleanDay {a : Int} {v : Vw} (fk : Nat) (fi : Int) (hk : fk ≠ 0) : (f_cleanDay a v).2 fk fi = v fk fi := by
  by_cases c7 : (f_isOne (f_isVessel a v) v).1 = 0
  · rw [f_cleanDay, if_pos c7]
    exact ((fr_isOne (a := (f_isVessel a v)) (v := v) fk fi (by omega)).trans rfl)
  · by_cases c10 : (v 15 a) = 3
    · rw [f_cleanDay, if_neg c7, if_pos c10]
      exact ((fr_isOne (a := (f_isVessel a v)) (v := v) fk fi (by omega)).trans rfl)
    · rw [f_cleanDay, if_neg c7, if_neg c10]
      exact ((fr_fails (c := 2) (v := ((f_isOne (f_isVessel a v) v).2)) fk fi (by omega)).trans ((fr_isOne (a := (f_isVessel a v)) (v := v) fk fi (by omega)).trans rfl))
def f_recipeOf (a : Int) (v : Vw) : Int × Vw :=
  if (f_isOne (f_isBrew a v) v).1 = 0 then
    (0, (f_isOne (f_isBrew a v) v).2)
  else
    ((v 26 a), (f_isOne (f_isBrew a v) v).2)
theorem i_recipeOf {v : Vw} {T E : Int} {a : Int} (hI : IM v T E) (ha : -2147483648 ≤ a ∧ a < 2147483648) : IM (f_recipeOf a v).2 T (E) := by
  have hT := hI.1
  have q1 : 0 ≤ v 5 0 ∧ v 5 0 ≤ 30 := hI.2 5 0
  have q2 : 0 ≤ (f_isBrew a v) ∧ (f_isBrew a v) ≤ 1 := r_isBrew
  have q3 : ((f_isBrew a v) = 1 ∧ 0 ≤ a ∧ a < (v 5 0)) ∨ ((f_isBrew a v) = 0 ∧ ¬ (0 ≤ a ∧ a < (v 5 0))) := c_isBrew a v
  have q4 : 0 ≤ (v 5 0) ∧ (v 5 0) ≤ 30 := hI.2 5 0
  have hJ5 := (i_isOne (a := (f_isBrew a v)) hI (by show 0 ≤ (f_isBrew a v) ∧ (f_isBrew a v) ≤ 1; omega))
  have q6 : (f_isOne (f_isBrew a v) v).1 = (f_isBrew a v) := c_isOne (f_isBrew a v) v
  by_cases c7 : (f_isOne (f_isBrew a v) v).1 = 0
  · rw [f_recipeOf, if_pos c7]
    exact hJ5
  · have q8 : 0 ≤ v 26 a ∧ v 26 a ≤ 4 := hI.2 26 a
    have q9 : ((f_isOne (f_isBrew a v) v).2) 26 a = v 26 a := (fr_isOne (a := (f_isBrew a v)) (v := v) 26 a (by decide)).trans rfl
    rw [f_recipeOf, if_neg c7]
    exact hJ5
theorem fr_recipeOf {a : Int} {v : Vw} (fk : Nat) (fi : Int) (hk : fk ≠ 0) : (f_recipeOf a v).2 fk fi = v fk fi := by
  by_cases c7 : (f_isOne (f_isBrew a v) v).1 = 0
  · rw [f_recipeOf, if_pos c7]
    exact ((fr_isOne (a := (f_isBrew a v)) (v := v) fk fi (by omega)).trans rfl)
  · rw [f_recipeOf, if_neg c7]
    exact ((fr_isOne (a := (f_isBrew a v)) (v := v) fk fi (by omega)).trans rfl)
def f_generation (a : Int) (v : Vw) : Int × Vw :=
  if (f_isOne (f_isBrew a v) v).1 = 0 then
    (0, (f_isOne (f_isBrew a v) v).2)
  else
    ((v 27 a), (f_isOne (f_isBrew a v) v).2)
theorem i_generation {v : Vw} {T E : Int} {a : Int} (hI : IM v T E) (ha : -2147483648 ≤ a ∧ a < 2147483648) : IM (f_generation a v).2 T (E) := by
  have hT := hI.1
  have q1 : 0 ≤ v 5 0 ∧ v 5 0 ≤ 30 := hI.2 5 0
  have q2 : 0 ≤ (f_isBrew a v) ∧ (f_isBrew a v) ≤ 1 := r_isBrew
  have q3 : ((f_isBrew a v) = 1 ∧ 0 ≤ a ∧ a < (v 5 0)) ∨ ((f_isBrew a v) = 0 ∧ ¬ (0 ≤ a ∧ a < (v 5 0))) := c_isBrew a v
  have q4 : 0 ≤ (v 5 0) ∧ (v 5 0) ≤ 30 := hI.2 5 0
  have hJ5 := (i_isOne (a := (f_isBrew a v)) hI (by show 0 ≤ (f_isBrew a v) ∧ (f_isBrew a v) ≤ 1; omega))
  have q6 : (f_isOne (f_isBrew a v) v).1 = (f_isBrew a v) := c_isOne (f_isBrew a v) v
  by_cases c7 : (f_isOne (f_isBrew a v) v).1 = 0
  · rw [f_generation, if_pos c7]
    exact hJ5
  · have q8 : 0 ≤ v 27 a ∧ v 27 a ≤ 4 := hI.2 27 a
    have q9 : ((f_isOne (f_isBrew a v) v).2) 27 a = v 27 a := (fr_isOne (a := (f_isBrew a v)) (v := v) 27 a (by decide)).trans rfl
    rw [f_generation, if_neg c7]
    exact hJ5
theorem fr_generation {a : Int} {v : Vw} (fk : Nat) (fi : Int) (hk : fk ≠ 0) : (f_generation a v).2 fk fi = v fk fi := by
  by_cases c7 : (f_isOne (f_isBrew a v) v).1 = 0
  · rw [f_generation, if_pos c7]
    exact ((fr_isOne (a := (f_isBrew a v)) (v := v) fk fi (by omega)).trans rfl)
  · rw [f_generation, if_neg c7]
    exact ((fr_isOne (a := (f_isBrew a v)) (v := v) fk fi (by omega)).trans rfl)
def f_stage (a : Int) (v : Vw) : Int × Vw :=
  if (f_isOne (f_isBrew a v) v).1 = 0 then
    (0, (f_isOne (f_isBrew a v) v).2)
  else
    if (v 28 a) = 0 then
      (102, (f_isOne (f_isBrew a v) v).2)
    else
      if (v 28 a) = 1 then
        (119, (f_isOne (f_isBrew a v) v).2)
      else
        if (v 28 a) = 2 then
          (109, (f_isOne (f_isBrew a v) v).2)
        else
          if (v 28 a) = 3 then
            (114, (f_isOne (f_isBrew a v) v).2)
          else
            (120, (f_isOne (f_isBrew a v) v).2)
theorem i_stage {v : Vw} {T E : Int} {a : Int} (hI : IM v T E) (ha : -2147483648 ≤ a ∧ a < 2147483648) : IM (f_stage a v).2 T (E) := by
  have hT := hI.1
  have q1 : 0 ≤ v 5 0 ∧ v 5 0 ≤ 30 := hI.2 5 0
  have q2 : 0 ≤ (f_isBrew a v) ∧ (f_isBrew a v) ≤ 1 := r_isBrew
  have q3 : ((f_isBrew a v) = 1 ∧ 0 ≤ a ∧ a < (v 5 0)) ∨ ((f_isBrew a v) = 0 ∧ ¬ (0 ≤ a ∧ a < (v 5 0))) := c_isBrew a v
  have q4 : 0 ≤ (v 5 0) ∧ (v 5 0) ≤ 30 := hI.2 5 0
  have hJ5 := (i_isOne (a := (f_isBrew a v)) hI (by show 0 ≤ (f_isBrew a v) ∧ (f_isBrew a v) ≤ 1; omega))
  have q6 : (f_isOne (f_isBrew a v) v).1 = (f_isBrew a v) := c_isOne (f_isBrew a v) v
  by_cases c7 : (f_isOne (f_isBrew a v) v).1 = 0
  · rw [f_stage, if_pos c7]
    exact hJ5
  · have q8 : 0 ≤ v 28 a ∧ v 28 a ≤ 4 := hI.2 28 a
    have q9 : ((f_isOne (f_isBrew a v) v).2) 28 a = v 28 a := (fr_isOne (a := (f_isBrew a v)) (v := v) 28 a (by decide)).trans rfl
    by_cases c10 : (v 28 a) = 0
    · rw [f_stage, if_neg c7, if_pos c10]
      exact hJ5
    · by_cases c11 : (v 28 a) = 1
      · rw [f_stage, if_neg c7, if_neg c10, if_pos c11]
        exact hJ5
      · by_cases c12 : (v 28 a) = 2
        · rw [f_stage, if_neg c7, if_neg c10, if_neg c11, if_pos c12]
          exact hJ5
        · by_cases c13 : (v 28 a) = 3
          · rw [f_stage, if_neg c7, if_neg c10, if_neg c11, if_neg c12, if_pos c13]
            exact hJ5
          · rw [f_stage, if_neg c7, if_neg c10, if_neg c11, if_neg c12, if_neg c13]
            exact hJ5
theorem fr_stage {a : Int} {v : Vw} (fk : Nat) (fi : Int) (hk : fk ≠ 0) : (f_stage a v).2 fk fi = v fk fi := by
  by_cases c7 : (f_isOne (f_isBrew a v) v).1 = 0
  · rw [f_stage, if_pos c7]
    exact ((fr_isOne (a := (f_isBrew a v)) (v := v) fk fi (by omega)).trans rfl)
  · by_cases c10 : (v 28 a) = 0
    · rw [f_stage, if_neg c7, if_pos c10]
      exact ((fr_isOne (a := (f_isBrew a v)) (v := v) fk fi (by omega)).trans rfl)
    · by_cases c11 : (v 28 a) = 1
      · rw [f_stage, if_neg c7, if_neg c10, if_pos c11]
        exact ((fr_isOne (a := (f_isBrew a v)) (v := v) fk fi (by omega)).trans rfl)
      · by_cases c12 : (v 28 a) = 2
        · rw [f_stage, if_neg c7, if_neg c10, if_neg c11, if_pos c12]
          exact ((fr_isOne (a := (f_isBrew a v)) (v := v) fk fi (by omega)).trans rfl)
        · by_cases c13 : (v 28 a) = 3
          · rw [f_stage, if_neg c7, if_neg c10, if_neg c11, if_neg c12, if_pos c13]
            exact ((fr_isOne (a := (f_isBrew a v)) (v := v) fk fi (by omega)).trans rfl)
          · rw [f_stage, if_neg c7, if_neg c10, if_neg c11, if_neg c12, if_neg c13]
            exact ((fr_isOne (a := (f_isBrew a v)) (v := v) fk fi (by omega)).trans rfl)
def f_vesselOf (a : Int) (v : Vw) : Int × Vw :=
  if (f_isOne (f_isBrew a v) v).1 = 0 then
    (0, (f_isOne (f_isBrew a v) v).2)
  else
    if (v 28 a) = 4 then
      ((f_fails 2 ((f_isOne (f_isBrew a v) v).2)).1, (f_fails 2 ((f_isOne (f_isBrew a v) v).2)).2)
    else
      ((v 29 a), (f_isOne (f_isBrew a v) v).2)
theorem i_vesselOf {v : Vw} {T E : Int} {a : Int} (hI : IM v T E) (ha : -2147483648 ≤ a ∧ a < 2147483648) : IM (f_vesselOf a v).2 T (E) := by
  have hT := hI.1
  have q1 : 0 ≤ v 5 0 ∧ v 5 0 ≤ 30 := hI.2 5 0
  have q2 : 0 ≤ (f_isBrew a v) ∧ (f_isBrew a v) ≤ 1 := r_isBrew
  have q3 : ((f_isBrew a v) = 1 ∧ 0 ≤ a ∧ a < (v 5 0)) ∨ ((f_isBrew a v) = 0 ∧ ¬ (0 ≤ a ∧ a < (v 5 0))) := c_isBrew a v
  have q4 : 0 ≤ (v 5 0) ∧ (v 5 0) ≤ 30 := hI.2 5 0
  have hJ5 := (i_isOne (a := (f_isBrew a v)) hI (by show 0 ≤ (f_isBrew a v) ∧ (f_isBrew a v) ≤ 1; omega))
  have q6 : (f_isOne (f_isBrew a v) v).1 = (f_isBrew a v) := c_isOne (f_isBrew a v) v
  by_cases c7 : (f_isOne (f_isBrew a v) v).1 = 0
  · rw [f_vesselOf, if_pos c7]
    exact hJ5
  · have q8 : 0 ≤ v 28 a ∧ v 28 a ≤ 4 := hI.2 28 a
    have q9 : ((f_isOne (f_isBrew a v) v).2) 28 a = v 28 a := (fr_isOne (a := (f_isBrew a v)) (v := v) 28 a (by decide)).trans rfl
    by_cases c10 : (v 28 a) = 4
    · have hJ11 := (i_fails (c := 2) hJ5 (by show 0 ≤ 2 ∧ 2 ≤ 4; omega))
      rw [f_vesselOf, if_neg c7, if_pos c10]
      exact hJ11
    · have q12 : 0 ≤ v 29 a ∧ v 29 a ≤ 7 := hI.2 29 a
      have q13 : ((f_isOne (f_isBrew a v) v).2) 29 a = v 29 a := (fr_isOne (a := (f_isBrew a v)) (v := v) 29 a (by decide)).trans rfl
      rw [f_vesselOf, if_neg c7, if_neg c10]
      exact hJ5
theorem fr_vesselOf {a : Int} {v : Vw} (fk : Nat) (fi : Int) (hk : fk ≠ 0) : (f_vesselOf a v).2 fk fi = v fk fi := by
  by_cases c7 : (f_isOne (f_isBrew a v) v).1 = 0
  · rw [f_vesselOf, if_pos c7]
    exact ((fr_isOne (a := (f_isBrew a v)) (v := v) fk fi (by omega)).trans rfl)
  · by_cases c10 : (v 28 a) = 4
    · rw [f_vesselOf, if_neg c7, if_pos c10]
      exact ((fr_fails (c := 2) (v := ((f_isOne (f_isBrew a v) v).2)) fk fi (by omega)).trans ((fr_isOne (a := (f_isBrew a v)) (v := v) fk fi (by omega)).trans rfl))
    · rw [f_vesselOf, if_neg c7, if_neg c10]
      exact ((fr_isOne (a := (f_isBrew a v)) (v := v) fk fi (by omega)).trans rfl)
def f_daysToGo (a : Int) (v : Vw) : Int × Vw :=
  if (f_isOne (f_isBrew a v) v).1 = 0 then
    (0, (f_isOne (f_isBrew a v) v).2)
  else
    if (v 28 a) = 0 then
      ((v 30 a), (f_isOne (f_isBrew a v) v).2)
    else
      if (v 28 a) = 2 then
        ((v 30 a), (f_isOne (f_isBrew a v) v).2)
      else
        ((f_fails 2 ((f_isOne (f_isBrew a v) v).2)).1, (f_fails 2 ((f_isOne (f_isBrew a v) v).2)).2)
theorem i_daysToGo {v : Vw} {T E : Int} {a : Int} (hI : IM v T E) (ha : -2147483648 ≤ a ∧ a < 2147483648) : IM (f_daysToGo a v).2 T (E) := by
  have hT := hI.1
  have q1 : 0 ≤ v 5 0 ∧ v 5 0 ≤ 30 := hI.2 5 0
  have q2 : 0 ≤ (f_isBrew a v) ∧ (f_isBrew a v) ≤ 1 := r_isBrew
  have q3 : ((f_isBrew a v) = 1 ∧ 0 ≤ a ∧ a < (v 5 0)) ∨ ((f_isBrew a v) = 0 ∧ ¬ (0 ≤ a ∧ a < (v 5 0))) := c_isBrew a v
  have q4 : 0 ≤ (v 5 0) ∧ (v 5 0) ≤ 30 := hI.2 5 0
  have hJ5 := (i_isOne (a := (f_isBrew a v)) hI (by show 0 ≤ (f_isBrew a v) ∧ (f_isBrew a v) ≤ 1; omega))
  have q6 : (f_isOne (f_isBrew a v) v).1 = (f_isBrew a v) := c_isOne (f_isBrew a v) v
  by_cases c7 : (f_isOne (f_isBrew a v) v).1 = 0
  · rw [f_daysToGo, if_pos c7]
    exact hJ5
  · have q8 : 0 ≤ v 28 a ∧ v 28 a ≤ 4 := hI.2 28 a
    have q9 : ((f_isOne (f_isBrew a v) v).2) 28 a = v 28 a := (fr_isOne (a := (f_isBrew a v)) (v := v) 28 a (by decide)).trans rfl
    by_cases c10 : (v 28 a) = 0
    · have q11 : 0 ≤ v 30 a ∧ v 30 a ≤ 15 := hI.2 30 a
      have q12 : ((f_isOne (f_isBrew a v) v).2) 30 a = v 30 a := (fr_isOne (a := (f_isBrew a v)) (v := v) 30 a (by decide)).trans rfl
      rw [f_daysToGo, if_neg c7, if_pos c10]
      exact hJ5
    · by_cases c13 : (v 28 a) = 2
      · have q14 : 0 ≤ v 30 a ∧ v 30 a ≤ 15 := hI.2 30 a
        have q15 : ((f_isOne (f_isBrew a v) v).2) 30 a = v 30 a := (fr_isOne (a := (f_isBrew a v)) (v := v) 30 a (by decide)).trans rfl
        rw [f_daysToGo, if_neg c7, if_neg c10, if_pos c13]
        exact hJ5
      · have hJ16 := (i_fails (c := 2) hJ5 (by show 0 ≤ 2 ∧ 2 ≤ 4; omega))
        rw [f_daysToGo, if_neg c7, if_neg c10, if_neg c13]
        exact hJ16
theorem fr_daysToGo {a : Int} {v : Vw} (fk : Nat) (fi : Int) (hk : fk ≠ 0) : (f_daysToGo a v).2 fk fi = v fk fi := by
  by_cases c7 : (f_isOne (f_isBrew a v) v).1 = 0
  · rw [f_daysToGo, if_pos c7]
    exact ((fr_isOne (a := (f_isBrew a v)) (v := v) fk fi (by omega)).trans rfl)
  · by_cases c10 : (v 28 a) = 0
    · rw [f_daysToGo, if_neg c7, if_pos c10]
      exact ((fr_isOne (a := (f_isBrew a v)) (v := v) fk fi (by omega)).trans rfl)
    · by_cases c13 : (v 28 a) = 2
      · rw [f_daysToGo, if_neg c7, if_neg c10, if_pos c13]
        exact ((fr_isOne (a := (f_isBrew a v)) (v := v) fk fi (by omega)).trans rfl)
      · rw [f_daysToGo, if_neg c7, if_neg c10, if_neg c13]
        exact ((fr_fails (c := 2) (v := ((f_isOne (f_isBrew a v) v).2)) fk fi (by omega)).trans ((fr_isOne (a := (f_isBrew a v)) (v := v) fk fi (by omega)).trans rfl))
def f_brews (v : Vw) : Int × Vw :=
  ((v 5 0), (upv v 0 0 0))
theorem i_brews {v : Vw} {T E : Int} (hI : IM v T E) : IM (f_brews v).2 T (E) := by
  have hT := hI.1
  have q1 : 0 ≤ v 5 0 ∧ v 5 0 ≤ 30 := hI.2 5 0
  rw [f_brews]
  exact (hI.up 0 0 0 (by show 0 ≤ 0 ∧ 0 ≤ 4; omega))
theorem fr_brews {v : Vw} (fk : Nat) (fi : Int) (hk : fk ≠ 0) : (f_brews v).2 fk fi = v fk fi := by
  rw [f_brews]
  exact ((upv_nk (by omega)).trans rfl)
def f_deliveries (v : Vw) : Int × Vw :=
  ((v 9 0), (upv v 0 0 0))
theorem i_deliveries {v : Vw} {T E : Int} (hI : IM v T E) : IM (f_deliveries v).2 T (E) := by
  have hT := hI.1
  have q1 : 0 ≤ v 9 0 ∧ v 9 0 ≤ 127 := hI.2 9 0
  rw [f_deliveries]
  exact (hI.up 0 0 0 (by show 0 ≤ 0 ∧ 0 ≤ 4; omega))
theorem fr_deliveries {v : Vw} (fk : Nat) (fi : Int) (hk : fk ≠ 0) : (f_deliveries v).2 fk fi = v fk fi := by
  rw [f_deliveries]
  exact ((upv_nk (by omega)).trans rfl)
def f_isDelivery (a : Int) (v : Vw) : Int × Vw :=
  ((f_isOne (f_in a 0 ((v 9 0) - 1)) v).1, (f_isOne (f_in a 0 ((v 9 0) - 1)) v).2)
theorem i_isDelivery {v : Vw} {T E : Int} {a : Int} (hI : IM v T E) (ha : -2147483648 ≤ a ∧ a < 2147483648) : IM (f_isDelivery a v).2 T (E) := by
  have hT := hI.1
  have q1 : 0 ≤ v 9 0 ∧ v 9 0 ≤ 127 := hI.2 9 0
  have q2 : 0 ≤ (f_in a 0 ((v 9 0) - 1)) ∧ (f_in a 0 ((v 9 0) - 1)) ≤ 1 := r_in
  have q3 := c_in a 0 ((v 9 0) - 1)
  have hJ4 := (i_isOne (a := (f_in a 0 ((v 9 0) - 1))) hI (by show 0 ≤ (f_in a 0 ((v 9 0) - 1)) ∧ (f_in a 0 ((v 9 0) - 1)) ≤ 1; omega))
  have q5 : (f_isOne (f_in a 0 ((v 9 0) - 1)) v).1 = (f_in a 0 ((v 9 0) - 1)) := c_isOne (f_in a 0 ((v 9 0) - 1)) v
  rw [f_isDelivery]
  exact hJ4
theorem fr_isDelivery {a : Int} {v : Vw} (fk : Nat) (fi : Int) (hk : fk ≠ 0) : (f_isDelivery a v).2 fk fi = v fk fi := by
  rw [f_isDelivery]
  exact ((fr_isOne (a := (f_in a 0 ((v 9 0) - 1))) (v := v) fk fi (by omega)).trans rfl)
theorem c_isDelivery (x : Int) (v : Vw) : ((f_isDelivery x v).1 = 1 ∧ 0 ≤ x ∧ x < v 9 0) ∨ ((f_isDelivery x v).1 = 0 ∧ ¬ (0 ≤ x ∧ x < v 9 0)) := by
  have h := c_in x 0 (v 9 0 - 1)
  unfold f_isDelivery
  rw [c_isOne]
  omega
def f_deliveredBrew (a : Int) (v : Vw) : Int × Vw :=
  if (f_isDelivery a v).1 = 0 then
    (0, (f_isDelivery a v).2)
  else
    ((v 44 a), (f_isDelivery a v).2)
theorem i_deliveredBrew {v : Vw} {T E : Int} {a : Int} (hI : IM v T E) (ha : -2147483648 ≤ a ∧ a < 2147483648) : IM (f_deliveredBrew a v).2 T (E) := by
  have hT := hI.1
  have q1 : 0 ≤ v 9 0 ∧ v 9 0 ≤ 127 := hI.2 9 0
  have hJ2 := (i_isDelivery (a := a) hI (by show -2147483648 ≤ a ∧ a < 2147483648; omega))
  have q3 : ((f_isDelivery a v).1 = 1 ∧ 0 ≤ a ∧ a < (v 9 0)) ∨ ((f_isDelivery a v).1 = 0 ∧ ¬ (0 ≤ a ∧ a < (v 9 0))) := c_isDelivery a v
  have q4 : 0 ≤ (v 9 0) ∧ (v 9 0) ≤ 127 := hI.2 9 0
  by_cases c5 : (f_isDelivery a v).1 = 0
  · rw [f_deliveredBrew, if_pos c5]
    exact hJ2
  · have q6 : 0 ≤ v 44 a ∧ v 44 a ≤ 29 := hI.2 44 a
    have q7 : ((f_isDelivery a v).2) 44 a = v 44 a := (fr_isDelivery (a := a) (v := v) 44 a (by decide)).trans rfl
    rw [f_deliveredBrew, if_neg c5]
    exact hJ2
theorem fr_deliveredBrew {a : Int} {v : Vw} (fk : Nat) (fi : Int) (hk : fk ≠ 0) : (f_deliveredBrew a v).2 fk fi = v fk fi := by
  by_cases c5 : (f_isDelivery a v).1 = 0
  · rw [f_deliveredBrew, if_pos c5]
    exact ((fr_isDelivery (a := a) (v := v) fk fi (by omega)).trans rfl)
  · rw [f_deliveredBrew, if_neg c5]
    exact ((fr_isDelivery (a := a) (v := v) fk fi (by omega)).trans rfl)
def f_deliveredOrder (a : Int) (v : Vw) : Int × Vw :=
  if (f_isDelivery a v).1 = 0 then
    (0, (f_isDelivery a v).2)
  else
    ((v 45 a), (f_isDelivery a v).2)
theorem i_deliveredOrder {v : Vw} {T E : Int} {a : Int} (hI : IM v T E) (ha : -2147483648 ≤ a ∧ a < 2147483648) : IM (f_deliveredOrder a v).2 T (E) := by
  have hT := hI.1
  have q1 : 0 ≤ v 9 0 ∧ v 9 0 ≤ 127 := hI.2 9 0
  have hJ2 := (i_isDelivery (a := a) hI (by show -2147483648 ≤ a ∧ a < 2147483648; omega))
  have q3 : ((f_isDelivery a v).1 = 1 ∧ 0 ≤ a ∧ a < (v 9 0)) ∨ ((f_isDelivery a v).1 = 0 ∧ ¬ (0 ≤ a ∧ a < (v 9 0))) := c_isDelivery a v
  have q4 : 0 ≤ (v 9 0) ∧ (v 9 0) ≤ 127 := hI.2 9 0
  by_cases c5 : (f_isDelivery a v).1 = 0
  · rw [f_deliveredOrder, if_pos c5]
    exact hJ2
  · have q6 : 0 ≤ v 45 a ∧ v 45 a ≤ 19 := hI.2 45 a
    have q7 : ((f_isDelivery a v).2) 45 a = v 45 a := (fr_isDelivery (a := a) (v := v) 45 a (by decide)).trans rfl
    rw [f_deliveredOrder, if_neg c5]
    exact hJ2
theorem fr_deliveredOrder {a : Int} {v : Vw} (fk : Nat) (fi : Int) (hk : fk ≠ 0) : (f_deliveredOrder a v).2 fk fi = v fk fi := by
  by_cases c5 : (f_isDelivery a v).1 = 0
  · rw [f_deliveredOrder, if_pos c5]
    exact ((fr_isDelivery (a := a) (v := v) fk fi (by omega)).trans rfl)
  · rw [f_deliveredOrder, if_neg c5]
    exact ((fr_isDelivery (a := a) (v := v) fk fi (by omega)).trans rfl)
def f_deliveredUnits (a : Int) (v : Vw) : Int × Vw :=
  if (f_isDelivery a v).1 = 0 then
    (0, (f_isDelivery a v).2)
  else
    ((v 46 a), (f_isDelivery a v).2)
theorem i_deliveredUnits {v : Vw} {T E : Int} {a : Int} (hI : IM v T E) (ha : -2147483648 ≤ a ∧ a < 2147483648) : IM (f_deliveredUnits a v).2 T (E) := by
  have hT := hI.1
  have q1 : 0 ≤ v 9 0 ∧ v 9 0 ≤ 127 := hI.2 9 0
  have hJ2 := (i_isDelivery (a := a) hI (by show -2147483648 ≤ a ∧ a < 2147483648; omega))
  have q3 : ((f_isDelivery a v).1 = 1 ∧ 0 ≤ a ∧ a < (v 9 0)) ∨ ((f_isDelivery a v).1 = 0 ∧ ¬ (0 ≤ a ∧ a < (v 9 0))) := c_isDelivery a v
  have q4 : 0 ≤ (v 9 0) ∧ (v 9 0) ≤ 127 := hI.2 9 0
  by_cases c5 : (f_isDelivery a v).1 = 0
  · rw [f_deliveredUnits, if_pos c5]
    exact hJ2
  · have q6 : 0 ≤ v 46 a ∧ v 46 a ≤ 20 := hI.2 46 a
    have q7 : ((f_isDelivery a v).2) 46 a = v 46 a := (fr_isDelivery (a := a) (v := v) 46 a (by decide)).trans rfl
    rw [f_deliveredUnits, if_neg c5]
    exact hJ2
theorem fr_deliveredUnits {a : Int} {v : Vw} (fk : Nat) (fi : Int) (hk : fk ≠ 0) : (f_deliveredUnits a v).2 fk fi = v fk fi := by
  by_cases c5 : (f_isDelivery a v).1 = 0
  · rw [f_deliveredUnits, if_pos c5]
    exact ((fr_isDelivery (a := a) (v := v) fk fi (by omega)).trans rfl)
  · rw [f_deliveredUnits, if_neg c5]
    exact ((fr_isDelivery (a := a) (v := v) fk fi (by omega)).trans rfl)
