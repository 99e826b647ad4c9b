/-! the reference: harvest, the queue, a day (written by wip/whole/mk20.py) -/
def l_goesOn_75 (b : Int) : Nat → Int → Vw → Vw
  | 0, k, v => v
  | n + 1, k, v =>
    if 2 ≤ k then
      v
    else
      if 4 ≤ (v 27 b) then
        v
      else
        (l_goesOn_75 b n (k + 1) (upv (upv (upv (upv v 22 (v 4 0) (v 12 (v 26 b))) 23 (v 4 0) ((v 27 b) + 1)) 24 (v 4 0) (v 8 0)) 4 0 ((v 4 0) + 1)))
theorem fr_l_goesOn_75 {b : Int} : ∀ (n : Nat) (k : Int) (v : Vw) (fk : Nat) (fi : Int) (hk : fk ≠ 4 ∧ fk ≠ 22 ∧ fk ≠ 23 ∧ fk ≠ 24), (l_goesOn_75 b n k v) fk fi = v fk fi := by
  intro n k v fk fi hk
  induction n generalizing k v with
  | zero => rfl
  | succ n ih =>
    by_cases c1 : 2 ≤ k
    · rw [l_goesOn_75, if_pos c1]
      try rfl
    · by_cases c3 : 4 ≤ (v 27 b)
      · rw [l_goesOn_75, if_neg c1, if_pos c3]
        try rfl
      · rw [l_goesOn_75, if_neg c1, if_neg c3]
        exact (ih (k + 1) (upv (upv (upv (upv v 22 (v 4 0) (v 12 (v 26 b))) 23 (v 4 0) ((v 27 b) + 1)) 24 (v 4 0) (v 8 0)) 4 0 ((v 4 0) + 1))).trans ((upv_nk (by omega)).trans ((upv_nk (by omega)).trans ((upv_nk (by omega)).trans ((upv_nk (by omega)).trans rfl))))
theorem i_l_goesOn_75 {T E : Int} {b : Int} : ∀ (n : Nat) (k : Int) (v : Vw) (hI : IM v T E) (hk : 0 ≤ k ∧ k ≤ 2) (hp : v 4 0 + 2 ≤ 60 + k) (hb : 0 ≤ b ∧ b ≤ 29), IM (l_goesOn_75 b n k v) T (E) := by
  intro n
  induction n with
  | zero =>
    intro k v hI hk hp hb
    have hT := hI.1
    exact hI
  | succ n ih =>
    intro k v hI hk hp hb
    have hT := hI.1
    have u4 : 0 ≤ v 4 0 ∧ v 4 0 ≤ 60 := hI.2 4 0
    by_cases c1 : 2 ≤ k
    · rw [l_goesOn_75, if_pos c1]
      exact hI
    · have q2 : 0 ≤ v 27 b ∧ v 27 b ≤ 4 := hI.2 27 b
      by_cases c3 : 4 ≤ (v 27 b)
      · rw [l_goesOn_75, if_neg c1, if_pos c3]
        exact hI
      · have q4 : 0 ≤ v 26 b ∧ v 26 b ≤ 4 := hI.2 26 b
        have q5 : 0 ≤ v 12 (v 26 b) ∧ v 12 (v 26 b) ≤ 3 := hI.2 12 (v 26 b)
        have q6 : 0 ≤ v 8 0 ∧ v 8 0 ≤ T := hI.2 8 0
        rw [l_goesOn_75, if_neg c1, if_neg c3]
        exact ih (k + 1) (upv (upv (upv (upv v 22 (v 4 0) (v 12 (v 26 b))) 23 (v 4 0) ((v 27 b) + 1)) 24 (v 4 0) (v 8 0)) 4 0 ((v 4 0) + 1)) ((((hI.up 22 (v 4 0) (v 12 (v 26 b)) (by show 0 ≤ (v 12 (v 26 b)) ∧ (v 12 (v 26 b)) ≤ 3; omega)).up 23 (v 4 0) ((v 27 b) + 1) (by show 0 ≤ ((v 27 b) + 1) ∧ ((v 27 b) + 1) ≤ 4; omega)).up 24 (v 4 0) (v 8 0) (by show 0 ≤ (v 8 0) ∧ (v 8 0) ≤ T; omega)).up 4 0 ((v 4 0) + 1) (by show 0 ≤ ((v 4 0) + 1) ∧ ((v 4 0) + 1) ≤ 60; omega)) (by show 0 ≤ (k + 1) ∧ (k + 1) ≤ 2; omega) (by show ((v 4 0) + 1) + 2 ≤ 60 + (k + 1); omega) (by show 0 ≤ b ∧ b ≤ 29; omega)
def f_goesOn (b : Int) (v : Vw) : Vw :=
  if (v 28 b) = 0 then
    if (((v 30 b) - 1)) ≤ 0 then
      if (v 28 b) = 2 then
        (upv (upv (upv v 30 b ((v 30 b) - 1)) 28 b 3) 31 b 20)
      else
        (l_goesOn_75 b (((2 : Int) - 0).toNat + 1) 0 (upv (upv v 30 b ((v 30 b) - 1)) 28 b 1))
    else
      (upv v 30 b ((v 30 b) - 1))
  else
    if (v 28 b) = 2 then
      if (((v 30 b) - 1)) ≤ 0 then
        (upv (upv (upv v 30 b ((v 30 b) - 1)) 28 b 3) 31 b 20)
      else
        (upv v 30 b ((v 30 b) - 1))
    else
      v
theorem i_goesOn {v : Vw} {T E : Int} {b : Int} (hI : IM v T E) (hb : 0 ≤ b ∧ b ≤ 29) (hp : v 28 b = 0 → v 4 0 ≤ 58) (hg : v 28 b = 0 ∨ v 28 b = 2 → 1 ≤ v 30 b) : IM (f_goesOn b v) T (E) := by
  have hT := hI.1
  have u4 : 0 ≤ v 4 0 ∧ v 4 0 ≤ 60 := hI.2 4 0
  have q7 : 0 ≤ v 28 b ∧ v 28 b ≤ 4 := hI.2 28 b
  by_cases c8 : (v 28 b) = 0
  · have q9 : 0 ≤ v 30 b ∧ v 30 b ≤ 15 := hI.2 30 b
    by_cases c10 : (((v 30 b) - 1)) ≤ 0
    · by_cases c11 : (v 28 b) = 2
      · rw [f_goesOn, if_pos c8, if_pos c10, if_pos c11]
        exact (((hI.up 30 b ((v 30 b) - 1) (by show 0 ≤ ((v 30 b) - 1) ∧ ((v 30 b) - 1) ≤ 15; omega)).up 28 b 3 (by show 0 ≤ 3 ∧ 3 ≤ 4; omega)).up 31 b 20 (by show 0 ≤ 20 ∧ 20 ≤ 20; omega))
      · rw [f_goesOn, if_pos c8, if_pos c10, if_neg c11]
        exact i_l_goesOn_75  (((2 : Int) - 0).toNat + 1) 0 (upv (upv v 30 b ((v 30 b) - 1)) 28 b 1) ((hI.up 30 b ((v 30 b) - 1) (by show 0 ≤ ((v 30 b) - 1) ∧ ((v 30 b) - 1) ≤ 15; omega)).up 28 b 1 (by show 0 ≤ 1 ∧ 1 ≤ 4; omega)) (by show 0 ≤ 0 ∧ 0 ≤ 2; omega) (by show (v 4 0) + 2 ≤ 60 + 0; omega) (by show 0 ≤ b ∧ b ≤ 29; omega)
    · rw [f_goesOn, if_pos c8, if_neg c10]
      exact (hI.up 30 b ((v 30 b) - 1) (by show 0 ≤ ((v 30 b) - 1) ∧ ((v 30 b) - 1) ≤ 15; omega))
  · by_cases c12 : (v 28 b) = 2
    · have q13 : 0 ≤ v 30 b ∧ v 30 b ≤ 15 := hI.2 30 b
      by_cases c14 : (((v 30 b) - 1)) ≤ 0
      · rw [f_goesOn, if_neg c8, if_pos c12, if_pos c14]
        exact (((hI.up 30 b ((v 30 b) - 1) (by show 0 ≤ ((v 30 b) - 1) ∧ ((v 30 b) - 1) ≤ 15; omega)).up 28 b 3 (by show 0 ≤ 3 ∧ 3 ≤ 4; omega)).up 31 b 20 (by show 0 ≤ 20 ∧ 20 ≤ 20; omega))
      · rw [f_goesOn, if_neg c8, if_pos c12, if_neg c14]
        exact (hI.up 30 b ((v 30 b) - 1) (by show 0 ≤ ((v 30 b) - 1) ∧ ((v 30 b) - 1) ≤ 15; omega))
    · rw [f_goesOn, if_neg c8, if_neg c12]
      exact hI
theorem fr_goesOn {b : Int} {v : Vw} (fk : Nat) (fi : Int) (hk : fk ≠ 4 ∧ fk ≠ 22 ∧ fk ≠ 23 ∧ fk ≠ 24 ∧ fk ≠ 28 ∧ fk ≠ 30 ∧ fk ≠ 31) : (f_goesOn b v) fk fi = v fk fi := by
  by_cases c8 : (v 28 b) = 0
  · by_cases c10 : (((v 30 b) - 1)) ≤ 0
    · by_cases c11 : (v 28 b) = 2
      · rw [f_goesOn, if_pos c8, if_pos c10, if_pos c11]
        exact ((upv_nk (by omega)).trans ((upv_nk (by omega)).trans ((upv_nk (by omega)).trans rfl)))
      · rw [f_goesOn, if_pos c8, if_pos c10, if_neg c11]
        exact (fr_l_goesOn_75 (((2 : Int) - 0).toNat + 1) 0 (upv (upv v 30 b ((v 30 b) - 1)) 28 b 1) fk fi (by omega)).trans ((upv_nk (by omega)).trans ((upv_nk (by omega)).trans rfl))
    · rw [f_goesOn, if_pos c8, if_neg c10]
      exact ((upv_nk (by omega)).trans rfl)
  · by_cases c12 : (v 28 b) = 2
    · by_cases c14 : (((v 30 b) - 1)) ≤ 0
      · rw [f_goesOn, if_neg c8, if_pos c12, if_pos c14]
        exact ((upv_nk (by omega)).trans ((upv_nk (by omega)).trans ((upv_nk (by omega)).trans rfl)))
      · rw [f_goesOn, if_neg c8, if_pos c12, if_neg c14]
        exact ((upv_nk (by omega)).trans rfl)
    · rw [f_goesOn, if_neg c8, if_neg c12]
      try rfl
/-- what counts: brews and queue, filled orders, deliveries, pitches, and what lies behind the last brew and order -/
def CI (v : Vw) : Prop := v 5 0 + v 7 0 ≤ 30 ∧ v 11 0 + fl v ≤ 20 ∧ v 9 0 + dl v ≤ 30 + 4 * v 11 0 ∧ v 4 0 + 2 * pq v ≤ 60 ∧ (∀ b, v 5 0 ≤ b → v 28 b = 0) ∧ (∀ o, v 6 0 ≤ o → v 33 o = 0 ∧ v 34 o = 0)
theorem CI_fr {v w : Vw} (h : ∀ k, k = 4 ∨ k = 5 ∨ k = 6 ∨ k = 7 ∨ k = 9 ∨ k = 11 ∨ k = 28 ∨ k = 33 ∨ k = 34 → ∀ i, w k i = v k i) (hC : CI v) : CI w := by
  obtain ⟨h1, h2, h3, h4, h5, h6⟩ := hC
  have e28 : ∀ i, w 28 i = v 28 i := h 28 (by decide)
  have e34 : ∀ i, w 34 i = v 34 i := h 34 (by decide)
  refine ⟨?_, ?_, ?_, ?_, ?_, ?_⟩
  · rw [h 5 (by decide), h 7 (by decide)]; exact h1
  · rw [h 11 (by decide), fl_congr e34]; exact h2
  · rw [h 11 (by decide), h 9 (by decide), dl_congr e28]; exact h3
  · rw [h 4 (by decide), pq_congr e28]; exact h4
  · intro b hb
    rw [h 5 (by decide)] at hb
    rw [e28]
    exact h5 b hb
  · intro o ho
    rw [h 6 (by decide)] at ho
    rw [e34, h 33 (by decide)]
    exact h6 o ho
theorem g_l_goesOn_75 (b : Int) : ∀ (n : Nat) (k : Int) (v : Vw), k ≤ 2 → v 4 0 ≤ l_goesOn_75 b n k v 4 0 ∧ l_goesOn_75 b n k v 4 0 ≤ v 4 0 + (2 - k) := by
  intro n
  induction n with
  | zero => exact fun k v h => ⟨Int.le_refl _, by show v 4 0 ≤ _; omega⟩
  | succ n ih =>
    intro k v hk
    rw [l_goesOn_75]
    split
    · omega
    · split
      · omega
      · have g := ih (k + 1) (upv (upv (upv (upv v 22 (v 4 0) (v 12 (v 26 b))) 23 (v 4 0) (v 27 b + 1)) 24 (v 4 0) (v 8 0)) 4 0 (v 4 0 + 1)) (by omega)
        rw [upv_eq] at g
        omega
theorem g_goesOn {b : Int} {v : Vw} : (∀ i, i ≠ b → f_goesOn b v 28 i = v 28 i) ∧ ((f_goesOn b v 28 b = v 28 b ∧ f_goesOn b v 4 0 = v 4 0) ∨ (v 28 b = 2 ∧ f_goesOn b v 28 b = 3 ∧ f_goesOn b v 4 0 = v 4 0) ∨ (v 28 b = 0 ∧ f_goesOn b v 28 b = 1 ∧ v 4 0 ≤ f_goesOn b v 4 0 ∧ f_goesOn b v 4 0 ≤ v 4 0 + 2)) := by
  have key : ∀ x, (∀ i, i ≠ b → l_goesOn_75 b (((2 : Int) - 0).toNat + 1) 0 (upv (upv v 30 b x) 28 b 1) 28 i = v 28 i) ∧ (l_goesOn_75 b (((2 : Int) - 0).toNat + 1) 0 (upv (upv v 30 b x) 28 b 1) 28 b = 1 ∧ v 4 0 ≤ l_goesOn_75 b (((2 : Int) - 0).toNat + 1) 0 (upv (upv v 30 b x) 28 b 1) 4 0 ∧ l_goesOn_75 b (((2 : Int) - 0).toNat + 1) 0 (upv (upv v 30 b x) 28 b 1) 4 0 ≤ v 4 0 + 2) := by
    intro x
    have g := g_l_goesOn_75 b (((2 : Int) - 0).toNat + 1) 0 (upv (upv v 30 b x) 28 b 1) (by omega)
    rw [show upv (upv v 30 b x) 28 b 1 4 0 = v 4 0 from rfl] at g
    refine ⟨fun i hi => ?_, ?_, g.1, by omega⟩
    · rw [fr_l_goesOn_75 _ _ _ 28 i (by decide), upv_ni hi, upv_nk (by decide)]
    · rw [fr_l_goesOn_75 _ _ _ 28 b (by decide), upv_eq]
  have key2 : ∀ x y, (∀ i, i ≠ b → upv (upv (upv v 30 b x) 28 b 3) 31 b y 28 i = v 28 i) ∧ (upv (upv (upv v 30 b x) 28 b 3) 31 b y 28 b = 3) := fun x y => ⟨fun i hi => by rw [upv_nk (by decide), upv_ni hi, upv_nk (by decide)], by rw [upv_nk (by decide), upv_eq]⟩
  unfold f_goesOn
  by_cases c1 : v 28 b = 0
  · rw [if_pos c1]
    by_cases c2 : v 30 b - 1 ≤ 0
    · rw [if_pos c2]
      split
      · omega
      · exact ⟨(key _).1, Or.inr (Or.inr ⟨c1, (key _).2⟩)⟩
    · rw [if_neg c2]
      exact ⟨fun i _ => upv_nk (by decide), Or.inl ⟨upv_nk (by decide), rfl⟩⟩
  · rw [if_neg c1]
    by_cases c3 : v 28 b = 2
    · rw [if_pos c3]
      by_cases c2 : v 30 b - 1 ≤ 0
      · rw [if_pos c2]
        exact ⟨(key2 _ _).1, Or.inr (Or.inl ⟨c3, (key2 _ _).2, rfl⟩)⟩
      · rw [if_neg c2]
        exact ⟨fun i _ => upv_nk (by decide), Or.inl ⟨upv_nk (by decide), rfl⟩⟩
    · rw [if_neg c3]
      exact ⟨fun _ _ => rfl, Or.inl ⟨rfl, rfl⟩⟩
theorem CI_goesOn {b : Int} {v : Vw} (hb : 0 ≤ b ∧ b ≤ 29) (hb5 : b < v 5 0) (hC : CI v) : CI (f_goesOn b v) := by
  obtain ⟨h1, h2, h3, h4, h5, h6⟩ := hC
  have g := g_goesOn (b := b) (v := v)
  have e1 := dl_one (v := v) (w := f_goesOn b v) hb g.1
  have e2 := pq_one (v := v) (w := f_goesOn b v) hb g.1
  have a5 : f_goesOn b v 5 0 = v 5 0 := fr_goesOn 5 0 (by decide)
  have a7 : f_goesOn b v 7 0 = v 7 0 := fr_goesOn 7 0 (by decide)
  have a9 : f_goesOn b v 9 0 = v 9 0 := fr_goesOn 9 0 (by decide)
  have a11 : f_goesOn b v 11 0 = v 11 0 := fr_goesOn 11 0 (by decide)
  have d1 : dlF (f_goesOn b v) b = dlF v b := by
    unfold dlF
    rcases g.2 with g | g | g
    · rw [g.1]
    · rw [g.1, g.2.1]; rfl
    · rw [g.1, g.2.1]; rfl
  have d2 : f_goesOn b v 4 0 + 2 * pqF (f_goesOn b v) b ≤ v 4 0 + 2 * pqF v b := by
    unfold pqF
    rcases g.2 with g | g | g
    · rw [g.1, g.2]; omega
    · rw [g.1, g.2.1, g.2.2, if_neg (by decide), if_neg (by decide)]; omega
    · rw [g.1, g.2.1, if_neg (by decide), if_pos rfl]; omega
  refine ⟨by omega, ?_, by omega, by omega, ?_, ?_⟩
  · rw [fl_congr (fun i => fr_goesOn 34 i (by decide)), a11]
    exact h2
  · intro i hi
    rw [a5] at hi
    rw [g.1 i (by omega)]
    exact h5 i hi
  · intro i hi
    rw [fr_goesOn 6 0 (by decide)] at hi
    rw [fr_goesOn 33 i (by decide), fr_goesOn 34 i (by decide)]
    exact h6 i hi
theorem g_movesOn {b : Int} {v : Vw} : (∀ i, i ≠ b → f_movesOn b v 28 i = v 28 i) ∧ (f_movesOn b v 28 b = v 28 b ∨ (v 28 b = 1 ∧ (f_movesOn b v 28 b = 2 ∨ f_movesOn b v 28 b = 3))) := by
  have key : ∀ s, (∀ i, i ≠ b → upv (upv (upv (upv (upv (upv (f_dirties (v 29 b) v) 29 b (f_clean 1 v)) 15 (f_clean 1 v) 1) 16 (f_clean 1 v) b) 30 b (v 14 (v 26 b))) 28 b s) 31 b 20 28 i = v 28 i) ∧ upv (upv (upv (upv (upv (upv (f_dirties (v 29 b) v) 29 b (f_clean 1 v)) 15 (f_clean 1 v) 1) 16 (f_clean 1 v) b) 30 b (v 14 (v 26 b))) 28 b s) 31 b 20 28 b = s := fun s => ⟨fun i hi => by rw [upv_nk (by decide), upv_ni hi, upv_nk (by decide), upv_nk (by decide), upv_nk (by decide), upv_nk (by decide), fr_dirties 28 i (by decide)], by rw [upv_nk (by decide), upv_eq]⟩
  unfold f_movesOn
  by_cases c1 : v 28 b = 1
  · rw [if_pos c1]
    split
    · exact ⟨fun _ _ => rfl, Or.inl rfl⟩
    · split
      · exact ⟨(key 3).1, Or.inr ⟨c1, Or.inr (key 3).2⟩⟩
      · exact ⟨(key 2).1, Or.inr ⟨c1, Or.inl (key 2).2⟩⟩
  · rw [if_neg c1]
    exact ⟨fun _ _ => rfl, Or.inl rfl⟩
theorem CI_movesOn {b : Int} {v : Vw} (hb : 0 ≤ b ∧ b ≤ 29) (hb5 : b < v 5 0) (hC : CI v) : CI (f_movesOn b v) := by
  obtain ⟨h1, h2, h3, h4, h5, h6⟩ := hC
  have g := g_movesOn (b := b) (v := v)
  have e1 := dl_one (v := v) (w := f_movesOn b v) hb g.1
  have e2 := pq_one (v := v) (w := f_movesOn b v) hb g.1
  have a5 : f_movesOn b v 5 0 = v 5 0 := fr_movesOn 5 0 (by decide)
  have a7 : f_movesOn b v 7 0 = v 7 0 := fr_movesOn 7 0 (by decide)
  have a4 : f_movesOn b v 4 0 = v 4 0 := fr_movesOn 4 0 (by decide)
  have a9 : f_movesOn b v 9 0 = v 9 0 := fr_movesOn 9 0 (by decide)
  have a11 : f_movesOn b v 11 0 = v 11 0 := fr_movesOn 11 0 (by decide)
  have d1 : dlF (f_movesOn b v) b = dlF v b := by
    unfold dlF
    rcases g.2 with g | ⟨g1, g | g⟩
    · rw [g]
    · rw [g1, g]; rfl
    · rw [g1, g]; rfl
  have d2 : pqF (f_movesOn b v) b = pqF v b := by
    unfold pqF
    rcases g.2 with g | ⟨g1, g | g⟩
    · rw [g]
    · rw [g1, g]; rfl
    · rw [g1, g]; rfl
  refine ⟨by omega, ?_, by omega, by omega, ?_, ?_⟩
  · rw [fl_congr (fun i => fr_movesOn 34 i (by decide)), a11]
    exact h2
  · intro i hi
    rw [a5] at hi
    rw [g.1 i (by omega)]
    exact h5 i hi
  · intro i hi
    rw [fr_movesOn 6 0 (by decide)] at hi
    rw [fr_movesOn 33 i (by decide), fr_movesOn 34 i (by decide)]
    exact h6 i hi
theorem t_l_takesOut_11 {was : Int} : ∀ (n : Nat) (k : Int) (v : Vw), (v 7 0 - k).toNat < n → (l_takesOut_11 was n k v).1 = was ∧ (l_takesOut_11 was n k v).2 7 0 = v 7 0 - 1 := by
  intro n
  induction n with
  | zero => exact fun _ _ h => absurd h (Nat.not_lt_zero _)
  | succ n ih =>
    intro k v hm
    rw [l_takesOut_11]
    by_cases c : v 7 0 ≤ k
    · rw [if_pos c]
      exact ⟨rfl, (upv_eq v 7 0 (v 7 0 - 1) :)⟩
    · rw [if_neg c]
      exact ih (k + 1) (upv v 39 (k - 1) (v 39 k)) (by show (v 7 0 - (k + 1)).toNat < n; omega)
theorem t_takesOut (k : Int) (v : Vw) : (f_takesOut k v).1 = v 39 k ∧ (f_takesOut k v).2 7 0 = v 7 0 - 1 := t_l_takesOut_11 ((v 7 0 - (k + 1)).toNat + 1) (k + 1) v (by omega)
theorem fp_congr {v w : Vw} {s : Int} (h : ∀ k, k = 4 ∨ k = 8 ∨ k = 22 ∨ k = 24 ∨ k = 25 → ∀ i, w k i = v k i) : f_firstPitch s w = f_firstPitch s v := by
  have h4 := h 4 (by decide) 0
  have key : ∀ (n : Nat) (p : Int), l_firstPitch_2 s w n p = l_firstPitch_2 s v n p := by
    intro n
    induction n with
    | zero => exact fun _ => rfl
    | succ n ih =>
      intro p
      rw [l_firstPitch_2, l_firstPitch_2, ih]
      unfold f_isUsable
      rw [h4, h 25 (by decide), h 22 (by decide), h 24 (by decide), h 8 (by decide)]
  unfold f_firstPitch
  rw [key, h4]
theorem c_hasYeast {s : Int} {v : Vw} (h : ¬ f_hasYeast s v = 0) (h1 : f_firstPitch s v = -1) : 1 ≤ v 21 s := by
  unfold f_hasYeast at h
  by_cases h2 : 0 < v 21 s
  · omega
  · rw [if_neg h2, if_pos h1] at h
    exact absurd rfl h
theorem hy_of {v w : Vw} {r : Int} (hf : ∀ k i, k ≠ 0 → k ≠ 39 → k ≠ 7 → w k i = v k i) (h : ¬ f_hasYeast (v 12 r) v = 0) : f_firstPitch (w 12 r) w = -1 → 1 ≤ w 21 (w 12 r) := by
  intro h1
  rw [hf 12 r (by decide) (by decide) (by decide)] at h1 ⊢
  rw [fp_congr (v := v) (fun k hk i => hf k i (by omega) (by omega) (by omega))] at h1
  rw [hf 21 _ (by decide) (by decide) (by decide)]
  exact c_hasYeast h h1
theorem hy_takes {k : Int} {v : Vw} (h : ¬ f_hasYeast (v 12 (v 39 k)) v = 0) : f_firstPitch ((f_takesOut k v).2 12 (f_takesOut k v).1) (f_takesOut k v).2 = -1 → 1 ≤ (f_takesOut k v).2 21 ((f_takesOut k v).2 12 (f_takesOut k v).1) := by
  rw [(t_takesOut k v).1]
  exact hy_of (fun k i _ h1 h2 => fr_takesOut k i ⟨h2, h1⟩) h
theorem b_starts (r w : Int) (v : Vw) : f_starts r w v 5 0 = v 5 0 + 1 ∧ (∀ i, i ≠ v 5 0 → f_starts r w v 28 i = v 28 i) ∧ f_starts r w v 28 (v 5 0) = 0 := by
  unfold f_starts
  repeat' split
  all_goals exact ⟨upv_eq _ _ _ _, fun i hi => by simp [upv, hi], by simp [upv]⟩
/-- a brew that starts leaves what counts -/
theorem CI_starts {r w : Int} {v : Vw} (hC : CI v) (hq : v 5 0 + 1 + v 7 0 ≤ 30) : CI (f_starts r w v) := by
  obtain ⟨h1, h2, h3, h4, h5, h6⟩ := hC
  obtain ⟨b1, b2, b3⟩ := b_starts r w v
  have e28 : ∀ i, f_starts r w v 28 i = v 28 i := fun i => by
    by_cases e : i = v 5 0
    · rw [e, b3, h5 _ (Int.le_refl _)]
    · exact b2 i e
  have a7 : f_starts r w v 7 0 = v 7 0 := fr_starts 7 0 (by decide)
  have a4 : f_starts r w v 4 0 = v 4 0 := fr_starts 4 0 (by decide)
  have a9 : f_starts r w v 9 0 = v 9 0 := fr_starts 9 0 (by decide)
  have a11 : f_starts r w v 11 0 = v 11 0 := fr_starts 11 0 (by decide)
  refine ⟨by omega, ?_, ?_, ?_, ?_, ?_⟩
  · rw [fl_congr (fun i => fr_starts 34 i (by decide)), a11]; exact h2
  · rw [dl_congr e28, a11, a9]; exact h3
  · rw [pq_congr e28, a4]; exact h4
  · intro i hi
    rw [e28]
    exact h5 i (by omega)
  · intro i hi
    rw [fr_starts 6 0 (by decide)] at hi
    rw [fr_starts 33 i (by decide), fr_starts 34 i (by decide)]
    exact h6 i hi
theorem CI_takes {k : Int} {v : Vw} (hC : CI v) : CI (f_takesOut k v).2 := by
  obtain ⟨h1, h2, h3, h4, h5, h6⟩ := hC
  have t := t_takesOut k v
  have a5 : (f_takesOut k v).2 5 0 = v 5 0 := fr_takesOut 5 0 (by decide)
  refine ⟨by omega, ?_, ?_, ?_, ?_, ?_⟩
  · rw [fl_congr (fun i => fr_takesOut 34 i (by decide)), fr_takesOut 11 0 (by decide)]; exact h2
  · rw [dl_congr (fun i => fr_takesOut 28 i (by decide)), fr_takesOut 11 0 (by decide), fr_takesOut 9 0 (by decide)]; exact h3
  · rw [pq_congr (fun i => fr_takesOut 28 i (by decide)), fr_takesOut 4 0 (by decide)]; exact h4
  · intro i hi
    rw [fr_takesOut 28 i (by decide)]
    exact h5 i (by omega)
  · intro i hi
    rw [fr_takesOut 6 0 (by decide)] at hi
    rw [fr_takesOut 33 i (by decide), fr_takesOut 34 i (by decide)]
    exact h6 i hi
def f_brew (a b : Int) (v : Vw) : Int × Vw :=
  if (f_isRecipe a v) = 0 then
    ((f_fails 1 v).1, (f_fails 1 v).2)
  else
    if (f_isVessel b v) = 0 then
      ((f_fails 1 v).1, (f_fails 1 v).2)
    else
      if (v 20 b) = 0 then
        if (v 15 b) = 0 then
          if ((v 5 0) + (v 7 0)) < 30 then
            if (f_hasYeast (v 12 a) v) = 0 then
              ((f_fails 4 v).1, (f_fails 4 v).2)
            else
              ((((f_starts a b (upv v 0 0 0)) 5 0) - 1), (f_starts a b (upv v 0 0 0)))
          else
            ((f_fails 3 v).1, (f_fails 3 v).2)
        else
          ((f_fails 3 v).1, (f_fails 3 v).2)
      else
        ((f_fails 2 v).1, (f_fails 2 v).2)
theorem i_brew {v : Vw} {T E : Int} {a b : Int} (hI : IM v T E) (ha : -2147483648 ≤ a ∧ a < 2147483648) (hb : -2147483648 ≤ b ∧ b < 2147483648) (hC1 : v 5 0 + v 7 0 ≤ 30) : IM (f_brew a b v).2 T (E) := by
  have hT := hI.1
  have u5 : 0 ≤ v 5 0 ∧ v 5 0 ≤ 30 := hI.2 5 0
  have u7 : 0 ≤ v 7 0 ∧ v 7 0 ≤ 6 := hI.2 7 0
  have q1 : 0 ≤ v 1 0 ∧ v 1 0 ≤ 5 := hI.2 1 0
  have q2 : 0 ≤ (f_isRecipe a v) ∧ (f_isRecipe a v) ≤ 1 := r_isRecipe
  have q3 : ((f_isRecipe a v) = 1 ∧ 0 ≤ a ∧ a < (v 1 0)) ∨ ((f_isRecipe a v) = 0 ∧ ¬ (0 ≤ a ∧ a < (v 1 0))) := c_isRecipe a v
  have q4 : 0 ≤ (v 1 0) ∧ (v 1 0) ≤ 5 := hI.2 1 0
  by_cases c5 : (f_isRecipe a v) = 0
  · have hJ6 := (i_fails (c := 1) hI (by show 0 ≤ 1 ∧ 1 ≤ 4; omega))
    rw [f_brew, if_pos c5]
    exact hJ6
  · have q7 : 0 ≤ v 2 0 ∧ v 2 0 ≤ 8 := hI.2 2 0
    have q8 : 0 ≤ (f_isVessel b v) ∧ (f_isVessel b v) ≤ 1 := r_isVessel
    have q9 : ((f_isVessel b v) = 1 ∧ 0 ≤ b ∧ b < (v 2 0)) ∨ ((f_isVessel b v) = 0 ∧ ¬ (0 ≤ b ∧ b < (v 2 0))) := c_isVessel b v
    have q10 : 0 ≤ (v 2 0) ∧ (v 2 0) ≤ 8 := hI.2 2 0
    by_cases c11 : (f_isVessel b v) = 0
    · have hJ12 := (i_fails (c := 1) hI (by show 0 ≤ 1 ∧ 1 ≤ 4; omega))
      rw [f_brew, if_neg c5, if_pos c11]
      exact hJ12
    · have q13 : 0 ≤ v 20 b ∧ v 20 b ≤ 1 := hI.2 20 b
      by_cases c14 : (v 20 b) = 0
      · have q15 : 0 ≤ v 15 b ∧ v 15 b ≤ 3 := hI.2 15 b
        by_cases c16 : (v 15 b) = 0
        · by_cases c17 : ((v 5 0) + (v 7 0)) < 30
          · have q18 : 0 ≤ v 12 a ∧ v 12 a ≤ 3 := hI.2 12 a
            have q19 : 0 ≤ (f_hasYeast (v 12 a) v) ∧ (f_hasYeast (v 12 a) v) ≤ 1 := r_hasYeast
            by_cases c20 : (f_hasYeast (v 12 a) v) = 0
            · have hJ21 := (i_fails (c := 4) hI (by show 0 ≤ 4 ∧ 4 ≤ 4; omega))
              rw [f_brew, if_neg c5, if_neg c11, if_pos c14, if_pos c16, if_pos c17, if_pos c20]
              exact hJ21
            · have hJ22 := (i_starts (r := a) (w := b) (hI.up 0 0 0 (by show 0 ≤ 0 ∧ 0 ≤ 4; omega)) (by show 0 ≤ a ∧ a ≤ 4; omega) (by show 0 ≤ b ∧ b ≤ 7; omega) (by show (v 5 0) ≤ 29; omega) (by first | exact hy_takes (by assumption) | exact hy_of (fun k i h _ _ => upv_nk h) (by assumption)))
              have q23 := (b_starts a b (upv v 0 0 0)).1
              have q24 : 0 ≤ (f_starts a b (upv v 0 0 0)) 5 0 ∧ (f_starts a b (upv v 0 0 0)) 5 0 ≤ 30 := hJ22.2 5 0
              rw [f_brew, if_neg c5, if_neg c11, if_pos c14, if_pos c16, if_pos c17, if_neg c20]
              exact hJ22
          · have hJ25 := (i_fails (c := 3) hI (by show 0 ≤ 3 ∧ 3 ≤ 4; omega))
            rw [f_brew, if_neg c5, if_neg c11, if_pos c14, if_pos c16, if_neg c17]
            exact hJ25
        · have hJ26 := (i_fails (c := 3) hI (by show 0 ≤ 3 ∧ 3 ≤ 4; omega))
          rw [f_brew, if_neg c5, if_neg c11, if_pos c14, if_neg c16]
          exact hJ26
      · have hJ27 := (i_fails (c := 2) hI (by show 0 ≤ 2 ∧ 2 ≤ 4; omega))
        rw [f_brew, if_neg c5, if_neg c11, if_neg c14]
        exact hJ27
theorem fr_brew {a b : Int} {v : Vw} (fk : Nat) (fi : Int) (hk : fk ≠ 0 ∧ fk ≠ 5 ∧ fk ≠ 15 ∧ fk ≠ 16 ∧ fk ≠ 19 ∧ fk ≠ 21 ∧ fk ≠ 25 ∧ fk ≠ 26 ∧ fk ≠ 27 ∧ fk ≠ 28 ∧ fk ≠ 29 ∧ fk ≠ 30) : (f_brew a b v).2 fk fi = v fk fi := by
  by_cases c5 : (f_isRecipe a v) = 0
  · rw [f_brew, if_pos c5]
    exact ((fr_fails (c := 1) (v := v) fk fi (by omega)).trans rfl)
  · by_cases c11 : (f_isVessel b v) = 0
    · rw [f_brew, if_neg c5, if_pos c11]
      exact ((fr_fails (c := 1) (v := v) fk fi (by omega)).trans rfl)
    · by_cases c14 : (v 20 b) = 0
      · by_cases c16 : (v 15 b) = 0
        · by_cases c17 : ((v 5 0) + (v 7 0)) < 30
          · by_cases c20 : (f_hasYeast (v 12 a) v) = 0
            · rw [f_brew, if_neg c5, if_neg c11, if_pos c14, if_pos c16, if_pos c17, if_pos c20]
              exact ((fr_fails (c := 4) (v := v) fk fi (by omega)).trans rfl)
            · rw [f_brew, if_neg c5, if_neg c11, if_pos c14, if_pos c16, if_pos c17, if_neg c20]
              exact ((fr_starts (r := a) (w := b) (v := (upv v 0 0 0)) fk fi (by omega)).trans ((upv_nk (by omega)).trans rfl))
          · rw [f_brew, if_neg c5, if_neg c11, if_pos c14, if_pos c16, if_neg c17]
            exact ((fr_fails (c := 3) (v := v) fk fi (by omega)).trans rfl)
        · rw [f_brew, if_neg c5, if_neg c11, if_pos c14, if_neg c16]
          exact ((fr_fails (c := 3) (v := v) fk fi (by omega)).trans rfl)
      · rw [f_brew, if_neg c5, if_neg c11, if_neg c14]
        exact ((fr_fails (c := 2) (v := v) fk fi (by omega)).trans rfl)
def l_startsQueue_2 : Nat → Int → Vw → Vw
  | 0, k, v => v
  | n + 1, k, v =>
    if (v 7 0) ≤ k then
      v
    else
      if (f_clean 0 v) = (-1) then
        v
      else
        if (f_hasYeast (v 12 (v 39 k)) v) = 0 then
          (l_startsQueue_2 n (k + 1) v)
        else
          (l_startsQueue_2 n k (f_starts ((f_takesOut k v).1) (f_clean 0 v) ((f_takesOut k v).2)))
theorem fr_l_startsQueue_2 : ∀ (n : Nat) (k : Int) (v : Vw) (fk : Nat) (fi : Int) (hk : fk ≠ 5 ∧ fk ≠ 7 ∧ fk ≠ 15 ∧ fk ≠ 16 ∧ fk ≠ 19 ∧ fk ≠ 21 ∧ fk ≠ 25 ∧ fk ≠ 26 ∧ fk ≠ 27 ∧ fk ≠ 28 ∧ fk ≠ 29 ∧ fk ≠ 30 ∧ fk ≠ 39), (l_startsQueue_2 n k v) fk fi = v fk fi := by
  intro n k v fk fi hk
  induction n generalizing k v with
  | zero => rfl
  | succ n ih =>
    by_cases c1 : (v 7 0) ≤ k
    · rw [l_startsQueue_2, if_pos c1]
      try rfl
    · by_cases c3 : (f_clean 0 v) = (-1)
      · rw [l_startsQueue_2, if_neg c1, if_pos c3]
        try rfl
      · by_cases c7 : (f_hasYeast (v 12 (v 39 k)) v) = 0
        · rw [l_startsQueue_2, if_neg c1, if_neg c3, if_pos c7]
          exact (ih (k + 1) v).trans rfl
        · rw [l_startsQueue_2, if_neg c1, if_neg c3, if_neg c7]
          exact (ih k (f_starts ((f_takesOut k v).1) (f_clean 0 v) ((f_takesOut k v).2))).trans ((fr_starts (r := (f_takesOut k v).1) (w := (f_clean 0 v)) (v := ((f_takesOut k v).2)) fk fi (by omega)).trans ((fr_takesOut (i := k) (v := v) fk fi (by omega)).trans rfl))
theorem i_l_startsQueue_2 {T E : Int} : ∀ (n : Nat) (k : Int) (v : Vw) (hI : IM v T E) (hk : 0 ≤ k ∧ k ≤ 100) (hBQ : v 5 0 + v 7 0 ≤ 30), IM (l_startsQueue_2 n k v) T (E) := by
  intro n
  induction n with
  | zero =>
    intro k v hI hk hBQ
    have hT := hI.1
    exact hI
  | succ n ih =>
    intro k v hI hk hBQ
    have hT := hI.1
    have u5 : 0 ≤ v 5 0 ∧ v 5 0 ≤ 30 := hI.2 5 0
    have u7 : 0 ≤ v 7 0 ∧ v 7 0 ≤ 6 := hI.2 7 0
    by_cases c1 : (v 7 0) ≤ k
    · rw [l_startsQueue_2, if_pos c1]
      exact hI
    · have q2 := r_clean hI 0
      by_cases c3 : (f_clean 0 v) = (-1)
      · rw [l_startsQueue_2, if_neg c1, if_pos c3]
        exact hI
      · have q4 : 0 ≤ v 39 k ∧ v 39 k ≤ 4 := hI.2 39 k
        have q5 : 0 ≤ v 12 (v 39 k) ∧ v 12 (v 39 k) ≤ 3 := hI.2 12 (v 39 k)
        have q6 : 0 ≤ (f_hasYeast (v 12 (v 39 k)) v) ∧ (f_hasYeast (v 12 (v 39 k)) v) ≤ 1 := r_hasYeast
        by_cases c7 : (f_hasYeast (v 12 (v 39 k)) v) = 0
        · rw [l_startsQueue_2, if_neg c1, if_neg c3, if_pos c7]
          exact ih (k + 1) v hI (by show 0 ≤ (k + 1) ∧ (k + 1) ≤ 100; omega) (by show (v 5 0) + (v 7 0) ≤ 30; omega)
        · have hJ8 := (i_takesOut (i := k) hI (by show 0 ≤ k ∧ k < (v 7 0); omega))
          have q9 := t_takesOut k v
          have q10 : ((f_takesOut k v).2) 5 0 = v 5 0 := (fr_takesOut (i := k) (v := v) 5 0 (by decide)).trans rfl
          have q11 : ((f_takesOut k v).2) 12 ((f_takesOut k v).1) = v 12 ((f_takesOut k v).1) := (fr_takesOut (i := k) (v := v) 12 ((f_takesOut k v).1) (by decide)).trans rfl
          have q12 : ((f_takesOut k v).2) 21 (v 12 ((f_takesOut k v).1)) = v 21 (v 12 ((f_takesOut k v).1)) := (fr_takesOut (i := k) (v := v) 21 (v 12 ((f_takesOut k v).1)) (by decide)).trans rfl
          have hJ13 := (i_starts (r := (f_takesOut k v).1) (w := (f_clean 0 v)) hJ8 (by show 0 ≤ ((f_takesOut k v).1) ∧ ((f_takesOut k v).1) ≤ 4; omega) (by show 0 ≤ (f_clean 0 v) ∧ (f_clean 0 v) ≤ 7; omega) (by show (((f_takesOut k v).2) 5 0) ≤ 29; omega) (by first | exact hy_takes (by assumption) | exact hy_of (fun k i h _ _ => upv_nk h) (by assumption)))
          have q14 := (b_starts ((f_takesOut k v).1) (f_clean 0 v) ((f_takesOut k v).2)).1
          have q15 : (f_starts ((f_takesOut k v).1) (f_clean 0 v) ((f_takesOut k v).2)) 7 0 = ((f_takesOut k v).2) 7 0 := (fr_starts (r := (f_takesOut k v).1) (w := (f_clean 0 v)) (v := ((f_takesOut k v).2)) 7 0 (by decide)).trans rfl
          rw [l_startsQueue_2, if_neg c1, if_neg c3, if_neg c7]
          exact ih k (f_starts ((f_takesOut k v).1) (f_clean 0 v) ((f_takesOut k v).2)) hJ13 (by show 0 ≤ k ∧ k ≤ 100; omega) (by show ((f_starts ((f_takesOut k v).1) (f_clean 0 v) ((f_takesOut k v).2)) 5 0) + ((f_starts ((f_takesOut k v).1) (f_clean 0 v) ((f_takesOut k v).2)) 7 0) ≤ 30; omega)
def f_startsQueue (v : Vw) : Vw :=
  (l_startsQueue_2 (((v 7 0) - 0).toNat + 1) 0 v)
theorem i_startsQueue {v : Vw} {T E : Int} (hI : IM v T E) (hBQ : v 5 0 + v 7 0 ≤ 30) : IM (f_startsQueue v) T (E) := by
  have hT := hI.1
  have u5 : 0 ≤ v 5 0 ∧ v 5 0 ≤ 30 := hI.2 5 0
  have u7 : 0 ≤ v 7 0 ∧ v 7 0 ≤ 6 := hI.2 7 0
  rw [f_startsQueue]
  exact i_l_startsQueue_2  (((v 7 0) - 0).toNat + 1) 0 v hI (by show 0 ≤ 0 ∧ 0 ≤ 100; omega) (by show (v 5 0) + (v 7 0) ≤ 30; omega)
theorem fr_startsQueue {v : Vw} (fk : Nat) (fi : Int) (hk : fk ≠ 5 ∧ fk ≠ 7 ∧ fk ≠ 15 ∧ fk ≠ 16 ∧ fk ≠ 19 ∧ fk ≠ 21 ∧ fk ≠ 25 ∧ fk ≠ 26 ∧ fk ≠ 27 ∧ fk ≠ 28 ∧ fk ≠ 29 ∧ fk ≠ 30 ∧ fk ≠ 39) : (f_startsQueue v) fk fi = v fk fi := by
  rw [f_startsQueue]
  exact (fr_l_startsQueue_2 (((v 7 0) - 0).toNat + 1) 0 v fk fi (by omega)).trans rfl
/-- what is at work has a day to go; a recipe ferments a day at least; the queue holds recipes; what is cleaned has a day to go -/
def CJ (v : Vw) : Prop := (∀ b, 0 ≤ b → b < v 5 0 → (v 28 b = 0 ∨ v 28 b = 2) → 1 ≤ v 30 b) ∧ (∀ r, 0 ≤ r → r < v 1 0 → 1 ≤ v 13 r) ∧ (∀ k, 0 ≤ k → k < v 7 0 → 0 ≤ v 39 k ∧ v 39 k < v 1 0) ∧ (∀ w, v 15 w = 3 → 1 ≤ v 17 w)
theorem CJ_goesOn {b : Int} {v : Vw} (hb : 0 ≤ b ∧ b < v 5 0) (hJ : CJ v) : CJ (f_goesOn b v) := by
  obtain ⟨h1, h2, h3, h4⟩ := hJ
  refine ⟨?_, ?_, ?_, ?_⟩
  · intro i h0 hi hs
    rw [fr_goesOn 5 0 (by decide)] at hi
    by_cases e : i = b
    · subst e
      have key : ∀ x s, ¬ s = 0 → ¬ s = 2 → ¬ (upv (upv (upv v 30 i x) 28 i s) 31 i 20 28 i = 0 ∨ upv (upv (upv v 30 i x) 28 i s) 31 i 20 28 i = 2) := fun x s a1 a2 => by
        rw [upv_nk (by decide), upv_eq]
        omega
      unfold f_goesOn at hs ⊢
      split at hs <;> rename_i c1
      · rw [if_pos c1]
        split at hs <;> rename_i c2
        · rw [if_pos c2]
          split at hs <;> rename_i c3
          · omega
          · rw [fr_l_goesOn_75 _ _ _ 28 i (by decide), upv_eq] at hs
            omega
        · rw [if_neg c2, upv_eq]
          omega
      · rw [if_neg c1]
        split at hs <;> rename_i c3
        · rw [if_pos c3]
          split at hs <;> rename_i c2
          · exact absurd hs (key _ _ (by decide) (by decide))
          · rw [if_neg c2, upv_eq]
            omega
        · exact absurd hs (by omega)
    · have e30 : f_goesOn b v 30 i = v 30 i := by
        unfold f_goesOn
        repeat' split
        all_goals first
          | rfl
          | exact upv_ni e
          | (rw [upv_nk (by decide), upv_nk (by decide)]; exact upv_ni e)
          | (rw [fr_l_goesOn_75 _ _ _ 30 i (by decide), upv_nk (by decide)]; exact upv_ni e)
      rw [g_goesOn.1 i e] at hs
      rw [e30]
      exact h1 i h0 hi hs
  · intro r h0 hr
    rw [fr_goesOn 1 0 (by decide)] at hr
    rw [fr_goesOn 13 r (by decide)]
    exact h2 r h0 hr
  · intro k h0 hk
    rw [fr_goesOn 7 0 (by decide)] at hk
    rw [fr_goesOn 39 k (by decide), fr_goesOn 1 0 (by decide)]
    exact h3 k h0 hk
  · intro w hw
    rw [fr_goesOn 15 w (by decide)] at hw
    rw [fr_goesOn 17 w (by decide)]
    exact h4 w hw
theorem CJ_movesOn {b : Int} {v : Vw} (h14 : ∀ i, 0 ≤ v 14 i) (hJ : CJ v) : CJ (f_movesOn b v) := by
  obtain ⟨h1, h2, h3, h4⟩ := hJ
  have q := h14 (v 26 b)
  refine ⟨?_, ?_, ?_, ?_⟩
  · intro i h0 hi hs
    rw [fr_movesOn 5 0 (by decide)] at hi
    by_cases e : i = b
    · subst e
      have g := g_movesOn (b := i) (v := v)
      unfold f_movesOn at hs ⊢
      split at hs <;> rename_i c1
      · rw [if_pos c1]
        split at hs <;> rename_i c2
        · omega
        · rw [if_neg c2]
          split at hs <;> rename_i c3
          · rw [upv_nk (by decide), upv_eq] at hs
            omega
          · rw [if_neg c3, upv_nk (by decide), upv_nk (by decide), upv_eq]
            omega
      · rw [if_neg c1]
        exact h1 i h0 hi hs
    · have e30 : f_movesOn b v 30 i = v 30 i := by
        unfold f_movesOn
        repeat' split
        all_goals first
          | rfl
          | (rw [upv_nk (by decide), upv_nk (by decide), upv_ni e, upv_nk (by decide), upv_nk (by decide), upv_nk (by decide), fr_dirties 30 i (by decide)])
      rw [g_movesOn.1 i e] at hs
      rw [e30]
      exact h1 i h0 hi hs
  · intro r h0 hr
    rw [fr_movesOn 1 0 (by decide)] at hr
    rw [fr_movesOn 13 r (by decide)]
    exact h2 r h0 hr
  · intro k h0 hk
    rw [fr_movesOn 7 0 (by decide)] at hk
    rw [fr_movesOn 39 k (by decide), fr_movesOn 1 0 (by decide)]
    exact h3 k h0 hk
  · intro w hw
    rw [fr_movesOn 17 w (by decide)]
    refine h4 w ?_
    unfold f_movesOn f_dirties at hw
    repeat' split at hw
    all_goals first
      | exact hw
      | (simp only [upv] at hw; repeat' split at hw
         all_goals first | exact hw | omega)
theorem CJ_starts {r w : Int} {v : Vw} (hJ : CJ v) (h13 : 1 ≤ v 13 r) : CJ (f_starts r w v) := by
  obtain ⟨h1, h2, h3, h4⟩ := hJ
  refine ⟨?_, ?_, ?_, ?_⟩
  · intro i h0 hi hs
    rw [(b_starts r w v).1] at hi
    by_cases e : i = v 5 0
    · have e30 : f_starts r w v 30 i = v 13 r + 0 ∨ f_starts r w v 30 i = v 13 r + 1 := by
        subst e
        unfold f_starts
        repeat' split
        all_goals first
          | (refine Or.inl ?_; simp only [upv_nk (by decide : ¬ 30 = 5), upv_nk (by decide : ¬ 30 = 19), upv_nk (by decide : ¬ 30 = 16), upv_nk (by decide : ¬ 30 = 15), upv_eq]; done)
          | (refine Or.inr ?_; simp only [upv_nk (by decide : ¬ 30 = 5), upv_nk (by decide : ¬ 30 = 19), upv_nk (by decide : ¬ 30 = 16), upv_nk (by decide : ¬ 30 = 15), upv_eq]; done)
      omega
    · have e30 : f_starts r w v 30 i = v 30 i := by
        unfold f_starts
        repeat' split
        all_goals simp [upv, e]
      rw [(b_starts r w v).2.1 i e] at hs
      rw [e30]
      exact h1 i h0 (by omega) hs
  · intro r' h0 hr
    rw [fr_starts 1 0 (by decide)] at hr
    rw [fr_starts 13 r' (by decide)]
    exact h2 r' h0 hr
  · intro k h0 hk
    rw [fr_starts 7 0 (by decide)] at hk
    rw [fr_starts 39 k (by decide), fr_starts 1 0 (by decide)]
    exact h3 k h0 hk
  · intro x hx
    rw [fr_starts 17 x (by decide)]
    refine h4 x ?_
    unfold f_starts at hx
    repeat' split at hx
    all_goals (simp only [upv] at hx; repeat' split at hx)
    all_goals first | exact hx | omega
theorem q_l_takesOut_11 {was : Int} : ∀ (n : Nat) (k : Int) (v : Vw) (R : Int), (∀ i, 0 ≤ i → i < v 7 0 → 0 ≤ v 39 i ∧ v 39 i < R) → 1 ≤ k → (v 7 0 - k).toNat < n → ∀ i, 0 ≤ i → i < v 7 0 - 1 → 0 ≤ (l_takesOut_11 was n k v).2 39 i ∧ (l_takesOut_11 was n k v).2 39 i < R := by
  intro n
  induction n with
  | zero => exact fun _ _ _ _ _ h => absurd h (Nat.not_lt_zero _)
  | succ n ih =>
    intro k v R h hk hm i h0 hi
    rw [l_takesOut_11]
    by_cases c : v 7 0 ≤ k
    · rw [if_pos c]
      show 0 ≤ upv v 7 0 (v 7 0 - 1) 39 i ∧ upv v 7 0 (v 7 0 - 1) 39 i < R
      rw [upv_nk (by decide)]
      exact h i h0 (by omega)
    · rw [if_neg c]
      refine ih (k + 1) (upv v 39 (k - 1) (v 39 k)) R (fun j j0 j1 => ?_) (by omega) (by show (v 7 0 - (k + 1)).toNat < n; omega) i h0 hi
      have j2 : j < v 7 0 := j1
      by_cases e : j = k - 1
      · rw [e, upv_eq]
        exact h k (by omega) (by omega)
      · rw [upv_ni e]
        exact h j j0 j2
theorem CJ_takes {k : Int} {v : Vw} (hk : 0 ≤ k) (hJ : CJ v) : CJ (f_takesOut k v).2 := by
  obtain ⟨h1, h2, h3, h4⟩ := hJ
  have t := t_takesOut k v
  refine ⟨?_, ?_, ?_, ?_⟩
  · intro i h0 hi hs
    rw [fr_takesOut 5 0 (by decide)] at hi
    rw [fr_takesOut 28 i (by decide)] at hs
    rw [fr_takesOut 30 i (by decide)]
    exact h1 i h0 hi hs
  · intro r h0 hr
    rw [fr_takesOut 1 0 (by decide)] at hr
    rw [fr_takesOut 13 r (by decide)]
    exact h2 r h0 hr
  · intro i h0 hi
    rw [t.2] at hi
    rw [fr_takesOut 1 0 (by decide)]
    exact q_l_takesOut_11 ((v 7 0 - (k + 1)).toNat + 1) (k + 1) v _ h3 (by omega) (by omega) i h0 hi
  · intro w hw
    rw [fr_takesOut 15 w (by decide)] at hw
    rw [fr_takesOut 17 w (by decide)]
    exact h4 w hw
theorem CJ_cleans_36 : ∀ (n : Nat) (busy : Int) (v : Vw), CJ v → CJ (l_cleans_36 n busy v) := by
  intro n
  induction n with
  | zero => exact fun _ _ h => h
  | succ n ih =>
    intro busy v hJ
    have key : ∀ f x, (x = 1 ∨ x = 2) → CJ (upv (upv v 15 f 3) 17 f x) := by
      intro f x hx
      obtain ⟨h1, h2, h3, h4⟩ := hJ
      refine ⟨h1, h2, h3, fun w hw => ?_⟩
      by_cases e : w = f
      · rw [e, upv_eq]
        omega
      · rw [upv_ni e, upv_nk (by decide)]
        rw [upv_nk (by decide), upv_ni e] at hw
        exact h4 w hw
    rw [l_cleans_36]
    repeat' split
    all_goals first | exact hJ | exact ih _ _ (key _ _ (by omega))
