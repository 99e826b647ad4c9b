/-! p41's own facts of the numbers: vessels and the brews in them -/
theorem cl_ok {v : Vw} {t : Int} : ∀ (n : Nat) (w : Int), 0 ≤ w → (v 2 0 - w).toNat < n → l_clean_2 t v n w = -1 ∨ ((0 ≤ l_clean_2 t v n w ∧ l_clean_2 t v n w < v 2 0) ∧ v 20 (l_clean_2 t v n w) = t ∧ v 15 (l_clean_2 t v n w) = 0) := by
  intro n
  induction n with
  | zero => exact fun _ _ h => absurd h (Nat.not_lt_zero _)
  | succ n ih =>
    intro w h0 hn
    rw [l_clean_2]
    by_cases c1 : v 2 0 ≤ w
    · rw [if_pos c1]
      exact Or.inl rfl
    · rw [if_neg c1]
      by_cases c2 : v 20 w = t
      · rw [if_pos c2]
        by_cases c3 : v 15 w = 0
        · rw [if_pos c3]
          exact Or.inr ⟨⟨h0, by omega⟩, c2, c3⟩
        · rw [if_neg c3]
          exact ih (w + 1) (by omega) (by omega)
      · rw [if_neg c2]
        exact ih (w + 1) (by omega) (by omega)
theorem clean_ok (t : Int) (v : Vw) : f_clean t v = -1 ∨ ((0 ≤ f_clean t v ∧ f_clean t v < v 2 0) ∧ v 20 (f_clean t v) = t ∧ v 15 (f_clean t v) = 0) := cl_ok _ 0 (Int.le_refl 0) (by omega)
def PA0 (v : Vw) : Prop :=
  (∀ b, 0 ≤ b → b < v 5 0 → v 28 b ≠ 4 → (0 ≤ v 29 b ∧ v 29 b < v 2 0) ∧ v 15 (v 29 b) = 1 ∧ v 16 (v 29 b) = b ∧ (v 20 (v 29 b) = 1 ↔ (v 28 b = 2 ∨ v 28 b = 3))) ∧
  (∀ w, 0 ≤ w → w < v 2 0 → v 15 w = 1 → (0 ≤ v 16 w ∧ v 16 w < v 5 0) ∧ v 28 (v 16 w) ≠ 4 ∧ v 29 (v 16 w) = w) ∧
  (∀ w, v 2 0 ≤ w → v 15 w = 0) ∧
  (∀ w, v 15 w = 3 → v 17 w ≤ (if v 20 w = 0 then 2 else 1))
/-- what is ready has units -/
def P31 (v : Vw) : Prop := ∀ b, 0 ≤ b → b < v 5 0 → v 28 b = 3 → 1 ≤ v 31 b
def clF (v : Vw) (w : Int) : Int := if v 15 w = 3 then 1 else 0
/-- how many vessels are being cleaned -/
def clc (v : Vw) : Int := cN (clF v) 8
theorem cN_le {f g : Int → Int} : ∀ (n : Nat), (∀ i, 0 ≤ i → i < (n : Int) → f i ≤ g i) → cN f n ≤ cN g n := by
  intro n
  induction n with
  | zero => exact fun _ => Int.le_refl 0
  | succ n ih =>
    intro h
    have h1 := ih (fun i h0 h1 => h i h0 (by omega))
    have h2 := h (n : Int) (by omega) (by omega)
    show cN f n + f (n : Int) ≤ cN g n + g (n : Int)
    omega
theorem clF_nn (v : Vw) (w : Int) : 0 ≤ clF v w := by unfold clF; split <;> omega
theorem clc_le {v w : Vw} (h : ∀ x, w 15 x = 3 → v 15 x = 3) : clc w ≤ clc v := cN_le 8 (fun i _ _ => by
  unfold clF
  by_cases c : w 15 i = 3
  · rw [if_pos c, if_pos (h i c)]
    exact Int.le_refl _
  · rw [if_neg c]
    split <;> omega)
theorem clc_one {v w : Vw} {b : Int} (hb : 0 ≤ b ∧ b ≤ 7) (hne : ∀ i, i ≠ b → w 15 i = v 15 i) : clc w = clc v + (clF w b - clF v b) := by
  unfold clc
  rw [cN_one (f := clF v) (g := clF w) (b := b) (fun i hi => by unfold clF; rw [hne i hi]) hb.1 8, if_pos (by omega)]
theorem PA0.fr {v w : Vw} (h : PA0 v) (F : ∀ k, k = 2 ∨ k = 5 ∨ k = 15 ∨ k = 16 ∨ k = 17 ∨ k = 20 ∨ k = 28 ∨ k = 29 → ∀ i, w k i = v k i) : PA0 w := by
  obtain ⟨a0, a1, a2, a3⟩ := h
  have f2 := F 2 (by omega)
  have f5 := F 5 (by omega)
  have f15 := F 15 (by omega)
  have f16 := F 16 (by omega)
  have f17 := F 17 (by omega)
  have f20 := F 20 (by omega)
  have f28 := F 28 (by omega)
  have f29 := F 29 (by omega)
  refine ⟨fun b => ?_, fun x => ?_, fun x => ?_, fun x => ?_⟩
  · rw [f5, f28, f29, f2, f15, f16, f20]
    exact a0 b
  · rw [f2, f15, f16, f28, f29, f5]
    exact a1 x
  · rw [f2, f15]
    exact a2 x
  · rw [f15, f17, f20]
    exact a3 x
theorem P31.fr {v w : Vw} (h : P31 v) (F : ∀ k, k = 5 ∨ k = 28 ∨ k = 31 → ∀ i, w k i = v k i) : P31 w := fun b => by
  rw [F 5 (by omega), F 28 (by omega), F 31 (by omega)]
  exact h b
/-- a brew's stage alone -/
theorem PA0.st {v w : Vw} (h : PA0 v) (F : ∀ k, k = 2 ∨ k = 5 ∨ k = 15 ∨ k = 16 ∨ k = 17 ∨ k = 20 ∨ k = 29 → ∀ i, w k i = v k i) (G : ∀ b, w 28 b = v 28 b ∨ (v 28 b = 0 ∧ w 28 b = 1) ∨ (v 28 b = 2 ∧ w 28 b = 3)) : PA0 w := by
  obtain ⟨a0, a1, a2, a3⟩ := h
  have f2 := F 2 (by omega)
  have f5 := F 5 (by omega)
  have f15 := F 15 (by omega)
  have f16 := F 16 (by omega)
  have f17 := F 17 (by omega)
  have f20 := F 20 (by omega)
  have f29 := F 29 (by omega)
  refine ⟨fun b b0 b5 b4 => ?_, fun x x0 x2 x1 => ?_, fun x => ?_, fun x => ?_⟩
  · rw [f5] at b5
    have g := G b
    obtain ⟨c0, c1, c2, c3⟩ := a0 b b0 b5 (by omega)
    rw [f29, f2, f15, f16, f20]
    refine ⟨c0, c1, c2, c3.trans ?_⟩
    omega
  · rw [f2] at x2
    rw [f15] at x1
    obtain ⟨c0, c1, c2⟩ := a1 x x0 x2 x1
    have g := G (v 16 x)
    rw [f16, f5, f29]
    exact ⟨c0, by omega, c2⟩
  · rw [f2, f15]
    exact a2 x
  · rw [f15, f17, f20]
    exact a3 x
theorem g31 {b : Int} {v : Vw} : (∀ i, i ≠ b → f_goesOn b v 31 i = v 31 i) ∧ ((f_goesOn b v 28 b = v 28 b ∧ f_goesOn b v 31 b = v 31 b) ∨ (f_goesOn b v 28 b = 1) ∨ f_goesOn b v 31 b = 20) := by
  unfold f_goesOn
  repeat' split
  all_goals refine ⟨fun i hi => ?_, ?_⟩
  all_goals first
    | (rw [fr_l_goesOn_75 _ _ _ _ _ (by decide)]; simp [upv, hi]; done)
    | (rw [fr_l_goesOn_75 _ _ _ 28 _ (by decide), fr_l_goesOn_75 _ _ _ 31 _ (by decide)]; simp [upv]; done)
    | (simp [upv, hi]; done)
    | (simp [upv]; done)
theorem PA0.goes {v : Vw} {b : Int} (h : PA0 v) : PA0 (f_goesOn b v) := by
  obtain ⟨g0, g1⟩ := g_goesOn (b := b) (v := v)
  refine h.st (fun k hk i => fr_goesOn k i (by omega)) (fun x => ?_)
  by_cases e : x = b
  · subst e
    omega
  · exact Or.inl (g0 x e)
theorem P31.goes {v : Vw} {b : Int} (h : P31 v) : P31 (f_goesOn b v) := fun x x0 x5 x3 => by
  rw [fr_goesOn 5 0 (by decide)] at x5
  obtain ⟨g0, g1⟩ := g_goesOn (b := b) (v := v)
  obtain ⟨e0, e1⟩ := g31 (b := b) (v := v)
  by_cases e : x = b
  · subst e
    rcases e1 with e1 | e1 | e1
    · rw [e1.2]
      exact h x x0 x5 (by omega)
    · omega
    · omega
  · rw [e0 x e]
    exact h x x0 x5 (by rw [← g0 x e]; exact x3)
theorem PA0.moves {v : Vw} {b t m s : Int} (h : PA0 v) (hb : 0 ≤ b ∧ b < v 5 0) (h1 : v 28 b ≠ 4) (ht : 0 ≤ t ∧ t < v 2 0) (h20 : v 20 t = 1) (h15 : v 15 t = 0) (hs : s = 2 ∨ s = 3) : PA0 (mV v b (v 29 b) t m s) := by
  obtain ⟨a0, a1, a2, a3⟩ := h
  have e15 : ∀ x, mV v b (v 29 b) t m s 15 x = if x = t then 1 else if x = v 29 b then 2 else v 15 x := fun x => by simp [mV, f_dirties, upv]
  have e16 : ∀ x, mV v b (v 29 b) t m s 16 x = if x = t then b else v 16 x := fun x => by simp [mV, f_dirties, upv]
  have e29 : ∀ x, mV v b (v 29 b) t m s 29 x = if x = b then t else v 29 x := fun x => by simp [mV, f_dirties, upv]
  have e28 : ∀ x, mV v b (v 29 b) t m s 28 x = if x = b then s else v 28 x := fun x => by simp [mV, f_dirties, upv]
  have e2 : mV v b (v 29 b) t m s 2 0 = v 2 0 := by simp [mV, f_dirties, upv]
  have e5 : mV v b (v 29 b) t m s 5 0 = v 5 0 := by simp [mV, f_dirties, upv]
  have e17 : ∀ x, mV v b (v 29 b) t m s 17 x = v 17 x := fun x => by simp [mV, f_dirties, upv]
  have e20 : ∀ x, mV v b (v 29 b) t m s 20 x = v 20 x := fun x => by simp [mV, f_dirties, upv]
  obtain ⟨⟨c0, c1⟩, c2, c3, c4⟩ := a0 b hb.1 hb.2 h1
  have hne : v 29 b ≠ t := fun e => by rw [e] at c2; omega
  refine ⟨fun x x0 x5 x4 => ?_, fun x x0 x2 x1 => ?_, fun x x2 => ?_, fun x x3 => ?_⟩
  · rw [e5] at x5
    rw [e28] at x4
    rw [e2, e29, e28]
    by_cases e : x = b
    · rw [if_pos e, if_pos e, e15, e16, e20, if_pos rfl, if_pos rfl]
      exact ⟨ht, rfl, e.symm, ⟨fun _ => hs, fun _ => h20⟩⟩
    · rw [if_neg e] at x4
      obtain ⟨d0, d1, d2, d3⟩ := a0 x x0 x5 x4
      have n1 : v 29 x ≠ t := fun q => by rw [q] at d1; omega
      have n2 : v 29 x ≠ v 29 b := fun q => e (by rw [← d2, ← c3, q])
      rw [if_neg e, if_neg e, e15, e16, e20, if_neg n1, if_neg n2, if_neg n1]
      exact ⟨d0, d1, d2, d3⟩
  · rw [e2] at x2
    rw [e15] at x1
    rw [e16, e5, e28, e29]
    by_cases e : x = t
    · rw [if_pos e, if_pos rfl, if_pos rfl]
      exact ⟨hb, by omega, e.symm⟩
    · rw [if_neg e] at x1 ⊢
      by_cases e2' : x = v 29 b
      · rw [if_pos e2'] at x1
        omega
      · rw [if_neg e2'] at x1
        obtain ⟨d0, d1, d2⟩ := a1 x x0 x2 x1
        have n1 : v 16 x ≠ b := fun q => e2' (by rw [← d2, q])
        rw [if_neg n1, if_neg n1]
        exact ⟨d0, d1, d2⟩
  · rw [e2] at x2
    rw [e15, if_neg (by omega), if_neg (by omega)]
    exact a2 x x2
  · rw [e15] at x3
    rw [e17, e20]
    by_cases e : x = t
    · rw [if_pos e] at x3
      omega
    · rw [if_neg e] at x3
      by_cases e2' : x = v 29 b
      · rw [if_pos e2'] at x3
        omega
      · rw [if_neg e2'] at x3
        exact a3 x x3
theorem mv_cases {v : Vw} (b : Int) : f_movesOn b v = v ∨ (v 28 b = 1 ∧ f_clean 1 v ≠ -1 ∧ ∃ m s, (s = 2 ∨ s = 3) ∧ f_movesOn b v = mV v b (v 29 b) (f_clean 1 v) m s) := by
  unfold f_movesOn
  by_cases c1 : v 28 b = 1
  · rw [if_pos c1]
    by_cases c2 : f_clean 1 v = -1
    · rw [if_pos c2]
      exact Or.inl rfl
    · rw [if_neg c2]
      by_cases c3 : v 14 (v 26 b) = 0
      · rw [if_pos c3]
        exact Or.inr ⟨c1, c2, _, 3, Or.inr rfl, rfl⟩
      · rw [if_neg c3]
        exact Or.inr ⟨c1, c2, _, 2, Or.inl rfl, rfl⟩
  · rw [if_neg c1]
    exact Or.inl rfl
theorem PA0.movesOn {v : Vw} {b : Int} (h : PA0 v) (hb : 0 ≤ b ∧ b < v 5 0) : PA0 (f_movesOn b v) := by
  rcases mv_cases (v := v) b with e | ⟨c1, c2, m, s, hs, e⟩
  · rw [e]
    exact h
  · rw [e]
    rcases clean_ok 1 v with q | ⟨q1, q2, q3⟩
    · exact absurd q c2
    · exact h.moves hb (by omega) q1 q2 q3 hs
theorem P31.movesOn {v : Vw} {b : Int} (h : P31 v) : P31 (f_movesOn b v) := fun x x0 x5 x3 => by
  rcases mv_cases (v := v) b with e | ⟨c1, c2, m, s, hs, e⟩
  · rw [e] at x3 x5 ⊢
    exact h x x0 x5 x3
  · rw [e] at x3 x5 ⊢
    have e31 : mV v b (v 29 b) (f_clean 1 v) m s 31 x = if x = b then 20 else v 31 x := by simp [mV, f_dirties, upv]
    have e28 : mV v b (v 29 b) (f_clean 1 v) m s 28 x = if x = b then s else v 28 x := by simp [mV, f_dirties, upv]
    have e5 : mV v b (v 29 b) (f_clean 1 v) m s 5 0 = v 5 0 := by simp [mV, f_dirties, upv]
    rw [e31]
    rw [e28] at x3
    rw [e5] at x5
    by_cases q : x = b
    · rw [if_pos q]
      decide
    · rw [if_neg q] at x3 ⊢
      exact h x x0 x5 x3
theorem clc_movesOn {v : Vw} (b : Int) : clc (f_movesOn b v) ≤ clc v := by
  rcases mv_cases (v := v) b with e | ⟨c1, c2, m, s, hs, e⟩
  · rw [e]
    exact Int.le_refl _
  · rw [e]
    refine clc_le (fun x hx => ?_)
    have e15 : mV v b (v 29 b) (f_clean 1 v) m s 15 x = if x = f_clean 1 v then 1 else if x = v 29 b then 2 else v 15 x := by simp [mV, f_dirties, upv]
    rw [e15] at hx
    split at hx
    · omega
    · split at hx
      · omega
      · exact hx
