/-! .. a brew is started, a brew is drained, cleaning -/
theorem stV_f (r w : Int) (v : Vw) : (∀ k, k = 2 ∨ k = 17 ∨ k = 20 ∨ k = 31 ∨ k = 8 ∨ k = 9 ∨ k = 1 ∨ k = 3 ∨ k = 6 ∨ k = 7 ∨ k = 11 ∨ k = 32 ∨ k = 33 ∨ k = 34 ∨ k = 35 ∨ k = 36 ∨ k = 37 ∨ k = 44 ∨ k = 45 ∨ k = 46 → ∀ i, stV r w v k i = v k i) ∧ stV r w v 5 0 = v 5 0 + 1 ∧ (∀ x, stV r w v 28 x = if x = v 5 0 then 0 else v 28 x) ∧ (∀ x, stV r w v 29 x = if x = v 5 0 then w else v 29 x) ∧ (∀ x, stV r w v 15 x = if x = w then 1 else v 15 x) ∧ (∀ x, stV r w v 16 x = if x = w then v 5 0 else v 16 x) := by
  have t : ∀ k, k ≠ 21 ∧ k ≠ 25 → ∀ i, tkV (v 12 r) v k i = v k i := fun k hk i => congrFun (tkV_fr hk) i
  refine ⟨fun k hk i => ?_, ?_, fun x => ?_, fun x => ?_, fun x => ?_, fun x => ?_⟩
  · have q : k ≠ 26 ∧ k ≠ 27 ∧ k ≠ 28 ∧ k ≠ 29 ∧ k ≠ 30 ∧ k ≠ 15 ∧ k ≠ 16 ∧ k ≠ 19 ∧ k ≠ 5 ∧ k ≠ 21 ∧ k ≠ 25 := by omega
    unfold stV
    rw [upv_nk q.2.2.2.2.2.2.2.2.1, upv_nk q.2.2.2.2.2.2.2.1, upv_nk q.2.2.2.2.2.2.1, upv_nk q.2.2.2.2.2.1, upv_nk q.2.2.2.2.1, upv_nk q.2.2.2.1, upv_nk q.2.2.1, upv_nk q.2.1, upv_nk q.1]
    exact t k ⟨q.2.2.2.2.2.2.2.2.2.1, q.2.2.2.2.2.2.2.2.2.2⟩ i
  · simp [stV, upv]
  · simp [stV, upv, t 28 (by decide)]
  · simp [stV, upv, t 29 (by decide)]
  · simp [stV, upv, t 15 (by decide)]
  · simp [stV, upv, t 16 (by decide)]
theorem PA0.starts {v : Vw} {r w : Int} (h : PA0 v) (h5 : 0 ≤ v 5 0) (hw : 0 ≤ w ∧ w < v 2 0) (h20 : v 20 w = 0) (h15 : v 15 w = 0) : PA0 (stV r w v) := by
  obtain ⟨a0, a1, a2, a3⟩ := h
  obtain ⟨F, e5, e28, e29, e15, e16⟩ := stV_f r w v
  have e2 := F 2 (by omega) 0
  refine ⟨fun x x0 x5 x4 => ?_, fun x x0 x2 x1 => ?_, fun x x2 => ?_, fun x x3 => ?_⟩
  · rw [e5] at x5
    rw [e28] at x4
    rw [e2, e29, e28]
    by_cases e : x = v 5 0
    · rw [if_pos e, if_pos e, e15, e16, F 20 (by omega), if_pos rfl, if_pos rfl]
      exact ⟨hw, rfl, e.symm, by omega⟩
    · rw [if_neg e] at x4
      obtain ⟨d0, d1, d2, d3⟩ := a0 x x0 (by omega) x4
      have n1 : v 29 x ≠ w := fun q => by rw [q] at d1; omega
      rw [if_neg e, if_neg e, e15, e16, F 20 (by omega), if_neg n1, if_neg n1]
      exact ⟨d0, d1, d2, d3⟩
  · rw [e2] at x2
    rw [e15] at x1
    rw [e16, e5, e28, e29]
    by_cases e : x = w
    · rw [if_pos e, if_pos rfl, if_pos rfl]
      exact ⟨by omega, by omega, e.symm⟩
    · rw [if_neg e] at x1 ⊢
      obtain ⟨d0, d1, d2⟩ := a1 x x0 x2 x1
      rw [if_neg (by omega), if_neg (by omega)]
      exact ⟨by omega, d1, d2⟩
  · rw [e2] at x2
    rw [e15, if_neg (by omega)]
    exact a2 x x2
  · rw [e15] at x3
    rw [F 17 (by omega), F 20 (by omega)]
    by_cases e : x = w
    · rw [if_pos e] at x3
      omega
    · rw [if_neg e] at x3
      exact a3 x x3
theorem P31.starts {v : Vw} {r w : Int} (h : P31 v) : P31 (stV r w v) := fun x x0 x5 x3 => by
  obtain ⟨F, e5, e28, e29, e15, e16⟩ := stV_f r w v
  rw [e5] at x5
  rw [e28] at x3
  rw [F 31 (by omega)]
  by_cases e : x = v 5 0
  · rw [if_pos e] at x3
    omega
  · rw [if_neg e] at x3
    exact h x x0 (by omega) x3
theorem clc_starts {v : Vw} {r w : Int} : clc (stV r w v) ≤ clc v := clc_le (fun x hx => by
  obtain ⟨F, e5, e28, e29, e15, e16⟩ := stV_f r w v
  rw [e15] at hx
  split at hx
  · omega
  · exact hx)
theorem PA0.dw {v : Vw} {b o y now : Int} (h : PA0 v) : PA0 (dwV v b o y now) := h.fr (fun k hk i => congrFun (dwV_fr (by omega)) i)
theorem PA0.ex {v : Vw} {b : Int} (h : PA0 v) (hb : 0 ≤ b ∧ b < v 5 0) (h1 : v 28 b ≠ 4) : PA0 (exV v b) := by
  obtain ⟨a0, a1, a2, a3⟩ := h
  obtain ⟨e15, e18, e10, e28⟩ := exV_v (v := v) (b := b)
  have F : ∀ k, k ≠ 10 ∧ k ≠ 15 ∧ k ≠ 18 ∧ k ≠ 28 → ∀ i, exV v b k i = v k i := fun k hk i => congrFun (exV_fr hk) i
  obtain ⟨⟨c0, c1⟩, c2, c3, c4⟩ := a0 b hb.1 hb.2 h1
  have e2 := F 2 (by decide) 0
  have e5 := F 5 (by decide) 0
  refine ⟨fun x x0 x5 x4 => ?_, fun x x0 x2 x1 => ?_, fun x x2 => ?_, fun x x3 => ?_⟩
  · rw [e5] at x5
    rw [e28] at x4
    rw [e2, F 29 (by decide), e28, e15, F 16 (by decide), F 20 (by decide)]
    by_cases e : x = b
    · rw [if_pos e] at x4
      exact absurd rfl x4
    · rw [if_neg e] at x4
      obtain ⟨d0, d1, d2, d3⟩ := a0 x x0 x5 x4
      have n2 : v 29 x ≠ v 29 b := fun q => e (by rw [← d2, ← c3, q])
      rw [if_neg e, if_neg n2]
      exact ⟨d0, d1, d2, d3⟩
  · rw [e2] at x2
    rw [e15] at x1
    by_cases e2' : x = v 29 b
    · rw [if_pos e2'] at x1
      omega
    · rw [if_neg e2'] at x1
      obtain ⟨d0, d1, d2⟩ := a1 x x0 x2 x1
      have n1 : v 16 x ≠ b := fun q => e2' (by rw [← d2, q])
      rw [F 16 (by decide), e5, e28, F 29 (by decide), if_neg n1]
      exact ⟨d0, d1, d2⟩
  · rw [e2] at x2
    rw [e15, if_neg (by omega)]
    exact a2 x x2
  · rw [e15] at x3
    rw [F 17 (by decide), F 20 (by decide)]
    by_cases e2' : x = v 29 b
    · rw [if_pos e2'] at x3
      omega
    · rw [if_neg e2'] at x3
      exact a3 x x3
theorem clc_ex {v : Vw} {b : Int} : clc (exV v b) ≤ clc v := clc_le (fun x hx => by
  rw [exV_v.1] at hx
  split at hx
  · omega
  · exact hx)
theorem clc_dw {v : Vw} {b o y now : Int} : clc (dwV v b o y now) ≤ clc v := clc_le (fun x hx => by
  rw [← dwV_fr (v := v) (b := b) (o := o) (y := y) (now := now) (k := 15) (by decide)]
  exact hx)
/-- one step of a draw, as a function -/
def drV (v : Vw) (b o d : Int) : Vw := if v 31 b - d = 0 then exV (dwV v b o (v 31 b - d) d) b else dwV v b o (v 31 b - d) d
theorem drw_step {o r : Int} (n : Nat) (left b : Int) (v : Vw) : l_draws_6 o r (n + 1) left b v = if v 5 0 ≤ b then v else if left ≤ 0 then v else if v 28 b = 3 ∧ v 26 b = r then l_draws_6 o r n (left - (if left ≤ v 31 b then left else v 31 b)) (b + 1) (drV v b o (if left ≤ v 31 b then left else v 31 b)) else l_draws_6 o r n left (b + 1) v := by
  rw [l_draws_6]
  by_cases c1 : v 5 0 ≤ b
  · rw [if_pos c1, if_pos c1]
  · rw [if_neg c1, if_neg c1]
    by_cases c2 : left ≤ 0
    · rw [if_pos c2, if_pos c2]
    · rw [if_neg c2, if_neg c2]
      by_cases c3 : v 28 b = 3
      · rw [if_pos c3]
        by_cases c4 : v 26 b = r
        · have c34 : v 28 b = 3 ∧ v 26 b = r := ⟨c3, c4⟩
          simp only [if_pos c4, if_pos c34]
          have e : ∀ d y, exV (dwV v b o y d) b = f_dirties (v 29 b) (upv (upv (upv (upv (upv (upv v 31 b y) 44 (v 9 0) b) 45 (v 9 0) o) 46 (v 9 0) d) 9 0 (v 9 0 + 1)) 28 b 4) := fun d y => by
            unfold exV
            rw [dwV_fr (k := 29) (by decide)]
            rfl
          by_cases c5 : left ≤ v 31 b
          · simp only [if_pos c5]
            unfold drV
            by_cases c6 : v 31 b - left = 0
            · simp only [if_pos c6, e]
            · simp only [if_neg c6]
              rfl
          · simp only [if_neg c5]
            unfold drV
            by_cases c6 : v 31 b - v 31 b = 0
            · simp only [if_pos c6, e]
            · exact absurd (Int.sub_self _) c6
        · rw [if_neg c4, if_neg (fun q => c4 q.2)]
      · rw [if_neg c3, if_neg (fun q => c3 q.1)]
/-- what a step of a draw leaves and writes -/
theorem drV_f {v : Vw} {b o d : Int} (h9 : 0 ≤ v 9 0) : (∀ k, k ≠ 9 ∧ k ≠ 10 ∧ k ≠ 15 ∧ k ≠ 18 ∧ k ≠ 28 ∧ k ≠ 31 ∧ k ≠ 44 ∧ k ≠ 45 ∧ k ≠ 46 → ∀ i, drV v b o d k i = v k i) ∧ drV v b o d 9 0 = v 9 0 + 1 ∧ (∀ e, e ≠ v 9 0 → drV v b o d 44 e = v 44 e ∧ drV v b o d 45 e = v 45 e ∧ drV v b o d 46 e = v 46 e) ∧ (drV v b o d 45 (v 9 0) = o ∧ drV v b o d 46 (v 9 0) = d) ∧ (∀ x, drV v b o d 31 x = if x = b then v 31 b - d else v 31 x) ∧ (∀ x, drV v b o d 28 x = if x = b ∧ v 31 b - d = 0 then 4 else v 28 x) := by
  have w31 : ∀ x y, dwV v b o y d 31 x = if x = b then y else v 31 x := fun x y => by simp [dwV, upv]
  unfold drV
  by_cases c : v 31 b - d = 0
  · rw [if_pos c]
    have E : ∀ k, k ≠ 10 ∧ k ≠ 15 ∧ k ≠ 18 ∧ k ≠ 28 → ∀ i, exV (dwV v b o (v 31 b - d) d) b k i = dwV v b o (v 31 b - d) d k i := fun k hk i => congrFun (exV_fr hk) i
    obtain ⟨n1, n2, n3, n4, n5⟩ := dwV_n (v := v) (b := b) (o := o) (y := v 31 b - d) (now := d)
    refine ⟨fun k hk i => ?_, ?_, fun e he => ?_, ⟨?_, ?_⟩, fun x => ?_, fun x => ?_⟩
    · rw [E k (by omega)]
      exact congrFun (dwV_fr (by omega)) i
    · rw [E 9 (by decide)]
      exact n4
    · rw [E 44 (by decide), E 45 (by decide), E 46 (by decide)]
      exact dwV_o he
    · rw [E 45 (by decide)]
      exact n2
    · rw [E 46 (by decide)]
      exact n3
    · rw [E 31 (by decide)]
      exact w31 x _
    · rw [exV_v.2.2.2, dwV_fr (k := 28) (by decide)]
      by_cases q : x = b
      · rw [if_pos q, if_pos ⟨q, c⟩]
      · rw [if_neg q, if_neg (fun z => q z.1)]
  · rw [if_neg c]
    obtain ⟨n1, n2, n3, n4, n5⟩ := dwV_n (v := v) (b := b) (o := o) (y := v 31 b - d) (now := d)
    refine ⟨fun k hk i => congrFun (dwV_fr (by omega)) i, n4, fun e he => dwV_o he, ⟨n2, n3⟩, fun x => w31 x _, fun x => ?_⟩
    rw [if_neg (fun z => c z.2)]
    exact congrFun (dwV_fr (by decide)) x
theorem PA0.dr {v : Vw} {b o d : Int} (h : PA0 v) (hb : 0 ≤ b ∧ b < v 5 0) (h1 : v 28 b ≠ 4) : PA0 (drV v b o d) := by
  unfold drV
  split
  · refine h.dw.ex ?_ ?_
    · rw [dwV_fr (k := 5) (by decide)]
      exact hb
    · rw [dwV_fr (k := 28) (by decide)]
      exact h1
  · exact h.dw
theorem clc_dr {v : Vw} {b o d : Int} : clc (drV v b o d) ≤ clc v := by
  unfold drV
  split
  · exact Int.le_trans clc_ex clc_dw
  · exact clc_dw
theorem P31.dr {v : Vw} {b o d : Int} (h : P31 v) (h9 : 0 ≤ v 9 0) (hd : d ≤ v 31 b) : P31 (drV v b o d) := fun x x0 x5 x3 => by
  obtain ⟨F, e9, e44, e45, e31, e28⟩ := drV_f (b := b) (o := o) (d := d) h9
  rw [F 5 (by decide)] at x5
  rw [e28] at x3
  rw [e31]
  by_cases q : x = b
  · rw [if_pos q]
    by_cases c : v 31 b - d = 0
    · rw [if_pos ⟨q, c⟩] at x3
      omega
    · omega
  · rw [if_neg q]
    rw [if_neg (fun z => q z.1)] at x3
    exact h x x0 x5 x3
/-- vessels and brews, all of it -/
def PA (K : Int) (v : Vw) : Prop := PA0 v ∧ P31 v ∧ clc v ≤ K
theorem PA.draws {K : Int} {o r : Int} : ∀ (n : Nat) (left b : Int) (v : Vw), PA K v → 0 ≤ b → 0 ≤ v 9 0 → PA K (l_draws_6 o r n left b v) := by
  intro n
  induction n with
  | zero => exact fun _ _ _ h _ _ => h
  | succ n ih =>
    intro left b v h hb h9
    rw [drw_step]
    by_cases c1 : v 5 0 ≤ b
    · rw [if_pos c1]
      exact h
    · rw [if_neg c1]
      by_cases c2 : left ≤ 0
      · rw [if_pos c2]
        exact h
      · rw [if_neg c2]
        by_cases c3 : v 28 b = 3 ∧ v 26 b = r
        · rw [if_pos c3]
          have hd : (if left ≤ v 31 b then left else v 31 b) ≤ v 31 b := by split <;> omega
          have f9 : drV v b o (if left ≤ v 31 b then left else v 31 b) 9 0 = v 9 0 + 1 := (drV_f h9).2.1
          exact ih _ _ _ ⟨h.1.dr ⟨hb, by omega⟩ (by omega), h.2.1.dr h9 hd, Int.le_trans clc_dr h.2.2⟩ (by omega) (by omega)
        · rw [if_neg c3]
          exact ih _ _ _ h (by omega) h9
/-- cleaning goes on -/
theorem PA0.clean {v : Vw} {w y : Int} (h : PA0 v) (h3 : v 15 w = 3) (hy : y ≤ v 17 w) : PA0 (upv v 17 w y) := by
  obtain ⟨a0, a1, a2, a3⟩ := h
  refine ⟨a0, a1, a2, fun x x3 => ?_⟩
  have x3' : v 15 x = 3 := x3
  have g := a3 x x3'
  show (if (17 : Nat) = 17 ∧ x = w then y else v 17 x) ≤ (if v 20 x = 0 then 2 else 1)
  by_cases e : x = w
  · rw [if_pos ⟨rfl, e⟩]
    rw [e] at g ⊢
    omega
  · rw [if_neg (fun q => e q.2)]
    exact g
theorem PA0.cleaned {v : Vw} {w : Int} (h : PA0 v) (h3 : v 15 w = 3) : PA0 (upv v 15 w 0) := by
  obtain ⟨a0, a1, a2, a3⟩ := h
  have e15 : ∀ x, upv v 15 w 0 15 x = if x = w then 0 else v 15 x := fun x => by simp [upv]
  have F : ∀ k, k ≠ 15 → ∀ i, upv v 15 w 0 k i = v k i := fun k hk i => upv_nk hk
  refine ⟨fun x x0 x5 x4 => ?_, fun x x0 x2 x1 => ?_, fun x x2 => ?_, fun x x3 => ?_⟩
  · rw [F 5 (by decide)] at x5
    rw [F 28 (by decide)] at x4
    obtain ⟨d0, d1, d2, d3⟩ := a0 x x0 x5 x4
    have n1 : v 29 x ≠ w := fun q => by rw [q] at d1; omega
    rw [F 29 (by decide), F 2 (by decide), e15, if_neg n1, F 16 (by decide), F 20 (by decide), F 28 (by decide)]
    exact ⟨d0, d1, d2, d3⟩
  · rw [F 2 (by decide)] at x2
    rw [e15] at x1
    by_cases e : x = w
    · rw [if_pos e] at x1
      omega
    · rw [if_neg e] at x1
      rw [F 16 (by decide), F 5 (by decide), F 28 (by decide), F 29 (by decide)]
      exact a1 x x0 x2 x1
  · rw [F 2 (by decide)] at x2
    rw [e15]
    split
    · rfl
    · exact a2 x x2
  · rw [e15] at x3
    rw [F 17 (by decide), F 20 (by decide)]
    by_cases e : x = w
    · rw [if_pos e] at x3
      omega
    · rw [if_neg e] at x3
      exact a3 x x3
theorem PA.clean12 {K : Int} : ∀ (n : Nat) (w : Int) (v : Vw), PA K v → PA K (l_passes_12 n w v) := by
  intro n
  induction n with
  | zero => exact fun _ _ h => h
  | succ n ih =>
    intro w v h
    rw [l_passes_12]
    by_cases c1 : v 2 0 ≤ w
    · rw [if_pos c1]
      exact h
    · rw [if_neg c1]
      by_cases c2 : v 15 w = 3
      · rw [if_pos c2]
        obtain ⟨h0, h31, hc⟩ := h
        have g1 := h0.clean (y := v 17 w - 1) c2 (by omega)
        by_cases c3 : v 17 w - 1 = 0
        · rw [if_pos c3]
          refine ih _ _ ⟨g1.cleaned (w := w) c2, h31, Int.le_trans (clc_le (v := v) (fun x hx => ?_)) hc⟩
          have hx' : (if (15 : Nat) = 15 ∧ x = w then 0 else v 15 x) = 3 := hx
          split at hx'
          · omega
          · exact hx'
        · rw [if_neg c3]
          exact ih _ _ ⟨g1, h31, hc⟩
      · rw [if_neg c2]
        exact ih _ _ h
/-- cleaning begins -/
theorem c48_ok {v : Vw} : ∀ (n : Nat) (first w : Int), 0 ≤ w → (v 2 0 - w).toNat < n → (first = -1 ∨ (0 ≤ first ∧ first < v 2 0 ∧ v 15 first = 2)) → l_cleans_48 v n first w = -1 ∨ (0 ≤ l_cleans_48 v n first w ∧ l_cleans_48 v n first w < v 2 0 ∧ v 15 (l_cleans_48 v n first w) = 2) := by
  intro n
  induction n with
  | zero => exact fun _ _ _ h => absurd h (Nat.not_lt_zero _)
  | succ n ih =>
    intro first w h0 hn hf
    rw [l_cleans_48]
    by_cases c1 : v 2 0 ≤ w
    · rw [if_pos c1]
      exact hf
    · rw [if_neg c1]
      by_cases c2 : v 15 w = 2
      · rw [if_pos c2]
        by_cases c3 : first = -1
        · rw [if_pos c3]
          exact ih _ _ (by omega) (by omega) (Or.inr ⟨h0, by omega, c2⟩)
        · rw [if_neg c3]
          by_cases c4 : v 18 first ≤ v 18 w
          · rw [if_pos c4]
            exact ih _ _ (by omega) (by omega) hf
          · rw [if_neg c4]
            exact ih _ _ (by omega) (by omega) (Or.inr ⟨h0, by omega, c2⟩)
      · rw [if_neg c2]
        exact ih _ _ (by omega) (by omega) hf
theorem PA0.begins {v : Vw} {w y : Int} (h : PA0 v) (h2 : v 15 w = 2) (hw : 0 ≤ w ∧ w < v 2 0) (hy : y ≤ (if v 20 w = 0 then 2 else 1)) : PA0 (upv (upv v 15 w 3) 17 w y) := by
  obtain ⟨a0, a1, a2, a3⟩ := h
  have e15 : ∀ x, upv (upv v 15 w 3) 17 w y 15 x = if x = w then 3 else v 15 x := fun x => by simp [upv]
  have e17 : ∀ x, upv (upv v 15 w 3) 17 w y 17 x = if x = w then y else v 17 x := fun x => by simp [upv]
  have F : ∀ k, k ≠ 15 → k ≠ 17 → ∀ i, upv (upv v 15 w 3) 17 w y k i = v k i := fun k hk hk2 i => by rw [upv_nk hk2, upv_nk hk]
  refine ⟨fun x x0 x5 x4 => ?_, fun x x0 x2 x1 => ?_, fun x x2 => ?_, fun x x3 => ?_⟩
  · rw [F 5 (by decide) (by decide)] at x5
    rw [F 28 (by decide) (by decide)] at x4
    obtain ⟨d0, d1, d2, d3⟩ := a0 x x0 x5 x4
    have n1 : v 29 x ≠ w := fun q => by rw [q] at d1; omega
    rw [F 29 (by decide) (by decide), F 2 (by decide) (by decide), e15, if_neg n1, F 16 (by decide) (by decide), F 20 (by decide) (by decide), F 28 (by decide) (by decide)]
    exact ⟨d0, d1, d2, d3⟩
  · rw [F 2 (by decide) (by decide)] at x2
    rw [e15] at x1
    by_cases e : x = w
    · rw [if_pos e] at x1
      omega
    · rw [if_neg e] at x1
      rw [F 16 (by decide) (by decide), F 5 (by decide) (by decide), F 28 (by decide) (by decide), F 29 (by decide) (by decide)]
      exact a1 x x0 x2 x1
  · rw [F 2 (by decide) (by decide)] at x2
    rw [e15, if_neg (by omega)]
    exact a2 x x2
  · rw [e15] at x3
    rw [e17, F 20 (by decide) (by decide)]
    by_cases e : x = w
    · rw [if_pos e, e]
      exact hy
    · rw [if_neg e] at x3 ⊢
      exact a3 x x3
theorem PA.begin36 {K : Int} : ∀ (n : Nat) (busy : Int) (v : Vw), PA0 v → P31 v → v 2 0 ≤ 8 → clc v = busy → busy ≤ K → v 3 0 ≤ K → PA K (l_cleans_36 n busy v) := by
  intro n
  induction n with
  | zero => exact fun _ _ h h31 _ hc hb _ => ⟨h, h31, by rw [← hc] at hb; exact hb⟩
  | succ n ih =>
    intro busy v h h31 u2 hc hb hK
    rw [l_cleans_36]
    by_cases c1 : v 3 0 ≤ busy
    · rw [if_pos c1]
      exact ⟨h, h31, by omega⟩
    · rw [if_neg c1]
      have g := c48_ok (v := v) (((v 2 0) - 0).toNat + 1) (-1) 0 (Int.le_refl 0) (by omega) (Or.inl rfl)
      revert g
      generalize l_cleans_48 v (((v 2 0) - 0).toNat + 1) (-1) 0 = w
      intro g
      by_cases c2 : w = -1
      · rw [if_pos c2]
        exact ⟨h, h31, by omega⟩
      · rw [if_neg c2]
        rcases g with g | ⟨g0, g1, g2⟩
        · exact absurd g c2
        · have key : ∀ y, clc (upv (upv v 15 w 3) 17 w y) = busy + 1 := fun y => by
            rw [clc_one (v := v) (b := w) ⟨g0, by omega⟩ (fun i hi => by simp [upv, hi])]
            have z1 : clF (upv (upv v 15 w 3) 17 w y) w = 1 := by simp [clF, upv]
            have z2 : clF v w = 0 := by unfold clF; rw [g2]; decide
            omega
          have fin : ∀ y, y ≤ (if v 20 w = 0 then 2 else 1) → PA K (l_cleans_36 n (busy + 1) (upv (upv v 15 w 3) 17 w y)) := fun y q2 =>
            ih (busy + 1) _ (h.begins g2 ⟨g0, g1⟩ q2) h31 u2 (key y) (by omega) hK
          by_cases c3 : v 20 w = 0
          · rw [if_pos c3]
            exact fin 2 (by rw [if_pos c3]; exact Int.le_refl _)
          · rw [if_neg c3]
            exact fin 1 (by rw [if_neg c3]; exact Int.le_refl _)
theorem cN_ext {f : Int → Int} {m : Nat} : ∀ k : Nat, (∀ i, (m : Int) ≤ i → f i = 0) → cN f (m + k) = cN f m := by
  intro k
  induction k with
  | zero => exact fun _ => rfl
  | succ k ih =>
    intro h
    show cN f (m + k) + f ((m + k : Nat) : Int) = _
    rw [ih h, h _ (by omega)]
    omega
theorem cl4 {v : Vw} : ∀ (n : Nat) (busy w : Int), 0 ≤ w → w ≤ v 2 0 → (v 2 0 - w).toNat < n → l_cleans_4 v n busy w = busy + (cN (clF v) (v 2 0).toNat - cN (clF v) w.toNat) := by
  intro n
  induction n with
  | zero => exact fun _ _ _ _ h => absurd h (Nat.not_lt_zero _)
  | succ n ih =>
    intro busy w h0 h2 hn
    rw [l_cleans_4]
    by_cases c1 : v 2 0 ≤ w
    · rw [if_pos c1, show w = v 2 0 by omega]
      omega
    · rw [if_neg c1]
      have st : cN (clF v) (w + 1).toNat = cN (clF v) w.toNat + clF v w := by
        rw [show (w + 1).toNat = w.toNat + 1 by omega]
        show cN (clF v) w.toNat + clF v ((w.toNat : Nat) : Int) = _
        rw [Int.toNat_of_nonneg h0]
      by_cases c2 : v 15 w = 3
      · rw [if_pos c2, ih _ _ (by omega) (by omega) (by omega), st]
        have : clF v w = 1 := if_pos c2
        omega
      · rw [if_neg c2, ih _ _ (by omega) (by omega) (by omega), st]
        have : clF v w = 0 := if_neg c2
        omega
theorem cl4_all {v : Vw} (h : PA0 v) (u2 : 0 ≤ v 2 0 ∧ v 2 0 ≤ 8) : l_cleans_4 v (((v 2 0) - 0).toNat + 1) 0 0 = clc v := by
  rw [cl4 _ 0 0 (Int.le_refl 0) u2.1 (by omega)]
  have e := cN_ext (f := clF v) (m := (v 2 0).toNat) (8 - (v 2 0).toNat) (fun i hi => by
    unfold clF
    rw [if_neg]
    rw [h.2.2.1 i (by omega)]
    decide)
  rw [show (v 2 0).toNat + (8 - (v 2 0).toNat) = 8 by omega] at e
  unfold clc
  rw [e]
  show 0 + (cN (clF v) (v 2 0).toNat - 0) = _
  omega
theorem PA.cleans {K : Int} {v : Vw} (h : PA K v) (u2 : 0 ≤ v 2 0 ∧ v 2 0 ≤ 8) (hK : v 3 0 ≤ K) : PA K (f_cleans v) := by
  unfold f_cleans
  rw [cl4_all h.1 u2]
  exact PA.begin36 _ _ v h.1 h.2.1 u2.2 rfl h.2.2 hK
theorem PA.fr {K : Int} {v w : Vw} (h : PA K v) (F : ∀ k, k = 2 ∨ k = 5 ∨ k = 15 ∨ k = 16 ∨ k = 17 ∨ k = 20 ∨ k = 28 ∨ k = 29 ∨ k = 31 → ∀ i, w k i = v k i) : PA K w :=
  ⟨h.1.fr (fun k hk => F k (by omega)), h.2.1.fr (fun k hk => F k (by omega)), Int.le_trans (clc_le (fun x hx => by rw [← F 15 (by omega)]; exact hx)) h.2.2⟩
theorem PA.mono {K L : Int} {v : Vw} (h : PA K v) (hKL : K ≤ L) : PA L v := ⟨h.1, h.2.1, Int.le_trans h.2.2 hKL⟩
theorem PA.starts {K : Int} {v : Vw} {r w : Int} (h : PA K v) (h5 : 0 ≤ v 5 0) (hw : 0 ≤ w ∧ w < v 2 0) (h20 : v 20 w = 0) (h15 : v 15 w = 0) : PA K (f_starts r w v) := by
  rw [starts_eq]
  exact ⟨h.1.starts h5 hw h20 h15, h.2.1.starts, Int.le_trans clc_starts h.2.2⟩
theorem PA.goes67 {K : Int} : ∀ (n : Nat) (b : Int) (v : Vw), PA K v → PA K (l_passes_67 n b v) := by
  intro n
  induction n with
  | zero => exact fun _ _ h => h
  | succ n ih =>
    intro b v h
    rw [l_passes_67]
    split
    · exact h
    · exact ih _ _ ⟨h.1.goes, h.2.1.goes, Int.le_trans (clc_le (v := v) (fun x hx => by rw [fr_goesOn 15 x (by decide)] at hx; exact hx)) h.2.2⟩
theorem PA.moves88 {K : Int} : ∀ (n : Nat) (b : Int) (v : Vw), PA K v → 0 ≤ b → PA K (l_passes_88 n b v) := by
  intro n
  induction n with
  | zero => exact fun _ _ h _ => h
  | succ n ih =>
    intro b v h hb
    rw [l_passes_88]
    by_cases c : v 5 0 ≤ b
    · rw [if_pos c]
      exact h
    · rw [if_neg c]
      exact ih _ _ ⟨h.1.movesOn ⟨hb, by omega⟩, h.2.1.movesOn, Int.le_trans (clc_movesOn b) h.2.2⟩ (by omega)
theorem tko_fr {i : Int} {v : Vw} (k : Nat) (j : Int) (hk : k ≠ 7 ∧ k ≠ 39) : (f_takesOut i v).2 k j = v k j := fr_takesOut k j (by omega)
theorem PA.queue {K : Int} : ∀ (n : Nat) (k : Int) (v : Vw), PA K v → 0 ≤ v 5 0 → PA K (l_startsQueue_2 n k v) := by
  intro n
  induction n with
  | zero => exact fun _ _ h _ => h
  | succ n ih =>
    intro k v h h5
    rw [l_startsQueue_2]
    by_cases c1 : v 7 0 ≤ k
    · rw [if_pos c1]
      exact h
    · rw [if_neg c1]
      by_cases c2 : f_clean 0 v = -1
      · rw [if_pos c2]
        exact h
      · rw [if_neg c2]
        by_cases c3 : f_hasYeast (v 12 (v 39 k)) v = 0
        · rw [if_pos c3]
          exact ih _ _ h h5
        · rw [if_neg c3]
          rcases clean_ok 0 v with q | ⟨q1, q2, q3⟩
          · exact absurd q c2
          · have g : PA K (f_takesOut k v).2 := h.fr (fun j hj i => tko_fr j i (by omega))
            have t2 : (f_takesOut k v).2 2 0 = v 2 0 := tko_fr 2 0 (by decide)
            have t5 : (f_takesOut k v).2 5 0 = v 5 0 := tko_fr 5 0 (by decide)
            have t20 : (f_takesOut k v).2 20 (f_clean 0 v) = 0 := (tko_fr 20 _ (by decide)).trans q2
            have t15 : (f_takesOut k v).2 15 (f_clean 0 v) = 0 := (tko_fr 15 _ (by decide)).trans q3
            refine ih _ _ (g.starts (by omega) (by rw [t2]; exact q1) t20 t15) ?_
            rw [(b_starts _ _ _).1, t5]
            omega
