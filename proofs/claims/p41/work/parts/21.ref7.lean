/-! the reference: a day, days (written by wip/whole/mk21.py) -/
theorem CJ_fr {v w : Vw} (h : ∀ k, k = 1 ∨ k = 5 ∨ k = 7 ∨ k = 13 ∨ k = 15 ∨ k = 17 ∨ k = 28 ∨ k = 30 ∨ k = 39 → ∀ i, w k i = v k i) (hJ : CJ v) : CJ w := by
  obtain ⟨h1, h2, h3, h4⟩ := hJ
  have e1 := h 1 (by decide) 0
  have e5 := h 5 (by decide) 0
  have e7 := h 7 (by decide) 0
  refine ⟨fun b h0 hb hs => ?_, fun r h0 hr => ?_, fun k h0 hk => ?_, fun x hx => ?_⟩
  · rw [h 28 (by decide)] at hs
    rw [h 30 (by decide)]
    exact h1 b h0 (by omega) hs
  · rw [h 13 (by decide)]
    exact h2 r h0 (by omega)
  · rw [h 39 (by decide), e1]
    exact h3 k h0 (by omega)
  · rw [h 15 (by decide)] at hx
    rw [h 17 (by decide)]
    exact h4 x hx
/-- a brew's stage and vessels' states change to what asks for no days -/
theorem CJ_st {v w : Vw} (h : ∀ k, k = 1 ∨ k = 5 ∨ k = 7 ∨ k = 13 ∨ k = 17 ∨ k = 30 ∨ k = 39 → ∀ i, w k i = v k i) (h28 : ∀ i, w 28 i = v 28 i ∨ w 28 i = 4) (h15 : ∀ i, w 15 i = v 15 i ∨ w 15 i = 2) (hJ : CJ v) : CJ w := by
  obtain ⟨h1, h2, h3, h4⟩ := hJ
  have e1 := h 1 (by decide) 0
  have e5 := h 5 (by decide) 0
  have e7 := h 7 (by decide) 0
  refine ⟨fun b h0 hb hs => ?_, fun r h0 hr => ?_, fun k h0 hk => ?_, fun x hx => ?_⟩
  · rw [h 30 (by decide)]
    refine h1 b h0 (by omega) ?_
    rcases h28 b with e | e
    · rw [← e]
      exact hs
    · omega
  · rw [h 13 (by decide)]
    exact h2 r h0 (by omega)
  · rw [h 39 (by decide), e1]
    exact h3 k h0 (by omega)
  · rw [h 17 (by decide)]
    refine h4 x ?_
    rcases h15 x with e | e
    · rw [← e]
      exact hx
    · omega
theorem st_l_draws_6 {o r : Int} : ∀ (n : Nat) (left b : Int) (v : Vw), (∀ i, l_draws_6 o r n left b v 28 i = v 28 i ∨ l_draws_6 o r n left b v 28 i = 4) ∧ (∀ i, l_draws_6 o r n left b v 15 i = v 15 i ∨ l_draws_6 o r n left b v 15 i = 2) := by
  intro n
  induction n with
  | zero => exact fun _ _ _ => ⟨fun _ => Or.inl rfl, fun _ => Or.inl rfl⟩
  | succ n ih =>
    intro left b v
    have key : ∀ W l', (∀ i, W 28 i = v 28 i ∨ W 28 i = 4) → (∀ i, W 15 i = v 15 i ∨ W 15 i = 2) → (∀ i, l_draws_6 o r n l' (b + 1) W 28 i = v 28 i ∨ l_draws_6 o r n l' (b + 1) W 28 i = 4) ∧ (∀ i, l_draws_6 o r n l' (b + 1) W 15 i = v 15 i ∨ l_draws_6 o r n l' (b + 1) W 15 i = 2) := by
      intro W l' a1 a2
      have g := ih l' (b + 1) W
      exact ⟨fun i => (g.1 i).elim (fun e => (a1 i).elim (fun e2 => Or.inl (e.trans e2)) (fun e2 => Or.inr (e.trans e2))) Or.inr, fun i => (g.2 i).elim (fun e => (a2 i).elim (fun e2 => Or.inl (e.trans e2)) (fun e2 => Or.inr (e.trans e2))) Or.inr⟩
    rw [l_draws_6]
    repeat' split
    all_goals first
      | exact ⟨fun _ => Or.inl rfl, fun _ => Or.inl rfl⟩
      | exact ih _ _ _
      | (refine key _ _ (fun i => ?_) (fun i => ?_)
         · first
             | exact Or.inl rfl
             | (rw [fr_dirties 28 i (by decide)]
                by_cases e : i = b
                · exact Or.inr (e ▸ upv_eq _ _ _ _)
                · exact Or.inl (upv_ni e))
         · first
             | exact Or.inl rfl
             | (unfold f_dirties
                rw [upv_nk (by decide), upv_nk (by decide)]
                by_cases e : i = v 29 b
                · exact Or.inr (e ▸ upv_eq _ _ _ _)
                · exact Or.inl (upv_ni e)))
theorem st_l_fills_123 (o : Int) : ∀ (n : Nat) (k : Int) (v : Vw), (∀ i, l_fills_123 o n k v 28 i = v 28 i ∨ l_fills_123 o n k v 28 i = 4) ∧ (∀ i, l_fills_123 o n k v 15 i = v 15 i ∨ l_fills_123 o n k v 15 i = 2) := by
  intro n
  induction n with
  | zero => exact fun _ _ => ⟨fun _ => Or.inl rfl, fun _ => Or.inl rfl⟩
  | succ n ih =>
    intro k v
    rw [l_fills_123]
    split
    · exact ⟨fun _ => Or.inl rfl, fun _ => Or.inl rfl⟩
    · have g := ih (k + 1) (f_draws o (v 36 (4 * o + k)) (v 37 (4 * o + k)) v)
      have a : _ ∧ _ := st_l_draws_6 (o := o) (r := v 36 (4 * o + k)) ((v 5 0 - 0).toNat + 1) (v 37 (4 * o + k)) 0 v
      exact ⟨fun i => (g.1 i).elim (fun e => (a.1 i).elim (fun e2 => Or.inl (e.trans e2)) (fun e2 => Or.inr (e.trans e2))) Or.inr, fun i => (g.2 i).elim (fun e => (a.2 i).elim (fun e2 => Or.inl (e.trans e2)) (fun e2 => Or.inr (e.trans e2))) Or.inr⟩
theorem D_l_fills_123 (o : Int) : ∀ (n : Nat) (k : Int) (v : Vw), v 5 0 ≤ 30 → (∀ i, 0 ≤ v 37 i) → (∀ i, v 5 0 ≤ i → l_fills_123 o n k v 28 i = v 28 i) ∧ pq (l_fills_123 o n k v) = pq v := by
  intro n
  induction n with
  | zero => exact fun _ _ _ _ => ⟨fun _ _ => rfl, rfl⟩
  | succ n ih =>
    intro k v h5 h37
    rw [l_fills_123]
    split
    · exact ⟨fun _ _ => rfl, rfl⟩
    · have g := ih (k + 1) (f_draws o (v 36 (4 * o + k)) (v 37 (4 * o + k)) v) (by rw [fr_draws 5 _ (by decide)]; exact h5) (fun i => by rw [fr_draws 37 _ (by decide)]; exact h37 i)
      have a : _ ∧ _ ∧ _ := J_l_draws_6 (o := o) (r := v 36 (4 * o + k)) ((v 5 0 - 0).toNat + 1) (v 37 (4 * o + k)) 0 v h5 (by omega) (h37 _)
      rw [fr_draws 5 _ (by decide)] at g
      exact ⟨fun i hi => (g.1 i hi).trans (a.2.1 i hi), g.2.trans a.2.2⟩
def HH (v : Vw) : Prop := v 5 0 ≤ 30 ∧ v 6 0 ≤ 20 ∧ (∀ i, 0 ≤ v 37 i) ∧ (∀ i, 0 ≤ v 33 i ∧ v 33 i ≤ 4)
theorem HH_fr {v w : Vw} (h : ∀ k, k = 5 ∨ k = 6 ∨ k = 33 ∨ k = 37 → ∀ i, w k i = v k i) (hH : HH v) : HH w := by
  obtain ⟨h1, h2, h3, h4⟩ := hH
  exact ⟨by rw [h 5 (by decide)]; exact h1, by rw [h 6 (by decide)]; exact h2, fun i => by rw [h 37 (by decide)]; exact h3 i, fun i => by rw [h 33 (by decide)]; exact h4 i⟩
theorem CI_l_fills_40 : ∀ (n : Nat) (m : Int) (v : Vw), HH v → LK v → CI v → CJ v → CI (l_fills_40 n m v) ∧ CJ (l_fills_40 n m v) := by
  intro n
  induction n with
  | zero => exact fun _ _ _ _ h1 h2 => ⟨h1, h2⟩
  | succ n ih =>
    intro m v hH hL hC hJ
    rw [l_fills_40]
    by_cases c1 : v 6 0 ≤ m
    · rw [if_pos c1]
      exact ⟨hC, hJ⟩
    rw [if_neg c1]
    have h52 := r_l_fills_52 (v := v) ((v 6 0 - 0).toNat + 1) (-1) 0 (by omega) (by omega) (by omega)
    revert h52
    generalize l_fills_52 v ((v 6 0 - 0).toNat + 1) (-1) 0 = N
    intro h52
    by_cases c2 : N = -1
    · rw [if_pos c2]
      exact ⟨hC, hJ⟩
    rw [if_neg c2]
    have h38 : v 38 N = 0 := by
      rcases h52.2 with h9 | h9
      · exact absurd h9 c2
      · exact h9.2.2
    have h34 := hL N (by omega) (by omega) h38
    split
    · exact ih (m + 1) _ (HH_fr (fun k hk i => upv_nk (by omega)) hH) (LK_st N (by rw [upv_eq]; decide) (fun i hi => upv_ni hi) (fun i hi => upv_nk (by decide)) (upv_nk (by decide)) hL) (CI_fr (fun k hk i => upv_nk (by omega)) hC) (CJ_fr (fun k hk i => upv_nk (by omega)) hJ)
    · obtain ⟨q1, q2, q3, q4⟩ := hH
      have f : ∀ (k : Nat) (i : Int), k ≠ 9 ∧ k ≠ 10 ∧ k ≠ 15 ∧ k ≠ 18 ∧ k ≠ 28 ∧ k ≠ 31 ∧ k ≠ 44 ∧ k ≠ 45 ∧ k ≠ 46 → l_fills_123 N ((v 33 N - 0).toNat + 1) 0 (upv v 38 N 1) k i = upv v 38 N 1 k i := fun k i hk => fr_l_fills_123 _ _ _ k i hk
      have gJ := J_l_fills_123 N ((v 33 N - 0).toNat + 1) 0 (upv v 38 N 1) q1 q3 (by omega)
      have gD := D_l_fills_123 N ((v 33 N - 0).toNat + 1) 0 (upv v 38 N 1) q1 q3
      have gS := st_l_fills_123 N ((v 33 N - 0).toNat + 1) 0 (upv v 38 N 1)
      rw [show upv v 38 N 1 33 N = v 33 N from upv_nk (by decide), show upv v 38 N 1 9 0 = v 9 0 from rfl, dl_congr (v := v) (w := upv v 38 N 1) (fun i => upv_nk (by decide))] at gJ
      have q4N := q4 N
      revert f gJ gD gS
      generalize l_fills_123 N ((v 33 N - 0).toNat + 1) 0 (upv v 38 N 1) = W
      intro f gJ gD gS
      have F : ∀ (k : Nat) (i : Int), k ≠ 9 ∧ k ≠ 10 ∧ k ≠ 15 ∧ k ≠ 18 ∧ k ≠ 28 ∧ k ≠ 31 ∧ k ≠ 44 ∧ k ≠ 45 ∧ k ≠ 46 ∧ k ≠ 38 ∧ k ≠ 34 ∧ k ≠ 35 ∧ k ≠ 11 → upv (upv (upv W 34 N 102) 35 N (v 8 0)) 11 0 (v 11 0 + 1) k i = v k i := fun k i hk => (upv_nk (by omega)).trans ((upv_nk (by omega)).trans ((upv_nk (by omega)).trans ((f k i (by omega)).trans (upv_nk (by omega)))))
      have F28 : ∀ i, upv (upv (upv W 34 N 102) 35 N (v 8 0)) 11 0 (v 11 0 + 1) 28 i = W 28 i := fun i => (upv_nk (by decide)).trans ((upv_nk (by decide)).trans (upv_nk (by decide)))
      have F15 : ∀ i, upv (upv (upv W 34 N 102) 35 N (v 8 0)) 11 0 (v 11 0 + 1) 15 i = W 15 i := fun i => (upv_nk (by decide)).trans ((upv_nk (by decide)).trans (upv_nk (by decide)))
      have F34 : ∀ i, i ≠ N → upv (upv (upv W 34 N 102) 35 N (v 8 0)) 11 0 (v 11 0 + 1) 34 i = v 34 i := fun i hi => (upv_nk (by decide)).trans ((upv_nk (by decide)).trans ((upv_ni hi).trans ((f 34 i (by decide)).trans (upv_nk (by decide)))))
      have F34N : upv (upv (upv W 34 N 102) 35 N (v 8 0)) 11 0 (v 11 0 + 1) 34 N = 102 := (upv_nk (by decide)).trans ((upv_nk (by decide)).trans (upv_eq _ _ _ _))
      have F38 : ∀ i, upv (upv (upv W 34 N 102) 35 N (v 8 0)) 11 0 (v 11 0 + 1) 38 i = upv v 38 N 1 38 i := fun i => (upv_nk (by decide)).trans ((upv_nk (by decide)).trans ((upv_nk (by decide)).trans (f 38 i (by decide))))
      have F9 : upv (upv (upv W 34 N 102) 35 N (v 8 0)) 11 0 (v 11 0 + 1) 9 0 = W 9 0 := rfl
      have F11 : upv (upv (upv W 34 N 102) 35 N (v 8 0)) 11 0 (v 11 0 + 1) 11 0 = v 11 0 + 1 := upv_eq _ _ _ _
      revert F F28 F15 F34 F34N F38 F9 F11
      generalize upv (upv (upv W 34 N 102) 35 N (v 8 0)) 11 0 (v 11 0 + 1) = S
      intro F F28 F15 F34 F34N F38 F9 F11
      refine ih (m + 1) S (HH_fr (fun k hk i => F k i (by omega)) ⟨q1, q2, q3, q4⟩) (LK_st N (by rw [F38, upv_eq]; decide) (fun i hi => by rw [F38, upv_ni hi]) F34 (F 6 0 (by decide)) hL) ?_ ?_
      · obtain ⟨h1, h2, h3, h4, h5, h6⟩ := hC
        have a5 := F 5 0 (by decide)
        have a7 := F 7 0 (by decide)
        have a4 := F 4 0 (by decide)
        have a6 := F 6 0 (by decide)
        have e := fl_one (v := v) (w := S) (b := N) (by omega) F34
        have e2 : flF S N = 0 := by unfold flF; rw [if_pos F34N]
        have e3 : flF v N = 1 := by unfold flF; rw [if_neg (by omega)]
        have e4 := dl_congr F28
        have e5 := pq_congr F28
        have e6 : pq (upv v 38 N 1) = pq v := pq_congr (fun i => upv_nk (by decide))
        refine ⟨by omega, by omega, ?_, by omega, ?_, ?_⟩
        · split at gJ <;> omega
        · intro i hi
          rw [F28, gD.1 i (by show v 5 0 ≤ i; omega), upv_nk (by decide)]
          exact h5 i (by omega)
        · intro i hi
          rw [F 33 i (by decide), F34 i (by omega)]
          exact h6 i (by omega)
      · refine CJ_st (fun k hk i => F k i (by omega)) (fun i => ?_) (fun i => ?_) hJ
        · rw [F28]
          exact gS.1 i
        · rw [F15]
          exact gS.2 i
theorem CI_fills {v : Vw} (hH : HH v) (hC : CI v) (hJ : CJ v) : CI (f_fills v) ∧ CJ (f_fills v) := by
  have u := hH.2.1
  refine CI_l_fills_40 _ 0 _ (HH_fr (fun k hk i => fr_l_fills_2 _ _ _ k i (by omega)) hH) (looked_l_fills_2 _ 0 v (fun p h1 h2 => by omega) (by omega) (by omega)) (CI_fr (fun k hk i => fr_l_fills_2 _ _ _ k i (by omega)) hC) (CJ_fr (fun k hk i => fr_l_fills_2 _ _ _ k i (by omega)) hJ)
theorem CI_l_startsQueue_2 : ∀ (n : Nat) (k : Int) (v : Vw), 0 ≤ k → CI v → CJ v → CI (l_startsQueue_2 n k v) ∧ CJ (l_startsQueue_2 n k v) := by
  intro n
  induction n with
  | zero => exact fun _ _ _ h1 h2 => ⟨h1, h2⟩
  | succ n ih =>
    intro k v hk hC hJ
    rw [l_startsQueue_2]
    by_cases c1 : v 7 0 ≤ k
    · rw [if_pos c1]
      exact ⟨hC, hJ⟩
    rw [if_neg c1]
    split
    · exact ⟨hC, hJ⟩
    · split
      · exact ih (k + 1) v (by omega) hC hJ
      · have t := t_takesOut k v
        have h39 := hJ.2.2.1 k hk (by omega)
        refine ih k _ hk (CI_starts (CI_takes hC) ?_) (CJ_starts (CJ_takes hk hJ) ?_)
        · rw [t.2, fr_takesOut 5 0 (by decide)]
          have := hC.1
          omega
        · rw [t.1, fr_takesOut 13 _ (by decide)]
          exact hJ.2.1 _ h39.1 h39.2
theorem CI_l_passes_67 : True := trivial
def C4 (v : Vw) : Prop := ∀ w, v 15 w = 3 → 1 ≤ v 17 w
theorem C4_a {v : Vw} {w : Int} (h : C4 v) (hn : ¬ v 17 w - 1 = 0) (h0 : 1 ≤ v 17 w) : C4 (upv v 17 w (v 17 w - 1)) := fun x hx => by
  rw [upv_nk (by decide)] at hx
  by_cases e : x = w
  · rw [e, upv_eq]
    omega
  · rw [upv_ni e]
    exact h x hx
theorem C4_b {v : Vw} {w y : Int} (h : C4 v) : C4 (upv (upv v 17 w y) 15 w 0) := fun x hx => by
  by_cases e : x = w
  · rw [e, upv_eq] at hx
    omega
  · rw [upv_ni e, upv_nk (by decide)] at hx
    rw [upv_nk (by decide), upv_ni e]
    exact h x hx
def l_passes_12 : Nat → Int → Vw → Vw
  | 0, w, v => v
  | n + 1, w, v =>
    if (v 2 0) ≤ w then
      v
    else
      if (v 15 w) = 3 then
        if (((v 17 w) - 1)) = 0 then
          (l_passes_12 n (w + 1) (upv (upv v 17 w ((v 17 w) - 1)) 15 w 0))
        else
          (l_passes_12 n (w + 1) (upv v 17 w ((v 17 w) - 1)))
      else
        (l_passes_12 n (w + 1) v)
theorem fr_l_passes_12 : ∀ (n : Nat) (w : Int) (v : Vw) (fk : Nat) (fi : Int) (hk : fk ≠ 15 ∧ fk ≠ 17), (l_passes_12 n w v) fk fi = v fk fi := by
  intro n w v fk fi hk
  induction n generalizing w v with
  | zero => rfl
  | succ n ih =>
    by_cases c1 : (v 2 0) ≤ w
    · rw [l_passes_12, if_pos c1]
      try rfl
    · by_cases c3 : (v 15 w) = 3
      · by_cases c5 : (((v 17 w) - 1)) = 0
        · rw [l_passes_12, if_neg c1, if_pos c3, if_pos c5]
          exact (ih (w + 1) (upv (upv v 17 w ((v 17 w) - 1)) 15 w 0)).trans ((upv_nk (by omega)).trans ((upv_nk (by omega)).trans rfl))
        · rw [l_passes_12, if_neg c1, if_pos c3, if_neg c5]
          exact (ih (w + 1) (upv v 17 w ((v 17 w) - 1))).trans ((upv_nk (by omega)).trans rfl)
      · rw [l_passes_12, if_neg c1, if_neg c3]
        exact (ih (w + 1) v).trans rfl
theorem i_l_passes_12 {T E : Int} : ∀ (n : Nat) (w : Int) (v : Vw) (hI : IM v T E) (hw : 0 ≤ w ∧ w ≤ 100) (hc4 : C4 v), IM (l_passes_12 n w v) T (E) := by
  intro n
  induction n with
  | zero =>
    intro w v hI hw hc4
    have hT := hI.1
    exact hI
  | succ n ih =>
    intro w v hI hw hc4
    have hT := hI.1
    have u2 : 0 ≤ v 2 0 ∧ v 2 0 ≤ 8 := hI.2 2 0
    by_cases c1 : (v 2 0) ≤ w
    · rw [l_passes_12, if_pos c1]
      exact hI
    · have q2 : 0 ≤ v 15 w ∧ v 15 w ≤ 3 := hI.2 15 w
      by_cases c3 : (v 15 w) = 3
      · have h17 := hc4 w (by assumption)
        have q4 : 0 ≤ v 17 w ∧ v 17 w ≤ 2 := hI.2 17 w
        by_cases c5 : (((v 17 w) - 1)) = 0
        · rw [l_passes_12, if_neg c1, if_pos c3, if_pos c5]
          exact ih (w + 1) (upv (upv v 17 w ((v 17 w) - 1)) 15 w 0) ((hI.up 17 w ((v 17 w) - 1) (by show 0 ≤ ((v 17 w) - 1) ∧ ((v 17 w) - 1) ≤ 2; omega)).up 15 w 0 (by show 0 ≤ 0 ∧ 0 ≤ 3; omega)) (by show 0 ≤ (w + 1) ∧ (w + 1) ≤ 100; omega) (by first | exact hc4 | exact C4_a hc4 (by assumption) h17 | exact C4_b hc4)
        · rw [l_passes_12, if_neg c1, if_pos c3, if_neg c5]
          exact ih (w + 1) (upv v 17 w ((v 17 w) - 1)) (hI.up 17 w ((v 17 w) - 1) (by show 0 ≤ ((v 17 w) - 1) ∧ ((v 17 w) - 1) ≤ 2; omega)) (by show 0 ≤ (w + 1) ∧ (w + 1) ≤ 100; omega) (by first | exact hc4 | exact C4_a hc4 (by assumption) h17 | exact C4_b hc4)
      · rw [l_passes_12, if_neg c1, if_neg c3]
        exact ih (w + 1) v hI (by show 0 ≤ (w + 1) ∧ (w + 1) ≤ 100; omega) (by first | exact hc4 | exact C4_a hc4 (by assumption) h17 | exact C4_b hc4)
theorem CJ_l_passes_12 : ∀ (n : Nat) (w : Int) (v : Vw), CJ v → CJ (l_passes_12 n w v) := by
  intro n
  induction n with
  | zero => exact fun _ _ h => h
  | succ n ih =>
    intro w v hJ
    rw [l_passes_12]
    have h17 := hJ.2.2.2 w
    repeat' split
    all_goals first
      | exact hJ
      | exact ih _ _ hJ
      | exact ih _ _ ⟨hJ.1, hJ.2.1, hJ.2.2.1, C4_b hJ.2.2.2⟩
      | exact ih _ _ ⟨hJ.1, hJ.2.1, hJ.2.2.1, C4_a hJ.2.2.2 (by assumption) (by omega)⟩
def l_passes_67 : Nat → Int → Vw → Vw
  | 0, b, v => v
  | n + 1, b, v =>
    if (v 5 0) ≤ b then
      v
    else
      (l_passes_67 n (b + 1) (f_goesOn b v))
theorem fr_l_passes_67 : ∀ (n : Nat) (b : Int) (v : Vw) (fk : Nat) (fi : Int) (hk : fk ≠ 4 ∧ fk ≠ 22 ∧ fk ≠ 23 ∧ fk ≠ 24 ∧ fk ≠ 28 ∧ fk ≠ 30 ∧ fk ≠ 31), (l_passes_67 n b v) fk fi = v fk fi := by
  intro n b v fk fi hk
  induction n generalizing b v with
  | zero => rfl
  | succ n ih =>
    by_cases c6 : (v 5 0) ≤ b
    · rw [l_passes_67, if_pos c6]
      try rfl
    · rw [l_passes_67, if_neg c6]
      exact (ih (b + 1) (f_goesOn b v)).trans ((fr_goesOn (b := b) (v := v) fk fi (by omega)).trans rfl)
theorem i_l_passes_67 {T E : Int} : ∀ (n : Nat) (b : Int) (v : Vw) (hI : IM v T E) (hb : 0 ≤ b ∧ b ≤ 100) (hC : CI v) (hJ : CJ v), IM (l_passes_67 n b v) T (E) := by
  intro n
  induction n with
  | zero =>
    intro b v hI hb hC hJ
    have hT := hI.1
    exact hI
  | succ n ih =>
    intro b v hI hb hC hJ
    have hT := hI.1
    have u5 : 0 ≤ v 5 0 ∧ v 5 0 ≤ 30 := hI.2 5 0
    by_cases c6 : (v 5 0) ≤ b
    · rw [l_passes_67, if_pos c6]
      exact hI
    · have hpq : v 28 b = 0 → v 4 0 ≤ 58 := fun h => by have := pq_pos (v := v) (b := b) (by omega) h; have := hC.2.2.2.1; omega
      have hgo : v 28 b = 0 ∨ v 28 b = 2 → 1 ≤ v 30 b := hJ.1 b (by omega) (by omega)
      have hJ7 := (i_goesOn (b := b) hI (by show 0 ≤ b ∧ b ≤ 29; omega) (by exact hpq) (by exact hgo))
      have q8 : (f_goesOn b v) 5 0 = v 5 0 := (fr_goesOn (b := b) (v := v) 5 0 (by decide)).trans rfl
      rw [l_passes_67, if_neg c6]
      exact ih (b + 1) (f_goesOn b v) hJ7 (by show 0 ≤ (b + 1) ∧ (b + 1) ≤ 100; omega) (by exact CI_goesOn (by omega) (by omega) hC) (by exact CJ_goesOn (by omega) hJ)
theorem CI_l_passes_67x : ∀ (n : Nat) (b : Int) (v : Vw), v 5 0 ≤ 30 → 0 ≤ b → CI v → CJ v → CI (l_passes_67 n b v) ∧ CJ (l_passes_67 n b v) := by
  intro n
  induction n with
  | zero => exact fun _ _ _ _ h1 h2 => ⟨h1, h2⟩
  | succ n ih =>
    intro b v h5 hb hC hJ
    rw [l_passes_67]
    split
    · exact ⟨hC, hJ⟩
    · exact ih (b + 1) _ (by rw [fr_goesOn 5 0 (by decide)]; exact h5) (by omega) (CI_goesOn (by omega) (by omega) hC) (CJ_goesOn (by omega) hJ)
def l_passes_88 : Nat → Int → Vw → Vw
  | 0, b, v => v
  | n + 1, b, v =>
    if (v 5 0) ≤ b then
      v
    else
      (l_passes_88 n (b + 1) (f_movesOn b v))
theorem fr_l_passes_88 : ∀ (n : Nat) (b : Int) (v : Vw) (fk : Nat) (fi : Int) (hk : fk ≠ 10 ∧ fk ≠ 15 ∧ fk ≠ 16 ∧ fk ≠ 18 ∧ fk ≠ 28 ∧ fk ≠ 29 ∧ fk ≠ 30 ∧ fk ≠ 31), (l_passes_88 n b v) fk fi = v fk fi := by
  intro n b v fk fi hk
  induction n generalizing b v with
  | zero => rfl
  | succ n ih =>
    by_cases c9 : (v 5 0) ≤ b
    · rw [l_passes_88, if_pos c9]
      try rfl
    · rw [l_passes_88, if_neg c9]
      exact (ih (b + 1) (f_movesOn b v)).trans ((fr_movesOn (b := b) (v := v) fk fi (by omega)).trans rfl)
theorem i_l_passes_88 {T : Int} : ∀ (n : Nat) (b : Int) (v : Vw) (E : Int) (hI : IM v T E) (hb : 0 ≤ b ∧ b ≤ 100) (hC : CI v) (hJ : CJ v) (hE : E + ((n : Nat) : Int) ≤ 1000000000), IM (l_passes_88 n b v) T (E + (n : Int)) := by
  intro n
  induction n with
  | zero =>
    intro b v E hI hb hC hJ hE
    have hT := hI.1
    exact hI.mono (by omega) (by omega) (by omega) (by omega)
  | succ n ih =>
    intro b v E hI hb hC hJ hE
    have hT := hI.1
    have u5 : 0 ≤ v 5 0 ∧ v 5 0 ≤ 30 := hI.2 5 0
    by_cases c9 : (v 5 0) ≤ b
    · rw [l_passes_88, if_pos c9]
      exact (hI).mono (by omega) (by omega) (by omega) (by omega)
    · have hJ10 := (i_movesOn (b := b) hI (by show 0 ≤ b ∧ b ≤ 29; omega) (by omega))
      have q11 : (f_movesOn b v) 5 0 = v 5 0 := (fr_movesOn (b := b) (v := v) 5 0 (by decide)).trans rfl
      rw [l_passes_88, if_neg c9]
      exact (ih (b + 1) (f_movesOn b v) (E + 1) ((hJ10).mono (T' := T) (E' := E + 1) (by omega) (by omega) (by omega) (by omega)) (by show 0 ≤ (b + 1) ∧ (b + 1) ≤ 100; omega) (by exact CI_movesOn (by omega) (by omega) hC) (by exact CJ_movesOn (fun i => (hI.2 14 i).1) hJ) (by omega)).mono (by omega) (by omega) (by omega) (by omega)
theorem CI_l_passes_88x : ∀ (n : Nat) (b : Int) (v : Vw), v 5 0 ≤ 30 → 0 ≤ b → (∀ i, 0 ≤ v 14 i) → CI v → CJ v → CI (l_passes_88 n b v) ∧ CJ (l_passes_88 n b v) := by
  intro n
  induction n with
  | zero => exact fun _ _ _ _ _ h1 h2 => ⟨h1, h2⟩
  | succ n ih =>
    intro b v h5 hb h14 hC hJ
    rw [l_passes_88]
    split
    · exact ⟨hC, hJ⟩
    · exact ih (b + 1) _ (by rw [fr_movesOn 5 0 (by decide)]; exact h5) (by omega) (fun i => by rw [fr_movesOn 14 i (by decide)]; exact h14 i) (CI_movesOn (by omega) (by omega) hC) (CJ_movesOn h14 hJ)
def f_passes (v : Vw) : Vw :=
  (f_startsQueue  (f_cleans  (f_fills  (l_passes_88 (((v 5 0) - 0).toNat + 1) 0 (l_passes_67 (((v 5 0) - 0).toNat + 1) 0 (l_passes_12 (((v 2 0) - 0).toNat + 1) 0 (upv v 8 0 ((v 8 0) + 1))))))))
theorem i_passes {v : Vw} {T E : Int} (hI : IM v T E) (hC : CI v) (hJ : CJ v) (hd : v 8 0 + 1 ≤ T) (hE : E + 3300 ≤ 1000000000) (h5 : v 5 0 ≤ 30) : IM (f_passes v) T (E + 3300) := by
  have hT := hI.1
  have u5 : 0 ≤ v 5 0 ∧ v 5 0 ≤ 30 := hI.2 5 0
  have u8 : 0 ≤ v 8 0 ∧ v 8 0 ≤ T := hI.2 8 0
  have hJ12 := i_l_passes_12  (((v 2 0) - 0).toNat + 1) 0 (upv v 8 0 ((v 8 0) + 1)) (hI.up 8 0 ((v 8 0) + 1) (by show 0 ≤ ((v 8 0) + 1) ∧ ((v 8 0) + 1) ≤ T; omega)) (by show 0 ≤ 0 ∧ 0 ≤ 100; omega) (by exact hJ.2.2.2)
  have hC1 : CI (l_passes_12 (((v 2 0) - 0).toNat + 1) 0 (upv v 8 0 ((v 8 0) + 1))) := CI_fr (fun k hk i => (fr_l_passes_12 _ _ _ k i (by omega)).trans (upv_nk (by omega))) hC
  have hJ1 : CJ (l_passes_12 (((v 2 0) - 0).toNat + 1) 0 (upv v 8 0 ((v 8 0) + 1))) := CJ_l_passes_12 _ _ _ (CJ_fr (fun k hk i => upv_nk (by omega)) hJ)
  have q15 : (l_passes_12 (((v 2 0) - 0).toNat + 1) 0 (upv v 8 0 ((v 8 0) + 1))) 5 0 = v 5 0 := (fr_l_passes_12 (((v 2 0) - 0).toNat + 1) 0 (upv v 8 0 ((v 8 0) + 1)) 5 0 (by decide)).trans rfl
  have hJ16 := i_l_passes_67  (((v 5 0) - 0).toNat + 1) 0 (l_passes_12 (((v 2 0) - 0).toNat + 1) 0 (upv v 8 0 ((v 8 0) + 1))) hJ12 (by show 0 ≤ 0 ∧ 0 ≤ 100; omega) (by exact hC1) (by exact hJ1)
  have hCJ2 := CI_l_passes_67x (((v 5 0) - 0).toNat + 1) 0 (l_passes_12 (((v 2 0) - 0).toNat + 1) 0 (upv v 8 0 ((v 8 0) + 1))) (hJ12.2 5 0).2 (by omega) hC1 hJ1
  have q18 : (l_passes_67 (((v 5 0) - 0).toNat + 1) 0 (l_passes_12 (((v 2 0) - 0).toNat + 1) 0 (upv v 8 0 ((v 8 0) + 1)))) 5 0 = v 5 0 := (fr_l_passes_67 (((v 5 0) - 0).toNat + 1) 0 (l_passes_12 (((v 2 0) - 0).toNat + 1) 0 (upv v 8 0 ((v 8 0) + 1))) 5 0 (by decide)).trans q15
  have hJ19 := i_l_passes_88  (((v 5 0) - 0).toNat + 1) 0 (l_passes_67 (((v 5 0) - 0).toNat + 1) 0 (l_passes_12 (((v 2 0) - 0).toNat + 1) 0 (upv v 8 0 ((v 8 0) + 1)))) E hJ16 (by show 0 ≤ 0 ∧ 0 ≤ 100; omega) (by exact hCJ2.1) (by exact hCJ2.2) (by omega)
  have hCJ3 := CI_l_passes_88x (((v 5 0) - 0).toNat + 1) 0 (l_passes_67 (((v 5 0) - 0).toNat + 1) 0 (l_passes_12 (((v 2 0) - 0).toNat + 1) 0 (upv v 8 0 ((v 8 0) + 1)))) (hJ16.2 5 0).2 (by omega) (fun i => (hJ16.2 14 i).1) hCJ2.1 hCJ2.2
  have hC3 := hCJ3.1
  have hJ3 := hCJ3.2
  have hH3 : HH (l_passes_88 (((v 5 0) - 0).toNat + 1) 0 (l_passes_67 (((v 5 0) - 0).toNat + 1) 0 (l_passes_12 (((v 2 0) - 0).toNat + 1) 0 (upv v 8 0 ((v 8 0) + 1))))) := ⟨(hJ19.2 5 0).2, (hJ19.2 6 0).2, fun i => (hJ19.2 37 i).1, fun i => hJ19.2 33 i⟩
  have q24 : (l_passes_12 (((v 2 0) - 0).toNat + 1) 0 (upv v 8 0 ((v 8 0) + 1))) 11 0 = v 11 0 := (fr_l_passes_12 (((v 2 0) - 0).toNat + 1) 0 (upv v 8 0 ((v 8 0) + 1)) 11 0 (by decide)).trans rfl
  have q25 : (l_passes_67 (((v 5 0) - 0).toNat + 1) 0 (l_passes_12 (((v 2 0) - 0).toNat + 1) 0 (upv v 8 0 ((v 8 0) + 1)))) 11 0 = v 11 0 := (fr_l_passes_67 (((v 5 0) - 0).toNat + 1) 0 (l_passes_12 (((v 2 0) - 0).toNat + 1) 0 (upv v 8 0 ((v 8 0) + 1))) 11 0 (by decide)).trans q24
  have q26 : (l_passes_88 (((v 5 0) - 0).toNat + 1) 0 (l_passes_67 (((v 5 0) - 0).toNat + 1) 0 (l_passes_12 (((v 2 0) - 0).toNat + 1) 0 (upv v 8 0 ((v 8 0) + 1))))) 11 0 = v 11 0 := (fr_l_passes_88 (((v 5 0) - 0).toNat + 1) 0 (l_passes_67 (((v 5 0) - 0).toNat + 1) 0 (l_passes_12 (((v 2 0) - 0).toNat + 1) 0 (upv v 8 0 ((v 8 0) + 1)))) 11 0 (by decide)).trans q25
  have q27 : (l_passes_12 (((v 2 0) - 0).toNat + 1) 0 (upv v 8 0 ((v 8 0) + 1))) 9 0 = v 9 0 := (fr_l_passes_12 (((v 2 0) - 0).toNat + 1) 0 (upv v 8 0 ((v 8 0) + 1)) 9 0 (by decide)).trans rfl
  have q28 : (l_passes_67 (((v 5 0) - 0).toNat + 1) 0 (l_passes_12 (((v 2 0) - 0).toNat + 1) 0 (upv v 8 0 ((v 8 0) + 1)))) 9 0 = v 9 0 := (fr_l_passes_67 (((v 5 0) - 0).toNat + 1) 0 (l_passes_12 (((v 2 0) - 0).toNat + 1) 0 (upv v 8 0 ((v 8 0) + 1))) 9 0 (by decide)).trans q27
  have q29 : (l_passes_88 (((v 5 0) - 0).toNat + 1) 0 (l_passes_67 (((v 5 0) - 0).toNat + 1) 0 (l_passes_12 (((v 2 0) - 0).toNat + 1) 0 (upv v 8 0 ((v 8 0) + 1))))) 9 0 = v 9 0 := (fr_l_passes_88 (((v 5 0) - 0).toNat + 1) 0 (l_passes_67 (((v 5 0) - 0).toNat + 1) 0 (l_passes_12 (((v 2 0) - 0).toNat + 1) 0 (upv v 8 0 ((v 8 0) + 1)))) 9 0 (by decide)).trans q28
  have q30 : (l_passes_12 (((v 2 0) - 0).toNat + 1) 0 (upv v 8 0 ((v 8 0) + 1))) 6 0 = v 6 0 := (fr_l_passes_12 (((v 2 0) - 0).toNat + 1) 0 (upv v 8 0 ((v 8 0) + 1)) 6 0 (by decide)).trans rfl
  have q31 : (l_passes_67 (((v 5 0) - 0).toNat + 1) 0 (l_passes_12 (((v 2 0) - 0).toNat + 1) 0 (upv v 8 0 ((v 8 0) + 1)))) 6 0 = v 6 0 := (fr_l_passes_67 (((v 5 0) - 0).toNat + 1) 0 (l_passes_12 (((v 2 0) - 0).toNat + 1) 0 (upv v 8 0 ((v 8 0) + 1))) 6 0 (by decide)).trans q30
  have q32 : (l_passes_88 (((v 5 0) - 0).toNat + 1) 0 (l_passes_67 (((v 5 0) - 0).toNat + 1) 0 (l_passes_12 (((v 2 0) - 0).toNat + 1) 0 (upv v 8 0 ((v 8 0) + 1))))) 6 0 = v 6 0 := (fr_l_passes_88 (((v 5 0) - 0).toNat + 1) 0 (l_passes_67 (((v 5 0) - 0).toNat + 1) 0 (l_passes_12 (((v 2 0) - 0).toNat + 1) 0 (upv v 8 0 ((v 8 0) + 1)))) 6 0 (by decide)).trans q31
  have q33 : (l_passes_88 (((v 5 0) - 0).toNat + 1) 0 (l_passes_67 (((v 5 0) - 0).toNat + 1) 0 (l_passes_12 (((v 2 0) - 0).toNat + 1) 0 (upv v 8 0 ((v 8 0) + 1))))) 5 0 = v 5 0 := (fr_l_passes_88 (((v 5 0) - 0).toNat + 1) 0 (l_passes_67 (((v 5 0) - 0).toNat + 1) 0 (l_passes_12 (((v 2 0) - 0).toNat + 1) 0 (upv v 8 0 ((v 8 0) + 1)))) 5 0 (by decide)).trans q18
  have hJ34 := (i_fills  hJ19 (by exact hC3.2.1) (by exact hC3.2.2.1) (by omega) (by exact hH3.2.1) (by exact hH3.1))
  have hCJ4 := CI_fills (v := (l_passes_88 (((v 5 0) - 0).toNat + 1) 0 (l_passes_67 (((v 5 0) - 0).toNat + 1) 0 (l_passes_12 (((v 2 0) - 0).toNat + 1) 0 (upv v 8 0 ((v 8 0) + 1)))))) hH3 hC3 hJ3
  have hJ36 := (i_cleans  hJ34 )
  have hC5 : CI (f_cleans  (f_fills  (l_passes_88 (((v 5 0) - 0).toNat + 1) 0 (l_passes_67 (((v 5 0) - 0).toNat + 1) 0 (l_passes_12 (((v 2 0) - 0).toNat + 1) 0 (upv v 8 0 ((v 8 0) + 1))))))) := CI_fr (fun k hk i => fr_cleans k i (by omega)) hCJ4.1
  have hJ5 : CJ (f_cleans  (f_fills  (l_passes_88 (((v 5 0) - 0).toNat + 1) 0 (l_passes_67 (((v 5 0) - 0).toNat + 1) 0 (l_passes_12 (((v 2 0) - 0).toNat + 1) 0 (upv v 8 0 ((v 8 0) + 1))))))) := CJ_cleans_36 _ _ _ hCJ4.2
  have q39 : (f_fills  (l_passes_88 (((v 5 0) - 0).toNat + 1) 0 (l_passes_67 (((v 5 0) - 0).toNat + 1) 0 (l_passes_12 (((v 2 0) - 0).toNat + 1) 0 (upv v 8 0 ((v 8 0) + 1)))))) 5 0 = v 5 0 := (fr_fills (v := (l_passes_88 (((v 5 0) - 0).toNat + 1) 0 (l_passes_67 (((v 5 0) - 0).toNat + 1) 0 (l_passes_12 (((v 2 0) - 0).toNat + 1) 0 (upv v 8 0 ((v 8 0) + 1)))))) 5 0 (by decide)).trans q33
  have q40 : (f_cleans  (f_fills  (l_passes_88 (((v 5 0) - 0).toNat + 1) 0 (l_passes_67 (((v 5 0) - 0).toNat + 1) 0 (l_passes_12 (((v 2 0) - 0).toNat + 1) 0 (upv v 8 0 ((v 8 0) + 1))))))) 5 0 = v 5 0 := (fr_cleans (v := (f_fills  (l_passes_88 (((v 5 0) - 0).toNat + 1) 0 (l_passes_67 (((v 5 0) - 0).toNat + 1) 0 (l_passes_12 (((v 2 0) - 0).toNat + 1) 0 (upv v 8 0 ((v 8 0) + 1))))))) 5 0 (by decide)).trans q39
  have q41 : (l_passes_12 (((v 2 0) - 0).toNat + 1) 0 (upv v 8 0 ((v 8 0) + 1))) 7 0 = v 7 0 := (fr_l_passes_12 (((v 2 0) - 0).toNat + 1) 0 (upv v 8 0 ((v 8 0) + 1)) 7 0 (by decide)).trans rfl
  have q42 : (l_passes_67 (((v 5 0) - 0).toNat + 1) 0 (l_passes_12 (((v 2 0) - 0).toNat + 1) 0 (upv v 8 0 ((v 8 0) + 1)))) 7 0 = v 7 0 := (fr_l_passes_67 (((v 5 0) - 0).toNat + 1) 0 (l_passes_12 (((v 2 0) - 0).toNat + 1) 0 (upv v 8 0 ((v 8 0) + 1))) 7 0 (by decide)).trans q41
  have q43 : (l_passes_88 (((v 5 0) - 0).toNat + 1) 0 (l_passes_67 (((v 5 0) - 0).toNat + 1) 0 (l_passes_12 (((v 2 0) - 0).toNat + 1) 0 (upv v 8 0 ((v 8 0) + 1))))) 7 0 = v 7 0 := (fr_l_passes_88 (((v 5 0) - 0).toNat + 1) 0 (l_passes_67 (((v 5 0) - 0).toNat + 1) 0 (l_passes_12 (((v 2 0) - 0).toNat + 1) 0 (upv v 8 0 ((v 8 0) + 1)))) 7 0 (by decide)).trans q42
  have q44 : (f_fills  (l_passes_88 (((v 5 0) - 0).toNat + 1) 0 (l_passes_67 (((v 5 0) - 0).toNat + 1) 0 (l_passes_12 (((v 2 0) - 0).toNat + 1) 0 (upv v 8 0 ((v 8 0) + 1)))))) 7 0 = v 7 0 := (fr_fills (v := (l_passes_88 (((v 5 0) - 0).toNat + 1) 0 (l_passes_67 (((v 5 0) - 0).toNat + 1) 0 (l_passes_12 (((v 2 0) - 0).toNat + 1) 0 (upv v 8 0 ((v 8 0) + 1)))))) 7 0 (by decide)).trans q43
  have q45 : (f_cleans  (f_fills  (l_passes_88 (((v 5 0) - 0).toNat + 1) 0 (l_passes_67 (((v 5 0) - 0).toNat + 1) 0 (l_passes_12 (((v 2 0) - 0).toNat + 1) 0 (upv v 8 0 ((v 8 0) + 1))))))) 7 0 = v 7 0 := (fr_cleans (v := (f_fills  (l_passes_88 (((v 5 0) - 0).toNat + 1) 0 (l_passes_67 (((v 5 0) - 0).toNat + 1) 0 (l_passes_12 (((v 2 0) - 0).toNat + 1) 0 (upv v 8 0 ((v 8 0) + 1))))))) 7 0 (by decide)).trans q44
  have hJ46 := (i_startsQueue  hJ36 (by exact hC5.1))
  rw [f_passes]
  exact (hJ46).mono (by omega) (by omega) (by omega) (by omega)
theorem fr_passes {v : Vw} (fk : Nat) (fi : Int) (hk : fk ≠ 4 ∧ fk ≠ 5 ∧ fk ≠ 7 ∧ fk ≠ 8 ∧ fk ≠ 9 ∧ fk ≠ 10 ∧ fk ≠ 11 ∧ fk ≠ 15 ∧ fk ≠ 16 ∧ fk ≠ 17 ∧ fk ≠ 18 ∧ fk ≠ 19 ∧ fk ≠ 21 ∧ fk ≠ 22 ∧ fk ≠ 23 ∧ fk ≠ 24 ∧ fk ≠ 25 ∧ fk ≠ 26 ∧ fk ≠ 27 ∧ fk ≠ 28 ∧ fk ≠ 29 ∧ fk ≠ 30 ∧ fk ≠ 31 ∧ fk ≠ 34 ∧ fk ≠ 35 ∧ fk ≠ 38 ∧ fk ≠ 39 ∧ fk ≠ 44 ∧ fk ≠ 45 ∧ fk ≠ 46) : (f_passes v) fk fi = v fk fi := by
  rw [f_passes]
  exact ((fr_startsQueue (v := (f_cleans  (f_fills  (l_passes_88 (((v 5 0) - 0).toNat + 1) 0 (l_passes_67 (((v 5 0) - 0).toNat + 1) 0 (l_passes_12 (((v 2 0) - 0).toNat + 1) 0 (upv v 8 0 ((v 8 0) + 1)))))))) fk fi (by omega)).trans ((fr_cleans (v := (f_fills  (l_passes_88 (((v 5 0) - 0).toNat + 1) 0 (l_passes_67 (((v 5 0) - 0).toNat + 1) 0 (l_passes_12 (((v 2 0) - 0).toNat + 1) 0 (upv v 8 0 ((v 8 0) + 1))))))) fk fi (by omega)).trans ((fr_fills (v := (l_passes_88 (((v 5 0) - 0).toNat + 1) 0 (l_passes_67 (((v 5 0) - 0).toNat + 1) 0 (l_passes_12 (((v 2 0) - 0).toNat + 1) 0 (upv v 8 0 ((v 8 0) + 1)))))) fk fi (by omega)).trans ((fr_l_passes_88 (((v 5 0) - 0).toNat + 1) 0 (l_passes_67 (((v 5 0) - 0).toNat + 1) 0 (l_passes_12 (((v 2 0) - 0).toNat + 1) 0 (upv v 8 0 ((v 8 0) + 1)))) fk fi (by omega)).trans ((fr_l_passes_67 (((v 5 0) - 0).toNat + 1) 0 (l_passes_12 (((v 2 0) - 0).toNat + 1) 0 (upv v 8 0 ((v 8 0) + 1))) fk fi (by omega)).trans ((fr_l_passes_12 (((v 2 0) - 0).toNat + 1) 0 (upv v 8 0 ((v 8 0) + 1)) fk fi (by omega)).trans ((upv_nk (by omega)).trans rfl)))))))
theorem d_passes {v : Vw} : f_passes v 8 0 = v 8 0 + 1 := by
  unfold f_passes
  rw [fr_startsQueue 8 0 (by decide), fr_cleans 8 0 (by decide), fr_fills 8 0 (by decide), fr_l_passes_88 _ _ _ 8 0 (by decide), fr_l_passes_67 _ _ _ 8 0 (by decide), fr_l_passes_12 _ _ _ 8 0 (by decide), upv_eq]
theorem CI_passes {v : Vw} {T E : Int} (hI : IM v T E) (hC : CI v) (hJ : CJ v) : CI (f_passes v) ∧ CJ (f_passes v) := by
  have fr1 : ∀ (k : Nat) (i : Int), k ≠ 8 ∧ k ≠ 15 ∧ k ≠ 17 → l_passes_12 ((v 2 0 - 0).toNat + 1) 0 (upv v 8 0 (v 8 0 + 1)) k i = v k i := fun k i hk => (fr_l_passes_12 _ _ _ k i (by omega)).trans (upv_nk (by omega))
  have a : _ ∧ _ := CI_l_passes_67x ((v 5 0 - 0).toNat + 1) 0 (l_passes_12 ((v 2 0 - 0).toNat + 1) 0 (upv v 8 0 (v 8 0 + 1))) (by rw [fr1 5 0 (by decide)]; exact (hI.2 5 0).2) (by omega) (CI_fr (fun k hk i => fr1 k i (by omega)) hC) (CJ_l_passes_12 _ _ _ (CJ_fr (fun k hk i => upv_nk (by omega)) hJ))
  have fr2 : ∀ (k : Nat) (i : Int), k = 5 ∨ k = 6 ∨ k = 33 ∨ k = 37 ∨ k = 14 → l_passes_67 ((v 5 0 - 0).toNat + 1) 0 (l_passes_12 ((v 2 0 - 0).toNat + 1) 0 (upv v 8 0 (v 8 0 + 1))) k i = v k i := fun k i hk => (fr_l_passes_67 _ _ _ k i (by omega)).trans (fr1 k i (by omega))
  have b : _ ∧ _ := CI_l_passes_88x ((v 5 0 - 0).toNat + 1) 0 _ (by rw [fr2 5 0 (by decide)]; exact (hI.2 5 0).2) (by omega) (fun i => by rw [fr2 14 i (by decide)]; exact (hI.2 14 i).1) a.1 a.2
  have c := CI_fills (HH_fr (fun k hk i => (fr_l_passes_88 _ _ _ k i (by omega)).trans (fr2 k i (by omega))) ⟨(hI.2 5 0).2, (hI.2 6 0).2, fun i => (hI.2 37 i).1, fun i => hI.2 33 i⟩) b.1 b.2
  exact CI_l_startsQueue_2 _ 0 _ (by omega) (CI_fr (fun k hk i => fr_cleans k i (by omega)) c.1) (CJ_cleans_36 _ _ _ c.2)
def l_pass_28 (a was : Int) : Nat → Int → Vw → Int × Vw
  | 0, k, v => (0, v)
  | n + 1, k, v =>
    if a ≤ k then
      (((v 11 0) - was), v)
    else
      (l_pass_28 a was n (k + 1) (f_passes  v))
theorem fr_l_pass_28 {a : Int} {was : Int} : ∀ (n : Nat) (k : Int) (v : Vw) (fk : Nat) (fi : Int) (hk : fk ≠ 4 ∧ fk ≠ 5 ∧ fk ≠ 7 ∧ fk ≠ 8 ∧ fk ≠ 9 ∧ fk ≠ 10 ∧ fk ≠ 11 ∧ fk ≠ 15 ∧ fk ≠ 16 ∧ fk ≠ 17 ∧ fk ≠ 18 ∧ fk ≠ 19 ∧ fk ≠ 21 ∧ fk ≠ 22 ∧ fk ≠ 23 ∧ fk ≠ 24 ∧ fk ≠ 25 ∧ fk ≠ 26 ∧ fk ≠ 27 ∧ fk ≠ 28 ∧ fk ≠ 29 ∧ fk ≠ 30 ∧ fk ≠ 31 ∧ fk ≠ 34 ∧ fk ≠ 35 ∧ fk ≠ 38 ∧ fk ≠ 39 ∧ fk ≠ 44 ∧ fk ≠ 45 ∧ fk ≠ 46), (l_pass_28 a was n k v).2 fk fi = v fk fi := by
  intro n k v fk fi hk
  induction n generalizing k v with
  | zero => rfl
  | succ n ih =>
    by_cases c1 : a ≤ k
    · rw [l_pass_28, if_pos c1]
      try rfl
    · rw [l_pass_28, if_neg c1]
      exact (ih (k + 1) (f_passes  v)).trans ((fr_passes (v := v) fk fi (by omega)).trans rfl)
theorem i_l_pass_28 {T : Int} {a : Int} {was : Int} : ∀ (n : Nat) (k : Int) (v : Vw) (E : Int) (hI : IM v T E) (hk : 0 ≤ k ∧ k ≤ 100) (ha : 1 ≤ a ∧ a ≤ 30) (hC : CI v) (hJ : CJ v) (hd : v 8 0 + (a - k) ≤ T) (hE : E + 3300 * ((n : Nat) : Int) ≤ 1000000000) (h5 : v 5 0 ≤ 30), IM (l_pass_28 a was n k v).2 T (E + 3300 * (n : Int)) := by
  intro n
  induction n with
  | zero =>
    intro k v E hI hk ha hC hJ hd hE h5
    have hT := hI.1
    exact hI.mono (by omega) (by omega) (by omega) (by omega)
  | succ n ih =>
    intro k v E hI hk ha hC hJ hd hE h5
    have hT := hI.1
    have u5 : 0 ≤ v 5 0 ∧ v 5 0 ≤ 30 := hI.2 5 0
    have u8 : 0 ≤ v 8 0 ∧ v 8 0 ≤ T := hI.2 8 0
    by_cases c1 : a ≤ k
    · have q2 : 0 ≤ v 11 0 ∧ v 11 0 ≤ 20 := hI.2 11 0
      rw [l_pass_28, if_pos c1]
      exact (hI).mono (by omega) (by omega) (by omega) (by omega)
    · have hJ3 := (i_passes  hI (by exact hC) (by exact hJ) (by show (v 8 0) + 1 ≤ T; omega) (by omega) (by show (v 5 0) ≤ 30; omega))
      have q4 : (f_passes  v) 8 0 = (v 8 0) + 1 := d_passes
      rw [l_pass_28, if_neg c1]
      exact (ih (k + 1) (f_passes  v) (E + 3300) ((hJ3).mono (T' := T) (E' := E + 3300) (by omega) (by omega) (by omega) (by omega)) (by show 0 ≤ (k + 1) ∧ (k + 1) ≤ 100; omega) (by show 1 ≤ a ∧ a ≤ 30; omega) (by exact (CI_passes hI hC hJ).1) (by exact (CI_passes hI hC hJ).2) (by show ((f_passes  v) 8 0) + (a - (k + 1)) ≤ T; omega) (by omega) (by exact (hJ3.2 5 0).2)).mono (by omega) (by omega) (by omega) (by omega)
def f_pass (a : Int) (v : Vw) : Int × Vw :=
  if (f_in a 1 30) = 0 then
    ((f_fails 1 v).1, (f_fails 1 v).2)
  else
    (l_pass_28 a (v 11 0) ((a - 0).toNat + 1) 0 (upv v 0 0 0))
theorem i_pass {v : Vw} {T E : Int} {a : Int} (hI : IM v T E) (ha : -2147483648 ≤ a ∧ a < 2147483648) (hC : CI v) (hJ : CJ v) (hd : v 8 0 + 30 ≤ T) (hE : E + 102300 ≤ 1000000000) : IM (f_pass a v).2 T (E + 102300) := by
  have hT := hI.1
  have u8 : 0 ≤ v 8 0 ∧ v 8 0 ≤ T := hI.2 8 0
  have q5 : 0 ≤ (f_in a 1 30) ∧ (f_in a 1 30) ≤ 1 := r_in
  have q6 := c_in a 1 30
  by_cases c7 : (f_in a 1 30) = 0
  · have hJ8 := (i_fails (c := 1) hI (by show 0 ≤ 1 ∧ 1 ≤ 4; omega))
    rw [f_pass, if_pos c7]
    exact (hJ8).mono (by omega) (by omega) (by omega) (by omega)
  · have u5 : 0 ≤ v 5 0 ∧ v 5 0 ≤ 30 := hI.2 5 0
    have q9 : 0 ≤ v 11 0 ∧ v 11 0 ≤ 20 := hI.2 11 0
    rw [f_pass, if_neg c7]
    exact (i_l_pass_28  ((a - 0).toNat + 1) 0 (upv v 0 0 0) E (hI.up 0 0 0 (by show 0 ≤ 0 ∧ 0 ≤ 4; omega)) (by show 0 ≤ 0 ∧ 0 ≤ 100; omega) (by show 1 ≤ a ∧ a ≤ 30; omega) (by exact CI_fr (fun k hk i => upv_nk (by omega)) hC) (by exact CJ_fr (fun k hk i => upv_nk (by omega)) hJ) (by show (v 8 0) + (a - 0) ≤ T; omega) (by omega) (by show (v 5 0) ≤ 30; omega)).mono (by omega) (by omega) (by omega) (by omega)
theorem fr_pass {a : Int} {v : Vw} (fk : Nat) (fi : Int) (hk : fk ≠ 0 ∧ fk ≠ 4 ∧ fk ≠ 5 ∧ fk ≠ 7 ∧ fk ≠ 8 ∧ fk ≠ 9 ∧ fk ≠ 10 ∧ fk ≠ 11 ∧ fk ≠ 15 ∧ fk ≠ 16 ∧ fk ≠ 17 ∧ fk ≠ 18 ∧ fk ≠ 19 ∧ fk ≠ 21 ∧ fk ≠ 22 ∧ fk ≠ 23 ∧ fk ≠ 24 ∧ fk ≠ 25 ∧ fk ≠ 26 ∧ fk ≠ 27 ∧ fk ≠ 28 ∧ fk ≠ 29 ∧ fk ≠ 30 ∧ fk ≠ 31 ∧ fk ≠ 34 ∧ fk ≠ 35 ∧ fk ≠ 38 ∧ fk ≠ 39 ∧ fk ≠ 44 ∧ fk ≠ 45 ∧ fk ≠ 46) : (f_pass a v).2 fk fi = v fk fi := by
  by_cases c7 : (f_in a 1 30) = 0
  · rw [f_pass, if_pos c7]
    exact ((fr_fails (c := 1) (v := v) fk fi (by omega)).trans rfl)
  · rw [f_pass, if_neg c7]
    exact (fr_l_pass_28 ((a - 0).toNat + 1) 0 (upv v 0 0 0) fk fi (by omega)).trans ((upv_nk (by omega)).trans rfl)
