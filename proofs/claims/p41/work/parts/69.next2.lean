/-! the next order in the reference, and its search -/
theorem t7_ok {v : Vw} {N : Int} : ∀ (n : Nat) (k : Int), -1 ≤ k → k + 1 < N → (k + 1).toNat < n → (∀ t, k < t → t + 1 < N → ¬ v 40 t < v 40 (t + 1)) →
    (-1 ≤ l_turns_7 v n k ∧ l_turns_7 v n k ≤ k) ∧ (0 ≤ l_turns_7 v n k → v 40 (l_turns_7 v n k) < v 40 (l_turns_7 v n k + 1)) ∧ ∀ t, l_turns_7 v n k < t → t + 1 < N → ¬ v 40 t < v 40 (t + 1) := by
  intro n
  induction n with
  | zero => exact fun _ _ _ h => absurd h (Nat.not_lt_zero _)
  | succ n ih =>
    intro k h0 h1 hm hd
    rw [l_turns_7]
    by_cases c1 : k < 0
    · rw [if_pos c1]
      exact ⟨⟨h0, Int.le_refl _⟩, fun q => by omega, hd⟩
    · rw [if_neg c1]
      by_cases c2 : v 40 k < v 40 (k + 1)
      · rw [if_pos c2]
        exact ⟨⟨h0, Int.le_refl _⟩, fun _ => c2, hd⟩
      · rw [if_neg c2]
        obtain ⟨g2, g3, g4⟩ := ih (k + -1) (by omega) (by omega) (by omega) (fun t t0 t1 => by
          by_cases e : t = k
          · rw [e]
            exact c2
          · exact hd t (by omega) t1)
        exact ⟨⟨g2.1, by omega⟩, g3, g4⟩
theorem t47_ok {v : Vw} {N k : Int} (k0 : 0 ≤ k) (hk : v 40 k < v 40 (k + 1)) : ∀ (n : Nat) (j : Int), k < j → j < N → j.toNat < n → (∀ t, j < t → t < N → ¬ v 40 k < v 40 t) →
    (k < l_turns_47 k v n j ∧ l_turns_47 k v n j ≤ j) ∧ v 40 k < v 40 (l_turns_47 k v n j) ∧ ∀ t, l_turns_47 k v n j < t → t < N → ¬ v 40 k < v 40 t := by
  intro n
  induction n with
  | zero => exact fun _ _ _ h => absurd h (Nat.not_lt_zero _)
  | succ n ih =>
    intro j h0 h1 hm hd
    rw [l_turns_47]
    by_cases c2 : v 40 k < v 40 j
    · rw [if_pos c2]
      exact ⟨⟨h0, Int.le_refl _⟩, c2, hd⟩
    · rw [if_neg c2]
      have hb1 : ¬ j = k + 1 := fun e => by rw [e] at c2; exact c2 hk
      obtain ⟨g2, g3, g4⟩ := ih (j + -1) (by omega) (by omega) (by omega) (fun t t0 t1 => by
        by_cases e : t = j
        · rw [e]
          exact c2
        · exact hd t (by omega) t1)
      exact ⟨⟨g2.1, by omega⟩, g3, g4⟩
theorem swaps_at {a b : Int} {v : Vw} (t : Int) : f_swaps a b v 40 t = if t = b then v 40 a else if t = a then v 40 b else v 40 t := by
  unfold f_swaps
  by_cases e : t = b
  · rw [if_pos e, e]
    exact upv_eq _ _ _ _
  · rw [if_neg e, upv_ni e]
    by_cases e2 : t = a
    · rw [if_pos e2, e2]
      exact upv_eq _ _ _ _
    · rw [if_neg e2]
      exact upv_ni e2
theorem t86_ok : ∀ (n : Nat) (lo hi : Int) (v : Vw), lo ≤ hi + 1 → (hi - lo).toNat < n → (l_turns_86 n lo hi v).1 = 1 ∧ ∀ t, (l_turns_86 n lo hi v).2 40 t = if lo ≤ t ∧ t ≤ hi then v 40 (lo + hi - t) else v 40 t := by
  intro n
  induction n with
  | zero => exact fun _ _ _ _ h => absurd h (Nat.not_lt_zero _)
  | succ n ih =>
    intro lo hi v h0 hm
    rw [l_turns_86]
    by_cases c1 : hi ≤ lo
    · rw [if_pos c1]
      refine ⟨rfl, fun t => ?_⟩
      by_cases e : lo ≤ t ∧ t ≤ hi
      · rw [if_pos e]
        show v 40 t = _
        congr 1
        omega
      · rw [if_neg e]
    · rw [if_neg c1]
      obtain ⟨g1, g2⟩ := ih (lo + 1) (hi + -1) (f_swaps lo hi v) (by omega) (by omega)
      refine ⟨g1, fun t => ?_⟩
      rw [g2 t, swaps_at, swaps_at]
      by_cases e : lo + 1 ≤ t ∧ t ≤ hi + -1
      · rw [if_pos e, if_pos (show lo ≤ t ∧ t ≤ hi by omega), if_neg (by omega), if_neg (by omega)]
        congr 1
        omega
      · rw [if_neg e]
        by_cases e2 : t = hi
        · rw [if_pos e2, if_pos (show lo ≤ t ∧ t ≤ hi by omega)]
          congr 1
          omega
        · rw [if_neg e2]
          by_cases e3 : t = lo
          · rw [if_pos e3, if_pos (show lo ≤ t ∧ t ≤ hi by omega)]
            congr 1
            omega
          · rw [if_neg e3, if_neg (show ¬ (lo ≤ t ∧ t ≤ hi) by omega)]
theorem turns_eq {v : Vw} (h7 : 1 ≤ v 7 0) : (np ((rng (v 7 0)).map (v 40)) = none ∧ f_turns v = (0, v)) ∨ ∃ Y, np ((rng (v 7 0)).map (v 40)) = some Y ∧ (f_turns v).1 = 1 ∧ (rng (v 7 0)).map ((f_turns v).2 40) = Y := by
  have hl := map_len (f := v 40) (show 0 ≤ v 7 0 by omega)
  obtain ⟨a2, a3, a4⟩ := t7_ok (v := v) (N := v 7 0) ((((v 7 0) - 2) + 1).toNat + 1) (v 7 0 - 2) (by omega) (by omega) (by omega) (fun t t0 t1 => by omega)
  unfold f_turns
  revert a2 a3 a4
  generalize l_turns_7 v ((((v 7 0) - 2) + 1).toNat + 1) (v 7 0 - 2) = a
  intro a2 a3 a4
  by_cases c1 : 0 ≤ a
  · rw [if_pos c1]
    obtain ⟨b2, b3, b4⟩ := t47_ok (N := v 7 0) c1 (a3 c1) ((((v 7 0) - 1)).toNat + 1) (v 7 0 - 1) (by omega) (by omega) (by omega) (fun t t0 t1 => by omega)
    revert b2 b3 b4
    generalize l_turns_47 a v ((((v 7 0) - 1)).toNat + 1) (v 7 0 - 1) = b
    intro b2 b3 b4
    obtain ⟨g1, g2⟩ := t86_ok ((((v 7 0) - 1) - (a + 1)).toNat + 1) (a + 1) (v 7 0 - 1) (f_swaps a b v) (by omega) (by omega)
    refine Or.inr ⟨_, ?_, g1, rfl⟩
    have hl2 := map_len (f := (l_turns_86 ((((v 7 0) - 1) - (a + 1)).toNat + 1) (a + 1) (v 7 0 - 1) (f_swaps a b v)).2 40) (show 0 ≤ v 7 0 by omega)
    refine nx_some c1 b2.1 (by omega) (fun t t0 t1 => ?_) ?_ (fun t t0 t1 => ?_) (by omega) (fun t t0 t1 => ?_)
    · rw [lget_map (by omega) (by omega), lget_map (by omega) (by omega)]
      exact a4 t t0 (by omega)
    · rw [lget_map (by omega) (by omega), lget_map (by omega) (by omega)]
      exact b3
    · rw [lget_map (by omega) (by omega), lget_map (by omega) (by omega)]
      exact b4 t t0 (by omega)
    · rw [lget_map t0 (by omega), hl, g2 t, swaps_at, swaps_at]
      by_cases e1 : t < a
      · rw [if_neg (show ¬ (a + 1 ≤ t ∧ t ≤ v 7 0 - 1) by omega), if_pos e1, if_neg (show ¬ t = b by omega), if_neg (show ¬ t = a by omega), lget_map t0 (by omega)]
      · rw [if_neg e1]
        by_cases e2 : t = a
        · rw [if_neg (show ¬ (a + 1 ≤ t ∧ t ≤ v 7 0 - 1) by omega), if_pos e2, if_neg (show ¬ t = b by omega), if_pos e2, lget_map (by omega) (by omega)]
        · rw [if_pos (show a + 1 ≤ t ∧ t ≤ v 7 0 - 1 by omega), if_neg e2]
          have ei : a + 1 + (v 7 0 - 1) - t = a + v 7 0 - t := by omega
          rw [ei]
          by_cases e3 : a + v 7 0 - t = b
          · rw [if_pos e3, if_pos e3, lget_map (by omega) (by omega)]
          · rw [if_neg e3, if_neg e3, if_neg (show ¬ a + v 7 0 - t = a by omega), lget_map (by omega) (by omega)]
  · rw [if_neg c1]
    refine Or.inl ⟨nx_none (fun j j0 j1 => ?_), rfl⟩
    rw [lget_map (by omega) (by omega), lget_map (by omega) (by omega)]
    exact a4 j (by omega) (by omega)
theorem f99_at : ∀ (n : Nat) (x : Int) (v : Vw), 0 ≤ x → (v 7 0 - x).toNat < n → ∀ t, l_finds_99 n x v 41 t = if x ≤ t ∧ t < v 7 0 then v 40 t else v 41 t := by
  intro n
  induction n with
  | zero => exact fun _ _ _ h => absurd h (Nat.not_lt_zero _)
  | succ n ih =>
    intro x v h0 hm t
    rw [l_finds_99]
    by_cases c1 : v 7 0 ≤ x
    · rw [if_pos c1, if_neg (by omega)]
    · rw [if_neg c1, ih (x + 1) (upv v 41 x (v 40 x)) (by omega) (show (v 7 0 - (x + 1)).toNat < n by omega) t]
      have e7 : upv v 41 x (v 40 x) 7 0 = v 7 0 := rfl
      have e40 : upv v 41 x (v 40 x) 40 t = v 40 t := rfl
      rw [e7, e40]
      by_cases e : t = x
      · rw [if_neg (by omega), if_pos (by omega), e]
        exact upv_eq _ _ _ _
      · by_cases e2 : x + 1 ≤ t ∧ t < v 7 0
        · rw [if_pos e2, if_pos (by omega)]
        · rw [if_neg e2, if_neg (by omega)]
          exact upv_ni e
theorem s0_fr {v w : Vw} {W : Int → Int} (F : ∀ k, k ≠ 0 ∧ k ≠ 40 ∧ k ≠ 41 ∧ k ≠ 42 ∧ k ≠ 43 → w k = v k) : s0 w W = s0 v W := by
  unfold s0 df
  rw [F 8 (by decide), F 15 (by decide), F 16 (by decide), F 17 (by decide), F 19 (by decide), F 28 (by decide), F 30 (by decide)]
theorem WM.fr {v w : Vw} {W : Int → Int} {K : Nat} (h : WM v K W) (F : ∀ k, k ≠ 0 ∧ k ≠ 40 ∧ k ≠ 41 ∧ k ≠ 42 ∧ k ≠ 43 → w k = v k) : WM w K W := by
  unfold WM
  rw [F 2 (by decide), F 20 (by decide)]
  exact h
def valF (K : Nat) (v : Vw) (W : Int → Int) (p : List Int) : Int := fcu K (v 13) (v 12) p (s0 v W) 0
theorem finds_lock {v0 : Vw} {W : Int → Int} {K : Nat} {T E : Int} (hW : WM v0 K W) (hK : 1 ≤ K) (h7 : 1 ≤ v0 7 0) (h2 : 0 ≤ v0 2 0) : ∀ (n : Nat) (r : List (List Int)) (X : List Int) (least : Int) (v : Vw), (∀ k, k ≠ 0 ∧ k ≠ 40 ∧ k ≠ 41 ∧ k ≠ 42 ∧ k ≠ 43 → v k = v0 k) → IM v T E → HasF v → (rng (v0 7 0)).map (v 40) = X → Chn X r → (mT 1 v).toNat < n →
    (l_finds_76 n least 1 v).1 = ((X :: r).foldl (bst (valF K v0 W)) (least, (rng (v0 7 0)).map (v 41))).1 ∧ (rng (v0 7 0)).map ((l_finds_76 n least 1 v).2 41) = ((X :: r).foldl (bst (valF K v0 W)) (least, (rng (v0 7 0)).map (v 41))).2 := by
  intro n
  induction n with
  | zero => exact fun _ _ _ _ _ _ _ _ _ h => absurd h (Nat.not_lt_zero _)
  | succ n ih =>
    intro r X least v F hI hF hX hC hm
    have e7 : v 7 0 = v0 7 0 := by rw [F 7 (by decide)]
    have cont : ∀ (ls : Int) (w : Vw), (∀ k, k ≠ 0 ∧ k ≠ 40 ∧ k ≠ 41 ∧ k ≠ 42 ∧ k ≠ 43 → w k = v0 k) → IM w T E → HasF w → (rng (v0 7 0)).map (w 40) = X → val6 w = val6 v →
        (l_finds_76 n ls (f_turns w).1 (f_turns w).2).1 = (r.foldl (bst (valF K v0 W)) (ls, (rng (v0 7 0)).map (w 41))).1 ∧ (rng (v0 7 0)).map ((l_finds_76 n ls (f_turns w).1 (f_turns w).2).2 41) = (r.foldl (bst (valF K v0 W)) (ls, (rng (v0 7 0)).map (w 41))).2 := fun ls w Fw Iw Hw wX wv => by
      have w7 : w 7 0 = v0 7 0 := by rw [Fw 7 (by decide)]
      have ms := mT_step (more := 1) ne10 Iw (by omega) wv hm
      have It := i_turns Iw (by omega)
      have ft : ∀ k, k ≠ 40 → (f_turns w).2 k = w k := fun k hk => funext fun i => fr_turns k i hk
      have te := turns_eq (v := w) (by omega)
      rw [w7, wX] at te
      rcases te with ⟨t1, t2⟩ | ⟨Y, t1, t2, t3⟩
      · cases r with
        | cons q r =>
          have := hC.1
          rw [t1] at this
          cases this
        | nil =>
          rw [t2] at ms ⊢
          cases n with
          | zero => exact absurd ms (Nat.not_lt_zero _)
          | succ n =>
            rw [l_finds_76, if_pos rfl]
            exact ⟨rfl, rfl⟩
      · cases r with
        | nil =>
          have : np X = none := hC
          rw [t1] at this
          cases this
        | cons q r =>
          have hq : Y = q := by
            have := hC.1
            rw [t1] at this
            exact Option.some.inj this
          subst hq
          rw [t2] at ms ⊢
          have g := ih r Y ls (f_turns w).2 (fun k hk => (ft k (by omega)).trans (Fw k hk)) It (HasF_fr (fr_turns 2 0 (by decide)) (fun i => fr_turns 20 i (by decide)) Hw) t3 hC.2 ms
          rw [ft 41 (by decide)] at g
          exact g
    have hv : (f_forecastOf 40 v).1 = valF K v0 W X := by
      have g := fo_ref (v := v) (kr := 40) (W := W) (hW.fr F) (by decide) hK (by omega) (by rw [F 2 (by decide)]; exact h2)
      rw [e7, F 13 (by decide), F 12 (by decide), s0_fr F, hX] at g
      exact g
    have ff : ∀ k, k ≠ 42 ∧ k ≠ 43 → (f_forecastOf 40 v).2 k = v k := fun k hk => funext fun i => fr_forecastOf k i hk
    have If := (i_forecastOf (kr := 40) hI (Or.inr rfl) hF).1
    have Hf : HasF (f_forecastOf 40 v).2 := HasF_fr (fr_forecastOf 2 0 (by decide)) (fun i => fr_forecastOf 20 i (by decide)) hF
    rw [l_finds_76, if_neg ne10, List.foldl_cons]
    have eb : bst (valF K v0 W) (least, (rng (v0 7 0)).map (v 41)) X = if (f_forecastOf 40 v).1 < least then ((f_forecastOf 40 v).1, X) else (least, (rng (v0 7 0)).map (v 41)) := by
      unfold bst
      rw [← hv]
    rw [eb]
    by_cases c1 : least ≤ (f_forecastOf 40 v).1
    · rw [if_pos c1, if_neg (by omega)]
      have g := cont least (f_forecastOf 40 v).2 (fun k hk => (ff k (by omega)).trans (F k hk)) If Hf (by rw [ff 40 (by decide)]; exact hX) (val6_congr (fun i => fr_forecastOf 40 i (by decide)))
      rw [ff 41 (by decide)] at g
      exact g
    · rw [if_neg c1, if_pos (by omega)]
      have f9 : ∀ k, k ≠ 41 → l_finds_99 (((v 7 0) - 0).toNat + 1) 0 (f_forecastOf 40 v).2 k = (f_forecastOf 40 v).2 k := fun k hk => funext fun i => fr_l_finds_99 _ _ _ k i hk
      have a9 := f99_at (((v 7 0) - 0).toNat + 1) 0 (f_forecastOf 40 v).2 (Int.le_refl 0) (by rw [ff 7 (by decide)]; omega)
      have I9 := i_l_finds_99 (((v 7 0) - 0).toNat + 1) 0 (f_forecastOf 40 v).2 If ⟨Int.le_refl 0, by decide⟩
      revert f9 a9 I9
      generalize l_finds_99 (((v 7 0) - 0).toNat + 1) 0 (f_forecastOf 40 v).2 = w
      intro f9 a9 I9
      have m41 : (rng (v0 7 0)).map (w 41) = X := by
        rw [← hX]
        refine map_rng_congr (fun i i0 i1 => ?_)
        rw [a9 i, ff 7 (by decide), if_pos (by omega), ff 40 (by decide)]
      have g := cont (f_forecastOf 40 v).1 w (fun k hk => (f9 k (by omega)).trans ((ff k (by omega)).trans (F k hk))) I9 (HasF_fr (by rw [f9 2 (by decide)]) (fun i => by rw [f9 20 (by decide)]) Hf) (by rw [f9 40 (by decide), ff 40 (by decide)]; exact hX) (val6_congr (fun i => by rw [f9 40 (by decide), ff 40 (by decide)]))
      rw [m41] at g
      exact g
theorem finds_eq {v : Vw} {W : Int → Int} {K : Nat} {T E : Int} {S : List Int} (hW : WM v K W) (hK : 1 ≤ K) (hI : IM v T E) (hF : HasF v) (h7 : 1 ≤ v 7 0) (hS : Srt S) (hp : S.Perm ((rng (v 7 0)).map (v 39))) :
    (f_finds v).1 = ((lp S.length S).foldl (bst (valF K v W)) (2147483647, (rng (v 7 0)).map (v 41))).1 ∧ (rng (v 7 0)).map ((f_finds v).2 41) = ((lp S.length S).foldl (bst (valF K v W)) (2147483647, (rng (v 7 0)).map (v 41))).2 := by
  have u2 : 0 ≤ v 2 0 ∧ v 2 0 ≤ 8 := hI.2 2 0
  obtain ⟨s1, s2⟩ := fi2 (((v 7 0) - 0).toNat + 1) 0 v (Int.le_refl 0) (by omega) (by omega) List.Pairwise.nil (List.Perm.refl _)
  have F : ∀ k, k ≠ 40 → l_finds_2 (((v 7 0) - 0).toNat + 1) 0 v k = v k := fun k hk => funext fun i => fr_l_finds_2 _ _ _ k i hk
  have I2 := i_l_finds_2 (((v 7 0) - 0).toNat + 1) 0 v hI ⟨Int.le_refl 0, by decide⟩
  unfold f_finds
  revert s1 s2 F I2
  generalize l_finds_2 (((v 7 0) - 0).toNat + 1) 0 v = w
  intro s1 s2 F I2
  have eS : (rng (v 7 0)).map (w 40) = S := srt_uniq _ _ s1 hS (s2.trans hp.symm)
  obtain ⟨r, r1, r2, _⟩ := lp_ch S.length S rfl hS
  have g := finds_lock (T := T) (E := E) hW hK h7 u2.1 ((mT 1 w).toNat + 1) r S 2147483647 w (fun k hk => F k (by omega)) I2 (HasF_fr (by rw [F 2 (by decide)]) (fun i => by rw [F 20 (by decide)]) hF) eS r2 (by omega)
  rw [F 41 (by decide)] at g
  rw [r1]
  exact g
