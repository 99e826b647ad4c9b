/-! the calls bestForecast, bestForecastByTrying, improve: both sides agree -/
theorem try_lock {v : Vw} {T E : Int} {K : Nat} {W : Int → Int} {l0 : Nat} (hI : IM v T E) (hK : 1 ≤ K) (h6 : 1 ≤ l0 ∧ l0 ≤ 6) : ∀ (n : Nat) (r : List (List Int)) (u i : Int) (c : Cs) (X B : List Int), INV c v → (c.1 10).toNat = K → c.2.1 10 0 = W → c.2.2.1 12 = X → Chn X r → X.length = l0 → (∀ x ∈ X, 0 ≤ x ∧ x < v 1 0) → (∀ p ∈ r, p.length = l0 ∧ ∀ x ∈ p, 0 ≤ x ∧ x < v 1 0) → (0 ≤ u ∧ u ≤ 31000) → 0 ≤ i → i + (r.length : Int) ≤ 720 → (720 - i).toNat < n →
    okl_X5_tryAll_21 (v 8 0) n u i c ∧ (l_X5_tryAll_21 (v 8 0) n u i c).1 = (r.foldl (bst (valF K v W)) (u, B)).1 ∧ FX c (l_X5_tryAll_21 (v 8 0) n u i c).2 := by
  intro n
  induction n with
  | zero => exact fun _ _ _ _ _ _ _ _ _ _ _ _ _ _ _ _ _ h => absurd h (Nat.not_lt_zero _)
  | succ n ih =>
    intro r u i c X B hN e10 eW hX hC hl hx hr hu i0 hi hm
    rw [okl_X5_tryAll_21, l_X5_tryAll_21]
    by_cases c1 : 720 ≤ i
    · have : r = [] := List.eq_nil_of_length_eq_zero (by omega)
      subst this
      rw [if_pos c1, if_pos c1]
      exact ⟨⟨⟨by omega, by omega⟩, trivial⟩, rfl, FX.refl c⟩
    · rw [if_neg c1, if_neg c1]
      obtain ⟨g0, g⟩ := next_ok (k := 12) hN hI rfl hX hx (by omega) (by omega)
      rcases g with ⟨g1, g2⟩ | ⟨Y, g1, g2⟩
      · cases r with
        | cons q r =>
          have := hC.1
          rw [g1] at this
          cases this
        | nil =>
          rw [g2, if_pos rfl, if_pos rfl]
          exact ⟨⟨⟨by omega, by omega⟩, g0, trivial⟩, rfl, FX.refl c⟩
      · cases r with
        | nil =>
          have : np X = none := hC
          rw [g1] at this
          cases this
        | cons q r =>
          have hq : Y = q := by
            have := hC.1
            rw [g1] at this
            exact Option.some.inj this
          subst hq
          obtain ⟨yl, yx⟩ := hr Y List.mem_cons_self
          have fx1 : FX c (clst c 12 Y) := FX.lst (by decide)
          have l12 : (clst c 12 Y).2.2.1 12 = Y := clst_eq _ _ _
          have N1 := hN.fx fx1
          obtain ⟨a1, a2, a3⟩ := fo_ok (l := 12) N1 hI rfl (by show 1 ≤ (c.1 10).toNat; omega) (by rw [l12]; exact yx) (by rw [l12]; omega)
          have ny : Y ≠ [] := fun e => by rw [e] at yl; simp at yl; omega
          rw [l12, show (clst c 12 Y).1 10 = c.1 10 from rfl, e10, show (clst c 12 Y).2.1 10 0 = c.2.1 10 0 from rfl, eW, valF_d hI hK ny] at a2
          have rv := valF_r (K := K) (W := W) (p := Y) hI hK (by omega)
          have e31 : (Y :: r).foldl (bst (valF K v W)) (u, B) = r.foldl (bst (valF K v W)) ((if valF K v W Y < u then valF K v W Y else u), (if valF K v W Y < u then Y else B)) := by
            rw [List.foldl_cons]
            congr 1
            unfold bst
            by_cases c2 : valF K v W Y < u
            · rw [if_pos c2, if_pos c2, if_pos c2]
            · rw [if_neg c2, if_neg c2, if_neg c2]
          rw [g2, if_neg ne10, if_neg ne10]
          simp only
          rw [a2, e31]
          have hu2 : 0 ≤ (if valF K v W Y < u then valF K v W Y else u) ∧ (if valF K v W Y < u then valF K v W Y else u) ≤ 31000 := by
            split <;> omega
          rw [List.length_cons] at hi
          have fx2 : FX c (g_X5_forecastOf 12 (v 8 0) (clst c 12 Y)).2 := fx1.trans a3.fx
          obtain ⟨j1, j2, j3⟩ := ih r (if valF K v W Y < u then valF K v W Y else u) (i + 1) (g_X5_forecastOf 12 (v 8 0) (clst c 12 Y)).2 Y (if valF K v W Y < u then Y else B) (hN.fx fx2) (by rw [fx2.1]; exact e10) (by rw [fx2.2.2.1]; exact eW) (by rw [a3.2.2.2, l12]) hC.2 yl yx (fun p hp => hr p (List.mem_cons_of_mem _ hp)) hu2 (by omega) (by omega) (by omega)
          exact ⟨⟨⟨by omega, by omega⟩, g0, a1, ⟨by omega, by omega⟩, ⟨by omega, by omega⟩, j1⟩, j2, fx2.trans j3⟩
theorem tryA_ok {c : Cs} {v : Vw} {T E : Int} (hN : INV c v) (hI : IM v T E) (h7 : 1 ≤ v 7 0) (hK : 1 ≤ (c.1 10).toNat) (hF : HasF v) : ok_X5_tryAll 4 (v 8 0) c ∧ (g_X5_tryAll 4 (v 8 0) c).1 = (f_finds v).1 ∧ FX c (g_X5_tryAll 4 (v 8 0) c).2 := by
  have n10 : 0 ≤ c.1 10 := hN.1.c0.2.1.2.2
  have u7 : 0 ≤ v 7 0 ∧ v 7 0 ≤ 6 := hI.2 7 0
  obtain ⟨m1, m2, m3⟩ := q_mem hN u7
  have hq : c.2.2.1 4 = (rng (v 7 0)).map (v 39) := hN.1.cq
  have ql : ((c.2.2.1 4).length : Int) = v 7 0 := by rw [hq]; exact map_len u7.1
  have hWM := hN.1.cs.wm n10
  unfold ok_X5_tryAll g_X5_tryAll
  obtain ⟨s1, Y, s2, s3, s4⟩ := copyS_ok (l := 4) (k := 12) hN hI (by decide) rfl rfl (by decide) m1 (by omega)
  have yl := s4.length_eq
  have fx1 : FX c (clst c 12 Y) := FX.lst (by decide)
  have l12 : (clst c 12 Y).2.2.1 12 = Y := clst_eq _ _ _
  have N1 := hN.fx fx1
  have yx : ∀ x ∈ Y, 0 ≤ x ∧ x < v 1 0 := fun x m => m1 x (s4.subset m)
  obtain ⟨a1, a2, a3⟩ := fo_ok (l := 12) N1 hI rfl (show 1 ≤ ((clst c 12 Y).1 10).toNat from hK) (by rw [l12]; exact yx) (by rw [l12]; omega)
  have ny : Y ≠ [] := fun e => by rw [e] at yl; simp at yl; omega
  rw [l12, show (clst c 12 Y).1 10 = c.1 10 from rfl, show (clst c 12 Y).2.1 10 0 = c.2.1 10 0 from rfl, valF_d hI hK ny] at a2
  rw [s2, a2]
  have rv := valF_r (K := (c.1 10).toNat) (W := c.2.1 10 0) (p := Y) hI hK (by omega)
  obtain ⟨r, r1, r2, _⟩ := lp_ch Y.length Y rfl s3
  have rlen : r.length + 1 ≤ 720 := by
    have := lp_len Y.length Y
    have f := fct_6 (n := Y.length) (by omega)
    rw [r1, List.length_cons] at this
    omega
  have fe := finds_eq (W := c.2.1 10 0) (K := (c.1 10).toNat) (S := Y) hWM hK hI hF h7 s3 (by rw [← hq]; exact s4)
  have fx2 : FX c (g_X5_forecastOf 12 (v 8 0) (clst c 12 Y)).2 := fx1.trans a3.fx
  obtain ⟨j1, j2, j3⟩ := try_lock (K := (c.1 10).toNat) (W := c.2.1 10 0) (l0 := Y.length) hI hK (by omega) fu r (valF (c.1 10).toNat v (c.2.1 10 0) Y) 1 (g_X5_forecastOf 12 (v 8 0) (clst c 12 Y)).2 Y Y (hN.fx fx2) (by rw [fx2.1]) (by rw [fx2.2.2.1]) (by rw [a3.2.2.2, l12]) r2 rfl yx (fun p hp => by
    obtain ⟨b1, b2⟩ := lp_sub Y.length Y p rfl (by rw [r1]; exact List.mem_cons_of_mem _ hp)
    exact ⟨b1, fun x m => yx x (b2 x m)⟩) (by omega) (by omega) (by omega) (fuw (by omega))
  refine ⟨⟨s1, a1, j1⟩, ?_, fx2.trans j3⟩
  rw [j2, fe.1, r1, List.foldl_cons]
  have e : bst (valF (c.1 10).toNat v (c.2.1 10 0)) (2147483647, (rng (v 7 0)).map (v 41)) Y = (valF (c.1 10).toNat v (c.2.1 10 0) Y, Y) := if_pos (by show _ < (2147483647 : Int); omega)
  rw [e]
theorem has_f {v : Vw} (h : f_canForecast v = (1, upv v 0 0 0)) : HasF (upv v 0 0 0) := by
  have := h_canForecast v (by rw [h]; exact ne10)
  rw [h] at this
  exact this
theorem fc_bestForecast {c : Cs} {v : Vw} {T E : Int} (hN : INV c v) (hI : IM v T E) : ok_X10_bestForecast c ∧ Ans (fun _ => xNSE) (g_X10_bestForecast c) (f_bestForecast v) ∧ INV (g_X10_bestForecast c).2 (f_bestForecast v).2 := by
  have e8 : c.2.1 13 11 0 = v 8 0 := hN.1.c0.2.2.2
  unfold ok_X10_bestForecast g_X10_bestForecast f_bestForecast
  rw [e8]
  rcases can_eq hN hI with ⟨a, b, d7, dK⟩ | ⟨a, b⟩
  · have hF := has_f b
    rw [if_pos a, if_pos a, b, if_neg ne10]
    obtain ⟨g1, g2, g3, g4, g5⟩ := findB_ok (v := upv v 0 0 0) hN.v0 (hI.up 0 0 0 (by show (0 : Int) ≤ 0 ∧ (0 : Int) ≤ 4; omega)) d7 dK hF
    refine ⟨⟨g1, trivial⟩, Or.inl ⟨fr_finds 0 0 (by decide), ?_⟩, ?_⟩
    · show (Sum.inl (some (0, (g_X5_findBest 4 (v 8 0) c).1)) : Rr) = _
      rw [show (g_X5_findBest 4 (v 8 0) c).1 = (f_finds (upv v 0 0 0)).1 from g2]
    · exact (hN.fx g4).vfr (fun k hk => funext fun i => (fr_finds k i (by omega)).trans (up0 (by omega)))
  · rw [if_neg a, if_neg a, b, if_pos rfl]
    exact ⟨trivial, Or.inr ⟨Int.le_refl 1, rfl⟩, hN.v0⟩
theorem fc_bestForecastByTrying {c : Cs} {v : Vw} {T E : Int} (hN : INV c v) (hI : IM v T E) : ok_X10_bestForecastByTrying c ∧ Ans (fun _ => xNSE) (g_X10_bestForecastByTrying c) (f_bestForecastByTrying v) ∧ INV (g_X10_bestForecastByTrying c).2 (f_bestForecastByTrying v).2 := by
  have e8 : c.2.1 13 11 0 = v 8 0 := hN.1.c0.2.2.2
  unfold ok_X10_bestForecastByTrying g_X10_bestForecastByTrying f_bestForecastByTrying f_bestForecast
  rw [e8]
  rcases can_eq hN hI with ⟨a, b, d7, dK⟩ | ⟨a, b⟩
  · have hF := has_f b
    rw [if_pos a, if_pos a, b, if_neg ne10]
    obtain ⟨g1, g2, g4⟩ := tryA_ok (v := upv v 0 0 0) hN.v0 (hI.up 0 0 0 (by show (0 : Int) ≤ 0 ∧ (0 : Int) ≤ 4; omega)) d7 dK hF
    refine ⟨⟨g1, trivial⟩, Or.inl ⟨fr_finds 0 0 (by decide), ?_⟩, ?_⟩
    · show (Sum.inl (some (0, (g_X5_tryAll 4 (v 8 0) c).1)) : Rr) = _
      rw [show (g_X5_tryAll 4 (v 8 0) c).1 = (f_finds (upv v 0 0 0)).1 from g2]
    · exact (hN.fx g4).vfr (fun k hk => funext fun i => (fr_finds k i (by omega)).trans (up0 (by omega)))
  · rw [if_neg a, if_neg a, b, if_pos rfl]
    exact ⟨trivial, Or.inr ⟨Int.le_refl 1, rfl⟩, hN.v0⟩
theorem imp25 {was now : Int} : ∀ (n : Nat) (k : Int) (v : Vw), 0 ≤ k → (v 7 0 - k).toNat < n → (l_improve_25 was now n k v).1 = was - now ∧ ∀ t, (l_improve_25 was now n k v).2 39 t = if k ≤ t ∧ t < v 7 0 then v 41 t else v 39 t := by
  intro n
  induction n with
  | zero => exact fun _ _ _ h => absurd h (Nat.not_lt_zero _)
  | succ n ih =>
    intro k v h0 hm
    rw [l_improve_25]
    by_cases c1 : v 7 0 ≤ k
    · rw [if_pos c1]
      exact ⟨rfl, fun t => by rw [if_neg (by omega)]⟩
    · rw [if_neg c1]
      obtain ⟨g1, g2⟩ := ih (k + 1) (upv v 39 k (v 41 k)) (by omega) (show (v 7 0 - (k + 1)).toNat < n by omega)
      refine ⟨g1, fun t => ?_⟩
      rw [g2 t]
      have e7 : upv v 39 k (v 41 k) 7 0 = v 7 0 := rfl
      have e41 : upv v 39 k (v 41 k) 41 t = v 41 t := rfl
      rw [e7, e41]
      by_cases e : t = k
      · rw [if_neg (by omega), if_pos (by omega), e]
        exact upv_eq _ _ _ _
      · by_cases e2 : k + 1 ≤ t ∧ t < v 7 0
        · rw [if_pos e2, if_pos (by omega)]
        · rw [if_neg e2, if_neg (by omega)]
          exact upv_ni e
theorem INV.queue {c : Cs} {v w : Vw} (hN : INV c v) (F : ∀ k, k ≠ 39 → w k = v k) (hr : ∀ i, 0 ≤ i → i < v 7 0 → 0 ≤ w 39 i ∧ w 39 i < v 1 0) : INV (clst c 4 ((rng (v 7 0)).map (w 39))) w := by
  obtain ⟨⟨s0, s1, s2, s3, s4, s5, s6, s7, s8, s9, s10⟩, hB, hC, hJ⟩ := hN
  have lo : ∀ j, ¬ j = 4 → (clst c 4 ((rng (v 7 0)).map (w 39))).2.2.1 j = c.2.2.1 j := fun j hj => clst_ne c hj
  refine ⟨⟨?_, ?_, ?_, ?_, ?_, ?_, ?_, ?_, ?_, ?_, ?_⟩, ?_, ?_, ?_⟩
  · unfold S0
    rw [F 1 (by decide), F 2 (by decide), F 5 (by decide), F 6 (by decide), F 9 (by decide), F 3 (by decide), F 8 (by decide), F 4 (by decide)]
    exact s0
  · exact s1.fr (lo _ (by decide)) rfl (F 1 (by decide)) (F 12 (by decide)) (F 13 (by decide)) (F 14 (by decide))
  · exact s2.fr (lo _ (by decide)) rfl (F 2 (by decide)) (F 15 (by decide)) (F 16 (by decide)) (F 17 (by decide)) (F 19 (by decide)) (F 20 (by decide))
  · exact s3.fr (lo _ (by decide)) rfl (F 5 (by decide)) (F 26 (by decide)) (F 27 (by decide)) (F 28 (by decide)) (F 29 (by decide)) (F 30 (by decide)) (F 31 (by decide))
  · exact s4.fr (lo _ (by decide)) (fun s _ _ => lo _ (by omega)) rfl rfl (Int.le_refl _) (F 4 (by decide)) (F 21 (by decide)) (F 22 (by decide)) (F 23 (by decide)) (F 24 (by decide)) (F 25 (by decide))
  · unfold SQ
    rw [clst_eq, F 7 (by decide)]
  · exact s6.fr (lo _ (by decide)) (fun o _ _ => lo _ (by omega)) rfl rfl (Int.le_refl _) (F 6 (by decide)) (F 32 (by decide)) (F 33 (by decide)) (F 34 (by decide)) (F 35 (by decide)) (F 36 (by decide)) (F 37 (by decide))
  · exact s7.fr (lo _ (by decide)) (F 6 (by decide)) (F 32 (by decide))
  · exact s8.fr (lo _ (by decide)) rfl (F 9 (by decide)) (F 44 (by decide)) (F 45 (by decide)) (F 46 (by decide))
  · exact s9.fr (lo _ (by decide)) (F 2 (by decide)) (F 15 (by decide)) (F 18 (by decide)) (F 10 (by decide))
  · exact s10.fr (lo _ (by decide)) rfl rfl (F 2 (by decide)) (F 20 (by decide))
  · exact hB.fr (by rw [F 1 (by decide)]; exact Int.le_refl _) (F 2 (by decide)) (F 4 (by decide)) (F 5 (by decide)) (F 6 (by decide)) (F 9 (by decide)) (F 15 (by decide)) (F 16 (by decide)) (F 25 (by decide)) (F 26 (by decide)) (F 28 (by decide)) (F 29 (by decide)) (F 31 (by decide)) (F 33 (by decide)) (F 34 (by decide)) (F 36 (by decide)) (F 37 (by decide)) (F 44 (by decide)) (F 45 (by decide)) (F 46 (by decide))
  · exact CI_fr (fun k hk i => congrFun (F k (by omega)) i) hC
  · obtain ⟨j1, j2, j3, j4⟩ := hJ
    unfold CJ
    rw [F 5 (by decide), F 28 (by decide), F 30 (by decide), F 1 (by decide), F 13 (by decide), F 7 (by decide), F 15 (by decide), F 17 (by decide)]
    exact ⟨j1, j2, hr, j4⟩
theorem fc_improve {c : Cs} {v : Vw} {T E : Int} (hN : INV c v) (hI : IM v T E) : ok_X10_improve c ∧ Ans (fun _ => xNSE) (g_X10_improve c) (f_improve v) ∧ INV (g_X10_improve c).2 (f_improve v).2 := by
  have n10 : 0 ≤ c.1 10 := hN.1.c0.2.1.2.2
  have u7 : 0 ≤ v 7 0 ∧ v 7 0 ≤ 6 := hI.2 7 0
  have u2 : 0 ≤ v 2 0 ∧ v 2 0 ≤ 8 := hI.2 2 0
  have e8 : c.2.1 13 11 0 = v 8 0 := hN.1.c0.2.2.2
  unfold ok_X10_improve g_X10_improve f_improve
  rw [e8]
  rcases can_eq hN hI with ⟨a, b, d7, dK⟩ | ⟨a, b⟩
  · have hF := has_f b
    rw [if_pos a, if_pos a, b, if_neg ne10]
    obtain ⟨m1, m2, m3⟩ := q_mem hN u7
    obtain ⟨g1, g2, g3⟩ := fo_ok (l := 4) hN hI rfl dK m1 m2
    have r2 : (f_forecastOf 39 (upv v 0 0 0)).1 = fcu (c.1 10).toNat (v 13) (v 12) ((rng (v 7 0)).map (v 39)) (s0 v (c.2.1 10 0)) 0 := fo_ref (v := upv v 0 0 0) (kr := 39) (W := c.2.1 10 0) (K := (c.1 10).toNat) (hN.1.cs.wm n10) (by decide) dK u7.1 u2.1
    have hq : c.2.2.1 4 = (rng (v 7 0)).map (v 39) := hN.1.cq
    have I0 := hI.up 0 0 0 (by show (0 : Int) ≤ 0 ∧ (0 : Int) ≤ 4; omega)
    have I1 := (i_forecastOf (kr := 39) I0 (Or.inl rfl) hF).1
    have F1 : ∀ k, k ≠ 0 ∧ k ≠ 42 ∧ k ≠ 43 → (f_forecastOf 39 (upv v 0 0 0)).2 k = v k := fun k hk => funext fun i => (fr_forecastOf k i (by omega)).trans (up0 (by omega))
    have z1 : (f_forecastOf 39 (upv v 0 0 0)).2 0 0 = 0 := fr_forecastOf 0 0 (by decide)
    have H1 : HasF (f_forecastOf 39 (upv v 0 0 0)).2 := HasF_fr (fr_forecastOf 2 0 (by decide)) (fun i => fr_forecastOf 20 i (by decide)) hF
    have N1 : INV (g_X5_forecastOf 4 (v 8 0) c).2 (f_forecastOf 39 (upv v 0 0 0)).2 := (hN.fx g3.fx).vfr (fun k hk => F1 k (by omega))
    have e8' : (g_X5_forecastOf 4 (v 8 0) c).2.2.1 13 11 0 = v 8 0 := by rw [g3.2.1 13 (by decide)]; exact e8
    have K1 : 1 ≤ ((g_X5_forecastOf 4 (v 8 0) c).2.1 10).toNat := by rw [g3.1]; exact dK
    rw [e8', g2, r2, hq, fcu_0 hI dK (by rw [← hq]; exact m3 d7)]
    refine and_imp_and ?_ ?_
    · exact g1
    revert N1 I1 F1 H1 K1 z1
    generalize (f_forecastOf 39 (upv v 0 0 0)).2 = w
    generalize (g_X5_forecastOf 4 (v 8 0) c).2 = c1
    intro I1 F1 z1 H1 N1 K1
    have w8 : w 8 0 = v 8 0 := by rw [F1 8 (by decide)]
    have w7 : w 7 0 = v 7 0 := by rw [F1 7 (by decide)]
    have w1 : w 1 0 = v 1 0 := by rw [F1 1 (by decide)]
    obtain ⟨h1, h2, h3, h4, h5⟩ := findB_ok N1 I1 (by omega) K1 H1
    rw [w8] at h1 h2 h3 h4 h5
    rw [h2]
    refine and_imp_and h1 ?_
    revert h3 h4 h5
    generalize (g_X5_findBest 4 (v 8 0) c1).2 = C
    intro h3 h4 h5
    have F2 : ∀ k, k ≠ 40 ∧ k ≠ 41 ∧ k ≠ 42 ∧ k ≠ 43 → (f_finds w).2 k = w k := fun k hk => funext fun i => fr_finds k i hk
    have N2 : INV C (f_finds w).2 := (N1.fx h4).vfr (fun k hk => F2 k (by omega))
    have l10 : ((C.2.2.1 10).length : Int) = v 7 0 := by rw [h3, w7]; exact map_len u7.1
    obtain ⟨k1, k2⟩ := copy_ok (c := C) (l := 10) (k := 4) (by decide) rfl rfl (by omega)
    have q7 : (f_finds w).2 7 0 = v 7 0 := by rw [F2 7 (by decide)]; exact w7
    obtain ⟨i1, i2⟩ := imp25 (was := fcu (c.1 10).toNat (v 13) (v 12) ((rng (v 7 0)).map (v 39)) (s0 v (c.2.1 10 0)) 0) (now := (f_finds w).1) (((v 7 0) - 0).toNat + 1) 0 (f_finds w).2 (Int.le_refl 0) (by rw [q7]; omega)
    have F3 : ∀ k, k ≠ 39 → (l_improve_25 (fcu (c.1 10).toNat (v 13) (v 12) ((rng (v 7 0)).map (v 39)) (s0 v (c.2.1 10 0)) 0) (f_finds w).1 (((v 7 0) - 0).toNat + 1) 0 (f_finds w).2).2 k = (f_finds w).2 k := fun k hk => funext fun i => fr_l_improve_25 _ _ _ k i hk
    show (ok_X10_copyRecipes 10 4 C ∧ True) ∧ Ans _ _ (l_improve_25 (fcu (c.1 10).toNat (v 13) (v 12) ((rng (v 7 0)).map (v 39)) (s0 v (c.2.1 10 0)) 0) (f_finds w).1 (((v 7 0) - 0).toNat + 1) 0 (f_finds w).2) ∧ INV _ (l_improve_25 (fcu (c.1 10).toNat (v 13) (v 12) ((rng (v 7 0)).map (v 39)) (s0 v (c.2.1 10 0)) 0) (f_finds w).1 (((v 7 0) - 0).toNat + 1) 0 (f_finds w).2).2
    revert i1 i2 F3
    generalize l_improve_25 (fcu (c.1 10).toNat (v 13) (v 12) ((rng (v 7 0)).map (v 39)) (s0 v (c.2.1 10 0)) 0) (f_finds w).1 (((v 7 0) - 0).toNat + 1) 0 (f_finds w).2 = R
    intro i1 i2 F3
    refine ⟨⟨k1, trivial⟩, Or.inl ⟨?_, ?_⟩, ?_⟩
    · rw [F3 0 (by decide), F2 0 (by decide)]
      exact z1
    · rw [i1]
    · show INV (g_X10_copyRecipes 10 4 C) R.2
      have e39 : C.2.2.1 10 = (rng ((f_finds w).2 7 0)).map (R.2 39) := by
        rw [h3, w7, q7]
        refine map_rng_congr (fun i i0 i1 => ?_)
        rw [i2 i, q7, if_pos ⟨i0, i1⟩]
      rw [k2, e39]
      refine N2.queue F3 (fun i i0 i1 => ?_)
      have m : R.2 39 i ∈ C.2.2.1 10 := by
        rw [e39]
        exact List.mem_map_of_mem (rng_mem.mpr ⟨i0, i1⟩)
      have := h5 _ m
      rw [F2 1 (by decide)]
      exact this
  · rw [if_neg a, if_neg a, b, if_pos rfl]
    exact ⟨trivial, Or.inr ⟨Int.le_refl 1, rfl⟩, hN.v0⟩
