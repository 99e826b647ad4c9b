/-! .. the best order of the queue -/
theorem lp_perm : ∀ (n : Nat) (L p : List Int), L.length = n → p ∈ lp n L → L.Perm p := by
  intro n
  induction n with
  | zero =>
    intro L p hl hp
    have h1 : p = [] := by simpa [lp] using hp
    have h2 : L = [] := List.eq_nil_of_length_eq_zero hl
    rw [h1, h2]
  | succ n ih =>
    intro L p hl hp
    rw [lp] at hp
    obtain ⟨j, j0, j1, q, q1, q2⟩ := lpB_mem hp
    have hlen : (remL L j.toNat).length = n := by
      have := remL_ln (L := L) (i := j.toNat) (by omega)
      omega
    have g := ih _ q hlen q1
    rw [q2]
    exact (remL_perm j0 (by omega)).trans (g.cons _)
theorem WM.fr2 {v w : Vw} {W : Int → Int} {K : Nat} (h : WM v K W) (F : ∀ k, k ≠ 0 ∧ k ≠ 39 ∧ k ≠ 40 ∧ k ≠ 41 ∧ k ≠ 42 ∧ k ≠ 43 → w k = v k) : WM w K W := by
  unfold WM
  rw [F 2 (by decide), F 20 (by decide)]
  exact h
def qv (v : Vw) : List Int := (rng (v 7 0)).map (v 39)
def D0 : List Int := []
def mn (K : Nat) (v : Vw) (W : Int → Int) (S : List Int) : Int × List Int := (lp S.length S).foldl (bst (valF K v W)) (2147483647, D0)
/-- the planner's view of the numbers -/
def Fc (K : Nat) (W : Int → Int) (S : List Int) (T E : Int) (v : Vw) : Prop := (WM v K W ∧ 1 ≤ K ∧ HasF v) ∧ (1 ≤ v 7 0 ∧ v 7 0 ≤ 6) ∧ (Srt S ∧ S.Perm (qv v)) ∧ IM v T E ∧ f_canForecast v = (1, upv v 0 0 0)
theorem qv_len {v : Vw} (h : 0 ≤ v 7 0) : ((qv v).length : Int) = v 7 0 := map_len h
theorem Fc.in_q {K : Nat} {W : Int → Int} {S : List Int} {T E : Int} {v : Vw} (h : Fc K W S T E v) : qv v ∈ lp S.length S := lp_all S.length S _ rfl h.2.2.1.2.symm
theorem Fc.small {K : Nat} {W : Int → Int} {S : List Int} {T E : Int} {v : Vw} (h : Fc K W S T E v) : 0 ≤ valF K v W (qv v) ∧ valF K v W (qv v) ≤ 31000 := by
  refine valF_r h.2.2.2.1 h.1.2.1 ?_
  have := qv_len (v := v) (by have := h.2.1; omega)
  have := h.2.1
  omega
theorem Fc.same {K : Nat} {W : Int → Int} {S : List Int} {T E : Int} {v : Vw} (h : Fc K W S T E v) (D : List Int) : (lp S.length S).foldl (bst (valF K v W)) (2147483647, D) = mn K v W S := by
  have := h.small
  exact bst_same ⟨_, h.in_q, by show _ < (2147483647 : Int); omega, by show _ < (2147483647 : Int); omega⟩
theorem Fc.le {K : Nat} {W : Int → Int} {S : List Int} {T E : Int} {v : Vw} (h : Fc K W S T E v) : (mn K v W S).1 ≤ valF K v W (qv v) := (bst_le (val := valF K v W)).2 _ h.in_q
theorem Fc.mem {K : Nat} {W : Int → Int} {S : List Int} {T E : Int} {v : Vw} (h : Fc K W S T E v) : (mn K v W S).2 ∈ lp S.length S ∧ (mn K v W S).1 = valF K v W (mn K v W S).2 := by
  rcases bst_mem (val := valF K v W) (X := lp S.length S) (a := (2147483647, D0)) with e | e
  · have hle := h.le
    have hs := h.small
    unfold mn at hle
    rw [e] at hle
    have : (2147483647 : Int) ≤ valF K v W (qv v) := hle
    omega
  · exact e
theorem Fc.fore {K : Nat} {W : Int → Int} {S : List Int} {T E : Int} {v : Vw} (h : Fc K W S T E v) : (f_forecast v).1 = valF K v W (qv v) ∧ (f_forecast v).2 0 0 = 0 := by
  obtain ⟨⟨hW, hK, hF⟩, h7, hS, hI, hc⟩ := h
  unfold f_forecast
  rw [hc, if_neg ne10]
  have u2 : 0 ≤ v 2 0 := (hI.2 2 0).1
  refine ⟨fo_ref (v := upv v 0 0 0) (kr := 39) (W := W) (K := K) hW (by decide) hK (by show 0 ≤ v 7 0; omega) u2, ?_⟩
  show (f_forecastOf 39 (upv v 0 0 0)).2 0 0 = 0
  rw [fr_forecastOf 0 0 (by decide)]
  exact up00 v 0
theorem Fc.best {K : Nat} {W : Int → Int} {S : List Int} {T E : Int} {v : Vw} (h : Fc K W S T E v) : (f_bestForecast v).1 = (mn K v W S).1 ∧ (f_bestForecast v).2 0 0 = 0 := by
  have h9 := h
  obtain ⟨⟨hW, hK, hF⟩, h7, hS, hI, hc⟩ := h
  unfold f_bestForecast
  rw [hc, if_neg ne10]
  obtain ⟨e1, e2⟩ := finds_eq (v := upv v 0 0 0) (W := W) (K := K) (S := S) hW hK hI.z hF (by show 1 ≤ v 7 0; omega) hS.1 hS.2
  refine ⟨?_, ?_⟩
  · show (f_finds (upv v 0 0 0)).1 = _
    rw [e1]
    have := h9.same ((rng (upv v 0 0 0 7 0)).map (upv v 0 0 0 41))
    rw [← this]
    rfl
  · show (f_finds (upv v 0 0 0)).2 0 0 = 0
    rw [fr_finds 0 0 (by decide)]
    exact up00 v 0
theorem valF_fr {K : Nat} {v w : Vw} {W : Int → Int} (F : ∀ k, k ≠ 0 ∧ k ≠ 39 ∧ k ≠ 40 ∧ k ≠ 41 ∧ k ≠ 42 ∧ k ≠ 43 → w k = v k) : valF K w W = valF K v W := by
  funext p
  unfold valF
  have e : s0 w W = s0 v W := by
    unfold s0 df
    rw [F 8 (by decide), F 15 (by decide), F 17 (by decide), F 28 (by decide), F 16 (by decide), F 30 (by decide), F 19 (by decide)]
  rw [e, F 13 (by decide), F 12 (by decide)]
theorem can_fr {v w : Vw} (F : ∀ k, k = 2 ∨ k = 7 ∨ k = 20 → w k = v k) (h : f_canForecast v = (1, upv v 0 0 0)) : f_canForecast w = (1, upv w 0 0 0) := by
  have e : ∀ (n : Nat) (has x : Int), l_canForecast_4 w n has x = l_canForecast_4 v n has x := by
    intro n
    induction n with
    | zero => exact fun _ _ => rfl
    | succ n ih =>
      intro has x
      rw [l_canForecast_4, l_canForecast_4, F 2 (by omega), F 20 (by omega), ih, ih]
  unfold f_canForecast at h ⊢
  rw [e, F 2 (by omega), F 7 (by omega)]
  by_cases c1 : l_canForecast_4 v (((v 2 0) - 0).toNat + 1) 0 0 = 0
  · rw [if_pos c1] at h
    have := congrArg Prod.fst h
    exact absurd (show (0 : Int) = 1 from this) (by decide)
  · rw [if_neg c1] at h ⊢
    by_cases c2 : v 7 0 ≤ 0
    · rw [if_pos c2] at h
      have := congrArg Prod.fst h
      exact absurd (show (0 : Int) = 1 from this) (by decide)
    · rw [if_neg c2]
theorem Fc.fr {K : Nat} {W : Int → Int} {S : List Int} {T E T' E' : Int} {v w : Vw} (h : Fc K W S T E v) (F : ∀ k, k ≠ 0 ∧ k ≠ 40 ∧ k ≠ 41 ∧ k ≠ 42 ∧ k ≠ 43 → w k = v k) (hI : IM w T' E') : Fc K W S T' E' w := by
  obtain ⟨⟨hW, hK, hF⟩, h7, hS, _, hc⟩ := h
  have q : qv w = qv v := by
    unfold qv
    rw [F 7 (by decide), F 39 (by decide)]
  exact ⟨⟨hW.fr F, hK, HasF_fr (by rw [F 2 (by decide)]) (fun i => by rw [F 20 (by decide)]) hF⟩, by rw [F 7 (by decide)]; exact h7, by rw [q]; exact hS, hI, can_fr (fun k hk => F k (by omega)) hc⟩
/-- the queue got its best order -/
theorem Fc.impr {K : Nat} {W : Int → Int} {S : List Int} {T E : Int} {v : Vw} (h : Fc K W S T E v) : (f_improve v).1 = valF K v W (qv v) - (mn K v W S).1 ∧ (f_improve v).2 0 0 = 0 ∧ Fc K W S T E (f_improve v).2 ∧ valF K (f_improve v).2 W (qv (f_improve v).2) = (mn K v W S).1 ∧ mn K (f_improve v).2 W S = mn K v W S := by
  have h9 := h
  obtain ⟨⟨hW, hK, hF⟩, h7, hS, hI, hc⟩ := h
  have u2 : 0 ≤ v 2 0 := (hI.2 2 0).1
  have I2 := i_improve hI
  have G : ∀ k, k ≠ 0 ∧ k ≠ 39 ∧ k ≠ 40 ∧ k ≠ 41 ∧ k ≠ 42 ∧ k ≠ 43 → (f_improve v).2 k = v k := fun k hk => funext fun i => fr_improve k i hk
  have key : (f_improve v).1 = valF K v W (qv v) - (mn K v W S).1 ∧ (f_improve v).2 0 0 = 0 ∧ qv (f_improve v).2 = (mn K v W S).2 := by
    unfold f_improve
    rw [hc, if_neg ne10]
    have r2 : (f_forecastOf 39 (upv v 0 0 0)).1 = valF K v W (qv v) := fo_ref (v := upv v 0 0 0) (kr := 39) (W := W) (K := K) hW (by decide) hK (by show 0 ≤ v 7 0; omega) u2
    have F1 : ∀ k, k ≠ 0 ∧ k ≠ 42 ∧ k ≠ 43 → (f_forecastOf 39 (upv v 0 0 0)).2 k = v k := fun k hk => funext fun i => (fr_forecastOf k i (by omega)).trans (up0 (by omega))
    have z1 : (f_forecastOf 39 (upv v 0 0 0)).2 0 0 = 0 := (fr_forecastOf 0 0 (by decide)).trans (up00 v 0)
    have I1 := (i_forecastOf (kr := 39) hI.z (Or.inl rfl) hF).1
    have H1 := h9.fr (w := (f_forecastOf 39 (upv v 0 0 0)).2) (fun k hk => F1 k (by omega)) I1
    rw [r2]
    revert F1 z1 I1 H1
    generalize (f_forecastOf 39 (upv v 0 0 0)).2 = w
    intro F1 z1 I1 H1
    obtain ⟨⟨wW, wK, wF⟩, w7, wS, wI, wc⟩ := H1
    obtain ⟨e1, e2⟩ := finds_eq (v := w) (W := W) (K := K) (S := S) wW wK wI wF w7.1 wS.1 wS.2
    have vw : valF K w W = valF K v W := valF_fr (fun k hk => F1 k (by omega))
    rw [vw, h9.same] at e1 e2
    have q7 : (f_finds w).2 7 0 = v 7 0 := by rw [fr_finds 7 0 (by decide), F1 7 (by decide)]
    have w7' : w 7 0 = v 7 0 := by rw [F1 7 (by decide)]
    obtain ⟨i1, i2⟩ := imp25 (was := valF K v W (qv v)) (now := (f_finds w).1) (((v 7 0) - 0).toNat + 1) 0 (f_finds w).2 (Int.le_refl 0) (by rw [q7]; omega)
    refine ⟨?_, ?_, ?_⟩
    · rw [← e1]
      exact i1
    · show (l_improve_25 _ _ _ _ _).2 0 0 = 0
      rw [fr_l_improve_25 _ _ _ 0 0 (by decide), fr_finds 0 0 (by decide)]
      exact z1
    · rw [← e2]
      unfold qv
      have e7 : (l_improve_25 (valF K v W (qv v)) (f_finds w).1 (((v 7 0) - 0).toNat + 1) 0 (f_finds w).2).2 7 0 = v 7 0 := by
        rw [fr_l_improve_25 _ _ _ 7 0 (by decide)]
        exact q7
      show (rng ((l_improve_25 (valF K v W (qv v)) (f_finds w).1 (((v 7 0) - 0).toNat + 1) 0 (f_finds w).2).2 7 0)).map ((l_improve_25 (valF K v W (qv v)) (f_finds w).1 (((v 7 0) - 0).toNat + 1) 0 (f_finds w).2).2 39) = _
      rw [e7, w7']
      exact map_rng_congr (fun i i0 i1' => by rw [i2 i, q7, if_pos ⟨i0, i1'⟩])
  obtain ⟨k1, k2, k3⟩ := key
  have vv : valF K (f_improve v).2 W = valF K v W := valF_fr G
  have m := h9.mem
  have mm : mn K (f_improve v).2 W S = mn K v W S := by unfold mn; rw [vv]
  refine ⟨k1, k2, ⟨⟨hW.fr2 G, hK, HasF_fr (by rw [G 2 (by decide)]) (fun i => by rw [G 20 (by decide)]) hF⟩, by rw [G 7 (by decide)]; exact h7, ⟨hS.1, by rw [k3]; exact lp_perm S.length S _ rfl m.1⟩, I2, can_fr (fun k hk => G k (by omega)) hc⟩, by rw [vv, k3]; exact m.2.symm, mm⟩
theorem Fc.of {c : Cs} {v : Vw} {T E : Int} (hN : INV c v) (hI : IM v T E) : (∃ K W S, Fc K W S T E v) ∨ f_canForecast v = (0, upv v 0 0 1) := by
  have n10 : 0 ≤ c.1 10 := hN.1.c0.2.1.2.2
  have u7 : 0 ≤ v 7 0 ∧ v 7 0 ≤ 6 := hI.2 7 0
  rcases can_eq hN hI with ⟨a, b, d7, dK⟩ | ⟨a, b⟩
  · obtain ⟨m1, m2, m3⟩ := q_mem hN u7
    obtain ⟨-, Y, -, s3, s4⟩ := copyS_ok (l := 4) (k := 11) hN hI (by decide) rfl rfl (by decide) m1 (by omega)
    have hq : c.2.2.1 4 = qv v := hN.1.cq
    rw [hq] at s4
    exact Or.inl ⟨(c.1 10).toNat, c.2.1 10 0, Y, ⟨hN.1.cs.wm n10, dK, has_f b⟩, ⟨d7, u7.2⟩, ⟨s3, s4⟩, hI, b⟩
  · exact Or.inr b
