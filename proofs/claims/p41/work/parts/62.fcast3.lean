/-! the call forecast -/
theorem INV.vfr {c : Cs} {v w : Vw} (hN : INV c v) (F : ∀ k, k ≠ 0 ∧ k ≠ 40 ∧ k ≠ 41 ∧ k ≠ 42 ∧ k ≠ 43 → w k = v k) : INV c w := by
  obtain ⟨⟨s0, s1, s2, s3, s4, s5, s6, s7, s8, s9, s10⟩, hB, hC, hJ⟩ := hN
  refine ⟨⟨?_, ?_, ?_, ?_, ?_, ?_, ?_, ?_, ?_, ?_, ?_⟩, ?_, ?_, ?_⟩
  · unfold S0
    rw [F 1 (by decide), F 2 (by decide), F 5 (by decide), F 6 (by decide), F 9 (by decide), F 3 (by decide), F 8 (by decide), F 4 (by decide)]
    exact s0
  · exact s1.fr rfl rfl (F 1 (by decide)) (F 12 (by decide)) (F 13 (by decide)) (F 14 (by decide))
  · exact s2.fr rfl rfl (F 2 (by decide)) (F 15 (by decide)) (F 16 (by decide)) (F 17 (by decide)) (F 19 (by decide)) (F 20 (by decide))
  · exact s3.fr rfl rfl (F 5 (by decide)) (F 26 (by decide)) (F 27 (by decide)) (F 28 (by decide)) (F 29 (by decide)) (F 30 (by decide)) (F 31 (by decide))
  · exact s4.fr rfl (fun s _ _ => rfl) rfl rfl (Int.le_refl _) (F 4 (by decide)) (F 21 (by decide)) (F 22 (by decide)) (F 23 (by decide)) (F 24 (by decide)) (F 25 (by decide))
  · exact s5.fr rfl (F 7 (by decide)) (F 39 (by decide))
  · exact s6.fr rfl (fun o _ _ => rfl) rfl rfl (Int.le_refl _) (F 6 (by decide)) (F 32 (by decide)) (F 33 (by decide)) (F 34 (by decide)) (F 35 (by decide)) (F 36 (by decide)) (F 37 (by decide))
  · exact s7.fr rfl (F 6 (by decide)) (F 32 (by decide))
  · exact s8.fr rfl rfl (F 9 (by decide)) (F 44 (by decide)) (F 45 (by decide)) (F 46 (by decide))
  · exact s9.fr rfl (F 2 (by decide)) (F 15 (by decide)) (F 18 (by decide)) (F 10 (by decide))
  · exact s10.fr rfl rfl rfl (F 2 (by decide)) (F 20 (by decide))
  · exact hB.fr (by rw [F 1 (by decide)]; exact Int.le_refl _) (F 2 (by decide)) (F 4 (by decide)) (F 5 (by decide)) (F 6 (by decide)) (F 9 (by decide)) (F 15 (by decide)) (F 16 (by decide)) (F 25 (by decide)) (F 26 (by decide)) (F 28 (by decide)) (F 29 (by decide)) (F 31 (by decide)) (F 33 (by decide)) (F 34 (by decide)) (F 36 (by decide)) (F 37 (by decide)) (F 44 (by decide)) (F 45 (by decide)) (F 46 (by decide))
  · exact CI_fr (fun k hk i => congrFun (F k (by omega)) i) hC
  · exact CJ_fr (fun k hk i => congrFun (F k (by omega)) i) hJ
theorem cc4 {v : Vw} : ∀ (n : Nat) (has w : Int), 0 ≤ w → (v 2 0 - w).toNat < n → (has = 0 ∨ has = 1) → (l_canForecast_4 v n has w = 0 ∧ has = 0 ∧ ∀ x, w ≤ x → x < v 2 0 → v 20 x ≠ 0) ∨ (l_canForecast_4 v n has w = 1 ∧ (has = 1 ∨ ∃ x, w ≤ x ∧ x < v 2 0 ∧ v 20 x = 0)) := by
  intro n
  induction n with
  | zero => exact fun _ _ _ h => absurd h (Nat.not_lt_zero _)
  | succ n ih =>
    intro has w h0 hm hh
    rw [l_canForecast_4]
    by_cases c1 : v 2 0 ≤ w
    · rw [if_pos c1]
      rcases hh with hh | hh
      · exact Or.inl ⟨hh, hh, fun x a b => by omega⟩
      · exact Or.inr ⟨hh, Or.inl hh⟩
    · rw [if_neg c1]
      by_cases c2 : has = 0
      · rw [if_pos c2]
        by_cases c3 : v 20 w = 0
        · rw [if_pos c3]
          rcases ih 1 (w + 1) (by omega) (by omega) (Or.inr rfl) with ⟨_, q, _⟩ | ⟨q, _⟩
          · omega
          · exact Or.inr ⟨q, Or.inr ⟨w, Int.le_refl w, by omega, c3⟩⟩
        · rw [if_neg c3]
          rcases ih 0 (w + 1) (by omega) (by omega) (Or.inl rfl) with ⟨q, _, r⟩ | ⟨q, r⟩
          · refine Or.inl ⟨q, c2, fun x a b => ?_⟩
            by_cases e : x = w
            · rw [e]
              exact c3
            · exact r x (by omega) b
          · refine Or.inr ⟨q, Or.inr ?_⟩
            rcases r with r | ⟨x, a, b, d⟩
            · omega
            · exact ⟨x, by omega, b, d⟩
      · rw [if_neg c2]
        rcases ih 1 (w + 1) (by omega) (by omega) (Or.inr rfl) with ⟨_, q, _⟩ | ⟨q, _⟩
        · omega
        · exact Or.inr ⟨q, Or.inl (hh.resolve_left c2)⟩
theorem eb_0 {xs : List Int} : eb xs = 0 ↔ 0 < (xs.length : Int) := by
  unfold eb
  by_cases h : xs.length = 0
  · rw [if_pos h]
    omega
  · rw [if_neg h]
    omega
/-- may a forecast be made: both say the same -/
theorem can_eq {c : Cs} {v : Vw} {T E : Int} (hN : INV c v) (hI : IM v T E) : ((eb (c.2.2.1 4) = 0 ∧ eb (c.2.2.1 9) = 0) ∧ f_canForecast v = (1, upv v 0 0 0) ∧ 1 ≤ v 7 0 ∧ 1 ≤ (c.1 10).toNat) ∨ (¬ (eb (c.2.2.1 4) = 0 ∧ eb (c.2.2.1 9) = 0) ∧ f_canForecast v = (0, upv v 0 0 1)) := by
  have n10 : 0 ≤ c.1 10 := hN.1.c0.2.1.2.2
  have u7 : 0 ≤ v 7 0 ∧ v 7 0 ≤ 6 := hI.2 7 0
  have l4 : ((c.2.2.1 4).length : Int) = v 7 0 := by rw [hN.1.cq]; exact map_len u7.1
  have l9 : ((c.2.2.1 9).length : Int) = c.1 10 := by rw [hN.1.cs.1]; exact rng_len n10
  have wm := hN.1.cs.wm n10
  rw [eb_0, eb_0, l4, l9]
  unfold f_canForecast
  rcases cc4 (v := v) (((v 2 0) - 0).toNat + 1) 0 0 (Int.le_refl 0) (by omega) (Or.inl rfl) with ⟨q, _, r⟩ | ⟨q, r⟩
  · rw [q, if_pos rfl]
    refine Or.inr ⟨fun h => ?_, rfl⟩
    obtain ⟨⟨a, b⟩, d⟩ := wm.1 0 (Int.le_refl 0) (by omega)
    exact r _ a b d
  · rw [q, if_neg ne10]
    rcases r with r | ⟨x, a, b, d⟩
    · omega
    · obtain ⟨j, j0, j1, _⟩ := wm.2.2 x a b d
      by_cases c1 : v 7 0 ≤ 0
      · rw [if_pos c1]
        exact Or.inr ⟨fun h => by omega, rfl⟩
      · rw [if_neg c1]
        exact Or.inl ⟨⟨by omega, by omega⟩, rfl, by omega, by omega⟩
theorem mx_d {d e : Int} (h0 : 0 ≤ d) (h : d ≤ e) : mx d e = mx 0 e := by
  unfold mx
  by_cases c1 : d < e
  · rw [if_pos c1, if_pos (by omega)]
  · rw [if_neg c1]
    split <;> omega
theorem fcu_0 {K : Nat} {v : Vw} {T E : Int} {W : Int → Int} {rs : List Int} (hI : IM v T E) (hK : 1 ≤ K) (hr : rs ≠ []) : fcu K (v 13) (v 12) rs (s0 v W) (v 8 0) = fcu K (v 13) (v 12) rs (s0 v W) 0 := by
  cases rs with
  | nil => exact absurd rfl hr
  | cons r rs =>
    show fcu K (v 13) (v 12) rs _ _ = fcu K (v 13) (v 12) rs _ _
    have u8 : 0 ≤ v 8 0 ∧ v 8 0 ≤ T := hI.2 8 0
    rw [mx_d u8.1]
    have hp := pk_pos (f := (s0 v W).1) hK
    have u13 := (hI.db r).1
    have : ∀ w, 0 ≤ df v w := fun w => by
      have u17 : 0 ≤ v 17 w ∧ v 17 w ≤ 2 := hI.2 17 w
      have u30 : 0 ≤ v 30 (v 16 w) ∧ v 30 (v 16 w) ≤ 15 := hI.2 30 (v 16 w)
      unfold df
      repeat' split
      all_goals omega
    have hd := this (W (pk (s0 v W).1 K))
    have : (s0 v W).1 (pk (s0 v W).1 K) = v 8 0 + df v (W (pk (s0 v W).1 K)) := rfl
    unfold fe
    rw [this]
    split <;> omega
theorem q_mem {c : Cs} {v : Vw} (hN : INV c v) (h7 : 0 ≤ v 7 0 ∧ v 7 0 ≤ 6) : (∀ x ∈ c.2.2.1 4, 0 ≤ x ∧ x < v 1 0) ∧ (c.2.2.1 4).length ≤ 6 ∧ (1 ≤ v 7 0 → c.2.2.1 4 ≠ []) := by
  have hq := hN.1.cq
  have hl := map_len (f := v 39) h7.1
  unfold SQ at hq
  rw [hq]
  refine ⟨fun x hx => ?_, by omega, fun h e => by rw [e] at hl; simp at hl; omega⟩
  obtain ⟨k, k1, k2⟩ := List.mem_map.mp hx
  have := rng_mem.mp k1
  rw [← k2]
  exact hN.2.2.2.2.2.1 k this.1 this.2
theorem fc_forecast {c : Cs} {v : Vw} {T E : Int} (hN : INV c v) (hI : IM v T E) : ok_X10_forecast c ∧ Ans (fun _ => xNSE) (g_X10_forecast c) (f_forecast v) ∧ INV (g_X10_forecast c).2 (f_forecast v).2 := by
  have n10 : 0 ≤ c.1 10 := hN.1.c0.2.1.2.2
  have u7 : 0 ≤ v 7 0 ∧ v 7 0 ≤ 6 := hI.2 7 0
  have u2 : 0 ≤ v 2 0 ∧ v 2 0 ≤ 8 := hI.2 2 0
  have e8 : c.2.1 13 11 0 = v 8 0 := hN.1.c0.2.2.2
  unfold ok_X10_forecast g_X10_forecast f_forecast
  rw [e8]
  rcases can_eq hN hI with ⟨a, b, d7, dK⟩ | ⟨a, b⟩
  · rw [if_pos a, if_pos a, b, if_neg ne10]
    obtain ⟨m1, m2, m3⟩ := q_mem hN u7
    obtain ⟨g1, g2, g3⟩ := fo_ok (l := 4) hN hI rfl dK m1 m2
    have r := fo_ref (v := upv v 0 0 0) (kr := 39) (W := c.2.1 10 0) (K := (c.1 10).toNat) (hN.1.cs.wm n10) (by decide) dK u7.1 u2.1
    have r2 : (f_forecastOf 39 (upv v 0 0 0)).1 = fcu (c.1 10).toNat (v 13) (v 12) ((rng (v 7 0)).map (v 39)) (s0 v (c.2.1 10 0)) 0 := r
    have hq := hN.1.cq
    unfold SQ at hq
    refine ⟨⟨g1, trivial⟩, Or.inl ⟨?_, ?_⟩, ?_⟩
    · exact fr_forecastOf 0 0 (by decide)
    · show (Sum.inl (some (0, (g_X5_forecastOf 4 (v 8 0) c).1)) : Rr) = _
      rw [g2, r2, fcu_0 hI dK (m3 d7), hq]
    · exact (hN.fx g3.fx).vfr (fun k hk => funext fun i => (fr_forecastOf k i (by omega)).trans (up0 (by omega)))
  · rw [if_neg a, if_neg a, b, if_pos rfl]
    exact ⟨trivial, Or.inr ⟨Int.le_refl 1, rfl⟩, hN.v0⟩
