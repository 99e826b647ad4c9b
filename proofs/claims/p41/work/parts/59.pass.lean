/-! the days pass -/
theorem l2_38 : ∀ (n : Nat) (x : Int) (v : Vw), 0 ≤ x → (v 6 0 - x).toNat < n → ∀ p, (x ≤ p ∧ p < v 6 0 → (l_fills_2 n x v 38 p = 0 ↔ v 34 p = 111)) ∧ (¬ (x ≤ p ∧ p < v 6 0) → l_fills_2 n x v 38 p = v 38 p) := by
  intro n
  induction n with
  | zero => exact fun _ _ _ h => absurd h (Nat.not_lt_zero _)
  | succ n ih =>
    intro x v h0 hm p
    rw [l_fills_2]
    by_cases c1 : v 6 0 ≤ x
    · rw [if_pos c1]
      exact ⟨fun q => by omega, fun _ => rfl⟩
    · rw [if_neg c1]
      have key : ∀ y : Int, (y = 0 ↔ v 34 x = 111) → (x ≤ p ∧ p < v 6 0 → (l_fills_2 n (x + 1) (upv v 38 x y) 38 p = 0 ↔ v 34 p = 111)) ∧ (¬ (x ≤ p ∧ p < v 6 0) → l_fills_2 n (x + 1) (upv v 38 x y) 38 p = v 38 p) := fun y hy => by
        obtain ⟨g1, g2⟩ := ih (x + 1) (upv v 38 x y) (by omega) (show (v 6 0 - (x + 1)).toNat < n by omega) p
        have e6 : upv v 38 x y 6 0 = v 6 0 := rfl
        have e34 : upv v 38 x y 34 p = v 34 p := rfl
        rw [e6, e34] at g1
        rw [e6] at g2
        by_cases e : p = x
        · subst e
          refine ⟨fun _ => ?_, fun q => absurd ⟨Int.le_refl p, by omega⟩ q⟩
          rw [g2 (by omega), upv_eq]
          exact hy
        · refine ⟨fun q => g1 (by omega), fun q => ?_⟩
          rw [g2 (by omega)]
          exact upv_ni e
      by_cases c2 : v 34 x = 111
      · rw [if_pos c2]
        exact key 0 ⟨fun _ => c2, fun _ => rfl⟩
      · rw [if_neg c2]
        exact key 1 ⟨fun q => absurd q (by decide), fun q => absurd q c2⟩
theorem fills_ok {c : Cs} {v : Vw} {T E : Int} (hN : INV c v) (hI : IM v T E) (hE : E + 3255 ≤ 1000000000) : ok_X10_fillOrders c ∧ (g_X10_fillOrders c).1 = f_fills v 11 0 - v 11 0 ∧ INV (g_X10_fillOrders c).2 (f_fills v) := by
  obtain ⟨hS, hB, hC, hJ⟩ := hN
  have u6 : 0 ≤ v 6 0 ∧ v 6 0 ≤ 20 := hI.2 6 0
  have hH : HH v := ⟨(hI.2 5 0).2, u6.2, fun i => (hI.2 37 i).1, fun i => hI.2 33 i⟩
  have F : ∀ k, k ≠ 38 → l_fills_2 (((v 6 0) - 0).toNat + 1) 0 v k = v k := fun k hk => funext (fun i => fr_l_fills_2 _ _ _ k i hk)
  have hA := l2_38 (((v 6 0) - 0).toNat + 1) 0 v (Int.le_refl 0) (by omega)
  have I2 := i_l_fills_2 (((v 6 0) - 0).toNat + 1) 0 v hI ⟨Int.le_refl 0, by decide⟩
  have hfi := CI_fills hH hC hJ
  unfold ok_X10_fillOrders g_X10_fillOrders
  unfold f_fills at hfi ⊢
  revert F hA I2 hfi
  generalize l_fills_2 (((v 6 0) - 0).toNat + 1) 0 v = W
  intro F hA I2 hfi
  have S2 : Sm c W := by
    obtain ⟨s0, s1, s2, s3, s4, s5, s6, s7, s8, s9, s10⟩ := hS
    refine ⟨?_, ?_, ?_, ?_, ?_, ?_, ?_, ?_, ?_, ?_, ?_⟩
    · unfold S0
      rw [F 1 (by decide), F 2 (by decide), F 5 (by decide), F 6 (by decide), F 9 (by decide), F 3 (by decide), F 8 (by decide), F 4 (by decide)]
      exact s0
    · exact s1.fr rfl rfl (F 1 (by decide)) (F 12 (by decide)) (F 13 (by decide)) (F 14 (by decide))
    · exact s2.fr rfl rfl (F 2 (by decide)) (F 15 (by decide)) (F 16 (by decide)) (F 17 (by decide)) (F 19 (by decide)) (F 20 (by decide))
    · exact s3.fr rfl rfl (F 5 (by decide)) (F 26 (by decide)) (F 27 (by decide)) (F 28 (by decide)) (F 29 (by decide)) (F 30 (by decide)) (F 31 (by decide))
    · exact s4.fr rfl (fun s _ _ => rfl) rfl rfl (Int.le_refl _) (F 4 (by decide)) (F 21 (by decide)) (F 22 (by decide)) (F 23 (by decide)) (F 24 (by decide)) (F 25 (by decide))
    · exact s5.fr rfl (F 7 (by decide)) (F 39 (by decide))
    · exact s6.fr rfl (fun o _ _ => rfl) rfl rfl (Int.le_refl _) (F 6 (by decide)) (F 32 (by decide)) (F 33 (by decide)) (F 34 (by decide)) (F 35 (by decide)) (F 36 (by decide)) (F 37 (by decide))
    · exact s7.fr rfl (F 6 (by decide)) (F 32 (by decide))
    · exact s8.fr rfl rfl (F 9 (by decide)) (F 44 (by decide)) (F 45 (by decide)) (F 46 (by decide))
    · exact s9.fr rfl (F 2 (by decide)) (F 15 (by decide)) (F 18 (by decide)) (F 10 (by decide))
    · exact s10.fr rfl rfl rfl (F 2 (by decide)) (F 20 (by decide))
  have B2 : VB W := hB.fr (by rw [F 1 (by decide)]; exact Int.le_refl _) (F 2 (by decide)) (F 4 (by decide)) (F 5 (by decide)) (F 6 (by decide)) (F 9 (by decide)) (F 15 (by decide)) (F 16 (by decide)) (F 25 (by decide)) (F 26 (by decide)) (F 28 (by decide)) (F 29 (by decide)) (F 31 (by decide)) (F 33 (by decide)) (F 34 (by decide)) (F 36 (by decide)) (F 37 (by decide)) (F 44 (by decide)) (F 45 (by decide)) (F 46 (by decide))
  have A2 : AL W 0 := by
    intro x x0 x1
    rw [F 6 (by decide)] at x1
    rw [F 34 (by decide), (hA x).1 ⟨x0, x1⟩]
    exact ⟨fun q => ⟨q, (due_mem _).mpr ⟨x0, by rw [F 6 (by decide)]; omega⟩⟩, fun q => q.1⟩
  have F2 : FJ W := by
    unfold FJ
    rw [F 11 (by decide), F 9 (by decide), fl_congr (v := v) (w := W) (fun i => congrFun (F 34 (by decide)) i), dl_congr (v := v) (w := W) (fun i => congrFun (F 28 (by decide)) i)]
    exact ⟨hC.2.1, hC.2.2.1⟩
  have e6 : W 6 0 = v 6 0 := congrFun (F 6 (by decide)) 0
  have e11 : W 11 0 = v 11 0 := congrFun (F 11 (by decide)) 0
  obtain ⟨j1, j2, j3, j4⟩ := fills_lock fu (((v 6 0) - 0).toNat + 1) 0 0 0 c W E S2 B2 I2 A2 F2 (Int.le_refl 0) (by omega) (Int.le_refl 0) (Int.le_refl 0) (by omega) (fuw (by omega)) (by omega)
  exact ⟨j1, by rw [j2, e11]; omega, j3, j4, hfi⟩
theorem INV.day {c : Cs} {v : Vw} {k : Int} (hN : INV c v) : INV (cput c 13 11 0 k) (upv v 8 0 k) := by
  obtain ⟨⟨s0, s1, s2, s3, s4, s5, s6, s7, s8, s9, s10⟩, hB, hC, hJ⟩ := hN
  exact ⟨⟨⟨s0.1, s0.2.1, s0.2.2.1, (cput_eq _ _ _ _ _).trans (upv_eq _ _ _ _).symm⟩, s1, s2, s3, s4, s5, s6, s7.fr rfl rfl rfl, s8, s9, s10⟩, hB, CI_fr (fun k hk i => upv_nk (by omega)) hC, CJ_fr (fun k hk i => upv_nk (by omega)) hJ⟩
theorem and_imp_and {a b c : Prop} (h : a) (k : b ∧ c) : (a ∧ b) ∧ c := ⟨⟨h, k.1⟩, k.2⟩
theorem passes_ok {c : Cs} {v : Vw} {T E : Int} (hN : INV c v) (hI : IM v T E) (hd : v 8 0 + 1 ≤ T) (hE : E + 3300 ≤ 1000000000) : ok_X10_passOneDay c ∧ (g_X10_passOneDay c).1 = f_passes v 11 0 - v 11 0 ∧ INV (g_X10_passOneDay c).2 (f_passes v) := by
  have u2 : 0 ≤ v 2 0 ∧ v 2 0 ≤ 8 := hI.2 2 0
  have u5 : 0 ≤ v 5 0 ∧ v 5 0 ≤ 30 := hI.2 5 0
  have u8 : 0 ≤ v 8 0 ∧ v 8 0 ≤ T := hI.2 8 0
  unfold ok_X10_passOneDay g_X10_passOneDay f_passes
  have e8 : c.2.1 13 11 0 = v 8 0 := hN.1.c0.2.2.2
  rw [e8]
  have N1 := hN.day (k := v 8 0 + 1)
  have I1 : IM (upv v 8 0 (v 8 0 + 1)) T E := hI.up 8 0 (v 8 0 + 1) (by show 0 ≤ v 8 0 + 1 ∧ v 8 0 + 1 ≤ T; omega)
  obtain ⟨a1, a2⟩ := clean_day fu ((v 2 0 - 0).toNat + 1) 0 (cput c 13 11 0 (v 8 0 + 1)) (upv v 8 0 (v 8 0 + 1)) N1 I1 (Int.le_refl 0) u2.1 (fuw (show (v 2 0 - 0).toNat < 1000 by omega)) (show (v 2 0 - 0).toNat < _ by omega)
  have I2 := i_l_passes_12 ((v 2 0 - 0).toNat + 1) 0 (upv v 8 0 (v 8 0 + 1)) I1 (by omega) N1.2.2.2.2.2.2
  have f5 : l_passes_12 ((v 2 0 - 0).toNat + 1) 0 (upv v 8 0 (v 8 0 + 1)) 5 0 = v 5 0 := fr_l_passes_12 _ _ _ 5 0 (by decide)
  have f11 : l_passes_12 ((v 2 0 - 0).toNat + 1) 0 (upv v 8 0 (v 8 0 + 1)) 11 0 = v 11 0 := fr_l_passes_12 _ _ _ 11 0 (by decide)
  rw [show l_X10_continueCleaning_2 fu 0 (cput c 13 11 0 (v 8 0 + 1)) = g_X10_continueCleaning (cput c 13 11 0 (v 8 0 + 1)) from rfl] at a2
  refine and_imp_and a1 ?_
  revert a2 I2 f5 f11
  generalize l_passes_12 ((v 2 0 - 0).toNat + 1) 0 (upv v 8 0 (v 8 0 + 1)) = V2
  generalize g_X10_continueCleaning (cput c 13 11 0 (v 8 0 + 1)) = c2
  intro N2 I2 f5 f11
  obtain ⟨b1, b2⟩ := age_day fu ((v 5 0 - 0).toNat + 1) 0 c2 V2 N2 I2 (Int.le_refl 0) (by omega) (fuw (by omega)) (by omega)
  have I3 := i_l_passes_67 ((v 5 0 - 0).toNat + 1) 0 V2 I2 (by omega) N2.2.2.1 N2.2.2.2
  have g5 : l_passes_67 ((v 5 0 - 0).toNat + 1) 0 V2 5 0 = v 5 0 := (fr_l_passes_67 _ _ _ 5 0 (by decide)).trans f5
  have g11 : l_passes_67 ((v 5 0 - 0).toNat + 1) 0 V2 11 0 = v 11 0 := (fr_l_passes_67 _ _ _ 11 0 (by decide)).trans f11
  rw [show l_X10_ageBrews_2 fu 0 c2 = g_X10_ageBrews c2 from rfl] at b2
  refine and_imp_and b1 ?_
  revert b2 I3 g5 g11
  generalize l_passes_67 ((v 5 0 - 0).toNat + 1) 0 V2 = V3
  generalize g_X10_ageBrews c2 = c3
  intro N3 I3 g5 g11
  obtain ⟨d1, d2⟩ := mv_day fu ((v 5 0 - 0).toNat + 1) 0 c3 V3 E N3 I3 (by omega) (Int.le_refl 0) (by omega) (fuw (by omega)) (by omega)
  have I4 := i_l_passes_88 ((v 5 0 - 0).toNat + 1) 0 V3 E I3 (by omega) N3.2.2.1 N3.2.2.2 (by omega)
  have h11 : l_passes_88 ((v 5 0 - 0).toNat + 1) 0 V3 11 0 = v 11 0 := (fr_l_passes_88 _ _ _ 11 0 (by decide)).trans g11
  rw [show l_X10_moveWaitingBrews_2 fu 0 c3 = g_X10_moveWaitingBrews c3 from rfl] at d2
  refine and_imp_and d1 ?_
  revert d2 I4 h11
  generalize l_passes_88 ((v 5 0 - 0).toNat + 1) 0 V3 = V4
  generalize g_X10_moveWaitingBrews c3 = c4
  intro N4 I4 h11
  obtain ⟨k1, k2, k3⟩ := fills_ok N4 I4 (by omega)
  have I5 := i_fills I4 N4.2.2.1.2.1 N4.2.2.1.2.2.1 (by omega) (I4.2 6 0).2 (I4.2 5 0).2
  refine and_imp_and k1 ?_
  rw [k2, h11]
  revert k3 I5
  generalize f_fills V4 = V5
  generalize (g_X10_fillOrders c4).2 = c5
  intro N5 I5
  obtain ⟨m1, m2⟩ := begin_ok N5 I5
  have I6 := i_cleans I5
  have f6 : f_cleans V5 11 0 = V5 11 0 := fr_cleans 11 0 (by decide)
  refine and_imp_and m1 ?_
  revert m2 I6 f6
  generalize f_cleans V5 = V6
  generalize g_X10_beginCleaning c5 = c6
  intro N6 I6 f6
  obtain ⟨o1, o2⟩ := startQueued_ok N6 I6
  have f7 : f_startsQueue V6 11 0 = V6 11 0 := fr_startsQueue 11 0 (by decide)
  rw [f7, f6]
  exact ⟨⟨o1, trivial⟩, rfl, o2⟩
theorem pass_lock {T a was : Int} (ha : 1 ≤ a ∧ a ≤ 30) : ∀ (n m : Nat) (u i : Int) (c : Cs) (v : Vw) (E : Int), INV c v → IM v T E → u = v 11 0 - was → 0 ≤ i → i ≤ a → v 8 0 + (a - i) ≤ T → E + 3300 * ((m : Nat) : Int) ≤ 1000000000 → (a - i).toNat < n → (a - i).toNat < m →
    okl_X10_pass_24 a n u i c ∧ (l_X10_pass_24 a n u i c).1 = .inl (some (0, (l_pass_28 a was m i v).1)) ∧ INV (l_X10_pass_24 a n u i c).2 (l_pass_28 a was m i v).2 ∧ (l_pass_28 a was m i v).2 0 0 = v 0 0 := by
  intro n
  induction n with
  | zero => exact fun _ _ _ _ _ _ _ _ _ _ _ _ _ h => absurd h (Nat.not_lt_zero _)
  | succ n ih =>
    intro m u i c v E hN hI hu h0 h1 hd hE hn hm
    cases m with
    | zero => exact absurd hm (Nat.not_lt_zero _)
    | succ m =>
      rw [okl_X10_pass_24, l_X10_pass_24, l_pass_28]
      by_cases c1 : a ≤ i
      · rw [if_pos c1, if_pos c1, if_pos c1]
        exact ⟨⟨⟨by omega, by omega⟩, ⟨by omega, by omega⟩, trivial⟩, by rw [hu], hN, rfl⟩
      rw [if_neg c1, if_neg c1, if_neg c1]
      obtain ⟨p1, p2, p3⟩ := passes_ok hN hI (by omega) (by omega)
      have I2 := i_passes hI hN.2.2.1 hN.2.2.2 (by omega) (by omega) (hI.2 5 0).2
      have d2 : f_passes v 8 0 = v 8 0 + 1 := d_passes
      obtain ⟨j1, j2, j3, j4⟩ := ih m (u + (g_X10_passOneDay c).1) (i + 1) (g_X10_passOneDay c).2 (f_passes v) (E + 3300) p3 I2 (by omega) (by omega) (by omega) (by omega) (by omega) (by omega) (by omega)
      exact ⟨⟨⟨by omega, by omega⟩, ⟨by omega, by omega⟩, p1, j1⟩, j2, j3, j4.trans (fr_passes 0 0 (by decide))⟩
theorem fc_pass {c : Cs} {v : Vw} {T E a : Int} (hN : INV c v) (hI : IM v T E) (ha : R32 a) (hd : v 8 0 + 30 ≤ T) (hE : E + 102300 ≤ 1000000000) : ok_X10_pass a c ∧ Ans (fun _ => xIAE) (g_X10_pass a c) (f_pass a v) ∧ INV (g_X10_pass a c).2 (f_pass a v).2 := by
  unfold ok_X10_pass g_X10_pass f_pass
  have o1 : ok_X10_isOutside a 1 30 c := ok_out ha ⟨by decide, by decide⟩ ⟨by decide, by decide⟩
  rcases outS a 1 30 c with ⟨e1, h0, h3, e2⟩ | ⟨e1, h, e2⟩
  · rw [e1, e2, if_pos rfl, if_pos rfl, if_neg ne10]
    obtain ⟨j1, j2, j3, j4⟩ := pass_lock (T := T) (was := v 11 0) ⟨h0, h3⟩ fu ((a - 0).toNat + 1) 0 0 c (upv v 0 0 0) E hN.v0 (hI.up 0 0 0 (by show (0 : Int) ≤ 0 ∧ (0 : Int) ≤ 4; omega)) (by show (0 : Int) = v 11 0 - v 11 0; omega) (Int.le_refl 0) (by omega) (by show v 8 0 + (a - 0) ≤ T; omega) (by omega) (fuw (by omega)) (by omega)
    exact ⟨⟨o1, j1⟩, Or.inl ⟨j4, j2⟩, j3⟩
  · rw [e1, e2, if_neg ne10, if_neg ne10, if_pos rfl]
    exact ⟨⟨o1, trivial⟩, Or.inr ⟨Int.le_refl 1, rfl⟩, hN.v0⟩
