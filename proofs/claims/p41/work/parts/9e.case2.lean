/-! the law: brew, improve, pass (written by wip/p41/mk9e.py) -/
theorem q_brew {X : Cx} {h un it : Nat} {v : Vw} {T E re ve cr mo k r y x a b n9 kd : Int} {u tk : Int → Int} {n m : Nat} (hN : KN X) (hL : LI v T E re ve cr mo u tk) (hT : T + 31 ≤ 20000) (hE : E + 102300 ≤ 1000000000) (ha : 0 ≤ a ∧ a ≤ 4) (hb : 0 ≤ b ∧ b ≤ 8) (hn : 0 ≤ n9 ∧ n9 < 1000) (hk : 3 ≤ kd ∧ kd < 8)
    (K : ∀ (v2 : Vw) (cr2 mo2 t : Int) (u2 : Int → Int), LI v2 (T + 31) (E + 102300) re ve cr2 mo2 u2 tk → R32 t → (t < 0 → Fl v v2) → Go X h 877 (lsT X h un it re ve cr2 mo2 k r (Sm9 v) t) (v2, (y + 6, x + 66), (n, m), Rz un it u2 tk)) :
    Go X h 310 (lsD X h un it re ve cr mo k r (Sm9 v) a b n9 kd (n9 % 20)) (v, (y, x), (n, m), Rz un it u tk) := by
  refine Go.inv (fun hV => ?_)
  obtain ⟨c9, hV⟩ := hV
  have hV : INV c9 v := hV
  have hL9 := hL
  obtain ⟨hI, hA, hD, ⟨e1, e2, e3⟩, hc, htk, hu⟩ := hL
  have hT0 := hI.1
  have hM : IM v (T + 31) (E + 102300) := hI.mono (by omega) (by omega) (by omega) (by omega)
  have u8 : 0 ≤ v 8 0 ∧ v 8 0 ≤ T := hI.2 8 0
  have u6 : 0 ≤ v 6 0 ∧ v 6 0 ≤ 20 := hI.2 6 0
  have u7 : 0 ≤ v 7 0 ∧ v 7 0 ≤ 6 := hI.2 7 0
  have u5 : 0 ≤ v 5 0 ∧ v 5 0 ≤ 30 := hI.2 5 0
  have u1 : 0 ≤ v 1 0 ∧ v 1 0 ≤ 5 := hI.2 1 0
  have u33 : ∀ o, 0 ≤ v 33 o ∧ v 33 o ≤ 4 := fun o => hI.2 33 o
  have h34 := hV.2.2.1.2.2.2.2.2
  have hw := w_brew (X := X) (h := h) (y := y) (x := x) (n := n) (m := m) (R := Rz un it u tk) (a := a) (b := b) hN hI ⟨by omega, by omega⟩ ⟨by omega, by omega⟩
  have hI2 := i_brew (a := a) (b := b) hM ⟨by omega, by omega⟩ ⟨by omega, by omega⟩ hV.2.2.1.1
  have pw := pw_brew (a := a) (b := b) hA hD u5.1
  have Q : ∀ k, k ≠ 0 ∧ k ≠ 5 ∧ k ≠ 15 ∧ k ≠ 16 ∧ k ≠ 19 ∧ k ≠ 21 ∧ k ≠ 25 ∧ k ≠ 26 ∧ k ≠ 27 ∧ k ≠ 28 ∧ k ≠ 29 ∧ k ≠ 30 → ∀ i, (f_brew a b v).2 k i = v k i := fun k hk i => fr_brew k i hk
  rcases x_brew a b v with ⟨z, z2, F⟩ | ⟨z, e, hr1, hr2, hr3, hr4, ew⟩
  · obtain ⟨t, et, t0, t1⟩ := qc_f (cod := cod_brew) (p := f_brew a b v) (by omega) (fun k => by unfold cod_brew; (repeat' split) <;> omega)
    rw [et] at hw
    obtain ⟨w', q9, kk⟩ := K _ cr mo t u (hL9.fl hI2 F) ⟨by omega, by omega⟩ (fun _ => F)
    refine ⟨w', q9, ?_⟩
    unfold lsD
    refine Wv.iload dL_law_310 rfl ?_
    refine Wi.if_ne_t (tgt := 372) dL_law_312 (by decide) ⟨by omega, by omega⟩ (by omega) ?_
    refine Wv.iload dL_law_372 rfl ?_
    refine Wi.const dL_law_374 ?_
    refine Wi.icmp_ge_t (tgt := 396) dL_law_375 (by decide) ⟨by omega, by omega⟩ ⟨by omega, by omega⟩ (by omega) ?_
    refine Wv.iload dL_law_396 rfl ?_
    refine Wv.bipush (v := i32 8) dL_law_398 (by decide) ?_
    refine Wi.icmp_ge_f (tgt := 485) dL_law_400 (by decide) ⟨by omega, by omega⟩ ⟨by omega, by omega⟩ (by omega) ?_
    refine Wv.aload_n (i := 1) dL_law_403 rfl rfl ?_
    refine Wv.callV (As := []) (v := some _) k_X10_brews (tb1 (i := 238) rfl) ki_X10_brews kv_X10_brews dL_law_404 rfl rfl (Nat.le_of_ble_eq_true rfl) (Nat.le_of_ble_eq_true rfl) (w_brews hI) ?_
    refine Wv.istore dL_law_407 (by decide) rfl ?_
    refine Wv.aload_n (i := 1) dL_law_409 rfl rfl ?_
    refine Wv.iload dL_law_410 rfl ?_
    refine Wv.iload dL_law_412 rfl ?_
    refine Wv.callH (As := [_, _, _]) (v := some _) k_L_brew (tb2 (i := 234) rfl) ki_L_brew dL_law_414 rfl rfl (Nat.le_of_ble_eq_true rfl) (Nat.le_of_ble_eq_true rfl) hw ?_
    refine Wv.istore dL_law_417 (by decide) rfl ?_
    refine Wv.iload dL_law_419 rfl ?_
    refine Wi.if_lt_t (tgt := 475) dL_law_421 (by decide) ⟨by omega, by omega⟩ (by omega) ?_
    refine Wi.const dL_law_475 ?_
    refine Wv.goto (tgt := 480) dL_law_476 (by decide) ?_
    refine Wv.istore dL_law_480 (by decide) rfl ?_
    refine Wv.goto (tgt := 877) dL_law_482 (by decide) ?_
    exact Wv.more (by omega) (by omega) (Wv.fin kk ⟨rfl, rfl, rfl, rfl, rfl, rfl, rfl, rfl, rfl, rfl, rfl, rfl, rfl, trivial⟩)
  · rw [qc_v z, e] at hw
    have L2 : LI (f_brew a b v).2 (T + 31) (E + 102300) re ve cr mo u tk := by
      refine ⟨hI2, pw.1, pw.2, ⟨by rw [Q 1 (by decide), e1], by rw [Q 2 (by decide), e2], by rw [Q 3 (by decide), e3]⟩, hc, fun j j0 j1 => by rw [Q 20 (by decide)]; exact htk j j0 j1, fun o o0 o1 => ?_⟩
      rw [Q 6 (by decide)] at o1
      rw [hu o o0 o1]
      exact (osm_congr (Q 33 (by decide) o) (fun k _ _ => Q 37 (by decide) _)).symm
    obtain ⟨-, s5, s28, s29, s15, s16⟩ := stV_f a b (upv v 0 0 0)
    rw [← ew] at s5 s28 s29 s15 s16
    have e50 : (upv v 0 0 0) 5 0 = v 5 0 := upv_nk (by decide)
    rw [e50] at s5
    have g28 : (f_brew a b v).2 28 (v 5 0) = 0 := by rw [s28, if_pos e50.symm]
    have g29 : (f_brew a b v).2 29 (v 5 0) = b := by rw [s29, if_pos e50.symm]
    have g15 : (f_brew a b v).2 15 b = 1 := by rw [s15, if_pos rfl]
    have g16 : (f_brew a b v).2 16 b = v 5 0 := by rw [s16, if_pos rfl, e50]
    have g26 : (f_brew a b v).2 26 (v 5 0) = a := by rw [ew]; simp [stV, upv]
    have g2 : (f_brew a b v).2 2 0 = v 2 0 := Q 2 (by decide) 0
    obtain ⟨w', q9, kk⟩ := K _ cr mo (v 5 0) u L2 ⟨by omega, by omega⟩ (fun q => absurd q (by omega))
    refine ⟨w', q9, ?_⟩
    unfold lsD
    refine Wv.iload dL_law_310 rfl ?_
    refine Wi.if_ne_t (tgt := 372) dL_law_312 (by decide) ⟨by omega, by omega⟩ (by omega) ?_
    refine Wv.iload dL_law_372 rfl ?_
    refine Wi.const dL_law_374 ?_
    refine Wi.icmp_ge_t (tgt := 396) dL_law_375 (by decide) ⟨by omega, by omega⟩ ⟨by omega, by omega⟩ (by omega) ?_
    refine Wv.iload dL_law_396 rfl ?_
    refine Wv.bipush (v := i32 8) dL_law_398 (by decide) ?_
    refine Wi.icmp_ge_f (tgt := 485) dL_law_400 (by decide) ⟨by omega, by omega⟩ ⟨by omega, by omega⟩ (by omega) ?_
    refine Wv.aload_n (i := 1) dL_law_403 rfl rfl ?_
    refine Wv.callV (As := []) (v := some _) k_X10_brews (tb1 (i := 238) rfl) ki_X10_brews kv_X10_brews dL_law_404 rfl rfl (Nat.le_of_ble_eq_true rfl) (Nat.le_of_ble_eq_true rfl) (w_brews hI) ?_
    refine Wv.istore dL_law_407 (by decide) rfl ?_
    refine Wv.aload_n (i := 1) dL_law_409 rfl rfl ?_
    refine Wv.iload dL_law_410 rfl ?_
    refine Wv.iload dL_law_412 rfl ?_
    refine Wv.callH (As := [_, _, _]) (v := some _) k_L_brew (tb2 (i := 234) rfl) ki_L_brew dL_law_414 rfl rfl (Nat.le_of_ble_eq_true rfl) (Nat.le_of_ble_eq_true rfl) hw ?_
    refine Wv.istore dL_law_417 (by decide) rfl ?_
    refine Wv.iload dL_law_419 rfl ?_
    refine Wi.if_lt_f (tgt := 475) dL_law_421 (by decide) ⟨by omega, by omega⟩ (by omega) ?_
    refine Wv.iload dL_law_424 rfl ?_
    refine Wv.iload dL_law_426 rfl ?_
    refine Wi.icmp_ne_f (tgt := 479) dL_law_428 (by decide) ⟨by omega, by omega⟩ ⟨by omega, by omega⟩ (by omega) ?_
    refine Wv.aload_n (i := 1) dL_law_431 rfl rfl ?_
    refine Wv.iload dL_law_432 rfl ?_
    refine Wv.callH (As := [_, _]) (v := some _) k_L_stage (tb6 (i := 82) rfl) ki_L_stage dL_law_434 rfl rfl (Nat.le_of_ble_eq_true rfl) (Nat.le_of_ble_eq_true rfl) (n_stage (s := 102) hN hI2 ⟨by omega, by omega⟩ (by rw [g28]; rfl)) ?_
    refine Wv.bipush (v := i32 102) dL_law_437 (by decide) ?_
    refine Wi.icmp_ne_f (tgt := 479) dL_law_439 (by decide) ⟨by omega, by omega⟩ ⟨by omega, by omega⟩ (by omega) ?_
    refine Wv.aload_n (i := 1) dL_law_442 rfl rfl ?_
    refine Wv.iload dL_law_443 rfl ?_
    refine Wv.callH (As := [_, _]) (v := some _) k_L_vesselOf (tb6 (i := 89) rfl) ki_L_vesselOf dL_law_445 rfl rfl (Nat.le_of_ble_eq_true rfl) (Nat.le_of_ble_eq_true rfl) (n_vesselOf (s := b) hN hI2 ⟨by omega, by omega⟩ (by rw [g28, g29]; rfl)) ?_
    refine Wv.iload dL_law_448 rfl ?_
    refine Wi.icmp_ne_f (tgt := 479) dL_law_450 (by decide) ⟨by omega, by omega⟩ ⟨by omega, by omega⟩ (by omega) ?_
    refine Wv.aload_n (i := 1) dL_law_453 rfl rfl ?_
    refine Wv.iload dL_law_454 rfl ?_
    refine Wv.callH (As := [_, _]) (v := some _) k_L_brewIn (tb6 (i := 62) rfl) ki_L_brewIn dL_law_456 rfl rfl (Nat.le_of_ble_eq_true rfl) (Nat.le_of_ble_eq_true rfl) (n_brewIn (s := v 5 0) hN hI2 ⟨by omega, by omega⟩ (by rw [g15, g16]; rfl)) ?_
    refine Wv.iload dL_law_459 rfl ?_
    refine Wi.icmp_ne_f (tgt := 479) dL_law_461 (by decide) ⟨by omega, by omega⟩ ⟨by omega, by omega⟩ (by omega) ?_
    refine Wv.aload_n (i := 1) dL_law_464 rfl rfl ?_
    refine Wv.iload dL_law_465 rfl ?_
    refine Wv.callH (As := [_, _]) (v := some _) k_L_recipeOf (tb6 (i := 70) rfl) ki_L_recipeOf dL_law_467 rfl rfl (Nat.le_of_ble_eq_true rfl) (Nat.le_of_ble_eq_true rfl) (n_recipeOf (s := a) hN hI2 ⟨by omega, by omega⟩ g26) ?_
    refine Wv.iload dL_law_470 rfl ?_
    refine Wi.icmp_ne_f (tgt := 479) dL_law_472 (by decide) ⟨by omega, by omega⟩ ⟨by omega, by omega⟩ (by omega) ?_
    refine Wi.const dL_law_475 ?_
    refine Wv.goto (tgt := 480) dL_law_476 (by decide) ?_
    refine Wv.istore dL_law_480 (by decide) rfl ?_
    refine Wv.goto (tgt := 877) dL_law_482 (by decide) ?_
    exact Wv.more (by omega) (by omega) (Wv.fin kk ⟨rfl, rfl, rfl, rfl, rfl, rfl, rfl, rfl, rfl, rfl, rfl, rfl, rfl, trivial⟩)
theorem can_0 (v : Vw) : f_canForecast v = (0, upv v 0 0 1) ∨ f_canForecast v = (1, upv v 0 0 0) := by
  unfold f_canForecast
  repeat' split
  · exact Or.inl rfl
  · exact Or.inl rfl
  · exact Or.inr rfl
theorem can_fr0 {v w : Vw} (F : ∀ k, k = 2 ∨ k = 7 ∨ k = 20 → w k = v k) (h : f_canForecast v = (0, upv v 0 0 1)) : f_canForecast w = (0, upv w 0 0 1) := by
  rcases can_0 w with g | g
  · exact g
  · have g2 := can_fr (v := w) (w := v) (fun k hk => (F k hk).symm) g
    rw [h] at g2
    have := congrArg Prod.fst g2
    exact absurd (show (0 : Int) = 1 from this) (by decide)
theorem Fc.go {K : Nat} {W : Int → Int} {S : List Int} {T E T' E' : Int} {v w : Vw} (h : Fc K W S T E v) (F : ∀ k, k ≠ 0 ∧ k ≠ 40 ∧ k ≠ 41 ∧ k ≠ 42 ∧ k ≠ 43 → ∀ i, w k i = v k i) (hI : IM w T' E') : Fc K W S T' E' w ∧ valF K w W (qv w) = valF K v W (qv v) ∧ mn K w W S = mn K v W S := by
  have G : ∀ k, k ≠ 0 ∧ k ≠ 40 ∧ k ≠ 41 ∧ k ≠ 42 ∧ k ≠ 43 → w k = v k := fun k hk => funext (F k hk)
  have e : valF K w W = valF K v W := valF_fr (fun k hk => G k (by omega))
  refine ⟨h.fr G hI, ?_, by unfold mn; rw [e]⟩
  rw [e]
  unfold qv
  rw [G 7 (by decide), G 39 (by decide)]
theorem im_f {K : Nat} {W : Int → Int} {S : List Int} {T E A B : Int} {v : Vw} (h : Fc K W S T E v) (hA : valF K v W (qv v) = A) (hB : (mn K v W S).1 = B) : ∃ w, qc cod_forecast (f_forecast v) = A ∧ (f_forecast v).2 = w ∧ Fc K W S T E w ∧ valF K w W (qv w) = A ∧ (mn K w W S).1 = B ∧ ∀ k, k ≠ 0 ∧ k ≠ 39 ∧ k ≠ 40 ∧ k ≠ 41 ∧ k ≠ 42 ∧ k ≠ 43 → ∀ i, w k i = v k i := by
  have F : ∀ k, k ≠ 0 ∧ k ≠ 40 ∧ k ≠ 41 ∧ k ≠ 42 ∧ k ≠ 43 → ∀ i, (f_forecast v).2 k i = v k i := fun k hk i => fr_forecast k i (by omega)
  obtain ⟨g1, g2, g3⟩ := h.go F (i_forecast h.2.2.2.1)
  have a := h.fore
  exact ⟨_, by rw [qc_v a.2, a.1, hA], rfl, g1, by rw [g2, hA], by rw [g3, hB], fun k hk i => F k (by omega) i⟩
theorem im_b {K : Nat} {W : Int → Int} {S : List Int} {T E A B : Int} {v : Vw} (h : Fc K W S T E v) (hA : valF K v W (qv v) = A) (hB : (mn K v W S).1 = B) : ∃ w, qc cod_bestForecast (f_bestForecast v) = B ∧ (f_bestForecast v).2 = w ∧ Fc K W S T E w ∧ valF K w W (qv w) = A ∧ (mn K w W S).1 = B ∧ ∀ k, k ≠ 0 ∧ k ≠ 39 ∧ k ≠ 40 ∧ k ≠ 41 ∧ k ≠ 42 ∧ k ≠ 43 → ∀ i, w k i = v k i := by
  have F : ∀ k, k ≠ 0 ∧ k ≠ 40 ∧ k ≠ 41 ∧ k ≠ 42 ∧ k ≠ 43 → ∀ i, (f_bestForecast v).2 k i = v k i := fun k hk i => fr_bestForecast k i (by omega)
  obtain ⟨g1, g2, g3⟩ := h.go F (i_bestForecast h.2.2.2.1)
  have a := h.best
  exact ⟨_, by rw [qc_v a.2, a.1, hB], rfl, g1, by rw [g2, hA], by rw [g3, hB], fun k hk i => F k (by omega) i⟩
theorem im_t {K : Nat} {W : Int → Int} {S : List Int} {T E A B : Int} {v : Vw} (h : Fc K W S T E v) (hA : valF K v W (qv v) = A) (hB : (mn K v W S).1 = B) : ∃ w, qc cod_bestForecastByTrying (f_bestForecastByTrying v) = B ∧ (f_bestForecastByTrying v).2 = w ∧ Fc K W S T E w ∧ valF K w W (qv w) = A ∧ (mn K w W S).1 = B ∧ ∀ k, k ≠ 0 ∧ k ≠ 39 ∧ k ≠ 40 ∧ k ≠ 41 ∧ k ≠ 42 ∧ k ≠ 43 → ∀ i, w k i = v k i := im_b h hA hB
theorem im_i {K : Nat} {W : Int → Int} {S : List Int} {T E A B : Int} {v : Vw} (h : Fc K W S T E v) (hA : valF K v W (qv v) = A) (hB : (mn K v W S).1 = B) : ∃ w, qc cod_improve (f_improve v) = A - B ∧ (f_improve v).2 = w ∧ Fc K W S T E w ∧ valF K w W (qv w) = B ∧ (mn K w W S).1 = B ∧ ∀ k, k ≠ 0 ∧ k ≠ 39 ∧ k ≠ 40 ∧ k ≠ 41 ∧ k ≠ 42 ∧ k ≠ 43 → ∀ i, w k i = v k i := by
  obtain ⟨a, a0, g1, g2, g3⟩ := h.impr
  exact ⟨_, by rw [qc_v a0, a, hA, hB], rfl, g1, by rw [g2, hB], by rw [g3, hB], fun k hk i => fr_improve k i hk⟩
theorem q_improve {X : Cx} {h un it : Nat} {v : Vw} {T E re ve cr mo k r y x a b n9 kd : Int} {u tk : Int → Int} {n m : Nat} (hN : KN X) (hL : LI v T E re ve cr mo u tk) (hT : T + 31 ≤ 20000) (hE : E + 102300 ≤ 1000000000) (ha : 0 ≤ a ∧ a ≤ 4) (hb : 0 ≤ b ∧ b ≤ 8) (hn : 0 ≤ n9 ∧ n9 < 1000) (hk : kd = 12)
    (K : ∀ (v2 : Vw) (cr2 mo2 t : Int) (u2 : Int → Int), LI v2 (T + 31) (E + 102300) re ve cr2 mo2 u2 tk → R32 t → (t < 0 → Fl v v2) → Go X h 877 (lsT X h un it re ve cr2 mo2 k r (Sm9 v) t) (v2, (y + 6, x + 66), (n, m), Rz un it u2 tk)) :
    Go X h 310 (lsD X h un it re ve cr mo k r (Sm9 v) a b n9 kd (n9 % 20)) (v, (y, x), (n, m), Rz un it u tk) := by
  refine Go.inv (fun hV => ?_)
  obtain ⟨c9, hV⟩ := hV
  have hV : INV c9 v := hV
  have hL9 := hL
  obtain ⟨hI, hA, hD, ⟨e1, e2, e3⟩, hc, htk, hu⟩ := hL
  have hT0 := hI.1
  have hM : IM v (T + 31) (E + 102300) := hI.mono (by omega) (by omega) (by omega) (by omega)
  have u8 : 0 ≤ v 8 0 ∧ v 8 0 ≤ T := hI.2 8 0
  have u6 : 0 ≤ v 6 0 ∧ v 6 0 ≤ 20 := hI.2 6 0
  have u7 : 0 ≤ v 7 0 ∧ v 7 0 ≤ 6 := hI.2 7 0
  have u5 : 0 ≤ v 5 0 ∧ v 5 0 ≤ 30 := hI.2 5 0
  have u1 : 0 ≤ v 1 0 ∧ v 1 0 ≤ 5 := hI.2 1 0
  have u33 : ∀ o, 0 ≤ v 33 o ∧ v 33 o ≤ 4 := fun o => hI.2 33 o
  have h34 := hV.2.2.1.2.2.2.2.2
  have I1 := i_forecast hI
  have I2 := i_bestForecast I1
  have I3 := i_improve I2
  have h1 := w_forecast (X := X) (h := h) (y := y) (x := x) (n := n) (m := m) (R := Rz un it u tk) hN hI
  have h2 := w_bestForecast (X := X) (h := h) (y := y + 1) (x := x + 1) (n := n) (m := m) (R := Rz un it u tk) hN I1
  have h3 := w_improve (X := X) (h := h) (y := y + 1 + 1) (x := x + 1 + 1) (n := n) (m := m) (R := Rz un it u tk) hN I2
  have F1 : ∀ k, k ≠ 0 ∧ k ≠ 42 ∧ k ≠ 43 → ∀ i, (f_forecast v).2 k i = v k i := fun k hk i => fr_forecast k i hk
  have F2 : ∀ k, k ≠ 0 ∧ k ≠ 40 ∧ k ≠ 41 ∧ k ≠ 42 ∧ k ≠ 43 → ∀ i, (f_bestForecast (f_forecast v).2).2 k i = (f_forecast v).2 k i := fun k hk i => fr_bestForecast k i hk
  have F3 : ∀ k, k ≠ 0 ∧ k ≠ 39 ∧ k ≠ 40 ∧ k ≠ 41 ∧ k ≠ 42 ∧ k ≠ 43 → ∀ i, (f_improve (f_bestForecast (f_forecast v).2).2).2 k i = (f_bestForecast (f_forecast v).2).2 k i := fun k hk i => fr_improve k i hk
  rcases Fc.of hV hI with ⟨Kp, W, S, f0⟩ | g0
  · obtain ⟨A, hA9⟩ : ∃ A, valF Kp v W (qv v) = A := ⟨_, rfl⟩
    obtain ⟨B, hB9⟩ : ∃ B, (mn Kp v W S).1 = B := ⟨_, rfl⟩
    have b0 := f0.small
    have le0 := f0.le
    rw [hA9] at b0 le0
    rw [hB9] at le0
    clear I1 I2 I3 h1 h2 h3 F1 F2 F3
    obtain ⟨w1, q1, r1, f1, A1, B1, F1⟩ := im_f f0 hA9 hB9
    have h1 := w_forecast (X := X) (h := h) (y := y) (x := x) (n := n) (m := m) (R := Rz un it u tk) hN hI
    rw [q1, r1] at h1
    obtain ⟨w2, q2, r2, f2, A2, B2, F2⟩ := im_b f1 A1 B1
    have h2 := w_bestForecast (X := X) (h := h) (y := y + 1) (x := x + 1) (n := n) (m := m) (R := Rz un it u tk) hN f1.2.2.2.1
    rw [q2, r2] at h2
    obtain ⟨w3, q3, r3, f3, A3, B3, F3⟩ := im_i f2 A2 B2
    have h3 := w_improve (X := X) (h := h) (y := y + 1 + 1) (x := x + 1 + 1) (n := n) (m := m) (R := Rz un it u tk) hN f2.2.2.2.1
    rw [q3, r3] at h3
    obtain ⟨w4, q4, r4, f4, A4, B4, F4⟩ := im_f f3 A3 B3
    have h4 := w_forecast (X := X) (h := h) (y := y + 1 + 1 + 1) (x := x + 1 + 1 + 1) (n := n) (m := m) (R := Rz un it u tk) hN f3.2.2.2.1
    rw [q4, r4] at h4
    obtain ⟨w5, q5, r5, f5, A5, B5, F5⟩ := im_t f4 A4 B4
    have h5 := w_bestForecastByTrying (X := X) (h := h) (y := y + 1 + 1 + 1 + 1) (x := x + 1 + 1 + 1 + 1) (n := n) (m := m) (R := Rz un it u tk) hN f4.2.2.2.1
    rw [q5, r5] at h5
    obtain ⟨w6, q6, r6, f6, A6, B6, F6⟩ := im_i f5 A5 B5
    have h6 := w_improve (X := X) (h := h) (y := y + 1 + 1 + 1 + 1 + 1) (x := x + 1 + 1 + 1 + 1 + 1) (n := n) (m := m) (R := Rz un it u tk) hN f5.2.2.2.1
    rw [q6, r6] at h6
    have s3 := f3.small
    rw [A3] at s3
    clear A1 A2 A3 A4 A5 A6 B1 B2 B3 B4 B5 B6 q1 q2 q3 q4 q5 q6 hA9 hB9
    have L2 : LI w6 (T + 31) (E + 102300) re ve cr mo u tk := hL9.fr (f6.2.2.2.1.mono (by omega) (by omega) (by omega) (by omega)) (fun k hk i => by
      rw [F6 k (by omega), F5 k (by omega), F4 k (by omega), F3 k (by omega), F2 k (by omega), F1 k (by omega)])
    obtain ⟨w', q9, kk⟩ := K _ cr mo (A - B) u L2 ⟨by omega, by omega⟩ (fun q => absurd q (by omega))
    refine ⟨w', q9, ?_⟩
    unfold lsD
    refine Wv.iload dL_law_310 rfl ?_
    refine Wi.if_ne_t (tgt := 372) dL_law_312 (by decide) ⟨by omega, by omega⟩ (by omega) ?_
    refine Wv.iload dL_law_372 rfl ?_
    refine Wi.const dL_law_374 ?_
    refine Wi.icmp_ge_t (tgt := 396) dL_law_375 (by decide) ⟨by omega, by omega⟩ ⟨by omega, by omega⟩ (by omega) ?_
    refine Wv.iload dL_law_396 rfl ?_
    refine Wv.bipush (v := i32 8) dL_law_398 (by decide) ?_
    refine Wi.icmp_ge_t (tgt := 485) dL_law_400 (by decide) ⟨by omega, by omega⟩ ⟨by omega, by omega⟩ (by omega) ?_
    refine Wv.iload dL_law_485 rfl ?_
    refine Wv.bipush (v := i32 11) dL_law_487 (by decide) ?_
    refine Wi.icmp_ge_t (tgt := 537) dL_law_489 (by decide) ⟨by omega, by omega⟩ ⟨by omega, by omega⟩ (by omega) ?_
    refine Wv.iload dL_law_537 rfl ?_
    refine Wv.bipush (v := i32 11) dL_law_539 (by decide) ?_
    refine Wi.icmp_ne_t (tgt := 558) dL_law_541 (by decide) ⟨by omega, by omega⟩ ⟨by omega, by omega⟩ (by omega) ?_
    refine Wv.iload dL_law_558 rfl ?_
    refine Wv.bipush (v := i32 12) dL_law_560 (by decide) ?_
    refine Wi.icmp_ne_f (tgt := 655) dL_law_562 (by decide) ⟨by omega, by omega⟩ ⟨by omega, by omega⟩ (by omega) ?_
    refine Wv.aload_n (i := 1) dL_law_565 rfl rfl ?_
    refine Wv.callH (As := [_]) (v := some _) k_L_forecast (tb3 (i := 180) rfl) ki_L_forecast dL_law_566 rfl rfl (Nat.le_of_ble_eq_true rfl) (Nat.le_of_ble_eq_true rfl) h1 ?_
    refine Wv.istore dL_law_569 (by decide) rfl ?_
    refine Wv.aload_n (i := 1) dL_law_571 rfl rfl ?_
    refine Wv.callH (As := [_]) (v := some _) k_L_bestForecast (tb3 (i := 233) rfl) ki_L_bestForecast dL_law_572 rfl rfl (Nat.le_of_ble_eq_true rfl) (Nat.le_of_ble_eq_true rfl) h2 ?_
    refine Wv.istore dL_law_575 (by decide) rfl ?_
    refine Wv.aload_n (i := 1) dL_law_577 rfl rfl ?_
    refine Wv.callH (As := [_]) (v := some _) k_L_improve (tb5 (i := 72) rfl) ki_L_improve dL_law_578 rfl rfl (Nat.le_of_ble_eq_true rfl) (Nat.le_of_ble_eq_true rfl) h3 ?_
    refine Wv.istore dL_law_581 (by decide) rfl ?_
    refine Wv.iload dL_law_583 rfl ?_
    refine Wi.if_ge_t (tgt := 610) dL_law_585 (by decide) ⟨by omega, by omega⟩ (by omega) ?_
    refine Wv.iload dL_law_610 rfl ?_
    refine Wv.iload dL_law_612 rfl ?_
    refine Wv.iload dL_law_614 rfl ?_
    refine Wi.sub dL_law_616 ?_
    refine Wi.icmp_ne_f (tgt := 649) dL_law_617 (by decide) ⟨by omega, by omega⟩ ⟨by omega, by omega⟩ (by omega) ?_
    refine Wv.aload_n (i := 1) dL_law_620 rfl rfl ?_
    refine Wv.callH (As := [_]) (v := some _) k_L_forecast (tb3 (i := 180) rfl) ki_L_forecast dL_law_621 rfl rfl (Nat.le_of_ble_eq_true rfl) (Nat.le_of_ble_eq_true rfl) h4 ?_
    refine Wv.iload dL_law_624 rfl ?_
    refine Wi.icmp_ne_f (tgt := 649) dL_law_626 (by decide) ⟨by omega, by omega⟩ ⟨by omega, by omega⟩ (by omega) ?_
    refine Wv.aload_n (i := 1) dL_law_629 rfl rfl ?_
    refine Wv.callH (As := [_]) (v := some _) k_L_bestForecastByTrying (tb5 (i := 45) rfl) ki_L_bestForecastByTrying dL_law_630 rfl rfl (Nat.le_of_ble_eq_true rfl) (Nat.le_of_ble_eq_true rfl) h5 ?_
    refine Wv.iload dL_law_633 rfl ?_
    refine Wi.icmp_ne_f (tgt := 649) dL_law_635 (by decide) ⟨by omega, by omega⟩ ⟨by omega, by omega⟩ (by omega) ?_
    refine Wv.aload_n (i := 1) dL_law_638 rfl rfl ?_
    refine Wv.callH (As := [_]) (v := some _) k_L_improve (tb5 (i := 72) rfl) ki_L_improve dL_law_639 rfl rfl (Nat.le_of_ble_eq_true rfl) (Nat.le_of_ble_eq_true rfl) h6 ?_
    rw [show B - B = 0 by omega]
    refine Wi.if_ne_f (tgt := 649) dL_law_642 (by decide) ⟨by omega, by omega⟩ (by omega) ?_
    refine Wi.const dL_law_645 ?_
    refine Wv.goto (tgt := 650) dL_law_646 (by decide) ?_
    refine Wv.istore dL_law_650 (by decide) rfl ?_
    refine Wv.goto (tgt := 877) dL_law_652 (by decide) ?_
    exact Wv.more (by omega) (by omega) (Wv.fin kk ⟨rfl, rfl, rfl, rfl, rfl, rfl, rfl, rfl, rfl, rfl, rfl, rfl, rfl, trivial⟩)
  · have e1 : f_forecast v = (0, upv v 0 0 1) := by unfold f_forecast; rw [g0]; exact if_pos rfl
    rw [e1] at I1 I2 I3 h1 h2 h3
    have n1 : Fl v (upv v 0 0 1) := Fl.fails 1 v
    have g1 := can_fr0 (w := upv v 0 0 1) (fun k hk => funext (n1 k (by omega))) g0
    have e2 : f_bestForecast (upv v 0 0 1) = (0, upv (upv v 0 0 1) 0 0 1) := by unfold f_bestForecast; rw [g1]; exact if_pos rfl
    have d1 : ((0 : Int), upv v 0 0 1).2 = upv v 0 0 1 := rfl
    rw [d1] at I1 I2 I3 h2 h3
    rw [e2] at I2 I3 h2 h3
    have n2 : Fl v (upv (upv v 0 0 1) 0 0 1) := fun k hk i => (Fl.fails 1 (upv v 0 0 1) k hk i).trans (n1 k hk i)
    have g2 := can_fr0 (w := upv (upv v 0 0 1) 0 0 1) (fun k hk => funext (n2 k (by omega))) g0
    have e3' : f_improve (upv (upv v 0 0 1) 0 0 1) = (0, upv (upv (upv v 0 0 1) 0 0 1) 0 0 1) := by unfold f_improve; rw [g2]; exact if_pos rfl
    have d2 : ((0 : Int), upv (upv v 0 0 1) 0 0 1).2 = upv (upv v 0 0 1) 0 0 1 := rfl
    rw [d2] at I2 I3 h3
    rw [e3'] at I3 h3
    have n3 : Fl v (upv (upv (upv v 0 0 1) 0 0 1) 0 0 1) := fun k hk i => (Fl.fails 1 _ k hk i).trans (n2 k hk i)
    rw [qc_x (k := 1) (up00 v 1) (by decide), show cod_forecast 1 = -75 from rfl] at h1
    rw [qc_x (k := 1) (up00 (upv v 0 0 1) 1) (by decide), show cod_bestForecast 1 = -75 from rfl] at h2
    rw [qc_x (k := 1) (up00 (upv (upv v 0 0 1) 0 0 1) 1) (by decide), show cod_improve 1 = -75 from rfl] at h3
    have I3 : IM (upv (upv (upv v 0 0 1) 0 0 1) 0 0 1) T E := I3
    obtain ⟨w', q9, kk⟩ := K _ cr mo (-75) u (hL9.fl (I3.mono (by omega) (by omega) (by omega) (by omega)) n3) ⟨by omega, by omega⟩ (fun _ => n3)
    refine ⟨w', q9, ?_⟩
    unfold lsD
    refine Wv.iload dL_law_310 rfl ?_
    refine Wi.if_ne_t (tgt := 372) dL_law_312 (by decide) ⟨by omega, by omega⟩ (by omega) ?_
    refine Wv.iload dL_law_372 rfl ?_
    refine Wi.const dL_law_374 ?_
    refine Wi.icmp_ge_t (tgt := 396) dL_law_375 (by decide) ⟨by omega, by omega⟩ ⟨by omega, by omega⟩ (by omega) ?_
    refine Wv.iload dL_law_396 rfl ?_
    refine Wv.bipush (v := i32 8) dL_law_398 (by decide) ?_
    refine Wi.icmp_ge_t (tgt := 485) dL_law_400 (by decide) ⟨by omega, by omega⟩ ⟨by omega, by omega⟩ (by omega) ?_
    refine Wv.iload dL_law_485 rfl ?_
    refine Wv.bipush (v := i32 11) dL_law_487 (by decide) ?_
    refine Wi.icmp_ge_t (tgt := 537) dL_law_489 (by decide) ⟨by omega, by omega⟩ ⟨by omega, by omega⟩ (by omega) ?_
    refine Wv.iload dL_law_537 rfl ?_
    refine Wv.bipush (v := i32 11) dL_law_539 (by decide) ?_
    refine Wi.icmp_ne_t (tgt := 558) dL_law_541 (by decide) ⟨by omega, by omega⟩ ⟨by omega, by omega⟩ (by omega) ?_
    refine Wv.iload dL_law_558 rfl ?_
    refine Wv.bipush (v := i32 12) dL_law_560 (by decide) ?_
    refine Wi.icmp_ne_f (tgt := 655) dL_law_562 (by decide) ⟨by omega, by omega⟩ ⟨by omega, by omega⟩ (by omega) ?_
    refine Wv.aload_n (i := 1) dL_law_565 rfl rfl ?_
    refine Wv.callH (As := [_]) (v := some _) k_L_forecast (tb3 (i := 180) rfl) ki_L_forecast dL_law_566 rfl rfl (Nat.le_of_ble_eq_true rfl) (Nat.le_of_ble_eq_true rfl) h1 ?_
    refine Wv.istore dL_law_569 (by decide) rfl ?_
    refine Wv.aload_n (i := 1) dL_law_571 rfl rfl ?_
    refine Wv.callH (As := [_]) (v := some _) k_L_bestForecast (tb3 (i := 233) rfl) ki_L_bestForecast dL_law_572 rfl rfl (Nat.le_of_ble_eq_true rfl) (Nat.le_of_ble_eq_true rfl) h2 ?_
    refine Wv.istore dL_law_575 (by decide) rfl ?_
    refine Wv.aload_n (i := 1) dL_law_577 rfl rfl ?_
    refine Wv.callH (As := [_]) (v := some _) k_L_improve (tb5 (i := 72) rfl) ki_L_improve dL_law_578 rfl rfl (Nat.le_of_ble_eq_true rfl) (Nat.le_of_ble_eq_true rfl) h3 ?_
    refine Wv.istore dL_law_581 (by decide) rfl ?_
    refine Wv.iload dL_law_583 rfl ?_
    refine Wi.if_ge_f (tgt := 610) dL_law_585 (by decide) ⟨by omega, by omega⟩ (by omega) ?_
    refine Wv.iload dL_law_588 rfl ?_
    refine Wv.bipush (v := i32 (-75)) dL_law_590 (by decide) ?_
    refine Wi.icmp_ne_f (tgt := 606) dL_law_592 (by decide) ⟨by omega, by omega⟩ ⟨by omega, by omega⟩ (by omega) ?_
    refine Wv.iload dL_law_595 rfl ?_
    refine Wv.bipush (v := i32 (-75)) dL_law_597 (by decide) ?_
    refine Wi.icmp_ne_f (tgt := 606) dL_law_599 (by decide) ⟨by omega, by omega⟩ ⟨by omega, by omega⟩ (by omega) ?_
    refine Wi.const dL_law_602 ?_
    refine Wv.goto (tgt := 650) dL_law_603 (by decide) ?_
    refine Wv.istore dL_law_650 (by decide) rfl ?_
    refine Wv.goto (tgt := 877) dL_law_652 (by decide) ?_
    exact Wv.more (by omega) (by omega) (Wv.fin kk ⟨rfl, rfl, rfl, rfl, rfl, rfl, rfl, rfl, rfl, rfl, rfl, rfl, rfl, trivial⟩)
theorem q_pass {X : Cx} {h un it : Nat} {v : Vw} {T E re ve cr mo k r y x a b n9 kd : Int} {u tk : Int → Int} {n m : Nat} (hN : KN X) (hL : LI v T E re ve cr mo u tk) (hT : T + 31 ≤ 20000) (hE : E + 102300 ≤ 1000000000) (ha : 0 ≤ a ∧ a ≤ 4) (hb : 0 ≤ b ∧ b ≤ 8) (hn : 0 ≤ n9 ∧ n9 < 1000) (hk : 19 ≤ kd ∧ kd < 28)
    (K : ∀ (v2 : Vw) (cr2 mo2 t : Int) (u2 : Int → Int), LI v2 (T + 31) (E + 102300) re ve cr2 mo2 u2 tk → R32 t → (t < 0 → Fl v v2) → Go X h 877 (lsT X h un it re ve cr2 mo2 k r (Sm9 v) t) (v2, (y + 6, x + 66), (n, m), Rz un it u2 tk)) :
    Go X h 310 (lsD X h un it re ve cr mo k r (Sm9 v) a b n9 kd (n9 % 20)) (v, (y, x), (n, m), Rz un it u tk) := by
  refine Go.inv (fun hV => ?_)
  obtain ⟨c9, hV⟩ := hV
  have hV : INV c9 v := hV
  have hL9 := hL
  obtain ⟨hI, hA, hD, ⟨e1, e2, e3⟩, hc, htk, hu⟩ := hL
  have hT0 := hI.1
  have hM : IM v (T + 31) (E + 102300) := hI.mono (by omega) (by omega) (by omega) (by omega)
  have u8 : 0 ≤ v 8 0 ∧ v 8 0 ≤ T := hI.2 8 0
  have u6 : 0 ≤ v 6 0 ∧ v 6 0 ≤ 20 := hI.2 6 0
  have u7 : 0 ≤ v 7 0 ∧ v 7 0 ≤ 6 := hI.2 7 0
  have u5 : 0 ≤ v 5 0 ∧ v 5 0 ≤ 30 := hI.2 5 0
  have u1 : 0 ≤ v 1 0 ∧ v 1 0 ≤ 5 := hI.2 1 0
  have u33 : ∀ o, 0 ≤ v 33 o ∧ v 33 o ≤ 4 := fun o => hI.2 33 o
  have h34 := hV.2.2.1.2.2.2.2.2
  have hM1 : IM v (T + 31) E := hI.mono (by omega) (by omega) (by omega) (by omega)
  obtain ⟨p9, hp, F1⟩ : ∃ p9, (0 ≤ p9 ∧ p9 ≤ 3) ∧ ∀ (ls : List (Option Value)) (w w' : Wl), ls[15]? = some (some (.int (i32 n9))) → Wv X h m_L_law 40 825 ls [.int (i32 p9)] w (.inl (some (.int (i32 1)))) w' → Wv X h m_L_law 40 807 ls [] w (.inl (some (.int (i32 1)))) w' := by
    by_cases c : n9 % 31 = 0
    · refine ⟨0, ⟨by omega, by omega⟩, fun ls w w' g15 kk => ?_⟩
      refine Wv.iload dL_law_807 g15 ?_
      refine Wv.bipush (v := i32 31) dL_law_809 (by decide) ?_
      refine Wi.rem (by omega) ⟨by omega, by omega⟩ (by omega) ⟨by omega, by omega⟩ dL_law_811 ?_
      refine Wi.if_ne_f (tgt := 819) dL_law_812 (by decide) ⟨by omega, by omega⟩ (by omega) ?_
      refine Wi.const dL_law_815 ?_
      refine Wv.goto (tgt := 825) dL_law_816 (by decide) ?_
      exact kk
    · refine ⟨1 + n9 % 3, ⟨by omega, by omega⟩, fun ls w w' g15 kk => ?_⟩
      refine Wv.iload dL_law_807 g15 ?_
      refine Wv.bipush (v := i32 31) dL_law_809 (by decide) ?_
      refine Wi.rem (by omega) ⟨by omega, by omega⟩ (by omega) ⟨by omega, by omega⟩ dL_law_811 ?_
      refine Wi.if_ne_t (tgt := 819) dL_law_812 (by decide) ⟨by omega, by omega⟩ (by omega) ?_
      refine Wi.const dL_law_819 ?_
      refine Wv.iload dL_law_820 g15 ?_
      refine Wi.const dL_law_822 ?_
      refine Wi.rem (by omega) ⟨by omega, by omega⟩ (by omega) ⟨by omega, by omega⟩ dL_law_823 ?_
      refine Wi.add dL_law_824 ?_
      exact kk
  have hw := w_pass (X := X) (h := h) (y := y) (x := x + 20) (n := n) (m := m) (R := Rz un it u tk) (a := p9) hN hM1 ⟨by omega, by omega⟩ (by omega) hE
  have hI2 := i_pass (a := p9) hM1 ⟨by omega, by omega⟩ hV.2.2.1 hV.2.2.2 (by omega) hE
  have hP := PP.of hV.2.1
  obtain ⟨A2, D2, hx⟩ := x_pass (a := p9) hA hD hM1 hV.2.2.1 hV.2.2.2 hP (by omega) (by omega) hE
  have h34' : ∀ o, v 6 0 ≤ o → v 34 o = 0 := fun o ho => (h34 o ho).2
  rcases hx with ⟨z, F⟩ | ⟨z, e, z11, z8⟩
  · obtain ⟨t, et, t0, t1⟩ := qc_f (cod := cod_pass) (p := f_pass p9 v) (by omega) (fun k => by unfold cod_pass; omega)
    rw [et] at hw
    obtain ⟨w', q9, kk⟩ := K _ cr mo t u (hL9.fl hI2 F) ⟨by omega, by omega⟩ (fun _ => F)
    refine ⟨w', q9, ?_⟩
    unfold lsD
    refine Wv.iload dL_law_310 rfl ?_
    refine Wi.if_ne_t (tgt := 372) dL_law_312 (by decide) ⟨by omega, by omega⟩ (by omega) ?_
    refine Wv.iload dL_law_372 rfl ?_
    refine Wi.const dL_law_374 ?_
    refine Wi.icmp_ge_t (tgt := 396) dL_law_375 (by decide) ⟨by omega, by omega⟩ ⟨by omega, by omega⟩ (by omega) ?_
    refine Wv.iload dL_law_396 rfl ?_
    refine Wv.bipush (v := i32 8) dL_law_398 (by decide) ?_
    refine Wi.icmp_ge_t (tgt := 485) dL_law_400 (by decide) ⟨by omega, by omega⟩ ⟨by omega, by omega⟩ (by omega) ?_
    refine Wv.iload dL_law_485 rfl ?_
    refine Wv.bipush (v := i32 11) dL_law_487 (by decide) ?_
    refine Wi.icmp_ge_t (tgt := 537) dL_law_489 (by decide) ⟨by omega, by omega⟩ ⟨by omega, by omega⟩ (by omega) ?_
    refine Wv.iload dL_law_537 rfl ?_
    refine Wv.bipush (v := i32 11) dL_law_539 (by decide) ?_
    refine Wi.icmp_ne_t (tgt := 558) dL_law_541 (by decide) ⟨by omega, by omega⟩ ⟨by omega, by omega⟩ (by omega) ?_
    refine Wv.iload dL_law_558 rfl ?_
    refine Wv.bipush (v := i32 12) dL_law_560 (by decide) ?_
    refine Wi.icmp_ne_t (tgt := 655) dL_law_562 (by decide) ⟨by omega, by omega⟩ ⟨by omega, by omega⟩ (by omega) ?_
    refine Wv.iload dL_law_655 rfl ?_
    refine Wv.bipush (v := i32 16) dL_law_657 (by decide) ?_
    refine Wi.icmp_ge_t (tgt := 703) dL_law_659 (by decide) ⟨by omega, by omega⟩ ⟨by omega, by omega⟩ (by omega) ?_
    refine Wv.iload dL_law_703 rfl ?_
    refine Wv.bipush (v := i32 18) dL_law_705 (by decide) ?_
    refine Wi.icmp_ge_t (tgt := 750) dL_law_707 (by decide) ⟨by omega, by omega⟩ ⟨by omega, by omega⟩ (by omega) ?_
    refine Wv.iload dL_law_750 rfl ?_
    refine Wv.bipush (v := i32 18) dL_law_752 (by decide) ?_
    refine Wi.icmp_ne_t (tgt := 801) dL_law_754 (by decide) ⟨by omega, by omega⟩ ⟨by omega, by omega⟩ (by omega) ?_
    refine Wv.aload_n (i := 1) dL_law_801 rfl rfl ?_
    refine Wv.callV (As := []) (v := some _) k_X10_day (tb1 (i := 234) rfl) ki_X10_day kv_X10_day dL_law_802 rfl rfl (Nat.le_of_ble_eq_true rfl) (Nat.le_of_ble_eq_true rfl) w_day ?_
    refine Wv.istore dL_law_805 (by decide) rfl ?_
    refine F1 _ _ _ rfl ?_
    refine Wv.istore dL_law_825 (by decide) rfl ?_
    refine Wv.aload_n (i := 1) dL_law_827 rfl rfl ?_
    refine Wv.callS (As := [_]) (v := some _) k_L_filled (tb6 (i := 123) rfl) ki_L_filled dL_law_828 rfl rfl (Nat.le_of_ble_eq_true rfl) (Nat.le_of_ble_eq_true rfl) (a_filled hN hI hD h34') ?_
    refine Wv.istore dL_law_831 (by decide) rfl ?_
    refine Wv.aload_n (i := 1) dL_law_833 rfl rfl ?_
    refine Wv.iload dL_law_834 rfl ?_
    refine Wv.callH (As := [_, _]) (v := some _) k_L_pass (tb5 (i := 179) rfl) ki_L_pass dL_law_836 rfl rfl (Nat.le_of_ble_eq_true rfl) (Nat.le_of_ble_eq_true rfl) hw ?_
    refine Wv.istore dL_law_839 (by decide) rfl ?_
    refine Wv.iload dL_law_841 rfl ?_
    refine Wi.if_lt_t (tgt := 870) dL_law_843 (by decide) ⟨by omega, by omega⟩ (by omega) ?_
    refine Wi.const dL_law_870 ?_
    refine Wv.goto (tgt := 875) dL_law_871 (by decide) ?_
    refine Wv.istore dL_law_875 (by decide) rfl ?_
    exact Wv.more (by omega) (by omega) (Wv.fin kk ⟨rfl, rfl, rfl, rfl, rfl, rfl, rfl, rfl, rfl, rfl, rfl, rfl, rfl, trivial⟩)
  · rw [qc_v z, e] at hw
    have Q : ∀ k, k = 1 ∨ k = 2 ∨ k = 3 ∨ k = 6 ∨ k = 20 ∨ k = 33 ∨ k = 37 → ∀ i, (f_pass p9 v).2 k i = v k i := fun k hk i => fr_pass k i (by omega)
    have y11 : 0 ≤ (f_pass p9 v).2 11 0 ∧ (f_pass p9 v).2 11 0 ≤ 20 := hI2.2 11 0
    have x11 : 0 ≤ v 11 0 ∧ v 11 0 ≤ 20 := hI.2 11 0
    have L2 : LI (f_pass p9 v).2 (T + 31) (E + 102300) re ve cr mo u tk := by
      refine ⟨hI2, A2, D2, ⟨by rw [Q 1 (by decide), e1], by rw [Q 2 (by decide), e2], by rw [Q 3 (by decide), e3]⟩, hc, fun j j0 j1 => by rw [Q 20 (by decide)]; exact htk j j0 j1, fun o o0 o1 => ?_⟩
      rw [Q 6 (by decide)] at o1
      rw [hu o o0 o1]
      exact (osm_congr (Q 33 (by decide) o) (fun k _ _ => Q 37 (by decide) _)).symm
    obtain ⟨w', q9, kk⟩ := K _ cr mo ((f_pass p9 v).2 11 0 - v 11 0) u L2 ⟨by omega, by omega⟩ (fun q => absurd q (by omega))
    refine ⟨w', q9, ?_⟩
    unfold lsD
    refine Wv.iload dL_law_310 rfl ?_
    refine Wi.if_ne_t (tgt := 372) dL_law_312 (by decide) ⟨by omega, by omega⟩ (by omega) ?_
    refine Wv.iload dL_law_372 rfl ?_
    refine Wi.const dL_law_374 ?_
    refine Wi.icmp_ge_t (tgt := 396) dL_law_375 (by decide) ⟨by omega, by omega⟩ ⟨by omega, by omega⟩ (by omega) ?_
    refine Wv.iload dL_law_396 rfl ?_
    refine Wv.bipush (v := i32 8) dL_law_398 (by decide) ?_
    refine Wi.icmp_ge_t (tgt := 485) dL_law_400 (by decide) ⟨by omega, by omega⟩ ⟨by omega, by omega⟩ (by omega) ?_
    refine Wv.iload dL_law_485 rfl ?_
    refine Wv.bipush (v := i32 11) dL_law_487 (by decide) ?_
    refine Wi.icmp_ge_t (tgt := 537) dL_law_489 (by decide) ⟨by omega, by omega⟩ ⟨by omega, by omega⟩ (by omega) ?_
    refine Wv.iload dL_law_537 rfl ?_
    refine Wv.bipush (v := i32 11) dL_law_539 (by decide) ?_
    refine Wi.icmp_ne_t (tgt := 558) dL_law_541 (by decide) ⟨by omega, by omega⟩ ⟨by omega, by omega⟩ (by omega) ?_
    refine Wv.iload dL_law_558 rfl ?_
    refine Wv.bipush (v := i32 12) dL_law_560 (by decide) ?_
    refine Wi.icmp_ne_t (tgt := 655) dL_law_562 (by decide) ⟨by omega, by omega⟩ ⟨by omega, by omega⟩ (by omega) ?_
    refine Wv.iload dL_law_655 rfl ?_
    refine Wv.bipush (v := i32 16) dL_law_657 (by decide) ?_
    refine Wi.icmp_ge_t (tgt := 703) dL_law_659 (by decide) ⟨by omega, by omega⟩ ⟨by omega, by omega⟩ (by omega) ?_
    refine Wv.iload dL_law_703 rfl ?_
    refine Wv.bipush (v := i32 18) dL_law_705 (by decide) ?_
    refine Wi.icmp_ge_t (tgt := 750) dL_law_707 (by decide) ⟨by omega, by omega⟩ ⟨by omega, by omega⟩ (by omega) ?_
    refine Wv.iload dL_law_750 rfl ?_
    refine Wv.bipush (v := i32 18) dL_law_752 (by decide) ?_
    refine Wi.icmp_ne_t (tgt := 801) dL_law_754 (by decide) ⟨by omega, by omega⟩ ⟨by omega, by omega⟩ (by omega) ?_
    refine Wv.aload_n (i := 1) dL_law_801 rfl rfl ?_
    refine Wv.callV (As := []) (v := some _) k_X10_day (tb1 (i := 234) rfl) ki_X10_day kv_X10_day dL_law_802 rfl rfl (Nat.le_of_ble_eq_true rfl) (Nat.le_of_ble_eq_true rfl) w_day ?_
    refine Wv.istore dL_law_805 (by decide) rfl ?_
    refine F1 _ _ _ rfl ?_
    refine Wv.istore dL_law_825 (by decide) rfl ?_
    refine Wv.aload_n (i := 1) dL_law_827 rfl rfl ?_
    refine Wv.callS (As := [_]) (v := some _) k_L_filled (tb6 (i := 123) rfl) ki_L_filled dL_law_828 rfl rfl (Nat.le_of_ble_eq_true rfl) (Nat.le_of_ble_eq_true rfl) (a_filled hN hI hD h34') ?_
    refine Wv.istore dL_law_831 (by decide) rfl ?_
    refine Wv.aload_n (i := 1) dL_law_833 rfl rfl ?_
    refine Wv.iload dL_law_834 rfl ?_
    refine Wv.callH (As := [_, _]) (v := some _) k_L_pass (tb5 (i := 179) rfl) ki_L_pass dL_law_836 rfl rfl (Nat.le_of_ble_eq_true rfl) (Nat.le_of_ble_eq_true rfl) hw ?_
    refine Wv.istore dL_law_839 (by decide) rfl ?_
    refine Wv.iload dL_law_841 rfl ?_
    refine Wi.if_lt_f (tgt := 870) dL_law_843 (by decide) ⟨by omega, by omega⟩ (by omega) ?_
    refine Wv.aload_n (i := 1) dL_law_846 rfl rfl ?_
    refine Wv.callV (As := []) (v := some _) k_X10_day (tb1 (i := 234) rfl) ki_X10_day kv_X10_day dL_law_847 rfl rfl (Nat.le_of_ble_eq_true rfl) (Nat.le_of_ble_eq_true rfl) w_day ?_
    refine Wv.iload dL_law_850 rfl ?_
    refine Wv.iload dL_law_852 rfl ?_
    refine Wi.add dL_law_854 ?_
    refine Wi.icmp_ne_f (tgt := 874) dL_law_855 (by decide) ⟨by omega, by omega⟩ ⟨by omega, by omega⟩ (by omega) ?_
    refine Wv.inv (fun c2 hV2 => ?_)
    have hV2 : INV c2 (f_pass p9 v).2 := hV2
    have h34b := CI.h34 hV2.2.2.1
    refine Wv.aload_n (i := 1) dL_law_858 rfl rfl ?_
    refine Wv.callS (As := [_]) (v := some _) k_L_filled (tb6 (i := 123) rfl) ki_L_filled dL_law_859 rfl rfl (Nat.le_of_ble_eq_true rfl) (Nat.le_of_ble_eq_true rfl) (a_filled hN hI2 D2 h34b) ?_
    refine Wv.iload dL_law_862 rfl ?_
    refine Wv.iload dL_law_864 rfl ?_
    refine Wi.add dL_law_866 ?_
    refine Wi.icmp_ne_f (tgt := 874) dL_law_867 (by decide) ⟨by omega, by omega⟩ ⟨by omega, by omega⟩ (by omega) ?_
    refine Wi.const dL_law_870 ?_
    refine Wv.goto (tgt := 875) dL_law_871 (by decide) ?_
    refine Wv.istore dL_law_875 (by decide) rfl ?_
    exact Wv.more (by omega) (by omega) (Wv.fin kk ⟨rfl, rfl, rfl, rfl, rfl, rfl, rfl, rfl, rfl, rfl, rfl, rfl, rfl, trivial⟩)
