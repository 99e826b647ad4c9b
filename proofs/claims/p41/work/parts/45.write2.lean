/-! the calls that put in: vessels, the queue -/
theorem tk39 {was : Int} : ∀ (n : Nat) (k : Int) (v : Vw), (v 7 0 - k).toNat < n → ∀ j, 0 ≤ j → j < v 7 0 - 1 → (l_takesOut_11 was n k v).2 39 j = if j < k - 1 then v 39 j else v 39 (j + 1) := by
  intro n
  induction n with
  | zero => exact fun _ _ h => absurd h (Nat.not_lt_zero _)
  | succ n ih =>
    intro k v hm j j0 j1
    rw [l_takesOut_11]
    by_cases c1 : v 7 0 ≤ k
    · rw [if_pos c1]
      show upv v 7 0 (v 7 0 - 1) 39 j = _
      rw [upv_nk (by decide), if_pos (by omega)]
    · rw [if_neg c1, ih (k + 1) (upv v 39 (k - 1) (v 39 k)) (by rw [upv_nk (by decide)]; omega) j j0 (by rw [upv_nk (by decide)]; exact j1)]
      by_cases c2 : j < k - 1
      · rw [if_pos (by omega), if_pos c2, upv_ni (by omega)]
      · rw [if_neg c2]
        by_cases c3 : j = k - 1
        · subst c3
          rw [if_pos (by omega), upv_eq, show k - 1 + 1 = k by omega]
        · rw [if_neg (by omega), upv_ni (by omega)]
theorem rem_map {n i : Int} {f g : Int → Int} (h0 : 0 ≤ i) (h1 : i < n) (hg : ∀ j, 0 ≤ j → j < n - 1 → g j = if j < i then f j else f (j + 1)) : remL ((rng n).map f) i.toNat = (rng (n - 1)).map g := by
  apply List.ext_getElem?
  intro j
  have hl : ((rng n).map f).length = n.toNat := by rw [List.length_map]; have := rng_len (show 0 ≤ n by omega); omega
  have hl2 : ((rng (n - 1)).map g).length = (n - 1).toNat := by rw [List.length_map]; have := rng_len (show 0 ≤ n - 1 by omega); omega
  have at1 : ∀ m : Nat, m < n.toNat → ((rng n).map f)[m]? = some (f (m : Int)) := fun m hm => by rw [List.getElem?_map, rng_at hm]; rfl
  rw [remL_get]
  by_cases hj : j < (n - 1).toNat
  · have e2 : ((rng (n - 1)).map g)[j]? = some (g (j : Int)) := by rw [List.getElem?_map, rng_at hj]; rfl
    rw [e2, hg (j : Int) (by omega) (by omega)]
    by_cases c : j < i.toNat
    · rw [if_pos c, if_pos (by omega), at1 j (by omega)]
    · rw [if_neg c, if_neg (by omega), at1 (j + 1) (by omega)]
      rfl
  · rw [List.getElem?_eq_none (show ((rng (n - 1)).map g).length ≤ j by omega)]
    by_cases c : j < i.toNat
    · omega
    · rw [if_neg c, List.getElem?_eq_none (show ((rng n).map f).length ≤ j + 1 by omega)]
theorem takes_fr {i : Int} {v : Vw} {k : Nat} (h : k ≠ 7 ∧ k ≠ 39) : (f_takesOut i v).2 k = v k := funext (fun j => fr_takesOut k j h)
theorem Sm.takes {c : Cs} {v : Vw} {i : Int} (hS : Sm c v) (h0 : 0 ≤ i) (h1 : i < v 7 0) : Sm (clst c 4 (remL (c.2.2.1 4) i.toNat)) (f_takesOut i v).2 := by
  obtain ⟨s0, s1, s2, s3, s4, s5, s6, s7, s8, s9, s10⟩ := hS
  have F : ∀ k, k ≠ 7 ∧ k ≠ 39 → (f_takesOut i v).2 k = v k := fun k h => takes_fr h
  refine ⟨s0.fr rfl rfl rfl rfl rfl rfl (Int.le_refl _) (Int.le_refl _) rfl rfl rfl (by rw [F 1 (by decide)]) (by rw [F 2 (by decide)]) (by rw [F 3 (by decide)]) (by rw [F 5 (by decide)]) (by rw [F 6 (by decide)]) (by rw [F 8 (by decide)]) (by rw [F 9 (by decide)]) (by rw [F 4 (by decide)]; exact Int.le_of_eq ((Int.sub_self _).trans (Int.sub_self _).symm)),
    s1.fr rfl rfl (F 1 (by decide)) (F 12 (by decide)) (F 13 (by decide)) (F 14 (by decide)),
    s2.fr rfl rfl (F 2 (by decide)) (F 15 (by decide)) (F 16 (by decide)) (F 17 (by decide)) (F 19 (by decide)) (F 20 (by decide)),
    s3.fr rfl rfl (F 5 (by decide)) (F 26 (by decide)) (F 27 (by decide)) (F 28 (by decide)) (F 29 (by decide)) (F 30 (by decide)) (F 31 (by decide)),
    s4.fr rfl (fun s _ _ => clst_ne _ (by omega)) rfl rfl (Int.le_refl _) (F 4 (by decide)) (F 21 (by decide)) (F 22 (by decide)) (F 23 (by decide)) (F 24 (by decide)) (F 25 (by decide)), ?_,
    s6.fr rfl (fun o _ _ => clst_ne _ (by omega)) rfl rfl (Int.le_refl _) (F 6 (by decide)) (F 32 (by decide)) (F 33 (by decide)) (F 34 (by decide)) (F 35 (by decide)) (F 36 (by decide)) (F 37 (by decide)),
    s7.fr rfl (F 6 (by decide)) (F 32 (by decide)), s8.fr rfl rfl (F 9 (by decide)) (F 44 (by decide)) (F 45 (by decide)) (F 46 (by decide)),
    s9.fr rfl (F 2 (by decide)) (F 15 (by decide)) (F 18 (by decide)) (F 10 (by decide)), s10.fr rfl rfl rfl (F 2 (by decide)) (F 20 (by decide))⟩
  show remL (c.2.2.1 4) i.toNat = (rng ((f_takesOut i v).2 7 0)).map ((f_takesOut i v).2 39)
  have e : c.2.2.1 4 = (rng (v 7 0)).map (v 39) := s5
  rw [e, (t_takesOut i v).2]
  refine rem_map h0 h1 (fun j j0 j1 => ?_)
  have g := tk39 (was := v 39 i) ((v 7 0 - (i + 1)).toNat + 1) (i + 1) v (by omega) j j0 j1
  rw [show i + 1 - 1 = i by omega] at g
  exact g
theorem VB.takes {v : Vw} {i : Int} (h : VB v) : VB (f_takesOut i v).2 := by
  have F : ∀ k, k ≠ 7 ∧ k ≠ 39 → (f_takesOut i v).2 k = v k := fun k h => takes_fr h
  exact h.fr (by rw [F 1 (by decide)]; exact Int.le_refl _) (F 2 (by decide)) (F 4 (by decide)) (F 5 (by decide)) (F 6 (by decide)) (F 9 (by decide)) (F 15 (by decide)) (F 16 (by decide)) (F 25 (by decide)) (F 26 (by decide)) (F 28 (by decide)) (F 29 (by decide)) (F 31 (by decide)) (F 33 (by decide)) (F 34 (by decide)) (F 36 (by decide)) (F 37 (by decide)) (F 44 (by decide)) (F 45 (by decide)) (F 46 (by decide))
theorem INV.takes {c : Cs} {v : Vw} {i : Int} (hN : INV c v) (h0 : 0 ≤ i) (h1 : i < v 7 0) : INV (clst c 4 (remL (c.2.2.1 4) i.toNat)) (f_takesOut i v).2 := ⟨hN.1.takes h0 h1, hN.2.1.takes, CI_takes hN.2.2.1, CJ_takes h0 hN.2.2.2⟩
theorem fc_withdraw {c : Cs} {v : Vw} {T E a : Int} (hN : INV c v) (hI : IM v T E) (ha : R32 a) : ok_X10_withdraw a c ∧ Ans (fun _ => xNSE) (g_X10_withdraw a c) (f_withdraw a v) ∧ INV (g_X10_withdraw a c).2 (f_withdraw a v).2 := by
  have hl := hN.1.l4 hI
  unfold ok_X10_withdraw g_X10_withdraw f_withdraw
  by_cases h : 0 ≤ a ∧ a < v 7 0
  · have e : f_in a 0 (v 7 0 - 1) = 1 := (c_in a 0 (v 7 0 - 1)).elim (·.1) (fun q => absurd (by omega) q.2)
    have el := hN.1.e4 h.1 h.2
    have u := hN.2.2.2.2.2.1 a h.1 h.2
    have u2 := (hN.1.cr.2 (v 39 a) u.1 u.2).1
    have g1 := t_takesOut a (upv v 0 0 0)
    have g0 : (f_takesOut a (upv v 0 0 0)).2 0 0 = 0 := by rw [takes_fr (by decide)]; rfl
    have hJ := (hN.v0 (x := 0)).takes h.1 (show a < upv v 0 0 0 7 0 from h.2)
    simp only [hl, el, e, u2, if_pos h, if_neg ne10]
    refine ⟨⟨ok_qat hN.1 hI ha, ⟨h.1, h.2⟩, trivial⟩, Or.inl ⟨g0, ?_⟩, hJ⟩
    show (Sum.inl (some (0, v 39 a)) : Rr) = Sum.inl (some (0, (f_takesOut a (upv v 0 0 0)).1))
    rw [g1.1]
    rfl
  · have e : f_in a 0 (v 7 0 - 1) = 0 := (c_in a 0 (v 7 0 - 1)).elim (fun q => absurd (by omega) h) (·.1)
    simp only [hl, e, if_neg h, if_true]
    exact ⟨⟨ok_qat hN.1 hI ha, trivial⟩, Or.inr ⟨Int.le_refl 1, rfl⟩, hN.v0⟩
theorem fc_enqueue {c : Cs} {v : Vw} {T E a : Int} (hN : INV c v) (hI : IM v T E) (ha : R32 a) : ok_X10_enqueue a c ∧ Ans (fun k => if k = 1 then xIOB else xISE) (g_X10_enqueue a c) (f_enqueue a v) ∧ INV (g_X10_enqueue a c).2 (f_enqueue a v).2 := by
  have hl := hN.1.l1 hI
  have hl3 := hN.1.l3 hI
  have hl4 := hN.1.l4 hI
  have u7 : 0 ≤ v 7 0 ∧ v 7 0 ≤ 6 := hI.2 7 0
  have u5 : 0 ≤ v 5 0 ∧ v 5 0 ≤ 30 := hI.2 5 0
  unfold ok_X10_enqueue g_X10_enqueue f_enqueue ok_X10_isFullyBooked g_X10_isFullyBooked
  by_cases h : 0 ≤ a ∧ a < v 1 0
  · have e : f_isRecipe a v = 1 := (c_isRecipe a v).elim (·.1) (fun q => absurd h q.2)
    have el := hN.1.e1 h.1 h.2
    simp only [hl, hl3, hl4, el, e, if_pos h, if_neg ne10]
    by_cases c6 : 6 ≤ v 7 0
    · simp only [if_pos c6, if_pos (show v 7 0 = 6 by omega)]
      exact ⟨⟨ok_rat hN.1 hI ha, trivial⟩, Or.inr ⟨by show (1 : Int) ≤ 2; omega, rfl⟩, hN.v0⟩
    · simp only [if_neg c6, if_neg (show ¬ v 7 0 = 6 by omega)]
      by_cases c30 : v 5 0 + v 7 0 < 30
      · simp only [if_pos c30, if_true]
        refine ⟨⟨ok_rat hN.1 hI ha, ⟨⟨by omega, by omega⟩, trivial⟩, by omega, trivial⟩, Or.inl ⟨rfl, ?_⟩, ?_⟩
        · show (Sum.inl (some (0, ((c.2.2.1 4 ++ [a]).length : Int))) : Rr) = Sum.inl (some (0, v 7 0 + 1))
          rw [List.length_append]
          show (Sum.inl (some (0, (((c.2.2.1 4).length + 1 : Nat) : Int))) : Rr) = _
          rw [show (((c.2.2.1 4).length + 1 : Nat) : Int) = v 7 0 + 1 by omega]
        · obtain ⟨⟨s0, s1, s2, s3, s4, s5, s6, s7, s8, s9, s10⟩, hB, hC, hJ⟩ := hN
          refine ⟨⟨s0, s1, s2, s3, s4.fr rfl (fun s _ _ => clst_ne _ (by omega)) rfl rfl (Int.le_refl _) rfl rfl rfl rfl rfl rfl, ?_, s6.fr rfl (fun o _ _ => clst_ne _ (by omega)) rfl rfl (Int.le_refl _) rfl rfl rfl rfl rfl rfl rfl, s7.fr rfl rfl rfl, s8, s9, s10⟩, hB, ?_, ?_⟩
          · have e5 : c.2.2.1 4 = (rng (v 7 0)).map (v 39) := s5
            show c.2.2.1 4 ++ [a] = (rng (v 7 0 + 1)).map (upv (upv (upv v 0 0 0) 39 (v 7 0) a) 7 0 (v 7 0 + 1) 39)
            rw [rng_succ u7.1, List.map_append, e5]
            congr 1
            · refine map_rng_congr (fun i i0 i1 => ?_)
              have : ¬ i = v 7 0 := by omega
              simp [upv, this]
            · show [a] = [upv (upv (upv v 0 0 0) 39 (v 7 0) a) 7 0 (v 7 0 + 1) 39 (v 7 0)]
              simp [upv]
          · obtain ⟨i1, i2, i3, i4, i5, i6⟩ := hC
            exact ⟨by show v 5 0 + (v 7 0 + 1) ≤ 30; omega, i2, i3, i4, i5, i6⟩
          · obtain ⟨j1, j2, j3, j4⟩ := hJ
            refine ⟨j1, j2, fun k k0 k1 => ?_, j4⟩
            have k1' : k < v 7 0 + 1 := k1
            show 0 ≤ upv (upv (upv v 0 0 0) 39 (v 7 0) a) 7 0 (v 7 0 + 1) 39 k ∧ upv (upv (upv v 0 0 0) 39 (v 7 0) a) 7 0 (v 7 0 + 1) 39 k < v 1 0
            by_cases ek : k = v 7 0
            · subst ek
              simp [upv]
              exact h
            · have := j3 k k0 (by omega)
              simp [upv, ek]
              exact this
      · simp only [if_neg c30, if_neg ne10]
        exact ⟨⟨ok_rat hN.1 hI ha, ⟨⟨by omega, by omega⟩, trivial⟩, trivial⟩, Or.inr ⟨by show (1 : Int) ≤ 2; omega, rfl⟩, hN.v0⟩
  · have e : f_isRecipe a v = 0 := (c_isRecipe a v).elim (fun q => absurd q.2 h) (·.1)
    simp only [hl, e, if_neg h, if_true]
    exact ⟨⟨ok_rat hN.1 hI ha, trivial⟩, Or.inr ⟨Int.le_refl 1, rfl⟩, hN.v0⟩
theorem filt_congr {p q : Int → Bool} {n : Int} (h : ∀ i, 0 ≤ i → i < n → p i = q i) : (rng n).filter p = (rng n).filter q := List.filter_congr (fun x hx => h x (rng_mem.mp hx).1 (rng_mem.mp hx).2)
/-- a new vessel, without its slot -/
theorem ves_SV {c c' : Cs} {v v' : Vw} {k : Int} (h : SV c v) (h2 : 0 ≤ v 2 0) (h15 : v 15 (v 2 0) = 0) (l : c'.2.2.1 2 = c.2.2.1 2 ++ [v 2 0]) (old : ∀ a w, w ≠ v 2 0 → c'.2.1 11 a w = c.2.1 11 a w)
    (n0 : c'.2.1 11 0 (v 2 0) = v 2 0) (n1 : c'.2.1 11 1 (v 2 0) = k) (n2 : c'.2.1 11 2 (v 2 0) = 99) (n4 : c'.2.1 11 4 (v 2 0) = -1) (n5 : c'.2.1 11 5 (v 2 0) = -1)
    (f2 : v' 2 0 = v 2 0 + 1) (f15 : v' 15 = v 15) (f16 : v' 16 = v 16) (f17 : v' 17 = v 17) (f19 : ∀ w, v' 19 w = if w = v 2 0 then -1 else v 19 w) (f20 : ∀ w, w ≠ v 2 0 → v' 20 w = v 20 w) (f20n : kdc (v' 20 (v 2 0)) = k) : SV c' v' := by
  refine ⟨by rw [l, f2, rng_succ h2, h.1], fun w w0 w1 => ?_⟩
  rw [f2] at w1
  rw [f15, f16, f17, f19]
  by_cases ew : w = v 2 0
  · subst ew
    rw [n0, n1, n2, n4, n5, f20n, h15, if_pos rfl]
    exact ⟨rfl, rfl, rfl, fun q => by omega, rfl, rfl⟩
  · rw [old 0 w ew, old 1 w ew, old 2 w ew, old 3 w ew, old 4 w ew, old 5 w ew, f20 w ew, if_neg ew]
    exact h.2 w w0 (by omega)
theorem ves_SD {c c' : Cs} {v v' : Vw} (h : SD c v) (h15 : v 15 (v 2 0) = 0) (l : c'.2.2.1 8 = c.2.2.1 8) (f2 : v' 2 0 = v 2 0 + 1) (f15 : v' 15 = v 15) (f18 : v' 18 = v 18) (f10 : v' 10 = v 10) : SD c' v' := by
  obtain ⟨h1, h2, h3⟩ := h
  refine ⟨fun w => ?_, ?_, ?_⟩
  · rw [l, h1 w, f2, f15]
    constructor
    · exact fun q => ⟨q.1, by omega, q.2.2⟩
    · refine fun q => ⟨q.1, ?_, q.2.2⟩
      by_cases e : w = v 2 0
      · rw [e, h15] at q
        omega
      · omega
  · rw [l, f18, f10]
    exact h2
  · rw [l, f18]
    exact h3
theorem ves_VB {v v' : Vw} (h : VB v) (f2 : v' 2 0 = v 2 0 + 1) (h15 : v 15 (v 2 0) = 0) (f : ∀ k, k ≠ 0 → k ≠ 2 → k ≠ 19 → k ≠ 20 → v' k = v k) : VB v' := by
  obtain ⟨g1, g2, g3, g4, g5, g6⟩ := h
  unfold VB
  simp only [dlu_fr (f 9 (by decide) (by decide) (by decide) (by decide)) (f 44 (by decide) (by decide) (by decide) (by decide)) (f 46 (by decide) (by decide) (by decide) (by decide))]
  rw [f 1 (by decide) (by decide) (by decide) (by decide), f 4 (by decide) (by decide) (by decide) (by decide), f 5 (by decide) (by decide) (by decide) (by decide), f 6 (by decide) (by decide) (by decide) (by decide), f 9 (by decide) (by decide) (by decide) (by decide), f 15 (by decide) (by decide) (by decide) (by decide), f 16 (by decide) (by decide) (by decide) (by decide), f 25 (by decide) (by decide) (by decide) (by decide), f 26 (by decide) (by decide) (by decide) (by decide), f 28 (by decide) (by decide) (by decide) (by decide), f 29 (by decide) (by decide) (by decide) (by decide), f 31 (by decide) (by decide) (by decide) (by decide), f 33 (by decide) (by decide) (by decide) (by decide), f 34 (by decide) (by decide) (by decide) (by decide), f 36 (by decide) (by decide) (by decide) (by decide), f 37 (by decide) (by decide) (by decide) (by decide), f 44 (by decide) (by decide) (by decide) (by decide), f 45 (by decide) (by decide) (by decide) (by decide), f2]
  refine ⟨fun b b0 b5 => ⟨(g1 b b0 b5).1, fun q => ?_⟩, fun w w0 w1 q => ?_, ⟨fun w hw => g3.1 w (by omega), g3.2⟩, g4, g5, g6⟩
  · have := (g1 b b0 b5).2 q
    exact ⟨⟨this.1.1, by omega⟩, this.2⟩
  · by_cases e : w = v 2 0
    · rw [e, h15] at q
      omega
    · exact g2 w w0 (by omega) q
theorem vfr {v : Vw} {n x k : Int} (j : Nat) (h0 : j ≠ 0) (h2 : j ≠ 2) (h19 : j ≠ 19) (h20 : j ≠ 20) : upv (upv (upv (upv v 0 0 0) 20 n x) 19 n (-1)) 2 0 k j = v j := by
  funext i
  rw [upv_nk h2, upv_nk h19, upv_nk h20, upv_nk h0]
theorem fc_addVessel {c : Cs} {v : Vw} {T E a : Int} (hN : INV c v) (hI : IM v T E) (ha : R32 a) : ok_X10_addVessel a c ∧ Ans (fun k => if k = 1 then xIAE else xISE) (g_X10_addVessel a c) (f_addVessel a v) ∧ INV (g_X10_addVessel a c).2 (f_addVessel a v).2 := by
  have hl := hN.1.l2 hI
  have u2 : 0 ≤ v 2 0 ∧ v 2 0 ≤ 8 := hI.2 2 0
  have h15 := hN.2.1.2.2.1.1 (v 2 0) (Int.le_refl _)
  have en : c.1 11 = v 2 0 := hN.1.c0.1.2.1
  have fCI : ∀ x, CI (upv (upv (upv (upv v 0 0 0) 20 (v 2 0) x) 19 (v 2 0) (-1)) 2 0 (v 2 0 + 1)) := fun x => CI_fr (v := v) (fun k hk i => congrFun (vfr k (by omega) (by omega) (by omega) (by omega)) i) hN.2.2.1
  have fCJ : ∀ x, CJ (upv (upv (upv (upv v 0 0 0) 20 (v 2 0) x) 19 (v 2 0) (-1)) 2 0 (v 2 0 + 1)) := fun x => CJ_fr (v := v) (fun k hk i => congrFun (vfr k (by omega) (by omega) (by omega) (by omega)) i) hN.2.2.2
  have fVB : ∀ x, VB (upv (upv (upv (upv v 0 0 0) 20 (v 2 0) x) 19 (v 2 0) (-1)) 2 0 (v 2 0 + 1)) := fun x => ves_VB hN.2.1 rfl h15 (fun k h0 h2 h19 h20 => vfr k h0 h2 h19 h20)
  unfold ok_X10_addVessel g_X10_addVessel f_addVessel
  rw [hl]
  by_cases c1 : a = 102
  · simp only [if_pos c1, if_neg (show ¬ a = 116 by omega)]
    by_cases c8 : v 2 0 < 8
    · simp only [if_pos c8, if_neg (show ¬ v 2 0 = 8 by omega)]
      obtain ⟨⟨s0, s1, s2, s3, s4, s5, s6, s7, s8, s9, s10⟩, hB, hC, hJ⟩ := hN
      have h9 : ((c.2.2.1 9).length : Int) ≤ 8 := by
        have e1 : (c.2.2.1 9).length = ((rng (c.1 10)).map (c.2.1 10 0)).length := by rw [List.length_map, s10.1]
        have e2 : ((rng (v 2 0)).filter (fun w => decide (v 20 w = 0))).length ≤ (rng (v 2 0)).length := List.length_filter_le _ _
        rw [s10.2] at e1
        have e3 := rng_len u2.1
        omega
      refine ⟨⟨ha, ⟨⟨by omega, by omega⟩, trivial⟩, ?_, ?_, trivial⟩, Or.inl ⟨rfl, ?_⟩, ⟨⟨?_, s1, ?_, s3, s4.fr rfl (fun s _ _ => (clst_ne _ (by omega)).trans (clst_ne _ (by omega))) rfl rfl (Int.le_refl _) rfl rfl rfl rfl rfl rfl, s5, s6.fr rfl (fun o _ _ => (clst_ne _ (by omega)).trans (clst_ne _ (by omega))) rfl rfl (Int.le_refl _) rfl rfl rfl rfl rfl rfl rfl, s7.fr rfl rfl rfl, s8, ves_SD s9 h15 rfl rfl rfl rfl rfl, ?_⟩, fVB 0, fCI 0, fCJ 0⟩⟩
      · show ((c.2.2.1 2).length : Int) ≤ 199
        omega
      · show ((c.2.2.1 9).length : Int) ≤ 199
        omega
      · have : (g_X7_init ((clst (g_X8_init (c.1 11) (v 2 0) a (cnew c 11)) 2 ((g_X8_init (c.1 11) (v 2 0) a (cnew c 11)).2.2.1 2 ++ [c.1 11])).1 10) (c.1 11) (cnew (clst (g_X8_init (c.1 11) (v 2 0) a (cnew c 11)) 2 ((g_X8_init (c.1 11) (v 2 0) a (cnew c 11)).2.2.1 2 ++ [c.1 11])) 10)).2.1 11 0 (c.1 11) = v 2 0 := by simp [g_X7_init, g_X8_init, cput, cnew, clst]
        rw [this, show v 2 0 + 1 - 1 = v 2 0 by omega]
      · obtain ⟨⟨q1, q2, q3, q4, q5, q6⟩, ⟨q7, q8, q9⟩, q10, q11⟩ := s0
        refine ⟨⟨q1, ?_, q3, q4, q5, q6⟩, ⟨q7, q8, ?_⟩, q10, q11⟩
        · show c.1 11 + 1 = v 2 0 + 1
          omega
        · show 0 ≤ c.1 10 + 1
          omega
      · refine ves_SV (k := 102) s2 u2.1 h15 ?_ ?_ ?_ ?_ ?_ ?_ ?_ rfl rfl rfl rfl (fun w => ?_) (fun w hw => ?_) ?_
        · show c.2.2.1 2 ++ [c.1 11] = _
          rw [en]
        · intro f w hw
          have hw' : ¬ w = c.1 11 := by omega
          simp [g_X7_init, g_X8_init, cput, cnew, clst, hw']
        all_goals first | (simp [g_X7_init, g_X8_init, cput, cnew, clst, en, c1]; done) | (simp [upv]; done) | (simp [upv, hw]; done) | (simp [upv, kdc]; done)
      · obtain ⟨t1, t2⟩ := s10
        have n10 := s0.2.1.2.2
        refine ⟨?_, ?_⟩
        · show c.2.2.1 9 ++ [c.1 10] = rng (c.1 10 + 1)
          rw [rng_succ n10, t1]
        · show (rng (c.1 10 + 1)).map _ = (rng (v 2 0 + 1)).filter _
          rw [rng_succ n10, rng_succ u2.1, List.map_append, List.filter_append]
          congr 1
          · refine Eq.trans (map_rng_congr (fun i i0 i1 => ?_)) (t2.trans (filt_congr (fun i i0 i1 => ?_)))
            · have hi : ¬ i = c.1 10 := by omega
              simp [g_X7_init, g_X8_init, cput, cnew, clst, hi]
            · have hi : ¬ i = v 2 0 := by omega
              simp [upv, hi]
          · simp [g_X7_init, g_X8_init, cput, cnew, clst, upv, en]
    · simp only [if_neg c8, if_pos (show v 2 0 = 8 by omega)]
      exact ⟨⟨ha, trivial⟩, Or.inr ⟨by show (1 : Int) ≤ 2; omega, rfl⟩, hN.v0⟩
  · by_cases c2 : a = 116
    · simp only [if_neg c1, if_pos c2]
      by_cases c8 : v 2 0 < 8
      · simp only [if_pos c8, if_neg (show ¬ v 2 0 = 8 by omega)]
        obtain ⟨⟨s0, s1, s2, s3, s4, s5, s6, s7, s8, s9, s10⟩, hB, hC, hJ⟩ := hN
        refine ⟨⟨ha, ⟨⟨by omega, by omega⟩, trivial⟩, ?_, trivial⟩, Or.inl ⟨rfl, ?_⟩, ⟨⟨?_, s1, ?_, s3, s4.fr rfl (fun s _ _ => clst_ne _ (by omega)) rfl rfl (Int.le_refl _) rfl rfl rfl rfl rfl rfl, s5, s6.fr rfl (fun o _ _ => clst_ne _ (by omega)) rfl rfl (Int.le_refl _) rfl rfl rfl rfl rfl rfl rfl, s7.fr rfl rfl rfl, s8, ves_SD s9 h15 rfl rfl rfl rfl rfl, ?_⟩, fVB 1, fCI 1, fCJ 1⟩⟩
        · show ((c.2.2.1 2).length : Int) ≤ 199
          omega
        · have : (g_X8_init (c.1 11) (v 2 0) a (cnew c 11)).2.1 11 0 (c.1 11) = v 2 0 := by simp [g_X8_init, cput]
          rw [this, show v 2 0 + 1 - 1 = v 2 0 by omega]
        · obtain ⟨⟨q1, q2, q3, q4, q5, q6⟩, q7, q10, q11⟩ := s0
          refine ⟨⟨q1, ?_, q3, q4, q5, q6⟩, q7, q10, q11⟩
          show c.1 11 + 1 = v 2 0 + 1
          omega
        · refine ves_SV (k := 116) s2 u2.1 h15 ?_ ?_ ?_ ?_ ?_ ?_ ?_ rfl rfl rfl rfl (fun w => ?_) (fun w hw => ?_) ?_
          · show c.2.2.1 2 ++ [c.1 11] = _
            rw [en]
          · intro f w hw
            have hw' : ¬ w = c.1 11 := by omega
            simp [g_X8_init, cput, cnew, clst, hw']
          all_goals first | (simp [g_X8_init, cput, cnew, clst, en, c2]; done) | (simp [upv]; done) | (simp [upv, hw]; done) | (simp [upv, kdc]; done)
        · obtain ⟨t1, t2⟩ := s10
          refine ⟨t1, ?_⟩
          show (rng (c.1 10)).map _ = (rng (v 2 0 + 1)).filter _
          rw [rng_succ u2.1, List.filter_append]
          have e0 : List.filter (fun w => decide (upv (upv (upv (upv v 0 0 0) 20 (v 2 0) 1) 19 (v 2 0) (-1)) 2 0 (v 2 0 + 1) 20 w = 0)) [v 2 0] = [] := by simp [upv]
          rw [e0, List.append_nil]
          refine t2.trans (filt_congr (fun i i0 i1 => ?_))
          have hi : ¬ i = v 2 0 := by omega
          simp [upv, hi]
      · simp only [if_neg c8, if_pos (show v 2 0 = 8 by omega)]
        exact ⟨⟨ha, trivial⟩, Or.inr ⟨by show (1 : Int) ≤ 2; omega, rfl⟩, hN.v0⟩
    · simp only [if_neg c1, if_neg c2]
      exact ⟨⟨ha, trivial⟩, Or.inr ⟨Int.le_refl 1, rfl⟩, hN.v0⟩
