/-! the calls bestForecast, bestForecastByTrying, improve -/
theorem fcu_ub {K : Nat} {v : Vw} (hK : 1 ≤ K) (hD : Db v) : ∀ (rs : List Int) (s : Fs) (u M : Int), Sb K M s → u ≤ M + 17 * (rs.length : Int) → fcu K (v 13) (v 12) rs s u ≤ M + 17 * (rs.length : Int) := by
  intro rs
  induction rs with
  | nil => exact fun s u M _ hu => hu
  | cons r rs ih =>
    intro s u M hs hu
    have hf := hs.fe1 (r := r) hK hD
    rw [List.length_cons] at hu ⊢
    have g := ih (fnx K (v 13) (v 12) s r) (mx u (fe K (v 13) (v 12) s r)) (M + 17) (hs.nx1 hK hD) (by unfold mx; split <;> omega)
    show fcu K (v 13) (v 12) rs _ _ ≤ _
    omega
theorem bst_congr {V V' : List Int → Int} : ∀ {X : List (List Int)} {a : Int × List Int}, (∀ p ∈ X, V p = V' p) → X.foldl (bst V) a = X.foldl (bst V') a := by
  intro X
  induction X with
  | nil => exact fun _ => rfl
  | cons x X ih =>
    intro a h
    rw [List.foldl_cons, List.foldl_cons]
    have e : bst V a x = bst V' a x := by
      unfold bst
      rw [h x List.mem_cons_self]
    rw [e]
    exact ih (fun p hp => h p (List.mem_cons_of_mem _ hp))
theorem nil_map {X : List (List Int)} : X.map (fun p => ([] : List Int) ++ p) = X := by
  have : (fun p : List Int => ([] : List Int) ++ p) = id := rfl
  rw [this, List.map_id]
theorem valF_d {K : Nat} {v : Vw} {T E : Int} {W : Int → Int} {p : List Int} (hI : IM v T E) (hK : 1 ≤ K) (hp : p ≠ []) : fcu K (v 13) (v 12) p (s0 v W) (v 8 0) = valF K v W p := fcu_0 hI hK hp
theorem valF_r {K : Nat} {v : Vw} {T E : Int} {W : Int → Int} {p : List Int} (hI : IM v T E) (hK : 1 ≤ K) (h6 : p.length ≤ 6) : 0 ≤ valF K v W p ∧ valF K v W p ≤ 31000 := by
  have a := fcu_le (K := K) (du := v 13) (st := v 12) p (s0 v W) 0
  have b := fcu_ub hK hI.db p (s0 v W) 0 30000 (s0_b hI) (by omega)
  unfold valF
  omega
theorem findB_ok {c : Cs} {v : Vw} {T E : Int} (hN : INV c v) (hI : IM v T E) (h7 : 1 ≤ v 7 0) (hK : 1 ≤ (c.1 10).toNat) (hF : HasF v) :
    ok_X5_findBest 4 (v 8 0) c ∧ (g_X5_findBest 4 (v 8 0) c).1 = (f_finds v).1 ∧ (g_X5_findBest 4 (v 8 0) c).2.2.2.1 10 = (rng (v 7 0)).map ((f_finds v).2 41) ∧ FX c (g_X5_findBest 4 (v 8 0) c).2 ∧ (∀ x ∈ (g_X5_findBest 4 (v 8 0) c).2.2.2.1 10, 0 ≤ x ∧ x < v 1 0) := by
  have n10 : 0 ≤ c.1 10 := hN.1.c0.2.1.2.2
  have hT := hI.1
  have u7 : 0 ≤ v 7 0 ∧ v 7 0 ≤ 6 := hI.2 7 0
  have u8 : 0 ≤ v 8 0 ∧ v 8 0 ≤ T := hI.2 8 0
  obtain ⟨m1, m2, m3⟩ := q_mem hN u7
  have hq : c.2.2.1 4 = (rng (v 7 0)).map (v 39) := hN.1.cq
  have ql : ((c.2.2.1 4).length : Int) = v 7 0 := by rw [hq]; exact map_len u7.1
  obtain ⟨a1, a2, a3⟩ := fo_ok (l := 4) hN hI rfl hK m1 m2
  unfold ok_X5_findBest g_X5_findBest
  have hWM := hN.1.cs.wm n10
  -- the present order's last day
  have eQ := valF_d (K := (c.1 10).toNat) (W := c.2.1 10 0) hI hK (m3 h7)
  have rQ := valF_r (K := (c.1 10).toNat) (W := c.2.1 10 0) hI hK m2
  rw [a2, eQ]
  refine and_imp_and a1 ?_
  revert a3
  generalize (g_X5_forecastOf 4 (v 8 0) c).2 = c1
  intro a3
  have fx2 : FX c (cput c1 8 4 0 (valF (c.1 10).toNat v (c.2.1 10 0) (c.2.2.1 4) + 1)) := a3.fx.trans FX.day
  have b2 : (cput c1 8 4 0 (valF (c.1 10).toNat v (c.2.1 10 0) (c.2.2.1 4) + 1)).2.1 8 4 0 = valF (c.1 10).toNat v (c.2.1 10 0) (c.2.2.1 4) + 1 := cput_eq _ _ _ _ _
  revert fx2 b2
  generalize cput c1 8 4 0 (valF (c.1 10).toNat v (c.2.1 10 0) (c.2.2.1 4) + 1) = c2
  intro fx2 b2
  have N2 := hN.fx fx2
  obtain ⟨r1, r2, r3⟩ := reset_ok N2 hI
  refine and_imp_and r1 ?_
  have b3 : (g_X5_resetSlots (v 8 0) c2).2.1 8 4 0 = valF (c.1 10).toNat v (c.2.1 10 0) (c.2.2.1 4) + 1 := by rw [r2.2.1 8 (by decide)]; exact b2
  have fx3 : FX c (g_X5_resetSlots (v 8 0) c2) := fx2.trans r2.fx
  rw [fx2.1, fx2.2.2.1] at r3
  revert r3 b3 fx3
  generalize g_X5_resetSlots (v 8 0) c2 = c3
  intro r3 b3 fx3
  have N3 := hN.fx fx3
  have l4 : c3.2.2.1 4 = c.2.2.1 4 := fx3.2.2.2.1 4 (by decide)
  obtain ⟨s1, Y, s2, s3, s4⟩ := copyS_ok (l := 4) (k := 11) N3 hI (by decide) rfl rfl (by decide) (by rw [l4]; exact m1) (by rw [l4]; omega)
  rw [l4] at s4
  rw [s2] at *
  have yl := s4.length_eq
  have fx5 : FX c (clst (clst c3 11 Y) 12 []) := (fx3.trans (FX.lst (by decide))).trans (FX.lst (by decide))
  have l11 : (clst (clst c3 11 Y) 12 []).2.2.1 11 = Y := by rw [clst_ne _ (by decide), clst_eq]
  have l12 : (clst (clst c3 11 Y) 12 []).2.2.1 12 = [] := clst_eq _ _ _
  have e10 : (clst (clst c3 11 Y) 12 []).1 10 = c.1 10 := congrFun fx5.1 10
  have ec : cfs (clst (clst c3 11 Y) 12 []) = cfs c3 := rfl
  have hs := search_ok (V := fun p => fcu (c.1 10).toNat (v 13) (v 12) p (cfs c3) (v 8 0)) hI Y.length 9 (by omega) 0 (v 8 0) (clst (clst c3 11 Y) 12 []) 30000 (hN.fx fx5) (by rw [e10]; exact hK) (by rw [l11]) (Int.le_refl 0) (by omega) (by rw [l12]; rfl) (by rw [l11]; exact fun x m => m1 x (s4.subset m)) (by rw [e10, ec]; exact r3.sb (s0_b hI)) (by omega) (by omega) (by
    have : (clst (clst c3 11 Y) 12 []).2.1 8 4 0 = c3.2.1 8 4 0 := rfl
    omega) (fun p => by rw [l12, e10, ec]; rfl)
  rw [l11, l12, nil_map] at hs
  revert hs
  generalize g_X5_search 9 0 (v 8 0) (clst (clst c3 11 Y) 12 []) = C
  intro hs
  obtain ⟨t1, ⟨t2, _, _, _⟩, t3⟩ := hs
  have hv : ∀ p ∈ lp Y.length Y, fcu (c.1 10).toNat (v 13) (v 12) p (cfs c3) (v 8 0) = valF (c.1 10).toNat v (c.2.1 10 0) p := fun p hp => by
    have hpl := (lp_sub Y.length Y p rfl hp).1
    rw [r3.fcu1 hK]
    exact valF_d hI hK (fun e => by rw [e] at hpl; simp at hpl; omega)
  rw [bst_congr hv] at t3
  have inQ : c.2.2.1 4 ∈ lp Y.length Y := lp_all Y.length Y _ rfl s4.symm
  have fe := finds_eq (W := c.2.1 10 0) (K := (c.1 10).toNat) (S := Y) hWM hK hI hF h7 s3 (by rw [← hq]; exact s4)
  have a5 : (Acc (clst (clst c3 11 Y) 12 [])).1 = valF (c.1 10).toNat v (c.2.1 10 0) (c.2.2.1 4) + 1 := b3
  have same := bst_same (val := valF (c.1 10).toNat v (c.2.1 10 0)) (X := lp Y.length Y) (a := Acc (clst (clst c3 11 Y) 12 [])) (b := (2147483647, (rng (v 7 0)).map (v 41))) ⟨_, inQ, by omega, by show _ < (2147483647 : Int); omega⟩
  rw [same] at t3
  have p1 := congrArg Prod.fst t3
  have p2 := congrArg Prod.snd t3
  have q1 : C.2.1 8 4 0 = (f_finds v).1 := p1.trans fe.1.symm
  have q2 : C.2.2.1 10 = (rng (v 7 0)).map ((f_finds v).2 41) := p2.trans fe.2.symm
  refine ⟨⟨s1, t1, trivial⟩, q1, q2, fx5.trans t2, fun x hx => ?_⟩
  have p2' : C.2.2.1 10 = ((lp Y.length Y).foldl (bst (valF (c.1 10).toNat v (c.2.1 10 0))) (2147483647, (rng (v 7 0)).map (v 41))).2 := p2
  have hle := (bst_le (val := valF (c.1 10).toNat v (c.2.1 10 0)) (X := lp Y.length Y) (a := (2147483647, (rng (v 7 0)).map (v 41)))).2 _ inQ
  rcases bst_mem (val := valF (c.1 10).toNat v (c.2.1 10 0)) (X := lp Y.length Y) (a := (2147483647, (rng (v 7 0)).map (v 41))) with e | ⟨e, _⟩
  · rw [e] at hle
    have : (2147483647 : Int) ≤ valF (c.1 10).toNat v (c.2.1 10 0) (c.2.2.1 4) := hle
    omega
  · rw [p2'] at hx
    exact m1 x (s4.subset ((lp_sub Y.length Y _ rfl e).2 x hx))
