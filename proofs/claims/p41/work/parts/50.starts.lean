/-! a brew is started -/
theorem rem_filter : ∀ (L : List Int) (i : Nat) (x : Int), L.Pairwise (fun a b => a < b) → L[i]? = some x → L.filter (fun y => decide (y ≠ x)) = remL L i := by
  intro L
  induction L with
  | nil => exact fun _ _ _ h => by simp at h
  | cons y ys ih =>
    intro i x hp hx
    rw [List.pairwise_cons] at hp
    cases i with
    | zero =>
      have e : y = x := by simpa using hx
      subst e
      rw [List.filter_cons_of_neg (by simp)]
      show _ = ys
      exact List.filter_eq_self.mpr (fun z hz => by
        have := hp.1 z hz
        exact decide_eq_true (by omega))
    | succ i =>
      have hx' : ys[i]? = some x := by simpa using hx
      have hm := List.mem_of_getElem? hx'
      have := hp.1 x hm
      have e9 : (fun z => decide (z ≠ x)) y = true := decide_eq_true (by omega)
      rw [List.filter_cons_of_pos (p := fun z => decide (z ≠ x)) e9]
      show y :: _ = y :: remL ys i
      rw [ih i x hp.2 hx']
theorem mem_rem' {x : Int} {xs : List Int} {i : Nat} (h : x ∈ remL xs i) : x ∈ xs := mem_rem h
/-- the yeast that a brew takes -/
def tkG (s : Int) (v : Vw) : Int := if f_firstPitch s v = -1 then 0 else v 23 (f_firstPitch s v)
def tkV (s : Int) (v : Vw) : Vw := if f_firstPitch s v = -1 then upv v 21 s (v 21 s - 1) else upv v 25 (f_firstPitch s v) 1
theorem tkV_fr {s : Int} {v : Vw} {k : Nat} (h : k ≠ 21 ∧ k ≠ 25) : tkV s v k = v k := by
  funext i
  unfold tkV
  split
  · exact upv_nk h.1
  · exact upv_nk h.2
theorem pav_taken {v : Vw} {p s : Int} : pav (upv v 25 p 1) s = (pav v s).filter (fun y => decide (y ≠ p)) := by
  unfold pav
  rw [List.filter_filter]
  refine List.filter_congr (fun x _ => ?_)
  show decide (upv v 25 p 1 25 x = 0 ∧ v 22 x = s) = (decide (x ≠ p) && decide (v 25 x = 0 ∧ v 22 x = s))
  by_cases e : x = p
  · subst e
    simp [upv]
  · simp [upv, e]
theorem take_eq {c : Cs} {v : Vw} {T E s d : Int} (hY : SY c v) (hd : c.2.1 13 11 0 = v 8 0) (hdd : d = c.2.1 13 11 0) (hI : IM v T E) (h0 : 0 ≤ s) (h4 : s < 4) :
    ok_X9_take s d c ∧ (g_X9_take s d c).1 = tkG s v ∧ SY (g_X9_take s d c).2 (tkV s v) ∧ (g_X9_take s d c).2.1 = c.1 ∧ (∀ ci, ci ≠ 12 → (g_X9_take s d c).2.2.1 ci = c.2.1 ci) ∧ (g_X9_take s d c).2.2.1 12 1 = c.2.1 12 1 ∧ ∀ l, l < 13 ∨ 17 ≤ l → (g_X9_take s d c).2.2.2.1 l = c.2.2.1 l := by
  subst hdd
  obtain ⟨g1, g2⟩ := yfirsty hY hd hI h0 h4
  obtain ⟨hl, hf⟩ := ysty hY h0 h4
  have hl6 := pav_len hI s
  have ra : R32 (g_X9_firstUsable s (c.2.1 13 11 0) c) := by rcases g2 with ⟨_, g⟩ | ⟨g, g', _⟩ <;> exact ⟨by omega, by omega⟩
  unfold ok_X9_take g_X9_take tkG tkV
  rcases g2 with ⟨q1, q2⟩ | ⟨q1, q2, q3⟩
  · rw [if_pos (show g_X9_firstUsable s (c.2.1 13 11 0) c < 0 by omega), if_pos (show g_X9_firstUsable s (c.2.1 13 11 0) c < 0 by omega), if_pos q1, if_pos q1]
    refine ⟨⟨g1, ra, trivial⟩, rfl, ⟨hY.1, fun t t0 t4 => ?_⟩, rfl, fun ci hci => ?_, rfl, fun l _ => rfl⟩
    · obtain ⟨y1, y2⟩ := hY.2 t t0 t4
      refine ⟨?_, y2⟩
      by_cases e : t = s
      · subst e
        rw [cput_eq, y1]
        exact (upv_eq _ _ _ _).symm
      · rw [cput_i _ e, upv_ni e]
        exact y1
    · funext k j
      exact cput_k _ (fun q => hci q.1)
  · have hm := lget_mem (xs := pav v s) q1 (by omega)
    have hm2 := pav_mem.mp hm
    have hne : ¬ f_firstPitch s v = -1 := by omega
    rw [if_neg (show ¬ g_X9_firstUsable s (c.2.1 13 11 0) c < 0 by omega), if_neg (show ¬ g_X9_firstUsable s (c.2.1 13 11 0) c < 0 by omega), if_neg hne, if_neg hne]
    refine ⟨⟨g1, ra, ⟨q1, q2⟩, trivial⟩, ?_, ⟨(clst_ne c (by omega)).trans hY.1, fun t t0 t4 => ?_⟩, rfl, fun ci _ => rfl, rfl, fun l hl => clst_ne c (by omega)⟩
    · show c.2.1 7 0 _ = _
      rw [(hf _ q1 q2).1, q3]
    · obtain ⟨y1, y2, y3⟩ := hY.2 t t0 t4
      refine ⟨y1, ?_, ?_⟩
      · by_cases e : t = s
        · subst e
          rw [clst_eq]
          exact fun p hp => y2 p (mem_rem hp)
        · rw [clst_ne c (by omega)]
          exact y2
      · have ep : pts (upv v 25 (f_firstPitch s v) 1) t = (pav (upv v 25 (f_firstPitch s v) 1) t).map (fun p => (v 23 p, v 24 p)) := rfl
        rw [ep, pav_taken]
        by_cases e : t = s
        · subst e
          rw [clst_eq, q3, rem_filter (pav v t) (g_X9_firstUsable t (c.2.1 13 11 0) c).toNat _ (pav_inc v t) (lget_some q1 (by omega)), ← remL_map, ← remL_map]
          have y3' : (c.2.2.1 (13 + t)).map (fun p => (c.2.1 7 0 p, c.2.1 7 1 p)) = (pav v t).map (fun p => (v 23 p, v 24 p)) := y3
          rw [← y3']
          rfl
        · rw [clst_ne c (by omega)]
          have e2 : (pav v t).filter (fun y => decide (y ≠ f_firstPitch s v)) = pav v t := List.filter_eq_self.mpr (fun z hz => by
            have hz2 := pav_mem.mp hz
            refine decide_eq_true (fun eq => e ?_)
            rw [← hz2.2.2, eq, q3]
            exact hm2.2.2)
          rw [e2]
          exact y3
/-- the days for fermenting -/
def fmd (v : Vw) (r l : Int) : Int := v 13 r + (if l = -1 then 0 else if l = v 12 r then 0 else 1)
def stV (r w : Int) (v : Vw) : Vw := upv (upv (upv (upv (upv (upv (upv (upv (upv (tkV (v 12 r) v) 26 (v 5 0) r) 27 (v 5 0) (tkG (v 12 r) v)) 28 (v 5 0) 0) 29 (v 5 0) w) 30 (v 5 0) (fmd v r (v 19 w))) 15 w 1) 16 w (v 5 0)) 19 w (v 12 r)) 5 0 (v 5 0 + 1)
theorem starts_eq (r w : Int) (v : Vw) : f_starts r w v = stV r w v := by
  unfold f_starts stV tkV tkG fmd
  repeat' split
  all_goals first | rfl | omega
theorem ferment_eq {c : Cs} {r l : Int} {v : Vw} (h3 : c.2.1 9 3 r = v 13 r) (h1 : c.2.1 9 1 r = v 12 r) (hl : R32 l) (hr : R32 (v 12 r)) : ok_X6_fermentDaysAfter r l c ∧ g_X6_fermentDaysAfter r l c = fmd v r l := by
  unfold ok_X6_fermentDaysAfter g_X6_fermentDaysAfter fmd
  rw [h3, h1]
  by_cases c1 : l = -1
  · rw [if_pos c1, if_pos c1, if_pos c1]
    exact ⟨⟨hl, trivial⟩, (Int.add_zero _).symm⟩
  · rw [if_neg c1, if_neg c1, if_neg c1]
    by_cases c2 : l = v 12 r
    · rw [if_pos c2, if_pos c2]
      exact ⟨⟨hl, hr, trivial⟩, (Int.add_zero _).symm⟩
    · rw [if_neg c2, if_neg c2]
      exact ⟨⟨hl, hr, trivial⟩, rfl⟩
/-- the class's state behind a new brew -/
def nB (c t : Cs) (n r w g f s : Int) : Cs := clst (g_X8_takeIn w n (cput (cput (g_X0_init n n r g t) 3 4 n f) 11 4 w s)) 3 (c.2.2.1 3 ++ [n])
theorem Sm.starts {c : Cs} {v : Vw} {T E r w : Int} (hS : Sm c v) (hB : VB v) (hI : IM v T E) (hr : 0 ≤ r ∧ r < v 1 0) (hw : 0 ≤ w ∧ w < v 2 0) (hc : v 15 w = 0) (hb : v 5 0 ≤ 29) :
    ok_X10_startBrew r w c ∧ (g_X10_startBrew r w c).1 = v 5 0 ∧ Sm (g_X10_startBrew r w c).2 (stV r w v) := by
  obtain ⟨s0, s1, s2, s3, s4, s5, s6, s7, s8, s9, s10⟩ := hS
  obtain ⟨r0, r1, r2, r3, r4⟩ := s1.2 r hr.1 hr.2
  obtain ⟨w0, w1, w2, w3, w4, w5⟩ := s2.2 w hw.1 hw.2
  have u5 : 0 ≤ v 5 0 ∧ v 5 0 ≤ 30 := hI.2 5 0
  have u12 : 0 ≤ v 12 r ∧ v 12 r ≤ 3 := hI.2 12 r
  have u19 : -1 ≤ v 19 w ∧ v 19 w ≤ 3 := hI.2 19 w
  have en : c.1 3 = v 5 0 := s0.1.2.2.1
  have hl3 : ((c.2.2.1 3).length : Int) = v 5 0 := by rw [s3.1]; exact rng_len u5.1
  have hd : c.2.1 13 11 0 = v 8 0 := s0.2.2.2
  have hY : SY (cnew c 3) v := s4.fr rfl (fun _ _ _ => rfl) rfl rfl (Int.le_refl _) rfl rfl rfl rfl rfl rfl
  obtain ⟨t1, t2, t3, t4, t5, t6, t7⟩ := take_eq (d := c.2.1 13 11 0) hY hd rfl hI u12.1 (show v 12 r < 4 by omega)
  unfold ok_X10_startBrew g_X10_startBrew
  rw [r2, en, hl3]
  generalize g_X9_take (v 12 r) (c.2.1 13 11 0) (cnew c 3) = tt at t1 t2 t3 t4 t5 t6 t7 ⊢
  obtain ⟨tg, ts⟩ := tt
  subst t2
  have hf : ∀ ci, ci ≠ 12 → ts.2.1 ci = (cnew c 3).2.1 ci := t5
  have f9 : ∀ k, (g_X0_init (v 5 0) (v 5 0) r (tkG (v 12 r) v) ts).2.1 9 k r = c.2.1 9 k r := fun k => by
    show ts.2.1 9 k r = _
    rw [hf 9 (by decide)]
    rfl
  have f11 : (g_X0_init (v 5 0) (v 5 0) r (tkG (v 12 r) v) ts).2.1 11 4 w = v 19 w := by
    show ts.2.1 11 4 w = _
    rw [hf 11 (by decide)]
    exact w4
  have fr3 : (g_X0_init (v 5 0) (v 5 0) r (tkG (v 12 r) v) ts).2.1 9 3 r = v 13 r := (f9 3).trans r3
  have fr1 : (g_X0_init (v 5 0) (v 5 0) r (tkG (v 12 r) v) ts).2.1 9 1 r = v 12 r := (f9 1).trans r1
  obtain ⟨e1, e2⟩ := ferment_eq (c := g_X0_init (v 5 0) (v 5 0) r (tkG (v 12 r) v) ts) (l := v 19 w) fr3 fr1 ⟨by omega, by omega⟩ ⟨by omega, by omega⟩
  have l3 : ts.2.2.1 3 = c.2.2.1 3 := t7 3 (Or.inl (by decide))
  have eC : ∀ (x : Cs), x.2.2.1 3 = c.2.2.1 3 → clst x 3 (x.2.2.1 3 ++ [v 5 0]) = clst x 3 (c.2.2.1 3 ++ [v 5 0]) := fun x h => by rw [h]
  dsimp only
  rw [f11, fr1, e2]
  refine ⟨⟨by omega, t1, e1, ?_, trivial⟩, ?_, ?_⟩
  · show ((ts.2.2.1 3).length : Int) ≤ 199
    rw [l3]
    omega
  · simp [g_X8_takeIn, g_X0_init, cput]
  rw [eC (g_X8_takeIn w (v 5 0) (cput (cput (g_X0_init (v 5 0) (v 5 0) r (tkG (v 12 r) v) ts) 3 4 (v 5 0) (fmd v r (v 19 w))) 11 4 w (v 12 r))) l3]
  have n3 : ∀ k b, b ≠ v 5 0 → (nB c ts (v 5 0) r w (tkG (v 12 r) v) (fmd v r (v 19 w)) (v 12 r)).2.1 3 k b = c.2.1 3 k b := fun k b hb => by
    have hb' : ¬ b = c.1 3 := by omega
    have : ts.2.1 3 k b = c.2.1 3 k b := by rw [hf 3 (by decide)]; simp [cnew, hb']
    simp [nB, g_X8_takeIn, g_X0_init, cput, clst, hb, this]
  have n11 : ∀ k x, x ≠ w → (nB c ts (v 5 0) r w (tkG (v 12 r) v) (fmd v r (v 19 w)) (v 12 r)).2.1 11 k x = c.2.1 11 k x := fun k x hx => by
    have : ts.2.1 11 k x = c.2.1 11 k x := by rw [hf 11 (by decide)]; rfl
    simp [nB, g_X8_takeIn, g_X0_init, cput, clst, hx, this]
  have n11w : ∀ k, k ≠ 2 → k ≠ 4 → k ≠ 5 → (nB c ts (v 5 0) r w (tkG (v 12 r) v) (fmd v r (v 19 w)) (v 12 r)).2.1 11 k w = c.2.1 11 k w := fun k h2 h4 h5 => by
    have : ts.2.1 11 k w = c.2.1 11 k w := by rw [hf 11 (by decide)]; rfl
    simp [nB, g_X8_takeIn, g_X0_init, cput, clst, h2, h4, h5, this]
  have hl : ∀ l, l ≠ 3 → (nB c ts (v 5 0) r w (tkG (v 12 r) v) (fmd v r (v 19 w)) (v 12 r)).2.2.1 l = ts.2.2.1 l := fun l h => clst_ne _ h
  have hcn : ∀ ci, ci ≠ 3 → (nB c ts (v 5 0) r w (tkG (v 12 r) v) (fmd v r (v 19 w)) (v 12 r)).1 ci = c.1 ci := fun ci h => by
    show ts.1 ci = _
    rw [t4]
    exact if_neg h
  have hcn3 : (nB c ts (v 5 0) r w (tkG (v 12 r) v) (fmd v r (v 19 w)) (v 12 r)).1 3 = v 5 0 + 1 := by
    show ts.1 3 = _
    rw [t4]
    show c.1 3 + 1 = _
    rw [en]
  have hof : ∀ ci, ci ≠ 3 → ci ≠ 11 → ci ≠ 12 → (nB c ts (v 5 0) r w (tkG (v 12 r) v) (fmd v r (v 19 w)) (v 12 r)).2.1 ci = c.2.1 ci := fun ci h3 h11 h12 => by
    funext k j
    have : ts.2.1 ci k j = c.2.1 ci k j := by rw [hf ci h12]; simp [cnew, h3]
    simp [nB, g_X8_takeIn, g_X0_init, cput, clst, h3, h11, this]
  have F : ∀ k, k ≠ 5 → k ≠ 15 → k ≠ 16 → k ≠ 19 → k ≠ 21 → k ≠ 25 → k ≠ 26 → k ≠ 27 → k ≠ 28 → k ≠ 29 → k ≠ 30 → stV r w v k = v k := fun k h5 h15 h16 h19 h21 h25 h26 h27 h28 h29 h30 => by
    funext i
    unfold stV
    rw [upv_nk h5, upv_nk h19, upv_nk h16, upv_nk h15, upv_nk h30, upv_nk h29, upv_nk h28, upv_nk h27, upv_nk h26, tkV_fr ⟨h21, h25⟩]
  have Fd : ∀ k, k = 1 ∨ k = 2 ∨ k = 3 ∨ k = 4 ∨ k = 6 ∨ k = 7 ∨ k = 8 ∨ k = 9 ∨ k = 10 ∨ k = 12 ∨ k = 13 ∨ k = 14 ∨ k = 17 ∨ k = 18 ∨ k = 20 ∨ k = 22 ∨ k = 23 ∨ k = 24 ∨ (31 ≤ k ∧ k ≤ 46) → stV r w v k = v k := fun k hk => F k (by omega) (by omega) (by omega) (by omega) (by omega) (by omega) (by omega) (by omega) (by omega) (by omega) (by omega)
  have f5 : stV r w v 5 0 = v 5 0 + 1 := upv_eq _ _ _ _
  have fb : ∀ k, k = 26 ∨ k = 27 ∨ k = 28 ∨ k = 29 ∨ k = 30 → ∀ b, b ≠ v 5 0 → stV r w v k b = v k b := fun k hk b hb => by
    unfold stV
    rw [upv_nk (by omega), upv_nk (by omega), upv_nk (by omega), upv_nk (by omega), upv_ni hb, upv_ni hb, upv_ni hb, upv_ni hb, upv_ni hb, tkV_fr (by omega)]
  have fw : ∀ k, k = 15 ∨ k = 16 ∨ k = 19 → ∀ x, x ≠ w → stV r w v k x = v k x := fun k hk x hx => by
    unfold stV
    rw [upv_nk (by omega), upv_ni hx, upv_ni hx, upv_ni hx, upv_nk (by omega), upv_nk (by omega), upv_nk (by omega), upv_nk (by omega), upv_nk (by omega), tkV_fr (by omega)]
  show Sm (nB c ts (v 5 0) r w (tkG (v 12 r) v) (fmd v r (v 19 w)) (v 12 r)) (stV r w v)
  refine ⟨?_, ?_, ?_, ?_, ?_, ?_, ?_, ?_, ?_, ?_, ?_⟩
  · obtain ⟨⟨q1, q2, q3, q4, q5, q6⟩, ⟨q7, q8, q9⟩, q10, q11⟩ := s0
    rw [S0, hcn 9 (by decide), hcn 11 (by decide), hcn3, hcn 5 (by decide), hcn 4 (by decide), hcn 2 (by decide), hcn 6 (by decide), hcn 7 (by decide), hcn 10 (by decide), hof 13 (by decide) (by decide) (by decide), f5, Fd 1 (by decide), Fd 2 (by decide), Fd 6 (by decide), Fd 9 (by decide), Fd 3 (by decide), Fd 8 (by decide), Fd 4 (by decide)]
    exact ⟨⟨q1, q2, rfl, q4, q5, q6⟩, ⟨q7, q8, q9⟩, q10, q11⟩
  · exact s1.fr ((hl 1 (by decide)).trans (t7 1 (Or.inl (by decide)))) (hof 9 (by decide) (by decide) (by decide)) (Fd 1 (by decide)) (Fd 12 (by decide)) (Fd 13 (by decide)) (Fd 14 (by decide))
  · refine ⟨?_, fun x x0 x1 => ?_⟩
    · rw [hl 2 (by decide), t7 2 (Or.inl (by decide)), Fd 2 (by decide)]
      exact s2.1
    · rw [Fd 2 (by decide)] at x1
      rw [Fd 20 (by decide), Fd 17 (by decide)]
      by_cases e : x = w
      · subst e
        have g2 : (nB c ts (v 5 0) r x (tkG (v 12 r) v) (fmd v r (v 19 x)) (v 12 r)).2.1 11 2 x = 117 := by simp [nB, g_X8_takeIn, cput, clst]
        have g4 : (nB c ts (v 5 0) r x (tkG (v 12 r) v) (fmd v r (v 19 x)) (v 12 r)).2.1 11 4 x = v 12 r := by simp [nB, g_X8_takeIn, cput, clst]
        have g5 : (nB c ts (v 5 0) r x (tkG (v 12 r) v) (fmd v r (v 19 x)) (v 12 r)).2.1 11 5 x = v 5 0 := by simp [nB, g_X8_takeIn, cput, clst]
        have v15 : stV r x v 15 x = 1 := by simp [stV, upv]
        have v16 : stV r x v 16 x = v 5 0 := by simp [stV, upv]
        have v19 : stV r x v 19 x = v 12 r := by simp [stV, upv]
        rw [n11w 0 (by decide) (by decide) (by decide), n11w 1 (by decide) (by decide) (by decide), g2, g4, g5, v15, v16, v19]
        exact ⟨w0, w1, rfl, fun q => by omega, rfl, rfl⟩
      · rw [n11 0 x e, n11 1 x e, n11 2 x e, n11 3 x e, n11 4 x e, n11 5 x e, fw 15 (by decide) x e, fw 16 (by decide) x e, fw 19 (by decide) x e]
        exact s2.2 x x0 x1
  · refine ⟨?_, fun b b0 b1 => ?_⟩
    · rw [f5, rng_succ u5.1, ← s3.1]
      exact clst_eq _ _ _
    · rw [f5] at b1
      rw [Fd 31 (by decide)]
      by_cases e : b = v 5 0
      · subst e
        have g : (nB c ts (v 5 0) r w (tkG (v 12 r) v) (fmd v r (v 19 w)) (v 12 r)).2.1 3 0 (v 5 0) = v 5 0 ∧ (nB c ts (v 5 0) r w (tkG (v 12 r) v) (fmd v r (v 19 w)) (v 12 r)).2.1 3 1 (v 5 0) = r ∧ (nB c ts (v 5 0) r w (tkG (v 12 r) v) (fmd v r (v 19 w)) (v 12 r)).2.1 3 2 (v 5 0) = tkG (v 12 r) v ∧ (nB c ts (v 5 0) r w (tkG (v 12 r) v) (fmd v r (v 19 w)) (v 12 r)).2.1 3 3 (v 5 0) = 102 ∧ (nB c ts (v 5 0) r w (tkG (v 12 r) v) (fmd v r (v 19 w)) (v 12 r)).2.1 3 4 (v 5 0) = fmd v r (v 19 w) ∧ (nB c ts (v 5 0) r w (tkG (v 12 r) v) (fmd v r (v 19 w)) (v 12 r)).2.1 3 6 (v 5 0) = w := by simp [nB, g_X8_takeIn, g_X0_init, cput, clst]
        obtain ⟨g0, g1, g2, g3, g4, g6⟩ := g
        have h : stV r w v 26 (v 5 0) = r ∧ stV r w v 27 (v 5 0) = tkG (v 12 r) v ∧ stV r w v 28 (v 5 0) = 0 ∧ stV r w v 29 (v 5 0) = w ∧ stV r w v 30 (v 5 0) = fmd v r (v 19 w) := by simp [stV, upv]
        obtain ⟨h26, h27, h28, h29, h30⟩ := h
        rw [g0, g1, g2, g3, g4, g6, h26, h27, h28, h29, h30]
        exact ⟨rfl, rfl, rfl, rfl, fun _ => rfl, fun q => by omega, rfl⟩
      · rw [n3 0 b e, n3 1 b e, n3 2 b e, n3 3 b e, n3 4 b e, n3 5 b e, n3 6 b e, fb 26 (by decide) b e, fb 27 (by decide) b e, fb 28 (by decide) b e, fb 29 (by decide) b e, fb 30 (by decide) b e]
        exact s3.2 b b0 (by omega)
  · have f21 : stV r w v 21 = tkV (v 12 r) v 21 := by
      funext i
      unfold stV
      rw [upv_nk (by decide), upv_nk (by decide), upv_nk (by decide), upv_nk (by decide), upv_nk (by decide), upv_nk (by decide), upv_nk (by decide), upv_nk (by decide), upv_nk (by decide)]
    have f25 : stV r w v 25 = tkV (v 12 r) v 25 := by
      funext i
      unfold stV
      rw [upv_nk (by decide), upv_nk (by decide), upv_nk (by decide), upv_nk (by decide), upv_nk (by decide), upv_nk (by decide), upv_nk (by decide), upv_nk (by decide), upv_nk (by decide)]
    have fo : ∀ k, k = 4 ∨ k = 22 ∨ k = 23 ∨ k = 24 → stV r w v k = tkV (v 12 r) v k := fun k hk => (Fd k (by omega)).trans (tkV_fr (by omega)).symm
    exact t3.fr (hl 0 (by decide)) (fun s _ _ => hl _ (by omega)) rfl rfl (Int.le_refl _) (fo 4 (by decide)) f21 (fo 22 (by decide)) (fo 23 (by decide)) (fo 24 (by decide)) f25
  · exact s5.fr ((hl 4 (by decide)).trans (t7 4 (Or.inl (by decide)))) (Fd 7 (by decide)) (Fd 39 (by decide))
  · exact s6.fr ((hl 5 (by decide)).trans (t7 5 (Or.inl (by decide)))) (fun o _ _ => (hl _ (by omega)).trans (t7 _ (Or.inr (by omega)))) (hof 5 (by decide) (by decide) (by decide)) (hof 6 (by decide) (by decide) (by decide)) (by rw [hcn 6 (by decide)]; exact Int.le_refl _) (Fd 6 (by decide)) (Fd 32 (by decide)) (Fd 33 (by decide)) (Fd 34 (by decide)) (Fd 35 (by decide)) (Fd 36 (by decide)) (Fd 37 (by decide))
  · exact s7.fr ((hl 6 (by decide)).trans (t7 6 (Or.inl (by decide)))) (Fd 6 (by decide)) (Fd 32 (by decide))
  · exact s8.fr ((hl 7 (by decide)).trans (t7 7 (Or.inl (by decide)))) (hof 4 (by decide) (by decide) (by decide)) (Fd 9 (by decide)) (Fd 44 (by decide)) (Fd 45 (by decide)) (Fd 46 (by decide))
  · have e8 : (nB c ts (v 5 0) r w (tkG (v 12 r) v) (fmd v r (v 19 w)) (v 12 r)).2.2.1 8 = c.2.2.1 8 := (hl 8 (by decide)).trans (t7 8 (Or.inl (by decide)))
    have v15 : stV r w v 15 w = 1 := by simp [stV, upv]
    obtain ⟨d1, d2, d3⟩ := s9
    unfold SD
    rw [e8, Fd 2 (by decide), Fd 18 (by decide), Fd 10 (by decide)]
    refine ⟨fun x => ?_, d2, d3⟩
    rw [d1 x]
    by_cases e : x = w
    · subst e
      rw [v15, hc]
      exact ⟨fun q => absurd q.2.2 (by decide), fun q => absurd q.2.2 (by decide)⟩
    · rw [fw 15 (by decide) x e]
  · exact s10.fr ((hl 9 (by decide)).trans (t7 9 (Or.inl (by decide)))) (hcn 10 (by decide)) (by rw [hof 10 (by decide) (by decide) (by decide)]) (Fd 2 (by decide)) (Fd 20 (by decide))
theorem dlu_0 {v : Vw} {b : Int} (h : ∀ e, 0 ≤ e → e < v 9 0 → v 44 e < b) : dlu v b = 0 := by
  unfold dlu
  rw [sI_congr (g := fun _ => 0) _ (fun e e0 e1 => by
    have := h e e0 (by omega)
    show (if v 44 e = b then v 46 e else 0) = 0
    rw [if_neg (by omega)])]
  exact sI_0 _
theorem VB.starts {v : Vw} {T E r w : Int} (hB : VB v) (hI : IM v T E) (hr : 0 ≤ r ∧ r < v 1 0) (hw : 0 ≤ w ∧ w < v 2 0) (hc : v 15 w = 0) : VB (stV r w v) := by
  obtain ⟨b1, b2, b3, b4, b5, b6⟩ := hB
  have u5 : 0 ≤ v 5 0 ∧ v 5 0 ≤ 30 := hI.2 5 0
  have F : ∀ k, k ≠ 5 → k ≠ 15 → k ≠ 16 → k ≠ 19 → k ≠ 21 → k ≠ 25 → k ≠ 26 → k ≠ 27 → k ≠ 28 → k ≠ 29 → k ≠ 30 → stV r w v k = v k := fun k h5 h15 h16 h19 h21 h25 h26 h27 h28 h29 h30 => by
    funext i
    unfold stV
    rw [upv_nk h5, upv_nk h19, upv_nk h16, upv_nk h15, upv_nk h30, upv_nk h29, upv_nk h28, upv_nk h27, upv_nk h26, tkV_fr ⟨h21, h25⟩]
  have Fd : ∀ k, k = 1 ∨ k = 2 ∨ k = 3 ∨ k = 4 ∨ k = 6 ∨ k = 7 ∨ k = 8 ∨ k = 9 ∨ k = 10 ∨ k = 12 ∨ k = 13 ∨ k = 14 ∨ k = 17 ∨ k = 18 ∨ k = 20 ∨ k = 22 ∨ k = 23 ∨ k = 24 ∨ (31 ≤ k ∧ k ≤ 46) → stV r w v k = v k := fun k hk => F k (by omega) (by omega) (by omega) (by omega) (by omega) (by omega) (by omega) (by omega) (by omega) (by omega) (by omega)
  have f5 : stV r w v 5 0 = v 5 0 + 1 := upv_eq _ _ _ _
  have fb : ∀ k, k = 26 ∨ k = 27 ∨ k = 28 ∨ k = 29 ∨ k = 30 → ∀ b, b ≠ v 5 0 → stV r w v k b = v k b := fun k hk b hb => by
    unfold stV
    rw [upv_nk (by omega), upv_nk (by omega), upv_nk (by omega), upv_nk (by omega), upv_ni hb, upv_ni hb, upv_ni hb, upv_ni hb, upv_ni hb, tkV_fr (by omega)]
  have fw : ∀ k, k = 15 ∨ k = 16 ∨ k = 19 → ∀ x, x ≠ w → stV r w v k x = v k x := fun k hk x hx => by
    unfold stV
    rw [upv_nk (by omega), upv_ni hx, upv_ni hx, upv_ni hx, upv_nk (by omega), upv_nk (by omega), upv_nk (by omega), upv_nk (by omega), upv_nk (by omega), tkV_fr (by omega)]
  have v15 : stV r w v 15 w = 1 := by simp [stV, upv]
  have v16 : stV r w v 16 w = v 5 0 := by simp [stV, upv]
  have h : stV r w v 26 (v 5 0) = r ∧ stV r w v 28 (v 5 0) = 0 ∧ stV r w v 29 (v 5 0) = w := by simp [stV, upv]
  obtain ⟨h26, h28, h29⟩ := h
  unfold VB
  simp only [dlu_fr (Fd 9 (by decide)) (Fd 44 (by decide)) (Fd 46 (by decide))]
  rw [Fd 1 (by decide), Fd 2 (by decide), Fd 4 (by decide), Fd 6 (by decide), Fd 9 (by decide), Fd 31 (by decide), Fd 33 (by decide), Fd 34 (by decide), Fd 36 (by decide), Fd 37 (by decide), Fd 44 (by decide), Fd 45 (by decide), f5]
  refine ⟨fun b b0 b9 => ?_, fun x x0 x1 q => ?_, ⟨fun x hx => ?_, fun p hp => ?_⟩, b4, fun e e0 e1 => ?_, fun b b0 b9 => ?_⟩
  · by_cases e : b = v 5 0
    · subst e
      rw [h26, h28, h29, v15, v16]
      exact ⟨hr, fun _ => ⟨hw, rfl, rfl⟩⟩
    · obtain ⟨g1, g2⟩ := b1 b b0 (show b < v 5 0 by omega)
      rw [fb 26 (by decide) b e, fb 28 (by decide) b e, fb 29 (by decide) b e]
      refine ⟨g1, fun q => ?_⟩
      obtain ⟨k1, k2, k3⟩ := g2 q
      have hne : v 29 b ≠ w := fun e2 => by rw [e2, hc] at k2; omega
      rw [fw 15 (by decide) _ hne, fw 16 (by decide) _ hne]
      exact ⟨k1, k2, k3⟩
  · by_cases e : x = w
    · rw [e, v16]
      omega
    · rw [fw 15 (by decide) x e] at q
      rw [fw 16 (by decide) x e]
      have := b2 x x0 x1 q
      omega
  · rw [fw 15 (by decide) x (by omega)]
    exact b3.1 x hx
  · have e25 : stV r w v 25 p = tkV (v 12 r) v 25 p := by
      unfold stV
      rw [upv_nk (by decide), upv_nk (by decide), upv_nk (by decide), upv_nk (by decide), upv_nk (by decide), upv_nk (by decide), upv_nk (by decide), upv_nk (by decide), upv_nk (by decide)]
    rw [e25]
    unfold tkV
    by_cases q : f_firstPitch (v 12 r) v = -1
    · rw [if_pos q, upv_nk (by decide)]
      exact b3.2 p hp
    · rw [if_neg q]
      have u4 : 0 ≤ v 4 0 ∧ v 4 0 ≤ 60 := hI.2 4 0
      have g := cp_first (s := v 12 r) (v := v) ((v 4 0 - 0).toNat + 1) 0 (by omega) (by omega)
      have g2 : f_firstPitch (v 12 r) v < v 4 0 := by
        rcases g with g | g
        · exact absurd g.1 q
        · exact g.2.1
      rw [upv_ni (by omega)]
      exact b3.2 p hp
  · have := b5 e e0 e1
    exact ⟨⟨this.1.1, by omega⟩, this.2⟩
  · by_cases e : b = v 5 0
    · subst e
      rw [h28, dlu_0 (fun e e0 e1 => (b5 e e0 e1).1.2)]
      rfl
    · rw [fb 28 (by decide) b e]
      exact b6 b b0 (by omega)
