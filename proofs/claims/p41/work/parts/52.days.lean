/-! a day passes: cleaning goes on, brews grow older -/
theorem VB.st {v v' : Vw} (h : VB v) (f1 : v' 1 = v 1) (f2 : v' 2 = v 2) (f5 : v' 5 = v 5) (f6 : v' 6 = v 6) (f9 : v' 9 = v 9) (f16 : v' 16 = v 16) (f26 : v' 26 = v 26) (f29 : v' 29 = v 29) (f33 : v' 33 = v 33) (f34 : v' 34 = v 34) (f36 : v' 36 = v 36) (f37 : v' 37 = v 37) (f44 : v' 44 = v 44) (f45 : v' 45 = v 45) (f46 : v' 46 = v 46)
    (h15 : ∀ w, v' 15 w = v 15 w ∨ (v 15 w ≠ 1 ∧ v' 15 w ≠ 1 ∧ w < v 2 0)) (h25 : ∀ p, v' 4 0 ≤ p → v' 25 p = 0) (h28 : ∀ b, 0 ≤ b → b < v 5 0 → (v' 28 b = 4 ↔ v 28 b = 4) ∧ ((v' 28 b = v 28 b ∧ v' 31 b = v 31 b) ∨ (v 28 b ≠ 3 ∧ v 28 b ≠ 4 ∧ v' 28 b ≠ 3 ∧ v' 28 b ≠ 4) ∨ (v 28 b ≠ 3 ∧ v 28 b ≠ 4 ∧ v' 28 b = 3 ∧ v' 31 b = 20))) : VB v' := by
  obtain ⟨g1, g2, g3, g4, g5, g6⟩ := h
  unfold VB
  simp only [dlu_fr f9 f44 f46]
  rw [f1, f2, f5, f6, f9, f16, f26, f29, f33, f34, f36, f37, f44, f45]
  refine ⟨fun b h0 h5 => ⟨(g1 b h0 h5).1, fun q => ?_⟩, fun w w0 w1 q => ?_, ⟨fun w hw => ?_, h25⟩, g4, g5, fun b h0 h5 => ?_⟩
  · have q' : v 28 b ≠ 4 := fun e => q ((h28 b h0 h5).1.mpr e)
    obtain ⟨k1, k2, k3⟩ := (g1 b h0 h5).2 q'
    rcases h15 (v 29 b) with e | e
    · exact ⟨k1, by rw [e]; exact k2, k3⟩
    · exact absurd k2 e.1
  · rcases h15 w with e | e
    · rw [e] at q
      exact g2 w w0 w1 q
    · exact absurd q e.2.1
  · rcases h15 w with e | e
    · rw [e]
      exact g3.1 w hw
    · omega
  · have := g6 b h0 h5
    obtain ⟨_, e | e | e⟩ := h28 b h0 h5
    · rw [e.1, e.2]
      exact this
    · rw [if_neg e.2.2.1, if_neg e.2.2.2]
      rw [if_neg e.1, if_neg e.2.1] at this
      exact this
    · rw [if_pos e.2.2.1, e.2.2.2]
      rw [if_neg e.1, if_neg e.2.1] at this
      exact this
/-- a vessel's row after a turn -/
theorem SV.one {c c' : Cs} {v v' : Vw} {w : Int} (h : SV c v) (l : c'.2.2.1 2 = c.2.2.1 2) (old : ∀ k x, x ≠ w → c'.2.1 11 k x = c.2.1 11 k x) (f2 : v' 2 = v 2) (fo : ∀ k, k = 15 ∨ k = 16 ∨ k = 17 ∨ k = 19 ∨ k = 20 → ∀ x, x ≠ w → v' k x = v k x)
    (n : 0 ≤ w → w < v 2 0 → c'.2.1 11 0 w = w ∧ c'.2.1 11 1 w = kdc (v' 20 w) ∧ c'.2.1 11 2 w = cdc (v' 15 w) ∧ (v' 15 w = 3 → c'.2.1 11 3 w = v' 17 w) ∧ c'.2.1 11 4 w = v' 19 w ∧ c'.2.1 11 5 w = (if v' 15 w = 1 then v' 16 w else -1)) : SV c' v' := by
  refine ⟨by rw [l, f2]; exact h.1, fun x x0 x1 => ?_⟩
  rw [f2] at x1
  by_cases e : x = w
  · subst e
    exact n x0 x1
  · rw [old 0 x e, old 1 x e, old 2 x e, old 3 x e, old 4 x e, old 5 x e, fo 15 (by decide) x e, fo 16 (by decide) x e, fo 17 (by decide) x e, fo 19 (by decide) x e, fo 20 (by decide) x e]
    exact h.2 x x0 x1
theorem SB.one {c c' : Cs} {v v' : Vw} {b : Int} (h : SB c v) (l : c'.2.2.1 3 = c.2.2.1 3) (old : ∀ k x, x ≠ b → c'.2.1 3 k x = c.2.1 3 k x) (f5 : v' 5 = v 5) (fo : ∀ k, k = 26 ∨ k = 27 ∨ k = 28 ∨ k = 29 ∨ k = 30 ∨ k = 31 → ∀ x, x ≠ b → v' k x = v k x)
    (n : 0 ≤ b → b < v 5 0 → c'.2.1 3 0 b = b ∧ c'.2.1 3 1 b = v' 26 b ∧ c'.2.1 3 2 b = v' 27 b ∧ c'.2.1 3 3 b = phc (v' 28 b) ∧ (v' 28 b = 0 ∨ v' 28 b = 2 → c'.2.1 3 4 b = v' 30 b) ∧ (v' 28 b = 3 → c'.2.1 3 5 b = v' 31 b) ∧ c'.2.1 3 6 b = (if v' 28 b = 4 then -1 else v' 29 b)) : SB c' v' := by
  refine ⟨by rw [l, f5]; exact h.1, fun x x0 x1 => ?_⟩
  rw [f5] at x1
  by_cases e : x = b
  · subst e
    exact n x0 x1
  · rw [old 0 x e, old 1 x e, old 2 x e, old 3 x e, old 4 x e, old 5 x e, old 6 x e, fo 26 (by decide) x e, fo 27 (by decide) x e, fo 28 (by decide) x e, fo 29 (by decide) x e, fo 30 (by decide) x e, fo 31 (by decide) x e]
    exact h.2 x x0 x1
theorem SD.st {c c' : Cs} {v v' : Vw} (h : SD c v) (l1 : c'.2.2.1 8 = c.2.2.1 8) (f2 : v' 2 = v 2) (f15 : ∀ w, v' 15 w = 2 ↔ v 15 w = 2) (f18 : v' 18 = v 18) (f10 : v' 10 = v 10) : SD c' v' := by
  unfold SD
  simp only [f15]
  rw [l1, f2, f18, f10]
  exact h
theorem INV.clean1 {c : Cs} {v : Vw} {w : Int} (hN : INV c v) (h0 : 0 ≤ w) (h1 : w < v 2 0) (h3 : v 15 w = 3) (hz : ¬ v 17 w - 1 = 0) : INV (cput c 11 3 w (v 17 w - 1)) (upv v 17 w (v 17 w - 1)) := by
  obtain ⟨⟨s0, s1, s2, s3, s4, s5, s6, s7, s8, s9, s10⟩, hB, hC, hJ⟩ := hN
  refine ⟨⟨s0, s1, ?_, s3, s4, s5, s6, s7.fr rfl rfl rfl, s8, s9, s10⟩, hB, CI_fr (v := v) (fun k hk i => upv_nk (by omega)) hC, ?_⟩
  · refine s2.one (w := w) rfl (fun k x hx => cput_i c hx) rfl (fun k hk x hx => upv_ni hx) (fun _ _ => ?_)
    obtain ⟨q0, q1, q2, q3, q4, q5⟩ := s2.2 w h0 h1
    have e15 : upv v 17 w (v 17 w - 1) 15 w = v 15 w := rfl
    rw [e15]
    exact ⟨q0, q1, q2, fun _ => by rw [cput_eq]; exact (upv_eq _ _ _ _).symm, q4, q5⟩
  · obtain ⟨j1, j2, j3, j4⟩ := hJ
    exact ⟨j1, j2, j3, C4_a j4 hz (j4 w h3)⟩
theorem INV.clean0 {c : Cs} {v : Vw} {w : Int} (hN : INV c v) (h0 : 0 ≤ w) (h1 : w < v 2 0) (h3 : v 15 w = 3) : INV (cput (cput c 11 3 w (v 17 w - 1)) 11 2 w 99) (upv (upv v 17 w (v 17 w - 1)) 15 w 0) := by
  obtain ⟨⟨s0, s1, s2, s3, s4, s5, s6, s7, s8, s9, s10⟩, hB, hC, hJ⟩ := hN
  have e15 : upv (upv v 17 w (v 17 w - 1)) 15 w 0 15 w = 0 := upv_eq _ _ _ _
  have e15' : ∀ x, x ≠ w → upv (upv v 17 w (v 17 w - 1)) 15 w 0 15 x = v 15 x := fun x hx => upv_ni hx
  refine ⟨⟨s0, s1, ?_, s3, s4, s5, s6, s7.fr rfl rfl rfl, s8, s9.st rfl rfl (fun x => ?_) rfl rfl, s10⟩, ?_, CI_fr (v := v) (fun k hk i => (upv_nk (by omega)).trans (upv_nk (by omega))) hC, ?_⟩
  · refine s2.one (w := w) rfl (fun k x hx => (cput_i _ hx).trans (cput_i _ hx)) rfl (fun k hk x hx => (upv_ni hx).trans (upv_ni hx)) (fun _ _ => ?_)
    obtain ⟨q0, q1, q2, q3, q4, q5⟩ := s2.2 w h0 h1
    rw [e15]
    rw [h3] at q5
    exact ⟨q0, q1, cput_eq _ _ _ _ _, fun q => by omega, q4, q5⟩
  · by_cases e : x = w
    · subst e
      rw [e15, h3]
      decide
    · rw [e15' x e]
  · refine hB.st rfl rfl rfl rfl rfl rfl rfl rfl rfl rfl rfl rfl rfl rfl rfl (fun x => ?_) hB.2.2.1.2 (fun b _ _ => ⟨Iff.rfl, Or.inl ⟨rfl, rfl⟩⟩)
    by_cases e : x = w
    · subst e
      rw [e15, h3]
      exact Or.inr ⟨by decide, by decide, h1⟩
    · exact Or.inl (e15' x e)
  · obtain ⟨j1, j2, j3, j4⟩ := hJ
    exact ⟨j1, j2, j3, C4_b j4⟩
theorem clean_day {T E : Int} : ∀ (n m : Nat) (i : Int) (c : Cs) (v : Vw), INV c v → IM v T E → 0 ≤ i → i ≤ v 2 0 → (v 2 0 - i).toNat < n → (v 2 0 - i).toNat < m → okl_X10_continueCleaning_2 n i c ∧ INV (l_X10_continueCleaning_2 n i c) (l_passes_12 m i v) := by
  intro n
  induction n with
  | zero => exact fun _ _ _ _ _ _ _ _ h => absurd h (Nat.not_lt_zero _)
  | succ n ih =>
    intro m i c v hN hI h0 h1 hn hm
    cases m with
    | zero => exact absurd hm (Nat.not_lt_zero _)
    | succ m =>
      have u2 : 0 ≤ v 2 0 ∧ v 2 0 ≤ 8 := hI.2 2 0
      have hl := hN.1.l2 hI
      rw [okl_X10_continueCleaning_2, l_X10_continueCleaning_2, l_passes_12, hl]
      by_cases c1 : v 2 0 ≤ i
      · rw [if_pos c1, if_pos c1, if_pos c1]
        exact ⟨⟨⟨by omega, by omega⟩, trivial⟩, hN⟩
      · obtain ⟨q0, q1, q2, q3, q4, q5⟩ := hN.1.cv.2 i h0 (by omega)
        have r2 := cdc_r (v 15 i)
        have u15 : 0 ≤ v 15 i ∧ v 15 i ≤ 3 := hI.2 15 i
        have u17 : 0 ≤ v 17 i ∧ v 17 i ≤ 2 := hI.2 17 i
        rw [if_neg c1, if_neg c1, if_neg c1, hN.1.e2 h0 (by omega), q2]
        by_cases c2 : v 15 i = 3
        · rw [if_pos ((cdc_3 u15).mpr c2), if_pos ((cdc_3 u15).mpr c2), if_pos c2, q3 c2]
          have h17 := hN.2.2.2.2.2.2 i c2
          by_cases c3 : v 17 i - 1 = 0
          · rw [if_pos c3, if_pos c3, if_pos c3]
            have g := hN.clean0 h0 (by omega) c2
            obtain ⟨j1, j2⟩ := ih m (i + 1) _ _ g ((hI.up 17 i (v 17 i - 1) (by show (0 : Int) ≤ v 17 i - 1 ∧ v 17 i - 1 ≤ 2; omega)).up 15 i 0 (by show (0 : Int) ≤ 0 ∧ (0 : Int) ≤ 3; omega)) (by omega) (show i + 1 ≤ v 2 0 by omega) (show (v 2 0 - (i + 1)).toNat < n by omega) (show (v 2 0 - (i + 1)).toNat < m by omega)
            exact ⟨⟨⟨by omega, by omega⟩, ⟨h0, by omega⟩, ⟨by omega, by omega⟩, ⟨by omega, by omega⟩, j1⟩, j2⟩
          · rw [if_neg c3, if_neg c3, if_neg c3]
            have g := hN.clean1 h0 (by omega) c2 c3
            obtain ⟨j1, j2⟩ := ih m (i + 1) _ _ g (hI.up 17 i (v 17 i - 1) (by show (0 : Int) ≤ v 17 i - 1 ∧ v 17 i - 1 ≤ 2; omega)) (by omega) (show i + 1 ≤ v 2 0 by omega) (show (v 2 0 - (i + 1)).toNat < n by omega) (show (v 2 0 - (i + 1)).toNat < m by omega)
            exact ⟨⟨⟨by omega, by omega⟩, ⟨h0, by omega⟩, ⟨by omega, by omega⟩, ⟨by omega, by omega⟩, j1⟩, j2⟩
        · rw [if_neg (fun h => c2 ((cdc_3 u15).mp h)), if_neg (fun h => c2 ((cdc_3 u15).mp h)), if_neg c2]
          obtain ⟨j1, j2⟩ := ih m (i + 1) c v hN hI (by omega) (by omega) (by omega) (by omega)
          exact ⟨⟨⟨by omega, by omega⟩, ⟨h0, by omega⟩, ⟨by omega, by omega⟩, j1⟩, j2⟩
/-- a pitch is put in -/
def hC (c : Cs) (s g d : Int) : Cs := clst (g_X4_init (c.1 7) g d (cnew c 7)) (13 + s) ((g_X4_init (c.1 7) g d (cnew c 7)).2.2.1 (13 + s) ++ [c.1 7])
def hV (v : Vw) (s g d : Int) : Vw := upv (upv (upv (upv v 22 (v 4 0) s) 23 (v 4 0) g) 24 (v 4 0) d) 4 0 (v 4 0 + 1)
theorem hV_fr {v : Vw} {s g d : Int} {k : Nat} (h : k ≠ 4 ∧ k ≠ 22 ∧ k ≠ 23 ∧ k ≠ 24) : hV v s g d k = v k := by
  funext i
  unfold hV
  rw [upv_nk h.1, upv_nk h.2.2.2, upv_nk h.2.2.1, upv_nk h.2.1]
theorem SY.harv {c : Cs} {v : Vw} {s g d : Int} (h : SY c v) (h7 : 0 ≤ c.1 7) (h4 : 0 ≤ v 4 0) (h25 : v 25 (v 4 0) = 0) (hs : 0 ≤ s ∧ s < 4) : SY (hC c s g d) (hV v s g d) := by
  have l0 : ∀ j, ¬ j = 13 + s → (hC c s g d).2.2.1 j = c.2.2.1 j := fun j hj => clst_ne (g_X4_init (c.1 7) g d (cnew c 7)) hj
  have ls : (hC c s g d).2.2.1 (13 + s) = c.2.2.1 (13 + s) ++ [c.1 7] := clst_eq (g_X4_init (c.1 7) g d (cnew c 7)) (13 + s) _
  have f7 : ∀ k p, p ≠ c.1 7 → (hC c s g d).2.1 7 k p = c.2.1 7 k p := fun k p hp => by simp [hC, clst, g_X4_init, cput, cnew, hp]
  have n7 : (hC c s g d).2.1 7 0 (c.1 7) = g ∧ (hC c s g d).2.1 7 1 (c.1 7) = d := by simp [hC, clst, g_X4_init, cput]
  have e4 : hV v s g d 4 0 = v 4 0 + 1 := upv_eq _ _ _ _
  have ev : hV v s g d 22 (v 4 0) = s ∧ hV v s g d 23 (v 4 0) = g ∧ hV v s g d 24 (v 4 0) = d ∧ hV v s g d 25 (v 4 0) = 0 := by
    refine ⟨by simp [hV, upv], by simp [hV, upv], by simp [hV, upv], ?_⟩
    rw [hV_fr (by decide)]
    exact h25
  have eo : ∀ p, p ≠ v 4 0 → hV v s g d 22 p = v 22 p ∧ hV v s g d 23 p = v 23 p ∧ hV v s g d 24 p = v 24 p := fun p hp => by simp [hV, upv, hp]
  refine ⟨(l0 0 (by omega)).trans h.1, fun t t0 t4 => ?_⟩
  obtain ⟨y1, y2, y3⟩ := h.2 t t0 t4
  have y2' : ∀ p ∈ c.2.2.1 (13 + t), 0 ≤ p ∧ p < (hC c s g d).1 7 := fun p hp => by
    have := y2 p hp
    show 0 ≤ p ∧ p < c.1 7 + 1
    omega
  have m1 : (c.2.2.1 (13 + t)).map (fun p => ((hC c s g d).2.1 7 0 p, (hC c s g d).2.1 7 1 p)) = pts v t := by
    refine Eq.trans (List.map_congr_left (fun p hp => ?_)) y3
    have := y2 p hp
    rw [f7 0 p (by omega), f7 1 p (by omega)]
  have p1 : pts (hV v s g d) t = pts v t ++ (if t = s then [(g, d)] else []) := by
    unfold pts
    rw [e4, rng_succ h4, List.filter_append, List.map_append]
    congr 1
    · have e1 : (rng (v 4 0)).filter (fun p => decide (hV v s g d 25 p = 0 ∧ hV v s g d 22 p = t)) = (rng (v 4 0)).filter (fun p => decide (v 25 p = 0 ∧ v 22 p = t)) := filt_congr (fun p p0 p1 => by
        rw [(eo p (by omega)).1, hV_fr (by decide)])
      rw [e1]
      refine List.map_congr_left (fun p hp => ?_)
      have := rng_mem.mp (List.mem_filter.mp hp).1
      rw [(eo p (by omega)).2.1, (eo p (by omega)).2.2]
    · by_cases e : t = s
      · subst e
        rw [if_pos rfl, List.filter_cons_of_pos (by rw [ev.2.2.2, ev.1]; simp)]
        show [(hV v t g d 23 (v 4 0), hV v t g d 24 (v 4 0))] = _
        rw [ev.2.1, ev.2.2.1]
      · rw [if_neg e, List.filter_cons_of_neg (by rw [ev.1]; simp; omega)]
        rfl
  refine ⟨?_, ?_⟩
  · rw [hV_fr (by decide)]
    exact y1
  · rw [p1]
    by_cases e : t = s
    · subst e
      rw [ls, if_pos rfl, List.map_append, m1]
      refine ⟨fun p hp => ?_, ?_⟩
      · rcases List.mem_append.mp hp with q | q
        · exact y2' p q
        · rw [List.mem_singleton.mp q]
          show 0 ≤ c.1 7 ∧ c.1 7 < c.1 7 + 1
          omega
      · show _ ++ [((hC c t g d).2.1 7 0 (c.1 7), (hC c t g d).2.1 7 1 (c.1 7))] = _
        rw [n7.1, n7.2]
    · rw [l0 _ (by omega), if_neg e, List.append_nil]
      exact ⟨y2', m1⟩
theorem fu3 : fu = 997 + 3 := rfl
theorem harv_eq {c : Cs} {s g d : Int} (hg : ¬ 4 < g) : g_X9_harvest s g d c = hC (hC c s g d) s g d := by
  unfold g_X9_harvest
  rw [if_neg hg, fu3]
  show l_X9_harvest_7 s g d (997 + 2 + 1) 0 c = _
  rw [l_X9_harvest_7, if_neg (by decide)]
  show l_X9_harvest_7 s g d (997 + 1 + 1) (0 + 1) (hC c s g d) = _
  rw [l_X9_harvest_7, if_neg (by decide)]
  show l_X9_harvest_7 s g d (997 + 1) (0 + 1 + 1) (hC (hC c s g d) s g d) = _
  rw [l_X9_harvest_7, if_pos (by decide)]
theorem harv_ok {c : Cs} {s g d : Int} (hg : R32 g) (hl : ((c.2.2.1 (13 + s)).length : Int) ≤ 190) : ok_X9_harvest s g d c := by
  unfold ok_X9_harvest
  refine ⟨hg, ?_⟩
  by_cases c4 : 4 < g
  · rw [if_pos c4]
    exact trivial
  · have e1 : (hC c s g d).2.2.1 (13 + s) = c.2.2.1 (13 + s) ++ [c.1 7] := clst_eq (g_X4_init (c.1 7) g d (cnew c 7)) (13 + s) _
    rw [if_neg c4, fu3]
    show okl_X9_harvest_7 s g d (997 + 2 + 1) 0 c
    rw [okl_X9_harvest_7, if_neg (by decide)]
    refine ⟨⟨by decide, by decide⟩, ?_, ?_⟩
    · show ((c.2.2.1 (13 + s)).length : Int) ≤ 199
      omega
    show okl_X9_harvest_7 s g d (997 + 1 + 1) (0 + 1) (hC c s g d)
    rw [okl_X9_harvest_7, if_neg (by decide)]
    refine ⟨⟨by decide, by decide⟩, ?_, ?_⟩
    · show (((hC c s g d).2.2.1 (13 + s)).length : Int) ≤ 199
      rw [e1, List.length_append]
      show (((c.2.2.1 (13 + s)).length + 1 : Nat) : Int) ≤ 199
      omega
    show okl_X9_harvest_7 s g d (997 + 1) (0 + 1 + 1) (hC (hC c s g d) s g d)
    rw [okl_X9_harvest_7, if_pos (by decide)]
    exact ⟨⟨by decide, by decide⟩, trivial⟩
theorem goes75 {b : Int} {v : Vw} : l_goesOn_75 b (((2 : Int) - 0).toNat + 1) 0 v = if 4 ≤ v 27 b then v else hV (hV v (v 12 (v 26 b)) (v 27 b + 1) (v 8 0)) (v 12 (v 26 b)) (v 27 b + 1) (v 8 0) := by
  show l_goesOn_75 b (2 + 1) 0 v = _
  rw [l_goesOn_75, if_neg (by decide)]
  by_cases c : 4 ≤ v 27 b
  · rw [if_pos c, if_pos c]
  · rw [if_neg c, if_neg c]
    show l_goesOn_75 b (1 + 1) (0 + 1) (hV v (v 12 (v 26 b)) (v 27 b + 1) (v 8 0)) = _
    rw [l_goesOn_75, if_neg (by decide), hV_fr (k := 27) (by decide), if_neg c, hV_fr (k := 12) (by decide), hV_fr (k := 26) (by decide), hV_fr (k := 8) (by decide)]
    show l_goesOn_75 b (0 + 1) (0 + 1 + 1) (hV (hV v (v 12 (v 26 b)) (v 27 b + 1) (v 8 0)) (v 12 (v 26 b)) (v 27 b + 1) (v 8 0)) = _
    rw [l_goesOn_75, if_pos (by decide)]
