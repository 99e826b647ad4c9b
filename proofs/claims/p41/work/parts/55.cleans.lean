/-! a day passes: cleaning begins -/
theorem c48 {v : Vw} : ∀ (n : Nat) (first w : Int), 0 ≤ w → (v 2 0 - w).toNat < n → (first = -1 ∨ (0 ≤ first ∧ first < v 2 0 ∧ v 15 first = 2)) →
    (l_cleans_48 v n first w = -1 ∧ first = -1 ∧ ∀ x, w ≤ x → x < v 2 0 → v 15 x ≠ 2) ∨ ((0 ≤ l_cleans_48 v n first w ∧ l_cleans_48 v n first w < v 2 0 ∧ v 15 (l_cleans_48 v n first w) = 2) ∧ (first ≠ -1 → v 18 (l_cleans_48 v n first w) ≤ v 18 first) ∧ ∀ x, w ≤ x → x < v 2 0 → v 15 x = 2 → v 18 (l_cleans_48 v n first w) ≤ v 18 x) := by
  intro n
  induction n with
  | zero => exact fun _ _ _ h => absurd h (Nat.not_lt_zero _)
  | succ n ih =>
    intro first w h0 hm hf
    rw [l_cleans_48]
    by_cases c1 : v 2 0 ≤ w
    · rw [if_pos c1]
      rcases hf with hf | hf
      · exact Or.inl ⟨hf, hf, fun x x0 x1 => by omega⟩
      · exact Or.inr ⟨hf, fun _ => Int.le_refl _, fun x x0 x1 => by omega⟩
    · rw [if_neg c1]
      by_cases c2 : v 15 w = 2
      · rw [if_pos c2]
        have key : ∀ f', (f' = w ∨ (f' = first ∧ first ≠ -1 ∧ v 18 first ≤ v 18 w)) → (f' = w → first ≠ -1 → v 18 w ≤ v 18 first) → (l_cleans_48 v n f' (w + 1) = -1 ∧ first = -1 ∧ ∀ x, w ≤ x → x < v 2 0 → v 15 x ≠ 2) ∨ ((0 ≤ l_cleans_48 v n f' (w + 1) ∧ l_cleans_48 v n f' (w + 1) < v 2 0 ∧ v 15 (l_cleans_48 v n f' (w + 1)) = 2) ∧ (first ≠ -1 → v 18 (l_cleans_48 v n f' (w + 1)) ≤ v 18 first) ∧ ∀ x, w ≤ x → x < v 2 0 → v 15 x = 2 → v 18 (l_cleans_48 v n f' (w + 1)) ≤ v 18 x) := fun f' h1 h2 => by
          have hf' : 0 ≤ f' ∧ f' < v 2 0 ∧ v 15 f' = 2 := by
            rcases h1 with rfl | ⟨rfl, h3, _⟩
            · exact ⟨h0, by omega, c2⟩
            · exact hf.resolve_left h3
          rcases ih f' (w + 1) (by omega) (by omega) (Or.inr hf') with ⟨_, g2, _⟩ | ⟨g1, g2, g3⟩
          · omega
          · have g2' := g2 (by omega)
            refine Or.inr ⟨g1, fun hn => ?_, fun x x0 x1 hx => ?_⟩
            · rcases h1 with rfl | ⟨rfl, _, _⟩
              · exact Int.le_trans g2' (h2 rfl hn)
              · exact g2'
            · by_cases e : x = w
              · subst e
                rcases h1 with rfl | ⟨rfl, _, h4⟩
                · exact g2'
                · exact Int.le_trans g2' h4
              · exact g3 x (by omega) x1 hx
        by_cases c3 : first = -1
        · rw [if_pos c3]
          exact key w (Or.inl rfl) (fun _ hn => absurd c3 hn)
        · rw [if_neg c3]
          by_cases c4 : v 18 first ≤ v 18 w
          · rw [if_pos c4]
            exact key first (Or.inr ⟨rfl, c3, c4⟩) (fun e _ => by rw [← e]; exact Int.le_refl _)
          · rw [if_neg c4]
            exact key w (Or.inl rfl) (fun _ _ => by omega)
      · rw [if_neg c2]
        rcases ih first (w + 1) (by omega) (by omega) hf with ⟨g1, g2, g3⟩ | ⟨g1, g2, g3⟩
        · refine Or.inl ⟨g1, g2, fun x x0 x1 => ?_⟩
          by_cases e : x = w
          · rw [e]
            exact c2
          · exact g3 x (by omega) x1
        · refine Or.inr ⟨g1, g2, fun x x0 x1 hx => ?_⟩
          by_cases e : x = w
          · rw [e] at hx
            exact absurd hx c2
          · exact g3 x (by omega) x1 hx
theorem c48_head {c : Cs} {v : Vw} {T E : Int} (h : SD c v) (hI : IM v T E) : (c.2.2.1 8 = [] ∧ l_cleans_48 v (((v 2 0) - 0).toNat + 1) (-1) 0 = -1) ∨ (∃ w ds, c.2.2.1 8 = w :: ds ∧ l_cleans_48 v (((v 2 0) - 0).toNat + 1) (-1) 0 = w ∧ (0 ≤ w ∧ w < v 2 0 ∧ v 15 w = 2)) := by
  obtain ⟨d1, d2, d3⟩ := h
  have g := c48 (v := v) (((v 2 0) - 0).toNat + 1) (-1) 0 (by omega) (by omega) (Or.inl rfl)
  cases hD : c.2.2.1 8 with
  | nil =>
    refine Or.inl ⟨rfl, ?_⟩
    rcases g with ⟨g1, _⟩ | ⟨g1, _⟩
    · exact g1
    · have := (d1 _).mpr g1
      rw [hD] at this
      cases this
  | cons w ds =>
    have hw := (d1 w).mp (by rw [hD]; exact List.mem_cons_self)
    refine Or.inr ⟨w, ds, rfl, ?_, hw⟩
    rcases g with ⟨_, _, g3⟩ | ⟨g1, _, g3⟩
    · exact absurd hw.2.2 (g3 w hw.1 hw.2.1)
    · have hr := (d1 _).mpr g1
      have hle := g3 w hw.1 hw.2.1 hw.2.2
      rw [hD] at hr d3
      rw [List.pairwise_cons] at d3
      rcases List.mem_cons.mp hr with e | e
      · exact e
      · have := d3.1 _ e
        omega
def cC (c : Cs) (w k : Int) (ds : List Int) : Cs := cput (cput (clst c 8 ds) 11 2 w 103) 11 3 w k
theorem INV.begins {c : Cs} {v : Vw} {w k : Int} {ds : List Int} (hN : INV c v) (hD : c.2.2.1 8 = w :: ds) (hw : 0 ≤ w ∧ w < v 2 0 ∧ v 15 w = 2) (hk : 1 ≤ k) : INV (cC c w k ds) (upv (upv v 15 w 3) 17 w k) := by
  obtain ⟨⟨s0, s1, s2, s3, s4, s5, s6, s7, s8, s9, s10⟩, hB, hC, hJ⟩ := hN
  have e15 : upv (upv v 15 w 3) 17 w k 15 w = 3 := (upv_nk (by decide)).trans (upv_eq _ _ _ _)
  have e15' : ∀ x, x ≠ w → upv (upv v 15 w 3) 17 w k 15 x = v 15 x := fun x hx => (upv_ni hx).trans (upv_ni hx)
  have e17 : upv (upv v 15 w 3) 17 w k 17 w = k := upv_eq _ _ _ _
  have e17' : ∀ x, x ≠ w → upv (upv v 15 w 3) 17 w k 17 x = v 17 x := fun x hx => (upv_ni hx).trans (upv_ni hx)
  refine ⟨⟨s0, s1, ?_, s3, s4.fr rfl (fun s _ _ => clst_ne c (by omega)) rfl rfl (Int.le_refl _) rfl rfl rfl rfl rfl rfl, s5, s6.fr rfl (fun o _ _ => clst_ne c (by omega)) rfl rfl (Int.le_refl _) rfl rfl rfl rfl rfl rfl rfl, s7.fr rfl rfl rfl, s8, ?_, s10⟩, ?_, CI_fr (v := v) (fun j hj i => (upv_nk (by omega)).trans (upv_nk (by omega))) hC, ?_⟩
  · refine s2.one (w := w) rfl (fun j x hx => (cput_i _ hx).trans (cput_i _ hx)) rfl (fun j hj x hx => (upv_ni hx).trans (upv_ni hx)) (fun _ _ => ?_)
    obtain ⟨q0, q1, q2, q3, q4, q5⟩ := s2.2 w hw.1 hw.2.1
    rw [e15, e17]
    rw [hw.2.2] at q5
    exact ⟨q0, q1, (cput_k _ (by decide)).trans (cput_eq _ _ _ _ _), fun _ => cput_eq _ _ _ _ _, q4, q5⟩
  · obtain ⟨d1, d2, d3⟩ := s9
    rw [hD, List.pairwise_cons] at d3
    have l8 : (cC c w k ds).2.2.1 8 = ds := clst_eq c 8 ds
    have hne : ∀ x ∈ ds, x ≠ w := fun x hx e => by
      have := d3.1 x hx
      rw [e] at this
      omega
    unfold SD
    rw [l8]
    refine ⟨fun x => ?_, fun x hx => d2 x (by rw [hD]; exact List.mem_cons_of_mem _ hx), d3.2⟩
    have g := d1 x
    rw [hD, List.mem_cons] at g
    by_cases e : x = w
    · subst e
      rw [e15]
      exact ⟨fun q => absurd rfl (hne x q), fun q => absurd q.2.2 (by decide)⟩
    · rw [e15' x e]
      show x ∈ ds ↔ 0 ≤ x ∧ x < v 2 0 ∧ v 15 x = 2
      rw [← g]
      exact ⟨fun q => Or.inr q, fun q => q.resolve_left e⟩
  · refine hB.st rfl rfl rfl rfl rfl rfl rfl rfl rfl rfl rfl rfl rfl rfl rfl (fun x => ?_) hB.2.2.1.2 (fun b _ _ => ⟨Iff.rfl, Or.inl ⟨rfl, rfl⟩⟩)
    by_cases e : x = w
    · subst e
      rw [e15, hw.2.2]
      exact Or.inr ⟨by decide, by decide, hw.2.1⟩
    · exact Or.inl (e15' x e)
  · obtain ⟨j1, j2, j3, j4⟩ := hJ
    refine ⟨j1, j2, j3, fun x hx => ?_⟩
    by_cases e : x = w
    · rw [e, e17]
      exact hk
    · rw [e17' x e]
      rw [e15' x e] at hx
      exact j4 x hx
theorem eb_nil : eb [] = 1 := rfl
theorem eb_cons {x : Int} {xs : List Int} : eb (x :: xs) = 0 := rfl
theorem begin_lock {T E : Int} : ∀ (n m : Nat) (x : Int) (c : Cs) (v : Vw), INV c v → IM v T E → 0 ≤ x → x ≤ 100 → (v 3 0 - x).toNat < n → (v 3 0 - x).toNat < m → okl_X10_beginCleaning_54 n x c ∧ INV (l_X10_beginCleaning_54 n x c) (l_cleans_36 m x v) := by
  intro n
  induction n with
  | zero => exact fun _ _ _ _ _ _ _ _ h => absurd h (Nat.not_lt_zero _)
  | succ n ih =>
    intro m x c v hN hI h0 h1 hn hm
    cases m with
    | zero => exact absurd hm (Nat.not_lt_zero _)
    | succ m =>
      have u3 : 0 ≤ v 3 0 ∧ v 3 0 ≤ 3 := hI.2 3 0
      have e3 : c.2.1 13 10 0 = v 3 0 := hN.1.c0.2.2.1
      rw [okl_X10_beginCleaning_54, l_X10_beginCleaning_54, l_cleans_36, e3]
      by_cases c1 : v 3 0 ≤ x
      · rw [if_pos c1, if_pos c1, if_pos c1]
        exact ⟨⟨⟨by omega, by omega⟩, ⟨by omega, by omega⟩, trivial⟩, hN⟩
      · rw [if_neg c1, if_neg c1, if_neg c1]
        rcases c48_head hN.1.cd hI with ⟨d0, d1⟩ | ⟨w, ds, d0, d1, d2⟩
        · rw [d0, d1, eb_nil, if_neg ne10, if_neg ne10, if_pos rfl]
          exact ⟨⟨⟨by omega, by omega⟩, ⟨by omega, by omega⟩, trivial⟩, hN⟩
        · obtain ⟨q0, q1, q2, q3, q4, q5⟩ := hN.1.cv.2 w d2.1 d2.2.1
          have r1 := kdc_r (v 20 w)
          have eg : lget (w :: ds) 0 = w := rfl
          have er : remL (w :: ds) (0 : Int).toNat = ds := rfl
          rw [d0, d1, eb_cons, if_pos rfl, if_pos rfl, if_neg (show ¬ w = -1 by omega), eg, er, q1]
          have hlen : (0 : Int) ≤ 0 ∧ (0 : Int) < (((w :: ds).length : Nat) : Int) := ⟨Int.le_refl 0, by simp only [List.length_cons]; omega⟩
          have step : ∀ k, 1 ≤ k → k ≤ 2 → okl_X10_beginCleaning_54 n (x + 1) (cC c w k ds) ∧ INV (l_X10_beginCleaning_54 n (x + 1) (cC c w k ds)) (l_cleans_36 m (x + 1) (upv (upv v 15 w 3) 17 w k)) := fun k k1 k2 =>
            ih m (x + 1) _ _ (hN.begins d0 d2 k1) ((hI.up 15 w 3 (by show (0 : Int) ≤ 3 ∧ (3 : Int) ≤ 3; omega)).up 17 w k (by show (0 : Int) ≤ k ∧ k ≤ 2; omega)) (by omega) (by omega) (show (v 3 0 - (x + 1)).toNat < n by omega) (show (v 3 0 - (x + 1)).toNat < m by omega)
          by_cases c2 : v 20 w = 0
          · rw [if_pos (kdc_0.mpr c2), if_pos (kdc_0.mpr c2), if_pos c2]
            obtain ⟨j1, j2⟩ := step 2 (by decide) (by decide)
            exact ⟨⟨⟨by omega, by omega⟩, ⟨by omega, by omega⟩, hlen, ⟨by omega, by omega⟩, j1⟩, j2⟩
          · rw [if_neg (fun g => c2 (kdc_0.mp g)), if_neg (fun g => c2 (kdc_0.mp g)), if_neg c2]
            obtain ⟨j1, j2⟩ := step 1 (by decide) (by decide)
            exact ⟨⟨⟨by omega, by omega⟩, ⟨by omega, by omega⟩, hlen, ⟨by omega, by omega⟩, j1⟩, j2⟩
theorem busy_lock {c : Cs} {v : Vw} {T E : Int} (hS : Sm c v) (hI : IM v T E) : ∀ (n m : Nat) (u i : Int), 0 ≤ i → i ≤ v 2 0 → (v 2 0 - i).toNat < n → (v 2 0 - i).toNat < m → okl_X10_beginCleaning_4 c n u i ∧ l_X10_beginCleaning_4 c n u i = l_cleans_4 v m u i := by
  have hl := hS.l2 hI
  have u2 : 0 ≤ v 2 0 ∧ v 2 0 ≤ 8 := hI.2 2 0
  intro n
  induction n with
  | zero => exact fun _ _ _ _ _ h => absurd h (Nat.not_lt_zero _)
  | succ n ih =>
    intro m u i h0 h1 hn hm
    cases m with
    | zero => exact absurd hm (Nat.not_lt_zero _)
    | succ m =>
      rw [okl_X10_beginCleaning_4, l_X10_beginCleaning_4, l_cleans_4, hl]
      by_cases c1 : v 2 0 ≤ i
      · rw [if_pos c1, if_pos c1, if_pos c1]
        exact ⟨⟨⟨by omega, by omega⟩, trivial⟩, rfl⟩
      · obtain ⟨q0, q1, q2, q3, q4, q5⟩ := hS.cv.2 i h0 (by omega)
        have r2 := cdc_r (v 15 i)
        have u15 : 0 ≤ v 15 i ∧ v 15 i ≤ 3 := hI.2 15 i
        rw [if_neg c1, if_neg c1, if_neg c1, hS.e2 h0 (by omega), q2]
        by_cases c2 : v 15 i = 3
        · rw [if_pos ((cdc_3 u15).mpr c2), if_pos ((cdc_3 u15).mpr c2), if_pos c2]
          obtain ⟨j1, j2⟩ := ih m (u + 1) (i + 1) (by omega) (by omega) (by omega) (by omega)
          exact ⟨⟨⟨by omega, by omega⟩, ⟨h0, by omega⟩, ⟨by omega, by omega⟩, j1⟩, j2⟩
        · rw [if_neg (fun h => c2 ((cdc_3 u15).mp h)), if_neg (fun h => c2 ((cdc_3 u15).mp h)), if_neg c2]
          obtain ⟨j1, j2⟩ := ih m (u + 0) (i + 1) (by omega) (by omega) (by omega) (by omega)
          exact ⟨⟨⟨by omega, by omega⟩, ⟨h0, by omega⟩, ⟨by omega, by omega⟩, j1⟩, j2⟩
theorem begin_ok {c : Cs} {v : Vw} {T E : Int} (hN : INV c v) (hI : IM v T E) : ok_X10_beginCleaning c ∧ INV (g_X10_beginCleaning c) (f_cleans v) := by
  have u2 : 0 ≤ v 2 0 ∧ v 2 0 ≤ 8 := hI.2 2 0
  have u3 : 0 ≤ v 3 0 ∧ v 3 0 ≤ 3 := hI.2 3 0
  obtain ⟨j1, j2⟩ := busy_lock hN.1 hI fu ((v 2 0 - 0).toNat + 1) 0 0 (by omega) u2.1 (fuw (by omega)) (by omega)
  have r := r_l_cleans_4 (v := v) ((v 2 0 - 0).toNat + 1) 0 0 (by omega)
  unfold ok_X10_beginCleaning g_X10_beginCleaning f_cleans
  rw [j2]
  obtain ⟨k1, k2⟩ := begin_lock fu ((v 3 0 - l_cleans_4 v ((v 2 0 - 0).toNat + 1) 0 0).toNat + 1) (l_cleans_4 v ((v 2 0 - 0).toNat + 1) 0 0) c v hN hI r.1 (by omega) (fuw (by omega)) (by omega)
  exact ⟨⟨j1, k1⟩, k2⟩
