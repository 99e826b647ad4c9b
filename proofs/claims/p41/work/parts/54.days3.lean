/-! a day passes: brews move on, cleaning begins -/
theorem SD.dirty {c c' : Cs} {v v' : Vw} {w : Int} (h : SD c v) (hw : 0 ≤ w ∧ w < v 2 0) (h1 : v 15 w ≠ 2) (l : c'.2.2.1 8 = c.2.2.1 8 ++ [w]) (f2 : v' 2 = v 2) (e15 : v' 15 w = 2) (f15 : ∀ x, x ≠ w → (v' 15 x = 2 ↔ v 15 x = 2)) (e18 : v' 18 w = v 10 0) (f18 : ∀ x, x ≠ w → v' 18 x = v 18 x) (f10 : v' 10 0 = v 10 0 + 1) : SD c' v' := by
  obtain ⟨d1, d2, d3⟩ := h
  have hne : ∀ x ∈ c.2.2.1 8, x ≠ w := fun x hx e => h1 (by rw [← e]; exact ((d1 x).mp hx).2.2)
  refine ⟨fun x => ?_, fun x hx => ?_, ?_⟩
  · rw [l, List.mem_append, List.mem_singleton, d1 x, f2]
    by_cases e : x = w
    · subst e
      exact ⟨fun _ => ⟨hw.1, hw.2, e15⟩, fun _ => Or.inr rfl⟩
    · rw [f15 x e]
      exact ⟨fun q => q.elim id (fun q => absurd q e), fun q => Or.inl q⟩
  · rw [l] at hx
    rw [f10]
    rcases List.mem_append.mp hx with q | q
    · rw [f18 x (hne x q)]
      have := d2 x q
      omega
    · rw [List.mem_singleton.mp q, e18]
      omega
  · rw [l, List.pairwise_append]
    refine ⟨List.Pairwise.imp_of_mem (fun ha hb hab => ?_) d3, List.pairwise_singleton _ _, fun a ha b hb => ?_⟩
    · rw [f18 _ (hne _ ha), f18 _ (hne _ hb)]
      exact hab
    · rw [List.mem_singleton.mp hb, e18, f18 a (hne a ha)]
      exact d2 a ha
/-- at most eight vessels are dirty -/
theorem nodup_len : ∀ (L : List Int) (n : Nat), L.Pairwise (fun a b => a ≠ b) → (∀ x ∈ L, 0 ≤ x ∧ x < (n : Int)) → L.length ≤ n := by
  intro L n
  induction n generalizing L with
  | zero =>
    intro _ h
    cases L with
    | nil => exact Nat.le_refl 0
    | cons x xs => have := h x List.mem_cons_self; omega
  | succ n ih =>
    intro hp h
    have h1 := ih (L.filter (fun x => decide (x ≠ (n : Int)))) (hp.filter _) (fun x hx => by
      obtain ⟨q1, q2⟩ := List.mem_filter.mp hx
      have := h x q1
      have := of_decide_eq_true q2
      omega)
    have h2 : L.length ≤ (L.filter (fun x => decide (x ≠ (n : Int)))).length + 1 := by
      clear ih h h1
      induction L with
      | nil => simp
      | cons x xs ihx =>
        rw [List.pairwise_cons] at hp
        by_cases e : x = (n : Int)
        · rw [List.filter_cons_of_neg (by simp [e])]
          have : xs.filter (fun x => decide (x ≠ (n : Int))) = xs := List.filter_eq_self.mpr (fun z hz => decide_eq_true (fun q => hp.1 z hz (e.trans q.symm)))
          rw [this]
          exact Nat.le_refl _
        · rw [List.filter_cons_of_pos (by simp [e])]
          have := ihx hp.2
          simp only [List.length_cons]
          omega
    omega
theorem dirty_len {c : Cs} {v : Vw} {T E : Int} (h : SD c v) (hI : IM v T E) : (c.2.2.1 8).length ≤ 8 := by
  have u2 : 0 ≤ v 2 0 ∧ v 2 0 ≤ 8 := hI.2 2 0
  refine nodup_len _ 8 (h.2.2.imp (fun hab e => by rw [e] at hab; omega)) (fun x hx => ?_)
  have := (h.1 x).mp hx
  omega
theorem leave_eq {c : Cs} {b w : Int} (h : c.2.1 3 6 b = w) (hw : 0 ≤ w) : g_X10_leaveVessel b c = clst (cput (cput (cput c 3 6 b (-1)) 11 5 w (-1)) 11 2 w 100) 8 (c.2.2.1 8 ++ [w]) := by
  unfold g_X10_leaveVessel
  rw [h, if_neg (show ¬ w = -1 by omega)]
theorem leave_ok {c : Cs} {b : Int} (h : (c.2.2.1 8).length ≤ 9) : ok_X10_leaveVessel b c := by
  unfold ok_X10_leaveVessel
  split
  · exact trivial
  · exact ⟨by omega, trivial⟩
def mvC (b : Int) (c : Cs) : Cs := if (c.2.1 3 3 b) = 119 then (if (g_X10_firstClean 116 c) = -1 then c else g_X0_mature b (g_X8_takeIn (g_X10_firstClean 116 c) b (g_X10_leaveVessel b c))) else c
def okmv (b : Int) (c : Cs) : Prop := R32 (c.2.1 3 3 b) ∧ ((c.2.1 3 3 b) = 119 → ok_X10_firstClean 116 c ∧ (¬ (g_X10_firstClean 116 c) = -1 → ok_X10_leaveVessel b c ∧ ok_X0_mature b (g_X8_takeIn (g_X10_firstClean 116 c) b (g_X10_leaveVessel b c))))
/-- the class's state when a brew has moved from w to t, for m days -/
def mC0 (c : Cs) (b w t : Int) : Cs := g_X8_takeIn t b (clst (cput (cput (cput c 3 6 b (-1)) 11 5 w (-1)) 11 2 w 100) 8 (c.2.2.1 8 ++ [w]))
def mC (c : Cs) (b w t m : Int) : Cs := if m = 0 then g_X0_becomeReady b (cput (cput (mC0 c b w t) 3 3 b 109) 3 4 b m) else cput (cput (mC0 c b w t) 3 3 b 109) 3 4 b m
def mV (v : Vw) (b w t m s : Int) : Vw := upv (upv (upv (upv (upv (upv (f_dirties w v) 29 b t) 15 t 1) 16 t b) 30 b m) 28 b s) 31 b 20
theorem INV.moves {c : Cs} {v : Vw} {T E b : Int} (hN : INV c v) (hI : IM v T E) (h0 : 0 ≤ b) (h5 : b < v 5 0) : okmv b c ∧ INV (mvC b c) (f_movesOn b v) := by
  have u5 : 0 ≤ v 5 0 ∧ v 5 0 ≤ 30 := hI.2 5 0
  have hCI := CI_movesOn (b := b) ⟨h0, by omega⟩ h5 hN.2.2.1
  have hCJ := CJ_movesOn (b := b) (fun i => (hI.2 14 i).1) hN.2.2.2
  obtain ⟨q0, q1, q2, q3, q4, q5, q6⟩ := hN.1.cb.2 b h0 h5
  have r3 := phc_r (v 28 b)
  obtain ⟨k1, k2, k3⟩ := clean_eq (k := 116) (t := 1) hN.1 hI (Or.inr ⟨rfl, rfl⟩)
  have d8 := dirty_len hN.1.cd hI
  unfold okmv mvC
  rw [q3]
  by_cases c1 : v 28 b = 1
  · rw [if_pos (phc_1.mpr c1)]
    by_cases c2 : f_clean 1 v = -1
    · have e3 : f_movesOn b v = v := by
        unfold f_movesOn
        rw [if_pos c1, if_pos c2]
      rw [if_pos (k2.trans c2), e3]
      exact ⟨⟨⟨by omega, by omega⟩, fun _ => ⟨k1, fun q => absurd (k2.trans c2) q⟩⟩, hN⟩
    · have k3' := k3.resolve_left c2
      rw [if_neg (show ¬ g_X10_firstClean 116 c = -1 by omega)]
      obtain ⟨t, ht⟩ : ∃ t, t = f_clean 1 v := ⟨_, rfl⟩
      rw [k2, ← ht]
      rw [← ht] at c2 k3'
      obtain ⟨⟨t0, t2⟩, t20, t15⟩ := k3'
      obtain ⟨⟨s0, s1, s2, s3, s4, s5, s6, s7, s8, s9, s10⟩, hB, hC0, hJ⟩ := hN
      have hb := hB.1 b h0 h5
      obtain ⟨⟨w0, w2⟩, w15, w16⟩ := hb.2 (by omega)
      have u26 := hb.1
      have y4 := (s1.2 (v 26 b) u26.1 u26.2).2.2.2.2
      have u14 : 0 ≤ v 14 (v 26 b) ∧ v 14 (v 26 b) ≤ 14 := hI.2 14 (v 26 b)
      rw [c1, if_neg (show ¬ (1 : Int) = 4 by decide)] at q6
      have htw : t ≠ v 29 b := fun e => by rw [e, w15] at t15; omega
      have el := leave_eq q6 w0
      have em : ok_X0_mature b (g_X8_takeIn t b (g_X10_leaveVessel b c)) ∧ g_X0_mature b (g_X8_takeIn t b (g_X10_leaveVessel b c)) = mC c b (v 29 b) t (v 14 (v 26 b)) := by
        rw [el]
        have f1 : (mC0 c b (v 29 b) t).2.1 3 1 b = v 26 b := q1
        have f2 : (mC0 c b (v 29 b) t).2.1 9 4 (v 26 b) = v 14 (v 26 b) := y4
        unfold ok_X0_mature g_X0_mature mC
        show ((mC0 c b (v 29 b) t).2.1 3 1 b ≠ -1 ∧ (R32 ((mC0 c b (v 29 b) t).2.1 9 4 ((mC0 c b (v 29 b) t).2.1 3 1 b)) ∧ True)) ∧ (if (mC0 c b (v 29 b) t).2.1 9 4 ((mC0 c b (v 29 b) t).2.1 3 1 b) = 0 then g_X0_becomeReady b (cput (cput (mC0 c b (v 29 b) t) 3 3 b 109) 3 4 b ((mC0 c b (v 29 b) t).2.1 9 4 ((mC0 c b (v 29 b) t).2.1 3 1 b))) else cput (cput (mC0 c b (v 29 b) t) 3 3 b 109) 3 4 b ((mC0 c b (v 29 b) t).2.1 9 4 ((mC0 c b (v 29 b) t).2.1 3 1 b))) = _
        rw [f1, f2]
        exact ⟨⟨by omega, ⟨by omega, by omega⟩, trivial⟩, rfl⟩
      have e3 : f_movesOn b v = mV v b (v 29 b) t (v 14 (v 26 b)) (if v 14 (v 26 b) = 0 then 3 else 2) := by
        unfold f_movesOn mV
        rw [if_pos c1, ← ht, if_neg c2]
        by_cases cm : v 14 (v 26 b) = 0
        · rw [if_pos cm, if_pos cm]
        · rw [if_neg cm, if_neg cm]
      rw [e3] at hCI hCJ ⊢
      have okk : R32 (phc (v 28 b)) ∧ (phc (v 28 b) = 119 → ok_X10_firstClean 116 c ∧ (¬ t = -1 → ok_X10_leaveVessel b c ∧ ok_X0_mature b (g_X8_takeIn t b (g_X10_leaveVessel b c)))) := ⟨⟨by omega, by omega⟩, fun _ => ⟨k1, fun _ => ⟨leave_ok (by omega), em.1⟩⟩⟩
      refine ⟨okk, ?_⟩
      rw [em.2]
      generalize v 14 (v 26 b) = m at hCI hCJ u14
      have em3 : ∀ k x, x ≠ b → (mC c b (v 29 b) t m).2.1 3 k x = c.2.1 3 k x := fun k x hx => by
        unfold mC
        split <;> simp [mC0, g_X0_becomeReady, g_X8_takeIn, cput, clst, hx]
      have en3 : (mC c b (v 29 b) t m).2.1 3 0 b = b ∧ (mC c b (v 29 b) t m).2.1 3 1 b = v 26 b ∧ (mC c b (v 29 b) t m).2.1 3 2 b = v 27 b ∧ (mC c b (v 29 b) t m).2.1 3 3 b = (if m = 0 then 114 else 109) ∧ (¬ m = 0 → (mC c b (v 29 b) t m).2.1 3 4 b = m) ∧ (m = 0 → (mC c b (v 29 b) t m).2.1 3 5 b = 20) ∧ (mC c b (v 29 b) t m).2.1 3 6 b = t := by
        unfold mC
        by_cases cm : m = 0
        · rw [if_pos cm, if_pos cm]
          simp [mC0, g_X0_becomeReady, g_X8_takeIn, cput, clst, q0, q1, q2, cm]
        · rw [if_neg cm, if_neg cm]
          simp [mC0, g_X0_becomeReady, g_X8_takeIn, cput, clst, q0, q1, q2, cm]
      have em11 : ∀ k x, x ≠ v 29 b → x ≠ t → (mC c b (v 29 b) t m).2.1 11 k x = c.2.1 11 k x := fun k x hx hx2 => by
        unfold mC
        split <;> simp [mC0, g_X0_becomeReady, g_X8_takeIn, cput, clst, hx, hx2]
      have em11w : ∀ k, k ≠ 2 → k ≠ 5 → ∀ x, (mC c b (v 29 b) t m).2.1 11 k x = c.2.1 11 k x := fun k h2 h5 x => by
        unfold mC
        split <;> simp [mC0, g_X0_becomeReady, g_X8_takeIn, cput, clst, h2, h5]
      have en11 : (mC c b (v 29 b) t m).2.1 11 2 t = 117 ∧ (mC c b (v 29 b) t m).2.1 11 5 t = b ∧ (mC c b (v 29 b) t m).2.1 11 2 (v 29 b) = 100 ∧ (mC c b (v 29 b) t m).2.1 11 5 (v 29 b) = -1 := by
        have htw' : ¬ v 29 b = t := fun e => htw e.symm
        unfold mC
        split <;> simp [mC0, g_X0_becomeReady, g_X8_takeIn, cput, clst, htw']
      have eml : ∀ j, j ≠ 8 → (mC c b (v 29 b) t m).2.2.1 j = c.2.2.1 j := fun j hj => by
        unfold mC
        split <;> simp [mC0, g_X0_becomeReady, g_X8_takeIn, cput, clst, hj]
      have em8 : (mC c b (v 29 b) t m).2.2.1 8 = c.2.2.1 8 ++ [v 29 b] := by
        unfold mC
        split <;> simp [mC0, g_X0_becomeReady, g_X8_takeIn, cput, clst]
      have emo : ∀ ci, ci ≠ 3 → ci ≠ 11 → (mC c b (v 29 b) t m).2.1 ci = c.2.1 ci := fun ci h3 h11 => by
        funext k x
        unfold mC
        split <;> simp [mC0, g_X0_becomeReady, g_X8_takeIn, cput, clst, h3, h11]
      have emn : ∀ ci, (mC c b (v 29 b) t m).1 ci = c.1 ci := fun ci => by
        unfold mC
        split <;> rfl
      obtain ⟨s, hs⟩ : ∃ s : Int, s = (if m = 0 then 3 else 2) := ⟨_, rfl⟩
      rw [← hs] at hCI hCJ ⊢
      have F : ∀ k, k ≠ 10 → k ≠ 15 → k ≠ 16 → k ≠ 18 → k ≠ 28 → k ≠ 29 → k ≠ 30 → k ≠ 31 → mV v b (v 29 b) t m s k = v k := fun k h10 h15 h16 h18 h28 h29 h30 h31 => by
        funext i
        simp [mV, f_dirties, upv, h10, h15, h16, h18, h28, h29, h30, h31]
      have Fd : ∀ k, k < 10 ∨ (10 < k ∧ k < 15) ∨ k = 17 ∨ (18 < k ∧ k < 28) ∨ 31 < k → mV v b (v 29 b) t m s k = v k := fun k hk => F k (by omega) (by omega) (by omega) (by omega) (by omega) (by omega) (by omega) (by omega)
      have g15 : ∀ x, mV v b (v 29 b) t m s 15 x = if x = t then 1 else if x = v 29 b then 2 else v 15 x := fun x => by simp [mV, f_dirties, upv]
      have g16 : ∀ x, mV v b (v 29 b) t m s 16 x = if x = t then b else v 16 x := fun x => by simp [mV, f_dirties, upv]
      have g18 : ∀ x, mV v b (v 29 b) t m s 18 x = if x = v 29 b then v 10 0 else v 18 x := fun x => by simp [mV, f_dirties, upv]
      have g10 : mV v b (v 29 b) t m s 10 0 = v 10 0 + 1 := by simp [mV, f_dirties, upv]
      have gb : ∀ k, k = 28 ∨ k = 29 ∨ k = 30 ∨ k = 31 → ∀ x, x ≠ b → mV v b (v 29 b) t m s k x = v k x := fun k hk x hx => by
        rcases hk with rfl | rfl | rfl | rfl <;> simp [mV, f_dirties, upv, hx]
      have gn : mV v b (v 29 b) t m s 28 b = s ∧ mV v b (v 29 b) t m s 29 b = t ∧ mV v b (v 29 b) t m s 30 b = m ∧ mV v b (v 29 b) t m s 31 b = 20 := by simp [mV, f_dirties, upv]
      have hs4 : (s = 3 ∧ m = 0) ∨ (s = 2 ∧ ¬ m = 0) := by
        by_cases cm : m = 0
        · rw [if_pos cm] at hs
          exact Or.inl ⟨hs, cm⟩
        · rw [if_neg cm] at hs
          exact Or.inr ⟨hs, cm⟩
      refine ⟨⟨?_, ?_, ?_, ?_, ?_, ?_, ?_, ?_, ?_, ?_, ?_⟩, ?_, hCI, hCJ⟩
      · exact s0.fr (emn _) (emn _) (emn _) (emn _) (emn _) (emn _) (by rw [emn]; exact Int.le_refl _) (by rw [emn]; exact Int.le_refl _) (emn _) (by rw [emo 13 (by decide) (by decide)]) (by rw [emo 13 (by decide) (by decide)]) (by rw [Fd 1 (by decide)]) (by rw [Fd 2 (by decide)]) (by rw [Fd 3 (by decide)]) (by rw [Fd 5 (by decide)]) (by rw [Fd 6 (by decide)]) (by rw [Fd 8 (by decide)]) (by rw [Fd 9 (by decide)]) (by rw [emn, Fd 4 (by decide)]; exact Int.le_of_eq ((Int.sub_self _).trans (Int.sub_self _).symm))
      · exact s1.fr (eml _ (by decide)) (emo 9 (by decide) (by decide)) (Fd 1 (by decide)) (Fd 12 (by decide)) (Fd 13 (by decide)) (Fd 14 (by decide))
      · refine ⟨by rw [eml _ (by decide), Fd 2 (by decide)]; exact s2.1, fun x x0 x1 => ?_⟩
        rw [Fd 2 (by decide)] at x1
        obtain ⟨p0, p1, p2, p3, p4, p5⟩ := s2.2 x x0 x1
        rw [em11w 0 (by decide) (by decide), em11w 1 (by decide) (by decide), em11w 3 (by decide) (by decide), em11w 4 (by decide) (by decide), Fd 17 (by decide), Fd 19 (by decide), Fd 20 (by decide), g15, g16]
        by_cases ex : x = t
        · subst ex
          rw [if_pos rfl, if_pos rfl, if_pos rfl, en11.1, en11.2.1]
          exact ⟨p0, p1, rfl, fun q => by omega, p4, rfl⟩
        · rw [if_neg ex, if_neg ex]
          by_cases ew : x = v 29 b
          · subst ew
            rw [if_pos rfl, en11.2.2.1, en11.2.2.2, if_neg (show ¬ (2 : Int) = 1 by decide)]
            exact ⟨p0, p1, rfl, fun q => by omega, p4, rfl⟩
          · rw [if_neg ew, em11 2 x ew ex, em11 5 x ew ex]
            exact ⟨p0, p1, p2, p3, p4, p5⟩
      · refine s3.one (b := b) (eml _ (by decide)) em3 (Fd 5 (by decide)) (fun k hk x hx => ?_) (fun _ _ => ?_)
        · by_cases k6 : k = 26 ∨ k = 27
          · exact congrFun (Fd k (by omega)) x
          · exact gb k (by omega) x hx
        · obtain ⟨z0, z1, z2, z3, z4, z5, z6⟩ := en3
          rw [z0, z1, z2, z3, z6, Fd 26 (by decide), Fd 27 (by decide), gn.1, gn.2.1, gn.2.2.1, gn.2.2.2]
          rcases hs4 with ⟨e1, e2⟩ | ⟨e1, e2⟩
          · rw [e1, if_pos e2]
            exact ⟨rfl, rfl, rfl, rfl, fun q => by omega, fun _ => z5 e2, rfl⟩
          · rw [e1, if_neg e2]
            exact ⟨rfl, rfl, rfl, rfl, fun _ => z4 e2, fun q => by omega, rfl⟩
      · exact s4.fr (eml _ (by decide)) (fun s _ _ => eml _ (by omega)) (by rw [emo 12 (by decide) (by decide)]) (emo 7 (by decide) (by decide)) (by rw [emn]; exact Int.le_refl _) (Fd 4 (by decide)) (Fd 21 (by decide)) (Fd 22 (by decide)) (Fd 23 (by decide)) (Fd 24 (by decide)) (Fd 25 (by decide))
      · exact s5.fr (eml _ (by decide)) (Fd 7 (by decide)) (Fd 39 (by decide))
      · exact s6.fr (eml _ (by decide)) (fun o _ _ => eml _ (by omega)) (emo 5 (by decide) (by decide)) (emo 6 (by decide) (by decide)) (by rw [emn]; exact Int.le_refl _) (Fd 6 (by decide)) (Fd 32 (by decide)) (Fd 33 (by decide)) (Fd 34 (by decide)) (Fd 35 (by decide)) (Fd 36 (by decide)) (Fd 37 (by decide))
      · exact s7.fr (eml _ (by decide)) (Fd 6 (by decide)) (Fd 32 (by decide))
      · exact s8.fr (eml _ (by decide)) (emo 4 (by decide) (by decide)) (Fd 9 (by decide)) (Fd 44 (by decide)) (Fd 45 (by decide)) (Fd 46 (by decide))
      · refine s9.dirty (w := v 29 b) ⟨w0, w2⟩ (by rw [w15]; decide) em8 (Fd 2 (by decide)) ?_ (fun x hx => ?_) ?_ (fun x hx => ?_) g10
        · rw [g15, if_neg (fun e => htw e.symm), if_pos rfl]
        · rw [g15, if_neg hx]
          by_cases ex : x = t
          · subst ex
            rw [if_pos rfl, t15]
            decide
          · rw [if_neg ex]
        · rw [g18, if_pos rfl]
        · rw [g18, if_neg hx]
      · exact s10.fr (eml _ (by decide)) (emn _) (by rw [emo 10 (by decide) (by decide)]) (Fd 2 (by decide)) (Fd 20 (by decide))
      · obtain ⟨b1, b2, b3, b4, b5, b6⟩ := hB
        unfold VB
        simp only [dlu_fr (Fd 9 (by decide)) (Fd 44 (by decide)) (Fd 46 (by decide))]
        rw [Fd 1 (by decide), Fd 2 (by decide), Fd 4 (by decide), Fd 5 (by decide), Fd 6 (by decide), Fd 9 (by decide), Fd 25 (by decide), Fd 26 (by decide), Fd 33 (by decide), Fd 34 (by decide), Fd 36 (by decide), Fd 37 (by decide), Fd 44 (by decide), Fd 45 (by decide)]
        refine ⟨fun x x0 x5 => ⟨(b1 x x0 x5).1, fun q => ?_⟩, fun x x0 x1 q => ?_, ⟨fun x hx => ?_, b3.2⟩, b4, b5, fun x x0 x5 => ?_⟩
        · by_cases ex : x = b
          · subst ex
            rw [gn.2.1, g15, g16, if_pos rfl, if_pos rfl]
            exact ⟨⟨t0, t2⟩, rfl, rfl⟩
          · rw [gb 28 (by decide) x ex] at q
            obtain ⟨y1, y2, y3⟩ := (b1 x x0 x5).2 q
            have n1 : ¬ v 29 x = t := fun e => by rw [e, t15] at y2; omega
            have n2 : ¬ v 29 x = v 29 b := fun e => by rw [e, w16] at y3; exact ex y3.symm
            rw [gb 29 (by decide) x ex, g15, g16, if_neg n1, if_neg n1, if_neg n2]
            exact ⟨y1, y2, y3⟩
        · rw [g15] at q
          rw [g16]
          by_cases ex : x = t
          · rw [if_pos ex]
            exact ⟨h0, h5⟩
          · rw [if_neg ex] at q ⊢
            by_cases ew : x = v 29 b
            · rw [if_pos ew] at q
              omega
            · rw [if_neg ew] at q
              exact b2 x x0 x1 q
        · rw [g15, if_neg (by omega), if_neg (by omega)]
          exact b3.1 x hx
        · by_cases ex : x = b
          · subst ex
            have e6 := b6 x h0 h5
            rw [c1] at e6
            rw [gn.1, gn.2.2.2, e6]
            rcases hs4 with ⟨e1, e2⟩ | ⟨e1, e2⟩
            · rw [e1]
              rfl
            · rw [e1]
              rfl
          · rw [gb 28 (by decide) x ex, gb 31 (by decide) x ex]
            exact b6 x x0 x5
  · have e3 : f_movesOn b v = v := by
      unfold f_movesOn
      rw [if_neg c1]
    rw [if_neg (fun g => c1 (phc_1.mp g)), e3]
    exact ⟨⟨⟨by omega, by omega⟩, fun g => absurd (phc_1.mp g) c1⟩, hN⟩
theorem mv_step {n : Nat} {i : Int} {c : Cs} (h0 : 0 ≤ i) (hi : ¬ ((c.2.2.1 3).length : Int) ≤ i) (hg : lget (c.2.2.1 3) i = i) (hr : R32 i) (hok : okmv i c) (k : okl_X10_moveWaitingBrews_2 n (i + 1) (mvC i c)) : okl_X10_moveWaitingBrews_2 (n + 1) i c ∧ l_X10_moveWaitingBrews_2 (n + 1) i c = l_X10_moveWaitingBrews_2 n (i + 1) (mvC i c) := by
  rw [okl_X10_moveWaitingBrews_2, l_X10_moveWaitingBrews_2, if_neg hi, if_neg hi, hg]
  unfold mvC at k ⊢
  obtain ⟨o1, o2⟩ := hok
  by_cases c1 : c.2.1 3 3 i = 119
  · obtain ⟨o3, o4⟩ := o2 c1
    rw [if_pos c1] at k ⊢
    rw [if_pos c1, if_pos c1]
    by_cases c2 : g_X10_firstClean 116 c = -1
    · rw [if_pos c2] at k ⊢
      rw [if_pos c2, if_pos c2]
      exact ⟨⟨hr, ⟨h0, by omega⟩, o1, o3, k⟩, rfl⟩
    · rw [if_neg c2] at k ⊢
      rw [if_neg c2, if_neg c2]
      obtain ⟨o5, o6⟩ := o4 c2
      exact ⟨⟨hr, ⟨h0, by omega⟩, o1, o3, o5, o6, k⟩, rfl⟩
  · rw [if_neg c1] at k ⊢
    rw [if_neg c1, if_neg c1]
    exact ⟨⟨hr, ⟨h0, by omega⟩, o1, k⟩, rfl⟩
theorem mv_day {T : Int} : ∀ (n m : Nat) (i : Int) (c : Cs) (v : Vw) (E : Int), INV c v → IM v T E → E + (m : Int) ≤ 1000000000 → 0 ≤ i → i ≤ v 5 0 → (v 5 0 - i).toNat < n → (v 5 0 - i).toNat < m → okl_X10_moveWaitingBrews_2 n i c ∧ INV (l_X10_moveWaitingBrews_2 n i c) (l_passes_88 m i v) := by
  intro n
  induction n with
  | zero => exact fun _ _ _ _ _ _ _ _ _ _ h => absurd h (Nat.not_lt_zero _)
  | succ n ih =>
    intro m i c v E hN hI hE h0 h1 hn hm
    cases m with
    | zero => exact absurd hm (Nat.not_lt_zero _)
    | succ m =>
      have u5 : 0 ≤ v 5 0 ∧ v 5 0 ≤ 30 := hI.2 5 0
      have hl := hN.1.l3 hI
      rw [l_passes_88]
      by_cases c1 : v 5 0 ≤ i
      · rw [okl_X10_moveWaitingBrews_2, l_X10_moveWaitingBrews_2, hl, if_pos c1, if_pos c1, if_pos c1]
        exact ⟨⟨⟨by omega, by omega⟩, trivial⟩, hN⟩
      · rw [if_neg c1]
        obtain ⟨g1, g2⟩ := hN.moves hI h0 (by omega)
        have e5 : f_movesOn i v 5 0 = v 5 0 := fr_movesOn 5 0 (by decide)
        have hI2 := i_movesOn (b := i) hI ⟨h0, by omega⟩ (by omega)
        obtain ⟨j1, j2⟩ := ih m (i + 1) _ _ (E + 1) g2 hI2 (by omega) (by omega) (by omega) (by omega) (by omega)
        obtain ⟨k1, k2⟩ := mv_step h0 (by omega) (hN.1.e3 h0 (by omega)) ⟨by omega, by omega⟩ g1 j1
        rw [k2]
        exact ⟨k1, j2⟩
