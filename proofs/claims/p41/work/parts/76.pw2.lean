/-! .. days pass -/
def PP (v : Vw) : Prop := ∀ o, 0 ≤ o → o < v 6 0 → ∀ k, 0 ≤ k → k < v 33 o → (0 ≤ v 36 (4 * o + k) ∧ v 36 (4 * o + k) < v 1 0) ∧ 1 ≤ v 37 (4 * o + k)
theorem PO.of {v : Vw} {T E : Int} (hI : IM v T E) (hP : PP v) : PO v :=
  ⟨⟨(hI.2 9 0).1, (hI.2 5 0).1⟩, hI.2 6 0, fun o => (hI.2 33 o).1, hP⟩
theorem PP.of {v : Vw} (h : VB v) : PP v := fun o o0 o1 => (h.2.2.2.1 o o0 o1).2
theorem PP.fr {v w : Vw} (h : PP v) (F : ∀ k, k = 1 ∨ k = 6 ∨ k = 33 ∨ k = 36 ∨ k = 37 → ∀ i, w k i = v k i) : PP w := fun o o0 o1 k k0 k1 => by
  rw [F 36 (by omega), F 37 (by omega), F 1 (by omega)]
  exact h o o0 (by rw [← F 6 (by omega)]; exact o1) k k0 (by rw [← F 33 (by omega)]; exact k1)
theorem passes_pw {K : Int} {v : Vw} {T E : Int} (hA : PA K v) (hD : PD v) (hI : IM v T E) (hP : PP v) (hK : v 3 0 ≤ K) : PA K (f_passes v) ∧ PD (f_passes v) := by
  have u2 : 0 ≤ v 2 0 ∧ v 2 0 ≤ 8 := hI.2 2 0
  have u5 : 0 ≤ v 5 0 := (hI.2 5 0).1
  have key : ∀ n1 n2 n3 : Nat, PA K (f_startsQueue (f_cleans (f_fills (l_passes_88 n3 0 (l_passes_67 n2 0 (l_passes_12 n1 0 (upv v 8 0 (v 8 0 + 1)))))))) ∧ PD (f_startsQueue (f_cleans (f_fills (l_passes_88 n3 0 (l_passes_67 n2 0 (l_passes_12 n1 0 (upv v 8 0 (v 8 0 + 1)))))))) := by
    intro n1 n2 n3
    have A0 : PA K (upv v 8 0 (v 8 0 + 1)) := hA.fr (fun k hk i => upv_nk (by omega))
    have D0 : PD (upv v 8 0 (v 8 0 + 1)) := hD.day (by omega)
    have F0 : ∀ k, k ≠ 8 → ∀ i, upv v 8 0 (v 8 0 + 1) k i = v k i := fun k hk i => upv_nk hk
    revert A0 D0 F0
    generalize upv v 8 0 (v 8 0 + 1) = v0
    intro A0 D0 F0
    have A1 := PA.clean12 n1 0 v0 A0
    have F1 : ∀ k, k ≠ 8 ∧ k ≠ 15 ∧ k ≠ 17 → ∀ i, l_passes_12 n1 0 v0 k i = v k i := fun k hk i => (fr_l_passes_12 _ _ _ k i hk.2).trans (F0 k hk.1 i)
    have D1 : PD (l_passes_12 n1 0 v0) := D0.fr (fun k hk i => fr_l_passes_12 _ _ _ k i (by omega))
    revert A1 D1 F1
    generalize l_passes_12 n1 0 v0 = v1
    intro A1 F1 D1
    have A2 := PA.goes67 n2 0 v1 A1
    have F2 : ∀ k, k ≠ 8 ∧ k ≠ 15 ∧ k ≠ 17 ∧ k ≠ 4 ∧ k ≠ 22 ∧ k ≠ 23 ∧ k ≠ 24 ∧ k ≠ 28 ∧ k ≠ 30 ∧ k ≠ 31 → ∀ i, l_passes_67 n2 0 v1 k i = v k i := fun k hk i => (fr_l_passes_67 _ _ _ k i (by omega)).trans (F1 k (by omega) i)
    have D2 : PD (l_passes_67 n2 0 v1) := D1.fr (fun k hk i => fr_l_passes_67 _ _ _ k i (by omega))
    revert A2 D2 F2
    generalize l_passes_67 n2 0 v1 = v2
    intro A2 F2 D2
    have A3 := PA.moves88 n3 0 v2 A2 (Int.le_refl 0)
    have F3 : ∀ k, k ≠ 8 ∧ k ≠ 15 ∧ k ≠ 17 ∧ k ≠ 4 ∧ k ≠ 22 ∧ k ≠ 23 ∧ k ≠ 24 ∧ k ≠ 28 ∧ k ≠ 30 ∧ k ≠ 31 ∧ k ≠ 10 ∧ k ≠ 16 ∧ k ≠ 18 ∧ k ≠ 29 → ∀ i, l_passes_88 n3 0 v2 k i = v k i := fun k hk i => (fr_l_passes_88 _ _ _ k i (by omega)).trans (F2 k (by omega) i)
    have D3 : PD (l_passes_88 n3 0 v2) := D2.fr (fun k hk i => fr_l_passes_88 _ _ _ k i (by omega))
    revert A3 D3 F3
    generalize l_passes_88 n3 0 v2 = v3
    intro A3 F3 D3
    have O3 : PO v3 := (PO.of hI hP).fr (by rw [F3 9 (by decide)]; exact (hI.2 9 0).1) (fun k hk i => F3 k (by omega) i)
    obtain ⟨A4, D4⟩ := fills_all A3 D3 O3
    have F4 : ∀ k, k = 2 ∨ k = 3 ∨ k = 5 → ∀ i, f_fills v3 k i = v k i := fun k hk i => (fr_fills k i (by omega)).trans (F3 k (by omega) i)
    revert A4 D4 F4
    generalize f_fills v3 = v4
    intro A4 D4 F4
    have A5 := A4.cleans (by rw [F4 2 (by omega)]; exact u2) (by rw [F4 3 (by omega)]; exact hK)
    have D5 : PD (f_cleans v4) := D4.fr (fun k hk i => fr_cleans k i (by omega))
    have F5 : f_cleans v4 5 0 = v 5 0 := (fr_cleans 5 0 (by decide)).trans (F4 5 (by omega) 0)
    revert A5 D5 F5
    generalize f_cleans v4 = v5
    intro A5 D5 F5
    exact ⟨PA.queue _ _ v5 A5 (by omega), D5.fr (fun k hk i => fr_startsQueue k i (by omega))⟩
  exact key _ _ _
theorem m11_40 : ∀ (n : Nat) (m : Int) (v : Vw), v 11 0 ≤ l_fills_40 n m v 11 0 := by
  intro n
  induction n with
  | zero => exact fun _ _ => Int.le_refl _
  | succ n ih =>
    intro m v
    rw [l_fills_40]
    repeat' split
    · exact Int.le_refl _
    · exact Int.le_refl _
    · exact ih _ _
    · refine Int.le_trans ?_ (ih _ _)
      show v 11 0 ≤ upv _ 11 0 (v 11 0 + 1) 11 0
      rw [upv_eq]
      omega
theorem m11 (v : Vw) : v 11 0 ≤ f_passes v 11 0 := by
  unfold f_passes
  rw [fr_startsQueue 11 0 (by decide), fr_cleans 11 0 (by decide)]
  unfold f_fills
  refine Int.le_trans ?_ (m11_40 _ _ _)
  rw [fr_l_fills_2 _ _ _ 11 0 (by decide), fr_l_passes_88 _ _ _ 11 0 (by decide), fr_l_passes_67 _ _ _ 11 0 (by decide), fr_l_passes_12 _ _ _ 11 0 (by decide)]
  exact Int.le_refl _
theorem pass28_pw {K : Int} {a was : Int} {T : Int} : ∀ (n : Nat) (k : Int) (v : Vw) (E : Int), PA K v → PD v → IM v T E → CI v → CJ v → PP v → v 3 0 ≤ K → 0 ≤ k → k ≤ a → v 8 0 + (a - k) ≤ T → E + 3300 * ((n : Nat) : Int) ≤ 1000000000 → (a - k).toNat < n →
    PA K (l_pass_28 a was n k v).2 ∧ PD (l_pass_28 a was n k v).2 ∧ (l_pass_28 a was n k v).1 = (l_pass_28 a was n k v).2 11 0 - was ∧ v 11 0 ≤ (l_pass_28 a was n k v).2 11 0 ∧ (l_pass_28 a was n k v).2 8 0 = v 8 0 + (a - k) := by
  intro n
  induction n with
  | zero => exact fun _ _ _ _ _ _ _ _ _ _ _ _ _ _ h => absurd h (Nat.not_lt_zero _)
  | succ n ih =>
    intro k v E hA hD hI hC hJ hP hK k0 k1 hd hE hn
    rw [l_pass_28]
    by_cases c : a ≤ k
    · rw [if_pos c]
      exact ⟨hA, hD, rfl, Int.le_refl _, by show v 8 0 = _; omega⟩
    · rw [if_neg c]
      obtain ⟨A, D⟩ := passes_pw hA hD hI hP hK
      obtain ⟨C, J⟩ := CI_passes hI hC hJ
      have I := i_passes hI hC hJ (by omega) (by omega) (by have := hC.1; have := (hI.2 7 0).1; have q : (0 : Int) ≤ v 7 0 := (hI.2 7 0).1; omega)
      have P : PP (f_passes v) := hP.fr (fun k hk i => fr_passes k i (by omega))
      have e3 : f_passes v 3 0 = v 3 0 := fr_passes 3 0 (by decide)
      have e8 := d_passes (v := v)
      have e11 := m11 v
      obtain ⟨r1, r2, r3, r4, r5⟩ := ih (k + 1) (f_passes v) (E + 3300) A D I C J P (by omega) (by omega) (by omega) (by omega) (by omega) (by omega)
      exact ⟨r1, r2, r3, by omega, by omega⟩
theorem x_pass {K a : Int} {v : Vw} {T E : Int} (hA : PA K v) (hD : PD v) (hI : IM v T E) (hC : CI v) (hJ : CJ v) (hP : PP v) (hK : v 3 0 ≤ K) (hd : v 8 0 + 30 ≤ T) (hE : E + 102300 ≤ 1000000000) :
    PA K (f_pass a v).2 ∧ PD (f_pass a v).2 ∧ (((f_pass a v).2 0 0 = 1 ∧ Fl v (f_pass a v).2) ∨ ((f_pass a v).2 0 0 = 0 ∧ (f_pass a v).1 = (f_pass a v).2 11 0 - v 11 0 ∧ v 11 0 ≤ (f_pass a v).2 11 0 ∧ (f_pass a v).2 8 0 = v 8 0 + a)) := by
  unfold f_pass
  by_cases c1 : f_in a 1 30 = 0
  · rw [if_pos c1]
    exact ⟨(Fl.fails 1 v).pa hA, (Fl.fails 1 v).pd hD, Or.inl ⟨up00 v 1, Fl.fails 1 v⟩⟩
  · rw [if_neg c1]
    have ha := fin_0 c1
    have F := Fl.fails 0 v
    have C : CI (upv v 0 0 0) := CI_fr (fun k hk i => F k (by omega) i) hC
    have J : CJ (upv v 0 0 0) := CJ_fr (fun k hk i => F k (by omega) i) hJ
    have P : PP (upv v 0 0 0) := hP.fr (fun k hk i => F k (by omega) i)
    obtain ⟨r1, r2, r3, r4, r5⟩ := pass28_pw (a := a) (was := v 11 0) ((a - 0).toNat + 1) 0 (upv v 0 0 0) E (F.pa hA) (F.pd hD) hI.z C J P hK (Int.le_refl 0) (by omega) (by show v 8 0 + (a - 0) ≤ T; omega) (by omega) (by omega)
    refine ⟨r1, r2, Or.inr ⟨?_, r3, r4, ?_⟩⟩
    · rw [fr_l_pass_28 _ _ _ 0 0 (by decide)]
      exact up00 v 0
    · rw [r5]
      show v 8 0 + (a - 0) = _
      omega
