/-! .. what each call does to them -/
/-- all but the word of failure is as it was -/
def Fl (v w : Vw) : Prop := ∀ k, k ≠ 0 → ∀ i, w k i = v k i
theorem Fl.fails (c : Int) (v : Vw) : Fl v (upv v 0 0 c) := fun k hk i => upv_nk hk
theorem Fl.pa {K : Int} {v w : Vw} (h : Fl v w) (hA : PA K v) : PA K w := hA.fr (fun k hk i => h k (by omega) i)
theorem Fl.pd {v w : Vw} (h : Fl v w) (hD : PD v) : PD w := hD.fr (fun k hk i => h k (by omega) i)
theorem fin_0 {x a b : Int} (h : ¬ f_in x a b = 0) : a ≤ x ∧ x ≤ b := by
  rcases c_in x a b with q | q
  · exact q.2
  · exact absurd q.1 h
theorem isR_0 {x : Int} {v : Vw} (h : ¬ f_isRecipe x v = 0) : 0 ≤ x ∧ x < v 1 0 := by
  rcases c_isRecipe x v with q | q
  · exact q.2
  · exact absurd q.1 h
theorem isV_0 {x : Int} {v : Vw} (h : ¬ f_isVessel x v = 0) : 0 ≤ x ∧ x < v 2 0 := by
  rcases c_isVessel x v with q | q
  · exact q.2
  · exact absurd q.1 h
theorem isO_0 {x : Int} {v : Vw} (h : ¬ f_isOrder x v = 0) : 0 ≤ x ∧ x < v 6 0 := by
  rcases c_isOrder x v with q | q
  · exact q.2
  · exact absurd q.1 h
theorem up00 (v : Vw) (c : Int) : upv v 0 0 c 0 0 = c := upv_eq v 0 0 c
theorem x_brew (a b : Int) (v : Vw) : (1 ≤ (f_brew a b v).2 0 0 ∧ (f_brew a b v).2 0 0 ≤ 4 ∧ Fl v (f_brew a b v).2) ∨ ((f_brew a b v).2 0 0 = 0 ∧ (f_brew a b v).1 = v 5 0 ∧ (0 ≤ a ∧ a < v 1 0) ∧ (0 ≤ b ∧ b < v 2 0) ∧ v 20 b = 0 ∧ v 15 b = 0 ∧ (f_brew a b v).2 = stV a b (upv v 0 0 0)) := by
  have ff : ∀ c : Int, 1 ≤ c → c ≤ 4 → 1 ≤ (f_fails c v).2 0 0 ∧ (f_fails c v).2 0 0 ≤ 4 ∧ Fl v (f_fails c v).2 := fun c h1 h4 => ⟨by show 1 ≤ upv v 0 0 c 0 0; rw [up00]; exact h1, by show upv v 0 0 c 0 0 ≤ 4; rw [up00]; exact h4, Fl.fails c v⟩
  unfold f_brew
  by_cases c1 : f_isRecipe a v = 0
  · rw [if_pos c1]
    exact Or.inl (ff 1 (by decide) (by decide))
  · rw [if_neg c1]
    by_cases c2 : f_isVessel b v = 0
    · rw [if_pos c2]
      exact Or.inl (ff 1 (by decide) (by decide))
    · rw [if_neg c2]
      by_cases c3 : v 20 b = 0
      · rw [if_pos c3]
        by_cases c4 : v 15 b = 0
        · rw [if_pos c4]
          by_cases c5 : v 5 0 + v 7 0 < 30
          · rw [if_pos c5]
            by_cases c6 : f_hasYeast (v 12 a) v = 0
            · rw [if_pos c6]
              exact Or.inl (ff 4 (by decide) (by decide))
            · rw [if_neg c6]
              refine Or.inr ⟨?_, ?_, isR_0 c1, isV_0 c2, c3, c4, starts_eq _ _ _⟩
              · show f_starts a b (upv v 0 0 0) 0 0 = 0
                rw [fr_starts 0 0 (by decide), up00]
              · show f_starts a b (upv v 0 0 0) 5 0 - 1 = v 5 0
                rw [(b_starts _ _ _).1]
                show v 5 0 + 1 - 1 = _
                omega
          · rw [if_neg c5]
            exact Or.inl (ff 3 (by decide) (by decide))
        · rw [if_neg c4]
          exact Or.inl (ff 3 (by decide) (by decide))
      · rw [if_neg c3]
        exact Or.inl (ff 2 (by decide) (by decide))
theorem pw_brew {K a b : Int} {v : Vw} (hA : PA K v) (hD : PD v) (h5 : 0 ≤ v 5 0) : PA K (f_brew a b v).2 ∧ PD (f_brew a b v).2 := by
  refine ⟨?_, hD.fr (fun k hk i => fr_brew k i (by omega))⟩
  rcases x_brew a b v with ⟨-, -, h⟩ | ⟨-, -, -, hb, h20, h15, e⟩
  · exact h.pa hA
  · rw [e, ← starts_eq]
    exact ((Fl.fails 0 v).pa hA).starts h5 hb h20 h15
theorem x_enqueue (a : Int) (v : Vw) : (1 ≤ (f_enqueue a v).2 0 0 ∧ (f_enqueue a v).2 0 0 ≤ 2 ∧ Fl v (f_enqueue a v).2) ∨ ((f_enqueue a v).2 0 0 = 0 ∧ (f_enqueue a v).1 = v 7 0 + 1 ∧ (f_enqueue a v).2 7 0 = v 7 0 + 1 ∧ (f_enqueue a v).2 39 (v 7 0) = a) := by
  have ff : ∀ c : Int, 1 ≤ c → c ≤ 2 → 1 ≤ (f_fails c v).2 0 0 ∧ (f_fails c v).2 0 0 ≤ 2 ∧ Fl v (f_fails c v).2 := fun c h1 h4 => ⟨by show 1 ≤ upv v 0 0 c 0 0; rw [up00]; exact h1, by show upv v 0 0 c 0 0 ≤ 2; rw [up00]; exact h4, Fl.fails c v⟩
  unfold f_enqueue
  by_cases c1 : f_isRecipe a v = 0
  · rw [if_pos c1]
    exact Or.inl (ff 1 (by decide) (by decide))
  · rw [if_neg c1]
    by_cases c2 : v 7 0 = 6
    · rw [if_pos c2]
      exact Or.inl (ff 2 (by decide) (by decide))
    · rw [if_neg c2]
      by_cases c3 : v 5 0 + v 7 0 < 30
      · rw [if_pos c3]
        exact Or.inr ⟨by simp [upv], rfl, by simp [upv], by simp [upv]⟩
      · rw [if_neg c3]
        exact Or.inl (ff 2 (by decide) (by decide))
theorem x_setCrews (a : Int) (v : Vw) : ((f_setCrews a v).2 0 0 = 1 ∧ Fl v (f_setCrews a v).2) ∨ ((f_setCrews a v).2 0 0 = 0 ∧ (f_setCrews a v).1 = v 3 0 ∧ (0 ≤ a ∧ a ≤ 3) ∧ (f_setCrews a v).2 3 0 = a) := by
  unfold f_setCrews
  by_cases c1 : f_in a 0 3 = 0
  · rw [if_pos c1]
    exact Or.inl ⟨up00 v 1, Fl.fails 1 v⟩
  · rw [if_neg c1]
    exact Or.inr ⟨by simp [upv], rfl, fin_0 c1, by simp [upv]⟩
theorem x_withdraw (a : Int) (v : Vw) : ((f_withdraw a v).2 0 0 = 1 ∧ Fl v (f_withdraw a v).2) ∨ (f_withdraw a v).2 0 0 = 0 := by
  unfold f_withdraw
  by_cases c1 : f_in a 0 (v 7 0 - 1) = 0
  · rw [if_pos c1]
    exact Or.inl ⟨up00 v 1, Fl.fails 1 v⟩
  · rw [if_neg c1]
    refine Or.inr ?_
    show (f_takesOut a (upv v 0 0 0)).2 0 0 = 0
    rw [fr_takesOut 0 0 (by decide), up00]
theorem x_addPacks (a b : Int) (v : Vw) : ((f_addPacks a b v).2 0 0 = 1 ∧ Fl v (f_addPacks a b v).2) ∨ ((f_addPacks a b v).2 0 0 = 0 ∧ (f_addPacks a b v).1 = v 21 a + b ∧ 1 ≤ b) := by
  unfold f_addPacks
  by_cases c1 : f_in a 0 3 = 0
  · rw [if_pos c1]
    exact Or.inl ⟨up00 v 1, Fl.fails 1 v⟩
  · rw [if_neg c1]
    by_cases c2 : f_in b 1 9 = 0
    · rw [if_pos c2]
      exact Or.inl ⟨up00 v 1, Fl.fails 1 v⟩
    · rw [if_neg c2]
      exact Or.inr ⟨by simp [upv], rfl, (fin_0 c2).1⟩
/-- orders -/
theorem osm_new {v w : Vw} {o a : Int} (h0 : v 33 o = 0) (h1 : w 33 o = 1) (h2 : w 37 (4 * o) = a) : osm w o = a := by
  unfold osm
  rw [h1]
  show 0 + w 37 (4 * o + ((0 : Nat) : Int)) = a
  rw [show (4 * o + ((0 : Nat) : Int)) = 4 * o by omega, h2]
  omega
theorem osm_more {v w : Vw} {o a : Int} (h0 : 0 ≤ v 33 o) (h1 : w 33 o = v 33 o + 1) (h2 : w 37 (4 * o + v 33 o) = a) (h3 : ∀ k, 0 ≤ k → k < v 33 o → w 37 (4 * o + k) = v 37 (4 * o + k)) : osm w o = osm v o + a := by
  unfold osm
  rw [h1, sI_step h0, h2, sI_congr (f := fun k => w 37 (4 * o + k)) (g := fun k => v 37 (4 * o + k)) _ (fun k k0 k1 => h3 k k0 (by omega))]
theorem x_order (a b d : Int) (v : Vw) : (1 ≤ (f_order a b d v).2 0 0 ∧ (f_order a b d v).2 0 0 ≤ 3 ∧ Fl v (f_order a b d v).2) ∨ ((f_order a b d v).2 0 0 = 0 ∧ (f_order a b d v).1 = v 6 0 ∧ (0 ≤ a ∧ a < v 1 0) ∧ (1 ≤ b ∧ b ≤ 40) ∧ v 6 0 ≠ 20 ∧ (f_order a b d v).2 = upv (f_adds (v 6 0) a b (upv (upv (upv v 0 0 0) 32 (v 6 0) d) 34 (v 6 0) 111)) 6 0 (v 6 0 + 1)) := by
  have ff : ∀ c : Int, 1 ≤ c → c ≤ 3 → 1 ≤ (f_fails c v).2 0 0 ∧ (f_fails c v).2 0 0 ≤ 3 ∧ Fl v (f_fails c v).2 := fun c h1 h4 => ⟨by show 1 ≤ upv v 0 0 c 0 0; rw [up00]; exact h1, by show upv v 0 0 c 0 0 ≤ 3; rw [up00]; exact h4, Fl.fails c v⟩
  unfold f_order
  by_cases c1 : f_isRecipe a v = 0
  · rw [if_pos c1]
    exact Or.inl (ff 1 (by decide) (by decide))
  · rw [if_neg c1]
    by_cases c2 : f_in b 1 40 = 0
    · rw [if_pos c2]
      exact Or.inl (ff 2 (by decide) (by decide))
    · rw [if_neg c2]
      by_cases c3 : d < v 8 0
      · rw [if_pos c3]
        exact Or.inl (ff 2 (by decide) (by decide))
      · rw [if_neg c3]
        by_cases c4 : d ≤ v 8 0 + 99
        · rw [if_pos c4]
          by_cases c5 : v 6 0 = 20
          · rw [if_pos c5]
            exact Or.inl (ff 3 (by decide) (by decide))
          · rw [if_neg c5]
            exact Or.inr ⟨by simp [upv, f_adds], by show v 6 0 + 1 - 1 = v 6 0; omega, isR_0 c1, fin_0 c2, c5, rfl⟩
        · rw [if_neg c4]
          exact Or.inl (ff 2 (by decide) (by decide))
/-- the order's numbers after it was taken in -/
theorem ord_f {v w : Vw} {a b d : Int} (e : w = upv (f_adds (v 6 0) a b (upv (upv (upv v 0 0 0) 32 (v 6 0) d) 34 (v 6 0) 111)) 6 0 (v 6 0 + 1)) (h33 : v 33 (v 6 0) = 0) :
    (∀ k, k ≠ 0 ∧ k ≠ 6 ∧ k ≠ 32 ∧ k ≠ 33 ∧ k ≠ 34 ∧ k ≠ 36 ∧ k ≠ 37 → ∀ i, w k i = v k i) ∧ w 6 0 = v 6 0 + 1 ∧ (∀ x, w 34 x = if x = v 6 0 then 111 else v 34 x) ∧ (∀ x, w 33 x = if x = v 6 0 then 1 else v 33 x) ∧ (∀ x, w 37 x = if x = 4 * v 6 0 then b else v 37 x) := by
  subst e
  refine ⟨fun k hk i => ?_, ?_, fun x => ?_, fun x => ?_, fun x => ?_⟩
  · rw [upv_nk hk.2.1, fr_adds k i (by omega), upv_nk hk.2.2.2.2.1, upv_nk hk.2.2.1, upv_nk hk.1]
  · simp [upv]
  · simp [upv, f_adds]
  · simp only [upv, f_adds]
    by_cases c : x = v 6 0
    · simp [c, h33]
    · simp [c]
  · simp only [upv, f_adds]
    simp [h33]
theorem pw_order {K a b d : Int} {v : Vw} (hA : PA K v) (hD : PD v) (hO : PO v) (h34 : ∀ o, v 6 0 ≤ o → v 33 o = 0 ∧ v 34 o = 0) (h33 : ∀ o, v 33 o ≤ 4) : PA K (f_order a b d v).2 ∧ PD (f_order a b d v).2 := by
  refine ⟨hA.fr (fun k hk i => fr_order k i (by omega)), ?_⟩
  rcases x_order a b d v with ⟨-, -, h⟩ | ⟨-, -, ha, hb, h20, e⟩
  · exact h.pd hD
  · obtain ⟨F, e6, e34, e33, e37⟩ := ord_f e (h34 _ (Int.le_refl _)).1
    revert F e6 e34 e33 e37
    generalize (f_order a b d v).2 = w
    intro F e6 e34 e33 e37
    obtain ⟨d1, d2, d3, d4, d5⟩ := hD
    have f9 := F 9 (by decide) 0
    have f45 := F 45 (by decide)
    have f46 := F 46 (by decide)
    have f35 := F 35 (by decide)
    refine ⟨fun x x0 x1 => ?_, fun x x0 x1 => ?_, fun o ho => ?_, fun o o0 o1 => ?_, ?_⟩
    · rw [f9] at x1
      obtain ⟨q1, q2, q3⟩ := d1 x x0 x1
      rw [f46, f45, e6, e34, if_neg (by omega)]
      exact ⟨q1, by omega, q3⟩
    · rw [f9] at x1
      rw [f45, f45, f35, f35]
      exact d2 x x0 x1
    · rw [e34] at ho
      rw [f35, F 8 (by decide)]
      by_cases c : o = v 6 0
      · rw [if_pos c] at ho
        omega
      · rw [if_neg c] at ho
        exact d3 o ho
    · rw [e6] at o1
      rw [dlo_congr (v := v) f9 (fun e _ _ => f45 e) (fun e _ _ => f46 e), e34]
      by_cases c : o = v 6 0
      · rw [if_pos c, if_neg (by decide), c]
        unfold dlo
        rw [sI_congr (f := fun e => if v 45 e = v 6 0 then v 46 e else 0) (g := fun _ => 0) _ (fun e e0 e1 => by
          have := (d1 e e0 (by omega)).2.1
          rw [if_neg (by omega)])]
        exact sI_0 _
      · rw [if_neg c, d4 o o0 (by omega), osm_congr (v := v) (w := w) (o := o) (by rw [e33, if_neg c]) (fun k k0 k1 => by
          have := h33 o
          rw [e37, if_neg (by omega)])]
    · rw [F 11 (by decide)]
      have u6 := hO.2.1.2
      have q := fl_one (v := v) (w := w) (b := v 6 0) ⟨hO.2.1.1, by omega⟩ (fun i hi => by rw [e34, if_neg hi])
      have z1 : flF w (v 6 0) = 1 := by unfold flF; rw [e34, if_pos rfl]; decide
      have z2 : flF v (v 6 0) = 1 := by unfold flF; rw [(h34 _ (Int.le_refl _)).2]; decide
      omega
theorem x_blend (a b d : Int) (v : Vw) : (1 ≤ (f_blend a b d v).2 0 0 ∧ (f_blend a b d v).2 0 0 ≤ 3 ∧ Fl v (f_blend a b d v).2) ∨ ((f_blend a b d v).2 0 0 = 0 ∧ (f_blend a b d v).1 = v 33 a + 1 ∧ (0 ≤ a ∧ a < v 6 0) ∧ v 34 a = 111 ∧ v 33 a ≠ 4 ∧ (f_blend a b d v).2 = f_adds a b d (upv v 0 0 0)) := by
  have ff : ∀ c : Int, 1 ≤ c → c ≤ 3 → 1 ≤ (f_fails c v).2 0 0 ∧ (f_fails c v).2 0 0 ≤ 3 ∧ Fl v (f_fails c v).2 := fun c h1 h4 => ⟨by show 1 ≤ upv v 0 0 c 0 0; rw [up00]; exact h1, by show upv v 0 0 c 0 0 ≤ 3; rw [up00]; exact h4, Fl.fails c v⟩
  unfold f_blend
  by_cases c1 : f_isOrder a v = 0
  · rw [if_pos c1]
    exact Or.inl (ff 1 (by decide) (by decide))
  · rw [if_neg c1]
    by_cases c2 : f_isRecipe b v = 0
    · rw [if_pos c2]
      exact Or.inl (ff 1 (by decide) (by decide))
    · rw [if_neg c2]
      by_cases c3 : f_in d 1 40 = 0
      · rw [if_pos c3]
        exact Or.inl (ff 2 (by decide) (by decide))
      · rw [if_neg c3]
        by_cases c4 : v 34 a = 111
        · rw [if_pos c4]
          by_cases c5 : v 33 a = 4
          · rw [if_pos c5]
            exact Or.inl (ff 3 (by decide) (by decide))
          · rw [if_neg c5]
            exact Or.inr ⟨by simp [upv, f_adds], by simp [upv, f_adds], isO_0 c1, c4, c5, rfl⟩
        · rw [if_neg c4]
          exact Or.inl (ff 3 (by decide) (by decide))
theorem bl_f {v w : Vw} {a b d : Int} (e : w = f_adds a b d (upv v 0 0 0)) :
    (∀ k, k ≠ 0 ∧ k ≠ 33 ∧ k ≠ 36 ∧ k ≠ 37 → ∀ i, w k i = v k i) ∧ (∀ x, w 33 x = if x = a then v 33 a + 1 else v 33 x) ∧ (∀ x, w 37 x = if x = 4 * a + v 33 a then d else v 37 x) := by
  subst e
  refine ⟨fun k hk i => ?_, fun x => ?_, fun x => ?_⟩
  · rw [fr_adds k i hk.2, upv_nk hk.1]
  · simp [upv, f_adds]
  · simp [upv, f_adds]
/-- the units of an order grow by those of its new part -/
theorem bl_osm {v w : Vw} {a b d : Int} (e : w = f_adds a b d (upv v 0 0 0)) (h33 : ∀ o, 0 ≤ v 33 o ∧ v 33 o ≤ 4) (h4 : v 33 a ≠ 4) : osm w a = osm v a + d ∧ ∀ o, o ≠ a → osm w o = osm v o := by
  obtain ⟨F, e33, e37⟩ := bl_f e
  have ha := h33 a
  refine ⟨osm_more ha.1 (by rw [e33, if_pos rfl]) (by rw [e37, if_pos rfl]) (fun k k0 k1 => by rw [e37, if_neg (by omega)]), fun o ho => osm_congr (by rw [e33, if_neg ho]) (fun k k0 k1 => ?_)⟩
  have hb := h33 o
  rw [e37, if_neg (by omega)]
theorem pw_blend {K a b d : Int} {v : Vw} (hA : PA K v) (hD : PD v) (h33 : ∀ o, 0 ≤ v 33 o ∧ v 33 o ≤ 4) : PA K (f_blend a b d v).2 ∧ PD (f_blend a b d v).2 := by
  refine ⟨hA.fr (fun k hk i => fr_blend k i (by omega)), ?_⟩
  rcases x_blend a b d v with ⟨-, -, h⟩ | ⟨-, -, ha, h34, h4, e⟩
  · exact h.pd hD
  · obtain ⟨F, e33, e37⟩ := bl_f e
    obtain ⟨o1, o2⟩ := bl_osm e h33 h4
    revert F e33 e37 o1 o2
    generalize (f_blend a b d v).2 = w
    intro F e33 e37 o1 o2
    obtain ⟨d1, d2, d3, d4, d5⟩ := hD
    have f9 := F 9 (by decide) 0
    have f45 := F 45 (by decide)
    have f46 := F 46 (by decide)
    have f35 := F 35 (by decide)
    have f34 := F 34 (by decide)
    refine ⟨fun x x0 x1 => ?_, fun x x0 x1 => ?_, fun o ho => ?_, fun o o0 o1' => ?_, ?_⟩
    · rw [f9] at x1
      rw [f46, f45, F 6 (by decide), f34]
      exact d1 x x0 x1
    · rw [f9] at x1
      rw [f45, f45, f35, f35]
      exact d2 x x0 x1
    · rw [f34] at ho
      rw [f35, F 8 (by decide)]
      exact d3 o ho
    · rw [F 6 (by decide)] at o1'
      rw [dlo_congr (v := v) f9 (fun e _ _ => f45 e) (fun e _ _ => f46 e), f34, d4 o o0 o1']
      by_cases c : o = a
      · rw [c, h34, if_neg (by decide), if_neg (by decide)]
      · rw [o2 o c]
    · rw [F 11 (by decide), fl_congr (v := v) f34]
      exact d5
theorem l_cancel_sum {a : Int} {v : Vw} : ∀ (n : Nat) (s k : Int), 0 ≤ k → k ≤ v 33 a → (v 33 a - k).toNat < n → l_cancel_48 a v n s k = s + (sI (fun j => v 37 (4 * a + j)) (v 33 a).toNat - sI (fun j => v 37 (4 * a + j)) k.toNat) := by
  intro n
  induction n with
  | zero => exact fun _ _ _ _ h => absurd h (Nat.not_lt_zero _)
  | succ n ih =>
    intro s k h0 h1 hn
    rw [l_cancel_48]
    by_cases c1 : v 33 a ≤ k
    · rw [if_pos c1, show k = v 33 a by omega]
      omega
    · rw [if_neg c1, ih _ _ (by omega) (by omega) (by omega), sI_step h0]
      omega
theorem x_cancel (a : Int) (v : Vw) (h33 : 0 ≤ v 33 a) : (1 ≤ (f_cancel a v).2 0 0 ∧ (f_cancel a v).2 0 0 ≤ 2 ∧ Fl v (f_cancel a v).2) ∨ ((f_cancel a v).2 0 0 = 0 ∧ (f_cancel a v).1 = osm v a ∧ (0 ≤ a ∧ a < v 6 0) ∧ v 34 a = 111 ∧ (f_cancel a v).2 = upv (upv v 0 0 0) 34 a 99) := by
  have ff : ∀ c : Int, 1 ≤ c → c ≤ 2 → 1 ≤ (f_fails c v).2 0 0 ∧ (f_fails c v).2 0 0 ≤ 2 ∧ Fl v (f_fails c v).2 := fun c h1 h4 => ⟨by show 1 ≤ upv v 0 0 c 0 0; rw [up00]; exact h1, by show upv v 0 0 c 0 0 ≤ 2; rw [up00]; exact h4, Fl.fails c v⟩
  unfold f_cancel
  by_cases c1 : f_isOrder a v = 0
  · rw [if_pos c1]
    exact Or.inl (ff 1 (by decide) (by decide))
  · rw [if_neg c1]
    by_cases c2 : v 34 a = 111
    · rw [if_pos c2]
      refine Or.inr ⟨by simp [upv], ?_, isO_0 c1, c2, rfl⟩
      have e33 : (upv (upv v 0 0 0) 34 a 99) 33 a = v 33 a := rfl
      show l_cancel_48 a (upv (upv v 0 0 0) 34 a 99) _ 0 0 = osm v a
      rw [l_cancel_sum _ 0 0 (Int.le_refl 0) (by rw [e33]; exact h33) (by rw [e33]; omega)]
      show 0 + (osm v a - 0) = _
      omega
    · rw [if_neg c2]
      exact Or.inl (ff 2 (by decide) (by decide))
theorem pw_cancel {K a : Int} {v : Vw} (hA : PA K v) (hD : PD v) (h33 : 0 ≤ v 33 a) (h6 : v 6 0 ≤ 20) : PA K (f_cancel a v).2 ∧ PD (f_cancel a v).2 := by
  refine ⟨hA.fr (fun k hk i => fr_cancel k i (by omega)), ?_⟩
  rcases x_cancel a v h33 with ⟨-, -, h⟩ | ⟨-, -, ha, h34, e⟩
  · exact h.pd hD
  · rw [e]
    obtain ⟨d1, d2, d3, d4, d5⟩ := hD
    have e34 : ∀ x, upv (upv v 0 0 0) 34 a 99 34 x = if x = a then 99 else v 34 x := fun x => by simp [upv]
    refine ⟨fun x x0 x1 => ?_, d2, fun o ho => ?_, fun o o0 o1 => ?_, ?_⟩
    · obtain ⟨q1, q2, q3⟩ := d1 x x0 x1
      refine ⟨q1, q2, ?_⟩
      rw [e34]
      show (if v 45 x = a then 99 else v 34 (v 45 x)) = 102
      rw [if_neg (fun z => by rw [z] at q3; omega)]
      exact q3
    · rw [e34] at ho
      by_cases c : o = a
      · rw [if_pos c] at ho
        omega
      · rw [if_neg c] at ho
        exact d3 o ho
    · have q := d4 o o0 o1
      show dlo v o = _
      rw [q, e34]
      show _ = if (if o = a then 99 else v 34 o) = 102 then osm v o else 0
      by_cases c : o = a
      · rw [c, h34, if_pos rfl, if_neg (by decide), if_neg (by decide)]
      · rw [if_neg c]
    · have ho6 : a ≤ 19 := by omega
      have q := fl_one (v := v) (w := upv (upv v 0 0 0) 34 a 99) (b := a) ⟨ha.1, ho6⟩ (fun i hi => by rw [e34, if_neg hi])
      have z1 : flF (upv (upv v 0 0 0) 34 a 99) a = 1 := by unfold flF; rw [e34, if_pos rfl]; decide
      have z2 : flF v a = 1 := by unfold flF; rw [h34]; decide
      show v 11 0 + _ = 20
      omega
/-- a vessel more -/
theorem x_addVessel (k : Int) (v : Vw) (hk : k = 102 ∨ k = 116) (h8 : v 2 0 ≠ 8) : (f_addVessel k v).1 = v 2 0 ∧ (f_addVessel k v).2 0 0 = 0 ∧ (f_addVessel k v).2 2 0 = v 2 0 + 1 ∧ ∀ x, (f_addVessel k v).2 20 x = if x = v 2 0 then (if k = 116 then 1 else 0) else v 20 x := by
  unfold f_addVessel
  rcases hk with rfl | rfl
  · rw [if_pos rfl, if_neg h8, if_neg (by decide)]
    refine ⟨by show v 2 0 + 1 - 1 = _; omega, by simp [upv], by simp [upv], fun x => by simp [upv]⟩
  · rw [if_neg (by decide), if_pos rfl, if_neg h8]
    refine ⟨by show v 2 0 + 1 - 1 = _; omega, by simp [upv], by simp [upv], fun x => by simp [upv]⟩
theorem pw_addVessel {K k : Int} {v : Vw} (hA : PA K v) (hD : PD v) (hk : k = 102 ∨ k = 116) (h8 : v 2 0 ≠ 8) (h2 : 0 ≤ v 2 0) : PA K (f_addVessel k v).2 ∧ PD (f_addVessel k v).2 := by
  refine ⟨?_, hD.fr (fun j hj i => fr_addVessel j i (by omega))⟩
  obtain ⟨-, -, e2, e20⟩ := x_addVessel k v hk h8
  have F : ∀ j, j ≠ 0 ∧ j ≠ 2 ∧ j ≠ 19 ∧ j ≠ 20 → ∀ i, (f_addVessel k v).2 j i = v j i := fun j hj i => fr_addVessel j i hj
  revert F e2 e20
  generalize (f_addVessel k v).2 = w
  intro e2 e20 F
  obtain ⟨⟨a0, a1, a2, a3⟩, p31, hc⟩ := hA
  have f5 := F 5 (by decide)
  have f15 := F 15 (by decide)
  have f16 := F 16 (by decide)
  have f17 := F 17 (by decide)
  have f28 := F 28 (by decide)
  have f29 := F 29 (by decide)
  refine ⟨⟨fun b b0 b5 b4 => ?_, fun x x0 x2 x1 => ?_, fun x x2 => ?_, fun x x3 => ?_⟩, p31.fr (fun j hj i => F j (by omega) i), Int.le_trans (clc_le (v := v) (fun x hx => by rw [f15] at hx; exact hx)) hc⟩
  · rw [f5] at b5
    rw [f28] at b4
    obtain ⟨q0, q1, q2, q3⟩ := a0 b b0 b5 b4
    rw [f29, e2, f15, f16, e20, f28, if_neg (by omega)]
    exact ⟨by omega, q1, q2, q3⟩
  · rw [e2] at x2
    rw [f15] at x1
    by_cases c : x = v 2 0
    · have := a2 x (by omega)
      omega
    · rw [f16, f5, f28, f29]
      exact a1 x x0 (by omega) x1
  · rw [e2] at x2
    rw [f15]
    exact a2 x (by omega)
  · rw [f15] at x3
    rw [f17, e20]
    by_cases c : x = v 2 0
    · have := a2 x (by omega)
      omega
    · rw [if_neg c]
      exact a3 x x3
