/-! the next order, on both sides -/
theorem lget_app {A B : List Int} {j : Int} (h : 0 ≤ j) : lget (A ++ B) j = if j < (A.length : Int) then lget A j else lget B (j - (A.length : Int)) := by
  unfold lget
  rw [List.getD_eq_getElem?_getD]
  by_cases c : j < (A.length : Int)
  · rw [if_pos c, List.getElem?_append_left (by omega), List.getD_eq_getElem?_getD]
  · rw [if_neg c, List.getElem?_append_right (by omega), List.getD_eq_getElem?_getD, show (j - (A.length : Int)).toNat = j.toNat - A.length by omega]
theorem lget_con {x : Int} {X : List Int} {j : Int} (h : 0 ≤ j) : lget (x :: X) j = if j = 0 then x else lget X (j - 1) := by
  by_cases c : j = 0
  · rw [if_pos c, c]
    rfl
  · rw [if_neg c]
    have := lget_cons (x := x) (X := X) (i := j - 1) (by omega)
    rw [show j - 1 + 1 = j by omega] at this
    exact this
theorem lget_rev {X : List Int} {j : Int} (h0 : 0 ≤ j) (h1 : j < (X.length : Int)) : lget X.reverse j = lget X ((X.length : Int) - 1 - j) := by
  unfold lget
  rw [List.getD_eq_getElem?_getD, List.getElem?_reverse (by omega), List.getD_eq_getElem?_getD, show ((X.length : Int) - 1 - j).toNat = X.length - 1 - j.toNat by omega]
theorem lget_set {X : List Int} {i x : Int} {j : Int} (h0 : 0 ≤ i) (h1 : i < (X.length : Int)) (j0 : 0 ≤ j) : lget (X.set i.toNat x) j = if j = i then x else lget X j := by
  unfold lget
  rw [List.getD_eq_getElem?_getD, List.getElem?_set]
  by_cases c : j = i
  · rw [if_pos (by omega), if_pos (by omega), if_pos c]
    rfl
  · rw [if_neg (by omega), if_neg c, List.getD_eq_getElem?_getD]
theorem adj_desc : ∀ {X : List Int}, (∀ j, 0 ≤ j → j + 1 < (X.length : Int) → ¬ lget X j < lget X (j + 1)) → X.Pairwise (fun a b => b ≤ a) := by
  intro X
  induction X with
  | nil => exact fun _ => List.Pairwise.nil
  | cons x X ih =>
    intro h
    have hp := ih (fun j j0 j1 => by
      have := h (j + 1) (by omega) (by rw [List.length_cons]; omega)
      rw [lget_cons j0, lget_cons (by omega)] at this
      exact this)
    rw [List.pairwise_cons]
    refine ⟨fun y hy => ?_, hp⟩
    cases X with
    | nil => cases hy
    | cons z Z =>
      have h0 := h 0 (Int.le_refl 0) (by rw [List.length_cons, List.length_cons]; omega)
      have e : lget (x :: z :: Z) (0 + 1) = z := rfl
      rw [e, lget_c0] at h0
      rcases List.mem_cons.mp hy with q | q
      · omega
      · have := (List.pairwise_cons.mp hp).1 y q
        omega
theorem nx_none {L : List Int} (h : ∀ j, 0 ≤ j → j + 1 < (L.length : Int) → ¬ lget L j < lget L (j + 1)) : np L = none := np_desc (adj_desc h)
theorem nx_some {L L' : List Int} {a b : Int} (h0 : 0 ≤ a) (hab : a < b) (hb : b < (L.length : Int)) (hd : ∀ t, a < t → t + 1 < (L.length : Int) → ¬ lget L t < lget L (t + 1)) (hlt : lget L a < lget L b) (hbd : ∀ t, b < t → t < (L.length : Int) → ¬ lget L a < lget L t) (hl : L'.length = L.length)
    (he : ∀ t, 0 ≤ t → t < (L.length : Int) → lget L' t = if t < a then lget L t else if t = a then lget L b else if a + (L.length : Int) - t = b then lget L a else lget L (a + (L.length : Int) - t)) : np L = some L' := by
  obtain ⟨P, t, e1, e2⟩ := split1 (L := L) (i := a) h0 (by omega)
  have tl : (t.length : Int) = (L.length : Int) - a - 1 := by
    have := congrArg List.length e1
    rw [List.length_append, List.length_cons] at this
    omega
  have tg : ∀ j, 0 ≤ j → lget t j = lget L (a + 1 + j) := fun j j0 => by
    have g : lget (P ++ lget L a :: t) (a + 1 + j) = lget t j := by
      rw [lget_app (by omega), if_neg (by omega), lget_con (by omega), if_neg (by omega)]
      congr 1
      omega
    rw [← e1] at g
    exact g.symm
  obtain ⟨U, V, f1, f2⟩ := split1 (L := t) (i := b - a - 1) (by omega) (by omega)
  have vl : (V.length : Int) = (L.length : Int) - b - 1 := by
    have := congrArg List.length f1
    rw [List.length_append, List.length_cons] at this
    omega
  have ez : lget t (b - a - 1) = lget L b := by
    rw [tg _ (by omega)]
    congr 1
    omega
  rw [ez] at f1
  have vg : ∀ j, 0 ≤ j → lget V j = lget L (b + 1 + j) := fun j j0 => by
    have g : lget (U ++ lget L b :: V) (b - a + j) = lget V j := by
      rw [lget_app (by omega), if_neg (by omega), lget_con (by omega), if_neg (by omega)]
      congr 1
      omega
    rw [← f1, tg _ (by omega)] at g
    rw [← g]
    congr 1
    omega
  have ug : ∀ j, 0 ≤ j → j < b - a - 1 → lget U j = lget L (a + 1 + j) := fun j j0 j1 => by
    have g : lget (U ++ lget L b :: V) j = lget U j := by
      rw [lget_app j0, if_pos (by omega)]
    rw [← f1, tg _ j0] at g
    exact g.symm
  have pg : ∀ j, 0 ≤ j → j < a → lget P j = lget L j := fun j j0 j1 => by
    have g : lget (P ++ lget L a :: t) j = lget P j := by
      rw [lget_app j0, if_pos (by omega)]
    rw [← e1] at g
    exact g.symm
  have td : np t = none := nx_none (fun j j0 j1 => by
    rw [tg j j0, tg (j + 1) (by omega), show a + 1 + (j + 1) = a + 1 + j + 1 by omega]
    exact hd _ (by omega) (by omega))
  have hV : ∀ y ∈ V.reverse, y ≤ lget L a := fun y hy => by
    obtain ⟨j, j0, j1, j2⟩ := mem_lgt (List.mem_reverse.mp hy)
    rw [← j2, vg j j0]
    have := hbd (b + 1 + j) (by omega) (by omega)
    omega
  have hn : np (lget L a :: t) = some (lget L b :: (V.reverse ++ lget L a :: U.reverse)) := by
    rw [np_none td]
    have : t.reverse = V.reverse ++ lget L b :: U.reverse := by
      rw [f1, List.reverse_append, List.reverse_cons, List.append_assoc]
      rfl
    rw [this, sw_app hlt hV]
    rfl
  have hr := np_app hn P
  rw [← e1] at hr
  rw [hr]
  congr 1
  have rl : (P ++ lget L b :: (V.reverse ++ lget L a :: U.reverse)).length = L'.length := by
    rw [List.length_append, List.length_cons, List.length_append, List.length_reverse, List.length_cons, List.length_reverse]
    omega
  refine list_ext rl (fun j j0 j1 => ?_)
  rw [rl] at j1
  rw [he j j0 (by omega), lget_app j0]
  by_cases c1 : j < a
  · rw [if_pos (by omega), if_pos c1, pg j j0 c1]
  · rw [if_neg (by omega), if_neg c1, lget_con (by omega)]
    by_cases c2 : j = a
    · rw [if_pos (by omega), if_pos c2]
    · rw [if_neg (by omega), if_neg c2, lget_app (by omega), List.length_reverse]
      by_cases c3 : j - (P.length : Int) - 1 < (V.length : Int)
      · rw [if_pos c3, if_neg (by omega), lget_rev (by omega) c3, vg _ (by omega)]
        congr 1
        omega
      · rw [if_neg c3, lget_con (by omega)]
        by_cases c4 : a + (L.length : Int) - j = b
        · rw [if_pos (by omega), if_pos c4]
        · rw [if_neg (by omega), if_neg c4, lget_rev (by omega) (by omega), ug _ (by omega) (by omega)]
          congr 1
          omega
/-! the class -/
def swp (X : List Int) (i j : Int) : List Int := (X.set i.toNat (lget X j)).set j.toNat (lget X i)
theorem swp_len {X : List Int} {i j : Int} : (swp X i j).length = X.length := by
  unfold swp
  rw [List.length_set, List.length_set]
theorem swp_at {X : List Int} {i j t : Int} (h0 : 0 ≤ i) (h1 : i < (X.length : Int)) (h2 : 0 ≤ j) (h3 : j < (X.length : Int)) (t0 : 0 ≤ t) : lget (swp X i j) t = if t = j then lget X i else if t = i then lget X j else lget X t := by
  unfold swp
  rw [lget_set h2 (by rw [List.length_set]; exact h3) t0, lget_set h0 h1 t0]
theorem swap_ok {k i j : Int} {c : Cs} {X : List Int} (hk : tel k = 9) (hX : c.2.2.1 k = X) (h0 : 0 ≤ i) (h1 : i < (X.length : Int)) (h2 : 0 ≤ j) (h3 : j < (X.length : Int)) : ok_X5_swap k i j c ∧ g_X5_swap k i j c = clst c k (swp X i j) := by
  unfold ok_X5_swap g_X5_swap
  rw [hX, clst_2, clst_eq]
  refine ⟨⟨hk, ⟨h0, h1⟩, ⟨h2, h3⟩, ⟨h2, ?_⟩, trivial⟩, rfl⟩
  rw [List.length_set]
  exact h3
theorem rev_ok {k : Int} (hk : tel k = 9) : ∀ (n : Nat) (y x : Int) (c : Cs) (X : List Int), c.2.2.1 k = X → X.length ≤ 190 → 0 ≤ x → x ≤ y + 1 → y < (X.length : Int) → (y - x).toNat < n →
    okl_X5_goToNextOrder_125 k n y x c ∧ ∃ Y, l_X5_goToNextOrder_125 k n y x c = (1, clst c k Y) ∧ Y.length = X.length ∧ ∀ t, 0 ≤ t → t < (X.length : Int) → lget Y t = if x ≤ t ∧ t ≤ y then lget X (x + y - t) else lget X t := by
  intro n
  induction n with
  | zero => exact fun _ _ _ _ _ _ _ _ _ h => absurd h (Nat.not_lt_zero _)
  | succ n ih =>
    intro y x c X hX h6 h0 h1 h2 hm
    rw [okl_X5_goToNextOrder_125, l_X5_goToNextOrder_125]
    by_cases c1 : y ≤ x
    · rw [if_pos c1, if_pos c1]
      refine ⟨⟨⟨by omega, by omega⟩, ⟨by omega, by omega⟩, trivial⟩, X, ?_, rfl, fun t t0 t1 => ?_⟩
      · refine Prod.ext rfl (Prod.ext rfl (Prod.ext rfl (Prod.ext (funext fun j => ?_) rfl)))
        show c.2.2.1 j = if j = k then X else c.2.2.1 j
        by_cases e : j = k
        · rw [if_pos e, e, hX]
        · rw [if_neg e]
      · by_cases e : x ≤ t ∧ t ≤ y
        · rw [if_pos e]
          congr 1
          omega
        · rw [if_neg e]
    · rw [if_neg c1, if_neg c1]
      obtain ⟨s1, s2⟩ := swap_ok (k := k) (i := x) (j := y) hk hX h0 (by omega) (by omega) h2
      rw [s2]
      obtain ⟨g1, Y, g2, g3, g4⟩ := ih (y + -1) (x + 1) (clst c k (swp X x y)) (swp X x y) (clst_eq _ _ _) (by rw [swp_len]; exact h6) (by omega) (by omega) (by rw [swp_len]; omega) (by omega)
      rw [clst_2] at g2
      rw [swp_len] at g3 g4
      refine ⟨⟨⟨by omega, by omega⟩, ⟨by omega, by omega⟩, s1, g1⟩, Y, g2, g3, fun t t0 t1 => ?_⟩
      rw [g4 t t0 t1]
      by_cases e : x + 1 ≤ t ∧ t ≤ y + -1
      · rw [if_pos e, if_pos (by omega), swp_at h0 (by omega) (by omega) h2 (by omega), if_neg (by omega), if_neg (by omega)]
        congr 1
        omega
      · rw [if_neg e, swp_at h0 (by omega) (by omega) h2 t0]
        by_cases e2 : t = y
        · rw [if_pos e2, if_pos (by omega)]
          congr 1
          omega
        · rw [if_neg e2]
          by_cases e3 : t = x
          · rw [if_pos e3, if_pos (by omega)]
            congr 1
            omega
          · rw [if_neg e3, if_neg (by omega)]
theorem asc_ok {k : Int} {c : Cs} {v : Vw} {X : List Int} (hN : INV c v) (u1 : v 1 0 ≤ 5) (hk : tel k = 9) (hX : c.2.2.1 k = X) (hx : ∀ x ∈ X, 0 ≤ x ∧ x < v 1 0) (h6 : X.length ≤ 190) : ∀ (n : Nat) (a : Int), -1 ≤ a → a + 1 < (X.length : Int) → (a + 1).toNat < n → (∀ t, a < t → t + 1 < (X.length : Int) → ¬ lget X t < lget X (t + 1)) →
    okl_X5_goToNextOrder_9 k c n a ∧ (-1 ≤ l_X5_goToNextOrder_9 k c n a ∧ l_X5_goToNextOrder_9 k c n a ≤ a) ∧ (0 ≤ l_X5_goToNextOrder_9 k c n a → lget X (l_X5_goToNextOrder_9 k c n a) < lget X (l_X5_goToNextOrder_9 k c n a + 1)) ∧ ∀ t, l_X5_goToNextOrder_9 k c n a < t → t + 1 < (X.length : Int) → ¬ lget X t < lget X (t + 1) := by
  intro n
  induction n with
  | zero => exact fun _ _ _ h => absurd h (Nat.not_lt_zero _)
  | succ n ih =>
    intro a h0 h1 hm hd
    rw [okl_X5_goToNextOrder_9, l_X5_goToNextOrder_9, hX]
    by_cases c1 : a < 0
    · rw [if_pos c1, if_pos c1]
      exact ⟨⟨⟨by omega, by omega⟩, trivial⟩, ⟨h0, Int.le_refl _⟩, fun q => by omega, hd⟩
    · have m1 := hx _ (lget_mem (xs := X) (z := a) (by omega) (by omega))
      have m2 := hx _ (lget_mem (xs := X) (z := a + 1) (by omega) (by omega))
      rw [if_neg c1, if_neg c1, (hN.1.cr.2 _ m1.1 m1.2).1, (hN.1.cr.2 _ m2.1 m2.2).1]
      by_cases c2 : lget X a < lget X (a + 1)
      · rw [if_pos c2, if_pos c2]
        exact ⟨⟨⟨by omega, by omega⟩, hk, ⟨by omega, by omega⟩, ⟨by omega, by omega⟩, ⟨by omega, by omega⟩, ⟨by omega, by omega⟩, trivial⟩, ⟨h0, Int.le_refl _⟩, fun _ => c2, hd⟩
      · rw [if_neg c2, if_neg c2]
        obtain ⟨g1, g2, g3, g4⟩ := ih (a + -1) (by omega) (by omega) (by omega) (fun t t0 t1 => by
          by_cases e : t = a
          · rw [e]
            exact c2
          · exact hd t (by omega) t1)
        exact ⟨⟨⟨by omega, by omega⟩, hk, ⟨by omega, by omega⟩, ⟨by omega, by omega⟩, ⟨by omega, by omega⟩, ⟨by omega, by omega⟩, g1⟩, ⟨g2.1, by omega⟩, g3, g4⟩
theorem last_ok {k a : Int} {c : Cs} {v : Vw} {X : List Int} (hN : INV c v) (u1 : v 1 0 ≤ 5) (hk : tel k = 9) (hX : c.2.2.1 k = X) (hx : ∀ x ∈ X, 0 ≤ x ∧ x < v 1 0) (h6 : X.length ≤ 190) (a0 : 0 ≤ a) (a1 : a + 1 < (X.length : Int)) (ha : lget X a < lget X (a + 1)) : ∀ (n : Nat) (b : Int), a < b → b < (X.length : Int) → (b - a).toNat < n → (∀ t, b < t → t < (X.length : Int) → ¬ lget X a < lget X t) →
    okl_X5_goToNextOrder_65 k a c n b ∧ (a < l_X5_goToNextOrder_65 k a c n b ∧ l_X5_goToNextOrder_65 k a c n b ≤ b) ∧ lget X a < lget X (l_X5_goToNextOrder_65 k a c n b) ∧ ∀ t, l_X5_goToNextOrder_65 k a c n b < t → t < (X.length : Int) → ¬ lget X a < lget X t := by
  intro n
  induction n with
  | zero => exact fun _ _ _ h => absurd h (Nat.not_lt_zero _)
  | succ n ih =>
    intro b h0 h1 hm hd
    rw [okl_X5_goToNextOrder_65, l_X5_goToNextOrder_65, hX]
    have m1 := hx _ (lget_mem (xs := X) (z := a) (by omega) (by omega))
    have m2 := hx _ (lget_mem (xs := X) (z := b) (by omega) (by omega))
    rw [if_neg (show ¬ b ≤ a by omega), if_neg (show ¬ b ≤ a by omega), (hN.1.cr.2 _ m1.1 m1.2).1, (hN.1.cr.2 _ m2.1 m2.2).1]
    by_cases c2 : lget X a < lget X b
    · rw [if_pos c2, if_pos c2]
      exact ⟨⟨⟨by omega, by omega⟩, ⟨by omega, by omega⟩, hk, ⟨by omega, by omega⟩, ⟨by omega, by omega⟩, ⟨by omega, by omega⟩, ⟨by omega, by omega⟩, trivial⟩, ⟨h0, Int.le_refl _⟩, c2, hd⟩
    · rw [if_neg c2, if_neg c2]
      have hb1 : ¬ b = a + 1 := fun e => by rw [e] at c2; exact c2 ha
      obtain ⟨g1, g2, g3, g4⟩ := ih (b + -1) (by omega) (by omega) (by omega) (fun t t0 t1 => by
        by_cases e : t = b
        · rw [e]
          exact c2
        · exact hd t (by omega) t1)
      exact ⟨⟨⟨by omega, by omega⟩, ⟨by omega, by omega⟩, hk, ⟨by omega, by omega⟩, ⟨by omega, by omega⟩, ⟨by omega, by omega⟩, ⟨by omega, by omega⟩, g1⟩, ⟨g2.1, by omega⟩, g3, g4⟩
theorem next_ok {k : Int} {c : Cs} {v : Vw} {T E : Int} {X : List Int} (hN : INV c v) (hI : IM v T E) (hk : tel k = 9) (hX : c.2.2.1 k = X) (hx : ∀ x ∈ X, 0 ≤ x ∧ x < v 1 0) (h6 : X.length ≤ 190) (h1 : 1 ≤ X.length) :
    ok_X5_goToNextOrder k c ∧ ((np X = none ∧ g_X5_goToNextOrder k c = (0, c)) ∨ ∃ Y, np X = some Y ∧ g_X5_goToNextOrder k c = (1, clst c k Y)) := by
  have u1 : 0 ≤ v 1 0 ∧ v 1 0 ≤ 5 := hI.2 1 0
  obtain ⟨a1, a2, a3, a4⟩ := asc_ok (k := k) hN u1.2 hk hX hx h6 fu ((X.length : Int) - 2) (by omega) (by omega) (fuw (by omega)) (fun t t0 t1 => by omega)
  unfold ok_X5_goToNextOrder g_X5_goToNextOrder
  rw [hX]
  revert a1 a2 a3 a4
  generalize l_X5_goToNextOrder_9 k c fu ((X.length : Int) - 2) = a
  intro a1 a2 a3 a4
  by_cases c1 : 0 ≤ a
  · rw [if_pos c1, if_pos c1]
    obtain ⟨b1, b2, b3, b4⟩ := last_ok (k := k) hN u1.2 hk hX hx h6 c1 (by omega) (a3 c1) fu ((X.length : Int) - 1) (by omega) (by omega) (fuw (by omega)) (fun t t0 t1 => by omega)
    revert b1 b2 b3 b4
    generalize l_X5_goToNextOrder_65 k a c fu ((X.length : Int) - 1) = b
    intro b1 b2 b3 b4
    obtain ⟨s1, s2⟩ := swap_ok (k := k) (i := a) (j := b) hk hX c1 (by omega) (by omega) (by omega)
    rw [s2, clst_eq, swp_len]
    obtain ⟨g1, Y, g2, g3, g4⟩ := rev_ok hk fu ((X.length : Int) - 1) (a + 1) (clst c k (swp X a b)) (swp X a b) (clst_eq _ _ _) (by rw [swp_len]; exact h6) (by omega) (by omega) (by rw [swp_len]; omega) (fuw (by omega))
    rw [clst_2] at g2
    rw [swp_len] at g3 g4
    refine ⟨⟨a1, ⟨by omega, by omega⟩, b1, s1, g1⟩, Or.inr ⟨Y, ?_, g2⟩⟩
    refine nx_some c1 b2.1 (by omega) a4 b3 b4 g3 (fun t t0 t1 => ?_)
    rw [g4 t t0 t1]
    by_cases e1 : t < a
    · rw [if_neg (by omega), if_pos e1, swp_at c1 (by omega) (by omega) (by omega) t0, if_neg (by omega), if_neg (by omega)]
    · rw [if_neg e1]
      by_cases e2 : t = a
      · rw [if_neg (by omega), if_pos e2, swp_at c1 (by omega) (by omega) (by omega) t0, if_neg (by omega), if_pos e2]
      · rw [if_pos (by omega), if_neg e2, swp_at c1 (by omega) (by omega) (by omega) (by omega)]
        have ei : a + 1 + ((X.length : Int) - 1) - t = a + (X.length : Int) - t := by omega
        rw [ei]
        by_cases e3 : a + (X.length : Int) - t = b
        · rw [if_pos e3, if_pos e3]
        · rw [if_neg e3, if_neg e3, if_neg (by omega)]
  · rw [if_neg c1, if_neg c1]
    exact ⟨⟨a1, ⟨by omega, by omega⟩, trivial⟩, Or.inl ⟨nx_none (fun j j0 j1 => a4 j (by omega) j1), rfl⟩⟩
