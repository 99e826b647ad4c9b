/-! sorting, on both sides -/
theorem ins_perm {r : Int} : ∀ (X : List Int) (p : Nat), (insL X p r).Perm (r :: X) := by
  intro X
  induction X with
  | nil => intro p; cases p <;> exact List.Perm.refl _
  | cons x X ih =>
    intro p
    cases p with
    | zero => exact List.Perm.refl _
    | succ p => exact ((ih p).cons x).trans (List.Perm.swap r x X)
theorem lget_cons {x : Int} {X : List Int} {i : Int} (h : 0 ≤ i) : lget (x :: X) (i + 1) = lget X i := by
  unfold lget
  rw [show (i + 1).toNat = i.toNat + 1 by omega]
  rfl
theorem lget_c0 {x : Int} {X : List Int} : lget (x :: X) 0 = x := rfl
theorem mem_lgt {X : List Int} {y : Int} (h : y ∈ X) : ∃ j, 0 ≤ j ∧ j < (X.length : Int) ∧ lget X j = y := by
  obtain ⟨k, k1, k2⟩ := List.getElem_of_mem h
  refine ⟨(k : Int), by omega, by omega, ?_⟩
  unfold lget
  rw [List.getD_eq_getElem?_getD, Int.toNat_natCast, List.getElem?_eq_getElem k1]
  exact k2
theorem ins_srt {r : Int} : ∀ (X : List Int) (p : Int), Srt X → 0 ≤ p → p ≤ (X.length : Int) → (p = 0 ∨ lget X (p - 1) ≤ r) → (∀ j, p ≤ j → j < (X.length : Int) → r < lget X j) → Srt (insL X p.toNat r) := by
  intro X
  induction X with
  | nil =>
    intro p h h0 h1 _ _
    cases p.toNat <;> exact List.pairwise_singleton _ _
  | cons x X ih =>
    intro p h h0 h1 h2 h3
    have hx := h
    rw [Srt, List.pairwise_cons] at h
    by_cases e : p = 0
    · subst e
      show Srt (r :: x :: X)
      rw [Srt, List.pairwise_cons]
      refine ⟨fun y hy => ?_, hx⟩
      obtain ⟨j, j0, j1, j2⟩ := mem_lgt hy
      have := h3 j (by omega) j1
      omega
    · have hp : p.toNat = (p - 1).toNat + 1 := by omega
      rw [List.length_cons] at h1
      have hle : x ≤ r := by
        have q := h2.resolve_left e
        by_cases e1 : p = 1
        · subst e1
          exact q
        · have e2 : lget (x :: X) (p - 1) = lget X (p - 2) := by
            rw [show p - 1 = (p - 2) + 1 by omega]
            exact lget_cons (by omega)
          rw [e2] at q
          have := h.1 _ (lget_mem (xs := X) (z := p - 2) (by omega) (by omega))
          omega
      rw [hp]
      show Srt (x :: insL X (p - 1).toNat r)
      rw [Srt, List.pairwise_cons]
      refine ⟨fun y hy => ?_, ih (p - 1) h.2 (by omega) (by omega) ?_ (fun j j0 j1 => ?_)⟩
      · rcases List.mem_cons.mp ((ins_perm X (p - 1).toNat).subset hy) with q | q
        · omega
        · exact h.1 y q
      · by_cases e1 : p = 1
        · exact Or.inl (by omega)
        · refine Or.inr ?_
          have q := h2.resolve_left e
          have e2 : lget (x :: X) (p - 1) = lget X (p - 1 - 1) := by
            rw [show p - 1 = (p - 1 - 1) + 1 by omega]
            rw [lget_cons (by omega)]
            congr 1
            omega
          rw [e2] at q
          exact q
      · have := h3 (j + 1) (by omega) (by rw [List.length_cons]; omega)
        rw [lget_cons (by omega)] at this
        exact this
/-! the class -/
theorem cs37 {l k i r : Int} {c : Cs} {v : Vw} (hN : INV c v) (hk : tel k = 9) (hl : (c.2.2.1 k).length ≤ 190) (hx : ∀ x ∈ c.2.2.1 k, 0 ≤ x ∧ x < v 1 0) (hr : 0 ≤ r ∧ r < v 1 0) (u1 : v 1 0 ≤ 5) : ∀ (n : Nat) (p : Int), 0 ≤ p → p ≤ ((c.2.2.1 k).length : Int) → p.toNat < n →
    okl_X5_copySorted_37 l k i r c n p ∧ (0 ≤ l_X5_copySorted_37 l k i r c n p ∧ l_X5_copySorted_37 l k i r c n p ≤ p) ∧ (l_X5_copySorted_37 l k i r c n p = 0 ∨ lget (c.2.2.1 k) (l_X5_copySorted_37 l k i r c n p - 1) ≤ r) ∧ ∀ j, l_X5_copySorted_37 l k i r c n p ≤ j → j < p → r < lget (c.2.2.1 k) j := by
  have er := (hN.1.cr.2 r hr.1 hr.2).1
  intro n
  induction n with
  | zero => exact fun _ _ _ h => absurd h (Nat.not_lt_zero _)
  | succ n ih =>
    intro p h0 h1 hm
    rw [okl_X5_copySorted_37, l_X5_copySorted_37]
    by_cases c1 : p ≤ 0
    · rw [if_pos c1, if_pos c1]
      exact ⟨⟨⟨by omega, by omega⟩, trivial⟩, ⟨h0, Int.le_refl _⟩, Or.inl (by omega), fun j j0 j1 => by omega⟩
    · have hm2 := hx _ (lget_mem (xs := c.2.2.1 k) (z := p - 1) (by omega) (by omega))
      have ex := (hN.1.cr.2 _ hm2.1 hm2.2).1
      rw [if_neg c1, if_neg c1, ex, er]
      by_cases c2 : lget (c.2.2.1 k) (p - 1) ≤ r
      · rw [if_pos c2, if_pos c2]
        exact ⟨⟨⟨by omega, by omega⟩, hk, ⟨by omega, by omega⟩, ⟨by omega, by omega⟩, ⟨by omega, by omega⟩, trivial⟩, ⟨h0, Int.le_refl _⟩, Or.inr c2, fun j j0 j1 => by omega⟩
      · rw [if_neg c2, if_neg c2]
        obtain ⟨g1, g2, g3, g4⟩ := ih (p + -1) (by omega) (by omega) (by omega)
        refine ⟨⟨⟨by omega, by omega⟩, hk, ⟨by omega, by omega⟩, ⟨by omega, by omega⟩, ⟨by omega, by omega⟩, g1⟩, ⟨g2.1, by omega⟩, g3, fun j j0 j1 => ?_⟩
        by_cases e : j = p - 1
        · rw [e]
          omega
        · exact g4 j j0 (by omega)
theorem cs8 {l k : Int} {v : Vw} {L : List Int} (hlk : l ≠ k) (ht : tel l = 9) (hk : tel k = 9) (h12 : 10 ≤ k ∧ k ≤ 12) (hx : ∀ x ∈ L, 0 ≤ x ∧ x < v 1 0) (h6 : L.length ≤ 190) (u1 : v 1 0 ≤ 5) : ∀ (n : Nat) (i : Int) (c : Cs), INV c v → c.2.2.1 l = L → Srt (c.2.2.1 k) → (c.2.2.1 k).Perm (L.take i.toNat) → 0 ≤ i → i ≤ (L.length : Int) → ((L.length : Int) - i).toNat < n →
    okl_X5_copySorted_8 l k n i c ∧ ∃ Y, l_X5_copySorted_8 l k n i c = clst c k Y ∧ Srt Y ∧ Y.Perm L := by
  intro n
  induction n with
  | zero => exact fun _ _ _ _ _ _ _ _ h => absurd h (Nat.not_lt_zero _)
  | succ n ih =>
    intro i c hN hL hs hp h0 h1 hm
    rw [okl_X5_copySorted_8, l_X5_copySorted_8, hL]
    have hlen := hp.length_eq
    rw [List.length_take] at hlen
    by_cases c1 : (L.length : Int) ≤ i
    · rw [if_pos c1, if_pos c1]
      rw [List.take_of_length_le (by omega)] at hp
      refine ⟨⟨⟨by omega, by omega⟩, trivial⟩, c.2.2.1 k, ?_, hs, hp⟩
      refine Prod.ext rfl (Prod.ext rfl (Prod.ext (funext fun j => ?_) rfl))
      show c.2.2.1 j = if j = k then c.2.2.1 k else c.2.2.1 j
      by_cases e : j = k
      · rw [if_pos e, e]
      · rw [if_neg e]
    · rw [if_neg c1, if_neg c1]
      have hr := hx _ (lget_mem h0 (show i < (L.length : Int) by omega))
      have hxk : ∀ x ∈ c.2.2.1 k, 0 ≤ x ∧ x < v 1 0 := fun x m => hx x (List.take_subset _ _ (hp.subset m))
      obtain ⟨g1, g2, g3, g4⟩ := cs37 (l := l) (i := i) hN hk (by omega) hxk hr u1 fu ((c.2.2.1 k).length : Int) (by omega) (Int.le_refl _) (fuw (by omega))
      revert g1 g2 g3 g4
      generalize l_X5_copySorted_37 l k i (lget L i) c fu ((c.2.2.1 k).length : Int) = p
      intro g1 g2 g3 g4
      have e : L.take (i + 1).toNat = L.take i.toNat ++ [lget L i] := by
        have hi : i.toNat < L.length := by omega
        rw [show (i + 1).toNat = i.toNat + 1 by omega, List.take_succ_eq_append_getElem hi]
        congr 1
        unfold lget
        rw [List.getD_eq_getElem?_getD, List.getElem?_eq_getElem hi]
        rfl
      obtain ⟨j1, Y, j2, j3, j4⟩ := ih (i + 1) (clst c k (insL (c.2.2.1 k) p.toNat (lget L i))) (hN.fx (FX.lst h12)) ((clst_ne c hlk).trans hL) (by rw [clst_eq]; exact ins_srt _ p hs g2.1 g2.2 g3 g4) (by
        rw [clst_eq, e]
        exact (ins_perm _ _).trans ((hp.cons _).trans (List.perm_append_singleton _ _).symm)) (by omega) (by omega) (by omega)
      rw [clst_2] at j2
      exact ⟨⟨⟨by omega, by omega⟩, ht, ⟨h0, by omega⟩, g1, hk, by omega, ⟨g2.1, g2.2⟩, j1⟩, Y, j2, j3, j4⟩
theorem copyS_ok {l k : Int} {v : Vw} {c : Cs} {T E : Int} (hN : INV c v) (hI : IM v T E) (hlk : l ≠ k) (ht : tel l = 9) (hk : tel k = 9) (h12 : 10 ≤ k ∧ k ≤ 12) (hx : ∀ x ∈ c.2.2.1 l, 0 ≤ x ∧ x < v 1 0) (h6 : (c.2.2.1 l).length ≤ 190) : ok_X5_copySorted l k c ∧ ∃ Y, g_X5_copySorted l k c = clst c k Y ∧ Srt Y ∧ Y.Perm (c.2.2.1 l) := by
  have u1 : 0 ≤ v 1 0 ∧ v 1 0 ≤ 5 := hI.2 1 0
  obtain ⟨g1, Y, g2, g3, g4⟩ := cs8 hlk ht hk h12 hx h6 u1.2 fu 0 (clst c k []) (hN.fx (FX.lst h12)) (clst_ne c hlk) (by rw [clst_eq]; exact List.Pairwise.nil) (by rw [clst_eq]; exact List.Perm.refl _) (Int.le_refl 0) (by omega) (fuw (by omega))
  rw [clst_2] at g2
  exact ⟨g1, Y, g2, g3, g4⟩
/-! the reference -/
theorem fi12 {k : Int} : ∀ (n : Nat) (a : Int) (v : Vw), 0 ≤ a → a.toNat < n → (0 ≤ (l_finds_12 k n a v).1 ∧ (l_finds_12 k n a v).1 ≤ a) ∧ ((l_finds_12 k n a v).1 = 0 ∨ v 40 ((l_finds_12 k n a v).1 - 1) ≤ v 39 k) ∧ (∀ j, (l_finds_12 k n a v).1 ≤ j → j < a → v 39 k < v 40 j) ∧ ∀ j, (l_finds_12 k n a v).2 40 j = if (l_finds_12 k n a v).1 < j ∧ j ≤ a then v 40 (j - 1) else v 40 j := by
  intro n
  induction n with
  | zero => exact fun _ _ _ h => absurd h (Nat.not_lt_zero _)
  | succ n ih =>
    intro a v h0 hm
    rw [l_finds_12]
    by_cases c1 : a ≤ 0
    · rw [if_pos c1]
      exact ⟨⟨h0, Int.le_refl _⟩, Or.inl (by show a = 0; omega), fun j j0 j1 => by have : a ≤ j := j0; omega, fun j => by rw [if_neg (by show ¬ (a < j ∧ j ≤ a); omega)]⟩
    · rw [if_neg c1]
      by_cases c2 : v 40 (a - 1) ≤ v 39 k
      · rw [if_pos c2]
        exact ⟨⟨h0, Int.le_refl _⟩, Or.inr c2, fun j j0 j1 => by have : a ≤ j := j0; omega, fun j => by rw [if_neg (by show ¬ (a < j ∧ j ≤ a); omega)]⟩
      · rw [if_neg c2]
        obtain ⟨g1, g2, g3, g4⟩ := ih (a + -1) (upv v 40 a (v 40 (a - 1))) (by omega) (by omega)
        revert g1 g2 g3 g4
        generalize l_finds_12 k n (a + -1) (upv v 40 a (v 40 (a - 1))) = R
        intro g1 g2 g3 g4
        have e39 : upv v 40 a (v 40 (a - 1)) 39 k = v 39 k := upv_nk (by decide)
        have e40 : ∀ j, j ≠ a → upv v 40 a (v 40 (a - 1)) 40 j = v 40 j := fun j hj => upv_ni hj
        refine ⟨⟨g1.1, by omega⟩, ?_, fun j j0 j1 => ?_, fun j => ?_⟩
        · rcases g2 with q | q
          · exact Or.inl q
          · rw [e39, e40 _ (by omega)] at q
            exact Or.inr q
        · by_cases e : j = a - 1
          · rw [e]
            omega
          · have := g3 j j0 (by omega)
            rw [e39, e40 _ (by omega)] at this
            exact this
        · rw [g4 j]
          by_cases c3 : R.1 < j ∧ j ≤ a
          · rw [if_pos c3]
            by_cases e : j = a
            · rw [if_neg (by omega), e, upv_eq]
            · rw [if_pos (by omega), e40 _ (by omega)]
          · rw [if_neg c3, if_neg (by omega)]
            by_cases e : j = a
            · omega
            · exact e40 j e
theorem list_ext {X Y : List Int} (hl : X.length = Y.length) (h : ∀ j, 0 ≤ j → j < (X.length : Int) → lget X j = lget Y j) : X = Y := by
  refine List.ext_getElem hl (fun i h1 h2 => ?_)
  have := h (i : Int) (by omega) (by omega)
  unfold lget at this
  rw [List.getD_eq_getElem?_getD, List.getD_eq_getElem?_getD, Int.toNat_natCast, List.getElem?_eq_getElem h1, List.getElem?_eq_getElem h2] at this
  exact this
theorem lget_ins {X : List Int} {p : Int} {r : Int} (h0 : 0 ≤ p) (h1 : p ≤ (X.length : Int)) {j : Int} (j0 : 0 ≤ j) : lget (insL X p.toNat r) j = if j < p then lget X j else if j = p then r else lget X (j - 1) := by
  unfold lget
  rw [List.getD_eq_getElem?_getD, insL_get X p.toNat j.toNat (by omega)]
  by_cases c1 : j < p
  · rw [if_pos (by omega), if_pos c1, List.getD_eq_getElem?_getD]
  · by_cases c2 : j = p
    · rw [if_neg (by omega), if_pos (by omega), if_neg c1, if_pos c2]
      rfl
    · rw [if_neg (by omega), if_neg (by omega), if_neg c1, if_neg c2, List.getD_eq_getElem?_getD, show (j - 1).toNat = j.toNat - 1 by omega]
theorem fi2 : ∀ (n : Nat) (k : Int) (v : Vw), 0 ≤ k → k ≤ v 7 0 → (v 7 0 - k).toNat < n → Srt ((rng k).map (v 40)) → ((rng k).map (v 40)).Perm ((rng k).map (v 39)) → Srt ((rng (v 7 0)).map (l_finds_2 n k v 40)) ∧ ((rng (v 7 0)).map (l_finds_2 n k v 40)).Perm ((rng (v 7 0)).map (v 39)) := by
  intro n
  induction n with
  | zero => exact fun _ _ _ _ h => absurd h (Nat.not_lt_zero _)
  | succ n ih =>
    intro k v h0 h1 hm hs hp
    rw [l_finds_2]
    by_cases c1 : v 7 0 ≤ k
    · rw [if_pos c1]
      have : k = v 7 0 := by omega
      subst this
      exact ⟨hs, hp⟩
    · rw [if_neg c1]
      obtain ⟨g1, g2, g3, g4⟩ := fi12 (k := k) ((k).toNat + 1) k v h0 (by omega)
      have F : ∀ j i, j ≠ 40 → (l_finds_12 k ((k).toNat + 1) k v).2 j i = v j i := fun j i hj => fr_l_finds_12 _ _ _ j i hj
      revert g1 g2 g3 g4 F
      generalize l_finds_12 k ((k).toNat + 1) k v = R
      intro g1 g2 g3 g4 F
      have e7 : upv R.2 40 R.1 (v 39 k) 7 0 = v 7 0 := (upv_nk (by decide)).trans (F 7 0 (by decide))
      have e39 : ∀ i, upv R.2 40 R.1 (v 39 k) 39 i = v 39 i := fun i => (upv_nk (by decide)).trans (F 39 i (by decide))
      have hl := map_len (f := v 40) h0
      have el : (rng (k + 1)).map (upv R.2 40 R.1 (v 39 k) 40) = insL ((rng k).map (v 40)) R.1.toNat (v 39 k) := by
        have hl1 := map_len (f := upv R.2 40 R.1 (v 39 k) 40) (show 0 ≤ k + 1 by omega)
        have hl2 := insL_len (x := v 39 k) ((rng k).map (v 40)) R.1.toNat (by omega)
        refine list_ext (by omega) (fun j j0 j1 => ?_)
        rw [lget_map j0 (by omega), lget_ins g1.1 (by omega) j0]
        by_cases e : j = R.1
        · rw [if_neg (by omega), if_pos e, e]
          exact upv_eq _ _ _ _
        · rw [if_neg e, upv_ni e, g4 j]
          by_cases c2 : j < R.1
          · rw [if_neg (by omega), if_pos c2, lget_map j0 (by omega)]
          · rw [if_pos (by omega), if_neg c2, lget_map (by omega) (by omega)]
      have g := ih (k + 1) (upv R.2 40 R.1 (v 39 k)) (by omega) (by omega) (by omega) (by
        rw [el]
        refine ins_srt _ R.1 hs g1.1 (by omega) ?_ (fun j j0 j1 => ?_)
        · rcases g2 with q | q
          · exact Or.inl q
          · by_cases ez : R.1 = 0
            · exact Or.inl ez
            · rw [lget_map (by omega) (by omega)]
              exact Or.inr q
        · rw [lget_map (by omega) (by omega)]
          exact g3 j j0 (by omega)) (by
        rw [el, map_rng_congr (g := v 39) (fun i _ _ => e39 i), rng_succ h0, List.map_append]
        exact (ins_perm _ _).trans ((hp.cons _).trans (List.perm_append_singleton _ _).symm))
      rw [e7, map_rng_congr (f := upv R.2 40 R.1 (v 39 k) 39) (g := v 39) (fun i _ _ => e39 i)] at g
      exact g
