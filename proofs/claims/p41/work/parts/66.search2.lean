/-! the class's search: its loop, its depth -/
theorem loop_ok {v : Vw} {T E : Int} {V : List Int → Int} {S : Int → Int → Cs → Cs} {O : Int → Int → Cs → Prop} {k : Nat} (hI : IM v T E) (hS : SrOK v V S O k) {h u M : Int} : ∀ (m : Nat) (i : Int) (c : Cs), INV c v → 1 ≤ (c.1 10).toNat → (c.2.2.1 11).length = k + 1 → 0 ≤ h → h + (k : Int) + 1 ≤ 6 → ((c.2.2.1 12).length : Int) = h → (∀ x ∈ c.2.2.1 11, 0 ≤ x ∧ x < v 1 0) → Sb (c.1 10).toNat M (cfs c) → M + 17 * ((k : Int) + 1) ≤ 1000000 → (0 ≤ u ∧ u ≤ 2000000) → (0 ≤ c.2.1 8 4 0 ∧ c.2.1 8 4 0 ≤ 2000001) → (∀ p, V (c.2.2.1 12 ++ p) = fcu (c.1 10).toNat (v 13) (v 12) p (cfs c) u) → 0 ≤ i → i ≤ (k : Int) + 1 → ((k : Int) + 1 - i).toNat < m →
    okl_X5_search_69 S O h u (pk (c.2.1 10 1) (c.1 10).toNat) ((cfs c).1 (pk (c.2.1 10 1) (c.1 10).toNat)) ((cfs c).2 (pk (c.2.1 10 1) (c.1 10).toNat)) m i c ∧ ∃ C, l_X5_search_69 S h u (pk (c.2.1 10 1) (c.1 10).toNat) ((cfs c).1 (pk (c.2.1 10 1) (c.1 10).toNat)) ((cfs c).2 (pk (c.2.1 10 1) (c.1 10).toNat)) m i c = C ∧ (FX c C ∧ C.2.2.1 11 = c.2.2.1 11 ∧ C.2.2.1 12 = c.2.2.1 12 ∧ cfs C = cfs c) ∧ Acc C = ((lpB (lp k) (c.2.2.1 11) ((k : Int) + 1 - i).toNat i).map (fun p => c.2.2.1 12 ++ p)).foldl (bst V) (Acc c) := by
  intro m
  induction m with
  | zero => exact fun _ _ _ _ _ _ _ _ _ _ _ _ _ _ _ _ h => absurd h (Nat.not_lt_zero _)
  | succ m ih =>
    intro i c hN hK hl h0 h6 hp hx hB hM hu hb hV i0 i1 hm
    have hll : ((c.2.2.1 11).length : Int) = (k : Int) + 1 := by omega
    rw [okl_X5_search_69, l_X5_search_69, hll]
    by_cases c1 : (k : Int) + 1 ≤ i
    · have e : ((k : Int) + 1 - i).toNat = 0 := by omega
      rw [e]
      by_cases c6 : 6 ≤ i
      · rw [if_pos c6, if_pos c6]
        exact ⟨⟨⟨by omega, by omega⟩, trivial⟩, c, rfl, ⟨FX.refl c, rfl, rfl, rfl⟩, rfl⟩
      · rw [if_neg c6, if_neg c6, if_pos c1, if_pos c1]
        exact ⟨⟨⟨by omega, by omega⟩, trivial⟩, c, rfl, ⟨FX.refl c, rfl, rfl, rfl⟩, rfl⟩
    · rw [if_neg (show ¬ 6 ≤ i by omega), if_neg (show ¬ 6 ≤ i by omega), if_neg c1, if_neg c1]
      have e : ((k : Int) + 1 - i).toNat = ((k : Int) + 1 - (i + 1)).toNat + 1 := by omega
      rw [e, lpB]
      -- the place is looked into
      have go : ∀ (hne : ¬ (i ≠ 0 ∧ lget (c.2.2.1 11) i = lget (c.2.2.1 11) (i - 1))), (((((clst c 11 (remL (c.2.2.1 11) i.toNat)).2.2.1 12).length : Int) ≤ 199 ∧ ok_X7_plan (pk (c.2.1 10 1) (c.1 10).toNat) (lget (c.2.2.1 11) i) (sC1 i c) ∧ R32 u ∧ R32 (sPl (pk (c.2.1 10 1) (c.1 10).toNat) i c).1 ∧ O (h + 1) (if u < (sPl (pk (c.2.1 10 1) (c.1 10).toNat) i c).1 then (sPl (pk (c.2.1 10 1) (c.1 10).toNat) i c).1 else u) (sPl (pk (c.2.1 10 1) (c.1 10).toNat) i c).2 ∧ ok_X5_undoLast i (lget (c.2.2.1 11) i) (sGo S h u (pk (c.2.1 10 1) (c.1 10).toNat) i c) ∧ okl_X5_search_69 S O h u (pk (c.2.1 10 1) (c.1 10).toNat) ((cfs c).1 (pk (c.2.1 10 1) (c.1 10).toNat)) ((cfs c).2 (pk (c.2.1 10 1) (c.1 10).toNat)) m (i + 1) (sBd S h u (pk (c.2.1 10 1) (c.1 10).toNat) ((cfs c).1 (pk (c.2.1 10 1) (c.1 10).toNat)) ((cfs c).2 (pk (c.2.1 10 1) (c.1 10).toNat)) i c))) ∧ ∃ C, l_X5_search_69 S h u (pk (c.2.1 10 1) (c.1 10).toNat) ((cfs c).1 (pk (c.2.1 10 1) (c.1 10).toNat)) ((cfs c).2 (pk (c.2.1 10 1) (c.1 10).toNat)) m (i + 1) (sBd S h u (pk (c.2.1 10 1) (c.1 10).toNat) ((cfs c).1 (pk (c.2.1 10 1) (c.1 10).toNat)) ((cfs c).2 (pk (c.2.1 10 1) (c.1 10).toNat)) i c) = C ∧ (FX c C ∧ C.2.2.1 11 = c.2.2.1 11 ∧ C.2.2.1 12 = c.2.2.1 12 ∧ cfs C = cfs c) ∧ Acc C = (((if i ≠ 0 ∧ lget (c.2.2.1 11) i = lget (c.2.2.1 11) (i - 1) then [] else (lp k (remL (c.2.2.1 11) i.toNat)).map (fun p => lget (c.2.2.1 11) i :: p)) ++ lpB (lp k) (c.2.2.1 11) ((k : Int) + 1 - (i + 1)).toNat (i + 1)).map (fun p => c.2.2.1 12 ++ p)).foldl (bst V) (Acc c) := fun hne => by
        obtain ⟨⟨z1, z2, z3, z4, z5, z6⟩, C, z7, ⟨y1, y2, y3, y4⟩, y5⟩ := body_ok hI hS hN hK hl h0 h6 hp hx hB hM hu hb hV i0 (by omega)
        rw [z7, if_neg hne, List.map_append, List.foldl_append, ← y5]
        have e10 : C.1 10 = c.1 10 := by rw [y1.1]
        have ep : pk (C.2.1 10 1) (C.1 10).toNat = pk (c.2.1 10 1) (c.1 10).toNat := by
          rw [e10, show C.2.1 10 1 = c.2.1 10 1 from congrArg Prod.fst y4]
        have hb' : 0 ≤ C.2.1 8 4 0 ∧ C.2.1 8 4 0 ≤ 2000001 := by
          have f1 := congrArg Prod.fst y5
          have f2 := (bst_le (val := V) (X := ((lp k (remL (c.2.2.1 11) i.toNat)).map (fun p => lget (c.2.2.1 11) i :: p)).map (fun p => c.2.2.1 12 ++ p)) (a := Acc c)).1
          have f3 := bst_nn (V := V) (X := ((lp k (remL (c.2.2.1 11) i.toNat)).map (fun p => lget (c.2.2.1 11) i :: p)).map (fun p => c.2.2.1 12 ++ p)) (a := Acc c) (fun p hpm => by
            obtain ⟨q, _, q2⟩ := List.mem_map.mp hpm
            rw [← q2, hV]
            have := fcu_le (K := (c.1 10).toNat) (du := v 13) (st := v 12) q (cfs c) u
            omega) hb.1
          rw [← f1] at f2 f3
          exact ⟨f3, Int.le_trans f2 hb.2⟩
        have g := ih (i + 1) C (hN.fx y1) (by rw [e10]; exact hK) (by rw [y2]; exact hl) h0 h6 (by rw [y3]; exact hp) (by rw [y2]; exact hx) (by rw [e10, y4]; exact hB) hM hu hb' (by rw [y3, e10, y4]; exact hV) (by omega) (by omega) (by omega)
        rw [ep, y4, y2, y3] at g
        obtain ⟨g1, D, g2, ⟨g3, g4, g5, g6⟩, g7⟩ := g
        exact ⟨⟨z1, z2, z3, z4, z5, z6, g1⟩, D, g2, ⟨y1.trans g3, g4, g5, g6⟩, g7⟩
      by_cases cz : i = 0
      · obtain ⟨g1, g2⟩ := go (fun q => q.1 cz)
        rw [if_pos cz, if_pos cz]
        exact ⟨⟨⟨by omega, by omega⟩, ⟨by omega, by omega⟩, g1⟩, g2⟩
      · rw [if_neg cz, if_neg cz]
        by_cases ce : lget (c.2.2.1 11) i = lget (c.2.2.1 11) (i - 1)
        · rw [if_pos ce, if_pos ce, if_pos ⟨cz, ce⟩, List.nil_append]
          obtain ⟨g1, g2⟩ := ih (i + 1) c hN hK hl h0 h6 hp hx hB hM hu hb hV (by omega) (by omega) (by omega)
          exact ⟨⟨⟨by omega, by omega⟩, ⟨by omega, by omega⟩, ⟨by omega, by omega⟩, g1⟩, g2⟩
        · obtain ⟨g1, g2⟩ := go (fun q => ce q.2)
          rw [if_neg ce, if_neg ce]
          exact ⟨⟨⟨by omega, by omega⟩, ⟨by omega, by omega⟩, ⟨by omega, by omega⟩, g1⟩, g2⟩
theorem clst_2 (c : Cs) (l : Int) (xs ys : List Int) : clst (clst c l xs) l ys = clst c l ys := by
  unfold clst
  refine Prod.ext rfl (Prod.ext rfl (Prod.ext (funext fun j => ?_) rfl))
  show (if j = l then ys else if j = l then xs else c.2.2.1 j) = (if j = l then ys else c.2.2.1 j)
  by_cases e : j = l
  · rw [if_pos e, if_pos e]
  · rw [if_neg e, if_neg e, if_neg e]
theorem copy_lock {l k : Int} {c : Cs} {L : List Int} (hlk : l ≠ k) (ht : tel l = 9) (hk : tel k = 9) (hL : c.2.2.1 l = L) (h6 : L.length ≤ 190) : ∀ (n : Nat) (i : Int), 0 ≤ i → i ≤ (L.length : Int) → ((L.length : Int) - i).toNat < n → okl_X10_copyRecipes_8 l k n i (clst c k (L.take i.toNat)) ∧ l_X10_copyRecipes_8 l k n i (clst c k (L.take i.toNat)) = clst c k L := by
  intro n
  induction n with
  | zero => exact fun _ _ _ h => absurd h (Nat.not_lt_zero _)
  | succ n ih =>
    intro i h0 h1 hm
    have el : (clst c k (L.take i.toNat)).2.2.1 l = L := (clst_ne c hlk).trans hL
    rw [okl_X10_copyRecipes_8, l_X10_copyRecipes_8, el]
    by_cases c1 : (L.length : Int) ≤ i
    · rw [if_pos c1, if_pos c1, List.take_of_length_le (by omega)]
      exact ⟨⟨⟨by omega, by omega⟩, trivial⟩, rfl⟩
    · rw [if_neg c1, if_neg c1, clst_eq, clst_2]
      have e : L.take i.toNat ++ [lget L i] = L.take (i + 1).toNat := by
        have hi : i.toNat < L.length := by omega
        rw [show (i + 1).toNat = i.toNat + 1 by omega, List.take_succ_eq_append_getElem hi]
        congr 1
        unfold lget
        rw [List.getD_eq_getElem?_getD, List.getElem?_eq_getElem hi]
        rfl
      have ht2 : (L.take i.toNat).length ≤ 190 := by
        rw [List.length_take]
        omega
      rw [e]
      obtain ⟨g1, g2⟩ := ih (i + 1) (by omega) (by omega) (by omega)
      exact ⟨⟨⟨by omega, by omega⟩, ht, ⟨h0, by omega⟩, hk, by omega, g1⟩, g2⟩
theorem copy_ok {l k : Int} {c : Cs} (hlk : l ≠ k) (ht : tel l = 9) (hk : tel k = 9) (h6 : (c.2.2.1 l).length ≤ 190) : ok_X10_copyRecipes l k c ∧ g_X10_copyRecipes l k c = clst c k (c.2.2.1 l) :=
  copy_lock hlk ht hk rfl h6 fu 0 (Int.le_refl 0) (by omega) (fuw (by omega))
theorem search_ok {v : Vw} {T E : Int} {V : List Int → Int} (hI : IM v T E) : ∀ (k n : Nat), k < n → SrOK v V (g_X5_search n) (ok_X5_search n) k := by
  intro k
  induction k with
  | zero =>
    intro n hn h u c M hN hK hl h0 h6 hp hx hB hM hu hb hV
    cases n with
    | zero => exact absurd hn (Nat.not_lt_zero _)
    | succ n =>
      have e11 : c.2.2.1 11 = [] := List.eq_nil_of_length_eq_zero hl
      have hv : V (c.2.2.1 12) = u := by
        have := hV []
        rw [List.append_nil] at this
        exact this
      rw [ok_X5_search, g_X5_search]
      have er : ((lp 0 (c.2.2.1 11)).map (fun p => c.2.2.1 12 ++ p)).foldl (bst V) (Acc c) = bst V (Acc c) (c.2.2.1 12) := by
        show bst V (Acc c) (c.2.2.1 12 ++ []) = _
        rw [List.append_nil]
      rw [er]
      unfold bst
      rw [hv]
      by_cases c1 : c.2.1 8 4 0 ≤ u
      · rw [if_pos c1, if_pos c1, if_neg (show ¬ u < (Acc c).1 from fun q => by
          have : (Acc c).1 = c.2.1 8 4 0 := rfl
          omega)]
        exact ⟨⟨⟨by omega, by omega⟩, ⟨by omega, by omega⟩, trivial⟩, ⟨FX.refl c, rfl, rfl, rfl⟩, rfl⟩
      · have e1 : eb (c.2.2.1 11) = 1 := by rw [e11]; rfl
        rw [if_neg c1, if_neg c1, if_pos (show h ≤ 6 by omega), if_pos (show h ≤ 6 by omega), e1, if_neg ne10, if_neg ne10, if_pos (show u < (Acc c).1 from by
          have : (Acc c).1 = c.2.1 8 4 0 := rfl
          omega)]
        obtain ⟨k1, k2⟩ := copy_ok (c := cput c 8 4 0 u) (l := 12) (k := 10) (by decide) rfl rfl (by show (c.2.2.1 12).length ≤ 190; omega)
        rw [k2]
        refine ⟨⟨⟨by omega, by omega⟩, ⟨by omega, by omega⟩, ⟨by omega, by omega⟩, k1, trivial⟩, ⟨FX.day.trans (FX.lst (by decide)), clst_ne _ (by decide), clst_ne _ (by decide), ?_⟩, ?_⟩
        · refine Prod.ext (funext fun j => ?_) (funext fun j => ?_)
          · exact cput_k (ci := 8) (k := 4) (i := 0) (x := u) (a := 10) (b := 1) (j := j) c (by decide)
          · exact cput_k (ci := 8) (k := 4) (i := 0) (x := u) (a := 10) (b := 2) (j := j) c (by decide)
        · exact Prod.ext (cput_eq c 8 4 0 u) (clst_eq (cput c 8 4 0 u) 10 (c.2.2.1 12))
  | succ k ih =>
    intro n hn h u c M hN hK hl h0 h6 hp hx hB hM hu hb hV
    cases n with
    | zero => exact absurd hn (Nat.not_lt_zero _)
    | succ n =>
      rw [ok_X5_search, g_X5_search]
      by_cases c1 : c.2.1 8 4 0 ≤ u
      · rw [if_pos c1, if_pos c1]
        refine ⟨⟨⟨by omega, by omega⟩, ⟨by omega, by omega⟩, trivial⟩, ⟨FX.refl c, rfl, rfl, rfl⟩, ?_⟩
        rw [bst_none]
        intro p hpm
        obtain ⟨q, _, q2⟩ := List.mem_map.mp hpm
        rw [← q2, hV]
        exact Int.le_trans c1 (fcu_le _ _ _)
      · have e0 : eb (c.2.2.1 11) = 0 := eb_0.mpr (by omega)
        obtain ⟨f1, f2⟩ := first_ok hN hI hB (by omega)
        have hpk := pk_pos (f := c.2.1 10 1) hK
        rw [if_neg c1, if_neg c1, if_pos (show h ≤ 6 by omega), if_pos (show h ≤ 6 by omega), e0, if_pos rfl, if_pos rfl, f2, if_neg (show ¬ pk (c.2.1 10 1) (c.1 10).toNat = -1 by omega), if_neg (show ¬ pk (c.2.1 10 1) (c.1 10).toNat = -1 by omega)]
        obtain ⟨g1, C, g2, g3, g4⟩ := loop_ok hI (ih n (by omega)) fu 0 c hN hK hl h0 (by omega) hp hx hB (by omega) hu hb hV (Int.le_refl 0) (by omega) (fuw (by omega))
        have g2' : l_X5_search_69 (g_X5_search n) h u (pk (c.2.1 10 1) (c.1 10).toNat) (c.2.1 10 1 (pk (c.2.1 10 1) (c.1 10).toNat)) (c.2.1 10 2 (pk (c.2.1 10 1) (c.1 10).toNat)) fu 0 c = C := g2
        rw [g2']
        rw [show ((k : Int) + 1 - 0).toNat = k + 1 by omega] at g4
        exact ⟨⟨⟨by omega, by omega⟩, ⟨by omega, by omega⟩, ⟨by omega, by omega⟩, f1, g1⟩, g3, g4⟩
