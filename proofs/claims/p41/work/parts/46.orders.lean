/-! the orders: taken in, blended, cancelled -/
def dlt (v : Vw) (a b : Int) : Prop := v 32 a < v 32 b ∨ (v 32 a = v 32 b ∧ a < b)
theorem dins_mem {v : Vw} {o x : Int} {L : List Int} : x ∈ dins v o L ↔ x = o ∨ x ∈ L := by
  induction L with
  | nil => simp [dins]
  | cons y ys ih =>
    unfold dins
    split
    · rw [List.mem_cons, ih, List.mem_cons]
      constructor
      · rintro (h | h | h)
        · exact Or.inr (Or.inl h)
        · exact Or.inl h
        · exact Or.inr (Or.inr h)
      · rintro (h | h | h)
        · exact Or.inr (Or.inl h)
        · exact Or.inl h
        · exact Or.inr (Or.inr h)
    · rw [List.mem_cons]
theorem due_mem {v : Vw} {x : Int} : ∀ n : Nat, x ∈ due v n ↔ 0 ≤ x ∧ x < (n : Int) := by
  intro n
  induction n with
  | zero =>
    constructor
    · exact fun h => absurd h (by simp [due])
    · exact fun h => absurd h (by omega)
  | succ n ih =>
    show x ∈ dins v (n : Int) (due v n) ↔ _
    rw [dins_mem, ih]
    omega
theorem dins_pw {v : Vw} {o : Int} : ∀ {L : List Int}, L.Pairwise (dlt v) → (∀ x ∈ L, x < o) → (dins v o L).Pairwise (dlt v) := by
  intro L
  induction L with
  | nil => exact fun _ _ => List.pairwise_singleton _ _
  | cons y ys ih =>
    intro h hx
    rw [List.pairwise_cons] at h
    unfold dins
    by_cases c : v 32 y ≤ v 32 o
    · rw [if_pos c, List.pairwise_cons]
      refine ⟨fun x hm => ?_, ih h.2 (fun x hm => hx x (List.mem_cons_of_mem _ hm))⟩
      rcases dins_mem.mp hm with rfl | hm
      · have := hx y List.mem_cons_self
        unfold dlt
        omega
      · exact h.1 x hm
    · rw [if_neg c, List.pairwise_cons]
      refine ⟨fun x hm => ?_, List.pairwise_cons.mpr h⟩
      rcases List.mem_cons.mp hm with rfl | hm
      · exact Or.inl (by omega)
      · have := h.1 x hm
        unfold dlt at this ⊢
        omega
theorem due_pw (v : Vw) : ∀ n : Nat, (due v n).Pairwise (dlt v) := by
  intro n
  induction n with
  | zero => exact List.Pairwise.nil
  | succ n ih => exact dins_pw ih (fun x hx => ((due_mem n).mp hx).2)
theorem dins_len {v : Vw} {o : Int} {L : List Int} : (dins v o L).length = L.length + 1 := by
  induction L with
  | nil => rfl
  | cons y ys ih =>
    unfold dins
    split
    · show (dins v o ys).length + 1 = _
      rw [ih]
      rfl
    · rfl
theorem due_len (v : Vw) : ∀ n : Nat, (due v n).length = n := by
  intro n
  induction n with
  | zero => rfl
  | succ n ih =>
    show (dins v (n : Int) (due v n)).length = _
    rw [dins_len, ih]
theorem dins_congr {v w : Vw} {o : Int} {L : List Int} (h : ∀ x ∈ L, w 32 x = v 32 x) (ho : w 32 o = v 32 o) : dins w o L = dins v o L := by
  induction L with
  | nil => rfl
  | cons y ys ih =>
    unfold dins
    rw [h y List.mem_cons_self, ho, ih (fun x hx => h x (List.mem_cons_of_mem _ hx))]
theorem due_lt {v w : Vw} : ∀ n : Nat, (∀ i, 0 ≤ i → i < (n : Int) → w 32 i = v 32 i) → due w n = due v n := by
  intro n
  induction n with
  | zero => exact fun _ => rfl
  | succ n ih =>
    intro h
    have e := ih (fun i i0 i1 => h i i0 (by omega))
    show dins w (n : Int) (due w n) = dins v (n : Int) (due v n)
    rw [e]
    exact dins_congr (fun x hx => by
      have := (due_mem n).mp hx
      exact h x this.1 (by omega)) (h _ (by omega) (by omega))
/-- the place is where the first one stands that is due later -/
theorem ins_dins {v : Vw} {o : Int} : ∀ (L : List Int) (p : Nat), p ≤ L.length → (∀ (j : Nat) (x : Int), j < p → L[j]? = some x → v 32 x ≤ v 32 o) → (∀ (j : Nat) (x : Int), p ≤ j → L[j]? = some x → v 32 o < v 32 x) → insL L p o = dins v o L := by
  intro L
  induction L with
  | nil =>
    intro p hp _ _
    cases p with
    | zero => rfl
    | succ p => exact absurd hp (Nat.not_succ_le_zero _)
  | cons y ys ih =>
    intro p hp h1 h2
    unfold dins
    cases p with
    | zero =>
      have := h2 0 y (Nat.le_refl _) rfl
      rw [if_neg (by omega)]
      rfl
    | succ p =>
      have := h1 0 y (Nat.succ_pos _) rfl
      rw [if_pos this]
      show y :: insL ys p o = y :: dins v o ys
      rw [ih p (by simpa using hp) (fun j x hj hx => h1 (j + 1) x (by omega) (by simpa using hx)) (fun j x hj hx => h2 (j + 1) x (by omega) (by simpa using hx))]
theorem cI_ins {o : Int} {c : Cs} : ∀ (n : Nat) (p : Int), 0 ≤ p → p.toNat < n → (0 ≤ l_X10_insertByDue_10 o c n p ∧ l_X10_insertByDue_10 o c n p ≤ p) ∧ (l_X10_insertByDue_10 o c n p = 0 ∨ c.2.1 5 1 (lget (c.2.2.1 6) (l_X10_insertByDue_10 o c n p - 1)) ≤ c.2.1 5 1 o) ∧ ∀ j, l_X10_insertByDue_10 o c n p ≤ j → j < p → c.2.1 5 1 o < c.2.1 5 1 (lget (c.2.2.1 6) j) := by
  intro n
  induction n with
  | zero => exact fun _ _ h => absurd h (Nat.not_lt_zero _)
  | succ n ih =>
    intro p hp hm
    rw [l_X10_insertByDue_10]
    by_cases c1 : p ≤ 0
    · rw [if_pos c1]
      exact ⟨⟨hp, Int.le_refl _⟩, Or.inl (by omega), fun j h1 h2 => by omega⟩
    · rw [if_neg c1]
      by_cases c2 : c.2.1 5 1 (lget (c.2.2.1 6) (p - 1)) ≤ c.2.1 5 1 o
      · rw [if_pos c2]
        exact ⟨⟨hp, Int.le_refl _⟩, Or.inr c2, fun j h1 h2 => by omega⟩
      · rw [if_neg c2]
        obtain ⟨g1, g2, g3⟩ := ih (p + -1) (by omega) (by omega)
        refine ⟨⟨g1.1, by omega⟩, g2, fun j h1 h2 => ?_⟩
        by_cases e : j = p - 1
        · rw [e]
          omega
        · exact g3 j h1 (by omega)
theorem okl_ins {o : Int} {c : Cs} (hl : (c.2.2.1 6).length ≤ 900) (ho : R32 (c.2.1 5 1 o)) (hk : ∀ j, 0 ≤ j → j < ((c.2.2.1 6).length : Int) → R32 (c.2.1 5 1 (lget (c.2.2.1 6) j))) : ∀ (n : Nat) (p : Int), 0 ≤ p → p ≤ ((c.2.2.1 6).length : Int) → p.toNat < n → okl_X10_insertByDue_10 o c n p := by
  intro n
  induction n with
  | zero => exact fun _ _ _ h => absurd h (Nat.not_lt_zero _)
  | succ n ih =>
    intro p hp h2 hm
    rw [okl_X10_insertByDue_10]
    refine ⟨⟨by omega, by omega⟩, ?_⟩
    by_cases c1 : p ≤ 0
    · rw [if_pos c1]
      exact trivial
    · rw [if_neg c1]
      refine ⟨⟨by omega, by omega⟩, hk _ (by omega) (by omega), ho, ?_⟩
      split
      · exact trivial
      · exact ih (p + -1) (by omega) (by omega) (by omega)
/-- a new order put in its place -/
theorem ins_due {c : Cs} {v : Vw} {n : Int} (h0 : 0 ≤ n) (hn : n ≤ 20) (hL : c.2.2.1 6 = due v n.toNat) (hk : ∀ o, 0 ≤ o → o ≤ n → c.2.1 5 1 o = v 32 o ∧ R32 (v 32 o)) : ok_X10_insertByDue n c ∧ g_X10_insertByDue n c = clst c 6 (due v (n + 1).toNat) := by
  have hl : (c.2.2.1 6).length = n.toNat := by rw [hL]; exact due_len v _
  have hm : ∀ j, 0 ≤ j → j < ((c.2.2.1 6).length : Int) → (0 ≤ lget (c.2.2.1 6) j ∧ lget (c.2.2.1 6) j < n) := fun j j0 j1 => by
    have := lget_mem (xs := c.2.2.1 6) j0 j1
    rw [hL] at this
    have g := (due_mem _).mp this
    rw [← hL] at g
    exact ⟨g.1, by omega⟩
  obtain ⟨g1, g2, g3⟩ := cI_ins (o := n) (c := c) fu ((c.2.2.1 6).length : Int) (by omega) (fuw (by omega))
  refine ⟨⟨okl_ins (by omega) ?_ (fun j j0 j1 => ?_) fu _ (by omega) (Int.le_refl _) (fuw (by omega)), by omega, g1, trivial⟩, ?_⟩
  · rw [(hk n h0 (Int.le_refl _)).1]
    exact (hk n h0 (Int.le_refl _)).2
  · have := hm j j0 j1
    rw [(hk _ this.1 (by omega)).1]
    exact (hk _ this.1 (by omega)).2
  · unfold g_X10_insertByDue
    have e : insL (c.2.2.1 6) (l_X10_insertByDue_10 n c fu ((c.2.2.1 6).length : Int)).toNat n = due v (n + 1).toNat := by
      have e1 : (n + 1).toNat = n.toNat + 1 := by omega
      rw [e1]
      show _ = dins v ((n.toNat : Nat) : Int) (due v n.toNat)
      rw [Int.toNat_of_nonneg h0, ← hL]
      have key : ∀ (j : Nat) (x : Int), (c.2.2.1 6)[j]? = some x → lget (c.2.2.1 6) (j : Int) = x ∧ j < (c.2.2.1 6).length := fun j x hx => by
        have hj := (List.getElem?_eq_some_iff.mp hx).1
        refine ⟨?_, hj⟩
        unfold lget
        rw [List.getD_eq_getElem?_getD, Int.toNat_natCast, hx]
        rfl
      have kx : ∀ j, 0 ≤ j → j < ((c.2.2.1 6).length : Int) → c.2.1 5 1 (lget (c.2.2.1 6) j) = v 32 (lget (c.2.2.1 6) j) := fun j j0 j1 => by
        have := hm j j0 j1
        exact (hk _ this.1 (by omega)).1
      have ko := (hk n h0 (Int.le_refl _)).1
      refine ins_dins (c.2.2.1 6) _ (by omega) (fun j x hj hx => ?_) (fun j x hj hx => ?_)
      · obtain ⟨k1, k2⟩ := key j x hx
        rcases g2 with g2 | g2
        · omega
        · rw [kx _ (by omega) (by omega), ko] at g2
          by_cases ej : (j : Int) = l_X10_insertByDue_10 n c fu ((c.2.2.1 6).length : Int) - 1
          · rw [← k1, ej]
            exact g2
          · have hp := due_pw v n.toNat
            rw [← hL] at hp
            have hp2 := List.pairwise_iff_getElem.mp hp j (l_X10_insertByDue_10 n c fu ((c.2.2.1 6).length : Int) - 1).toNat k2 (by omega) (by omega)
            have ea : (c.2.2.1 6)[j] = x := (List.getElem?_eq_some_iff.mp hx).2
            have eb : (c.2.2.1 6)[(l_X10_insertByDue_10 n c fu ((c.2.2.1 6).length : Int) - 1).toNat]'(by omega) = lget (c.2.2.1 6) (l_X10_insertByDue_10 n c fu ((c.2.2.1 6).length : Int) - 1) := by
              unfold lget
              rw [List.getD_eq_getElem?_getD, List.getElem?_eq_getElem (by omega)]
              rfl
            rw [ea, eb] at hp2
            unfold dlt at hp2
            omega
      · obtain ⟨k1, k2⟩ := key j x hx
        have := g3 (j : Int) (by omega) (by omega)
        rw [kx _ (by omega) (by omega), ko, k1] at this
        exact this
    rw [e]
/-- the parts of an order on both sides -/
theorem parts {c : Cs} {v : Vw} {T E o : Int} (hS : Sm c v) (hI : IM v T E) (h0 : 0 ≤ o) (h1 : o < v 6 0) : ((c.2.2.1 (17 + o)).length : Int) = v 33 o ∧ ∀ j, 0 ≤ j → j < v 33 o → c.2.1 6 0 (lget (c.2.2.1 (17 + o)) j) = v 36 (4 * o + j) ∧ c.2.1 6 1 (lget (c.2.2.1 (17 + o)) j) = v 37 (4 * o + j) := by
  have u33 : 0 ≤ v 33 o ∧ v 33 o ≤ 4 := hI.2 33 o
  have h := (hS.co.2 o h0 h1).2.2
  obtain ⟨g1, g2⟩ := map_eq_at (f := fun p => (c.2.1 6 0 p, c.2.1 6 1 p)) (g := fun k => (v 36 (4 * o + k), v 37 (4 * o + k))) h
  have hl := rng_len u33.1
  refine ⟨by omega, fun j j0 j1 => ?_⟩
  have g := Prod.mk.inj (g2 j j0 (by omega))
  rw [lget_rng j0 j1] at g
  exact g
theorem cancel_eq {c : Cs} {v : Vw} {o : Int} (hl : ((c.2.2.1 (17 + o)).length : Int) = v 33 o) (hp : ∀ j, 0 ≤ j → j < v 33 o → c.2.1 6 1 (lget (c.2.2.1 (17 + o)) j) = v 37 (4 * o + j)) : ∀ (n m : Nat) (u i : Int), 0 ≤ i → (v 33 o - i).toNat < n → (v 33 o - i).toNat < m → l_X2_allUnits_4 o c n u i = l_cancel_48 o v m u i := by
  intro n
  induction n with
  | zero => exact fun _ _ _ _ h => absurd h (Nat.not_lt_zero _)
  | succ n ih =>
    intro m u i h0 hn hm
    cases m with
    | zero => exact absurd hm (Nat.not_lt_zero _)
    | succ m =>
      rw [l_X2_allUnits_4, l_cancel_48, hl]
      by_cases c1 : v 33 o ≤ i
      · rw [if_pos c1, if_pos c1]
      · rw [if_neg c1, if_neg c1, hp i h0 (by omega)]
        exact ih m _ _ (by omega) (by omega) (by omega)
theorem okl_all {c : Cs} {o n0 : Int} (hl : ((c.2.2.1 (17 + o)).length : Int) = n0) (hn : n0 ≤ 900) (h2 : c.2.1 5 2 o = 17 + o) (ho : 0 ≤ o) : ∀ (n : Nat) (u i : Int), 0 ≤ i → i ≤ n0 → (n0 - i).toNat < n → okl_X2_allUnits_4 o c n u i := by
  intro n
  induction n with
  | zero => exact fun _ _ _ _ h => absurd h (Nat.not_lt_zero _)
  | succ n ih =>
    intro u i h0 h1 hm
    rw [okl_X2_allUnits_4, hl]
    refine ⟨⟨h2, ho⟩, ⟨by omega, by omega⟩, ?_⟩
    by_cases c1 : n0 ≤ i
    · rw [if_pos c1]
      exact trivial
    · rw [if_neg c1]
      exact ⟨⟨h0, by omega⟩, ih _ _ (by omega) (by omega) (by omega)⟩
theorem fc_cancel {c : Cs} {v : Vw} {T E a : Int} (hN : INV c v) (hI : IM v T E) (ha : R32 a) : ok_X10_cancel a c ∧ Ans (fun k => if k = 1 then xIOB else xISE) (g_X10_cancel a c) (f_cancel a v) ∧ INV (g_X10_cancel a c).2 (f_cancel a v).2 := by
  have hl := hN.1.l5 hI
  unfold ok_X10_cancel g_X10_cancel f_cancel
  by_cases h : 0 ≤ a ∧ a < v 6 0
  · have e : f_isOrder a v = 1 := (c_isOrder a v).elim (·.1) (fun q => absurd h q.2)
    have el := hN.1.e5 h.1 h.2
    have u6 : 0 ≤ v 6 0 ∧ v 6 0 ≤ 20 := hI.2 6 0
    obtain ⟨⟨q0, q1, q2, q3, q4⟩, q5, q6⟩ := hN.1.co.2 a h.1 h.2
    have u3 := (hN.2.1.2.2.2.1 a h.1 h.2).1.2
    simp only [hl, el, e, q3, if_pos h, if_neg ne10]
    by_cases c1 : v 34 a = 111
    · simp only [if_pos c1]
      have u33 : 0 ≤ v 33 a ∧ v 33 a ≤ 4 := hI.2 33 a
      obtain ⟨p1, p2⟩ := parts hN.1 hI h.1 h.2
      refine ⟨⟨ok_oat hN.1 hI ha, ⟨by omega, by omega⟩, ?_, trivial⟩, Or.inl ⟨rfl, ?_⟩, ?_⟩
      · exact okl_all (c := cput c 5 3 a 99) p1 (by omega) q2 h.1 fu 0 0 (by omega) (by omega) (fuw (by omega))
      · show (Sum.inl (some (0, g_X2_allUnits a (cput c 5 3 a 99))) : Rr) = _
        unfold g_X2_allUnits
        rw [cancel_eq (c := cput c 5 3 a 99) (v := upv (upv v 0 0 0) 34 a 99) p1 (fun j j0 j1 => (p2 j j0 j1).2) fu ((v 33 a - 0).toNat + 1) 0 0 (by omega) (show (v 33 a - 0).toNat < fu from fuw (by omega)) (show (v 33 a - 0).toNat < _ by omega)]
      · obtain ⟨⟨s0, s1, s2, s3, s4, s5, s6, s7, s8, s9, s10⟩, ⟨b1, b2, b3, b4, b5, b6⟩, hC, hJ⟩ := hN
        refine ⟨⟨s0, s1, s2, s3, s4, s5, ⟨s6.1, fun o o0 o1 => ?_⟩, s7.fr rfl rfl rfl, s8, s9, s10⟩, ⟨b1, b2, b3, fun o o0 o1 => ?_, b5, b6⟩, ?_, CJ_fr (v := v) (fun k hk i => (upv_nk (by omega)).trans (up0 (by omega))) hJ⟩
        · obtain ⟨⟨t0, t1, t2, t3, t4⟩, t5, t6⟩ := s6.2 o o0 o1
          refine ⟨⟨t0, t1, t2, ?_, ?_⟩, t5, t6⟩
          · by_cases eo : o = a
            · subst eo
              rw [cput_eq]
              exact (upv_eq _ _ _ _).symm
            · rw [cput_i _ eo]
              show _ = upv (upv v 0 0 0) 34 a 99 34 o
              rw [upv_ni eo]
              exact t3
          · intro ho
            by_cases eo : o = a
            · subst eo
              have : (99 : Int) = 102 := (upv_eq (upv v 0 0 0) 34 o 99).symm.trans ho
              omega
            · have ho' : upv (upv v 0 0 0) 34 a 99 34 o = 102 := ho
              rw [upv_ni eo] at ho'
              exact t4 ho'
        · obtain ⟨⟨t1, t2⟩, t3⟩ := b4 o o0 o1
          refine ⟨⟨t1, ?_⟩, t3⟩
          by_cases eo : o = a
          · subst eo
            exact Or.inr (Or.inr (upv_eq _ _ _ _))
          · have e9 : upv (upv v 0 0 0) 34 a 99 34 o = v 34 o := (upv_ni eo).trans (up0 (by decide))
            rw [e9]
            exact t2
        · obtain ⟨i1, i2, i3, i4, i5, i6⟩ := hC
          have ef : fl (upv (upv v 0 0 0) 34 a 99) = fl v := by
            rw [fl_one (v := v) (b := a) ⟨h.1, by omega⟩ (fun i hi => (upv_ni hi).trans (up0 (by decide)))]
            unfold flF
            rw [upv_eq, c1, if_neg (show ¬ (99 : Int) = 102 by decide), if_neg (show ¬ (111 : Int) = 102 by decide)]
            omega
          refine ⟨i1, ?_, ?_, ?_, i5, fun o ho => ?_⟩
          · rw [ef]
            exact i2
          · exact i3
          · exact i4
          · have ho' : v 6 0 ≤ o := ho
            have e9 : upv (upv v 0 0 0) 34 a 99 34 o = v 34 o := (upv_ni (by omega)).trans (up0 (by decide))
            rw [e9]
            exact i6 o ho'
    · simp only [if_neg c1]
      exact ⟨⟨ok_oat hN.1 hI ha, ⟨by omega, by omega⟩, trivial⟩, Or.inr ⟨by show (1 : Int) ≤ 2; omega, rfl⟩, hN.v0⟩
  · have e : f_isOrder a v = 0 := (c_isOrder a v).elim (fun q => absurd q.2 h) (·.1)
    simp only [hl, e, if_neg h, if_true]
    exact ⟨⟨ok_oat hN.1 hI ha, trivial⟩, Or.inr ⟨Int.le_refl 1, rfl⟩, hN.v0⟩
