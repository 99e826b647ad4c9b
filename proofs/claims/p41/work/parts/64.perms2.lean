/-! orders of a list: all of them are there; the first of the best -/
theorem lpB_mem {f : List Int → List (List Int)} {L p : List Int} : ∀ {m : Nat} {i : Int}, p ∈ lpB f L m i → ∃ j, i ≤ j ∧ j < i + (m : Int) ∧ ∃ q, q ∈ f (remL L j.toNat) ∧ p = lget L j :: q := by
  intro m
  induction m with
  | zero => exact fun h => absurd h (by simp [lpB])
  | succ m ih =>
    intro i h
    rw [lpB, List.mem_append] at h
    rcases h with h | h
    · split at h
      · exact absurd h (by simp)
      · obtain ⟨q, q1, q2⟩ := List.mem_map.mp h
        exact ⟨i, Int.le_refl i, by omega, q, q1, q2.symm⟩
    · obtain ⟨j, j0, j1, j2⟩ := ih h
      exact ⟨j, by omega, by omega, j2⟩
theorem lpB_in {f : List Int → List (List Int)} {L q : List Int} {j : Int} (hj : j = 0 ∨ lget L j ≠ lget L (j - 1)) (hq : q ∈ f (remL L j.toNat)) : ∀ {m : Nat} {i : Int}, i ≤ j → j < i + (m : Int) → lget L j :: q ∈ lpB f L m i := by
  intro m
  induction m with
  | zero => exact fun h0 h1 => by omega
  | succ m ih =>
    intro i h0 h1
    rw [lpB, List.mem_append]
    by_cases e : i = j
    · subst e
      refine Or.inl ?_
      rw [if_neg (fun g => hj.elim g.1 (fun k => k g.2))]
      exact List.mem_map_of_mem hq
    · exact Or.inr (ih (by omega) (by omega))
theorem lp_sub : ∀ (n : Nat) (L p : List Int), L.length = n → p ∈ lp n L → p.length = n ∧ ∀ x ∈ p, x ∈ L := by
  intro n
  induction n with
  | zero =>
    intro L p hl hp
    have : p = [] := by simpa [lp] using hp
    subst this
    exact ⟨rfl, fun x hx => by cases hx⟩
  | succ n ih =>
    intro L p hl hp
    rw [lp] at hp
    obtain ⟨j, j0, j1, q, q1, q2⟩ := lpB_mem hp
    have hlen : (remL L j.toNat).length = n := by
      have := remL_ln (L := L) (i := j.toNat) (by omega)
      omega
    obtain ⟨a, b⟩ := ih _ q hlen q1
    subst q2
    refine ⟨by rw [List.length_cons, a], fun x hx => ?_⟩
    rcases List.mem_cons.mp hx with e | e
    · rw [e]
      exact lget_mem j0 (by omega)
    · exact mem_rem (b x e)
theorem remL_perm {L : List Int} {j : Int} (h0 : 0 ≤ j) (h1 : j < (L.length : Int)) : L.Perm (lget L j :: remL L j.toNat) := by
  obtain ⟨P, Q, e1, e2⟩ := split1 h0 h1
  have : remL (P ++ lget L j :: Q) P.length = P ++ Q := remL_at
  rw [← e1, show P.length = j.toNat by omega] at this
  rw [this]
  have h2 : (P ++ lget L j :: Q).Perm (lget L j :: (P ++ Q)) := List.perm_middle
  rw [← e1] at h2
  exact h2
theorem first_at {L : List Int} {a : Int} : ∀ (n : Nat) (j : Int), 0 ≤ j → j < (L.length : Int) → j.toNat < n → lget L j = a → ∃ i, 0 ≤ i ∧ i < (L.length : Int) ∧ lget L i = a ∧ (i = 0 ∨ lget L i ≠ lget L (i - 1)) := by
  intro n
  induction n with
  | zero => exact fun _ _ _ h => absurd h (Nat.not_lt_zero _)
  | succ n ih =>
    intro j h0 h1 hm h
    by_cases c : j = 0 ∨ lget L j ≠ lget L (j - 1)
    · exact ⟨j, h0, h1, h, c⟩
    · rw [not_or, Decidable.not_not] at c
      exact ih (j - 1) (by omega) (by omega) (by omega) (by rw [← c.2]; exact h)
theorem lp_all : ∀ (n : Nat) (L q : List Int), L.length = n → q.Perm L → q ∈ lp n L := by
  intro n
  induction n with
  | zero =>
    intro L q hl hq
    have : q = [] := List.eq_nil_of_length_eq_zero (hq.length_eq.trans hl)
    subst this
    exact List.mem_cons_self
  | succ n ih =>
    intro L q hl hq
    cases q with
    | nil =>
      have := hq.length_eq
      rw [hl] at this
      exact absurd this (by simp)
    | cons a q =>
      have ha : a ∈ L := hq.subset List.mem_cons_self
      obtain ⟨k, k1, k2⟩ := List.getElem_of_mem ha
      have hk : lget L (k : Int) = a := by
        unfold lget
        rw [List.getD_eq_getElem?_getD, Int.toNat_natCast, List.getElem?_eq_getElem k1]
        exact k2
      obtain ⟨j, j0, j1, j2, j3⟩ := first_at (k + 1) (k : Int) (by omega) (by omega) (by omega) hk
      have hp : q.Perm (remL L j.toNat) := by
        have := hq.trans (remL_perm j0 j1)
        rw [j2] at this
        exact this.cons_inv
      have hlen : (remL L j.toNat).length = n := by
        have := remL_ln (L := L) (i := j.toNat) (by omega)
        omega
      rw [lp, ← j2]
      exact lpB_in j3 (ih _ q hlen hp) j0 (by omega)
theorem srt_uniq : ∀ (L M : List Int), Srt L → Srt M → L.Perm M → L = M := by
  intro L
  induction L with
  | nil => exact fun M _ _ h => h.nil_eq
  | cons a L ih =>
    intro M h1 h2 hp
    cases M with
    | nil => exact absurd hp.length_eq (by simp)
    | cons b M =>
      rw [Srt, List.pairwise_cons] at h1 h2
      have e : a = b := by
        have m1 : a ∈ b :: M := hp.subset List.mem_cons_self
        have m2 : b ∈ a :: L := hp.symm.subset List.mem_cons_self
        rcases List.mem_cons.mp m1 with x | x
        · exact x
        · rcases List.mem_cons.mp m2 with y | y
          · exact y.symm
          · have := h1.1 b y
            have := h2.1 a x
            omega
      subst e
      rw [ih M h1.2 h2.2 hp.cons_inv]
def fct : Nat → Nat
  | 0 => 1
  | n + 1 => (n + 1) * fct n
theorem lpB_len {f : List Int → List (List Int)} {L : List Int} {B : Nat} (hf : ∀ l, (f l).length ≤ B) : ∀ (m : Nat) (i : Int), (lpB f L m i).length ≤ m * B := by
  intro m
  induction m with
  | zero => exact fun _ => Nat.zero_le _
  | succ m ih =>
    intro i
    rw [lpB, List.length_append, Nat.succ_mul]
    have h1 := ih (i + 1)
    have h2 : (if i ≠ 0 ∧ lget L i = lget L (i - 1) then [] else (f (remL L i.toNat)).map (fun p => lget L i :: p)).length ≤ B := by
      split
      · exact Nat.zero_le _
      · rw [List.length_map]
        exact hf _
    omega
theorem lp_len : ∀ (n : Nat) (L : List Int), (lp n L).length ≤ fct n := by
  intro n
  induction n with
  | zero => exact fun _ => Nat.le_refl _
  | succ n ih => exact fun L => lpB_len ih (n + 1) 0
theorem fct_6 {n : Nat} (h : n ≤ 6) : fct n ≤ 720 := by
  have : n = 0 ∨ n = 1 ∨ n = 2 ∨ n = 3 ∨ n = 4 ∨ n = 5 ∨ n = 6 := by omega
  rcases this with e | e | e | e | e | e | e <;> (subst e; decide)
/-- the first of the best -/
def bst (val : List Int → Int) (acc : Int × List Int) (p : List Int) : Int × List Int := if val p < acc.1 then (val p, p) else acc
theorem bst_none {val : List Int → Int} : ∀ {X : List (List Int)} {acc : Int × List Int}, (∀ p ∈ X, acc.1 ≤ val p) → X.foldl (bst val) acc = acc := by
  intro X
  induction X with
  | nil => exact fun _ => rfl
  | cons x X ih =>
    intro acc h
    have e : bst val acc x = acc := if_neg (by have := h x List.mem_cons_self; omega)
    rw [List.foldl_cons, e]
    exact ih (fun p hp => h p (List.mem_cons_of_mem _ hp))
theorem bst_same {val : List Int → Int} : ∀ {X : List (List Int)} {a b : Int × List Int}, (∃ p ∈ X, val p < a.1 ∧ val p < b.1) → X.foldl (bst val) a = X.foldl (bst val) b := by
  intro X
  induction X with
  | nil => exact fun ⟨p, hp, _⟩ => by cases hp
  | cons x X ih =>
    intro a b ⟨p, hp, h1, h2⟩
    rw [List.foldl_cons, List.foldl_cons]
    unfold bst
    by_cases c1 : val x < a.1
    · by_cases c2 : val x < b.1
      · rw [if_pos c1, if_pos c2]
      · rw [if_pos c1, if_neg c2]
        rcases List.mem_cons.mp hp with e | e
        · rw [e] at h2
          exact absurd h2 c2
        · exact ih ⟨p, e, by show val p < val x; omega, h2⟩
    · by_cases c2 : val x < b.1
      · rw [if_neg c1, if_pos c2]
        rcases List.mem_cons.mp hp with e | e
        · rw [e] at h1
          exact absurd h1 c1
        · exact ih ⟨p, e, h1, by show val p < val x; omega⟩
      · rw [if_neg c1, if_neg c2]
        rcases List.mem_cons.mp hp with e | e
        · rw [e] at h1
          exact absurd h1 c1
        · exact ih ⟨p, e, h1, h2⟩
theorem bst_mem {val : List Int → Int} : ∀ {X : List (List Int)} {a : Int × List Int}, X.foldl (bst val) a = a ∨ ((X.foldl (bst val) a).2 ∈ X ∧ (X.foldl (bst val) a).1 = val (X.foldl (bst val) a).2) := by
  intro X
  induction X with
  | nil => exact Or.inl rfl
  | cons x X ih =>
    intro a
    rw [List.foldl_cons]
    rcases ih (a := bst val a x) with h | ⟨h1, h2⟩
    · rw [h]
      unfold bst
      by_cases c : val x < a.1
      · rw [if_pos c]
        exact Or.inr ⟨List.mem_cons_self, rfl⟩
      · rw [if_neg c]
        exact Or.inl rfl
    · exact Or.inr ⟨List.mem_cons_of_mem _ h1, h2⟩
theorem bst_le {val : List Int → Int} : ∀ {X : List (List Int)} {a : Int × List Int}, (X.foldl (bst val) a).1 ≤ a.1 ∧ ∀ p ∈ X, (X.foldl (bst val) a).1 ≤ val p := by
  intro X
  induction X with
  | nil => exact ⟨Int.le_refl _, fun p hp => by cases hp⟩
  | cons x X ih =>
    intro a
    rw [List.foldl_cons]
    obtain ⟨h1, h2⟩ := ih (a := bst val a x)
    have e : (bst val a x).1 ≤ a.1 ∧ (bst val a x).1 ≤ val x := by
      unfold bst
      by_cases c : val x < a.1
      · rw [if_pos c]
        exact ⟨by show val x ≤ a.1; omega, Int.le_refl _⟩
      · rw [if_neg c]
        exact ⟨Int.le_refl _, by omega⟩
    refine ⟨by omega, fun p hp => ?_⟩
    rcases List.mem_cons.mp hp with q | q
    · rw [q]
      omega
    · exact h2 p q
