/-! the yeast of both sides -/
theorem drop_lget {L : List Int} {i : Int} (h0 : 0 ≤ i) (h1 : i < (L.length : Int)) : L.drop i.toNat = lget L i :: L.drop (i + 1).toNat := by
  have h : i.toNat < L.length := by omega
  rw [List.drop_eq_getElem_cons h, show (i + 1).toNat = i.toNat + 1 by omega]
  congr 1
  unfold lget
  rw [List.getD_eq_getElem?_getD, List.getElem?_eq_getElem h]
  rfl
theorem map_eq_at {α : Type} {f g : Int → α} {L P : List Int} (h : L.map f = P.map g) : L.length = P.length ∧ ∀ j, 0 ≤ j → j < (L.length : Int) → f (lget L j) = g (lget P j) := by
  have hl : L.length = P.length := by
    have := congrArg List.length h
    rwa [List.length_map, List.length_map] at this
  refine ⟨hl, fun j h0 h1 => ?_⟩
  have h2 := congrArg (fun l => l[j.toNat]?) h
  simp only [List.getElem?_map] at h2
  rw [lget_some h0 h1, lget_some h0 (by omega)] at h2
  exact Option.some.inj h2
/-- the pitches of a strain that aren't taken, by their numbers -/
def pav (v : Vw) (s : Int) : List Int := (rng (v 4 0)).filter (fun p => decide (v 25 p = 0 ∧ v 22 p = s))
theorem rng_inc (n : Int) : (rng n).Pairwise (fun a b => a < b) := by
  unfold rng
  rw [List.pairwise_map]
  exact List.pairwise_lt_range.imp (fun h => by omega)
theorem pav_inc (v : Vw) (s : Int) : (pav v s).Pairwise (fun a b => a < b) := (rng_inc _).filter _
theorem pav_mem {v : Vw} {s p : Int} : p ∈ pav v s ↔ (0 ≤ p ∧ p < v 4 0) ∧ v 25 p = 0 ∧ v 22 p = s := by
  unfold pav
  rw [List.mem_filter, rng_mem, decide_eq_true_iff]
theorem inc_lt {L : List Int} (h : L.Pairwise (fun a b => a < b)) {i j : Int} (h0 : 0 ≤ i) (h1 : i < j) (h2 : j < (L.length : Int)) : lget L i < lget L j := by
  have hi : i.toNat < L.length := by omega
  have hj : j.toNat < L.length := by omega
  have := List.pairwise_iff_getElem.mp h i.toNat j.toNat hi hj (by omega)
  unfold lget
  rw [List.getD_eq_getElem?_getD, List.getD_eq_getElem?_getD, List.getElem?_eq_getElem hi, List.getElem?_eq_getElem hj]
  exact this
theorem mem_lget {L : List Int} {x : Int} (h : x ∈ L) : ∃ j, 0 ≤ j ∧ j < (L.length : Int) ∧ lget L j = x := by
  obtain ⟨k, hk, e⟩ := List.getElem_of_mem h
  refine ⟨(k : Int), by omega, by omega, ?_⟩
  unfold lget
  rw [List.getD_eq_getElem?_getD, Int.toNat_natCast, List.getElem?_eq_getElem hk]
  exact e
theorem isU {p s : Int} {v : Vw} : ¬ f_isUsable p s v = 0 ↔ (v 25 p = 0 ∧ v 22 p = s) ∧ v 8 0 ≤ v 24 p + 10 := by
  unfold f_isUsable
  repeat' split
  all_goals omega
theorem cp_first {s : Int} {v : Vw} : ∀ (n : Nat) (p : Int), 0 ≤ p → (v 4 0 - p).toNat < n → (l_firstPitch_2 s v n p = -1 ∧ ∀ q, p ≤ q → q < v 4 0 → f_isUsable q s v = 0) ∨ (p ≤ l_firstPitch_2 s v n p ∧ l_firstPitch_2 s v n p < v 4 0 ∧ ¬ f_isUsable (l_firstPitch_2 s v n p) s v = 0 ∧ ∀ q, p ≤ q → q < l_firstPitch_2 s v n p → f_isUsable q s v = 0) := by
  intro n
  induction n with
  | zero => exact fun p _ h => absurd h (Nat.not_lt_zero _)
  | succ n ih =>
    intro p hp hm
    rw [l_firstPitch_2]
    by_cases c1 : v 4 0 ≤ p
    · rw [if_pos c1]
      exact Or.inl ⟨rfl, fun q _ _ => by omega⟩
    · rw [if_neg c1]
      by_cases c2 : f_isUsable p s v = 0
      · rw [if_pos c2]
        have key : ∀ q, p ≤ q → (p + 1 ≤ q → f_isUsable q s v = 0) → f_isUsable q s v = 0 := fun q h1 h2 => by
          by_cases e : q = p
          · rw [e]
            exact c2
          · exact h2 (by omega)
        rcases ih (p + 1) (by omega) (by omega) with ⟨h1, h2⟩ | ⟨h1, h2, h3, h4⟩
        · exact Or.inl ⟨h1, fun q g1 g2 => key q g1 (fun g3 => h2 q g3 g2)⟩
        · exact Or.inr ⟨by omega, h2, h3, fun q g1 g2 => key q g1 (fun g3 => h4 q g3 g2)⟩
      · rw [if_neg c2]
        exact Or.inr ⟨Int.le_refl _, by omega, c2, fun q _ _ => by omega⟩
theorem cu_first {s d : Int} {c : Cs} : ∀ (n : Nat) (i : Int), 0 ≤ i → (((c.2.2.1 (13 + s)).length : Int) - i).toNat < n → (l_X9_firstUsable_2 s d c n i = -1 ∧ ∀ q, i ≤ q → q < ((c.2.2.1 (13 + s)).length : Int) → g_X4_isUsable (lget (c.2.2.1 (13 + s)) q) d c = 0) ∨ (i ≤ l_X9_firstUsable_2 s d c n i ∧ l_X9_firstUsable_2 s d c n i < ((c.2.2.1 (13 + s)).length : Int) ∧ ¬ g_X4_isUsable (lget (c.2.2.1 (13 + s)) (l_X9_firstUsable_2 s d c n i)) d c = 0 ∧ ∀ q, i ≤ q → q < l_X9_firstUsable_2 s d c n i → g_X4_isUsable (lget (c.2.2.1 (13 + s)) q) d c = 0) := by
  intro n
  induction n with
  | zero => exact fun p _ h => absurd h (Nat.not_lt_zero _)
  | succ n ih =>
    intro p hp hm
    rw [l_X9_firstUsable_2]
    by_cases c1 : ((c.2.2.1 (13 + s)).length : Int) ≤ p
    · rw [if_pos c1]
      exact Or.inl ⟨rfl, fun q _ _ => by omega⟩
    · rw [if_neg c1]
      by_cases c2 : g_X4_isUsable (lget (c.2.2.1 (13 + s)) p) d c = 0
      · rw [if_pos c2]
        have key : ∀ q, p ≤ q → (p + 1 ≤ q → g_X4_isUsable (lget (c.2.2.1 (13 + s)) q) d c = 0) → g_X4_isUsable (lget (c.2.2.1 (13 + s)) q) d c = 0 := fun q h1 h2 => by
          by_cases e : q = p
          · rw [e]
            exact c2
          · exact h2 (by omega)
        rcases ih (p + 1) (by omega) (by omega) with ⟨h1, h2⟩ | ⟨h1, h2, h3, h4⟩
        · exact Or.inl ⟨h1, fun q g1 g2 => key q g1 (fun g3 => h2 q g3 g2)⟩
        · exact Or.inr ⟨by omega, h2, h3, fun q g1 g2 => key q g1 (fun g3 => h4 q g3 g2)⟩
      · rw [if_neg c2]
        exact Or.inr ⟨Int.le_refl _, by omega, c2, fun q _ _ => by omega⟩
theorem okl_first {s d : Int} {c : Cs} (hl : (c.2.2.1 (13 + s)).length ≤ 900) (hd : R32 d) (hp : ∀ q, 0 ≤ q → q < ((c.2.2.1 (13 + s)).length : Int) → R32 (c.2.1 7 1 (lget (c.2.2.1 (13 + s)) q) + 10)) : ∀ (n : Nat) (i : Int), 0 ≤ i → i ≤ ((c.2.2.1 (13 + s)).length : Int) → (((c.2.2.1 (13 + s)).length : Int) - i).toNat < n → okl_X9_firstUsable_2 s d c n i := by
  intro n
  induction n with
  | zero => exact fun p _ _ h => absurd h (Nat.not_lt_zero _)
  | succ n ih =>
    intro i hi h2 hm
    rw [okl_X9_firstUsable_2]
    refine ⟨⟨by omega, by omega⟩, ?_⟩
    by_cases c1 : ((c.2.2.1 (13 + s)).length : Int) ≤ i
    · rw [if_pos c1]
      exact trivial
    · rw [if_neg c1]
      refine ⟨⟨hi, by omega⟩, ⟨hd, hp i hi (by omega), trivial⟩, ?_⟩
      split
      · exact ih (i + 1) (by omega) (by omega) (by omega)
      · exact trivial
/-- the pitches of a strain on both sides -/
theorem ysty {c : Cs} {v : Vw} {s : Int} (hY : SY c v) (h0 : 0 ≤ s) (h4 : s < 4) : (c.2.2.1 (13 + s)).length = (pav v s).length ∧ ∀ j, 0 ≤ j → j < ((c.2.2.1 (13 + s)).length : Int) → c.2.1 7 0 (lget (c.2.2.1 (13 + s)) j) = v 23 (lget (pav v s) j) ∧ c.2.1 7 1 (lget (c.2.2.1 (13 + s)) j) = v 24 (lget (pav v s) j) := by
  have h := (hY.2 s h0 h4).2.2
  obtain ⟨h1, h2⟩ := map_eq_at (f := fun p => (c.2.1 7 0 p, c.2.1 7 1 p)) (g := fun p => (v 23 p, v 24 p)) h
  exact ⟨h1, fun j g0 g1 => Prod.mk.inj (h2 j g0 g1)⟩
theorem pav_len {v : Vw} {T E : Int} (hI : IM v T E) (s : Int) : (pav v s).length ≤ 60 := by
  have h1 : (pav v s).length ≤ (rng (v 4 0)).length := List.length_filter_le _ _
  have h2 := rng_len (hI.2 4 0).1
  have h3 : v 4 0 ≤ 60 := (hI.2 4 0).2
  have h4 : loV 4 T ≤ v 4 0 := (hI.2 4 0).1
  omega
theorem yfirsty {c : Cs} {v : Vw} {T E s : Int} (hY : SY c v) (hd : c.2.1 13 11 0 = v 8 0) (hI : IM v T E) (h0 : 0 ≤ s) (h4 : s < 4) :
    ok_X9_firstUsable s (c.2.1 13 11 0) c ∧ ((f_firstPitch s v = -1 ∧ g_X9_firstUsable s (c.2.1 13 11 0) c = -1) ∨
      (0 ≤ g_X9_firstUsable s (c.2.1 13 11 0) c ∧ g_X9_firstUsable s (c.2.1 13 11 0) c < ((c.2.2.1 (13 + s)).length : Int) ∧ f_firstPitch s v = lget (pav v s) (g_X9_firstUsable s (c.2.1 13 11 0) c))) := by
  have u8 : 0 ≤ v 8 0 ∧ v 8 0 ≤ T := hI.2 8 0
  have hT := hI.1
  obtain ⟨hl, hf⟩ := ysty hY h0 h4
  have hl6 := pav_len hI s
  have u4 : 0 ≤ v 4 0 ∧ v 4 0 ≤ 60 := hI.2 4 0
  have fw : ∀ m, m < 1000 → m < fu := fun m h => by rw [fu_s]; omega
  refine ⟨?_, ?_⟩
  · unfold ok_X9_firstUsable
    refine okl_first (by omega) ⟨by omega, by omega⟩ (fun q q0 q1 => ?_) fu 0 (by omega) (by omega) (fw _ (by omega))
    rw [(hf q q0 q1).2]
    have u24 : 0 ≤ v 24 (lget (pav v s) q) ∧ v 24 (lget (pav v s) q) ≤ T := hI.2 24 _
    exact ⟨by omega, by omega⟩
  · have hu : ∀ q, 0 ≤ q → q < ((c.2.2.1 (13 + s)).length : Int) → (¬ g_X4_isUsable (lget (c.2.2.1 (13 + s)) q) (c.2.1 13 11 0) c = 0 ↔ ¬ f_isUsable (lget (pav v s) q) s v = 0) := fun q q0 q1 => by
      have hm := pav_mem.mp (lget_mem (xs := pav v s) q0 (by omega))
      rw [isU]
      unfold g_X4_isUsable
      rw [(hf q q0 q1).2, hd]
      split
      · exact ⟨fun h => absurd rfl h, fun h => by omega⟩
      · exact ⟨fun _ => ⟨hm.2, by omega⟩, fun _ => by decide⟩
    have a := cp_first (s := s) (v := v) ((v 4 0 - 0).toNat + 1) 0 (by omega) (by omega)
    have b := cu_first (s := s) (d := c.2.1 13 11 0) (c := c) fu 0 (by omega) (fw _ (by omega))
    unfold f_firstPitch g_X9_firstUsable
    rcases b with ⟨b1, b2⟩ | ⟨b1, b2, b3, b4⟩
    · rcases a with ⟨a1, a2⟩ | ⟨a1, a2, a3, a4⟩
      · exact Or.inl ⟨a1, b1⟩
      · have hm := isU.mp a3
        obtain ⟨j, j0, j1, e⟩ := mem_lget (pav_mem.mpr ⟨⟨a1, a2⟩, hm.1⟩)
        have := (hu j j0 (by omega)).mpr (by rw [e]; exact a3)
        exact absurd (b2 j j0 (by omega)) this
    · have b3' := (hu _ b1 b2).mp b3
      have hmb := pav_mem.mp (lget_mem (xs := pav v s) b1 (by omega))
      rcases a with ⟨a1, a2⟩ | ⟨a1, a2, a3, a4⟩
      · exact absurd (a2 _ hmb.1.1 hmb.1.2) b3'
      · refine Or.inr ⟨b1, b2, ?_⟩
        have hm := isU.mp a3
        obtain ⟨j, j0, j1, e⟩ := mem_lget (pav_mem.mpr ⟨⟨a1, a2⟩, hm.1⟩)
        have g1 := (hu j j0 (by omega)).mpr (by rw [e]; exact a3)
        have g2 : l_X9_firstUsable_2 s (c.2.1 13 11 0) c fu 0 ≤ j := Int.not_lt.mp (fun h => g1 (b4 j j0 h))
        have g3 : l_firstPitch_2 s v ((v 4 0 - 0).toNat + 1) 0 ≤ lget (pav v s) (l_X9_firstUsable_2 s (c.2.1 13 11 0) c fu 0) := Int.not_lt.mp (fun h => b3' (a4 _ hmb.1.1 h))
        by_cases e2 : l_X9_firstUsable_2 s (c.2.1 13 11 0) c fu 0 = j
        · rw [e2, e]
        · have := inc_lt (pav_inc v s) b1 (show l_X9_firstUsable_2 s (c.2.1 13 11 0) c fu 0 < j by omega) j1
          omega
theorem yst {c : Cs} {v : Vw} {s : Int} (hS : Sm c v) (h0 : 0 ≤ s) (h4 : s < 4) : (c.2.2.1 (13 + s)).length = (pav v s).length ∧ ∀ j, 0 ≤ j → j < ((c.2.2.1 (13 + s)).length : Int) → c.2.1 7 0 (lget (c.2.2.1 (13 + s)) j) = v 23 (lget (pav v s) j) ∧ c.2.1 7 1 (lget (c.2.2.1 (13 + s)) j) = v 24 (lget (pav v s) j) := ysty hS.cy h0 h4
theorem yfirst {c : Cs} {v : Vw} {T E s : Int} (hS : Sm c v) (hI : IM v T E) (h0 : 0 ≤ s) (h4 : s < 4) :
    ok_X9_firstUsable s (c.2.1 13 11 0) c ∧ ((f_firstPitch s v = -1 ∧ g_X9_firstUsable s (c.2.1 13 11 0) c = -1) ∨
      (0 ≤ g_X9_firstUsable s (c.2.1 13 11 0) c ∧ g_X9_firstUsable s (c.2.1 13 11 0) c < ((c.2.2.1 (13 + s)).length : Int) ∧ f_firstPitch s v = lget (pav v s) (g_X9_firstUsable s (c.2.1 13 11 0) c))) := yfirsty hS.cy hS.c0.2.2.2 hI h0 h4
