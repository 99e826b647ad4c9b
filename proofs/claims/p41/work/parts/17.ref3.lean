/-! the reference: the best order (written by wip/whole/mk17.py) -/
def val6 (v : Vw) : Int := ((((v 40 0 * 5 + v 40 1) * 5 + v 40 2) * 5 + v 40 3) * 5 + v 40 4) * 5 + v 40 5
theorem val6_congr {v w : Vw} (h : ∀ i, w 40 i = v 40 i) : val6 w = val6 v := by
  unfold val6
  rw [h, h, h, h, h, h]
def mT (more : Int) (v : Vw) : Int := if more = 0 then 0 else 20000 - val6 v
theorem lt_l_turns_86 : ∀ (n : Nat) (lo hi : Int) (v : Vw) (i : Int), i < lo → (l_turns_86 n lo hi v).2 40 i = v 40 i := by
  intro n
  induction n with
  | zero => exact fun _ _ _ _ _ => rfl
  | succ n ih =>
    intro lo hi v i hi'
    rw [l_turns_86]
    split
    · rfl
    · rename_i h
      rw [ih _ _ _ _ (by omega)]
      unfold f_swaps upv
      rw [if_neg (by omega), if_neg (by omega)]
theorem turns_dec {w : Vw} {T E : Int} (hI : IM w T E) (hq : 1 ≤ w 7 0) (h1 : ¬ (f_turns w).1 = 0) : val6 w < val6 (f_turns w).2 := by
  have hJ := i_turns hI hq
  have u7 : 0 ≤ w 7 0 ∧ w 7 0 ≤ 6 := hI.2 7 0
  have g := r_l_turns_7 (v := w) ((((w 7 0) - 2) + 1).toNat + 1) (w 7 0 - 2) (by omega) (by omega)
  have b : ∀ i, (0 ≤ w 40 i ∧ w 40 i ≤ 4) ∧ 0 ≤ (f_turns w).2 40 i ∧ (f_turns w).2 40 i ≤ 4 := fun i => ⟨hI.2 40 i, hJ.2 40 i⟩
  have key : ∃ k, 0 ≤ k ∧ k ≤ 4 ∧ (∀ i, i < k → (f_turns w).2 40 i = w 40 i) ∧ w 40 k < (f_turns w).2 40 k := by
    rw [f_turns] at h1 ⊢
    by_cases c : 0 ≤ l_turns_7 w ((((w 7 0) - 2) + 1).toNat + 1) (w 7 0 - 2)
    · rw [if_pos c]
      have g2 := r_l_turns_47 (v := w) (l_turns_7 w ((((w 7 0) - 2) + 1).toNat + 1) (w 7 0 - 2)) ((w 7 0 - 1).toNat + 1) (w 7 0 - 1) (by omega) (by omega) (by omega)
      refine ⟨_, c, by omega, ?_, ?_⟩
      · intro i hi
        show (l_turns_86 _ _ _ _).2 40 i = _
        rw [lt_l_turns_86 _ _ _ _ _ (by omega)]
        unfold f_swaps upv
        rw [if_neg (by omega), if_neg (by omega)]
      · show _ < (l_turns_86 _ _ _ _).2 40 _
        rw [lt_l_turns_86 _ _ _ _ _ (by omega)]
        unfold f_swaps upv
        rw [if_neg (by omega), if_pos ⟨rfl, rfl⟩]
        exact g2.2.2
    · rw [if_neg c] at h1
      exact absurd rfl h1
  obtain ⟨k, k0, k4, hs, hk⟩ := key
  have b0 := b 0
  have b1 := b 1
  have b2 := b 2
  have b3 := b 3
  have b4 := b 4
  have b5 := b 5
  unfold val6
  rcases (show k = 0 ∨ k = 1 ∨ k = 2 ∨ k = 3 ∨ k = 4 by omega) with rfl | rfl | rfl | rfl | rfl
  · omega
  · have := hs 0 (by omega)
    omega
  · have := hs 0 (by omega)
    have := hs 1 (by omega)
    omega
  · have := hs 0 (by omega)
    have := hs 1 (by omega)
    have := hs 2 (by omega)
    omega
  · have := hs 0 (by omega)
    have := hs 1 (by omega)
    have := hs 2 (by omega)
    have := hs 3 (by omega)
    omega
theorem val6_rg {w : Vw} {T E : Int} (hI : IM w T E) : 0 ≤ val6 w ∧ val6 w ≤ 15624 := by
  have b : ∀ i, 0 ≤ w 40 i ∧ w 40 i ≤ 4 := fun i => hI.2 40 i
  have b0 := b 0
  have b1 := b 1
  have b2 := b 2
  have b3 := b 3
  have b4 := b 4
  have b5 := b 5
  unfold val6
  omega
theorem mT_step {more : Int} {v w : Vw} {T E : Int} {n : Nat} (hc : ¬ more = 0) (hI : IM w T E) (hq : 1 ≤ w 7 0) (e : val6 w = val6 v) (hm : (mT more v).toNat < n + 1) : (mT (f_turns w).1 (f_turns w).2).toNat < n := by
  unfold mT at hm ⊢
  rw [if_neg hc] at hm
  have r := val6_rg hI
  split
  · omega
  · rename_i h
    have := turns_dec hI hq h
    omega
def l_finds_12 (k : Int) : Nat → Int → Vw → Int × Vw
  | 0, a, v => (a, v)
  | n + 1, a, v =>
    if a ≤ 0 then
      (a, v)
    else
      if (v 40 (a - 1)) ≤ (v 39 k) then
        (a, v)
      else
        (l_finds_12 k n (a + (-1)) (upv v 40 a (v 40 (a - 1))))
theorem fr_l_finds_12 {k : Int} : ∀ (n : Nat) (a : Int) (v : Vw) (fk : Nat) (fi : Int) (hk : fk ≠ 40), (l_finds_12 k n a v).2 fk fi = v fk fi := by
  intro n a v fk fi hk
  induction n generalizing a v with
  | zero => rfl
  | succ n ih =>
    by_cases c1 : a ≤ 0
    · rw [l_finds_12, if_pos c1]
      try rfl
    · by_cases c4 : (v 40 (a - 1)) ≤ (v 39 k)
      · rw [l_finds_12, if_neg c1, if_pos c4]
        try rfl
      · rw [l_finds_12, if_neg c1, if_neg c4]
        exact (ih (a + (-1)) (upv v 40 a (v 40 (a - 1)))).trans ((upv_nk (by omega)).trans rfl)
theorem i_l_finds_12 {T E : Int} {k : Int} : ∀ (n : Nat) (a : Int) (v : Vw) (hI : IM v T E) (ha : 0 ≤ a ∧ a ≤ 5) (hk : 0 ≤ k ∧ k ≤ 5), IM (l_finds_12 k n a v).2 T (E) := by
  intro n
  induction n with
  | zero =>
    intro a v hI ha hk
    have hT := hI.1
    exact hI
  | succ n ih =>
    intro a v hI ha hk
    have hT := hI.1
    by_cases c1 : a ≤ 0
    · rw [l_finds_12, if_pos c1]
      exact hI
    · have q2 : 0 ≤ v 40 (a - 1) ∧ v 40 (a - 1) ≤ 4 := hI.2 40 (a - 1)
      have q3 : 0 ≤ v 39 k ∧ v 39 k ≤ 4 := hI.2 39 k
      by_cases c4 : (v 40 (a - 1)) ≤ (v 39 k)
      · rw [l_finds_12, if_neg c1, if_pos c4]
        exact hI
      · rw [l_finds_12, if_neg c1, if_neg c4]
        exact ih (a + (-1)) (upv v 40 a (v 40 (a - 1))) (hI.up 40 a (v 40 (a - 1)) (by show 0 ≤ (v 40 (a - 1)) ∧ (v 40 (a - 1)) ≤ 4; omega)) (by show 0 ≤ (a + (-1)) ∧ (a + (-1)) ≤ 5; omega) (by show 0 ≤ k ∧ k ≤ 5; omega)
theorem r_l_finds_12 (k : Int) : ∀ (n : Nat) (a : Int) (v : Vw), 0 ≤ a → 0 ≤ (l_finds_12 k n a v).1 ∧ (l_finds_12 k n a v).1 ≤ a := by
  intro n
  induction n with
  | zero => exact fun a _ h => ⟨h, Int.le_refl a⟩
  | succ n ih =>
    intro a v ha
    rw [l_finds_12]
    repeat' split
    · exact ⟨ha, Int.le_refl a⟩
    · exact ⟨ha, Int.le_refl a⟩
    · have g := ih (a + -1) (upv v 40 a (v 40 (a - 1))) (by omega)
      exact ⟨g.1, by omega⟩
def l_finds_2 : Nat → Int → Vw → Vw
  | 0, k, v => v
  | n + 1, k, v =>
    if (v 7 0) ≤ k then
      v
    else
      (l_finds_2 n (k + 1) (upv ((l_finds_12 k ((k).toNat + 1) k v).2) 40 ((l_finds_12 k ((k).toNat + 1) k v).1) (v 39 k)))
theorem fr_l_finds_2 : ∀ (n : Nat) (k : Int) (v : Vw) (fk : Nat) (fi : Int) (hk : fk ≠ 40), (l_finds_2 n k v) fk fi = v fk fi := by
  intro n k v fk fi hk
  induction n generalizing k v with
  | zero => rfl
  | succ n ih =>
    by_cases c5 : (v 7 0) ≤ k
    · rw [l_finds_2, if_pos c5]
      try rfl
    · rw [l_finds_2, if_neg c5]
      exact (ih (k + 1) (upv ((l_finds_12 k ((k).toNat + 1) k v).2) 40 ((l_finds_12 k ((k).toNat + 1) k v).1) (v 39 k))).trans ((upv_nk (by omega)).trans ((fr_l_finds_12 ((k).toNat + 1) k v fk fi (by omega)).trans rfl))
theorem i_l_finds_2 {T E : Int} : ∀ (n : Nat) (k : Int) (v : Vw) (hI : IM v T E) (hk : 0 ≤ k ∧ k ≤ 100), IM (l_finds_2 n k v) T (E) := by
  intro n
  induction n with
  | zero =>
    intro k v hI hk
    have hT := hI.1
    exact hI
  | succ n ih =>
    intro k v hI hk
    have hT := hI.1
    have u7 : 0 ≤ v 7 0 ∧ v 7 0 ≤ 6 := hI.2 7 0
    by_cases c5 : (v 7 0) ≤ k
    · rw [l_finds_2, if_pos c5]
      exact hI
    · have hJ6 := i_l_finds_12  ((k).toNat + 1) k v hI (by show 0 ≤ k ∧ k ≤ 5; omega) (by show 0 ≤ k ∧ k ≤ 5; omega)
      have q7 := r_l_finds_12 k ((k).toNat + 1) k v (by omega)
      have q8 : 0 ≤ v 39 k ∧ v 39 k ≤ 4 := hI.2 39 k
      have q9 : ((l_finds_12 k ((k).toNat + 1) k v).2) 39 k = v 39 k := (fr_l_finds_12 ((k).toNat + 1) k v 39 k (by decide)).trans rfl
      have q10 : ((l_finds_12 k ((k).toNat + 1) k v).2) 7 0 = v 7 0 := (fr_l_finds_12 ((k).toNat + 1) k v 7 0 (by decide)).trans rfl
      rw [l_finds_2, if_neg c5]
      exact ih (k + 1) (upv ((l_finds_12 k ((k).toNat + 1) k v).2) 40 ((l_finds_12 k ((k).toNat + 1) k v).1) (v 39 k)) (hJ6.up 40 ((l_finds_12 k ((k).toNat + 1) k v).1) (v 39 k) (by show 0 ≤ (v 39 k) ∧ (v 39 k) ≤ 4; omega)) (by show 0 ≤ (k + 1) ∧ (k + 1) ≤ 100; omega)
def l_finds_99 : Nat → Int → Vw → Vw
  | 0, x, v => v
  | n + 1, x, v =>
    if (v 7 0) ≤ x then
      v
    else
      (l_finds_99 n (x + 1) (upv v 41 x (v 40 x)))
theorem fr_l_finds_99 : ∀ (n : Nat) (x : Int) (v : Vw) (fk : Nat) (fi : Int) (hk : fk ≠ 41), (l_finds_99 n x v) fk fi = v fk fi := by
  intro n x v fk fi hk
  induction n generalizing x v with
  | zero => rfl
  | succ n ih =>
    by_cases c11 : (v 7 0) ≤ x
    · rw [l_finds_99, if_pos c11]
      try rfl
    · rw [l_finds_99, if_neg c11]
      exact (ih (x + 1) (upv v 41 x (v 40 x))).trans ((upv_nk (by omega)).trans rfl)
theorem i_l_finds_99 {T E : Int} : ∀ (n : Nat) (x : Int) (v : Vw) (hI : IM v T E) (hx : 0 ≤ x ∧ x ≤ 100), IM (l_finds_99 n x v) T (E) := by
  intro n
  induction n with
  | zero =>
    intro x v hI hx
    have hT := hI.1
    exact hI
  | succ n ih =>
    intro x v hI hx
    have hT := hI.1
    have u7 : 0 ≤ v 7 0 ∧ v 7 0 ≤ 6 := hI.2 7 0
    by_cases c11 : (v 7 0) ≤ x
    · rw [l_finds_99, if_pos c11]
      exact hI
    · have q12 : 0 ≤ v 40 x ∧ v 40 x ≤ 4 := hI.2 40 x
      rw [l_finds_99, if_neg c11]
      exact ih (x + 1) (upv v 41 x (v 40 x)) (hI.up 41 x (v 40 x) (by show 0 ≤ (v 40 x) ∧ (v 40 x) ≤ 4; omega)) (by show 0 ≤ (x + 1) ∧ (x + 1) ≤ 100; omega)
def l_finds_76 : Nat → Int → Int → Vw → Int × Vw
  | 0, least, more, v => (0, v)
  | n + 1, least, more, v =>
    if more = 0 then
      (least, v)
    else
      if least ≤ (f_forecastOf 40 v).1 then
        (l_finds_76 n least ((f_turns  ((f_forecastOf 40 v).2)).1) ((f_turns  ((f_forecastOf 40 v).2)).2))
      else
        (l_finds_76 n ((f_forecastOf 40 v).1) ((f_turns  (l_finds_99 (((v 7 0) - 0).toNat + 1) 0 ((f_forecastOf 40 v).2))).1) ((f_turns  (l_finds_99 (((v 7 0) - 0).toNat + 1) 0 ((f_forecastOf 40 v).2))).2))
theorem fr_l_finds_76 : ∀ (n : Nat) (least more : Int) (v : Vw) (fk : Nat) (fi : Int) (hk : fk ≠ 40 ∧ fk ≠ 41 ∧ fk ≠ 42 ∧ fk ≠ 43), (l_finds_76 n least more v).2 fk fi = v fk fi := by
  intro n least more v fk fi hk
  induction n generalizing least more v with
  | zero => rfl
  | succ n ih =>
    by_cases c13 : more = 0
    · rw [l_finds_76, if_pos c13]
      try rfl
    · by_cases c17 : least ≤ (f_forecastOf 40 v).1
      · rw [l_finds_76, if_neg c13, if_pos c17]
        exact (ih least ((f_turns  ((f_forecastOf 40 v).2)).1) ((f_turns  ((f_forecastOf 40 v).2)).2)).trans ((fr_turns (v := ((f_forecastOf 40 v).2)) fk fi (by omega)).trans ((fr_forecastOf (kr := 40) (v := v) fk fi (by omega)).trans rfl))
      · rw [l_finds_76, if_neg c13, if_neg c17]
        exact (ih ((f_forecastOf 40 v).1) ((f_turns  (l_finds_99 (((v 7 0) - 0).toNat + 1) 0 ((f_forecastOf 40 v).2))).1) ((f_turns  (l_finds_99 (((v 7 0) - 0).toNat + 1) 0 ((f_forecastOf 40 v).2))).2)).trans ((fr_turns (v := (l_finds_99 (((v 7 0) - 0).toNat + 1) 0 ((f_forecastOf 40 v).2))) fk fi (by omega)).trans ((fr_l_finds_99 (((v 7 0) - 0).toNat + 1) 0 ((f_forecastOf 40 v).2) fk fi (by omega)).trans ((fr_forecastOf (kr := 40) (v := v) fk fi (by omega)).trans rfl)))
theorem i_l_finds_76 {T E : Int} : ∀ (n : Nat) (least more : Int) (v : Vw) (hI : IM v T E) (hl : 0 ≤ least ∧ least ≤ 2147483647) (hmo : 0 ≤ more ∧ more ≤ 1) (ht : HasF v) (hq : 1 ≤ v 7 0), IM (l_finds_76 n least more v).2 T (E) := by
  intro n
  induction n with
  | zero =>
    intro least more v hI hl hmo ht hq
    have hT := hI.1
    exact hI
  | succ n ih =>
    intro least more v hI hl hmo ht hq
    have hT := hI.1
    have u7 : 0 ≤ v 7 0 ∧ v 7 0 ≤ 6 := hI.2 7 0
    by_cases c13 : more = 0
    · rw [l_finds_76, if_pos c13]
      exact hI
    · have hJ14 := (i_forecastOf (kr := 40) hI (by show 40 = 39 ∨ 40 = 40; omega) (by first | exact ht | exact hcf (by assumption) | exact hff (hcf (by assumption)))).1
      have q15 := (i_forecastOf (kr := 40) hI (by show 40 = 39 ∨ 40 = 40; omega) (by first | exact ht | exact hcf (by assumption) | exact hff (hcf (by assumption)))).2
      have hff : HasF v → HasF (f_forecastOf 40 v).2 := fun h => HasF_fr (fr_forecastOf 2 0 (by decide)) (fun i => fr_forecastOf 20 i (by decide)) h
      by_cases c17 : least ≤ (f_forecastOf 40 v).1
      · have q18 : ((f_forecastOf 40 v).2) 7 0 = v 7 0 := (fr_forecastOf (kr := 40) (v := v) 7 0 (by decide)).trans rfl
        have hJ19 := (i_turns  hJ14 (by show 1 ≤ (((f_forecastOf 40 v).2) 7 0); omega))
        have q20 : 0 ≤ (f_turns  ((f_forecastOf 40 v).2)).1 ∧ (f_turns  ((f_forecastOf 40 v).2)).1 ≤ 1 := rb_turns ((f_forecastOf 40 v).2)
        have q21 : ((f_turns  ((f_forecastOf 40 v).2)).2) 7 0 = v 7 0 := (fr_turns (v := ((f_forecastOf 40 v).2)) 7 0 (by decide)).trans q18
        rw [l_finds_76, if_neg c13, if_pos c17]
        exact ih least ((f_turns  ((f_forecastOf 40 v).2)).1) ((f_turns  ((f_forecastOf 40 v).2)).2) hJ19 (by show 0 ≤ least ∧ least ≤ 2147483647; omega) (by show 0 ≤ ((f_turns  ((f_forecastOf 40 v).2)).1) ∧ ((f_turns  ((f_forecastOf 40 v).2)).1) ≤ 1; omega) (by exact HasF_fr (((fr_turns (v := ((f_forecastOf 40 v).2)) 2 0 (by decide)).trans ((fr_forecastOf (kr := 40) (v := v) 2 0 (by decide)).trans rfl))) (fun ii => ((fr_turns (v := ((f_forecastOf 40 v).2)) 20 ii (by decide)).trans ((fr_forecastOf (kr := 40) (v := v) 20 ii (by decide)).trans rfl))) ht) (by show 1 ≤ (((f_turns  ((f_forecastOf 40 v).2)).2) 7 0); omega)
      · have q22 : ((f_forecastOf 40 v).2) 7 0 = v 7 0 := (fr_forecastOf (kr := 40) (v := v) 7 0 (by decide)).trans rfl
        have hJ23 := i_l_finds_99  (((v 7 0) - 0).toNat + 1) 0 ((f_forecastOf 40 v).2) hJ14 (by show 0 ≤ 0 ∧ 0 ≤ 100; omega)
        have q24 : (l_finds_99 (((v 7 0) - 0).toNat + 1) 0 ((f_forecastOf 40 v).2)) 7 0 = v 7 0 := (fr_l_finds_99 (((v 7 0) - 0).toNat + 1) 0 ((f_forecastOf 40 v).2) 7 0 (by decide)).trans q22
        have hJ25 := (i_turns  hJ23 (by show 1 ≤ ((l_finds_99 (((v 7 0) - 0).toNat + 1) 0 ((f_forecastOf 40 v).2)) 7 0); omega))
        have q26 : 0 ≤ (f_turns  (l_finds_99 (((v 7 0) - 0).toNat + 1) 0 ((f_forecastOf 40 v).2))).1 ∧ (f_turns  (l_finds_99 (((v 7 0) - 0).toNat + 1) 0 ((f_forecastOf 40 v).2))).1 ≤ 1 := rb_turns (l_finds_99 (((v 7 0) - 0).toNat + 1) 0 ((f_forecastOf 40 v).2))
        have q27 : ((f_turns  (l_finds_99 (((v 7 0) - 0).toNat + 1) 0 ((f_forecastOf 40 v).2))).2) 7 0 = v 7 0 := (fr_turns (v := (l_finds_99 (((v 7 0) - 0).toNat + 1) 0 ((f_forecastOf 40 v).2))) 7 0 (by decide)).trans q24
        rw [l_finds_76, if_neg c13, if_neg c17]
        exact ih ((f_forecastOf 40 v).1) ((f_turns  (l_finds_99 (((v 7 0) - 0).toNat + 1) 0 ((f_forecastOf 40 v).2))).1) ((f_turns  (l_finds_99 (((v 7 0) - 0).toNat + 1) 0 ((f_forecastOf 40 v).2))).2) hJ25 (by show 0 ≤ ((f_forecastOf 40 v).1) ∧ ((f_forecastOf 40 v).1) ≤ 2147483647; omega) (by show 0 ≤ ((f_turns  (l_finds_99 (((v 7 0) - 0).toNat + 1) 0 ((f_forecastOf 40 v).2))).1) ∧ ((f_turns  (l_finds_99 (((v 7 0) - 0).toNat + 1) 0 ((f_forecastOf 40 v).2))).1) ≤ 1; omega) (by exact HasF_fr (((fr_turns (v := (l_finds_99 (((v 7 0) - 0).toNat + 1) 0 ((f_forecastOf 40 v).2))) 2 0 (by decide)).trans ((fr_l_finds_99 (((v 7 0) - 0).toNat + 1) 0 ((f_forecastOf 40 v).2) 2 0 (by decide)).trans ((fr_forecastOf (kr := 40) (v := v) 2 0 (by decide)).trans rfl)))) (fun ii => ((fr_turns (v := (l_finds_99 (((v 7 0) - 0).toNat + 1) 0 ((f_forecastOf 40 v).2))) 20 ii (by decide)).trans ((fr_l_finds_99 (((v 7 0) - 0).toNat + 1) 0 ((f_forecastOf 40 v).2) 20 ii (by decide)).trans ((fr_forecastOf (kr := 40) (v := v) 20 ii (by decide)).trans rfl)))) ht) (by show 1 ≤ (((f_turns  (l_finds_99 (((v 7 0) - 0).toNat + 1) 0 ((f_forecastOf 40 v).2))).2) 7 0); omega)
def f_finds (v : Vw) : Int × Vw :=
  (l_finds_76 ((mT 1 (l_finds_2 (((v 7 0) - 0).toNat + 1) 0 v)).toNat + 1) 2147483647 1 (l_finds_2 (((v 7 0) - 0).toNat + 1) 0 v))
theorem i_finds {v : Vw} {T E : Int} (hI : IM v T E) (ht : HasF v) (hq : 1 ≤ v 7 0) : IM (f_finds v).2 T (E) := by
  have hT := hI.1
  have u7 : 0 ≤ v 7 0 ∧ v 7 0 ≤ 6 := hI.2 7 0
  have hJ28 := i_l_finds_2  (((v 7 0) - 0).toNat + 1) 0 v hI (by show 0 ≤ 0 ∧ 0 ≤ 100; omega)
  have q29 : (l_finds_2 (((v 7 0) - 0).toNat + 1) 0 v) 7 0 = v 7 0 := (fr_l_finds_2 (((v 7 0) - 0).toNat + 1) 0 v 7 0 (by decide)).trans rfl
  rw [f_finds]
  exact i_l_finds_76  ((mT 1 (l_finds_2 (((v 7 0) - 0).toNat + 1) 0 v)).toNat + 1) 2147483647 1 (l_finds_2 (((v 7 0) - 0).toNat + 1) 0 v) hJ28 (by show 0 ≤ 2147483647 ∧ 2147483647 ≤ 2147483647; omega) (by show 0 ≤ 1 ∧ 1 ≤ 1; omega) (by exact HasF_fr (fr_l_finds_2 _ _ _ 2 0 (by decide)) (fun ii => fr_l_finds_2 _ _ _ 20 ii (by decide)) ht) (by show 1 ≤ ((l_finds_2 (((v 7 0) - 0).toNat + 1) 0 v) 7 0); omega)
theorem fr_finds {v : Vw} (fk : Nat) (fi : Int) (hk : fk ≠ 40 ∧ fk ≠ 41 ∧ fk ≠ 42 ∧ fk ≠ 43) : (f_finds v).2 fk fi = v fk fi := by
  rw [f_finds]
  exact (fr_l_finds_76 ((mT 1 (l_finds_2 (((v 7 0) - 0).toNat + 1) 0 v)).toNat + 1) 2147483647 1 (l_finds_2 (((v 7 0) - 0).toNat + 1) 0 v) fk fi (by omega)).trans ((fr_l_finds_2 (((v 7 0) - 0).toNat + 1) 0 v fk fi (by omega)).trans rfl)
def f_bestForecast (v : Vw) : Int × Vw :=
  if (f_canForecast  v).1 = 0 then
    (0, (f_canForecast  v).2)
  else
    ((f_finds  ((f_canForecast  v).2)).1, (f_finds  ((f_canForecast  v).2)).2)
theorem i_bestForecast {v : Vw} {T E : Int} (hI : IM v T E) : IM (f_bestForecast v).2 T (E) := by
  have hT := hI.1
  have q1 : 0 ≤ v 7 0 ∧ v 7 0 ≤ 6 := hI.2 7 0
  have hJ2 := (i_canForecast  hI )
  have q3 : (f_canForecast  v).1 = 0 ∨ ((f_canForecast  v).1 = 1 ∧ 0 < (v 7 0)) := c_canForecast v
  have hcf : ¬ (f_canForecast  v).1 = 0 → HasF (f_canForecast  v).2 := h_canForecast v
  have q5 : 0 ≤ (v 7 0) ∧ (v 7 0) ≤ 6 := hI.2 7 0
  by_cases c6 : (f_canForecast  v).1 = 0
  · rw [f_bestForecast, if_pos c6]
    exact hJ2
  · have q7 : ((f_canForecast  v).2) 7 0 = v 7 0 := (fr_canForecast (v := v) 7 0 (by decide)).trans rfl
    have hJ8 := (i_finds  hJ2 (by first | exact ht | exact hcf (by assumption) | exact hff (hcf (by assumption))) (by show 1 ≤ (((f_canForecast  v).2) 7 0); omega))
    rw [f_bestForecast, if_neg c6]
    exact hJ8
theorem fr_bestForecast {v : Vw} (fk : Nat) (fi : Int) (hk : fk ≠ 0 ∧ fk ≠ 40 ∧ fk ≠ 41 ∧ fk ≠ 42 ∧ fk ≠ 43) : (f_bestForecast v).2 fk fi = v fk fi := by
  by_cases c6 : (f_canForecast  v).1 = 0
  · rw [f_bestForecast, if_pos c6]
    exact ((fr_canForecast (v := v) fk fi (by omega)).trans rfl)
  · rw [f_bestForecast, if_neg c6]
    exact ((fr_finds (v := ((f_canForecast  v).2)) fk fi (by omega)).trans ((fr_canForecast (v := v) fk fi (by omega)).trans rfl))
def f_bestForecastByTrying (v : Vw) : Int × Vw :=
  ((f_bestForecast  v).1, (f_bestForecast  v).2)
theorem i_bestForecastByTrying {v : Vw} {T E : Int} (hI : IM v T E) : IM (f_bestForecastByTrying v).2 T (E) := by
  have hT := hI.1
  have hJ1 := (i_bestForecast  hI )
  rw [f_bestForecastByTrying]
  exact hJ1
theorem fr_bestForecastByTrying {v : Vw} (fk : Nat) (fi : Int) (hk : fk ≠ 0 ∧ fk ≠ 40 ∧ fk ≠ 41 ∧ fk ≠ 42 ∧ fk ≠ 43) : (f_bestForecastByTrying v).2 fk fi = v fk fi := by
  rw [f_bestForecastByTrying]
  exact ((fr_bestForecast (v := v) fk fi (by omega)).trans rfl)
def l_improve_25 (was now : Int) : Nat → Int → Vw → Int × Vw
  | 0, k, v => (0, v)
  | n + 1, k, v =>
    if (v 7 0) ≤ k then
      ((was - now), v)
    else
      (l_improve_25 was now n (k + 1) (upv v 39 k (v 41 k)))
theorem fr_l_improve_25 {was : Int} {now : Int} : ∀ (n : Nat) (k : Int) (v : Vw) (fk : Nat) (fi : Int) (hk : fk ≠ 39), (l_improve_25 was now n k v).2 fk fi = v fk fi := by
  intro n k v fk fi hk
  induction n generalizing k v with
  | zero => rfl
  | succ n ih =>
    by_cases c1 : (v 7 0) ≤ k
    · rw [l_improve_25, if_pos c1]
      try rfl
    · rw [l_improve_25, if_neg c1]
      exact (ih (k + 1) (upv v 39 k (v 41 k))).trans ((upv_nk (by omega)).trans rfl)
theorem i_l_improve_25 {T E : Int} {was : Int} {now : Int} : ∀ (n : Nat) (k : Int) (v : Vw) (hI : IM v T E) (hk : 0 ≤ k ∧ k ≤ 100), IM (l_improve_25 was now n k v).2 T (E) := by
  intro n
  induction n with
  | zero =>
    intro k v hI hk
    have hT := hI.1
    exact hI
  | succ n ih =>
    intro k v hI hk
    have hT := hI.1
    have u7 : 0 ≤ v 7 0 ∧ v 7 0 ≤ 6 := hI.2 7 0
    by_cases c1 : (v 7 0) ≤ k
    · rw [l_improve_25, if_pos c1]
      exact hI
    · have q2 : 0 ≤ v 41 k ∧ v 41 k ≤ 4 := hI.2 41 k
      rw [l_improve_25, if_neg c1]
      exact ih (k + 1) (upv v 39 k (v 41 k)) (hI.up 39 k (v 41 k) (by show 0 ≤ (v 41 k) ∧ (v 41 k) ≤ 4; omega)) (by show 0 ≤ (k + 1) ∧ (k + 1) ≤ 100; omega)
def f_improve (v : Vw) : Int × Vw :=
  if (f_canForecast  v).1 = 0 then
    (0, (f_canForecast  v).2)
  else
    (l_improve_25 ((f_forecastOf 39 ((f_canForecast  v).2)).1) ((f_finds  ((f_forecastOf 39 ((f_canForecast  v).2)).2)).1) (((v 7 0) - 0).toNat + 1) 0 ((f_finds  ((f_forecastOf 39 ((f_canForecast  v).2)).2)).2))
theorem i_improve {v : Vw} {T E : Int} (hI : IM v T E) : IM (f_improve v).2 T (E) := by
  have hT := hI.1
  have q3 : 0 ≤ v 7 0 ∧ v 7 0 ≤ 6 := hI.2 7 0
  have hJ4 := (i_canForecast  hI )
  have q5 : (f_canForecast  v).1 = 0 ∨ ((f_canForecast  v).1 = 1 ∧ 0 < (v 7 0)) := c_canForecast v
  have hcf : ¬ (f_canForecast  v).1 = 0 → HasF (f_canForecast  v).2 := h_canForecast v
  have q7 : 0 ≤ (v 7 0) ∧ (v 7 0) ≤ 6 := hI.2 7 0
  by_cases c8 : (f_canForecast  v).1 = 0
  · rw [f_improve, if_pos c8]
    exact hJ4
  · have hJ9 := (i_forecastOf (kr := 39) hJ4 (by show 39 = 39 ∨ 39 = 40; omega) (by first | exact ht | exact hcf (by assumption) | exact hff (hcf (by assumption)))).1
    have q10 := (i_forecastOf (kr := 39) hJ4 (by show 39 = 39 ∨ 39 = 40; omega) (by first | exact ht | exact hcf (by assumption) | exact hff (hcf (by assumption)))).2
    have hff : HasF ((f_canForecast  v).2) → HasF (f_forecastOf 39 ((f_canForecast  v).2)).2 := fun h => HasF_fr (fr_forecastOf 2 0 (by decide)) (fun i => fr_forecastOf 20 i (by decide)) h
    have q12 : ((f_canForecast  v).2) 7 0 = v 7 0 := (fr_canForecast (v := v) 7 0 (by decide)).trans rfl
    have q13 : ((f_forecastOf 39 ((f_canForecast  v).2)).2) 7 0 = v 7 0 := (fr_forecastOf (kr := 39) (v := ((f_canForecast  v).2)) 7 0 (by decide)).trans q12
    have hJ14 := (i_finds  hJ9 (by first | exact ht | exact hcf (by assumption) | exact hff (hcf (by assumption))) (by show 1 ≤ (((f_forecastOf 39 ((f_canForecast  v).2)).2) 7 0); omega))
    have q15 : ((f_finds  ((f_forecastOf 39 ((f_canForecast  v).2)).2)).2) 7 0 = v 7 0 := (fr_finds (v := ((f_forecastOf 39 ((f_canForecast  v).2)).2)) 7 0 (by decide)).trans q13
    rw [f_improve, if_neg c8]
    exact i_l_improve_25  (((v 7 0) - 0).toNat + 1) 0 ((f_finds  ((f_forecastOf 39 ((f_canForecast  v).2)).2)).2) hJ14 (by show 0 ≤ 0 ∧ 0 ≤ 100; omega)
theorem fr_improve {v : Vw} (fk : Nat) (fi : Int) (hk : fk ≠ 0 ∧ fk ≠ 39 ∧ fk ≠ 40 ∧ fk ≠ 41 ∧ fk ≠ 42 ∧ fk ≠ 43) : (f_improve v).2 fk fi = v fk fi := by
  by_cases c8 : (f_canForecast  v).1 = 0
  · rw [f_improve, if_pos c8]
    exact ((fr_canForecast (v := v) fk fi (by omega)).trans rfl)
  · rw [f_improve, if_neg c8]
    exact (fr_l_improve_25 (((v 7 0) - 0).toNat + 1) 0 ((f_finds  ((f_forecastOf 39 ((f_canForecast  v).2)).2)).2) fk fi (by omega)).trans ((fr_finds (v := ((f_forecastOf 39 ((f_canForecast  v).2)).2)) fk fi (by omega)).trans ((fr_forecastOf (kr := 39) (v := ((f_canForecast  v).2)) fk fi (by omega)).trans ((fr_canForecast (v := v) fk fi (by omega)).trans rfl)))
