/-! the reference: days (written by wip/whole/mk18.py) -/
/-- the sum of f over the first n -/
def cN (f : Int → Int) : Nat → Int
  | 0 => 0
  | n + 1 => cN f n + f (n : Int)
theorem cN_congr {f g : Int → Int} : ∀ (n : Nat), (∀ i, 0 ≤ i → i < (n : Int) → g i = f i) → cN g n = cN f n := by
  intro n
  induction n with
  | zero => exact fun _ => rfl
  | succ n ih =>
    intro h
    unfold cN
    rw [ih (fun i h0 h1 => h i h0 (by omega)), h (n : Int) (by omega) (by omega)]
theorem cN_one {f g : Int → Int} {b : Int} (hne : ∀ i, i ≠ b → g i = f i) (hb : 0 ≤ b) : ∀ (n : Nat), cN g n = cN f n + (if b < (n : Int) then g b - f b else 0) := by
  intro n
  induction n with
  | zero => show (0 : Int) = 0 + _; rw [if_neg (by omega)]; rfl
  | succ n ih =>
    unfold cN
    rw [ih]
    by_cases e : (n : Int) = b
    · rw [if_neg (by omega), if_pos (by omega), e]
      omega
    · rw [hne _ e]
      by_cases h : b < (n : Int)
      · rw [if_pos h, if_pos (by omega)]
        omega
      · rw [if_neg h, if_neg (by omega)]
        omega
theorem cN_nn {f : Int → Int} (h : ∀ i, 0 ≤ f i) : ∀ n, 0 ≤ cN f n := by
  intro n
  induction n with
  | zero => exact Int.le_refl 0
  | succ n ih =>
    have := h (n : Int)
    unfold cN
    omega
theorem cN_pos {f : Int → Int} (h : ∀ i, 0 ≤ f i) {b : Int} (hb : 0 ≤ b) (h1 : 1 ≤ f b) : ∀ n : Nat, b < (n : Int) → 1 ≤ cN f n := by
  intro n
  induction n with
  | zero => intro h; omega
  | succ n ih =>
    intro hn
    unfold cN
    have := h (n : Int)
    have := cN_nn h n
    by_cases e : (n : Int) = b
    · rw [e] at *
      omega
    · have := ih (by omega)
      omega
def dlF (v : Vw) (i : Int) : Int := if v 28 i = 4 then 0 else 1
def pqF (v : Vw) (i : Int) : Int := if v 28 i = 0 then 1 else 0
def flF (v : Vw) (i : Int) : Int := if v 34 i = 102 then 0 else 1
/-- brews not drained; brews that ferment or are yet to come; orders not filled -/
def dl (v : Vw) : Int := cN (dlF v) 30
def pq (v : Vw) : Int := cN (pqF v) 30
def fl (v : Vw) : Int := cN (flF v) 20
theorem dlF_nn (v : Vw) (i : Int) : 0 ≤ dlF v i := by unfold dlF; split <;> omega
theorem pqF_nn (v : Vw) (i : Int) : 0 ≤ pqF v i := by unfold pqF; split <;> omega
theorem flF_nn (v : Vw) (i : Int) : 0 ≤ flF v i := by unfold flF; split <;> omega
theorem dl_nn (v : Vw) : 0 ≤ dl v := cN_nn (dlF_nn v) 30
theorem pq_nn (v : Vw) : 0 ≤ pq v := cN_nn (pqF_nn v) 30
theorem fl_nn (v : Vw) : 0 ≤ fl v := cN_nn (flF_nn v) 20
theorem dl_congr {v w : Vw} (h : ∀ i, w 28 i = v 28 i) : dl w = dl v := cN_congr 30 (fun i _ _ => by unfold dlF; rw [h])
theorem pq_congr {v w : Vw} (h : ∀ i, w 28 i = v 28 i) : pq w = pq v := cN_congr 30 (fun i _ _ => by unfold pqF; rw [h])
theorem fl_congr {v w : Vw} (h : ∀ i, w 34 i = v 34 i) : fl w = fl v := cN_congr 20 (fun i _ _ => by unfold flF; rw [h])
theorem dl_one {v w : Vw} {b : Int} (hb : 0 ≤ b ∧ b ≤ 29) (hne : ∀ i, i ≠ b → w 28 i = v 28 i) : dl w = dl v + (dlF w b - dlF v b) := by
  have h := cN_one (f := dlF v) (g := dlF w) (b := b) (fun i hi => by unfold dlF; rw [hne i hi]) hb.1 30
  rw [if_pos (by omega)] at h
  exact h
theorem pq_one {v w : Vw} {b : Int} (hb : 0 ≤ b ∧ b ≤ 29) (hne : ∀ i, i ≠ b → w 28 i = v 28 i) : pq w = pq v + (pqF w b - pqF v b) := by
  have h := cN_one (f := pqF v) (g := pqF w) (b := b) (fun i hi => by unfold pqF; rw [hne i hi]) hb.1 30
  rw [if_pos (by omega)] at h
  exact h
theorem fl_one {v w : Vw} {b : Int} (hb : 0 ≤ b ∧ b ≤ 19) (hne : ∀ i, i ≠ b → w 34 i = v 34 i) : fl w = fl v + (flF w b - flF v b) := by
  have h := cN_one (f := flF v) (g := flF w) (b := b) (fun i hi => by unfold flF; rw [hne i hi]) hb.1 20
  rw [if_pos (by omega)] at h
  exact h
theorem fl_pos {v : Vw} {b : Int} (hb : 0 ≤ b ∧ b ≤ 19) (h : v 34 b = 111) : 1 ≤ fl v := cN_pos (flF_nn v) hb.1 (by unfold flF; rw [h]; decide) 20 (by omega)
theorem pq_pos {v : Vw} {b : Int} (hb : 0 ≤ b ∧ b ≤ 29) (h : v 28 b = 0) : 1 ≤ pq v := cN_pos (pqF_nn v) hb.1 (by unfold pqF; rw [h]; decide) 30 (by omega)
def l_stockOf_4 (r : Int) (v : Vw) : Nat → Int → Int → Int
  | 0, _, _ => 0
  | n + 1, s, b =>
    if (v 5 0) ≤ b then
      s
    else
      if (v 28 b) = 3 then
        if (v 26 b) = r then
          (l_stockOf_4 r v n (s + (v 31 b)) (b + 1))
        else
          (l_stockOf_4 r v n (s + 0) (b + 1))
      else
        (l_stockOf_4 r v n (s + 0) (b + 1))
def f_stockOf (r : Int) (v : Vw) : Int :=
  (l_stockOf_4 r v (((v 5 0) - 0).toNat + 1) 0 0)
theorem r_l_stockOf_4 {r : Int} {v : Vw} {T E : Int} (hI : IM v T E) : ∀ (n : Nat) (s b : Int), 0 ≤ s → 0 ≤ l_stockOf_4 r v n s b ∧ l_stockOf_4 r v n s b ≤ s + 20 * (n : Int) := by
  intro n
  induction n with
  | zero => exact fun s _ h => ⟨Int.le_refl 0, by show (0 : Int) ≤ _; omega⟩
  | succ n ih =>
    intro s b hs
    have q : 0 ≤ v 31 b ∧ v 31 b ≤ 20 := hI.2 31 b
    rw [l_stockOf_4]
    repeat' split
    all_goals first | omega | (have g := ih (s + v 31 b) (b + 1) (by omega); omega) | (have g := ih (s + 0) (b + 1) (by omega); omega)
theorem r_stockOf {v : Vw} {T E : Int} (hI : IM v T E) (r : Int) : 0 ≤ f_stockOf r v ∧ f_stockOf r v ≤ 700 := by
  have g := r_l_stockOf_4 (r := r) hI ((v 5 0 - 0).toNat + 1) 0 0 (by omega)
  have u5 : 0 ≤ v 5 0 ∧ v 5 0 ≤ 30 := hI.2 5 0
  unfold f_stockOf
  omega
def f_stock (a : Int) (v : Vw) : Int × Vw :=
  if (f_isOne (f_isRecipe a v) v).1 = 0 then
    (0, (f_isOne (f_isRecipe a v) v).2)
  else
    ((f_stockOf a ((f_isOne (f_isRecipe a v) v).2)), (f_isOne (f_isRecipe a v) v).2)
theorem i_stock {v : Vw} {T E : Int} {a : Int} (hI : IM v T E) (ha : -2147483648 ≤ a ∧ a < 2147483648) : IM (f_stock a v).2 T (E) := by
  have hT := hI.1
  have q1 : 0 ≤ v 1 0 ∧ v 1 0 ≤ 5 := hI.2 1 0
  have q2 : 0 ≤ (f_isRecipe a v) ∧ (f_isRecipe a v) ≤ 1 := r_isRecipe
  have q3 : ((f_isRecipe a v) = 1 ∧ 0 ≤ a ∧ a < (v 1 0)) ∨ ((f_isRecipe a v) = 0 ∧ ¬ (0 ≤ a ∧ a < (v 1 0))) := c_isRecipe a v
  have q4 : 0 ≤ (v 1 0) ∧ (v 1 0) ≤ 5 := hI.2 1 0
  have hJ5 := (i_isOne (a := (f_isRecipe a v)) hI (by show 0 ≤ (f_isRecipe a v) ∧ (f_isRecipe a v) ≤ 1; omega))
  have q6 : (f_isOne (f_isRecipe a v) v).1 = (f_isRecipe a v) := c_isOne (f_isRecipe a v) v
  by_cases c7 : (f_isOne (f_isRecipe a v) v).1 = 0
  · rw [f_stock, if_pos c7]
    exact hJ5
  · have q8 := r_stockOf hJ5 a
    rw [f_stock, if_neg c7]
    exact hJ5
theorem fr_stock {a : Int} {v : Vw} (fk : Nat) (fi : Int) (hk : fk ≠ 0) : (f_stock a v).2 fk fi = v fk fi := by
  by_cases c7 : (f_isOne (f_isRecipe a v) v).1 = 0
  · rw [f_stock, if_pos c7]
    exact ((fr_isOne (a := (f_isRecipe a v)) (v := v) fk fi (by omega)).trans rfl)
  · rw [f_stock, if_neg c7]
    exact ((fr_isOne (a := (f_isRecipe a v)) (v := v) fk fi (by omega)).trans rfl)
def f_stockByDeliveries (a : Int) (v : Vw) : Int × Vw :=
  ((f_stock a v).1, (f_stock a v).2)
theorem i_stockByDeliveries {v : Vw} {T E : Int} {a : Int} (hI : IM v T E) (ha : -2147483648 ≤ a ∧ a < 2147483648) : IM (f_stockByDeliveries a v).2 T (E) := by
  have hT := hI.1
  have hJ1 := (i_stock (a := a) hI (by show -2147483648 ≤ a ∧ a < 2147483648; omega))
  rw [f_stockByDeliveries]
  exact hJ1
theorem fr_stockByDeliveries {a : Int} {v : Vw} (fk : Nat) (fi : Int) (hk : fk ≠ 0) : (f_stockByDeliveries a v).2 fk fi = v fk fi := by
  rw [f_stockByDeliveries]
  exact ((fr_stock (a := a) (v := v) fk fi (by omega)).trans rfl)
def l_canFill_15 (o r : Int) (v : Vw) : Nat → Int → Int → Int
  | 0, need, k => need
  | n + 1, need, k =>
    if (v 33 o) ≤ k then
      need
    else
      if (v 36 ((4 * o) + k)) = r then
        (l_canFill_15 o r v n (need + (v 37 ((4 * o) + k))) (k + 1))
      else
        (l_canFill_15 o r v n (need + 0) (k + 1))
theorem r_l_canFill_15 {o r : Int} {v : Vw} {T E : Int} (hI : IM v T E) : ∀ (n : Nat) (s k : Int), 0 ≤ s → 0 ≤ l_canFill_15 o r v n s k ∧ l_canFill_15 o r v n s k ≤ s + 40 * (n : Int) := by
  intro n
  induction n with
  | zero => exact fun s _ h => ⟨h, by show s ≤ _; omega⟩
  | succ n ih =>
    intro s k hs
    have q : 0 ≤ v 37 (4 * o + k) ∧ v 37 (4 * o + k) ≤ 40 := hI.2 37 _
    rw [l_canFill_15]
    repeat' split
    all_goals first | omega | (have g := ih (s + v 37 (4 * o + k)) (k + 1) (by omega); omega) | (have g := ih (s + 0) (k + 1) (by omega); omega)
def l_canFill_2 (o : Int) (v : Vw) : Nat → Int → Int
  | 0, _ => 0
  | n + 1, r =>
    if (v 1 0) ≤ r then
      1
    else
      if (l_canFill_15 o r v (((v 33 o) - 0).toNat + 1) 0 0) ≤ (f_stockOf r v) then
        (l_canFill_2 o v n (r + 1))
      else
        0
def f_canFill (o : Int) (v : Vw) : Int :=
  (l_canFill_2 o v (((v 1 0) - 0).toNat + 1) 0)
theorem r_l_canFill_2 {o : Int} {v : Vw} : ∀ (n : Nat) (r : Int), 0 ≤ l_canFill_2 o v n r ∧ l_canFill_2 o v n r ≤ 1 := by
  intro n
  induction n with
  | zero => exact fun _ => ⟨Int.le_refl 0, Int.zero_le_ofNat 1⟩
  | succ n ih =>
    intro r
    rw [l_canFill_2]
    repeat' split
    all_goals first | exact ih _ | omega
theorem r_canFill {o : Int} {v : Vw} : 0 ≤ f_canFill o v ∧ f_canFill o v ≤ 1 := r_l_canFill_2 _ _
def f_dirties (w : Int) (v : Vw) : Vw :=
  (upv (upv (upv v 15 w 2) 18 w (v 10 0)) 10 0 ((v 10 0) + 1))
theorem i_dirties {v : Vw} {T E : Int} {w : Int} (hI : IM v T E) (hw : 0 ≤ w ∧ w ≤ 7) (hE : E + 1 ≤ 1000000000) : IM (f_dirties w v) T (E + 1) := by
  have hT := hI.1
  have q1 : 0 ≤ v 10 0 ∧ v 10 0 ≤ E := hI.2 10 0
  rw [f_dirties]
  exact (((((hI.mono (T' := T) (E' := E + 1) (by omega) (by omega) (by omega) (by omega)).up 15 w 2 (by show 0 ≤ 2 ∧ 2 ≤ 3; omega)).up 18 w (v 10 0) (by show 0 ≤ (v 10 0) ∧ (v 10 0) ≤ E + 1; omega)).up 10 0 ((v 10 0) + 1) (by show 0 ≤ ((v 10 0) + 1) ∧ ((v 10 0) + 1) ≤ E + 1; omega))).mono (by omega) (by omega) (by omega) (by omega)
theorem fr_dirties {w : Int} {v : Vw} (fk : Nat) (fi : Int) (hk : fk ≠ 10 ∧ fk ≠ 15 ∧ fk ≠ 18) : (f_dirties w v) fk fi = v fk fi := by
  rw [f_dirties]
  exact ((upv_nk (by omega)).trans ((upv_nk (by omega)).trans ((upv_nk (by omega)).trans rfl)))
def l_clean_2 (t : Int) (v : Vw) : Nat → Int → Int
  | 0, _ => 0
  | n + 1, w =>
    if (v 2 0) ≤ w then
      (-1)
    else
      if (v 20 w) = t then
        if (v 15 w) = 0 then
          w
        else
          (l_clean_2 t v n (w + 1))
      else
        (l_clean_2 t v n (w + 1))
def f_clean (t : Int) (v : Vw) : Int :=
  (l_clean_2 t v (((v 2 0) - 0).toNat + 1) 0)
theorem r_l_clean_2 {t : Int} {v : Vw} : ∀ (n : Nat) (w : Int), 0 ≤ w → (v 2 0 - w).toNat < n → -1 ≤ l_clean_2 t v n w ∧ (l_clean_2 t v n w < v 2 0 ∨ l_clean_2 t v n w = -1) := by
  intro n
  induction n with
  | zero => exact fun p _ h => absurd h (Nat.not_lt_zero _)
  | succ n ih =>
    intro p hp hm
    rw [l_clean_2]
    repeat' split
    all_goals first | omega | exact ih (p + 1) (by omega) (by omega)
theorem r_clean {v : Vw} {T E : Int} (hI : IM v T E) (t : Int) : -1 ≤ f_clean t v ∧ f_clean t v ≤ 7 := by
  have h := r_l_clean_2 (t := t) (v := v) ((v 2 0 - 0).toNat + 1) 0 (by omega) (by omega)
  have q : 0 ≤ v 2 0 ∧ v 2 0 ≤ 8 := hI.2 2 0
  unfold f_clean
  omega
def f_movesOn (b : Int) (v : Vw) : Vw :=
  if (v 28 b) = 1 then
    if (f_clean 1 v) = (-1) then
      v
    else
      if ((v 14 (v 26 b))) = 0 then
        (upv (upv (upv (upv (upv (upv (f_dirties (v 29 b) v) 29 b (f_clean 1 v)) 15 (f_clean 1 v) 1) 16 (f_clean 1 v) b) 30 b (v 14 (v 26 b))) 28 b 3) 31 b 20)
      else
        (upv (upv (upv (upv (upv (upv (f_dirties (v 29 b) v) 29 b (f_clean 1 v)) 15 (f_clean 1 v) 1) 16 (f_clean 1 v) b) 30 b (v 14 (v 26 b))) 28 b 2) 31 b 20)
  else
    v
theorem i_movesOn {v : Vw} {T E : Int} {b : Int} (hI : IM v T E) (hb : 0 ≤ b ∧ b ≤ 29) (hE : E + 1 ≤ 1000000000) : IM (f_movesOn b v) T (E + 1) := by
  have hT := hI.1
  have q1 := r_clean hI 1
  have q2 : 0 ≤ v 28 b ∧ v 28 b ≤ 4 := hI.2 28 b
  by_cases c3 : (v 28 b) = 1
  · by_cases c4 : (f_clean 1 v) = (-1)
    · rw [f_movesOn, if_pos c3, if_pos c4]
      exact (hI).mono (by omega) (by omega) (by omega) (by omega)
    · have q5 : 0 ≤ v 29 b ∧ v 29 b ≤ 7 := hI.2 29 b
      have hJ6 := (i_dirties (w := (v 29 b)) hI (by show 0 ≤ (v 29 b) ∧ (v 29 b) ≤ 7; omega) (by omega))
      have q7 : 0 ≤ v 26 b ∧ v 26 b ≤ 4 := hI.2 26 b
      have q8 : (f_dirties (v 29 b) v) 26 b = v 26 b := (fr_dirties (w := (v 29 b)) (v := v) 26 b (by decide)).trans rfl
      have q9 : 0 ≤ v 14 (v 26 b) ∧ v 14 (v 26 b) ≤ 14 := hI.2 14 (v 26 b)
      have q10 : (f_dirties (v 29 b) v) 14 (v 26 b) = v 14 (v 26 b) := (fr_dirties (w := (v 29 b)) (v := v) 14 (v 26 b) (by decide)).trans rfl
      by_cases c11 : ((v 14 (v 26 b))) = 0
      · rw [f_movesOn, if_pos c3, if_neg c4, if_pos c11]
        exact (((((((hJ6.up 29 b (f_clean 1 v) (by show 0 ≤ (f_clean 1 v) ∧ (f_clean 1 v) ≤ 7; omega)).up 15 (f_clean 1 v) 1 (by show 0 ≤ 1 ∧ 1 ≤ 3; omega)).up 16 (f_clean 1 v) b (by show 0 ≤ b ∧ b ≤ 29; omega)).up 30 b (v 14 (v 26 b)) (by show 0 ≤ (v 14 (v 26 b)) ∧ (v 14 (v 26 b)) ≤ 15; omega)).up 28 b 3 (by show 0 ≤ 3 ∧ 3 ≤ 4; omega)).up 31 b 20 (by show 0 ≤ 20 ∧ 20 ≤ 20; omega))).mono (by omega) (by omega) (by omega) (by omega)
      · rw [f_movesOn, if_pos c3, if_neg c4, if_neg c11]
        exact (((((((hJ6.up 29 b (f_clean 1 v) (by show 0 ≤ (f_clean 1 v) ∧ (f_clean 1 v) ≤ 7; omega)).up 15 (f_clean 1 v) 1 (by show 0 ≤ 1 ∧ 1 ≤ 3; omega)).up 16 (f_clean 1 v) b (by show 0 ≤ b ∧ b ≤ 29; omega)).up 30 b (v 14 (v 26 b)) (by show 0 ≤ (v 14 (v 26 b)) ∧ (v 14 (v 26 b)) ≤ 15; omega)).up 28 b 2 (by show 0 ≤ 2 ∧ 2 ≤ 4; omega)).up 31 b 20 (by show 0 ≤ 20 ∧ 20 ≤ 20; omega))).mono (by omega) (by omega) (by omega) (by omega)
  · rw [f_movesOn, if_neg c3]
    exact (hI).mono (by omega) (by omega) (by omega) (by omega)
theorem fr_movesOn {b : Int} {v : Vw} (fk : Nat) (fi : Int) (hk : fk ≠ 10 ∧ fk ≠ 15 ∧ fk ≠ 16 ∧ fk ≠ 18 ∧ fk ≠ 28 ∧ fk ≠ 29 ∧ fk ≠ 30 ∧ fk ≠ 31) : (f_movesOn b v) fk fi = v fk fi := by
  by_cases c3 : (v 28 b) = 1
  · by_cases c4 : (f_clean 1 v) = (-1)
    · rw [f_movesOn, if_pos c3, if_pos c4]
      try rfl
    · by_cases c11 : ((v 14 (v 26 b))) = 0
      · rw [f_movesOn, if_pos c3, if_neg c4, if_pos c11]
        exact ((upv_nk (by omega)).trans ((upv_nk (by omega)).trans ((upv_nk (by omega)).trans ((upv_nk (by omega)).trans ((upv_nk (by omega)).trans ((upv_nk (by omega)).trans ((fr_dirties (w := (v 29 b)) (v := v) fk fi (by omega)).trans rfl)))))))
      · rw [f_movesOn, if_pos c3, if_neg c4, if_neg c11]
        exact ((upv_nk (by omega)).trans ((upv_nk (by omega)).trans ((upv_nk (by omega)).trans ((upv_nk (by omega)).trans ((upv_nk (by omega)).trans ((upv_nk (by omega)).trans ((fr_dirties (w := (v 29 b)) (v := v) fk fi (by omega)).trans rfl)))))))
  · rw [f_movesOn, if_neg c3]
    try rfl
def l_cleans_4 (v : Vw) : Nat → Int → Int → Int
  | 0, busy, w => busy
  | n + 1, busy, w =>
    if (v 2 0) ≤ w then
      busy
    else
      if (v 15 w) = 3 then
        (l_cleans_4 v n (busy + 1) (w + 1))
      else
        (l_cleans_4 v n (busy + 0) (w + 1))
theorem r_l_cleans_4 {v : Vw} : ∀ (n : Nat) (s w : Int), 0 ≤ s → 0 ≤ l_cleans_4 v n s w ∧ l_cleans_4 v n s w ≤ s + (n : Int) := by
  intro n
  induction n with
  | zero => exact fun s _ h => ⟨h, by show s ≤ _; omega⟩
  | succ n ih =>
    intro s k hs
    rw [l_cleans_4]
    repeat' split
    all_goals first | omega | (have g := ih (s + 1) (k + 1) (by omega); omega) | (have g := ih (s + 0) (k + 1) (by omega); omega)
def l_cleans_48 (v : Vw) : Nat → Int → Int → Int
  | 0, first, w => first
  | n + 1, first, w =>
    if (v 2 0) ≤ w then
      first
    else
      if (v 15 w) = 2 then
        if first = (-1) then
          (l_cleans_48 v n w (w + 1))
        else
          if (v 18 first) ≤ (v 18 w) then
            (l_cleans_48 v n first (w + 1))
          else
            (l_cleans_48 v n w (w + 1))
      else
        (l_cleans_48 v n first (w + 1))
theorem r_l_cleans_48 {v : Vw} : ∀ (n : Nat) (first w : Int), -1 ≤ first → 0 ≤ w → (v 2 0 - w).toNat < n → -1 ≤ l_cleans_48 v n first w ∧ (l_cleans_48 v n first w < v 2 0 ∨ l_cleans_48 v n first w = first) := by
  intro n
  induction n with
  | zero => exact fun _ _ _ _ h => absurd h (Nat.not_lt_zero _)
  | succ n ih =>
    intro first w hf hw hm
    rw [l_cleans_48]
    repeat' split
    all_goals first | omega | (have g := ih first (w + 1) hf (by omega) (by omega); omega) | (have g := ih w (w + 1) (by omega) (by omega) (by omega); omega)
def l_cleans_36 : Nat → Int → Vw → Vw
  | 0, busy, v => v
  | n + 1, busy, v =>
    if (v 3 0) ≤ busy then
      v
    else
      if (l_cleans_48 v (((v 2 0) - 0).toNat + 1) (-1) 0) = (-1) then
        v
      else
        if (v 20 (l_cleans_48 v (((v 2 0) - 0).toNat + 1) (-1) 0)) = 0 then
          (l_cleans_36 n (busy + 1) (upv (upv v 15 (l_cleans_48 v (((v 2 0) - 0).toNat + 1) (-1) 0) 3) 17 (l_cleans_48 v (((v 2 0) - 0).toNat + 1) (-1) 0) 2))
        else
          (l_cleans_36 n (busy + 1) (upv (upv v 15 (l_cleans_48 v (((v 2 0) - 0).toNat + 1) (-1) 0) 3) 17 (l_cleans_48 v (((v 2 0) - 0).toNat + 1) (-1) 0) 1))
theorem fr_l_cleans_36 : ∀ (n : Nat) (busy : Int) (v : Vw) (fk : Nat) (fi : Int) (hk : fk ≠ 15 ∧ fk ≠ 17), (l_cleans_36 n busy v) fk fi = v fk fi := by
  intro n busy v fk fi hk
  induction n generalizing busy v with
  | zero => rfl
  | succ n ih =>
    by_cases c11 : (v 3 0) ≤ busy
    · rw [l_cleans_36, if_pos c11]
      try rfl
    · by_cases c14 : (l_cleans_48 v (((v 2 0) - 0).toNat + 1) (-1) 0) = (-1)
      · rw [l_cleans_36, if_neg c11, if_pos c14]
        try rfl
      · by_cases c16 : (v 20 (l_cleans_48 v (((v 2 0) - 0).toNat + 1) (-1) 0)) = 0
        · rw [l_cleans_36, if_neg c11, if_neg c14, if_pos c16]
          exact (ih (busy + 1) (upv (upv v 15 (l_cleans_48 v (((v 2 0) - 0).toNat + 1) (-1) 0) 3) 17 (l_cleans_48 v (((v 2 0) - 0).toNat + 1) (-1) 0) 2)).trans ((upv_nk (by omega)).trans ((upv_nk (by omega)).trans rfl))
        · rw [l_cleans_36, if_neg c11, if_neg c14, if_neg c16]
          exact (ih (busy + 1) (upv (upv v 15 (l_cleans_48 v (((v 2 0) - 0).toNat + 1) (-1) 0) 3) 17 (l_cleans_48 v (((v 2 0) - 0).toNat + 1) (-1) 0) 1)).trans ((upv_nk (by omega)).trans ((upv_nk (by omega)).trans rfl))
theorem i_l_cleans_36 {T E : Int} : ∀ (n : Nat) (busy : Int) (v : Vw) (hI : IM v T E) (hb : 0 ≤ busy ∧ busy ≤ 100), IM (l_cleans_36 n busy v) T (E) := by
  intro n
  induction n with
  | zero =>
    intro busy v hI hb
    have hT := hI.1
    exact hI
  | succ n ih =>
    intro busy v hI hb
    have hT := hI.1
    have u3 : 0 ≤ v 3 0 ∧ v 3 0 ≤ 3 := hI.2 3 0
    by_cases c11 : (v 3 0) ≤ busy
    · rw [l_cleans_36, if_pos c11]
      exact hI
    · have q12 := r_l_cleans_48 (v := v) (((v 2 0) - 0).toNat + 1) (-1) 0 (by omega) (by omega) (by omega)
      have q13 : 0 ≤ v 2 0 ∧ v 2 0 ≤ 8 := hI.2 2 0
      by_cases c14 : (l_cleans_48 v (((v 2 0) - 0).toNat + 1) (-1) 0) = (-1)
      · rw [l_cleans_36, if_neg c11, if_pos c14]
        exact hI
      · have q15 : 0 ≤ v 20 (l_cleans_48 v (((v 2 0) - 0).toNat + 1) (-1) 0) ∧ v 20 (l_cleans_48 v (((v 2 0) - 0).toNat + 1) (-1) 0) ≤ 1 := hI.2 20 (l_cleans_48 v (((v 2 0) - 0).toNat + 1) (-1) 0)
        by_cases c16 : (v 20 (l_cleans_48 v (((v 2 0) - 0).toNat + 1) (-1) 0)) = 0
        · rw [l_cleans_36, if_neg c11, if_neg c14, if_pos c16]
          exact ih (busy + 1) (upv (upv v 15 (l_cleans_48 v (((v 2 0) - 0).toNat + 1) (-1) 0) 3) 17 (l_cleans_48 v (((v 2 0) - 0).toNat + 1) (-1) 0) 2) ((hI.up 15 (l_cleans_48 v (((v 2 0) - 0).toNat + 1) (-1) 0) 3 (by show 0 ≤ 3 ∧ 3 ≤ 3; omega)).up 17 (l_cleans_48 v (((v 2 0) - 0).toNat + 1) (-1) 0) 2 (by show 0 ≤ 2 ∧ 2 ≤ 2; omega)) (by show 0 ≤ (busy + 1) ∧ (busy + 1) ≤ 100; omega)
        · rw [l_cleans_36, if_neg c11, if_neg c14, if_neg c16]
          exact ih (busy + 1) (upv (upv v 15 (l_cleans_48 v (((v 2 0) - 0).toNat + 1) (-1) 0) 3) 17 (l_cleans_48 v (((v 2 0) - 0).toNat + 1) (-1) 0) 1) ((hI.up 15 (l_cleans_48 v (((v 2 0) - 0).toNat + 1) (-1) 0) 3 (by show 0 ≤ 3 ∧ 3 ≤ 3; omega)).up 17 (l_cleans_48 v (((v 2 0) - 0).toNat + 1) (-1) 0) 1 (by show 0 ≤ 1 ∧ 1 ≤ 2; omega)) (by show 0 ≤ (busy + 1) ∧ (busy + 1) ≤ 100; omega)
def f_cleans (v : Vw) : Vw :=
  (l_cleans_36 (((v 3 0) - (l_cleans_4 v (((v 2 0) - 0).toNat + 1) 0 0)).toNat + 1) (l_cleans_4 v (((v 2 0) - 0).toNat + 1) 0 0) v)
theorem i_cleans {v : Vw} {T E : Int} (hI : IM v T E) : IM (f_cleans v) T (E) := by
  have hT := hI.1
  have q17 := r_l_cleans_4 (v := v) (((v 2 0) - 0).toNat + 1) 0 0 (by omega)
  have q18 : 0 ≤ v 2 0 ∧ v 2 0 ≤ 8 := hI.2 2 0
  rw [f_cleans]
  exact i_l_cleans_36  (((v 3 0) - (l_cleans_4 v (((v 2 0) - 0).toNat + 1) 0 0)).toNat + 1) (l_cleans_4 v (((v 2 0) - 0).toNat + 1) 0 0) v hI (by show 0 ≤ (l_cleans_4 v (((v 2 0) - 0).toNat + 1) 0 0) ∧ (l_cleans_4 v (((v 2 0) - 0).toNat + 1) 0 0) ≤ 100; omega)
theorem fr_cleans {v : Vw} (fk : Nat) (fi : Int) (hk : fk ≠ 15 ∧ fk ≠ 17) : (f_cleans v) fk fi = v fk fi := by
  rw [f_cleans]
  exact (fr_l_cleans_36 (((v 3 0) - (l_cleans_4 v (((v 2 0) - 0).toNat + 1) 0 0)).toNat + 1) (l_cleans_4 v (((v 2 0) - 0).toNat + 1) 0 0) v fk fi (by omega)).trans rfl
