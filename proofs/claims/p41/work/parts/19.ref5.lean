/-! the reference: filling orders, harvest, the queue, a day (written by wip/whole/mk19.py) -/
def l_draws_6 (o r : Int) : Nat → Int → Int → Vw → Vw
  | 0, left, b, v => v
  | n + 1, left, b, v =>
    if (v 5 0) ≤ b then
      v
    else
      if left ≤ 0 then
        v
      else
        if (v 28 b) = 3 then
          if (v 26 b) = r then
            if left ≤ (v 31 b) then
              if (((v 31 b) - left)) = 0 then
                (l_draws_6 o r n (left - left) (b + 1) (f_dirties (v 29 b) (upv (upv (upv (upv (upv (upv v 31 b ((v 31 b) - left)) 44 (v 9 0) b) 45 (v 9 0) o) 46 (v 9 0) left) 9 0 ((v 9 0) + 1)) 28 b 4)))
              else
                (l_draws_6 o r n (left - left) (b + 1) (upv (upv (upv (upv (upv v 31 b ((v 31 b) - left)) 44 (v 9 0) b) 45 (v 9 0) o) 46 (v 9 0) left) 9 0 ((v 9 0) + 1)))
            else
              if (((v 31 b) - (v 31 b))) = 0 then
                (l_draws_6 o r n (left - (v 31 b)) (b + 1) (f_dirties (v 29 b) (upv (upv (upv (upv (upv (upv v 31 b ((v 31 b) - (v 31 b))) 44 (v 9 0) b) 45 (v 9 0) o) 46 (v 9 0) (v 31 b)) 9 0 ((v 9 0) + 1)) 28 b 4)))
              else
                (l_draws_6 o r n (left - (v 31 b)) (b + 1) (upv (upv (upv (upv (upv v 31 b ((v 31 b) - (v 31 b))) 44 (v 9 0) b) 45 (v 9 0) o) 46 (v 9 0) (v 31 b)) 9 0 ((v 9 0) + 1)))
          else
            (l_draws_6 o r n left (b + 1) v)
        else
          (l_draws_6 o r n left (b + 1) v)
theorem fr_l_draws_6 {o : Int} {r : Int} : ∀ (n : Nat) (left b : Int) (v : Vw) (fk : Nat) (fi : Int) (hk : fk ≠ 9 ∧ fk ≠ 10 ∧ fk ≠ 15 ∧ fk ≠ 18 ∧ fk ≠ 28 ∧ fk ≠ 31 ∧ fk ≠ 44 ∧ fk ≠ 45 ∧ fk ≠ 46), (l_draws_6 o r n left b v) fk fi = v fk fi := by
  intro n left b v fk fi hk
  induction n generalizing left b v with
  | zero => rfl
  | succ n ih =>
    by_cases c1 : (v 5 0) ≤ b
    · rw [l_draws_6, if_pos c1]
      try rfl
    · by_cases c2 : left ≤ 0
      · rw [l_draws_6, if_neg c1, if_pos c2]
        try rfl
      · by_cases c4 : (v 28 b) = 3
        · by_cases c6 : (v 26 b) = r
          · by_cases c8 : left ≤ (v 31 b)
            · by_cases c9 : (((v 31 b) - left)) = 0
              · rw [l_draws_6, if_neg c1, if_neg c2, if_pos c4, if_pos c6, if_pos c8, if_pos c9]
                exact (ih (left - left) (b + 1) (f_dirties (v 29 b) (upv (upv (upv (upv (upv (upv v 31 b ((v 31 b) - left)) 44 (v 9 0) b) 45 (v 9 0) o) 46 (v 9 0) left) 9 0 ((v 9 0) + 1)) 28 b 4))).trans ((fr_dirties (w := (v 29 b)) (v := (upv (upv (upv (upv (upv (upv v 31 b ((v 31 b) - left)) 44 (v 9 0) b) 45 (v 9 0) o) 46 (v 9 0) left) 9 0 ((v 9 0) + 1)) 28 b 4)) fk fi (by omega)).trans ((upv_nk (by omega)).trans ((upv_nk (by omega)).trans ((upv_nk (by omega)).trans ((upv_nk (by omega)).trans ((upv_nk (by omega)).trans ((upv_nk (by omega)).trans rfl)))))))
              · rw [l_draws_6, if_neg c1, if_neg c2, if_pos c4, if_pos c6, if_pos c8, if_neg c9]
                exact (ih (left - left) (b + 1) (upv (upv (upv (upv (upv v 31 b ((v 31 b) - left)) 44 (v 9 0) b) 45 (v 9 0) o) 46 (v 9 0) left) 9 0 ((v 9 0) + 1))).trans ((upv_nk (by omega)).trans ((upv_nk (by omega)).trans ((upv_nk (by omega)).trans ((upv_nk (by omega)).trans ((upv_nk (by omega)).trans rfl)))))
            · by_cases c14 : (((v 31 b) - (v 31 b))) = 0
              · rw [l_draws_6, if_neg c1, if_neg c2, if_pos c4, if_pos c6, if_neg c8, if_pos c14]
                exact (ih (left - (v 31 b)) (b + 1) (f_dirties (v 29 b) (upv (upv (upv (upv (upv (upv v 31 b ((v 31 b) - (v 31 b))) 44 (v 9 0) b) 45 (v 9 0) o) 46 (v 9 0) (v 31 b)) 9 0 ((v 9 0) + 1)) 28 b 4))).trans ((fr_dirties (w := (v 29 b)) (v := (upv (upv (upv (upv (upv (upv v 31 b ((v 31 b) - (v 31 b))) 44 (v 9 0) b) 45 (v 9 0) o) 46 (v 9 0) (v 31 b)) 9 0 ((v 9 0) + 1)) 28 b 4)) fk fi (by omega)).trans ((upv_nk (by omega)).trans ((upv_nk (by omega)).trans ((upv_nk (by omega)).trans ((upv_nk (by omega)).trans ((upv_nk (by omega)).trans ((upv_nk (by omega)).trans rfl)))))))
              · rw [l_draws_6, if_neg c1, if_neg c2, if_pos c4, if_pos c6, if_neg c8, if_neg c14]
                exact (ih (left - (v 31 b)) (b + 1) (upv (upv (upv (upv (upv v 31 b ((v 31 b) - (v 31 b))) 44 (v 9 0) b) 45 (v 9 0) o) 46 (v 9 0) (v 31 b)) 9 0 ((v 9 0) + 1))).trans ((upv_nk (by omega)).trans ((upv_nk (by omega)).trans ((upv_nk (by omega)).trans ((upv_nk (by omega)).trans ((upv_nk (by omega)).trans rfl)))))
          · rw [l_draws_6, if_neg c1, if_neg c2, if_pos c4, if_neg c6]
            exact (ih left (b + 1) v).trans rfl
        · rw [l_draws_6, if_neg c1, if_neg c2, if_neg c4]
          exact (ih left (b + 1) v).trans rfl
theorem i_l_draws_6 {T : Int} {o : Int} {r : Int} : ∀ (n : Nat) (left b : Int) (v : Vw) (E : Int) (hI : IM v T E) (hl : 0 ≤ left ∧ left ≤ 40) (hb : 0 ≤ b ∧ b ≤ 100) (hJ : 0 < left → v 9 0 + dl v ≤ 109) (hE : E + ((n : Nat) : Int) ≤ 1000000000) (ho : 0 ≤ o ∧ o ≤ 19) (hr : -2147483648 ≤ r ∧ r < 2147483648), IM (l_draws_6 o r n left b v) T (E + (n : Int)) := by
  intro n
  induction n with
  | zero =>
    intro left b v E hI hl hb hJ hE ho hr
    have hT := hI.1
    exact hI.mono (by omega) (by omega) (by omega) (by omega)
  | succ n ih =>
    intro left b v E hI hl hb hJ hE ho hr
    have hT := hI.1
    have u5 : 0 ≤ v 5 0 ∧ v 5 0 ≤ 30 := hI.2 5 0
    have u9 : 0 ≤ v 9 0 ∧ v 9 0 ≤ 127 := hI.2 9 0
    by_cases c1 : (v 5 0) ≤ b
    · rw [l_draws_6, if_pos c1]
      exact (hI).mono (by omega) (by omega) (by omega) (by omega)
    · by_cases c2 : left ≤ 0
      · rw [l_draws_6, if_neg c1, if_pos c2]
        exact (hI).mono (by omega) (by omega) (by omega) (by omega)
      · have hdn := dl_nn v
        have q3 : 0 ≤ v 28 b ∧ v 28 b ≤ 4 := hI.2 28 b
        by_cases c4 : (v 28 b) = 3
        · have q5 : 0 ≤ v 26 b ∧ v 26 b ≤ 4 := hI.2 26 b
          by_cases c6 : (v 26 b) = r
          · have q7 : 0 ≤ v 31 b ∧ v 31 b ≤ 20 := hI.2 31 b
            by_cases c8 : left ≤ (v 31 b)
            · by_cases c9 : (((v 31 b) - left)) = 0
              · have q10 : 0 ≤ v 29 b ∧ v 29 b ≤ 7 := hI.2 29 b
                have hJ11 := (i_dirties (w := (v 29 b)) ((((((hI.up 31 b ((v 31 b) - left) (by show 0 ≤ ((v 31 b) - left) ∧ ((v 31 b) - left) ≤ 20; omega)).up 44 (v 9 0) b (by show 0 ≤ b ∧ b ≤ 29; omega)).up 45 (v 9 0) o (by show 0 ≤ o ∧ o ≤ 19; omega)).up 46 (v 9 0) left (by show 0 ≤ left ∧ left ≤ 20; omega)).up 9 0 ((v 9 0) + 1) (by show 0 ≤ ((v 9 0) + 1) ∧ ((v 9 0) + 1) ≤ 127; omega)).up 28 b 4 (by show 0 ≤ 4 ∧ 4 ≤ 4; omega)) (by show 0 ≤ (v 29 b) ∧ (v 29 b) ≤ 7; omega) (by omega))
                have q12 : (f_dirties (v 29 b) (upv (upv (upv (upv (upv (upv v 31 b ((v 31 b) - left)) 44 (v 9 0) b) 45 (v 9 0) o) 46 (v 9 0) left) 9 0 ((v 9 0) + 1)) 28 b 4)) 9 0 = ((v 9 0) + 1) := (fr_dirties (w := (v 29 b)) (v := (upv (upv (upv (upv (upv (upv v 31 b ((v 31 b) - left)) 44 (v 9 0) b) 45 (v 9 0) o) 46 (v 9 0) left) 9 0 ((v 9 0) + 1)) 28 b 4)) 9 0 (by decide)).trans rfl
                have q13 : (f_dirties (v 29 b) (upv (upv (upv (upv (upv (upv v 31 b ((v 31 b) - left)) 44 (v 9 0) b) 45 (v 9 0) o) 46 (v 9 0) left) 9 0 ((v 9 0) + 1)) 28 b 4)) 5 0 = v 5 0 := (fr_dirties (w := (v 29 b)) (v := (upv (upv (upv (upv (upv (upv v 31 b ((v 31 b) - left)) 44 (v 9 0) b) 45 (v 9 0) o) 46 (v 9 0) left) 9 0 ((v 9 0) + 1)) 28 b 4)) 5 0 (by decide)).trans rfl
                rw [l_draws_6, if_neg c1, if_neg c2, if_pos c4, if_pos c6, if_pos c8, if_pos c9]
                exact (ih (left - left) (b + 1) (f_dirties (v 29 b) (upv (upv (upv (upv (upv (upv v 31 b ((v 31 b) - left)) 44 (v 9 0) b) 45 (v 9 0) o) 46 (v 9 0) left) 9 0 ((v 9 0) + 1)) 28 b 4)) (E + 1) ((hJ11).mono (T' := T) (E' := E + 1) (by omega) (by omega) (by omega) (by omega)) (by show 0 ≤ (left - left) ∧ (left - left) ≤ 40; omega) (by show 0 ≤ (b + 1) ∧ (b + 1) ≤ 100; omega) (by intro h0; have e1 := dl_one (v := v) (w := (f_dirties (v 29 b) (upv (upv (upv (upv (upv (upv v 31 b ((v 31 b) - left)) 44 (v 9 0) b) 45 (v 9 0) o) 46 (v 9 0) left) 9 0 ((v 9 0) + 1)) 28 b 4))) (b := b) (by omega) (fun i hi => by rw [fr_dirties 28 _ (by decide)]; simp [upv, hi]); have e2 : dlF (f_dirties (v 29 b) (upv (upv (upv (upv (upv (upv v 31 b ((v 31 b) - left)) 44 (v 9 0) b) 45 (v 9 0) o) 46 (v 9 0) left) 9 0 ((v 9 0) + 1)) 28 b 4)) b = 0 := (by unfold dlF; rw [fr_dirties 28 _ (by decide)]; simp [upv]); have e3 : dlF v b = 1 := (by unfold dlF; rw [if_neg (by omega)]); have e4 : (f_dirties (v 29 b) (upv (upv (upv (upv (upv (upv v 31 b ((v 31 b) - left)) 44 (v 9 0) b) 45 (v 9 0) o) 46 (v 9 0) left) 9 0 ((v 9 0) + 1)) 28 b 4)) 9 0 = v 9 0 + 1 := (by rw [fr_dirties 9 _ (by decide)]; simp [upv]); omega) (by omega) (by show 0 ≤ o ∧ o ≤ 19; omega) (by show -2147483648 ≤ r ∧ r < 2147483648; omega)).mono (by omega) (by omega) (by omega) (by omega)
              · rw [l_draws_6, if_neg c1, if_neg c2, if_pos c4, if_pos c6, if_pos c8, if_neg c9]
                exact (ih (left - left) (b + 1) (upv (upv (upv (upv (upv v 31 b ((v 31 b) - left)) 44 (v 9 0) b) 45 (v 9 0) o) 46 (v 9 0) left) 9 0 ((v 9 0) + 1)) (E + 1) (((((((hI.up 31 b ((v 31 b) - left) (by show 0 ≤ ((v 31 b) - left) ∧ ((v 31 b) - left) ≤ 20; omega)).up 44 (v 9 0) b (by show 0 ≤ b ∧ b ≤ 29; omega)).up 45 (v 9 0) o (by show 0 ≤ o ∧ o ≤ 19; omega)).up 46 (v 9 0) left (by show 0 ≤ left ∧ left ≤ 20; omega)).up 9 0 ((v 9 0) + 1) (by show 0 ≤ ((v 9 0) + 1) ∧ ((v 9 0) + 1) ≤ 127; omega))).mono (T' := T) (E' := E + 1) (by omega) (by omega) (by omega) (by omega)) (by show 0 ≤ (left - left) ∧ (left - left) ≤ 40; omega) (by show 0 ≤ (b + 1) ∧ (b + 1) ≤ 100; omega) (by first | exact hJ | (intro h0; omega)) (by omega) (by show 0 ≤ o ∧ o ≤ 19; omega) (by show -2147483648 ≤ r ∧ r < 2147483648; omega)).mono (by omega) (by omega) (by omega) (by omega)
            · by_cases c14 : (((v 31 b) - (v 31 b))) = 0
              · have q15 : 0 ≤ v 29 b ∧ v 29 b ≤ 7 := hI.2 29 b
                have hJ16 := (i_dirties (w := (v 29 b)) ((((((hI.up 31 b ((v 31 b) - (v 31 b)) (by show 0 ≤ ((v 31 b) - (v 31 b)) ∧ ((v 31 b) - (v 31 b)) ≤ 20; omega)).up 44 (v 9 0) b (by show 0 ≤ b ∧ b ≤ 29; omega)).up 45 (v 9 0) o (by show 0 ≤ o ∧ o ≤ 19; omega)).up 46 (v 9 0) (v 31 b) (by show 0 ≤ (v 31 b) ∧ (v 31 b) ≤ 20; omega)).up 9 0 ((v 9 0) + 1) (by show 0 ≤ ((v 9 0) + 1) ∧ ((v 9 0) + 1) ≤ 127; omega)).up 28 b 4 (by show 0 ≤ 4 ∧ 4 ≤ 4; omega)) (by show 0 ≤ (v 29 b) ∧ (v 29 b) ≤ 7; omega) (by omega))
                have q17 : (f_dirties (v 29 b) (upv (upv (upv (upv (upv (upv v 31 b ((v 31 b) - (v 31 b))) 44 (v 9 0) b) 45 (v 9 0) o) 46 (v 9 0) (v 31 b)) 9 0 ((v 9 0) + 1)) 28 b 4)) 9 0 = ((v 9 0) + 1) := (fr_dirties (w := (v 29 b)) (v := (upv (upv (upv (upv (upv (upv v 31 b ((v 31 b) - (v 31 b))) 44 (v 9 0) b) 45 (v 9 0) o) 46 (v 9 0) (v 31 b)) 9 0 ((v 9 0) + 1)) 28 b 4)) 9 0 (by decide)).trans rfl
                have q18 : (f_dirties (v 29 b) (upv (upv (upv (upv (upv (upv v 31 b ((v 31 b) - (v 31 b))) 44 (v 9 0) b) 45 (v 9 0) o) 46 (v 9 0) (v 31 b)) 9 0 ((v 9 0) + 1)) 28 b 4)) 5 0 = v 5 0 := (fr_dirties (w := (v 29 b)) (v := (upv (upv (upv (upv (upv (upv v 31 b ((v 31 b) - (v 31 b))) 44 (v 9 0) b) 45 (v 9 0) o) 46 (v 9 0) (v 31 b)) 9 0 ((v 9 0) + 1)) 28 b 4)) 5 0 (by decide)).trans rfl
                rw [l_draws_6, if_neg c1, if_neg c2, if_pos c4, if_pos c6, if_neg c8, if_pos c14]
                exact (ih (left - (v 31 b)) (b + 1) (f_dirties (v 29 b) (upv (upv (upv (upv (upv (upv v 31 b ((v 31 b) - (v 31 b))) 44 (v 9 0) b) 45 (v 9 0) o) 46 (v 9 0) (v 31 b)) 9 0 ((v 9 0) + 1)) 28 b 4)) (E + 1) ((hJ16).mono (T' := T) (E' := E + 1) (by omega) (by omega) (by omega) (by omega)) (by show 0 ≤ (left - (v 31 b)) ∧ (left - (v 31 b)) ≤ 40; omega) (by show 0 ≤ (b + 1) ∧ (b + 1) ≤ 100; omega) (by intro h0; have e1 := dl_one (v := v) (w := (f_dirties (v 29 b) (upv (upv (upv (upv (upv (upv v 31 b ((v 31 b) - (v 31 b))) 44 (v 9 0) b) 45 (v 9 0) o) 46 (v 9 0) (v 31 b)) 9 0 ((v 9 0) + 1)) 28 b 4))) (b := b) (by omega) (fun i hi => by rw [fr_dirties 28 _ (by decide)]; simp [upv, hi]); have e2 : dlF (f_dirties (v 29 b) (upv (upv (upv (upv (upv (upv v 31 b ((v 31 b) - (v 31 b))) 44 (v 9 0) b) 45 (v 9 0) o) 46 (v 9 0) (v 31 b)) 9 0 ((v 9 0) + 1)) 28 b 4)) b = 0 := (by unfold dlF; rw [fr_dirties 28 _ (by decide)]; simp [upv]); have e3 : dlF v b = 1 := (by unfold dlF; rw [if_neg (by omega)]); have e4 : (f_dirties (v 29 b) (upv (upv (upv (upv (upv (upv v 31 b ((v 31 b) - (v 31 b))) 44 (v 9 0) b) 45 (v 9 0) o) 46 (v 9 0) (v 31 b)) 9 0 ((v 9 0) + 1)) 28 b 4)) 9 0 = v 9 0 + 1 := (by rw [fr_dirties 9 _ (by decide)]; simp [upv]); omega) (by omega) (by show 0 ≤ o ∧ o ≤ 19; omega) (by show -2147483648 ≤ r ∧ r < 2147483648; omega)).mono (by omega) (by omega) (by omega) (by omega)
              · rw [l_draws_6, if_neg c1, if_neg c2, if_pos c4, if_pos c6, if_neg c8, if_neg c14]
                exact (ih (left - (v 31 b)) (b + 1) (upv (upv (upv (upv (upv v 31 b ((v 31 b) - (v 31 b))) 44 (v 9 0) b) 45 (v 9 0) o) 46 (v 9 0) (v 31 b)) 9 0 ((v 9 0) + 1)) (E + 1) (((((((hI.up 31 b ((v 31 b) - (v 31 b)) (by show 0 ≤ ((v 31 b) - (v 31 b)) ∧ ((v 31 b) - (v 31 b)) ≤ 20; omega)).up 44 (v 9 0) b (by show 0 ≤ b ∧ b ≤ 29; omega)).up 45 (v 9 0) o (by show 0 ≤ o ∧ o ≤ 19; omega)).up 46 (v 9 0) (v 31 b) (by show 0 ≤ (v 31 b) ∧ (v 31 b) ≤ 20; omega)).up 9 0 ((v 9 0) + 1) (by show 0 ≤ ((v 9 0) + 1) ∧ ((v 9 0) + 1) ≤ 127; omega))).mono (T' := T) (E' := E + 1) (by omega) (by omega) (by omega) (by omega)) (by show 0 ≤ (left - (v 31 b)) ∧ (left - (v 31 b)) ≤ 40; omega) (by show 0 ≤ (b + 1) ∧ (b + 1) ≤ 100; omega) (by first | exact hJ | (intro h0; omega)) (by omega) (by show 0 ≤ o ∧ o ≤ 19; omega) (by show -2147483648 ≤ r ∧ r < 2147483648; omega)).mono (by omega) (by omega) (by omega) (by omega)
          · rw [l_draws_6, if_neg c1, if_neg c2, if_pos c4, if_neg c6]
            exact (ih left (b + 1) v (E + 1) ((hI).mono (T' := T) (E' := E + 1) (by omega) (by omega) (by omega) (by omega)) (by show 0 ≤ left ∧ left ≤ 40; omega) (by show 0 ≤ (b + 1) ∧ (b + 1) ≤ 100; omega) (by first | exact hJ | (intro h0; omega)) (by omega) (by show 0 ≤ o ∧ o ≤ 19; omega) (by show -2147483648 ≤ r ∧ r < 2147483648; omega)).mono (by omega) (by omega) (by omega) (by omega)
        · rw [l_draws_6, if_neg c1, if_neg c2, if_neg c4]
          exact (ih left (b + 1) v (E + 1) ((hI).mono (T' := T) (E' := E + 1) (by omega) (by omega) (by omega) (by omega)) (by show 0 ≤ left ∧ left ≤ 40; omega) (by show 0 ≤ (b + 1) ∧ (b + 1) ≤ 100; omega) (by first | exact hJ | (intro h0; omega)) (by omega) (by show 0 ≤ o ∧ o ≤ 19; omega) (by show -2147483648 ≤ r ∧ r < 2147483648; omega)).mono (by omega) (by omega) (by omega) (by omega)
def f_draws (o r a : Int) (v : Vw) : Vw :=
  (l_draws_6 o r (((v 5 0) - 0).toNat + 1) a 0 v)
theorem i_draws {v : Vw} {T E : Int} {o r a : Int} (hI : IM v T E) (ho : 0 ≤ o ∧ o ≤ 19) (hr : -2147483648 ≤ r ∧ r < 2147483648) (ha : 0 ≤ a ∧ a ≤ 40) (hJ : 0 < a → v 9 0 + dl v ≤ 109) (hE : E + 31 ≤ 1000000000) (hb5 : v 5 0 ≤ 30) : IM (f_draws o r a v) T (E + 31) := by
  have hT := hI.1
  have u5 : 0 ≤ v 5 0 ∧ v 5 0 ≤ 30 := hI.2 5 0
  have u9 : 0 ≤ v 9 0 ∧ v 9 0 ≤ 127 := hI.2 9 0
  rw [f_draws]
  exact (i_l_draws_6  (((v 5 0) - 0).toNat + 1) a 0 v E hI (by show 0 ≤ a ∧ a ≤ 40; omega) (by show 0 ≤ 0 ∧ 0 ≤ 100; omega) (by exact hJ) (by omega) (by show 0 ≤ o ∧ o ≤ 19; omega) (by show -2147483648 ≤ r ∧ r < 2147483648; omega)).mono (by omega) (by omega) (by omega) (by omega)
theorem fr_draws {o r a : Int} {v : Vw} (fk : Nat) (fi : Int) (hk : fk ≠ 9 ∧ fk ≠ 10 ∧ fk ≠ 15 ∧ fk ≠ 18 ∧ fk ≠ 28 ∧ fk ≠ 31 ∧ fk ≠ 44 ∧ fk ≠ 45 ∧ fk ≠ 46) : (f_draws o r a v) fk fi = v fk fi := by
  rw [f_draws]
  exact (fr_l_draws_6 (((v 5 0) - 0).toNat + 1) a 0 v fk fi (by omega)).trans rfl
theorem J_l_draws_6 {o r : Int} : ∀ (n : Nat) (left b : Int) (v : Vw), v 5 0 ≤ 30 → 0 ≤ b → 0 ≤ left → l_draws_6 o r n left b v 9 0 + dl (l_draws_6 o r n left b v) ≤ v 9 0 + dl v + (if left ≤ 0 then 0 else 1) ∧ (∀ i, v 5 0 ≤ i → l_draws_6 o r n left b v 28 i = v 28 i) ∧ pq (l_draws_6 o r n left b v) = pq v := by
  intro n
  induction n with
  | zero =>
    intro left b v h5 hb hl
    refine ⟨?_, fun _ _ => rfl, rfl⟩
    show v 9 0 + dl v ≤ _
    split <;> omega
  | succ n ih =>
    intro left b v h5 hb hl
    rw [l_draws_6]
    by_cases c1 : v 5 0 ≤ b
    · rw [if_pos c1]
      exact ⟨by split <;> omega, fun _ _ => rfl, rfl⟩
    rw [if_neg c1]
    by_cases c2 : left ≤ 0
    · rw [if_pos c2]
      exact ⟨by split <;> omega, fun _ _ => rfl, rfl⟩
    rw [if_neg c2]
    by_cases c3 : v 28 b = 3
    · rw [if_pos c3]
      by_cases c4 : v 26 b = r
      · rw [if_pos c4, if_neg c2]
        have key : ∀ (W : Vw) (l' : Int), W 9 0 = v 9 0 + 1 → W 5 0 = v 5 0 → 0 ≤ l' → (∀ i, i ≠ b → W 28 i = v 28 i) → (W 28 b = 4 ∨ (W 28 b = v 28 b ∧ l' ≤ 0)) → l_draws_6 o r n l' (b + 1) W 9 0 + dl (l_draws_6 o r n l' (b + 1) W) ≤ v 9 0 + dl v + 1 ∧ (∀ i, v 5 0 ≤ i → l_draws_6 o r n l' (b + 1) W 28 i = v 28 i) ∧ pq (l_draws_6 o r n l' (b + 1) W) = pq v := by
          intro W l' h9 h5' h0 hne hw
          have g := ih l' (b + 1) W (by omega) (by omega) h0
          have e1 := dl_one (v := v) (w := W) (b := b) (by omega) hne
          have e2 := pq_one (v := v) (w := W) (b := b) (by omega) hne
          have e3 : dlF v b = 1 := by unfold dlF; rw [if_neg (by omega)]
          have e4 : pqF v b = 0 := by unfold pqF; rw [if_neg (by omega)]
          rcases hw with hw | ⟨hw, hl'⟩
          · have e5 : dlF W b = 0 := by unfold dlF; rw [if_pos hw]
            have e6 : pqF W b = 0 := by unfold pqF; rw [if_neg (by omega)]
            refine ⟨?_, fun i hi => ?_, by rw [g.2.2]; omega⟩
            · have := g.1
              split at this <;> omega
            · rw [g.2.1 i (by omega), hne i (by omega)]
          · have e5 : dlF W b = 1 := by unfold dlF; rw [if_neg (by omega)]
            have e6 : pqF W b = 0 := by unfold pqF; rw [if_neg (by omega)]
            have g1 := g.1
            rw [if_pos hl'] at g1
            refine ⟨by omega, fun i hi => ?_, by rw [g.2.2]; omega⟩
            rw [g.2.1 i (by omega), hne i (by omega)]
        split
        · split
          · exact key _ _ (by rw [fr_dirties 9 _ (by decide)]; simp [upv]) (by rw [fr_dirties 5 _ (by decide)]; simp [upv]) (by omega) (fun i hi => by rw [fr_dirties 28 _ (by decide)]; simp [upv, hi]) (Or.inl (by rw [fr_dirties 28 _ (by decide)]; simp [upv]))
          · exact key _ _ (by simp [upv]) (by simp [upv]) (by omega) (fun i hi => by simp [upv]) (Or.inr ⟨by simp [upv], by omega⟩)
        · split
          · exact key _ _ (by rw [fr_dirties 9 _ (by decide)]; simp [upv]) (by rw [fr_dirties 5 _ (by decide)]; simp [upv]) (by omega) (fun i hi => by rw [fr_dirties 28 _ (by decide)]; simp [upv, hi]) (Or.inl (by rw [fr_dirties 28 _ (by decide)]; simp [upv]))
          · omega
      · rw [if_neg c4]
        exact ih left (b + 1) v h5 (by omega) hl
    · rw [if_neg c3]
      exact ih left (b + 1) v h5 (by omega) hl
theorem J_draws {v : Vw} (h5 : v 5 0 ≤ 30) (o r a : Int) (ha : 0 ≤ a) : f_draws o r a v 9 0 + dl (f_draws o r a v) ≤ v 9 0 + dl v + 1 := by
  have h := (J_l_draws_6 (o := o) (r := r) ((v 5 0 - 0).toNat + 1) a 0 v h5 (by omega) ha).1
  unfold f_draws
  split at h <;> omega
/-- who isn't looked at is open -/
def LK (v : Vw) : Prop := ∀ o, 0 ≤ o → o < v 6 0 → v 38 o = 0 → v 34 o = 111
theorem LK_st {v w : Vw} (x : Int) (h1 : ¬ w 38 x = 0) (h2 : ∀ i, i ≠ x → w 38 i = v 38 i) (h3 : ∀ i, i ≠ x → w 34 i = v 34 i) (h6 : w 6 0 = v 6 0) (h : LK v) : LK w := by
  intro o ho h4 h5
  by_cases e : o = x
  · subst e
    exact absurd h5 h1
  · rw [h3 o e]
    exact h o ho (by omega) (by rw [← h2 o e]; exact h5)
def l_fills_2 : Nat → Int → Vw → Vw
  | 0, x, v => v
  | n + 1, x, v =>
    if (v 6 0) ≤ x then
      v
    else
      if (v 34 x) = 111 then
        (l_fills_2 n (x + 1) (upv v 38 x 0))
      else
        (l_fills_2 n (x + 1) (upv v 38 x 1))
theorem fr_l_fills_2 : ∀ (n : Nat) (x : Int) (v : Vw) (fk : Nat) (fi : Int) (hk : fk ≠ 38), (l_fills_2 n x v) fk fi = v fk fi := by
  intro n x v fk fi hk
  induction n generalizing x v with
  | zero => rfl
  | succ n ih =>
    by_cases c1 : (v 6 0) ≤ x
    · rw [l_fills_2, if_pos c1]
      try rfl
    · by_cases c3 : (v 34 x) = 111
      · rw [l_fills_2, if_neg c1, if_pos c3]
        exact (ih (x + 1) (upv v 38 x 0)).trans ((upv_nk (by omega)).trans rfl)
      · rw [l_fills_2, if_neg c1, if_neg c3]
        exact (ih (x + 1) (upv v 38 x 1)).trans ((upv_nk (by omega)).trans rfl)
theorem i_l_fills_2 {T E : Int} : ∀ (n : Nat) (x : Int) (v : Vw) (hI : IM v T E) (hx : 0 ≤ x ∧ x ≤ 100), IM (l_fills_2 n x v) T (E) := by
  intro n
  induction n with
  | zero =>
    intro x v hI hx
    have hT := hI.1
    exact hI
  | succ n ih =>
    intro x v hI hx
    have hT := hI.1
    have u6 : 0 ≤ v 6 0 ∧ v 6 0 ≤ 20 := hI.2 6 0
    by_cases c1 : (v 6 0) ≤ x
    · rw [l_fills_2, if_pos c1]
      exact hI
    · have q2 : 0 ≤ v 34 x ∧ v 34 x ≤ 255 := hI.2 34 x
      by_cases c3 : (v 34 x) = 111
      · rw [l_fills_2, if_neg c1, if_pos c3]
        exact ih (x + 1) (upv v 38 x 0) (hI.up 38 x 0 (by show 0 ≤ 0 ∧ 0 ≤ 1; omega)) (by show 0 ≤ (x + 1) ∧ (x + 1) ≤ 100; omega)
      · rw [l_fills_2, if_neg c1, if_neg c3]
        exact ih (x + 1) (upv v 38 x 1) (hI.up 38 x 1 (by show 0 ≤ 1 ∧ 1 ≤ 1; omega)) (by show 0 ≤ (x + 1) ∧ (x + 1) ≤ 100; omega)
def l_fills_52 (v : Vw) : Nat → Int → Int → Int
  | 0, next, x => next
  | n + 1, next, x =>
    if (v 6 0) ≤ x then
      next
    else
      if (v 38 x) = 0 then
        if next = (-1) then
          (l_fills_52 v n x (x + 1))
        else
          if (v 32 next) ≤ (v 32 x) then
            (l_fills_52 v n next (x + 1))
          else
            (l_fills_52 v n x (x + 1))
      else
        (l_fills_52 v n next (x + 1))
theorem r_l_fills_52 {v : Vw} : ∀ (n : Nat) (next x : Int), -1 ≤ next → 0 ≤ x → (v 6 0 - x).toNat < n → -1 ≤ l_fills_52 v n next x ∧ (l_fills_52 v n next x = next ∨ (x ≤ l_fills_52 v n next x ∧ l_fills_52 v n next x < v 6 0 ∧ v 38 (l_fills_52 v n next x) = 0)) := by
  intro n
  induction n with
  | zero => exact fun _ _ _ _ h => absurd h (Nat.not_lt_zero _)
  | succ n ih =>
    intro next x hf hw hm
    rw [l_fills_52]
    by_cases c1 : v 6 0 ≤ x
    · rw [if_pos c1]
      exact ⟨hf, Or.inl rfl⟩
    rw [if_neg c1]
    have g := ih next (x + 1) hf (by omega) (by omega)
    have g2 := ih x (x + 1) (by omega) (by omega) (by omega)
    have k1 : -1 ≤ l_fills_52 v n next (x + 1) ∧ (l_fills_52 v n next (x + 1) = next ∨ (x ≤ l_fills_52 v n next (x + 1) ∧ l_fills_52 v n next (x + 1) < v 6 0 ∧ v 38 (l_fills_52 v n next (x + 1)) = 0)) := ⟨g.1, g.2.elim Or.inl (fun h => Or.inr ⟨by omega, h.2⟩)⟩
    by_cases c2 : v 38 x = 0
    · have k2 : -1 ≤ l_fills_52 v n x (x + 1) ∧ (l_fills_52 v n x (x + 1) = next ∨ (x ≤ l_fills_52 v n x (x + 1) ∧ l_fills_52 v n x (x + 1) < v 6 0 ∧ v 38 (l_fills_52 v n x (x + 1)) = 0)) := ⟨g2.1, g2.2.elim (fun h => Or.inr ⟨by omega, by omega, by rw [h]; exact c2⟩) (fun h => Or.inr ⟨by omega, h.2⟩)⟩
      rw [if_pos c2]
      split
      · exact k2
      · split
        · exact k1
        · exact k2
    · rw [if_neg c2]
      exact k1
def l_fills_123 (o : Int) : Nat → Int → Vw → Vw
  | 0, k, v => v
  | n + 1, k, v =>
    if (v 33 o) ≤ k then
      v
    else
      (l_fills_123 o n (k + 1) (f_draws o (v 36 ((4 * o) + k)) (v 37 ((4 * o) + k)) v))
theorem fr_l_fills_123 {o : Int} : ∀ (n : Nat) (k : Int) (v : Vw) (fk : Nat) (fi : Int) (hk : fk ≠ 9 ∧ fk ≠ 10 ∧ fk ≠ 15 ∧ fk ≠ 18 ∧ fk ≠ 28 ∧ fk ≠ 31 ∧ fk ≠ 44 ∧ fk ≠ 45 ∧ fk ≠ 46), (l_fills_123 o n k v) fk fi = v fk fi := by
  intro n k v fk fi hk
  induction n generalizing k v with
  | zero => rfl
  | succ n ih =>
    by_cases c12 : (v 33 o) ≤ k
    · rw [l_fills_123, if_pos c12]
      try rfl
    · rw [l_fills_123, if_neg c12]
      exact (ih (k + 1) (f_draws o (v 36 ((4 * o) + k)) (v 37 ((4 * o) + k)) v)).trans ((fr_draws (o := o) (r := (v 36 ((4 * o) + k))) (a := (v 37 ((4 * o) + k))) (v := v) fk fi (by omega)).trans rfl)
theorem i_l_fills_123 {T : Int} {o : Int} : ∀ (n : Nat) (k : Int) (v : Vw) (E : Int) (hI : IM v T E) (hk : 0 ≤ k ∧ k ≤ 100) (ho : 0 ≤ o ∧ o ≤ 19) (hJ : v 9 0 + dl v ≤ 106 + k) (h5 : v 5 0 ≤ 30) (hE : E + 31 * ((n : Nat) : Int) ≤ 1000000000), IM (l_fills_123 o n k v) T (E + 31 * (n : Int)) := by
  intro n
  induction n with
  | zero =>
    intro k v E hI hk ho hJ h5 hE
    have hT := hI.1
    exact hI.mono (by omega) (by omega) (by omega) (by omega)
  | succ n ih =>
    intro k v E hI hk ho hJ h5 hE
    have hT := hI.1
    have u5 : 0 ≤ v 5 0 ∧ v 5 0 ≤ 30 := hI.2 5 0
    have u9 : 0 ≤ v 9 0 ∧ v 9 0 ≤ 127 := hI.2 9 0
    have q11 : 0 ≤ v 33 o ∧ v 33 o ≤ 4 := hI.2 33 o
    by_cases c12 : (v 33 o) ≤ k
    · rw [l_fills_123, if_pos c12]
      exact (hI).mono (by omega) (by omega) (by omega) (by omega)
    · have q13 : 0 ≤ v 36 ((4 * o) + k) ∧ v 36 ((4 * o) + k) ≤ 4 := hI.2 36 ((4 * o) + k)
      have q14 : 0 ≤ v 37 ((4 * o) + k) ∧ v 37 ((4 * o) + k) ≤ 40 := hI.2 37 ((4 * o) + k)
      have hJ15 := (i_draws (o := o) (r := (v 36 ((4 * o) + k))) (a := (v 37 ((4 * o) + k))) hI (by show 0 ≤ o ∧ o ≤ 19; omega) (by show -2147483648 ≤ (v 36 ((4 * o) + k)) ∧ (v 36 ((4 * o) + k)) < 2147483648; omega) (by show 0 ≤ (v 37 ((4 * o) + k)) ∧ (v 37 ((4 * o) + k)) ≤ 40; omega) (by show 0 < (v 37 ((4 * o) + k)) → (v 9 0) + dl v ≤ 109; omega) (by omega) (by show (v 5 0) ≤ 30; omega))
      have q16 := J_draws (v := v) (by omega) o (v 36 ((4 * o) + k)) (v 37 ((4 * o) + k)) (by omega)
      have q17 : (f_draws o (v 36 ((4 * o) + k)) (v 37 ((4 * o) + k)) v) 5 0 = v 5 0 := (fr_draws (o := o) (r := (v 36 ((4 * o) + k))) (a := (v 37 ((4 * o) + k))) (v := v) 5 0 (by decide)).trans rfl
      have q18 : (f_draws o (v 36 ((4 * o) + k)) (v 37 ((4 * o) + k)) v) 33 o = v 33 o := (fr_draws (o := o) (r := (v 36 ((4 * o) + k))) (a := (v 37 ((4 * o) + k))) (v := v) 33 o (by decide)).trans rfl
      rw [l_fills_123, if_neg c12]
      exact (ih (k + 1) (f_draws o (v 36 ((4 * o) + k)) (v 37 ((4 * o) + k)) v) (E + 31) ((hJ15).mono (T' := T) (E' := E + 31) (by omega) (by omega) (by omega) (by omega)) (by show 0 ≤ (k + 1) ∧ (k + 1) ≤ 100; omega) (by show 0 ≤ o ∧ o ≤ 19; omega) (by show ((f_draws o (v 36 ((4 * o) + k)) (v 37 ((4 * o) + k)) v) 9 0) + dl (f_draws o (v 36 ((4 * o) + k)) (v 37 ((4 * o) + k)) v) ≤ 106 + (k + 1); omega) (by show ((f_draws o (v 36 ((4 * o) + k)) (v 37 ((4 * o) + k)) v) 5 0) ≤ 30; omega) (by omega)).mono (by omega) (by omega) (by omega) (by omega)
theorem J_l_fills_123 (o : Int) : ∀ (n : Nat) (k : Int) (v : Vw), v 5 0 ≤ 30 → (∀ i, 0 ≤ v 37 i) → 0 ≤ k → l_fills_123 o n k v 9 0 + dl (l_fills_123 o n k v) ≤ v 9 0 + dl v + (if v 33 o ≤ k then 0 else v 33 o - k) := by
  intro n
  induction n with
  | zero =>
    intro k v h5 h37 hk
    show v 9 0 + dl v ≤ _
    split <;> omega
  | succ n ih =>
    intro k v h5 h37 hk
    rw [l_fills_123]
    split
    · omega
    · have g := J_draws (v := v) h5 o (v 36 (4 * o + k)) (v 37 (4 * o + k)) (h37 _)
      have g2 := ih (k + 1) (f_draws o (v 36 (4 * o + k)) (v 37 (4 * o + k)) v) (by rw [fr_draws 5 _ (by decide)]; exact h5) (fun i => by rw [fr_draws 37 _ (by decide)]; exact h37 i) (by omega)
      rw [fr_draws 33 _ (by decide)] at g2
      split at g2 <;> omega
theorem looked_l_fills_2 : ∀ (n : Nat) (x : Int) (v : Vw), (∀ p, 0 ≤ p → p < x → v 38 p = 0 → v 34 p = 111) → 0 ≤ x → (v 6 0 - x).toNat < n → LK (l_fills_2 n x v) := by
  intro n
  induction n with
  | zero => exact fun _ _ _ _ h => absurd h (Nat.not_lt_zero _)
  | succ n ih =>
    intro x v h hx hm
    rw [l_fills_2]
    by_cases c1 : v 6 0 ≤ x
    · rw [if_pos c1]
      exact fun p h1 h2 => h p h1 (by omega)
    rw [if_neg c1]
    split
    · rename_i c
      refine ih (x + 1) _ (fun p h1 h2 h3 => ?_) (by omega) (by simp [upv]; omega)
      by_cases e : p = x
      · subst e
        simp [upv]
        exact c
      · have h4 : v 38 p = 0 := by simpa [upv, e] using h3
        show upv v 38 x _ 34 p = _
        simp [upv]
        exact h p h1 (by omega) h4
    · rename_i c
      refine ih (x + 1) _ (fun p h1 h2 h3 => ?_) (by omega) (by simp [upv]; omega)
      by_cases e : p = x
      · subst e
        simp [upv] at h3
      · have h4 : v 38 p = 0 := by simpa [upv, e] using h3
        show upv v 38 x _ 34 p = _
        simp [upv]
        exact h p h1 (by omega) h4
def l_fills_40 : Nat → Int → Vw → Vw
  | 0, m, v => v
  | n + 1, m, v =>
    if (v 6 0) ≤ m then
      v
    else
      if (l_fills_52 v (((v 6 0) - 0).toNat + 1) (-1) 0) = (-1) then
        v
      else
        if (f_canFill (l_fills_52 v (((v 6 0) - 0).toNat + 1) (-1) 0) (upv v 38 (l_fills_52 v (((v 6 0) - 0).toNat + 1) (-1) 0) 1)) = 0 then
          (l_fills_40 n (m + 1) (upv v 38 (l_fills_52 v (((v 6 0) - 0).toNat + 1) (-1) 0) 1))
        else
          (l_fills_40 n (m + 1) (upv (upv (upv (l_fills_123 (l_fills_52 v (((v 6 0) - 0).toNat + 1) (-1) 0) (((v 33 (l_fills_52 v (((v 6 0) - 0).toNat + 1) (-1) 0)) - 0).toNat + 1) 0 (upv v 38 (l_fills_52 v (((v 6 0) - 0).toNat + 1) (-1) 0) 1)) 34 (l_fills_52 v (((v 6 0) - 0).toNat + 1) (-1) 0) 102) 35 (l_fills_52 v (((v 6 0) - 0).toNat + 1) (-1) 0) (v 8 0)) 11 0 ((v 11 0) + 1)))
theorem fr_l_fills_40 : ∀ (n : Nat) (m : Int) (v : Vw) (fk : Nat) (fi : Int) (hk : fk ≠ 9 ∧ fk ≠ 10 ∧ fk ≠ 11 ∧ fk ≠ 15 ∧ fk ≠ 18 ∧ fk ≠ 28 ∧ fk ≠ 31 ∧ fk ≠ 34 ∧ fk ≠ 35 ∧ fk ≠ 38 ∧ fk ≠ 44 ∧ fk ≠ 45 ∧ fk ≠ 46), (l_fills_40 n m v) fk fi = v fk fi := by
  intro n m v fk fi hk
  induction n generalizing m v with
  | zero => rfl
  | succ n ih =>
    by_cases c19 : (v 6 0) ≤ m
    · rw [l_fills_40, if_pos c19]
      try rfl
    · by_cases c25 : (l_fills_52 v (((v 6 0) - 0).toNat + 1) (-1) 0) = (-1)
      · rw [l_fills_40, if_neg c19, if_pos c25]
        try rfl
      · by_cases c27 : (f_canFill (l_fills_52 v (((v 6 0) - 0).toNat + 1) (-1) 0) (upv v 38 (l_fills_52 v (((v 6 0) - 0).toNat + 1) (-1) 0) 1)) = 0
        · rw [l_fills_40, if_neg c19, if_neg c25, if_pos c27]
          exact (ih (m + 1) (upv v 38 (l_fills_52 v (((v 6 0) - 0).toNat + 1) (-1) 0) 1)).trans ((upv_nk (by omega)).trans rfl)
        · rw [l_fills_40, if_neg c19, if_neg c25, if_neg c27]
          exact (ih (m + 1) (upv (upv (upv (l_fills_123 (l_fills_52 v (((v 6 0) - 0).toNat + 1) (-1) 0) (((v 33 (l_fills_52 v (((v 6 0) - 0).toNat + 1) (-1) 0)) - 0).toNat + 1) 0 (upv v 38 (l_fills_52 v (((v 6 0) - 0).toNat + 1) (-1) 0) 1)) 34 (l_fills_52 v (((v 6 0) - 0).toNat + 1) (-1) 0) 102) 35 (l_fills_52 v (((v 6 0) - 0).toNat + 1) (-1) 0) (v 8 0)) 11 0 ((v 11 0) + 1))).trans ((upv_nk (by omega)).trans ((upv_nk (by omega)).trans ((upv_nk (by omega)).trans ((fr_l_fills_123 (((v 33 (l_fills_52 v (((v 6 0) - 0).toNat + 1) (-1) 0)) - 0).toNat + 1) 0 (upv v 38 (l_fills_52 v (((v 6 0) - 0).toNat + 1) (-1) 0) 1) fk fi (by omega)).trans ((upv_nk (by omega)).trans rfl)))))
theorem i_l_fills_40 {T : Int} : ∀ (n : Nat) (m : Int) (v : Vw) (E : Int) (hI : IM v T E) (hm0 : 0 ≤ m ∧ m ≤ 100) (hL : LK v) (hU : v 11 0 + fl v ≤ 20) (hJ : v 9 0 + dl v ≤ 30 + 4 * v 11 0) (hE : E + 155 * ((n : Nat) : Int) ≤ 1000000000) (h5 : v 5 0 ≤ 30), IM (l_fills_40 n m v) T (E + 155 * (n : Int)) := by
  intro n
  induction n with
  | zero =>
    intro m v E hI hm0 hL hU hJ hE h5
    have hT := hI.1
    exact hI.mono (by omega) (by omega) (by omega) (by omega)
  | succ n ih =>
    intro m v E hI hm0 hL hU hJ hE h5
    have hT := hI.1
    have u11 : 0 ≤ v 11 0 ∧ v 11 0 ≤ 20 := hI.2 11 0
    have u5 : 0 ≤ v 5 0 ∧ v 5 0 ≤ 30 := hI.2 5 0
    have u6 : 0 ≤ v 6 0 ∧ v 6 0 ≤ 20 := hI.2 6 0
    have u9 : 0 ≤ v 9 0 ∧ v 9 0 ≤ 127 := hI.2 9 0
    by_cases c19 : (v 6 0) ≤ m
    · rw [l_fills_40, if_pos c19]
      exact (hI).mono (by omega) (by omega) (by omega) (by omega)
    · have h52 := r_l_fills_52 (v := v) (((v 6 0) - 0).toNat + 1) (-1) 0 (by omega) (by omega) (by omega)
      have u6 : 0 ≤ v 6 0 ∧ v 6 0 ≤ 20 := hI.2 6 0
      have h33 : 0 ≤ v 33 (l_fills_52 v (((v 6 0) - 0).toNat + 1) (-1) 0) ∧ v 33 (l_fills_52 v (((v 6 0) - 0).toNat + 1) (-1) 0) ≤ 4 := hI.2 33 (l_fills_52 v (((v 6 0) - 0).toNat + 1) (-1) 0)
      have h34 : ¬ (l_fills_52 v (((v 6 0) - 0).toNat + 1) (-1) 0) = -1 → v 34 (l_fills_52 v (((v 6 0) - 0).toNat + 1) (-1) 0) = 111 ∧ v 38 (l_fills_52 v (((v 6 0) - 0).toNat + 1) (-1) 0) = 0 := fun h => ⟨hL (l_fills_52 v (((v 6 0) - 0).toNat + 1) (-1) 0) (by omega) (by omega) (by rcases h52.2 with h9 | h9; exact absurd h9 h; exact h9.2.2), by rcases h52.2 with h9 | h9; exact absurd h9 h; exact h9.2.2⟩
      have hfl : ¬ (l_fills_52 v (((v 6 0) - 0).toNat + 1) (-1) 0) = -1 → 1 ≤ fl v := fun h => fl_pos (by omega) (h34 h).1
      by_cases c25 : (l_fills_52 v (((v 6 0) - 0).toNat + 1) (-1) 0) = (-1)
      · rw [l_fills_40, if_neg c19, if_pos c25]
        exact (hI).mono (by omega) (by omega) (by omega) (by omega)
      · have q26 : 0 ≤ (f_canFill (l_fills_52 v (((v 6 0) - 0).toNat + 1) (-1) 0) (upv v 38 (l_fills_52 v (((v 6 0) - 0).toNat + 1) (-1) 0) 1)) ∧ (f_canFill (l_fills_52 v (((v 6 0) - 0).toNat + 1) (-1) 0) (upv v 38 (l_fills_52 v (((v 6 0) - 0).toNat + 1) (-1) 0) 1)) ≤ 1 := r_canFill
        by_cases c27 : (f_canFill (l_fills_52 v (((v 6 0) - 0).toNat + 1) (-1) 0) (upv v 38 (l_fills_52 v (((v 6 0) - 0).toNat + 1) (-1) 0) 1)) = 0
        · rw [l_fills_40, if_neg c19, if_neg c25, if_pos c27]
          exact (ih (m + 1) (upv v 38 (l_fills_52 v (((v 6 0) - 0).toNat + 1) (-1) 0) 1) (E + 155) (((hI.up 38 (l_fills_52 v (((v 6 0) - 0).toNat + 1) (-1) 0) 1 (by show 0 ≤ 1 ∧ 1 ≤ 1; omega))).mono (T' := T) (E' := E + 155) (by omega) (by omega) (by omega) (by omega)) (by show 0 ≤ (m + 1) ∧ (m + 1) ≤ 100; omega) (by exact LK_st (l_fills_52 v (((v 6 0) - 0).toNat + 1) (-1) 0) (by rw [upv_eq]; decide) (fun i hi => ((upv_ni hi).trans rfl)) (fun i hi => ((upv_nk (by decide)).trans rfl)) ((upv_nk (by decide)).trans rfl) hL) (by have e := fl_congr (v := v) (w := (upv v 38 (l_fills_52 v (((v 6 0) - 0).toNat + 1) (-1) 0) 1)) (fun i => ((upv_nk (by decide)).trans rfl)); show v 11 0 + fl (upv v 38 (l_fills_52 v (((v 6 0) - 0).toNat + 1) (-1) 0) 1) ≤ 20; omega) (by have e := dl_congr (v := v) (w := (upv v 38 (l_fills_52 v (((v 6 0) - 0).toNat + 1) (-1) 0) 1)) (fun i => ((upv_nk (by decide)).trans rfl)); show v 9 0 + dl (upv v 38 (l_fills_52 v (((v 6 0) - 0).toNat + 1) (-1) 0) 1) ≤ 30 + 4 * v 11 0; omega) (by omega) (by show (v 5 0) ≤ 30; omega)).mono (by omega) (by omega) (by omega) (by omega)
        · have hJ28 := i_l_fills_123  (((v 33 (l_fills_52 v (((v 6 0) - 0).toNat + 1) (-1) 0)) - 0).toNat + 1) 0 (upv v 38 (l_fills_52 v (((v 6 0) - 0).toNat + 1) (-1) 0) 1) E (hI.up 38 (l_fills_52 v (((v 6 0) - 0).toNat + 1) (-1) 0) 1 (by show 0 ≤ 1 ∧ 1 ≤ 1; omega)) (by show 0 ≤ 0 ∧ 0 ≤ 100; omega) (by show 0 ≤ (l_fills_52 v (((v 6 0) - 0).toNat + 1) (-1) 0) ∧ (l_fills_52 v (((v 6 0) - 0).toNat + 1) (-1) 0) ≤ 19; omega) (by have e := dl_congr (v := v) (w := (upv v 38 (l_fills_52 v (((v 6 0) - 0).toNat + 1) (-1) 0) 1)) (fun i => ((upv_nk (by decide)).trans rfl)); show v 9 0 + dl (upv v 38 (l_fills_52 v (((v 6 0) - 0).toNat + 1) (-1) 0) 1) ≤ 106 + 0; omega) (by show (v 5 0) ≤ 30; omega) (by omega)
          have h37 : ∀ i, 0 ≤ (upv v 38 (l_fills_52 v (((v 6 0) - 0).toNat + 1) (-1) 0) 1) 37 i := fun i => (hI.2 37 i).1
          have hq123 : (l_fills_123 (l_fills_52 v (((v 6 0) - 0).toNat + 1) (-1) 0) (((v 33 (l_fills_52 v (((v 6 0) - 0).toNat + 1) (-1) 0)) - 0).toNat + 1) 0 (upv v 38 (l_fills_52 v (((v 6 0) - 0).toNat + 1) (-1) 0) 1)) 9 0 + dl (l_fills_123 (l_fills_52 v (((v 6 0) - 0).toNat + 1) (-1) 0) (((v 33 (l_fills_52 v (((v 6 0) - 0).toNat + 1) (-1) 0)) - 0).toNat + 1) 0 (upv v 38 (l_fills_52 v (((v 6 0) - 0).toNat + 1) (-1) 0) 1)) ≤ v 9 0 + dl (upv v 38 (l_fills_52 v (((v 6 0) - 0).toNat + 1) (-1) 0) 1) + (if v 33 (l_fills_52 v (((v 6 0) - 0).toNat + 1) (-1) 0) ≤ 0 then 0 else v 33 (l_fills_52 v (((v 6 0) - 0).toNat + 1) (-1) 0) - 0) := J_l_fills_123 (l_fills_52 v (((v 6 0) - 0).toNat + 1) (-1) 0) (((v 33 (l_fills_52 v (((v 6 0) - 0).toNat + 1) (-1) 0)) - 0).toNat + 1) 0 (upv v 38 (l_fills_52 v (((v 6 0) - 0).toNat + 1) (-1) 0) 1) h5 h37 (by omega)
          have q31 : 0 ≤ v 8 0 ∧ v 8 0 ≤ T := hI.2 8 0
          have q32 : (l_fills_123 (l_fills_52 v (((v 6 0) - 0).toNat + 1) (-1) 0) (((v 33 (l_fills_52 v (((v 6 0) - 0).toNat + 1) (-1) 0)) - 0).toNat + 1) 0 (upv v 38 (l_fills_52 v (((v 6 0) - 0).toNat + 1) (-1) 0) 1)) 8 0 = v 8 0 := (fr_l_fills_123 (((v 33 (l_fills_52 v (((v 6 0) - 0).toNat + 1) (-1) 0)) - 0).toNat + 1) 0 (upv v 38 (l_fills_52 v (((v 6 0) - 0).toNat + 1) (-1) 0) 1) 8 0 (by decide)).trans rfl
          have q33 : (l_fills_123 (l_fills_52 v (((v 6 0) - 0).toNat + 1) (-1) 0) (((v 33 (l_fills_52 v (((v 6 0) - 0).toNat + 1) (-1) 0)) - 0).toNat + 1) 0 (upv v 38 (l_fills_52 v (((v 6 0) - 0).toNat + 1) (-1) 0) 1)) 11 0 = v 11 0 := (fr_l_fills_123 (((v 33 (l_fills_52 v (((v 6 0) - 0).toNat + 1) (-1) 0)) - 0).toNat + 1) 0 (upv v 38 (l_fills_52 v (((v 6 0) - 0).toNat + 1) (-1) 0) 1) 11 0 (by decide)).trans rfl
          have q34 : (l_fills_123 (l_fills_52 v (((v 6 0) - 0).toNat + 1) (-1) 0) (((v 33 (l_fills_52 v (((v 6 0) - 0).toNat + 1) (-1) 0)) - 0).toNat + 1) 0 (upv v 38 (l_fills_52 v (((v 6 0) - 0).toNat + 1) (-1) 0) 1)) 5 0 = v 5 0 := (fr_l_fills_123 (((v 33 (l_fills_52 v (((v 6 0) - 0).toNat + 1) (-1) 0)) - 0).toNat + 1) 0 (upv v 38 (l_fills_52 v (((v 6 0) - 0).toNat + 1) (-1) 0) 1) 5 0 (by decide)).trans rfl
          have q35 : (l_fills_123 (l_fills_52 v (((v 6 0) - 0).toNat + 1) (-1) 0) (((v 33 (l_fills_52 v (((v 6 0) - 0).toNat + 1) (-1) 0)) - 0).toNat + 1) 0 (upv v 38 (l_fills_52 v (((v 6 0) - 0).toNat + 1) (-1) 0) 1)) 6 0 = v 6 0 := (fr_l_fills_123 (((v 33 (l_fills_52 v (((v 6 0) - 0).toNat + 1) (-1) 0)) - 0).toNat + 1) 0 (upv v 38 (l_fills_52 v (((v 6 0) - 0).toNat + 1) (-1) 0) 1) 6 0 (by decide)).trans rfl
          rw [l_fills_40, if_neg c19, if_neg c25, if_neg c27]
          exact (ih (m + 1) (upv (upv (upv (l_fills_123 (l_fills_52 v (((v 6 0) - 0).toNat + 1) (-1) 0) (((v 33 (l_fills_52 v (((v 6 0) - 0).toNat + 1) (-1) 0)) - 0).toNat + 1) 0 (upv v 38 (l_fills_52 v (((v 6 0) - 0).toNat + 1) (-1) 0) 1)) 34 (l_fills_52 v (((v 6 0) - 0).toNat + 1) (-1) 0) 102) 35 (l_fills_52 v (((v 6 0) - 0).toNat + 1) (-1) 0) (v 8 0)) 11 0 ((v 11 0) + 1)) (E + 155) (((((hJ28.up 34 (l_fills_52 v (((v 6 0) - 0).toNat + 1) (-1) 0) 102 (by show 0 ≤ 102 ∧ 102 ≤ 255; omega)).up 35 (l_fills_52 v (((v 6 0) - 0).toNat + 1) (-1) 0) (v 8 0) (by show 0 ≤ (v 8 0) ∧ (v 8 0) ≤ T; omega)).up 11 0 ((v 11 0) + 1) (by show 0 ≤ ((v 11 0) + 1) ∧ ((v 11 0) + 1) ≤ 20; omega))).mono (T' := T) (E' := E + 155) (by omega) (by omega) (by omega) (by omega)) (by show 0 ≤ (m + 1) ∧ (m + 1) ≤ 100; omega) (by exact LK_st (l_fills_52 v (((v 6 0) - 0).toNat + 1) (-1) 0) (by rw [show (upv (upv (upv (l_fills_123 (l_fills_52 v (((v 6 0) - 0).toNat + 1) (-1) 0) (((v 33 (l_fills_52 v (((v 6 0) - 0).toNat + 1) (-1) 0)) - 0).toNat + 1) 0 (upv v 38 (l_fills_52 v (((v 6 0) - 0).toNat + 1) (-1) 0) 1)) 34 (l_fills_52 v (((v 6 0) - 0).toNat + 1) (-1) 0) 102) 35 (l_fills_52 v (((v 6 0) - 0).toNat + 1) (-1) 0) (v 8 0)) 11 0 ((v 11 0) + 1)) 38 (l_fills_52 v (((v 6 0) - 0).toNat + 1) (-1) 0) = 1 from (upv_nk (by decide)).trans ((upv_nk (by decide)).trans ((upv_nk (by decide)).trans ((fr_l_fills_123 (((v 33 (l_fills_52 v (((v 6 0) - 0).toNat + 1) (-1) 0)) - 0).toNat + 1) 0 (upv v 38 (l_fills_52 v (((v 6 0) - 0).toNat + 1) (-1) 0) 1) 38 (l_fills_52 v (((v 6 0) - 0).toNat + 1) (-1) 0) (by decide)).trans (upv_eq _ _ _ _))))]; decide) (fun i hi => ((upv_nk (by decide)).trans ((upv_nk (by decide)).trans ((upv_nk (by decide)).trans ((fr_l_fills_123 (((v 33 (l_fills_52 v (((v 6 0) - 0).toNat + 1) (-1) 0)) - 0).toNat + 1) 0 (upv v 38 (l_fills_52 v (((v 6 0) - 0).toNat + 1) (-1) 0) 1) 38 i (by decide)).trans ((upv_ni hi).trans rfl)))))) (fun i hi => ((upv_nk (by decide)).trans ((upv_nk (by decide)).trans ((upv_ni hi).trans ((fr_l_fills_123 (((v 33 (l_fills_52 v (((v 6 0) - 0).toNat + 1) (-1) 0)) - 0).toNat + 1) 0 (upv v 38 (l_fills_52 v (((v 6 0) - 0).toNat + 1) (-1) 0) 1) 34 i (by decide)).trans ((upv_nk (by decide)).trans rfl)))))) ((upv_nk (by decide)).trans ((upv_nk (by decide)).trans ((upv_nk (by decide)).trans ((fr_l_fills_123 (((v 33 (l_fills_52 v (((v 6 0) - 0).toNat + 1) (-1) 0)) - 0).toNat + 1) 0 (upv v 38 (l_fills_52 v (((v 6 0) - 0).toNat + 1) (-1) 0) 1) 6 0 (by decide)).trans ((upv_nk (by decide)).trans rfl))))) hL) (by have e := fl_one (v := v) (w := (upv (upv (upv (l_fills_123 (l_fills_52 v (((v 6 0) - 0).toNat + 1) (-1) 0) (((v 33 (l_fills_52 v (((v 6 0) - 0).toNat + 1) (-1) 0)) - 0).toNat + 1) 0 (upv v 38 (l_fills_52 v (((v 6 0) - 0).toNat + 1) (-1) 0) 1)) 34 (l_fills_52 v (((v 6 0) - 0).toNat + 1) (-1) 0) 102) 35 (l_fills_52 v (((v 6 0) - 0).toNat + 1) (-1) 0) (v 8 0)) 11 0 ((v 11 0) + 1))) (b := (l_fills_52 v (((v 6 0) - 0).toNat + 1) (-1) 0)) (by omega) (fun i hi => ((upv_nk (by decide)).trans ((upv_nk (by decide)).trans ((upv_ni hi).trans ((fr_l_fills_123 (((v 33 (l_fills_52 v (((v 6 0) - 0).toNat + 1) (-1) 0)) - 0).toNat + 1) 0 (upv v 38 (l_fills_52 v (((v 6 0) - 0).toNat + 1) (-1) 0) 1) 34 i (by decide)).trans ((upv_nk (by decide)).trans rfl)))))); have e2 : flF (upv (upv (upv (l_fills_123 (l_fills_52 v (((v 6 0) - 0).toNat + 1) (-1) 0) (((v 33 (l_fills_52 v (((v 6 0) - 0).toNat + 1) (-1) 0)) - 0).toNat + 1) 0 (upv v 38 (l_fills_52 v (((v 6 0) - 0).toNat + 1) (-1) 0) 1)) 34 (l_fills_52 v (((v 6 0) - 0).toNat + 1) (-1) 0) 102) 35 (l_fills_52 v (((v 6 0) - 0).toNat + 1) (-1) 0) (v 8 0)) 11 0 ((v 11 0) + 1)) (l_fills_52 v (((v 6 0) - 0).toNat + 1) (-1) 0) = 0 := (by unfold flF; rw [if_pos ((upv_nk (by decide)).trans ((upv_nk (by decide)).trans (upv_eq _ _ _ _)))]); have e3 : flF v (l_fills_52 v (((v 6 0) - 0).toNat + 1) (-1) 0) = 1 := (by unfold flF; rw [if_neg (by omega)]); show v 11 0 + 1 + fl (upv (upv (upv (l_fills_123 (l_fills_52 v (((v 6 0) - 0).toNat + 1) (-1) 0) (((v 33 (l_fills_52 v (((v 6 0) - 0).toNat + 1) (-1) 0)) - 0).toNat + 1) 0 (upv v 38 (l_fills_52 v (((v 6 0) - 0).toNat + 1) (-1) 0) 1)) 34 (l_fills_52 v (((v 6 0) - 0).toNat + 1) (-1) 0) 102) 35 (l_fills_52 v (((v 6 0) - 0).toNat + 1) (-1) 0) (v 8 0)) 11 0 ((v 11 0) + 1)) ≤ 20; omega) (by have e : dl (upv (upv (upv (l_fills_123 (l_fills_52 v (((v 6 0) - 0).toNat + 1) (-1) 0) (((v 33 (l_fills_52 v (((v 6 0) - 0).toNat + 1) (-1) 0)) - 0).toNat + 1) 0 (upv v 38 (l_fills_52 v (((v 6 0) - 0).toNat + 1) (-1) 0) 1)) 34 (l_fills_52 v (((v 6 0) - 0).toNat + 1) (-1) 0) 102) 35 (l_fills_52 v (((v 6 0) - 0).toNat + 1) (-1) 0) (v 8 0)) 11 0 ((v 11 0) + 1)) = dl (l_fills_123 (l_fills_52 v (((v 6 0) - 0).toNat + 1) (-1) 0) (((v 33 (l_fills_52 v (((v 6 0) - 0).toNat + 1) (-1) 0)) - 0).toNat + 1) 0 (upv v 38 (l_fills_52 v (((v 6 0) - 0).toNat + 1) (-1) 0) 1)) := dl_congr (fun i => ((upv_nk (by decide)).trans ((upv_nk (by decide)).trans (upv_nk (by decide))))); have e2 : dl (upv v 38 (l_fills_52 v (((v 6 0) - 0).toNat + 1) (-1) 0) 1) = dl v := dl_congr (fun i => ((upv_nk (by decide)).trans rfl)); show (l_fills_123 (l_fills_52 v (((v 6 0) - 0).toNat + 1) (-1) 0) (((v 33 (l_fills_52 v (((v 6 0) - 0).toNat + 1) (-1) 0)) - 0).toNat + 1) 0 (upv v 38 (l_fills_52 v (((v 6 0) - 0).toNat + 1) (-1) 0) 1)) 9 0 + dl (upv (upv (upv (l_fills_123 (l_fills_52 v (((v 6 0) - 0).toNat + 1) (-1) 0) (((v 33 (l_fills_52 v (((v 6 0) - 0).toNat + 1) (-1) 0)) - 0).toNat + 1) 0 (upv v 38 (l_fills_52 v (((v 6 0) - 0).toNat + 1) (-1) 0) 1)) 34 (l_fills_52 v (((v 6 0) - 0).toNat + 1) (-1) 0) 102) 35 (l_fills_52 v (((v 6 0) - 0).toNat + 1) (-1) 0) (v 8 0)) 11 0 ((v 11 0) + 1)) ≤ 30 + 4 * (v 11 0 + 1); split at hq123 <;> omega) (by omega) (by show ((l_fills_123 (l_fills_52 v (((v 6 0) - 0).toNat + 1) (-1) 0) (((v 33 (l_fills_52 v (((v 6 0) - 0).toNat + 1) (-1) 0)) - 0).toNat + 1) 0 (upv v 38 (l_fills_52 v (((v 6 0) - 0).toNat + 1) (-1) 0) 1)) 5 0) ≤ 30; omega)).mono (by omega) (by omega) (by omega) (by omega)
def f_fills (v : Vw) : Vw :=
  (l_fills_40 (((v 6 0) - 0).toNat + 1) 0 (l_fills_2 (((v 6 0) - 0).toNat + 1) 0 v))
theorem i_fills {v : Vw} {T E : Int} (hI : IM v T E) (hU : v 11 0 + fl v ≤ 20) (hJ : v 9 0 + dl v ≤ 30 + 4 * v 11 0) (hE : E + 3255 ≤ 1000000000) (h6 : v 6 0 ≤ 20) (h5 : v 5 0 ≤ 30) : IM (f_fills v) T (E + 3255) := by
  have hT := hI.1
  have u11 : 0 ≤ v 11 0 ∧ v 11 0 ≤ 20 := hI.2 11 0
  have u5 : 0 ≤ v 5 0 ∧ v 5 0 ≤ 30 := hI.2 5 0
  have u6 : 0 ≤ v 6 0 ∧ v 6 0 ≤ 20 := hI.2 6 0
  have u9 : 0 ≤ v 9 0 ∧ v 9 0 ≤ 127 := hI.2 9 0
  have hJ36 := i_l_fills_2  (((v 6 0) - 0).toNat + 1) 0 v hI (by show 0 ≤ 0 ∧ 0 ≤ 100; omega)
  have q37 : (l_fills_2 (((v 6 0) - 0).toNat + 1) 0 v) 6 0 = v 6 0 := (fr_l_fills_2 (((v 6 0) - 0).toNat + 1) 0 v 6 0 (by decide)).trans rfl
  have q38 : (l_fills_2 (((v 6 0) - 0).toNat + 1) 0 v) 11 0 = v 11 0 := (fr_l_fills_2 (((v 6 0) - 0).toNat + 1) 0 v 11 0 (by decide)).trans rfl
  have q39 : (l_fills_2 (((v 6 0) - 0).toNat + 1) 0 v) 9 0 = v 9 0 := (fr_l_fills_2 (((v 6 0) - 0).toNat + 1) 0 v 9 0 (by decide)).trans rfl
  have q40 : (l_fills_2 (((v 6 0) - 0).toNat + 1) 0 v) 5 0 = v 5 0 := (fr_l_fills_2 (((v 6 0) - 0).toNat + 1) 0 v 5 0 (by decide)).trans rfl
  rw [f_fills]
  exact (i_l_fills_40  (((v 6 0) - 0).toNat + 1) 0 (l_fills_2 (((v 6 0) - 0).toNat + 1) 0 v) E hJ36 (by show 0 ≤ 0 ∧ 0 ≤ 100; omega) (by exact looked_l_fills_2 _ 0 v (fun p h1 h2 => by omega) (by omega) (by omega)) (by rw [fl_congr (fun i => fr_l_fills_2 _ _ _ 34 i (by decide)), fr_l_fills_2 _ _ _ 11 0 (by decide)]; exact hU) (by rw [dl_congr (fun i => fr_l_fills_2 _ _ _ 28 i (by decide)), fr_l_fills_2 _ _ _ 11 0 (by decide), fr_l_fills_2 _ _ _ 9 0 (by decide)]; exact hJ) (by omega) (by show ((l_fills_2 (((v 6 0) - 0).toNat + 1) 0 v) 5 0) ≤ 30; omega)).mono (by omega) (by omega) (by omega) (by omega)
theorem fr_fills {v : Vw} (fk : Nat) (fi : Int) (hk : fk ≠ 9 ∧ fk ≠ 10 ∧ fk ≠ 11 ∧ fk ≠ 15 ∧ fk ≠ 18 ∧ fk ≠ 28 ∧ fk ≠ 31 ∧ fk ≠ 34 ∧ fk ≠ 35 ∧ fk ≠ 38 ∧ fk ≠ 44 ∧ fk ≠ 45 ∧ fk ≠ 46) : (f_fills v) fk fi = v fk fi := by
  rw [f_fills]
  exact (fr_l_fills_40 (((v 6 0) - 0).toNat + 1) 0 (l_fills_2 (((v 6 0) - 0).toNat + 1) 0 v) fk fi (by omega)).trans ((fr_l_fills_2 (((v 6 0) - 0).toNat + 1) 0 v fk fi (by omega)).trans rfl)
