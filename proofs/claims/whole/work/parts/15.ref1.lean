/-! the reference, method by method: what it computes as a function of its fields, its contract, its ranges (written by wip/whole/mk15.py out of the decode rows) -/
def f_thrown (v : Vw) : Int :=
  (v 0 0)
theorem s_X11_thrown {X : Cx} {σ : Hp} {m0 : Nat} {v : Vw} {T E : Int} (hG : GM σ m0) (hI : IM v T E) : Ct X m_X11_thrown 1 [va_rf (some m0)] (Hm σ m0 v) (.inl (some (.int (i32 (f_thrown v))))) (Hm σ m0 v) := by
  have hT := hI.1
  refine Ct.of (by decide +kernel) rfl (Nat.le_of_ble_eq_true rfl) (by simp [Value.category, va_rf]) ?_
  refine Ev.aload_n (i := 0) dX11_thrown_0 rfl rfl ?_
  have q1 : 0 ≤ v 0 0 ∧ v 0 0 ≤ 4 := hI.2 0 0
  refine Ex.gS (k := 0) (v 0 0) rfl hG (by decide) (tb6 (i := 210) rfl) rfl rfl dX11_thrown_1 ?_
  exact Ev.iretE rfl nar_i dX11_thrown_4 (by rw [f_thrown]; try rfl) (by first | rfl | (rw [f_thrown]; try rfl))
def f_fails (c : Int) (v : Vw) : Int × Vw :=
  (0, (upv v 0 0 c))
theorem s_X11_fails {X : Cx} {σ : Hp} {m0 : Nat} {v : Vw} {T E : Int} {c : Int} (hG : GM σ m0) (hI : IM v T E) (hc : 0 ≤ c ∧ c ≤ 4) : Ct X m_X11_fails 1 [va_rf (some m0), .int (i32 c)] (Hm σ m0 v) (.inl (some (.int (i32 (f_fails c v).1)))) (Hm σ m0 (f_fails c v).2) := by
  have hT := hI.1
  refine Ct.of (by decide +kernel) rfl (Nat.le_of_ble_eq_true rfl) (by simp [Value.category, va_rf]) ?_
  refine Ev.aload_n (i := 0) dX11_fails_0 rfl rfl ?_
  refine Ev.iload_n (i := 1) dX11_fails_1 rfl rfl ?_
  refine Em.pS (k := 0) hG (by decide) (tb6 (i := 210) rfl) rfl rfl rfl rfl dX11_fails_2 ?_
  refine Ei.const dX11_fails_5 ?_
  exact Ev.iretE rfl nar_i dX11_fails_6 (by rw [f_fails]; try rfl) (by first | rfl | (rw [f_fails]; try rfl))
theorem i_fails {v : Vw} {T E : Int} {c : Int} (hI : IM v T E) (hc : 0 ≤ c ∧ c ≤ 4) : IM (f_fails c v).2 T (E) := by
  have hT := hI.1
  rw [f_fails]
  exact (hI.up 0 0 c (by show 0 ≤ c ∧ c ≤ 4; omega))
theorem fr_fails {c : Int} {v : Vw} (fk : Nat) (fi : Int) (hk : fk ≠ 0) : (f_fails c v).2 fk fi = v fk fi := by
  rw [f_fails]
  exact ((upv_nk (by omega)).trans rfl)
def f_in (x a b : Int) : Int :=
  if x < a then
    0
  else
    if b < x then
      0
    else
      1
theorem s_X11_in {X : Cx} {σ : Hp} {x a b : Int} (hx : -2147483648 ≤ x ∧ x < 2147483648) (ha : -2147483648 ≤ a ∧ a < 2147483648) (hb : -2147483648 ≤ b ∧ b < 2147483648) : Ct X m_X11_in 1 [.int (i32 x), .int (i32 a), .int (i32 b)] σ (.inl (some (.int (i32 (f_in x a b))))) σ := by
  refine Ct.of (by decide +kernel) rfl (Nat.le_of_ble_eq_true rfl) (by simp [Value.category, va_rf]) ?_
  refine Ev.iload_n (i := 0) dX11_in_0 rfl rfl ?_
  refine Ev.iload_n (i := 1) dX11_in_1 rfl rfl ?_
  refine Ei.icmp_lt (tgt := 14) dX11_in_2 (by decide) ⟨by omega, by omega⟩ ⟨by omega, by omega⟩ (fun c1 => ?_) (fun c1 => ?_)
  · refine Ei.const dX11_in_14 ?_
    exact Ev.iretE rfl (nar_b (by omega)) dX11_in_15 (by rw [f_in, if_pos c1]; try rfl) (by first | rfl | (rw [f_in, if_pos c1]; try rfl))
  · refine Ev.iload_n (i := 0) dX11_in_5 rfl rfl ?_
    refine Ev.iload_n (i := 2) dX11_in_6 rfl rfl ?_
    refine Ei.icmp_gt (tgt := 14) dX11_in_7 (by decide) ⟨by omega, by omega⟩ ⟨by omega, by omega⟩ (fun c2 => ?_) (fun c2 => ?_)
    · refine Ei.const dX11_in_14 ?_
      exact Ev.iretE rfl (nar_b (by omega)) dX11_in_15 (by rw [f_in, if_neg c1, if_pos c2]; try rfl) (by first | rfl | (rw [f_in, if_neg c1, if_pos c2]; try rfl))
    · refine Ei.const dX11_in_10 ?_
      refine Ev.goto (tgt := 15) dX11_in_11 (by decide) ?_
      exact Ev.iretE rfl (nar_b (by omega)) dX11_in_15 (by rw [f_in, if_neg c1, if_neg c2]; try rfl) (by first | rfl | (rw [f_in, if_neg c1, if_neg c2]; try rfl))
theorem c_in (x a b : Int) : (f_in x a b = 1 ∧ a ≤ x ∧ x ≤ b) ∨ (f_in x a b = 0 ∧ ¬ (a ≤ x ∧ x ≤ b)) := by
  unfold f_in
  repeat' split
  all_goals omega
theorem r_in {x a b : Int} : 0 ≤ f_in x a b ∧ f_in x a b ≤ 1 := by
  have := c_in x a b
  omega
def f_isRecipe (x : Int) (v : Vw) : Int :=
  (f_in x 0 ((v 1 0) - 1))
theorem s_X11_isRecipe {X : Cx} {σ : Hp} {m0 : Nat} {v : Vw} {T E : Int} {x : Int} (hG : GM σ m0) (hI : IM v T E) (hx : -2147483648 ≤ x ∧ x < 2147483648) : Ct X m_X11_isRecipe 2 [va_rf (some m0), .int (i32 x)] (Hm σ m0 v) (.inl (some (.int (i32 (f_isRecipe x v))))) (Hm σ m0 v) := by
  have hT := hI.1
  refine Ct.of (by decide +kernel) rfl (Nat.le_of_ble_eq_true rfl) (by simp [Value.category, va_rf]) ?_
  refine Ev.iload_n (i := 1) dX11_isRecipe_0 rfl rfl ?_
  refine Ei.const dX11_isRecipe_1 ?_
  refine Ev.aload_n (i := 0) dX11_isRecipe_2 rfl rfl ?_
  have q1 : 0 ≤ v 1 0 ∧ v 1 0 ≤ 5 := hI.2 1 0
  refine Ex.gS (k := 1) (v 1 0) rfl hG (by decide) (tb6 (i := 211) rfl) rfl rfl dX11_isRecipe_3 ?_
  refine Ei.const dX11_isRecipe_6 ?_
  refine Ei.sub dX11_isRecipe_7 ?_
  refine Ev.cs1 (As := [_, _, _]) k_X11_in (tb7 (i := 122) rfl) ki_X11_in dX11_isRecipe_8 rfl rfl (Nat.le_of_ble_eq_true rfl) (by decide) (s_X11_in (x := x) (a := 0) (b := ((v 1 0) - 1))  (by show -2147483648 ≤ x ∧ x < 2147483648; omega) (by show -2147483648 ≤ 0 ∧ 0 < 2147483648; omega) (by show -2147483648 ≤ ((v 1 0) - 1) ∧ ((v 1 0) - 1) < 2147483648; omega)) ?_
  have q2 : 0 ≤ (f_in x 0 ((v 1 0) - 1)) ∧ (f_in x 0 ((v 1 0) - 1)) ≤ 1 := r_in
  have q3 := c_in x 0 ((v 1 0) - 1)
  exact Ev.iretE rfl (nar_b (by omega)) dX11_isRecipe_11 (by rw [f_isRecipe]; try rfl) (by first | rfl | (rw [f_isRecipe]; try rfl))
theorem c_isRecipe (x : Int) (v : Vw) : (f_isRecipe x v = 1 ∧ 0 ≤ x ∧ x < v 1 0) ∨ (f_isRecipe x v = 0 ∧ ¬ (0 ≤ x ∧ x < v 1 0)) := by
  have := c_in x 0 (v 1 0 - 1)
  unfold f_isRecipe
  omega
theorem r_isRecipe {x : Int} {v : Vw} : 0 ≤ f_isRecipe x v ∧ f_isRecipe x v ≤ 1 := by
  have := c_isRecipe x v
  omega
def f_isVessel (x : Int) (v : Vw) : Int :=
  (f_in x 0 ((v 2 0) - 1))
theorem s_X11_isVessel {X : Cx} {σ : Hp} {m0 : Nat} {v : Vw} {T E : Int} {x : Int} (hG : GM σ m0) (hI : IM v T E) (hx : -2147483648 ≤ x ∧ x < 2147483648) : Ct X m_X11_isVessel 2 [va_rf (some m0), .int (i32 x)] (Hm σ m0 v) (.inl (some (.int (i32 (f_isVessel x v))))) (Hm σ m0 v) := by
  have hT := hI.1
  refine Ct.of (by decide +kernel) rfl (Nat.le_of_ble_eq_true rfl) (by simp [Value.category, va_rf]) ?_
  refine Ev.iload_n (i := 1) dX11_isVessel_0 rfl rfl ?_
  refine Ei.const dX11_isVessel_1 ?_
  refine Ev.aload_n (i := 0) dX11_isVessel_2 rfl rfl ?_
  have q1 : 0 ≤ v 2 0 ∧ v 2 0 ≤ 8 := hI.2 2 0
  refine Ex.gS (k := 2) (v 2 0) rfl hG (by decide) (tb6 (i := 212) rfl) rfl rfl dX11_isVessel_3 ?_
  refine Ei.const dX11_isVessel_6 ?_
  refine Ei.sub dX11_isVessel_7 ?_
  refine Ev.cs1 (As := [_, _, _]) k_X11_in (tb7 (i := 122) rfl) ki_X11_in dX11_isVessel_8 rfl rfl (Nat.le_of_ble_eq_true rfl) (by decide) (s_X11_in (x := x) (a := 0) (b := ((v 2 0) - 1))  (by show -2147483648 ≤ x ∧ x < 2147483648; omega) (by show -2147483648 ≤ 0 ∧ 0 < 2147483648; omega) (by show -2147483648 ≤ ((v 2 0) - 1) ∧ ((v 2 0) - 1) < 2147483648; omega)) ?_
  have q2 : 0 ≤ (f_in x 0 ((v 2 0) - 1)) ∧ (f_in x 0 ((v 2 0) - 1)) ≤ 1 := r_in
  have q3 := c_in x 0 ((v 2 0) - 1)
  exact Ev.iretE rfl (nar_b (by omega)) dX11_isVessel_11 (by rw [f_isVessel]; try rfl) (by first | rfl | (rw [f_isVessel]; try rfl))
theorem c_isVessel (x : Int) (v : Vw) : (f_isVessel x v = 1 ∧ 0 ≤ x ∧ x < v 2 0) ∨ (f_isVessel x v = 0 ∧ ¬ (0 ≤ x ∧ x < v 2 0)) := by
  have := c_in x 0 (v 2 0 - 1)
  unfold f_isVessel
  omega
theorem r_isVessel {x : Int} {v : Vw} : 0 ≤ f_isVessel x v ∧ f_isVessel x v ≤ 1 := by
  have := c_isVessel x v
  omega
def f_isBrew (x : Int) (v : Vw) : Int :=
  (f_in x 0 ((v 5 0) - 1))
theorem s_X11_isBrew {X : Cx} {σ : Hp} {m0 : Nat} {v : Vw} {T E : Int} {x : Int} (hG : GM σ m0) (hI : IM v T E) (hx : -2147483648 ≤ x ∧ x < 2147483648) : Ct X m_X11_isBrew 2 [va_rf (some m0), .int (i32 x)] (Hm σ m0 v) (.inl (some (.int (i32 (f_isBrew x v))))) (Hm σ m0 v) := by
  have hT := hI.1
  refine Ct.of (by decide +kernel) rfl (Nat.le_of_ble_eq_true rfl) (by simp [Value.category, va_rf]) ?_
  refine Ev.iload_n (i := 1) dX11_isBrew_0 rfl rfl ?_
  refine Ei.const dX11_isBrew_1 ?_
  refine Ev.aload_n (i := 0) dX11_isBrew_2 rfl rfl ?_
  have q1 : 0 ≤ v 5 0 ∧ v 5 0 ≤ 30 := hI.2 5 0
  refine Ex.gS (k := 5) (v 5 0) rfl hG (by decide) (tb6 (i := 215) rfl) rfl rfl dX11_isBrew_3 ?_
  refine Ei.const dX11_isBrew_6 ?_
  refine Ei.sub dX11_isBrew_7 ?_
  refine Ev.cs1 (As := [_, _, _]) k_X11_in (tb7 (i := 122) rfl) ki_X11_in dX11_isBrew_8 rfl rfl (Nat.le_of_ble_eq_true rfl) (by decide) (s_X11_in (x := x) (a := 0) (b := ((v 5 0) - 1))  (by show -2147483648 ≤ x ∧ x < 2147483648; omega) (by show -2147483648 ≤ 0 ∧ 0 < 2147483648; omega) (by show -2147483648 ≤ ((v 5 0) - 1) ∧ ((v 5 0) - 1) < 2147483648; omega)) ?_
  have q2 : 0 ≤ (f_in x 0 ((v 5 0) - 1)) ∧ (f_in x 0 ((v 5 0) - 1)) ≤ 1 := r_in
  have q3 := c_in x 0 ((v 5 0) - 1)
  exact Ev.iretE rfl (nar_b (by omega)) dX11_isBrew_11 (by rw [f_isBrew]; try rfl) (by first | rfl | (rw [f_isBrew]; try rfl))
theorem c_isBrew (x : Int) (v : Vw) : (f_isBrew x v = 1 ∧ 0 ≤ x ∧ x < v 5 0) ∨ (f_isBrew x v = 0 ∧ ¬ (0 ≤ x ∧ x < v 5 0)) := by
  have := c_in x 0 (v 5 0 - 1)
  unfold f_isBrew
  omega
theorem r_isBrew {x : Int} {v : Vw} : 0 ≤ f_isBrew x v ∧ f_isBrew x v ≤ 1 := by
  have := c_isBrew x v
  omega
def f_isOrder (x : Int) (v : Vw) : Int :=
  (f_in x 0 ((v 6 0) - 1))
theorem s_X11_isOrder {X : Cx} {σ : Hp} {m0 : Nat} {v : Vw} {T E : Int} {x : Int} (hG : GM σ m0) (hI : IM v T E) (hx : -2147483648 ≤ x ∧ x < 2147483648) : Ct X m_X11_isOrder 2 [va_rf (some m0), .int (i32 x)] (Hm σ m0 v) (.inl (some (.int (i32 (f_isOrder x v))))) (Hm σ m0 v) := by
  have hT := hI.1
  refine Ct.of (by decide +kernel) rfl (Nat.le_of_ble_eq_true rfl) (by simp [Value.category, va_rf]) ?_
  refine Ev.iload_n (i := 1) dX11_isOrder_0 rfl rfl ?_
  refine Ei.const dX11_isOrder_1 ?_
  refine Ev.aload_n (i := 0) dX11_isOrder_2 rfl rfl ?_
  have q1 : 0 ≤ v 6 0 ∧ v 6 0 ≤ 20 := hI.2 6 0
  refine Ex.gS (k := 6) (v 6 0) rfl hG (by decide) (tb6 (i := 216) rfl) rfl rfl dX11_isOrder_3 ?_
  refine Ei.const dX11_isOrder_6 ?_
  refine Ei.sub dX11_isOrder_7 ?_
  refine Ev.cs1 (As := [_, _, _]) k_X11_in (tb7 (i := 122) rfl) ki_X11_in dX11_isOrder_8 rfl rfl (Nat.le_of_ble_eq_true rfl) (by decide) (s_X11_in (x := x) (a := 0) (b := ((v 6 0) - 1))  (by show -2147483648 ≤ x ∧ x < 2147483648; omega) (by show -2147483648 ≤ 0 ∧ 0 < 2147483648; omega) (by show -2147483648 ≤ ((v 6 0) - 1) ∧ ((v 6 0) - 1) < 2147483648; omega)) ?_
  have q2 : 0 ≤ (f_in x 0 ((v 6 0) - 1)) ∧ (f_in x 0 ((v 6 0) - 1)) ≤ 1 := r_in
  have q3 := c_in x 0 ((v 6 0) - 1)
  exact Ev.iretE rfl (nar_b (by omega)) dX11_isOrder_11 (by rw [f_isOrder]; try rfl) (by first | rfl | (rw [f_isOrder]; try rfl))
theorem c_isOrder (x : Int) (v : Vw) : (f_isOrder x v = 1 ∧ 0 ≤ x ∧ x < v 6 0) ∨ (f_isOrder x v = 0 ∧ ¬ (0 ≤ x ∧ x < v 6 0)) := by
  have := c_in x 0 (v 6 0 - 1)
  unfold f_isOrder
  omega
theorem r_isOrder {x : Int} {v : Vw} : 0 ≤ f_isOrder x v ∧ f_isOrder x v ≤ 1 := by
  have := c_isOrder x v
  omega
def f_addRecipe (a b c : Int) (v : Vw) : Int × Vw :=
  if (f_in a 0 3) = 0 then
    ((f_fails 1 v).1, (f_fails 1 v).2)
  else
    if (f_in b 1 14) = 0 then
      ((f_fails 1 v).1, (f_fails 1 v).2)
    else
      if (f_in c 0 14) = 0 then
        ((f_fails 1 v).1, (f_fails 1 v).2)
      else
        if (v 1 0) = 5 then
          ((f_fails 2 v).1, (f_fails 2 v).2)
        else
          ((((v 1 0) + 1) - 1), (upv (upv (upv (upv (upv v 0 0 0) 12 (v 1 0) a) 13 (v 1 0) b) 14 (v 1 0) c) 1 0 ((v 1 0) + 1)))
theorem s_X11_addRecipe {X : Cx} {σ : Hp} {m0 : Nat} {v : Vw} {T E : Int} {a b c : Int} (hG : GM σ m0) (hI : IM v T E) (ha : -2147483648 ≤ a ∧ a < 2147483648) (hb : -2147483648 ≤ b ∧ b < 2147483648) (hc : -2147483648 ≤ c ∧ c < 2147483648) : Ct X m_X11_addRecipe 2 [va_rf (some m0), .int (i32 a), .int (i32 b), .int (i32 c)] (Hm σ m0 v) (.inl (some (.int (i32 (f_addRecipe a b c v).1)))) (Hm σ m0 (f_addRecipe a b c v).2) := by
  have hT := hI.1
  refine Ct.of (by decide +kernel) rfl (Nat.le_of_ble_eq_true rfl) (by simp [Value.category, va_rf]) ?_
  refine Ev.iload_n (i := 1) dX11_addRecipe_0 rfl rfl ?_
  refine Ei.const dX11_addRecipe_1 ?_
  refine Ei.const dX11_addRecipe_2 ?_
  refine Ev.cs1 (As := [_, _, _]) k_X11_in (tb7 (i := 122) rfl) ki_X11_in dX11_addRecipe_3 rfl rfl (Nat.le_of_ble_eq_true rfl) (by decide) (s_X11_in (x := a) (a := 0) (b := 3)  (by show -2147483648 ≤ a ∧ a < 2147483648; omega) (by show -2147483648 ≤ 0 ∧ 0 < 2147483648; omega) (by show -2147483648 ≤ 3 ∧ 3 < 2147483648; omega)) ?_
  have q1 : 0 ≤ (f_in a 0 3) ∧ (f_in a 0 3) ≤ 1 := r_in
  have q2 := c_in a 0 3
  refine Ei.if_eq (tgt := 29) dX11_addRecipe_6 (by decide) ⟨by omega, by omega⟩ (fun c3 => ?_) (fun c3 => ?_)
  · refine Ev.aload_n (i := 0) dX11_addRecipe_29 rfl rfl ?_
    refine Ei.const dX11_addRecipe_30 ?_
    refine Em.cv1 (As := [_]) hG k_X11_fails (tb7 (i := 125) rfl) ki_X11_fails kv_X11_fails dX11_addRecipe_31 rfl rfl (Nat.le_of_ble_eq_true rfl) (by decide) (s_X11_fails (c := 1) hG hI (by show 0 ≤ 1 ∧ 1 ≤ 4; omega)) ?_
    have hJ4 := (i_fails (c := 1) hI (by show 0 ≤ 1 ∧ 1 ≤ 4; omega))
    exact Ev.iretE rfl nar_i dX11_addRecipe_34 (by rw [f_addRecipe, if_pos c3]; try rfl) (by first | rfl | (rw [f_addRecipe, if_pos c3]; try rfl))
  · refine Ev.iload_n (i := 2) dX11_addRecipe_9 rfl rfl ?_
    refine Ei.const dX11_addRecipe_10 ?_
    refine Ev.bipush (v := i32 14) dX11_addRecipe_11 (by decide) ?_
    refine Ev.cs1 (As := [_, _, _]) k_X11_in (tb7 (i := 122) rfl) ki_X11_in dX11_addRecipe_13 rfl rfl (Nat.le_of_ble_eq_true rfl) (by decide) (s_X11_in (x := b) (a := 1) (b := 14)  (by show -2147483648 ≤ b ∧ b < 2147483648; omega) (by show -2147483648 ≤ 1 ∧ 1 < 2147483648; omega) (by show -2147483648 ≤ 14 ∧ 14 < 2147483648; omega)) ?_
    have q5 : 0 ≤ (f_in b 1 14) ∧ (f_in b 1 14) ≤ 1 := r_in
    have q6 := c_in b 1 14
    refine Ei.if_eq (tgt := 29) dX11_addRecipe_16 (by decide) ⟨by omega, by omega⟩ (fun c7 => ?_) (fun c7 => ?_)
    · refine Ev.aload_n (i := 0) dX11_addRecipe_29 rfl rfl ?_
      refine Ei.const dX11_addRecipe_30 ?_
      refine Em.cv1 (As := [_]) hG k_X11_fails (tb7 (i := 125) rfl) ki_X11_fails kv_X11_fails dX11_addRecipe_31 rfl rfl (Nat.le_of_ble_eq_true rfl) (by decide) (s_X11_fails (c := 1) hG hI (by show 0 ≤ 1 ∧ 1 ≤ 4; omega)) ?_
      have hJ8 := (i_fails (c := 1) hI (by show 0 ≤ 1 ∧ 1 ≤ 4; omega))
      exact Ev.iretE rfl nar_i dX11_addRecipe_34 (by rw [f_addRecipe, if_neg c3, if_pos c7]; try rfl) (by first | rfl | (rw [f_addRecipe, if_neg c3, if_pos c7]; try rfl))
    · refine Ev.iload_n (i := 3) dX11_addRecipe_19 rfl rfl ?_
      refine Ei.const dX11_addRecipe_20 ?_
      refine Ev.bipush (v := i32 14) dX11_addRecipe_21 (by decide) ?_
      refine Ev.cs1 (As := [_, _, _]) k_X11_in (tb7 (i := 122) rfl) ki_X11_in dX11_addRecipe_23 rfl rfl (Nat.le_of_ble_eq_true rfl) (by decide) (s_X11_in (x := c) (a := 0) (b := 14)  (by show -2147483648 ≤ c ∧ c < 2147483648; omega) (by show -2147483648 ≤ 0 ∧ 0 < 2147483648; omega) (by show -2147483648 ≤ 14 ∧ 14 < 2147483648; omega)) ?_
      have q9 : 0 ≤ (f_in c 0 14) ∧ (f_in c 0 14) ≤ 1 := r_in
      have q10 := c_in c 0 14
      refine Ex.if_ne (tgt := 35) dX11_addRecipe_26 (by decide) ⟨by omega, by omega⟩ (fun c11 => ?_) (fun c11 => ?_)
      · refine Ev.aload_n (i := 0) dX11_addRecipe_29 rfl rfl ?_
        refine Ei.const dX11_addRecipe_30 ?_
        refine Em.cv1 (As := [_]) hG k_X11_fails (tb7 (i := 125) rfl) ki_X11_fails kv_X11_fails dX11_addRecipe_31 rfl rfl (Nat.le_of_ble_eq_true rfl) (by decide) (s_X11_fails (c := 1) hG hI (by show 0 ≤ 1 ∧ 1 ≤ 4; omega)) ?_
        have hJ12 := (i_fails (c := 1) hI (by show 0 ≤ 1 ∧ 1 ≤ 4; omega))
        exact Ev.iretE rfl nar_i dX11_addRecipe_34 (by rw [f_addRecipe, if_neg c3, if_neg c7, if_pos c11]; try rfl) (by first | rfl | (rw [f_addRecipe, if_neg c3, if_neg c7, if_pos c11]; try rfl))
      · refine Ev.aload_n (i := 0) dX11_addRecipe_35 rfl rfl ?_
        have q13 : 0 ≤ v 1 0 ∧ v 1 0 ≤ 5 := hI.2 1 0
        refine Ex.gS (k := 1) (v 1 0) rfl hG (by decide) (tb6 (i := 211) rfl) rfl rfl dX11_addRecipe_36 ?_
        refine Ei.const dX11_addRecipe_39 ?_
        refine Ex.icmp_ne (tgt := 49) dX11_addRecipe_40 (by decide) ⟨by omega, by omega⟩ ⟨by omega, by omega⟩ (fun c14 => ?_) (fun c14 => ?_)
        · refine Ev.aload_n (i := 0) dX11_addRecipe_43 rfl rfl ?_
          refine Ei.const dX11_addRecipe_44 ?_
          refine Em.cv1 (As := [_]) hG k_X11_fails (tb7 (i := 125) rfl) ki_X11_fails kv_X11_fails dX11_addRecipe_45 rfl rfl (Nat.le_of_ble_eq_true rfl) (by decide) (s_X11_fails (c := 2) hG hI (by show 0 ≤ 2 ∧ 2 ≤ 4; omega)) ?_
          have hJ15 := (i_fails (c := 2) hI (by show 0 ≤ 2 ∧ 2 ≤ 4; omega))
          exact Ev.iretE rfl nar_i dX11_addRecipe_48 (by rw [f_addRecipe, if_neg c3, if_neg c7, if_neg c11, if_pos c14]; try rfl) (by first | rfl | (rw [f_addRecipe, if_neg c3, if_neg c7, if_neg c11, if_pos c14]; try rfl))
        · refine Ev.aload_n (i := 0) dX11_addRecipe_49 rfl rfl ?_
          refine Ei.const dX11_addRecipe_50 ?_
          refine Em.pS (k := 0) hG (by decide) (tb6 (i := 210) rfl) rfl rfl rfl rfl dX11_addRecipe_51 ?_
          refine Ev.aload_n (i := 0) dX11_addRecipe_54 rfl rfl ?_
          refine Em.gA (k := 12) hG (by decide) (by decide) (tb6 (i := 222) rfl) rfl rfl dX11_addRecipe_55 ?_
          refine Ev.aload_n (i := 0) dX11_addRecipe_58 rfl rfl ?_
          refine Ex.gS (k := 1) (v 1 0) rfl hG (by decide) (tb6 (i := 211) rfl) rfl rfl dX11_addRecipe_59 ?_
          refine Ev.iload_n (i := 1) dX11_addRecipe_62 rfl rfl ?_
          refine Em.iast (k := 12) hG (by decide) (by decide) rfl (by omega) (by show _ < ((5 : Nat) : Int); omega) (by decide) dX11_addRecipe_63 ?_
          refine Ev.aload_n (i := 0) dX11_addRecipe_64 rfl rfl ?_
          refine Em.gA (k := 13) hG (by decide) (by decide) (tb6 (i := 223) rfl) rfl rfl dX11_addRecipe_65 ?_
          refine Ev.aload_n (i := 0) dX11_addRecipe_68 rfl rfl ?_
          refine Ex.gS (k := 1) (v 1 0) rfl hG (by decide) (tb6 (i := 211) rfl) rfl rfl dX11_addRecipe_69 ?_
          refine Ev.iload_n (i := 2) dX11_addRecipe_72 rfl rfl ?_
          refine Em.iast (k := 13) hG (by decide) (by decide) rfl (by omega) (by show _ < ((5 : Nat) : Int); omega) (by decide) dX11_addRecipe_73 ?_
          refine Ev.aload_n (i := 0) dX11_addRecipe_74 rfl rfl ?_
          refine Em.gA (k := 14) hG (by decide) (by decide) (tb6 (i := 224) rfl) rfl rfl dX11_addRecipe_75 ?_
          refine Ev.aload_n (i := 0) dX11_addRecipe_78 rfl rfl ?_
          refine Ex.gS (k := 1) (v 1 0) rfl hG (by decide) (tb6 (i := 211) rfl) rfl rfl dX11_addRecipe_79 ?_
          refine Ev.iload_n (i := 3) dX11_addRecipe_82 rfl rfl ?_
          refine Em.iast (k := 14) hG (by decide) (by decide) rfl (by omega) (by show _ < ((5 : Nat) : Int); omega) (by decide) dX11_addRecipe_83 ?_
          refine Ev.aload_n (i := 0) dX11_addRecipe_84 rfl rfl ?_
          refine Ev.dup dX11_addRecipe_85 rfl ?_
          refine Ex.gS (k := 1) (v 1 0) rfl hG (by decide) (tb6 (i := 211) rfl) rfl rfl dX11_addRecipe_86 ?_
          refine Ei.const dX11_addRecipe_89 ?_
          refine Ei.add dX11_addRecipe_90 ?_
          refine Em.pS (k := 1) hG (by decide) (tb6 (i := 211) rfl) rfl rfl rfl rfl dX11_addRecipe_91 ?_
          refine Ev.aload_n (i := 0) dX11_addRecipe_94 rfl rfl ?_
          refine Ex.gS (k := 1) (((v 1 0) + 1)) rfl hG (by decide) (tb6 (i := 211) rfl) rfl rfl dX11_addRecipe_95 ?_
          refine Ei.const dX11_addRecipe_98 ?_
          refine Ei.sub dX11_addRecipe_99 ?_
          exact Ev.iretE rfl nar_i dX11_addRecipe_100 (by rw [f_addRecipe, if_neg c3, if_neg c7, if_neg c11, if_neg c14]; try rfl) (by first | rfl | (rw [f_addRecipe, if_neg c3, if_neg c7, if_neg c11, if_neg c14]; try rfl))
theorem i_addRecipe {v : Vw} {T E : Int} {a b c : Int} (hI : IM v T E) (ha : -2147483648 ≤ a ∧ a < 2147483648) (hb : -2147483648 ≤ b ∧ b < 2147483648) (hc : -2147483648 ≤ c ∧ c < 2147483648) : IM (f_addRecipe a b c v).2 T (E) := by
  have hT := hI.1
  have q1 : 0 ≤ (f_in a 0 3) ∧ (f_in a 0 3) ≤ 1 := r_in
  have q2 := c_in a 0 3
  by_cases c3 : (f_in a 0 3) = 0
  · have hJ4 := (i_fails (c := 1) hI (by show 0 ≤ 1 ∧ 1 ≤ 4; omega))
    rw [f_addRecipe, if_pos c3]
    exact hJ4
  · have q5 : 0 ≤ (f_in b 1 14) ∧ (f_in b 1 14) ≤ 1 := r_in
    have q6 := c_in b 1 14
    by_cases c7 : (f_in b 1 14) = 0
    · have hJ8 := (i_fails (c := 1) hI (by show 0 ≤ 1 ∧ 1 ≤ 4; omega))
      rw [f_addRecipe, if_neg c3, if_pos c7]
      exact hJ8
    · have q9 : 0 ≤ (f_in c 0 14) ∧ (f_in c 0 14) ≤ 1 := r_in
      have q10 := c_in c 0 14
      by_cases c11 : (f_in c 0 14) = 0
      · have hJ12 := (i_fails (c := 1) hI (by show 0 ≤ 1 ∧ 1 ≤ 4; omega))
        rw [f_addRecipe, if_neg c3, if_neg c7, if_pos c11]
        exact hJ12
      · have q13 : 0 ≤ v 1 0 ∧ v 1 0 ≤ 5 := hI.2 1 0
        by_cases c14 : (v 1 0) = 5
        · have hJ15 := (i_fails (c := 2) hI (by show 0 ≤ 2 ∧ 2 ≤ 4; omega))
          rw [f_addRecipe, if_neg c3, if_neg c7, if_neg c11, if_pos c14]
          exact hJ15
        · rw [f_addRecipe, if_neg c3, if_neg c7, if_neg c11, if_neg c14]
          exact (((((hI.up 0 0 0 (by show 0 ≤ 0 ∧ 0 ≤ 4; omega)).up 12 (v 1 0) a (by show 0 ≤ a ∧ a ≤ 3; omega)).up 13 (v 1 0) b (by show 0 ≤ b ∧ b ≤ 14; omega)).up 14 (v 1 0) c (by show 0 ≤ c ∧ c ≤ 14; omega)).up 1 0 ((v 1 0) + 1) (by show 0 ≤ ((v 1 0) + 1) ∧ ((v 1 0) + 1) ≤ 5; omega))
theorem fr_addRecipe {a b c : Int} {v : Vw} (fk : Nat) (fi : Int) (hk : fk ≠ 0 ∧ fk ≠ 1 ∧ fk ≠ 12 ∧ fk ≠ 13 ∧ fk ≠ 14) : (f_addRecipe a b c v).2 fk fi = v fk fi := by
  by_cases c3 : (f_in a 0 3) = 0
  · rw [f_addRecipe, if_pos c3]
    exact ((fr_fails (c := 1) (v := v) fk fi (by omega)).trans rfl)
  · by_cases c7 : (f_in b 1 14) = 0
    · rw [f_addRecipe, if_neg c3, if_pos c7]
      exact ((fr_fails (c := 1) (v := v) fk fi (by omega)).trans rfl)
    · by_cases c11 : (f_in c 0 14) = 0
      · rw [f_addRecipe, if_neg c3, if_neg c7, if_pos c11]
        exact ((fr_fails (c := 1) (v := v) fk fi (by omega)).trans rfl)
      · by_cases c14 : (v 1 0) = 5
        · rw [f_addRecipe, if_neg c3, if_neg c7, if_neg c11, if_pos c14]
          exact ((fr_fails (c := 2) (v := v) fk fi (by omega)).trans rfl)
        · rw [f_addRecipe, if_neg c3, if_neg c7, if_neg c11, if_neg c14]
          exact ((upv_nk (by omega)).trans ((upv_nk (by omega)).trans ((upv_nk (by omega)).trans ((upv_nk (by omega)).trans ((upv_nk (by omega)).trans rfl)))))
def f_addVessel (a : Int) (v : Vw) : Int × Vw :=
  if a = 102 then
    if (v 2 0) = 8 then
      ((f_fails 2 v).1, (f_fails 2 v).2)
    else
      if a = 116 then
        ((((v 2 0) + 1) - 1), (upv (upv (upv (upv v 0 0 0) 20 (v 2 0) 1) 19 (v 2 0) (-1)) 2 0 ((v 2 0) + 1)))
      else
        ((((v 2 0) + 1) - 1), (upv (upv (upv (upv v 0 0 0) 20 (v 2 0) 0) 19 (v 2 0) (-1)) 2 0 ((v 2 0) + 1)))
  else
    if a = 116 then
      if (v 2 0) = 8 then
        ((f_fails 2 v).1, (f_fails 2 v).2)
      else
        ((((v 2 0) + 1) - 1), (upv (upv (upv (upv v 0 0 0) 20 (v 2 0) 1) 19 (v 2 0) (-1)) 2 0 ((v 2 0) + 1)))
    else
      ((f_fails 1 v).1, (f_fails 1 v).2)
theorem s_X11_addVessel {X : Cx} {σ : Hp} {m0 : Nat} {v : Vw} {T E : Int} {a : Int} (hG : GM σ m0) (hI : IM v T E) (ha : -2147483648 ≤ a ∧ a < 2147483648) : Ct X m_X11_addVessel 2 [va_rf (some m0), .int (i32 a)] (Hm σ m0 v) (.inl (some (.int (i32 (f_addVessel a v).1)))) (Hm σ m0 (f_addVessel a v).2) := by
  have hT := hI.1
  refine Ct.of (by decide +kernel) rfl (Nat.le_of_ble_eq_true rfl) (by simp [Value.category, va_rf]) ?_
  refine Ev.iload_n (i := 1) dX11_addVessel_0 rfl rfl ?_
  refine Ev.bipush (v := i32 102) dX11_addVessel_1 (by decide) ?_
  refine Ei.icmp_eq (tgt := 18) dX11_addVessel_3 (by decide) ⟨by omega, by omega⟩ ⟨by omega, by omega⟩ (fun c1 => ?_) (fun c1 => ?_)
  · refine Ev.aload_n (i := 0) dX11_addVessel_18 rfl rfl ?_
    have q2 : 0 ≤ v 2 0 ∧ v 2 0 ≤ 8 := hI.2 2 0
    refine Ex.gS (k := 2) (v 2 0) rfl hG (by decide) (tb6 (i := 212) rfl) rfl rfl dX11_addVessel_19 ?_
    refine Ev.bipush (v := i32 8) dX11_addVessel_22 (by decide) ?_
    refine Ex.icmp_ne (tgt := 33) dX11_addVessel_24 (by decide) ⟨by omega, by omega⟩ ⟨by omega, by omega⟩ (fun c3 => ?_) (fun c3 => ?_)
    · refine Ev.aload_n (i := 0) dX11_addVessel_27 rfl rfl ?_
      refine Ei.const dX11_addVessel_28 ?_
      refine Em.cv1 (As := [_]) hG k_X11_fails (tb7 (i := 125) rfl) ki_X11_fails kv_X11_fails dX11_addVessel_29 rfl rfl (Nat.le_of_ble_eq_true rfl) (by decide) (s_X11_fails (c := 2) hG hI (by show 0 ≤ 2 ∧ 2 ≤ 4; omega)) ?_
      have hJ4 := (i_fails (c := 2) hI (by show 0 ≤ 2 ∧ 2 ≤ 4; omega))
      exact Ev.iretE rfl nar_i dX11_addVessel_32 (by rw [f_addVessel, if_pos c1, if_pos c3]; try rfl) (by first | rfl | (rw [f_addVessel, if_pos c1, if_pos c3]; try rfl))
    · refine Ev.aload_n (i := 0) dX11_addVessel_33 rfl rfl ?_
      refine Ei.const dX11_addVessel_34 ?_
      refine Em.pS (k := 0) hG (by decide) (tb6 (i := 210) rfl) rfl rfl rfl rfl dX11_addVessel_35 ?_
      refine Ev.aload_n (i := 0) dX11_addVessel_38 rfl rfl ?_
      refine Em.gA (k := 20) hG (by decide) (by decide) (tb6 (i := 230) rfl) rfl rfl dX11_addVessel_39 ?_
      refine Ev.aload_n (i := 0) dX11_addVessel_42 rfl rfl ?_
      refine Ex.gS (k := 2) (v 2 0) rfl hG (by decide) (tb6 (i := 212) rfl) rfl rfl dX11_addVessel_43 ?_
      refine Ev.iload_n (i := 1) dX11_addVessel_46 rfl rfl ?_
      refine Ev.bipush (v := i32 116) dX11_addVessel_47 (by decide) ?_
      refine Ex.icmp_ne (tgt := 56) dX11_addVessel_49 (by decide) ⟨by omega, by omega⟩ ⟨by omega, by omega⟩ (fun c5 => ?_) (fun c5 => ?_)
      · refine Ei.const dX11_addVessel_52 ?_
        refine Ev.goto (tgt := 57) dX11_addVessel_53 (by decide) ?_
        refine Em.zast (k := 20) hG (by decide) (by decide) rfl (by omega) (by show _ < ((8 : Nat) : Int); omega) (by decide) (by omega) dX11_addVessel_57 ?_
        refine Ev.aload_n (i := 0) dX11_addVessel_58 rfl rfl ?_
        refine Em.gA (k := 19) hG (by decide) (by decide) (tb6 (i := 229) rfl) rfl rfl dX11_addVessel_59 ?_
        refine Ev.aload_n (i := 0) dX11_addVessel_62 rfl rfl ?_
        refine Ex.gS (k := 2) (v 2 0) rfl hG (by decide) (tb6 (i := 212) rfl) rfl rfl dX11_addVessel_63 ?_
        refine Ei.const dX11_addVessel_66 ?_
        refine Em.iast (k := 19) hG (by decide) (by decide) rfl (by omega) (by show _ < ((8 : Nat) : Int); omega) (by decide) dX11_addVessel_67 ?_
        refine Ev.aload_n (i := 0) dX11_addVessel_68 rfl rfl ?_
        refine Ev.dup dX11_addVessel_69 rfl ?_
        refine Ex.gS (k := 2) (v 2 0) rfl hG (by decide) (tb6 (i := 212) rfl) rfl rfl dX11_addVessel_70 ?_
        refine Ei.const dX11_addVessel_73 ?_
        refine Ei.add dX11_addVessel_74 ?_
        refine Em.pS (k := 2) hG (by decide) (tb6 (i := 212) rfl) rfl rfl rfl rfl dX11_addVessel_75 ?_
        refine Ev.aload_n (i := 0) dX11_addVessel_78 rfl rfl ?_
        refine Ex.gS (k := 2) (((v 2 0) + 1)) rfl hG (by decide) (tb6 (i := 212) rfl) rfl rfl dX11_addVessel_79 ?_
        refine Ei.const dX11_addVessel_82 ?_
        refine Ei.sub dX11_addVessel_83 ?_
        exact Ev.iretE rfl nar_i dX11_addVessel_84 (by rw [f_addVessel, if_pos c1, if_neg c3, if_pos c5]; try rfl) (by first | rfl | (rw [f_addVessel, if_pos c1, if_neg c3, if_pos c5]; try rfl))
      · refine Ei.const dX11_addVessel_56 ?_
        refine Em.zast (k := 20) hG (by decide) (by decide) rfl (by omega) (by show _ < ((8 : Nat) : Int); omega) (by decide) (by omega) dX11_addVessel_57 ?_
        refine Ev.aload_n (i := 0) dX11_addVessel_58 rfl rfl ?_
        refine Em.gA (k := 19) hG (by decide) (by decide) (tb6 (i := 229) rfl) rfl rfl dX11_addVessel_59 ?_
        refine Ev.aload_n (i := 0) dX11_addVessel_62 rfl rfl ?_
        refine Ex.gS (k := 2) (v 2 0) rfl hG (by decide) (tb6 (i := 212) rfl) rfl rfl dX11_addVessel_63 ?_
        refine Ei.const dX11_addVessel_66 ?_
        refine Em.iast (k := 19) hG (by decide) (by decide) rfl (by omega) (by show _ < ((8 : Nat) : Int); omega) (by decide) dX11_addVessel_67 ?_
        refine Ev.aload_n (i := 0) dX11_addVessel_68 rfl rfl ?_
        refine Ev.dup dX11_addVessel_69 rfl ?_
        refine Ex.gS (k := 2) (v 2 0) rfl hG (by decide) (tb6 (i := 212) rfl) rfl rfl dX11_addVessel_70 ?_
        refine Ei.const dX11_addVessel_73 ?_
        refine Ei.add dX11_addVessel_74 ?_
        refine Em.pS (k := 2) hG (by decide) (tb6 (i := 212) rfl) rfl rfl rfl rfl dX11_addVessel_75 ?_
        refine Ev.aload_n (i := 0) dX11_addVessel_78 rfl rfl ?_
        refine Ex.gS (k := 2) (((v 2 0) + 1)) rfl hG (by decide) (tb6 (i := 212) rfl) rfl rfl dX11_addVessel_79 ?_
        refine Ei.const dX11_addVessel_82 ?_
        refine Ei.sub dX11_addVessel_83 ?_
        exact Ev.iretE rfl nar_i dX11_addVessel_84 (by rw [f_addVessel, if_pos c1, if_neg c3, if_neg c5]; try rfl) (by first | rfl | (rw [f_addVessel, if_pos c1, if_neg c3, if_neg c5]; try rfl))
  · refine Ev.iload_n (i := 1) dX11_addVessel_6 rfl rfl ?_
    refine Ev.bipush (v := i32 116) dX11_addVessel_7 (by decide) ?_
    refine Ei.icmp_eq (tgt := 18) dX11_addVessel_9 (by decide) ⟨by omega, by omega⟩ ⟨by omega, by omega⟩ (fun c6 => ?_) (fun c6 => ?_)
    · refine Ev.aload_n (i := 0) dX11_addVessel_18 rfl rfl ?_
      have q7 : 0 ≤ v 2 0 ∧ v 2 0 ≤ 8 := hI.2 2 0
      refine Ex.gS (k := 2) (v 2 0) rfl hG (by decide) (tb6 (i := 212) rfl) rfl rfl dX11_addVessel_19 ?_
      refine Ev.bipush (v := i32 8) dX11_addVessel_22 (by decide) ?_
      refine Ex.icmp_ne (tgt := 33) dX11_addVessel_24 (by decide) ⟨by omega, by omega⟩ ⟨by omega, by omega⟩ (fun c8 => ?_) (fun c8 => ?_)
      · refine Ev.aload_n (i := 0) dX11_addVessel_27 rfl rfl ?_
        refine Ei.const dX11_addVessel_28 ?_
        refine Em.cv1 (As := [_]) hG k_X11_fails (tb7 (i := 125) rfl) ki_X11_fails kv_X11_fails dX11_addVessel_29 rfl rfl (Nat.le_of_ble_eq_true rfl) (by decide) (s_X11_fails (c := 2) hG hI (by show 0 ≤ 2 ∧ 2 ≤ 4; omega)) ?_
        have hJ9 := (i_fails (c := 2) hI (by show 0 ≤ 2 ∧ 2 ≤ 4; omega))
        exact Ev.iretE rfl nar_i dX11_addVessel_32 (by rw [f_addVessel, if_neg c1, if_pos c6, if_pos c8]; try rfl) (by first | rfl | (rw [f_addVessel, if_neg c1, if_pos c6, if_pos c8]; try rfl))
      · refine Ev.aload_n (i := 0) dX11_addVessel_33 rfl rfl ?_
        refine Ei.const dX11_addVessel_34 ?_
        refine Em.pS (k := 0) hG (by decide) (tb6 (i := 210) rfl) rfl rfl rfl rfl dX11_addVessel_35 ?_
        refine Ev.aload_n (i := 0) dX11_addVessel_38 rfl rfl ?_
        refine Em.gA (k := 20) hG (by decide) (by decide) (tb6 (i := 230) rfl) rfl rfl dX11_addVessel_39 ?_
        refine Ev.aload_n (i := 0) dX11_addVessel_42 rfl rfl ?_
        refine Ex.gS (k := 2) (v 2 0) rfl hG (by decide) (tb6 (i := 212) rfl) rfl rfl dX11_addVessel_43 ?_
        refine Ev.iload_n (i := 1) dX11_addVessel_46 rfl rfl ?_
        refine Ev.bipush (v := i32 116) dX11_addVessel_47 (by decide) ?_
        refine Ei.icmp_ne_f (tgt := 56) dX11_addVessel_49 (by decide) ⟨by omega, by omega⟩ ⟨by omega, by omega⟩ (fun h => h c6) ?_
        refine Ei.const dX11_addVessel_52 ?_
        refine Ev.goto (tgt := 57) dX11_addVessel_53 (by decide) ?_
        refine Em.zast (k := 20) hG (by decide) (by decide) rfl (by omega) (by show _ < ((8 : Nat) : Int); omega) (by decide) (by omega) dX11_addVessel_57 ?_
        refine Ev.aload_n (i := 0) dX11_addVessel_58 rfl rfl ?_
        refine Em.gA (k := 19) hG (by decide) (by decide) (tb6 (i := 229) rfl) rfl rfl dX11_addVessel_59 ?_
        refine Ev.aload_n (i := 0) dX11_addVessel_62 rfl rfl ?_
        refine Ex.gS (k := 2) (v 2 0) rfl hG (by decide) (tb6 (i := 212) rfl) rfl rfl dX11_addVessel_63 ?_
        refine Ei.const dX11_addVessel_66 ?_
        refine Em.iast (k := 19) hG (by decide) (by decide) rfl (by omega) (by show _ < ((8 : Nat) : Int); omega) (by decide) dX11_addVessel_67 ?_
        refine Ev.aload_n (i := 0) dX11_addVessel_68 rfl rfl ?_
        refine Ev.dup dX11_addVessel_69 rfl ?_
        refine Ex.gS (k := 2) (v 2 0) rfl hG (by decide) (tb6 (i := 212) rfl) rfl rfl dX11_addVessel_70 ?_
        refine Ei.const dX11_addVessel_73 ?_
        refine Ei.add dX11_addVessel_74 ?_
        refine Em.pS (k := 2) hG (by decide) (tb6 (i := 212) rfl) rfl rfl rfl rfl dX11_addVessel_75 ?_
        refine Ev.aload_n (i := 0) dX11_addVessel_78 rfl rfl ?_
        refine Ex.gS (k := 2) (((v 2 0) + 1)) rfl hG (by decide) (tb6 (i := 212) rfl) rfl rfl dX11_addVessel_79 ?_
        refine Ei.const dX11_addVessel_82 ?_
        refine Ei.sub dX11_addVessel_83 ?_
        exact Ev.iretE rfl nar_i dX11_addVessel_84 (by rw [f_addVessel, if_neg c1, if_pos c6, if_neg c8]; try rfl) (by first | rfl | (rw [f_addVessel, if_neg c1, if_pos c6, if_neg c8]; try rfl))
    · refine Ev.aload_n (i := 0) dX11_addVessel_12 rfl rfl ?_
      refine Ei.const dX11_addVessel_13 ?_
      refine Em.cv1 (As := [_]) hG k_X11_fails (tb7 (i := 125) rfl) ki_X11_fails kv_X11_fails dX11_addVessel_14 rfl rfl (Nat.le_of_ble_eq_true rfl) (by decide) (s_X11_fails (c := 1) hG hI (by show 0 ≤ 1 ∧ 1 ≤ 4; omega)) ?_
      have hJ10 := (i_fails (c := 1) hI (by show 0 ≤ 1 ∧ 1 ≤ 4; omega))
      exact Ev.iretE rfl nar_i dX11_addVessel_17 (by rw [f_addVessel, if_neg c1, if_neg c6]; try rfl) (by first | rfl | (rw [f_addVessel, if_neg c1, if_neg c6]; try rfl))
theorem i_addVessel {v : Vw} {T E : Int} {a : Int} (hI : IM v T E) (ha : -2147483648 ≤ a ∧ a < 2147483648) : IM (f_addVessel a v).2 T (E) := by
  have hT := hI.1
  by_cases c1 : a = 102
  · have q2 : 0 ≤ v 2 0 ∧ v 2 0 ≤ 8 := hI.2 2 0
    by_cases c3 : (v 2 0) = 8
    · have hJ4 := (i_fails (c := 2) hI (by show 0 ≤ 2 ∧ 2 ≤ 4; omega))
      rw [f_addVessel, if_pos c1, if_pos c3]
      exact hJ4
    · by_cases c5 : a = 116
      · rw [f_addVessel, if_pos c1, if_neg c3, if_pos c5]
        exact ((((hI.up 0 0 0 (by show 0 ≤ 0 ∧ 0 ≤ 4; omega)).up 20 (v 2 0) 1 (by show 0 ≤ 1 ∧ 1 ≤ 1; omega)).up 19 (v 2 0) (-1) (by show -1 ≤ (-1) ∧ (-1) ≤ 3; omega)).up 2 0 ((v 2 0) + 1) (by show 0 ≤ ((v 2 0) + 1) ∧ ((v 2 0) + 1) ≤ 8; omega))
      · rw [f_addVessel, if_pos c1, if_neg c3, if_neg c5]
        exact ((((hI.up 0 0 0 (by show 0 ≤ 0 ∧ 0 ≤ 4; omega)).up 20 (v 2 0) 0 (by show 0 ≤ 0 ∧ 0 ≤ 1; omega)).up 19 (v 2 0) (-1) (by show -1 ≤ (-1) ∧ (-1) ≤ 3; omega)).up 2 0 ((v 2 0) + 1) (by show 0 ≤ ((v 2 0) + 1) ∧ ((v 2 0) + 1) ≤ 8; omega))
  · by_cases c6 : a = 116
    · have q7 : 0 ≤ v 2 0 ∧ v 2 0 ≤ 8 := hI.2 2 0
      by_cases c8 : (v 2 0) = 8
      · have hJ9 := (i_fails (c := 2) hI (by show 0 ≤ 2 ∧ 2 ≤ 4; omega))
        rw [f_addVessel, if_neg c1, if_pos c6, if_pos c8]
        exact hJ9
      · rw [f_addVessel, if_neg c1, if_pos c6, if_neg c8]
        exact ((((hI.up 0 0 0 (by show 0 ≤ 0 ∧ 0 ≤ 4; omega)).up 20 (v 2 0) 1 (by show 0 ≤ 1 ∧ 1 ≤ 1; omega)).up 19 (v 2 0) (-1) (by show -1 ≤ (-1) ∧ (-1) ≤ 3; omega)).up 2 0 ((v 2 0) + 1) (by show 0 ≤ ((v 2 0) + 1) ∧ ((v 2 0) + 1) ≤ 8; omega))
    · have hJ10 := (i_fails (c := 1) hI (by show 0 ≤ 1 ∧ 1 ≤ 4; omega))
      rw [f_addVessel, if_neg c1, if_neg c6]
      exact hJ10
theorem fr_addVessel {a : Int} {v : Vw} (fk : Nat) (fi : Int) (hk : fk ≠ 0 ∧ fk ≠ 2 ∧ fk ≠ 19 ∧ fk ≠ 20) : (f_addVessel a v).2 fk fi = v fk fi := by
  by_cases c1 : a = 102
  · by_cases c3 : (v 2 0) = 8
    · rw [f_addVessel, if_pos c1, if_pos c3]
      exact ((fr_fails (c := 2) (v := v) fk fi (by omega)).trans rfl)
    · by_cases c5 : a = 116
      · rw [f_addVessel, if_pos c1, if_neg c3, if_pos c5]
        exact ((upv_nk (by omega)).trans ((upv_nk (by omega)).trans ((upv_nk (by omega)).trans ((upv_nk (by omega)).trans rfl))))
      · rw [f_addVessel, if_pos c1, if_neg c3, if_neg c5]
        exact ((upv_nk (by omega)).trans ((upv_nk (by omega)).trans ((upv_nk (by omega)).trans ((upv_nk (by omega)).trans rfl))))
  · by_cases c6 : a = 116
    · by_cases c8 : (v 2 0) = 8
      · rw [f_addVessel, if_neg c1, if_pos c6, if_pos c8]
        exact ((fr_fails (c := 2) (v := v) fk fi (by omega)).trans rfl)
      · rw [f_addVessel, if_neg c1, if_pos c6, if_neg c8]
        exact ((upv_nk (by omega)).trans ((upv_nk (by omega)).trans ((upv_nk (by omega)).trans ((upv_nk (by omega)).trans rfl))))
    · rw [f_addVessel, if_neg c1, if_neg c6]
      exact ((fr_fails (c := 1) (v := v) fk fi (by omega)).trans rfl)
def f_setCrews (a : Int) (v : Vw) : Int × Vw :=
  if (f_in a 0 3) = 0 then
    ((f_fails 1 v).1, (f_fails 1 v).2)
  else
    ((v 3 0), (upv (upv v 0 0 0) 3 0 a))
theorem s_X11_setCrews {X : Cx} {σ : Hp} {m0 : Nat} {v : Vw} {T E : Int} {a : Int} (hG : GM σ m0) (hI : IM v T E) (ha : -2147483648 ≤ a ∧ a < 2147483648) : Ct X m_X11_setCrews 2 [va_rf (some m0), .int (i32 a)] (Hm σ m0 v) (.inl (some (.int (i32 (f_setCrews a v).1)))) (Hm σ m0 (f_setCrews a v).2) := by
  have hT := hI.1
  refine Ct.of (by decide +kernel) rfl (Nat.le_of_ble_eq_true rfl) (by simp [Value.category, va_rf]) ?_
  refine Ev.iload_n (i := 1) dX11_setCrews_0 rfl rfl ?_
  refine Ei.const dX11_setCrews_1 ?_
  refine Ei.const dX11_setCrews_2 ?_
  refine Ev.cs1 (As := [_, _, _]) k_X11_in (tb7 (i := 122) rfl) ki_X11_in dX11_setCrews_3 rfl rfl (Nat.le_of_ble_eq_true rfl) (by decide) (s_X11_in (x := a) (a := 0) (b := 3)  (by show -2147483648 ≤ a ∧ a < 2147483648; omega) (by show -2147483648 ≤ 0 ∧ 0 < 2147483648; omega) (by show -2147483648 ≤ 3 ∧ 3 < 2147483648; omega)) ?_
  have q1 : 0 ≤ (f_in a 0 3) ∧ (f_in a 0 3) ≤ 1 := r_in
  have q2 := c_in a 0 3
  refine Ex.if_ne (tgt := 15) dX11_setCrews_6 (by decide) ⟨by omega, by omega⟩ (fun c3 => ?_) (fun c3 => ?_)
  · refine Ev.aload_n (i := 0) dX11_setCrews_9 rfl rfl ?_
    refine Ei.const dX11_setCrews_10 ?_
    refine Em.cv1 (As := [_]) hG k_X11_fails (tb7 (i := 125) rfl) ki_X11_fails kv_X11_fails dX11_setCrews_11 rfl rfl (Nat.le_of_ble_eq_true rfl) (by decide) (s_X11_fails (c := 1) hG hI (by show 0 ≤ 1 ∧ 1 ≤ 4; omega)) ?_
    have hJ4 := (i_fails (c := 1) hI (by show 0 ≤ 1 ∧ 1 ≤ 4; omega))
    exact Ev.iretE rfl nar_i dX11_setCrews_14 (by rw [f_setCrews, if_pos c3]; try rfl) (by first | rfl | (rw [f_setCrews, if_pos c3]; try rfl))
  · refine Ev.aload_n (i := 0) dX11_setCrews_15 rfl rfl ?_
    refine Ei.const dX11_setCrews_16 ?_
    refine Em.pS (k := 0) hG (by decide) (tb6 (i := 210) rfl) rfl rfl rfl rfl dX11_setCrews_17 ?_
    refine Ev.aload_n (i := 0) dX11_setCrews_20 rfl rfl ?_
    have q5 : 0 ≤ v 3 0 ∧ v 3 0 ≤ 3 := hI.2 3 0
    refine Ex.gS (k := 3) (v 3 0) rfl hG (by decide) (tb6 (i := 213) rfl) rfl rfl dX11_setCrews_21 ?_
    refine Ev.istore_n (i := 2) dX11_setCrews_24 rfl (by decide) ?_
    refine Ev.aload_n (i := 0) dX11_setCrews_25 rfl rfl ?_
    refine Ev.iload_n (i := 1) dX11_setCrews_26 rfl rfl ?_
    refine Em.pS (k := 3) hG (by decide) (tb6 (i := 213) rfl) rfl rfl rfl rfl dX11_setCrews_27 ?_
    refine Ev.iload_n (i := 2) dX11_setCrews_30 rfl rfl ?_
    exact Ev.iretE rfl nar_i dX11_setCrews_31 (by rw [f_setCrews, if_neg c3]; try rfl) (by first | rfl | (rw [f_setCrews, if_neg c3]; try rfl))
theorem i_setCrews {v : Vw} {T E : Int} {a : Int} (hI : IM v T E) (ha : -2147483648 ≤ a ∧ a < 2147483648) : IM (f_setCrews a v).2 T (E) := by
  have hT := hI.1
  have q1 : 0 ≤ (f_in a 0 3) ∧ (f_in a 0 3) ≤ 1 := r_in
  have q2 := c_in a 0 3
  by_cases c3 : (f_in a 0 3) = 0
  · have hJ4 := (i_fails (c := 1) hI (by show 0 ≤ 1 ∧ 1 ≤ 4; omega))
    rw [f_setCrews, if_pos c3]
    exact hJ4
  · have q5 : 0 ≤ v 3 0 ∧ v 3 0 ≤ 3 := hI.2 3 0
    rw [f_setCrews, if_neg c3]
    exact ((hI.up 0 0 0 (by show 0 ≤ 0 ∧ 0 ≤ 4; omega)).up 3 0 a (by show 0 ≤ a ∧ a ≤ 3; omega))
theorem fr_setCrews {a : Int} {v : Vw} (fk : Nat) (fi : Int) (hk : fk ≠ 0 ∧ fk ≠ 3) : (f_setCrews a v).2 fk fi = v fk fi := by
  by_cases c3 : (f_in a 0 3) = 0
  · rw [f_setCrews, if_pos c3]
    exact ((fr_fails (c := 1) (v := v) fk fi (by omega)).trans rfl)
  · rw [f_setCrews, if_neg c3]
    exact ((upv_nk (by omega)).trans ((upv_nk (by omega)).trans rfl))
def f_isUsable (p s : Int) (v : Vw) : Int :=
  if (v 25 p) = 0 then
    if (v 22 p) = s then
      if ((v 24 p) + 10) < (v 8 0) then
        0
      else
        1
    else
      0
  else
    0
theorem s_X11_isUsable {X : Cx} {σ : Hp} {m0 : Nat} {v : Vw} {T E : Int} {p s : Int} (hG : GM σ m0) (hI : IM v T E) (hp : 0 ≤ p ∧ p < 60) (hs : 0 ≤ s ∧ s ≤ 3) : Ct X m_X11_isUsable 1 [va_rf (some m0), .int (i32 p), .int (i32 s)] (Hm σ m0 v) (.inl (some (.int (i32 (f_isUsable p s v))))) (Hm σ m0 v) := by
  have hT := hI.1
  refine Ct.of (by decide +kernel) rfl (Nat.le_of_ble_eq_true rfl) (by simp [Value.category, va_rf]) ?_
  refine Ev.aload_n (i := 0) dX11_isUsable_0 rfl rfl ?_
  refine Em.gA (k := 25) hG (by decide) (by decide) (tb6 (i := 235) rfl) rfl rfl dX11_isUsable_1 ?_
  refine Ev.iload_n (i := 1) dX11_isUsable_4 rfl rfl ?_
  have q1 : 0 ≤ v 25 p ∧ v 25 p ≤ 1 := hI.2 25 p
  refine Ex.zald (k := 25) (v 25 p) rfl hG (by decide) (by decide) rfl (by omega) (by show _ < ((60 : Nat) : Int); omega) (by decide) dX11_isUsable_5 ?_
  refine Ex.if_ne (tgt := 39) dX11_isUsable_6 (by decide) ⟨by omega, by omega⟩ (fun c2 => ?_) (fun c2 => ?_)
  · refine Ev.aload_n (i := 0) dX11_isUsable_9 rfl rfl ?_
    refine Em.gA (k := 22) hG (by decide) (by decide) (tb6 (i := 232) rfl) rfl rfl dX11_isUsable_10 ?_
    refine Ev.iload_n (i := 1) dX11_isUsable_13 rfl rfl ?_
    have q3 : 0 ≤ v 22 p ∧ v 22 p ≤ 3 := hI.2 22 p
    refine Ex.iald (k := 22) (v 22 p) rfl hG (by decide) (by decide) rfl (by omega) (by show _ < ((60 : Nat) : Int); omega) (by decide) dX11_isUsable_14 ?_
    refine Ev.iload_n (i := 2) dX11_isUsable_15 rfl rfl ?_
    refine Ex.icmp_ne (tgt := 39) dX11_isUsable_16 (by decide) ⟨by omega, by omega⟩ ⟨by omega, by omega⟩ (fun c4 => ?_) (fun c4 => ?_)
    · refine Ev.aload_n (i := 0) dX11_isUsable_19 rfl rfl ?_
      have q5 : 0 ≤ v 8 0 ∧ v 8 0 ≤ T := hI.2 8 0
      refine Ex.gS (k := 8) (v 8 0) rfl hG (by decide) (tb6 (i := 218) rfl) rfl rfl dX11_isUsable_20 ?_
      refine Ev.aload_n (i := 0) dX11_isUsable_23 rfl rfl ?_
      refine Em.gA (k := 24) hG (by decide) (by decide) (tb6 (i := 234) rfl) rfl rfl dX11_isUsable_24 ?_
      refine Ev.iload_n (i := 1) dX11_isUsable_27 rfl rfl ?_
      have q6 : 0 ≤ v 24 p ∧ v 24 p ≤ T := hI.2 24 p
      refine Ex.iald (k := 24) (v 24 p) rfl hG (by decide) (by decide) rfl (by omega) (by show _ < ((60 : Nat) : Int); omega) (by decide) dX11_isUsable_28 ?_
      refine Ev.bipush (v := i32 10) dX11_isUsable_29 (by decide) ?_
      refine Ei.add dX11_isUsable_31 ?_
      refine Ei.icmp_gt (tgt := 39) dX11_isUsable_32 (by decide) ⟨by omega, by omega⟩ ⟨by omega, by omega⟩ (fun c7 => ?_) (fun c7 => ?_)
      · refine Ei.const dX11_isUsable_39 ?_
        exact Ev.iretE rfl (nar_b (by omega)) dX11_isUsable_40 (by rw [f_isUsable, if_pos c2, if_pos c4, if_pos c7]; try rfl) (by first | rfl | (rw [f_isUsable, if_pos c2, if_pos c4, if_pos c7]; try rfl))
      · refine Ei.const dX11_isUsable_35 ?_
        refine Ev.goto (tgt := 40) dX11_isUsable_36 (by decide) ?_
        exact Ev.iretE rfl (nar_b (by omega)) dX11_isUsable_40 (by rw [f_isUsable, if_pos c2, if_pos c4, if_neg c7]; try rfl) (by first | rfl | (rw [f_isUsable, if_pos c2, if_pos c4, if_neg c7]; try rfl))
    · refine Ei.const dX11_isUsable_39 ?_
      exact Ev.iretE rfl (nar_b (by omega)) dX11_isUsable_40 (by rw [f_isUsable, if_pos c2, if_neg c4]; try rfl) (by first | rfl | (rw [f_isUsable, if_pos c2, if_neg c4]; try rfl))
  · refine Ei.const dX11_isUsable_39 ?_
    exact Ev.iretE rfl (nar_b (by omega)) dX11_isUsable_40 (by rw [f_isUsable, if_neg c2]; try rfl) (by first | rfl | (rw [f_isUsable, if_neg c2]; try rfl))
theorem r_isUsable {p s : Int} {v : Vw} : 0 ≤ f_isUsable p s v ∧ f_isUsable p s v ≤ 1 := by
  unfold f_isUsable
  repeat' split
  all_goals omega
def l_firstPitch_2 (s : Int) (v : Vw) : Nat → Int → Int
  | 0, _ => 0
  | n + 1, p =>
    if (v 4 0) ≤ p then
      (-1)
    else
      if (f_isUsable p s v) = 0 then
        (l_firstPitch_2 s v n (p + 1))
      else
        p
theorem s_l_firstPitch_2 {X : Cx} {σ : Hp} {m0 : Nat} {T E : Int} {s : Int} (hG : GM σ m0) {v : Vw} (hI : IM v T E) (hs : 0 ≤ s ∧ s ≤ 3) : ∀ (n : Nat) (p : Int) (hp : 0 ≤ p ∧ p ≤ 1000) (hm : (v 4 0 - p).toNat < n), Ev X m_X11_firstPitch 2 2 [some (va_rf (some m0)), some (.int (i32 s)), some (.int (i32 p))] [] (Hm σ m0 v) (.inl (some (.int (i32 (l_firstPitch_2 s v n p))))) (Hm σ m0 v) := by
  intro n
  induction n with
  | zero =>
    intro p hp hm
    exact absurd hm (Nat.not_lt_zero _)
  | succ n ih =>
    intro p hp hm
    have hT := hI.1
    have u4 : 0 ≤ v 4 0 ∧ v 4 0 ≤ 60 := hI.2 4 0
    refine Ev.iload_n (i := 2) dX11_firstPitch_2 rfl rfl ?_
    refine Ev.aload_n (i := 0) dX11_firstPitch_3 rfl rfl ?_
    refine Ex.gS (k := 4) (v 4 0) rfl hG (by decide) (tb6 (i := 214) rfl) rfl rfl dX11_firstPitch_4 ?_
    refine Ei.icmp_ge (tgt := 27) dX11_firstPitch_7 (by decide) ⟨by omega, by omega⟩ ⟨by omega, by omega⟩ (fun c1 => ?_) (fun c1 => ?_)
    · refine Ei.const dX11_firstPitch_27 ?_
      exact Ev.iretE rfl nar_i dX11_firstPitch_28 (by rw [l_firstPitch_2, if_pos c1]; try rfl) (by first | rfl | (rw [l_firstPitch_2, if_pos c1]; try rfl))
    · refine Ev.aload_n (i := 0) dX11_firstPitch_10 rfl rfl ?_
      refine Ev.iload_n (i := 2) dX11_firstPitch_11 rfl rfl ?_
      refine Ev.iload_n (i := 1) dX11_firstPitch_12 rfl rfl ?_
      refine Em.cv1 (As := [_, _]) hG k_X11_isUsable (tb7 (i := 145) rfl) ki_X11_isUsable kv_X11_isUsable dX11_firstPitch_13 rfl rfl (Nat.le_of_ble_eq_true rfl) (by decide) (s_X11_isUsable (p := p) (s := s) hG hI (by show 0 ≤ p ∧ p < 60; omega) (by show 0 ≤ s ∧ s ≤ 3; omega)) ?_
      have q2 : 0 ≤ (f_isUsable p s v) ∧ (f_isUsable p s v) ≤ 1 := r_isUsable
      refine Ei.if_eq (tgt := 21) dX11_firstPitch_16 (by decide) ⟨by omega, by omega⟩ (fun c3 => ?_) (fun c3 => ?_)
      · refine Ei.inc dX11_firstPitch_21 rfl (by decide) ?_
        refine Ev.goto (tgt := 2) dX11_firstPitch_24 (by decide) ?_
        rw [l_firstPitch_2, if_neg c1, if_pos c3]
        exact Ev.fgt (ls' := [some (va_rf (some m0)), some (.int (i32 s)), some (.int (i32 (p + 1)))]) ⟨rfl, ⟨rfl, ⟨rfl, trivial⟩⟩⟩ (ih (p + 1)  (by show 0 ≤ (p + 1) ∧ (p + 1) ≤ 1000; omega) (by show ((v 4 0) - (p + 1)).toNat < n; omega))
      · refine Ev.iload_n (i := 2) dX11_firstPitch_19 rfl rfl ?_
        exact Ev.iretE rfl nar_i dX11_firstPitch_20 (by rw [l_firstPitch_2, if_neg c1, if_neg c3]; try rfl) (by first | rfl | (rw [l_firstPitch_2, if_neg c1, if_neg c3]; try rfl))
def f_firstPitch (s : Int) (v : Vw) : Int :=
  (l_firstPitch_2 s v (((v 4 0) - 0).toNat + 1) 0)
theorem s_X11_firstPitch {X : Cx} {σ : Hp} {m0 : Nat} {v : Vw} {T E : Int} {s : Int} (hG : GM σ m0) (hI : IM v T E) (hs : 0 ≤ s ∧ s ≤ 3) : Ct X m_X11_firstPitch 2 [va_rf (some m0), .int (i32 s)] (Hm σ m0 v) (.inl (some (.int (i32 (f_firstPitch s v))))) (Hm σ m0 v) := by
  have hT := hI.1
  refine Ct.of (by decide +kernel) rfl (Nat.le_of_ble_eq_true rfl) (by simp [Value.category, va_rf]) ?_
  refine Ei.const dX11_firstPitch_0 ?_
  refine Ev.istore_n (i := 2) dX11_firstPitch_1 rfl (by decide) ?_
  refine Ev.fgt (ls' := [some (va_rf (some m0)), some (.int (i32 s)), some (.int (i32 0))]) ⟨rfl, ⟨rfl, ⟨rfl, trivial⟩⟩⟩ ?_
  rw [f_firstPitch]
  exact s_l_firstPitch_2 hG hI hs (((v 4 0) - 0).toNat + 1) 0 (by show 0 ≤ 0 ∧ 0 ≤ 1000; omega) (by show ((v 4 0) - 0).toNat < (((v 4 0) - 0).toNat + 1); omega)
theorem r_l_firstPitch {s : Int} {v : Vw} : ∀ (n : Nat) (p : Int), 0 ≤ p → (v 4 0 - p).toNat < n → -1 ≤ l_firstPitch_2 s v n p ∧ (l_firstPitch_2 s v n p < v 4 0 ∨ l_firstPitch_2 s v n p = -1) := by
  intro n
  induction n with
  | zero => exact fun p _ h => absurd h (Nat.not_lt_zero _)
  | succ n ih =>
    intro p hp hm
    rw [l_firstPitch_2]
    split
    · omega
    · split
      · exact ih (p + 1) (by omega) (by omega)
      · omega
theorem r_firstPitch {v : Vw} {T E : Int} (hI : IM v T E) (s : Int) : -1 ≤ f_firstPitch s v ∧ f_firstPitch s v ≤ 59 := by
  have h := r_l_firstPitch (s := s) (v := v) ((v 4 0 - 0).toNat + 1) 0 (by omega) (by omega)
  have q : 0 ≤ v 4 0 ∧ v 4 0 ≤ 60 := hI.2 4 0
  unfold f_firstPitch
  omega
def l_pitches_24 (s : Int) (v : Vw) : Nat → Int → Int → Int
  | 0, k, p => k
  | n + 1, k, p =>
    if (v 4 0) ≤ p then
      k
    else
      if (f_isUsable p s v) = 0 then
        (l_pitches_24 s v n (k + 0) (p + 1))
      else
        (l_pitches_24 s v n (k + 1) (p + 1))
theorem s_l_pitches_24 {X : Cx} {σ : Hp} {m0 : Nat} {T E : Int} {s : Int} {oc : Rs} {τ : Hp} (hG : GM σ m0) {v : Vw} (hI : IM v T E) (hs : 0 ≤ s ∧ s ≤ 3) : ∀ (n : Nat) (k p : Int) (hp : 0 ≤ p ∧ p ≤ 1000) (hm : (v 4 0 - p).toNat < n), Ev X m_X11_pitches 2 55 [some (va_rf (some m0)), some (.int (i32 s)), some (.int (i32 (l_pitches_24 s v n k p))), none] [] (Hm σ m0 v) oc τ → Ev X m_X11_pitches 2 24 [some (va_rf (some m0)), some (.int (i32 s)), some (.int (i32 k)), some (.int (i32 p))] [] (Hm σ m0 v) oc τ := by
  intro n
  induction n with
  | zero =>
    intro k p hp hm K
    exact absurd hm (Nat.not_lt_zero _)
  | succ n ih =>
    intro k p hp hm K
    have hT := hI.1
    have u4 : 0 ≤ v 4 0 ∧ v 4 0 ≤ 60 := hI.2 4 0
    refine Ev.iload_n (i := 3) dX11_pitches_24 rfl rfl ?_
    refine Ev.aload_n (i := 0) dX11_pitches_25 rfl rfl ?_
    refine Ex.gS (k := 4) (v 4 0) rfl hG (by decide) (tb6 (i := 214) rfl) rfl rfl dX11_pitches_26 ?_
    refine Ei.icmp_ge (tgt := 55) dX11_pitches_29 (by decide) ⟨by omega, by omega⟩ ⟨by omega, by omega⟩ (fun c1 => ?_) (fun c1 => ?_)
    · rw [l_pitches_24, if_pos c1] at K
      exact Ev.fgt (ls' := [some (va_rf (some m0)), some (.int (i32 s)), some (.int (i32 k)), none]) ⟨rfl, ⟨rfl, ⟨rfl, trivial⟩⟩⟩ K
    · refine Ev.iload_n (i := 2) dX11_pitches_32 rfl rfl ?_
      refine Ev.aload_n (i := 0) dX11_pitches_33 rfl rfl ?_
      refine Ev.iload_n (i := 3) dX11_pitches_34 rfl rfl ?_
      refine Ev.iload_n (i := 1) dX11_pitches_35 rfl rfl ?_
      refine Em.cv1 (As := [_, _]) hG k_X11_isUsable (tb7 (i := 145) rfl) ki_X11_isUsable kv_X11_isUsable dX11_pitches_36 rfl rfl (Nat.le_of_ble_eq_true rfl) (by decide) (s_X11_isUsable (p := p) (s := s) hG hI (by show 0 ≤ p ∧ p < 60; omega) (by show 0 ≤ s ∧ s ≤ 3; omega)) ?_
      have q2 : 0 ≤ (f_isUsable p s v) ∧ (f_isUsable p s v) ≤ 1 := r_isUsable
      refine Ei.if_eq (tgt := 46) dX11_pitches_39 (by decide) ⟨by omega, by omega⟩ (fun c3 => ?_) (fun c3 => ?_)
      · refine Ei.const dX11_pitches_46 ?_
        refine Ei.add dX11_pitches_47 ?_
        refine Ev.istore_n (i := 2) dX11_pitches_48 rfl (by decide) ?_
        refine Ei.inc dX11_pitches_49 rfl (by decide) ?_
        refine Ev.goto (tgt := 24) dX11_pitches_52 (by decide) ?_
        rw [l_pitches_24, if_neg c1, if_pos c3] at K
        exact Ev.fgt (ls' := [some (va_rf (some m0)), some (.int (i32 s)), some (.int (i32 (k + 0))), some (.int (i32 (p + 1)))]) ⟨rfl, ⟨rfl, ⟨rfl, ⟨rfl, trivial⟩⟩⟩⟩ (ih (k + 0) (p + 1)  (by show 0 ≤ (p + 1) ∧ (p + 1) ≤ 1000; omega) (by show ((v 4 0) - (p + 1)).toNat < n; omega) K)
      · refine Ei.const dX11_pitches_42 ?_
        refine Ev.goto (tgt := 47) dX11_pitches_43 (by decide) ?_
        refine Ei.add dX11_pitches_47 ?_
        refine Ev.istore_n (i := 2) dX11_pitches_48 rfl (by decide) ?_
        refine Ei.inc dX11_pitches_49 rfl (by decide) ?_
        refine Ev.goto (tgt := 24) dX11_pitches_52 (by decide) ?_
        rw [l_pitches_24, if_neg c1, if_neg c3] at K
        exact Ev.fgt (ls' := [some (va_rf (some m0)), some (.int (i32 s)), some (.int (i32 (k + 1))), some (.int (i32 (p + 1)))]) ⟨rfl, ⟨rfl, ⟨rfl, ⟨rfl, trivial⟩⟩⟩⟩ (ih (k + 1) (p + 1)  (by show 0 ≤ (p + 1) ∧ (p + 1) ≤ 1000; omega) (by show ((v 4 0) - (p + 1)).toNat < n; omega) K)
def f_pitches (s : Int) (v : Vw) : Int × Vw :=
  if (f_in s 0 3) = 0 then
    ((f_fails 1 v).1, (f_fails 1 v).2)
  else
    ((l_pitches_24 s (upv v 0 0 0) (((v 4 0) - 0).toNat + 1) 0 0), (upv v 0 0 0))
theorem s_X11_pitches {X : Cx} {σ : Hp} {m0 : Nat} {v : Vw} {T E : Int} {s : Int} (hG : GM σ m0) (hI : IM v T E) (hs : -2147483648 ≤ s ∧ s < 2147483648) : Ct X m_X11_pitches 2 [va_rf (some m0), .int (i32 s)] (Hm σ m0 v) (.inl (some (.int (i32 (f_pitches s v).1)))) (Hm σ m0 (f_pitches s v).2) := by
  have hT := hI.1
  refine Ct.of (by decide +kernel) rfl (Nat.le_of_ble_eq_true rfl) (by simp [Value.category, va_rf]) ?_
  refine Ev.iload_n (i := 1) dX11_pitches_0 rfl rfl ?_
  refine Ei.const dX11_pitches_1 ?_
  refine Ei.const dX11_pitches_2 ?_
  refine Ev.cs1 (As := [_, _, _]) k_X11_in (tb7 (i := 122) rfl) ki_X11_in dX11_pitches_3 rfl rfl (Nat.le_of_ble_eq_true rfl) (by decide) (s_X11_in (x := s) (a := 0) (b := 3)  (by show -2147483648 ≤ s ∧ s < 2147483648; omega) (by show -2147483648 ≤ 0 ∧ 0 < 2147483648; omega) (by show -2147483648 ≤ 3 ∧ 3 < 2147483648; omega)) ?_
  have q4 : 0 ≤ (f_in s 0 3) ∧ (f_in s 0 3) ≤ 1 := r_in
  have q5 := c_in s 0 3
  refine Ex.if_ne (tgt := 15) dX11_pitches_6 (by decide) ⟨by omega, by omega⟩ (fun c6 => ?_) (fun c6 => ?_)
  · refine Ev.aload_n (i := 0) dX11_pitches_9 rfl rfl ?_
    refine Ei.const dX11_pitches_10 ?_
    refine Em.cv1 (As := [_]) hG k_X11_fails (tb7 (i := 125) rfl) ki_X11_fails kv_X11_fails dX11_pitches_11 rfl rfl (Nat.le_of_ble_eq_true rfl) (by decide) (s_X11_fails (c := 1) hG hI (by show 0 ≤ 1 ∧ 1 ≤ 4; omega)) ?_
    have hJ7 := (i_fails (c := 1) hI (by show 0 ≤ 1 ∧ 1 ≤ 4; omega))
    exact Ev.iretE rfl nar_i dX11_pitches_14 (by rw [f_pitches, if_pos c6]; try rfl) (by first | rfl | (rw [f_pitches, if_pos c6]; try rfl))
  · refine Ev.aload_n (i := 0) dX11_pitches_15 rfl rfl ?_
    refine Ei.const dX11_pitches_16 ?_
    refine Em.pS (k := 0) hG (by decide) (tb6 (i := 210) rfl) rfl rfl rfl rfl dX11_pitches_17 ?_
    refine Ei.const dX11_pitches_20 ?_
    refine Ev.istore_n (i := 2) dX11_pitches_21 rfl (by decide) ?_
    refine Ei.const dX11_pitches_22 ?_
    refine Ev.istore_n (i := 3) dX11_pitches_23 rfl (by decide) ?_
    refine Ev.fgt (ls' := [some (va_rf (some m0)), some (.int (i32 s)), some (.int (i32 0)), some (.int (i32 0))]) ⟨rfl, ⟨rfl, ⟨rfl, ⟨rfl, trivial⟩⟩⟩⟩ ?_
    refine s_l_pitches_24 hG (hI.up 0 0 0 (by show 0 ≤ 0 ∧ 0 ≤ 4; omega)) (by omega) (((v 4 0) - 0).toNat + 1) 0 0 (by show 0 ≤ 0 ∧ 0 ≤ 1000; omega) (by show ((v 4 0) - 0).toNat < (((v 4 0) - 0).toNat + 1); omega) ?_
    refine Ev.iload_n (i := 2) dX11_pitches_55 rfl rfl ?_
    exact Ev.iretE rfl nar_i dX11_pitches_56 (by rw [f_pitches, if_neg c6]; try rfl) (by first | rfl | (rw [f_pitches, if_neg c6]; try rfl))
theorem i_pitches {v : Vw} {T E : Int} {s : Int} (hI : IM v T E) (hs : -2147483648 ≤ s ∧ s < 2147483648) : IM (f_pitches s v).2 T (E) := by
  have hT := hI.1
  have q4 : 0 ≤ (f_in s 0 3) ∧ (f_in s 0 3) ≤ 1 := r_in
  have q5 := c_in s 0 3
  by_cases c6 : (f_in s 0 3) = 0
  · have hJ7 := (i_fails (c := 1) hI (by show 0 ≤ 1 ∧ 1 ≤ 4; omega))
    rw [f_pitches, if_pos c6]
    exact hJ7
  · rw [f_pitches, if_neg c6]
    exact (hI.up 0 0 0 (by show 0 ≤ 0 ∧ 0 ≤ 4; omega))
theorem fr_pitches {s : Int} {v : Vw} (fk : Nat) (fi : Int) (hk : fk ≠ 0) : (f_pitches s v).2 fk fi = v fk fi := by
  by_cases c6 : (f_in s 0 3) = 0
  · rw [f_pitches, if_pos c6]
    exact ((fr_fails (c := 1) (v := v) fk fi (by omega)).trans rfl)
  · rw [f_pitches, if_neg c6]
    exact ((upv_nk (by omega)).trans rfl)
def f_hasYeast (s : Int) (v : Vw) : Int :=
  if 0 < (v 21 s) then
    1
  else
    if (f_firstPitch s v) = (-1) then
      0
    else
      1
theorem s_X11_hasYeast {X : Cx} {σ : Hp} {m0 : Nat} {v : Vw} {T E : Int} {s : Int} (hG : GM σ m0) (hI : IM v T E) (hs : 0 ≤ s ∧ s ≤ 3) : Ct X m_X11_hasYeast 3 [va_rf (some m0), .int (i32 s)] (Hm σ m0 v) (.inl (some (.int (i32 (f_hasYeast s v))))) (Hm σ m0 v) := by
  have hT := hI.1
  refine Ct.of (by decide +kernel) rfl (Nat.le_of_ble_eq_true rfl) (by simp [Value.category, va_rf]) ?_
  refine Ev.aload_n (i := 0) dX11_hasYeast_0 rfl rfl ?_
  refine Em.gA (k := 21) hG (by decide) (by decide) (tb6 (i := 231) rfl) rfl rfl dX11_hasYeast_1 ?_
  refine Ev.iload_n (i := 1) dX11_hasYeast_4 rfl rfl ?_
  have q1 : 0 ≤ v 21 s ∧ v 21 s ≤ 9 * T := hI.2 21 s
  refine Ex.iald (k := 21) (v 21 s) rfl hG (by decide) (by decide) rfl (by omega) (by show _ < ((4 : Nat) : Int); omega) (by decide) dX11_hasYeast_5 ?_
  refine Ei.if_gt (tgt := 18) dX11_hasYeast_6 (by decide) ⟨by omega, by omega⟩ (fun c2 => ?_) (fun c2 => ?_)
  · refine Ei.const dX11_hasYeast_18 ?_
    refine Ev.goto (tgt := 23) dX11_hasYeast_19 (by decide) ?_
    exact Ev.iretE rfl (nar_b (by omega)) dX11_hasYeast_23 (by rw [f_hasYeast, if_pos c2]; try rfl) (by first | rfl | (rw [f_hasYeast, if_pos c2]; try rfl))
  · refine Ev.aload_n (i := 0) dX11_hasYeast_9 rfl rfl ?_
    refine Ev.iload_n (i := 1) dX11_hasYeast_10 rfl rfl ?_
    refine Em.cv1 (As := [_]) hG k_X11_firstPitch (tb7 (i := 157) rfl) ki_X11_firstPitch kv_X11_firstPitch dX11_hasYeast_11 rfl rfl (Nat.le_of_ble_eq_true rfl) (by decide) (s_X11_firstPitch (s := s) hG hI (by show 0 ≤ s ∧ s ≤ 3; omega)) ?_
    have q3 := r_firstPitch hI s
    refine Ei.const dX11_hasYeast_14 ?_
    refine Ei.icmp_eq (tgt := 22) dX11_hasYeast_15 (by decide) ⟨by omega, by omega⟩ ⟨by omega, by omega⟩ (fun c4 => ?_) (fun c4 => ?_)
    · refine Ei.const dX11_hasYeast_22 ?_
      exact Ev.iretE rfl (nar_b (by omega)) dX11_hasYeast_23 (by rw [f_hasYeast, if_neg c2, if_pos c4]; try rfl) (by first | rfl | (rw [f_hasYeast, if_neg c2, if_pos c4]; try rfl))
    · refine Ei.const dX11_hasYeast_18 ?_
      refine Ev.goto (tgt := 23) dX11_hasYeast_19 (by decide) ?_
      exact Ev.iretE rfl (nar_b (by omega)) dX11_hasYeast_23 (by rw [f_hasYeast, if_neg c2, if_neg c4]; try rfl) (by first | rfl | (rw [f_hasYeast, if_neg c2, if_neg c4]; try rfl))
theorem r_hasYeast {s : Int} {v : Vw} : 0 ≤ f_hasYeast s v ∧ f_hasYeast s v ≤ 1 := by
  unfold f_hasYeast
  repeat' split
  all_goals omega
def f_nextGeneration (s : Int) (v : Vw) : Int × Vw :=
  if (f_in s 0 3) = 0 then
    ((f_fails 1 v).1, (f_fails 1 v).2)
  else
    if (f_hasYeast s v) = 0 then
      ((f_fails 2 v).1, (f_fails 2 v).2)
    else
      if (f_firstPitch s (upv v 0 0 0)) = (-1) then
        (0, (upv v 0 0 0))
      else
        ((v 23 (f_firstPitch s (upv v 0 0 0))), (upv v 0 0 0))
theorem s_X11_nextGeneration {X : Cx} {σ : Hp} {m0 : Nat} {v : Vw} {T E : Int} {s : Int} (hG : GM σ m0) (hI : IM v T E) (hs : -2147483648 ≤ s ∧ s < 2147483648) : Ct X m_X11_nextGeneration 4 [va_rf (some m0), .int (i32 s)] (Hm σ m0 v) (.inl (some (.int (i32 (f_nextGeneration s v).1)))) (Hm σ m0 (f_nextGeneration s v).2) := by
  have hT := hI.1
  refine Ct.of (by decide +kernel) rfl (Nat.le_of_ble_eq_true rfl) (by simp [Value.category, va_rf]) ?_
  refine Ev.iload_n (i := 1) dX11_nextGeneration_0 rfl rfl ?_
  refine Ei.const dX11_nextGeneration_1 ?_
  refine Ei.const dX11_nextGeneration_2 ?_
  refine Ev.cs1 (As := [_, _, _]) k_X11_in (tb7 (i := 122) rfl) ki_X11_in dX11_nextGeneration_3 rfl rfl (Nat.le_of_ble_eq_true rfl) (by decide) (s_X11_in (x := s) (a := 0) (b := 3)  (by show -2147483648 ≤ s ∧ s < 2147483648; omega) (by show -2147483648 ≤ 0 ∧ 0 < 2147483648; omega) (by show -2147483648 ≤ 3 ∧ 3 < 2147483648; omega)) ?_
  have q1 : 0 ≤ (f_in s 0 3) ∧ (f_in s 0 3) ≤ 1 := r_in
  have q2 := c_in s 0 3
  refine Ex.if_ne (tgt := 15) dX11_nextGeneration_6 (by decide) ⟨by omega, by omega⟩ (fun c3 => ?_) (fun c3 => ?_)
  · refine Ev.aload_n (i := 0) dX11_nextGeneration_9 rfl rfl ?_
    refine Ei.const dX11_nextGeneration_10 ?_
    refine Em.cv1 (As := [_]) hG k_X11_fails (tb7 (i := 125) rfl) ki_X11_fails kv_X11_fails dX11_nextGeneration_11 rfl rfl (Nat.le_of_ble_eq_true rfl) (by decide) (s_X11_fails (c := 1) hG hI (by show 0 ≤ 1 ∧ 1 ≤ 4; omega)) ?_
    have hJ4 := (i_fails (c := 1) hI (by show 0 ≤ 1 ∧ 1 ≤ 4; omega))
    exact Ev.iretE rfl nar_i dX11_nextGeneration_14 (by rw [f_nextGeneration, if_pos c3]; try rfl) (by first | rfl | (rw [f_nextGeneration, if_pos c3]; try rfl))
  · refine Ev.aload_n (i := 0) dX11_nextGeneration_15 rfl rfl ?_
    refine Ev.iload_n (i := 1) dX11_nextGeneration_16 rfl rfl ?_
    refine Em.cv1 (As := [_]) hG k_X11_hasYeast (tb7 (i := 153) rfl) ki_X11_hasYeast kv_X11_hasYeast dX11_nextGeneration_17 rfl rfl (Nat.le_of_ble_eq_true rfl) (by decide) (s_X11_hasYeast (s := s) hG hI (by show 0 ≤ s ∧ s ≤ 3; omega)) ?_
    have q5 : 0 ≤ (f_hasYeast s v) ∧ (f_hasYeast s v) ≤ 1 := r_hasYeast
    refine Ex.if_ne (tgt := 29) dX11_nextGeneration_20 (by decide) ⟨by omega, by omega⟩ (fun c6 => ?_) (fun c6 => ?_)
    · refine Ev.aload_n (i := 0) dX11_nextGeneration_23 rfl rfl ?_
      refine Ei.const dX11_nextGeneration_24 ?_
      refine Em.cv1 (As := [_]) hG k_X11_fails (tb7 (i := 125) rfl) ki_X11_fails kv_X11_fails dX11_nextGeneration_25 rfl rfl (Nat.le_of_ble_eq_true rfl) (by decide) (s_X11_fails (c := 2) hG hI (by show 0 ≤ 2 ∧ 2 ≤ 4; omega)) ?_
      have hJ7 := (i_fails (c := 2) hI (by show 0 ≤ 2 ∧ 2 ≤ 4; omega))
      exact Ev.iretE rfl nar_i dX11_nextGeneration_28 (by rw [f_nextGeneration, if_neg c3, if_pos c6]; try rfl) (by first | rfl | (rw [f_nextGeneration, if_neg c3, if_pos c6]; try rfl))
    · refine Ev.aload_n (i := 0) dX11_nextGeneration_29 rfl rfl ?_
      refine Ei.const dX11_nextGeneration_30 ?_
      refine Em.pS (k := 0) hG (by decide) (tb6 (i := 210) rfl) rfl rfl rfl rfl dX11_nextGeneration_31 ?_
      refine Ev.aload_n (i := 0) dX11_nextGeneration_34 rfl rfl ?_
      refine Ev.iload_n (i := 1) dX11_nextGeneration_35 rfl rfl ?_
      refine Em.cv1 (As := [_]) hG k_X11_firstPitch (tb7 (i := 157) rfl) ki_X11_firstPitch kv_X11_firstPitch dX11_nextGeneration_36 rfl rfl (Nat.le_of_ble_eq_true rfl) (by decide) (s_X11_firstPitch (s := s) hG (hI.up 0 0 0 (by show 0 ≤ 0 ∧ 0 ≤ 4; omega)) (by show 0 ≤ s ∧ s ≤ 3; omega)) ?_
      have q8 := r_firstPitch (hI.up 0 0 0 (by show 0 ≤ 0 ∧ 0 ≤ 4; omega)) s
      refine Ev.istore_n (i := 2) dX11_nextGeneration_39 rfl (by decide) ?_
      refine Ev.iload_n (i := 2) dX11_nextGeneration_40 rfl rfl ?_
      refine Ei.const dX11_nextGeneration_41 ?_
      refine Ex.icmp_ne (tgt := 49) dX11_nextGeneration_42 (by decide) ⟨by omega, by omega⟩ ⟨by omega, by omega⟩ (fun c9 => ?_) (fun c9 => ?_)
      · refine Ei.const dX11_nextGeneration_45 ?_
        refine Ev.goto (tgt := 55) dX11_nextGeneration_46 (by decide) ?_
        exact Ev.iretE rfl nar_i dX11_nextGeneration_55 (by rw [f_nextGeneration, if_neg c3, if_neg c6, if_pos c9]; try rfl) (by first | rfl | (rw [f_nextGeneration, if_neg c3, if_neg c6, if_pos c9]; try rfl))
      · refine Ev.aload_n (i := 0) dX11_nextGeneration_49 rfl rfl ?_
        refine Em.gA (k := 23) hG (by decide) (by decide) (tb6 (i := 233) rfl) rfl rfl dX11_nextGeneration_50 ?_
        refine Ev.iload_n (i := 2) dX11_nextGeneration_53 rfl rfl ?_
        have q10 : 0 ≤ v 23 (f_firstPitch s (upv v 0 0 0)) ∧ v 23 (f_firstPitch s (upv v 0 0 0)) ≤ 4 := hI.2 23 (f_firstPitch s (upv v 0 0 0))
        refine Ex.iald (k := 23) (v 23 (f_firstPitch s (upv v 0 0 0))) rfl hG (by decide) (by decide) rfl (by omega) (by show _ < ((60 : Nat) : Int); omega) (by decide) dX11_nextGeneration_54 ?_
        exact Ev.iretE rfl nar_i dX11_nextGeneration_55 (by rw [f_nextGeneration, if_neg c3, if_neg c6, if_neg c9]; try rfl) (by first | rfl | (rw [f_nextGeneration, if_neg c3, if_neg c6, if_neg c9]; try rfl))
theorem i_nextGeneration {v : Vw} {T E : Int} {s : Int} (hI : IM v T E) (hs : -2147483648 ≤ s ∧ s < 2147483648) : IM (f_nextGeneration s v).2 T (E) := by
  have hT := hI.1
  have q1 : 0 ≤ (f_in s 0 3) ∧ (f_in s 0 3) ≤ 1 := r_in
  have q2 := c_in s 0 3
  by_cases c3 : (f_in s 0 3) = 0
  · have hJ4 := (i_fails (c := 1) hI (by show 0 ≤ 1 ∧ 1 ≤ 4; omega))
    rw [f_nextGeneration, if_pos c3]
    exact hJ4
  · have q5 : 0 ≤ (f_hasYeast s v) ∧ (f_hasYeast s v) ≤ 1 := r_hasYeast
    by_cases c6 : (f_hasYeast s v) = 0
    · have hJ7 := (i_fails (c := 2) hI (by show 0 ≤ 2 ∧ 2 ≤ 4; omega))
      rw [f_nextGeneration, if_neg c3, if_pos c6]
      exact hJ7
    · have q8 := r_firstPitch (hI.up 0 0 0 (by show 0 ≤ 0 ∧ 0 ≤ 4; omega)) s
      by_cases c9 : (f_firstPitch s (upv v 0 0 0)) = (-1)
      · rw [f_nextGeneration, if_neg c3, if_neg c6, if_pos c9]
        exact (hI.up 0 0 0 (by show 0 ≤ 0 ∧ 0 ≤ 4; omega))
      · have q10 : 0 ≤ v 23 (f_firstPitch s (upv v 0 0 0)) ∧ v 23 (f_firstPitch s (upv v 0 0 0)) ≤ 4 := hI.2 23 (f_firstPitch s (upv v 0 0 0))
        rw [f_nextGeneration, if_neg c3, if_neg c6, if_neg c9]
        exact (hI.up 0 0 0 (by show 0 ≤ 0 ∧ 0 ≤ 4; omega))
theorem fr_nextGeneration {s : Int} {v : Vw} (fk : Nat) (fi : Int) (hk : fk ≠ 0) : (f_nextGeneration s v).2 fk fi = v fk fi := by
  by_cases c3 : (f_in s 0 3) = 0
  · rw [f_nextGeneration, if_pos c3]
    exact ((fr_fails (c := 1) (v := v) fk fi (by omega)).trans rfl)
  · by_cases c6 : (f_hasYeast s v) = 0
    · rw [f_nextGeneration, if_neg c3, if_pos c6]
      exact ((fr_fails (c := 2) (v := v) fk fi (by omega)).trans rfl)
    · by_cases c9 : (f_firstPitch s (upv v 0 0 0)) = (-1)
      · rw [f_nextGeneration, if_neg c3, if_neg c6, if_pos c9]
        exact ((upv_nk (by omega)).trans rfl)
      · rw [f_nextGeneration, if_neg c3, if_neg c6, if_neg c9]
        exact ((upv_nk (by omega)).trans rfl)
def f_starts (r w : Int) (v : Vw) : Vw :=
  if (f_firstPitch (v 12 r) v) = (-1) then
    if (v 19 w) = (-1) then
      (upv (upv (upv (upv (upv (upv (upv (upv (upv (upv v 21 (v 12 r) ((v 21 (v 12 r)) - 1)) 26 (v 5 0) r) 27 (v 5 0) 0) 28 (v 5 0) 0) 29 (v 5 0) w) 30 (v 5 0) ((v 13 r) + 0)) 15 w 1) 16 w (v 5 0)) 19 w (v 12 r)) 5 0 ((v 5 0) + 1))
    else
      if (v 19 w) = (v 12 r) then
        (upv (upv (upv (upv (upv (upv (upv (upv (upv (upv v 21 (v 12 r) ((v 21 (v 12 r)) - 1)) 26 (v 5 0) r) 27 (v 5 0) 0) 28 (v 5 0) 0) 29 (v 5 0) w) 30 (v 5 0) ((v 13 r) + 0)) 15 w 1) 16 w (v 5 0)) 19 w (v 12 r)) 5 0 ((v 5 0) + 1))
      else
        (upv (upv (upv (upv (upv (upv (upv (upv (upv (upv v 21 (v 12 r) ((v 21 (v 12 r)) - 1)) 26 (v 5 0) r) 27 (v 5 0) 0) 28 (v 5 0) 0) 29 (v 5 0) w) 30 (v 5 0) ((v 13 r) + 1)) 15 w 1) 16 w (v 5 0)) 19 w (v 12 r)) 5 0 ((v 5 0) + 1))
  else
    if (v 19 w) = (-1) then
      (upv (upv (upv (upv (upv (upv (upv (upv (upv (upv v 25 (f_firstPitch (v 12 r) v) 1) 26 (v 5 0) r) 27 (v 5 0) (v 23 (f_firstPitch (v 12 r) v))) 28 (v 5 0) 0) 29 (v 5 0) w) 30 (v 5 0) ((v 13 r) + 0)) 15 w 1) 16 w (v 5 0)) 19 w (v 12 r)) 5 0 ((v 5 0) + 1))
    else
      if (v 19 w) = (v 12 r) then
        (upv (upv (upv (upv (upv (upv (upv (upv (upv (upv v 25 (f_firstPitch (v 12 r) v) 1) 26 (v 5 0) r) 27 (v 5 0) (v 23 (f_firstPitch (v 12 r) v))) 28 (v 5 0) 0) 29 (v 5 0) w) 30 (v 5 0) ((v 13 r) + 0)) 15 w 1) 16 w (v 5 0)) 19 w (v 12 r)) 5 0 ((v 5 0) + 1))
      else
        (upv (upv (upv (upv (upv (upv (upv (upv (upv (upv v 25 (f_firstPitch (v 12 r) v) 1) 26 (v 5 0) r) 27 (v 5 0) (v 23 (f_firstPitch (v 12 r) v))) 28 (v 5 0) 0) 29 (v 5 0) w) 30 (v 5 0) ((v 13 r) + 1)) 15 w 1) 16 w (v 5 0)) 19 w (v 12 r)) 5 0 ((v 5 0) + 1))
theorem s_X11_starts {X : Cx} {σ : Hp} {m0 : Nat} {v : Vw} {T E : Int} {r w : Int} (hG : GM σ m0) (hI : IM v T E) (hr : 0 ≤ r ∧ r ≤ 4) (hw : 0 ≤ w ∧ w ≤ 7) (hb : v 5 0 ≤ 29) (hy : f_firstPitch (v 12 r) v = -1 → 1 ≤ v 21 (v 12 r)) : Ct X m_X11_starts 3 [va_rf (some m0), .int (i32 r), .int (i32 w)] (Hm σ m0 v) (.inl none) (Hm σ m0 (f_starts r w v)) := by
  have hT := hI.1
  refine Ct.of (by decide +kernel) rfl (Nat.le_of_ble_eq_true rfl) (by simp [Value.category, va_rf]) ?_
  have u5 : 0 ≤ v 5 0 ∧ v 5 0 ≤ 30 := hI.2 5 0
  refine Ev.aload_n (i := 0) dX11_starts_0 rfl rfl ?_
  refine Em.gA (k := 12) hG (by decide) (by decide) (tb6 (i := 222) rfl) rfl rfl dX11_starts_1 ?_
  refine Ev.iload_n (i := 1) dX11_starts_4 rfl rfl ?_
  have q1 : 0 ≤ v 12 r ∧ v 12 r ≤ 3 := hI.2 12 r
  refine Ex.iald (k := 12) (v 12 r) rfl hG (by decide) (by decide) rfl (by omega) (by show _ < ((5 : Nat) : Int); omega) (by decide) dX11_starts_5 ?_
  refine Ev.istore_n (i := 3) dX11_starts_6 rfl (by decide) ?_
  refine Ev.aload_n (i := 0) dX11_starts_7 rfl rfl ?_
  refine Ev.iload_n (i := 3) dX11_starts_8 rfl rfl ?_
  refine Em.cv1 (As := [_]) hG k_X11_firstPitch (tb7 (i := 157) rfl) ki_X11_firstPitch kv_X11_firstPitch dX11_starts_9 rfl rfl (Nat.le_of_ble_eq_true rfl) (by decide) (s_X11_firstPitch (s := (v 12 r)) hG hI (by show 0 ≤ (v 12 r) ∧ (v 12 r) ≤ 3; omega)) ?_
  have q2 := r_firstPitch hI (v 12 r)
  refine Ev.istore dX11_starts_12 (by decide) ?_
  refine Ev.iload dX11_starts_14 rfl ?_
  refine Ei.const dX11_starts_16 ?_
  refine Ex.icmp_ne (tgt := 33) dX11_starts_17 (by decide) ⟨by omega, by omega⟩ ⟨by omega, by omega⟩ (fun c3 => ?_) (fun c3 => ?_)
  · refine Ev.aload_n (i := 0) dX11_starts_20 rfl rfl ?_
    refine Em.gA (k := 21) hG (by decide) (by decide) (tb6 (i := 231) rfl) rfl rfl dX11_starts_21 ?_
    refine Ev.iload_n (i := 3) dX11_starts_24 rfl rfl ?_
    refine Ev.dup2 dX11_starts_25 rfl rfl ?_
    have q4 : 0 ≤ v 21 (v 12 r) ∧ v 21 (v 12 r) ≤ 9 * T := hI.2 21 (v 12 r)
    refine Ex.iald (k := 21) (v 21 (v 12 r)) rfl hG (by decide) (by decide) rfl (by omega) (by show _ < ((4 : Nat) : Int); omega) (by decide) dX11_starts_26 ?_
    refine Ei.const dX11_starts_27 ?_
    refine Ei.sub dX11_starts_28 ?_
    refine Em.iast (k := 21) hG (by decide) (by decide) rfl (by omega) (by show _ < ((4 : Nat) : Int); omega) (by decide) dX11_starts_29 ?_
    refine Ev.goto (tgt := 41) dX11_starts_30 (by decide) ?_
    refine Ev.aload_n (i := 0) dX11_starts_41 rfl rfl ?_
    refine Em.gA (k := 26) hG (by decide) (by decide) (tb6 (i := 236) rfl) rfl rfl dX11_starts_42 ?_
    refine Ev.aload_n (i := 0) dX11_starts_45 rfl rfl ?_
    refine Ex.gS (k := 5) (v 5 0) rfl hG (by decide) (tb6 (i := 215) rfl) rfl rfl dX11_starts_46 ?_
    refine Ev.iload_n (i := 1) dX11_starts_49 rfl rfl ?_
    refine Em.iast (k := 26) hG (by decide) (by decide) rfl (by omega) (by show _ < ((30 : Nat) : Int); omega) (by decide) dX11_starts_50 ?_
    refine Ev.aload_n (i := 0) dX11_starts_51 rfl rfl ?_
    refine Em.gA (k := 27) hG (by decide) (by decide) (tb6 (i := 237) rfl) rfl rfl dX11_starts_52 ?_
    refine Ev.aload_n (i := 0) dX11_starts_55 rfl rfl ?_
    refine Ex.gS (k := 5) (v 5 0) rfl hG (by decide) (tb6 (i := 215) rfl) rfl rfl dX11_starts_56 ?_
    refine Ev.iload dX11_starts_59 rfl ?_
    refine Ei.const dX11_starts_61 ?_
    refine Ei.icmp_ne_f (tgt := 69) dX11_starts_62 (by decide) ⟨by omega, by omega⟩ ⟨by omega, by omega⟩ (fun h => h c3) ?_
    refine Ei.const dX11_starts_65 ?_
    refine Ev.goto (tgt := 76) dX11_starts_66 (by decide) ?_
    refine Em.iast (k := 27) hG (by decide) (by decide) rfl (by omega) (by show _ < ((30 : Nat) : Int); omega) (by decide) dX11_starts_76 ?_
    refine Ev.aload_n (i := 0) dX11_starts_77 rfl rfl ?_
    refine Em.gA (k := 28) hG (by decide) (by decide) (tb6 (i := 238) rfl) rfl rfl dX11_starts_78 ?_
    refine Ev.aload_n (i := 0) dX11_starts_81 rfl rfl ?_
    refine Ex.gS (k := 5) (v 5 0) rfl hG (by decide) (tb6 (i := 215) rfl) rfl rfl dX11_starts_82 ?_
    refine Ei.const dX11_starts_85 ?_
    refine Em.iast (k := 28) hG (by decide) (by decide) rfl (by omega) (by show _ < ((30 : Nat) : Int); omega) (by decide) dX11_starts_86 ?_
    refine Ev.aload_n (i := 0) dX11_starts_87 rfl rfl ?_
    refine Em.gA (k := 29) hG (by decide) (by decide) (tb6 (i := 239) rfl) rfl rfl dX11_starts_88 ?_
    refine Ev.aload_n (i := 0) dX11_starts_91 rfl rfl ?_
    refine Ex.gS (k := 5) (v 5 0) rfl hG (by decide) (tb6 (i := 215) rfl) rfl rfl dX11_starts_92 ?_
    refine Ev.iload_n (i := 2) dX11_starts_95 rfl rfl ?_
    refine Em.iast (k := 29) hG (by decide) (by decide) rfl (by omega) (by show _ < ((30 : Nat) : Int); omega) (by decide) dX11_starts_96 ?_
    refine Ev.aload_n (i := 0) dX11_starts_97 rfl rfl ?_
    refine Em.gA (k := 30) hG (by decide) (by decide) (tb7 (i := 0) rfl) rfl rfl dX11_starts_98 ?_
    refine Ev.aload_n (i := 0) dX11_starts_101 rfl rfl ?_
    refine Ex.gS (k := 5) (v 5 0) rfl hG (by decide) (tb6 (i := 215) rfl) rfl rfl dX11_starts_102 ?_
    refine Ev.aload_n (i := 0) dX11_starts_105 rfl rfl ?_
    refine Em.gA (k := 13) hG (by decide) (by decide) (tb6 (i := 223) rfl) rfl rfl dX11_starts_106 ?_
    refine Ev.iload_n (i := 1) dX11_starts_109 rfl rfl ?_
    have q5 : 0 ≤ v 13 r ∧ v 13 r ≤ 14 := hI.2 13 r
    refine Ex.iald (k := 13) (v 13 r) rfl hG (by decide) (by decide) rfl (by omega) (by show _ < ((5 : Nat) : Int); omega) (by decide) dX11_starts_110 ?_
    refine Ev.aload_n (i := 0) dX11_starts_111 rfl rfl ?_
    refine Em.gA (k := 19) hG (by decide) (by decide) (tb6 (i := 229) rfl) rfl rfl dX11_starts_112 ?_
    refine Ev.iload_n (i := 2) dX11_starts_115 rfl rfl ?_
    have q6 : -1 ≤ v 19 w ∧ v 19 w ≤ 3 := hI.2 19 w
    refine Ex.iald (k := 19) (v 19 w) rfl hG (by decide) (by decide) rfl (by omega) (by show _ < ((8 : Nat) : Int); omega) (by decide) dX11_starts_116 ?_
    refine Ei.const dX11_starts_117 ?_
    refine Ei.icmp_eq (tgt := 135) dX11_starts_118 (by decide) ⟨by omega, by omega⟩ ⟨by omega, by omega⟩ (fun c7 => ?_) (fun c7 => ?_)
    · refine Ei.const dX11_starts_135 ?_
      refine Ei.add dX11_starts_136 ?_
      refine Em.iast (k := 30) hG (by decide) (by decide) rfl (by omega) (by show _ < ((30 : Nat) : Int); omega) (by decide) dX11_starts_137 ?_
      refine Ev.aload_n (i := 0) dX11_starts_138 rfl rfl ?_
      refine Em.gA (k := 15) hG (by decide) (by decide) (tb6 (i := 225) rfl) rfl rfl dX11_starts_139 ?_
      refine Ev.iload_n (i := 2) dX11_starts_142 rfl rfl ?_
      refine Ei.const dX11_starts_143 ?_
      refine Em.iast (k := 15) hG (by decide) (by decide) rfl (by omega) (by show _ < ((8 : Nat) : Int); omega) (by decide) dX11_starts_144 ?_
      refine Ev.aload_n (i := 0) dX11_starts_145 rfl rfl ?_
      refine Em.gA (k := 16) hG (by decide) (by decide) (tb6 (i := 226) rfl) rfl rfl dX11_starts_146 ?_
      refine Ev.iload_n (i := 2) dX11_starts_149 rfl rfl ?_
      refine Ev.aload_n (i := 0) dX11_starts_150 rfl rfl ?_
      refine Ex.gS (k := 5) (v 5 0) rfl hG (by decide) (tb6 (i := 215) rfl) rfl rfl dX11_starts_151 ?_
      refine Em.iast (k := 16) hG (by decide) (by decide) rfl (by omega) (by show _ < ((8 : Nat) : Int); omega) (by decide) dX11_starts_154 ?_
      refine Ev.aload_n (i := 0) dX11_starts_155 rfl rfl ?_
      refine Em.gA (k := 19) hG (by decide) (by decide) (tb6 (i := 229) rfl) rfl rfl dX11_starts_156 ?_
      refine Ev.iload_n (i := 2) dX11_starts_159 rfl rfl ?_
      refine Ev.iload_n (i := 3) dX11_starts_160 rfl rfl ?_
      refine Em.iast (k := 19) hG (by decide) (by decide) rfl (by omega) (by show _ < ((8 : Nat) : Int); omega) (by decide) dX11_starts_161 ?_
      refine Ev.aload_n (i := 0) dX11_starts_162 rfl rfl ?_
      refine Ev.dup dX11_starts_163 rfl ?_
      refine Ex.gS (k := 5) (v 5 0) rfl hG (by decide) (tb6 (i := 215) rfl) rfl rfl dX11_starts_164 ?_
      refine Ei.const dX11_starts_167 ?_
      refine Ei.add dX11_starts_168 ?_
      refine Em.pS (k := 5) hG (by decide) (tb6 (i := 215) rfl) rfl rfl rfl rfl dX11_starts_169 ?_
      exact Ev.vretE rfl dX11_starts_172 rfl (by first | rfl | (rw [f_starts, if_pos c3, if_pos c7]; try rfl))
    · refine Ev.aload_n (i := 0) dX11_starts_121 rfl rfl ?_
      refine Em.gA (k := 19) hG (by decide) (by decide) (tb6 (i := 229) rfl) rfl rfl dX11_starts_122 ?_
      refine Ev.iload_n (i := 2) dX11_starts_125 rfl rfl ?_
      refine Ex.iald (k := 19) (v 19 w) rfl hG (by decide) (by decide) rfl (by omega) (by show _ < ((8 : Nat) : Int); omega) (by decide) dX11_starts_126 ?_
      refine Ev.iload_n (i := 3) dX11_starts_127 rfl rfl ?_
      refine Ei.icmp_eq (tgt := 135) dX11_starts_128 (by decide) ⟨by omega, by omega⟩ ⟨by omega, by omega⟩ (fun c8 => ?_) (fun c8 => ?_)
      · refine Ei.const dX11_starts_135 ?_
        refine Ei.add dX11_starts_136 ?_
        refine Em.iast (k := 30) hG (by decide) (by decide) rfl (by omega) (by show _ < ((30 : Nat) : Int); omega) (by decide) dX11_starts_137 ?_
        refine Ev.aload_n (i := 0) dX11_starts_138 rfl rfl ?_
        refine Em.gA (k := 15) hG (by decide) (by decide) (tb6 (i := 225) rfl) rfl rfl dX11_starts_139 ?_
        refine Ev.iload_n (i := 2) dX11_starts_142 rfl rfl ?_
        refine Ei.const dX11_starts_143 ?_
        refine Em.iast (k := 15) hG (by decide) (by decide) rfl (by omega) (by show _ < ((8 : Nat) : Int); omega) (by decide) dX11_starts_144 ?_
        refine Ev.aload_n (i := 0) dX11_starts_145 rfl rfl ?_
        refine Em.gA (k := 16) hG (by decide) (by decide) (tb6 (i := 226) rfl) rfl rfl dX11_starts_146 ?_
        refine Ev.iload_n (i := 2) dX11_starts_149 rfl rfl ?_
        refine Ev.aload_n (i := 0) dX11_starts_150 rfl rfl ?_
        refine Ex.gS (k := 5) (v 5 0) rfl hG (by decide) (tb6 (i := 215) rfl) rfl rfl dX11_starts_151 ?_
        refine Em.iast (k := 16) hG (by decide) (by decide) rfl (by omega) (by show _ < ((8 : Nat) : Int); omega) (by decide) dX11_starts_154 ?_
        refine Ev.aload_n (i := 0) dX11_starts_155 rfl rfl ?_
        refine Em.gA (k := 19) hG (by decide) (by decide) (tb6 (i := 229) rfl) rfl rfl dX11_starts_156 ?_
        refine Ev.iload_n (i := 2) dX11_starts_159 rfl rfl ?_
        refine Ev.iload_n (i := 3) dX11_starts_160 rfl rfl ?_
        refine Em.iast (k := 19) hG (by decide) (by decide) rfl (by omega) (by show _ < ((8 : Nat) : Int); omega) (by decide) dX11_starts_161 ?_
        refine Ev.aload_n (i := 0) dX11_starts_162 rfl rfl ?_
        refine Ev.dup dX11_starts_163 rfl ?_
        refine Ex.gS (k := 5) (v 5 0) rfl hG (by decide) (tb6 (i := 215) rfl) rfl rfl dX11_starts_164 ?_
        refine Ei.const dX11_starts_167 ?_
        refine Ei.add dX11_starts_168 ?_
        refine Em.pS (k := 5) hG (by decide) (tb6 (i := 215) rfl) rfl rfl rfl rfl dX11_starts_169 ?_
        exact Ev.vretE rfl dX11_starts_172 rfl (by first | rfl | (rw [f_starts, if_pos c3, if_neg c7, if_pos c8]; try rfl))
      · refine Ei.const dX11_starts_131 ?_
        refine Ev.goto (tgt := 136) dX11_starts_132 (by decide) ?_
        refine Ei.add dX11_starts_136 ?_
        refine Em.iast (k := 30) hG (by decide) (by decide) rfl (by omega) (by show _ < ((30 : Nat) : Int); omega) (by decide) dX11_starts_137 ?_
        refine Ev.aload_n (i := 0) dX11_starts_138 rfl rfl ?_
        refine Em.gA (k := 15) hG (by decide) (by decide) (tb6 (i := 225) rfl) rfl rfl dX11_starts_139 ?_
        refine Ev.iload_n (i := 2) dX11_starts_142 rfl rfl ?_
        refine Ei.const dX11_starts_143 ?_
        refine Em.iast (k := 15) hG (by decide) (by decide) rfl (by omega) (by show _ < ((8 : Nat) : Int); omega) (by decide) dX11_starts_144 ?_
        refine Ev.aload_n (i := 0) dX11_starts_145 rfl rfl ?_
        refine Em.gA (k := 16) hG (by decide) (by decide) (tb6 (i := 226) rfl) rfl rfl dX11_starts_146 ?_
        refine Ev.iload_n (i := 2) dX11_starts_149 rfl rfl ?_
        refine Ev.aload_n (i := 0) dX11_starts_150 rfl rfl ?_
        refine Ex.gS (k := 5) (v 5 0) rfl hG (by decide) (tb6 (i := 215) rfl) rfl rfl dX11_starts_151 ?_
        refine Em.iast (k := 16) hG (by decide) (by decide) rfl (by omega) (by show _ < ((8 : Nat) : Int); omega) (by decide) dX11_starts_154 ?_
        refine Ev.aload_n (i := 0) dX11_starts_155 rfl rfl ?_
        refine Em.gA (k := 19) hG (by decide) (by decide) (tb6 (i := 229) rfl) rfl rfl dX11_starts_156 ?_
        refine Ev.iload_n (i := 2) dX11_starts_159 rfl rfl ?_
        refine Ev.iload_n (i := 3) dX11_starts_160 rfl rfl ?_
        refine Em.iast (k := 19) hG (by decide) (by decide) rfl (by omega) (by show _ < ((8 : Nat) : Int); omega) (by decide) dX11_starts_161 ?_
        refine Ev.aload_n (i := 0) dX11_starts_162 rfl rfl ?_
        refine Ev.dup dX11_starts_163 rfl ?_
        refine Ex.gS (k := 5) (v 5 0) rfl hG (by decide) (tb6 (i := 215) rfl) rfl rfl dX11_starts_164 ?_
        refine Ei.const dX11_starts_167 ?_
        refine Ei.add dX11_starts_168 ?_
        refine Em.pS (k := 5) hG (by decide) (tb6 (i := 215) rfl) rfl rfl rfl rfl dX11_starts_169 ?_
        exact Ev.vretE rfl dX11_starts_172 rfl (by first | rfl | (rw [f_starts, if_pos c3, if_neg c7, if_neg c8]; try rfl))
  · refine Ev.aload_n (i := 0) dX11_starts_33 rfl rfl ?_
    refine Em.gA (k := 25) hG (by decide) (by decide) (tb6 (i := 235) rfl) rfl rfl dX11_starts_34 ?_
    refine Ev.iload dX11_starts_37 rfl ?_
    refine Ei.const dX11_starts_39 ?_
    refine Em.zast (k := 25) hG (by decide) (by decide) rfl (by omega) (by show _ < ((60 : Nat) : Int); omega) (by decide) (by omega) dX11_starts_40 ?_
    refine Ev.aload_n (i := 0) dX11_starts_41 rfl rfl ?_
    refine Em.gA (k := 26) hG (by decide) (by decide) (tb6 (i := 236) rfl) rfl rfl dX11_starts_42 ?_
    refine Ev.aload_n (i := 0) dX11_starts_45 rfl rfl ?_
    refine Ex.gS (k := 5) (v 5 0) rfl hG (by decide) (tb6 (i := 215) rfl) rfl rfl dX11_starts_46 ?_
    refine Ev.iload_n (i := 1) dX11_starts_49 rfl rfl ?_
    refine Em.iast (k := 26) hG (by decide) (by decide) rfl (by omega) (by show _ < ((30 : Nat) : Int); omega) (by decide) dX11_starts_50 ?_
    refine Ev.aload_n (i := 0) dX11_starts_51 rfl rfl ?_
    refine Em.gA (k := 27) hG (by decide) (by decide) (tb6 (i := 237) rfl) rfl rfl dX11_starts_52 ?_
    refine Ev.aload_n (i := 0) dX11_starts_55 rfl rfl ?_
    refine Ex.gS (k := 5) (v 5 0) rfl hG (by decide) (tb6 (i := 215) rfl) rfl rfl dX11_starts_56 ?_
    refine Ev.iload dX11_starts_59 rfl ?_
    refine Ei.const dX11_starts_61 ?_
    refine Ei.icmp_ne_t (tgt := 69) dX11_starts_62 (by decide) ⟨by omega, by omega⟩ ⟨by omega, by omega⟩ c3 ?_
    refine Ev.aload_n (i := 0) dX11_starts_69 rfl rfl ?_
    refine Em.gA (k := 23) hG (by decide) (by decide) (tb6 (i := 233) rfl) rfl rfl dX11_starts_70 ?_
    refine Ev.iload dX11_starts_73 rfl ?_
    have q9 : 0 ≤ v 23 (f_firstPitch (v 12 r) v) ∧ v 23 (f_firstPitch (v 12 r) v) ≤ 4 := hI.2 23 (f_firstPitch (v 12 r) v)
    refine Ex.iald (k := 23) (v 23 (f_firstPitch (v 12 r) v)) rfl hG (by decide) (by decide) rfl (by omega) (by show _ < ((60 : Nat) : Int); omega) (by decide) dX11_starts_75 ?_
    refine Em.iast (k := 27) hG (by decide) (by decide) rfl (by omega) (by show _ < ((30 : Nat) : Int); omega) (by decide) dX11_starts_76 ?_
    refine Ev.aload_n (i := 0) dX11_starts_77 rfl rfl ?_
    refine Em.gA (k := 28) hG (by decide) (by decide) (tb6 (i := 238) rfl) rfl rfl dX11_starts_78 ?_
    refine Ev.aload_n (i := 0) dX11_starts_81 rfl rfl ?_
    refine Ex.gS (k := 5) (v 5 0) rfl hG (by decide) (tb6 (i := 215) rfl) rfl rfl dX11_starts_82 ?_
    refine Ei.const dX11_starts_85 ?_
    refine Em.iast (k := 28) hG (by decide) (by decide) rfl (by omega) (by show _ < ((30 : Nat) : Int); omega) (by decide) dX11_starts_86 ?_
    refine Ev.aload_n (i := 0) dX11_starts_87 rfl rfl ?_
    refine Em.gA (k := 29) hG (by decide) (by decide) (tb6 (i := 239) rfl) rfl rfl dX11_starts_88 ?_
    refine Ev.aload_n (i := 0) dX11_starts_91 rfl rfl ?_
    refine Ex.gS (k := 5) (v 5 0) rfl hG (by decide) (tb6 (i := 215) rfl) rfl rfl dX11_starts_92 ?_
    refine Ev.iload_n (i := 2) dX11_starts_95 rfl rfl ?_
    refine Em.iast (k := 29) hG (by decide) (by decide) rfl (by omega) (by show _ < ((30 : Nat) : Int); omega) (by decide) dX11_starts_96 ?_
    refine Ev.aload_n (i := 0) dX11_starts_97 rfl rfl ?_
    refine Em.gA (k := 30) hG (by decide) (by decide) (tb7 (i := 0) rfl) rfl rfl dX11_starts_98 ?_
    refine Ev.aload_n (i := 0) dX11_starts_101 rfl rfl ?_
    refine Ex.gS (k := 5) (v 5 0) rfl hG (by decide) (tb6 (i := 215) rfl) rfl rfl dX11_starts_102 ?_
    refine Ev.aload_n (i := 0) dX11_starts_105 rfl rfl ?_
    refine Em.gA (k := 13) hG (by decide) (by decide) (tb6 (i := 223) rfl) rfl rfl dX11_starts_106 ?_
    refine Ev.iload_n (i := 1) dX11_starts_109 rfl rfl ?_
    have q10 : 0 ≤ v 13 r ∧ v 13 r ≤ 14 := hI.2 13 r
    refine Ex.iald (k := 13) (v 13 r) rfl hG (by decide) (by decide) rfl (by omega) (by show _ < ((5 : Nat) : Int); omega) (by decide) dX11_starts_110 ?_
    refine Ev.aload_n (i := 0) dX11_starts_111 rfl rfl ?_
    refine Em.gA (k := 19) hG (by decide) (by decide) (tb6 (i := 229) rfl) rfl rfl dX11_starts_112 ?_
    refine Ev.iload_n (i := 2) dX11_starts_115 rfl rfl ?_
    have q11 : -1 ≤ v 19 w ∧ v 19 w ≤ 3 := hI.2 19 w
    refine Ex.iald (k := 19) (v 19 w) rfl hG (by decide) (by decide) rfl (by omega) (by show _ < ((8 : Nat) : Int); omega) (by decide) dX11_starts_116 ?_
    refine Ei.const dX11_starts_117 ?_
    refine Ei.icmp_eq (tgt := 135) dX11_starts_118 (by decide) ⟨by omega, by omega⟩ ⟨by omega, by omega⟩ (fun c12 => ?_) (fun c12 => ?_)
    · refine Ei.const dX11_starts_135 ?_
      refine Ei.add dX11_starts_136 ?_
      refine Em.iast (k := 30) hG (by decide) (by decide) rfl (by omega) (by show _ < ((30 : Nat) : Int); omega) (by decide) dX11_starts_137 ?_
      refine Ev.aload_n (i := 0) dX11_starts_138 rfl rfl ?_
      refine Em.gA (k := 15) hG (by decide) (by decide) (tb6 (i := 225) rfl) rfl rfl dX11_starts_139 ?_
      refine Ev.iload_n (i := 2) dX11_starts_142 rfl rfl ?_
      refine Ei.const dX11_starts_143 ?_
      refine Em.iast (k := 15) hG (by decide) (by decide) rfl (by omega) (by show _ < ((8 : Nat) : Int); omega) (by decide) dX11_starts_144 ?_
      refine Ev.aload_n (i := 0) dX11_starts_145 rfl rfl ?_
      refine Em.gA (k := 16) hG (by decide) (by decide) (tb6 (i := 226) rfl) rfl rfl dX11_starts_146 ?_
      refine Ev.iload_n (i := 2) dX11_starts_149 rfl rfl ?_
      refine Ev.aload_n (i := 0) dX11_starts_150 rfl rfl ?_
      refine Ex.gS (k := 5) (v 5 0) rfl hG (by decide) (tb6 (i := 215) rfl) rfl rfl dX11_starts_151 ?_
      refine Em.iast (k := 16) hG (by decide) (by decide) rfl (by omega) (by show _ < ((8 : Nat) : Int); omega) (by decide) dX11_starts_154 ?_
      refine Ev.aload_n (i := 0) dX11_starts_155 rfl rfl ?_
      refine Em.gA (k := 19) hG (by decide) (by decide) (tb6 (i := 229) rfl) rfl rfl dX11_starts_156 ?_
      refine Ev.iload_n (i := 2) dX11_starts_159 rfl rfl ?_
      refine Ev.iload_n (i := 3) dX11_starts_160 rfl rfl ?_
      refine Em.iast (k := 19) hG (by decide) (by decide) rfl (by omega) (by show _ < ((8 : Nat) : Int); omega) (by decide) dX11_starts_161 ?_
      refine Ev.aload_n (i := 0) dX11_starts_162 rfl rfl ?_
      refine Ev.dup dX11_starts_163 rfl ?_
      refine Ex.gS (k := 5) (v 5 0) rfl hG (by decide) (tb6 (i := 215) rfl) rfl rfl dX11_starts_164 ?_
      refine Ei.const dX11_starts_167 ?_
      refine Ei.add dX11_starts_168 ?_
      refine Em.pS (k := 5) hG (by decide) (tb6 (i := 215) rfl) rfl rfl rfl rfl dX11_starts_169 ?_
      exact Ev.vretE rfl dX11_starts_172 rfl (by first | rfl | (rw [f_starts, if_neg c3, if_pos c12]; try rfl))
    · refine Ev.aload_n (i := 0) dX11_starts_121 rfl rfl ?_
      refine Em.gA (k := 19) hG (by decide) (by decide) (tb6 (i := 229) rfl) rfl rfl dX11_starts_122 ?_
      refine Ev.iload_n (i := 2) dX11_starts_125 rfl rfl ?_
      refine Ex.iald (k := 19) (v 19 w) rfl hG (by decide) (by decide) rfl (by omega) (by show _ < ((8 : Nat) : Int); omega) (by decide) dX11_starts_126 ?_
      refine Ev.iload_n (i := 3) dX11_starts_127 rfl rfl ?_
      refine Ei.icmp_eq (tgt := 135) dX11_starts_128 (by decide) ⟨by omega, by omega⟩ ⟨by omega, by omega⟩ (fun c13 => ?_) (fun c13 => ?_)
      · refine Ei.const dX11_starts_135 ?_
        refine Ei.add dX11_starts_136 ?_
        refine Em.iast (k := 30) hG (by decide) (by decide) rfl (by omega) (by show _ < ((30 : Nat) : Int); omega) (by decide) dX11_starts_137 ?_
        refine Ev.aload_n (i := 0) dX11_starts_138 rfl rfl ?_
        refine Em.gA (k := 15) hG (by decide) (by decide) (tb6 (i := 225) rfl) rfl rfl dX11_starts_139 ?_
        refine Ev.iload_n (i := 2) dX11_starts_142 rfl rfl ?_
        refine Ei.const dX11_starts_143 ?_
        refine Em.iast (k := 15) hG (by decide) (by decide) rfl (by omega) (by show _ < ((8 : Nat) : Int); omega) (by decide) dX11_starts_144 ?_
        refine Ev.aload_n (i := 0) dX11_starts_145 rfl rfl ?_
        refine Em.gA (k := 16) hG (by decide) (by decide) (tb6 (i := 226) rfl) rfl rfl dX11_starts_146 ?_
        refine Ev.iload_n (i := 2) dX11_starts_149 rfl rfl ?_
        refine Ev.aload_n (i := 0) dX11_starts_150 rfl rfl ?_
        refine Ex.gS (k := 5) (v 5 0) rfl hG (by decide) (tb6 (i := 215) rfl) rfl rfl dX11_starts_151 ?_
        refine Em.iast (k := 16) hG (by decide) (by decide) rfl (by omega) (by show _ < ((8 : Nat) : Int); omega) (by decide) dX11_starts_154 ?_
        refine Ev.aload_n (i := 0) dX11_starts_155 rfl rfl ?_
        refine Em.gA (k := 19) hG (by decide) (by decide) (tb6 (i := 229) rfl) rfl rfl dX11_starts_156 ?_
        refine Ev.iload_n (i := 2) dX11_starts_159 rfl rfl ?_
        refine Ev.iload_n (i := 3) dX11_starts_160 rfl rfl ?_
        refine Em.iast (k := 19) hG (by decide) (by decide) rfl (by omega) (by show _ < ((8 : Nat) : Int); omega) (by decide) dX11_starts_161 ?_
        refine Ev.aload_n (i := 0) dX11_starts_162 rfl rfl ?_
        refine Ev.dup dX11_starts_163 rfl ?_
        refine Ex.gS (k := 5) (v 5 0) rfl hG (by decide) (tb6 (i := 215) rfl) rfl rfl dX11_starts_164 ?_
        refine Ei.const dX11_starts_167 ?_
        refine Ei.add dX11_starts_168 ?_
        refine Em.pS (k := 5) hG (by decide) (tb6 (i := 215) rfl) rfl rfl rfl rfl dX11_starts_169 ?_
        exact Ev.vretE rfl dX11_starts_172 rfl (by first | rfl | (rw [f_starts, if_neg c3, if_neg c12, if_pos c13]; try rfl))
      · refine Ei.const dX11_starts_131 ?_
        refine Ev.goto (tgt := 136) dX11_starts_132 (by decide) ?_
        refine Ei.add dX11_starts_136 ?_
        refine Em.iast (k := 30) hG (by decide) (by decide) rfl (by omega) (by show _ < ((30 : Nat) : Int); omega) (by decide) dX11_starts_137 ?_
        refine Ev.aload_n (i := 0) dX11_starts_138 rfl rfl ?_
        refine Em.gA (k := 15) hG (by decide) (by decide) (tb6 (i := 225) rfl) rfl rfl dX11_starts_139 ?_
        refine Ev.iload_n (i := 2) dX11_starts_142 rfl rfl ?_
        refine Ei.const dX11_starts_143 ?_
        refine Em.iast (k := 15) hG (by decide) (by decide) rfl (by omega) (by show _ < ((8 : Nat) : Int); omega) (by decide) dX11_starts_144 ?_
        refine Ev.aload_n (i := 0) dX11_starts_145 rfl rfl ?_
        refine Em.gA (k := 16) hG (by decide) (by decide) (tb6 (i := 226) rfl) rfl rfl dX11_starts_146 ?_
        refine Ev.iload_n (i := 2) dX11_starts_149 rfl rfl ?_
        refine Ev.aload_n (i := 0) dX11_starts_150 rfl rfl ?_
        refine Ex.gS (k := 5) (v 5 0) rfl hG (by decide) (tb6 (i := 215) rfl) rfl rfl dX11_starts_151 ?_
        refine Em.iast (k := 16) hG (by decide) (by decide) rfl (by omega) (by show _ < ((8 : Nat) : Int); omega) (by decide) dX11_starts_154 ?_
        refine Ev.aload_n (i := 0) dX11_starts_155 rfl rfl ?_
        refine Em.gA (k := 19) hG (by decide) (by decide) (tb6 (i := 229) rfl) rfl rfl dX11_starts_156 ?_
        refine Ev.iload_n (i := 2) dX11_starts_159 rfl rfl ?_
        refine Ev.iload_n (i := 3) dX11_starts_160 rfl rfl ?_
        refine Em.iast (k := 19) hG (by decide) (by decide) rfl (by omega) (by show _ < ((8 : Nat) : Int); omega) (by decide) dX11_starts_161 ?_
        refine Ev.aload_n (i := 0) dX11_starts_162 rfl rfl ?_
        refine Ev.dup dX11_starts_163 rfl ?_
        refine Ex.gS (k := 5) (v 5 0) rfl hG (by decide) (tb6 (i := 215) rfl) rfl rfl dX11_starts_164 ?_
        refine Ei.const dX11_starts_167 ?_
        refine Ei.add dX11_starts_168 ?_
        refine Em.pS (k := 5) hG (by decide) (tb6 (i := 215) rfl) rfl rfl rfl rfl dX11_starts_169 ?_
        exact Ev.vretE rfl dX11_starts_172 rfl (by first | rfl | (rw [f_starts, if_neg c3, if_neg c12, if_neg c13]; try rfl))
theorem i_starts {v : Vw} {T E : Int} {r w : Int} (hI : IM v T E) (hr : 0 ≤ r ∧ r ≤ 4) (hw : 0 ≤ w ∧ w ≤ 7) (hb : v 5 0 ≤ 29) (hy : f_firstPitch (v 12 r) v = -1 → 1 ≤ v 21 (v 12 r)) : IM (f_starts r w v) T (E) := by
  have hT := hI.1
  have u5 : 0 ≤ v 5 0 ∧ v 5 0 ≤ 30 := hI.2 5 0
  have q1 : 0 ≤ v 12 r ∧ v 12 r ≤ 3 := hI.2 12 r
  have q2 := r_firstPitch hI (v 12 r)
  by_cases c3 : (f_firstPitch (v 12 r) v) = (-1)
  · have q4 : 0 ≤ v 21 (v 12 r) ∧ v 21 (v 12 r) ≤ 9 * T := hI.2 21 (v 12 r)
    have q5 : 0 ≤ v 13 r ∧ v 13 r ≤ 14 := hI.2 13 r
    have q6 : -1 ≤ v 19 w ∧ v 19 w ≤ 3 := hI.2 19 w
    by_cases c7 : (v 19 w) = (-1)
    · rw [f_starts, if_pos c3, if_pos c7]
      exact ((((((((((hI.up 21 (v 12 r) ((v 21 (v 12 r)) - 1) (by show 0 ≤ ((v 21 (v 12 r)) - 1) ∧ ((v 21 (v 12 r)) - 1) ≤ 9 * T; omega)).up 26 (v 5 0) r (by show 0 ≤ r ∧ r ≤ 4; omega)).up 27 (v 5 0) 0 (by show 0 ≤ 0 ∧ 0 ≤ 4; omega)).up 28 (v 5 0) 0 (by show 0 ≤ 0 ∧ 0 ≤ 4; omega)).up 29 (v 5 0) w (by show 0 ≤ w ∧ w ≤ 7; omega)).up 30 (v 5 0) ((v 13 r) + 0) (by show 0 ≤ ((v 13 r) + 0) ∧ ((v 13 r) + 0) ≤ 15; omega)).up 15 w 1 (by show 0 ≤ 1 ∧ 1 ≤ 3; omega)).up 16 w (v 5 0) (by show 0 ≤ (v 5 0) ∧ (v 5 0) ≤ 29; omega)).up 19 w (v 12 r) (by show -1 ≤ (v 12 r) ∧ (v 12 r) ≤ 3; omega)).up 5 0 ((v 5 0) + 1) (by show 0 ≤ ((v 5 0) + 1) ∧ ((v 5 0) + 1) ≤ 30; omega))
    · by_cases c8 : (v 19 w) = (v 12 r)
      · rw [f_starts, if_pos c3, if_neg c7, if_pos c8]
        exact ((((((((((hI.up 21 (v 12 r) ((v 21 (v 12 r)) - 1) (by show 0 ≤ ((v 21 (v 12 r)) - 1) ∧ ((v 21 (v 12 r)) - 1) ≤ 9 * T; omega)).up 26 (v 5 0) r (by show 0 ≤ r ∧ r ≤ 4; omega)).up 27 (v 5 0) 0 (by show 0 ≤ 0 ∧ 0 ≤ 4; omega)).up 28 (v 5 0) 0 (by show 0 ≤ 0 ∧ 0 ≤ 4; omega)).up 29 (v 5 0) w (by show 0 ≤ w ∧ w ≤ 7; omega)).up 30 (v 5 0) ((v 13 r) + 0) (by show 0 ≤ ((v 13 r) + 0) ∧ ((v 13 r) + 0) ≤ 15; omega)).up 15 w 1 (by show 0 ≤ 1 ∧ 1 ≤ 3; omega)).up 16 w (v 5 0) (by show 0 ≤ (v 5 0) ∧ (v 5 0) ≤ 29; omega)).up 19 w (v 12 r) (by show -1 ≤ (v 12 r) ∧ (v 12 r) ≤ 3; omega)).up 5 0 ((v 5 0) + 1) (by show 0 ≤ ((v 5 0) + 1) ∧ ((v 5 0) + 1) ≤ 30; omega))
      · rw [f_starts, if_pos c3, if_neg c7, if_neg c8]
        exact ((((((((((hI.up 21 (v 12 r) ((v 21 (v 12 r)) - 1) (by show 0 ≤ ((v 21 (v 12 r)) - 1) ∧ ((v 21 (v 12 r)) - 1) ≤ 9 * T; omega)).up 26 (v 5 0) r (by show 0 ≤ r ∧ r ≤ 4; omega)).up 27 (v 5 0) 0 (by show 0 ≤ 0 ∧ 0 ≤ 4; omega)).up 28 (v 5 0) 0 (by show 0 ≤ 0 ∧ 0 ≤ 4; omega)).up 29 (v 5 0) w (by show 0 ≤ w ∧ w ≤ 7; omega)).up 30 (v 5 0) ((v 13 r) + 1) (by show 0 ≤ ((v 13 r) + 1) ∧ ((v 13 r) + 1) ≤ 15; omega)).up 15 w 1 (by show 0 ≤ 1 ∧ 1 ≤ 3; omega)).up 16 w (v 5 0) (by show 0 ≤ (v 5 0) ∧ (v 5 0) ≤ 29; omega)).up 19 w (v 12 r) (by show -1 ≤ (v 12 r) ∧ (v 12 r) ≤ 3; omega)).up 5 0 ((v 5 0) + 1) (by show 0 ≤ ((v 5 0) + 1) ∧ ((v 5 0) + 1) ≤ 30; omega))
  · have q9 : 0 ≤ v 23 (f_firstPitch (v 12 r) v) ∧ v 23 (f_firstPitch (v 12 r) v) ≤ 4 := hI.2 23 (f_firstPitch (v 12 r) v)
    have q10 : 0 ≤ v 13 r ∧ v 13 r ≤ 14 := hI.2 13 r
    have q11 : -1 ≤ v 19 w ∧ v 19 w ≤ 3 := hI.2 19 w
    by_cases c12 : (v 19 w) = (-1)
    · rw [f_starts, if_neg c3, if_pos c12]
      exact ((((((((((hI.up 25 (f_firstPitch (v 12 r) v) 1 (by show 0 ≤ 1 ∧ 1 ≤ 1; omega)).up 26 (v 5 0) r (by show 0 ≤ r ∧ r ≤ 4; omega)).up 27 (v 5 0) (v 23 (f_firstPitch (v 12 r) v)) (by show 0 ≤ (v 23 (f_firstPitch (v 12 r) v)) ∧ (v 23 (f_firstPitch (v 12 r) v)) ≤ 4; omega)).up 28 (v 5 0) 0 (by show 0 ≤ 0 ∧ 0 ≤ 4; omega)).up 29 (v 5 0) w (by show 0 ≤ w ∧ w ≤ 7; omega)).up 30 (v 5 0) ((v 13 r) + 0) (by show 0 ≤ ((v 13 r) + 0) ∧ ((v 13 r) + 0) ≤ 15; omega)).up 15 w 1 (by show 0 ≤ 1 ∧ 1 ≤ 3; omega)).up 16 w (v 5 0) (by show 0 ≤ (v 5 0) ∧ (v 5 0) ≤ 29; omega)).up 19 w (v 12 r) (by show -1 ≤ (v 12 r) ∧ (v 12 r) ≤ 3; omega)).up 5 0 ((v 5 0) + 1) (by show 0 ≤ ((v 5 0) + 1) ∧ ((v 5 0) + 1) ≤ 30; omega))
    · by_cases c13 : (v 19 w) = (v 12 r)
      · rw [f_starts, if_neg c3, if_neg c12, if_pos c13]
        exact ((((((((((hI.up 25 (f_firstPitch (v 12 r) v) 1 (by show 0 ≤ 1 ∧ 1 ≤ 1; omega)).up 26 (v 5 0) r (by show 0 ≤ r ∧ r ≤ 4; omega)).up 27 (v 5 0) (v 23 (f_firstPitch (v 12 r) v)) (by show 0 ≤ (v 23 (f_firstPitch (v 12 r) v)) ∧ (v 23 (f_firstPitch (v 12 r) v)) ≤ 4; omega)).up 28 (v 5 0) 0 (by show 0 ≤ 0 ∧ 0 ≤ 4; omega)).up 29 (v 5 0) w (by show 0 ≤ w ∧ w ≤ 7; omega)).up 30 (v 5 0) ((v 13 r) + 0) (by show 0 ≤ ((v 13 r) + 0) ∧ ((v 13 r) + 0) ≤ 15; omega)).up 15 w 1 (by show 0 ≤ 1 ∧ 1 ≤ 3; omega)).up 16 w (v 5 0) (by show 0 ≤ (v 5 0) ∧ (v 5 0) ≤ 29; omega)).up 19 w (v 12 r) (by show -1 ≤ (v 12 r) ∧ (v 12 r) ≤ 3; omega)).up 5 0 ((v 5 0) + 1) (by show 0 ≤ ((v 5 0) + 1) ∧ ((v 5 0) + 1) ≤ 30; omega))
      · rw [f_starts, if_neg c3, if_neg c12, if_neg c13]
        exact ((((((((((hI.up 25 (f_firstPitch (v 12 r) v) 1 (by show 0 ≤ 1 ∧ 1 ≤ 1; omega)).up 26 (v 5 0) r (by show 0 ≤ r ∧ r ≤ 4; omega)).up 27 (v 5 0) (v 23 (f_firstPitch (v 12 r) v)) (by show 0 ≤ (v 23 (f_firstPitch (v 12 r) v)) ∧ (v 23 (f_firstPitch (v 12 r) v)) ≤ 4; omega)).up 28 (v 5 0) 0 (by show 0 ≤ 0 ∧ 0 ≤ 4; omega)).up 29 (v 5 0) w (by show 0 ≤ w ∧ w ≤ 7; omega)).up 30 (v 5 0) ((v 13 r) + 1) (by show 0 ≤ ((v 13 r) + 1) ∧ ((v 13 r) + 1) ≤ 15; omega)).up 15 w 1 (by show 0 ≤ 1 ∧ 1 ≤ 3; omega)).up 16 w (v 5 0) (by show 0 ≤ (v 5 0) ∧ (v 5 0) ≤ 29; omega)).up 19 w (v 12 r) (by show -1 ≤ (v 12 r) ∧ (v 12 r) ≤ 3; omega)).up 5 0 ((v 5 0) + 1) (by show 0 ≤ ((v 5 0) + 1) ∧ ((v 5 0) + 1) ≤ 30; omega))
theorem fr_starts {r w : Int} {v : Vw} (fk : Nat) (fi : Int) (hk : fk ≠ 5 ∧ fk ≠ 15 ∧ fk ≠ 16 ∧ fk ≠ 19 ∧ fk ≠ 21 ∧ fk ≠ 25 ∧ fk ≠ 26 ∧ fk ≠ 27 ∧ fk ≠ 28 ∧ fk ≠ 29 ∧ fk ≠ 30) : (f_starts r w v) fk fi = v fk fi := by
  by_cases c3 : (f_firstPitch (v 12 r) v) = (-1)
  · by_cases c7 : (v 19 w) = (-1)
    · rw [f_starts, if_pos c3, if_pos c7]
      exact ((upv_nk (by omega)).trans ((upv_nk (by omega)).trans ((upv_nk (by omega)).trans ((upv_nk (by omega)).trans ((upv_nk (by omega)).trans ((upv_nk (by omega)).trans ((upv_nk (by omega)).trans ((upv_nk (by omega)).trans ((upv_nk (by omega)).trans ((upv_nk (by omega)).trans rfl))))))))))
    · by_cases c8 : (v 19 w) = (v 12 r)
      · rw [f_starts, if_pos c3, if_neg c7, if_pos c8]
        exact ((upv_nk (by omega)).trans ((upv_nk (by omega)).trans ((upv_nk (by omega)).trans ((upv_nk (by omega)).trans ((upv_nk (by omega)).trans ((upv_nk (by omega)).trans ((upv_nk (by omega)).trans ((upv_nk (by omega)).trans ((upv_nk (by omega)).trans ((upv_nk (by omega)).trans rfl))))))))))
      · rw [f_starts, if_pos c3, if_neg c7, if_neg c8]
        exact ((upv_nk (by omega)).trans ((upv_nk (by omega)).trans ((upv_nk (by omega)).trans ((upv_nk (by omega)).trans ((upv_nk (by omega)).trans ((upv_nk (by omega)).trans ((upv_nk (by omega)).trans ((upv_nk (by omega)).trans ((upv_nk (by omega)).trans ((upv_nk (by omega)).trans rfl))))))))))
  · by_cases c12 : (v 19 w) = (-1)
    · rw [f_starts, if_neg c3, if_pos c12]
      exact ((upv_nk (by omega)).trans ((upv_nk (by omega)).trans ((upv_nk (by omega)).trans ((upv_nk (by omega)).trans ((upv_nk (by omega)).trans ((upv_nk (by omega)).trans ((upv_nk (by omega)).trans ((upv_nk (by omega)).trans ((upv_nk (by omega)).trans ((upv_nk (by omega)).trans rfl))))))))))
    · by_cases c13 : (v 19 w) = (v 12 r)
      · rw [f_starts, if_neg c3, if_neg c12, if_pos c13]
        exact ((upv_nk (by omega)).trans ((upv_nk (by omega)).trans ((upv_nk (by omega)).trans ((upv_nk (by omega)).trans ((upv_nk (by omega)).trans ((upv_nk (by omega)).trans ((upv_nk (by omega)).trans ((upv_nk (by omega)).trans ((upv_nk (by omega)).trans ((upv_nk (by omega)).trans rfl))))))))))
      · rw [f_starts, if_neg c3, if_neg c12, if_neg c13]
        exact ((upv_nk (by omega)).trans ((upv_nk (by omega)).trans ((upv_nk (by omega)).trans ((upv_nk (by omega)).trans ((upv_nk (by omega)).trans ((upv_nk (by omega)).trans ((upv_nk (by omega)).trans ((upv_nk (by omega)).trans ((upv_nk (by omega)).trans ((upv_nk (by omega)).trans rfl))))))))))
def f_addPacks (a b : Int) (v : Vw) : Int × Vw :=
  if (f_in a 0 3) = 0 then
    ((f_fails 1 v).1, (f_fails 1 v).2)
  else
    if (f_in b 1 9) = 0 then
      ((f_fails 1 v).1, (f_fails 1 v).2)
    else
      ((((v 21 a) + b)), (upv (upv v 0 0 0) 21 a ((v 21 a) + b)))
theorem s_X11_addPacks {X : Cx} {σ : Hp} {m0 : Nat} {v : Vw} {T E : Int} {a b : Int} (hG : GM σ m0) (hI : IM v T E) (ha : -2147483648 ≤ a ∧ a < 2147483648) (hb : -2147483648 ≤ b ∧ b < 2147483648) (hpk : 0 ≤ a → a ≤ 3 → v 21 a + 9 ≤ 9 * T) : Ct X m_X11_addPacks 2 [va_rf (some m0), .int (i32 a), .int (i32 b)] (Hm σ m0 v) (.inl (some (.int (i32 (f_addPacks a b v).1)))) (Hm σ m0 (f_addPacks a b v).2) := by
  have hT := hI.1
  refine Ct.of (by decide +kernel) rfl (Nat.le_of_ble_eq_true rfl) (by simp [Value.category, va_rf]) ?_
  refine Ev.iload_n (i := 1) dX11_addPacks_0 rfl rfl ?_
  refine Ei.const dX11_addPacks_1 ?_
  refine Ei.const dX11_addPacks_2 ?_
  refine Ev.cs1 (As := [_, _, _]) k_X11_in (tb7 (i := 122) rfl) ki_X11_in dX11_addPacks_3 rfl rfl (Nat.le_of_ble_eq_true rfl) (by decide) (s_X11_in (x := a) (a := 0) (b := 3)  (by show -2147483648 ≤ a ∧ a < 2147483648; omega) (by show -2147483648 ≤ 0 ∧ 0 < 2147483648; omega) (by show -2147483648 ≤ 3 ∧ 3 < 2147483648; omega)) ?_
  have q1 : 0 ≤ (f_in a 0 3) ∧ (f_in a 0 3) ≤ 1 := r_in
  have q2 := c_in a 0 3
  refine Ei.if_eq (tgt := 19) dX11_addPacks_6 (by decide) ⟨by omega, by omega⟩ (fun c3 => ?_) (fun c3 => ?_)
  · refine Ev.aload_n (i := 0) dX11_addPacks_19 rfl rfl ?_
    refine Ei.const dX11_addPacks_20 ?_
    refine Em.cv1 (As := [_]) hG k_X11_fails (tb7 (i := 125) rfl) ki_X11_fails kv_X11_fails dX11_addPacks_21 rfl rfl (Nat.le_of_ble_eq_true rfl) (by decide) (s_X11_fails (c := 1) hG hI (by show 0 ≤ 1 ∧ 1 ≤ 4; omega)) ?_
    have hJ4 := (i_fails (c := 1) hI (by show 0 ≤ 1 ∧ 1 ≤ 4; omega))
    exact Ev.iretE rfl nar_i dX11_addPacks_24 (by rw [f_addPacks, if_pos c3]; try rfl) (by first | rfl | (rw [f_addPacks, if_pos c3]; try rfl))
  · refine Ev.iload_n (i := 2) dX11_addPacks_9 rfl rfl ?_
    refine Ei.const dX11_addPacks_10 ?_
    refine Ev.bipush (v := i32 9) dX11_addPacks_11 (by decide) ?_
    refine Ev.cs1 (As := [_, _, _]) k_X11_in (tb7 (i := 122) rfl) ki_X11_in dX11_addPacks_13 rfl rfl (Nat.le_of_ble_eq_true rfl) (by decide) (s_X11_in (x := b) (a := 1) (b := 9)  (by show -2147483648 ≤ b ∧ b < 2147483648; omega) (by show -2147483648 ≤ 1 ∧ 1 < 2147483648; omega) (by show -2147483648 ≤ 9 ∧ 9 < 2147483648; omega)) ?_
    have q5 : 0 ≤ (f_in b 1 9) ∧ (f_in b 1 9) ≤ 1 := r_in
    have q6 := c_in b 1 9
    refine Ex.if_ne (tgt := 25) dX11_addPacks_16 (by decide) ⟨by omega, by omega⟩ (fun c7 => ?_) (fun c7 => ?_)
    · refine Ev.aload_n (i := 0) dX11_addPacks_19 rfl rfl ?_
      refine Ei.const dX11_addPacks_20 ?_
      refine Em.cv1 (As := [_]) hG k_X11_fails (tb7 (i := 125) rfl) ki_X11_fails kv_X11_fails dX11_addPacks_21 rfl rfl (Nat.le_of_ble_eq_true rfl) (by decide) (s_X11_fails (c := 1) hG hI (by show 0 ≤ 1 ∧ 1 ≤ 4; omega)) ?_
      have hJ8 := (i_fails (c := 1) hI (by show 0 ≤ 1 ∧ 1 ≤ 4; omega))
      exact Ev.iretE rfl nar_i dX11_addPacks_24 (by rw [f_addPacks, if_neg c3, if_pos c7]; try rfl) (by first | rfl | (rw [f_addPacks, if_neg c3, if_pos c7]; try rfl))
    · refine Ev.aload_n (i := 0) dX11_addPacks_25 rfl rfl ?_
      refine Ei.const dX11_addPacks_26 ?_
      refine Em.pS (k := 0) hG (by decide) (tb6 (i := 210) rfl) rfl rfl rfl rfl dX11_addPacks_27 ?_
      refine Ev.aload_n (i := 0) dX11_addPacks_30 rfl rfl ?_
      refine Em.gA (k := 21) hG (by decide) (by decide) (tb6 (i := 231) rfl) rfl rfl dX11_addPacks_31 ?_
      refine Ev.iload_n (i := 1) dX11_addPacks_34 rfl rfl ?_
      refine Ev.dup2 dX11_addPacks_35 rfl rfl ?_
      have q9 : 0 ≤ v 21 a ∧ v 21 a ≤ 9 * T := hI.2 21 a
      refine Ex.iald (k := 21) (v 21 a) rfl hG (by decide) (by decide) rfl (by omega) (by show _ < ((4 : Nat) : Int); omega) (by decide) dX11_addPacks_36 ?_
      refine Ev.iload_n (i := 2) dX11_addPacks_37 rfl rfl ?_
      refine Ei.add dX11_addPacks_38 ?_
      refine Em.iast (k := 21) hG (by decide) (by decide) rfl (by omega) (by show _ < ((4 : Nat) : Int); omega) (by decide) dX11_addPacks_39 ?_
      refine Ev.aload_n (i := 0) dX11_addPacks_40 rfl rfl ?_
      refine Em.gA (k := 21) hG (by decide) (by decide) (tb6 (i := 231) rfl) rfl rfl dX11_addPacks_41 ?_
      refine Ev.iload_n (i := 1) dX11_addPacks_44 rfl rfl ?_
      refine Ex.iald (k := 21) (((v 21 a) + b)) (by simp [upv]) hG (by decide) (by decide) rfl (by omega) (by show _ < ((4 : Nat) : Int); omega) (by decide) dX11_addPacks_45 ?_
      exact Ev.iretE rfl nar_i dX11_addPacks_46 (by rw [f_addPacks, if_neg c3, if_neg c7]; try rfl) (by first | rfl | (rw [f_addPacks, if_neg c3, if_neg c7]; try rfl))
theorem i_addPacks {v : Vw} {T E : Int} {a b : Int} (hI : IM v T E) (ha : -2147483648 ≤ a ∧ a < 2147483648) (hb : -2147483648 ≤ b ∧ b < 2147483648) (hpk : 0 ≤ a → a ≤ 3 → v 21 a + 9 ≤ 9 * T) : IM (f_addPacks a b v).2 T (E) := by
  have hT := hI.1
  have q1 : 0 ≤ (f_in a 0 3) ∧ (f_in a 0 3) ≤ 1 := r_in
  have q2 := c_in a 0 3
  by_cases c3 : (f_in a 0 3) = 0
  · have hJ4 := (i_fails (c := 1) hI (by show 0 ≤ 1 ∧ 1 ≤ 4; omega))
    rw [f_addPacks, if_pos c3]
    exact hJ4
  · have q5 : 0 ≤ (f_in b 1 9) ∧ (f_in b 1 9) ≤ 1 := r_in
    have q6 := c_in b 1 9
    by_cases c7 : (f_in b 1 9) = 0
    · have hJ8 := (i_fails (c := 1) hI (by show 0 ≤ 1 ∧ 1 ≤ 4; omega))
      rw [f_addPacks, if_neg c3, if_pos c7]
      exact hJ8
    · have q9 : 0 ≤ v 21 a ∧ v 21 a ≤ 9 * T := hI.2 21 a
      rw [f_addPacks, if_neg c3, if_neg c7]
      exact ((hI.up 0 0 0 (by show 0 ≤ 0 ∧ 0 ≤ 4; omega)).up 21 a ((v 21 a) + b) (by show 0 ≤ ((v 21 a) + b) ∧ ((v 21 a) + b) ≤ 9 * T; omega))
theorem fr_addPacks {a b : Int} {v : Vw} (fk : Nat) (fi : Int) (hk : fk ≠ 0 ∧ fk ≠ 21) : (f_addPacks a b v).2 fk fi = v fk fi := by
  by_cases c3 : (f_in a 0 3) = 0
  · rw [f_addPacks, if_pos c3]
    exact ((fr_fails (c := 1) (v := v) fk fi (by omega)).trans rfl)
  · by_cases c7 : (f_in b 1 9) = 0
    · rw [f_addPacks, if_neg c3, if_pos c7]
      exact ((fr_fails (c := 1) (v := v) fk fi (by omega)).trans rfl)
    · rw [f_addPacks, if_neg c3, if_neg c7]
      exact ((upv_nk (by omega)).trans ((upv_nk (by omega)).trans rfl))
def f_enqueue (a : Int) (v : Vw) : Int × Vw :=
  if (f_isRecipe a v) = 0 then
    ((f_fails 1 v).1, (f_fails 1 v).2)
  else
    if (v 7 0) = 6 then
      ((f_fails 2 v).1, (f_fails 2 v).2)
    else
      if ((v 5 0) + (v 7 0)) < 30 then
        (((v 7 0) + 1), (upv (upv (upv v 0 0 0) 39 (v 7 0) a) 7 0 ((v 7 0) + 1)))
      else
        ((f_fails 2 v).1, (f_fails 2 v).2)
theorem s_X11_enqueue {X : Cx} {σ : Hp} {m0 : Nat} {v : Vw} {T E : Int} {a : Int} (hG : GM σ m0) (hI : IM v T E) (ha : -2147483648 ≤ a ∧ a < 2147483648) (hrc : v 1 0 ≤ 5) : Ct X m_X11_enqueue 3 [va_rf (some m0), .int (i32 a)] (Hm σ m0 v) (.inl (some (.int (i32 (f_enqueue a v).1)))) (Hm σ m0 (f_enqueue a v).2) := by
  have hT := hI.1
  refine Ct.of (by decide +kernel) rfl (Nat.le_of_ble_eq_true rfl) (by simp [Value.category, va_rf]) ?_
  have u1 : 0 ≤ v 1 0 ∧ v 1 0 ≤ 5 := hI.2 1 0
  refine Ev.aload_n (i := 0) dX11_enqueue_0 rfl rfl ?_
  refine Ev.iload_n (i := 1) dX11_enqueue_1 rfl rfl ?_
  refine Em.cv1 (As := [_]) hG k_X11_isRecipe (tb7 (i := 165) rfl) ki_X11_isRecipe kv_X11_isRecipe dX11_enqueue_2 rfl rfl (Nat.le_of_ble_eq_true rfl) (by decide) (s_X11_isRecipe (x := a) hG hI (by show -2147483648 ≤ a ∧ a < 2147483648; omega)) ?_
  have q1 : 0 ≤ (f_isRecipe a v) ∧ (f_isRecipe a v) ≤ 1 := r_isRecipe
  have q2 : ((f_isRecipe a v) = 1 ∧ 0 ≤ a ∧ a < (v 1 0)) ∨ ((f_isRecipe a v) = 0 ∧ ¬ (0 ≤ a ∧ a < (v 1 0))) := c_isRecipe a v
  have q3 : 0 ≤ (v 1 0) ∧ (v 1 0) ≤ 5 := hI.2 1 0
  refine Ex.if_ne (tgt := 14) dX11_enqueue_5 (by decide) ⟨by omega, by omega⟩ (fun c4 => ?_) (fun c4 => ?_)
  · refine Ev.aload_n (i := 0) dX11_enqueue_8 rfl rfl ?_
    refine Ei.const dX11_enqueue_9 ?_
    refine Em.cv1 (As := [_]) hG k_X11_fails (tb7 (i := 125) rfl) ki_X11_fails kv_X11_fails dX11_enqueue_10 rfl rfl (Nat.le_of_ble_eq_true rfl) (by decide) (s_X11_fails (c := 1) hG hI (by show 0 ≤ 1 ∧ 1 ≤ 4; omega)) ?_
    have hJ5 := (i_fails (c := 1) hI (by show 0 ≤ 1 ∧ 1 ≤ 4; omega))
    exact Ev.iretE rfl nar_i dX11_enqueue_13 (by rw [f_enqueue, if_pos c4]; try rfl) (by first | rfl | (rw [f_enqueue, if_pos c4]; try rfl))
  · refine Ev.aload_n (i := 0) dX11_enqueue_14 rfl rfl ?_
    have q6 : 0 ≤ v 7 0 ∧ v 7 0 ≤ 6 := hI.2 7 0
    refine Ex.gS (k := 7) (v 7 0) rfl hG (by decide) (tb6 (i := 217) rfl) rfl rfl dX11_enqueue_15 ?_
    refine Ev.bipush (v := i32 6) dX11_enqueue_18 (by decide) ?_
    refine Ei.icmp_eq (tgt := 37) dX11_enqueue_20 (by decide) ⟨by omega, by omega⟩ ⟨by omega, by omega⟩ (fun c7 => ?_) (fun c7 => ?_)
    · refine Ev.aload_n (i := 0) dX11_enqueue_37 rfl rfl ?_
      refine Ei.const dX11_enqueue_38 ?_
      refine Em.cv1 (As := [_]) hG k_X11_fails (tb7 (i := 125) rfl) ki_X11_fails kv_X11_fails dX11_enqueue_39 rfl rfl (Nat.le_of_ble_eq_true rfl) (by decide) (s_X11_fails (c := 2) hG hI (by show 0 ≤ 2 ∧ 2 ≤ 4; omega)) ?_
      have hJ8 := (i_fails (c := 2) hI (by show 0 ≤ 2 ∧ 2 ≤ 4; omega))
      exact Ev.iretE rfl nar_i dX11_enqueue_42 (by rw [f_enqueue, if_neg c4, if_pos c7]; try rfl) (by first | rfl | (rw [f_enqueue, if_neg c4, if_pos c7]; try rfl))
    · refine Ev.aload_n (i := 0) dX11_enqueue_23 rfl rfl ?_
      have q9 : 0 ≤ v 5 0 ∧ v 5 0 ≤ 30 := hI.2 5 0
      refine Ex.gS (k := 5) (v 5 0) rfl hG (by decide) (tb6 (i := 215) rfl) rfl rfl dX11_enqueue_24 ?_
      refine Ev.aload_n (i := 0) dX11_enqueue_27 rfl rfl ?_
      refine Ex.gS (k := 7) (v 7 0) rfl hG (by decide) (tb6 (i := 217) rfl) rfl rfl dX11_enqueue_28 ?_
      refine Ei.add dX11_enqueue_31 ?_
      refine Ev.bipush (v := i32 30) dX11_enqueue_32 (by decide) ?_
      refine Ei.icmp_lt (tgt := 43) dX11_enqueue_34 (by decide) ⟨by omega, by omega⟩ ⟨by omega, by omega⟩ (fun c10 => ?_) (fun c10 => ?_)
      · refine Ev.aload_n (i := 0) dX11_enqueue_43 rfl rfl ?_
        refine Ei.const dX11_enqueue_44 ?_
        refine Em.pS (k := 0) hG (by decide) (tb6 (i := 210) rfl) rfl rfl rfl rfl dX11_enqueue_45 ?_
        refine Ev.aload_n (i := 0) dX11_enqueue_48 rfl rfl ?_
        refine Em.gA (k := 39) hG (by decide) (by decide) (tb7 (i := 9) rfl) rfl rfl dX11_enqueue_49 ?_
        refine Ev.aload_n (i := 0) dX11_enqueue_52 rfl rfl ?_
        refine Ex.gS (k := 7) (v 7 0) rfl hG (by decide) (tb6 (i := 217) rfl) rfl rfl dX11_enqueue_53 ?_
        refine Ev.iload_n (i := 1) dX11_enqueue_56 rfl rfl ?_
        refine Em.iast (k := 39) hG (by decide) (by decide) rfl (by omega) (by show _ < ((6 : Nat) : Int); omega) (by decide) dX11_enqueue_57 ?_
        refine Ev.aload_n (i := 0) dX11_enqueue_58 rfl rfl ?_
        refine Ev.dup dX11_enqueue_59 rfl ?_
        refine Ex.gS (k := 7) (v 7 0) rfl hG (by decide) (tb6 (i := 217) rfl) rfl rfl dX11_enqueue_60 ?_
        refine Ei.const dX11_enqueue_63 ?_
        refine Ei.add dX11_enqueue_64 ?_
        refine Em.pS (k := 7) hG (by decide) (tb6 (i := 217) rfl) rfl rfl rfl rfl dX11_enqueue_65 ?_
        refine Ev.aload_n (i := 0) dX11_enqueue_68 rfl rfl ?_
        refine Ex.gS (k := 7) (((v 7 0) + 1)) rfl hG (by decide) (tb6 (i := 217) rfl) rfl rfl dX11_enqueue_69 ?_
        exact Ev.iretE rfl nar_i dX11_enqueue_72 (by rw [f_enqueue, if_neg c4, if_neg c7, if_pos c10]; try rfl) (by first | rfl | (rw [f_enqueue, if_neg c4, if_neg c7, if_pos c10]; try rfl))
      · refine Ev.aload_n (i := 0) dX11_enqueue_37 rfl rfl ?_
        refine Ei.const dX11_enqueue_38 ?_
        refine Em.cv1 (As := [_]) hG k_X11_fails (tb7 (i := 125) rfl) ki_X11_fails kv_X11_fails dX11_enqueue_39 rfl rfl (Nat.le_of_ble_eq_true rfl) (by decide) (s_X11_fails (c := 2) hG hI (by show 0 ≤ 2 ∧ 2 ≤ 4; omega)) ?_
        have hJ11 := (i_fails (c := 2) hI (by show 0 ≤ 2 ∧ 2 ≤ 4; omega))
        exact Ev.iretE rfl nar_i dX11_enqueue_42 (by rw [f_enqueue, if_neg c4, if_neg c7, if_neg c10]; try rfl) (by first | rfl | (rw [f_enqueue, if_neg c4, if_neg c7, if_neg c10]; try rfl))
theorem i_enqueue {v : Vw} {T E : Int} {a : Int} (hI : IM v T E) (ha : -2147483648 ≤ a ∧ a < 2147483648) (hrc : v 1 0 ≤ 5) : IM (f_enqueue a v).2 T (E) := by
  have hT := hI.1
  have u1 : 0 ≤ v 1 0 ∧ v 1 0 ≤ 5 := hI.2 1 0
  have q1 : 0 ≤ (f_isRecipe a v) ∧ (f_isRecipe a v) ≤ 1 := r_isRecipe
  have q2 : ((f_isRecipe a v) = 1 ∧ 0 ≤ a ∧ a < (v 1 0)) ∨ ((f_isRecipe a v) = 0 ∧ ¬ (0 ≤ a ∧ a < (v 1 0))) := c_isRecipe a v
  have q3 : 0 ≤ (v 1 0) ∧ (v 1 0) ≤ 5 := hI.2 1 0
  by_cases c4 : (f_isRecipe a v) = 0
  · have hJ5 := (i_fails (c := 1) hI (by show 0 ≤ 1 ∧ 1 ≤ 4; omega))
    rw [f_enqueue, if_pos c4]
    exact hJ5
  · have q6 : 0 ≤ v 7 0 ∧ v 7 0 ≤ 6 := hI.2 7 0
    by_cases c7 : (v 7 0) = 6
    · have hJ8 := (i_fails (c := 2) hI (by show 0 ≤ 2 ∧ 2 ≤ 4; omega))
      rw [f_enqueue, if_neg c4, if_pos c7]
      exact hJ8
    · have q9 : 0 ≤ v 5 0 ∧ v 5 0 ≤ 30 := hI.2 5 0
      by_cases c10 : ((v 5 0) + (v 7 0)) < 30
      · rw [f_enqueue, if_neg c4, if_neg c7, if_pos c10]
        exact (((hI.up 0 0 0 (by show 0 ≤ 0 ∧ 0 ≤ 4; omega)).up 39 (v 7 0) a (by show 0 ≤ a ∧ a ≤ 4; omega)).up 7 0 ((v 7 0) + 1) (by show 0 ≤ ((v 7 0) + 1) ∧ ((v 7 0) + 1) ≤ 6; omega))
      · have hJ11 := (i_fails (c := 2) hI (by show 0 ≤ 2 ∧ 2 ≤ 4; omega))
        rw [f_enqueue, if_neg c4, if_neg c7, if_neg c10]
        exact hJ11
theorem fr_enqueue {a : Int} {v : Vw} (fk : Nat) (fi : Int) (hk : fk ≠ 0 ∧ fk ≠ 7 ∧ fk ≠ 39) : (f_enqueue a v).2 fk fi = v fk fi := by
  by_cases c4 : (f_isRecipe a v) = 0
  · rw [f_enqueue, if_pos c4]
    exact ((fr_fails (c := 1) (v := v) fk fi (by omega)).trans rfl)
  · by_cases c7 : (v 7 0) = 6
    · rw [f_enqueue, if_neg c4, if_pos c7]
      exact ((fr_fails (c := 2) (v := v) fk fi (by omega)).trans rfl)
    · by_cases c10 : ((v 5 0) + (v 7 0)) < 30
      · rw [f_enqueue, if_neg c4, if_neg c7, if_pos c10]
        exact ((upv_nk (by omega)).trans ((upv_nk (by omega)).trans ((upv_nk (by omega)).trans rfl)))
      · rw [f_enqueue, if_neg c4, if_neg c7, if_neg c10]
        exact ((fr_fails (c := 2) (v := v) fk fi (by omega)).trans rfl)
def l_takesOut_11 (was : Int) : Nat → Int → Vw → Int × Vw
  | 0, k, v => (0, v)
  | n + 1, k, v =>
    if (v 7 0) ≤ k then
      (was, (upv v 7 0 ((v 7 0) - 1)))
    else
      (l_takesOut_11 was n (k + 1) (upv v 39 (k - 1) (v 39 k)))
theorem s_l_takesOut_11 {X : Cx} {σ : Hp} {m0 : Nat} {T E : Int} {was : Int} (hG : GM σ m0) : ∀ (n : Nat) (k : Int) (v : Vw) (hI : IM v T E) (hk : 1 ≤ k ∧ k ≤ 1000) (hq : 1 ≤ v 7 0) (hm : (v 7 0 - k).toNat < n), Ev X m_X11_takesOut 1 11 [some (va_rf (some m0)), none, some (.int (i32 was)), some (.int (i32 k))] [] (Hm σ m0 v) (.inl (some (.int (i32 (l_takesOut_11 was n k v).1)))) (Hm σ m0 (l_takesOut_11 was n k v).2) := by
  intro n
  induction n with
  | zero =>
    intro k v hI hk hq hm
    exact absurd hm (Nat.not_lt_zero _)
  | succ n ih =>
    intro k v hI hk hq hm
    have hT := hI.1
    have u7 : 0 ≤ v 7 0 ∧ v 7 0 ≤ 6 := hI.2 7 0
    refine Ev.iload_n (i := 3) dX11_takesOut_11 rfl rfl ?_
    refine Ev.aload_n (i := 0) dX11_takesOut_12 rfl rfl ?_
    refine Ex.gS (k := 7) (v 7 0) rfl hG (by decide) (tb6 (i := 217) rfl) rfl rfl dX11_takesOut_13 ?_
    refine Ei.icmp_ge (tgt := 39) dX11_takesOut_16 (by decide) ⟨by omega, by omega⟩ ⟨by omega, by omega⟩ (fun c1 => ?_) (fun c1 => ?_)
    · refine Ev.aload_n (i := 0) dX11_takesOut_39 rfl rfl ?_
      refine Ev.dup dX11_takesOut_40 rfl ?_
      refine Ex.gS (k := 7) (v 7 0) rfl hG (by decide) (tb6 (i := 217) rfl) rfl rfl dX11_takesOut_41 ?_
      refine Ei.const dX11_takesOut_44 ?_
      refine Ei.sub dX11_takesOut_45 ?_
      refine Em.pS (k := 7) hG (by decide) (tb6 (i := 217) rfl) rfl rfl rfl rfl dX11_takesOut_46 ?_
      refine Ev.iload_n (i := 2) dX11_takesOut_49 rfl rfl ?_
      exact Ev.iretE rfl nar_i dX11_takesOut_50 (by rw [l_takesOut_11, if_pos c1]; try rfl) (by first | rfl | (rw [l_takesOut_11, if_pos c1]; try rfl))
    · refine Ev.aload_n (i := 0) dX11_takesOut_19 rfl rfl ?_
      refine Em.gA (k := 39) hG (by decide) (by decide) (tb7 (i := 9) rfl) rfl rfl dX11_takesOut_20 ?_
      refine Ev.iload_n (i := 3) dX11_takesOut_23 rfl rfl ?_
      refine Ei.const dX11_takesOut_24 ?_
      refine Ei.sub dX11_takesOut_25 ?_
      refine Ev.aload_n (i := 0) dX11_takesOut_26 rfl rfl ?_
      refine Em.gA (k := 39) hG (by decide) (by decide) (tb7 (i := 9) rfl) rfl rfl dX11_takesOut_27 ?_
      refine Ev.iload_n (i := 3) dX11_takesOut_30 rfl rfl ?_
      have q2 : 0 ≤ v 39 k ∧ v 39 k ≤ 4 := hI.2 39 k
      refine Ex.iald (k := 39) (v 39 k) rfl hG (by decide) (by decide) rfl (by omega) (by show _ < ((6 : Nat) : Int); omega) (by decide) dX11_takesOut_31 ?_
      refine Em.iast (k := 39) hG (by decide) (by decide) rfl (by omega) (by show _ < ((6 : Nat) : Int); omega) (by decide) dX11_takesOut_32 ?_
      refine Ei.inc dX11_takesOut_33 rfl (by decide) ?_
      refine Ev.goto (tgt := 11) dX11_takesOut_36 (by decide) ?_
      rw [l_takesOut_11, if_neg c1]
      exact Ev.fgt (ls' := [some (va_rf (some m0)), none, some (.int (i32 was)), some (.int (i32 (k + 1)))]) ⟨rfl, ⟨rfl, ⟨rfl, trivial⟩⟩⟩ (ih (k + 1) (upv v 39 (k - 1) (v 39 k)) (hI.up 39 (k - 1) (v 39 k) (by show 0 ≤ (v 39 k) ∧ (v 39 k) ≤ 4; omega)) (by show 1 ≤ (k + 1) ∧ (k + 1) ≤ 1000; omega) (by show 1 ≤ (v 7 0); omega) (by show ((v 7 0) - (k + 1)).toNat < n; omega))
theorem fr_l_takesOut_11 {was : Int} : ∀ (n : Nat) (k : Int) (v : Vw) (fk : Nat) (fi : Int) (hk : fk ≠ 7 ∧ fk ≠ 39), (l_takesOut_11 was n k v).2 fk fi = v fk fi := by
  intro n k v fk fi hk
  induction n generalizing k v with
  | zero => rfl
  | succ n ih =>
    by_cases c1 : (v 7 0) ≤ k
    · rw [l_takesOut_11, if_pos c1]
      exact ((upv_nk (by omega)).trans rfl)
    · rw [l_takesOut_11, if_neg c1]
      exact (ih (k + 1) (upv v 39 (k - 1) (v 39 k))).trans ((upv_nk (by omega)).trans rfl)
theorem i_l_takesOut_11 {T E : Int} {was : Int} : ∀ (n : Nat) (k : Int) (v : Vw) (hI : IM v T E) (hk : 1 ≤ k ∧ k ≤ 1000) (hq : 1 ≤ v 7 0), IM (l_takesOut_11 was n k v).2 T (E) := by
  intro n
  induction n with
  | zero =>
    intro k v hI hk hq
    have hT := hI.1
    exact hI
  | succ n ih =>
    intro k v hI hk hq
    have hT := hI.1
    have u7 : 0 ≤ v 7 0 ∧ v 7 0 ≤ 6 := hI.2 7 0
    by_cases c1 : (v 7 0) ≤ k
    · rw [l_takesOut_11, if_pos c1]
      exact (hI.up 7 0 ((v 7 0) - 1) (by show 0 ≤ ((v 7 0) - 1) ∧ ((v 7 0) - 1) ≤ 6; omega))
    · have q2 : 0 ≤ v 39 k ∧ v 39 k ≤ 4 := hI.2 39 k
      rw [l_takesOut_11, if_neg c1]
      exact ih (k + 1) (upv v 39 (k - 1) (v 39 k)) (hI.up 39 (k - 1) (v 39 k) (by show 0 ≤ (v 39 k) ∧ (v 39 k) ≤ 4; omega)) (by show 1 ≤ (k + 1) ∧ (k + 1) ≤ 1000; omega) (by show 1 ≤ (v 7 0); omega)
def f_takesOut (i : Int) (v : Vw) : Int × Vw :=
  (l_takesOut_11 (v 39 i) (((v 7 0) - (i + 1)).toNat + 1) (i + 1) v)
theorem s_X11_takesOut {X : Cx} {σ : Hp} {m0 : Nat} {v : Vw} {T E : Int} {i : Int} (hG : GM σ m0) (hI : IM v T E) (hx : 0 ≤ i ∧ i < v 7 0) : Ct X m_X11_takesOut 1 [va_rf (some m0), .int (i32 i)] (Hm σ m0 v) (.inl (some (.int (i32 (f_takesOut i v).1)))) (Hm σ m0 (f_takesOut i v).2) := by
  have hT := hI.1
  refine Ct.of (by decide +kernel) rfl (Nat.le_of_ble_eq_true rfl) (by simp [Value.category, va_rf]) ?_
  have u7 : 0 ≤ v 7 0 ∧ v 7 0 ≤ 6 := hI.2 7 0
  refine Ev.aload_n (i := 0) dX11_takesOut_0 rfl rfl ?_
  refine Em.gA (k := 39) hG (by decide) (by decide) (tb7 (i := 9) rfl) rfl rfl dX11_takesOut_1 ?_
  refine Ev.iload_n (i := 1) dX11_takesOut_4 rfl rfl ?_
  have q3 : 0 ≤ v 39 i ∧ v 39 i ≤ 4 := hI.2 39 i
  refine Ex.iald (k := 39) (v 39 i) rfl hG (by decide) (by decide) rfl (by omega) (by show _ < ((6 : Nat) : Int); omega) (by decide) dX11_takesOut_5 ?_
  refine Ev.istore_n (i := 2) dX11_takesOut_6 rfl (by decide) ?_
  refine Ev.iload_n (i := 1) dX11_takesOut_7 rfl rfl ?_
  refine Ei.const dX11_takesOut_8 ?_
  refine Ei.add dX11_takesOut_9 ?_
  refine Ev.istore_n (i := 3) dX11_takesOut_10 rfl (by decide) ?_
  refine Ev.fgt (ls' := [some (va_rf (some m0)), none, some (.int (i32 (v 39 i))), some (.int (i32 (i + 1)))]) ⟨rfl, ⟨rfl, ⟨rfl, trivial⟩⟩⟩ ?_
  rw [f_takesOut]
  exact s_l_takesOut_11 hG  (((v 7 0) - (i + 1)).toNat + 1) (i + 1) v hI (by show 1 ≤ (i + 1) ∧ (i + 1) ≤ 1000; omega) (by show 1 ≤ (v 7 0); omega) (by show ((v 7 0) - (i + 1)).toNat < (((v 7 0) - (i + 1)).toNat + 1); omega)
theorem i_takesOut {v : Vw} {T E : Int} {i : Int} (hI : IM v T E) (hx : 0 ≤ i ∧ i < v 7 0) : IM (f_takesOut i v).2 T (E) := by
  have hT := hI.1
  have u7 : 0 ≤ v 7 0 ∧ v 7 0 ≤ 6 := hI.2 7 0
  have q3 : 0 ≤ v 39 i ∧ v 39 i ≤ 4 := hI.2 39 i
  rw [f_takesOut]
  exact i_l_takesOut_11  (((v 7 0) - (i + 1)).toNat + 1) (i + 1) v hI (by show 1 ≤ (i + 1) ∧ (i + 1) ≤ 1000; omega) (by show 1 ≤ (v 7 0); omega)
theorem fr_takesOut {i : Int} {v : Vw} (fk : Nat) (fi : Int) (hk : fk ≠ 7 ∧ fk ≠ 39) : (f_takesOut i v).2 fk fi = v fk fi := by
  rw [f_takesOut]
  exact (fr_l_takesOut_11 (((v 7 0) - (i + 1)).toNat + 1) (i + 1) v fk fi (by omega)).trans rfl
def f_withdraw (i : Int) (v : Vw) : Int × Vw :=
  if (f_in i 0 ((v 7 0) - 1)) = 0 then
    ((f_fails 1 v).1, (f_fails 1 v).2)
  else
    ((f_takesOut i (upv v 0 0 0)).1, (f_takesOut i (upv v 0 0 0)).2)
theorem s_X11_withdraw {X : Cx} {σ : Hp} {m0 : Nat} {v : Vw} {T E : Int} {i : Int} (hG : GM σ m0) (hI : IM v T E) (hi : -2147483648 ≤ i ∧ i < 2147483648) : Ct X m_X11_withdraw 2 [va_rf (some m0), .int (i32 i)] (Hm σ m0 v) (.inl (some (.int (i32 (f_withdraw i v).1)))) (Hm σ m0 (f_withdraw i v).2) := by
  have hT := hI.1
  refine Ct.of (by decide +kernel) rfl (Nat.le_of_ble_eq_true rfl) (by simp [Value.category, va_rf]) ?_
  refine Ev.iload_n (i := 1) dX11_withdraw_0 rfl rfl ?_
  refine Ei.const dX11_withdraw_1 ?_
  refine Ev.aload_n (i := 0) dX11_withdraw_2 rfl rfl ?_
  have q1 : 0 ≤ v 7 0 ∧ v 7 0 ≤ 6 := hI.2 7 0
  refine Ex.gS (k := 7) (v 7 0) rfl hG (by decide) (tb6 (i := 217) rfl) rfl rfl dX11_withdraw_3 ?_
  refine Ei.const dX11_withdraw_6 ?_
  refine Ei.sub dX11_withdraw_7 ?_
  refine Ev.cs1 (As := [_, _, _]) k_X11_in (tb7 (i := 122) rfl) ki_X11_in dX11_withdraw_8 rfl rfl (Nat.le_of_ble_eq_true rfl) (by decide) (s_X11_in (x := i) (a := 0) (b := ((v 7 0) - 1))  (by show -2147483648 ≤ i ∧ i < 2147483648; omega) (by show -2147483648 ≤ 0 ∧ 0 < 2147483648; omega) (by show -2147483648 ≤ ((v 7 0) - 1) ∧ ((v 7 0) - 1) < 2147483648; omega)) ?_
  have q2 : 0 ≤ (f_in i 0 ((v 7 0) - 1)) ∧ (f_in i 0 ((v 7 0) - 1)) ≤ 1 := r_in
  have q3 := c_in i 0 ((v 7 0) - 1)
  refine Ex.if_ne (tgt := 20) dX11_withdraw_11 (by decide) ⟨by omega, by omega⟩ (fun c4 => ?_) (fun c4 => ?_)
  · refine Ev.aload_n (i := 0) dX11_withdraw_14 rfl rfl ?_
    refine Ei.const dX11_withdraw_15 ?_
    refine Em.cv1 (As := [_]) hG k_X11_fails (tb7 (i := 125) rfl) ki_X11_fails kv_X11_fails dX11_withdraw_16 rfl rfl (Nat.le_of_ble_eq_true rfl) (by decide) (s_X11_fails (c := 1) hG hI (by show 0 ≤ 1 ∧ 1 ≤ 4; omega)) ?_
    have hJ5 := (i_fails (c := 1) hI (by show 0 ≤ 1 ∧ 1 ≤ 4; omega))
    exact Ev.iretE rfl nar_i dX11_withdraw_19 (by rw [f_withdraw, if_pos c4]; try rfl) (by first | rfl | (rw [f_withdraw, if_pos c4]; try rfl))
  · refine Ev.aload_n (i := 0) dX11_withdraw_20 rfl rfl ?_
    refine Ei.const dX11_withdraw_21 ?_
    refine Em.pS (k := 0) hG (by decide) (tb6 (i := 210) rfl) rfl rfl rfl rfl dX11_withdraw_22 ?_
    refine Ev.aload_n (i := 0) dX11_withdraw_25 rfl rfl ?_
    refine Ev.iload_n (i := 1) dX11_withdraw_26 rfl rfl ?_
    refine Em.cv1 (As := [_]) hG k_X11_takesOut (tb7 (i := 185) rfl) ki_X11_takesOut kv_X11_takesOut dX11_withdraw_27 rfl rfl (Nat.le_of_ble_eq_true rfl) (by decide) (s_X11_takesOut (i := i) hG (hI.up 0 0 0 (by show 0 ≤ 0 ∧ 0 ≤ 4; omega)) (by show 0 ≤ i ∧ i < (v 7 0); omega)) ?_
    have hJ6 := (i_takesOut (i := i) (hI.up 0 0 0 (by show 0 ≤ 0 ∧ 0 ≤ 4; omega)) (by show 0 ≤ i ∧ i < (v 7 0); omega))
    exact Ev.iretE rfl nar_i dX11_withdraw_30 (by rw [f_withdraw, if_neg c4]; try rfl) (by first | rfl | (rw [f_withdraw, if_neg c4]; try rfl))
theorem i_withdraw {v : Vw} {T E : Int} {i : Int} (hI : IM v T E) (hi : -2147483648 ≤ i ∧ i < 2147483648) : IM (f_withdraw i v).2 T (E) := by
  have hT := hI.1
  have q1 : 0 ≤ v 7 0 ∧ v 7 0 ≤ 6 := hI.2 7 0
  have q2 : 0 ≤ (f_in i 0 ((v 7 0) - 1)) ∧ (f_in i 0 ((v 7 0) - 1)) ≤ 1 := r_in
  have q3 := c_in i 0 ((v 7 0) - 1)
  by_cases c4 : (f_in i 0 ((v 7 0) - 1)) = 0
  · have hJ5 := (i_fails (c := 1) hI (by show 0 ≤ 1 ∧ 1 ≤ 4; omega))
    rw [f_withdraw, if_pos c4]
    exact hJ5
  · have hJ6 := (i_takesOut (i := i) (hI.up 0 0 0 (by show 0 ≤ 0 ∧ 0 ≤ 4; omega)) (by show 0 ≤ i ∧ i < (v 7 0); omega))
    rw [f_withdraw, if_neg c4]
    exact hJ6
theorem fr_withdraw {i : Int} {v : Vw} (fk : Nat) (fi : Int) (hk : fk ≠ 0 ∧ fk ≠ 7 ∧ fk ≠ 39) : (f_withdraw i v).2 fk fi = v fk fi := by
  by_cases c4 : (f_in i 0 ((v 7 0) - 1)) = 0
  · rw [f_withdraw, if_pos c4]
    exact ((fr_fails (c := 1) (v := v) fk fi (by omega)).trans rfl)
  · rw [f_withdraw, if_neg c4]
    exact ((fr_takesOut (i := i) (v := (upv v 0 0 0)) fk fi (by omega)).trans ((upv_nk (by omega)).trans rfl))
def f_queued (v : Vw) : Int × Vw :=
  ((v 7 0), (upv v 0 0 0))
theorem s_X11_queued {X : Cx} {σ : Hp} {m0 : Nat} {v : Vw} {T E : Int} (hG : GM σ m0) (hI : IM v T E) : Ct X m_X11_queued 1 [va_rf (some m0)] (Hm σ m0 v) (.inl (some (.int (i32 (f_queued v).1)))) (Hm σ m0 (f_queued v).2) := by
  have hT := hI.1
  refine Ct.of (by decide +kernel) rfl (Nat.le_of_ble_eq_true rfl) (by simp [Value.category, va_rf]) ?_
  refine Ev.aload_n (i := 0) dX11_queued_0 rfl rfl ?_
  refine Ei.const dX11_queued_1 ?_
  refine Em.pS (k := 0) hG (by decide) (tb6 (i := 210) rfl) rfl rfl rfl rfl dX11_queued_2 ?_
  refine Ev.aload_n (i := 0) dX11_queued_5 rfl rfl ?_
  have q1 : 0 ≤ v 7 0 ∧ v 7 0 ≤ 6 := hI.2 7 0
  refine Ex.gS (k := 7) (v 7 0) rfl hG (by decide) (tb6 (i := 217) rfl) rfl rfl dX11_queued_6 ?_
  exact Ev.iretE rfl nar_i dX11_queued_9 (by rw [f_queued]; try rfl) (by first | rfl | (rw [f_queued]; try rfl))
theorem i_queued {v : Vw} {T E : Int} (hI : IM v T E) : IM (f_queued v).2 T (E) := by
  have hT := hI.1
  have q1 : 0 ≤ v 7 0 ∧ v 7 0 ≤ 6 := hI.2 7 0
  rw [f_queued]
  exact (hI.up 0 0 0 (by show 0 ≤ 0 ∧ 0 ≤ 4; omega))
theorem fr_queued {v : Vw} (fk : Nat) (fi : Int) (hk : fk ≠ 0) : (f_queued v).2 fk fi = v fk fi := by
  rw [f_queued]
  exact ((upv_nk (by omega)).trans rfl)
def f_queuedAt (i : Int) (v : Vw) : Int × Vw :=
  if (f_in i 0 ((v 7 0) - 1)) = 0 then
    ((f_fails 1 v).1, (f_fails 1 v).2)
  else
    ((v 39 i), (upv v 0 0 0))
theorem s_X11_queuedAt {X : Cx} {σ : Hp} {m0 : Nat} {v : Vw} {T E : Int} {i : Int} (hG : GM σ m0) (hI : IM v T E) (hi : -2147483648 ≤ i ∧ i < 2147483648) : Ct X m_X11_queuedAt 2 [va_rf (some m0), .int (i32 i)] (Hm σ m0 v) (.inl (some (.int (i32 (f_queuedAt i v).1)))) (Hm σ m0 (f_queuedAt i v).2) := by
  have hT := hI.1
  refine Ct.of (by decide +kernel) rfl (Nat.le_of_ble_eq_true rfl) (by simp [Value.category, va_rf]) ?_
  refine Ev.iload_n (i := 1) dX11_queuedAt_0 rfl rfl ?_
  refine Ei.const dX11_queuedAt_1 ?_
  refine Ev.aload_n (i := 0) dX11_queuedAt_2 rfl rfl ?_
  have q1 : 0 ≤ v 7 0 ∧ v 7 0 ≤ 6 := hI.2 7 0
  refine Ex.gS (k := 7) (v 7 0) rfl hG (by decide) (tb6 (i := 217) rfl) rfl rfl dX11_queuedAt_3 ?_
  refine Ei.const dX11_queuedAt_6 ?_
  refine Ei.sub dX11_queuedAt_7 ?_
  refine Ev.cs1 (As := [_, _, _]) k_X11_in (tb7 (i := 122) rfl) ki_X11_in dX11_queuedAt_8 rfl rfl (Nat.le_of_ble_eq_true rfl) (by decide) (s_X11_in (x := i) (a := 0) (b := ((v 7 0) - 1))  (by show -2147483648 ≤ i ∧ i < 2147483648; omega) (by show -2147483648 ≤ 0 ∧ 0 < 2147483648; omega) (by show -2147483648 ≤ ((v 7 0) - 1) ∧ ((v 7 0) - 1) < 2147483648; omega)) ?_
  have q2 : 0 ≤ (f_in i 0 ((v 7 0) - 1)) ∧ (f_in i 0 ((v 7 0) - 1)) ≤ 1 := r_in
  have q3 := c_in i 0 ((v 7 0) - 1)
  refine Ex.if_ne (tgt := 20) dX11_queuedAt_11 (by decide) ⟨by omega, by omega⟩ (fun c4 => ?_) (fun c4 => ?_)
  · refine Ev.aload_n (i := 0) dX11_queuedAt_14 rfl rfl ?_
    refine Ei.const dX11_queuedAt_15 ?_
    refine Em.cv1 (As := [_]) hG k_X11_fails (tb7 (i := 125) rfl) ki_X11_fails kv_X11_fails dX11_queuedAt_16 rfl rfl (Nat.le_of_ble_eq_true rfl) (by decide) (s_X11_fails (c := 1) hG hI (by show 0 ≤ 1 ∧ 1 ≤ 4; omega)) ?_
    have hJ5 := (i_fails (c := 1) hI (by show 0 ≤ 1 ∧ 1 ≤ 4; omega))
    exact Ev.iretE rfl nar_i dX11_queuedAt_19 (by rw [f_queuedAt, if_pos c4]; try rfl) (by first | rfl | (rw [f_queuedAt, if_pos c4]; try rfl))
  · refine Ev.aload_n (i := 0) dX11_queuedAt_20 rfl rfl ?_
    refine Ei.const dX11_queuedAt_21 ?_
    refine Em.pS (k := 0) hG (by decide) (tb6 (i := 210) rfl) rfl rfl rfl rfl dX11_queuedAt_22 ?_
    refine Ev.aload_n (i := 0) dX11_queuedAt_25 rfl rfl ?_
    refine Em.gA (k := 39) hG (by decide) (by decide) (tb7 (i := 9) rfl) rfl rfl dX11_queuedAt_26 ?_
    refine Ev.iload_n (i := 1) dX11_queuedAt_29 rfl rfl ?_
    have q6 : 0 ≤ v 39 i ∧ v 39 i ≤ 4 := hI.2 39 i
    refine Ex.iald (k := 39) (v 39 i) rfl hG (by decide) (by decide) rfl (by omega) (by show _ < ((6 : Nat) : Int); omega) (by decide) dX11_queuedAt_30 ?_
    exact Ev.iretE rfl nar_i dX11_queuedAt_31 (by rw [f_queuedAt, if_neg c4]; try rfl) (by first | rfl | (rw [f_queuedAt, if_neg c4]; try rfl))
theorem i_queuedAt {v : Vw} {T E : Int} {i : Int} (hI : IM v T E) (hi : -2147483648 ≤ i ∧ i < 2147483648) : IM (f_queuedAt i v).2 T (E) := by
  have hT := hI.1
  have q1 : 0 ≤ v 7 0 ∧ v 7 0 ≤ 6 := hI.2 7 0
  have q2 : 0 ≤ (f_in i 0 ((v 7 0) - 1)) ∧ (f_in i 0 ((v 7 0) - 1)) ≤ 1 := r_in
  have q3 := c_in i 0 ((v 7 0) - 1)
  by_cases c4 : (f_in i 0 ((v 7 0) - 1)) = 0
  · have hJ5 := (i_fails (c := 1) hI (by show 0 ≤ 1 ∧ 1 ≤ 4; omega))
    rw [f_queuedAt, if_pos c4]
    exact hJ5
  · have q6 : 0 ≤ v 39 i ∧ v 39 i ≤ 4 := hI.2 39 i
    rw [f_queuedAt, if_neg c4]
    exact (hI.up 0 0 0 (by show 0 ≤ 0 ∧ 0 ≤ 4; omega))
theorem fr_queuedAt {i : Int} {v : Vw} (fk : Nat) (fi : Int) (hk : fk ≠ 0) : (f_queuedAt i v).2 fk fi = v fk fi := by
  by_cases c4 : (f_in i 0 ((v 7 0) - 1)) = 0
  · rw [f_queuedAt, if_pos c4]
    exact ((fr_fails (c := 1) (v := v) fk fi (by omega)).trans rfl)
  · rw [f_queuedAt, if_neg c4]
    exact ((upv_nk (by omega)).trans rfl)
def f_adds (o r a : Int) (v : Vw) : Vw :=
  (upv (upv (upv v 36 ((4 * o) + (v 33 o)) r) 37 ((4 * o) + (v 33 o)) a) 33 o ((v 33 o) + 1))
theorem s_X11_adds {X : Cx} {σ : Hp} {m0 : Nat} {v : Vw} {T E : Int} {o r a : Int} (hG : GM σ m0) (hI : IM v T E) (ho : 0 ≤ o ∧ o ≤ 19) (hr : 0 ≤ r ∧ r ≤ 4) (ha : 1 ≤ a ∧ a ≤ 40) (hp : v 33 o ≤ 3) : Ct X m_X11_adds 1 [va_rf (some m0), .int (i32 o), .int (i32 r), .int (i32 a)] (Hm σ m0 v) (.inl none) (Hm σ m0 (f_adds o r a v)) := by
  have hT := hI.1
  refine Ct.of (by decide +kernel) rfl (Nat.le_of_ble_eq_true rfl) (by simp [Value.category, va_rf]) ?_
  refine Ev.aload_n (i := 0) dX11_adds_0 rfl rfl ?_
  refine Em.gA (k := 36) hG (by decide) (by decide) (tb7 (i := 6) rfl) rfl rfl dX11_adds_1 ?_
  refine Ei.const dX11_adds_4 ?_
  refine Ev.iload_n (i := 1) dX11_adds_5 rfl rfl ?_
  refine Ei.mul dX11_adds_6 ?_
  refine Ev.aload_n (i := 0) dX11_adds_7 rfl rfl ?_
  refine Em.gA (k := 33) hG (by decide) (by decide) (tb7 (i := 3) rfl) rfl rfl dX11_adds_8 ?_
  refine Ev.iload_n (i := 1) dX11_adds_11 rfl rfl ?_
  have q1 : 0 ≤ v 33 o ∧ v 33 o ≤ 4 := hI.2 33 o
  refine Ex.iald (k := 33) (v 33 o) rfl hG (by decide) (by decide) rfl (by omega) (by show _ < ((20 : Nat) : Int); omega) (by decide) dX11_adds_12 ?_
  refine Ei.add dX11_adds_13 ?_
  refine Ev.iload_n (i := 2) dX11_adds_14 rfl rfl ?_
  refine Em.iast (k := 36) hG (by decide) (by decide) rfl (by omega) (by show _ < ((80 : Nat) : Int); omega) (by decide) dX11_adds_15 ?_
  refine Ev.aload_n (i := 0) dX11_adds_16 rfl rfl ?_
  refine Em.gA (k := 37) hG (by decide) (by decide) (tb7 (i := 7) rfl) rfl rfl dX11_adds_17 ?_
  refine Ei.const dX11_adds_20 ?_
  refine Ev.iload_n (i := 1) dX11_adds_21 rfl rfl ?_
  refine Ei.mul dX11_adds_22 ?_
  refine Ev.aload_n (i := 0) dX11_adds_23 rfl rfl ?_
  refine Em.gA (k := 33) hG (by decide) (by decide) (tb7 (i := 3) rfl) rfl rfl dX11_adds_24 ?_
  refine Ev.iload_n (i := 1) dX11_adds_27 rfl rfl ?_
  refine Ex.iald (k := 33) (v 33 o) rfl hG (by decide) (by decide) rfl (by omega) (by show _ < ((20 : Nat) : Int); omega) (by decide) dX11_adds_28 ?_
  refine Ei.add dX11_adds_29 ?_
  refine Ev.iload_n (i := 3) dX11_adds_30 rfl rfl ?_
  refine Em.iast (k := 37) hG (by decide) (by decide) rfl (by omega) (by show _ < ((80 : Nat) : Int); omega) (by decide) dX11_adds_31 ?_
  refine Ev.aload_n (i := 0) dX11_adds_32 rfl rfl ?_
  refine Em.gA (k := 33) hG (by decide) (by decide) (tb7 (i := 3) rfl) rfl rfl dX11_adds_33 ?_
  refine Ev.iload_n (i := 1) dX11_adds_36 rfl rfl ?_
  refine Ev.dup2 dX11_adds_37 rfl rfl ?_
  refine Ex.iald (k := 33) (v 33 o) rfl hG (by decide) (by decide) rfl (by omega) (by show _ < ((20 : Nat) : Int); omega) (by decide) dX11_adds_38 ?_
  refine Ei.const dX11_adds_39 ?_
  refine Ei.add dX11_adds_40 ?_
  refine Em.iast (k := 33) hG (by decide) (by decide) rfl (by omega) (by show _ < ((20 : Nat) : Int); omega) (by decide) dX11_adds_41 ?_
  exact Ev.vretE rfl dX11_adds_42 rfl (by first | rfl | (rw [f_adds]; try rfl))
theorem i_adds {v : Vw} {T E : Int} {o r a : Int} (hI : IM v T E) (ho : 0 ≤ o ∧ o ≤ 19) (hr : 0 ≤ r ∧ r ≤ 4) (ha : 1 ≤ a ∧ a ≤ 40) (hp : v 33 o ≤ 3) : IM (f_adds o r a v) T (E) := by
  have hT := hI.1
  have q1 : 0 ≤ v 33 o ∧ v 33 o ≤ 4 := hI.2 33 o
  rw [f_adds]
  exact (((hI.up 36 ((4 * o) + (v 33 o)) r (by show 0 ≤ r ∧ r ≤ 4; omega)).up 37 ((4 * o) + (v 33 o)) a (by show 0 ≤ a ∧ a ≤ 40; omega)).up 33 o ((v 33 o) + 1) (by show 0 ≤ ((v 33 o) + 1) ∧ ((v 33 o) + 1) ≤ 4; omega))
theorem fr_adds {o r a : Int} {v : Vw} (fk : Nat) (fi : Int) (hk : fk ≠ 33 ∧ fk ≠ 36 ∧ fk ≠ 37) : (f_adds o r a v) fk fi = v fk fi := by
  rw [f_adds]
  exact ((upv_nk (by omega)).trans ((upv_nk (by omega)).trans ((upv_nk (by omega)).trans rfl)))
def f_order (a b c : Int) (v : Vw) : Int × Vw :=
  if (f_isRecipe a v) = 0 then
    ((f_fails 1 v).1, (f_fails 1 v).2)
  else
    if (f_in b 1 40) = 0 then
      ((f_fails 2 v).1, (f_fails 2 v).2)
    else
      if c < (v 8 0) then
        ((f_fails 2 v).1, (f_fails 2 v).2)
      else
        if c ≤ ((v 8 0) + 99) then
          if (v 6 0) = 20 then
            ((f_fails 3 v).1, (f_fails 3 v).2)
          else
            ((((v 6 0) + 1) - 1), (upv (f_adds (v 6 0) a b (upv (upv (upv v 0 0 0) 32 (v 6 0) c) 34 (v 6 0) 111)) 6 0 ((v 6 0) + 1)))
        else
          ((f_fails 2 v).1, (f_fails 2 v).2)
theorem s_X11_order {X : Cx} {σ : Hp} {m0 : Nat} {v : Vw} {T E : Int} {a b c : Int} (hG : GM σ m0) (hI : IM v T E) (ha : -2147483648 ≤ a ∧ a < 2147483648) (hb : -2147483648 ≤ b ∧ b < 2147483648) (hc : -2147483648 ≤ c ∧ c < 2147483648) (hp0 : v 33 (v 6 0) = 0) : Ct X m_X11_order 3 [va_rf (some m0), .int (i32 a), .int (i32 b), .int (i32 c)] (Hm σ m0 v) (.inl (some (.int (i32 (f_order a b c v).1)))) (Hm σ m0 (f_order a b c v).2) := by
  have hT := hI.1
  refine Ct.of (by decide +kernel) rfl (Nat.le_of_ble_eq_true rfl) (by simp [Value.category, va_rf]) ?_
  have u6 : 0 ≤ v 6 0 ∧ v 6 0 ≤ 20 := hI.2 6 0
  refine Ev.aload_n (i := 0) dX11_order_0 rfl rfl ?_
  refine Ev.iload_n (i := 1) dX11_order_1 rfl rfl ?_
  have q1 : 0 ≤ v 1 0 ∧ v 1 0 ≤ 5 := hI.2 1 0
  refine Em.cv1 (As := [_]) hG k_X11_isRecipe (tb7 (i := 165) rfl) ki_X11_isRecipe kv_X11_isRecipe dX11_order_2 rfl rfl (Nat.le_of_ble_eq_true rfl) (by decide) (s_X11_isRecipe (x := a) hG hI (by show -2147483648 ≤ a ∧ a < 2147483648; omega)) ?_
  have q2 : 0 ≤ (f_isRecipe a v) ∧ (f_isRecipe a v) ≤ 1 := r_isRecipe
  have q3 : ((f_isRecipe a v) = 1 ∧ 0 ≤ a ∧ a < (v 1 0)) ∨ ((f_isRecipe a v) = 0 ∧ ¬ (0 ≤ a ∧ a < (v 1 0))) := c_isRecipe a v
  have q4 : 0 ≤ (v 1 0) ∧ (v 1 0) ≤ 5 := hI.2 1 0
  refine Ex.if_ne (tgt := 14) dX11_order_5 (by decide) ⟨by omega, by omega⟩ (fun c5 => ?_) (fun c5 => ?_)
  · refine Ev.aload_n (i := 0) dX11_order_8 rfl rfl ?_
    refine Ei.const dX11_order_9 ?_
    refine Em.cv1 (As := [_]) hG k_X11_fails (tb7 (i := 125) rfl) ki_X11_fails kv_X11_fails dX11_order_10 rfl rfl (Nat.le_of_ble_eq_true rfl) (by decide) (s_X11_fails (c := 1) hG hI (by show 0 ≤ 1 ∧ 1 ≤ 4; omega)) ?_
    have hJ6 := (i_fails (c := 1) hI (by show 0 ≤ 1 ∧ 1 ≤ 4; omega))
    exact Ev.iretE rfl nar_i dX11_order_13 (by rw [f_order, if_pos c5]; try rfl) (by first | rfl | (rw [f_order, if_pos c5]; try rfl))
  · refine Ev.iload_n (i := 2) dX11_order_14 rfl rfl ?_
    refine Ei.const dX11_order_15 ?_
    refine Ev.bipush (v := i32 40) dX11_order_16 (by decide) ?_
    refine Ev.cs1 (As := [_, _, _]) k_X11_in (tb7 (i := 122) rfl) ki_X11_in dX11_order_18 rfl rfl (Nat.le_of_ble_eq_true rfl) (by decide) (s_X11_in (x := b) (a := 1) (b := 40)  (by show -2147483648 ≤ b ∧ b < 2147483648; omega) (by show -2147483648 ≤ 1 ∧ 1 < 2147483648; omega) (by show -2147483648 ≤ 40 ∧ 40 < 2147483648; omega)) ?_
    have q7 : 0 ≤ (f_in b 1 40) ∧ (f_in b 1 40) ≤ 1 := r_in
    have q8 := c_in b 1 40
    refine Ei.if_eq (tgt := 43) dX11_order_21 (by decide) ⟨by omega, by omega⟩ (fun c9 => ?_) (fun c9 => ?_)
    · refine Ev.aload_n (i := 0) dX11_order_43 rfl rfl ?_
      refine Ei.const dX11_order_44 ?_
      refine Em.cv1 (As := [_]) hG k_X11_fails (tb7 (i := 125) rfl) ki_X11_fails kv_X11_fails dX11_order_45 rfl rfl (Nat.le_of_ble_eq_true rfl) (by decide) (s_X11_fails (c := 2) hG hI (by show 0 ≤ 2 ∧ 2 ≤ 4; omega)) ?_
      have hJ10 := (i_fails (c := 2) hI (by show 0 ≤ 2 ∧ 2 ≤ 4; omega))
      exact Ev.iretE rfl nar_i dX11_order_48 (by rw [f_order, if_neg c5, if_pos c9]; try rfl) (by first | rfl | (rw [f_order, if_neg c5, if_pos c9]; try rfl))
    · refine Ev.iload_n (i := 3) dX11_order_24 rfl rfl ?_
      refine Ev.aload_n (i := 0) dX11_order_25 rfl rfl ?_
      have q11 : 0 ≤ v 8 0 ∧ v 8 0 ≤ T := hI.2 8 0
      refine Ex.gS (k := 8) (v 8 0) rfl hG (by decide) (tb6 (i := 218) rfl) rfl rfl dX11_order_26 ?_
      refine Ei.icmp_lt (tgt := 43) dX11_order_29 (by decide) ⟨by omega, by omega⟩ ⟨by omega, by omega⟩ (fun c12 => ?_) (fun c12 => ?_)
      · refine Ev.aload_n (i := 0) dX11_order_43 rfl rfl ?_
        refine Ei.const dX11_order_44 ?_
        refine Em.cv1 (As := [_]) hG k_X11_fails (tb7 (i := 125) rfl) ki_X11_fails kv_X11_fails dX11_order_45 rfl rfl (Nat.le_of_ble_eq_true rfl) (by decide) (s_X11_fails (c := 2) hG hI (by show 0 ≤ 2 ∧ 2 ≤ 4; omega)) ?_
        have hJ13 := (i_fails (c := 2) hI (by show 0 ≤ 2 ∧ 2 ≤ 4; omega))
        exact Ev.iretE rfl nar_i dX11_order_48 (by rw [f_order, if_neg c5, if_neg c9, if_pos c12]; try rfl) (by first | rfl | (rw [f_order, if_neg c5, if_neg c9, if_pos c12]; try rfl))
      · refine Ev.iload_n (i := 3) dX11_order_32 rfl rfl ?_
        refine Ev.aload_n (i := 0) dX11_order_33 rfl rfl ?_
        refine Ex.gS (k := 8) (v 8 0) rfl hG (by decide) (tb6 (i := 218) rfl) rfl rfl dX11_order_34 ?_
        refine Ev.bipush (v := i32 99) dX11_order_37 (by decide) ?_
        refine Ei.add dX11_order_39 ?_
        refine Ei.icmp_le (tgt := 49) dX11_order_40 (by decide) ⟨by omega, by omega⟩ ⟨by omega, by omega⟩ (fun c14 => ?_) (fun c14 => ?_)
        · refine Ev.aload_n (i := 0) dX11_order_49 rfl rfl ?_
          refine Ex.gS (k := 6) (v 6 0) rfl hG (by decide) (tb6 (i := 216) rfl) rfl rfl dX11_order_50 ?_
          refine Ev.bipush (v := i32 20) dX11_order_53 (by decide) ?_
          refine Ex.icmp_ne (tgt := 64) dX11_order_55 (by decide) ⟨by omega, by omega⟩ ⟨by omega, by omega⟩ (fun c15 => ?_) (fun c15 => ?_)
          · refine Ev.aload_n (i := 0) dX11_order_58 rfl rfl ?_
            refine Ei.const dX11_order_59 ?_
            refine Em.cv1 (As := [_]) hG k_X11_fails (tb7 (i := 125) rfl) ki_X11_fails kv_X11_fails dX11_order_60 rfl rfl (Nat.le_of_ble_eq_true rfl) (by decide) (s_X11_fails (c := 3) hG hI (by show 0 ≤ 3 ∧ 3 ≤ 4; omega)) ?_
            have hJ16 := (i_fails (c := 3) hI (by show 0 ≤ 3 ∧ 3 ≤ 4; omega))
            exact Ev.iretE rfl nar_i dX11_order_63 (by rw [f_order, if_neg c5, if_neg c9, if_neg c12, if_pos c14, if_pos c15]; try rfl) (by first | rfl | (rw [f_order, if_neg c5, if_neg c9, if_neg c12, if_pos c14, if_pos c15]; try rfl))
          · refine Ev.aload_n (i := 0) dX11_order_64 rfl rfl ?_
            refine Ei.const dX11_order_65 ?_
            refine Em.pS (k := 0) hG (by decide) (tb6 (i := 210) rfl) rfl rfl rfl rfl dX11_order_66 ?_
            refine Ev.aload_n (i := 0) dX11_order_69 rfl rfl ?_
            refine Em.gA (k := 32) hG (by decide) (by decide) (tb7 (i := 2) rfl) rfl rfl dX11_order_70 ?_
            refine Ev.aload_n (i := 0) dX11_order_73 rfl rfl ?_
            refine Ex.gS (k := 6) (v 6 0) rfl hG (by decide) (tb6 (i := 216) rfl) rfl rfl dX11_order_74 ?_
            refine Ev.iload_n (i := 3) dX11_order_77 rfl rfl ?_
            refine Em.iast (k := 32) hG (by decide) (by decide) rfl (by omega) (by show _ < ((20 : Nat) : Int); omega) (by decide) dX11_order_78 ?_
            refine Ev.aload_n (i := 0) dX11_order_79 rfl rfl ?_
            refine Em.gA (k := 34) hG (by decide) (by decide) (tb7 (i := 4) rfl) rfl rfl dX11_order_80 ?_
            refine Ev.aload_n (i := 0) dX11_order_83 rfl rfl ?_
            refine Ex.gS (k := 6) (v 6 0) rfl hG (by decide) (tb6 (i := 216) rfl) rfl rfl dX11_order_84 ?_
            refine Ev.bipush (v := i32 111) dX11_order_87 (by decide) ?_
            refine Em.iast (k := 34) hG (by decide) (by decide) rfl (by omega) (by show _ < ((20 : Nat) : Int); omega) (by decide) dX11_order_89 ?_
            refine Ev.aload_n (i := 0) dX11_order_90 rfl rfl ?_
            refine Ev.aload_n (i := 0) dX11_order_91 rfl rfl ?_
            refine Ex.gS (k := 6) (v 6 0) rfl hG (by decide) (tb6 (i := 216) rfl) rfl rfl dX11_order_92 ?_
            refine Ev.iload_n (i := 1) dX11_order_95 rfl rfl ?_
            refine Ev.iload_n (i := 2) dX11_order_96 rfl rfl ?_
            refine Em.cv0 (As := [_, _, _]) hG k_X11_adds (tb8 (i := 3) rfl) ki_X11_adds kv_X11_adds dX11_order_97 rfl rfl (Nat.le_of_ble_eq_true rfl) (by decide) (s_X11_adds (o := (v 6 0)) (r := a) (a := b) hG (((hI.up 0 0 0 (by show 0 ≤ 0 ∧ 0 ≤ 4; omega)).up 32 (v 6 0) c (by show 0 ≤ c ∧ c ≤ T + 99; omega)).up 34 (v 6 0) 111 (by show 0 ≤ 111 ∧ 111 ≤ 255; omega)) (by show 0 ≤ (v 6 0) ∧ (v 6 0) ≤ 19; omega) (by show 0 ≤ a ∧ a ≤ 4; omega) (by show 1 ≤ b ∧ b ≤ 40; omega) (by show (v 33 (v 6 0)) ≤ 3; omega)) ?_
            have hJ17 := (i_adds (o := (v 6 0)) (r := a) (a := b) (((hI.up 0 0 0 (by show 0 ≤ 0 ∧ 0 ≤ 4; omega)).up 32 (v 6 0) c (by show 0 ≤ c ∧ c ≤ T + 99; omega)).up 34 (v 6 0) 111 (by show 0 ≤ 111 ∧ 111 ≤ 255; omega)) (by show 0 ≤ (v 6 0) ∧ (v 6 0) ≤ 19; omega) (by show 0 ≤ a ∧ a ≤ 4; omega) (by show 1 ≤ b ∧ b ≤ 40; omega) (by show (v 33 (v 6 0)) ≤ 3; omega))
            have q18 : (f_adds (v 6 0) a b (upv (upv (upv v 0 0 0) 32 (v 6 0) c) 34 (v 6 0) 111)) 6 0 = (v 6 0) := rfl
            refine Ev.aload_n (i := 0) dX11_order_100 rfl rfl ?_
            refine Ev.dup dX11_order_101 rfl ?_
            have q19 : (f_adds (v 6 0) a b (upv (upv (upv v 0 0 0) 32 (v 6 0) c) 34 (v 6 0) 111)) 6 0 = v 6 0 := (fr_adds (o := (v 6 0)) (r := a) (a := b) (v := (upv (upv (upv v 0 0 0) 32 (v 6 0) c) 34 (v 6 0) 111)) 6 0 (by decide)).trans rfl
            refine Ex.gS (k := 6) (v 6 0) q19 hG (by decide) (tb6 (i := 216) rfl) rfl rfl dX11_order_102 ?_
            refine Ei.const dX11_order_105 ?_
            refine Ei.add dX11_order_106 ?_
            refine Em.pS (k := 6) hG (by decide) (tb6 (i := 216) rfl) rfl rfl rfl rfl dX11_order_107 ?_
            refine Ev.aload_n (i := 0) dX11_order_110 rfl rfl ?_
            refine Ex.gS (k := 6) (((v 6 0) + 1)) rfl hG (by decide) (tb6 (i := 216) rfl) rfl rfl dX11_order_111 ?_
            refine Ei.const dX11_order_114 ?_
            refine Ei.sub dX11_order_115 ?_
            exact Ev.iretE rfl nar_i dX11_order_116 (by rw [f_order, if_neg c5, if_neg c9, if_neg c12, if_pos c14, if_neg c15]; try rfl) (by first | rfl | (rw [f_order, if_neg c5, if_neg c9, if_neg c12, if_pos c14, if_neg c15]; try rfl))
        · refine Ev.aload_n (i := 0) dX11_order_43 rfl rfl ?_
          refine Ei.const dX11_order_44 ?_
          refine Em.cv1 (As := [_]) hG k_X11_fails (tb7 (i := 125) rfl) ki_X11_fails kv_X11_fails dX11_order_45 rfl rfl (Nat.le_of_ble_eq_true rfl) (by decide) (s_X11_fails (c := 2) hG hI (by show 0 ≤ 2 ∧ 2 ≤ 4; omega)) ?_
          have hJ20 := (i_fails (c := 2) hI (by show 0 ≤ 2 ∧ 2 ≤ 4; omega))
          exact Ev.iretE rfl nar_i dX11_order_48 (by rw [f_order, if_neg c5, if_neg c9, if_neg c12, if_neg c14]; try rfl) (by first | rfl | (rw [f_order, if_neg c5, if_neg c9, if_neg c12, if_neg c14]; try rfl))
theorem i_order {v : Vw} {T E : Int} {a b c : Int} (hI : IM v T E) (ha : -2147483648 ≤ a ∧ a < 2147483648) (hb : -2147483648 ≤ b ∧ b < 2147483648) (hc : -2147483648 ≤ c ∧ c < 2147483648) (hp0 : v 33 (v 6 0) = 0) : IM (f_order a b c v).2 T (E) := by
  have hT := hI.1
  have u6 : 0 ≤ v 6 0 ∧ v 6 0 ≤ 20 := hI.2 6 0
  have q1 : 0 ≤ v 1 0 ∧ v 1 0 ≤ 5 := hI.2 1 0
  have q2 : 0 ≤ (f_isRecipe a v) ∧ (f_isRecipe a v) ≤ 1 := r_isRecipe
  have q3 : ((f_isRecipe a v) = 1 ∧ 0 ≤ a ∧ a < (v 1 0)) ∨ ((f_isRecipe a v) = 0 ∧ ¬ (0 ≤ a ∧ a < (v 1 0))) := c_isRecipe a v
  have q4 : 0 ≤ (v 1 0) ∧ (v 1 0) ≤ 5 := hI.2 1 0
  by_cases c5 : (f_isRecipe a v) = 0
  · have hJ6 := (i_fails (c := 1) hI (by show 0 ≤ 1 ∧ 1 ≤ 4; omega))
    rw [f_order, if_pos c5]
    exact hJ6
  · have q7 : 0 ≤ (f_in b 1 40) ∧ (f_in b 1 40) ≤ 1 := r_in
    have q8 := c_in b 1 40
    by_cases c9 : (f_in b 1 40) = 0
    · have hJ10 := (i_fails (c := 2) hI (by show 0 ≤ 2 ∧ 2 ≤ 4; omega))
      rw [f_order, if_neg c5, if_pos c9]
      exact hJ10
    · have q11 : 0 ≤ v 8 0 ∧ v 8 0 ≤ T := hI.2 8 0
      by_cases c12 : c < (v 8 0)
      · have hJ13 := (i_fails (c := 2) hI (by show 0 ≤ 2 ∧ 2 ≤ 4; omega))
        rw [f_order, if_neg c5, if_neg c9, if_pos c12]
        exact hJ13
      · by_cases c14 : c ≤ ((v 8 0) + 99)
        · by_cases c15 : (v 6 0) = 20
          · have hJ16 := (i_fails (c := 3) hI (by show 0 ≤ 3 ∧ 3 ≤ 4; omega))
            rw [f_order, if_neg c5, if_neg c9, if_neg c12, if_pos c14, if_pos c15]
            exact hJ16
          · have hJ17 := (i_adds (o := (v 6 0)) (r := a) (a := b) (((hI.up 0 0 0 (by show 0 ≤ 0 ∧ 0 ≤ 4; omega)).up 32 (v 6 0) c (by show 0 ≤ c ∧ c ≤ T + 99; omega)).up 34 (v 6 0) 111 (by show 0 ≤ 111 ∧ 111 ≤ 255; omega)) (by show 0 ≤ (v 6 0) ∧ (v 6 0) ≤ 19; omega) (by show 0 ≤ a ∧ a ≤ 4; omega) (by show 1 ≤ b ∧ b ≤ 40; omega) (by show (v 33 (v 6 0)) ≤ 3; omega))
            have q18 : (f_adds (v 6 0) a b (upv (upv (upv v 0 0 0) 32 (v 6 0) c) 34 (v 6 0) 111)) 6 0 = (v 6 0) := rfl
            have q19 : (f_adds (v 6 0) a b (upv (upv (upv v 0 0 0) 32 (v 6 0) c) 34 (v 6 0) 111)) 6 0 = v 6 0 := (fr_adds (o := (v 6 0)) (r := a) (a := b) (v := (upv (upv (upv v 0 0 0) 32 (v 6 0) c) 34 (v 6 0) 111)) 6 0 (by decide)).trans rfl
            rw [f_order, if_neg c5, if_neg c9, if_neg c12, if_pos c14, if_neg c15]
            exact (hJ17.up 6 0 ((v 6 0) + 1) (by show 0 ≤ ((v 6 0) + 1) ∧ ((v 6 0) + 1) ≤ 20; omega))
        · have hJ20 := (i_fails (c := 2) hI (by show 0 ≤ 2 ∧ 2 ≤ 4; omega))
          rw [f_order, if_neg c5, if_neg c9, if_neg c12, if_neg c14]
          exact hJ20
theorem fr_order {a b c : Int} {v : Vw} (fk : Nat) (fi : Int) (hk : fk ≠ 0 ∧ fk ≠ 6 ∧ fk ≠ 32 ∧ fk ≠ 33 ∧ fk ≠ 34 ∧ fk ≠ 36 ∧ fk ≠ 37) : (f_order a b c v).2 fk fi = v fk fi := by
  by_cases c5 : (f_isRecipe a v) = 0
  · rw [f_order, if_pos c5]
    exact ((fr_fails (c := 1) (v := v) fk fi (by omega)).trans rfl)
  · by_cases c9 : (f_in b 1 40) = 0
    · rw [f_order, if_neg c5, if_pos c9]
      exact ((fr_fails (c := 2) (v := v) fk fi (by omega)).trans rfl)
    · by_cases c12 : c < (v 8 0)
      · rw [f_order, if_neg c5, if_neg c9, if_pos c12]
        exact ((fr_fails (c := 2) (v := v) fk fi (by omega)).trans rfl)
      · by_cases c14 : c ≤ ((v 8 0) + 99)
        · by_cases c15 : (v 6 0) = 20
          · rw [f_order, if_neg c5, if_neg c9, if_neg c12, if_pos c14, if_pos c15]
            exact ((fr_fails (c := 3) (v := v) fk fi (by omega)).trans rfl)
          · rw [f_order, if_neg c5, if_neg c9, if_neg c12, if_pos c14, if_neg c15]
            exact ((upv_nk (by omega)).trans ((fr_adds (o := (v 6 0)) (r := a) (a := b) (v := (upv (upv (upv v 0 0 0) 32 (v 6 0) c) 34 (v 6 0) 111)) fk fi (by omega)).trans ((upv_nk (by omega)).trans ((upv_nk (by omega)).trans ((upv_nk (by omega)).trans rfl)))))
        · rw [f_order, if_neg c5, if_neg c9, if_neg c12, if_neg c14]
          exact ((fr_fails (c := 2) (v := v) fk fi (by omega)).trans rfl)
def f_blend (a b c : Int) (v : Vw) : Int × Vw :=
  if (f_isOrder a v) = 0 then
    ((f_fails 1 v).1, (f_fails 1 v).2)
  else
    if (f_isRecipe b v) = 0 then
      ((f_fails 1 v).1, (f_fails 1 v).2)
    else
      if (f_in c 1 40) = 0 then
        ((f_fails 2 v).1, (f_fails 2 v).2)
      else
        if (v 34 a) = 111 then
          if (v 33 a) = 4 then
            ((f_fails 3 v).1, (f_fails 3 v).2)
          else
            (((f_adds a b c (upv v 0 0 0)) 33 a), (f_adds a b c (upv v 0 0 0)))
        else
          ((f_fails 3 v).1, (f_fails 3 v).2)
theorem s_X11_blend {X : Cx} {σ : Hp} {m0 : Nat} {v : Vw} {T E : Int} {a b c : Int} (hG : GM σ m0) (hI : IM v T E) (ha : -2147483648 ≤ a ∧ a < 2147483648) (hb : -2147483648 ≤ b ∧ b < 2147483648) (hc : -2147483648 ≤ c ∧ c < 2147483648) : Ct X m_X11_blend 3 [va_rf (some m0), .int (i32 a), .int (i32 b), .int (i32 c)] (Hm σ m0 v) (.inl (some (.int (i32 (f_blend a b c v).1)))) (Hm σ m0 (f_blend a b c v).2) := by
  have hT := hI.1
  refine Ct.of (by decide +kernel) rfl (Nat.le_of_ble_eq_true rfl) (by simp [Value.category, va_rf]) ?_
  refine Ev.aload_n (i := 0) dX11_blend_0 rfl rfl ?_
  refine Ev.iload_n (i := 1) dX11_blend_1 rfl rfl ?_
  have q1 : 0 ≤ v 6 0 ∧ v 6 0 ≤ 20 := hI.2 6 0
  refine Em.cv1 (As := [_]) hG k_X11_isOrder (tb8 (i := 11) rfl) ki_X11_isOrder kv_X11_isOrder dX11_blend_2 rfl rfl (Nat.le_of_ble_eq_true rfl) (by decide) (s_X11_isOrder (x := a) hG hI (by show -2147483648 ≤ a ∧ a < 2147483648; omega)) ?_
  have q2 : 0 ≤ (f_isOrder a v) ∧ (f_isOrder a v) ≤ 1 := r_isOrder
  have q3 : ((f_isOrder a v) = 1 ∧ 0 ≤ a ∧ a < (v 6 0)) ∨ ((f_isOrder a v) = 0 ∧ ¬ (0 ≤ a ∧ a < (v 6 0))) := c_isOrder a v
  have q4 : 0 ≤ (v 6 0) ∧ (v 6 0) ≤ 20 := hI.2 6 0
  refine Ei.if_eq (tgt := 16) dX11_blend_5 (by decide) ⟨by omega, by omega⟩ (fun c5 => ?_) (fun c5 => ?_)
  · refine Ev.aload_n (i := 0) dX11_blend_16 rfl rfl ?_
    refine Ei.const dX11_blend_17 ?_
    refine Em.cv1 (As := [_]) hG k_X11_fails (tb7 (i := 125) rfl) ki_X11_fails kv_X11_fails dX11_blend_18 rfl rfl (Nat.le_of_ble_eq_true rfl) (by decide) (s_X11_fails (c := 1) hG hI (by show 0 ≤ 1 ∧ 1 ≤ 4; omega)) ?_
    have hJ6 := (i_fails (c := 1) hI (by show 0 ≤ 1 ∧ 1 ≤ 4; omega))
    exact Ev.iretE rfl nar_i dX11_blend_21 (by rw [f_blend, if_pos c5]; try rfl) (by first | rfl | (rw [f_blend, if_pos c5]; try rfl))
  · refine Ev.aload_n (i := 0) dX11_blend_8 rfl rfl ?_
    refine Ev.iload_n (i := 2) dX11_blend_9 rfl rfl ?_
    have q7 : 0 ≤ v 1 0 ∧ v 1 0 ≤ 5 := hI.2 1 0
    refine Em.cv1 (As := [_]) hG k_X11_isRecipe (tb7 (i := 165) rfl) ki_X11_isRecipe kv_X11_isRecipe dX11_blend_10 rfl rfl (Nat.le_of_ble_eq_true rfl) (by decide) (s_X11_isRecipe (x := b) hG hI (by show -2147483648 ≤ b ∧ b < 2147483648; omega)) ?_
    have q8 : 0 ≤ (f_isRecipe b v) ∧ (f_isRecipe b v) ≤ 1 := r_isRecipe
    have q9 : ((f_isRecipe b v) = 1 ∧ 0 ≤ b ∧ b < (v 1 0)) ∨ ((f_isRecipe b v) = 0 ∧ ¬ (0 ≤ b ∧ b < (v 1 0))) := c_isRecipe b v
    have q10 : 0 ≤ (v 1 0) ∧ (v 1 0) ≤ 5 := hI.2 1 0
    refine Ex.if_ne (tgt := 22) dX11_blend_13 (by decide) ⟨by omega, by omega⟩ (fun c11 => ?_) (fun c11 => ?_)
    · refine Ev.aload_n (i := 0) dX11_blend_16 rfl rfl ?_
      refine Ei.const dX11_blend_17 ?_
      refine Em.cv1 (As := [_]) hG k_X11_fails (tb7 (i := 125) rfl) ki_X11_fails kv_X11_fails dX11_blend_18 rfl rfl (Nat.le_of_ble_eq_true rfl) (by decide) (s_X11_fails (c := 1) hG hI (by show 0 ≤ 1 ∧ 1 ≤ 4; omega)) ?_
      have hJ12 := (i_fails (c := 1) hI (by show 0 ≤ 1 ∧ 1 ≤ 4; omega))
      exact Ev.iretE rfl nar_i dX11_blend_21 (by rw [f_blend, if_neg c5, if_pos c11]; try rfl) (by first | rfl | (rw [f_blend, if_neg c5, if_pos c11]; try rfl))
    · refine Ev.iload_n (i := 3) dX11_blend_22 rfl rfl ?_
      refine Ei.const dX11_blend_23 ?_
      refine Ev.bipush (v := i32 40) dX11_blend_24 (by decide) ?_
      refine Ev.cs1 (As := [_, _, _]) k_X11_in (tb7 (i := 122) rfl) ki_X11_in dX11_blend_26 rfl rfl (Nat.le_of_ble_eq_true rfl) (by decide) (s_X11_in (x := c) (a := 1) (b := 40)  (by show -2147483648 ≤ c ∧ c < 2147483648; omega) (by show -2147483648 ≤ 1 ∧ 1 < 2147483648; omega) (by show -2147483648 ≤ 40 ∧ 40 < 2147483648; omega)) ?_
      have q13 : 0 ≤ (f_in c 1 40) ∧ (f_in c 1 40) ≤ 1 := r_in
      have q14 := c_in c 1 40
      refine Ex.if_ne (tgt := 38) dX11_blend_29 (by decide) ⟨by omega, by omega⟩ (fun c15 => ?_) (fun c15 => ?_)
      · refine Ev.aload_n (i := 0) dX11_blend_32 rfl rfl ?_
        refine Ei.const dX11_blend_33 ?_
        refine Em.cv1 (As := [_]) hG k_X11_fails (tb7 (i := 125) rfl) ki_X11_fails kv_X11_fails dX11_blend_34 rfl rfl (Nat.le_of_ble_eq_true rfl) (by decide) (s_X11_fails (c := 2) hG hI (by show 0 ≤ 2 ∧ 2 ≤ 4; omega)) ?_
        have hJ16 := (i_fails (c := 2) hI (by show 0 ≤ 2 ∧ 2 ≤ 4; omega))
        exact Ev.iretE rfl nar_i dX11_blend_37 (by rw [f_blend, if_neg c5, if_neg c11, if_pos c15]; try rfl) (by first | rfl | (rw [f_blend, if_neg c5, if_neg c11, if_pos c15]; try rfl))
      · refine Ev.aload_n (i := 0) dX11_blend_38 rfl rfl ?_
        refine Em.gA (k := 34) hG (by decide) (by decide) (tb7 (i := 4) rfl) rfl rfl dX11_blend_39 ?_
        refine Ev.iload_n (i := 1) dX11_blend_42 rfl rfl ?_
        have q17 : 0 ≤ v 34 a ∧ v 34 a ≤ 255 := hI.2 34 a
        refine Ex.iald (k := 34) (v 34 a) rfl hG (by decide) (by decide) rfl (by omega) (by show _ < ((20 : Nat) : Int); omega) (by decide) dX11_blend_43 ?_
        refine Ev.bipush (v := i32 111) dX11_blend_44 (by decide) ?_
        refine Ex.icmp_ne (tgt := 59) dX11_blend_46 (by decide) ⟨by omega, by omega⟩ ⟨by omega, by omega⟩ (fun c18 => ?_) (fun c18 => ?_)
        · refine Ev.aload_n (i := 0) dX11_blend_49 rfl rfl ?_
          refine Em.gA (k := 33) hG (by decide) (by decide) (tb7 (i := 3) rfl) rfl rfl dX11_blend_50 ?_
          refine Ev.iload_n (i := 1) dX11_blend_53 rfl rfl ?_
          have q19 : 0 ≤ v 33 a ∧ v 33 a ≤ 4 := hI.2 33 a
          refine Ex.iald (k := 33) (v 33 a) rfl hG (by decide) (by decide) rfl (by omega) (by show _ < ((20 : Nat) : Int); omega) (by decide) dX11_blend_54 ?_
          refine Ei.const dX11_blend_55 ?_
          refine Ex.icmp_ne (tgt := 65) dX11_blend_56 (by decide) ⟨by omega, by omega⟩ ⟨by omega, by omega⟩ (fun c20 => ?_) (fun c20 => ?_)
          · refine Ev.aload_n (i := 0) dX11_blend_59 rfl rfl ?_
            refine Ei.const dX11_blend_60 ?_
            refine Em.cv1 (As := [_]) hG k_X11_fails (tb7 (i := 125) rfl) ki_X11_fails kv_X11_fails dX11_blend_61 rfl rfl (Nat.le_of_ble_eq_true rfl) (by decide) (s_X11_fails (c := 3) hG hI (by show 0 ≤ 3 ∧ 3 ≤ 4; omega)) ?_
            have hJ21 := (i_fails (c := 3) hI (by show 0 ≤ 3 ∧ 3 ≤ 4; omega))
            exact Ev.iretE rfl nar_i dX11_blend_64 (by rw [f_blend, if_neg c5, if_neg c11, if_neg c15, if_pos c18, if_pos c20]; try rfl) (by first | rfl | (rw [f_blend, if_neg c5, if_neg c11, if_neg c15, if_pos c18, if_pos c20]; try rfl))
          · refine Ev.aload_n (i := 0) dX11_blend_65 rfl rfl ?_
            refine Ei.const dX11_blend_66 ?_
            refine Em.pS (k := 0) hG (by decide) (tb6 (i := 210) rfl) rfl rfl rfl rfl dX11_blend_67 ?_
            refine Ev.aload_n (i := 0) dX11_blend_70 rfl rfl ?_
            refine Ev.iload_n (i := 1) dX11_blend_71 rfl rfl ?_
            refine Ev.iload_n (i := 2) dX11_blend_72 rfl rfl ?_
            refine Ev.iload_n (i := 3) dX11_blend_73 rfl rfl ?_
            refine Em.cv0 (As := [_, _, _]) hG k_X11_adds (tb8 (i := 3) rfl) ki_X11_adds kv_X11_adds dX11_blend_74 rfl rfl (Nat.le_of_ble_eq_true rfl) (by decide) (s_X11_adds (o := a) (r := b) (a := c) hG (hI.up 0 0 0 (by show 0 ≤ 0 ∧ 0 ≤ 4; omega)) (by show 0 ≤ a ∧ a ≤ 19; omega) (by show 0 ≤ b ∧ b ≤ 4; omega) (by show 1 ≤ c ∧ c ≤ 40; omega) (by show (v 33 a) ≤ 3; omega)) ?_
            have hJ22 := (i_adds (o := a) (r := b) (a := c) (hI.up 0 0 0 (by show 0 ≤ 0 ∧ 0 ≤ 4; omega)) (by show 0 ≤ a ∧ a ≤ 19; omega) (by show 0 ≤ b ∧ b ≤ 4; omega) (by show 1 ≤ c ∧ c ≤ 40; omega) (by show (v 33 a) ≤ 3; omega))
            have q23 : (f_adds a b c (upv v 0 0 0)) 6 0 = (v 6 0) := rfl
            refine Ev.aload_n (i := 0) dX11_blend_77 rfl rfl ?_
            refine Em.gA (k := 33) hG (by decide) (by decide) (tb7 (i := 3) rfl) rfl rfl dX11_blend_78 ?_
            refine Ev.iload_n (i := 1) dX11_blend_81 rfl rfl ?_
            have q24 : 0 ≤ (f_adds a b c (upv v 0 0 0)) 33 a ∧ (f_adds a b c (upv v 0 0 0)) 33 a ≤ 4 := hJ22.2 33 a
            refine Ex.iald (k := 33) ((f_adds a b c (upv v 0 0 0)) 33 a) rfl hG (by decide) (by decide) rfl (by omega) (by show _ < ((20 : Nat) : Int); omega) (by decide) dX11_blend_82 ?_
            exact Ev.iretE rfl nar_i dX11_blend_83 (by rw [f_blend, if_neg c5, if_neg c11, if_neg c15, if_pos c18, if_neg c20]; try rfl) (by first | rfl | (rw [f_blend, if_neg c5, if_neg c11, if_neg c15, if_pos c18, if_neg c20]; try rfl))
        · refine Ev.aload_n (i := 0) dX11_blend_59 rfl rfl ?_
          refine Ei.const dX11_blend_60 ?_
          refine Em.cv1 (As := [_]) hG k_X11_fails (tb7 (i := 125) rfl) ki_X11_fails kv_X11_fails dX11_blend_61 rfl rfl (Nat.le_of_ble_eq_true rfl) (by decide) (s_X11_fails (c := 3) hG hI (by show 0 ≤ 3 ∧ 3 ≤ 4; omega)) ?_
          have hJ25 := (i_fails (c := 3) hI (by show 0 ≤ 3 ∧ 3 ≤ 4; omega))
          exact Ev.iretE rfl nar_i dX11_blend_64 (by rw [f_blend, if_neg c5, if_neg c11, if_neg c15, if_neg c18]; try rfl) (by first | rfl | (rw [f_blend, if_neg c5, if_neg c11, if_neg c15, if_neg c18]; try rfl))
theorem i_blend {v : Vw} {T E : Int} {a b c : Int} (hI : IM v T E) (ha : -2147483648 ≤ a ∧ a < 2147483648) (hb : -2147483648 ≤ b ∧ b < 2147483648) (hc : -2147483648 ≤ c ∧ c < 2147483648) : IM (f_blend a b c v).2 T (E) := by
  have hT := hI.1
  have q1 : 0 ≤ v 6 0 ∧ v 6 0 ≤ 20 := hI.2 6 0
  have q2 : 0 ≤ (f_isOrder a v) ∧ (f_isOrder a v) ≤ 1 := r_isOrder
  have q3 : ((f_isOrder a v) = 1 ∧ 0 ≤ a ∧ a < (v 6 0)) ∨ ((f_isOrder a v) = 0 ∧ ¬ (0 ≤ a ∧ a < (v 6 0))) := c_isOrder a v
  have q4 : 0 ≤ (v 6 0) ∧ (v 6 0) ≤ 20 := hI.2 6 0
  by_cases c5 : (f_isOrder a v) = 0
  · have hJ6 := (i_fails (c := 1) hI (by show 0 ≤ 1 ∧ 1 ≤ 4; omega))
    rw [f_blend, if_pos c5]
    exact hJ6
  · have q7 : 0 ≤ v 1 0 ∧ v 1 0 ≤ 5 := hI.2 1 0
    have q8 : 0 ≤ (f_isRecipe b v) ∧ (f_isRecipe b v) ≤ 1 := r_isRecipe
    have q9 : ((f_isRecipe b v) = 1 ∧ 0 ≤ b ∧ b < (v 1 0)) ∨ ((f_isRecipe b v) = 0 ∧ ¬ (0 ≤ b ∧ b < (v 1 0))) := c_isRecipe b v
    have q10 : 0 ≤ (v 1 0) ∧ (v 1 0) ≤ 5 := hI.2 1 0
    by_cases c11 : (f_isRecipe b v) = 0
    · have hJ12 := (i_fails (c := 1) hI (by show 0 ≤ 1 ∧ 1 ≤ 4; omega))
      rw [f_blend, if_neg c5, if_pos c11]
      exact hJ12
    · have q13 : 0 ≤ (f_in c 1 40) ∧ (f_in c 1 40) ≤ 1 := r_in
      have q14 := c_in c 1 40
      by_cases c15 : (f_in c 1 40) = 0
      · have hJ16 := (i_fails (c := 2) hI (by show 0 ≤ 2 ∧ 2 ≤ 4; omega))
        rw [f_blend, if_neg c5, if_neg c11, if_pos c15]
        exact hJ16
      · have q17 : 0 ≤ v 34 a ∧ v 34 a ≤ 255 := hI.2 34 a
        by_cases c18 : (v 34 a) = 111
        · have q19 : 0 ≤ v 33 a ∧ v 33 a ≤ 4 := hI.2 33 a
          by_cases c20 : (v 33 a) = 4
          · have hJ21 := (i_fails (c := 3) hI (by show 0 ≤ 3 ∧ 3 ≤ 4; omega))
            rw [f_blend, if_neg c5, if_neg c11, if_neg c15, if_pos c18, if_pos c20]
            exact hJ21
          · have hJ22 := (i_adds (o := a) (r := b) (a := c) (hI.up 0 0 0 (by show 0 ≤ 0 ∧ 0 ≤ 4; omega)) (by show 0 ≤ a ∧ a ≤ 19; omega) (by show 0 ≤ b ∧ b ≤ 4; omega) (by show 1 ≤ c ∧ c ≤ 40; omega) (by show (v 33 a) ≤ 3; omega))
            have q23 : (f_adds a b c (upv v 0 0 0)) 6 0 = (v 6 0) := rfl
            have q24 : 0 ≤ (f_adds a b c (upv v 0 0 0)) 33 a ∧ (f_adds a b c (upv v 0 0 0)) 33 a ≤ 4 := hJ22.2 33 a
            rw [f_blend, if_neg c5, if_neg c11, if_neg c15, if_pos c18, if_neg c20]
            exact hJ22
        · have hJ25 := (i_fails (c := 3) hI (by show 0 ≤ 3 ∧ 3 ≤ 4; omega))
          rw [f_blend, if_neg c5, if_neg c11, if_neg c15, if_neg c18]
          exact hJ25
theorem fr_blend {a b c : Int} {v : Vw} (fk : Nat) (fi : Int) (hk : fk ≠ 0 ∧ fk ≠ 33 ∧ fk ≠ 36 ∧ fk ≠ 37) : (f_blend a b c v).2 fk fi = v fk fi := by
  by_cases c5 : (f_isOrder a v) = 0
  · rw [f_blend, if_pos c5]
    exact ((fr_fails (c := 1) (v := v) fk fi (by omega)).trans rfl)
  · by_cases c11 : (f_isRecipe b v) = 0
    · rw [f_blend, if_neg c5, if_pos c11]
      exact ((fr_fails (c := 1) (v := v) fk fi (by omega)).trans rfl)
    · by_cases c15 : (f_in c 1 40) = 0
      · rw [f_blend, if_neg c5, if_neg c11, if_pos c15]
        exact ((fr_fails (c := 2) (v := v) fk fi (by omega)).trans rfl)
      · by_cases c18 : (v 34 a) = 111
        · by_cases c20 : (v 33 a) = 4
          · rw [f_blend, if_neg c5, if_neg c11, if_neg c15, if_pos c18, if_pos c20]
            exact ((fr_fails (c := 3) (v := v) fk fi (by omega)).trans rfl)
          · rw [f_blend, if_neg c5, if_neg c11, if_neg c15, if_pos c18, if_neg c20]
            exact ((fr_adds (o := a) (r := b) (a := c) (v := (upv v 0 0 0)) fk fi (by omega)).trans ((upv_nk (by omega)).trans rfl))
        · rw [f_blend, if_neg c5, if_neg c11, if_neg c15, if_neg c18]
          exact ((fr_fails (c := 3) (v := v) fk fi (by omega)).trans rfl)
def l_cancel_48 (a : Int) (v : Vw) : Nat → Int → Int → Int
  | 0, s, k => s
  | n + 1, s, k =>
    if (v 33 a) ≤ k then
      s
    else
      (l_cancel_48 a v n (s + (v 37 ((4 * a) + k))) (k + 1))
theorem s_l_cancel_48 {X : Cx} {σ : Hp} {m0 : Nat} {T E : Int} {a : Int} {oc : Rs} {τ : Hp} (hG : GM σ m0) {v : Vw} (hI : IM v T E) (ha : 0 ≤ a ∧ a ≤ 19) : ∀ (n : Nat) (s k : Int) (hk : 0 ≤ k ∧ k ≤ 1000) (hm : (v 33 a - k).toNat < n), Ev X m_X11_cancel 3 77 [some (va_rf (some m0)), some (.int (i32 a)), some (.int (i32 (l_cancel_48 a v n s k))), none] [] (Hm σ m0 v) oc τ → Ev X m_X11_cancel 3 48 [some (va_rf (some m0)), some (.int (i32 a)), some (.int (i32 s)), some (.int (i32 k))] [] (Hm σ m0 v) oc τ := by
  intro n
  induction n with
  | zero =>
    intro s k hk hm K
    exact absurd hm (Nat.not_lt_zero _)
  | succ n ih =>
    intro s k hk hm K
    have hT := hI.1
    refine Ev.iload_n (i := 3) dX11_cancel_48 rfl rfl ?_
    refine Ev.aload_n (i := 0) dX11_cancel_49 rfl rfl ?_
    refine Em.gA (k := 33) hG (by decide) (by decide) (tb7 (i := 3) rfl) rfl rfl dX11_cancel_50 ?_
    refine Ev.iload_n (i := 1) dX11_cancel_53 rfl rfl ?_
    have q1 : 0 ≤ v 33 a ∧ v 33 a ≤ 4 := hI.2 33 a
    refine Ex.iald (k := 33) (v 33 a) rfl hG (by decide) (by decide) rfl (by omega) (by show _ < ((20 : Nat) : Int); omega) (by decide) dX11_cancel_54 ?_
    refine Ei.icmp_ge (tgt := 77) dX11_cancel_55 (by decide) ⟨by omega, by omega⟩ ⟨by omega, by omega⟩ (fun c2 => ?_) (fun c2 => ?_)
    · rw [l_cancel_48, if_pos c2] at K
      exact Ev.fgt (ls' := [some (va_rf (some m0)), some (.int (i32 a)), some (.int (i32 s)), none]) ⟨rfl, ⟨rfl, ⟨rfl, trivial⟩⟩⟩ K
    · refine Ev.iload_n (i := 2) dX11_cancel_58 rfl rfl ?_
      refine Ev.aload_n (i := 0) dX11_cancel_59 rfl rfl ?_
      refine Em.gA (k := 37) hG (by decide) (by decide) (tb7 (i := 7) rfl) rfl rfl dX11_cancel_60 ?_
      refine Ei.const dX11_cancel_63 ?_
      refine Ev.iload_n (i := 1) dX11_cancel_64 rfl rfl ?_
      refine Ei.mul dX11_cancel_65 ?_
      refine Ev.iload_n (i := 3) dX11_cancel_66 rfl rfl ?_
      refine Ei.add dX11_cancel_67 ?_
      have q3 : 0 ≤ v 37 ((4 * a) + k) ∧ v 37 ((4 * a) + k) ≤ 40 := hI.2 37 ((4 * a) + k)
      refine Ex.iald (k := 37) (v 37 ((4 * a) + k)) rfl hG (by decide) (by decide) rfl (by omega) (by show _ < ((80 : Nat) : Int); omega) (by decide) dX11_cancel_68 ?_
      refine Ei.add dX11_cancel_69 ?_
      refine Ev.istore_n (i := 2) dX11_cancel_70 rfl (by decide) ?_
      refine Ei.inc dX11_cancel_71 rfl (by decide) ?_
      refine Ev.goto (tgt := 48) dX11_cancel_74 (by decide) ?_
      rw [l_cancel_48, if_neg c2] at K
      exact Ev.fgt (ls' := [some (va_rf (some m0)), some (.int (i32 a)), some (.int (i32 (s + (v 37 ((4 * a) + k))))), some (.int (i32 (k + 1)))]) ⟨rfl, ⟨rfl, ⟨rfl, ⟨rfl, trivial⟩⟩⟩⟩ (ih (s + (v 37 ((4 * a) + k))) (k + 1)  (by show 0 ≤ (k + 1) ∧ (k + 1) ≤ 1000; omega) (by show ((v 33 a) - (k + 1)).toNat < n; omega) K)
def f_cancel (a : Int) (v : Vw) : Int × Vw :=
  if (f_isOrder a v) = 0 then
    ((f_fails 1 v).1, (f_fails 1 v).2)
  else
    if (v 34 a) = 111 then
      ((l_cancel_48 a (upv (upv v 0 0 0) 34 a 99) (((v 33 a) - 0).toNat + 1) 0 0), (upv (upv v 0 0 0) 34 a 99))
    else
      ((f_fails 2 v).1, (f_fails 2 v).2)
theorem s_X11_cancel {X : Cx} {σ : Hp} {m0 : Nat} {v : Vw} {T E : Int} {a : Int} (hG : GM σ m0) (hI : IM v T E) (ha : -2147483648 ≤ a ∧ a < 2147483648) : Ct X m_X11_cancel 3 [va_rf (some m0), .int (i32 a)] (Hm σ m0 v) (.inl (some (.int (i32 (f_cancel a v).1)))) (Hm σ m0 (f_cancel a v).2) := by
  have hT := hI.1
  refine Ct.of (by decide +kernel) rfl (Nat.le_of_ble_eq_true rfl) (by simp [Value.category, va_rf]) ?_
  refine Ev.aload_n (i := 0) dX11_cancel_0 rfl rfl ?_
  refine Ev.iload_n (i := 1) dX11_cancel_1 rfl rfl ?_
  have q4 : 0 ≤ v 6 0 ∧ v 6 0 ≤ 20 := hI.2 6 0
  refine Em.cv1 (As := [_]) hG k_X11_isOrder (tb8 (i := 11) rfl) ki_X11_isOrder kv_X11_isOrder dX11_cancel_2 rfl rfl (Nat.le_of_ble_eq_true rfl) (by decide) (s_X11_isOrder (x := a) hG hI (by show -2147483648 ≤ a ∧ a < 2147483648; omega)) ?_
  have q5 : 0 ≤ (f_isOrder a v) ∧ (f_isOrder a v) ≤ 1 := r_isOrder
  have q6 : ((f_isOrder a v) = 1 ∧ 0 ≤ a ∧ a < (v 6 0)) ∨ ((f_isOrder a v) = 0 ∧ ¬ (0 ≤ a ∧ a < (v 6 0))) := c_isOrder a v
  have q7 : 0 ≤ (v 6 0) ∧ (v 6 0) ≤ 20 := hI.2 6 0
  refine Ex.if_ne (tgt := 14) dX11_cancel_5 (by decide) ⟨by omega, by omega⟩ (fun c8 => ?_) (fun c8 => ?_)
  · refine Ev.aload_n (i := 0) dX11_cancel_8 rfl rfl ?_
    refine Ei.const dX11_cancel_9 ?_
    refine Em.cv1 (As := [_]) hG k_X11_fails (tb7 (i := 125) rfl) ki_X11_fails kv_X11_fails dX11_cancel_10 rfl rfl (Nat.le_of_ble_eq_true rfl) (by decide) (s_X11_fails (c := 1) hG hI (by show 0 ≤ 1 ∧ 1 ≤ 4; omega)) ?_
    have hJ9 := (i_fails (c := 1) hI (by show 0 ≤ 1 ∧ 1 ≤ 4; omega))
    exact Ev.iretE rfl nar_i dX11_cancel_13 (by rw [f_cancel, if_pos c8]; try rfl) (by first | rfl | (rw [f_cancel, if_pos c8]; try rfl))
  · refine Ev.aload_n (i := 0) dX11_cancel_14 rfl rfl ?_
    refine Em.gA (k := 34) hG (by decide) (by decide) (tb7 (i := 4) rfl) rfl rfl dX11_cancel_15 ?_
    refine Ev.iload_n (i := 1) dX11_cancel_18 rfl rfl ?_
    have q10 : 0 ≤ v 34 a ∧ v 34 a ≤ 255 := hI.2 34 a
    refine Ex.iald (k := 34) (v 34 a) rfl hG (by decide) (by decide) rfl (by omega) (by show _ < ((20 : Nat) : Int); omega) (by decide) dX11_cancel_19 ?_
    refine Ev.bipush (v := i32 111) dX11_cancel_20 (by decide) ?_
    refine Ei.icmp_eq (tgt := 31) dX11_cancel_22 (by decide) ⟨by omega, by omega⟩ ⟨by omega, by omega⟩ (fun c11 => ?_) (fun c11 => ?_)
    · refine Ev.aload_n (i := 0) dX11_cancel_31 rfl rfl ?_
      refine Ei.const dX11_cancel_32 ?_
      refine Em.pS (k := 0) hG (by decide) (tb6 (i := 210) rfl) rfl rfl rfl rfl dX11_cancel_33 ?_
      refine Ev.aload_n (i := 0) dX11_cancel_36 rfl rfl ?_
      refine Em.gA (k := 34) hG (by decide) (by decide) (tb7 (i := 4) rfl) rfl rfl dX11_cancel_37 ?_
      refine Ev.iload_n (i := 1) dX11_cancel_40 rfl rfl ?_
      refine Ev.bipush (v := i32 99) dX11_cancel_41 (by decide) ?_
      refine Em.iast (k := 34) hG (by decide) (by decide) rfl (by omega) (by show _ < ((20 : Nat) : Int); omega) (by decide) dX11_cancel_43 ?_
      refine Ei.const dX11_cancel_44 ?_
      refine Ev.istore_n (i := 2) dX11_cancel_45 rfl (by decide) ?_
      refine Ei.const dX11_cancel_46 ?_
      refine Ev.istore_n (i := 3) dX11_cancel_47 rfl (by decide) ?_
      refine Ev.fgt (ls' := [some (va_rf (some m0)), some (.int (i32 a)), some (.int (i32 0)), some (.int (i32 0))]) ⟨rfl, ⟨rfl, ⟨rfl, ⟨rfl, trivial⟩⟩⟩⟩ ?_
      refine s_l_cancel_48 hG ((hI.up 0 0 0 (by show 0 ≤ 0 ∧ 0 ≤ 4; omega)).up 34 a 99 (by show 0 ≤ 99 ∧ 99 ≤ 255; omega)) (a := a) (by omega) (((v 33 a) - 0).toNat + 1) 0 0 (by show 0 ≤ 0 ∧ 0 ≤ 1000; omega) (by show ((v 33 a) - 0).toNat < (((v 33 a) - 0).toNat + 1); omega) ?_
      refine Ev.iload_n (i := 2) dX11_cancel_77 rfl rfl ?_
      exact Ev.iretE rfl nar_i dX11_cancel_78 (by rw [f_cancel, if_neg c8, if_pos c11]; try rfl) (by first | rfl | (rw [f_cancel, if_neg c8, if_pos c11]; try rfl))
    · refine Ev.aload_n (i := 0) dX11_cancel_25 rfl rfl ?_
      refine Ei.const dX11_cancel_26 ?_
      refine Em.cv1 (As := [_]) hG k_X11_fails (tb7 (i := 125) rfl) ki_X11_fails kv_X11_fails dX11_cancel_27 rfl rfl (Nat.le_of_ble_eq_true rfl) (by decide) (s_X11_fails (c := 2) hG hI (by show 0 ≤ 2 ∧ 2 ≤ 4; omega)) ?_
      have hJ12 := (i_fails (c := 2) hI (by show 0 ≤ 2 ∧ 2 ≤ 4; omega))
      exact Ev.iretE rfl nar_i dX11_cancel_30 (by rw [f_cancel, if_neg c8, if_neg c11]; try rfl) (by first | rfl | (rw [f_cancel, if_neg c8, if_neg c11]; try rfl))
theorem i_cancel {v : Vw} {T E : Int} {a : Int} (hI : IM v T E) (ha : -2147483648 ≤ a ∧ a < 2147483648) : IM (f_cancel a v).2 T (E) := by
  have hT := hI.1
  have q4 : 0 ≤ v 6 0 ∧ v 6 0 ≤ 20 := hI.2 6 0
  have q5 : 0 ≤ (f_isOrder a v) ∧ (f_isOrder a v) ≤ 1 := r_isOrder
  have q6 : ((f_isOrder a v) = 1 ∧ 0 ≤ a ∧ a < (v 6 0)) ∨ ((f_isOrder a v) = 0 ∧ ¬ (0 ≤ a ∧ a < (v 6 0))) := c_isOrder a v
  have q7 : 0 ≤ (v 6 0) ∧ (v 6 0) ≤ 20 := hI.2 6 0
  by_cases c8 : (f_isOrder a v) = 0
  · have hJ9 := (i_fails (c := 1) hI (by show 0 ≤ 1 ∧ 1 ≤ 4; omega))
    rw [f_cancel, if_pos c8]
    exact hJ9
  · have q10 : 0 ≤ v 34 a ∧ v 34 a ≤ 255 := hI.2 34 a
    by_cases c11 : (v 34 a) = 111
    · rw [f_cancel, if_neg c8, if_pos c11]
      exact ((hI.up 0 0 0 (by show 0 ≤ 0 ∧ 0 ≤ 4; omega)).up 34 a 99 (by show 0 ≤ 99 ∧ 99 ≤ 255; omega))
    · have hJ12 := (i_fails (c := 2) hI (by show 0 ≤ 2 ∧ 2 ≤ 4; omega))
      rw [f_cancel, if_neg c8, if_neg c11]
      exact hJ12
theorem fr_cancel {a : Int} {v : Vw} (fk : Nat) (fi : Int) (hk : fk ≠ 0 ∧ fk ≠ 34) : (f_cancel a v).2 fk fi = v fk fi := by
  by_cases c8 : (f_isOrder a v) = 0
  · rw [f_cancel, if_pos c8]
    exact ((fr_fails (c := 1) (v := v) fk fi (by omega)).trans rfl)
  · by_cases c11 : (v 34 a) = 111
    · rw [f_cancel, if_neg c8, if_pos c11]
      exact ((upv_nk (by omega)).trans ((upv_nk (by omega)).trans rfl))
    · rw [f_cancel, if_neg c8, if_neg c11]
      exact ((fr_fails (c := 2) (v := v) fk fi (by omega)).trans rfl)
def f_status (a : Int) (v : Vw) : Int × Vw :=
  if (f_isOrder a v) = 0 then
    (0, (upv v 0 0 1))
  else
    ((v 34 a), (upv v 0 0 0))
theorem s_X11_status {X : Cx} {σ : Hp} {m0 : Nat} {v : Vw} {T E : Int} {a : Int} (hG : GM σ m0) (hI : IM v T E) (ha : -2147483648 ≤ a ∧ a < 2147483648) : Ct X m_X11_status 3 [va_rf (some m0), .int (i32 a)] (Hm σ m0 v) (.inl (some (.int (i32 (f_status a v).1)))) (Hm σ m0 (f_status a v).2) := by
  have hT := hI.1
  refine Ct.of (by decide +kernel) rfl (Nat.le_of_ble_eq_true rfl) (by simp [Value.category, va_rf]) ?_
  refine Ev.aload_n (i := 0) dX11_status_0 rfl rfl ?_
  refine Ev.aload_n (i := 0) dX11_status_1 rfl rfl ?_
  refine Ev.iload_n (i := 1) dX11_status_2 rfl rfl ?_
  have q1 : 0 ≤ v 6 0 ∧ v 6 0 ≤ 20 := hI.2 6 0
  refine Em.cv1 (As := [_]) hG k_X11_isOrder (tb8 (i := 11) rfl) ki_X11_isOrder kv_X11_isOrder dX11_status_3 rfl rfl (Nat.le_of_ble_eq_true rfl) (by decide) (s_X11_isOrder (x := a) hG hI (by show -2147483648 ≤ a ∧ a < 2147483648; omega)) ?_
  have q2 : 0 ≤ (f_isOrder a v) ∧ (f_isOrder a v) ≤ 1 := r_isOrder
  have q3 : ((f_isOrder a v) = 1 ∧ 0 ≤ a ∧ a < (v 6 0)) ∨ ((f_isOrder a v) = 0 ∧ ¬ (0 ≤ a ∧ a < (v 6 0))) := c_isOrder a v
  have q4 : 0 ≤ (v 6 0) ∧ (v 6 0) ≤ 20 := hI.2 6 0
  refine Ei.if_eq (tgt := 13) dX11_status_6 (by decide) ⟨by omega, by omega⟩ (fun c5 => ?_) (fun c5 => ?_)
  · refine Ei.const dX11_status_13 ?_
    refine Em.pS (k := 0) hG (by decide) (tb6 (i := 210) rfl) rfl rfl rfl rfl dX11_status_14 ?_
    refine Ev.aload_n (i := 0) dX11_status_17 rfl rfl ?_
    refine Ex.gS (k := 0) (1) rfl hG (by decide) (tb6 (i := 210) rfl) rfl rfl dX11_status_18 ?_
    refine Ei.if_le_f (tgt := 28) dX11_status_21 (by decide) ⟨by omega, by omega⟩ (by omega) ?_
    refine Ei.const dX11_status_24 ?_
    refine Ev.goto (tgt := 34) dX11_status_25 (by decide) ?_
    refine Ei.i2c (by omega) (by omega) dX11_status_34 ?_
    exact Ev.iretE rfl (nar_c (by omega) (by omega)) dX11_status_35 (by rw [f_status, if_pos c5]; try rfl) (by first | rfl | (rw [f_status, if_pos c5]; try rfl))
  · refine Ei.const dX11_status_9 ?_
    refine Ev.goto (tgt := 14) dX11_status_10 (by decide) ?_
    refine Em.pS (k := 0) hG (by decide) (tb6 (i := 210) rfl) rfl rfl rfl rfl dX11_status_14 ?_
    refine Ev.aload_n (i := 0) dX11_status_17 rfl rfl ?_
    refine Ex.gS (k := 0) (0) rfl hG (by decide) (tb6 (i := 210) rfl) rfl rfl dX11_status_18 ?_
    refine Ei.if_le_t (tgt := 28) dX11_status_21 (by decide) ⟨by omega, by omega⟩ (by omega) ?_
    refine Ev.aload_n (i := 0) dX11_status_28 rfl rfl ?_
    refine Em.gA (k := 34) hG (by decide) (by decide) (tb7 (i := 4) rfl) rfl rfl dX11_status_29 ?_
    refine Ev.iload_n (i := 1) dX11_status_32 rfl rfl ?_
    have q6 : 0 ≤ v 34 a ∧ v 34 a ≤ 255 := hI.2 34 a
    refine Ex.iald (k := 34) (v 34 a) rfl hG (by decide) (by decide) rfl (by omega) (by show _ < ((20 : Nat) : Int); omega) (by decide) dX11_status_33 ?_
    refine Ei.i2c (by omega) (by omega) dX11_status_34 ?_
    exact Ev.iretE rfl (nar_c (by omega) (by omega)) dX11_status_35 (by rw [f_status, if_neg c5]; try rfl) (by first | rfl | (rw [f_status, if_neg c5]; try rfl))
theorem i_status {v : Vw} {T E : Int} {a : Int} (hI : IM v T E) (ha : -2147483648 ≤ a ∧ a < 2147483648) : IM (f_status a v).2 T (E) := by
  have hT := hI.1
  have q1 : 0 ≤ v 6 0 ∧ v 6 0 ≤ 20 := hI.2 6 0
  have q2 : 0 ≤ (f_isOrder a v) ∧ (f_isOrder a v) ≤ 1 := r_isOrder
  have q3 : ((f_isOrder a v) = 1 ∧ 0 ≤ a ∧ a < (v 6 0)) ∨ ((f_isOrder a v) = 0 ∧ ¬ (0 ≤ a ∧ a < (v 6 0))) := c_isOrder a v
  have q4 : 0 ≤ (v 6 0) ∧ (v 6 0) ≤ 20 := hI.2 6 0
  by_cases c5 : (f_isOrder a v) = 0
  · rw [f_status, if_pos c5]
    exact (hI.up 0 0 1 (by show 0 ≤ 1 ∧ 1 ≤ 4; omega))
  · have q6 : 0 ≤ v 34 a ∧ v 34 a ≤ 255 := hI.2 34 a
    rw [f_status, if_neg c5]
    exact (hI.up 0 0 0 (by show 0 ≤ 0 ∧ 0 ≤ 4; omega))
theorem fr_status {a : Int} {v : Vw} (fk : Nat) (fi : Int) (hk : fk ≠ 0) : (f_status a v).2 fk fi = v fk fi := by
  by_cases c5 : (f_isOrder a v) = 0
  · rw [f_status, if_pos c5]
    exact ((upv_nk (by omega)).trans rfl)
  · rw [f_status, if_neg c5]
    exact ((upv_nk (by omega)).trans rfl)
def f_filledOn (a : Int) (v : Vw) : Int × Vw :=
  if (f_isOrder a v) = 0 then
    (0, (upv v 0 0 1))
  else
    if (v 34 a) = 102 then
      ((v 35 a), (upv v 0 0 0))
    else
      (0, (upv v 0 0 2))
theorem s_X11_filledOn {X : Cx} {σ : Hp} {m0 : Nat} {v : Vw} {T E : Int} {a : Int} (hG : GM σ m0) (hI : IM v T E) (ha : -2147483648 ≤ a ∧ a < 2147483648) : Ct X m_X11_filledOn 3 [va_rf (some m0), .int (i32 a)] (Hm σ m0 v) (.inl (some (.int (i32 (f_filledOn a v).1)))) (Hm σ m0 (f_filledOn a v).2) := by
  have hT := hI.1
  refine Ct.of (by decide +kernel) rfl (Nat.le_of_ble_eq_true rfl) (by simp [Value.category, va_rf]) ?_
  refine Ev.aload_n (i := 0) dX11_filledOn_0 rfl rfl ?_
  refine Ev.aload_n (i := 0) dX11_filledOn_1 rfl rfl ?_
  refine Ev.iload_n (i := 1) dX11_filledOn_2 rfl rfl ?_
  have q1 : 0 ≤ v 6 0 ∧ v 6 0 ≤ 20 := hI.2 6 0
  refine Em.cv1 (As := [_]) hG k_X11_isOrder (tb8 (i := 11) rfl) ki_X11_isOrder kv_X11_isOrder dX11_filledOn_3 rfl rfl (Nat.le_of_ble_eq_true rfl) (by decide) (s_X11_isOrder (x := a) hG hI (by show -2147483648 ≤ a ∧ a < 2147483648; omega)) ?_
  have q2 : 0 ≤ (f_isOrder a v) ∧ (f_isOrder a v) ≤ 1 := r_isOrder
  have q3 : ((f_isOrder a v) = 1 ∧ 0 ≤ a ∧ a < (v 6 0)) ∨ ((f_isOrder a v) = 0 ∧ ¬ (0 ≤ a ∧ a < (v 6 0))) := c_isOrder a v
  have q4 : 0 ≤ (v 6 0) ∧ (v 6 0) ≤ 20 := hI.2 6 0
  refine Ex.if_ne (tgt := 13) dX11_filledOn_6 (by decide) ⟨by omega, by omega⟩ (fun c5 => ?_) (fun c5 => ?_)
  · refine Ei.const dX11_filledOn_9 ?_
    refine Ev.goto (tgt := 29) dX11_filledOn_10 (by decide) ?_
    refine Em.pS (k := 0) hG (by decide) (tb6 (i := 210) rfl) rfl rfl rfl rfl dX11_filledOn_29 ?_
    refine Ev.aload_n (i := 0) dX11_filledOn_32 rfl rfl ?_
    refine Ex.gS (k := 0) (1) rfl hG (by decide) (tb6 (i := 210) rfl) rfl rfl dX11_filledOn_33 ?_
    refine Ei.if_le_f (tgt := 43) dX11_filledOn_36 (by decide) ⟨by omega, by omega⟩ (by omega) ?_
    refine Ei.const dX11_filledOn_39 ?_
    refine Ev.goto (tgt := 49) dX11_filledOn_40 (by decide) ?_
    exact Ev.iretE rfl nar_i dX11_filledOn_49 (by rw [f_filledOn, if_pos c5]; try rfl) (by first | rfl | (rw [f_filledOn, if_pos c5]; try rfl))
  · refine Ev.aload_n (i := 0) dX11_filledOn_13 rfl rfl ?_
    refine Em.gA (k := 34) hG (by decide) (by decide) (tb7 (i := 4) rfl) rfl rfl dX11_filledOn_14 ?_
    refine Ev.iload_n (i := 1) dX11_filledOn_17 rfl rfl ?_
    have q6 : 0 ≤ v 34 a ∧ v 34 a ≤ 255 := hI.2 34 a
    refine Ex.iald (k := 34) (v 34 a) rfl hG (by decide) (by decide) rfl (by omega) (by show _ < ((20 : Nat) : Int); omega) (by decide) dX11_filledOn_18 ?_
    refine Ev.bipush (v := i32 102) dX11_filledOn_19 (by decide) ?_
    refine Ex.icmp_ne (tgt := 28) dX11_filledOn_21 (by decide) ⟨by omega, by omega⟩ ⟨by omega, by omega⟩ (fun c7 => ?_) (fun c7 => ?_)
    · refine Ei.const dX11_filledOn_24 ?_
      refine Ev.goto (tgt := 29) dX11_filledOn_25 (by decide) ?_
      refine Em.pS (k := 0) hG (by decide) (tb6 (i := 210) rfl) rfl rfl rfl rfl dX11_filledOn_29 ?_
      refine Ev.aload_n (i := 0) dX11_filledOn_32 rfl rfl ?_
      refine Ex.gS (k := 0) (0) rfl hG (by decide) (tb6 (i := 210) rfl) rfl rfl dX11_filledOn_33 ?_
      refine Ei.if_le_t (tgt := 43) dX11_filledOn_36 (by decide) ⟨by omega, by omega⟩ (by omega) ?_
      refine Ev.aload_n (i := 0) dX11_filledOn_43 rfl rfl ?_
      refine Em.gA (k := 35) hG (by decide) (by decide) (tb7 (i := 5) rfl) rfl rfl dX11_filledOn_44 ?_
      refine Ev.iload_n (i := 1) dX11_filledOn_47 rfl rfl ?_
      have q8 : 0 ≤ v 35 a ∧ v 35 a ≤ T := hI.2 35 a
      refine Ex.iald (k := 35) (v 35 a) rfl hG (by decide) (by decide) rfl (by omega) (by show _ < ((20 : Nat) : Int); omega) (by decide) dX11_filledOn_48 ?_
      exact Ev.iretE rfl nar_i dX11_filledOn_49 (by rw [f_filledOn, if_neg c5, if_pos c7]; try rfl) (by first | rfl | (rw [f_filledOn, if_neg c5, if_pos c7]; try rfl))
    · refine Ei.const dX11_filledOn_28 ?_
      refine Em.pS (k := 0) hG (by decide) (tb6 (i := 210) rfl) rfl rfl rfl rfl dX11_filledOn_29 ?_
      refine Ev.aload_n (i := 0) dX11_filledOn_32 rfl rfl ?_
      refine Ex.gS (k := 0) (2) rfl hG (by decide) (tb6 (i := 210) rfl) rfl rfl dX11_filledOn_33 ?_
      refine Ei.if_le_f (tgt := 43) dX11_filledOn_36 (by decide) ⟨by omega, by omega⟩ (by omega) ?_
      refine Ei.const dX11_filledOn_39 ?_
      refine Ev.goto (tgt := 49) dX11_filledOn_40 (by decide) ?_
      exact Ev.iretE rfl nar_i dX11_filledOn_49 (by rw [f_filledOn, if_neg c5, if_neg c7]; try rfl) (by first | rfl | (rw [f_filledOn, if_neg c5, if_neg c7]; try rfl))
theorem i_filledOn {v : Vw} {T E : Int} {a : Int} (hI : IM v T E) (ha : -2147483648 ≤ a ∧ a < 2147483648) : IM (f_filledOn a v).2 T (E) := by
  have hT := hI.1
  have q1 : 0 ≤ v 6 0 ∧ v 6 0 ≤ 20 := hI.2 6 0
  have q2 : 0 ≤ (f_isOrder a v) ∧ (f_isOrder a v) ≤ 1 := r_isOrder
  have q3 : ((f_isOrder a v) = 1 ∧ 0 ≤ a ∧ a < (v 6 0)) ∨ ((f_isOrder a v) = 0 ∧ ¬ (0 ≤ a ∧ a < (v 6 0))) := c_isOrder a v
  have q4 : 0 ≤ (v 6 0) ∧ (v 6 0) ≤ 20 := hI.2 6 0
  by_cases c5 : (f_isOrder a v) = 0
  · rw [f_filledOn, if_pos c5]
    exact (hI.up 0 0 1 (by show 0 ≤ 1 ∧ 1 ≤ 4; omega))
  · have q6 : 0 ≤ v 34 a ∧ v 34 a ≤ 255 := hI.2 34 a
    by_cases c7 : (v 34 a) = 102
    · have q8 : 0 ≤ v 35 a ∧ v 35 a ≤ T := hI.2 35 a
      rw [f_filledOn, if_neg c5, if_pos c7]
      exact (hI.up 0 0 0 (by show 0 ≤ 0 ∧ 0 ≤ 4; omega))
    · rw [f_filledOn, if_neg c5, if_neg c7]
      exact (hI.up 0 0 2 (by show 0 ≤ 2 ∧ 2 ≤ 4; omega))
theorem fr_filledOn {a : Int} {v : Vw} (fk : Nat) (fi : Int) (hk : fk ≠ 0) : (f_filledOn a v).2 fk fi = v fk fi := by
  by_cases c5 : (f_isOrder a v) = 0
  · rw [f_filledOn, if_pos c5]
    exact ((upv_nk (by omega)).trans rfl)
  · by_cases c7 : (v 34 a) = 102
    · rw [f_filledOn, if_neg c5, if_pos c7]
      exact ((upv_nk (by omega)).trans rfl)
    · rw [f_filledOn, if_neg c5, if_neg c7]
      exact ((upv_nk (by omega)).trans rfl)
def f_day (v : Vw) : Int × Vw :=
  ((v 8 0), (upv v 0 0 0))
theorem s_X11_day {X : Cx} {σ : Hp} {m0 : Nat} {v : Vw} {T E : Int} (hG : GM σ m0) (hI : IM v T E) : Ct X m_X11_day 1 [va_rf (some m0)] (Hm σ m0 v) (.inl (some (.int (i32 (f_day v).1)))) (Hm σ m0 (f_day v).2) := by
  have hT := hI.1
  refine Ct.of (by decide +kernel) rfl (Nat.le_of_ble_eq_true rfl) (by simp [Value.category, va_rf]) ?_
  refine Ev.aload_n (i := 0) dX11_day_0 rfl rfl ?_
  refine Ei.const dX11_day_1 ?_
  refine Em.pS (k := 0) hG (by decide) (tb6 (i := 210) rfl) rfl rfl rfl rfl dX11_day_2 ?_
  refine Ev.aload_n (i := 0) dX11_day_5 rfl rfl ?_
  have q1 : 0 ≤ v 8 0 ∧ v 8 0 ≤ T := hI.2 8 0
  refine Ex.gS (k := 8) (v 8 0) rfl hG (by decide) (tb6 (i := 218) rfl) rfl rfl dX11_day_6 ?_
  exact Ev.iretE rfl nar_i dX11_day_9 (by rw [f_day]; try rfl) (by first | rfl | (rw [f_day]; try rfl))
theorem i_day {v : Vw} {T E : Int} (hI : IM v T E) : IM (f_day v).2 T (E) := by
  have hT := hI.1
  have q1 : 0 ≤ v 8 0 ∧ v 8 0 ≤ T := hI.2 8 0
  rw [f_day]
  exact (hI.up 0 0 0 (by show 0 ≤ 0 ∧ 0 ≤ 4; omega))
theorem fr_day {v : Vw} (fk : Nat) (fi : Int) (hk : fk ≠ 0) : (f_day v).2 fk fi = v fk fi := by
  rw [f_day]
  exact ((upv_nk (by omega)).trans rfl)
def f_isOne (a : Int) (v : Vw) : Int × Vw :=
  if a = 0 then
    (a, (upv v 0 0 1))
  else
    (a, (upv v 0 0 0))
theorem s_X11_isOne {X : Cx} {σ : Hp} {m0 : Nat} {v : Vw} {T E : Int} {a : Int} (hG : GM σ m0) (hI : IM v T E) (ha : 0 ≤ a ∧ a ≤ 1) : Ct X m_X11_isOne 1 [va_rf (some m0), .int (i32 a)] (Hm σ m0 v) (.inl (some (.int (i32 (f_isOne a v).1)))) (Hm σ m0 (f_isOne a v).2) := by
  have hT := hI.1
  refine Ct.of (by decide +kernel) rfl (Nat.le_of_ble_eq_true rfl) (by simp [Value.category, va_rf]) ?_
  refine Ev.aload_n (i := 0) dX11_isOne_0 rfl rfl ?_
  refine Ev.iload_n (i := 1) dX11_isOne_1 rfl rfl ?_
  refine Ei.if_eq (tgt := 9) dX11_isOne_2 (by decide) ⟨by omega, by omega⟩ (fun c1 => ?_) (fun c1 => ?_)
  · refine Ei.const dX11_isOne_9 ?_
    refine Em.pS (k := 0) hG (by decide) (tb6 (i := 210) rfl) rfl rfl rfl rfl dX11_isOne_10 ?_
    refine Ev.iload_n (i := 1) dX11_isOne_13 rfl rfl ?_
    exact Ev.iretE rfl (nar_b (by omega)) dX11_isOne_14 (by rw [f_isOne, if_pos c1]; try rfl) (by first | rfl | (rw [f_isOne, if_pos c1]; try rfl))
  · refine Ei.const dX11_isOne_5 ?_
    refine Ev.goto (tgt := 10) dX11_isOne_6 (by decide) ?_
    refine Em.pS (k := 0) hG (by decide) (tb6 (i := 210) rfl) rfl rfl rfl rfl dX11_isOne_10 ?_
    refine Ev.iload_n (i := 1) dX11_isOne_13 rfl rfl ?_
    exact Ev.iretE rfl (nar_b (by omega)) dX11_isOne_14 (by rw [f_isOne, if_neg c1]; try rfl) (by first | rfl | (rw [f_isOne, if_neg c1]; try rfl))
theorem i_isOne {v : Vw} {T E : Int} {a : Int} (hI : IM v T E) (ha : 0 ≤ a ∧ a ≤ 1) : IM (f_isOne a v).2 T (E) := by
  have hT := hI.1
  by_cases c1 : a = 0
  · rw [f_isOne, if_pos c1]
    exact (hI.up 0 0 1 (by show 0 ≤ 1 ∧ 1 ≤ 4; omega))
  · rw [f_isOne, if_neg c1]
    exact (hI.up 0 0 0 (by show 0 ≤ 0 ∧ 0 ≤ 4; omega))
theorem fr_isOne {a : Int} {v : Vw} (fk : Nat) (fi : Int) (hk : fk ≠ 0) : (f_isOne a v).2 fk fi = v fk fi := by
  by_cases c1 : a = 0
  · rw [f_isOne, if_pos c1]
    exact ((upv_nk (by omega)).trans rfl)
  · rw [f_isOne, if_neg c1]
    exact ((upv_nk (by omega)).trans rfl)
theorem c_isOne (a : Int) (v : Vw) : (f_isOne a v).1 = a := by
  unfold f_isOne
  repeat' split
  all_goals rfl
def f_state (a : Int) (v : Vw) : Int × Vw :=
  if (f_isOne (f_isVessel a v) v).1 = 0 then
    (0, (f_isOne (f_isVessel a v) v).2)
  else
    if (v 15 a) = 0 then
      (99, (f_isOne (f_isVessel a v) v).2)
    else
      if (v 15 a) = 1 then
        (117, (f_isOne (f_isVessel a v) v).2)
      else
        if (v 15 a) = 2 then
          (100, (f_isOne (f_isVessel a v) v).2)
        else
          (103, (f_isOne (f_isVessel a v) v).2)
theorem s_X11_state {X : Cx} {σ : Hp} {m0 : Nat} {v : Vw} {T E : Int} {a : Int} (hG : GM σ m0) (hI : IM v T E) (ha : -2147483648 ≤ a ∧ a < 2147483648) : Ct X m_X11_state 3 [va_rf (some m0), .int (i32 a)] (Hm σ m0 v) (.inl (some (.int (i32 (f_state a v).1)))) (Hm σ m0 (f_state a v).2) := by
  have hT := hI.1
  refine Ct.of (by decide +kernel) rfl (Nat.le_of_ble_eq_true rfl) (by simp [Value.category, va_rf]) ?_
  refine Ev.aload_n (i := 0) dX11_state_0 rfl rfl ?_
  refine Ev.aload_n (i := 0) dX11_state_1 rfl rfl ?_
  refine Ev.iload_n (i := 1) dX11_state_2 rfl rfl ?_
  have q1 : 0 ≤ v 2 0 ∧ v 2 0 ≤ 8 := hI.2 2 0
  refine Em.cv1 (As := [_]) hG k_X11_isVessel (tb7 (i := 169) rfl) ki_X11_isVessel kv_X11_isVessel dX11_state_3 rfl rfl (Nat.le_of_ble_eq_true rfl) (by decide) (s_X11_isVessel (x := a) hG hI (by show -2147483648 ≤ a ∧ a < 2147483648; omega)) ?_
  have q2 : 0 ≤ (f_isVessel a v) ∧ (f_isVessel a v) ≤ 1 := r_isVessel
  have q3 : ((f_isVessel a v) = 1 ∧ 0 ≤ a ∧ a < (v 2 0)) ∨ ((f_isVessel a v) = 0 ∧ ¬ (0 ≤ a ∧ a < (v 2 0))) := c_isVessel a v
  have q4 : 0 ≤ (v 2 0) ∧ (v 2 0) ≤ 8 := hI.2 2 0
  refine Em.cv1 (As := [_]) hG k_X11_isOne (tb8 (i := 87) rfl) ki_X11_isOne kv_X11_isOne dX11_state_6 rfl rfl (Nat.le_of_ble_eq_true rfl) (by decide) (s_X11_isOne (a := (f_isVessel a v)) hG hI (by show 0 ≤ (f_isVessel a v) ∧ (f_isVessel a v) ≤ 1; omega)) ?_
  have hJ5 := (i_isOne (a := (f_isVessel a v)) hI (by show 0 ≤ (f_isVessel a v) ∧ (f_isVessel a v) ≤ 1; omega))
  have q6 : (f_isOne (f_isVessel a v) v).1 = (f_isVessel a v) := c_isOne (f_isVessel a v) v
  refine Ex.if_ne (tgt := 14) dX11_state_9 (by decide) ⟨by omega, by omega⟩ (fun c7 => ?_) (fun c7 => ?_)
  · refine Ei.const dX11_state_12 ?_
    exact Ev.iretE rfl (nar_c (by omega) (by omega)) dX11_state_13 (by rw [f_state, if_pos c7]; try rfl) (by first | rfl | (rw [f_state, if_pos c7]; try rfl))
  · refine Ev.aload_n (i := 0) dX11_state_14 rfl rfl ?_
    refine Em.gA (k := 15) hG (by decide) (by decide) (tb6 (i := 225) rfl) rfl rfl dX11_state_15 ?_
    refine Ev.iload_n (i := 1) dX11_state_18 rfl rfl ?_
    have q8 : 0 ≤ v 15 a ∧ v 15 a ≤ 3 := hI.2 15 a
    have q9 : ((f_isOne (f_isVessel a v) v).2) 15 a = v 15 a := (fr_isOne (a := (f_isVessel a v)) (v := v) 15 a (by decide)).trans rfl
    refine Ex.iald (k := 15) (v 15 a) q9 hG (by decide) (by decide) rfl (by omega) (by show _ < ((8 : Nat) : Int); omega) (by decide) dX11_state_19 ?_
    refine Ex.if_ne (tgt := 28) dX11_state_20 (by decide) ⟨by omega, by omega⟩ (fun c10 => ?_) (fun c10 => ?_)
    · refine Ev.bipush (v := i32 99) dX11_state_23 (by decide) ?_
      refine Ev.goto (tgt := 60) dX11_state_25 (by decide) ?_
      exact Ev.iretE rfl (nar_c (by omega) (by omega)) dX11_state_60 (by rw [f_state, if_neg c7, if_pos c10]; try rfl) (by first | rfl | (rw [f_state, if_neg c7, if_pos c10]; try rfl))
    · refine Ev.aload_n (i := 0) dX11_state_28 rfl rfl ?_
      refine Em.gA (k := 15) hG (by decide) (by decide) (tb6 (i := 225) rfl) rfl rfl dX11_state_29 ?_
      refine Ev.iload_n (i := 1) dX11_state_32 rfl rfl ?_
      refine Ex.iald (k := 15) (v 15 a) q9 hG (by decide) (by decide) rfl (by omega) (by show _ < ((8 : Nat) : Int); omega) (by decide) dX11_state_33 ?_
      refine Ei.const dX11_state_34 ?_
      refine Ex.icmp_ne (tgt := 43) dX11_state_35 (by decide) ⟨by omega, by omega⟩ ⟨by omega, by omega⟩ (fun c11 => ?_) (fun c11 => ?_)
      · refine Ev.bipush (v := i32 117) dX11_state_38 (by decide) ?_
        refine Ev.goto (tgt := 60) dX11_state_40 (by decide) ?_
        exact Ev.iretE rfl (nar_c (by omega) (by omega)) dX11_state_60 (by rw [f_state, if_neg c7, if_neg c10, if_pos c11]; try rfl) (by first | rfl | (rw [f_state, if_neg c7, if_neg c10, if_pos c11]; try rfl))
      · refine Ev.aload_n (i := 0) dX11_state_43 rfl rfl ?_
        refine Em.gA (k := 15) hG (by decide) (by decide) (tb6 (i := 225) rfl) rfl rfl dX11_state_44 ?_
        refine Ev.iload_n (i := 1) dX11_state_47 rfl rfl ?_
        refine Ex.iald (k := 15) (v 15 a) q9 hG (by decide) (by decide) rfl (by omega) (by show _ < ((8 : Nat) : Int); omega) (by decide) dX11_state_48 ?_
        refine Ei.const dX11_state_49 ?_
        refine Ex.icmp_ne (tgt := 58) dX11_state_50 (by decide) ⟨by omega, by omega⟩ ⟨by omega, by omega⟩ (fun c12 => ?_) (fun c12 => ?_)
        · refine Ev.bipush (v := i32 100) dX11_state_53 (by decide) ?_
          refine Ev.goto (tgt := 60) dX11_state_55 (by decide) ?_
          exact Ev.iretE rfl (nar_c (by omega) (by omega)) dX11_state_60 (by rw [f_state, if_neg c7, if_neg c10, if_neg c11, if_pos c12]; try rfl) (by first | rfl | (rw [f_state, if_neg c7, if_neg c10, if_neg c11, if_pos c12]; try rfl))
        · refine Ev.bipush (v := i32 103) dX11_state_58 (by decide) ?_
          exact Ev.iretE rfl (nar_c (by omega) (by omega)) dX11_state_60 (by rw [f_state, if_neg c7, if_neg c10, if_neg c11, if_neg c12]; try rfl) (by first | rfl | (rw [f_state, if_neg c7, if_neg c10, if_neg c11, if_neg c12]; try rfl))
theorem i_state {v : Vw} {T E : Int} {a : Int} (hI : IM v T E) (ha : -2147483648 ≤ a ∧ a < 2147483648) : IM (f_state a v).2 T (E) := by
  have hT := hI.1
  have q1 : 0 ≤ v 2 0 ∧ v 2 0 ≤ 8 := hI.2 2 0
  have q2 : 0 ≤ (f_isVessel a v) ∧ (f_isVessel a v) ≤ 1 := r_isVessel
  have q3 : ((f_isVessel a v) = 1 ∧ 0 ≤ a ∧ a < (v 2 0)) ∨ ((f_isVessel a v) = 0 ∧ ¬ (0 ≤ a ∧ a < (v 2 0))) := c_isVessel a v
  have q4 : 0 ≤ (v 2 0) ∧ (v 2 0) ≤ 8 := hI.2 2 0
  have hJ5 := (i_isOne (a := (f_isVessel a v)) hI (by show 0 ≤ (f_isVessel a v) ∧ (f_isVessel a v) ≤ 1; omega))
  have q6 : (f_isOne (f_isVessel a v) v).1 = (f_isVessel a v) := c_isOne (f_isVessel a v) v
  by_cases c7 : (f_isOne (f_isVessel a v) v).1 = 0
  · rw [f_state, if_pos c7]
    exact hJ5
  · have q8 : 0 ≤ v 15 a ∧ v 15 a ≤ 3 := hI.2 15 a
    have q9 : ((f_isOne (f_isVessel a v) v).2) 15 a = v 15 a := (fr_isOne (a := (f_isVessel a v)) (v := v) 15 a (by decide)).trans rfl
    by_cases c10 : (v 15 a) = 0
    · rw [f_state, if_neg c7, if_pos c10]
      exact hJ5
    · by_cases c11 : (v 15 a) = 1
      · rw [f_state, if_neg c7, if_neg c10, if_pos c11]
        exact hJ5
      · by_cases c12 : (v 15 a) = 2
        · rw [f_state, if_neg c7, if_neg c10, if_neg c11, if_pos c12]
          exact hJ5
        · rw [f_state, if_neg c7, if_neg c10, if_neg c11, if_neg c12]
          exact hJ5
theorem fr_state {a : Int} {v : Vw} (fk : Nat) (fi : Int) (hk : fk ≠ 0) : (f_state a v).2 fk fi = v fk fi := by
  by_cases c7 : (f_isOne (f_isVessel a v) v).1 = 0
  · rw [f_state, if_pos c7]
    exact ((fr_isOne (a := (f_isVessel a v)) (v := v) fk fi (by omega)).trans rfl)
  · by_cases c10 : (v 15 a) = 0
    · rw [f_state, if_neg c7, if_pos c10]
      exact ((fr_isOne (a := (f_isVessel a v)) (v := v) fk fi (by omega)).trans rfl)
    · by_cases c11 : (v 15 a) = 1
      · rw [f_state, if_neg c7, if_neg c10, if_pos c11]
        exact ((fr_isOne (a := (f_isVessel a v)) (v := v) fk fi (by omega)).trans rfl)
      · by_cases c12 : (v 15 a) = 2
        · rw [f_state, if_neg c7, if_neg c10, if_neg c11, if_pos c12]
          exact ((fr_isOne (a := (f_isVessel a v)) (v := v) fk fi (by omega)).trans rfl)
        · rw [f_state, if_neg c7, if_neg c10, if_neg c11, if_neg c12]
          exact ((fr_isOne (a := (f_isVessel a v)) (v := v) fk fi (by omega)).trans rfl)
def f_brewIn (a : Int) (v : Vw) : Int × Vw :=
  if (f_isOne (f_isVessel a v) v).1 = 0 then
    (0, (f_isOne (f_isVessel a v) v).2)
  else
    if (v 15 a) = 1 then
      ((v 16 a), (f_isOne (f_isVessel a v) v).2)
    else
      ((f_fails 2 ((f_isOne (f_isVessel a v) v).2)).1, (f_fails 2 ((f_isOne (f_isVessel a v) v).2)).2)
theorem s_X11_brewIn {X : Cx} {σ : Hp} {m0 : Nat} {v : Vw} {T E : Int} {a : Int} (hG : GM σ m0) (hI : IM v T E) (ha : -2147483648 ≤ a ∧ a < 2147483648) : Ct X m_X11_brewIn 3 [va_rf (some m0), .int (i32 a)] (Hm σ m0 v) (.inl (some (.int (i32 (f_brewIn a v).1)))) (Hm σ m0 (f_brewIn a v).2) := by
  have hT := hI.1
  refine Ct.of (by decide +kernel) rfl (Nat.le_of_ble_eq_true rfl) (by simp [Value.category, va_rf]) ?_
  refine Ev.aload_n (i := 0) dX11_brewIn_0 rfl rfl ?_
  refine Ev.aload_n (i := 0) dX11_brewIn_1 rfl rfl ?_
  refine Ev.iload_n (i := 1) dX11_brewIn_2 rfl rfl ?_
  have q1 : 0 ≤ v 2 0 ∧ v 2 0 ≤ 8 := hI.2 2 0
  refine Em.cv1 (As := [_]) hG k_X11_isVessel (tb7 (i := 169) rfl) ki_X11_isVessel kv_X11_isVessel dX11_brewIn_3 rfl rfl (Nat.le_of_ble_eq_true rfl) (by decide) (s_X11_isVessel (x := a) hG hI (by show -2147483648 ≤ a ∧ a < 2147483648; omega)) ?_
  have q2 : 0 ≤ (f_isVessel a v) ∧ (f_isVessel a v) ≤ 1 := r_isVessel
  have q3 : ((f_isVessel a v) = 1 ∧ 0 ≤ a ∧ a < (v 2 0)) ∨ ((f_isVessel a v) = 0 ∧ ¬ (0 ≤ a ∧ a < (v 2 0))) := c_isVessel a v
  have q4 : 0 ≤ (v 2 0) ∧ (v 2 0) ≤ 8 := hI.2 2 0
  refine Em.cv1 (As := [_]) hG k_X11_isOne (tb8 (i := 87) rfl) ki_X11_isOne kv_X11_isOne dX11_brewIn_6 rfl rfl (Nat.le_of_ble_eq_true rfl) (by decide) (s_X11_isOne (a := (f_isVessel a v)) hG hI (by show 0 ≤ (f_isVessel a v) ∧ (f_isVessel a v) ≤ 1; omega)) ?_
  have hJ5 := (i_isOne (a := (f_isVessel a v)) hI (by show 0 ≤ (f_isVessel a v) ∧ (f_isVessel a v) ≤ 1; omega))
  have q6 : (f_isOne (f_isVessel a v) v).1 = (f_isVessel a v) := c_isOne (f_isVessel a v) v
  refine Ex.if_ne (tgt := 14) dX11_brewIn_9 (by decide) ⟨by omega, by omega⟩ (fun c7 => ?_) (fun c7 => ?_)
  · refine Ei.const dX11_brewIn_12 ?_
    exact Ev.iretE rfl nar_i dX11_brewIn_13 (by rw [f_brewIn, if_pos c7]; try rfl) (by first | rfl | (rw [f_brewIn, if_pos c7]; try rfl))
  · refine Ev.aload_n (i := 0) dX11_brewIn_14 rfl rfl ?_
    refine Em.gA (k := 15) hG (by decide) (by decide) (tb6 (i := 225) rfl) rfl rfl dX11_brewIn_15 ?_
    refine Ev.iload_n (i := 1) dX11_brewIn_18 rfl rfl ?_
    have q8 : 0 ≤ v 15 a ∧ v 15 a ≤ 3 := hI.2 15 a
    have q9 : ((f_isOne (f_isVessel a v) v).2) 15 a = v 15 a := (fr_isOne (a := (f_isVessel a v)) (v := v) 15 a (by decide)).trans rfl
    refine Ex.iald (k := 15) (v 15 a) q9 hG (by decide) (by decide) rfl (by omega) (by show _ < ((8 : Nat) : Int); omega) (by decide) dX11_brewIn_19 ?_
    refine Ei.const dX11_brewIn_20 ?_
    refine Ex.icmp_ne (tgt := 33) dX11_brewIn_21 (by decide) ⟨by omega, by omega⟩ ⟨by omega, by omega⟩ (fun c10 => ?_) (fun c10 => ?_)
    · refine Ev.aload_n (i := 0) dX11_brewIn_24 rfl rfl ?_
      refine Em.gA (k := 16) hG (by decide) (by decide) (tb6 (i := 226) rfl) rfl rfl dX11_brewIn_25 ?_
      refine Ev.iload_n (i := 1) dX11_brewIn_28 rfl rfl ?_
      have q11 : 0 ≤ v 16 a ∧ v 16 a ≤ 29 := hI.2 16 a
      have q12 : ((f_isOne (f_isVessel a v) v).2) 16 a = v 16 a := (fr_isOne (a := (f_isVessel a v)) (v := v) 16 a (by decide)).trans rfl
      refine Ex.iald (k := 16) (v 16 a) q12 hG (by decide) (by decide) rfl (by omega) (by show _ < ((8 : Nat) : Int); omega) (by decide) dX11_brewIn_29 ?_
      refine Ev.goto (tgt := 38) dX11_brewIn_30 (by decide) ?_
      exact Ev.iretE rfl nar_i dX11_brewIn_38 (by rw [f_brewIn, if_neg c7, if_pos c10]; try rfl) (by first | rfl | (rw [f_brewIn, if_neg c7, if_pos c10]; try rfl))
    · refine Ev.aload_n (i := 0) dX11_brewIn_33 rfl rfl ?_
      refine Ei.const dX11_brewIn_34 ?_
      refine Em.cv1 (As := [_]) hG k_X11_fails (tb7 (i := 125) rfl) ki_X11_fails kv_X11_fails dX11_brewIn_35 rfl rfl (Nat.le_of_ble_eq_true rfl) (by decide) (s_X11_fails (c := 2) hG hJ5 (by show 0 ≤ 2 ∧ 2 ≤ 4; omega)) ?_
      have hJ13 := (i_fails (c := 2) hJ5 (by show 0 ≤ 2 ∧ 2 ≤ 4; omega))
      exact Ev.iretE rfl nar_i dX11_brewIn_38 (by rw [f_brewIn, if_neg c7, if_neg c10]; try rfl) (by first | rfl | (rw [f_brewIn, if_neg c7, if_neg c10]; try rfl))
theorem i_brewIn {v : Vw} {T E : Int} {a : Int} (hI : IM v T E) (ha : -2147483648 ≤ a ∧ a < 2147483648) : IM (f_brewIn a v).2 T (E) := by
  have hT := hI.1
  have q1 : 0 ≤ v 2 0 ∧ v 2 0 ≤ 8 := hI.2 2 0
  have q2 : 0 ≤ (f_isVessel a v) ∧ (f_isVessel a v) ≤ 1 := r_isVessel
  have q3 : ((f_isVessel a v) = 1 ∧ 0 ≤ a ∧ a < (v 2 0)) ∨ ((f_isVessel a v) = 0 ∧ ¬ (0 ≤ a ∧ a < (v 2 0))) := c_isVessel a v
  have q4 : 0 ≤ (v 2 0) ∧ (v 2 0) ≤ 8 := hI.2 2 0
  have hJ5 := (i_isOne (a := (f_isVessel a v)) hI (by show 0 ≤ (f_isVessel a v) ∧ (f_isVessel a v) ≤ 1; omega))
  have q6 : (f_isOne (f_isVessel a v) v).1 = (f_isVessel a v) := c_isOne (f_isVessel a v) v
  by_cases c7 : (f_isOne (f_isVessel a v) v).1 = 0
  · rw [f_brewIn, if_pos c7]
    exact hJ5
  · have q8 : 0 ≤ v 15 a ∧ v 15 a ≤ 3 := hI.2 15 a
    have q9 : ((f_isOne (f_isVessel a v) v).2) 15 a = v 15 a := (fr_isOne (a := (f_isVessel a v)) (v := v) 15 a (by decide)).trans rfl
    by_cases c10 : (v 15 a) = 1
    · have q11 : 0 ≤ v 16 a ∧ v 16 a ≤ 29 := hI.2 16 a
      have q12 : ((f_isOne (f_isVessel a v) v).2) 16 a = v 16 a := (fr_isOne (a := (f_isVessel a v)) (v := v) 16 a (by decide)).trans rfl
      rw [f_brewIn, if_neg c7, if_pos c10]
      exact hJ5
    · have hJ13 := (i_fails (c := 2) hJ5 (by show 0 ≤ 2 ∧ 2 ≤ 4; omega))
      rw [f_brewIn, if_neg c7, if_neg c10]
      exact hJ13
theorem fr_brewIn {a : Int} {v : Vw} (fk : Nat) (fi : Int) (hk : fk ≠ 0) : (f_brewIn a v).2 fk fi = v fk fi := by
  by_cases c7 : (f_isOne (f_isVessel a v) v).1 = 0
  · rw [f_brewIn, if_pos c7]
    exact ((fr_isOne (a := (f_isVessel a v)) (v := v) fk fi (by omega)).trans rfl)
  · by_cases c10 : (v 15 a) = 1
    · rw [f_brewIn, if_neg c7, if_pos c10]
      exact ((fr_isOne (a := (f_isVessel a v)) (v := v) fk fi (by omega)).trans rfl)
    · rw [f_brewIn, if_neg c7, if_neg c10]
      exact ((fr_fails (c := 2) (v := ((f_isOne (f_isVessel a v) v).2)) fk fi (by omega)).trans ((fr_isOne (a := (f_isVessel a v)) (v := v) fk fi (by omega)).trans rfl))
def f_cleanDay (a : Int) (v : Vw) : Int × Vw :=
  if (f_isOne (f_isVessel a v) v).1 = 0 then
    (0, (f_isOne (f_isVessel a v) v).2)
  else
    if (v 15 a) = 3 then
      (((v 8 0) + (v 17 a)), (f_isOne (f_isVessel a v) v).2)
    else
      ((f_fails 2 ((f_isOne (f_isVessel a v) v).2)).1, (f_fails 2 ((f_isOne (f_isVessel a v) v).2)).2)
theorem s_X11_cleanDay {X : Cx} {σ : Hp} {m0 : Nat} {v : Vw} {T E : Int} {a : Int} (hG : GM σ m0) (hI : IM v T E) (ha : -2147483648 ≤ a ∧ a < 2147483648) : Ct X m_X11_cleanDay 3 [va_rf (some m0), .int (i32 a)] (Hm σ m0 v) (.inl (some (.int (i32 (f_cleanDay a v).1)))) (Hm σ m0 (f_cleanDay a v).2) := by
  have hT := hI.1
  refine Ct.of (by decide +kernel) rfl (Nat.le_of_ble_eq_true rfl) (by simp [Value.category, va_rf]) ?_
  refine Ev.aload_n (i := 0) dX11_cleanDay_0 rfl rfl ?_
  refine Ev.aload_n (i := 0) dX11_cleanDay_1 rfl rfl ?_
  refine Ev.iload_n (i := 1) dX11_cleanDay_2 rfl rfl ?_
  have q1 : 0 ≤ v 2 0 ∧ v 2 0 ≤ 8 := hI.2 2 0
  refine Em.cv1 (As := [_]) hG k_X11_isVessel (tb7 (i := 169) rfl) ki_X11_isVessel kv_X11_isVessel dX11_cleanDay_3 rfl rfl (Nat.le_of_ble_eq_true rfl) (by decide) (s_X11_isVessel (x := a) hG hI (by show -2147483648 ≤ a ∧ a < 2147483648; omega)) ?_
  have q2 : 0 ≤ (f_isVessel a v) ∧ (f_isVessel a v) ≤ 1 := r_isVessel
  have q3 : ((f_isVessel a v) = 1 ∧ 0 ≤ a ∧ a < (v 2 0)) ∨ ((f_isVessel a v) = 0 ∧ ¬ (0 ≤ a ∧ a < (v 2 0))) := c_isVessel a v
  have q4 : 0 ≤ (v 2 0) ∧ (v 2 0) ≤ 8 := hI.2 2 0
  refine Em.cv1 (As := [_]) hG k_X11_isOne (tb8 (i := 87) rfl) ki_X11_isOne kv_X11_isOne dX11_cleanDay_6 rfl rfl (Nat.le_of_ble_eq_true rfl) (by decide) (s_X11_isOne (a := (f_isVessel a v)) hG hI (by show 0 ≤ (f_isVessel a v) ∧ (f_isVessel a v) ≤ 1; omega)) ?_
  have hJ5 := (i_isOne (a := (f_isVessel a v)) hI (by show 0 ≤ (f_isVessel a v) ∧ (f_isVessel a v) ≤ 1; omega))
  have q6 : (f_isOne (f_isVessel a v) v).1 = (f_isVessel a v) := c_isOne (f_isVessel a v) v
  refine Ex.if_ne (tgt := 14) dX11_cleanDay_9 (by decide) ⟨by omega, by omega⟩ (fun c7 => ?_) (fun c7 => ?_)
  · refine Ei.const dX11_cleanDay_12 ?_
    exact Ev.iretE rfl nar_i dX11_cleanDay_13 (by rw [f_cleanDay, if_pos c7]; try rfl) (by first | rfl | (rw [f_cleanDay, if_pos c7]; try rfl))
  · refine Ev.aload_n (i := 0) dX11_cleanDay_14 rfl rfl ?_
    refine Em.gA (k := 15) hG (by decide) (by decide) (tb6 (i := 225) rfl) rfl rfl dX11_cleanDay_15 ?_
    refine Ev.iload_n (i := 1) dX11_cleanDay_18 rfl rfl ?_
    have q8 : 0 ≤ v 15 a ∧ v 15 a ≤ 3 := hI.2 15 a
    have q9 : ((f_isOne (f_isVessel a v) v).2) 15 a = v 15 a := (fr_isOne (a := (f_isVessel a v)) (v := v) 15 a (by decide)).trans rfl
    refine Ex.iald (k := 15) (v 15 a) q9 hG (by decide) (by decide) rfl (by omega) (by show _ < ((8 : Nat) : Int); omega) (by decide) dX11_cleanDay_19 ?_
    refine Ei.const dX11_cleanDay_20 ?_
    refine Ex.icmp_ne (tgt := 38) dX11_cleanDay_21 (by decide) ⟨by omega, by omega⟩ ⟨by omega, by omega⟩ (fun c10 => ?_) (fun c10 => ?_)
    · refine Ev.aload_n (i := 0) dX11_cleanDay_24 rfl rfl ?_
      have q11 : 0 ≤ v 8 0 ∧ v 8 0 ≤ T := hI.2 8 0
      have q12 : ((f_isOne (f_isVessel a v) v).2) 8 0 = v 8 0 := (fr_isOne (a := (f_isVessel a v)) (v := v) 8 0 (by decide)).trans rfl
      refine Ex.gS (k := 8) (v 8 0) q12 hG (by decide) (tb6 (i := 218) rfl) rfl rfl dX11_cleanDay_25 ?_
      refine Ev.aload_n (i := 0) dX11_cleanDay_28 rfl rfl ?_
      refine Em.gA (k := 17) hG (by decide) (by decide) (tb6 (i := 227) rfl) rfl rfl dX11_cleanDay_29 ?_
      refine Ev.iload_n (i := 1) dX11_cleanDay_32 rfl rfl ?_
      have q13 : 0 ≤ v 17 a ∧ v 17 a ≤ 2 := hI.2 17 a
      have q14 : ((f_isOne (f_isVessel a v) v).2) 17 a = v 17 a := (fr_isOne (a := (f_isVessel a v)) (v := v) 17 a (by decide)).trans rfl
      refine Ex.iald (k := 17) (v 17 a) q14 hG (by decide) (by decide) rfl (by omega) (by show _ < ((8 : Nat) : Int); omega) (by decide) dX11_cleanDay_33 ?_
      refine Ei.add dX11_cleanDay_34 ?_
      refine Ev.goto (tgt := 43) dX11_cleanDay_35 (by decide) ?_
      exact Ev.iretE rfl nar_i dX11_cleanDay_43 (by rw [f_cleanDay, if_neg c7, if_pos c10]; try rfl) (by first | rfl | (rw [f_cleanDay, if_neg c7, if_pos c10]; try rfl))
    · refine Ev.aload_n (i := 0) dX11_cleanDay_38 rfl rfl ?_
      refine Ei.const dX11_cleanDay_39 ?_
      refine Em.cv1 (As := [_]) hG k_X11_fails (tb7 (i := 125) rfl) ki_X11_fails kv_X11_fails dX11_cleanDay_40 rfl rfl (Nat.le_of_ble_eq_true rfl) (by decide) (s_X11_fails (c := 2) hG hJ5 (by show 0 ≤ 2 ∧ 2 ≤ 4; omega)) ?_
      have hJ15 := (i_fails (c := 2) hJ5 (by show 0 ≤ 2 ∧ 2 ≤ 4; omega))
      exact Ev.iretE rfl nar_i dX11_cleanDay_43 (by rw [f_cleanDay, if_neg c7, if_neg c10]; try rfl) (by first | rfl | (rw [f_cleanDay, if_neg c7, if_neg c10]; try rfl))
theorem i_cleanDay {v : Vw} {T E : Int} {a : Int} (hI : IM v T E) (ha : -2147483648 ≤ a ∧ a < 2147483648) : IM (f_cleanDay a v).2 T (E) := by
  have hT := hI.1
  have q1 : 0 ≤ v 2 0 ∧ v 2 0 ≤ 8 := hI.2 2 0
  have q2 : 0 ≤ (f_isVessel a v) ∧ (f_isVessel a v) ≤ 1 := r_isVessel
  have q3 : ((f_isVessel a v) = 1 ∧ 0 ≤ a ∧ a < (v 2 0)) ∨ ((f_isVessel a v) = 0 ∧ ¬ (0 ≤ a ∧ a < (v 2 0))) := c_isVessel a v
  have q4 : 0 ≤ (v 2 0) ∧ (v 2 0) ≤ 8 := hI.2 2 0
  have hJ5 := (i_isOne (a := (f_isVessel a v)) hI (by show 0 ≤ (f_isVessel a v) ∧ (f_isVessel a v) ≤ 1; omega))
  have q6 : (f_isOne (f_isVessel a v) v).1 = (f_isVessel a v) := c_isOne (f_isVessel a v) v
  by_cases c7 : (f_isOne (f_isVessel a v) v).1 = 0
  · rw [f_cleanDay, if_pos c7]
    exact hJ5
  · have q8 : 0 ≤ v 15 a ∧ v 15 a ≤ 3 := hI.2 15 a
    have q9 : ((f_isOne (f_isVessel a v) v).2) 15 a = v 15 a := (fr_isOne (a := (f_isVessel a v)) (v := v) 15 a (by decide)).trans rfl
    by_cases c10 : (v 15 a) = 3
    · have q11 : 0 ≤ v 8 0 ∧ v 8 0 ≤ T := hI.2 8 0
      have q12 : ((f_isOne (f_isVessel a v) v).2) 8 0 = v 8 0 := (fr_isOne (a := (f_isVessel a v)) (v := v) 8 0 (by decide)).trans rfl
      have q13 : 0 ≤ v 17 a ∧ v 17 a ≤ 2 := hI.2 17 a
      have q14 : ((f_isOne (f_isVessel a v) v).2) 17 a = v 17 a := (fr_isOne (a := (f_isVessel a v)) (v := v) 17 a (by decide)).trans rfl
      rw [f_cleanDay, if_neg c7, if_pos c10]
      exact hJ5
    · have hJ15 := (i_fails (c := 2) hJ5 (by show 0 ≤ 2 ∧ 2 ≤ 4; omega))
      rw [f_cleanDay, if_neg c7, if_neg c10]
      exact hJ15
theorem fr_cleanDay {a : Int} {v : Vw} (fk : Nat) (fi : Int) (hk : fk ≠ 0) : (f_cleanDay a v).2 fk fi = v fk fi := by
  by_cases c7 : (f_isOne (f_isVessel a v) v).1 = 0
  · rw [f_cleanDay, if_pos c7]
    exact ((fr_isOne (a := (f_isVessel a v)) (v := v) fk fi (by omega)).trans rfl)
  · by_cases c10 : (v 15 a) = 3
    · rw [f_cleanDay, if_neg c7, if_pos c10]
      exact ((fr_isOne (a := (f_isVessel a v)) (v := v) fk fi (by omega)).trans rfl)
    · rw [f_cleanDay, if_neg c7, if_neg c10]
      exact ((fr_fails (c := 2) (v := ((f_isOne (f_isVessel a v) v).2)) fk fi (by omega)).trans ((fr_isOne (a := (f_isVessel a v)) (v := v) fk fi (by omega)).trans rfl))
def f_recipeOf (a : Int) (v : Vw) : Int × Vw :=
  if (f_isOne (f_isBrew a v) v).1 = 0 then
    (0, (f_isOne (f_isBrew a v) v).2)
  else
    ((v 26 a), (f_isOne (f_isBrew a v) v).2)
theorem s_X11_recipeOf {X : Cx} {σ : Hp} {m0 : Nat} {v : Vw} {T E : Int} {a : Int} (hG : GM σ m0) (hI : IM v T E) (ha : -2147483648 ≤ a ∧ a < 2147483648) : Ct X m_X11_recipeOf 3 [va_rf (some m0), .int (i32 a)] (Hm σ m0 v) (.inl (some (.int (i32 (f_recipeOf a v).1)))) (Hm σ m0 (f_recipeOf a v).2) := by
  have hT := hI.1
  refine Ct.of (by decide +kernel) rfl (Nat.le_of_ble_eq_true rfl) (by simp [Value.category, va_rf]) ?_
  refine Ev.aload_n (i := 0) dX11_recipeOf_0 rfl rfl ?_
  refine Ev.aload_n (i := 0) dX11_recipeOf_1 rfl rfl ?_
  refine Ev.iload_n (i := 1) dX11_recipeOf_2 rfl rfl ?_
  have q1 : 0 ≤ v 5 0 ∧ v 5 0 ≤ 30 := hI.2 5 0
  refine Em.cv1 (As := [_]) hG k_X11_isBrew (tb8 (i := 107) rfl) ki_X11_isBrew kv_X11_isBrew dX11_recipeOf_3 rfl rfl (Nat.le_of_ble_eq_true rfl) (by decide) (s_X11_isBrew (x := a) hG hI (by show -2147483648 ≤ a ∧ a < 2147483648; omega)) ?_
  have q2 : 0 ≤ (f_isBrew a v) ∧ (f_isBrew a v) ≤ 1 := r_isBrew
  have q3 : ((f_isBrew a v) = 1 ∧ 0 ≤ a ∧ a < (v 5 0)) ∨ ((f_isBrew a v) = 0 ∧ ¬ (0 ≤ a ∧ a < (v 5 0))) := c_isBrew a v
  have q4 : 0 ≤ (v 5 0) ∧ (v 5 0) ≤ 30 := hI.2 5 0
  refine Em.cv1 (As := [_]) hG k_X11_isOne (tb8 (i := 87) rfl) ki_X11_isOne kv_X11_isOne dX11_recipeOf_6 rfl rfl (Nat.le_of_ble_eq_true rfl) (by decide) (s_X11_isOne (a := (f_isBrew a v)) hG hI (by show 0 ≤ (f_isBrew a v) ∧ (f_isBrew a v) ≤ 1; omega)) ?_
  have hJ5 := (i_isOne (a := (f_isBrew a v)) hI (by show 0 ≤ (f_isBrew a v) ∧ (f_isBrew a v) ≤ 1; omega))
  have q6 : (f_isOne (f_isBrew a v) v).1 = (f_isBrew a v) := c_isOne (f_isBrew a v) v
  refine Ei.if_eq (tgt := 21) dX11_recipeOf_9 (by decide) ⟨by omega, by omega⟩ (fun c7 => ?_) (fun c7 => ?_)
  · refine Ei.const dX11_recipeOf_21 ?_
    exact Ev.iretE rfl nar_i dX11_recipeOf_22 (by rw [f_recipeOf, if_pos c7]; try rfl) (by first | rfl | (rw [f_recipeOf, if_pos c7]; try rfl))
  · refine Ev.aload_n (i := 0) dX11_recipeOf_12 rfl rfl ?_
    refine Em.gA (k := 26) hG (by decide) (by decide) (tb6 (i := 236) rfl) rfl rfl dX11_recipeOf_13 ?_
    refine Ev.iload_n (i := 1) dX11_recipeOf_16 rfl rfl ?_
    have q8 : 0 ≤ v 26 a ∧ v 26 a ≤ 4 := hI.2 26 a
    have q9 : ((f_isOne (f_isBrew a v) v).2) 26 a = v 26 a := (fr_isOne (a := (f_isBrew a v)) (v := v) 26 a (by decide)).trans rfl
    refine Ex.iald (k := 26) (v 26 a) q9 hG (by decide) (by decide) rfl (by omega) (by show _ < ((30 : Nat) : Int); omega) (by decide) dX11_recipeOf_17 ?_
    refine Ev.goto (tgt := 22) dX11_recipeOf_18 (by decide) ?_
    exact Ev.iretE rfl nar_i dX11_recipeOf_22 (by rw [f_recipeOf, if_neg c7]; try rfl) (by first | rfl | (rw [f_recipeOf, if_neg c7]; try rfl))
theorem i_recipeOf {v : Vw} {T E : Int} {a : Int} (hI : IM v T E) (ha : -2147483648 ≤ a ∧ a < 2147483648) : IM (f_recipeOf a v).2 T (E) := by
  have hT := hI.1
  have q1 : 0 ≤ v 5 0 ∧ v 5 0 ≤ 30 := hI.2 5 0
  have q2 : 0 ≤ (f_isBrew a v) ∧ (f_isBrew a v) ≤ 1 := r_isBrew
  have q3 : ((f_isBrew a v) = 1 ∧ 0 ≤ a ∧ a < (v 5 0)) ∨ ((f_isBrew a v) = 0 ∧ ¬ (0 ≤ a ∧ a < (v 5 0))) := c_isBrew a v
  have q4 : 0 ≤ (v 5 0) ∧ (v 5 0) ≤ 30 := hI.2 5 0
  have hJ5 := (i_isOne (a := (f_isBrew a v)) hI (by show 0 ≤ (f_isBrew a v) ∧ (f_isBrew a v) ≤ 1; omega))
  have q6 : (f_isOne (f_isBrew a v) v).1 = (f_isBrew a v) := c_isOne (f_isBrew a v) v
  by_cases c7 : (f_isOne (f_isBrew a v) v).1 = 0
  · rw [f_recipeOf, if_pos c7]
    exact hJ5
  · have q8 : 0 ≤ v 26 a ∧ v 26 a ≤ 4 := hI.2 26 a
    have q9 : ((f_isOne (f_isBrew a v) v).2) 26 a = v 26 a := (fr_isOne (a := (f_isBrew a v)) (v := v) 26 a (by decide)).trans rfl
    rw [f_recipeOf, if_neg c7]
    exact hJ5
theorem fr_recipeOf {a : Int} {v : Vw} (fk : Nat) (fi : Int) (hk : fk ≠ 0) : (f_recipeOf a v).2 fk fi = v fk fi := by
  by_cases c7 : (f_isOne (f_isBrew a v) v).1 = 0
  · rw [f_recipeOf, if_pos c7]
    exact ((fr_isOne (a := (f_isBrew a v)) (v := v) fk fi (by omega)).trans rfl)
  · rw [f_recipeOf, if_neg c7]
    exact ((fr_isOne (a := (f_isBrew a v)) (v := v) fk fi (by omega)).trans rfl)
def f_generation (a : Int) (v : Vw) : Int × Vw :=
  if (f_isOne (f_isBrew a v) v).1 = 0 then
    (0, (f_isOne (f_isBrew a v) v).2)
  else
    ((v 27 a), (f_isOne (f_isBrew a v) v).2)
theorem s_X11_generation {X : Cx} {σ : Hp} {m0 : Nat} {v : Vw} {T E : Int} {a : Int} (hG : GM σ m0) (hI : IM v T E) (ha : -2147483648 ≤ a ∧ a < 2147483648) : Ct X m_X11_generation 3 [va_rf (some m0), .int (i32 a)] (Hm σ m0 v) (.inl (some (.int (i32 (f_generation a v).1)))) (Hm σ m0 (f_generation a v).2) := by
  have hT := hI.1
  refine Ct.of (by decide +kernel) rfl (Nat.le_of_ble_eq_true rfl) (by simp [Value.category, va_rf]) ?_
  refine Ev.aload_n (i := 0) dX11_generation_0 rfl rfl ?_
  refine Ev.aload_n (i := 0) dX11_generation_1 rfl rfl ?_
  refine Ev.iload_n (i := 1) dX11_generation_2 rfl rfl ?_
  have q1 : 0 ≤ v 5 0 ∧ v 5 0 ≤ 30 := hI.2 5 0
  refine Em.cv1 (As := [_]) hG k_X11_isBrew (tb8 (i := 107) rfl) ki_X11_isBrew kv_X11_isBrew dX11_generation_3 rfl rfl (Nat.le_of_ble_eq_true rfl) (by decide) (s_X11_isBrew (x := a) hG hI (by show -2147483648 ≤ a ∧ a < 2147483648; omega)) ?_
  have q2 : 0 ≤ (f_isBrew a v) ∧ (f_isBrew a v) ≤ 1 := r_isBrew
  have q3 : ((f_isBrew a v) = 1 ∧ 0 ≤ a ∧ a < (v 5 0)) ∨ ((f_isBrew a v) = 0 ∧ ¬ (0 ≤ a ∧ a < (v 5 0))) := c_isBrew a v
  have q4 : 0 ≤ (v 5 0) ∧ (v 5 0) ≤ 30 := hI.2 5 0
  refine Em.cv1 (As := [_]) hG k_X11_isOne (tb8 (i := 87) rfl) ki_X11_isOne kv_X11_isOne dX11_generation_6 rfl rfl (Nat.le_of_ble_eq_true rfl) (by decide) (s_X11_isOne (a := (f_isBrew a v)) hG hI (by show 0 ≤ (f_isBrew a v) ∧ (f_isBrew a v) ≤ 1; omega)) ?_
  have hJ5 := (i_isOne (a := (f_isBrew a v)) hI (by show 0 ≤ (f_isBrew a v) ∧ (f_isBrew a v) ≤ 1; omega))
  have q6 : (f_isOne (f_isBrew a v) v).1 = (f_isBrew a v) := c_isOne (f_isBrew a v) v
  refine Ei.if_eq (tgt := 21) dX11_generation_9 (by decide) ⟨by omega, by omega⟩ (fun c7 => ?_) (fun c7 => ?_)
  · refine Ei.const dX11_generation_21 ?_
    exact Ev.iretE rfl nar_i dX11_generation_22 (by rw [f_generation, if_pos c7]; try rfl) (by first | rfl | (rw [f_generation, if_pos c7]; try rfl))
  · refine Ev.aload_n (i := 0) dX11_generation_12 rfl rfl ?_
    refine Em.gA (k := 27) hG (by decide) (by decide) (tb6 (i := 237) rfl) rfl rfl dX11_generation_13 ?_
    refine Ev.iload_n (i := 1) dX11_generation_16 rfl rfl ?_
    have q8 : 0 ≤ v 27 a ∧ v 27 a ≤ 4 := hI.2 27 a
    have q9 : ((f_isOne (f_isBrew a v) v).2) 27 a = v 27 a := (fr_isOne (a := (f_isBrew a v)) (v := v) 27 a (by decide)).trans rfl
    refine Ex.iald (k := 27) (v 27 a) q9 hG (by decide) (by decide) rfl (by omega) (by show _ < ((30 : Nat) : Int); omega) (by decide) dX11_generation_17 ?_
    refine Ev.goto (tgt := 22) dX11_generation_18 (by decide) ?_
    exact Ev.iretE rfl nar_i dX11_generation_22 (by rw [f_generation, if_neg c7]; try rfl) (by first | rfl | (rw [f_generation, if_neg c7]; try rfl))
theorem i_generation {v : Vw} {T E : Int} {a : Int} (hI : IM v T E) (ha : -2147483648 ≤ a ∧ a < 2147483648) : IM (f_generation a v).2 T (E) := by
  have hT := hI.1
  have q1 : 0 ≤ v 5 0 ∧ v 5 0 ≤ 30 := hI.2 5 0
  have q2 : 0 ≤ (f_isBrew a v) ∧ (f_isBrew a v) ≤ 1 := r_isBrew
  have q3 : ((f_isBrew a v) = 1 ∧ 0 ≤ a ∧ a < (v 5 0)) ∨ ((f_isBrew a v) = 0 ∧ ¬ (0 ≤ a ∧ a < (v 5 0))) := c_isBrew a v
  have q4 : 0 ≤ (v 5 0) ∧ (v 5 0) ≤ 30 := hI.2 5 0
  have hJ5 := (i_isOne (a := (f_isBrew a v)) hI (by show 0 ≤ (f_isBrew a v) ∧ (f_isBrew a v) ≤ 1; omega))
  have q6 : (f_isOne (f_isBrew a v) v).1 = (f_isBrew a v) := c_isOne (f_isBrew a v) v
  by_cases c7 : (f_isOne (f_isBrew a v) v).1 = 0
  · rw [f_generation, if_pos c7]
    exact hJ5
  · have q8 : 0 ≤ v 27 a ∧ v 27 a ≤ 4 := hI.2 27 a
    have q9 : ((f_isOne (f_isBrew a v) v).2) 27 a = v 27 a := (fr_isOne (a := (f_isBrew a v)) (v := v) 27 a (by decide)).trans rfl
    rw [f_generation, if_neg c7]
    exact hJ5
theorem fr_generation {a : Int} {v : Vw} (fk : Nat) (fi : Int) (hk : fk ≠ 0) : (f_generation a v).2 fk fi = v fk fi := by
  by_cases c7 : (f_isOne (f_isBrew a v) v).1 = 0
  · rw [f_generation, if_pos c7]
    exact ((fr_isOne (a := (f_isBrew a v)) (v := v) fk fi (by omega)).trans rfl)
  · rw [f_generation, if_neg c7]
    exact ((fr_isOne (a := (f_isBrew a v)) (v := v) fk fi (by omega)).trans rfl)
def f_stage (a : Int) (v : Vw) : Int × Vw :=
  if (f_isOne (f_isBrew a v) v).1 = 0 then
    (0, (f_isOne (f_isBrew a v) v).2)
  else
    if (v 28 a) = 0 then
      (102, (f_isOne (f_isBrew a v) v).2)
    else
      if (v 28 a) = 1 then
        (119, (f_isOne (f_isBrew a v) v).2)
      else
        if (v 28 a) = 2 then
          (109, (f_isOne (f_isBrew a v) v).2)
        else
          if (v 28 a) = 3 then
            (114, (f_isOne (f_isBrew a v) v).2)
          else
            (120, (f_isOne (f_isBrew a v) v).2)
theorem s_X11_stage {X : Cx} {σ : Hp} {m0 : Nat} {v : Vw} {T E : Int} {a : Int} (hG : GM σ m0) (hI : IM v T E) (ha : -2147483648 ≤ a ∧ a < 2147483648) : Ct X m_X11_stage 3 [va_rf (some m0), .int (i32 a)] (Hm σ m0 v) (.inl (some (.int (i32 (f_stage a v).1)))) (Hm σ m0 (f_stage a v).2) := by
  have hT := hI.1
  refine Ct.of (by decide +kernel) rfl (Nat.le_of_ble_eq_true rfl) (by simp [Value.category, va_rf]) ?_
  refine Ev.aload_n (i := 0) dX11_stage_0 rfl rfl ?_
  refine Ev.aload_n (i := 0) dX11_stage_1 rfl rfl ?_
  refine Ev.iload_n (i := 1) dX11_stage_2 rfl rfl ?_
  have q1 : 0 ≤ v 5 0 ∧ v 5 0 ≤ 30 := hI.2 5 0
  refine Em.cv1 (As := [_]) hG k_X11_isBrew (tb8 (i := 107) rfl) ki_X11_isBrew kv_X11_isBrew dX11_stage_3 rfl rfl (Nat.le_of_ble_eq_true rfl) (by decide) (s_X11_isBrew (x := a) hG hI (by show -2147483648 ≤ a ∧ a < 2147483648; omega)) ?_
  have q2 : 0 ≤ (f_isBrew a v) ∧ (f_isBrew a v) ≤ 1 := r_isBrew
  have q3 : ((f_isBrew a v) = 1 ∧ 0 ≤ a ∧ a < (v 5 0)) ∨ ((f_isBrew a v) = 0 ∧ ¬ (0 ≤ a ∧ a < (v 5 0))) := c_isBrew a v
  have q4 : 0 ≤ (v 5 0) ∧ (v 5 0) ≤ 30 := hI.2 5 0
  refine Em.cv1 (As := [_]) hG k_X11_isOne (tb8 (i := 87) rfl) ki_X11_isOne kv_X11_isOne dX11_stage_6 rfl rfl (Nat.le_of_ble_eq_true rfl) (by decide) (s_X11_isOne (a := (f_isBrew a v)) hG hI (by show 0 ≤ (f_isBrew a v) ∧ (f_isBrew a v) ≤ 1; omega)) ?_
  have hJ5 := (i_isOne (a := (f_isBrew a v)) hI (by show 0 ≤ (f_isBrew a v) ∧ (f_isBrew a v) ≤ 1; omega))
  have q6 : (f_isOne (f_isBrew a v) v).1 = (f_isBrew a v) := c_isOne (f_isBrew a v) v
  refine Ex.if_ne (tgt := 14) dX11_stage_9 (by decide) ⟨by omega, by omega⟩ (fun c7 => ?_) (fun c7 => ?_)
  · refine Ei.const dX11_stage_12 ?_
    exact Ev.iretE rfl (nar_c (by omega) (by omega)) dX11_stage_13 (by rw [f_stage, if_pos c7]; try rfl) (by first | rfl | (rw [f_stage, if_pos c7]; try rfl))
  · refine Ev.aload_n (i := 0) dX11_stage_14 rfl rfl ?_
    refine Em.gA (k := 28) hG (by decide) (by decide) (tb6 (i := 238) rfl) rfl rfl dX11_stage_15 ?_
    refine Ev.iload_n (i := 1) dX11_stage_18 rfl rfl ?_
    have q8 : 0 ≤ v 28 a ∧ v 28 a ≤ 4 := hI.2 28 a
    have q9 : ((f_isOne (f_isBrew a v) v).2) 28 a = v 28 a := (fr_isOne (a := (f_isBrew a v)) (v := v) 28 a (by decide)).trans rfl
    refine Ex.iald (k := 28) (v 28 a) q9 hG (by decide) (by decide) rfl (by omega) (by show _ < ((30 : Nat) : Int); omega) (by decide) dX11_stage_19 ?_
    refine Ev.istore_n (i := 2) dX11_stage_20 rfl (by decide) ?_
    refine Ev.iload_n (i := 2) dX11_stage_21 rfl rfl ?_
    refine Ex.if_ne (tgt := 30) dX11_stage_22 (by decide) ⟨by omega, by omega⟩ (fun c10 => ?_) (fun c10 => ?_)
    · refine Ev.bipush (v := i32 102) dX11_stage_25 (by decide) ?_
      refine Ev.goto (tgt := 62) dX11_stage_27 (by decide) ?_
      exact Ev.iretE rfl (nar_c (by omega) (by omega)) dX11_stage_62 (by rw [f_stage, if_neg c7, if_pos c10]; try rfl) (by first | rfl | (rw [f_stage, if_neg c7, if_pos c10]; try rfl))
    · refine Ev.iload_n (i := 2) dX11_stage_30 rfl rfl ?_
      refine Ei.const dX11_stage_31 ?_
      refine Ex.icmp_ne (tgt := 40) dX11_stage_32 (by decide) ⟨by omega, by omega⟩ ⟨by omega, by omega⟩ (fun c11 => ?_) (fun c11 => ?_)
      · refine Ev.bipush (v := i32 119) dX11_stage_35 (by decide) ?_
        refine Ev.goto (tgt := 62) dX11_stage_37 (by decide) ?_
        exact Ev.iretE rfl (nar_c (by omega) (by omega)) dX11_stage_62 (by rw [f_stage, if_neg c7, if_neg c10, if_pos c11]; try rfl) (by first | rfl | (rw [f_stage, if_neg c7, if_neg c10, if_pos c11]; try rfl))
      · refine Ev.iload_n (i := 2) dX11_stage_40 rfl rfl ?_
        refine Ei.const dX11_stage_41 ?_
        refine Ex.icmp_ne (tgt := 50) dX11_stage_42 (by decide) ⟨by omega, by omega⟩ ⟨by omega, by omega⟩ (fun c12 => ?_) (fun c12 => ?_)
        · refine Ev.bipush (v := i32 109) dX11_stage_45 (by decide) ?_
          refine Ev.goto (tgt := 62) dX11_stage_47 (by decide) ?_
          exact Ev.iretE rfl (nar_c (by omega) (by omega)) dX11_stage_62 (by rw [f_stage, if_neg c7, if_neg c10, if_neg c11, if_pos c12]; try rfl) (by first | rfl | (rw [f_stage, if_neg c7, if_neg c10, if_neg c11, if_pos c12]; try rfl))
        · refine Ev.iload_n (i := 2) dX11_stage_50 rfl rfl ?_
          refine Ei.const dX11_stage_51 ?_
          refine Ex.icmp_ne (tgt := 60) dX11_stage_52 (by decide) ⟨by omega, by omega⟩ ⟨by omega, by omega⟩ (fun c13 => ?_) (fun c13 => ?_)
          · refine Ev.bipush (v := i32 114) dX11_stage_55 (by decide) ?_
            refine Ev.goto (tgt := 62) dX11_stage_57 (by decide) ?_
            exact Ev.iretE rfl (nar_c (by omega) (by omega)) dX11_stage_62 (by rw [f_stage, if_neg c7, if_neg c10, if_neg c11, if_neg c12, if_pos c13]; try rfl) (by first | rfl | (rw [f_stage, if_neg c7, if_neg c10, if_neg c11, if_neg c12, if_pos c13]; try rfl))
          · refine Ev.bipush (v := i32 120) dX11_stage_60 (by decide) ?_
            exact Ev.iretE rfl (nar_c (by omega) (by omega)) dX11_stage_62 (by rw [f_stage, if_neg c7, if_neg c10, if_neg c11, if_neg c12, if_neg c13]; try rfl) (by first | rfl | (rw [f_stage, if_neg c7, if_neg c10, if_neg c11, if_neg c12, if_neg c13]; try rfl))
theorem i_stage {v : Vw} {T E : Int} {a : Int} (hI : IM v T E) (ha : -2147483648 ≤ a ∧ a < 2147483648) : IM (f_stage a v).2 T (E) := by
  have hT := hI.1
  have q1 : 0 ≤ v 5 0 ∧ v 5 0 ≤ 30 := hI.2 5 0
  have q2 : 0 ≤ (f_isBrew a v) ∧ (f_isBrew a v) ≤ 1 := r_isBrew
  have q3 : ((f_isBrew a v) = 1 ∧ 0 ≤ a ∧ a < (v 5 0)) ∨ ((f_isBrew a v) = 0 ∧ ¬ (0 ≤ a ∧ a < (v 5 0))) := c_isBrew a v
  have q4 : 0 ≤ (v 5 0) ∧ (v 5 0) ≤ 30 := hI.2 5 0
  have hJ5 := (i_isOne (a := (f_isBrew a v)) hI (by show 0 ≤ (f_isBrew a v) ∧ (f_isBrew a v) ≤ 1; omega))
  have q6 : (f_isOne (f_isBrew a v) v).1 = (f_isBrew a v) := c_isOne (f_isBrew a v) v
  by_cases c7 : (f_isOne (f_isBrew a v) v).1 = 0
  · rw [f_stage, if_pos c7]
    exact hJ5
  · have q8 : 0 ≤ v 28 a ∧ v 28 a ≤ 4 := hI.2 28 a
    have q9 : ((f_isOne (f_isBrew a v) v).2) 28 a = v 28 a := (fr_isOne (a := (f_isBrew a v)) (v := v) 28 a (by decide)).trans rfl
    by_cases c10 : (v 28 a) = 0
    · rw [f_stage, if_neg c7, if_pos c10]
      exact hJ5
    · by_cases c11 : (v 28 a) = 1
      · rw [f_stage, if_neg c7, if_neg c10, if_pos c11]
        exact hJ5
      · by_cases c12 : (v 28 a) = 2
        · rw [f_stage, if_neg c7, if_neg c10, if_neg c11, if_pos c12]
          exact hJ5
        · by_cases c13 : (v 28 a) = 3
          · rw [f_stage, if_neg c7, if_neg c10, if_neg c11, if_neg c12, if_pos c13]
            exact hJ5
          · rw [f_stage, if_neg c7, if_neg c10, if_neg c11, if_neg c12, if_neg c13]
            exact hJ5
theorem fr_stage {a : Int} {v : Vw} (fk : Nat) (fi : Int) (hk : fk ≠ 0) : (f_stage a v).2 fk fi = v fk fi := by
  by_cases c7 : (f_isOne (f_isBrew a v) v).1 = 0
  · rw [f_stage, if_pos c7]
    exact ((fr_isOne (a := (f_isBrew a v)) (v := v) fk fi (by omega)).trans rfl)
  · by_cases c10 : (v 28 a) = 0
    · rw [f_stage, if_neg c7, if_pos c10]
      exact ((fr_isOne (a := (f_isBrew a v)) (v := v) fk fi (by omega)).trans rfl)
    · by_cases c11 : (v 28 a) = 1
      · rw [f_stage, if_neg c7, if_neg c10, if_pos c11]
        exact ((fr_isOne (a := (f_isBrew a v)) (v := v) fk fi (by omega)).trans rfl)
      · by_cases c12 : (v 28 a) = 2
        · rw [f_stage, if_neg c7, if_neg c10, if_neg c11, if_pos c12]
          exact ((fr_isOne (a := (f_isBrew a v)) (v := v) fk fi (by omega)).trans rfl)
        · by_cases c13 : (v 28 a) = 3
          · rw [f_stage, if_neg c7, if_neg c10, if_neg c11, if_neg c12, if_pos c13]
            exact ((fr_isOne (a := (f_isBrew a v)) (v := v) fk fi (by omega)).trans rfl)
          · rw [f_stage, if_neg c7, if_neg c10, if_neg c11, if_neg c12, if_neg c13]
            exact ((fr_isOne (a := (f_isBrew a v)) (v := v) fk fi (by omega)).trans rfl)
def f_vesselOf (a : Int) (v : Vw) : Int × Vw :=
  if (f_isOne (f_isBrew a v) v).1 = 0 then
    (0, (f_isOne (f_isBrew a v) v).2)
  else
    if (v 28 a) = 4 then
      ((f_fails 2 ((f_isOne (f_isBrew a v) v).2)).1, (f_fails 2 ((f_isOne (f_isBrew a v) v).2)).2)
    else
      ((v 29 a), (f_isOne (f_isBrew a v) v).2)
theorem s_X11_vesselOf {X : Cx} {σ : Hp} {m0 : Nat} {v : Vw} {T E : Int} {a : Int} (hG : GM σ m0) (hI : IM v T E) (ha : -2147483648 ≤ a ∧ a < 2147483648) : Ct X m_X11_vesselOf 3 [va_rf (some m0), .int (i32 a)] (Hm σ m0 v) (.inl (some (.int (i32 (f_vesselOf a v).1)))) (Hm σ m0 (f_vesselOf a v).2) := by
  have hT := hI.1
  refine Ct.of (by decide +kernel) rfl (Nat.le_of_ble_eq_true rfl) (by simp [Value.category, va_rf]) ?_
  refine Ev.aload_n (i := 0) dX11_vesselOf_0 rfl rfl ?_
  refine Ev.aload_n (i := 0) dX11_vesselOf_1 rfl rfl ?_
  refine Ev.iload_n (i := 1) dX11_vesselOf_2 rfl rfl ?_
  have q1 : 0 ≤ v 5 0 ∧ v 5 0 ≤ 30 := hI.2 5 0
  refine Em.cv1 (As := [_]) hG k_X11_isBrew (tb8 (i := 107) rfl) ki_X11_isBrew kv_X11_isBrew dX11_vesselOf_3 rfl rfl (Nat.le_of_ble_eq_true rfl) (by decide) (s_X11_isBrew (x := a) hG hI (by show -2147483648 ≤ a ∧ a < 2147483648; omega)) ?_
  have q2 : 0 ≤ (f_isBrew a v) ∧ (f_isBrew a v) ≤ 1 := r_isBrew
  have q3 : ((f_isBrew a v) = 1 ∧ 0 ≤ a ∧ a < (v 5 0)) ∨ ((f_isBrew a v) = 0 ∧ ¬ (0 ≤ a ∧ a < (v 5 0))) := c_isBrew a v
  have q4 : 0 ≤ (v 5 0) ∧ (v 5 0) ≤ 30 := hI.2 5 0
  refine Em.cv1 (As := [_]) hG k_X11_isOne (tb8 (i := 87) rfl) ki_X11_isOne kv_X11_isOne dX11_vesselOf_6 rfl rfl (Nat.le_of_ble_eq_true rfl) (by decide) (s_X11_isOne (a := (f_isBrew a v)) hG hI (by show 0 ≤ (f_isBrew a v) ∧ (f_isBrew a v) ≤ 1; omega)) ?_
  have hJ5 := (i_isOne (a := (f_isBrew a v)) hI (by show 0 ≤ (f_isBrew a v) ∧ (f_isBrew a v) ≤ 1; omega))
  have q6 : (f_isOne (f_isBrew a v) v).1 = (f_isBrew a v) := c_isOne (f_isBrew a v) v
  refine Ex.if_ne (tgt := 14) dX11_vesselOf_9 (by decide) ⟨by omega, by omega⟩ (fun c7 => ?_) (fun c7 => ?_)
  · refine Ei.const dX11_vesselOf_12 ?_
    exact Ev.iretE rfl nar_i dX11_vesselOf_13 (by rw [f_vesselOf, if_pos c7]; try rfl) (by first | rfl | (rw [f_vesselOf, if_pos c7]; try rfl))
  · refine Ev.aload_n (i := 0) dX11_vesselOf_14 rfl rfl ?_
    refine Em.gA (k := 28) hG (by decide) (by decide) (tb6 (i := 238) rfl) rfl rfl dX11_vesselOf_15 ?_
    refine Ev.iload_n (i := 1) dX11_vesselOf_18 rfl rfl ?_
    have q8 : 0 ≤ v 28 a ∧ v 28 a ≤ 4 := hI.2 28 a
    have q9 : ((f_isOne (f_isBrew a v) v).2) 28 a = v 28 a := (fr_isOne (a := (f_isBrew a v)) (v := v) 28 a (by decide)).trans rfl
    refine Ex.iald (k := 28) (v 28 a) q9 hG (by decide) (by decide) rfl (by omega) (by show _ < ((30 : Nat) : Int); omega) (by decide) dX11_vesselOf_19 ?_
    refine Ei.const dX11_vesselOf_20 ?_
    refine Ex.icmp_ne (tgt := 32) dX11_vesselOf_21 (by decide) ⟨by omega, by omega⟩ ⟨by omega, by omega⟩ (fun c10 => ?_) (fun c10 => ?_)
    · refine Ev.aload_n (i := 0) dX11_vesselOf_24 rfl rfl ?_
      refine Ei.const dX11_vesselOf_25 ?_
      refine Em.cv1 (As := [_]) hG k_X11_fails (tb7 (i := 125) rfl) ki_X11_fails kv_X11_fails dX11_vesselOf_26 rfl rfl (Nat.le_of_ble_eq_true rfl) (by decide) (s_X11_fails (c := 2) hG hJ5 (by show 0 ≤ 2 ∧ 2 ≤ 4; omega)) ?_
      have hJ11 := (i_fails (c := 2) hJ5 (by show 0 ≤ 2 ∧ 2 ≤ 4; omega))
      refine Ev.goto (tgt := 38) dX11_vesselOf_29 (by decide) ?_
      exact Ev.iretE rfl nar_i dX11_vesselOf_38 (by rw [f_vesselOf, if_neg c7, if_pos c10]; try rfl) (by first | rfl | (rw [f_vesselOf, if_neg c7, if_pos c10]; try rfl))
    · refine Ev.aload_n (i := 0) dX11_vesselOf_32 rfl rfl ?_
      refine Em.gA (k := 29) hG (by decide) (by decide) (tb6 (i := 239) rfl) rfl rfl dX11_vesselOf_33 ?_
      refine Ev.iload_n (i := 1) dX11_vesselOf_36 rfl rfl ?_
      have q12 : 0 ≤ v 29 a ∧ v 29 a ≤ 7 := hI.2 29 a
      have q13 : ((f_isOne (f_isBrew a v) v).2) 29 a = v 29 a := (fr_isOne (a := (f_isBrew a v)) (v := v) 29 a (by decide)).trans rfl
      refine Ex.iald (k := 29) (v 29 a) q13 hG (by decide) (by decide) rfl (by omega) (by show _ < ((30 : Nat) : Int); omega) (by decide) dX11_vesselOf_37 ?_
      exact Ev.iretE rfl nar_i dX11_vesselOf_38 (by rw [f_vesselOf, if_neg c7, if_neg c10]; try rfl) (by first | rfl | (rw [f_vesselOf, if_neg c7, if_neg c10]; try rfl))
theorem i_vesselOf {v : Vw} {T E : Int} {a : Int} (hI : IM v T E) (ha : -2147483648 ≤ a ∧ a < 2147483648) : IM (f_vesselOf a v).2 T (E) := by
  have hT := hI.1
  have q1 : 0 ≤ v 5 0 ∧ v 5 0 ≤ 30 := hI.2 5 0
  have q2 : 0 ≤ (f_isBrew a v) ∧ (f_isBrew a v) ≤ 1 := r_isBrew
  have q3 : ((f_isBrew a v) = 1 ∧ 0 ≤ a ∧ a < (v 5 0)) ∨ ((f_isBrew a v) = 0 ∧ ¬ (0 ≤ a ∧ a < (v 5 0))) := c_isBrew a v
  have q4 : 0 ≤ (v 5 0) ∧ (v 5 0) ≤ 30 := hI.2 5 0
  have hJ5 := (i_isOne (a := (f_isBrew a v)) hI (by show 0 ≤ (f_isBrew a v) ∧ (f_isBrew a v) ≤ 1; omega))
  have q6 : (f_isOne (f_isBrew a v) v).1 = (f_isBrew a v) := c_isOne (f_isBrew a v) v
  by_cases c7 : (f_isOne (f_isBrew a v) v).1 = 0
  · rw [f_vesselOf, if_pos c7]
    exact hJ5
  · have q8 : 0 ≤ v 28 a ∧ v 28 a ≤ 4 := hI.2 28 a
    have q9 : ((f_isOne (f_isBrew a v) v).2) 28 a = v 28 a := (fr_isOne (a := (f_isBrew a v)) (v := v) 28 a (by decide)).trans rfl
    by_cases c10 : (v 28 a) = 4
    · have hJ11 := (i_fails (c := 2) hJ5 (by show 0 ≤ 2 ∧ 2 ≤ 4; omega))
      rw [f_vesselOf, if_neg c7, if_pos c10]
      exact hJ11
    · have q12 : 0 ≤ v 29 a ∧ v 29 a ≤ 7 := hI.2 29 a
      have q13 : ((f_isOne (f_isBrew a v) v).2) 29 a = v 29 a := (fr_isOne (a := (f_isBrew a v)) (v := v) 29 a (by decide)).trans rfl
      rw [f_vesselOf, if_neg c7, if_neg c10]
      exact hJ5
theorem fr_vesselOf {a : Int} {v : Vw} (fk : Nat) (fi : Int) (hk : fk ≠ 0) : (f_vesselOf a v).2 fk fi = v fk fi := by
  by_cases c7 : (f_isOne (f_isBrew a v) v).1 = 0
  · rw [f_vesselOf, if_pos c7]
    exact ((fr_isOne (a := (f_isBrew a v)) (v := v) fk fi (by omega)).trans rfl)
  · by_cases c10 : (v 28 a) = 4
    · rw [f_vesselOf, if_neg c7, if_pos c10]
      exact ((fr_fails (c := 2) (v := ((f_isOne (f_isBrew a v) v).2)) fk fi (by omega)).trans ((fr_isOne (a := (f_isBrew a v)) (v := v) fk fi (by omega)).trans rfl))
    · rw [f_vesselOf, if_neg c7, if_neg c10]
      exact ((fr_isOne (a := (f_isBrew a v)) (v := v) fk fi (by omega)).trans rfl)
def f_daysToGo (a : Int) (v : Vw) : Int × Vw :=
  if (f_isOne (f_isBrew a v) v).1 = 0 then
    (0, (f_isOne (f_isBrew a v) v).2)
  else
    if (v 28 a) = 0 then
      ((v 30 a), (f_isOne (f_isBrew a v) v).2)
    else
      if (v 28 a) = 2 then
        ((v 30 a), (f_isOne (f_isBrew a v) v).2)
      else
        ((f_fails 2 ((f_isOne (f_isBrew a v) v).2)).1, (f_fails 2 ((f_isOne (f_isBrew a v) v).2)).2)
theorem s_X11_daysToGo {X : Cx} {σ : Hp} {m0 : Nat} {v : Vw} {T E : Int} {a : Int} (hG : GM σ m0) (hI : IM v T E) (ha : -2147483648 ≤ a ∧ a < 2147483648) : Ct X m_X11_daysToGo 3 [va_rf (some m0), .int (i32 a)] (Hm σ m0 v) (.inl (some (.int (i32 (f_daysToGo a v).1)))) (Hm σ m0 (f_daysToGo a v).2) := by
  have hT := hI.1
  refine Ct.of (by decide +kernel) rfl (Nat.le_of_ble_eq_true rfl) (by simp [Value.category, va_rf]) ?_
  refine Ev.aload_n (i := 0) dX11_daysToGo_0 rfl rfl ?_
  refine Ev.aload_n (i := 0) dX11_daysToGo_1 rfl rfl ?_
  refine Ev.iload_n (i := 1) dX11_daysToGo_2 rfl rfl ?_
  have q1 : 0 ≤ v 5 0 ∧ v 5 0 ≤ 30 := hI.2 5 0
  refine Em.cv1 (As := [_]) hG k_X11_isBrew (tb8 (i := 107) rfl) ki_X11_isBrew kv_X11_isBrew dX11_daysToGo_3 rfl rfl (Nat.le_of_ble_eq_true rfl) (by decide) (s_X11_isBrew (x := a) hG hI (by show -2147483648 ≤ a ∧ a < 2147483648; omega)) ?_
  have q2 : 0 ≤ (f_isBrew a v) ∧ (f_isBrew a v) ≤ 1 := r_isBrew
  have q3 : ((f_isBrew a v) = 1 ∧ 0 ≤ a ∧ a < (v 5 0)) ∨ ((f_isBrew a v) = 0 ∧ ¬ (0 ≤ a ∧ a < (v 5 0))) := c_isBrew a v
  have q4 : 0 ≤ (v 5 0) ∧ (v 5 0) ≤ 30 := hI.2 5 0
  refine Em.cv1 (As := [_]) hG k_X11_isOne (tb8 (i := 87) rfl) ki_X11_isOne kv_X11_isOne dX11_daysToGo_6 rfl rfl (Nat.le_of_ble_eq_true rfl) (by decide) (s_X11_isOne (a := (f_isBrew a v)) hG hI (by show 0 ≤ (f_isBrew a v) ∧ (f_isBrew a v) ≤ 1; omega)) ?_
  have hJ5 := (i_isOne (a := (f_isBrew a v)) hI (by show 0 ≤ (f_isBrew a v) ∧ (f_isBrew a v) ≤ 1; omega))
  have q6 : (f_isOne (f_isBrew a v) v).1 = (f_isBrew a v) := c_isOne (f_isBrew a v) v
  refine Ex.if_ne (tgt := 14) dX11_daysToGo_9 (by decide) ⟨by omega, by omega⟩ (fun c7 => ?_) (fun c7 => ?_)
  · refine Ei.const dX11_daysToGo_12 ?_
    exact Ev.iretE rfl nar_i dX11_daysToGo_13 (by rw [f_daysToGo, if_pos c7]; try rfl) (by first | rfl | (rw [f_daysToGo, if_pos c7]; try rfl))
  · refine Ev.aload_n (i := 0) dX11_daysToGo_14 rfl rfl ?_
    refine Em.gA (k := 28) hG (by decide) (by decide) (tb6 (i := 238) rfl) rfl rfl dX11_daysToGo_15 ?_
    refine Ev.iload_n (i := 1) dX11_daysToGo_18 rfl rfl ?_
    have q8 : 0 ≤ v 28 a ∧ v 28 a ≤ 4 := hI.2 28 a
    have q9 : ((f_isOne (f_isBrew a v) v).2) 28 a = v 28 a := (fr_isOne (a := (f_isBrew a v)) (v := v) 28 a (by decide)).trans rfl
    refine Ex.iald (k := 28) (v 28 a) q9 hG (by decide) (by decide) rfl (by omega) (by show _ < ((30 : Nat) : Int); omega) (by decide) dX11_daysToGo_19 ?_
    refine Ei.if_eq (tgt := 33) dX11_daysToGo_20 (by decide) ⟨by omega, by omega⟩ (fun c10 => ?_) (fun c10 => ?_)
    · refine Ev.aload_n (i := 0) dX11_daysToGo_33 rfl rfl ?_
      refine Em.gA (k := 30) hG (by decide) (by decide) (tb7 (i := 0) rfl) rfl rfl dX11_daysToGo_34 ?_
      refine Ev.iload_n (i := 1) dX11_daysToGo_37 rfl rfl ?_
      have q11 : 0 ≤ v 30 a ∧ v 30 a ≤ 15 := hI.2 30 a
      have q12 : ((f_isOne (f_isBrew a v) v).2) 30 a = v 30 a := (fr_isOne (a := (f_isBrew a v)) (v := v) 30 a (by decide)).trans rfl
      refine Ex.iald (k := 30) (v 30 a) q12 hG (by decide) (by decide) rfl (by omega) (by show _ < ((30 : Nat) : Int); omega) (by decide) dX11_daysToGo_38 ?_
      refine Ev.goto (tgt := 47) dX11_daysToGo_39 (by decide) ?_
      exact Ev.iretE rfl nar_i dX11_daysToGo_47 (by rw [f_daysToGo, if_neg c7, if_pos c10]; try rfl) (by first | rfl | (rw [f_daysToGo, if_neg c7, if_pos c10]; try rfl))
    · refine Ev.aload_n (i := 0) dX11_daysToGo_23 rfl rfl ?_
      refine Em.gA (k := 28) hG (by decide) (by decide) (tb6 (i := 238) rfl) rfl rfl dX11_daysToGo_24 ?_
      refine Ev.iload_n (i := 1) dX11_daysToGo_27 rfl rfl ?_
      refine Ex.iald (k := 28) (v 28 a) q9 hG (by decide) (by decide) rfl (by omega) (by show _ < ((30 : Nat) : Int); omega) (by decide) dX11_daysToGo_28 ?_
      refine Ei.const dX11_daysToGo_29 ?_
      refine Ex.icmp_ne (tgt := 42) dX11_daysToGo_30 (by decide) ⟨by omega, by omega⟩ ⟨by omega, by omega⟩ (fun c13 => ?_) (fun c13 => ?_)
      · refine Ev.aload_n (i := 0) dX11_daysToGo_33 rfl rfl ?_
        refine Em.gA (k := 30) hG (by decide) (by decide) (tb7 (i := 0) rfl) rfl rfl dX11_daysToGo_34 ?_
        refine Ev.iload_n (i := 1) dX11_daysToGo_37 rfl rfl ?_
        have q14 : 0 ≤ v 30 a ∧ v 30 a ≤ 15 := hI.2 30 a
        have q15 : ((f_isOne (f_isBrew a v) v).2) 30 a = v 30 a := (fr_isOne (a := (f_isBrew a v)) (v := v) 30 a (by decide)).trans rfl
        refine Ex.iald (k := 30) (v 30 a) q15 hG (by decide) (by decide) rfl (by omega) (by show _ < ((30 : Nat) : Int); omega) (by decide) dX11_daysToGo_38 ?_
        refine Ev.goto (tgt := 47) dX11_daysToGo_39 (by decide) ?_
        exact Ev.iretE rfl nar_i dX11_daysToGo_47 (by rw [f_daysToGo, if_neg c7, if_neg c10, if_pos c13]; try rfl) (by first | rfl | (rw [f_daysToGo, if_neg c7, if_neg c10, if_pos c13]; try rfl))
      · refine Ev.aload_n (i := 0) dX11_daysToGo_42 rfl rfl ?_
        refine Ei.const dX11_daysToGo_43 ?_
        refine Em.cv1 (As := [_]) hG k_X11_fails (tb7 (i := 125) rfl) ki_X11_fails kv_X11_fails dX11_daysToGo_44 rfl rfl (Nat.le_of_ble_eq_true rfl) (by decide) (s_X11_fails (c := 2) hG hJ5 (by show 0 ≤ 2 ∧ 2 ≤ 4; omega)) ?_
        have hJ16 := (i_fails (c := 2) hJ5 (by show 0 ≤ 2 ∧ 2 ≤ 4; omega))
        exact Ev.iretE rfl nar_i dX11_daysToGo_47 (by rw [f_daysToGo, if_neg c7, if_neg c10, if_neg c13]; try rfl) (by first | rfl | (rw [f_daysToGo, if_neg c7, if_neg c10, if_neg c13]; try rfl))
theorem i_daysToGo {v : Vw} {T E : Int} {a : Int} (hI : IM v T E) (ha : -2147483648 ≤ a ∧ a < 2147483648) : IM (f_daysToGo a v).2 T (E) := by
  have hT := hI.1
  have q1 : 0 ≤ v 5 0 ∧ v 5 0 ≤ 30 := hI.2 5 0
  have q2 : 0 ≤ (f_isBrew a v) ∧ (f_isBrew a v) ≤ 1 := r_isBrew
  have q3 : ((f_isBrew a v) = 1 ∧ 0 ≤ a ∧ a < (v 5 0)) ∨ ((f_isBrew a v) = 0 ∧ ¬ (0 ≤ a ∧ a < (v 5 0))) := c_isBrew a v
  have q4 : 0 ≤ (v 5 0) ∧ (v 5 0) ≤ 30 := hI.2 5 0
  have hJ5 := (i_isOne (a := (f_isBrew a v)) hI (by show 0 ≤ (f_isBrew a v) ∧ (f_isBrew a v) ≤ 1; omega))
  have q6 : (f_isOne (f_isBrew a v) v).1 = (f_isBrew a v) := c_isOne (f_isBrew a v) v
  by_cases c7 : (f_isOne (f_isBrew a v) v).1 = 0
  · rw [f_daysToGo, if_pos c7]
    exact hJ5
  · have q8 : 0 ≤ v 28 a ∧ v 28 a ≤ 4 := hI.2 28 a
    have q9 : ((f_isOne (f_isBrew a v) v).2) 28 a = v 28 a := (fr_isOne (a := (f_isBrew a v)) (v := v) 28 a (by decide)).trans rfl
    by_cases c10 : (v 28 a) = 0
    · have q11 : 0 ≤ v 30 a ∧ v 30 a ≤ 15 := hI.2 30 a
      have q12 : ((f_isOne (f_isBrew a v) v).2) 30 a = v 30 a := (fr_isOne (a := (f_isBrew a v)) (v := v) 30 a (by decide)).trans rfl
      rw [f_daysToGo, if_neg c7, if_pos c10]
      exact hJ5
    · by_cases c13 : (v 28 a) = 2
      · have q14 : 0 ≤ v 30 a ∧ v 30 a ≤ 15 := hI.2 30 a
        have q15 : ((f_isOne (f_isBrew a v) v).2) 30 a = v 30 a := (fr_isOne (a := (f_isBrew a v)) (v := v) 30 a (by decide)).trans rfl
        rw [f_daysToGo, if_neg c7, if_neg c10, if_pos c13]
        exact hJ5
      · have hJ16 := (i_fails (c := 2) hJ5 (by show 0 ≤ 2 ∧ 2 ≤ 4; omega))
        rw [f_daysToGo, if_neg c7, if_neg c10, if_neg c13]
        exact hJ16
theorem fr_daysToGo {a : Int} {v : Vw} (fk : Nat) (fi : Int) (hk : fk ≠ 0) : (f_daysToGo a v).2 fk fi = v fk fi := by
  by_cases c7 : (f_isOne (f_isBrew a v) v).1 = 0
  · rw [f_daysToGo, if_pos c7]
    exact ((fr_isOne (a := (f_isBrew a v)) (v := v) fk fi (by omega)).trans rfl)
  · by_cases c10 : (v 28 a) = 0
    · rw [f_daysToGo, if_neg c7, if_pos c10]
      exact ((fr_isOne (a := (f_isBrew a v)) (v := v) fk fi (by omega)).trans rfl)
    · by_cases c13 : (v 28 a) = 2
      · rw [f_daysToGo, if_neg c7, if_neg c10, if_pos c13]
        exact ((fr_isOne (a := (f_isBrew a v)) (v := v) fk fi (by omega)).trans rfl)
      · rw [f_daysToGo, if_neg c7, if_neg c10, if_neg c13]
        exact ((fr_fails (c := 2) (v := ((f_isOne (f_isBrew a v) v).2)) fk fi (by omega)).trans ((fr_isOne (a := (f_isBrew a v)) (v := v) fk fi (by omega)).trans rfl))
def f_brews (v : Vw) : Int × Vw :=
  ((v 5 0), (upv v 0 0 0))
theorem s_X11_brews {X : Cx} {σ : Hp} {m0 : Nat} {v : Vw} {T E : Int} (hG : GM σ m0) (hI : IM v T E) : Ct X m_X11_brews 1 [va_rf (some m0)] (Hm σ m0 v) (.inl (some (.int (i32 (f_brews v).1)))) (Hm σ m0 (f_brews v).2) := by
  have hT := hI.1
  refine Ct.of (by decide +kernel) rfl (Nat.le_of_ble_eq_true rfl) (by simp [Value.category, va_rf]) ?_
  refine Ev.aload_n (i := 0) dX11_brews_0 rfl rfl ?_
  refine Ei.const dX11_brews_1 ?_
  refine Em.pS (k := 0) hG (by decide) (tb6 (i := 210) rfl) rfl rfl rfl rfl dX11_brews_2 ?_
  refine Ev.aload_n (i := 0) dX11_brews_5 rfl rfl ?_
  have q1 : 0 ≤ v 5 0 ∧ v 5 0 ≤ 30 := hI.2 5 0
  refine Ex.gS (k := 5) (v 5 0) rfl hG (by decide) (tb6 (i := 215) rfl) rfl rfl dX11_brews_6 ?_
  exact Ev.iretE rfl nar_i dX11_brews_9 (by rw [f_brews]; try rfl) (by first | rfl | (rw [f_brews]; try rfl))
theorem i_brews {v : Vw} {T E : Int} (hI : IM v T E) : IM (f_brews v).2 T (E) := by
  have hT := hI.1
  have q1 : 0 ≤ v 5 0 ∧ v 5 0 ≤ 30 := hI.2 5 0
  rw [f_brews]
  exact (hI.up 0 0 0 (by show 0 ≤ 0 ∧ 0 ≤ 4; omega))
theorem fr_brews {v : Vw} (fk : Nat) (fi : Int) (hk : fk ≠ 0) : (f_brews v).2 fk fi = v fk fi := by
  rw [f_brews]
  exact ((upv_nk (by omega)).trans rfl)
def f_deliveries (v : Vw) : Int × Vw :=
  ((v 9 0), (upv v 0 0 0))
theorem s_X11_deliveries {X : Cx} {σ : Hp} {m0 : Nat} {v : Vw} {T E : Int} (hG : GM σ m0) (hI : IM v T E) : Ct X m_X11_deliveries 1 [va_rf (some m0)] (Hm σ m0 v) (.inl (some (.int (i32 (f_deliveries v).1)))) (Hm σ m0 (f_deliveries v).2) := by
  have hT := hI.1
  refine Ct.of (by decide +kernel) rfl (Nat.le_of_ble_eq_true rfl) (by simp [Value.category, va_rf]) ?_
  refine Ev.aload_n (i := 0) dX11_deliveries_0 rfl rfl ?_
  refine Ei.const dX11_deliveries_1 ?_
  refine Em.pS (k := 0) hG (by decide) (tb6 (i := 210) rfl) rfl rfl rfl rfl dX11_deliveries_2 ?_
  refine Ev.aload_n (i := 0) dX11_deliveries_5 rfl rfl ?_
  have q1 : 0 ≤ v 9 0 ∧ v 9 0 ≤ 127 := hI.2 9 0
  refine Ex.gS (k := 9) (v 9 0) rfl hG (by decide) (tb6 (i := 219) rfl) rfl rfl dX11_deliveries_6 ?_
  exact Ev.iretE rfl nar_i dX11_deliveries_9 (by rw [f_deliveries]; try rfl) (by first | rfl | (rw [f_deliveries]; try rfl))
theorem i_deliveries {v : Vw} {T E : Int} (hI : IM v T E) : IM (f_deliveries v).2 T (E) := by
  have hT := hI.1
  have q1 : 0 ≤ v 9 0 ∧ v 9 0 ≤ 127 := hI.2 9 0
  rw [f_deliveries]
  exact (hI.up 0 0 0 (by show 0 ≤ 0 ∧ 0 ≤ 4; omega))
theorem fr_deliveries {v : Vw} (fk : Nat) (fi : Int) (hk : fk ≠ 0) : (f_deliveries v).2 fk fi = v fk fi := by
  rw [f_deliveries]
  exact ((upv_nk (by omega)).trans rfl)
def f_isDelivery (a : Int) (v : Vw) : Int × Vw :=
  ((f_isOne (f_in a 0 ((v 9 0) - 1)) v).1, (f_isOne (f_in a 0 ((v 9 0) - 1)) v).2)
theorem s_X11_isDelivery {X : Cx} {σ : Hp} {m0 : Nat} {v : Vw} {T E : Int} {a : Int} (hG : GM σ m0) (hI : IM v T E) (ha : -2147483648 ≤ a ∧ a < 2147483648) : Ct X m_X11_isDelivery 2 [va_rf (some m0), .int (i32 a)] (Hm σ m0 v) (.inl (some (.int (i32 (f_isDelivery a v).1)))) (Hm σ m0 (f_isDelivery a v).2) := by
  have hT := hI.1
  refine Ct.of (by decide +kernel) rfl (Nat.le_of_ble_eq_true rfl) (by simp [Value.category, va_rf]) ?_
  refine Ev.aload_n (i := 0) dX11_isDelivery_0 rfl rfl ?_
  refine Ev.iload_n (i := 1) dX11_isDelivery_1 rfl rfl ?_
  refine Ei.const dX11_isDelivery_2 ?_
  refine Ev.aload_n (i := 0) dX11_isDelivery_3 rfl rfl ?_
  have q1 : 0 ≤ v 9 0 ∧ v 9 0 ≤ 127 := hI.2 9 0
  refine Ex.gS (k := 9) (v 9 0) rfl hG (by decide) (tb6 (i := 219) rfl) rfl rfl dX11_isDelivery_4 ?_
  refine Ei.const dX11_isDelivery_7 ?_
  refine Ei.sub dX11_isDelivery_8 ?_
  refine Ev.cs1 (As := [_, _, _]) k_X11_in (tb7 (i := 122) rfl) ki_X11_in dX11_isDelivery_9 rfl rfl (Nat.le_of_ble_eq_true rfl) (by decide) (s_X11_in (x := a) (a := 0) (b := ((v 9 0) - 1))  (by show -2147483648 ≤ a ∧ a < 2147483648; omega) (by show -2147483648 ≤ 0 ∧ 0 < 2147483648; omega) (by show -2147483648 ≤ ((v 9 0) - 1) ∧ ((v 9 0) - 1) < 2147483648; omega)) ?_
  have q2 : 0 ≤ (f_in a 0 ((v 9 0) - 1)) ∧ (f_in a 0 ((v 9 0) - 1)) ≤ 1 := r_in
  have q3 := c_in a 0 ((v 9 0) - 1)
  refine Em.cv1 (As := [_]) hG k_X11_isOne (tb8 (i := 87) rfl) ki_X11_isOne kv_X11_isOne dX11_isDelivery_12 rfl rfl (Nat.le_of_ble_eq_true rfl) (by decide) (s_X11_isOne (a := (f_in a 0 ((v 9 0) - 1))) hG hI (by show 0 ≤ (f_in a 0 ((v 9 0) - 1)) ∧ (f_in a 0 ((v 9 0) - 1)) ≤ 1; omega)) ?_
  have hJ4 := (i_isOne (a := (f_in a 0 ((v 9 0) - 1))) hI (by show 0 ≤ (f_in a 0 ((v 9 0) - 1)) ∧ (f_in a 0 ((v 9 0) - 1)) ≤ 1; omega))
  have q5 : (f_isOne (f_in a 0 ((v 9 0) - 1)) v).1 = (f_in a 0 ((v 9 0) - 1)) := c_isOne (f_in a 0 ((v 9 0) - 1)) v
  exact Ev.iretE rfl (nar_b (by omega)) dX11_isDelivery_15 (by rw [f_isDelivery]; try rfl) (by first | rfl | (rw [f_isDelivery]; try rfl))
theorem i_isDelivery {v : Vw} {T E : Int} {a : Int} (hI : IM v T E) (ha : -2147483648 ≤ a ∧ a < 2147483648) : IM (f_isDelivery a v).2 T (E) := by
  have hT := hI.1
  have q1 : 0 ≤ v 9 0 ∧ v 9 0 ≤ 127 := hI.2 9 0
  have q2 : 0 ≤ (f_in a 0 ((v 9 0) - 1)) ∧ (f_in a 0 ((v 9 0) - 1)) ≤ 1 := r_in
  have q3 := c_in a 0 ((v 9 0) - 1)
  have hJ4 := (i_isOne (a := (f_in a 0 ((v 9 0) - 1))) hI (by show 0 ≤ (f_in a 0 ((v 9 0) - 1)) ∧ (f_in a 0 ((v 9 0) - 1)) ≤ 1; omega))
  have q5 : (f_isOne (f_in a 0 ((v 9 0) - 1)) v).1 = (f_in a 0 ((v 9 0) - 1)) := c_isOne (f_in a 0 ((v 9 0) - 1)) v
  rw [f_isDelivery]
  exact hJ4
theorem fr_isDelivery {a : Int} {v : Vw} (fk : Nat) (fi : Int) (hk : fk ≠ 0) : (f_isDelivery a v).2 fk fi = v fk fi := by
  rw [f_isDelivery]
  exact ((fr_isOne (a := (f_in a 0 ((v 9 0) - 1))) (v := v) fk fi (by omega)).trans rfl)
theorem c_isDelivery (x : Int) (v : Vw) : ((f_isDelivery x v).1 = 1 ∧ 0 ≤ x ∧ x < v 9 0) ∨ ((f_isDelivery x v).1 = 0 ∧ ¬ (0 ≤ x ∧ x < v 9 0)) := by
  have h := c_in x 0 (v 9 0 - 1)
  unfold f_isDelivery
  rw [c_isOne]
  omega
def f_deliveredBrew (a : Int) (v : Vw) : Int × Vw :=
  if (f_isDelivery a v).1 = 0 then
    (0, (f_isDelivery a v).2)
  else
    ((v 44 a), (f_isDelivery a v).2)
theorem s_X11_deliveredBrew {X : Cx} {σ : Hp} {m0 : Nat} {v : Vw} {T E : Int} {a : Int} (hG : GM σ m0) (hI : IM v T E) (ha : -2147483648 ≤ a ∧ a < 2147483648) : Ct X m_X11_deliveredBrew 3 [va_rf (some m0), .int (i32 a)] (Hm σ m0 v) (.inl (some (.int (i32 (f_deliveredBrew a v).1)))) (Hm σ m0 (f_deliveredBrew a v).2) := by
  have hT := hI.1
  refine Ct.of (by decide +kernel) rfl (Nat.le_of_ble_eq_true rfl) (by simp [Value.category, va_rf]) ?_
  refine Ev.aload_n (i := 0) dX11_deliveredBrew_0 rfl rfl ?_
  refine Ev.iload_n (i := 1) dX11_deliveredBrew_1 rfl rfl ?_
  have q1 : 0 ≤ v 9 0 ∧ v 9 0 ≤ 127 := hI.2 9 0
  refine Em.cv1 (As := [_]) hG k_X11_isDelivery (tb8 (i := 144) rfl) ki_X11_isDelivery kv_X11_isDelivery dX11_deliveredBrew_2 rfl rfl (Nat.le_of_ble_eq_true rfl) (by decide) (s_X11_isDelivery (a := a) hG hI (by show -2147483648 ≤ a ∧ a < 2147483648; omega)) ?_
  have hJ2 := (i_isDelivery (a := a) hI (by show -2147483648 ≤ a ∧ a < 2147483648; omega))
  have q3 : ((f_isDelivery a v).1 = 1 ∧ 0 ≤ a ∧ a < (v 9 0)) ∨ ((f_isDelivery a v).1 = 0 ∧ ¬ (0 ≤ a ∧ a < (v 9 0))) := c_isDelivery a v
  have q4 : 0 ≤ (v 9 0) ∧ (v 9 0) ≤ 127 := hI.2 9 0
  refine Ei.if_eq (tgt := 17) dX11_deliveredBrew_5 (by decide) ⟨by omega, by omega⟩ (fun c5 => ?_) (fun c5 => ?_)
  · refine Ei.const dX11_deliveredBrew_17 ?_
    exact Ev.iretE rfl nar_i dX11_deliveredBrew_18 (by rw [f_deliveredBrew, if_pos c5]; try rfl) (by first | rfl | (rw [f_deliveredBrew, if_pos c5]; try rfl))
  · refine Ev.aload_n (i := 0) dX11_deliveredBrew_8 rfl rfl ?_
    refine Em.gA (k := 44) hG (by decide) (by decide) (tb7 (i := 14) rfl) rfl rfl dX11_deliveredBrew_9 ?_
    refine Ev.iload_n (i := 1) dX11_deliveredBrew_12 rfl rfl ?_
    have q6 : 0 ≤ v 44 a ∧ v 44 a ≤ 29 := hI.2 44 a
    have q7 : ((f_isDelivery a v).2) 44 a = v 44 a := (fr_isDelivery (a := a) (v := v) 44 a (by decide)).trans rfl
    refine Ex.iald (k := 44) (v 44 a) q7 hG (by decide) (by decide) rfl (by omega) (by show _ < ((128 : Nat) : Int); omega) (by decide) dX11_deliveredBrew_13 ?_
    refine Ev.goto (tgt := 18) dX11_deliveredBrew_14 (by decide) ?_
    exact Ev.iretE rfl nar_i dX11_deliveredBrew_18 (by rw [f_deliveredBrew, if_neg c5]; try rfl) (by first | rfl | (rw [f_deliveredBrew, if_neg c5]; try rfl))
theorem i_deliveredBrew {v : Vw} {T E : Int} {a : Int} (hI : IM v T E) (ha : -2147483648 ≤ a ∧ a < 2147483648) : IM (f_deliveredBrew a v).2 T (E) := by
  have hT := hI.1
  have q1 : 0 ≤ v 9 0 ∧ v 9 0 ≤ 127 := hI.2 9 0
  have hJ2 := (i_isDelivery (a := a) hI (by show -2147483648 ≤ a ∧ a < 2147483648; omega))
  have q3 : ((f_isDelivery a v).1 = 1 ∧ 0 ≤ a ∧ a < (v 9 0)) ∨ ((f_isDelivery a v).1 = 0 ∧ ¬ (0 ≤ a ∧ a < (v 9 0))) := c_isDelivery a v
  have q4 : 0 ≤ (v 9 0) ∧ (v 9 0) ≤ 127 := hI.2 9 0
  by_cases c5 : (f_isDelivery a v).1 = 0
  · rw [f_deliveredBrew, if_pos c5]
    exact hJ2
  · have q6 : 0 ≤ v 44 a ∧ v 44 a ≤ 29 := hI.2 44 a
    have q7 : ((f_isDelivery a v).2) 44 a = v 44 a := (fr_isDelivery (a := a) (v := v) 44 a (by decide)).trans rfl
    rw [f_deliveredBrew, if_neg c5]
    exact hJ2
theorem fr_deliveredBrew {a : Int} {v : Vw} (fk : Nat) (fi : Int) (hk : fk ≠ 0) : (f_deliveredBrew a v).2 fk fi = v fk fi := by
  by_cases c5 : (f_isDelivery a v).1 = 0
  · rw [f_deliveredBrew, if_pos c5]
    exact ((fr_isDelivery (a := a) (v := v) fk fi (by omega)).trans rfl)
  · rw [f_deliveredBrew, if_neg c5]
    exact ((fr_isDelivery (a := a) (v := v) fk fi (by omega)).trans rfl)
def f_deliveredOrder (a : Int) (v : Vw) : Int × Vw :=
  if (f_isDelivery a v).1 = 0 then
    (0, (f_isDelivery a v).2)
  else
    ((v 45 a), (f_isDelivery a v).2)
theorem s_X11_deliveredOrder {X : Cx} {σ : Hp} {m0 : Nat} {v : Vw} {T E : Int} {a : Int} (hG : GM σ m0) (hI : IM v T E) (ha : -2147483648 ≤ a ∧ a < 2147483648) : Ct X m_X11_deliveredOrder 3 [va_rf (some m0), .int (i32 a)] (Hm σ m0 v) (.inl (some (.int (i32 (f_deliveredOrder a v).1)))) (Hm σ m0 (f_deliveredOrder a v).2) := by
  have hT := hI.1
  refine Ct.of (by decide +kernel) rfl (Nat.le_of_ble_eq_true rfl) (by simp [Value.category, va_rf]) ?_
  refine Ev.aload_n (i := 0) dX11_deliveredOrder_0 rfl rfl ?_
  refine Ev.iload_n (i := 1) dX11_deliveredOrder_1 rfl rfl ?_
  have q1 : 0 ≤ v 9 0 ∧ v 9 0 ≤ 127 := hI.2 9 0
  refine Em.cv1 (As := [_]) hG k_X11_isDelivery (tb8 (i := 144) rfl) ki_X11_isDelivery kv_X11_isDelivery dX11_deliveredOrder_2 rfl rfl (Nat.le_of_ble_eq_true rfl) (by decide) (s_X11_isDelivery (a := a) hG hI (by show -2147483648 ≤ a ∧ a < 2147483648; omega)) ?_
  have hJ2 := (i_isDelivery (a := a) hI (by show -2147483648 ≤ a ∧ a < 2147483648; omega))
  have q3 : ((f_isDelivery a v).1 = 1 ∧ 0 ≤ a ∧ a < (v 9 0)) ∨ ((f_isDelivery a v).1 = 0 ∧ ¬ (0 ≤ a ∧ a < (v 9 0))) := c_isDelivery a v
  have q4 : 0 ≤ (v 9 0) ∧ (v 9 0) ≤ 127 := hI.2 9 0
  refine Ei.if_eq (tgt := 17) dX11_deliveredOrder_5 (by decide) ⟨by omega, by omega⟩ (fun c5 => ?_) (fun c5 => ?_)
  · refine Ei.const dX11_deliveredOrder_17 ?_
    exact Ev.iretE rfl nar_i dX11_deliveredOrder_18 (by rw [f_deliveredOrder, if_pos c5]; try rfl) (by first | rfl | (rw [f_deliveredOrder, if_pos c5]; try rfl))
  · refine Ev.aload_n (i := 0) dX11_deliveredOrder_8 rfl rfl ?_
    refine Em.gA (k := 45) hG (by decide) (by decide) (tb7 (i := 15) rfl) rfl rfl dX11_deliveredOrder_9 ?_
    refine Ev.iload_n (i := 1) dX11_deliveredOrder_12 rfl rfl ?_
    have q6 : 0 ≤ v 45 a ∧ v 45 a ≤ 19 := hI.2 45 a
    have q7 : ((f_isDelivery a v).2) 45 a = v 45 a := (fr_isDelivery (a := a) (v := v) 45 a (by decide)).trans rfl
    refine Ex.iald (k := 45) (v 45 a) q7 hG (by decide) (by decide) rfl (by omega) (by show _ < ((128 : Nat) : Int); omega) (by decide) dX11_deliveredOrder_13 ?_
    refine Ev.goto (tgt := 18) dX11_deliveredOrder_14 (by decide) ?_
    exact Ev.iretE rfl nar_i dX11_deliveredOrder_18 (by rw [f_deliveredOrder, if_neg c5]; try rfl) (by first | rfl | (rw [f_deliveredOrder, if_neg c5]; try rfl))
theorem i_deliveredOrder {v : Vw} {T E : Int} {a : Int} (hI : IM v T E) (ha : -2147483648 ≤ a ∧ a < 2147483648) : IM (f_deliveredOrder a v).2 T (E) := by
  have hT := hI.1
  have q1 : 0 ≤ v 9 0 ∧ v 9 0 ≤ 127 := hI.2 9 0
  have hJ2 := (i_isDelivery (a := a) hI (by show -2147483648 ≤ a ∧ a < 2147483648; omega))
  have q3 : ((f_isDelivery a v).1 = 1 ∧ 0 ≤ a ∧ a < (v 9 0)) ∨ ((f_isDelivery a v).1 = 0 ∧ ¬ (0 ≤ a ∧ a < (v 9 0))) := c_isDelivery a v
  have q4 : 0 ≤ (v 9 0) ∧ (v 9 0) ≤ 127 := hI.2 9 0
  by_cases c5 : (f_isDelivery a v).1 = 0
  · rw [f_deliveredOrder, if_pos c5]
    exact hJ2
  · have q6 : 0 ≤ v 45 a ∧ v 45 a ≤ 19 := hI.2 45 a
    have q7 : ((f_isDelivery a v).2) 45 a = v 45 a := (fr_isDelivery (a := a) (v := v) 45 a (by decide)).trans rfl
    rw [f_deliveredOrder, if_neg c5]
    exact hJ2
theorem fr_deliveredOrder {a : Int} {v : Vw} (fk : Nat) (fi : Int) (hk : fk ≠ 0) : (f_deliveredOrder a v).2 fk fi = v fk fi := by
  by_cases c5 : (f_isDelivery a v).1 = 0
  · rw [f_deliveredOrder, if_pos c5]
    exact ((fr_isDelivery (a := a) (v := v) fk fi (by omega)).trans rfl)
  · rw [f_deliveredOrder, if_neg c5]
    exact ((fr_isDelivery (a := a) (v := v) fk fi (by omega)).trans rfl)
def f_deliveredUnits (a : Int) (v : Vw) : Int × Vw :=
  if (f_isDelivery a v).1 = 0 then
    (0, (f_isDelivery a v).2)
  else
    ((v 46 a), (f_isDelivery a v).2)
theorem s_X11_deliveredUnits {X : Cx} {σ : Hp} {m0 : Nat} {v : Vw} {T E : Int} {a : Int} (hG : GM σ m0) (hI : IM v T E) (ha : -2147483648 ≤ a ∧ a < 2147483648) : Ct X m_X11_deliveredUnits 3 [va_rf (some m0), .int (i32 a)] (Hm σ m0 v) (.inl (some (.int (i32 (f_deliveredUnits a v).1)))) (Hm σ m0 (f_deliveredUnits a v).2) := by
  have hT := hI.1
  refine Ct.of (by decide +kernel) rfl (Nat.le_of_ble_eq_true rfl) (by simp [Value.category, va_rf]) ?_
  refine Ev.aload_n (i := 0) dX11_deliveredUnits_0 rfl rfl ?_
  refine Ev.iload_n (i := 1) dX11_deliveredUnits_1 rfl rfl ?_
  have q1 : 0 ≤ v 9 0 ∧ v 9 0 ≤ 127 := hI.2 9 0
  refine Em.cv1 (As := [_]) hG k_X11_isDelivery (tb8 (i := 144) rfl) ki_X11_isDelivery kv_X11_isDelivery dX11_deliveredUnits_2 rfl rfl (Nat.le_of_ble_eq_true rfl) (by decide) (s_X11_isDelivery (a := a) hG hI (by show -2147483648 ≤ a ∧ a < 2147483648; omega)) ?_
  have hJ2 := (i_isDelivery (a := a) hI (by show -2147483648 ≤ a ∧ a < 2147483648; omega))
  have q3 : ((f_isDelivery a v).1 = 1 ∧ 0 ≤ a ∧ a < (v 9 0)) ∨ ((f_isDelivery a v).1 = 0 ∧ ¬ (0 ≤ a ∧ a < (v 9 0))) := c_isDelivery a v
  have q4 : 0 ≤ (v 9 0) ∧ (v 9 0) ≤ 127 := hI.2 9 0
  refine Ei.if_eq (tgt := 17) dX11_deliveredUnits_5 (by decide) ⟨by omega, by omega⟩ (fun c5 => ?_) (fun c5 => ?_)
  · refine Ei.const dX11_deliveredUnits_17 ?_
    exact Ev.iretE rfl nar_i dX11_deliveredUnits_18 (by rw [f_deliveredUnits, if_pos c5]; try rfl) (by first | rfl | (rw [f_deliveredUnits, if_pos c5]; try rfl))
  · refine Ev.aload_n (i := 0) dX11_deliveredUnits_8 rfl rfl ?_
    refine Em.gA (k := 46) hG (by decide) (by decide) (tb7 (i := 16) rfl) rfl rfl dX11_deliveredUnits_9 ?_
    refine Ev.iload_n (i := 1) dX11_deliveredUnits_12 rfl rfl ?_
    have q6 : 0 ≤ v 46 a ∧ v 46 a ≤ 20 := hI.2 46 a
    have q7 : ((f_isDelivery a v).2) 46 a = v 46 a := (fr_isDelivery (a := a) (v := v) 46 a (by decide)).trans rfl
    refine Ex.iald (k := 46) (v 46 a) q7 hG (by decide) (by decide) rfl (by omega) (by show _ < ((128 : Nat) : Int); omega) (by decide) dX11_deliveredUnits_13 ?_
    refine Ev.goto (tgt := 18) dX11_deliveredUnits_14 (by decide) ?_
    exact Ev.iretE rfl nar_i dX11_deliveredUnits_18 (by rw [f_deliveredUnits, if_neg c5]; try rfl) (by first | rfl | (rw [f_deliveredUnits, if_neg c5]; try rfl))
theorem i_deliveredUnits {v : Vw} {T E : Int} {a : Int} (hI : IM v T E) (ha : -2147483648 ≤ a ∧ a < 2147483648) : IM (f_deliveredUnits a v).2 T (E) := by
  have hT := hI.1
  have q1 : 0 ≤ v 9 0 ∧ v 9 0 ≤ 127 := hI.2 9 0
  have hJ2 := (i_isDelivery (a := a) hI (by show -2147483648 ≤ a ∧ a < 2147483648; omega))
  have q3 : ((f_isDelivery a v).1 = 1 ∧ 0 ≤ a ∧ a < (v 9 0)) ∨ ((f_isDelivery a v).1 = 0 ∧ ¬ (0 ≤ a ∧ a < (v 9 0))) := c_isDelivery a v
  have q4 : 0 ≤ (v 9 0) ∧ (v 9 0) ≤ 127 := hI.2 9 0
  by_cases c5 : (f_isDelivery a v).1 = 0
  · rw [f_deliveredUnits, if_pos c5]
    exact hJ2
  · have q6 : 0 ≤ v 46 a ∧ v 46 a ≤ 20 := hI.2 46 a
    have q7 : ((f_isDelivery a v).2) 46 a = v 46 a := (fr_isDelivery (a := a) (v := v) 46 a (by decide)).trans rfl
    rw [f_deliveredUnits, if_neg c5]
    exact hJ2
theorem fr_deliveredUnits {a : Int} {v : Vw} (fk : Nat) (fi : Int) (hk : fk ≠ 0) : (f_deliveredUnits a v).2 fk fi = v fk fi := by
  by_cases c5 : (f_isDelivery a v).1 = 0
  · rw [f_deliveredUnits, if_pos c5]
    exact ((fr_isDelivery (a := a) (v := v) fk fi (by omega)).trans rfl)
  · rw [f_deliveredUnits, if_neg c5]
    exact ((fr_isDelivery (a := a) (v := v) fk fi (by omega)).trans rfl)
