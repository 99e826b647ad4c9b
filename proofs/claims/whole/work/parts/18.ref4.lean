/-! the reference: days (written by wip/whole/mk18.py) -/
/-- the sum of f over the first n -/
def cN (f : Int → Int) : Nat → Int
  | 0 => 0
  | n + 1 => cN f n + f (n : Int)
theorem cN_congr {f g : Int → Int} : ∀ (n : Nat), (∀ i, 0 ≤ i → i < (n : Int) → g i = f i) → cN g n = cN f n := by
  intro n
  induction n with
  | zero => exact fun _ => rfl
  | succ n ih =>
    intro h
    unfold cN
    rw [ih (fun i h0 h1 => h i h0 (by omega)), h (n : Int) (by omega) (by omega)]
theorem cN_one {f g : Int → Int} {b : Int} (hne : ∀ i, i ≠ b → g i = f i) (hb : 0 ≤ b) : ∀ (n : Nat), cN g n = cN f n + (if b < (n : Int) then g b - f b else 0) := by
  intro n
  induction n with
  | zero => show (0 : Int) = 0 + _; rw [if_neg (by omega)]; rfl
  | succ n ih =>
    unfold cN
    rw [ih]
    by_cases e : (n : Int) = b
    · rw [if_neg (by omega), if_pos (by omega), e]
      omega
    · rw [hne _ e]
      by_cases h : b < (n : Int)
      · rw [if_pos h, if_pos (by omega)]
        omega
      · rw [if_neg h, if_neg (by omega)]
        omega
theorem cN_nn {f : Int → Int} (h : ∀ i, 0 ≤ f i) : ∀ n, 0 ≤ cN f n := by
  intro n
  induction n with
  | zero => exact Int.le_refl 0
  | succ n ih =>
    have := h (n : Int)
    unfold cN
    omega
theorem cN_pos {f : Int → Int} (h : ∀ i, 0 ≤ f i) {b : Int} (hb : 0 ≤ b) (h1 : 1 ≤ f b) : ∀ n : Nat, b < (n : Int) → 1 ≤ cN f n := by
  intro n
  induction n with
  | zero => intro h; omega
  | succ n ih =>
    intro hn
    unfold cN
    have := h (n : Int)
    have := cN_nn h n
    by_cases e : (n : Int) = b
    · rw [e] at *
      omega
    · have := ih (by omega)
      omega
def dlF (v : Vw) (i : Int) : Int := if v 28 i = 4 then 0 else 1
def pqF (v : Vw) (i : Int) : Int := if v 28 i = 0 then 1 else 0
def flF (v : Vw) (i : Int) : Int := if v 34 i = 102 then 0 else 1
/-- brews not drained; brews that ferment or are yet to come; orders not filled -/
def dl (v : Vw) : Int := cN (dlF v) 30
def pq (v : Vw) : Int := cN (pqF v) 30
def fl (v : Vw) : Int := cN (flF v) 20
theorem dlF_nn (v : Vw) (i : Int) : 0 ≤ dlF v i := by unfold dlF; split <;> omega
theorem pqF_nn (v : Vw) (i : Int) : 0 ≤ pqF v i := by unfold pqF; split <;> omega
theorem flF_nn (v : Vw) (i : Int) : 0 ≤ flF v i := by unfold flF; split <;> omega
theorem dl_nn (v : Vw) : 0 ≤ dl v := cN_nn (dlF_nn v) 30
theorem pq_nn (v : Vw) : 0 ≤ pq v := cN_nn (pqF_nn v) 30
theorem fl_nn (v : Vw) : 0 ≤ fl v := cN_nn (flF_nn v) 20
theorem dl_congr {v w : Vw} (h : ∀ i, w 28 i = v 28 i) : dl w = dl v := cN_congr 30 (fun i _ _ => by unfold dlF; rw [h])
theorem pq_congr {v w : Vw} (h : ∀ i, w 28 i = v 28 i) : pq w = pq v := cN_congr 30 (fun i _ _ => by unfold pqF; rw [h])
theorem fl_congr {v w : Vw} (h : ∀ i, w 34 i = v 34 i) : fl w = fl v := cN_congr 20 (fun i _ _ => by unfold flF; rw [h])
theorem dl_one {v w : Vw} {b : Int} (hb : 0 ≤ b ∧ b ≤ 29) (hne : ∀ i, i ≠ b → w 28 i = v 28 i) : dl w = dl v + (dlF w b - dlF v b) := by
  have h := cN_one (f := dlF v) (g := dlF w) (b := b) (fun i hi => by unfold dlF; rw [hne i hi]) hb.1 30
  rw [if_pos (by omega)] at h
  exact h
theorem pq_one {v w : Vw} {b : Int} (hb : 0 ≤ b ∧ b ≤ 29) (hne : ∀ i, i ≠ b → w 28 i = v 28 i) : pq w = pq v + (pqF w b - pqF v b) := by
  have h := cN_one (f := pqF v) (g := pqF w) (b := b) (fun i hi => by unfold pqF; rw [hne i hi]) hb.1 30
  rw [if_pos (by omega)] at h
  exact h
theorem fl_one {v w : Vw} {b : Int} (hb : 0 ≤ b ∧ b ≤ 19) (hne : ∀ i, i ≠ b → w 34 i = v 34 i) : fl w = fl v + (flF w b - flF v b) := by
  have h := cN_one (f := flF v) (g := flF w) (b := b) (fun i hi => by unfold flF; rw [hne i hi]) hb.1 20
  rw [if_pos (by omega)] at h
  exact h
theorem fl_pos {v : Vw} {b : Int} (hb : 0 ≤ b ∧ b ≤ 19) (h : v 34 b = 111) : 1 ≤ fl v := cN_pos (flF_nn v) hb.1 (by unfold flF; rw [h]; decide) 20 (by omega)
theorem pq_pos {v : Vw} {b : Int} (hb : 0 ≤ b ∧ b ≤ 29) (h : v 28 b = 0) : 1 ≤ pq v := cN_pos (pqF_nn v) hb.1 (by unfold pqF; rw [h]; decide) 30 (by omega)
def l_stockOf_4 (r : Int) (v : Vw) : Nat → Int → Int → Int
  | 0, _, _ => 0
  | n + 1, s, b =>
    if (v 5 0) ≤ b then
      s
    else
      if (v 28 b) = 3 then
        if (v 26 b) = r then
          (l_stockOf_4 r v n (s + (v 31 b)) (b + 1))
        else
          (l_stockOf_4 r v n (s + 0) (b + 1))
      else
        (l_stockOf_4 r v n (s + 0) (b + 1))
theorem s_l_stockOf_4 {X : Cx} {σ : Hp} {m0 : Nat} {T E : Int} {r : Int} (hG : GM σ m0) {v : Vw} (hI : IM v T E) : ∀ (n : Nat) (s b : Int) (hb : 0 ≤ b ∧ b ≤ 1000) (hr : -2147483648 ≤ r ∧ r < 2147483648) (hm : (v 5 0 - b).toNat < n), Ev X m_X11_stockOf 1 4 [some (va_rf (some m0)), some (.int (i32 r)), some (.int (i32 s)), some (.int (i32 b))] [] (Hm σ m0 v) (.inl (some (.int (i32 (l_stockOf_4 r v n s b))))) (Hm σ m0 v) := by
  intro n
  induction n with
  | zero =>
    intro s b hb hr hm
    exact absurd hm (Nat.not_lt_zero _)
  | succ n ih =>
    intro s b hb hr hm
    have hT := hI.1
    have u5 : 0 ≤ v 5 0 ∧ v 5 0 ≤ 30 := hI.2 5 0
    refine Ev.iload_n (i := 3) dX11_stockOf_4 rfl rfl ?_
    refine Ev.aload_n (i := 0) dX11_stockOf_5 rfl rfl ?_
    refine Ex.gS (k := 5) (v 5 0) rfl hG (by decide) (tb6 (i := 215) rfl) rfl rfl dX11_stockOf_6 ?_
    refine Ei.icmp_ge (tgt := 51) dX11_stockOf_9 (by decide) ⟨by omega, by omega⟩ ⟨by omega, by omega⟩ (fun c1 => ?_) (fun c1 => ?_)
    · refine Ev.iload_n (i := 2) dX11_stockOf_51 rfl rfl ?_
      exact Ev.iretE rfl nar_i dX11_stockOf_52 (by rw [l_stockOf_4, if_pos c1]; try rfl) (by first | rfl | (rw [l_stockOf_4, if_pos c1]; try rfl))
    · refine Ev.iload_n (i := 2) dX11_stockOf_12 rfl rfl ?_
      refine Ev.aload_n (i := 0) dX11_stockOf_13 rfl rfl ?_
      refine Em.gA (k := 28) hG (by decide) (by decide) (tb6 (i := 238) rfl) rfl rfl dX11_stockOf_14 ?_
      refine Ev.iload_n (i := 3) dX11_stockOf_17 rfl rfl ?_
      have q2 : 0 ≤ v 28 b ∧ v 28 b ≤ 4 := hI.2 28 b
      refine Ex.iald (k := 28) (v 28 b) rfl hG (by decide) (by decide) rfl (by omega) (by show _ < ((30 : Nat) : Int); omega) (by decide) dX11_stockOf_18 ?_
      refine Ei.const dX11_stockOf_19 ?_
      refine Ex.icmp_ne (tgt := 42) dX11_stockOf_20 (by decide) ⟨by omega, by omega⟩ ⟨by omega, by omega⟩ (fun c3 => ?_) (fun c3 => ?_)
      · refine Ev.aload_n (i := 0) dX11_stockOf_23 rfl rfl ?_
        refine Em.gA (k := 26) hG (by decide) (by decide) (tb6 (i := 236) rfl) rfl rfl dX11_stockOf_24 ?_
        refine Ev.iload_n (i := 3) dX11_stockOf_27 rfl rfl ?_
        have q4 : 0 ≤ v 26 b ∧ v 26 b ≤ 4 := hI.2 26 b
        refine Ex.iald (k := 26) (v 26 b) rfl hG (by decide) (by decide) rfl (by omega) (by show _ < ((30 : Nat) : Int); omega) (by decide) dX11_stockOf_28 ?_
        refine Ev.iload_n (i := 1) dX11_stockOf_29 rfl rfl ?_
        refine Ex.icmp_ne (tgt := 42) dX11_stockOf_30 (by decide) ⟨by omega, by omega⟩ ⟨by omega, by omega⟩ (fun c5 => ?_) (fun c5 => ?_)
        · refine Ev.aload_n (i := 0) dX11_stockOf_33 rfl rfl ?_
          refine Em.gA (k := 31) hG (by decide) (by decide) (tb7 (i := 1) rfl) rfl rfl dX11_stockOf_34 ?_
          refine Ev.iload_n (i := 3) dX11_stockOf_37 rfl rfl ?_
          have q6 : 0 ≤ v 31 b ∧ v 31 b ≤ 20 := hI.2 31 b
          refine Ex.iald (k := 31) (v 31 b) rfl hG (by decide) (by decide) rfl (by omega) (by show _ < ((30 : Nat) : Int); omega) (by decide) dX11_stockOf_38 ?_
          refine Ev.goto (tgt := 43) dX11_stockOf_39 (by decide) ?_
          refine Ei.add dX11_stockOf_43 ?_
          refine Ev.istore_n (i := 2) dX11_stockOf_44 rfl (by decide) ?_
          refine Ei.inc dX11_stockOf_45 rfl (by decide) ?_
          refine Ev.goto (tgt := 4) dX11_stockOf_48 (by decide) ?_
          rw [l_stockOf_4, if_neg c1, if_pos c3, if_pos c5]
          exact Ev.fgt (ls' := [some (va_rf (some m0)), some (.int (i32 r)), some (.int (i32 (s + (v 31 b)))), some (.int (i32 (b + 1)))]) ⟨rfl, ⟨rfl, ⟨rfl, ⟨rfl, trivial⟩⟩⟩⟩ (ih (s + (v 31 b)) (b + 1)  (by show 0 ≤ (b + 1) ∧ (b + 1) ≤ 1000; omega) (by show -2147483648 ≤ r ∧ r < 2147483648; omega) (by show ((v 5 0) - (b + 1)).toNat < n; omega))
        · refine Ei.const dX11_stockOf_42 ?_
          refine Ei.add dX11_stockOf_43 ?_
          refine Ev.istore_n (i := 2) dX11_stockOf_44 rfl (by decide) ?_
          refine Ei.inc dX11_stockOf_45 rfl (by decide) ?_
          refine Ev.goto (tgt := 4) dX11_stockOf_48 (by decide) ?_
          rw [l_stockOf_4, if_neg c1, if_pos c3, if_neg c5]
          exact Ev.fgt (ls' := [some (va_rf (some m0)), some (.int (i32 r)), some (.int (i32 (s + 0))), some (.int (i32 (b + 1)))]) ⟨rfl, ⟨rfl, ⟨rfl, ⟨rfl, trivial⟩⟩⟩⟩ (ih (s + 0) (b + 1)  (by show 0 ≤ (b + 1) ∧ (b + 1) ≤ 1000; omega) (by show -2147483648 ≤ r ∧ r < 2147483648; omega) (by show ((v 5 0) - (b + 1)).toNat < n; omega))
      · refine Ei.const dX11_stockOf_42 ?_
        refine Ei.add dX11_stockOf_43 ?_
        refine Ev.istore_n (i := 2) dX11_stockOf_44 rfl (by decide) ?_
        refine Ei.inc dX11_stockOf_45 rfl (by decide) ?_
        refine Ev.goto (tgt := 4) dX11_stockOf_48 (by decide) ?_
        rw [l_stockOf_4, if_neg c1, if_neg c3]
        exact Ev.fgt (ls' := [some (va_rf (some m0)), some (.int (i32 r)), some (.int (i32 (s + 0))), some (.int (i32 (b + 1)))]) ⟨rfl, ⟨rfl, ⟨rfl, ⟨rfl, trivial⟩⟩⟩⟩ (ih (s + 0) (b + 1)  (by show 0 ≤ (b + 1) ∧ (b + 1) ≤ 1000; omega) (by show -2147483648 ≤ r ∧ r < 2147483648; omega) (by show ((v 5 0) - (b + 1)).toNat < n; omega))
def f_stockOf (r : Int) (v : Vw) : Int :=
  (l_stockOf_4 r v (((v 5 0) - 0).toNat + 1) 0 0)
theorem s_X11_stockOf {X : Cx} {σ : Hp} {m0 : Nat} {v : Vw} {T E : Int} {r : Int} (hG : GM σ m0) (hI : IM v T E) (hr : -2147483648 ≤ r ∧ r < 2147483648) : Ct X m_X11_stockOf 1 [va_rf (some m0), .int (i32 r)] (Hm σ m0 v) (.inl (some (.int (i32 (f_stockOf r v))))) (Hm σ m0 v) := by
  have hT := hI.1
  refine Ct.of (by decide +kernel) rfl (Nat.le_of_ble_eq_true rfl) (by simp [Value.category, va_rf]) ?_
  refine Ei.const dX11_stockOf_0 ?_
  refine Ev.istore_n (i := 2) dX11_stockOf_1 rfl (by decide) ?_
  refine Ei.const dX11_stockOf_2 ?_
  refine Ev.istore_n (i := 3) dX11_stockOf_3 rfl (by decide) ?_
  refine Ev.fgt (ls' := [some (va_rf (some m0)), some (.int (i32 r)), some (.int (i32 0)), some (.int (i32 0))]) ⟨rfl, ⟨rfl, ⟨rfl, ⟨rfl, trivial⟩⟩⟩⟩ ?_
  rw [f_stockOf]
  exact s_l_stockOf_4 hG hI  (((v 5 0) - 0).toNat + 1) 0 0 (by show 0 ≤ 0 ∧ 0 ≤ 1000; omega) (by show -2147483648 ≤ r ∧ r < 2147483648; omega) (by show ((v 5 0) - 0).toNat < (((v 5 0) - 0).toNat + 1); omega)
theorem r_l_stockOf_4 {r : Int} {v : Vw} {T E : Int} (hI : IM v T E) : ∀ (n : Nat) (s b : Int), 0 ≤ s → 0 ≤ l_stockOf_4 r v n s b ∧ l_stockOf_4 r v n s b ≤ s + 20 * (n : Int) := by
  intro n
  induction n with
  | zero => exact fun s _ h => ⟨Int.le_refl 0, by show (0 : Int) ≤ _; omega⟩
  | succ n ih =>
    intro s b hs
    have q : 0 ≤ v 31 b ∧ v 31 b ≤ 20 := hI.2 31 b
    rw [l_stockOf_4]
    repeat' split
    all_goals first | omega | (have g := ih (s + v 31 b) (b + 1) (by omega); omega) | (have g := ih (s + 0) (b + 1) (by omega); omega)
theorem r_stockOf {v : Vw} {T E : Int} (hI : IM v T E) (r : Int) : 0 ≤ f_stockOf r v ∧ f_stockOf r v ≤ 700 := by
  have g := r_l_stockOf_4 (r := r) hI ((v 5 0 - 0).toNat + 1) 0 0 (by omega)
  have u5 : 0 ≤ v 5 0 ∧ v 5 0 ≤ 30 := hI.2 5 0
  unfold f_stockOf
  omega
def f_stock (a : Int) (v : Vw) : Int × Vw :=
  if (f_isOne (f_isRecipe a v) v).1 = 0 then
    (0, (f_isOne (f_isRecipe a v) v).2)
  else
    ((f_stockOf a ((f_isOne (f_isRecipe a v) v).2)), (f_isOne (f_isRecipe a v) v).2)
theorem s_X11_stock {X : Cx} {σ : Hp} {m0 : Nat} {v : Vw} {T E : Int} {a : Int} (hG : GM σ m0) (hI : IM v T E) (ha : -2147483648 ≤ a ∧ a < 2147483648) : Ct X m_X11_stock 3 [va_rf (some m0), .int (i32 a)] (Hm σ m0 v) (.inl (some (.int (i32 (f_stock a v).1)))) (Hm σ m0 (f_stock a v).2) := by
  have hT := hI.1
  refine Ct.of (by decide +kernel) rfl (Nat.le_of_ble_eq_true rfl) (by simp [Value.category, va_rf]) ?_
  refine Ev.aload_n (i := 0) dX11_stock_0 rfl rfl ?_
  refine Ev.aload_n (i := 0) dX11_stock_1 rfl rfl ?_
  refine Ev.iload_n (i := 1) dX11_stock_2 rfl rfl ?_
  have q1 : 0 ≤ v 1 0 ∧ v 1 0 ≤ 5 := hI.2 1 0
  refine Em.cv1 (As := [_]) hG k_X11_isRecipe (tb7 (i := 165) rfl) ki_X11_isRecipe kv_X11_isRecipe dX11_stock_3 rfl rfl (Nat.le_of_ble_eq_true rfl) (by decide) (s_X11_isRecipe (x := a) hG hI (by show -2147483648 ≤ a ∧ a < 2147483648; omega)) ?_
  have q2 : 0 ≤ (f_isRecipe a v) ∧ (f_isRecipe a v) ≤ 1 := r_isRecipe
  have q3 : ((f_isRecipe a v) = 1 ∧ 0 ≤ a ∧ a < (v 1 0)) ∨ ((f_isRecipe a v) = 0 ∧ ¬ (0 ≤ a ∧ a < (v 1 0))) := c_isRecipe a v
  have q4 : 0 ≤ (v 1 0) ∧ (v 1 0) ≤ 5 := hI.2 1 0
  refine Em.cv1 (As := [_]) hG k_X11_isOne (tb8 (i := 87) rfl) ki_X11_isOne kv_X11_isOne dX11_stock_6 rfl rfl (Nat.le_of_ble_eq_true rfl) (by decide) (s_X11_isOne (a := (f_isRecipe a v)) hG hI (by show 0 ≤ (f_isRecipe a v) ∧ (f_isRecipe a v) ≤ 1; omega)) ?_
  have hJ5 := (i_isOne (a := (f_isRecipe a v)) hI (by show 0 ≤ (f_isRecipe a v) ∧ (f_isRecipe a v) ≤ 1; omega))
  have q6 : (f_isOne (f_isRecipe a v) v).1 = (f_isRecipe a v) := c_isOne (f_isRecipe a v) v
  refine Ei.if_eq (tgt := 20) dX11_stock_9 (by decide) ⟨by omega, by omega⟩ (fun c7 => ?_) (fun c7 => ?_)
  · refine Ei.const dX11_stock_20 ?_
    exact Ev.iretE rfl nar_i dX11_stock_21 (by rw [f_stock, if_pos c7]; try rfl) (by first | rfl | (rw [f_stock, if_pos c7]; try rfl))
  · refine Ev.aload_n (i := 0) dX11_stock_12 rfl rfl ?_
    refine Ev.iload_n (i := 1) dX11_stock_13 rfl rfl ?_
    refine Em.cv1 (As := [_]) hG k_X11_stockOf (tb8 (i := 63) rfl) ki_X11_stockOf kv_X11_stockOf dX11_stock_14 rfl rfl (Nat.le_of_ble_eq_true rfl) (by decide) (s_X11_stockOf (r := a) hG hJ5 (by show -2147483648 ≤ a ∧ a < 2147483648; omega)) ?_
    have q8 := r_stockOf hJ5 a
    refine Ev.goto (tgt := 21) dX11_stock_17 (by decide) ?_
    exact Ev.iretE rfl nar_i dX11_stock_21 (by rw [f_stock, if_neg c7]; try rfl) (by first | rfl | (rw [f_stock, if_neg c7]; try rfl))
theorem i_stock {v : Vw} {T E : Int} {a : Int} (hI : IM v T E) (ha : -2147483648 ≤ a ∧ a < 2147483648) : IM (f_stock a v).2 T (E) := by
  have hT := hI.1
  have q1 : 0 ≤ v 1 0 ∧ v 1 0 ≤ 5 := hI.2 1 0
  have q2 : 0 ≤ (f_isRecipe a v) ∧ (f_isRecipe a v) ≤ 1 := r_isRecipe
  have q3 : ((f_isRecipe a v) = 1 ∧ 0 ≤ a ∧ a < (v 1 0)) ∨ ((f_isRecipe a v) = 0 ∧ ¬ (0 ≤ a ∧ a < (v 1 0))) := c_isRecipe a v
  have q4 : 0 ≤ (v 1 0) ∧ (v 1 0) ≤ 5 := hI.2 1 0
  have hJ5 := (i_isOne (a := (f_isRecipe a v)) hI (by show 0 ≤ (f_isRecipe a v) ∧ (f_isRecipe a v) ≤ 1; omega))
  have q6 : (f_isOne (f_isRecipe a v) v).1 = (f_isRecipe a v) := c_isOne (f_isRecipe a v) v
  by_cases c7 : (f_isOne (f_isRecipe a v) v).1 = 0
  · rw [f_stock, if_pos c7]
    exact hJ5
  · have q8 := r_stockOf hJ5 a
    rw [f_stock, if_neg c7]
    exact hJ5
theorem fr_stock {a : Int} {v : Vw} (fk : Nat) (fi : Int) (hk : fk ≠ 0) : (f_stock a v).2 fk fi = v fk fi := by
  by_cases c7 : (f_isOne (f_isRecipe a v) v).1 = 0
  · rw [f_stock, if_pos c7]
    exact ((fr_isOne (a := (f_isRecipe a v)) (v := v) fk fi (by omega)).trans rfl)
  · rw [f_stock, if_neg c7]
    exact ((fr_isOne (a := (f_isRecipe a v)) (v := v) fk fi (by omega)).trans rfl)
def f_stockByDeliveries (a : Int) (v : Vw) : Int × Vw :=
  ((f_stock a v).1, (f_stock a v).2)
theorem s_X11_stockByDeliveries {X : Cx} {σ : Hp} {m0 : Nat} {v : Vw} {T E : Int} {a : Int} (hG : GM σ m0) (hI : IM v T E) (ha : -2147483648 ≤ a ∧ a < 2147483648) : Ct X m_X11_stockByDeliveries 4 [va_rf (some m0), .int (i32 a)] (Hm σ m0 v) (.inl (some (.int (i32 (f_stockByDeliveries a v).1)))) (Hm σ m0 (f_stockByDeliveries a v).2) := by
  have hT := hI.1
  refine Ct.of (by decide +kernel) rfl (Nat.le_of_ble_eq_true rfl) (by simp [Value.category, va_rf]) ?_
  refine Ev.aload_n (i := 0) dX11_stockByDeliveries_0 rfl rfl ?_
  refine Ev.iload_n (i := 1) dX11_stockByDeliveries_1 rfl rfl ?_
  refine Em.cv1 (As := [_]) hG k_X11_stock (tb8 (i := 135) rfl) ki_X11_stock kv_X11_stock dX11_stockByDeliveries_2 rfl rfl (Nat.le_of_ble_eq_true rfl) (by decide) (s_X11_stock (a := a) hG hI (by show -2147483648 ≤ a ∧ a < 2147483648; omega)) ?_
  have hJ1 := (i_stock (a := a) hI (by show -2147483648 ≤ a ∧ a < 2147483648; omega))
  exact Ev.iretE rfl nar_i dX11_stockByDeliveries_5 (by rw [f_stockByDeliveries]; try rfl) (by first | rfl | (rw [f_stockByDeliveries]; try rfl))
theorem i_stockByDeliveries {v : Vw} {T E : Int} {a : Int} (hI : IM v T E) (ha : -2147483648 ≤ a ∧ a < 2147483648) : IM (f_stockByDeliveries a v).2 T (E) := by
  have hT := hI.1
  have hJ1 := (i_stock (a := a) hI (by show -2147483648 ≤ a ∧ a < 2147483648; omega))
  rw [f_stockByDeliveries]
  exact hJ1
theorem fr_stockByDeliveries {a : Int} {v : Vw} (fk : Nat) (fi : Int) (hk : fk ≠ 0) : (f_stockByDeliveries a v).2 fk fi = v fk fi := by
  rw [f_stockByDeliveries]
  exact ((fr_stock (a := a) (v := v) fk fi (by omega)).trans rfl)
def l_canFill_15 (o r : Int) (v : Vw) : Nat → Int → Int → Int
  | 0, need, k => need
  | n + 1, need, k =>
    if (v 33 o) ≤ k then
      need
    else
      if (v 36 ((4 * o) + k)) = r then
        (l_canFill_15 o r v n (need + (v 37 ((4 * o) + k))) (k + 1))
      else
        (l_canFill_15 o r v n (need + 0) (k + 1))
theorem s_l_canFill_15 {X : Cx} {σ : Hp} {m0 : Nat} {T E : Int} {o : Int} {r : Int} {oc : Rs} {τ : Hp} (hG : GM σ m0) {v : Vw} (hI : IM v T E) : ∀ (n : Nat) (need k : Int) (hk : 0 ≤ k ∧ k ≤ 100) (ho : 0 ≤ o ∧ o ≤ 19) (hr : 0 ≤ r ∧ r ≤ 100) (hm : (v 33 o - k).toNat < n), Ev X m_X11_canFill 2 65 [some (va_rf (some m0)), some (.int (i32 o)), some (.int (i32 r)), some (.int (i32 (l_canFill_15 o r v n need k))), none] [] (Hm σ m0 v) oc τ → Ev X m_X11_canFill 2 15 [some (va_rf (some m0)), some (.int (i32 o)), some (.int (i32 r)), some (.int (i32 need)), some (.int (i32 k))] [] (Hm σ m0 v) oc τ := by
  intro n
  induction n with
  | zero =>
    intro need k hk ho hr hm K
    exact absurd hm (Nat.not_lt_zero _)
  | succ n ih =>
    intro need k hk ho hr hm K
    have hT := hI.1
    refine Ev.iload dX11_canFill_15 rfl ?_
    refine Ev.aload_n (i := 0) dX11_canFill_17 rfl rfl ?_
    refine Em.gA (k := 33) hG (by decide) (by decide) (tb7 (i := 3) rfl) rfl rfl dX11_canFill_18 ?_
    refine Ev.iload_n (i := 1) dX11_canFill_21 rfl rfl ?_
    have q1 : 0 ≤ v 33 o ∧ v 33 o ≤ 4 := hI.2 33 o
    refine Ex.iald (k := 33) (v 33 o) rfl hG (by decide) (by decide) rfl (by omega) (by show _ < ((20 : Nat) : Int); omega) (by decide) dX11_canFill_22 ?_
    refine Ei.icmp_ge (tgt := 65) dX11_canFill_23 (by decide) ⟨by omega, by omega⟩ ⟨by omega, by omega⟩ (fun c2 => ?_) (fun c2 => ?_)
    · rw [l_canFill_15, if_pos c2] at K
      exact Ev.fgt (ls' := [some (va_rf (some m0)), some (.int (i32 o)), some (.int (i32 r)), some (.int (i32 need)), none]) ⟨rfl, ⟨rfl, ⟨rfl, ⟨rfl, trivial⟩⟩⟩⟩ K
    · refine Ev.iload_n (i := 3) dX11_canFill_26 rfl rfl ?_
      refine Ev.aload_n (i := 0) dX11_canFill_27 rfl rfl ?_
      refine Em.gA (k := 36) hG (by decide) (by decide) (tb7 (i := 6) rfl) rfl rfl dX11_canFill_28 ?_
      refine Ei.const dX11_canFill_31 ?_
      refine Ev.iload_n (i := 1) dX11_canFill_32 rfl rfl ?_
      refine Ei.mul dX11_canFill_33 ?_
      refine Ev.iload dX11_canFill_34 rfl ?_
      refine Ei.add dX11_canFill_36 ?_
      have q3 : 0 ≤ v 36 ((4 * o) + k) ∧ v 36 ((4 * o) + k) ≤ 4 := hI.2 36 ((4 * o) + k)
      refine Ex.iald (k := 36) (v 36 ((4 * o) + k)) rfl hG (by decide) (by decide) rfl (by omega) (by show _ < ((80 : Nat) : Int); omega) (by decide) dX11_canFill_37 ?_
      refine Ev.iload_n (i := 2) dX11_canFill_38 rfl rfl ?_
      refine Ex.icmp_ne (tgt := 56) dX11_canFill_39 (by decide) ⟨by omega, by omega⟩ ⟨by omega, by omega⟩ (fun c4 => ?_) (fun c4 => ?_)
      · refine Ev.aload_n (i := 0) dX11_canFill_42 rfl rfl ?_
        refine Em.gA (k := 37) hG (by decide) (by decide) (tb7 (i := 7) rfl) rfl rfl dX11_canFill_43 ?_
        refine Ei.const dX11_canFill_46 ?_
        refine Ev.iload_n (i := 1) dX11_canFill_47 rfl rfl ?_
        refine Ei.mul dX11_canFill_48 ?_
        refine Ev.iload dX11_canFill_49 rfl ?_
        refine Ei.add dX11_canFill_51 ?_
        have q5 : 0 ≤ v 37 ((4 * o) + k) ∧ v 37 ((4 * o) + k) ≤ 40 := hI.2 37 ((4 * o) + k)
        refine Ex.iald (k := 37) (v 37 ((4 * o) + k)) rfl hG (by decide) (by decide) rfl (by omega) (by show _ < ((80 : Nat) : Int); omega) (by decide) dX11_canFill_52 ?_
        refine Ev.goto (tgt := 57) dX11_canFill_53 (by decide) ?_
        refine Ei.add dX11_canFill_57 ?_
        refine Ev.istore_n (i := 3) dX11_canFill_58 rfl (by decide) ?_
        refine Ei.inc dX11_canFill_59 rfl (by decide) ?_
        refine Ev.goto (tgt := 15) dX11_canFill_62 (by decide) ?_
        rw [l_canFill_15, if_neg c2, if_pos c4] at K
        exact Ev.fgt (ls' := [some (va_rf (some m0)), some (.int (i32 o)), some (.int (i32 r)), some (.int (i32 (need + (v 37 ((4 * o) + k))))), some (.int (i32 (k + 1)))]) ⟨rfl, ⟨rfl, ⟨rfl, ⟨rfl, ⟨rfl, trivial⟩⟩⟩⟩⟩ (ih (need + (v 37 ((4 * o) + k))) (k + 1)  (by show 0 ≤ (k + 1) ∧ (k + 1) ≤ 100; omega) (by show 0 ≤ o ∧ o ≤ 19; omega) (by show 0 ≤ r ∧ r ≤ 100; omega) (by show ((v 33 o) - (k + 1)).toNat < n; omega) K)
      · refine Ei.const dX11_canFill_56 ?_
        refine Ei.add dX11_canFill_57 ?_
        refine Ev.istore_n (i := 3) dX11_canFill_58 rfl (by decide) ?_
        refine Ei.inc dX11_canFill_59 rfl (by decide) ?_
        refine Ev.goto (tgt := 15) dX11_canFill_62 (by decide) ?_
        rw [l_canFill_15, if_neg c2, if_neg c4] at K
        exact Ev.fgt (ls' := [some (va_rf (some m0)), some (.int (i32 o)), some (.int (i32 r)), some (.int (i32 (need + 0))), some (.int (i32 (k + 1)))]) ⟨rfl, ⟨rfl, ⟨rfl, ⟨rfl, ⟨rfl, trivial⟩⟩⟩⟩⟩ (ih (need + 0) (k + 1)  (by show 0 ≤ (k + 1) ∧ (k + 1) ≤ 100; omega) (by show 0 ≤ o ∧ o ≤ 19; omega) (by show 0 ≤ r ∧ r ≤ 100; omega) (by show ((v 33 o) - (k + 1)).toNat < n; omega) K)
theorem r_l_canFill_15 {o r : Int} {v : Vw} {T E : Int} (hI : IM v T E) : ∀ (n : Nat) (s k : Int), 0 ≤ s → 0 ≤ l_canFill_15 o r v n s k ∧ l_canFill_15 o r v n s k ≤ s + 40 * (n : Int) := by
  intro n
  induction n with
  | zero => exact fun s _ h => ⟨h, by show s ≤ _; omega⟩
  | succ n ih =>
    intro s k hs
    have q : 0 ≤ v 37 (4 * o + k) ∧ v 37 (4 * o + k) ≤ 40 := hI.2 37 _
    rw [l_canFill_15]
    repeat' split
    all_goals first | omega | (have g := ih (s + v 37 (4 * o + k)) (k + 1) (by omega); omega) | (have g := ih (s + 0) (k + 1) (by omega); omega)
def l_canFill_2 (o : Int) (v : Vw) : Nat → Int → Int
  | 0, _ => 0
  | n + 1, r =>
    if (v 1 0) ≤ r then
      1
    else
      if (l_canFill_15 o r v (((v 33 o) - 0).toNat + 1) 0 0) ≤ (f_stockOf r v) then
        (l_canFill_2 o v n (r + 1))
      else
        0
theorem s_l_canFill_2 {X : Cx} {σ : Hp} {m0 : Nat} {T E : Int} {o : Int} (hG : GM σ m0) {v : Vw} (hI : IM v T E) : ∀ (n : Nat) (r : Int) (hr : 0 ≤ r ∧ r ≤ 100) (ho : 0 ≤ o ∧ o ≤ 19) (hm : (v 1 0 - r).toNat < n), Ev X m_X11_canFill 2 2 [some (va_rf (some m0)), some (.int (i32 o)), some (.int (i32 r)), none, none] [] (Hm σ m0 v) (.inl (some (.int (i32 (l_canFill_2 o v n r))))) (Hm σ m0 v) := by
  intro n
  induction n with
  | zero =>
    intro r hr ho hm
    exact absurd hm (Nat.not_lt_zero _)
  | succ n ih =>
    intro r hr ho hm
    have hT := hI.1
    have u1 : 0 ≤ v 1 0 ∧ v 1 0 ≤ 5 := hI.2 1 0
    refine Ev.iload_n (i := 2) dX11_canFill_2 rfl rfl ?_
    refine Ev.aload_n (i := 0) dX11_canFill_3 rfl rfl ?_
    refine Ex.gS (k := 1) (v 1 0) rfl hG (by decide) (tb6 (i := 211) rfl) rfl rfl dX11_canFill_4 ?_
    refine Ei.icmp_ge (tgt := 82) dX11_canFill_7 (by decide) ⟨by omega, by omega⟩ ⟨by omega, by omega⟩ (fun c6 => ?_) (fun c6 => ?_)
    · refine Ei.const dX11_canFill_82 ?_
      exact Ev.iretE rfl (nar_b (by omega)) dX11_canFill_83 (by rw [l_canFill_2, if_pos c6]; try rfl) (by first | rfl | (rw [l_canFill_2, if_pos c6]; try rfl))
    · refine Ei.const dX11_canFill_10 ?_
      refine Ev.istore_n (i := 3) dX11_canFill_11 rfl (by decide) ?_
      refine Ei.const dX11_canFill_12 ?_
      refine Ev.istore dX11_canFill_13 (by decide) ?_
      refine Ev.fgt (ls' := [some (va_rf (some m0)), some (.int (i32 o)), some (.int (i32 r)), some (.int (i32 0)), some (.int (i32 0))]) ⟨rfl, ⟨rfl, ⟨rfl, ⟨rfl, ⟨rfl, trivial⟩⟩⟩⟩⟩ ?_
      refine s_l_canFill_15 hG hI  (((v 33 o) - 0).toNat + 1) 0 0 (by show 0 ≤ 0 ∧ 0 ≤ 100; omega) (by show 0 ≤ o ∧ o ≤ 19; omega) (by show 0 ≤ r ∧ r ≤ 100; omega) (by show ((v 33 o) - 0).toNat < (((v 33 o) - 0).toNat + 1); omega) ?_
      have q7 := r_l_canFill_15 (o := o) (r := r) hI (((v 33 o) - 0).toNat + 1) 0 0 (by omega)
      have q8 : 0 ≤ v 33 o ∧ v 33 o ≤ 4 := hI.2 33 o
      refine Ev.iload_n (i := 3) dX11_canFill_65 rfl rfl ?_
      refine Ev.aload_n (i := 0) dX11_canFill_66 rfl rfl ?_
      refine Ev.iload_n (i := 2) dX11_canFill_67 rfl rfl ?_
      refine Em.cv1 (As := [_]) hG k_X11_stockOf (tb8 (i := 63) rfl) ki_X11_stockOf kv_X11_stockOf dX11_canFill_68 rfl rfl (Nat.le_of_ble_eq_true rfl) (by decide) (s_X11_stockOf (r := r) hG hI (by show -2147483648 ≤ r ∧ r < 2147483648; omega)) ?_
      have q9 := r_stockOf hI r
      refine Ei.icmp_le (tgt := 76) dX11_canFill_71 (by decide) ⟨by omega, by omega⟩ ⟨by omega, by omega⟩ (fun c10 => ?_) (fun c10 => ?_)
      · refine Ei.inc dX11_canFill_76 rfl (by decide) ?_
        refine Ev.goto (tgt := 2) dX11_canFill_79 (by decide) ?_
        rw [l_canFill_2, if_neg c6, if_pos c10]
        exact Ev.fgt (ls' := [some (va_rf (some m0)), some (.int (i32 o)), some (.int (i32 (r + 1))), none, none]) ⟨rfl, ⟨rfl, ⟨rfl, trivial⟩⟩⟩ (ih (r + 1)  (by show 0 ≤ (r + 1) ∧ (r + 1) ≤ 100; omega) (by show 0 ≤ o ∧ o ≤ 19; omega) (by show ((v 1 0) - (r + 1)).toNat < n; omega))
      · refine Ei.const dX11_canFill_74 ?_
        exact Ev.iretE rfl (nar_b (by omega)) dX11_canFill_75 (by rw [l_canFill_2, if_neg c6, if_neg c10]; try rfl) (by first | rfl | (rw [l_canFill_2, if_neg c6, if_neg c10]; try rfl))
def f_canFill (o : Int) (v : Vw) : Int :=
  (l_canFill_2 o v (((v 1 0) - 0).toNat + 1) 0)
theorem s_X11_canFill {X : Cx} {σ : Hp} {m0 : Nat} {v : Vw} {T E : Int} {o : Int} (hG : GM σ m0) (hI : IM v T E) (ho : 0 ≤ o ∧ o ≤ 19) : Ct X m_X11_canFill 2 [va_rf (some m0), .int (i32 o)] (Hm σ m0 v) (.inl (some (.int (i32 (f_canFill o v))))) (Hm σ m0 v) := by
  have hT := hI.1
  refine Ct.of (by decide +kernel) rfl (Nat.le_of_ble_eq_true rfl) (by simp [Value.category, va_rf]) ?_
  refine Ei.const dX11_canFill_0 ?_
  refine Ev.istore_n (i := 2) dX11_canFill_1 rfl (by decide) ?_
  refine Ev.fgt (ls' := [some (va_rf (some m0)), some (.int (i32 o)), some (.int (i32 0)), none, none]) ⟨rfl, ⟨rfl, ⟨rfl, trivial⟩⟩⟩ ?_
  rw [f_canFill]
  exact s_l_canFill_2 hG hI  (((v 1 0) - 0).toNat + 1) 0 (by show 0 ≤ 0 ∧ 0 ≤ 100; omega) (by show 0 ≤ o ∧ o ≤ 19; omega) (by show ((v 1 0) - 0).toNat < (((v 1 0) - 0).toNat + 1); omega)
theorem r_l_canFill_2 {o : Int} {v : Vw} : ∀ (n : Nat) (r : Int), 0 ≤ l_canFill_2 o v n r ∧ l_canFill_2 o v n r ≤ 1 := by
  intro n
  induction n with
  | zero => exact fun _ => ⟨Int.le_refl 0, Int.zero_le_ofNat 1⟩
  | succ n ih =>
    intro r
    rw [l_canFill_2]
    repeat' split
    all_goals first | exact ih _ | omega
theorem r_canFill {o : Int} {v : Vw} : 0 ≤ f_canFill o v ∧ f_canFill o v ≤ 1 := r_l_canFill_2 _ _
def f_dirties (w : Int) (v : Vw) : Vw :=
  (upv (upv (upv v 15 w 2) 18 w (v 10 0)) 10 0 ((v 10 0) + 1))
theorem s_X11_dirties {X : Cx} {σ : Hp} {m0 : Nat} {v : Vw} {T E : Int} {w : Int} (hG : GM σ m0) (hI : IM v T E) (hw : 0 ≤ w ∧ w ≤ 7) (hE : E + 1 ≤ 1000000000) : Ct X m_X11_dirties 1 [va_rf (some m0), .int (i32 w)] (Hm σ m0 v) (.inl none) (Hm σ m0 (f_dirties w v)) := by
  have hT := hI.1
  refine Ct.of (by decide +kernel) rfl (Nat.le_of_ble_eq_true rfl) (by simp [Value.category, va_rf]) ?_
  refine Ev.aload_n (i := 0) dX11_dirties_0 rfl rfl ?_
  refine Em.gA (k := 15) hG (by decide) (by decide) (tb6 (i := 225) rfl) rfl rfl dX11_dirties_1 ?_
  refine Ev.iload_n (i := 1) dX11_dirties_4 rfl rfl ?_
  refine Ei.const dX11_dirties_5 ?_
  refine Em.iast (k := 15) hG (by decide) (by decide) rfl (by omega) (by show _ < ((8 : Nat) : Int); omega) (by decide) dX11_dirties_6 ?_
  refine Ev.aload_n (i := 0) dX11_dirties_7 rfl rfl ?_
  refine Em.gA (k := 18) hG (by decide) (by decide) (tb6 (i := 228) rfl) rfl rfl dX11_dirties_8 ?_
  refine Ev.iload_n (i := 1) dX11_dirties_11 rfl rfl ?_
  refine Ev.aload_n (i := 0) dX11_dirties_12 rfl rfl ?_
  have q1 : 0 ≤ v 10 0 ∧ v 10 0 ≤ E := hI.2 10 0
  refine Ex.gS (k := 10) (v 10 0) rfl hG (by decide) (tb6 (i := 220) rfl) rfl rfl dX11_dirties_13 ?_
  refine Em.iast (k := 18) hG (by decide) (by decide) rfl (by omega) (by show _ < ((8 : Nat) : Int); omega) (by decide) dX11_dirties_16 ?_
  refine Ev.aload_n (i := 0) dX11_dirties_17 rfl rfl ?_
  refine Ev.dup dX11_dirties_18 rfl ?_
  refine Ex.gS (k := 10) (v 10 0) rfl hG (by decide) (tb6 (i := 220) rfl) rfl rfl dX11_dirties_19 ?_
  refine Ei.const dX11_dirties_22 ?_
  refine Ei.add dX11_dirties_23 ?_
  refine Em.pS (k := 10) hG (by decide) (tb6 (i := 220) rfl) rfl rfl rfl rfl dX11_dirties_24 ?_
  exact Ev.vretE rfl dX11_dirties_27 rfl (by first | rfl | (rw [f_dirties]; try rfl))
theorem i_dirties {v : Vw} {T E : Int} {w : Int} (hI : IM v T E) (hw : 0 ≤ w ∧ w ≤ 7) (hE : E + 1 ≤ 1000000000) : IM (f_dirties w v) T (E + 1) := by
  have hT := hI.1
  have q1 : 0 ≤ v 10 0 ∧ v 10 0 ≤ E := hI.2 10 0
  rw [f_dirties]
  exact (((((hI.mono (T' := T) (E' := E + 1) (by omega) (by omega) (by omega) (by omega)).up 15 w 2 (by show 0 ≤ 2 ∧ 2 ≤ 3; omega)).up 18 w (v 10 0) (by show 0 ≤ (v 10 0) ∧ (v 10 0) ≤ E + 1; omega)).up 10 0 ((v 10 0) + 1) (by show 0 ≤ ((v 10 0) + 1) ∧ ((v 10 0) + 1) ≤ E + 1; omega))).mono (by omega) (by omega) (by omega) (by omega)
theorem fr_dirties {w : Int} {v : Vw} (fk : Nat) (fi : Int) (hk : fk ≠ 10 ∧ fk ≠ 15 ∧ fk ≠ 18) : (f_dirties w v) fk fi = v fk fi := by
  rw [f_dirties]
  exact ((upv_nk (by omega)).trans ((upv_nk (by omega)).trans ((upv_nk (by omega)).trans rfl)))
def l_clean_2 (t : Int) (v : Vw) : Nat → Int → Int
  | 0, _ => 0
  | n + 1, w =>
    if (v 2 0) ≤ w then
      (-1)
    else
      if (v 20 w) = t then
        if (v 15 w) = 0 then
          w
        else
          (l_clean_2 t v n (w + 1))
      else
        (l_clean_2 t v n (w + 1))
theorem s_l_clean_2 {X : Cx} {σ : Hp} {m0 : Nat} {T E : Int} {t : Int} (hG : GM σ m0) {v : Vw} (hI : IM v T E) : ∀ (n : Nat) (w : Int) (hw : 0 ≤ w ∧ w ≤ 100) (ht : 0 ≤ t ∧ t ≤ 1) (hm : (v 2 0 - w).toNat < n), Ev X m_X11_clean 1 2 [some (va_rf (some m0)), some (.int (i32 t)), some (.int (i32 w))] [] (Hm σ m0 v) (.inl (some (.int (i32 (l_clean_2 t v n w))))) (Hm σ m0 v) := by
  intro n
  induction n with
  | zero =>
    intro w hw ht hm
    exact absurd hm (Nat.not_lt_zero _)
  | succ n ih =>
    intro w hw ht hm
    have hT := hI.1
    have u2 : 0 ≤ v 2 0 ∧ v 2 0 ≤ 8 := hI.2 2 0
    refine Ev.iload_n (i := 2) dX11_clean_2 rfl rfl ?_
    refine Ev.aload_n (i := 0) dX11_clean_3 rfl rfl ?_
    refine Ex.gS (k := 2) (v 2 0) rfl hG (by decide) (tb6 (i := 212) rfl) rfl rfl dX11_clean_4 ?_
    refine Ei.icmp_ge (tgt := 37) dX11_clean_7 (by decide) ⟨by omega, by omega⟩ ⟨by omega, by omega⟩ (fun c1 => ?_) (fun c1 => ?_)
    · refine Ei.const dX11_clean_37 ?_
      exact Ev.iretE rfl nar_i dX11_clean_38 (by rw [l_clean_2, if_pos c1]; try rfl) (by first | rfl | (rw [l_clean_2, if_pos c1]; try rfl))
    · refine Ev.aload_n (i := 0) dX11_clean_10 rfl rfl ?_
      refine Em.gA (k := 20) hG (by decide) (by decide) (tb6 (i := 230) rfl) rfl rfl dX11_clean_11 ?_
      refine Ev.iload_n (i := 2) dX11_clean_14 rfl rfl ?_
      have q2 : 0 ≤ v 20 w ∧ v 20 w ≤ 1 := hI.2 20 w
      refine Ex.zald (k := 20) (v 20 w) rfl hG (by decide) (by decide) rfl (by omega) (by show _ < ((8 : Nat) : Int); omega) (by decide) dX11_clean_15 ?_
      refine Ev.iload_n (i := 1) dX11_clean_16 rfl rfl ?_
      refine Ex.icmp_ne (tgt := 31) dX11_clean_17 (by decide) ⟨by omega, by omega⟩ ⟨by omega, by omega⟩ (fun c3 => ?_) (fun c3 => ?_)
      · refine Ev.aload_n (i := 0) dX11_clean_20 rfl rfl ?_
        refine Em.gA (k := 15) hG (by decide) (by decide) (tb6 (i := 225) rfl) rfl rfl dX11_clean_21 ?_
        refine Ev.iload_n (i := 2) dX11_clean_24 rfl rfl ?_
        have q4 : 0 ≤ v 15 w ∧ v 15 w ≤ 3 := hI.2 15 w
        refine Ex.iald (k := 15) (v 15 w) rfl hG (by decide) (by decide) rfl (by omega) (by show _ < ((8 : Nat) : Int); omega) (by decide) dX11_clean_25 ?_
        refine Ex.if_ne (tgt := 31) dX11_clean_26 (by decide) ⟨by omega, by omega⟩ (fun c5 => ?_) (fun c5 => ?_)
        · refine Ev.iload_n (i := 2) dX11_clean_29 rfl rfl ?_
          exact Ev.iretE rfl nar_i dX11_clean_30 (by rw [l_clean_2, if_neg c1, if_pos c3, if_pos c5]; try rfl) (by first | rfl | (rw [l_clean_2, if_neg c1, if_pos c3, if_pos c5]; try rfl))
        · refine Ei.inc dX11_clean_31 rfl (by decide) ?_
          refine Ev.goto (tgt := 2) dX11_clean_34 (by decide) ?_
          rw [l_clean_2, if_neg c1, if_pos c3, if_neg c5]
          exact Ev.fgt (ls' := [some (va_rf (some m0)), some (.int (i32 t)), some (.int (i32 (w + 1)))]) ⟨rfl, ⟨rfl, ⟨rfl, trivial⟩⟩⟩ (ih (w + 1)  (by show 0 ≤ (w + 1) ∧ (w + 1) ≤ 100; omega) (by show 0 ≤ t ∧ t ≤ 1; omega) (by show ((v 2 0) - (w + 1)).toNat < n; omega))
      · refine Ei.inc dX11_clean_31 rfl (by decide) ?_
        refine Ev.goto (tgt := 2) dX11_clean_34 (by decide) ?_
        rw [l_clean_2, if_neg c1, if_neg c3]
        exact Ev.fgt (ls' := [some (va_rf (some m0)), some (.int (i32 t)), some (.int (i32 (w + 1)))]) ⟨rfl, ⟨rfl, ⟨rfl, trivial⟩⟩⟩ (ih (w + 1)  (by show 0 ≤ (w + 1) ∧ (w + 1) ≤ 100; omega) (by show 0 ≤ t ∧ t ≤ 1; omega) (by show ((v 2 0) - (w + 1)).toNat < n; omega))
def f_clean (t : Int) (v : Vw) : Int :=
  (l_clean_2 t v (((v 2 0) - 0).toNat + 1) 0)
theorem s_X11_clean {X : Cx} {σ : Hp} {m0 : Nat} {v : Vw} {T E : Int} {t : Int} (hG : GM σ m0) (hI : IM v T E) (ht : 0 ≤ t ∧ t ≤ 1) : Ct X m_X11_clean 1 [va_rf (some m0), .int (i32 t)] (Hm σ m0 v) (.inl (some (.int (i32 (f_clean t v))))) (Hm σ m0 v) := by
  have hT := hI.1
  refine Ct.of (by decide +kernel) rfl (Nat.le_of_ble_eq_true rfl) (by simp [Value.category, va_rf]) ?_
  refine Ei.const dX11_clean_0 ?_
  refine Ev.istore_n (i := 2) dX11_clean_1 rfl (by decide) ?_
  refine Ev.fgt (ls' := [some (va_rf (some m0)), some (.int (i32 t)), some (.int (i32 0))]) ⟨rfl, ⟨rfl, ⟨rfl, trivial⟩⟩⟩ ?_
  rw [f_clean]
  exact s_l_clean_2 hG hI  (((v 2 0) - 0).toNat + 1) 0 (by show 0 ≤ 0 ∧ 0 ≤ 100; omega) (by show 0 ≤ t ∧ t ≤ 1; omega) (by show ((v 2 0) - 0).toNat < (((v 2 0) - 0).toNat + 1); omega)
theorem r_l_clean_2 {t : Int} {v : Vw} : ∀ (n : Nat) (w : Int), 0 ≤ w → (v 2 0 - w).toNat < n → -1 ≤ l_clean_2 t v n w ∧ (l_clean_2 t v n w < v 2 0 ∨ l_clean_2 t v n w = -1) := by
  intro n
  induction n with
  | zero => exact fun p _ h => absurd h (Nat.not_lt_zero _)
  | succ n ih =>
    intro p hp hm
    rw [l_clean_2]
    repeat' split
    all_goals first | omega | exact ih (p + 1) (by omega) (by omega)
theorem r_clean {v : Vw} {T E : Int} (hI : IM v T E) (t : Int) : -1 ≤ f_clean t v ∧ f_clean t v ≤ 7 := by
  have h := r_l_clean_2 (t := t) (v := v) ((v 2 0 - 0).toNat + 1) 0 (by omega) (by omega)
  have q : 0 ≤ v 2 0 ∧ v 2 0 ≤ 8 := hI.2 2 0
  unfold f_clean
  omega
def f_movesOn (b : Int) (v : Vw) : Vw :=
  if (v 28 b) = 1 then
    if (f_clean 1 v) = (-1) then
      v
    else
      if ((v 14 (v 26 b))) = 0 then
        (upv (upv (upv (upv (upv (upv (f_dirties (v 29 b) v) 29 b (f_clean 1 v)) 15 (f_clean 1 v) 1) 16 (f_clean 1 v) b) 30 b (v 14 (v 26 b))) 28 b 3) 31 b 20)
      else
        (upv (upv (upv (upv (upv (upv (f_dirties (v 29 b) v) 29 b (f_clean 1 v)) 15 (f_clean 1 v) 1) 16 (f_clean 1 v) b) 30 b (v 14 (v 26 b))) 28 b 2) 31 b 20)
  else
    v
theorem s_X11_movesOn {X : Cx} {σ : Hp} {m0 : Nat} {v : Vw} {T E : Int} {b : Int} (hG : GM σ m0) (hI : IM v T E) (hb : 0 ≤ b ∧ b ≤ 29) (hE : E + 1 ≤ 1000000000) : Ct X m_X11_movesOn 2 [va_rf (some m0), .int (i32 b)] (Hm σ m0 v) (.inl none) (Hm σ m0 (f_movesOn b v)) := by
  have hT := hI.1
  refine Ct.of (by decide +kernel) rfl (Nat.le_of_ble_eq_true rfl) (by simp [Value.category, va_rf]) ?_
  refine Ev.aload_n (i := 0) dX11_movesOn_0 rfl rfl ?_
  refine Ei.const dX11_movesOn_1 ?_
  refine Em.cv1 (As := [_]) hG k_X11_clean (tb8 (i := 47) rfl) ki_X11_clean kv_X11_clean dX11_movesOn_2 rfl rfl (Nat.le_of_ble_eq_true rfl) (by decide) (s_X11_clean (t := 1) hG hI (by show 0 ≤ 1 ∧ 1 ≤ 1; omega)) ?_
  have q1 := r_clean hI 1
  refine Ev.istore_n (i := 2) dX11_movesOn_5 rfl (by decide) ?_
  refine Ev.aload_n (i := 0) dX11_movesOn_6 rfl rfl ?_
  refine Em.gA (k := 28) hG (by decide) (by decide) (tb6 (i := 238) rfl) rfl rfl dX11_movesOn_7 ?_
  refine Ev.iload_n (i := 1) dX11_movesOn_10 rfl rfl ?_
  have q2 : 0 ≤ v 28 b ∧ v 28 b ≤ 4 := hI.2 28 b
  refine Ex.iald (k := 28) (v 28 b) rfl hG (by decide) (by decide) rfl (by omega) (by show _ < ((30 : Nat) : Int); omega) (by decide) dX11_movesOn_11 ?_
  refine Ei.const dX11_movesOn_12 ?_
  refine Ex.icmp_ne (tgt := 21) dX11_movesOn_13 (by decide) ⟨by omega, by omega⟩ ⟨by omega, by omega⟩ (fun c3 => ?_) (fun c3 => ?_)
  · refine Ev.iload_n (i := 2) dX11_movesOn_16 rfl rfl ?_
    refine Ei.const dX11_movesOn_17 ?_
    refine Ex.icmp_ne (tgt := 22) dX11_movesOn_18 (by decide) ⟨by omega, by omega⟩ ⟨by omega, by omega⟩ (fun c4 => ?_) (fun c4 => ?_)
    · exact Ev.vretE rfl dX11_movesOn_21 rfl (by first | rfl | (rw [f_movesOn, if_pos c3, if_pos c4]; try rfl))
    · refine Ev.aload_n (i := 0) dX11_movesOn_22 rfl rfl ?_
      refine Ev.aload_n (i := 0) dX11_movesOn_23 rfl rfl ?_
      refine Em.gA (k := 29) hG (by decide) (by decide) (tb6 (i := 239) rfl) rfl rfl dX11_movesOn_24 ?_
      refine Ev.iload_n (i := 1) dX11_movesOn_27 rfl rfl ?_
      have q5 : 0 ≤ v 29 b ∧ v 29 b ≤ 7 := hI.2 29 b
      refine Ex.iald (k := 29) (v 29 b) rfl hG (by decide) (by decide) rfl (by omega) (by show _ < ((30 : Nat) : Int); omega) (by decide) dX11_movesOn_28 ?_
      refine Em.cv0 (As := [_]) hG k_X11_dirties (tb8 (i := 51) rfl) ki_X11_dirties kv_X11_dirties dX11_movesOn_29 rfl rfl (Nat.le_of_ble_eq_true rfl) (by decide) (s_X11_dirties (w := (v 29 b)) hG hI (by show 0 ≤ (v 29 b) ∧ (v 29 b) ≤ 7; omega) (by omega)) ?_
      have hJ6 := (i_dirties (w := (v 29 b)) hI (by show 0 ≤ (v 29 b) ∧ (v 29 b) ≤ 7; omega) (by omega))
      refine Ev.aload_n (i := 0) dX11_movesOn_32 rfl rfl ?_
      refine Em.gA (k := 29) hG (by decide) (by decide) (tb6 (i := 239) rfl) rfl rfl dX11_movesOn_33 ?_
      refine Ev.iload_n (i := 1) dX11_movesOn_36 rfl rfl ?_
      refine Ev.iload_n (i := 2) dX11_movesOn_37 rfl rfl ?_
      refine Em.iast (k := 29) hG (by decide) (by decide) rfl (by omega) (by show _ < ((30 : Nat) : Int); omega) (by decide) dX11_movesOn_38 ?_
      refine Ev.aload_n (i := 0) dX11_movesOn_39 rfl rfl ?_
      refine Em.gA (k := 15) hG (by decide) (by decide) (tb6 (i := 225) rfl) rfl rfl dX11_movesOn_40 ?_
      refine Ev.iload_n (i := 2) dX11_movesOn_43 rfl rfl ?_
      refine Ei.const dX11_movesOn_44 ?_
      refine Em.iast (k := 15) hG (by decide) (by decide) rfl (by omega) (by show _ < ((8 : Nat) : Int); omega) (by decide) dX11_movesOn_45 ?_
      refine Ev.aload_n (i := 0) dX11_movesOn_46 rfl rfl ?_
      refine Em.gA (k := 16) hG (by decide) (by decide) (tb6 (i := 226) rfl) rfl rfl dX11_movesOn_47 ?_
      refine Ev.iload_n (i := 2) dX11_movesOn_50 rfl rfl ?_
      refine Ev.iload_n (i := 1) dX11_movesOn_51 rfl rfl ?_
      refine Em.iast (k := 16) hG (by decide) (by decide) rfl (by omega) (by show _ < ((8 : Nat) : Int); omega) (by decide) dX11_movesOn_52 ?_
      refine Ev.aload_n (i := 0) dX11_movesOn_53 rfl rfl ?_
      refine Em.gA (k := 30) hG (by decide) (by decide) (tb7 (i := 0) rfl) rfl rfl dX11_movesOn_54 ?_
      refine Ev.iload_n (i := 1) dX11_movesOn_57 rfl rfl ?_
      refine Ev.aload_n (i := 0) dX11_movesOn_58 rfl rfl ?_
      refine Em.gA (k := 14) hG (by decide) (by decide) (tb6 (i := 224) rfl) rfl rfl dX11_movesOn_59 ?_
      refine Ev.aload_n (i := 0) dX11_movesOn_62 rfl rfl ?_
      refine Em.gA (k := 26) hG (by decide) (by decide) (tb6 (i := 236) rfl) rfl rfl dX11_movesOn_63 ?_
      refine Ev.iload_n (i := 1) dX11_movesOn_66 rfl rfl ?_
      have q7 : 0 ≤ v 26 b ∧ v 26 b ≤ 4 := hI.2 26 b
      have q8 : (f_dirties (v 29 b) v) 26 b = v 26 b := (fr_dirties (w := (v 29 b)) (v := v) 26 b (by decide)).trans rfl
      refine Ex.iald (k := 26) (v 26 b) q8 hG (by decide) (by decide) rfl (by omega) (by show _ < ((30 : Nat) : Int); omega) (by decide) dX11_movesOn_67 ?_
      have q9 : 0 ≤ v 14 (v 26 b) ∧ v 14 (v 26 b) ≤ 14 := hI.2 14 (v 26 b)
      have q10 : (f_dirties (v 29 b) v) 14 (v 26 b) = v 14 (v 26 b) := (fr_dirties (w := (v 29 b)) (v := v) 14 (v 26 b) (by decide)).trans rfl
      refine Ex.iald (k := 14) (v 14 (v 26 b)) q10 hG (by decide) (by decide) rfl (by omega) (by show _ < ((5 : Nat) : Int); omega) (by decide) dX11_movesOn_68 ?_
      refine Em.iast (k := 30) hG (by decide) (by decide) rfl (by omega) (by show _ < ((30 : Nat) : Int); omega) (by decide) dX11_movesOn_69 ?_
      refine Ev.aload_n (i := 0) dX11_movesOn_70 rfl rfl ?_
      refine Em.gA (k := 28) hG (by decide) (by decide) (tb6 (i := 238) rfl) rfl rfl dX11_movesOn_71 ?_
      refine Ev.iload_n (i := 1) dX11_movesOn_74 rfl rfl ?_
      refine Ev.aload_n (i := 0) dX11_movesOn_75 rfl rfl ?_
      refine Em.gA (k := 30) hG (by decide) (by decide) (tb7 (i := 0) rfl) rfl rfl dX11_movesOn_76 ?_
      refine Ev.iload_n (i := 1) dX11_movesOn_79 rfl rfl ?_
      refine Ex.iald (k := 30) ((v 14 (v 26 b))) (by simp [upv]) hG (by decide) (by decide) rfl (by omega) (by show _ < ((30 : Nat) : Int); omega) (by decide) dX11_movesOn_80 ?_
      refine Ex.if_ne (tgt := 88) dX11_movesOn_81 (by decide) ⟨by omega, by omega⟩ (fun c11 => ?_) (fun c11 => ?_)
      · refine Ei.const dX11_movesOn_84 ?_
        refine Ev.goto (tgt := 89) dX11_movesOn_85 (by decide) ?_
        refine Em.iast (k := 28) hG (by decide) (by decide) rfl (by omega) (by show _ < ((30 : Nat) : Int); omega) (by decide) dX11_movesOn_89 ?_
        refine Ev.aload_n (i := 0) dX11_movesOn_90 rfl rfl ?_
        refine Em.gA (k := 31) hG (by decide) (by decide) (tb7 (i := 1) rfl) rfl rfl dX11_movesOn_91 ?_
        refine Ev.iload_n (i := 1) dX11_movesOn_94 rfl rfl ?_
        refine Ev.bipush (v := i32 20) dX11_movesOn_95 (by decide) ?_
        refine Em.iast (k := 31) hG (by decide) (by decide) rfl (by omega) (by show _ < ((30 : Nat) : Int); omega) (by decide) dX11_movesOn_97 ?_
        exact Ev.vretE rfl dX11_movesOn_98 rfl (by first | rfl | (rw [f_movesOn, if_pos c3, if_neg c4, if_pos c11]; try rfl))
      · refine Ei.const dX11_movesOn_88 ?_
        refine Em.iast (k := 28) hG (by decide) (by decide) rfl (by omega) (by show _ < ((30 : Nat) : Int); omega) (by decide) dX11_movesOn_89 ?_
        refine Ev.aload_n (i := 0) dX11_movesOn_90 rfl rfl ?_
        refine Em.gA (k := 31) hG (by decide) (by decide) (tb7 (i := 1) rfl) rfl rfl dX11_movesOn_91 ?_
        refine Ev.iload_n (i := 1) dX11_movesOn_94 rfl rfl ?_
        refine Ev.bipush (v := i32 20) dX11_movesOn_95 (by decide) ?_
        refine Em.iast (k := 31) hG (by decide) (by decide) rfl (by omega) (by show _ < ((30 : Nat) : Int); omega) (by decide) dX11_movesOn_97 ?_
        exact Ev.vretE rfl dX11_movesOn_98 rfl (by first | rfl | (rw [f_movesOn, if_pos c3, if_neg c4, if_neg c11]; try rfl))
  · exact Ev.vretE rfl dX11_movesOn_21 rfl (by first | rfl | (rw [f_movesOn, if_neg c3]; try rfl))
theorem i_movesOn {v : Vw} {T E : Int} {b : Int} (hI : IM v T E) (hb : 0 ≤ b ∧ b ≤ 29) (hE : E + 1 ≤ 1000000000) : IM (f_movesOn b v) T (E + 1) := by
  have hT := hI.1
  have q1 := r_clean hI 1
  have q2 : 0 ≤ v 28 b ∧ v 28 b ≤ 4 := hI.2 28 b
  by_cases c3 : (v 28 b) = 1
  · by_cases c4 : (f_clean 1 v) = (-1)
    · rw [f_movesOn, if_pos c3, if_pos c4]
      exact (hI).mono (by omega) (by omega) (by omega) (by omega)
    · have q5 : 0 ≤ v 29 b ∧ v 29 b ≤ 7 := hI.2 29 b
      have hJ6 := (i_dirties (w := (v 29 b)) hI (by show 0 ≤ (v 29 b) ∧ (v 29 b) ≤ 7; omega) (by omega))
      have q7 : 0 ≤ v 26 b ∧ v 26 b ≤ 4 := hI.2 26 b
      have q8 : (f_dirties (v 29 b) v) 26 b = v 26 b := (fr_dirties (w := (v 29 b)) (v := v) 26 b (by decide)).trans rfl
      have q9 : 0 ≤ v 14 (v 26 b) ∧ v 14 (v 26 b) ≤ 14 := hI.2 14 (v 26 b)
      have q10 : (f_dirties (v 29 b) v) 14 (v 26 b) = v 14 (v 26 b) := (fr_dirties (w := (v 29 b)) (v := v) 14 (v 26 b) (by decide)).trans rfl
      by_cases c11 : ((v 14 (v 26 b))) = 0
      · rw [f_movesOn, if_pos c3, if_neg c4, if_pos c11]
        exact (((((((hJ6.up 29 b (f_clean 1 v) (by show 0 ≤ (f_clean 1 v) ∧ (f_clean 1 v) ≤ 7; omega)).up 15 (f_clean 1 v) 1 (by show 0 ≤ 1 ∧ 1 ≤ 3; omega)).up 16 (f_clean 1 v) b (by show 0 ≤ b ∧ b ≤ 29; omega)).up 30 b (v 14 (v 26 b)) (by show 0 ≤ (v 14 (v 26 b)) ∧ (v 14 (v 26 b)) ≤ 15; omega)).up 28 b 3 (by show 0 ≤ 3 ∧ 3 ≤ 4; omega)).up 31 b 20 (by show 0 ≤ 20 ∧ 20 ≤ 20; omega))).mono (by omega) (by omega) (by omega) (by omega)
      · rw [f_movesOn, if_pos c3, if_neg c4, if_neg c11]
        exact (((((((hJ6.up 29 b (f_clean 1 v) (by show 0 ≤ (f_clean 1 v) ∧ (f_clean 1 v) ≤ 7; omega)).up 15 (f_clean 1 v) 1 (by show 0 ≤ 1 ∧ 1 ≤ 3; omega)).up 16 (f_clean 1 v) b (by show 0 ≤ b ∧ b ≤ 29; omega)).up 30 b (v 14 (v 26 b)) (by show 0 ≤ (v 14 (v 26 b)) ∧ (v 14 (v 26 b)) ≤ 15; omega)).up 28 b 2 (by show 0 ≤ 2 ∧ 2 ≤ 4; omega)).up 31 b 20 (by show 0 ≤ 20 ∧ 20 ≤ 20; omega))).mono (by omega) (by omega) (by omega) (by omega)
  · rw [f_movesOn, if_neg c3]
    exact (hI).mono (by omega) (by omega) (by omega) (by omega)
theorem fr_movesOn {b : Int} {v : Vw} (fk : Nat) (fi : Int) (hk : fk ≠ 10 ∧ fk ≠ 15 ∧ fk ≠ 16 ∧ fk ≠ 18 ∧ fk ≠ 28 ∧ fk ≠ 29 ∧ fk ≠ 30 ∧ fk ≠ 31) : (f_movesOn b v) fk fi = v fk fi := by
  by_cases c3 : (v 28 b) = 1
  · by_cases c4 : (f_clean 1 v) = (-1)
    · rw [f_movesOn, if_pos c3, if_pos c4]
      try rfl
    · by_cases c11 : ((v 14 (v 26 b))) = 0
      · rw [f_movesOn, if_pos c3, if_neg c4, if_pos c11]
        exact ((upv_nk (by omega)).trans ((upv_nk (by omega)).trans ((upv_nk (by omega)).trans ((upv_nk (by omega)).trans ((upv_nk (by omega)).trans ((upv_nk (by omega)).trans ((fr_dirties (w := (v 29 b)) (v := v) fk fi (by omega)).trans rfl)))))))
      · rw [f_movesOn, if_pos c3, if_neg c4, if_neg c11]
        exact ((upv_nk (by omega)).trans ((upv_nk (by omega)).trans ((upv_nk (by omega)).trans ((upv_nk (by omega)).trans ((upv_nk (by omega)).trans ((upv_nk (by omega)).trans ((fr_dirties (w := (v 29 b)) (v := v) fk fi (by omega)).trans rfl)))))))
  · rw [f_movesOn, if_neg c3]
    try rfl
def l_cleans_4 (v : Vw) : Nat → Int → Int → Int
  | 0, busy, w => busy
  | n + 1, busy, w =>
    if (v 2 0) ≤ w then
      busy
    else
      if (v 15 w) = 3 then
        (l_cleans_4 v n (busy + 1) (w + 1))
      else
        (l_cleans_4 v n (busy + 0) (w + 1))
theorem s_l_cleans_4 {X : Cx} {σ : Hp} {m0 : Nat} {T E : Int} {oc : Rs} {τ : Hp} (hG : GM σ m0) {v : Vw} (hI : IM v T E) : ∀ (n : Nat) (busy w : Int) (hw : 0 ≤ w ∧ w ≤ 100) (hm : (v 2 0 - w).toNat < n), Ev X m_X11_cleans 1 36 [some (va_rf (some m0)), some (.int (i32 (l_cleans_4 v n busy w))), none, none] [] (Hm σ m0 v) oc τ → Ev X m_X11_cleans 1 4 [some (va_rf (some m0)), some (.int (i32 busy)), some (.int (i32 w)), none] [] (Hm σ m0 v) oc τ := by
  intro n
  induction n with
  | zero =>
    intro busy w hw hm K
    exact absurd hm (Nat.not_lt_zero _)
  | succ n ih =>
    intro busy w hw hm K
    have hT := hI.1
    have u2 : 0 ≤ v 2 0 ∧ v 2 0 ≤ 8 := hI.2 2 0
    refine Ev.iload_n (i := 2) dX11_cleans_4 rfl rfl ?_
    refine Ev.aload_n (i := 0) dX11_cleans_5 rfl rfl ?_
    refine Ex.gS (k := 2) (v 2 0) rfl hG (by decide) (tb6 (i := 212) rfl) rfl rfl dX11_cleans_6 ?_
    refine Ei.icmp_ge (tgt := 36) dX11_cleans_9 (by decide) ⟨by omega, by omega⟩ ⟨by omega, by omega⟩ (fun c1 => ?_) (fun c1 => ?_)
    · rw [l_cleans_4, if_pos c1] at K
      exact Ev.fgt (ls' := [some (va_rf (some m0)), some (.int (i32 busy)), none, none]) ⟨rfl, ⟨rfl, trivial⟩⟩ K
    · refine Ev.iload_n (i := 1) dX11_cleans_12 rfl rfl ?_
      refine Ev.aload_n (i := 0) dX11_cleans_13 rfl rfl ?_
      refine Em.gA (k := 15) hG (by decide) (by decide) (tb6 (i := 225) rfl) rfl rfl dX11_cleans_14 ?_
      refine Ev.iload_n (i := 2) dX11_cleans_17 rfl rfl ?_
      have q2 : 0 ≤ v 15 w ∧ v 15 w ≤ 3 := hI.2 15 w
      refine Ex.iald (k := 15) (v 15 w) rfl hG (by decide) (by decide) rfl (by omega) (by show _ < ((8 : Nat) : Int); omega) (by decide) dX11_cleans_18 ?_
      refine Ei.const dX11_cleans_19 ?_
      refine Ex.icmp_ne (tgt := 27) dX11_cleans_20 (by decide) ⟨by omega, by omega⟩ ⟨by omega, by omega⟩ (fun c3 => ?_) (fun c3 => ?_)
      · refine Ei.const dX11_cleans_23 ?_
        refine Ev.goto (tgt := 28) dX11_cleans_24 (by decide) ?_
        refine Ei.add dX11_cleans_28 ?_
        refine Ev.istore_n (i := 1) dX11_cleans_29 rfl (by decide) ?_
        refine Ei.inc dX11_cleans_30 rfl (by decide) ?_
        refine Ev.goto (tgt := 4) dX11_cleans_33 (by decide) ?_
        rw [l_cleans_4, if_neg c1, if_pos c3] at K
        exact Ev.fgt (ls' := [some (va_rf (some m0)), some (.int (i32 (busy + 1))), some (.int (i32 (w + 1))), none]) ⟨rfl, ⟨rfl, ⟨rfl, trivial⟩⟩⟩ (ih (busy + 1) (w + 1)  (by show 0 ≤ (w + 1) ∧ (w + 1) ≤ 100; omega) (by show ((v 2 0) - (w + 1)).toNat < n; omega) K)
      · refine Ei.const dX11_cleans_27 ?_
        refine Ei.add dX11_cleans_28 ?_
        refine Ev.istore_n (i := 1) dX11_cleans_29 rfl (by decide) ?_
        refine Ei.inc dX11_cleans_30 rfl (by decide) ?_
        refine Ev.goto (tgt := 4) dX11_cleans_33 (by decide) ?_
        rw [l_cleans_4, if_neg c1, if_neg c3] at K
        exact Ev.fgt (ls' := [some (va_rf (some m0)), some (.int (i32 (busy + 0))), some (.int (i32 (w + 1))), none]) ⟨rfl, ⟨rfl, ⟨rfl, trivial⟩⟩⟩ (ih (busy + 0) (w + 1)  (by show 0 ≤ (w + 1) ∧ (w + 1) ≤ 100; omega) (by show ((v 2 0) - (w + 1)).toNat < n; omega) K)
theorem r_l_cleans_4 {v : Vw} : ∀ (n : Nat) (s w : Int), 0 ≤ s → 0 ≤ l_cleans_4 v n s w ∧ l_cleans_4 v n s w ≤ s + (n : Int) := by
  intro n
  induction n with
  | zero => exact fun s _ h => ⟨h, by show s ≤ _; omega⟩
  | succ n ih =>
    intro s k hs
    rw [l_cleans_4]
    repeat' split
    all_goals first | omega | (have g := ih (s + 1) (k + 1) (by omega); omega) | (have g := ih (s + 0) (k + 1) (by omega); omega)
def l_cleans_48 (v : Vw) : Nat → Int → Int → Int
  | 0, first, w => first
  | n + 1, first, w =>
    if (v 2 0) ≤ w then
      first
    else
      if (v 15 w) = 2 then
        if first = (-1) then
          (l_cleans_48 v n w (w + 1))
        else
          if (v 18 first) ≤ (v 18 w) then
            (l_cleans_48 v n first (w + 1))
          else
            (l_cleans_48 v n w (w + 1))
      else
        (l_cleans_48 v n first (w + 1))
theorem s_l_cleans_48 {X : Cx} {σ : Hp} {m0 : Nat} {T E : Int} {busy : Int} {oc : Rs} {τ : Hp} (hG : GM σ m0) {v : Vw} (hI : IM v T E) : ∀ (n : Nat) (first w : Int) (hw : 0 ≤ w ∧ w ≤ 100) (hf : -1 ≤ first ∧ first ≤ 7) (hm : (v 2 0 - w).toNat < n), Ev X m_X11_cleans 1 94 [some (va_rf (some m0)), some (.int (i32 busy)), some (.int (i32 (l_cleans_48 v n first w))), none] [] (Hm σ m0 v) oc τ → Ev X m_X11_cleans 1 48 [some (va_rf (some m0)), some (.int (i32 busy)), some (.int (i32 first)), some (.int (i32 w))] [] (Hm σ m0 v) oc τ := by
  intro n
  induction n with
  | zero =>
    intro first w hw hf hm K
    exact absurd hm (Nat.not_lt_zero _)
  | succ n ih =>
    intro first w hw hf hm K
    have hT := hI.1
    have u2 : 0 ≤ v 2 0 ∧ v 2 0 ≤ 8 := hI.2 2 0
    refine Ev.iload_n (i := 3) dX11_cleans_48 rfl rfl ?_
    refine Ev.aload_n (i := 0) dX11_cleans_49 rfl rfl ?_
    refine Ex.gS (k := 2) (v 2 0) rfl hG (by decide) (tb6 (i := 212) rfl) rfl rfl dX11_cleans_50 ?_
    refine Ei.icmp_ge (tgt := 94) dX11_cleans_53 (by decide) ⟨by omega, by omega⟩ ⟨by omega, by omega⟩ (fun c4 => ?_) (fun c4 => ?_)
    · rw [l_cleans_48, if_pos c4] at K
      exact Ev.fgt (ls' := [some (va_rf (some m0)), some (.int (i32 busy)), some (.int (i32 first)), none]) ⟨rfl, ⟨rfl, ⟨rfl, trivial⟩⟩⟩ K
    · refine Ev.aload_n (i := 0) dX11_cleans_56 rfl rfl ?_
      refine Em.gA (k := 15) hG (by decide) (by decide) (tb6 (i := 225) rfl) rfl rfl dX11_cleans_57 ?_
      refine Ev.iload_n (i := 3) dX11_cleans_60 rfl rfl ?_
      have q5 : 0 ≤ v 15 w ∧ v 15 w ≤ 3 := hI.2 15 w
      refine Ex.iald (k := 15) (v 15 w) rfl hG (by decide) (by decide) rfl (by omega) (by show _ < ((8 : Nat) : Int); omega) (by decide) dX11_cleans_61 ?_
      refine Ei.const dX11_cleans_62 ?_
      refine Ex.icmp_ne (tgt := 88) dX11_cleans_63 (by decide) ⟨by omega, by omega⟩ ⟨by omega, by omega⟩ (fun c6 => ?_) (fun c6 => ?_)
      · refine Ev.iload_n (i := 2) dX11_cleans_66 rfl rfl ?_
        refine Ei.const dX11_cleans_67 ?_
        refine Ei.icmp_eq (tgt := 86) dX11_cleans_68 (by decide) ⟨by omega, by omega⟩ ⟨by omega, by omega⟩ (fun c7 => ?_) (fun c7 => ?_)
        · refine Ev.iload_n (i := 3) dX11_cleans_86 rfl rfl ?_
          refine Ev.istore_n (i := 2) dX11_cleans_87 rfl (by decide) ?_
          refine Ei.inc dX11_cleans_88 rfl (by decide) ?_
          refine Ev.goto (tgt := 48) dX11_cleans_91 (by decide) ?_
          rw [l_cleans_48, if_neg c4, if_pos c6, if_pos c7] at K
          exact Ev.fgt (ls' := [some (va_rf (some m0)), some (.int (i32 busy)), some (.int (i32 w)), some (.int (i32 (w + 1)))]) ⟨rfl, ⟨rfl, ⟨rfl, ⟨rfl, trivial⟩⟩⟩⟩ (ih w (w + 1)  (by show 0 ≤ (w + 1) ∧ (w + 1) ≤ 100; omega) (by show -1 ≤ w ∧ w ≤ 7; omega) (by show ((v 2 0) - (w + 1)).toNat < n; omega) K)
        · refine Ev.aload_n (i := 0) dX11_cleans_71 rfl rfl ?_
          refine Em.gA (k := 18) hG (by decide) (by decide) (tb6 (i := 228) rfl) rfl rfl dX11_cleans_72 ?_
          refine Ev.iload_n (i := 3) dX11_cleans_75 rfl rfl ?_
          have q8 : 0 ≤ v 18 w ∧ v 18 w ≤ E := hI.2 18 w
          refine Ex.iald (k := 18) (v 18 w) rfl hG (by decide) (by decide) rfl (by omega) (by show _ < ((8 : Nat) : Int); omega) (by decide) dX11_cleans_76 ?_
          refine Ev.aload_n (i := 0) dX11_cleans_77 rfl rfl ?_
          refine Em.gA (k := 18) hG (by decide) (by decide) (tb6 (i := 228) rfl) rfl rfl dX11_cleans_78 ?_
          refine Ev.iload_n (i := 2) dX11_cleans_81 rfl rfl ?_
          have q9 : 0 ≤ v 18 first ∧ v 18 first ≤ E := hI.2 18 first
          refine Ex.iald (k := 18) (v 18 first) rfl hG (by decide) (by decide) rfl (by omega) (by show _ < ((8 : Nat) : Int); omega) (by decide) dX11_cleans_82 ?_
          refine Ei.icmp_ge (tgt := 88) dX11_cleans_83 (by decide) ⟨by omega, by omega⟩ ⟨by omega, by omega⟩ (fun c10 => ?_) (fun c10 => ?_)
          · refine Ei.inc dX11_cleans_88 rfl (by decide) ?_
            refine Ev.goto (tgt := 48) dX11_cleans_91 (by decide) ?_
            rw [l_cleans_48, if_neg c4, if_pos c6, if_neg c7, if_pos c10] at K
            exact Ev.fgt (ls' := [some (va_rf (some m0)), some (.int (i32 busy)), some (.int (i32 first)), some (.int (i32 (w + 1)))]) ⟨rfl, ⟨rfl, ⟨rfl, ⟨rfl, trivial⟩⟩⟩⟩ (ih first (w + 1)  (by show 0 ≤ (w + 1) ∧ (w + 1) ≤ 100; omega) (by show -1 ≤ first ∧ first ≤ 7; omega) (by show ((v 2 0) - (w + 1)).toNat < n; omega) K)
          · refine Ev.iload_n (i := 3) dX11_cleans_86 rfl rfl ?_
            refine Ev.istore_n (i := 2) dX11_cleans_87 rfl (by decide) ?_
            refine Ei.inc dX11_cleans_88 rfl (by decide) ?_
            refine Ev.goto (tgt := 48) dX11_cleans_91 (by decide) ?_
            rw [l_cleans_48, if_neg c4, if_pos c6, if_neg c7, if_neg c10] at K
            exact Ev.fgt (ls' := [some (va_rf (some m0)), some (.int (i32 busy)), some (.int (i32 w)), some (.int (i32 (w + 1)))]) ⟨rfl, ⟨rfl, ⟨rfl, ⟨rfl, trivial⟩⟩⟩⟩ (ih w (w + 1)  (by show 0 ≤ (w + 1) ∧ (w + 1) ≤ 100; omega) (by show -1 ≤ w ∧ w ≤ 7; omega) (by show ((v 2 0) - (w + 1)).toNat < n; omega) K)
      · refine Ei.inc dX11_cleans_88 rfl (by decide) ?_
        refine Ev.goto (tgt := 48) dX11_cleans_91 (by decide) ?_
        rw [l_cleans_48, if_neg c4, if_neg c6] at K
        exact Ev.fgt (ls' := [some (va_rf (some m0)), some (.int (i32 busy)), some (.int (i32 first)), some (.int (i32 (w + 1)))]) ⟨rfl, ⟨rfl, ⟨rfl, ⟨rfl, trivial⟩⟩⟩⟩ (ih first (w + 1)  (by show 0 ≤ (w + 1) ∧ (w + 1) ≤ 100; omega) (by show -1 ≤ first ∧ first ≤ 7; omega) (by show ((v 2 0) - (w + 1)).toNat < n; omega) K)
theorem r_l_cleans_48 {v : Vw} : ∀ (n : Nat) (first w : Int), -1 ≤ first → 0 ≤ w → (v 2 0 - w).toNat < n → -1 ≤ l_cleans_48 v n first w ∧ (l_cleans_48 v n first w < v 2 0 ∨ l_cleans_48 v n first w = first) := by
  intro n
  induction n with
  | zero => exact fun _ _ _ _ h => absurd h (Nat.not_lt_zero _)
  | succ n ih =>
    intro first w hf hw hm
    rw [l_cleans_48]
    repeat' split
    all_goals first | omega | (have g := ih first (w + 1) hf (by omega) (by omega); omega) | (have g := ih w (w + 1) (by omega) (by omega) (by omega); omega)
def l_cleans_36 : Nat → Int → Vw → Vw
  | 0, busy, v => v
  | n + 1, busy, v =>
    if (v 3 0) ≤ busy then
      v
    else
      if (l_cleans_48 v (((v 2 0) - 0).toNat + 1) (-1) 0) = (-1) then
        v
      else
        if (v 20 (l_cleans_48 v (((v 2 0) - 0).toNat + 1) (-1) 0)) = 0 then
          (l_cleans_36 n (busy + 1) (upv (upv v 15 (l_cleans_48 v (((v 2 0) - 0).toNat + 1) (-1) 0) 3) 17 (l_cleans_48 v (((v 2 0) - 0).toNat + 1) (-1) 0) 2))
        else
          (l_cleans_36 n (busy + 1) (upv (upv v 15 (l_cleans_48 v (((v 2 0) - 0).toNat + 1) (-1) 0) 3) 17 (l_cleans_48 v (((v 2 0) - 0).toNat + 1) (-1) 0) 1))
theorem s_l_cleans_36 {X : Cx} {σ : Hp} {m0 : Nat} {T E : Int} (hG : GM σ m0) : ∀ (n : Nat) (busy : Int) (v : Vw) (hI : IM v T E) (hb : 0 ≤ busy ∧ busy ≤ 100) (hm : (v 3 0 - busy).toNat < n), Ev X m_X11_cleans 1 36 [some (va_rf (some m0)), some (.int (i32 busy)), none, none] [] (Hm σ m0 v) (.inl none) (Hm σ m0 (l_cleans_36 n busy v)) := by
  intro n
  induction n with
  | zero =>
    intro busy v hI hb hm
    exact absurd hm (Nat.not_lt_zero _)
  | succ n ih =>
    intro busy v hI hb hm
    have hT := hI.1
    have u3 : 0 ≤ v 3 0 ∧ v 3 0 ≤ 3 := hI.2 3 0
    refine Ev.iload_n (i := 1) dX11_cleans_36 rfl rfl ?_
    refine Ev.aload_n (i := 0) dX11_cleans_37 rfl rfl ?_
    refine Ex.gS (k := 3) (v 3 0) rfl hG (by decide) (tb6 (i := 213) rfl) rfl rfl dX11_cleans_38 ?_
    refine Ei.icmp_ge (tgt := 133) dX11_cleans_41 (by decide) ⟨by omega, by omega⟩ ⟨by omega, by omega⟩ (fun c11 => ?_) (fun c11 => ?_)
    · exact Ev.vretE rfl dX11_cleans_133 rfl (by first | rfl | (rw [l_cleans_36, if_pos c11]; try rfl))
    · refine Ei.const dX11_cleans_44 ?_
      refine Ev.istore_n (i := 2) dX11_cleans_45 rfl (by decide) ?_
      refine Ei.const dX11_cleans_46 ?_
      refine Ev.istore_n (i := 3) dX11_cleans_47 rfl (by decide) ?_
      refine Ev.fgt (ls' := [some (va_rf (some m0)), some (.int (i32 busy)), some (.int (i32 (-1))), some (.int (i32 0))]) ⟨rfl, ⟨rfl, ⟨rfl, ⟨rfl, trivial⟩⟩⟩⟩ ?_
      refine s_l_cleans_48 hG hI  (((v 2 0) - 0).toNat + 1) (-1) 0 (by show 0 ≤ 0 ∧ 0 ≤ 100; omega) (by show -1 ≤ (-1) ∧ (-1) ≤ 7; omega) (by show ((v 2 0) - 0).toNat < (((v 2 0) - 0).toNat + 1); omega) ?_
      have q12 := r_l_cleans_48 (v := v) (((v 2 0) - 0).toNat + 1) (-1) 0 (by omega) (by omega) (by omega)
      have q13 : 0 ≤ v 2 0 ∧ v 2 0 ≤ 8 := hI.2 2 0
      refine Ev.iload_n (i := 2) dX11_cleans_94 rfl rfl ?_
      refine Ei.const dX11_cleans_95 ?_
      refine Ex.icmp_ne (tgt := 100) dX11_cleans_96 (by decide) ⟨by omega, by omega⟩ ⟨by omega, by omega⟩ (fun c14 => ?_) (fun c14 => ?_)
      · exact Ev.vretE rfl dX11_cleans_99 rfl (by first | rfl | (rw [l_cleans_36, if_neg c11, if_pos c14]; try rfl))
      · refine Ev.aload_n (i := 0) dX11_cleans_100 rfl rfl ?_
        refine Em.gA (k := 15) hG (by decide) (by decide) (tb6 (i := 225) rfl) rfl rfl dX11_cleans_101 ?_
        refine Ev.iload_n (i := 2) dX11_cleans_104 rfl rfl ?_
        refine Ei.const dX11_cleans_105 ?_
        refine Em.iast (k := 15) hG (by decide) (by decide) rfl (by omega) (by show _ < ((8 : Nat) : Int); omega) (by decide) dX11_cleans_106 ?_
        refine Ev.aload_n (i := 0) dX11_cleans_107 rfl rfl ?_
        refine Em.gA (k := 17) hG (by decide) (by decide) (tb6 (i := 227) rfl) rfl rfl dX11_cleans_108 ?_
        refine Ev.iload_n (i := 2) dX11_cleans_111 rfl rfl ?_
        refine Ev.aload_n (i := 0) dX11_cleans_112 rfl rfl ?_
        refine Em.gA (k := 20) hG (by decide) (by decide) (tb6 (i := 230) rfl) rfl rfl dX11_cleans_113 ?_
        refine Ev.iload_n (i := 2) dX11_cleans_116 rfl rfl ?_
        have q15 : 0 ≤ v 20 (l_cleans_48 v (((v 2 0) - 0).toNat + 1) (-1) 0) ∧ v 20 (l_cleans_48 v (((v 2 0) - 0).toNat + 1) (-1) 0) ≤ 1 := hI.2 20 (l_cleans_48 v (((v 2 0) - 0).toNat + 1) (-1) 0)
        refine Ex.zald (k := 20) (v 20 (l_cleans_48 v (((v 2 0) - 0).toNat + 1) (-1) 0)) rfl hG (by decide) (by decide) rfl (by omega) (by show _ < ((8 : Nat) : Int); omega) (by decide) dX11_cleans_117 ?_
        refine Ei.if_eq (tgt := 125) dX11_cleans_118 (by decide) ⟨by omega, by omega⟩ (fun c16 => ?_) (fun c16 => ?_)
        · refine Ei.const dX11_cleans_125 ?_
          refine Em.iast (k := 17) hG (by decide) (by decide) rfl (by omega) (by show _ < ((8 : Nat) : Int); omega) (by decide) dX11_cleans_126 ?_
          refine Ei.inc dX11_cleans_127 rfl (by decide) ?_
          refine Ev.goto (tgt := 36) dX11_cleans_130 (by decide) ?_
          rw [l_cleans_36, if_neg c11, if_neg c14, if_pos c16]
          exact Ev.fgt (ls' := [some (va_rf (some m0)), some (.int (i32 (busy + 1))), none, none]) ⟨rfl, ⟨rfl, trivial⟩⟩ (ih (busy + 1) (upv (upv v 15 (l_cleans_48 v (((v 2 0) - 0).toNat + 1) (-1) 0) 3) 17 (l_cleans_48 v (((v 2 0) - 0).toNat + 1) (-1) 0) 2) ((hI.up 15 (l_cleans_48 v (((v 2 0) - 0).toNat + 1) (-1) 0) 3 (by show 0 ≤ 3 ∧ 3 ≤ 3; omega)).up 17 (l_cleans_48 v (((v 2 0) - 0).toNat + 1) (-1) 0) 2 (by show 0 ≤ 2 ∧ 2 ≤ 2; omega)) (by show 0 ≤ (busy + 1) ∧ (busy + 1) ≤ 100; omega) (by show ((v 3 0) - (busy + 1)).toNat < n; omega))
        · refine Ei.const dX11_cleans_121 ?_
          refine Ev.goto (tgt := 126) dX11_cleans_122 (by decide) ?_
          refine Em.iast (k := 17) hG (by decide) (by decide) rfl (by omega) (by show _ < ((8 : Nat) : Int); omega) (by decide) dX11_cleans_126 ?_
          refine Ei.inc dX11_cleans_127 rfl (by decide) ?_
          refine Ev.goto (tgt := 36) dX11_cleans_130 (by decide) ?_
          rw [l_cleans_36, if_neg c11, if_neg c14, if_neg c16]
          exact Ev.fgt (ls' := [some (va_rf (some m0)), some (.int (i32 (busy + 1))), none, none]) ⟨rfl, ⟨rfl, trivial⟩⟩ (ih (busy + 1) (upv (upv v 15 (l_cleans_48 v (((v 2 0) - 0).toNat + 1) (-1) 0) 3) 17 (l_cleans_48 v (((v 2 0) - 0).toNat + 1) (-1) 0) 1) ((hI.up 15 (l_cleans_48 v (((v 2 0) - 0).toNat + 1) (-1) 0) 3 (by show 0 ≤ 3 ∧ 3 ≤ 3; omega)).up 17 (l_cleans_48 v (((v 2 0) - 0).toNat + 1) (-1) 0) 1 (by show 0 ≤ 1 ∧ 1 ≤ 2; omega)) (by show 0 ≤ (busy + 1) ∧ (busy + 1) ≤ 100; omega) (by show ((v 3 0) - (busy + 1)).toNat < n; omega))
theorem fr_l_cleans_36 : ∀ (n : Nat) (busy : Int) (v : Vw) (fk : Nat) (fi : Int) (hk : fk ≠ 15 ∧ fk ≠ 17), (l_cleans_36 n busy v) fk fi = v fk fi := by
  intro n busy v fk fi hk
  induction n generalizing busy v with
  | zero => rfl
  | succ n ih =>
    by_cases c11 : (v 3 0) ≤ busy
    · rw [l_cleans_36, if_pos c11]
      try rfl
    · by_cases c14 : (l_cleans_48 v (((v 2 0) - 0).toNat + 1) (-1) 0) = (-1)
      · rw [l_cleans_36, if_neg c11, if_pos c14]
        try rfl
      · by_cases c16 : (v 20 (l_cleans_48 v (((v 2 0) - 0).toNat + 1) (-1) 0)) = 0
        · rw [l_cleans_36, if_neg c11, if_neg c14, if_pos c16]
          exact (ih (busy + 1) (upv (upv v 15 (l_cleans_48 v (((v 2 0) - 0).toNat + 1) (-1) 0) 3) 17 (l_cleans_48 v (((v 2 0) - 0).toNat + 1) (-1) 0) 2)).trans ((upv_nk (by omega)).trans ((upv_nk (by omega)).trans rfl))
        · rw [l_cleans_36, if_neg c11, if_neg c14, if_neg c16]
          exact (ih (busy + 1) (upv (upv v 15 (l_cleans_48 v (((v 2 0) - 0).toNat + 1) (-1) 0) 3) 17 (l_cleans_48 v (((v 2 0) - 0).toNat + 1) (-1) 0) 1)).trans ((upv_nk (by omega)).trans ((upv_nk (by omega)).trans rfl))
theorem i_l_cleans_36 {T E : Int} : ∀ (n : Nat) (busy : Int) (v : Vw) (hI : IM v T E) (hb : 0 ≤ busy ∧ busy ≤ 100), IM (l_cleans_36 n busy v) T (E) := by
  intro n
  induction n with
  | zero =>
    intro busy v hI hb
    have hT := hI.1
    exact hI
  | succ n ih =>
    intro busy v hI hb
    have hT := hI.1
    have u3 : 0 ≤ v 3 0 ∧ v 3 0 ≤ 3 := hI.2 3 0
    by_cases c11 : (v 3 0) ≤ busy
    · rw [l_cleans_36, if_pos c11]
      exact hI
    · have q12 := r_l_cleans_48 (v := v) (((v 2 0) - 0).toNat + 1) (-1) 0 (by omega) (by omega) (by omega)
      have q13 : 0 ≤ v 2 0 ∧ v 2 0 ≤ 8 := hI.2 2 0
      by_cases c14 : (l_cleans_48 v (((v 2 0) - 0).toNat + 1) (-1) 0) = (-1)
      · rw [l_cleans_36, if_neg c11, if_pos c14]
        exact hI
      · have q15 : 0 ≤ v 20 (l_cleans_48 v (((v 2 0) - 0).toNat + 1) (-1) 0) ∧ v 20 (l_cleans_48 v (((v 2 0) - 0).toNat + 1) (-1) 0) ≤ 1 := hI.2 20 (l_cleans_48 v (((v 2 0) - 0).toNat + 1) (-1) 0)
        by_cases c16 : (v 20 (l_cleans_48 v (((v 2 0) - 0).toNat + 1) (-1) 0)) = 0
        · rw [l_cleans_36, if_neg c11, if_neg c14, if_pos c16]
          exact ih (busy + 1) (upv (upv v 15 (l_cleans_48 v (((v 2 0) - 0).toNat + 1) (-1) 0) 3) 17 (l_cleans_48 v (((v 2 0) - 0).toNat + 1) (-1) 0) 2) ((hI.up 15 (l_cleans_48 v (((v 2 0) - 0).toNat + 1) (-1) 0) 3 (by show 0 ≤ 3 ∧ 3 ≤ 3; omega)).up 17 (l_cleans_48 v (((v 2 0) - 0).toNat + 1) (-1) 0) 2 (by show 0 ≤ 2 ∧ 2 ≤ 2; omega)) (by show 0 ≤ (busy + 1) ∧ (busy + 1) ≤ 100; omega)
        · rw [l_cleans_36, if_neg c11, if_neg c14, if_neg c16]
          exact ih (busy + 1) (upv (upv v 15 (l_cleans_48 v (((v 2 0) - 0).toNat + 1) (-1) 0) 3) 17 (l_cleans_48 v (((v 2 0) - 0).toNat + 1) (-1) 0) 1) ((hI.up 15 (l_cleans_48 v (((v 2 0) - 0).toNat + 1) (-1) 0) 3 (by show 0 ≤ 3 ∧ 3 ≤ 3; omega)).up 17 (l_cleans_48 v (((v 2 0) - 0).toNat + 1) (-1) 0) 1 (by show 0 ≤ 1 ∧ 1 ≤ 2; omega)) (by show 0 ≤ (busy + 1) ∧ (busy + 1) ≤ 100; omega)
def f_cleans (v : Vw) : Vw :=
  (l_cleans_36 (((v 3 0) - (l_cleans_4 v (((v 2 0) - 0).toNat + 1) 0 0)).toNat + 1) (l_cleans_4 v (((v 2 0) - 0).toNat + 1) 0 0) v)
theorem s_X11_cleans {X : Cx} {σ : Hp} {m0 : Nat} {v : Vw} {T E : Int} (hG : GM σ m0) (hI : IM v T E) : Ct X m_X11_cleans 1 [va_rf (some m0)] (Hm σ m0 v) (.inl none) (Hm σ m0 (f_cleans v)) := by
  have hT := hI.1
  refine Ct.of (by decide +kernel) rfl (Nat.le_of_ble_eq_true rfl) (by simp [Value.category, va_rf]) ?_
  refine Ei.const dX11_cleans_0 ?_
  refine Ev.istore_n (i := 1) dX11_cleans_1 rfl (by decide) ?_
  refine Ei.const dX11_cleans_2 ?_
  refine Ev.istore_n (i := 2) dX11_cleans_3 rfl (by decide) ?_
  refine Ev.fgt (ls' := [some (va_rf (some m0)), some (.int (i32 0)), some (.int (i32 0)), none]) ⟨rfl, ⟨rfl, ⟨rfl, trivial⟩⟩⟩ ?_
  refine s_l_cleans_4 hG hI  (((v 2 0) - 0).toNat + 1) 0 0 (by show 0 ≤ 0 ∧ 0 ≤ 100; omega) (by show ((v 2 0) - 0).toNat < (((v 2 0) - 0).toNat + 1); omega) ?_
  have q17 := r_l_cleans_4 (v := v) (((v 2 0) - 0).toNat + 1) 0 0 (by omega)
  have q18 : 0 ≤ v 2 0 ∧ v 2 0 ≤ 8 := hI.2 2 0
  refine Ev.fgt (ls' := [some (va_rf (some m0)), some (.int (i32 (l_cleans_4 v (((v 2 0) - 0).toNat + 1) 0 0))), none, none]) ⟨rfl, ⟨rfl, trivial⟩⟩ ?_
  rw [f_cleans]
  exact s_l_cleans_36 hG  (((v 3 0) - (l_cleans_4 v (((v 2 0) - 0).toNat + 1) 0 0)).toNat + 1) (l_cleans_4 v (((v 2 0) - 0).toNat + 1) 0 0) v hI (by show 0 ≤ (l_cleans_4 v (((v 2 0) - 0).toNat + 1) 0 0) ∧ (l_cleans_4 v (((v 2 0) - 0).toNat + 1) 0 0) ≤ 100; omega) (by show ((v 3 0) - (l_cleans_4 v (((v 2 0) - 0).toNat + 1) 0 0)).toNat < (((v 3 0) - (l_cleans_4 v (((v 2 0) - 0).toNat + 1) 0 0)).toNat + 1); omega)
theorem i_cleans {v : Vw} {T E : Int} (hI : IM v T E) : IM (f_cleans v) T (E) := by
  have hT := hI.1
  have q17 := r_l_cleans_4 (v := v) (((v 2 0) - 0).toNat + 1) 0 0 (by omega)
  have q18 : 0 ≤ v 2 0 ∧ v 2 0 ≤ 8 := hI.2 2 0
  rw [f_cleans]
  exact i_l_cleans_36  (((v 3 0) - (l_cleans_4 v (((v 2 0) - 0).toNat + 1) 0 0)).toNat + 1) (l_cleans_4 v (((v 2 0) - 0).toNat + 1) 0 0) v hI (by show 0 ≤ (l_cleans_4 v (((v 2 0) - 0).toNat + 1) 0 0) ∧ (l_cleans_4 v (((v 2 0) - 0).toNat + 1) 0 0) ≤ 100; omega)
theorem fr_cleans {v : Vw} (fk : Nat) (fi : Int) (hk : fk ≠ 15 ∧ fk ≠ 17) : (f_cleans v) fk fi = v fk fi := by
  rw [f_cleans]
  exact (fr_l_cleans_36 (((v 3 0) - (l_cleans_4 v (((v 2 0) - 0).toNat + 1) 0 0)).toNat + 1) (l_cleans_4 v (((v 2 0) - 0).toNat + 1) 0 0) v fk fi (by omega)).trans rfl
