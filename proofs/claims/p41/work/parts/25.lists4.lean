/-! ArrayList: putting in, taking out, emptying, a new one (written by wip/whole/mk22.py) -/
def insL {α : Type} : List α → Nat → α → List α
  | xs, 0, x => x :: xs
  | [], _ + 1, x => [x]
  | y :: ys, i + 1, x => y :: insL ys i x
def remL {α : Type} : List α → Nat → List α
  | [], _ => []
  | _ :: ys, 0 => ys
  | y :: ys, i + 1 => y :: remL ys i
theorem insL_len {α : Type} {x : α} : ∀ (xs : List α) (i : Nat), i ≤ xs.length → (insL xs i x).length = xs.length + 1 := by
  intro xs
  induction xs with
  | nil => intro i h; cases i <;> rfl
  | cons y ys ih =>
    intro i h
    cases i with
    | zero => rfl
    | succ i =>
      show (insL ys i x).length + 1 = _
      rw [ih i (by simpa using h)]
      rfl
theorem insL_get {α : Type} {x : α} : ∀ (xs : List α) (i j : Nat), i ≤ xs.length → (insL xs i x)[j]? = if j < i then xs[j]? else if j = i then some x else xs[j - 1]? := by
  intro xs
  induction xs with
  | nil =>
    intro i j h
    have : i = 0 := by simpa using h
    subst this
    cases j <;> simp [insL]
  | cons y ys ih =>
    intro i j h
    cases i with
    | zero => cases j <;> simp [insL]
    | succ i =>
      cases j with
      | zero => simp [insL]
      | succ j =>
        show (insL ys i x)[j]? = _
        rw [ih i j (by simpa using h)]
        by_cases c1 : j < i
        · rw [if_pos c1, if_pos (show j + 1 < i + 1 by omega)]
          rfl
        · rw [if_neg c1, if_neg (show ¬ j + 1 < i + 1 by omega)]
          by_cases c2 : j = i
          · rw [if_pos c2, if_pos (show j + 1 = i + 1 by omega)]
          · rw [if_neg c2, if_neg (show ¬ j + 1 = i + 1 by omega)]
            obtain ⟨k, rfl⟩ : ∃ k, j = k + 1 := ⟨j - 1, by omega⟩
            rfl
theorem remL_len {α : Type} : ∀ (xs : List α) (i : Nat), i < xs.length → (remL xs i).length + 1 = xs.length := by
  intro xs
  induction xs with
  | nil => intro i h; exact absurd h (Nat.not_lt_zero _)
  | cons y ys ih =>
    intro i h
    cases i with
    | zero => rfl
    | succ i =>
      show (remL ys i).length + 1 + 1 = ys.length + 1
      rw [ih i (by simpa using h)]
theorem remL_get {α : Type} : ∀ (xs : List α) (i j : Nat), (remL xs i)[j]? = if j < i then xs[j]? else xs[j + 1]? := by
  intro xs
  induction xs with
  | nil => intro i j; simp [remL]
  | cons y ys ih =>
    intro i j
    cases i with
    | zero => simp [remL]
    | succ i =>
      cases j with
      | zero => simp [remL]
      | succ j =>
        show (remL ys i)[j]? = _
        rw [ih i j]
        by_cases c1 : j < i
        · rw [if_pos c1, if_pos (show j + 1 < i + 1 by omega)]
          rfl
        · rw [if_neg c1, if_neg (show ¬ j + 1 < i + 1 by omega)]
          rfl
theorem insL_map {α β : Type} (f : α → β) {x : α} : ∀ (xs : List α) (i : Nat), insL (xs.map f) i (f x) = (insL xs i x).map f := by
  intro xs
  induction xs with
  | nil => intro i; cases i <;> rfl
  | cons y ys ih =>
    intro i
    cases i with
    | zero => rfl
    | succ i =>
      show f y :: insL (ys.map f) i (f x) = f y :: (insL ys i x).map f
      rw [ih]
theorem remL_map {α β : Type} (f : α → β) : ∀ (xs : List α) (i : Nat), remL (xs.map f) i = (remL xs i).map f := by
  intro xs
  induction xs with
  | nil => intro i; rfl
  | cons y ys ih =>
    intro i
    cases i with
    | zero => rfl
    | succ i =>
      show f y :: remL (ys.map f) i = f y :: (remL ys i).map f
      rw [ih]
/-- a row of the array anew -/
theorem Fr.row {X : Cx} {σ : Hp} {l B : Nat} {f : Nat → Option Nat} (hW : WF X σ) : Fr X σ (σ.row B f) l B B := ⟨fun _ _ => ⟨rfl, rfl⟩, fun a _ _ hB => ⟨rfl, up1_ne _ _ hB, rfl, rfl⟩, Or.inl rfl, Nat.le_refl _, hW, Nat.le_refl _, Nat.le_refl _, Nat.le_refl _⟩
/-- the list's array and number anew -/
theorem LL.anew {X : Cx} {σ : Hp} {l B n : Nat} {f : Nat → Option Nat} {xs ys : List Nat} (hW : WF X σ) (hL : LL X σ l B xs) (hB : σ.kd B = 24) (hn : n = ys.length) (hn2 : ys.length ≤ 200) (hr : ys.length ≤ σ.ln B) (hf : ∀ i x, ys[i]? = some x → f i = some x) (hv : ∀ i y, i < σ.ln B → f i = some y → 3 ≤ σ.kd y ∧ σ.kd y ≤ 14) :
    LL X ((σ.row B f).setI l 2 (i32 (n : Int))) l B ys ∧ Fr X σ ((σ.row B f).setI l 2 (i32 (n : Int))) l B B := by
  refine ⟨?_, (Fr.row hW).trans hW (Fr.mod hW)⟩
  obtain ⟨h1, h2, h3, h4, h5, h6⟩ := hL
  have h6' : xs.length ≤ σ.ln B ∧ 1 ≤ σ.ln B ∧ σ.ln B ≤ 300 ∧ ∀ i y, i < σ.ln B → σ.rv B i = some y → 3 ≤ σ.kd y ∧ σ.kd y ≤ 14 := by
    rcases h6 with h6 | h6
    · have := (hW.2.2 B (by omega)).1
      have := hW.1
      omega
    · exact h6.2
  have hne : ¬ l = B := fun e => by rw [e] at h1; omega
  exact ⟨h1, (congrFun (up1_ne _ _ hne) 1).trans h2, (if_pos ⟨rfl, rfl⟩).trans (by rw [hn]), hn2, fun i x hx => (congrFun (up1_eq _ _ _) i).trans (hf i x hx), Or.inr ⟨hB, hr, h6'.2.1, h6'.2.2.1, fun i y hi hy => hv i y hi ((congrFun (up1_eq _ _ _) i).symm.trans hy)⟩⟩
theorem setR_row {σ : Hp} {B i : Nat} {f : Nat → Option Nat} {x : Option Nat} : (σ.row B f).setR B i x = σ.row B (fun j => if j = i then x else f j) := by
  have e : up2 (up1 σ.rv B f) B i x = up1 σ.rv B (fun j => if j = i then x else f j) := by
    funext a j
    show (if a = B ∧ j = i then x else (if a = B then f else σ.rv a) j) = (if a = B then (fun j => if j = i then x else f j) else σ.rv a) j
    by_cases h : a = B
    · rw [if_pos h, if_pos h]
      by_cases h2 : j = i
      · rw [if_pos ⟨h, h2⟩, if_pos h2]
      · rw [if_neg (fun q => h2 q.2), if_neg h2]
    · rw [if_neg h, if_neg h, if_neg (fun q => h q.1)]
  show (_, _, _, up2 (up1 σ.rv B f) B i x, _) = _
  rw [e]
  rfl
theorem lz32 {z : Int} (h1 : 0 ≤ z) (h2 : z ≤ 1000) : ¬ i32 z < 0 := fun h3 => by
  have := (i32_lt (b := 0) ⟨by omega, by omega⟩ R32_0).mp h3
  omega
theorem cl32 {z : Int} (h1 : 0 ≤ z) (h2 : z ≤ 1000) : (i32 z).toNatClampNeg = z.toNat := i32_cl h1 ⟨by omega, by omega⟩
theorem ins_f {g : Nat → Option Nat} {xs : List Nat} {x : Nat} {z : Int} (hz : 0 ≤ z ∧ z ≤ (xs.length : Int)) (h5 : ∀ i x, xs[i]? = some x → g i = some x) : ∀ i y, (insL xs z.toNat x)[i]? = some y → (if i = z.toNat then some x else va_cpy g g z.toNat (z + 1).toNat ((xs.length : Int) - z).toNat i) = some y := by
  intro i y hy
  rw [insL_get xs z.toNat i (by omega)] at hy
  by_cases c1 : i < z.toNat
  · rw [if_pos c1] at hy
    rw [if_neg (by omega)]
    unfold va_cpy
    rw [if_neg (by omega)]
    exact h5 i y hy
  · rw [if_neg c1] at hy
    by_cases c2 : i = z.toNat
    · rw [if_pos c2] at hy
      rw [if_pos c2]
      exact hy
    · rw [if_neg c2] at hy
      rw [if_neg c2]
      have hi := (List.getElem?_eq_some_iff.mp hy).1
      unfold va_cpy
      rw [if_pos (by omega), show z.toNat + (i - (z + 1).toNat) = i - 1 by omega]
      exact h5 (i - 1) y hy
theorem ins_v {σ : Hp} {g : Nat → Option Nat} {n L x : Nat} {z : Int} (hx : 3 ≤ σ.kd x ∧ σ.kd x ≤ 14) (hv : ∀ i y, i < L → g i = some y → 3 ≤ σ.kd y ∧ σ.kd y ≤ 14) (hz : 0 ≤ z ∧ z ≤ (n : Int)) (hn : n < L) : ∀ i y, i < L → (if i = z.toNat then some x else va_cpy g g z.toNat (z + 1).toNat ((n : Int) - z).toNat i) = some y → 3 ≤ σ.kd y ∧ σ.kd y ≤ 14 := by
  intro i y hi hy
  by_cases c : i = z.toNat
  · rw [if_pos c] at hy
    cases hy
    exact hx
  · rw [if_neg c] at hy
    unfold va_cpy at hy
    split at hy
    · exact hv _ y (by omega) hy
    · exact hv _ y hi hy
theorem s_lins {X : Cx} {σ : Hp} {l B x : Nat} {z : Int} {xs : List Nat} (hW : WF X σ) (hL : LL X σ l B xs) (h199 : xs.length ≤ 199) (hx : 3 ≤ σ.kd x ∧ σ.kd x ≤ 14) (h0 : 0 ≤ z) (hz : z ≤ (xs.length : Int)) : ∃ τ B', Ct X m_Jx4a65c_add_7a177 6 [va_rf (some l), .int (i32 z), va_rf (some x)] σ (.inl none) τ ∧ LL X τ l B' (insL xs z.toNat x) ∧ Fr X σ τ l B B' := by
  have hL2 : LL X (σ.setI l 0 (σ.iv l 0 + i32 1)) l B xs := hL.mod
  have hW2 : WF X (σ.setI l 0 (σ.iv l 0 + i32 1)) := hW
  rcases hL2.full hW2 with hf | hf
  · obtain ⟨τ1, hC, hL1, hk1, hr1, hF1⟩ := s_grow0 hW2 hL2 hf h199
    have hx9 : 3 ≤ τ1.kd x ∧ τ1.kd x ≤ 14 := hF1.kds hx
    have hW1 := hF1.2.2.2.2.1
    have h7 : τ1.kd (σ.setI l 0 (σ.iv l 0 + i32 1)).sz = 24 ∧ xs.length < τ1.ln (σ.setI l 0 (σ.iv l 0 + i32 1)).sz ∧ τ1.ln (σ.setI l 0 (σ.iv l 0 + i32 1)).sz ≤ 300 ∧ ∀ i y, i < τ1.ln (σ.setI l 0 (σ.iv l 0 + i32 1)).sz → τ1.rv (σ.setI l 0 (σ.iv l 0 + i32 1)).sz i = some y → 3 ≤ τ1.kd y ∧ τ1.kd y ≤ 14 := by
      rcases hL1.2.2.2.2.2 with e | e
      · have := hW1.2.2 (σ.setI l 0 (σ.iv l 0 + i32 1)).sz (by omega)
        have := hW1.1
        omega
      · exact ⟨hk1, hr1, e.2.2.2.1, e.2.2.2.2⟩
    have hP := LL.anew (n := xs.length + 1) (f := (fun j => if j = z.toNat then some x else va_cpy (τ1.rv (σ.setI l 0 (σ.iv l 0 + i32 1)).sz) (τ1.rv (σ.setI l 0 (σ.iv l 0 + i32 1)).sz) z.toNat (z + 1).toNat ((xs.length : Int) - z).toNat j)) (ys := insL xs z.toNat x) hW1 hL1 h7.1 (insL_len xs z.toNat (by omega)).symm (by rw [insL_len xs z.toNat (by omega)]; omega) (by rw [insL_len xs z.toNat (by omega)]; exact h7.2.1) (ins_f (by omega) hL1.2.2.2.2.1) (ins_v hx9 h7.2.2.2 (by omega) h7.2.1)
    refine ⟨_, _, ?_, hP.1, ((Fr.mod hW).trans hW hF1).trans hW hP.2⟩
    refine Ct.of (by decide +kernel) rfl (Nat.le_of_ble_eq_true rfl) (by simp [Value.category, va_rf]) ?_
    have key : ∀ {o : Rs} {τ : Hp} {ls : List (Option Value)} {rest : List Value}, Ev X m_Jx4a65c_add_7a177 6 29 ls (.int (i32 (xs.length : Int)) :: rest) (σ.setI l 0 (σ.iv l 0 + i32 1)) o τ → Ev X m_Jx4a65c_add_7a177 6 28 ls (va_rf (some B) :: rest) (σ.setI l 0 (σ.iv l 0 + i32 1)) o τ := by
      intro o τ ls rest k
      rcases hL2.room with e | e
      · rw [e.1]
        rw [e.2] at k
        exact Er.alen0 dJx4a65c_add_7a177_28 k
      · rw [cap_24 hW2 e.1] at hf
        rw [← hf] at k
        exact Er.alen e.1 e.2.2 dJx4a65c_add_7a177_28 k
    refine Ev.aload_n (i := 0) dJx4a65c_add_7a177_0 rfl rfl ?_
    refine Ev.iload_n (i := 1) dJx4a65c_add_7a177_1 rfl rfl ?_
    refine Ev.callV (ci := 2) (As := [_]) k_Jx4a65c_rangeCheckForAdd_d00df rfl hL.1 (tb4 (i := 26) rfl) ki_Jx4a65c_rangeCheckForAdd_d00df kv_Jx4a65c_rangeCheckForAdd_d00df dJx4a65c_add_7a177_2 rfl rfl (Nat.le_of_ble_eq_true rfl) (by decide) (s_lrange hL h0 hz) ?_
    refine Ev.aload_n (i := 0) dJx4a65c_add_7a177_5 rfl rfl ?_
    refine Ev.dup dJx4a65c_add_7a177_6 rfl ?_
    refine Er.gI (ci := 2) (k := 0) (σ.iv l 0) rfl rfl (by decide) (by decide) (tb1 (i := 61) rfl) (Or.inr (tb1 (i := 62) rfl)) rfl hL.1 dJx4a65c_add_7a177_7 ?_
    refine Ei.const dJx4a65c_add_7a177_10 ?_
    refine Ev.iadd dJx4a65c_add_7a177_11 ?_
    refine Ev.pI (ci := 2) (k := 0) rfl (by decide) (by decide) (tb1 (i := 61) rfl) (Or.inr (tb1 (i := 62) rfl)) (Or.inl rfl) rfl rfl rfl hL.1 dJx4a65c_add_7a177_12 ?_
    refine Ev.aload_n (i := 0) dJx4a65c_add_7a177_15 rfl rfl ?_
    refine Er.gI (ci := 2) (k := 2) (i32 (xs.length : Int)) hL2.2.2.1 rfl (by decide) (by decide) (tb1 (i := 59) rfl) (Or.inl rfl) rfl hL2.1 dJx4a65c_add_7a177_16 ?_
    refine Ev.dup dJx4a65c_add_7a177_19 rfl ?_
    refine Ev.istore_n (i := 3) dJx4a65c_add_7a177_20 rfl (by decide) ?_
    refine Ev.aload_n (i := 0) dJx4a65c_add_7a177_21 rfl rfl ?_
    refine Er.gR (ci := 2) (k := 1) (some B) hL2.2.1 rfl (by decide) (by decide) (tb1 (i := 58) rfl) (Or.inl rfl) rfl hL2.1 dJx4a65c_add_7a177_22 ?_
    refine Ev.dup dJx4a65c_add_7a177_25 rfl ?_
    refine Ev.astore dJx4a65c_add_7a177_26 (by decide) ?_
    refine key ?_
    refine Ei.icmp_ne_f (tgt := 38) dJx4a65c_add_7a177_29 (by decide) ⟨by omega, by omega⟩ ⟨by omega, by omega⟩ (by omega) ?_
    refine Ev.aload_n (i := 0) dJx4a65c_add_7a177_32 rfl rfl ?_
    refine Ev.callV (ci := 2) (As := []) k_Jx4a65c_grow_d5877 rfl hL2.1 (tb1 (i := 126) rfl) ki_Jx4a65c_grow_d5877 kv_Jx4a65c_grow_d5877 dJx4a65c_add_7a177_33 rfl rfl (Nat.le_of_ble_eq_true rfl) (by decide) hC ?_
    refine Ev.astore dJx4a65c_add_7a177_36 (by decide) ?_
    refine Ev.aload dJx4a65c_add_7a177_38 rfl ?_
    refine Ev.iload_n (i := 1) dJx4a65c_add_7a177_40 rfl rfl ?_
    refine Ev.aload dJx4a65c_add_7a177_41 rfl ?_
    refine Ev.iload_n (i := 1) dJx4a65c_add_7a177_43 rfl rfl ?_
    refine Ei.const dJx4a65c_add_7a177_44 ?_
    refine Ei.add dJx4a65c_add_7a177_45 ?_
    refine Ev.iload_n (i := 3) dJx4a65c_add_7a177_46 rfl rfl ?_
    refine Ev.iload_n (i := 1) dJx4a65c_add_7a177_47 rfl rfl ?_
    refine Ei.sub dJx4a65c_add_7a177_48 ?_
    refine Ev.copy h7.1 h7.1 (lz32 h0 (by omega)) (lz32 (by omega) (by omega)) (lz32 (by omega) (by omega)) (by rw [cl32 h0 (by omega), cl32 (by omega) (by omega)]; omega) (by rw [cl32 (by omega) (by omega), cl32 (by omega) (by omega)]; omega) (by rw [cl32 h0 (by omega), cl32 (by omega) (by omega)]; exact fun i hi y hy => h7.2.2.2 _ y (by omega) hy) (by decide) (by simp [Value.category, va_rf]) (tb3 (i := 106) rfl) dJx4a65c_add_7a177_49 ?_
    rw [cl32 h0 (by omega), cl32 (z := z + 1) (by omega) (by omega), cl32 (z := (xs.length : Int) - z) (by omega) (by omega)]
    refine Ev.aload dJx4a65c_add_7a177_52 rfl ?_
    refine Ev.iload_n (i := 1) dJx4a65c_add_7a177_54 rfl rfl ?_
    refine Ev.aload_n (i := 2) dJx4a65c_add_7a177_55 rfl rfl ?_
    refine Er.aast h7.1 h0 (show z < ((τ1.ln (σ.setI l 0 (σ.iv l 0 + i32 1)).sz : Nat) : Int) by have := h7.2.1; omega) h7.2.2.1 (fun y hy => by cases hy; exact hx9) dJx4a65c_add_7a177_56 ?_
    rw [setR_row]
    refine Ev.aload_n (i := 0) dJx4a65c_add_7a177_57 rfl rfl ?_
    refine Ev.iload_n (i := 3) dJx4a65c_add_7a177_58 rfl rfl ?_
    refine Ei.const dJx4a65c_add_7a177_59 ?_
    refine Ei.add dJx4a65c_add_7a177_60 ?_
    refine Ev.pI (ci := 2) (k := 2) rfl (by decide) (by decide) (tb1 (i := 59) rfl) (Or.inl rfl) (Or.inl rfl) rfl rfl rfl hL1.1 dJx4a65c_add_7a177_61 ?_
    exact Ev.vretE rfl dJx4a65c_add_7a177_64 rfl rfl
  · have h7 : (σ.setI l 0 (σ.iv l 0 + i32 1)).kd B = 24 ∧ xs.length < (σ.setI l 0 (σ.iv l 0 + i32 1)).ln B ∧ (σ.setI l 0 (σ.iv l 0 + i32 1)).ln B ≤ 300 ∧ ∀ i y, i < (σ.setI l 0 (σ.iv l 0 + i32 1)).ln B → (σ.setI l 0 (σ.iv l 0 + i32 1)).rv B i = some y → 3 ≤ (σ.setI l 0 (σ.iv l 0 + i32 1)).kd y ∧ (σ.setI l 0 (σ.iv l 0 + i32 1)).kd y ≤ 14 := by
      rcases hL2.2.2.2.2.2 with e | e
      · have := hW2.2.2 B (by omega)
        have := hW2.1
        omega
      · exact ⟨hf.1, hf.2, e.2.2.2.1, e.2.2.2.2⟩
    have hx9 : 3 ≤ (σ.setI l 0 (σ.iv l 0 + i32 1)).kd x ∧ (σ.setI l 0 (σ.iv l 0 + i32 1)).kd x ≤ 14 := hx
    have hP := LL.anew (n := xs.length + 1) (f := (fun j => if j = z.toNat then some x else va_cpy ((σ.setI l 0 (σ.iv l 0 + i32 1)).rv B) ((σ.setI l 0 (σ.iv l 0 + i32 1)).rv B) z.toNat (z + 1).toNat ((xs.length : Int) - z).toNat j)) (ys := insL xs z.toNat x) hW2 hL2 h7.1 (insL_len xs z.toNat (by omega)).symm (by rw [insL_len xs z.toNat (by omega)]; omega) (by rw [insL_len xs z.toNat (by omega)]; exact h7.2.1) (ins_f (by omega) hL2.2.2.2.2.1) (ins_v hx9 h7.2.2.2 (by omega) h7.2.1)
    refine ⟨_, _, ?_, hP.1, (Fr.mod hW).trans hW hP.2⟩
    refine Ct.of (by decide +kernel) rfl (Nat.le_of_ble_eq_true rfl) (by simp [Value.category, va_rf]) ?_
    refine Ev.aload_n (i := 0) dJx4a65c_add_7a177_0 rfl rfl ?_
    refine Ev.iload_n (i := 1) dJx4a65c_add_7a177_1 rfl rfl ?_
    refine Ev.callV (ci := 2) (As := [_]) k_Jx4a65c_rangeCheckForAdd_d00df rfl hL.1 (tb4 (i := 26) rfl) ki_Jx4a65c_rangeCheckForAdd_d00df kv_Jx4a65c_rangeCheckForAdd_d00df dJx4a65c_add_7a177_2 rfl rfl (Nat.le_of_ble_eq_true rfl) (by decide) (s_lrange hL h0 hz) ?_
    refine Ev.aload_n (i := 0) dJx4a65c_add_7a177_5 rfl rfl ?_
    refine Ev.dup dJx4a65c_add_7a177_6 rfl ?_
    refine Er.gI (ci := 2) (k := 0) (σ.iv l 0) rfl rfl (by decide) (by decide) (tb1 (i := 61) rfl) (Or.inr (tb1 (i := 62) rfl)) rfl hL.1 dJx4a65c_add_7a177_7 ?_
    refine Ei.const dJx4a65c_add_7a177_10 ?_
    refine Ev.iadd dJx4a65c_add_7a177_11 ?_
    refine Ev.pI (ci := 2) (k := 0) rfl (by decide) (by decide) (tb1 (i := 61) rfl) (Or.inr (tb1 (i := 62) rfl)) (Or.inl rfl) rfl rfl rfl hL.1 dJx4a65c_add_7a177_12 ?_
    refine Ev.aload_n (i := 0) dJx4a65c_add_7a177_15 rfl rfl ?_
    refine Er.gI (ci := 2) (k := 2) (i32 (xs.length : Int)) hL2.2.2.1 rfl (by decide) (by decide) (tb1 (i := 59) rfl) (Or.inl rfl) rfl hL2.1 dJx4a65c_add_7a177_16 ?_
    refine Ev.dup dJx4a65c_add_7a177_19 rfl ?_
    refine Ev.istore_n (i := 3) dJx4a65c_add_7a177_20 rfl (by decide) ?_
    refine Ev.aload_n (i := 0) dJx4a65c_add_7a177_21 rfl rfl ?_
    refine Er.gR (ci := 2) (k := 1) (some B) hL2.2.1 rfl (by decide) (by decide) (tb1 (i := 58) rfl) (Or.inl rfl) rfl hL2.1 dJx4a65c_add_7a177_22 ?_
    refine Ev.dup dJx4a65c_add_7a177_25 rfl ?_
    refine Ev.astore dJx4a65c_add_7a177_26 (by decide) ?_
    refine Er.alen h7.1 h7.2.2.1 dJx4a65c_add_7a177_28 ?_
    refine Ei.icmp_ne_t (tgt := 38) dJx4a65c_add_7a177_29 (by decide) ⟨by omega, by omega⟩ ⟨by omega, by omega⟩ (by omega) ?_
    refine Ev.aload dJx4a65c_add_7a177_38 rfl ?_
    refine Ev.iload_n (i := 1) dJx4a65c_add_7a177_40 rfl rfl ?_
    refine Ev.aload dJx4a65c_add_7a177_41 rfl ?_
    refine Ev.iload_n (i := 1) dJx4a65c_add_7a177_43 rfl rfl ?_
    refine Ei.const dJx4a65c_add_7a177_44 ?_
    refine Ei.add dJx4a65c_add_7a177_45 ?_
    refine Ev.iload_n (i := 3) dJx4a65c_add_7a177_46 rfl rfl ?_
    refine Ev.iload_n (i := 1) dJx4a65c_add_7a177_47 rfl rfl ?_
    refine Ei.sub dJx4a65c_add_7a177_48 ?_
    refine Ev.copy h7.1 h7.1 (lz32 h0 (by omega)) (lz32 (by omega) (by omega)) (lz32 (by omega) (by omega)) (by rw [cl32 h0 (by omega), cl32 (by omega) (by omega)]; omega) (by rw [cl32 (by omega) (by omega), cl32 (by omega) (by omega)]; omega) (by rw [cl32 h0 (by omega), cl32 (by omega) (by omega)]; exact fun i hi y hy => h7.2.2.2 _ y (by omega) hy) (by decide) (by simp [Value.category, va_rf]) (tb3 (i := 106) rfl) dJx4a65c_add_7a177_49 ?_
    rw [cl32 h0 (by omega), cl32 (z := z + 1) (by omega) (by omega), cl32 (z := (xs.length : Int) - z) (by omega) (by omega)]
    refine Ev.aload dJx4a65c_add_7a177_52 rfl ?_
    refine Ev.iload_n (i := 1) dJx4a65c_add_7a177_54 rfl rfl ?_
    refine Ev.aload_n (i := 2) dJx4a65c_add_7a177_55 rfl rfl ?_
    refine Er.aast h7.1 h0 (show z < (((σ.setI l 0 (σ.iv l 0 + i32 1)).ln B : Nat) : Int) by have := h7.2.1; omega) h7.2.2.1 (fun y hy => by cases hy; exact hx9) dJx4a65c_add_7a177_56 ?_
    rw [setR_row]
    refine Ev.aload_n (i := 0) dJx4a65c_add_7a177_57 rfl rfl ?_
    refine Ev.iload_n (i := 3) dJx4a65c_add_7a177_58 rfl rfl ?_
    refine Ei.const dJx4a65c_add_7a177_59 ?_
    refine Ei.add dJx4a65c_add_7a177_60 ?_
    refine Ev.pI (ci := 2) (k := 2) rfl (by decide) (by decide) (tb1 (i := 59) rfl) (Or.inl rfl) (Or.inl rfl) rfl rfl rfl hL2.1 dJx4a65c_add_7a177_61 ?_
    exact Ev.vretE rfl dJx4a65c_add_7a177_64 rfl rfl
