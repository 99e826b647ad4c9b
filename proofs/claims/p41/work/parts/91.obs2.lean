/-! what the calls that only ask are told, plainly (written by wip/p41/mk91.py) -/
theorem isV1 {a : Int} {v : Vw} (h : 0 ≤ a ∧ a < v 2 0) : f_isVessel a v = 1 := by
  rcases c_isVessel a v with q | q
  · exact q.1
  · exact absurd h q.2
theorem isB1 {a : Int} {v : Vw} (h : 0 ≤ a ∧ a < v 5 0) : f_isBrew a v = 1 := by
  rcases c_isBrew a v with q | q
  · exact q.1
  · exact absurd h q.2
theorem isR1 {a : Int} {v : Vw} (h : 0 ≤ a ∧ a < v 1 0) : f_isRecipe a v = 1 := by
  rcases c_isRecipe a v with q | q
  · exact q.1
  · exact absurd h q.2
theorem isO1 {a : Int} {v : Vw} (h : 0 ≤ a ∧ a < v 6 0) : f_isOrder a v = 1 := by
  rcases c_isOrder a v with q | q
  · exact q.1
  · exact absurd h q.2
theorem isO0 {a : Int} {v : Vw} (h : ¬ (0 ≤ a ∧ a < v 6 0)) : f_isOrder a v = 0 := by
  rcases c_isOrder a v with q | q
  · exact absurd q.2 h
  · exact q.1
theorem isD1 {a : Int} {v : Vw} (h : 0 ≤ a ∧ a < v 9 0) : (f_isDelivery a v).1 = 1 ∧ (f_isDelivery a v).2 0 0 = 0 := by
  have e : f_isDelivery a v = (1, upv v 0 0 0) := by
    unfold f_isDelivery
    have e2 : f_in a 0 (v 9 0 - 1) = 1 := by
      rcases c_in a 0 (v 9 0 - 1) with q | q
      · exact q.1
      · exact absurd ⟨h.1, by omega⟩ q.2
    rw [e2]
    rfl
  rw [e]
  exact ⟨rfl, up00 v 0⟩
theorem n_state {X : Cx} {h : Nat} {v : Vw} {y x : Int} {n m : Nat} {R : List Ar} {T E a s : Int} (hN : KN X) (hI : IM v T E) (ha : 0 ≤ a ∧ a < v 2 0) (hs : cdc (v 15 a) = s) : Kl X h m_L_state 8 [va_rf (some h), .int (i32 a)] (v, (y, x), (n, m), R) (.inl (some (.int (i32 s)))) (v, (y, x + 1), (n, m), R) := by
  have k := w_state (h := h) (v := v) (y := y) (x := x) (n := n) (m := m) (R := R) (a := a) hN hI ⟨by have := hI.2 2 0; have q : v 2 0 ≤ 8 := (hI.2 2 0).2; omega, by have q : v 2 0 ≤ 8 := (hI.2 2 0).2; omega⟩
  have e : qc cod_state (f_state a v) = cdc (v 15 a) := by
    have u : 0 ≤ v 15 a ∧ v 15 a ≤ 3 := hI.2 15 a
    unfold qc f_state
    rw [isV1 ha]
    simp only [isOne1, if_neg ne10]
    have z : v 15 a = 0 ∨ v 15 a = 1 ∨ v 15 a = 2 ∨ v 15 a = 3 := by omega
    rcases z with z | z | z | z <;> simp [z, upv, cdc]
  rw [e, hs] at k
  exact k
theorem n_brewIn {X : Cx} {h : Nat} {v : Vw} {y x : Int} {n m : Nat} {R : List Ar} {T E a s : Int} (hN : KN X) (hI : IM v T E) (ha : 0 ≤ a ∧ a < v 2 0) (hs : (if v 15 a = 1 then v 16 a else -75) = s) : Kl X h m_L_brewIn 8 [va_rf (some h), .int (i32 a)] (v, (y, x), (n, m), R) (.inl (some (.int (i32 s)))) (v, (y, x + 1), (n, m), R) := by
  have k := w_brewIn (h := h) (v := v) (y := y) (x := x) (n := n) (m := m) (R := R) (a := a) hN hI ⟨by have := hI.2 2 0; have q : v 2 0 ≤ 8 := (hI.2 2 0).2; omega, by have q : v 2 0 ≤ 8 := (hI.2 2 0).2; omega⟩
  have e : qc cod_brewIn (f_brewIn a v) = (if v 15 a = 1 then v 16 a else -75) := by
    unfold qc f_brewIn
    rw [isV1 ha]
    simp only [isOne1, if_neg ne10]
    by_cases z : v 15 a = 1
    · simp [z, upv]
    · simp [z, upv, f_fails, cod_brewIn]
  rw [e, hs] at k
  exact k
theorem n_cleanDay {X : Cx} {h : Nat} {v : Vw} {y x : Int} {n m : Nat} {R : List Ar} {T E a s : Int} (hN : KN X) (hI : IM v T E) (ha : 0 ≤ a ∧ a < v 2 0) (hs : (if v 15 a = 3 then v 8 0 + v 17 a else -75) = s) : Kl X h m_L_cleanDay 8 [va_rf (some h), .int (i32 a)] (v, (y, x), (n, m), R) (.inl (some (.int (i32 s)))) (v, (y, x + 1), (n, m), R) := by
  have k := w_cleanDay (h := h) (v := v) (y := y) (x := x) (n := n) (m := m) (R := R) (a := a) hN hI ⟨by have := hI.2 2 0; have q : v 2 0 ≤ 8 := (hI.2 2 0).2; omega, by have q : v 2 0 ≤ 8 := (hI.2 2 0).2; omega⟩
  have e : qc cod_cleanDay (f_cleanDay a v) = (if v 15 a = 3 then v 8 0 + v 17 a else -75) := by
    unfold qc f_cleanDay
    rw [isV1 ha]
    simp only [isOne1, if_neg ne10]
    by_cases z : v 15 a = 3
    · simp [z, upv]
    · simp [z, upv, f_fails, cod_cleanDay]
  rw [e, hs] at k
  exact k
theorem n_stage {X : Cx} {h : Nat} {v : Vw} {y x : Int} {n m : Nat} {R : List Ar} {T E a s : Int} (hN : KN X) (hI : IM v T E) (ha : 0 ≤ a ∧ a < v 5 0) (hs : phc (v 28 a) = s) : Kl X h m_L_stage 8 [va_rf (some h), .int (i32 a)] (v, (y, x), (n, m), R) (.inl (some (.int (i32 s)))) (v, (y, x + 1), (n, m), R) := by
  have k := w_stage (h := h) (v := v) (y := y) (x := x) (n := n) (m := m) (R := R) (a := a) hN hI ⟨by omega, by have q : v 5 0 ≤ 30 := (hI.2 5 0).2; omega⟩
  have e : qc cod_stage (f_stage a v) = phc (v 28 a) := by
    have u : 0 ≤ v 28 a ∧ v 28 a ≤ 4 := hI.2 28 a
    unfold qc f_stage
    rw [isB1 ha]
    simp only [isOne1, if_neg ne10]
    have z : v 28 a = 0 ∨ v 28 a = 1 ∨ v 28 a = 2 ∨ v 28 a = 3 ∨ v 28 a = 4 := by omega
    rcases z with z | z | z | z | z <;> simp [z, upv, phc]
  rw [e, hs] at k
  exact k
theorem n_vesselOf {X : Cx} {h : Nat} {v : Vw} {y x : Int} {n m : Nat} {R : List Ar} {T E a s : Int} (hN : KN X) (hI : IM v T E) (ha : 0 ≤ a ∧ a < v 5 0) (hs : (if v 28 a = 4 then -75 else v 29 a) = s) : Kl X h m_L_vesselOf 8 [va_rf (some h), .int (i32 a)] (v, (y, x), (n, m), R) (.inl (some (.int (i32 s)))) (v, (y, x + 1), (n, m), R) := by
  have k := w_vesselOf (h := h) (v := v) (y := y) (x := x) (n := n) (m := m) (R := R) (a := a) hN hI ⟨by omega, by have q : v 5 0 ≤ 30 := (hI.2 5 0).2; omega⟩
  have e : qc cod_vesselOf (f_vesselOf a v) = (if v 28 a = 4 then -75 else v 29 a) := by
    unfold qc f_vesselOf
    rw [isB1 ha]
    simp only [isOne1, if_neg ne10]
    by_cases z : v 28 a = 4
    · simp [z, upv, f_fails, cod_vesselOf]
    · simp [z, upv]
  rw [e, hs] at k
  exact k
theorem n_daysToGo {X : Cx} {h : Nat} {v : Vw} {y x : Int} {n m : Nat} {R : List Ar} {T E a s : Int} (hN : KN X) (hI : IM v T E) (ha : 0 ≤ a ∧ a < v 5 0) (hs : (if v 28 a = 0 ∨ v 28 a = 2 then v 30 a else -75) = s) : Kl X h m_L_daysToGo 8 [va_rf (some h), .int (i32 a)] (v, (y, x), (n, m), R) (.inl (some (.int (i32 s)))) (v, (y, x + 1), (n, m), R) := by
  have k := w_daysToGo (h := h) (v := v) (y := y) (x := x) (n := n) (m := m) (R := R) (a := a) hN hI ⟨by omega, by have q : v 5 0 ≤ 30 := (hI.2 5 0).2; omega⟩
  have e : qc cod_daysToGo (f_daysToGo a v) = (if v 28 a = 0 ∨ v 28 a = 2 then v 30 a else -75) := by
    unfold qc f_daysToGo
    rw [isB1 ha]
    simp only [isOne1, if_neg ne10]
    by_cases z : v 28 a = 0
    · simp [z, upv]
    · by_cases z2 : v 28 a = 2
      · simp [z2, upv]
      · simp [z, z2, upv, f_fails, cod_daysToGo]
  rw [e, hs] at k
  exact k
theorem n_generation {X : Cx} {h : Nat} {v : Vw} {y x : Int} {n m : Nat} {R : List Ar} {T E a s : Int} (hN : KN X) (hI : IM v T E) (ha : 0 ≤ a ∧ a < v 5 0) (hs : v 27 a = s) : Kl X h m_L_generation 8 [va_rf (some h), .int (i32 a)] (v, (y, x), (n, m), R) (.inl (some (.int (i32 s)))) (v, (y, x + 1), (n, m), R) := by
  have k := w_generation (h := h) (v := v) (y := y) (x := x) (n := n) (m := m) (R := R) (a := a) hN hI ⟨by omega, by have q : v 5 0 ≤ 30 := (hI.2 5 0).2; omega⟩
  have e : qc cod_generation (f_generation a v) = v 27 a := by
    unfold qc f_generation
    rw [isB1 ha]
    simp only [isOne1, if_neg ne10]
    simp [upv]
  rw [e, hs] at k
  exact k
theorem n_recipeOf {X : Cx} {h : Nat} {v : Vw} {y x : Int} {n m : Nat} {R : List Ar} {T E a s : Int} (hN : KN X) (hI : IM v T E) (ha : 0 ≤ a ∧ a < v 5 0) (hs : v 26 a = s) : Kl X h m_L_recipeOf 8 [va_rf (some h), .int (i32 a)] (v, (y, x), (n, m), R) (.inl (some (.int (i32 s)))) (v, (y, x + 1), (n, m), R) := by
  have k := w_recipeOf (h := h) (v := v) (y := y) (x := x) (n := n) (m := m) (R := R) (a := a) hN hI ⟨by omega, by have q : v 5 0 ≤ 30 := (hI.2 5 0).2; omega⟩
  have e : qc cod_recipeOf (f_recipeOf a v) = v 26 a := by
    unfold qc f_recipeOf
    rw [isB1 ha]
    simp only [isOne1, if_neg ne10]
    simp [upv]
  rw [e, hs] at k
  exact k
theorem n_status {X : Cx} {h : Nat} {v : Vw} {y x : Int} {n m : Nat} {R : List Ar} {T E a s : Int} (hN : KN X) (hI : IM v T E) (ha : 0 ≤ a ∧ a < 100) (hs : (if a < v 6 0 then v 34 a else -77) = s) : Kl X h m_L_status 8 [va_rf (some h), .int (i32 a)] (v, (y, x), (n, m), R) (.inl (some (.int (i32 s)))) (v, (y, x + 1), (n, m), R) := by
  have k := w_status (h := h) (v := v) (y := y) (x := x) (n := n) (m := m) (R := R) (a := a) hN hI ⟨by omega, by omega⟩
  have e : qc cod_status (f_status a v) = (if a < v 6 0 then v 34 a else -77) := by
    unfold qc f_status
    by_cases z : a < v 6 0
    · rw [isO1 ⟨ha.1, z⟩, if_neg ne10, if_pos z]
      simp [upv]
    · rw [isO0 (fun q => z q.2), if_pos rfl, if_neg z]
      simp [upv, cod_status]
  rw [e, hs] at k
  exact k
theorem n_filledOn {X : Cx} {h : Nat} {v : Vw} {y x : Int} {n m : Nat} {R : List Ar} {T E a s : Int} (hN : KN X) (hI : IM v T E) (ha : 0 ≤ a ∧ a < 100) (hs : (if a < v 6 0 then (if v 34 a = 102 then v 35 a else -79) else -77) = s) : Kl X h m_L_filledOn 8 [va_rf (some h), .int (i32 a)] (v, (y, x), (n, m), R) (.inl (some (.int (i32 s)))) (v, (y, x + 1), (n, m), R) := by
  have k := w_filledOn (h := h) (v := v) (y := y) (x := x) (n := n) (m := m) (R := R) (a := a) hN hI ⟨by omega, by omega⟩
  have e : qc cod_filledOn (f_filledOn a v) = (if a < v 6 0 then (if v 34 a = 102 then v 35 a else -79) else -77) := by
    unfold qc f_filledOn
    by_cases z : a < v 6 0
    · rw [isO1 ⟨ha.1, z⟩, if_neg ne10, if_pos z]
      by_cases z2 : v 34 a = 102
      · simp [z2, upv]
      · simp [z2, upv, cod_filledOn]
    · rw [isO0 (fun q => z q.2), if_pos rfl, if_neg z]
      simp [upv, cod_filledOn]
  rw [e, hs] at k
  exact k
theorem n_deliveredBrew {X : Cx} {h : Nat} {v : Vw} {y x : Int} {n m : Nat} {R : List Ar} {T E a s : Int} (hN : KN X) (hI : IM v T E) (ha : 0 ≤ a ∧ a < v 9 0) (hs : v 44 a = s) : Kl X h m_L_deliveredBrew 8 [va_rf (some h), .int (i32 a)] (v, (y, x), (n, m), R) (.inl (some (.int (i32 s)))) (v, (y, x + 1), (n, m), R) := by
  have k := w_deliveredBrew (h := h) (v := v) (y := y) (x := x) (n := n) (m := m) (R := R) (a := a) hN hI ⟨by omega, by have q : v 9 0 ≤ 127 := (hI.2 9 0).2; omega⟩
  have e : qc cod_deliveredBrew (f_deliveredBrew a v) = v 44 a := by
    unfold qc f_deliveredBrew
    rw [(isD1 ha).1, if_neg ne10]
    exact if_pos (isD1 ha).2
  rw [e, hs] at k
  exact k
theorem n_deliveredOrder {X : Cx} {h : Nat} {v : Vw} {y x : Int} {n m : Nat} {R : List Ar} {T E a s : Int} (hN : KN X) (hI : IM v T E) (ha : 0 ≤ a ∧ a < v 9 0) (hs : v 45 a = s) : Kl X h m_L_deliveredOrder 8 [va_rf (some h), .int (i32 a)] (v, (y, x), (n, m), R) (.inl (some (.int (i32 s)))) (v, (y, x + 1), (n, m), R) := by
  have k := w_deliveredOrder (h := h) (v := v) (y := y) (x := x) (n := n) (m := m) (R := R) (a := a) hN hI ⟨by omega, by have q : v 9 0 ≤ 127 := (hI.2 9 0).2; omega⟩
  have e : qc cod_deliveredOrder (f_deliveredOrder a v) = v 45 a := by
    unfold qc f_deliveredOrder
    rw [(isD1 ha).1, if_neg ne10]
    exact if_pos (isD1 ha).2
  rw [e, hs] at k
  exact k
theorem n_deliveredUnits {X : Cx} {h : Nat} {v : Vw} {y x : Int} {n m : Nat} {R : List Ar} {T E a s : Int} (hN : KN X) (hI : IM v T E) (ha : 0 ≤ a ∧ a < v 9 0) (hs : v 46 a = s) : Kl X h m_L_deliveredUnits 8 [va_rf (some h), .int (i32 a)] (v, (y, x), (n, m), R) (.inl (some (.int (i32 s)))) (v, (y, x + 1), (n, m), R) := by
  have k := w_deliveredUnits (h := h) (v := v) (y := y) (x := x) (n := n) (m := m) (R := R) (a := a) hN hI ⟨by omega, by have q : v 9 0 ≤ 127 := (hI.2 9 0).2; omega⟩
  have e : qc cod_deliveredUnits (f_deliveredUnits a v) = v 46 a := by
    unfold qc f_deliveredUnits
    rw [(isD1 ha).1, if_neg ne10]
    exact if_pos (isD1 ha).2
  rw [e, hs] at k
  exact k
theorem n_stock {X : Cx} {h : Nat} {v : Vw} {y x : Int} {n m : Nat} {R : List Ar} {T E a s : Int} (hN : KN X) (hI : IM v T E) (ha : 0 ≤ a ∧ a < v 1 0) (hs : sI (F31 v a) (v 5 0).toNat = s) : Kl X h m_L_stock 8 [va_rf (some h), .int (i32 a)] (v, (y, x), (n, m), R) (.inl (some (.int (i32 s)))) (v, (y, x + 1), (n, m), R) := by
  have k := w_stock (h := h) (v := v) (y := y) (x := x) (n := n) (m := m) (R := R) (a := a) hN hI ⟨by omega, by have q : v 1 0 ≤ 5 := (hI.2 1 0).2; omega⟩
  have e : qc cod_stock (f_stock a v) = sI (F31 v a) (v 5 0).toNat := by
    have e0 : f_stock a v = (f_stockOf a (upv v 0 0 0), upv v 0 0 0) := by
      unfold f_stock
      rw [isR1 ha, isOne1]
      exact if_neg ne10
    unfold qc
    rw [e0]
    have e1 := stock_eq (v := upv v 0 0 0) (r := a) (hI.2 5 0).1
    show (if upv v 0 0 0 0 0 = 0 then f_stockOf a (upv v 0 0 0) else _) = _
    rw [if_pos (up00 v 0), e1]
    rfl
  rw [e, hs] at k
  exact k
theorem n_stockByDeliveries {X : Cx} {h : Nat} {v : Vw} {y x : Int} {n m : Nat} {R : List Ar} {T E a s : Int} (hN : KN X) (hI : IM v T E) (ha : 0 ≤ a ∧ a < v 1 0) (hs : sI (F31 v a) (v 5 0).toNat = s) : Kl X h m_L_stockByDeliveries 8 [va_rf (some h), .int (i32 a)] (v, (y, x), (n, m), R) (.inl (some (.int (i32 s)))) (v, (y, x + 1), (n, m), R) := by
  have k := w_stockByDeliveries (h := h) (v := v) (y := y) (x := x) (n := n) (m := m) (R := R) (a := a) hN hI ⟨by omega, by have q : v 1 0 ≤ 5 := (hI.2 1 0).2; omega⟩
  have e : qc cod_stockByDeliveries (f_stockByDeliveries a v) = sI (F31 v a) (v 5 0).toNat := by
    have e0 : f_stock a v = (f_stockOf a (upv v 0 0 0), upv v 0 0 0) := by
      unfold f_stock
      rw [isR1 ha, isOne1]
      exact if_neg ne10
    unfold qc f_stockByDeliveries
    rw [e0]
    have e1 := stock_eq (v := upv v 0 0 0) (r := a) (hI.2 5 0).1
    show (if upv v 0 0 0 0 0 = 0 then f_stockOf a (upv v 0 0 0) else _) = _
    rw [if_pos (up00 v 0), e1]
    rfl
  rw [e, hs] at k
  exact k
theorem n_queuedAt {X : Cx} {h : Nat} {v : Vw} {y x : Int} {n m : Nat} {R : List Ar} {T E a s : Int} (hN : KN X) (hI : IM v T E) (ha : 0 ≤ a ∧ a < v 7 0) (hs : v 39 a = s) : Kl X h m_L_queuedAt 8 [va_rf (some h), .int (i32 a)] (v, (y, x), (n, m), R) (.inl (some (.int (i32 s)))) (v, (y, x + 1), (n, m), R) := by
  have k := w_queuedAt (h := h) (v := v) (y := y) (x := x) (n := n) (m := m) (R := R) (a := a) hN hI ⟨by omega, by have q : v 7 0 ≤ 6 := (hI.2 7 0).2; omega⟩
  have e : qc cod_queuedAt (f_queuedAt a v) = v 39 a := by
    unfold qc f_queuedAt
    have e2 : f_in a 0 (v 7 0 - 1) = 1 := by
      rcases c_in a 0 (v 7 0 - 1) with q | q
      · exact q.1
      · exact absurd ⟨ha.1, by omega⟩ q.2
    rw [e2, if_neg ne10]
    exact if_pos (up00 v 0)
  rw [e, hs] at k
  exact k
