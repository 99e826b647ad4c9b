/-! the class, method by method: what it computes of its state, what it needs, its contract (written by wip/whole/mk33.py out of the decode rows) -/
def g_X0_init (b n r g : Int) (c : Cs) : Cs :=
  (cput (cput (cput (cput (cput (cput (cput c 3 3 b 102) 3 4 b 0) 3 5 b 0) 3 6 b (-1)) 3 0 b n) 3 1 b r) 3 2 b g)
theorem s_X0_init {X : Cx} {ρ : Hp} {b n r g : Int} {c : Cs} : Kc X ρ m_X0_init 1 [(3, b), (0, n), (109, r), (0, g)] c (.inl none) (g_X0_init b n r g c) := by
  refine Kc.of (by decide +kernel) rfl (Nat.le_of_ble_eq_true rfl) ?_
  refine Ec.aload_n (i := 0) dX0_init_0 rfl rfl (Nat.le_of_ble_eq_true rfl) ?_
  refine Ec.oinit ⟨Nat.le_of_ble_eq_true rfl, Nat.le_of_ble_eq_true rfl⟩ (tb3 (i := 110) rfl) (Nat.le_of_ble_eq_true rfl) (Nat.le_of_ble_eq_true rfl) dX0_init_1 ?_
  refine Ec.aload_n (i := 0) dX0_init_4 rfl rfl (Nat.le_of_ble_eq_true rfl) ?_
  refine Ec.bipush dX0_init_5 (by decide) ?_
  refine Ec.pI (ci := 3) (k := 3) rfl rfl (by decide) (by decide) (tb3 (i := 117) rfl) (Or.inl rfl) (Or.inl rfl) rfl rfl rfl dX0_init_7 ?_
  refine Ec.aload_n (i := 0) dX0_init_10 rfl rfl (Nat.le_of_ble_eq_true rfl) ?_
  refine Ec.const dX0_init_11 ?_
  refine Ec.pI (ci := 3) (k := 4) rfl rfl (by decide) (by decide) (tb3 (i := 120) rfl) (Or.inl rfl) (Or.inl rfl) rfl rfl rfl dX0_init_12 ?_
  refine Ec.aload_n (i := 0) dX0_init_15 rfl rfl (Nat.le_of_ble_eq_true rfl) ?_
  refine Ec.const dX0_init_16 ?_
  refine Ec.pI (ci := 3) (k := 5) rfl rfl (by decide) (by decide) (tb3 (i := 123) rfl) (Or.inl rfl) (Or.inl rfl) rfl rfl rfl dX0_init_17 ?_
  refine Ec.aload_n (i := 0) dX0_init_20 rfl rfl (Nat.le_of_ble_eq_true rfl) ?_
  refine Ec.null (t := 11) dX0_init_21 ?_
  refine Ec.pR (ci := 3) (k := 6) (t := 11) ⟨by decide, by decide, Or.inr rfl⟩ rfl rfl rfl (by decide) (by decide) (tb3 (i := 125) rfl) (Or.inl rfl) (Or.inl rfl) rfl dX0_init_22 ?_
  refine Ec.aload_n (i := 0) dX0_init_25 rfl rfl (Nat.le_of_ble_eq_true rfl) ?_
  refine Ec.iload_n (i := 1) dX0_init_26 rfl rfl ?_
  refine Ec.pI (ci := 3) (k := 0) rfl rfl (by decide) (by decide) (tb3 (i := 111) rfl) (Or.inl rfl) (Or.inr ⟨rfl, rfl⟩) rfl rfl rfl dX0_init_27 ?_
  refine Ec.aload_n (i := 0) dX0_init_30 rfl rfl (Nat.le_of_ble_eq_true rfl) ?_
  refine Ec.aload_n (i := 2) dX0_init_31 rfl rfl (Nat.le_of_ble_eq_true rfl) ?_
  refine Ec.pR (ci := 3) (k := 1) (t := 9) ⟨by decide, by decide, Or.inr rfl⟩ rfl rfl rfl (by decide) (by decide) (tb3 (i := 113) rfl) (Or.inl rfl) (Or.inr ⟨rfl, rfl⟩) rfl dX0_init_32 ?_
  refine Ec.aload_n (i := 0) dX0_init_35 rfl rfl (Nat.le_of_ble_eq_true rfl) ?_
  refine Ec.iload_n (i := 3) dX0_init_36 rfl rfl ?_
  refine Ec.pI (ci := 3) (k := 2) rfl rfl (by decide) (by decide) (tb3 (i := 115) rfl) (Or.inl rfl) (Or.inr ⟨rfl, rfl⟩) rfl rfl rfl dX0_init_37 ?_
  exact Ec.vret rfl dX0_init_40 rfl (by rw [g_X0_init])
def g_X0_isAtWork (b : Int) (c : Cs) : Int :=
  if (c.2.1 3 3 b) = 102 then
    1
  else
    if (c.2.1 3 3 b) = 109 then
      1
    else
      0
def ok_X0_isAtWork (b : Int) (c : Cs) : Prop :=
  R32 (c.2.1 3 3 b) ∧ (
    True)
theorem s_X0_isAtWork {X : Cx} {ρ : Hp} {b : Int} {c : Cs} (hok : ok_X0_isAtWork b c) : Kc X ρ m_X0_isAtWork 1 [(3, b)] c (.inl (some (0, (g_X0_isAtWork b c)))) c := by
  refine Kc.of (by decide +kernel) rfl (Nat.le_of_ble_eq_true rfl) ?_
  rw [ok_X0_isAtWork] at hok
  refine Ec.aload_n (i := 0) dX0_isAtWork_0 rfl rfl (Nat.le_of_ble_eq_true rfl) ?_
  refine Ec.gI (ci := 3) (k := 3) (c.2.1 3 3 b) rfl rfl (by decide) (by decide) (tb3 (i := 117) rfl) (Or.inl rfl) rfl dX0_isAtWork_1 ?_
  refine Ec.bipush dX0_isAtWork_4 (by decide) ?_
  obtain ⟨o1, hok⟩ := hok
  by_cases c2 : (c.2.1 3 3 b) = 102
  · refine Ec.icmp_eq_t (tgt := 18) dX0_isAtWork_6 (by decide) o1 ⟨by decide, by decide⟩ c2 ?_
    refine Ec.const dX0_isAtWork_18 ?_
    refine Ec.goto (tgt := 23) dX0_isAtWork_19 (by decide) ?_
    exact Ec.iret rfl rfl dX0_isAtWork_23 (by rw [g_X0_isAtWork, if_pos c2]) rfl
  · refine Ec.icmp_eq_f (tgt := 18) dX0_isAtWork_6 (by decide) o1 ⟨by decide, by decide⟩ c2 ?_
    refine Ec.aload_n (i := 0) dX0_isAtWork_9 rfl rfl (Nat.le_of_ble_eq_true rfl) ?_
    refine Ec.gI (ci := 3) (k := 3) (c.2.1 3 3 b) rfl rfl (by decide) (by decide) (tb3 (i := 117) rfl) (Or.inl rfl) rfl dX0_isAtWork_10 ?_
    refine Ec.bipush dX0_isAtWork_13 (by decide) ?_
    by_cases c3 : (c.2.1 3 3 b) = 109
    · refine Ec.icmp_ne_f (tgt := 22) dX0_isAtWork_15 (by decide) o1 ⟨by decide, by decide⟩ (fun h => h c3) ?_
      refine Ec.const dX0_isAtWork_18 ?_
      refine Ec.goto (tgt := 23) dX0_isAtWork_19 (by decide) ?_
      exact Ec.iret rfl rfl dX0_isAtWork_23 (by rw [g_X0_isAtWork, if_neg c2, if_pos c3]) rfl
    · refine Ec.icmp_ne_t (tgt := 22) dX0_isAtWork_15 (by decide) o1 ⟨by decide, by decide⟩ c3 ?_
      refine Ec.const dX0_isAtWork_22 ?_
      exact Ec.iret rfl rfl dX0_isAtWork_23 (by rw [g_X0_isAtWork, if_neg c2, if_neg c3]) rfl
theorem r_X0_isAtWork {b : Int} {c : Cs} : 0 ≤ (g_X0_isAtWork b c) ∧ (g_X0_isAtWork b c) ≤ 1 := by
  unfold g_X0_isAtWork
  repeat' split
  all_goals first | exact ⟨Int.le_refl 0, Int.zero_le_ofNat 1⟩ | exact ⟨Int.zero_le_ofNat 1, Int.le_refl 1⟩
def g_X0_holds (b r : Int) (c : Cs) : Int :=
  if (c.2.1 3 3 b) = 114 then
    if (c.2.1 3 1 b) = r then
      1
    else
      0
  else
    0
def ok_X0_holds (b r : Int) (c : Cs) : Prop :=
  R32 (c.2.1 3 3 b) ∧ (
    if (c.2.1 3 3 b) = 114 then
      (c.2.1 3 1 b) ≠ -1 ∧ (
        True)
    else
      True)
theorem s_X0_holds {X : Cx} {ρ : Hp} {b r : Int} {c : Cs} (hok : ok_X0_holds b r c) : Kc X ρ m_X0_holds 1 [(3, b), (109, r)] c (.inl (some (0, (g_X0_holds b r c)))) c := by
  refine Kc.of (by decide +kernel) rfl (Nat.le_of_ble_eq_true rfl) ?_
  rw [ok_X0_holds] at hok
  refine Ec.aload_n (i := 0) dX0_holds_0 rfl rfl (Nat.le_of_ble_eq_true rfl) ?_
  refine Ec.gI (ci := 3) (k := 3) (c.2.1 3 3 b) rfl rfl (by decide) (by decide) (tb3 (i := 117) rfl) (Or.inl rfl) rfl dX0_holds_1 ?_
  refine Ec.bipush dX0_holds_4 (by decide) ?_
  obtain ⟨o1, hok⟩ := hok
  by_cases c2 : (c.2.1 3 3 b) = 114
  · rw [if_pos c2] at hok
    refine Ec.icmp_ne_f (tgt := 21) dX0_holds_6 (by decide) o1 ⟨by decide, by decide⟩ (fun h => h c2) ?_
    refine Ec.aload_n (i := 0) dX0_holds_9 rfl rfl (Nat.le_of_ble_eq_true rfl) ?_
    refine Ec.gQ (ci := 3) (k := 1) (t := 9) (c.2.1 3 1 b) rfl rfl rfl (by decide) (by decide) (tb3 (i := 113) rfl) (Or.inl rfl) rfl dX0_holds_10 ?_
    obtain ⟨o3, hok⟩ := hok
    refine Ec.nns (t := 9) o3 (by decide) ?_
    refine Ec.aload_n (i := 1) dX0_holds_13 rfl rfl (Nat.le_of_ble_eq_true rfl) ?_
    by_cases c4 : (c.2.1 3 1 b) = r
    · refine Ec.acmp_ne_f (t := 9) (tgt := 21) ⟨by decide, by decide, Or.inl rfl⟩ ⟨by decide, by decide, Or.inr rfl⟩ dX0_holds_14 (by decide) (fun h => h c4) ?_
      refine Ec.const dX0_holds_17 ?_
      refine Ec.goto (tgt := 22) dX0_holds_18 (by decide) ?_
      exact Ec.iret rfl rfl dX0_holds_22 (by rw [g_X0_holds, if_pos c2, if_pos c4]) rfl
    · refine Ec.acmp_ne_t (t := 9) (tgt := 21) ⟨by decide, by decide, Or.inl rfl⟩ ⟨by decide, by decide, Or.inr rfl⟩ dX0_holds_14 (by decide) c4 ?_
      refine Ec.const dX0_holds_21 ?_
      exact Ec.iret rfl rfl dX0_holds_22 (by rw [g_X0_holds, if_pos c2, if_neg c4]) rfl
  · rw [if_neg c2] at hok
    refine Ec.icmp_ne_t (tgt := 21) dX0_holds_6 (by decide) o1 ⟨by decide, by decide⟩ c2 ?_
    refine Ec.const dX0_holds_21 ?_
    exact Ec.iret rfl rfl dX0_holds_22 (by rw [g_X0_holds, if_neg c2]) rfl
theorem r_X0_holds {b r : Int} {c : Cs} : 0 ≤ (g_X0_holds b r c) ∧ (g_X0_holds b r c) ≤ 1 := by
  unfold g_X0_holds
  repeat' split
  all_goals first | exact ⟨Int.le_refl 0, Int.zero_le_ofNat 1⟩ | exact ⟨Int.zero_le_ofNat 1, Int.le_refl 1⟩
def g_X0_becomeReady (b : Int) (c : Cs) : Cs :=
  (cput (cput c 3 3 b 114) 3 5 b 20)
theorem s_X0_becomeReady {X : Cx} {ρ : Hp} {b : Int} {c : Cs} : Kc X ρ m_X0_becomeReady 1 [(3, b)] c (.inl none) (g_X0_becomeReady b c) := by
  refine Kc.of (by decide +kernel) rfl (Nat.le_of_ble_eq_true rfl) ?_
  refine Ec.aload_n (i := 0) dX0_becomeReady_0 rfl rfl (Nat.le_of_ble_eq_true rfl) ?_
  refine Ec.bipush dX0_becomeReady_1 (by decide) ?_
  refine Ec.pI (ci := 3) (k := 3) rfl rfl (by decide) (by decide) (tb3 (i := 117) rfl) (Or.inl rfl) (Or.inl rfl) rfl rfl rfl dX0_becomeReady_3 ?_
  refine Ec.aload_n (i := 0) dX0_becomeReady_6 rfl rfl (Nat.le_of_ble_eq_true rfl) ?_
  refine Ec.bipush dX0_becomeReady_7 (by decide) ?_
  refine Ec.pI (ci := 3) (k := 5) rfl rfl (by decide) (by decide) (tb3 (i := 123) rfl) (Or.inl rfl) (Or.inl rfl) rfl rfl rfl dX0_becomeReady_9 ?_
  exact Ec.vret rfl dX0_becomeReady_12 rfl (by rw [g_X0_becomeReady])
def g_X0_mature (b : Int) (c : Cs) : Cs :=
  if (c.2.1 9 4 (c.2.1 3 1 b)) = 0 then
    (g_X0_becomeReady b (cput (cput c 3 3 b 109) 3 4 b (c.2.1 9 4 (c.2.1 3 1 b))))
  else
    (cput (cput c 3 3 b 109) 3 4 b (c.2.1 9 4 (c.2.1 3 1 b)))
def ok_X0_mature (b : Int) (c : Cs) : Prop :=
  (c.2.1 3 1 b) ≠ -1 ∧ (
    R32 (c.2.1 9 4 (c.2.1 3 1 b)) ∧ (
      True))
theorem s_X0_mature {X : Cx} {ρ : Hp} {b : Int} {c : Cs} (hok : ok_X0_mature b c) : Kc X ρ m_X0_mature 2 [(3, b)] c (.inl none) (g_X0_mature b c) := by
  refine Kc.of (by decide +kernel) rfl (Nat.le_of_ble_eq_true rfl) ?_
  rw [ok_X0_mature] at hok
  refine Ec.aload_n (i := 0) dX0_mature_0 rfl rfl (Nat.le_of_ble_eq_true rfl) ?_
  refine Ec.bipush dX0_mature_1 (by decide) ?_
  refine Ec.pI (ci := 3) (k := 3) rfl rfl (by decide) (by decide) (tb3 (i := 117) rfl) (Or.inl rfl) (Or.inl rfl) rfl rfl rfl dX0_mature_3 ?_
  refine Ec.aload_n (i := 0) dX0_mature_6 rfl rfl (Nat.le_of_ble_eq_true rfl) ?_
  refine Ec.aload_n (i := 0) dX0_mature_7 rfl rfl (Nat.le_of_ble_eq_true rfl) ?_
  refine Ec.gQ (ci := 3) (k := 1) (t := 9) (c.2.1 3 1 b) rfl rfl rfl (by decide) (by decide) (tb3 (i := 113) rfl) (Or.inl rfl) rfl dX0_mature_8 ?_
  obtain ⟨o1, hok⟩ := hok
  refine Ec.nns (t := 9) o1 (by decide) ?_
  refine Ec.gI (ci := 9) (k := 4) (c.2.1 9 4 (c.2.1 3 1 b)) rfl rfl (by decide) (by decide) (tb2 (i := 147) rfl) (Or.inl rfl) rfl dX0_mature_11 ?_
  refine Ec.pI (ci := 3) (k := 4) rfl rfl (by decide) (by decide) (tb3 (i := 120) rfl) (Or.inl rfl) (Or.inl rfl) rfl rfl rfl dX0_mature_14 ?_
  refine Ec.aload_n (i := 0) dX0_mature_17 rfl rfl (Nat.le_of_ble_eq_true rfl) ?_
  refine Ec.gI (ci := 3) (k := 4) ((c.2.1 9 4 (c.2.1 3 1 b))) (cput_eq (cput c 3 3 b 109) 3 4 b (c.2.1 9 4 (c.2.1 3 1 b))) rfl (by decide) (by decide) (tb3 (i := 120) rfl) (Or.inl rfl) rfl dX0_mature_18 ?_
  obtain ⟨o2, hok⟩ := hok
  by_cases c3 : (c.2.1 9 4 (c.2.1 3 1 b)) = 0
  · refine Ec.if_ne_f (tgt := 28) dX0_mature_21 (by decide) o2 (fun h => h c3) ?_
    refine Ec.aload_n (i := 0) dX0_mature_24 rfl rfl (Nat.le_of_ble_eq_true rfl) ?_
    refine Ec.cv (ci := 3) (as := []) k_X0_becomeReady rfl (by decide) (tb6 (i := 5) rfl) ki_X0_becomeReady kv_X0_becomeReady dX0_mature_25 rfl rfl (Nat.le_of_ble_eq_true rfl) (Nat.le_of_ble_eq_true rfl) s_X0_becomeReady ?_
    exact Ec.vret rfl dX0_mature_28 rfl (by rw [g_X0_mature, if_pos c3])
  · refine Ec.if_ne_t (tgt := 28) dX0_mature_21 (by decide) o2 c3 ?_
    exact Ec.vret rfl dX0_mature_28 rfl (by rw [g_X0_mature, if_neg c3])
def g_X1_init (e b o u : Int) (c : Cs) : Cs :=
  (cput (cput (cput c 4 0 e b) 4 1 e o) 4 2 e u)
theorem s_X1_init {X : Cx} {ρ : Hp} {e b o u : Int} {c : Cs} : Kc X ρ m_X1_init 1 [(4, e), (103, b), (105, o), (0, u)] c (.inl none) (g_X1_init e b o u c) := by
  refine Kc.of (by decide +kernel) rfl (Nat.le_of_ble_eq_true rfl) ?_
  refine Ec.aload_n (i := 0) dX1_init_0 rfl rfl (Nat.le_of_ble_eq_true rfl) ?_
  refine Ec.oinit ⟨Nat.le_of_ble_eq_true rfl, Nat.le_of_ble_eq_true rfl⟩ (tb6 (i := 40) rfl) (Nat.le_of_ble_eq_true rfl) (Nat.le_of_ble_eq_true rfl) dX1_init_1 ?_
  refine Ec.aload_n (i := 0) dX1_init_4 rfl rfl (Nat.le_of_ble_eq_true rfl) ?_
  refine Ec.aload_n (i := 1) dX1_init_5 rfl rfl (Nat.le_of_ble_eq_true rfl) ?_
  refine Ec.pR (ci := 4) (k := 0) (t := 3) ⟨by decide, by decide, Or.inr rfl⟩ rfl rfl rfl (by decide) (by decide) (tb6 (i := 41) rfl) (Or.inl rfl) (Or.inr ⟨rfl, rfl⟩) rfl dX1_init_6 ?_
  refine Ec.aload_n (i := 0) dX1_init_9 rfl rfl (Nat.le_of_ble_eq_true rfl) ?_
  refine Ec.aload_n (i := 2) dX1_init_10 rfl rfl (Nat.le_of_ble_eq_true rfl) ?_
  refine Ec.pR (ci := 4) (k := 1) (t := 5) ⟨by decide, by decide, Or.inr rfl⟩ rfl rfl rfl (by decide) (by decide) (tb6 (i := 43) rfl) (Or.inl rfl) (Or.inr ⟨rfl, rfl⟩) rfl dX1_init_11 ?_
  refine Ec.aload_n (i := 0) dX1_init_14 rfl rfl (Nat.le_of_ble_eq_true rfl) ?_
  refine Ec.iload_n (i := 3) dX1_init_15 rfl rfl ?_
  refine Ec.pI (ci := 4) (k := 2) rfl rfl (by decide) (by decide) (tb6 (i := 45) rfl) (Or.inl rfl) (Or.inr ⟨rfl, rfl⟩) rfl rfl rfl dX1_init_16 ?_
  exact Ec.vret rfl dX1_init_19 rfl (by rw [g_X1_init])
def g_X2_init (o n d : Int) (c : Cs) : Cs :=
  (cput (cput (cput (cput (cput (cnewl c) 5 2 o (c.1 2)) 5 3 o 111) 5 4 o 0) 5 0 o n) 5 1 o d)
theorem s_X2_init {X : Cx} {ρ : Hp} {o n d : Int} {c : Cs} : Kc X ρ m_X2_init 4 [(5, o), (0, n), (0, d)] c (.inl none) (g_X2_init o n d c) := by
  refine Kc.of (by decide +kernel) rfl (Nat.le_of_ble_eq_true rfl) ?_
  refine Ec.aload_n (i := 0) dX2_init_0 rfl rfl (Nat.le_of_ble_eq_true rfl) ?_
  refine Ec.oinit ⟨Nat.le_of_ble_eq_true rfl, Nat.le_of_ble_eq_true rfl⟩ (tb5 (i := 94) rfl) (Nat.le_of_ble_eq_true rfl) (Nat.le_of_ble_eq_true rfl) dX2_init_1 ?_
  refine Ec.aload_n (i := 0) dX2_init_4 rfl rfl (Nat.le_of_ble_eq_true rfl) ?_
  refine Ec.newl (tb5 (i := 95) rfl) (tb1 (i := 45) rfl) (tb1 (i := 4) rfl) (tb5 (i := 96) rfl) dX2_init_5 dX2_init_8 dX2_init_9 (Nat.le_of_ble_eq_true rfl) (Nat.le_of_ble_eq_true rfl) ?_
  refine Ec.pR (ci := 5) (k := 2) (t := 2) ⟨by decide, by decide, Or.inl rfl⟩ rfl rfl rfl (by decide) (by decide) (tb5 (i := 101) rfl) (Or.inl rfl) (Or.inr ⟨rfl, rfl⟩) rfl dX2_init_12 ?_
  refine Ec.aload_n (i := 0) dX2_init_15 rfl rfl (Nat.le_of_ble_eq_true rfl) ?_
  refine Ec.bipush dX2_init_16 (by decide) ?_
  refine Ec.pI (ci := 5) (k := 3) rfl rfl (by decide) (by decide) (tb5 (i := 103) rfl) (Or.inl rfl) (Or.inl rfl) rfl rfl rfl dX2_init_18 ?_
  refine Ec.aload_n (i := 0) dX2_init_21 rfl rfl (Nat.le_of_ble_eq_true rfl) ?_
  refine Ec.const dX2_init_22 ?_
  refine Ec.pI (ci := 5) (k := 4) rfl rfl (by decide) (by decide) (tb5 (i := 105) rfl) (Or.inl rfl) (Or.inl rfl) rfl rfl rfl dX2_init_23 ?_
  refine Ec.aload_n (i := 0) dX2_init_26 rfl rfl (Nat.le_of_ble_eq_true rfl) ?_
  refine Ec.iload_n (i := 1) dX2_init_27 rfl rfl ?_
  refine Ec.pI (ci := 5) (k := 0) rfl rfl (by decide) (by decide) (tb5 (i := 97) rfl) (Or.inl rfl) (Or.inr ⟨rfl, rfl⟩) rfl rfl rfl dX2_init_28 ?_
  refine Ec.aload_n (i := 0) dX2_init_31 rfl rfl (Nat.le_of_ble_eq_true rfl) ?_
  refine Ec.iload_n (i := 2) dX2_init_32 rfl rfl ?_
  refine Ec.pI (ci := 5) (k := 1) rfl rfl (by decide) (by decide) (tb5 (i := 99) rfl) (Or.inl rfl) (Or.inr ⟨rfl, rfl⟩) rfl rfl rfl dX2_init_33 ?_
  exact Ec.vret rfl dX2_init_36 rfl (by rw [g_X2_init])
def l_X2_allUnits_4 (o : Int) (c : Cs) : Nat → Int → Int → Int
  | 0, u, i => 0
  | n + 1, u, i =>
    if ((c.2.2.1 (17 + o)).length : Int) ≤ i then
      u
    else
      (l_X2_allUnits_4 o c n (u + (c.2.1 6 1 (lget (c.2.2.1 (17 + o)) i))) (i + 1))
def okl_X2_allUnits_4 (o : Int) (c : Cs) : Nat → Int → Int → Prop
  | 0, u, i => False
  | n + 1, u, i =>
    (c.2.1 5 2 o = 17 + o ∧ 0 ≤ o) ∧ (
      R32 i ∧ (
        if ((c.2.2.1 (17 + o)).length : Int) ≤ i then
          True
        else
          ((0 : Int) ≤ i ∧ i < ((c.2.2.1 (17 + o)).length : Int)) ∧ (
            (okl_X2_allUnits_4 o c n (u + (c.2.1 6 1 (lget (c.2.2.1 (17 + o)) i))) (i + 1)))))
theorem s_l_X2_allUnits_4 {X : Cx} {ρ : Hp} {o : Int} {c : Cs} : ∀ (n : Nat) (u i : Int), okl_X2_allUnits_4 o c n u i → Ec X ρ m_X2_allUnits 4 4 [some (5, o), some (0, u), some (0, i)] [] c (.inl (some (0, (l_X2_allUnits_4 o c n u i)))) c := by
  intro n
  induction n with
  | zero =>
    intro u i hok
    exact False.elim hok
  | succ n ih =>
    intro u i hok
    rw [okl_X2_allUnits_4] at hok
    refine Ec.iload_n (i := 2) dX2_allUnits_4 rfl rfl ?_
    refine Ec.aload_n (i := 0) dX2_allUnits_5 rfl rfl (Nat.le_of_ble_eq_true rfl) ?_
    obtain ⟨o1, hok⟩ := hok
    refine Ec.gL (ci := 5) (k := 2) (t := 2) (17 + o) (fun _ _ => ⟨o1.1, by omega⟩) rfl (by decide) rfl (by decide) (by decide) (tb5 (i := 101) rfl) (Or.inl rfl) rfl dX2_allUnits_6 ?_
    refine Ec.say (fun _ hL _ hs => ?_)
    have q2 : ((c.2.2.1 (17 + o)).length : Int) ≤ 200 := hL _ (hs.hd.r ⟨Nat.le_of_ble_eq_true rfl, Nat.le_of_ble_eq_true rfl⟩).2.1 (hs.hd.r ⟨Nat.le_of_ble_eq_true rfl, Nat.le_of_ble_eq_true rfl⟩).2.2
    refine Ec.cf (as := []) kf_Jx4a65c_size_8abf5 (tb5 (i := 168) rfl) dX2_allUnits_9 rfl rfl (Nat.le_of_ble_eq_true rfl) (Nat.le_of_ble_eq_true rfl) kl_size ?_
    obtain ⟨o3, hok⟩ := hok
    by_cases c4 : ((c.2.2.1 (17 + o)).length : Int) ≤ i
    · rw [if_pos c4] at hok
      refine Ec.icmp_ge_t (tgt := 42) dX2_allUnits_14 (by decide) o3 ⟨by omega, by omega⟩ c4 ?_
      refine Ec.iload_n (i := 1) dX2_allUnits_42 rfl rfl ?_
      exact Ec.iret rfl nar_i dX2_allUnits_43 (by rw [l_X2_allUnits_4, if_pos c4]) rfl
    · rw [if_neg c4] at hok
      refine Ec.icmp_ge_f (tgt := 42) dX2_allUnits_14 (by decide) o3 ⟨by omega, by omega⟩ c4 ?_
      refine Ec.iload_n (i := 1) dX2_allUnits_17 rfl rfl ?_
      refine Ec.aload_n (i := 0) dX2_allUnits_18 rfl rfl (Nat.le_of_ble_eq_true rfl) ?_
      refine Ec.gL (ci := 5) (k := 2) (t := 2) (17 + o) (fun _ _ => ⟨o1.1, by omega⟩) rfl (by decide) rfl (by decide) (by decide) (tb5 (i := 101) rfl) (Or.inl rfl) rfl dX2_allUnits_19 ?_
      refine Ec.iload_n (i := 2) dX2_allUnits_22 rfl rfl ?_
      obtain ⟨o5, hok⟩ := hok
      refine Ec.cf (as := [(0, i)]) kf_Jx4a65c_get_915e3 (tb5 (i := 170) rfl) dX2_allUnits_23 rfl rfl (Nat.le_of_ble_eq_true rfl) (Nat.le_of_ble_eq_true rfl) (kl_get (tel_part (by omega)) o5) ?_
      refine Ec.cast (ci := 6) rfl (by decide) (tb5 (i := 171) rfl) dX2_allUnits_28 ?_
      refine Ec.gI (ci := 6) (k := 1) (c.2.1 6 1 (lget (c.2.2.1 (17 + o)) i)) rfl rfl (by decide) (by decide) (tb5 (i := 128) rfl) (Or.inl rfl) rfl dX2_allUnits_31 ?_
      refine Ec.add dX2_allUnits_34 ?_
      refine Ec.istore_n (i := 1) dX2_allUnits_35 rfl (by decide) ?_
      refine Ec.inc dX2_allUnits_36 rfl (by decide) ?_
      refine Ec.goto (tgt := 4) dX2_allUnits_39 (by decide) ?_
      refine Ec.cnv (ls' := [some (5, o), some (0, (u + (c.2.1 6 1 (lget (c.2.2.1 (17 + o)) i)))), some (0, (i + 1))]) ⟨Or.inl rfl, ⟨Or.inl rfl, ⟨Or.inl rfl, trivial⟩⟩⟩ ?_
      rw [l_X2_allUnits_4, if_neg c4]
      exact ih (u + (c.2.1 6 1 (lget (c.2.2.1 (17 + o)) i))) (i + 1) hok
def g_X2_allUnits (o : Int) (c : Cs) : Int :=
  (l_X2_allUnits_4 o c fu 0 0)
def ok_X2_allUnits (o : Int) (c : Cs) : Prop :=
  (okl_X2_allUnits_4 o c fu 0 0)
theorem s_X2_allUnits {X : Cx} {ρ : Hp} {o : Int} {c : Cs} (hok : ok_X2_allUnits o c) : Kc X ρ m_X2_allUnits 4 [(5, o)] c (.inl (some (0, (g_X2_allUnits o c)))) c := by
  refine Kc.of (by decide +kernel) rfl (Nat.le_of_ble_eq_true rfl) ?_
  rw [ok_X2_allUnits] at hok
  refine Ec.const dX2_allUnits_0 ?_
  refine Ec.istore_n (i := 1) dX2_allUnits_1 rfl (by decide) ?_
  refine Ec.const dX2_allUnits_2 ?_
  refine Ec.istore_n (i := 2) dX2_allUnits_3 rfl (by decide) ?_
  refine Ec.cnv (ls' := [some (5, o), some (0, 0), some (0, 0)]) ⟨Or.inl rfl, ⟨Or.inl rfl, ⟨Or.inl rfl, trivial⟩⟩⟩ ?_
  rw [g_X2_allUnits]
  exact s_l_X2_allUnits_4 (o := o) (c := c)  fu 0 0 hok
def l_X2_unitsOf_4 (o r : Int) (c : Cs) : Nat → Int → Int → Int
  | 0, u, i => 0
  | n + 1, u, i =>
    if ((c.2.2.1 (17 + o)).length : Int) ≤ i then
      u
    else
      if (c.2.1 6 0 (lget (c.2.2.1 (17 + o)) i)) = r then
        (l_X2_unitsOf_4 o r c n (u + (c.2.1 6 1 (lget (c.2.2.1 (17 + o)) i))) (i + 1))
      else
        (l_X2_unitsOf_4 o r c n (u + 0) (i + 1))
def okl_X2_unitsOf_4 (o r : Int) (c : Cs) : Nat → Int → Int → Prop
  | 0, u, i => False
  | n + 1, u, i =>
    (c.2.1 5 2 o = 17 + o ∧ 0 ≤ o) ∧ (
      R32 i ∧ (
        if ((c.2.2.1 (17 + o)).length : Int) ≤ i then
          True
        else
          ((0 : Int) ≤ i ∧ i < ((c.2.2.1 (17 + o)).length : Int)) ∧ (
            if (c.2.1 6 0 (lget (c.2.2.1 (17 + o)) i)) = r then
              (okl_X2_unitsOf_4 o r c n (u + (c.2.1 6 1 (lget (c.2.2.1 (17 + o)) i))) (i + 1))
            else
              (okl_X2_unitsOf_4 o r c n (u + 0) (i + 1)))))
theorem s_l_X2_unitsOf_4 {X : Cx} {ρ : Hp} {o r : Int} {c : Cs} : ∀ (n : Nat) (u i : Int), okl_X2_unitsOf_4 o r c n u i → Ec X ρ m_X2_unitsOf 4 4 [some (5, o), some (109, r), some (0, u), some (0, i), none] [] c (.inl (some (0, (l_X2_unitsOf_4 o r c n u i)))) c := by
  intro n
  induction n with
  | zero =>
    intro u i hok
    exact False.elim hok
  | succ n ih =>
    intro u i hok
    rw [okl_X2_unitsOf_4] at hok
    refine Ec.iload_n (i := 3) dX2_unitsOf_4 rfl rfl ?_
    refine Ec.aload_n (i := 0) dX2_unitsOf_5 rfl rfl (Nat.le_of_ble_eq_true rfl) ?_
    obtain ⟨o1, hok⟩ := hok
    refine Ec.gL (ci := 5) (k := 2) (t := 2) (17 + o) (fun _ _ => ⟨o1.1, by omega⟩) rfl (by decide) rfl (by decide) (by decide) (tb5 (i := 101) rfl) (Or.inl rfl) rfl dX2_unitsOf_6 ?_
    refine Ec.say (fun _ hL _ hs => ?_)
    have q2 : ((c.2.2.1 (17 + o)).length : Int) ≤ 200 := hL _ (hs.hd.r ⟨Nat.le_of_ble_eq_true rfl, Nat.le_of_ble_eq_true rfl⟩).2.1 (hs.hd.r ⟨Nat.le_of_ble_eq_true rfl, Nat.le_of_ble_eq_true rfl⟩).2.2
    refine Ec.cf (as := []) kf_Jx4a65c_size_8abf5 (tb5 (i := 168) rfl) dX2_unitsOf_9 rfl rfl (Nat.le_of_ble_eq_true rfl) (Nat.le_of_ble_eq_true rfl) kl_size ?_
    obtain ⟨o3, hok⟩ := hok
    by_cases c4 : ((c.2.2.1 (17 + o)).length : Int) ≤ i
    · rw [if_pos c4] at hok
      refine Ec.icmp_ge_t (tgt := 59) dX2_unitsOf_14 (by decide) o3 ⟨by omega, by omega⟩ c4 ?_
      refine Ec.iload_n (i := 2) dX2_unitsOf_59 rfl rfl ?_
      exact Ec.iret rfl nar_i dX2_unitsOf_60 (by rw [l_X2_unitsOf_4, if_pos c4]) rfl
    · rw [if_neg c4] at hok
      refine Ec.icmp_ge_f (tgt := 59) dX2_unitsOf_14 (by decide) o3 ⟨by omega, by omega⟩ c4 ?_
      refine Ec.aload_n (i := 0) dX2_unitsOf_17 rfl rfl (Nat.le_of_ble_eq_true rfl) ?_
      refine Ec.gL (ci := 5) (k := 2) (t := 2) (17 + o) (fun _ _ => ⟨o1.1, by omega⟩) rfl (by decide) rfl (by decide) (by decide) (tb5 (i := 101) rfl) (Or.inl rfl) rfl dX2_unitsOf_18 ?_
      refine Ec.iload_n (i := 3) dX2_unitsOf_21 rfl rfl ?_
      obtain ⟨o5, hok⟩ := hok
      refine Ec.cf (as := [(0, i)]) kf_Jx4a65c_get_915e3 (tb5 (i := 170) rfl) dX2_unitsOf_22 rfl rfl (Nat.le_of_ble_eq_true rfl) (Nat.le_of_ble_eq_true rfl) (kl_get (tel_part (by omega)) o5) ?_
      refine Ec.cast (ci := 6) rfl (by decide) (tb5 (i := 171) rfl) dX2_unitsOf_27 ?_
      refine Ec.astore dX2_unitsOf_30 (by decide) (Nat.le_of_ble_eq_true rfl) ?_
      refine Ec.iload_n (i := 2) dX2_unitsOf_32 rfl rfl ?_
      refine Ec.aload dX2_unitsOf_33 rfl (Nat.le_of_ble_eq_true rfl) ?_
      refine Ec.gQ (ci := 6) (k := 0) (t := 9) (c.2.1 6 0 (lget (c.2.2.1 (17 + o)) i)) rfl rfl rfl (by decide) (by decide) (tb5 (i := 125) rfl) (Or.inl rfl) rfl dX2_unitsOf_35 ?_
      refine Ec.aload_n (i := 1) dX2_unitsOf_38 rfl rfl (Nat.le_of_ble_eq_true rfl) ?_
      by_cases c6 : (c.2.1 6 0 (lget (c.2.2.1 (17 + o)) i)) = r
      · rw [if_pos c6] at hok
        refine Ec.acmp_ne_f (t := 9) (tgt := 50) ⟨by decide, by decide, Or.inr rfl⟩ ⟨by decide, by decide, Or.inr rfl⟩ dX2_unitsOf_39 (by decide) (fun h => h c6) ?_
        refine Ec.aload dX2_unitsOf_42 rfl (Nat.le_of_ble_eq_true rfl) ?_
        refine Ec.gI (ci := 6) (k := 1) (c.2.1 6 1 (lget (c.2.2.1 (17 + o)) i)) rfl rfl (by decide) (by decide) (tb5 (i := 128) rfl) (Or.inl rfl) rfl dX2_unitsOf_44 ?_
        refine Ec.goto (tgt := 51) dX2_unitsOf_47 (by decide) ?_
        refine Ec.add dX2_unitsOf_51 ?_
        refine Ec.istore_n (i := 2) dX2_unitsOf_52 rfl (by decide) ?_
        refine Ec.inc dX2_unitsOf_53 rfl (by decide) ?_
        refine Ec.goto (tgt := 4) dX2_unitsOf_56 (by decide) ?_
        refine Ec.cnv (ls' := [some (5, o), some (109, r), some (0, (u + (c.2.1 6 1 (lget (c.2.2.1 (17 + o)) i)))), some (0, (i + 1)), none]) ⟨Or.inl rfl, ⟨Or.inl rfl, ⟨Or.inl rfl, ⟨Or.inl rfl, trivial⟩⟩⟩⟩ ?_
        rw [l_X2_unitsOf_4, if_neg c4, if_pos c6]
        exact ih (u + (c.2.1 6 1 (lget (c.2.2.1 (17 + o)) i))) (i + 1) hok
      · rw [if_neg c6] at hok
        refine Ec.acmp_ne_t (t := 9) (tgt := 50) ⟨by decide, by decide, Or.inr rfl⟩ ⟨by decide, by decide, Or.inr rfl⟩ dX2_unitsOf_39 (by decide) c6 ?_
        refine Ec.const dX2_unitsOf_50 ?_
        refine Ec.add dX2_unitsOf_51 ?_
        refine Ec.istore_n (i := 2) dX2_unitsOf_52 rfl (by decide) ?_
        refine Ec.inc dX2_unitsOf_53 rfl (by decide) ?_
        refine Ec.goto (tgt := 4) dX2_unitsOf_56 (by decide) ?_
        refine Ec.cnv (ls' := [some (5, o), some (109, r), some (0, (u + 0)), some (0, (i + 1)), none]) ⟨Or.inl rfl, ⟨Or.inl rfl, ⟨Or.inl rfl, ⟨Or.inl rfl, trivial⟩⟩⟩⟩ ?_
        rw [l_X2_unitsOf_4, if_neg c4, if_neg c6]
        exact ih (u + 0) (i + 1) hok
def g_X2_unitsOf (o r : Int) (c : Cs) : Int :=
  (l_X2_unitsOf_4 o r c fu 0 0)
def ok_X2_unitsOf (o r : Int) (c : Cs) : Prop :=
  (okl_X2_unitsOf_4 o r c fu 0 0)
theorem s_X2_unitsOf {X : Cx} {ρ : Hp} {o r : Int} {c : Cs} (hok : ok_X2_unitsOf o r c) : Kc X ρ m_X2_unitsOf 4 [(5, o), (109, r)] c (.inl (some (0, (g_X2_unitsOf o r c)))) c := by
  refine Kc.of (by decide +kernel) rfl (Nat.le_of_ble_eq_true rfl) ?_
  rw [ok_X2_unitsOf] at hok
  refine Ec.const dX2_unitsOf_0 ?_
  refine Ec.istore_n (i := 2) dX2_unitsOf_1 rfl (by decide) ?_
  refine Ec.const dX2_unitsOf_2 ?_
  refine Ec.istore_n (i := 3) dX2_unitsOf_3 rfl (by decide) ?_
  refine Ec.cnv (ls' := [some (5, o), some (109, r), some (0, 0), some (0, 0), none]) ⟨Or.inl rfl, ⟨Or.inl rfl, ⟨Or.inl rfl, ⟨Or.inl rfl, trivial⟩⟩⟩⟩ ?_
  rw [g_X2_unitsOf]
  exact s_l_X2_unitsOf_4 (o := o) (r := r) (c := c)  fu 0 0 hok
def g_X3_init (p r u : Int) (c : Cs) : Cs :=
  (cput (cput c 6 0 p r) 6 1 p u)
theorem s_X3_init {X : Cx} {ρ : Hp} {p r u : Int} {c : Cs} : Kc X ρ m_X3_init 1 [(6, p), (109, r), (0, u)] c (.inl none) (g_X3_init p r u c) := by
  refine Kc.of (by decide +kernel) rfl (Nat.le_of_ble_eq_true rfl) ?_
  refine Ec.aload_n (i := 0) dX3_init_0 rfl rfl (Nat.le_of_ble_eq_true rfl) ?_
  refine Ec.oinit ⟨Nat.le_of_ble_eq_true rfl, Nat.le_of_ble_eq_true rfl⟩ (tb5 (i := 123) rfl) (Nat.le_of_ble_eq_true rfl) (Nat.le_of_ble_eq_true rfl) dX3_init_1 ?_
  refine Ec.aload_n (i := 0) dX3_init_4 rfl rfl (Nat.le_of_ble_eq_true rfl) ?_
  refine Ec.aload_n (i := 1) dX3_init_5 rfl rfl (Nat.le_of_ble_eq_true rfl) ?_
  refine Ec.pR (ci := 6) (k := 0) (t := 9) ⟨by decide, by decide, Or.inr rfl⟩ rfl rfl rfl (by decide) (by decide) (tb5 (i := 124) rfl) (Or.inl rfl) (Or.inr ⟨rfl, rfl⟩) rfl dX3_init_6 ?_
  refine Ec.aload_n (i := 0) dX3_init_9 rfl rfl (Nat.le_of_ble_eq_true rfl) ?_
  refine Ec.iload_n (i := 2) dX3_init_10 rfl rfl ?_
  refine Ec.pI (ci := 6) (k := 1) rfl rfl (by decide) (by decide) (tb5 (i := 127) rfl) (Or.inl rfl) (Or.inr ⟨rfl, rfl⟩) rfl rfl rfl dX3_init_11 ?_
  exact Ec.vret rfl dX3_init_14 rfl (by rw [g_X3_init])
def g_X4_init (p g d : Int) (c : Cs) : Cs :=
  (cput (cput c 7 0 p g) 7 1 p d)
theorem s_X4_init {X : Cx} {ρ : Hp} {p g d : Int} {c : Cs} : Kc X ρ m_X4_init 1 [(7, p), (0, g), (0, d)] c (.inl none) (g_X4_init p g d c) := by
  refine Kc.of (by decide +kernel) rfl (Nat.le_of_ble_eq_true rfl) ?_
  refine Ec.aload_n (i := 0) dX4_init_0 rfl rfl (Nat.le_of_ble_eq_true rfl) ?_
  refine Ec.oinit ⟨Nat.le_of_ble_eq_true rfl, Nat.le_of_ble_eq_true rfl⟩ (tb5 (i := 214) rfl) (Nat.le_of_ble_eq_true rfl) (Nat.le_of_ble_eq_true rfl) dX4_init_1 ?_
  refine Ec.aload_n (i := 0) dX4_init_4 rfl rfl (Nat.le_of_ble_eq_true rfl) ?_
  refine Ec.iload_n (i := 1) dX4_init_5 rfl rfl ?_
  refine Ec.pI (ci := 7) (k := 0) rfl rfl (by decide) (by decide) (tb5 (i := 215) rfl) (Or.inl rfl) (Or.inr ⟨rfl, rfl⟩) rfl rfl rfl dX4_init_6 ?_
  refine Ec.aload_n (i := 0) dX4_init_9 rfl rfl (Nat.le_of_ble_eq_true rfl) ?_
  refine Ec.iload_n (i := 2) dX4_init_10 rfl rfl ?_
  refine Ec.pI (ci := 7) (k := 1) rfl rfl (by decide) (by decide) (tb5 (i := 217) rfl) (Or.inl rfl) (Or.inr ⟨rfl, rfl⟩) rfl rfl rfl dX4_init_11 ?_
  exact Ec.vret rfl dX4_init_14 rfl (by rw [g_X4_init])
def g_X4_isUsable (p d : Int) (c : Cs) : Int :=
  if ((c.2.1 7 1 p) + 10) < d then
    0
  else
    1
def ok_X4_isUsable (p d : Int) (c : Cs) : Prop :=
  R32 d ∧ (
    R32 ((c.2.1 7 1 p) + 10) ∧ (
      True))
theorem s_X4_isUsable {X : Cx} {ρ : Hp} {p d : Int} {c : Cs} (hok : ok_X4_isUsable p d c) : Kc X ρ m_X4_isUsable 1 [(7, p), (0, d)] c (.inl (some (0, (g_X4_isUsable p d c)))) c := by
  refine Kc.of (by decide +kernel) rfl (Nat.le_of_ble_eq_true rfl) ?_
  rw [ok_X4_isUsable] at hok
  refine Ec.iload_n (i := 1) dX4_isUsable_0 rfl rfl ?_
  refine Ec.aload_n (i := 0) dX4_isUsable_1 rfl rfl (Nat.le_of_ble_eq_true rfl) ?_
  refine Ec.gI (ci := 7) (k := 1) (c.2.1 7 1 p) rfl rfl (by decide) (by decide) (tb5 (i := 217) rfl) (Or.inl rfl) rfl dX4_isUsable_2 ?_
  refine Ec.bipush dX4_isUsable_5 (by decide) ?_
  refine Ec.add dX4_isUsable_7 ?_
  obtain ⟨o1, hok⟩ := hok
  obtain ⟨o2, hok⟩ := hok
  by_cases c3 : ((c.2.1 7 1 p) + 10) < d
  · refine Ec.icmp_gt_t (tgt := 15) dX4_isUsable_8 (by decide) o1 o2 c3 ?_
    refine Ec.const dX4_isUsable_15 ?_
    exact Ec.iret rfl rfl dX4_isUsable_16 (by rw [g_X4_isUsable, if_pos c3]) rfl
  · refine Ec.icmp_gt_f (tgt := 15) dX4_isUsable_8 (by decide) o1 o2 c3 ?_
    refine Ec.const dX4_isUsable_11 ?_
    refine Ec.goto (tgt := 16) dX4_isUsable_12 (by decide) ?_
    exact Ec.iret rfl rfl dX4_isUsable_16 (by rw [g_X4_isUsable, if_neg c3]) rfl
theorem r_X4_isUsable {p d : Int} {c : Cs} : 0 ≤ (g_X4_isUsable p d c) ∧ (g_X4_isUsable p d c) ≤ 1 := by
  unfold g_X4_isUsable
  repeat' split
  all_goals first | exact ⟨Int.le_refl 0, Int.zero_le_ofNat 1⟩ | exact ⟨Int.zero_le_ofNat 1, Int.le_refl 1⟩
def g_X6_init (r n s y f a : Int) (c : Cs) : Cs :=
  (cput (cput (cput (cput (cput c 9 0 r n) 9 1 r s) 9 2 r y) 9 3 r f) 9 4 r a)
theorem s_X6_init {X : Cx} {ρ : Hp} {r n s y f a : Int} {c : Cs} : Kc X ρ m_X6_init 1 [(9, r), (0, n), (0, s), (112, y), (0, f), (0, a)] c (.inl none) (g_X6_init r n s y f a c) := by
  refine Kc.of (by decide +kernel) rfl (Nat.le_of_ble_eq_true rfl) ?_
  refine Ec.aload_n (i := 0) dX6_init_0 rfl rfl (Nat.le_of_ble_eq_true rfl) ?_
  refine Ec.oinit ⟨Nat.le_of_ble_eq_true rfl, Nat.le_of_ble_eq_true rfl⟩ (tb2 (i := 136) rfl) (Nat.le_of_ble_eq_true rfl) (Nat.le_of_ble_eq_true rfl) dX6_init_1 ?_
  refine Ec.aload_n (i := 0) dX6_init_4 rfl rfl (Nat.le_of_ble_eq_true rfl) ?_
  refine Ec.iload_n (i := 1) dX6_init_5 rfl rfl ?_
  refine Ec.pI (ci := 9) (k := 0) rfl rfl (by decide) (by decide) (tb2 (i := 137) rfl) (Or.inl rfl) (Or.inr ⟨rfl, rfl⟩) rfl rfl rfl dX6_init_6 ?_
  refine Ec.aload_n (i := 0) dX6_init_9 rfl rfl (Nat.le_of_ble_eq_true rfl) ?_
  refine Ec.iload_n (i := 2) dX6_init_10 rfl rfl ?_
  refine Ec.pI (ci := 9) (k := 1) rfl rfl (by decide) (by decide) (tb2 (i := 140) rfl) (Or.inl rfl) (Or.inr ⟨rfl, rfl⟩) rfl rfl rfl dX6_init_11 ?_
  refine Ec.aload_n (i := 0) dX6_init_14 rfl rfl (Nat.le_of_ble_eq_true rfl) ?_
  refine Ec.aload_n (i := 3) dX6_init_15 rfl rfl (Nat.le_of_ble_eq_true rfl) ?_
  refine Ec.pR (ci := 9) (k := 2) (t := 12) ⟨by decide, by decide, Or.inr rfl⟩ rfl rfl rfl (by decide) (by decide) (tb2 (i := 143) rfl) (Or.inl rfl) (Or.inr ⟨rfl, rfl⟩) rfl dX6_init_16 ?_
  refine Ec.aload_n (i := 0) dX6_init_19 rfl rfl (Nat.le_of_ble_eq_true rfl) ?_
  refine Ec.iload dX6_init_20 rfl ?_
  refine Ec.pI (ci := 9) (k := 3) rfl rfl (by decide) (by decide) (tb2 (i := 145) rfl) (Or.inl rfl) (Or.inr ⟨rfl, rfl⟩) rfl rfl rfl dX6_init_22 ?_
  refine Ec.aload_n (i := 0) dX6_init_25 rfl rfl (Nat.le_of_ble_eq_true rfl) ?_
  refine Ec.iload dX6_init_26 rfl ?_
  refine Ec.pI (ci := 9) (k := 4) rfl rfl (by decide) (by decide) (tb2 (i := 146) rfl) (Or.inl rfl) (Or.inr ⟨rfl, rfl⟩) rfl rfl rfl dX6_init_28 ?_
  exact Ec.vret rfl dX6_init_31 rfl (by rw [g_X6_init])
def g_X6_fermentDaysAfter (r s : Int) (c : Cs) : Int :=
  if s = (-1) then
    (c.2.1 9 3 r)
  else
    if s = (c.2.1 9 1 r) then
      (c.2.1 9 3 r)
    else
      ((c.2.1 9 3 r) + 1)
def ok_X6_fermentDaysAfter (r s : Int) (c : Cs) : Prop :=
  R32 s ∧ (
    if s = (-1) then
      True
    else
      R32 (c.2.1 9 1 r) ∧ (
        True))
theorem s_X6_fermentDaysAfter {X : Cx} {ρ : Hp} {r s : Int} {c : Cs} (hok : ok_X6_fermentDaysAfter r s c) : Kc X ρ m_X6_fermentDaysAfter 1 [(9, r), (0, s)] c (.inl (some (0, (g_X6_fermentDaysAfter r s c)))) c := by
  refine Kc.of (by decide +kernel) rfl (Nat.le_of_ble_eq_true rfl) ?_
  rw [ok_X6_fermentDaysAfter] at hok
  refine Ec.iload_n (i := 1) dX6_fermentDaysAfter_0 rfl rfl ?_
  refine Ec.const dX6_fermentDaysAfter_1 ?_
  obtain ⟨o1, hok⟩ := hok
  by_cases c2 : s = (-1)
  · rw [if_pos c2] at hok
    refine Ec.icmp_eq_t (tgt := 17) dX6_fermentDaysAfter_2 (by decide) o1 ⟨by decide, by decide⟩ c2 ?_
    refine Ec.const dX6_fermentDaysAfter_17 ?_
    refine Ec.istore_n (i := 2) dX6_fermentDaysAfter_18 rfl (by decide) ?_
    refine Ec.iload_n (i := 2) dX6_fermentDaysAfter_19 rfl rfl ?_
    refine Ec.if_eq_t (tgt := 32) dX6_fermentDaysAfter_20 (by decide) ⟨by decide, by decide⟩ (by decide) ?_
    refine Ec.aload_n (i := 0) dX6_fermentDaysAfter_32 rfl rfl (Nat.le_of_ble_eq_true rfl) ?_
    refine Ec.gI (ci := 9) (k := 3) (c.2.1 9 3 r) rfl rfl (by decide) (by decide) (tb2 (i := 145) rfl) (Or.inl rfl) rfl dX6_fermentDaysAfter_33 ?_
    exact Ec.iret rfl nar_i dX6_fermentDaysAfter_36 (by rw [g_X6_fermentDaysAfter, if_pos c2]) rfl
  · rw [if_neg c2] at hok
    refine Ec.icmp_eq_f (tgt := 17) dX6_fermentDaysAfter_2 (by decide) o1 ⟨by decide, by decide⟩ c2 ?_
    refine Ec.iload_n (i := 1) dX6_fermentDaysAfter_5 rfl rfl ?_
    refine Ec.aload_n (i := 0) dX6_fermentDaysAfter_6 rfl rfl (Nat.le_of_ble_eq_true rfl) ?_
    refine Ec.gI (ci := 9) (k := 1) (c.2.1 9 1 r) rfl rfl (by decide) (by decide) (tb2 (i := 140) rfl) (Or.inl rfl) rfl dX6_fermentDaysAfter_7 ?_
    obtain ⟨o3, hok⟩ := hok
    by_cases c4 : s = (c.2.1 9 1 r)
    · refine Ec.icmp_eq_t (tgt := 17) dX6_fermentDaysAfter_10 (by decide) o1 o3 c4 ?_
      refine Ec.const dX6_fermentDaysAfter_17 ?_
      refine Ec.istore_n (i := 2) dX6_fermentDaysAfter_18 rfl (by decide) ?_
      refine Ec.iload_n (i := 2) dX6_fermentDaysAfter_19 rfl rfl ?_
      refine Ec.if_eq_t (tgt := 32) dX6_fermentDaysAfter_20 (by decide) ⟨by decide, by decide⟩ (by decide) ?_
      refine Ec.aload_n (i := 0) dX6_fermentDaysAfter_32 rfl rfl (Nat.le_of_ble_eq_true rfl) ?_
      refine Ec.gI (ci := 9) (k := 3) (c.2.1 9 3 r) rfl rfl (by decide) (by decide) (tb2 (i := 145) rfl) (Or.inl rfl) rfl dX6_fermentDaysAfter_33 ?_
      exact Ec.iret rfl nar_i dX6_fermentDaysAfter_36 (by rw [g_X6_fermentDaysAfter, if_neg c2, if_pos c4]) rfl
    · refine Ec.icmp_eq_f (tgt := 17) dX6_fermentDaysAfter_10 (by decide) o1 o3 c4 ?_
      refine Ec.const dX6_fermentDaysAfter_13 ?_
      refine Ec.goto (tgt := 18) dX6_fermentDaysAfter_14 (by decide) ?_
      refine Ec.istore_n (i := 2) dX6_fermentDaysAfter_18 rfl (by decide) ?_
      refine Ec.iload_n (i := 2) dX6_fermentDaysAfter_19 rfl rfl ?_
      refine Ec.if_eq_f (tgt := 32) dX6_fermentDaysAfter_20 (by decide) ⟨by decide, by decide⟩ (by decide) ?_
      refine Ec.aload_n (i := 0) dX6_fermentDaysAfter_23 rfl rfl (Nat.le_of_ble_eq_true rfl) ?_
      refine Ec.gI (ci := 9) (k := 3) (c.2.1 9 3 r) rfl rfl (by decide) (by decide) (tb2 (i := 145) rfl) (Or.inl rfl) rfl dX6_fermentDaysAfter_24 ?_
      refine Ec.const dX6_fermentDaysAfter_27 ?_
      refine Ec.add dX6_fermentDaysAfter_28 ?_
      refine Ec.goto (tgt := 36) dX6_fermentDaysAfter_29 (by decide) ?_
      exact Ec.iret rfl nar_i dX6_fermentDaysAfter_36 (by rw [g_X6_fermentDaysAfter, if_neg c2, if_neg c4]) rfl
def g_X7_init (q w : Int) (c : Cs) : Cs :=
  (cput (cput (cput c 10 1 q 0) 10 2 q (-1)) 10 0 q w)
theorem s_X7_init {X : Cx} {ρ : Hp} {q w : Int} {c : Cs} : Kc X ρ m_X7_init 1 [(10, q), (111, w)] c (.inl none) (g_X7_init q w c) := by
  refine Kc.of (by decide +kernel) rfl (Nat.le_of_ble_eq_true rfl) ?_
  refine Ec.aload_n (i := 0) dX7_init_0 rfl rfl (Nat.le_of_ble_eq_true rfl) ?_
  refine Ec.oinit ⟨Nat.le_of_ble_eq_true rfl, Nat.le_of_ble_eq_true rfl⟩ (tb2 (i := 205) rfl) (Nat.le_of_ble_eq_true rfl) (Nat.le_of_ble_eq_true rfl) dX7_init_1 ?_
  refine Ec.aload_n (i := 0) dX7_init_4 rfl rfl (Nat.le_of_ble_eq_true rfl) ?_
  refine Ec.const dX7_init_5 ?_
  refine Ec.pI (ci := 10) (k := 1) rfl rfl (by decide) (by decide) (tb2 (i := 207) rfl) (Or.inl rfl) (Or.inl rfl) rfl rfl rfl dX7_init_6 ?_
  refine Ec.aload_n (i := 0) dX7_init_9 rfl rfl (Nat.le_of_ble_eq_true rfl) ?_
  refine Ec.const dX7_init_10 ?_
  refine Ec.pI (ci := 10) (k := 2) rfl rfl (by decide) (by decide) (tb2 (i := 209) rfl) (Or.inl rfl) (Or.inl rfl) rfl rfl rfl dX7_init_11 ?_
  refine Ec.aload_n (i := 0) dX7_init_14 rfl rfl (Nat.le_of_ble_eq_true rfl) ?_
  refine Ec.aload_n (i := 1) dX7_init_15 rfl rfl (Nat.le_of_ble_eq_true rfl) ?_
  refine Ec.pR (ci := 10) (k := 0) (t := 11) ⟨by decide, by decide, Or.inr rfl⟩ rfl rfl rfl (by decide) (by decide) (tb2 (i := 206) rfl) (Or.inl rfl) (Or.inr ⟨rfl, rfl⟩) rfl dX7_init_16 ?_
  exact Ec.vret rfl dX7_init_19 rfl (by rw [g_X7_init])
def g_X8_init (w n k : Int) (c : Cs) : Cs :=
  (cput (cput (cput (cput (cput (cput c 11 2 w 99) 11 3 w 0) 11 4 w (-1)) 11 5 w (-1)) 11 0 w n) 11 1 w k)
def ok_X8_init (w n k : Int) (c : Cs) : Prop :=
  (0 ≤ k ∧ k < 65536) ∧ (
    True)
theorem s_X8_init {X : Cx} {ρ : Hp} {w n k : Int} {c : Cs} (hok : ok_X8_init w n k c) : Kc X ρ m_X8_init 1 [(11, w), (0, n), (0, k)] c (.inl none) (g_X8_init w n k c) := by
  refine Kc.of (by decide +kernel) rfl (Nat.le_of_ble_eq_true rfl) ?_
  rw [ok_X8_init] at hok
  refine Ec.aload_n (i := 0) dX8_init_0 rfl rfl (Nat.le_of_ble_eq_true rfl) ?_
  refine Ec.oinit ⟨Nat.le_of_ble_eq_true rfl, Nat.le_of_ble_eq_true rfl⟩ (tb2 (i := 173) rfl) (Nat.le_of_ble_eq_true rfl) (Nat.le_of_ble_eq_true rfl) dX8_init_1 ?_
  refine Ec.aload_n (i := 0) dX8_init_4 rfl rfl (Nat.le_of_ble_eq_true rfl) ?_
  refine Ec.bipush dX8_init_5 (by decide) ?_
  refine Ec.pI (ci := 11) (k := 2) rfl rfl (by decide) (by decide) (tb2 (i := 178) rfl) (Or.inl rfl) (Or.inl rfl) rfl rfl rfl dX8_init_7 ?_
  refine Ec.aload_n (i := 0) dX8_init_10 rfl rfl (Nat.le_of_ble_eq_true rfl) ?_
  refine Ec.const dX8_init_11 ?_
  refine Ec.pI (ci := 11) (k := 3) rfl rfl (by decide) (by decide) (tb2 (i := 180) rfl) (Or.inl rfl) (Or.inl rfl) rfl rfl rfl dX8_init_12 ?_
  refine Ec.aload_n (i := 0) dX8_init_15 rfl rfl (Nat.le_of_ble_eq_true rfl) ?_
  refine Ec.const dX8_init_16 ?_
  refine Ec.pI (ci := 11) (k := 4) rfl rfl (by decide) (by decide) (tb2 (i := 182) rfl) (Or.inl rfl) (Or.inl rfl) rfl rfl rfl dX8_init_17 ?_
  refine Ec.aload_n (i := 0) dX8_init_20 rfl rfl (Nat.le_of_ble_eq_true rfl) ?_
  refine Ec.null (t := 3) dX8_init_21 ?_
  refine Ec.pR (ci := 11) (k := 5) (t := 3) ⟨by decide, by decide, Or.inr rfl⟩ rfl rfl rfl (by decide) (by decide) (tb2 (i := 185) rfl) (Or.inl rfl) (Or.inl rfl) rfl dX8_init_22 ?_
  refine Ec.aload_n (i := 0) dX8_init_25 rfl rfl (Nat.le_of_ble_eq_true rfl) ?_
  refine Ec.iload_n (i := 1) dX8_init_26 rfl rfl ?_
  refine Ec.pI (ci := 11) (k := 0) rfl rfl (by decide) (by decide) (tb2 (i := 174) rfl) (Or.inl rfl) (Or.inr ⟨rfl, rfl⟩) rfl rfl rfl dX8_init_27 ?_
  refine Ec.aload_n (i := 0) dX8_init_30 rfl rfl (Nat.le_of_ble_eq_true rfl) ?_
  refine Ec.iload_n (i := 2) dX8_init_31 rfl rfl ?_
  obtain ⟨o1, hok⟩ := hok
  refine Ec.pI (ci := 11) (k := 1) rfl rfl (by decide) (by decide) (tb2 (i := 176) rfl) (Or.inl rfl) (Or.inr ⟨rfl, rfl⟩) rfl (nar_c o1.1 o1.2) (fit_c o1.1 o1.2) dX8_init_32 ?_
  exact Ec.vret rfl dX8_init_35 rfl (by rw [g_X8_init])
def g_X8_takeIn (w b : Int) (c : Cs) : Cs :=
  (cput (cput (cput c 11 2 w 117) 11 5 w b) 3 6 b w)
theorem s_X8_takeIn {X : Cx} {ρ : Hp} {w b : Int} {c : Cs} : Kc X ρ m_X8_takeIn 1 [(11, w), (3, b)] c (.inl none) (g_X8_takeIn w b c) := by
  refine Kc.of (by decide +kernel) rfl (Nat.le_of_ble_eq_true rfl) ?_
  refine Ec.aload_n (i := 0) dX8_takeIn_0 rfl rfl (Nat.le_of_ble_eq_true rfl) ?_
  refine Ec.bipush dX8_takeIn_1 (by decide) ?_
  refine Ec.pI (ci := 11) (k := 2) rfl rfl (by decide) (by decide) (tb2 (i := 178) rfl) (Or.inl rfl) (Or.inl rfl) rfl rfl rfl dX8_takeIn_3 ?_
  refine Ec.aload_n (i := 0) dX8_takeIn_6 rfl rfl (Nat.le_of_ble_eq_true rfl) ?_
  refine Ec.aload_n (i := 1) dX8_takeIn_7 rfl rfl (Nat.le_of_ble_eq_true rfl) ?_
  refine Ec.pR (ci := 11) (k := 5) (t := 3) ⟨by decide, by decide, Or.inl rfl⟩ rfl rfl rfl (by decide) (by decide) (tb2 (i := 185) rfl) (Or.inl rfl) (Or.inl rfl) rfl dX8_takeIn_8 ?_
  refine Ec.aload_n (i := 1) dX8_takeIn_11 rfl rfl (Nat.le_of_ble_eq_true rfl) ?_
  refine Ec.aload_n (i := 0) dX8_takeIn_12 rfl rfl (Nat.le_of_ble_eq_true rfl) ?_
  refine Ec.pR (ci := 3) (k := 6) (t := 11) ⟨by decide, by decide, Or.inl rfl⟩ rfl rfl rfl (by decide) (by decide) (tb3 (i := 126) rfl) (Or.inl rfl) (Or.inl rfl) rfl dX8_takeIn_13 ?_
  exact Ec.vret rfl dX8_takeIn_16 rfl (by rw [g_X8_takeIn])
def g_X8_daysUntilFree (w : Int) (c : Cs) : Int :=
  if (c.2.1 11 2 w) = 99 then
    0
  else
    if (c.2.1 11 2 w) = 103 then
      (c.2.1 11 3 w)
    else
      if (c.2.1 11 5 w) = -1 then
        2
      else
        if (c.2.1 3 3 (c.2.1 11 5 w)) = 102 then
          ((c.2.1 3 4 (c.2.1 11 5 w)) + 2)
        else
          2
def ok_X8_daysUntilFree (w : Int) (c : Cs) : Prop :=
  R32 (c.2.1 11 2 w) ∧ (
    if (c.2.1 11 2 w) = 99 then
      True
    else
      if (c.2.1 11 2 w) = 103 then
        True
      else
        if (c.2.1 11 5 w) = -1 then
          True
        else
          R32 (c.2.1 3 3 (c.2.1 11 5 w)) ∧ (
            True))
theorem s_X8_daysUntilFree {X : Cx} {ρ : Hp} {w : Int} {c : Cs} (hok : ok_X8_daysUntilFree w c) : Kc X ρ m_X8_daysUntilFree 1 [(11, w)] c (.inl (some (0, (g_X8_daysUntilFree w c)))) c := by
  refine Kc.of (by decide +kernel) rfl (Nat.le_of_ble_eq_true rfl) ?_
  rw [ok_X8_daysUntilFree] at hok
  refine Ec.aload_n (i := 0) dX8_daysUntilFree_0 rfl rfl (Nat.le_of_ble_eq_true rfl) ?_
  refine Ec.gI (ci := 11) (k := 2) (c.2.1 11 2 w) rfl rfl (by decide) (by decide) (tb2 (i := 178) rfl) (Or.inl rfl) rfl dX8_daysUntilFree_1 ?_
  refine Ec.bipush dX8_daysUntilFree_4 (by decide) ?_
  obtain ⟨o1, hok⟩ := hok
  by_cases c2 : (c.2.1 11 2 w) = 99
  · rw [if_pos c2] at hok
    refine Ec.icmp_ne_f (tgt := 11) dX8_daysUntilFree_6 (by decide) o1 ⟨by decide, by decide⟩ (fun h => h c2) ?_
    refine Ec.const dX8_daysUntilFree_9 ?_
    exact Ec.iret rfl nar_i dX8_daysUntilFree_10 (by rw [g_X8_daysUntilFree, if_pos c2]) rfl
  · rw [if_neg c2] at hok
    refine Ec.icmp_ne_t (tgt := 11) dX8_daysUntilFree_6 (by decide) o1 ⟨by decide, by decide⟩ c2 ?_
    refine Ec.aload_n (i := 0) dX8_daysUntilFree_11 rfl rfl (Nat.le_of_ble_eq_true rfl) ?_
    refine Ec.gI (ci := 11) (k := 2) (c.2.1 11 2 w) rfl rfl (by decide) (by decide) (tb2 (i := 178) rfl) (Or.inl rfl) rfl dX8_daysUntilFree_12 ?_
    refine Ec.bipush dX8_daysUntilFree_15 (by decide) ?_
    by_cases c3 : (c.2.1 11 2 w) = 103
    · rw [if_pos c3] at hok
      refine Ec.icmp_ne_f (tgt := 25) dX8_daysUntilFree_17 (by decide) o1 ⟨by decide, by decide⟩ (fun h => h c3) ?_
      refine Ec.aload_n (i := 0) dX8_daysUntilFree_20 rfl rfl (Nat.le_of_ble_eq_true rfl) ?_
      refine Ec.gI (ci := 11) (k := 3) (c.2.1 11 3 w) rfl rfl (by decide) (by decide) (tb2 (i := 180) rfl) (Or.inl rfl) rfl dX8_daysUntilFree_21 ?_
      exact Ec.iret rfl nar_i dX8_daysUntilFree_24 (by rw [g_X8_daysUntilFree, if_neg c2, if_pos c3]) rfl
    · rw [if_neg c3] at hok
      refine Ec.icmp_ne_t (tgt := 25) dX8_daysUntilFree_17 (by decide) o1 ⟨by decide, by decide⟩ c3 ?_
      refine Ec.aload_n (i := 0) dX8_daysUntilFree_25 rfl rfl (Nat.le_of_ble_eq_true rfl) ?_
      refine Ec.gQ (ci := 11) (k := 5) (t := 3) (c.2.1 11 5 w) rfl rfl rfl (by decide) (by decide) (tb2 (i := 185) rfl) (Or.inl rfl) rfl dX8_daysUntilFree_26 ?_
      by_cases c4 : (c.2.1 11 5 w) = -1
      · rw [if_pos c4] at hok
        refine Ec.ifnull_t (t := 3) (tgt := 54) dX8_daysUntilFree_29 (by decide) c4 ?_
        refine Ec.const dX8_daysUntilFree_54 ?_
        exact Ec.iret rfl nar_i dX8_daysUntilFree_55 (by rw [g_X8_daysUntilFree, if_neg c2, if_neg c3, if_pos c4]) rfl
      · rw [if_neg c4] at hok
        refine Ec.ifnull_f (t := 3) (tgt := 54) dX8_daysUntilFree_29 (by decide) c4 ?_
        refine Ec.aload_n (i := 0) dX8_daysUntilFree_32 rfl rfl (Nat.le_of_ble_eq_true rfl) ?_
        refine Ec.gQ (ci := 11) (k := 5) (t := 3) (c.2.1 11 5 w) rfl rfl rfl (by decide) (by decide) (tb2 (i := 185) rfl) (Or.inl rfl) rfl dX8_daysUntilFree_33 ?_
        refine Ec.nns (t := 3) c4 (by decide) ?_
        refine Ec.gI (ci := 3) (k := 3) (c.2.1 3 3 (c.2.1 11 5 w)) rfl rfl (by decide) (by decide) (tb3 (i := 118) rfl) (Or.inl rfl) rfl dX8_daysUntilFree_36 ?_
        refine Ec.bipush dX8_daysUntilFree_39 (by decide) ?_
        obtain ⟨o5, hok⟩ := hok
        by_cases c6 : (c.2.1 3 3 (c.2.1 11 5 w)) = 102
        · refine Ec.icmp_ne_f (tgt := 54) dX8_daysUntilFree_41 (by decide) o5 ⟨by decide, by decide⟩ (fun h => h c6) ?_
          refine Ec.aload_n (i := 0) dX8_daysUntilFree_44 rfl rfl (Nat.le_of_ble_eq_true rfl) ?_
          refine Ec.gQ (ci := 11) (k := 5) (t := 3) (c.2.1 11 5 w) rfl rfl rfl (by decide) (by decide) (tb2 (i := 185) rfl) (Or.inl rfl) rfl dX8_daysUntilFree_45 ?_
          refine Ec.nns (t := 3) c4 (by decide) ?_
          refine Ec.gI (ci := 3) (k := 4) (c.2.1 3 4 (c.2.1 11 5 w)) rfl rfl (by decide) (by decide) (tb3 (i := 121) rfl) (Or.inl rfl) rfl dX8_daysUntilFree_48 ?_
          refine Ec.const dX8_daysUntilFree_51 ?_
          refine Ec.add dX8_daysUntilFree_52 ?_
          exact Ec.iret rfl nar_i dX8_daysUntilFree_53 (by rw [g_X8_daysUntilFree, if_neg c2, if_neg c3, if_neg c4, if_pos c6]) rfl
        · refine Ec.icmp_ne_t (tgt := 54) dX8_daysUntilFree_41 (by decide) o5 ⟨by decide, by decide⟩ c6 ?_
          refine Ec.const dX8_daysUntilFree_54 ?_
          exact Ec.iret rfl nar_i dX8_daysUntilFree_55 (by rw [g_X8_daysUntilFree, if_neg c2, if_neg c3, if_neg c4, if_neg c6]) rfl
def g_X7_reset (q d : Int) (c : Cs) : Cs :=
  (cput (cput c 10 1 q (d + (g_X8_daysUntilFree (c.2.1 10 0 q) c))) 10 2 q (c.2.1 11 4 (c.2.1 10 0 q)))
def ok_X7_reset (q d : Int) (c : Cs) : Prop :=
  (c.2.1 10 0 q) ≠ -1 ∧ (
    ok_X8_daysUntilFree (c.2.1 10 0 q) c ∧ (
      True))
theorem s_X7_reset {X : Cx} {ρ : Hp} {q d : Int} {c : Cs} (hok : ok_X7_reset q d c) : Kc X ρ m_X7_reset 2 [(10, q), (0, d)] c (.inl none) (g_X7_reset q d c) := by
  refine Kc.of (by decide +kernel) rfl (Nat.le_of_ble_eq_true rfl) ?_
  rw [ok_X7_reset] at hok
  refine Ec.aload_n (i := 0) dX7_reset_0 rfl rfl (Nat.le_of_ble_eq_true rfl) ?_
  refine Ec.iload_n (i := 1) dX7_reset_1 rfl rfl ?_
  refine Ec.aload_n (i := 0) dX7_reset_2 rfl rfl (Nat.le_of_ble_eq_true rfl) ?_
  refine Ec.gQ (ci := 10) (k := 0) (t := 11) (c.2.1 10 0 q) rfl rfl rfl (by decide) (by decide) (tb2 (i := 206) rfl) (Or.inl rfl) rfl dX7_reset_3 ?_
  obtain ⟨o1, hok⟩ := hok
  refine Ec.nns (t := 11) o1 (by decide) ?_
  obtain ⟨o2, hok⟩ := hok
  refine Ec.cv (ci := 11) (as := []) k_X8_daysUntilFree rfl (by decide) (tb3 (i := 218) rfl) ki_X8_daysUntilFree kv_X8_daysUntilFree dX7_reset_6 rfl rfl (Nat.le_of_ble_eq_true rfl) (Nat.le_of_ble_eq_true rfl) (s_X8_daysUntilFree o2) ?_
  refine Ec.add dX7_reset_9 ?_
  refine Ec.pI (ci := 10) (k := 1) rfl rfl (by decide) (by decide) (tb2 (i := 207) rfl) (Or.inl rfl) (Or.inl rfl) rfl rfl rfl dX7_reset_10 ?_
  refine Ec.aload_n (i := 0) dX7_reset_13 rfl rfl (Nat.le_of_ble_eq_true rfl) ?_
  refine Ec.aload_n (i := 0) dX7_reset_14 rfl rfl (Nat.le_of_ble_eq_true rfl) ?_
  refine Ec.gQ (ci := 10) (k := 0) (t := 11) (c.2.1 10 0 q) rfl rfl rfl (by decide) (by decide) (tb2 (i := 206) rfl) (Or.inl rfl) rfl dX7_reset_15 ?_
  refine Ec.nns (t := 11) o1 (by decide) ?_
  refine Ec.gI (ci := 11) (k := 4) (c.2.1 11 4 (c.2.1 10 0 q)) rfl rfl (by decide) (by decide) (tb2 (i := 183) rfl) (Or.inl rfl) rfl dX7_reset_18 ?_
  refine Ec.pI (ci := 10) (k := 2) rfl rfl (by decide) (by decide) (tb2 (i := 209) rfl) (Or.inl rfl) (Or.inl rfl) rfl rfl rfl dX7_reset_21 ?_
  exact Ec.vret rfl dX7_reset_24 rfl (by rw [g_X7_reset])
def g_X7_plan (q r : Int) (c : Cs) : Int × Cs :=
  (((c.2.1 10 1 q) + (g_X6_fermentDaysAfter r (c.2.1 10 2 q) c)), (cput (cput c 10 2 q (c.2.1 9 1 r)) 10 1 q (((c.2.1 10 1 q) + (g_X6_fermentDaysAfter r (c.2.1 10 2 q) c)) + 2)))
def ok_X7_plan (q r : Int) (c : Cs) : Prop :=
  ok_X6_fermentDaysAfter r (c.2.1 10 2 q) c ∧ (
    True)
theorem s_X7_plan {X : Cx} {ρ : Hp} {q r : Int} {c : Cs} (hok : ok_X7_plan q r c) : Kc X ρ m_X7_plan 2 [(10, q), (9, r)] c (.inl (some (0, ((g_X7_plan q r c)).1))) ((g_X7_plan q r c)).2 := by
  refine Kc.of (by decide +kernel) rfl (Nat.le_of_ble_eq_true rfl) ?_
  rw [ok_X7_plan] at hok
  refine Ec.aload_n (i := 0) dX7_plan_0 rfl rfl (Nat.le_of_ble_eq_true rfl) ?_
  refine Ec.gI (ci := 10) (k := 1) (c.2.1 10 1 q) rfl rfl (by decide) (by decide) (tb2 (i := 207) rfl) (Or.inl rfl) rfl dX7_plan_1 ?_
  refine Ec.aload_n (i := 1) dX7_plan_4 rfl rfl (Nat.le_of_ble_eq_true rfl) ?_
  refine Ec.aload_n (i := 0) dX7_plan_5 rfl rfl (Nat.le_of_ble_eq_true rfl) ?_
  refine Ec.gI (ci := 10) (k := 2) (c.2.1 10 2 q) rfl rfl (by decide) (by decide) (tb2 (i := 209) rfl) (Or.inl rfl) rfl dX7_plan_6 ?_
  obtain ⟨o1, hok⟩ := hok
  refine Ec.cv (ci := 9) (as := [(0, (c.2.1 10 2 q))]) k_X6_fermentDaysAfter rfl (by decide) (tb3 (i := 231) rfl) ki_X6_fermentDaysAfter kv_X6_fermentDaysAfter dX7_plan_9 rfl rfl (Nat.le_of_ble_eq_true rfl) (Nat.le_of_ble_eq_true rfl) (s_X6_fermentDaysAfter o1) ?_
  refine Ec.add dX7_plan_12 ?_
  refine Ec.istore_n (i := 2) dX7_plan_13 rfl (by decide) ?_
  refine Ec.aload_n (i := 0) dX7_plan_14 rfl rfl (Nat.le_of_ble_eq_true rfl) ?_
  refine Ec.aload_n (i := 1) dX7_plan_15 rfl rfl (Nat.le_of_ble_eq_true rfl) ?_
  refine Ec.gI (ci := 9) (k := 1) (c.2.1 9 1 r) rfl rfl (by decide) (by decide) (tb2 (i := 141) rfl) (Or.inl rfl) rfl dX7_plan_16 ?_
  refine Ec.pI (ci := 10) (k := 2) rfl rfl (by decide) (by decide) (tb2 (i := 209) rfl) (Or.inl rfl) (Or.inl rfl) rfl rfl rfl dX7_plan_19 ?_
  refine Ec.aload_n (i := 0) dX7_plan_22 rfl rfl (Nat.le_of_ble_eq_true rfl) ?_
  refine Ec.iload_n (i := 2) dX7_plan_23 rfl rfl ?_
  refine Ec.const dX7_plan_24 ?_
  refine Ec.add dX7_plan_25 ?_
  refine Ec.pI (ci := 10) (k := 1) rfl rfl (by decide) (by decide) (tb2 (i := 207) rfl) (Or.inl rfl) (Or.inl rfl) rfl rfl rfl dX7_plan_26 ?_
  refine Ec.iload_n (i := 2) dX7_plan_29 rfl rfl ?_
  exact Ec.iret rfl nar_i dX7_plan_30 (by rw [g_X7_plan]) (by rw [g_X7_plan])
def l_X9_firstUsable_2 (s d : Int) (c : Cs) : Nat → Int → Int
  | 0, i => 0
  | n + 1, i =>
    if ((c.2.2.1 (13 + s)).length : Int) ≤ i then
      (-1)
    else
      if (g_X4_isUsable (lget (c.2.2.1 (13 + s)) i) d c) = 0 then
        (l_X9_firstUsable_2 s d c n (i + 1))
      else
        i
def okl_X9_firstUsable_2 (s d : Int) (c : Cs) : Nat → Int → Prop
  | 0, i => False
  | n + 1, i =>
    R32 i ∧ (
      if ((c.2.2.1 (13 + s)).length : Int) ≤ i then
        True
      else
        ((0 : Int) ≤ i ∧ i < ((c.2.2.1 (13 + s)).length : Int)) ∧ (
          ok_X4_isUsable (lget (c.2.2.1 (13 + s)) i) d c ∧ (
            if (g_X4_isUsable (lget (c.2.2.1 (13 + s)) i) d c) = 0 then
              (okl_X9_firstUsable_2 s d c n (i + 1))
            else
              True)))
theorem s_l_X9_firstUsable_2 {X : Cx} {ρ : Hp} {s d : Int} {c : Cs} : ∀ (n : Nat) (i : Int), okl_X9_firstUsable_2 s d c n i → Ec X ρ m_X9_firstUsable 4 2 [some (12, s), some (0, d), some (0, i)] [] c (.inl (some (0, (l_X9_firstUsable_2 s d c n i)))) c := by
  intro n
  induction n with
  | zero =>
    intro i hok
    exact False.elim hok
  | succ n ih =>
    intro i hok
    rw [okl_X9_firstUsable_2] at hok
    refine Ec.say (fun hF _ hl0 _ => ?_)
    have hy : 0 ≤ s ∧ s < 4 := yst_rg hF hl0 (i := 0) rfl
    refine Ec.iload_n (i := 2) dX9_firstUsable_2 rfl rfl ?_
    refine Ec.aload_n (i := 0) dX9_firstUsable_3 rfl rfl (Nat.le_of_ble_eq_true rfl) ?_
    refine Ec.gL (ci := 12) (k := 1) (t := 2) (13 + s) (fun h hr => ⟨h.2.2.2 _ hr.2.1 (by have := hr.2.2; have := h.1.2.2.2.1; omega), by have := hr.2.1; omega⟩) rfl (by decide) rfl (by decide) (by decide) (tb1 (i := 106) rfl) (Or.inl rfl) rfl dX9_firstUsable_4 ?_
    refine Ec.say (fun _ hL _ hs => ?_)
    have q1 : ((c.2.2.1 (13 + s)).length : Int) ≤ 200 := hL _ (hs.hd.r ⟨Nat.le_of_ble_eq_true rfl, Nat.le_of_ble_eq_true rfl⟩).2.1 (hs.hd.r ⟨Nat.le_of_ble_eq_true rfl, Nat.le_of_ble_eq_true rfl⟩).2.2
    refine Ec.cf (as := []) kf_Jx4a65c_size_8abf5 (tb3 (i := 59) rfl) dX9_firstUsable_7 rfl rfl (Nat.le_of_ble_eq_true rfl) (Nat.le_of_ble_eq_true rfl) kl_size ?_
    obtain ⟨o2, hok⟩ := hok
    by_cases c3 : ((c.2.2.1 (13 + s)).length : Int) ≤ i
    · rw [if_pos c3] at hok
      refine Ec.icmp_ge_t (tgt := 43) dX9_firstUsable_12 (by decide) o2 ⟨by omega, by omega⟩ c3 ?_
      refine Ec.const dX9_firstUsable_43 ?_
      exact Ec.iret rfl nar_i dX9_firstUsable_44 (by rw [l_X9_firstUsable_2, if_pos c3]) rfl
    · rw [if_neg c3] at hok
      refine Ec.icmp_ge_f (tgt := 43) dX9_firstUsable_12 (by decide) o2 ⟨by omega, by omega⟩ c3 ?_
      refine Ec.aload_n (i := 0) dX9_firstUsable_15 rfl rfl (Nat.le_of_ble_eq_true rfl) ?_
      refine Ec.gL (ci := 12) (k := 1) (t := 2) (13 + s) (fun h hr => ⟨h.2.2.2 _ hr.2.1 (by have := hr.2.2; have := h.1.2.2.2.1; omega), by have := hr.2.1; omega⟩) rfl (by decide) rfl (by decide) (by decide) (tb1 (i := 106) rfl) (Or.inl rfl) rfl dX9_firstUsable_16 ?_
      refine Ec.iload_n (i := 2) dX9_firstUsable_19 rfl rfl ?_
      obtain ⟨o4, hok⟩ := hok
      refine Ec.cf (as := [(0, i)]) kf_Jx4a65c_get_915e3 (tb3 (i := 61) rfl) dX9_firstUsable_20 rfl rfl (Nat.le_of_ble_eq_true rfl) (Nat.le_of_ble_eq_true rfl) (kl_get (tel_pitch (by omega) (by omega)) o4) ?_
      refine Ec.cast (ci := 7) rfl (by decide) (tb3 (i := 62) rfl) dX9_firstUsable_25 ?_
      refine Ec.iload_n (i := 1) dX9_firstUsable_28 rfl rfl ?_
      obtain ⟨o5, hok⟩ := hok
      refine Ec.cv (ci := 7) (as := [(0, d)]) k_X4_isUsable rfl (by decide) (tb3 (i := 63) rfl) ki_X4_isUsable kv_X4_isUsable dX9_firstUsable_29 rfl rfl (Nat.le_of_ble_eq_true rfl) (Nat.le_of_ble_eq_true rfl) (s_X4_isUsable o5) ?_
      have q6 : 0 ≤ (g_X4_isUsable (lget (c.2.2.1 (13 + s)) i) d c) ∧ (g_X4_isUsable (lget (c.2.2.1 (13 + s)) i) d c) ≤ 1 := r_X4_isUsable
      by_cases c7 : (g_X4_isUsable (lget (c.2.2.1 (13 + s)) i) d c) = 0
      · rw [if_pos c7] at hok
        refine Ec.if_eq_t (tgt := 37) dX9_firstUsable_32 (by decide) ⟨by omega, by omega⟩ c7 ?_
        refine Ec.inc dX9_firstUsable_37 rfl (by decide) ?_
        refine Ec.goto (tgt := 2) dX9_firstUsable_40 (by decide) ?_
        refine Ec.cnv (ls' := [some (12, s), some (0, d), some (0, (i + 1))]) ⟨Or.inl rfl, ⟨Or.inl rfl, ⟨Or.inl rfl, trivial⟩⟩⟩ ?_
        rw [l_X9_firstUsable_2, if_neg c3, if_pos c7]
        exact ih (i + 1) hok
      · rw [if_neg c7] at hok
        refine Ec.if_eq_f (tgt := 37) dX9_firstUsable_32 (by decide) ⟨by omega, by omega⟩ c7 ?_
        refine Ec.iload_n (i := 2) dX9_firstUsable_35 rfl rfl ?_
        exact Ec.iret rfl nar_i dX9_firstUsable_36 (by rw [l_X9_firstUsable_2, if_neg c3, if_neg c7]) rfl
def g_X9_firstUsable (s d : Int) (c : Cs) : Int :=
  (l_X9_firstUsable_2 s d c fu 0)
def ok_X9_firstUsable (s d : Int) (c : Cs) : Prop :=
  (okl_X9_firstUsable_2 s d c fu 0)
theorem s_X9_firstUsable {X : Cx} {ρ : Hp} {s d : Int} {c : Cs} (hok : ok_X9_firstUsable s d c) : Kc X ρ m_X9_firstUsable 4 [(12, s), (0, d)] c (.inl (some (0, (g_X9_firstUsable s d c)))) c := by
  refine Kc.of (by decide +kernel) rfl (Nat.le_of_ble_eq_true rfl) ?_
  rw [ok_X9_firstUsable] at hok
  refine Ec.say (fun hF _ hl0 _ => ?_)
  have hy : 0 ≤ s ∧ s < 4 := yst_rg hF hl0 (i := 0) rfl
  refine Ec.const dX9_firstUsable_0 ?_
  refine Ec.istore_n (i := 2) dX9_firstUsable_1 rfl (by decide) ?_
  refine Ec.cnv (ls' := [some (12, s), some (0, d), some (0, 0)]) ⟨Or.inl rfl, ⟨Or.inl rfl, ⟨Or.inl rfl, trivial⟩⟩⟩ ?_
  rw [g_X9_firstUsable]
  exact s_l_X9_firstUsable_2 (s := s) (d := d) (c := c)  fu 0 hok
def g_X9_isThere (s d : Int) (c : Cs) : Int :=
  if 0 < (c.2.1 12 0 s) then
    1
  else
    if (g_X9_firstUsable s d c) < 0 then
      0
    else
      1
def ok_X9_isThere (s d : Int) (c : Cs) : Prop :=
  R32 (c.2.1 12 0 s) ∧ (
    if 0 < (c.2.1 12 0 s) then
      True
    else
      ok_X9_firstUsable s d c ∧ (
        R32 (g_X9_firstUsable s d c) ∧ (
          True)))
theorem s_X9_isThere {X : Cx} {ρ : Hp} {s d : Int} {c : Cs} (hok : ok_X9_isThere s d c) : Kc X ρ m_X9_isThere 5 [(12, s), (0, d)] c (.inl (some (0, (g_X9_isThere s d c)))) c := by
  refine Kc.of (by decide +kernel) rfl (Nat.le_of_ble_eq_true rfl) ?_
  rw [ok_X9_isThere] at hok
  refine Ec.say (fun hF _ hl0 _ => ?_)
  have hy : 0 ≤ s ∧ s < 4 := yst_rg hF hl0 (i := 0) rfl
  refine Ec.aload_n (i := 0) dX9_isThere_0 rfl rfl (Nat.le_of_ble_eq_true rfl) ?_
  refine Ec.gI (ci := 12) (k := 0) (c.2.1 12 0 s) rfl rfl (by decide) (by decide) (tb1 (i := 104) rfl) (Or.inl rfl) rfl dX9_isThere_1 ?_
  obtain ⟨o1, hok⟩ := hok
  by_cases c2 : 0 < (c.2.1 12 0 s)
  · rw [if_pos c2] at hok
    refine Ec.if_gt_t (tgt := 15) dX9_isThere_4 (by decide) o1 c2 ?_
    refine Ec.const dX9_isThere_15 ?_
    refine Ec.goto (tgt := 20) dX9_isThere_16 (by decide) ?_
    exact Ec.iret rfl rfl dX9_isThere_20 (by rw [g_X9_isThere, if_pos c2]) rfl
  · rw [if_neg c2] at hok
    refine Ec.if_gt_f (tgt := 15) dX9_isThere_4 (by decide) o1 c2 ?_
    refine Ec.aload_n (i := 0) dX9_isThere_7 rfl rfl (Nat.le_of_ble_eq_true rfl) ?_
    refine Ec.iload_n (i := 1) dX9_isThere_8 rfl rfl ?_
    obtain ⟨o3, hok⟩ := hok
    refine Ec.cv (ci := 12) (as := [(0, d)]) k_X9_firstUsable rfl (by decide) (tb3 (i := 54) rfl) ki_X9_firstUsable kv_X9_firstUsable dX9_isThere_9 rfl rfl (Nat.le_of_ble_eq_true rfl) (Nat.le_of_ble_eq_true rfl) (s_X9_firstUsable o3) ?_
    obtain ⟨o4, hok⟩ := hok
    by_cases c5 : (g_X9_firstUsable s d c) < 0
    · refine Ec.if_lt_t (tgt := 19) dX9_isThere_12 (by decide) o4 c5 ?_
      refine Ec.const dX9_isThere_19 ?_
      exact Ec.iret rfl rfl dX9_isThere_20 (by rw [g_X9_isThere, if_neg c2, if_pos c5]) rfl
    · refine Ec.if_lt_f (tgt := 19) dX9_isThere_12 (by decide) o4 c5 ?_
      refine Ec.const dX9_isThere_15 ?_
      refine Ec.goto (tgt := 20) dX9_isThere_16 (by decide) ?_
      exact Ec.iret rfl rfl dX9_isThere_20 (by rw [g_X9_isThere, if_neg c2, if_neg c5]) rfl
theorem r_X9_isThere {s d : Int} {c : Cs} : 0 ≤ (g_X9_isThere s d c) ∧ (g_X9_isThere s d c) ≤ 1 := by
  unfold g_X9_isThere
  repeat' split
  all_goals first | exact ⟨Int.le_refl 0, Int.zero_le_ofNat 1⟩ | exact ⟨Int.zero_le_ofNat 1, Int.le_refl 1⟩
def g_X9_take (s d : Int) (c : Cs) : Int × Cs :=
  if (g_X9_firstUsable s d c) < 0 then
    (0, (cput c 12 0 s ((c.2.1 12 0 s) - 1)))
  else
    ((c.2.1 7 0 (lget (c.2.2.1 (13 + s)) (g_X9_firstUsable s d c))), (clst c (13 + s) (remL (c.2.2.1 (13 + s)) (g_X9_firstUsable s d c).toNat)))
def ok_X9_take (s d : Int) (c : Cs) : Prop :=
  ok_X9_firstUsable s d c ∧ (
    R32 (g_X9_firstUsable s d c) ∧ (
      if (g_X9_firstUsable s d c) < 0 then
        True
      else
        ((0 : Int) ≤ (g_X9_firstUsable s d c) ∧ (g_X9_firstUsable s d c) < ((c.2.2.1 (13 + s)).length : Int)) ∧ (
          True)))
theorem s_X9_take {X : Cx} {ρ : Hp} {s d : Int} {c : Cs} (hok : ok_X9_take s d c) : Kc X ρ m_X9_take 5 [(12, s), (0, d)] c (.inl (some (0, ((g_X9_take s d c)).1))) ((g_X9_take s d c)).2 := by
  refine Kc.of (by decide +kernel) rfl (Nat.le_of_ble_eq_true rfl) ?_
  rw [ok_X9_take] at hok
  refine Ec.say (fun hF _ hl0 _ => ?_)
  have hy : 0 ≤ s ∧ s < 4 := yst_rg hF hl0 (i := 0) rfl
  refine Ec.aload_n (i := 0) dX9_take_0 rfl rfl (Nat.le_of_ble_eq_true rfl) ?_
  refine Ec.iload_n (i := 1) dX9_take_1 rfl rfl ?_
  obtain ⟨o1, hok⟩ := hok
  refine Ec.cv (ci := 12) (as := [(0, d)]) k_X9_firstUsable rfl (by decide) (tb3 (i := 54) rfl) ki_X9_firstUsable kv_X9_firstUsable dX9_take_2 rfl rfl (Nat.le_of_ble_eq_true rfl) (Nat.le_of_ble_eq_true rfl) (s_X9_firstUsable o1) ?_
  refine Ec.istore_n (i := 2) dX9_take_5 rfl (by decide) ?_
  refine Ec.iload_n (i := 2) dX9_take_6 rfl rfl ?_
  obtain ⟨o2, hok⟩ := hok
  by_cases c3 : (g_X9_firstUsable s d c) < 0
  · rw [if_pos c3] at hok
    refine Ec.if_lt_t (tgt := 27) dX9_take_7 (by decide) o2 c3 ?_
    refine Ec.aload_n (i := 0) dX9_take_27 rfl rfl (Nat.le_of_ble_eq_true rfl) ?_
    refine Ec.dup dX9_take_28 ?_
    refine Ec.gI (ci := 12) (k := 0) (c.2.1 12 0 s) rfl rfl (by decide) (by decide) (tb1 (i := 104) rfl) (Or.inl rfl) rfl dX9_take_29 ?_
    refine Ec.const dX9_take_32 ?_
    refine Ec.sub dX9_take_33 ?_
    refine Ec.pI (ci := 12) (k := 0) rfl rfl (by decide) (by decide) (tb1 (i := 104) rfl) (Or.inl rfl) (Or.inl rfl) rfl rfl rfl dX9_take_34 ?_
    refine Ec.const dX9_take_37 ?_
    exact Ec.iret rfl nar_i dX9_take_38 (by rw [g_X9_take, if_pos c3]) (by rw [g_X9_take, if_pos c3])
  · rw [if_neg c3] at hok
    refine Ec.if_lt_f (tgt := 27) dX9_take_7 (by decide) o2 c3 ?_
    refine Ec.aload_n (i := 0) dX9_take_10 rfl rfl (Nat.le_of_ble_eq_true rfl) ?_
    refine Ec.gL (ci := 12) (k := 1) (t := 2) (13 + s) (fun h hr => ⟨h.2.2.2 _ hr.2.1 (by have := hr.2.2; have := h.1.2.2.2.1; omega), by have := hr.2.1; omega⟩) rfl (by decide) rfl (by decide) (by decide) (tb1 (i := 106) rfl) (Or.inl rfl) rfl dX9_take_11 ?_
    refine Ec.iload_n (i := 2) dX9_take_14 rfl rfl ?_
    obtain ⟨o4, hok⟩ := hok
    refine Ec.cf (as := [(0, (g_X9_firstUsable s d c))]) (c1 := (clst c (13 + s) (remL (c.2.2.1 (13 + s)) (g_X9_firstUsable s d c).toNat))) kf_Jx4a65c_remove_915e3 (tb3 (i := 94) rfl) dX9_take_15 rfl rfl (Nat.le_of_ble_eq_true rfl) (Nat.le_of_ble_eq_true rfl) (kl_rem (tel_pitch (by omega) (by omega)) o4) ?_
    refine Ec.cast (ci := 7) rfl (by decide) (tb3 (i := 62) rfl) dX9_take_20 ?_
    refine Ec.gI (ci := 7) (k := 0) (c.2.1 7 0 (lget (c.2.2.1 (13 + s)) (g_X9_firstUsable s d c))) rfl rfl (by decide) (by decide) (tb5 (i := 216) rfl) (Or.inl rfl) rfl dX9_take_23 ?_
    exact Ec.iret rfl nar_i dX9_take_26 (by rw [g_X9_take, if_neg c3]) (by rw [g_X9_take, if_neg c3])
def l_X9_harvest_7 (s g d : Int) : Nat → Int → Cs → Cs
  | 0, i, c => c
  | n + 1, i, c =>
    if 2 ≤ i then
      c
    else
      (l_X9_harvest_7 s g d n (i + 1) (clst (g_X4_init (c.1 7) g d (cnew c 7)) (13 + s) ((g_X4_init (c.1 7) g d (cnew c 7)).2.2.1 (13 + s) ++ [c.1 7])))
def okl_X9_harvest_7 (s g d : Int) : Nat → Int → Cs → Prop
  | 0, i, c => False
  | n + 1, i, c =>
    R32 i ∧ (
      if 2 ≤ i then
        True
      else
        (((g_X4_init (c.1 7) g d (cnew c 7)).2.2.1 (13 + s)).length : Int) ≤ 199 ∧ (
          (okl_X9_harvest_7 s g d n (i + 1) (clst (g_X4_init (c.1 7) g d (cnew c 7)) (13 + s) ((g_X4_init (c.1 7) g d (cnew c 7)).2.2.1 (13 + s) ++ [c.1 7])))))
theorem s_l_X9_harvest_7 {X : Cx} {ρ : Hp} {s g d : Int} : ∀ (n : Nat) (i : Int) (c : Cs), okl_X9_harvest_7 s g d n i c → Ec X ρ m_X9_harvest 7 7 [some (12, s), some (0, g), some (0, d), some (0, i)] [] c (.inl none) (l_X9_harvest_7 s g d n i c) := by
  intro n
  induction n with
  | zero =>
    intro i c hok
    exact False.elim hok
  | succ n ih =>
    intro i c hok
    rw [okl_X9_harvest_7] at hok
    refine Ec.say (fun hF _ hl0 _ => ?_)
    have hy : 0 ≤ s ∧ s < 4 := yst_rg hF hl0 (i := 0) rfl
    refine Ec.iload_n (i := 3) dX9_harvest_7 rfl rfl ?_
    refine Ec.const dX9_harvest_8 ?_
    obtain ⟨o1, hok⟩ := hok
    by_cases c2 : 2 ≤ i
    · rw [if_pos c2] at hok
      refine Ec.icmp_ge_t (tgt := 37) dX9_harvest_9 (by decide) o1 ⟨by decide, by decide⟩ c2 ?_
      exact Ec.vret rfl dX9_harvest_37 rfl (by rw [l_X9_harvest_7, if_pos c2])
    · rw [if_neg c2] at hok
      refine Ec.icmp_ge_f (tgt := 37) dX9_harvest_9 (by decide) o1 ⟨by decide, by decide⟩ c2 ?_
      refine Ec.aload_n (i := 0) dX9_harvest_12 rfl rfl (Nat.le_of_ble_eq_true rfl) ?_
      refine Ec.gL (ci := 12) (k := 1) (t := 2) (13 + s) (fun h hr => ⟨h.2.2.2 _ hr.2.1 (by have := hr.2.2; have := h.1.2.2.2.1; omega), by have := hr.2.1; omega⟩) rfl (by decide) rfl (by decide) (by decide) (tb1 (i := 106) rfl) (Or.inl rfl) rfl dX9_harvest_13 ?_
      refine Ec.new (ci := 7) rfl (by decide) (by decide) (by decide) (tb3 (i := 62) rfl) (tb5 (i := 210) rfl) (tb1 (i := 34) rfl) dX9_harvest_16 ?_
      refine Ec.dup dX9_harvest_19 ?_
      refine Ec.iload_n (i := 1) dX9_harvest_20 rfl rfl ?_
      refine Ec.iload_n (i := 2) dX9_harvest_21 rfl rfl ?_
      refine Ec.ci (as := [(0, g), (0, d)]) k_X4_init rfl rfl (by decide) (tb5 (i := 211) rfl) ki_X4_init dX9_harvest_22 rfl rfl (Nat.le_of_ble_eq_true rfl) (Nat.le_of_ble_eq_true rfl) s_X4_init ?_
      obtain ⟨o3, hok⟩ := hok
      refine Ec.cf (as := [(7, c.1 7)]) (c1 := (clst (g_X4_init (c.1 7) g d (cnew c 7)) (13 + s) ((g_X4_init (c.1 7) g d (cnew c 7)).2.2.1 (13 + s) ++ [c.1 7]))) kf_Jx4a65c_add_9ea2d (tb5 (i := 224) rfl) dX9_harvest_25 rfl rfl (Nat.le_of_ble_eq_true rfl) (Nat.le_of_ble_eq_true rfl) (kl_add (tel_pitch (by omega) (by omega)) o3 (by decide)) ?_
      refine Ec.pop dX9_harvest_30 ?_
      refine Ec.inc dX9_harvest_31 rfl (by decide) ?_
      refine Ec.goto (tgt := 7) dX9_harvest_34 (by decide) ?_
      refine Ec.cnv (ls' := [some (12, s), some (0, g), some (0, d), some (0, (i + 1))]) ⟨Or.inl rfl, ⟨Or.inl rfl, ⟨Or.inl rfl, ⟨Or.inl rfl, trivial⟩⟩⟩⟩ ?_
      rw [l_X9_harvest_7, if_neg c2]
      exact ih (i + 1) (clst (g_X4_init (c.1 7) g d (cnew c 7)) (13 + s) ((g_X4_init (c.1 7) g d (cnew c 7)).2.2.1 (13 + s) ++ [c.1 7])) hok
def g_X9_harvest (s g d : Int) (c : Cs) : Cs :=
  if 4 < g then
    c
  else
    (l_X9_harvest_7 s g d fu 0 c)
def ok_X9_harvest (s g d : Int) (c : Cs) : Prop :=
  R32 g ∧ (
    if 4 < g then
      True
    else
      (okl_X9_harvest_7 s g d fu 0 c))
theorem s_X9_harvest {X : Cx} {ρ : Hp} {s g d : Int} {c : Cs} (hok : ok_X9_harvest s g d c) : Kc X ρ m_X9_harvest 7 [(12, s), (0, g), (0, d)] c (.inl none) (g_X9_harvest s g d c) := by
  refine Kc.of (by decide +kernel) rfl (Nat.le_of_ble_eq_true rfl) ?_
  rw [ok_X9_harvest] at hok
  refine Ec.say (fun hF _ hl0 _ => ?_)
  have hy : 0 ≤ s ∧ s < 4 := yst_rg hF hl0 (i := 0) rfl
  refine Ec.iload_n (i := 1) dX9_harvest_0 rfl rfl ?_
  refine Ec.const dX9_harvest_1 ?_
  obtain ⟨o4, hok⟩ := hok
  by_cases c5 : 4 < g
  · rw [if_pos c5] at hok
    refine Ec.icmp_gt_t (tgt := 37) dX9_harvest_2 (by decide) o4 ⟨by decide, by decide⟩ c5 ?_
    exact Ec.vret rfl dX9_harvest_37 rfl (by rw [g_X9_harvest, if_pos c5])
  · rw [if_neg c5] at hok
    refine Ec.icmp_gt_f (tgt := 37) dX9_harvest_2 (by decide) o4 ⟨by decide, by decide⟩ c5 ?_
    refine Ec.const dX9_harvest_5 ?_
    refine Ec.istore_n (i := 3) dX9_harvest_6 rfl (by decide) ?_
    refine Ec.cnv (ls' := [some (12, s), some (0, g), some (0, d), some (0, 0)]) ⟨Or.inl rfl, ⟨Or.inl rfl, ⟨Or.inl rfl, ⟨Or.inl rfl, trivial⟩⟩⟩⟩ ?_
    rw [g_X9_harvest, if_neg c5]
    exact s_l_X9_harvest_7 (s := s) (g := g) (d := d)  fu 0 c hok
