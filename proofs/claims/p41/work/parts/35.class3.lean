/-! the class: what its calls look up and test, what is done when a day passes (written by wip/whole/mk33.py) -/
def g_X10_isOutside (x a b : Int) (c : Cs) : Int :=
  if x < a then
    1
  else
    if x ≤ b then
      0
    else
      1
def ok_X10_isOutside (x a b : Int) (c : Cs) : Prop :=
  R32 x ∧ (
    R32 a ∧ (
      if x < a then
        True
      else
        R32 b ∧ (
          True)))
theorem s_X10_isOutside {X : Cx} {ρ : Hp} {x a b : Int} {c : Cs} (hok : ok_X10_isOutside x a b c) : Kc X ρ m_X10_isOutside 1 [(0, x), (0, a), (0, b)] c (.inl (some (0, (g_X10_isOutside x a b c)))) c := by
  refine Kc.of (by decide +kernel) rfl (Nat.le_of_ble_eq_true rfl) ?_
  rw [ok_X10_isOutside] at hok
  refine Ec.iload_n (i := 0) dX10_isOutside_0 rfl rfl ?_
  refine Ec.iload_n (i := 1) dX10_isOutside_1 rfl rfl ?_
  obtain ⟨o1, hok⟩ := hok
  obtain ⟨o2, hok⟩ := hok
  by_cases c3 : x < a
  · rw [if_pos c3] at hok
    refine Ec.icmp_lt_t (tgt := 10) dX10_isOutside_2 (by decide) o1 o2 c3 ?_
    refine Ec.const dX10_isOutside_10 ?_
    refine Ec.goto (tgt := 15) dX10_isOutside_11 (by decide) ?_
    exact Ec.iret rfl rfl dX10_isOutside_15 (by rw [g_X10_isOutside, if_pos c3]) rfl
  · rw [if_neg c3] at hok
    refine Ec.icmp_lt_f (tgt := 10) dX10_isOutside_2 (by decide) o1 o2 c3 ?_
    refine Ec.iload_n (i := 0) dX10_isOutside_5 rfl rfl ?_
    refine Ec.iload_n (i := 2) dX10_isOutside_6 rfl rfl ?_
    obtain ⟨o4, hok⟩ := hok
    by_cases c5 : x ≤ b
    · refine Ec.icmp_le_t (tgt := 14) dX10_isOutside_7 (by decide) o1 o4 c5 ?_
      refine Ec.const dX10_isOutside_14 ?_
      exact Ec.iret rfl rfl dX10_isOutside_15 (by rw [g_X10_isOutside, if_neg c3, if_pos c5]) rfl
    · refine Ec.icmp_le_f (tgt := 14) dX10_isOutside_7 (by decide) o1 o4 c5 ?_
      refine Ec.const dX10_isOutside_10 ?_
      refine Ec.goto (tgt := 15) dX10_isOutside_11 (by decide) ?_
      exact Ec.iret rfl rfl dX10_isOutside_15 (by rw [g_X10_isOutside, if_neg c3, if_neg c5]) rfl
theorem r_X10_isOutside {x a b : Int} {c : Cs} : 0 ≤ (g_X10_isOutside x a b c) ∧ (g_X10_isOutside x a b c) ≤ 1 := by
  unfold g_X10_isOutside
  repeat' split
  all_goals first | exact ⟨Int.le_refl 0, Int.zero_le_ofNat 1⟩ | exact ⟨Int.zero_le_ofNat 1, Int.le_refl 1⟩
def g_X10_yeastOf (i : Int) (c : Cs) : Rr × Cs :=
  if i < 0 then
    (.inr "java/lang/IllegalArgumentException", (cexc c))
  else
    if i < ((c.2.2.1 0).length : Int) then
      (.inl (some (12, (lget (c.2.2.1 0) i))), c)
    else
      (.inr "java/lang/IllegalArgumentException", (cexc c))
def ok_X10_yeastOf (i : Int) (c : Cs) : Prop :=
  R32 i ∧ (
    if i < 0 then
      True
    else
      if i < ((c.2.2.1 0).length : Int) then
        ((0 : Int) ≤ i ∧ i < ((c.2.2.1 0).length : Int)) ∧ (
          True)
      else
        True)
theorem s_X10_yeastOf {X : Cx} {ρ : Hp} {i : Int} {c : Cs} (hok : ok_X10_yeastOf i c) : Kc X ρ m_X10_yeastOf 6 [(13, 0), (0, i)] c ((g_X10_yeastOf i c)).1 ((g_X10_yeastOf i c)).2 := by
  refine Kc.of (by decide +kernel) rfl (Nat.le_of_ble_eq_true rfl) ?_
  rw [ok_X10_yeastOf] at hok
  refine Ec.iload_n (i := 1) dX10_yeastOf_0 rfl rfl ?_
  obtain ⟨o1, hok⟩ := hok
  by_cases c2 : i < 0
  · rw [if_pos c2] at hok
    refine Ec.if_lt_t (tgt := 17) dX10_yeastOf_1 (by decide) o1 c2 ?_
    exact Ec.thrW thr_IAE rfl rfl (Nat.le_of_ble_eq_true rfl) (Nat.le_of_ble_eq_true rfl) (tb2 (i := 65) rfl) dX10_yeastOf_17 dX10_yeastOf_20 dX10_yeastOf_21 dX10_yeastOf_24 dX10_yeastOf_27 (by rw [g_X10_yeastOf, if_pos c2]) (by rw [g_X10_yeastOf, if_pos c2])
  · rw [if_neg c2] at hok
    refine Ec.if_lt_f (tgt := 17) dX10_yeastOf_1 (by decide) o1 c2 ?_
    refine Ec.iload_n (i := 1) dX10_yeastOf_4 rfl rfl ?_
    refine Ec.aload_n (i := 0) dX10_yeastOf_5 rfl rfl (Nat.le_of_ble_eq_true rfl) ?_
    refine Ec.gL (ci := 13) (k := 0) (t := 2) 0 (fun h _ => ⟨h.2.1.1, by decide⟩) rfl (by decide) rfl (by decide) (by decide) (tb1 (i := 184) rfl) (Or.inl rfl) rfl dX10_yeastOf_6 ?_
    refine Ec.say (fun _ hL _ hs => ?_)
    have q3 : ((c.2.2.1 0).length : Int) ≤ 200 := hL _ (hs.hd.r ⟨Nat.le_of_ble_eq_true rfl, Nat.le_of_ble_eq_true rfl⟩).2.1 (hs.hd.r ⟨Nat.le_of_ble_eq_true rfl, Nat.le_of_ble_eq_true rfl⟩).2.2
    refine Ec.cf (as := []) kf_Jx4a65c_size_8abf5 (tb1 (i := 226) rfl) dX10_yeastOf_9 rfl rfl (Nat.le_of_ble_eq_true rfl) (Nat.le_of_ble_eq_true rfl) kl_size ?_
    by_cases c4 : i < ((c.2.2.1 0).length : Int)
    · rw [if_pos c4] at hok
      refine Ec.icmp_lt_t (tgt := 28) dX10_yeastOf_14 (by decide) o1 ⟨by omega, by omega⟩ c4 ?_
      refine Ec.aload_n (i := 0) dX10_yeastOf_28 rfl rfl (Nat.le_of_ble_eq_true rfl) ?_
      refine Ec.gL (ci := 13) (k := 0) (t := 2) 0 (fun h _ => ⟨h.2.1.1, by decide⟩) rfl (by decide) rfl (by decide) (by decide) (tb1 (i := 184) rfl) (Or.inl rfl) rfl dX10_yeastOf_29 ?_
      refine Ec.iload_n (i := 1) dX10_yeastOf_32 rfl rfl ?_
      obtain ⟨o5, hok⟩ := hok
      refine Ec.cf (as := [(0, i)]) kf_Jx4a65c_get_915e3 (tb2 (i := 93) rfl) dX10_yeastOf_33 rfl rfl (Nat.le_of_ble_eq_true rfl) (Nat.le_of_ble_eq_true rfl) (kl_get rfl o5) ?_
      refine Ec.cast (ci := 12) rfl (by decide) (tb1 (i := 96) rfl) dX10_yeastOf_38 ?_
      exact Ec.aret (Nat.le_of_ble_eq_true rfl) rfl rfl dX10_yeastOf_41 (by rw [g_X10_yeastOf, if_neg c2, if_pos c4]) (by rw [g_X10_yeastOf, if_neg c2, if_pos c4])
    · rw [if_neg c4] at hok
      refine Ec.icmp_lt_f (tgt := 28) dX10_yeastOf_14 (by decide) o1 ⟨by omega, by omega⟩ c4 ?_
      exact Ec.thrW thr_IAE rfl rfl (Nat.le_of_ble_eq_true rfl) (Nat.le_of_ble_eq_true rfl) (tb2 (i := 65) rfl) dX10_yeastOf_17 dX10_yeastOf_20 dX10_yeastOf_21 dX10_yeastOf_24 dX10_yeastOf_27 (by rw [g_X10_yeastOf, if_neg c2, if_neg c4]) (by rw [g_X10_yeastOf, if_neg c2, if_neg c4])
theorem t_X10_yeastOf {i : Int} {c : Cs} (h : 0 ≤ i ∧ i < ((c.2.2.1 0).length : Int)) : g_X10_yeastOf i c = (.inl (some (12, lget (c.2.2.1 0) i)), c) := by
  unfold g_X10_yeastOf
  rw [if_neg (by omega), if_pos (by omega)]
theorem x_X10_yeastOf {i : Int} {c : Cs} (h : ¬ (0 ≤ i ∧ i < ((c.2.2.1 0).length : Int))) : g_X10_yeastOf i c = (.inr "java/lang/IllegalArgumentException", cexc c) := by
  unfold g_X10_yeastOf
  by_cases h1 : i < 0
  · rw [if_pos h1]
  · rw [if_neg h1, if_neg (by omega)]
def g_X10_recipeAt (i : Int) (c : Cs) : Rr × Cs :=
  if i < 0 then
    (.inr "java/lang/IndexOutOfBoundsException", (cexc c))
  else
    if i < ((c.2.2.1 1).length : Int) then
      (.inl (some (9, (lget (c.2.2.1 1) i))), c)
    else
      (.inr "java/lang/IndexOutOfBoundsException", (cexc c))
def ok_X10_recipeAt (i : Int) (c : Cs) : Prop :=
  R32 i ∧ (
    if i < 0 then
      True
    else
      if i < ((c.2.2.1 1).length : Int) then
        ((0 : Int) ≤ i ∧ i < ((c.2.2.1 1).length : Int)) ∧ (
          True)
      else
        True)
theorem s_X10_recipeAt {X : Cx} {ρ : Hp} {i : Int} {c : Cs} (hok : ok_X10_recipeAt i c) : Kc X ρ m_X10_recipeAt 6 [(13, 0), (0, i)] c ((g_X10_recipeAt i c)).1 ((g_X10_recipeAt i c)).2 := by
  refine Kc.of (by decide +kernel) rfl (Nat.le_of_ble_eq_true rfl) ?_
  rw [ok_X10_recipeAt] at hok
  refine Ec.iload_n (i := 1) dX10_recipeAt_0 rfl rfl ?_
  obtain ⟨o1, hok⟩ := hok
  by_cases c2 : i < 0
  · rw [if_pos c2] at hok
    refine Ec.if_lt_t (tgt := 17) dX10_recipeAt_1 (by decide) o1 c2 ?_
    exact Ec.thrW thr_IOB rfl rfl (Nat.le_of_ble_eq_true rfl) (Nat.le_of_ble_eq_true rfl) (tb3 (i := 17) rfl) dX10_recipeAt_17 dX10_recipeAt_20 dX10_recipeAt_21 dX10_recipeAt_24 dX10_recipeAt_27 (by rw [g_X10_recipeAt, if_pos c2]) (by rw [g_X10_recipeAt, if_pos c2])
  · rw [if_neg c2] at hok
    refine Ec.if_lt_f (tgt := 17) dX10_recipeAt_1 (by decide) o1 c2 ?_
    refine Ec.iload_n (i := 1) dX10_recipeAt_4 rfl rfl ?_
    refine Ec.aload_n (i := 0) dX10_recipeAt_5 rfl rfl (Nat.le_of_ble_eq_true rfl) ?_
    refine Ec.gL (ci := 13) (k := 1) (t := 2) 1 (fun h _ => ⟨h.2.1.2.1, by decide⟩) rfl (by decide) rfl (by decide) (by decide) (tb1 (i := 185) rfl) (Or.inl rfl) rfl dX10_recipeAt_6 ?_
    refine Ec.say (fun _ hL _ hs => ?_)
    have q3 : ((c.2.2.1 1).length : Int) ≤ 200 := hL _ (hs.hd.r ⟨Nat.le_of_ble_eq_true rfl, Nat.le_of_ble_eq_true rfl⟩).2.1 (hs.hd.r ⟨Nat.le_of_ble_eq_true rfl, Nat.le_of_ble_eq_true rfl⟩).2.2
    refine Ec.cf (as := []) kf_Jx4a65c_size_8abf5 (tb1 (i := 226) rfl) dX10_recipeAt_9 rfl rfl (Nat.le_of_ble_eq_true rfl) (Nat.le_of_ble_eq_true rfl) kl_size ?_
    by_cases c4 : i < ((c.2.2.1 1).length : Int)
    · rw [if_pos c4] at hok
      refine Ec.icmp_lt_t (tgt := 28) dX10_recipeAt_14 (by decide) o1 ⟨by omega, by omega⟩ c4 ?_
      refine Ec.aload_n (i := 0) dX10_recipeAt_28 rfl rfl (Nat.le_of_ble_eq_true rfl) ?_
      refine Ec.gL (ci := 13) (k := 1) (t := 2) 1 (fun h _ => ⟨h.2.1.2.1, by decide⟩) rfl (by decide) rfl (by decide) (by decide) (tb1 (i := 185) rfl) (Or.inl rfl) rfl dX10_recipeAt_29 ?_
      refine Ec.iload_n (i := 1) dX10_recipeAt_32 rfl rfl ?_
      obtain ⟨o5, hok⟩ := hok
      refine Ec.cf (as := [(0, i)]) kf_Jx4a65c_get_915e3 (tb2 (i := 93) rfl) dX10_recipeAt_33 rfl rfl (Nat.le_of_ble_eq_true rfl) (Nat.le_of_ble_eq_true rfl) (kl_get rfl o5) ?_
      refine Ec.cast (ci := 9) rfl (by decide) (tb2 (i := 131) rfl) dX10_recipeAt_38 ?_
      exact Ec.aret (Nat.le_of_ble_eq_true rfl) rfl rfl dX10_recipeAt_41 (by rw [g_X10_recipeAt, if_neg c2, if_pos c4]) (by rw [g_X10_recipeAt, if_neg c2, if_pos c4])
    · rw [if_neg c4] at hok
      refine Ec.icmp_lt_f (tgt := 28) dX10_recipeAt_14 (by decide) o1 ⟨by omega, by omega⟩ c4 ?_
      exact Ec.thrW thr_IOB rfl rfl (Nat.le_of_ble_eq_true rfl) (Nat.le_of_ble_eq_true rfl) (tb3 (i := 17) rfl) dX10_recipeAt_17 dX10_recipeAt_20 dX10_recipeAt_21 dX10_recipeAt_24 dX10_recipeAt_27 (by rw [g_X10_recipeAt, if_neg c2, if_neg c4]) (by rw [g_X10_recipeAt, if_neg c2, if_neg c4])
theorem t_X10_recipeAt {i : Int} {c : Cs} (h : 0 ≤ i ∧ i < ((c.2.2.1 1).length : Int)) : g_X10_recipeAt i c = (.inl (some (9, lget (c.2.2.1 1) i)), c) := by
  unfold g_X10_recipeAt
  rw [if_neg (by omega), if_pos (by omega)]
theorem x_X10_recipeAt {i : Int} {c : Cs} (h : ¬ (0 ≤ i ∧ i < ((c.2.2.1 1).length : Int))) : g_X10_recipeAt i c = (.inr "java/lang/IndexOutOfBoundsException", cexc c) := by
  unfold g_X10_recipeAt
  by_cases h1 : i < 0
  · rw [if_pos h1]
  · rw [if_neg h1, if_neg (by omega)]
def g_X10_vesselAt (i : Int) (c : Cs) : Rr × Cs :=
  if i < 0 then
    (.inr "java/lang/IndexOutOfBoundsException", (cexc c))
  else
    if i < ((c.2.2.1 2).length : Int) then
      (.inl (some (11, (lget (c.2.2.1 2) i))), c)
    else
      (.inr "java/lang/IndexOutOfBoundsException", (cexc c))
def ok_X10_vesselAt (i : Int) (c : Cs) : Prop :=
  R32 i ∧ (
    if i < 0 then
      True
    else
      if i < ((c.2.2.1 2).length : Int) then
        ((0 : Int) ≤ i ∧ i < ((c.2.2.1 2).length : Int)) ∧ (
          True)
      else
        True)
theorem s_X10_vesselAt {X : Cx} {ρ : Hp} {i : Int} {c : Cs} (hok : ok_X10_vesselAt i c) : Kc X ρ m_X10_vesselAt 6 [(13, 0), (0, i)] c ((g_X10_vesselAt i c)).1 ((g_X10_vesselAt i c)).2 := by
  refine Kc.of (by decide +kernel) rfl (Nat.le_of_ble_eq_true rfl) ?_
  rw [ok_X10_vesselAt] at hok
  refine Ec.iload_n (i := 1) dX10_vesselAt_0 rfl rfl ?_
  obtain ⟨o1, hok⟩ := hok
  by_cases c2 : i < 0
  · rw [if_pos c2] at hok
    refine Ec.if_lt_t (tgt := 17) dX10_vesselAt_1 (by decide) o1 c2 ?_
    exact Ec.thrW thr_IOB rfl rfl (Nat.le_of_ble_eq_true rfl) (Nat.le_of_ble_eq_true rfl) (tb3 (i := 28) rfl) dX10_vesselAt_17 dX10_vesselAt_20 dX10_vesselAt_21 dX10_vesselAt_24 dX10_vesselAt_27 (by rw [g_X10_vesselAt, if_pos c2]) (by rw [g_X10_vesselAt, if_pos c2])
  · rw [if_neg c2] at hok
    refine Ec.if_lt_f (tgt := 17) dX10_vesselAt_1 (by decide) o1 c2 ?_
    refine Ec.iload_n (i := 1) dX10_vesselAt_4 rfl rfl ?_
    refine Ec.aload_n (i := 0) dX10_vesselAt_5 rfl rfl (Nat.le_of_ble_eq_true rfl) ?_
    refine Ec.gL (ci := 13) (k := 2) (t := 2) 2 (fun h _ => ⟨h.2.1.2.2.1, by decide⟩) rfl (by decide) rfl (by decide) (by decide) (tb1 (i := 186) rfl) (Or.inl rfl) rfl dX10_vesselAt_6 ?_
    refine Ec.say (fun _ hL _ hs => ?_)
    have q3 : ((c.2.2.1 2).length : Int) ≤ 200 := hL _ (hs.hd.r ⟨Nat.le_of_ble_eq_true rfl, Nat.le_of_ble_eq_true rfl⟩).2.1 (hs.hd.r ⟨Nat.le_of_ble_eq_true rfl, Nat.le_of_ble_eq_true rfl⟩).2.2
    refine Ec.cf (as := []) kf_Jx4a65c_size_8abf5 (tb1 (i := 226) rfl) dX10_vesselAt_9 rfl rfl (Nat.le_of_ble_eq_true rfl) (Nat.le_of_ble_eq_true rfl) kl_size ?_
    by_cases c4 : i < ((c.2.2.1 2).length : Int)
    · rw [if_pos c4] at hok
      refine Ec.icmp_lt_t (tgt := 28) dX10_vesselAt_14 (by decide) o1 ⟨by omega, by omega⟩ c4 ?_
      refine Ec.aload_n (i := 0) dX10_vesselAt_28 rfl rfl (Nat.le_of_ble_eq_true rfl) ?_
      refine Ec.gL (ci := 13) (k := 2) (t := 2) 2 (fun h _ => ⟨h.2.1.2.2.1, by decide⟩) rfl (by decide) rfl (by decide) (by decide) (tb1 (i := 186) rfl) (Or.inl rfl) rfl dX10_vesselAt_29 ?_
      refine Ec.iload_n (i := 1) dX10_vesselAt_32 rfl rfl ?_
      obtain ⟨o5, hok⟩ := hok
      refine Ec.cf (as := [(0, i)]) kf_Jx4a65c_get_915e3 (tb2 (i := 93) rfl) dX10_vesselAt_33 rfl rfl (Nat.le_of_ble_eq_true rfl) (Nat.le_of_ble_eq_true rfl) (kl_get rfl o5) ?_
      refine Ec.cast (ci := 11) rfl (by decide) (tb2 (i := 168) rfl) dX10_vesselAt_38 ?_
      exact Ec.aret (Nat.le_of_ble_eq_true rfl) rfl rfl dX10_vesselAt_41 (by rw [g_X10_vesselAt, if_neg c2, if_pos c4]) (by rw [g_X10_vesselAt, if_neg c2, if_pos c4])
    · rw [if_neg c4] at hok
      refine Ec.icmp_lt_f (tgt := 28) dX10_vesselAt_14 (by decide) o1 ⟨by omega, by omega⟩ c4 ?_
      exact Ec.thrW thr_IOB rfl rfl (Nat.le_of_ble_eq_true rfl) (Nat.le_of_ble_eq_true rfl) (tb3 (i := 28) rfl) dX10_vesselAt_17 dX10_vesselAt_20 dX10_vesselAt_21 dX10_vesselAt_24 dX10_vesselAt_27 (by rw [g_X10_vesselAt, if_neg c2, if_neg c4]) (by rw [g_X10_vesselAt, if_neg c2, if_neg c4])
theorem t_X10_vesselAt {i : Int} {c : Cs} (h : 0 ≤ i ∧ i < ((c.2.2.1 2).length : Int)) : g_X10_vesselAt i c = (.inl (some (11, lget (c.2.2.1 2) i)), c) := by
  unfold g_X10_vesselAt
  rw [if_neg (by omega), if_pos (by omega)]
theorem x_X10_vesselAt {i : Int} {c : Cs} (h : ¬ (0 ≤ i ∧ i < ((c.2.2.1 2).length : Int))) : g_X10_vesselAt i c = (.inr "java/lang/IndexOutOfBoundsException", cexc c) := by
  unfold g_X10_vesselAt
  by_cases h1 : i < 0
  · rw [if_pos h1]
  · rw [if_neg h1, if_neg (by omega)]
def g_X10_brewAt (i : Int) (c : Cs) : Rr × Cs :=
  if i < 0 then
    (.inr "java/lang/IndexOutOfBoundsException", (cexc c))
  else
    if i < ((c.2.2.1 3).length : Int) then
      (.inl (some (3, (lget (c.2.2.1 3) i))), c)
    else
      (.inr "java/lang/IndexOutOfBoundsException", (cexc c))
def ok_X10_brewAt (i : Int) (c : Cs) : Prop :=
  R32 i ∧ (
    if i < 0 then
      True
    else
      if i < ((c.2.2.1 3).length : Int) then
        ((0 : Int) ≤ i ∧ i < ((c.2.2.1 3).length : Int)) ∧ (
          True)
      else
        True)
theorem s_X10_brewAt {X : Cx} {ρ : Hp} {i : Int} {c : Cs} (hok : ok_X10_brewAt i c) : Kc X ρ m_X10_brewAt 6 [(13, 0), (0, i)] c ((g_X10_brewAt i c)).1 ((g_X10_brewAt i c)).2 := by
  refine Kc.of (by decide +kernel) rfl (Nat.le_of_ble_eq_true rfl) ?_
  rw [ok_X10_brewAt] at hok
  refine Ec.iload_n (i := 1) dX10_brewAt_0 rfl rfl ?_
  obtain ⟨o1, hok⟩ := hok
  by_cases c2 : i < 0
  · rw [if_pos c2] at hok
    refine Ec.if_lt_t (tgt := 17) dX10_brewAt_1 (by decide) o1 c2 ?_
    exact Ec.thrW thr_IOB rfl rfl (Nat.le_of_ble_eq_true rfl) (Nat.le_of_ble_eq_true rfl) (tb6 (i := 81) rfl) dX10_brewAt_17 dX10_brewAt_20 dX10_brewAt_21 dX10_brewAt_24 dX10_brewAt_27 (by rw [g_X10_brewAt, if_pos c2]) (by rw [g_X10_brewAt, if_pos c2])
  · rw [if_neg c2] at hok
    refine Ec.if_lt_f (tgt := 17) dX10_brewAt_1 (by decide) o1 c2 ?_
    refine Ec.iload_n (i := 1) dX10_brewAt_4 rfl rfl ?_
    refine Ec.aload_n (i := 0) dX10_brewAt_5 rfl rfl (Nat.le_of_ble_eq_true rfl) ?_
    refine Ec.gL (ci := 13) (k := 3) (t := 2) 3 (fun h _ => ⟨h.2.1.2.2.2.1, by decide⟩) rfl (by decide) rfl (by decide) (by decide) (tb1 (i := 187) rfl) (Or.inl rfl) rfl dX10_brewAt_6 ?_
    refine Ec.say (fun _ hL _ hs => ?_)
    have q3 : ((c.2.2.1 3).length : Int) ≤ 200 := hL _ (hs.hd.r ⟨Nat.le_of_ble_eq_true rfl, Nat.le_of_ble_eq_true rfl⟩).2.1 (hs.hd.r ⟨Nat.le_of_ble_eq_true rfl, Nat.le_of_ble_eq_true rfl⟩).2.2
    refine Ec.cf (as := []) kf_Jx4a65c_size_8abf5 (tb1 (i := 226) rfl) dX10_brewAt_9 rfl rfl (Nat.le_of_ble_eq_true rfl) (Nat.le_of_ble_eq_true rfl) kl_size ?_
    by_cases c4 : i < ((c.2.2.1 3).length : Int)
    · rw [if_pos c4] at hok
      refine Ec.icmp_lt_t (tgt := 28) dX10_brewAt_14 (by decide) o1 ⟨by omega, by omega⟩ c4 ?_
      refine Ec.aload_n (i := 0) dX10_brewAt_28 rfl rfl (Nat.le_of_ble_eq_true rfl) ?_
      refine Ec.gL (ci := 13) (k := 3) (t := 2) 3 (fun h _ => ⟨h.2.1.2.2.2.1, by decide⟩) rfl (by decide) rfl (by decide) (by decide) (tb1 (i := 187) rfl) (Or.inl rfl) rfl dX10_brewAt_29 ?_
      refine Ec.iload_n (i := 1) dX10_brewAt_32 rfl rfl ?_
      obtain ⟨o5, hok⟩ := hok
      refine Ec.cf (as := [(0, i)]) kf_Jx4a65c_get_915e3 (tb2 (i := 93) rfl) dX10_brewAt_33 rfl rfl (Nat.le_of_ble_eq_true rfl) (Nat.le_of_ble_eq_true rfl) (kl_get rfl o5) ?_
      refine Ec.cast (ci := 3) rfl (by decide) (tb3 (i := 87) rfl) dX10_brewAt_38 ?_
      exact Ec.aret (Nat.le_of_ble_eq_true rfl) rfl rfl dX10_brewAt_41 (by rw [g_X10_brewAt, if_neg c2, if_pos c4]) (by rw [g_X10_brewAt, if_neg c2, if_pos c4])
    · rw [if_neg c4] at hok
      refine Ec.icmp_lt_f (tgt := 28) dX10_brewAt_14 (by decide) o1 ⟨by omega, by omega⟩ c4 ?_
      exact Ec.thrW thr_IOB rfl rfl (Nat.le_of_ble_eq_true rfl) (Nat.le_of_ble_eq_true rfl) (tb6 (i := 81) rfl) dX10_brewAt_17 dX10_brewAt_20 dX10_brewAt_21 dX10_brewAt_24 dX10_brewAt_27 (by rw [g_X10_brewAt, if_neg c2, if_neg c4]) (by rw [g_X10_brewAt, if_neg c2, if_neg c4])
theorem t_X10_brewAt {i : Int} {c : Cs} (h : 0 ≤ i ∧ i < ((c.2.2.1 3).length : Int)) : g_X10_brewAt i c = (.inl (some (3, lget (c.2.2.1 3) i)), c) := by
  unfold g_X10_brewAt
  rw [if_neg (by omega), if_pos (by omega)]
theorem x_X10_brewAt {i : Int} {c : Cs} (h : ¬ (0 ≤ i ∧ i < ((c.2.2.1 3).length : Int))) : g_X10_brewAt i c = (.inr "java/lang/IndexOutOfBoundsException", cexc c) := by
  unfold g_X10_brewAt
  by_cases h1 : i < 0
  · rw [if_pos h1]
  · rw [if_neg h1, if_neg (by omega)]
def g_X10_orderAt (i : Int) (c : Cs) : Rr × Cs :=
  if i < 0 then
    (.inr "java/lang/IndexOutOfBoundsException", (cexc c))
  else
    if i < ((c.2.2.1 5).length : Int) then
      (.inl (some (5, (lget (c.2.2.1 5) i))), c)
    else
      (.inr "java/lang/IndexOutOfBoundsException", (cexc c))
def ok_X10_orderAt (i : Int) (c : Cs) : Prop :=
  R32 i ∧ (
    if i < 0 then
      True
    else
      if i < ((c.2.2.1 5).length : Int) then
        ((0 : Int) ≤ i ∧ i < ((c.2.2.1 5).length : Int)) ∧ (
          True)
      else
        True)
theorem s_X10_orderAt {X : Cx} {ρ : Hp} {i : Int} {c : Cs} (hok : ok_X10_orderAt i c) : Kc X ρ m_X10_orderAt 6 [(13, 0), (0, i)] c ((g_X10_orderAt i c)).1 ((g_X10_orderAt i c)).2 := by
  refine Kc.of (by decide +kernel) rfl (Nat.le_of_ble_eq_true rfl) ?_
  rw [ok_X10_orderAt] at hok
  refine Ec.iload_n (i := 1) dX10_orderAt_0 rfl rfl ?_
  obtain ⟨o1, hok⟩ := hok
  by_cases c2 : i < 0
  · rw [if_pos c2] at hok
    refine Ec.if_lt_t (tgt := 17) dX10_orderAt_1 (by decide) o1 c2 ?_
    exact Ec.thrW thr_IOB rfl rfl (Nat.le_of_ble_eq_true rfl) (Nat.le_of_ble_eq_true rfl) (tb5 (i := 152) rfl) dX10_orderAt_17 dX10_orderAt_20 dX10_orderAt_21 dX10_orderAt_24 dX10_orderAt_27 (by rw [g_X10_orderAt, if_pos c2]) (by rw [g_X10_orderAt, if_pos c2])
  · rw [if_neg c2] at hok
    refine Ec.if_lt_f (tgt := 17) dX10_orderAt_1 (by decide) o1 c2 ?_
    refine Ec.iload_n (i := 1) dX10_orderAt_4 rfl rfl ?_
    refine Ec.aload_n (i := 0) dX10_orderAt_5 rfl rfl (Nat.le_of_ble_eq_true rfl) ?_
    refine Ec.gL (ci := 13) (k := 5) (t := 2) 5 (fun h _ => ⟨h.2.1.2.2.2.2.2.1, by decide⟩) rfl (by decide) rfl (by decide) (by decide) (tb1 (i := 189) rfl) (Or.inl rfl) rfl dX10_orderAt_6 ?_
    refine Ec.say (fun _ hL _ hs => ?_)
    have q3 : ((c.2.2.1 5).length : Int) ≤ 200 := hL _ (hs.hd.r ⟨Nat.le_of_ble_eq_true rfl, Nat.le_of_ble_eq_true rfl⟩).2.1 (hs.hd.r ⟨Nat.le_of_ble_eq_true rfl, Nat.le_of_ble_eq_true rfl⟩).2.2
    refine Ec.cf (as := []) kf_Jx4a65c_size_8abf5 (tb1 (i := 226) rfl) dX10_orderAt_9 rfl rfl (Nat.le_of_ble_eq_true rfl) (Nat.le_of_ble_eq_true rfl) kl_size ?_
    by_cases c4 : i < ((c.2.2.1 5).length : Int)
    · rw [if_pos c4] at hok
      refine Ec.icmp_lt_t (tgt := 28) dX10_orderAt_14 (by decide) o1 ⟨by omega, by omega⟩ c4 ?_
      refine Ec.aload_n (i := 0) dX10_orderAt_28 rfl rfl (Nat.le_of_ble_eq_true rfl) ?_
      refine Ec.gL (ci := 13) (k := 5) (t := 2) 5 (fun h _ => ⟨h.2.1.2.2.2.2.2.1, by decide⟩) rfl (by decide) rfl (by decide) (by decide) (tb1 (i := 189) rfl) (Or.inl rfl) rfl dX10_orderAt_29 ?_
      refine Ec.iload_n (i := 1) dX10_orderAt_32 rfl rfl ?_
      obtain ⟨o5, hok⟩ := hok
      refine Ec.cf (as := [(0, i)]) kf_Jx4a65c_get_915e3 (tb2 (i := 93) rfl) dX10_orderAt_33 rfl rfl (Nat.le_of_ble_eq_true rfl) (Nat.le_of_ble_eq_true rfl) (kl_get rfl o5) ?_
      refine Ec.cast (ci := 5) rfl (by decide) (tb5 (i := 89) rfl) dX10_orderAt_38 ?_
      exact Ec.aret (Nat.le_of_ble_eq_true rfl) rfl rfl dX10_orderAt_41 (by rw [g_X10_orderAt, if_neg c2, if_pos c4]) (by rw [g_X10_orderAt, if_neg c2, if_pos c4])
    · rw [if_neg c4] at hok
      refine Ec.icmp_lt_f (tgt := 28) dX10_orderAt_14 (by decide) o1 ⟨by omega, by omega⟩ c4 ?_
      exact Ec.thrW thr_IOB rfl rfl (Nat.le_of_ble_eq_true rfl) (Nat.le_of_ble_eq_true rfl) (tb5 (i := 152) rfl) dX10_orderAt_17 dX10_orderAt_20 dX10_orderAt_21 dX10_orderAt_24 dX10_orderAt_27 (by rw [g_X10_orderAt, if_neg c2, if_neg c4]) (by rw [g_X10_orderAt, if_neg c2, if_neg c4])
theorem t_X10_orderAt {i : Int} {c : Cs} (h : 0 ≤ i ∧ i < ((c.2.2.1 5).length : Int)) : g_X10_orderAt i c = (.inl (some (5, lget (c.2.2.1 5) i)), c) := by
  unfold g_X10_orderAt
  rw [if_neg (by omega), if_pos (by omega)]
theorem x_X10_orderAt {i : Int} {c : Cs} (h : ¬ (0 ≤ i ∧ i < ((c.2.2.1 5).length : Int))) : g_X10_orderAt i c = (.inr "java/lang/IndexOutOfBoundsException", cexc c) := by
  unfold g_X10_orderAt
  by_cases h1 : i < 0
  · rw [if_pos h1]
  · rw [if_neg h1, if_neg (by omega)]
def g_X10_deliveryAt (i : Int) (c : Cs) : Rr × Cs :=
  if i < 0 then
    (.inr "java/lang/IndexOutOfBoundsException", (cexc c))
  else
    if i < ((c.2.2.1 7).length : Int) then
      (.inl (some (4, (lget (c.2.2.1 7) i))), c)
    else
      (.inr "java/lang/IndexOutOfBoundsException", (cexc c))
def ok_X10_deliveryAt (i : Int) (c : Cs) : Prop :=
  R32 i ∧ (
    if i < 0 then
      True
    else
      if i < ((c.2.2.1 7).length : Int) then
        ((0 : Int) ≤ i ∧ i < ((c.2.2.1 7).length : Int)) ∧ (
          True)
      else
        True)
theorem s_X10_deliveryAt {X : Cx} {ρ : Hp} {i : Int} {c : Cs} (hok : ok_X10_deliveryAt i c) : Kc X ρ m_X10_deliveryAt 6 [(13, 0), (0, i)] c ((g_X10_deliveryAt i c)).1 ((g_X10_deliveryAt i c)).2 := by
  refine Kc.of (by decide +kernel) rfl (Nat.le_of_ble_eq_true rfl) ?_
  rw [ok_X10_deliveryAt] at hok
  refine Ec.iload_n (i := 1) dX10_deliveryAt_0 rfl rfl ?_
  obtain ⟨o1, hok⟩ := hok
  by_cases c2 : i < 0
  · rw [if_pos c2] at hok
    refine Ec.if_lt_t (tgt := 17) dX10_deliveryAt_1 (by decide) o1 c2 ?_
    exact Ec.thrW thr_IOB rfl rfl (Nat.le_of_ble_eq_true rfl) (Nat.le_of_ble_eq_true rfl) (tb6 (i := 161) rfl) dX10_deliveryAt_17 dX10_deliveryAt_20 dX10_deliveryAt_21 dX10_deliveryAt_24 dX10_deliveryAt_27 (by rw [g_X10_deliveryAt, if_pos c2]) (by rw [g_X10_deliveryAt, if_pos c2])
  · rw [if_neg c2] at hok
    refine Ec.if_lt_f (tgt := 17) dX10_deliveryAt_1 (by decide) o1 c2 ?_
    refine Ec.iload_n (i := 1) dX10_deliveryAt_4 rfl rfl ?_
    refine Ec.aload_n (i := 0) dX10_deliveryAt_5 rfl rfl (Nat.le_of_ble_eq_true rfl) ?_
    refine Ec.gL (ci := 13) (k := 7) (t := 2) 7 (fun h _ => ⟨h.2.1.2.2.2.2.2.2.2.1, by decide⟩) rfl (by decide) rfl (by decide) (by decide) (tb1 (i := 191) rfl) (Or.inl rfl) rfl dX10_deliveryAt_6 ?_
    refine Ec.say (fun _ hL _ hs => ?_)
    have q3 : ((c.2.2.1 7).length : Int) ≤ 200 := hL _ (hs.hd.r ⟨Nat.le_of_ble_eq_true rfl, Nat.le_of_ble_eq_true rfl⟩).2.1 (hs.hd.r ⟨Nat.le_of_ble_eq_true rfl, Nat.le_of_ble_eq_true rfl⟩).2.2
    refine Ec.cf (as := []) kf_Jx4a65c_size_8abf5 (tb1 (i := 226) rfl) dX10_deliveryAt_9 rfl rfl (Nat.le_of_ble_eq_true rfl) (Nat.le_of_ble_eq_true rfl) kl_size ?_
    by_cases c4 : i < ((c.2.2.1 7).length : Int)
    · rw [if_pos c4] at hok
      refine Ec.icmp_lt_t (tgt := 28) dX10_deliveryAt_14 (by decide) o1 ⟨by omega, by omega⟩ c4 ?_
      refine Ec.aload_n (i := 0) dX10_deliveryAt_28 rfl rfl (Nat.le_of_ble_eq_true rfl) ?_
      refine Ec.gL (ci := 13) (k := 7) (t := 2) 7 (fun h _ => ⟨h.2.1.2.2.2.2.2.2.2.1, by decide⟩) rfl (by decide) rfl (by decide) (by decide) (tb1 (i := 191) rfl) (Or.inl rfl) rfl dX10_deliveryAt_29 ?_
      refine Ec.iload_n (i := 1) dX10_deliveryAt_32 rfl rfl ?_
      obtain ⟨o5, hok⟩ := hok
      refine Ec.cf (as := [(0, i)]) kf_Jx4a65c_get_915e3 (tb2 (i := 93) rfl) dX10_deliveryAt_33 rfl rfl (Nat.le_of_ble_eq_true rfl) (Nat.le_of_ble_eq_true rfl) (kl_get rfl o5) ?_
      refine Ec.cast (ci := 4) rfl (by decide) (tb6 (i := 35) rfl) dX10_deliveryAt_38 ?_
      exact Ec.aret (Nat.le_of_ble_eq_true rfl) rfl rfl dX10_deliveryAt_41 (by rw [g_X10_deliveryAt, if_neg c2, if_pos c4]) (by rw [g_X10_deliveryAt, if_neg c2, if_pos c4])
    · rw [if_neg c4] at hok
      refine Ec.icmp_lt_f (tgt := 28) dX10_deliveryAt_14 (by decide) o1 ⟨by omega, by omega⟩ c4 ?_
      exact Ec.thrW thr_IOB rfl rfl (Nat.le_of_ble_eq_true rfl) (Nat.le_of_ble_eq_true rfl) (tb6 (i := 161) rfl) dX10_deliveryAt_17 dX10_deliveryAt_20 dX10_deliveryAt_21 dX10_deliveryAt_24 dX10_deliveryAt_27 (by rw [g_X10_deliveryAt, if_neg c2, if_neg c4]) (by rw [g_X10_deliveryAt, if_neg c2, if_neg c4])
theorem t_X10_deliveryAt {i : Int} {c : Cs} (h : 0 ≤ i ∧ i < ((c.2.2.1 7).length : Int)) : g_X10_deliveryAt i c = (.inl (some (4, lget (c.2.2.1 7) i)), c) := by
  unfold g_X10_deliveryAt
  rw [if_neg (by omega), if_pos (by omega)]
theorem x_X10_deliveryAt {i : Int} {c : Cs} (h : ¬ (0 ≤ i ∧ i < ((c.2.2.1 7).length : Int))) : g_X10_deliveryAt i c = (.inr "java/lang/IndexOutOfBoundsException", cexc c) := by
  unfold g_X10_deliveryAt
  by_cases h1 : i < 0
  · rw [if_pos h1]
  · rw [if_neg h1, if_neg (by omega)]
def g_X10_queuedRecipe (i : Int) (c : Cs) : Rr × Cs :=
  if i < 0 then
    (.inr "java/util/NoSuchElementException", (cexc c))
  else
    if i < ((c.2.2.1 4).length : Int) then
      (.inl (some (9, (lget (c.2.2.1 4) i))), c)
    else
      (.inr "java/util/NoSuchElementException", (cexc c))
def ok_X10_queuedRecipe (i : Int) (c : Cs) : Prop :=
  R32 i ∧ (
    if i < 0 then
      True
    else
      if i < ((c.2.2.1 4).length : Int) then
        ((0 : Int) ≤ i ∧ i < ((c.2.2.1 4).length : Int)) ∧ (
          True)
      else
        True)
theorem s_X10_queuedRecipe {X : Cx} {ρ : Hp} {i : Int} {c : Cs} (hok : ok_X10_queuedRecipe i c) : Kc X ρ m_X10_queuedRecipe 6 [(13, 0), (0, i)] c ((g_X10_queuedRecipe i c)).1 ((g_X10_queuedRecipe i c)).2 := by
  refine Kc.of (by decide +kernel) rfl (Nat.le_of_ble_eq_true rfl) ?_
  rw [ok_X10_queuedRecipe] at hok
  refine Ec.iload_n (i := 1) dX10_queuedRecipe_0 rfl rfl ?_
  obtain ⟨o1, hok⟩ := hok
  by_cases c2 : i < 0
  · rw [if_pos c2] at hok
    refine Ec.if_lt_t (tgt := 17) dX10_queuedRecipe_1 (by decide) o1 c2 ?_
    exact Ec.thrW thr_NSE rfl rfl (Nat.le_of_ble_eq_true rfl) (Nat.le_of_ble_eq_true rfl) (tb3 (i := 170) rfl) dX10_queuedRecipe_17 dX10_queuedRecipe_20 dX10_queuedRecipe_21 dX10_queuedRecipe_24 dX10_queuedRecipe_27 (by rw [g_X10_queuedRecipe, if_pos c2]) (by rw [g_X10_queuedRecipe, if_pos c2])
  · rw [if_neg c2] at hok
    refine Ec.if_lt_f (tgt := 17) dX10_queuedRecipe_1 (by decide) o1 c2 ?_
    refine Ec.iload_n (i := 1) dX10_queuedRecipe_4 rfl rfl ?_
    refine Ec.aload_n (i := 0) dX10_queuedRecipe_5 rfl rfl (Nat.le_of_ble_eq_true rfl) ?_
    refine Ec.gL (ci := 13) (k := 4) (t := 2) 4 (fun h _ => ⟨h.2.1.2.2.2.2.1, by decide⟩) rfl (by decide) rfl (by decide) (by decide) (tb1 (i := 188) rfl) (Or.inl rfl) rfl dX10_queuedRecipe_6 ?_
    refine Ec.say (fun _ hL _ hs => ?_)
    have q3 : ((c.2.2.1 4).length : Int) ≤ 200 := hL _ (hs.hd.r ⟨Nat.le_of_ble_eq_true rfl, Nat.le_of_ble_eq_true rfl⟩).2.1 (hs.hd.r ⟨Nat.le_of_ble_eq_true rfl, Nat.le_of_ble_eq_true rfl⟩).2.2
    refine Ec.cf (as := []) kf_Jx4a65c_size_8abf5 (tb1 (i := 226) rfl) dX10_queuedRecipe_9 rfl rfl (Nat.le_of_ble_eq_true rfl) (Nat.le_of_ble_eq_true rfl) kl_size ?_
    by_cases c4 : i < ((c.2.2.1 4).length : Int)
    · rw [if_pos c4] at hok
      refine Ec.icmp_lt_t (tgt := 28) dX10_queuedRecipe_14 (by decide) o1 ⟨by omega, by omega⟩ c4 ?_
      refine Ec.aload_n (i := 0) dX10_queuedRecipe_28 rfl rfl (Nat.le_of_ble_eq_true rfl) ?_
      refine Ec.gL (ci := 13) (k := 4) (t := 2) 4 (fun h _ => ⟨h.2.1.2.2.2.2.1, by decide⟩) rfl (by decide) rfl (by decide) (by decide) (tb1 (i := 188) rfl) (Or.inl rfl) rfl dX10_queuedRecipe_29 ?_
      refine Ec.iload_n (i := 1) dX10_queuedRecipe_32 rfl rfl ?_
      obtain ⟨o5, hok⟩ := hok
      refine Ec.cf (as := [(0, i)]) kf_Jx4a65c_get_915e3 (tb2 (i := 93) rfl) dX10_queuedRecipe_33 rfl rfl (Nat.le_of_ble_eq_true rfl) (Nat.le_of_ble_eq_true rfl) (kl_get rfl o5) ?_
      refine Ec.cast (ci := 9) rfl (by decide) (tb2 (i := 131) rfl) dX10_queuedRecipe_38 ?_
      exact Ec.aret (Nat.le_of_ble_eq_true rfl) rfl rfl dX10_queuedRecipe_41 (by rw [g_X10_queuedRecipe, if_neg c2, if_pos c4]) (by rw [g_X10_queuedRecipe, if_neg c2, if_pos c4])
    · rw [if_neg c4] at hok
      refine Ec.icmp_lt_f (tgt := 28) dX10_queuedRecipe_14 (by decide) o1 ⟨by omega, by omega⟩ c4 ?_
      exact Ec.thrW thr_NSE rfl rfl (Nat.le_of_ble_eq_true rfl) (Nat.le_of_ble_eq_true rfl) (tb3 (i := 170) rfl) dX10_queuedRecipe_17 dX10_queuedRecipe_20 dX10_queuedRecipe_21 dX10_queuedRecipe_24 dX10_queuedRecipe_27 (by rw [g_X10_queuedRecipe, if_neg c2, if_neg c4]) (by rw [g_X10_queuedRecipe, if_neg c2, if_neg c4])
theorem t_X10_queuedRecipe {i : Int} {c : Cs} (h : 0 ≤ i ∧ i < ((c.2.2.1 4).length : Int)) : g_X10_queuedRecipe i c = (.inl (some (9, lget (c.2.2.1 4) i)), c) := by
  unfold g_X10_queuedRecipe
  rw [if_neg (by omega), if_pos (by omega)]
theorem x_X10_queuedRecipe {i : Int} {c : Cs} (h : ¬ (0 ≤ i ∧ i < ((c.2.2.1 4).length : Int))) : g_X10_queuedRecipe i c = (.inr "java/util/NoSuchElementException", cexc c) := by
  unfold g_X10_queuedRecipe
  by_cases h1 : i < 0
  · rw [if_pos h1]
  · rw [if_neg h1, if_neg (by omega)]
def g_X10_checkForecast (c : Cs) : Rr × Cs :=
  if (eb (c.2.2.1 4)) = 0 then
    if (eb (c.2.2.1 9)) = 0 then
      (.inl none, c)
    else
      (.inr "java/util/NoSuchElementException", (cexc c))
  else
    (.inr "java/util/NoSuchElementException", (cexc c))
theorem s_X10_checkForecast {X : Cx} {ρ : Hp} {c : Cs} : Kc X ρ m_X10_checkForecast 6 [(13, 0)] c ((g_X10_checkForecast c)).1 ((g_X10_checkForecast c)).2 := by
  refine Kc.of (by decide +kernel) rfl (Nat.le_of_ble_eq_true rfl) ?_
  refine Ec.aload_n (i := 0) dX10_checkForecast_0 rfl rfl (Nat.le_of_ble_eq_true rfl) ?_
  refine Ec.gL (ci := 13) (k := 4) (t := 2) 4 (fun h _ => ⟨h.2.1.2.2.2.2.1, by decide⟩) rfl (by decide) rfl (by decide) (by decide) (tb1 (i := 188) rfl) (Or.inl rfl) rfl dX10_checkForecast_1 ?_
  refine Ec.cf (as := []) kf_Jx4a65c_isEmpty_aae02 (tb3 (i := 192) rfl) dX10_checkForecast_4 rfl rfl (Nat.le_of_ble_eq_true rfl) (Nat.le_of_ble_eq_true rfl) kl_empty ?_
  have q1 := eb_r (c.2.2.1 4)
  by_cases c2 : (eb (c.2.2.1 4)) = 0
  · refine Ec.if_ne_f (tgt := 27) dX10_checkForecast_9 (by decide) ⟨by omega, by omega⟩ (fun h => h c2) ?_
    refine Ec.aload_n (i := 0) dX10_checkForecast_12 rfl rfl (Nat.le_of_ble_eq_true rfl) ?_
    refine Ec.gL (ci := 13) (k := 9) (t := 8) 0 (fun h _ => ⟨h.2.1.2.2.2.2.2.2.2.2.2, by decide⟩) rfl (by decide) rfl (by decide) (by decide) (tb1 (i := 193) rfl) (Or.inl rfl) rfl dX10_checkForecast_13 ?_
    refine Ec.gL (ci := 8) (k := 0) (t := 2) 9 (fun h _ => ⟨h.2.2.1.1, by decide⟩) rfl (by decide) rfl (by decide) (by decide) (tb1 (i := 79) rfl) (Or.inl rfl) rfl dX10_checkForecast_16 ?_
    refine Ec.cf (as := []) kf_Jx4a65c_isEmpty_aae02 (tb3 (i := 192) rfl) dX10_checkForecast_19 rfl rfl (Nat.le_of_ble_eq_true rfl) (Nat.le_of_ble_eq_true rfl) kl_empty ?_
    have q3 := eb_r (c.2.2.1 9)
    by_cases c4 : (eb (c.2.2.1 9)) = 0
    · refine Ec.if_eq_t (tgt := 38) dX10_checkForecast_24 (by decide) ⟨by omega, by omega⟩ c4 ?_
      exact Ec.vret rfl dX10_checkForecast_38 (by rw [g_X10_checkForecast, if_pos c2, if_pos c4]) (by rw [g_X10_checkForecast, if_pos c2, if_pos c4])
    · refine Ec.if_eq_f (tgt := 38) dX10_checkForecast_24 (by decide) ⟨by omega, by omega⟩ c4 ?_
      exact Ec.thrW thr_NSE rfl rfl (Nat.le_of_ble_eq_true rfl) (Nat.le_of_ble_eq_true rfl) (tb3 (i := 200) rfl) dX10_checkForecast_27 dX10_checkForecast_30 dX10_checkForecast_31 dX10_checkForecast_34 dX10_checkForecast_37 (by rw [g_X10_checkForecast, if_pos c2, if_neg c4]) (by rw [g_X10_checkForecast, if_pos c2, if_neg c4])
  · refine Ec.if_ne_t (tgt := 27) dX10_checkForecast_9 (by decide) ⟨by omega, by omega⟩ c2 ?_
    exact Ec.thrW thr_NSE rfl rfl (Nat.le_of_ble_eq_true rfl) (Nat.le_of_ble_eq_true rfl) (tb3 (i := 200) rfl) dX10_checkForecast_27 dX10_checkForecast_30 dX10_checkForecast_31 dX10_checkForecast_34 dX10_checkForecast_37 (by rw [g_X10_checkForecast, if_neg c2]) (by rw [g_X10_checkForecast, if_neg c2])
theorem t_X10_checkForecast {c : Cs} (h : eb (c.2.2.1 4) = 0 ∧ eb (c.2.2.1 9) = 0) : g_X10_checkForecast c = (.inl none, c) := by
  unfold g_X10_checkForecast
  rw [if_pos h.1, if_pos h.2]
theorem x_X10_checkForecast {c : Cs} (h : ¬ (eb (c.2.2.1 4) = 0 ∧ eb (c.2.2.1 9) = 0)) : g_X10_checkForecast c = (.inr "java/util/NoSuchElementException", cexc c) := by
  unfold g_X10_checkForecast
  by_cases h1 : eb (c.2.2.1 4) = 0
  · rw [if_pos h1, if_neg (fun e => h ⟨h1, e⟩)]
  · rw [if_neg h1]
def g_X10_isFullyBooked (c : Cs) : Int :=
  if (((c.2.2.1 3).length : Int) + ((c.2.2.1 4).length : Int)) < 30 then
    0
  else
    1
def ok_X10_isFullyBooked (c : Cs) : Prop :=
  R32 (((c.2.2.1 3).length : Int) + ((c.2.2.1 4).length : Int)) ∧ (
    True)
theorem s_X10_isFullyBooked {X : Cx} {ρ : Hp} {c : Cs} (hok : ok_X10_isFullyBooked c) : Kc X ρ m_X10_isFullyBooked 2 [(13, 0)] c (.inl (some (0, (g_X10_isFullyBooked c)))) c := by
  refine Kc.of (by decide +kernel) rfl (Nat.le_of_ble_eq_true rfl) ?_
  rw [ok_X10_isFullyBooked] at hok
  refine Ec.aload_n (i := 0) dX10_isFullyBooked_0 rfl rfl (Nat.le_of_ble_eq_true rfl) ?_
  refine Ec.gL (ci := 13) (k := 3) (t := 2) 3 (fun h _ => ⟨h.2.1.2.2.2.1, by decide⟩) rfl (by decide) rfl (by decide) (by decide) (tb1 (i := 187) rfl) (Or.inl rfl) rfl dX10_isFullyBooked_1 ?_
  refine Ec.say (fun _ hL _ hs => ?_)
  have q1 : ((c.2.2.1 3).length : Int) ≤ 200 := hL _ (hs.hd.r ⟨Nat.le_of_ble_eq_true rfl, Nat.le_of_ble_eq_true rfl⟩).2.1 (hs.hd.r ⟨Nat.le_of_ble_eq_true rfl, Nat.le_of_ble_eq_true rfl⟩).2.2
  refine Ec.cf (as := []) kf_Jx4a65c_size_8abf5 (tb1 (i := 226) rfl) dX10_isFullyBooked_4 rfl rfl (Nat.le_of_ble_eq_true rfl) (Nat.le_of_ble_eq_true rfl) kl_size ?_
  refine Ec.aload_n (i := 0) dX10_isFullyBooked_9 rfl rfl (Nat.le_of_ble_eq_true rfl) ?_
  refine Ec.gL (ci := 13) (k := 4) (t := 2) 4 (fun h _ => ⟨h.2.1.2.2.2.2.1, by decide⟩) rfl (by decide) rfl (by decide) (by decide) (tb1 (i := 188) rfl) (Or.inl rfl) rfl dX10_isFullyBooked_10 ?_
  refine Ec.say (fun _ hL _ hs => ?_)
  have q2 : ((c.2.2.1 4).length : Int) ≤ 200 := hL _ (hs.hd.r ⟨Nat.le_of_ble_eq_true rfl, Nat.le_of_ble_eq_true rfl⟩).2.1 (hs.hd.r ⟨Nat.le_of_ble_eq_true rfl, Nat.le_of_ble_eq_true rfl⟩).2.2
  refine Ec.cf (as := []) kf_Jx4a65c_size_8abf5 (tb1 (i := 226) rfl) dX10_isFullyBooked_13 rfl rfl (Nat.le_of_ble_eq_true rfl) (Nat.le_of_ble_eq_true rfl) kl_size ?_
  refine Ec.add dX10_isFullyBooked_18 ?_
  refine Ec.bipush dX10_isFullyBooked_19 (by decide) ?_
  obtain ⟨o3, hok⟩ := hok
  by_cases c4 : (((c.2.2.1 3).length : Int) + ((c.2.2.1 4).length : Int)) < 30
  · refine Ec.icmp_lt_t (tgt := 28) dX10_isFullyBooked_21 (by decide) o3 ⟨by decide, by decide⟩ c4 ?_
    refine Ec.const dX10_isFullyBooked_28 ?_
    exact Ec.iret rfl rfl dX10_isFullyBooked_29 (by rw [g_X10_isFullyBooked, if_pos c4]) rfl
  · refine Ec.icmp_lt_f (tgt := 28) dX10_isFullyBooked_21 (by decide) o3 ⟨by decide, by decide⟩ c4 ?_
    refine Ec.const dX10_isFullyBooked_24 ?_
    refine Ec.goto (tgt := 29) dX10_isFullyBooked_25 (by decide) ?_
    exact Ec.iret rfl rfl dX10_isFullyBooked_29 (by rw [g_X10_isFullyBooked, if_neg c4]) rfl
theorem r_X10_isFullyBooked {c : Cs} : 0 ≤ (g_X10_isFullyBooked c) ∧ (g_X10_isFullyBooked c) ≤ 1 := by
  unfold g_X10_isFullyBooked
  repeat' split
  all_goals first | exact ⟨Int.le_refl 0, Int.zero_le_ofNat 1⟩ | exact ⟨Int.zero_le_ofNat 1, Int.le_refl 1⟩
def l_X10_insertByDue_10 (o : Int) (c : Cs) : Nat → Int → Int
  | 0, p => p
  | n + 1, p =>
    if p ≤ 0 then
      p
    else
      if (c.2.1 5 1 (lget (c.2.2.1 6) (p - 1))) ≤ (c.2.1 5 1 o) then
        p
      else
        (l_X10_insertByDue_10 o c n (p + (-1)))
def okl_X10_insertByDue_10 (o : Int) (c : Cs) : Nat → Int → Prop
  | 0, p => False
  | n + 1, p =>
    R32 p ∧ (
      if p ≤ 0 then
        True
      else
        ((0 : Int) ≤ (p - 1) ∧ (p - 1) < ((c.2.2.1 6).length : Int)) ∧ (
          R32 (c.2.1 5 1 (lget (c.2.2.1 6) (p - 1))) ∧ (
            R32 (c.2.1 5 1 o) ∧ (
              if (c.2.1 5 1 (lget (c.2.2.1 6) (p - 1))) ≤ (c.2.1 5 1 o) then
                True
              else
                (okl_X10_insertByDue_10 o c n (p + (-1)))))))
theorem s_l_X10_insertByDue_10 {X : Cx} {ρ : Hp} {o : Int} {c : Cs} {rr : Rr} {c' : Cs} : ∀ (n : Nat) (p : Int), okl_X10_insertByDue_10 o c n p → (Ec X ρ m_X10_insertByDue 7 45 [some (13, 0), some (5, o), some (0, (l_X10_insertByDue_10 o c n p))] [] c rr c' → Ec X ρ m_X10_insertByDue 7 10 [some (13, 0), some (5, o), some (0, p)] [] c rr c') := by
  intro n
  induction n with
  | zero =>
    intro p hok K
    exact False.elim hok
  | succ n ih =>
    intro p hok K
    rw [okl_X10_insertByDue_10] at hok
    refine Ec.iload_n (i := 2) dX10_insertByDue_10 rfl rfl ?_
    obtain ⟨o1, hok⟩ := hok
    by_cases c2 : p ≤ 0
    · rw [if_pos c2] at hok
      refine Ec.if_le_t (tgt := 45) dX10_insertByDue_11 (by decide) o1 c2 ?_
      rw [l_X10_insertByDue_10, if_pos c2] at K
      refine Ec.cnv (ls' := [some (13, 0), some (5, o), some (0, p)]) ⟨Or.inl rfl, ⟨Or.inl rfl, ⟨Or.inl rfl, trivial⟩⟩⟩ ?_
      exact K
    · rw [if_neg c2] at hok
      refine Ec.if_le_f (tgt := 45) dX10_insertByDue_11 (by decide) o1 c2 ?_
      refine Ec.aload_n (i := 0) dX10_insertByDue_14 rfl rfl (Nat.le_of_ble_eq_true rfl) ?_
      refine Ec.gL (ci := 13) (k := 6) (t := 2) 6 (fun h _ => ⟨h.2.1.2.2.2.2.2.2.1, by decide⟩) rfl (by decide) rfl (by decide) (by decide) (tb1 (i := 190) rfl) (Or.inl rfl) rfl dX10_insertByDue_15 ?_
      refine Ec.iload_n (i := 2) dX10_insertByDue_18 rfl rfl ?_
      refine Ec.const dX10_insertByDue_19 ?_
      refine Ec.sub dX10_insertByDue_20 ?_
      obtain ⟨o3, hok⟩ := hok
      refine Ec.cf (as := [(0, (p - 1))]) kf_Jx4a65c_get_915e3 (tb2 (i := 93) rfl) dX10_insertByDue_21 rfl rfl (Nat.le_of_ble_eq_true rfl) (Nat.le_of_ble_eq_true rfl) (kl_get rfl o3) ?_
      refine Ec.cast (ci := 5) rfl (by decide) (tb5 (i := 89) rfl) dX10_insertByDue_26 ?_
      refine Ec.gI (ci := 5) (k := 1) (c.2.1 5 1 (lget (c.2.2.1 6) (p - 1))) rfl rfl (by decide) (by decide) (tb5 (i := 100) rfl) (Or.inl rfl) rfl dX10_insertByDue_29 ?_
      refine Ec.aload_n (i := 1) dX10_insertByDue_32 rfl rfl (Nat.le_of_ble_eq_true rfl) ?_
      refine Ec.gI (ci := 5) (k := 1) (c.2.1 5 1 o) rfl rfl (by decide) (by decide) (tb5 (i := 100) rfl) (Or.inl rfl) rfl dX10_insertByDue_33 ?_
      obtain ⟨o4, hok⟩ := hok
      obtain ⟨o5, hok⟩ := hok
      by_cases c6 : (c.2.1 5 1 (lget (c.2.2.1 6) (p - 1))) ≤ (c.2.1 5 1 o)
      · rw [if_pos c6] at hok
        refine Ec.icmp_le_t (tgt := 45) dX10_insertByDue_36 (by decide) o4 o5 c6 ?_
        rw [l_X10_insertByDue_10, if_neg c2, if_pos c6] at K
        refine Ec.cnv (ls' := [some (13, 0), some (5, o), some (0, p)]) ⟨Or.inl rfl, ⟨Or.inl rfl, ⟨Or.inl rfl, trivial⟩⟩⟩ ?_
        exact K
      · rw [if_neg c6] at hok
        refine Ec.icmp_le_f (tgt := 45) dX10_insertByDue_36 (by decide) o4 o5 c6 ?_
        refine Ec.inc dX10_insertByDue_39 rfl (by decide) ?_
        refine Ec.goto (tgt := 10) dX10_insertByDue_42 (by decide) ?_
        refine Ec.cnv (ls' := [some (13, 0), some (5, o), some (0, (p + (-1)))]) ⟨Or.inl rfl, ⟨Or.inl rfl, ⟨Or.inl rfl, trivial⟩⟩⟩ ?_
        rw [l_X10_insertByDue_10, if_neg c2, if_neg c6] at K
        exact ih (p + (-1)) hok K
def g_X10_insertByDue (o : Int) (c : Cs) : Cs :=
  (clst c 6 (insL (c.2.2.1 6) (l_X10_insertByDue_10 o c fu ((c.2.2.1 6).length : Int)).toNat o))
def ok_X10_insertByDue (o : Int) (c : Cs) : Prop :=
  (okl_X10_insertByDue_10 o c fu ((c.2.2.1 6).length : Int)) ∧ (
    ((c.2.2.1 6).length : Int) ≤ 199 ∧ (
      ((0 : Int) ≤ (l_X10_insertByDue_10 o c fu ((c.2.2.1 6).length : Int)) ∧ (l_X10_insertByDue_10 o c fu ((c.2.2.1 6).length : Int)) ≤ ((c.2.2.1 6).length : Int)) ∧ (
        True)))
theorem s_X10_insertByDue {X : Cx} {ρ : Hp} {o : Int} {c : Cs} (hok : ok_X10_insertByDue o c) : Kc X ρ m_X10_insertByDue 7 [(13, 0), (5, o)] c (.inl none) (g_X10_insertByDue o c) := by
  refine Kc.of (by decide +kernel) rfl (Nat.le_of_ble_eq_true rfl) ?_
  rw [ok_X10_insertByDue] at hok
  refine Ec.aload_n (i := 0) dX10_insertByDue_0 rfl rfl (Nat.le_of_ble_eq_true rfl) ?_
  refine Ec.gL (ci := 13) (k := 6) (t := 2) 6 (fun h _ => ⟨h.2.1.2.2.2.2.2.2.1, by decide⟩) rfl (by decide) rfl (by decide) (by decide) (tb1 (i := 190) rfl) (Or.inl rfl) rfl dX10_insertByDue_1 ?_
  refine Ec.say (fun _ hL _ hs => ?_)
  have q7 : ((c.2.2.1 6).length : Int) ≤ 200 := hL _ (hs.hd.r ⟨Nat.le_of_ble_eq_true rfl, Nat.le_of_ble_eq_true rfl⟩).2.1 (hs.hd.r ⟨Nat.le_of_ble_eq_true rfl, Nat.le_of_ble_eq_true rfl⟩).2.2
  refine Ec.cf (as := []) kf_Jx4a65c_size_8abf5 (tb1 (i := 226) rfl) dX10_insertByDue_4 rfl rfl (Nat.le_of_ble_eq_true rfl) (Nat.le_of_ble_eq_true rfl) kl_size ?_
  refine Ec.istore_n (i := 2) dX10_insertByDue_9 rfl (by decide) ?_
  refine Ec.cnv (ls' := [some (13, 0), some (5, o), some (0, ((c.2.2.1 6).length : Int))]) ⟨Or.inl rfl, ⟨Or.inl rfl, ⟨Or.inl rfl, trivial⟩⟩⟩ ?_
  obtain ⟨o8, hok⟩ := hok
  refine s_l_X10_insertByDue_10 (o := o) (c := c)  fu ((c.2.2.1 6).length : Int) o8 ?_
  refine Ec.aload_n (i := 0) dX10_insertByDue_45 rfl rfl (Nat.le_of_ble_eq_true rfl) ?_
  refine Ec.gL (ci := 13) (k := 6) (t := 2) 6 (fun h _ => ⟨h.2.1.2.2.2.2.2.2.1, by decide⟩) rfl (by decide) rfl (by decide) (by decide) (tb1 (i := 190) rfl) (Or.inl rfl) rfl dX10_insertByDue_46 ?_
  refine Ec.iload_n (i := 2) dX10_insertByDue_49 rfl rfl ?_
  refine Ec.aload_n (i := 1) dX10_insertByDue_50 rfl rfl (Nat.le_of_ble_eq_true rfl) ?_
  obtain ⟨o9, hok⟩ := hok
  obtain ⟨o10, hok⟩ := hok
  refine Ec.cf (as := [(0, (l_X10_insertByDue_10 o c fu ((c.2.2.1 6).length : Int))), (5, o)]) (c1 := (clst c 6 (insL (c.2.2.1 6) (l_X10_insertByDue_10 o c fu ((c.2.2.1 6).length : Int)).toNat o))) kf_Jx4a65c_add_7a177 (tb5 (i := 140) rfl) dX10_insertByDue_51 rfl rfl (Nat.le_of_ble_eq_true rfl) (Nat.le_of_ble_eq_true rfl) (kl_ins rfl o9 (by decide) o10) ?_
  exact Ec.vret rfl dX10_insertByDue_56 rfl (by rw [g_X10_insertByDue])
def l_X10_unitsReady_4 (r : Int) (c : Cs) : Nat → Int → Int → Int
  | 0, u, i => 0
  | n + 1, u, i =>
    if ((c.2.2.1 3).length : Int) ≤ i then
      u
    else
      if (g_X0_holds (lget (c.2.2.1 3) i) r c) = 0 then
        (l_X10_unitsReady_4 r c n u (i + 1))
      else
        (l_X10_unitsReady_4 r c n (u + (c.2.1 3 5 (lget (c.2.2.1 3) i))) (i + 1))
def okl_X10_unitsReady_4 (r : Int) (c : Cs) : Nat → Int → Int → Prop
  | 0, u, i => False
  | n + 1, u, i =>
    R32 i ∧ (
      if ((c.2.2.1 3).length : Int) ≤ i then
        True
      else
        ((0 : Int) ≤ i ∧ i < ((c.2.2.1 3).length : Int)) ∧ (
          ok_X0_holds (lget (c.2.2.1 3) i) r c ∧ (
            if (g_X0_holds (lget (c.2.2.1 3) i) r c) = 0 then
              (okl_X10_unitsReady_4 r c n u (i + 1))
            else
              (okl_X10_unitsReady_4 r c n (u + (c.2.1 3 5 (lget (c.2.2.1 3) i))) (i + 1)))))
theorem s_l_X10_unitsReady_4 {X : Cx} {ρ : Hp} {r : Int} {c : Cs} : ∀ (n : Nat) (u i : Int), okl_X10_unitsReady_4 r c n u i → Ec X ρ m_X10_unitsReady 4 4 [some (13, 0), some (109, r), some (0, u), some (0, i), none] [] c (.inl (some (0, (l_X10_unitsReady_4 r c n u i)))) c := by
  intro n
  induction n with
  | zero =>
    intro u i hok
    exact False.elim hok
  | succ n ih =>
    intro u i hok
    rw [okl_X10_unitsReady_4] at hok
    refine Ec.iload_n (i := 3) dX10_unitsReady_4 rfl rfl ?_
    refine Ec.aload_n (i := 0) dX10_unitsReady_5 rfl rfl (Nat.le_of_ble_eq_true rfl) ?_
    refine Ec.gL (ci := 13) (k := 3) (t := 2) 3 (fun h _ => ⟨h.2.1.2.2.2.1, by decide⟩) rfl (by decide) rfl (by decide) (by decide) (tb1 (i := 187) rfl) (Or.inl rfl) rfl dX10_unitsReady_6 ?_
    refine Ec.say (fun _ hL _ hs => ?_)
    have q1 : ((c.2.2.1 3).length : Int) ≤ 200 := hL _ (hs.hd.r ⟨Nat.le_of_ble_eq_true rfl, Nat.le_of_ble_eq_true rfl⟩).2.1 (hs.hd.r ⟨Nat.le_of_ble_eq_true rfl, Nat.le_of_ble_eq_true rfl⟩).2.2
    refine Ec.cf (as := []) kf_Jx4a65c_size_8abf5 (tb1 (i := 226) rfl) dX10_unitsReady_9 rfl rfl (Nat.le_of_ble_eq_true rfl) (Nat.le_of_ble_eq_true rfl) kl_size ?_
    obtain ⟨o2, hok⟩ := hok
    by_cases c3 : ((c.2.2.1 3).length : Int) ≤ i
    · rw [if_pos c3] at hok
      refine Ec.icmp_ge_t (tgt := 55) dX10_unitsReady_14 (by decide) o2 ⟨by omega, by omega⟩ c3 ?_
      refine Ec.iload_n (i := 2) dX10_unitsReady_55 rfl rfl ?_
      exact Ec.iret rfl nar_i dX10_unitsReady_56 (by rw [l_X10_unitsReady_4, if_pos c3]) rfl
    · rw [if_neg c3] at hok
      refine Ec.icmp_ge_f (tgt := 55) dX10_unitsReady_14 (by decide) o2 ⟨by omega, by omega⟩ c3 ?_
      refine Ec.aload_n (i := 0) dX10_unitsReady_17 rfl rfl (Nat.le_of_ble_eq_true rfl) ?_
      refine Ec.gL (ci := 13) (k := 3) (t := 2) 3 (fun h _ => ⟨h.2.1.2.2.2.1, by decide⟩) rfl (by decide) rfl (by decide) (by decide) (tb1 (i := 187) rfl) (Or.inl rfl) rfl dX10_unitsReady_18 ?_
      refine Ec.iload_n (i := 3) dX10_unitsReady_21 rfl rfl ?_
      obtain ⟨o4, hok⟩ := hok
      refine Ec.cf (as := [(0, i)]) kf_Jx4a65c_get_915e3 (tb2 (i := 93) rfl) dX10_unitsReady_22 rfl rfl (Nat.le_of_ble_eq_true rfl) (Nat.le_of_ble_eq_true rfl) (kl_get rfl o4) ?_
      refine Ec.cast (ci := 3) rfl (by decide) (tb3 (i := 87) rfl) dX10_unitsReady_27 ?_
      refine Ec.astore dX10_unitsReady_30 (by decide) (Nat.le_of_ble_eq_true rfl) ?_
      refine Ec.aload dX10_unitsReady_32 rfl (Nat.le_of_ble_eq_true rfl) ?_
      refine Ec.aload_n (i := 1) dX10_unitsReady_34 rfl rfl (Nat.le_of_ble_eq_true rfl) ?_
      obtain ⟨o5, hok⟩ := hok
      refine Ec.cv (ci := 3) (as := [(109, r)]) k_X0_holds rfl (by decide) (tb6 (i := 22) rfl) ki_X0_holds kv_X0_holds dX10_unitsReady_35 rfl rfl (Nat.le_of_ble_eq_true rfl) (Nat.le_of_ble_eq_true rfl) (s_X0_holds o5) ?_
      have q6 : 0 ≤ (g_X0_holds (lget (c.2.2.1 3) i) r c) ∧ (g_X0_holds (lget (c.2.2.1 3) i) r c) ≤ 1 := r_X0_holds
      by_cases c7 : (g_X0_holds (lget (c.2.2.1 3) i) r c) = 0
      · rw [if_pos c7] at hok
        refine Ec.if_eq_t (tgt := 49) dX10_unitsReady_38 (by decide) ⟨by omega, by omega⟩ c7 ?_
        refine Ec.inc dX10_unitsReady_49 rfl (by decide) ?_
        refine Ec.goto (tgt := 4) dX10_unitsReady_52 (by decide) ?_
        refine Ec.cnv (ls' := [some (13, 0), some (109, r), some (0, u), some (0, (i + 1)), none]) ⟨Or.inl rfl, ⟨Or.inl rfl, ⟨Or.inl rfl, ⟨Or.inl rfl, trivial⟩⟩⟩⟩ ?_
        rw [l_X10_unitsReady_4, if_neg c3, if_pos c7]
        exact ih u (i + 1) hok
      · rw [if_neg c7] at hok
        refine Ec.if_eq_f (tgt := 49) dX10_unitsReady_38 (by decide) ⟨by omega, by omega⟩ c7 ?_
        refine Ec.iload_n (i := 2) dX10_unitsReady_41 rfl rfl ?_
        refine Ec.aload dX10_unitsReady_42 rfl (Nat.le_of_ble_eq_true rfl) ?_
        refine Ec.gI (ci := 3) (k := 5) (c.2.1 3 5 (lget (c.2.2.1 3) i)) rfl rfl (by decide) (by decide) (tb3 (i := 124) rfl) (Or.inl rfl) rfl dX10_unitsReady_44 ?_
        refine Ec.add dX10_unitsReady_47 ?_
        refine Ec.istore_n (i := 2) dX10_unitsReady_48 rfl (by decide) ?_
        refine Ec.inc dX10_unitsReady_49 rfl (by decide) ?_
        refine Ec.goto (tgt := 4) dX10_unitsReady_52 (by decide) ?_
        refine Ec.cnv (ls' := [some (13, 0), some (109, r), some (0, (u + (c.2.1 3 5 (lget (c.2.2.1 3) i)))), some (0, (i + 1)), none]) ⟨Or.inl rfl, ⟨Or.inl rfl, ⟨Or.inl rfl, ⟨Or.inl rfl, trivial⟩⟩⟩⟩ ?_
        rw [l_X10_unitsReady_4, if_neg c3, if_neg c7]
        exact ih (u + (c.2.1 3 5 (lget (c.2.2.1 3) i))) (i + 1) hok
def g_X10_unitsReady (r : Int) (c : Cs) : Int :=
  (l_X10_unitsReady_4 r c fu 0 0)
def ok_X10_unitsReady (r : Int) (c : Cs) : Prop :=
  (okl_X10_unitsReady_4 r c fu 0 0)
theorem s_X10_unitsReady {X : Cx} {ρ : Hp} {r : Int} {c : Cs} (hok : ok_X10_unitsReady r c) : Kc X ρ m_X10_unitsReady 4 [(13, 0), (109, r)] c (.inl (some (0, (g_X10_unitsReady r c)))) c := by
  refine Kc.of (by decide +kernel) rfl (Nat.le_of_ble_eq_true rfl) ?_
  rw [ok_X10_unitsReady] at hok
  refine Ec.const dX10_unitsReady_0 ?_
  refine Ec.istore_n (i := 2) dX10_unitsReady_1 rfl (by decide) ?_
  refine Ec.const dX10_unitsReady_2 ?_
  refine Ec.istore_n (i := 3) dX10_unitsReady_3 rfl (by decide) ?_
  refine Ec.cnv (ls' := [some (13, 0), some (109, r), some (0, 0), some (0, 0), none]) ⟨Or.inl rfl, ⟨Or.inl rfl, ⟨Or.inl rfl, ⟨Or.inl rfl, trivial⟩⟩⟩⟩ ?_
  rw [g_X10_unitsReady]
  exact s_l_X10_unitsReady_4 (r := r) (c := c)  fu 0 0 hok
def l_X10_firstClean_2 (k : Int) (c : Cs) : Nat → Int → Int
  | 0, i => 0
  | n + 1, i =>
    if ((c.2.2.1 2).length : Int) ≤ i then
      (-1)
    else
      if (c.2.1 11 1 (lget (c.2.2.1 2) i)) = k then
        if (c.2.1 11 2 (lget (c.2.2.1 2) i)) = 99 then
          (lget (c.2.2.1 2) i)
        else
          (l_X10_firstClean_2 k c n (i + 1))
      else
        (l_X10_firstClean_2 k c n (i + 1))
def okl_X10_firstClean_2 (k : Int) (c : Cs) : Nat → Int → Prop
  | 0, i => False
  | n + 1, i =>
    R32 i ∧ (
      if ((c.2.2.1 2).length : Int) ≤ i then
        True
      else
        ((0 : Int) ≤ i ∧ i < ((c.2.2.1 2).length : Int)) ∧ (
          R32 (c.2.1 11 1 (lget (c.2.2.1 2) i)) ∧ (
            R32 k ∧ (
              if (c.2.1 11 1 (lget (c.2.2.1 2) i)) = k then
                R32 (c.2.1 11 2 (lget (c.2.2.1 2) i)) ∧ (
                  if (c.2.1 11 2 (lget (c.2.2.1 2) i)) = 99 then
                    True
                  else
                    (okl_X10_firstClean_2 k c n (i + 1)))
              else
                (okl_X10_firstClean_2 k c n (i + 1))))))
theorem s_l_X10_firstClean_2 {X : Cx} {ρ : Hp} {k : Int} {c : Cs} : ∀ (n : Nat) (i : Int), okl_X10_firstClean_2 k c n i → Ec X ρ m_X10_firstClean 4 2 [some (13, 0), some (0, k), some (0, i), none] [] c (.inl (some (111, (l_X10_firstClean_2 k c n i)))) c := by
  intro n
  induction n with
  | zero =>
    intro i hok
    exact False.elim hok
  | succ n ih =>
    intro i hok
    rw [okl_X10_firstClean_2] at hok
    refine Ec.iload_n (i := 2) dX10_firstClean_2 rfl rfl ?_
    refine Ec.aload_n (i := 0) dX10_firstClean_3 rfl rfl (Nat.le_of_ble_eq_true rfl) ?_
    refine Ec.gL (ci := 13) (k := 2) (t := 2) 2 (fun h _ => ⟨h.2.1.2.2.1, by decide⟩) rfl (by decide) rfl (by decide) (by decide) (tb1 (i := 186) rfl) (Or.inl rfl) rfl dX10_firstClean_4 ?_
    refine Ec.say (fun _ hL _ hs => ?_)
    have q1 : ((c.2.2.1 2).length : Int) ≤ 200 := hL _ (hs.hd.r ⟨Nat.le_of_ble_eq_true rfl, Nat.le_of_ble_eq_true rfl⟩).2.1 (hs.hd.r ⟨Nat.le_of_ble_eq_true rfl, Nat.le_of_ble_eq_true rfl⟩).2.2
    refine Ec.cf (as := []) kf_Jx4a65c_size_8abf5 (tb1 (i := 226) rfl) dX10_firstClean_7 rfl rfl (Nat.le_of_ble_eq_true rfl) (Nat.le_of_ble_eq_true rfl) kl_size ?_
    obtain ⟨o2, hok⟩ := hok
    by_cases c3 : ((c.2.2.1 2).length : Int) ≤ i
    · rw [if_pos c3] at hok
      refine Ec.icmp_ge_t (tgt := 54) dX10_firstClean_12 (by decide) o2 ⟨by omega, by omega⟩ c3 ?_
      refine Ec.null (t := 11) dX10_firstClean_54 ?_
      exact Ec.aret (Nat.le_of_ble_eq_true rfl) rfl rfl dX10_firstClean_55 (by rw [l_X10_firstClean_2, if_pos c3]) rfl
    · rw [if_neg c3] at hok
      refine Ec.icmp_ge_f (tgt := 54) dX10_firstClean_12 (by decide) o2 ⟨by omega, by omega⟩ c3 ?_
      refine Ec.aload_n (i := 0) dX10_firstClean_15 rfl rfl (Nat.le_of_ble_eq_true rfl) ?_
      refine Ec.gL (ci := 13) (k := 2) (t := 2) 2 (fun h _ => ⟨h.2.1.2.2.1, by decide⟩) rfl (by decide) rfl (by decide) (by decide) (tb1 (i := 186) rfl) (Or.inl rfl) rfl dX10_firstClean_16 ?_
      refine Ec.iload_n (i := 2) dX10_firstClean_19 rfl rfl ?_
      obtain ⟨o4, hok⟩ := hok
      refine Ec.cf (as := [(0, i)]) kf_Jx4a65c_get_915e3 (tb2 (i := 93) rfl) dX10_firstClean_20 rfl rfl (Nat.le_of_ble_eq_true rfl) (Nat.le_of_ble_eq_true rfl) (kl_get rfl o4) ?_
      refine Ec.cast (ci := 11) rfl (by decide) (tb2 (i := 168) rfl) dX10_firstClean_25 ?_
      refine Ec.astore_n (i := 3) dX10_firstClean_28 rfl (by decide) (Nat.le_of_ble_eq_true rfl) ?_
      refine Ec.aload_n (i := 3) dX10_firstClean_29 rfl rfl (Nat.le_of_ble_eq_true rfl) ?_
      refine Ec.gI (ci := 11) (k := 1) (c.2.1 11 1 (lget (c.2.2.1 2) i)) rfl rfl (by decide) (by decide) (tb2 (i := 177) rfl) (Or.inl rfl) rfl dX10_firstClean_30 ?_
      refine Ec.iload_n (i := 1) dX10_firstClean_33 rfl rfl ?_
      obtain ⟨o5, hok⟩ := hok
      obtain ⟨o6, hok⟩ := hok
      by_cases c7 : (c.2.1 11 1 (lget (c.2.2.1 2) i)) = k
      · rw [if_pos c7] at hok
        refine Ec.icmp_ne_f (tgt := 48) dX10_firstClean_34 (by decide) o5 o6 (fun h => h c7) ?_
        refine Ec.aload_n (i := 3) dX10_firstClean_37 rfl rfl (Nat.le_of_ble_eq_true rfl) ?_
        refine Ec.gI (ci := 11) (k := 2) (c.2.1 11 2 (lget (c.2.2.1 2) i)) rfl rfl (by decide) (by decide) (tb2 (i := 179) rfl) (Or.inl rfl) rfl dX10_firstClean_38 ?_
        refine Ec.bipush dX10_firstClean_41 (by decide) ?_
        obtain ⟨o8, hok⟩ := hok
        by_cases c9 : (c.2.1 11 2 (lget (c.2.2.1 2) i)) = 99
        · rw [if_pos c9] at hok
          refine Ec.icmp_ne_f (tgt := 48) dX10_firstClean_43 (by decide) o8 ⟨by decide, by decide⟩ (fun h => h c9) ?_
          refine Ec.aload_n (i := 3) dX10_firstClean_46 rfl rfl (Nat.le_of_ble_eq_true rfl) ?_
          exact Ec.aretQ ⟨Nat.le_of_ble_eq_true rfl, Nat.le_of_ble_eq_true rfl⟩ rfl rfl dX10_firstClean_47 (by rw [l_X10_firstClean_2, if_neg c3, if_pos c7, if_pos c9]) rfl
        · rw [if_neg c9] at hok
          refine Ec.icmp_ne_t (tgt := 48) dX10_firstClean_43 (by decide) o8 ⟨by decide, by decide⟩ c9 ?_
          refine Ec.inc dX10_firstClean_48 rfl (by decide) ?_
          refine Ec.goto (tgt := 2) dX10_firstClean_51 (by decide) ?_
          refine Ec.cnv (ls' := [some (13, 0), some (0, k), some (0, (i + 1)), none]) ⟨Or.inl rfl, ⟨Or.inl rfl, ⟨Or.inl rfl, trivial⟩⟩⟩ ?_
          rw [l_X10_firstClean_2, if_neg c3, if_pos c7, if_neg c9]
          exact ih (i + 1) hok
      · rw [if_neg c7] at hok
        refine Ec.icmp_ne_t (tgt := 48) dX10_firstClean_34 (by decide) o5 o6 c7 ?_
        refine Ec.inc dX10_firstClean_48 rfl (by decide) ?_
        refine Ec.goto (tgt := 2) dX10_firstClean_51 (by decide) ?_
        refine Ec.cnv (ls' := [some (13, 0), some (0, k), some (0, (i + 1)), none]) ⟨Or.inl rfl, ⟨Or.inl rfl, ⟨Or.inl rfl, trivial⟩⟩⟩ ?_
        rw [l_X10_firstClean_2, if_neg c3, if_neg c7]
        exact ih (i + 1) hok
def g_X10_firstClean (k : Int) (c : Cs) : Int :=
  (l_X10_firstClean_2 k c fu 0)
def ok_X10_firstClean (k : Int) (c : Cs) : Prop :=
  (okl_X10_firstClean_2 k c fu 0)
theorem s_X10_firstClean {X : Cx} {ρ : Hp} {k : Int} {c : Cs} (hok : ok_X10_firstClean k c) : Kc X ρ m_X10_firstClean 4 [(13, 0), (0, k)] c (.inl (some (111, (g_X10_firstClean k c)))) c := by
  refine Kc.of (by decide +kernel) rfl (Nat.le_of_ble_eq_true rfl) ?_
  rw [ok_X10_firstClean] at hok
  refine Ec.const dX10_firstClean_0 ?_
  refine Ec.istore_n (i := 2) dX10_firstClean_1 rfl (by decide) ?_
  refine Ec.cnv (ls' := [some (13, 0), some (0, k), some (0, 0), none]) ⟨Or.inl rfl, ⟨Or.inl rfl, ⟨Or.inl rfl, trivial⟩⟩⟩ ?_
  rw [g_X10_firstClean]
  exact s_l_X10_firstClean_2 (k := k) (c := c)  fu 0 hok
def l_X10_continueCleaning_2 : Nat → Int → Cs → Cs
  | 0, i, c => c
  | n + 1, i, c =>
    if ((c.2.2.1 2).length : Int) ≤ i then
      c
    else
      if (c.2.1 11 2 (lget (c.2.2.1 2) i)) = 103 then
        if ((c.2.1 11 3 (lget (c.2.2.1 2) i)) - 1) = 0 then
          (l_X10_continueCleaning_2  n (i + 1) (cput (cput c 11 3 (lget (c.2.2.1 2) i) ((c.2.1 11 3 (lget (c.2.2.1 2) i)) - 1)) 11 2 (lget (c.2.2.1 2) i) 99))
        else
          (l_X10_continueCleaning_2  n (i + 1) (cput c 11 3 (lget (c.2.2.1 2) i) ((c.2.1 11 3 (lget (c.2.2.1 2) i)) - 1)))
      else
        (l_X10_continueCleaning_2  n (i + 1) c)
def okl_X10_continueCleaning_2 : Nat → Int → Cs → Prop
  | 0, i, c => False
  | n + 1, i, c =>
    R32 i ∧ (
      if ((c.2.2.1 2).length : Int) ≤ i then
        True
      else
        ((0 : Int) ≤ i ∧ i < ((c.2.2.1 2).length : Int)) ∧ (
          R32 (c.2.1 11 2 (lget (c.2.2.1 2) i)) ∧ (
            if (c.2.1 11 2 (lget (c.2.2.1 2) i)) = 103 then
              R32 ((c.2.1 11 3 (lget (c.2.2.1 2) i)) - 1) ∧ (
                if ((c.2.1 11 3 (lget (c.2.2.1 2) i)) - 1) = 0 then
                  (okl_X10_continueCleaning_2  n (i + 1) (cput (cput c 11 3 (lget (c.2.2.1 2) i) ((c.2.1 11 3 (lget (c.2.2.1 2) i)) - 1)) 11 2 (lget (c.2.2.1 2) i) 99))
                else
                  (okl_X10_continueCleaning_2  n (i + 1) (cput c 11 3 (lget (c.2.2.1 2) i) ((c.2.1 11 3 (lget (c.2.2.1 2) i)) - 1))))
            else
              (okl_X10_continueCleaning_2  n (i + 1) c))))
theorem s_l_X10_continueCleaning_2 {X : Cx} {ρ : Hp} : ∀ (n : Nat) (i : Int) (c : Cs), okl_X10_continueCleaning_2 n i c → Ec X ρ m_X10_continueCleaning 4 2 [some (13, 0), some (0, i), none] [] c (.inl none) (l_X10_continueCleaning_2 n i c) := by
  intro n
  induction n with
  | zero =>
    intro i c hok
    exact False.elim hok
  | succ n ih =>
    intro i c hok
    rw [okl_X10_continueCleaning_2] at hok
    refine Ec.iload_n (i := 1) dX10_continueCleaning_2 rfl rfl ?_
    refine Ec.aload_n (i := 0) dX10_continueCleaning_3 rfl rfl (Nat.le_of_ble_eq_true rfl) ?_
    refine Ec.gL (ci := 13) (k := 2) (t := 2) 2 (fun h _ => ⟨h.2.1.2.2.1, by decide⟩) rfl (by decide) rfl (by decide) (by decide) (tb1 (i := 186) rfl) (Or.inl rfl) rfl dX10_continueCleaning_4 ?_
    refine Ec.say (fun _ hL _ hs => ?_)
    have q1 : ((c.2.2.1 2).length : Int) ≤ 200 := hL _ (hs.hd.r ⟨Nat.le_of_ble_eq_true rfl, Nat.le_of_ble_eq_true rfl⟩).2.1 (hs.hd.r ⟨Nat.le_of_ble_eq_true rfl, Nat.le_of_ble_eq_true rfl⟩).2.2
    refine Ec.cf (as := []) kf_Jx4a65c_size_8abf5 (tb1 (i := 226) rfl) dX10_continueCleaning_7 rfl rfl (Nat.le_of_ble_eq_true rfl) (Nat.le_of_ble_eq_true rfl) kl_size ?_
    obtain ⟨o2, hok⟩ := hok
    by_cases c3 : ((c.2.2.1 2).length : Int) ≤ i
    · rw [if_pos c3] at hok
      refine Ec.icmp_ge_t (tgt := 67) dX10_continueCleaning_12 (by decide) o2 ⟨by omega, by omega⟩ c3 ?_
      exact Ec.vret rfl dX10_continueCleaning_67 rfl (by rw [l_X10_continueCleaning_2, if_pos c3])
    · rw [if_neg c3] at hok
      refine Ec.icmp_ge_f (tgt := 67) dX10_continueCleaning_12 (by decide) o2 ⟨by omega, by omega⟩ c3 ?_
      refine Ec.aload_n (i := 0) dX10_continueCleaning_15 rfl rfl (Nat.le_of_ble_eq_true rfl) ?_
      refine Ec.gL (ci := 13) (k := 2) (t := 2) 2 (fun h _ => ⟨h.2.1.2.2.1, by decide⟩) rfl (by decide) rfl (by decide) (by decide) (tb1 (i := 186) rfl) (Or.inl rfl) rfl dX10_continueCleaning_16 ?_
      refine Ec.iload_n (i := 1) dX10_continueCleaning_19 rfl rfl ?_
      obtain ⟨o4, hok⟩ := hok
      refine Ec.cf (as := [(0, i)]) kf_Jx4a65c_get_915e3 (tb2 (i := 93) rfl) dX10_continueCleaning_20 rfl rfl (Nat.le_of_ble_eq_true rfl) (Nat.le_of_ble_eq_true rfl) (kl_get rfl o4) ?_
      refine Ec.cast (ci := 11) rfl (by decide) (tb2 (i := 168) rfl) dX10_continueCleaning_25 ?_
      refine Ec.astore_n (i := 2) dX10_continueCleaning_28 rfl (by decide) (Nat.le_of_ble_eq_true rfl) ?_
      refine Ec.aload_n (i := 2) dX10_continueCleaning_29 rfl rfl (Nat.le_of_ble_eq_true rfl) ?_
      refine Ec.gI (ci := 11) (k := 2) (c.2.1 11 2 (lget (c.2.2.1 2) i)) rfl rfl (by decide) (by decide) (tb2 (i := 179) rfl) (Or.inl rfl) rfl dX10_continueCleaning_30 ?_
      refine Ec.bipush dX10_continueCleaning_33 (by decide) ?_
      obtain ⟨o5, hok⟩ := hok
      by_cases c6 : (c.2.1 11 2 (lget (c.2.2.1 2) i)) = 103
      · rw [if_pos c6] at hok
        refine Ec.icmp_ne_f (tgt := 61) dX10_continueCleaning_35 (by decide) o5 ⟨by decide, by decide⟩ (fun h => h c6) ?_
        refine Ec.aload_n (i := 2) dX10_continueCleaning_38 rfl rfl (Nat.le_of_ble_eq_true rfl) ?_
        refine Ec.dup dX10_continueCleaning_39 ?_
        refine Ec.gI (ci := 11) (k := 3) (c.2.1 11 3 (lget (c.2.2.1 2) i)) rfl rfl (by decide) (by decide) (tb2 (i := 181) rfl) (Or.inl rfl) rfl dX10_continueCleaning_40 ?_
        refine Ec.const dX10_continueCleaning_43 ?_
        refine Ec.sub dX10_continueCleaning_44 ?_
        refine Ec.pI (ci := 11) (k := 3) rfl rfl (by decide) (by decide) (tb2 (i := 181) rfl) (Or.inl rfl) (Or.inl rfl) rfl rfl rfl dX10_continueCleaning_45 ?_
        refine Ec.aload_n (i := 2) dX10_continueCleaning_48 rfl rfl (Nat.le_of_ble_eq_true rfl) ?_
        refine Ec.gI (ci := 11) (k := 3) (((c.2.1 11 3 (lget (c.2.2.1 2) i)) - 1)) (cput_eq c 11 3 (lget (c.2.2.1 2) i) ((c.2.1 11 3 (lget (c.2.2.1 2) i)) - 1)) rfl (by decide) (by decide) (tb2 (i := 181) rfl) (Or.inl rfl) rfl dX10_continueCleaning_49 ?_
        obtain ⟨o7, hok⟩ := hok
        by_cases c8 : ((c.2.1 11 3 (lget (c.2.2.1 2) i)) - 1) = 0
        · rw [if_pos c8] at hok
          refine Ec.if_ne_f (tgt := 61) dX10_continueCleaning_52 (by decide) o7 (fun h => h c8) ?_
          refine Ec.aload_n (i := 2) dX10_continueCleaning_55 rfl rfl (Nat.le_of_ble_eq_true rfl) ?_
          refine Ec.bipush dX10_continueCleaning_56 (by decide) ?_
          refine Ec.pI (ci := 11) (k := 2) rfl rfl (by decide) (by decide) (tb2 (i := 179) rfl) (Or.inl rfl) (Or.inl rfl) rfl rfl rfl dX10_continueCleaning_58 ?_
          refine Ec.inc dX10_continueCleaning_61 rfl (by decide) ?_
          refine Ec.goto (tgt := 2) dX10_continueCleaning_64 (by decide) ?_
          refine Ec.cnv (ls' := [some (13, 0), some (0, (i + 1)), none]) ⟨Or.inl rfl, ⟨Or.inl rfl, trivial⟩⟩ ?_
          rw [l_X10_continueCleaning_2, if_neg c3, if_pos c6, if_pos c8]
          exact ih (i + 1) (cput (cput c 11 3 (lget (c.2.2.1 2) i) ((c.2.1 11 3 (lget (c.2.2.1 2) i)) - 1)) 11 2 (lget (c.2.2.1 2) i) 99) hok
        · rw [if_neg c8] at hok
          refine Ec.if_ne_t (tgt := 61) dX10_continueCleaning_52 (by decide) o7 c8 ?_
          refine Ec.inc dX10_continueCleaning_61 rfl (by decide) ?_
          refine Ec.goto (tgt := 2) dX10_continueCleaning_64 (by decide) ?_
          refine Ec.cnv (ls' := [some (13, 0), some (0, (i + 1)), none]) ⟨Or.inl rfl, ⟨Or.inl rfl, trivial⟩⟩ ?_
          rw [l_X10_continueCleaning_2, if_neg c3, if_pos c6, if_neg c8]
          exact ih (i + 1) (cput c 11 3 (lget (c.2.2.1 2) i) ((c.2.1 11 3 (lget (c.2.2.1 2) i)) - 1)) hok
      · rw [if_neg c6] at hok
        refine Ec.icmp_ne_t (tgt := 61) dX10_continueCleaning_35 (by decide) o5 ⟨by decide, by decide⟩ c6 ?_
        refine Ec.inc dX10_continueCleaning_61 rfl (by decide) ?_
        refine Ec.goto (tgt := 2) dX10_continueCleaning_64 (by decide) ?_
        refine Ec.cnv (ls' := [some (13, 0), some (0, (i + 1)), none]) ⟨Or.inl rfl, ⟨Or.inl rfl, trivial⟩⟩ ?_
        rw [l_X10_continueCleaning_2, if_neg c3, if_neg c6]
        exact ih (i + 1) c hok
def g_X10_continueCleaning (c : Cs) : Cs :=
  (l_X10_continueCleaning_2 fu 0 c)
def ok_X10_continueCleaning (c : Cs) : Prop :=
  (okl_X10_continueCleaning_2 fu 0 c)
theorem s_X10_continueCleaning {X : Cx} {ρ : Hp} {c : Cs} (hok : ok_X10_continueCleaning c) : Kc X ρ m_X10_continueCleaning 4 [(13, 0)] c (.inl none) (g_X10_continueCleaning c) := by
  refine Kc.of (by decide +kernel) rfl (Nat.le_of_ble_eq_true rfl) ?_
  rw [ok_X10_continueCleaning] at hok
  refine Ec.const dX10_continueCleaning_0 ?_
  refine Ec.istore_n (i := 1) dX10_continueCleaning_1 rfl (by decide) ?_
  refine Ec.cnv (ls' := [some (13, 0), some (0, 0), none]) ⟨Or.inl rfl, ⟨Or.inl rfl, trivial⟩⟩ ?_
  rw [g_X10_continueCleaning]
  exact s_l_X10_continueCleaning_2   fu 0 c hok
def g_X10_finishPhase (b : Int) (c : Cs) : Cs :=
  if (c.2.1 3 3 b) = 102 then
    (g_X9_harvest (c.2.1 9 2 (c.2.1 3 1 b)) ((c.2.1 3 2 b) + 1) (c.2.1 13 11 0) (cput c 3 3 b 119))
  else
    (g_X0_becomeReady b c)
def ok_X10_finishPhase (b : Int) (c : Cs) : Prop :=
  R32 (c.2.1 3 3 b) ∧ (
    if (c.2.1 3 3 b) = 102 then
      (c.2.1 3 1 b) ≠ -1 ∧ (
        (c.2.1 9 2 (c.2.1 3 1 b)) ≠ -1 ∧ (
          ok_X9_harvest (c.2.1 9 2 (c.2.1 3 1 b)) ((c.2.1 3 2 b) + 1) (c.2.1 13 11 0) (cput c 3 3 b 119) ∧ (
            True)))
    else
      True)
theorem s_X10_finishPhase {X : Cx} {ρ : Hp} {b : Int} {c : Cs} (hok : ok_X10_finishPhase b c) : Kc X ρ m_X10_finishPhase 8 [(13, 0), (3, b)] c (.inl none) (g_X10_finishPhase b c) := by
  refine Kc.of (by decide +kernel) rfl (Nat.le_of_ble_eq_true rfl) ?_
  rw [ok_X10_finishPhase] at hok
  refine Ec.aload_n (i := 1) dX10_finishPhase_0 rfl rfl (Nat.le_of_ble_eq_true rfl) ?_
  refine Ec.gI (ci := 3) (k := 3) (c.2.1 3 3 b) rfl rfl (by decide) (by decide) (tb3 (i := 119) rfl) (Or.inl rfl) rfl dX10_finishPhase_1 ?_
  refine Ec.bipush dX10_finishPhase_4 (by decide) ?_
  obtain ⟨o1, hok⟩ := hok
  by_cases c2 : (c.2.1 3 3 b) = 102
  · rw [if_pos c2] at hok
    refine Ec.icmp_ne_f (tgt := 38) dX10_finishPhase_6 (by decide) o1 ⟨by decide, by decide⟩ (fun h => h c2) ?_
    refine Ec.aload_n (i := 1) dX10_finishPhase_9 rfl rfl (Nat.le_of_ble_eq_true rfl) ?_
    refine Ec.bipush dX10_finishPhase_10 (by decide) ?_
    refine Ec.pI (ci := 3) (k := 3) rfl rfl (by decide) (by decide) (tb3 (i := 119) rfl) (Or.inl rfl) (Or.inl rfl) rfl rfl rfl dX10_finishPhase_12 ?_
    refine Ec.aload_n (i := 1) dX10_finishPhase_15 rfl rfl (Nat.le_of_ble_eq_true rfl) ?_
    refine Ec.gQ (ci := 3) (k := 1) (t := 9) (c.2.1 3 1 b) rfl rfl rfl (by decide) (by decide) (tb3 (i := 114) rfl) (Or.inl rfl) rfl dX10_finishPhase_16 ?_
    obtain ⟨o3, hok⟩ := hok
    refine Ec.nns (t := 9) o3 (by decide) ?_
    refine Ec.gQ (ci := 9) (k := 2) (t := 12) (c.2.1 9 2 (c.2.1 3 1 b)) rfl rfl rfl (by decide) (by decide) (tb2 (i := 144) rfl) (Or.inl rfl) rfl dX10_finishPhase_19 ?_
    obtain ⟨o4, hok⟩ := hok
    refine Ec.nns (t := 12) o4 (by decide) ?_
    refine Ec.aload_n (i := 1) dX10_finishPhase_22 rfl rfl (Nat.le_of_ble_eq_true rfl) ?_
    refine Ec.gI (ci := 3) (k := 2) (c.2.1 3 2 b) rfl rfl (by decide) (by decide) (tb3 (i := 116) rfl) (Or.inl rfl) rfl dX10_finishPhase_23 ?_
    refine Ec.const dX10_finishPhase_26 ?_
    refine Ec.add dX10_finishPhase_27 ?_
    refine Ec.aload_n (i := 0) dX10_finishPhase_28 rfl rfl (Nat.le_of_ble_eq_true rfl) ?_
    refine Ec.gI (ci := 13) (k := 11) (c.2.1 13 11 0) rfl rfl (by decide) (by decide) (tb1 (i := 195) rfl) (Or.inl rfl) rfl dX10_finishPhase_29 ?_
    obtain ⟨o5, hok⟩ := hok
    refine Ec.cv (ci := 12) (as := [(0, ((c.2.1 3 2 b) + 1)), (0, (c.2.1 13 11 0))]) k_X9_harvest rfl (by decide) (tb5 (i := 206) rfl) ki_X9_harvest kv_X9_harvest dX10_finishPhase_32 rfl rfl (Nat.le_of_ble_eq_true rfl) (Nat.le_of_ble_eq_true rfl) (s_X9_harvest o5) ?_
    refine Ec.goto (tgt := 42) dX10_finishPhase_35 (by decide) ?_
    exact Ec.vret rfl dX10_finishPhase_42 rfl (by rw [g_X10_finishPhase, if_pos c2])
  · rw [if_neg c2] at hok
    refine Ec.icmp_ne_t (tgt := 38) dX10_finishPhase_6 (by decide) o1 ⟨by decide, by decide⟩ c2 ?_
    refine Ec.aload_n (i := 1) dX10_finishPhase_38 rfl rfl (Nat.le_of_ble_eq_true rfl) ?_
    refine Ec.cv (ci := 3) (as := []) k_X0_becomeReady rfl (by decide) (tb5 (i := 225) rfl) ki_X0_becomeReady kv_X0_becomeReady dX10_finishPhase_39 rfl rfl (Nat.le_of_ble_eq_true rfl) (Nat.le_of_ble_eq_true rfl) s_X0_becomeReady ?_
    exact Ec.vret rfl dX10_finishPhase_42 rfl (by rw [g_X10_finishPhase, if_neg c2])
def l_X10_ageBrews_2 : Nat → Int → Cs → Cs
  | 0, i, c => c
  | n + 1, i, c =>
    if ((c.2.2.1 3).length : Int) ≤ i then
      c
    else
      if (g_X0_isAtWork (lget (c.2.2.1 3) i) c) = 0 then
        (l_X10_ageBrews_2  n (i + 1) c)
      else
        if ((c.2.1 3 4 (lget (c.2.2.1 3) i)) - 1) = 0 then
          (l_X10_ageBrews_2  n (i + 1) (g_X10_finishPhase (lget (c.2.2.1 3) i) (cput c 3 4 (lget (c.2.2.1 3) i) ((c.2.1 3 4 (lget (c.2.2.1 3) i)) - 1))))
        else
          (l_X10_ageBrews_2  n (i + 1) (cput c 3 4 (lget (c.2.2.1 3) i) ((c.2.1 3 4 (lget (c.2.2.1 3) i)) - 1)))
def okl_X10_ageBrews_2 : Nat → Int → Cs → Prop
  | 0, i, c => False
  | n + 1, i, c =>
    R32 i ∧ (
      if ((c.2.2.1 3).length : Int) ≤ i then
        True
      else
        ((0 : Int) ≤ i ∧ i < ((c.2.2.1 3).length : Int)) ∧ (
          ok_X0_isAtWork (lget (c.2.2.1 3) i) c ∧ (
            if (g_X0_isAtWork (lget (c.2.2.1 3) i) c) = 0 then
              (okl_X10_ageBrews_2  n (i + 1) c)
            else
              R32 ((c.2.1 3 4 (lget (c.2.2.1 3) i)) - 1) ∧ (
                if ((c.2.1 3 4 (lget (c.2.2.1 3) i)) - 1) = 0 then
                  ok_X10_finishPhase (lget (c.2.2.1 3) i) (cput c 3 4 (lget (c.2.2.1 3) i) ((c.2.1 3 4 (lget (c.2.2.1 3) i)) - 1)) ∧ (
                    (okl_X10_ageBrews_2  n (i + 1) (g_X10_finishPhase (lget (c.2.2.1 3) i) (cput c 3 4 (lget (c.2.2.1 3) i) ((c.2.1 3 4 (lget (c.2.2.1 3) i)) - 1)))))
                else
                  (okl_X10_ageBrews_2  n (i + 1) (cput c 3 4 (lget (c.2.2.1 3) i) ((c.2.1 3 4 (lget (c.2.2.1 3) i)) - 1)))))))
theorem s_l_X10_ageBrews_2 {X : Cx} {ρ : Hp} : ∀ (n : Nat) (i : Int) (c : Cs), okl_X10_ageBrews_2 n i c → Ec X ρ m_X10_ageBrews 9 2 [some (13, 0), some (0, i), none] [] c (.inl none) (l_X10_ageBrews_2 n i c) := by
  intro n
  induction n with
  | zero =>
    intro i c hok
    exact False.elim hok
  | succ n ih =>
    intro i c hok
    rw [okl_X10_ageBrews_2] at hok
    refine Ec.iload_n (i := 1) dX10_ageBrews_2 rfl rfl ?_
    refine Ec.aload_n (i := 0) dX10_ageBrews_3 rfl rfl (Nat.le_of_ble_eq_true rfl) ?_
    refine Ec.gL (ci := 13) (k := 3) (t := 2) 3 (fun h _ => ⟨h.2.1.2.2.2.1, by decide⟩) rfl (by decide) rfl (by decide) (by decide) (tb1 (i := 187) rfl) (Or.inl rfl) rfl dX10_ageBrews_4 ?_
    refine Ec.say (fun _ hL _ hs => ?_)
    have q1 : ((c.2.2.1 3).length : Int) ≤ 200 := hL _ (hs.hd.r ⟨Nat.le_of_ble_eq_true rfl, Nat.le_of_ble_eq_true rfl⟩).2.1 (hs.hd.r ⟨Nat.le_of_ble_eq_true rfl, Nat.le_of_ble_eq_true rfl⟩).2.2
    refine Ec.cf (as := []) kf_Jx4a65c_size_8abf5 (tb1 (i := 226) rfl) dX10_ageBrews_7 rfl rfl (Nat.le_of_ble_eq_true rfl) (Nat.le_of_ble_eq_true rfl) kl_size ?_
    obtain ⟨o2, hok⟩ := hok
    by_cases c3 : ((c.2.2.1 3).length : Int) ≤ i
    · rw [if_pos c3] at hok
      refine Ec.icmp_ge_t (tgt := 64) dX10_ageBrews_12 (by decide) o2 ⟨by omega, by omega⟩ c3 ?_
      exact Ec.vret rfl dX10_ageBrews_64 rfl (by rw [l_X10_ageBrews_2, if_pos c3])
    · rw [if_neg c3] at hok
      refine Ec.icmp_ge_f (tgt := 64) dX10_ageBrews_12 (by decide) o2 ⟨by omega, by omega⟩ c3 ?_
      refine Ec.aload_n (i := 0) dX10_ageBrews_15 rfl rfl (Nat.le_of_ble_eq_true rfl) ?_
      refine Ec.gL (ci := 13) (k := 3) (t := 2) 3 (fun h _ => ⟨h.2.1.2.2.2.1, by decide⟩) rfl (by decide) rfl (by decide) (by decide) (tb1 (i := 187) rfl) (Or.inl rfl) rfl dX10_ageBrews_16 ?_
      refine Ec.iload_n (i := 1) dX10_ageBrews_19 rfl rfl ?_
      obtain ⟨o4, hok⟩ := hok
      refine Ec.cf (as := [(0, i)]) kf_Jx4a65c_get_915e3 (tb2 (i := 93) rfl) dX10_ageBrews_20 rfl rfl (Nat.le_of_ble_eq_true rfl) (Nat.le_of_ble_eq_true rfl) (kl_get rfl o4) ?_
      refine Ec.cast (ci := 3) rfl (by decide) (tb3 (i := 87) rfl) dX10_ageBrews_25 ?_
      refine Ec.astore_n (i := 2) dX10_ageBrews_28 rfl (by decide) (Nat.le_of_ble_eq_true rfl) ?_
      refine Ec.aload_n (i := 2) dX10_ageBrews_29 rfl rfl (Nat.le_of_ble_eq_true rfl) ?_
      obtain ⟨o5, hok⟩ := hok
      refine Ec.cv (ci := 3) (as := []) k_X0_isAtWork rfl (by decide) (tb5 (i := 198) rfl) ki_X0_isAtWork kv_X0_isAtWork dX10_ageBrews_30 rfl rfl (Nat.le_of_ble_eq_true rfl) (Nat.le_of_ble_eq_true rfl) (s_X0_isAtWork o5) ?_
      have q6 : 0 ≤ (g_X0_isAtWork (lget (c.2.2.1 3) i) c) ∧ (g_X0_isAtWork (lget (c.2.2.1 3) i) c) ≤ 1 := r_X0_isAtWork
      by_cases c7 : (g_X0_isAtWork (lget (c.2.2.1 3) i) c) = 0
      · rw [if_pos c7] at hok
        refine Ec.if_eq_t (tgt := 58) dX10_ageBrews_33 (by decide) ⟨by omega, by omega⟩ c7 ?_
        refine Ec.inc dX10_ageBrews_58 rfl (by decide) ?_
        refine Ec.goto (tgt := 2) dX10_ageBrews_61 (by decide) ?_
        refine Ec.cnv (ls' := [some (13, 0), some (0, (i + 1)), none]) ⟨Or.inl rfl, ⟨Or.inl rfl, trivial⟩⟩ ?_
        rw [l_X10_ageBrews_2, if_neg c3, if_pos c7]
        exact ih (i + 1) c hok
      · rw [if_neg c7] at hok
        refine Ec.if_eq_f (tgt := 58) dX10_ageBrews_33 (by decide) ⟨by omega, by omega⟩ c7 ?_
        refine Ec.aload_n (i := 2) dX10_ageBrews_36 rfl rfl (Nat.le_of_ble_eq_true rfl) ?_
        refine Ec.dup dX10_ageBrews_37 ?_
        refine Ec.gI (ci := 3) (k := 4) (c.2.1 3 4 (lget (c.2.2.1 3) i)) rfl rfl (by decide) (by decide) (tb3 (i := 122) rfl) (Or.inl rfl) rfl dX10_ageBrews_38 ?_
        refine Ec.const dX10_ageBrews_41 ?_
        refine Ec.sub dX10_ageBrews_42 ?_
        refine Ec.pI (ci := 3) (k := 4) rfl rfl (by decide) (by decide) (tb3 (i := 122) rfl) (Or.inl rfl) (Or.inl rfl) rfl rfl rfl dX10_ageBrews_43 ?_
        refine Ec.aload_n (i := 2) dX10_ageBrews_46 rfl rfl (Nat.le_of_ble_eq_true rfl) ?_
        refine Ec.gI (ci := 3) (k := 4) (((c.2.1 3 4 (lget (c.2.2.1 3) i)) - 1)) (cput_eq c 3 4 (lget (c.2.2.1 3) i) ((c.2.1 3 4 (lget (c.2.2.1 3) i)) - 1)) rfl (by decide) (by decide) (tb3 (i := 122) rfl) (Or.inl rfl) rfl dX10_ageBrews_47 ?_
        obtain ⟨o8, hok⟩ := hok
        by_cases c9 : ((c.2.1 3 4 (lget (c.2.2.1 3) i)) - 1) = 0
        · rw [if_pos c9] at hok
          refine Ec.if_ne_f (tgt := 58) dX10_ageBrews_50 (by decide) o8 (fun h => h c9) ?_
          refine Ec.aload_n (i := 0) dX10_ageBrews_53 rfl rfl (Nat.le_of_ble_eq_true rfl) ?_
          refine Ec.aload_n (i := 2) dX10_ageBrews_54 rfl rfl (Nat.le_of_ble_eq_true rfl) ?_
          obtain ⟨o10, hok⟩ := hok
          refine Ec.cv (ci := 13) (as := [(3, (lget (c.2.2.1 3) i))]) k_X10_finishPhase rfl (by decide) (tb5 (i := 202) rfl) ki_X10_finishPhase kv_X10_finishPhase dX10_ageBrews_55 rfl rfl (Nat.le_of_ble_eq_true rfl) (Nat.le_of_ble_eq_true rfl) (s_X10_finishPhase o10) ?_
          refine Ec.inc dX10_ageBrews_58 rfl (by decide) ?_
          refine Ec.goto (tgt := 2) dX10_ageBrews_61 (by decide) ?_
          refine Ec.cnv (ls' := [some (13, 0), some (0, (i + 1)), none]) ⟨Or.inl rfl, ⟨Or.inl rfl, trivial⟩⟩ ?_
          rw [l_X10_ageBrews_2, if_neg c3, if_neg c7, if_pos c9]
          exact ih (i + 1) (g_X10_finishPhase (lget (c.2.2.1 3) i) (cput c 3 4 (lget (c.2.2.1 3) i) ((c.2.1 3 4 (lget (c.2.2.1 3) i)) - 1))) hok
        · rw [if_neg c9] at hok
          refine Ec.if_ne_t (tgt := 58) dX10_ageBrews_50 (by decide) o8 c9 ?_
          refine Ec.inc dX10_ageBrews_58 rfl (by decide) ?_
          refine Ec.goto (tgt := 2) dX10_ageBrews_61 (by decide) ?_
          refine Ec.cnv (ls' := [some (13, 0), some (0, (i + 1)), none]) ⟨Or.inl rfl, ⟨Or.inl rfl, trivial⟩⟩ ?_
          rw [l_X10_ageBrews_2, if_neg c3, if_neg c7, if_neg c9]
          exact ih (i + 1) (cput c 3 4 (lget (c.2.2.1 3) i) ((c.2.1 3 4 (lget (c.2.2.1 3) i)) - 1)) hok
def g_X10_ageBrews (c : Cs) : Cs :=
  (l_X10_ageBrews_2 fu 0 c)
def ok_X10_ageBrews (c : Cs) : Prop :=
  (okl_X10_ageBrews_2 fu 0 c)
theorem s_X10_ageBrews {X : Cx} {ρ : Hp} {c : Cs} (hok : ok_X10_ageBrews c) : Kc X ρ m_X10_ageBrews 9 [(13, 0)] c (.inl none) (g_X10_ageBrews c) := by
  refine Kc.of (by decide +kernel) rfl (Nat.le_of_ble_eq_true rfl) ?_
  rw [ok_X10_ageBrews] at hok
  refine Ec.const dX10_ageBrews_0 ?_
  refine Ec.istore_n (i := 1) dX10_ageBrews_1 rfl (by decide) ?_
  refine Ec.cnv (ls' := [some (13, 0), some (0, 0), none]) ⟨Or.inl rfl, ⟨Or.inl rfl, trivial⟩⟩ ?_
  rw [g_X10_ageBrews]
  exact s_l_X10_ageBrews_2   fu 0 c hok
def g_X10_leaveVessel (b : Int) (c : Cs) : Cs :=
  if (c.2.1 3 6 b) = -1 then
    c
  else
    (clst (cput (cput (cput c 3 6 b (-1)) 11 5 (c.2.1 3 6 b) (-1)) 11 2 (c.2.1 3 6 b) 100) 8 (c.2.2.1 8 ++ [(c.2.1 3 6 b)]))
def ok_X10_leaveVessel (b : Int) (c : Cs) : Prop :=
  if (c.2.1 3 6 b) = -1 then
    True
  else
    ((c.2.2.1 8).length : Int) ≤ 199 ∧ (
      True)
theorem s_X10_leaveVessel {X : Cx} {ρ : Hp} {b : Int} {c : Cs} (hok : ok_X10_leaveVessel b c) : Kc X ρ m_X10_leaveVessel 7 [(13, 0), (3, b)] c (.inl none) (g_X10_leaveVessel b c) := by
  refine Kc.of (by decide +kernel) rfl (Nat.le_of_ble_eq_true rfl) ?_
  rw [ok_X10_leaveVessel] at hok
  refine Ec.aload_n (i := 1) dX10_leaveVessel_0 rfl rfl (Nat.le_of_ble_eq_true rfl) ?_
  refine Ec.gQ (ci := 3) (k := 6) (t := 11) (c.2.1 3 6 b) rfl rfl rfl (by decide) (by decide) (tb3 (i := 127) rfl) (Or.inl rfl) rfl dX10_leaveVessel_1 ?_
  refine Ec.astore_n (i := 2) dX10_leaveVessel_4 rfl (by decide) (Nat.le_of_ble_eq_true rfl) ?_
  refine Ec.aload_n (i := 2) dX10_leaveVessel_5 rfl rfl (Nat.le_of_ble_eq_true rfl) ?_
  by_cases c1 : (c.2.1 3 6 b) = -1
  · rw [if_pos c1] at hok
    refine Ec.ifnull_t (t := 11) (tgt := 36) dX10_leaveVessel_6 (by decide) c1 ?_
    exact Ec.vret rfl dX10_leaveVessel_36 rfl (by rw [g_X10_leaveVessel, if_pos c1])
  · rw [if_neg c1] at hok
    refine Ec.ifnull_f (t := 11) (tgt := 36) dX10_leaveVessel_6 (by decide) c1 ?_
    refine Ec.nn (i := 2) (t := 11) rfl c1 (by decide) ?_
    refine Ec.aload_n (i := 1) dX10_leaveVessel_9 rfl rfl (Nat.le_of_ble_eq_true rfl) ?_
    refine Ec.null (t := 11) dX10_leaveVessel_10 ?_
    refine Ec.pR (ci := 3) (k := 6) (t := 11) ⟨by decide, by decide, Or.inr rfl⟩ rfl rfl rfl (by decide) (by decide) (tb3 (i := 127) rfl) (Or.inl rfl) (Or.inl rfl) rfl dX10_leaveVessel_11 ?_
    refine Ec.aload_n (i := 2) dX10_leaveVessel_14 rfl rfl (Nat.le_of_ble_eq_true rfl) ?_
    refine Ec.null (t := 3) dX10_leaveVessel_15 ?_
    refine Ec.pR (ci := 11) (k := 5) (t := 3) ⟨by decide, by decide, Or.inr rfl⟩ rfl rfl rfl (by decide) (by decide) (tb2 (i := 186) rfl) (Or.inl rfl) (Or.inl rfl) rfl dX10_leaveVessel_16 ?_
    refine Ec.aload_n (i := 2) dX10_leaveVessel_19 rfl rfl (Nat.le_of_ble_eq_true rfl) ?_
    refine Ec.bipush dX10_leaveVessel_20 (by decide) ?_
    refine Ec.pI (ci := 11) (k := 2) rfl rfl (by decide) (by decide) (tb2 (i := 179) rfl) (Or.inl rfl) (Or.inl rfl) rfl rfl rfl dX10_leaveVessel_22 ?_
    refine Ec.aload_n (i := 0) dX10_leaveVessel_25 rfl rfl (Nat.le_of_ble_eq_true rfl) ?_
    refine Ec.gL (ci := 13) (k := 8) (t := 2) 8 (fun h _ => ⟨h.2.1.2.2.2.2.2.2.2.2.1, by decide⟩) rfl (by decide) rfl (by decide) (by decide) (tb1 (i := 192) rfl) (Or.inl rfl) rfl dX10_leaveVessel_26 ?_
    refine Ec.aload_n (i := 2) dX10_leaveVessel_29 rfl rfl (Nat.le_of_ble_eq_true rfl) ?_
    obtain ⟨o2, hok⟩ := hok
    refine Ec.cf (as := [(11, (c.2.1 3 6 b))]) (c1 := (clst (cput (cput (cput c 3 6 b (-1)) 11 5 (c.2.1 3 6 b) (-1)) 11 2 (c.2.1 3 6 b) 100) 8 (c.2.2.1 8 ++ [(c.2.1 3 6 b)]))) kf_Jx4a65c_add_9ea2d (tb1 (i := 113) rfl) dX10_leaveVessel_30 rfl rfl (Nat.le_of_ble_eq_true rfl) (Nat.le_of_ble_eq_true rfl) (kl_add rfl o2 (by decide)) ?_
    refine Ec.pop dX10_leaveVessel_35 ?_
    exact Ec.vret rfl dX10_leaveVessel_36 rfl (by rw [g_X10_leaveVessel, if_neg c1])
def l_X10_moveWaitingBrews_2 : Nat → Int → Cs → Cs
  | 0, i, c => c
  | n + 1, i, c =>
    if ((c.2.2.1 3).length : Int) ≤ i then
      c
    else
      if (c.2.1 3 3 (lget (c.2.2.1 3) i)) = 119 then
        if (g_X10_firstClean 116 c) = -1 then
          (l_X10_moveWaitingBrews_2  n (i + 1) c)
        else
          (l_X10_moveWaitingBrews_2  n (i + 1) (g_X0_mature (lget (c.2.2.1 3) i) (g_X8_takeIn (g_X10_firstClean 116 c) (lget (c.2.2.1 3) i) (g_X10_leaveVessel (lget (c.2.2.1 3) i) c))))
      else
        (l_X10_moveWaitingBrews_2  n (i + 1) c)
def okl_X10_moveWaitingBrews_2 : Nat → Int → Cs → Prop
  | 0, i, c => False
  | n + 1, i, c =>
    R32 i ∧ (
      if ((c.2.2.1 3).length : Int) ≤ i then
        True
      else
        ((0 : Int) ≤ i ∧ i < ((c.2.2.1 3).length : Int)) ∧ (
          R32 (c.2.1 3 3 (lget (c.2.2.1 3) i)) ∧ (
            if (c.2.1 3 3 (lget (c.2.2.1 3) i)) = 119 then
              ok_X10_firstClean 116 c ∧ (
                if (g_X10_firstClean 116 c) = -1 then
                  (okl_X10_moveWaitingBrews_2  n (i + 1) c)
                else
                  ok_X10_leaveVessel (lget (c.2.2.1 3) i) c ∧ (
                    ok_X0_mature (lget (c.2.2.1 3) i) (g_X8_takeIn (g_X10_firstClean 116 c) (lget (c.2.2.1 3) i) (g_X10_leaveVessel (lget (c.2.2.1 3) i) c)) ∧ (
                      (okl_X10_moveWaitingBrews_2  n (i + 1) (g_X0_mature (lget (c.2.2.1 3) i) (g_X8_takeIn (g_X10_firstClean 116 c) (lget (c.2.2.1 3) i) (g_X10_leaveVessel (lget (c.2.2.1 3) i) c)))))))
            else
              (okl_X10_moveWaitingBrews_2  n (i + 1) c))))
theorem s_l_X10_moveWaitingBrews_2 {X : Cx} {ρ : Hp} : ∀ (n : Nat) (i : Int) (c : Cs), okl_X10_moveWaitingBrews_2 n i c → Ec X ρ m_X10_moveWaitingBrews 8 2 [some (13, 0), some (0, i), none, none] [] c (.inl none) (l_X10_moveWaitingBrews_2 n i c) := by
  intro n
  induction n with
  | zero =>
    intro i c hok
    exact False.elim hok
  | succ n ih =>
    intro i c hok
    rw [okl_X10_moveWaitingBrews_2] at hok
    refine Ec.iload_n (i := 1) dX10_moveWaitingBrews_2 rfl rfl ?_
    refine Ec.aload_n (i := 0) dX10_moveWaitingBrews_3 rfl rfl (Nat.le_of_ble_eq_true rfl) ?_
    refine Ec.gL (ci := 13) (k := 3) (t := 2) 3 (fun h _ => ⟨h.2.1.2.2.2.1, by decide⟩) rfl (by decide) rfl (by decide) (by decide) (tb1 (i := 187) rfl) (Or.inl rfl) rfl dX10_moveWaitingBrews_4 ?_
    refine Ec.say (fun _ hL _ hs => ?_)
    have q1 : ((c.2.2.1 3).length : Int) ≤ 200 := hL _ (hs.hd.r ⟨Nat.le_of_ble_eq_true rfl, Nat.le_of_ble_eq_true rfl⟩).2.1 (hs.hd.r ⟨Nat.le_of_ble_eq_true rfl, Nat.le_of_ble_eq_true rfl⟩).2.2
    refine Ec.cf (as := []) kf_Jx4a65c_size_8abf5 (tb1 (i := 226) rfl) dX10_moveWaitingBrews_7 rfl rfl (Nat.le_of_ble_eq_true rfl) (Nat.le_of_ble_eq_true rfl) kl_size ?_
    obtain ⟨o2, hok⟩ := hok
    by_cases c3 : ((c.2.2.1 3).length : Int) ≤ i
    · rw [if_pos c3] at hok
      refine Ec.icmp_ge_t (tgt := 69) dX10_moveWaitingBrews_12 (by decide) o2 ⟨by omega, by omega⟩ c3 ?_
      exact Ec.vret rfl dX10_moveWaitingBrews_69 rfl (by rw [l_X10_moveWaitingBrews_2, if_pos c3])
    · rw [if_neg c3] at hok
      refine Ec.icmp_ge_f (tgt := 69) dX10_moveWaitingBrews_12 (by decide) o2 ⟨by omega, by omega⟩ c3 ?_
      refine Ec.aload_n (i := 0) dX10_moveWaitingBrews_15 rfl rfl (Nat.le_of_ble_eq_true rfl) ?_
      refine Ec.gL (ci := 13) (k := 3) (t := 2) 3 (fun h _ => ⟨h.2.1.2.2.2.1, by decide⟩) rfl (by decide) rfl (by decide) (by decide) (tb1 (i := 187) rfl) (Or.inl rfl) rfl dX10_moveWaitingBrews_16 ?_
      refine Ec.iload_n (i := 1) dX10_moveWaitingBrews_19 rfl rfl ?_
      obtain ⟨o4, hok⟩ := hok
      refine Ec.cf (as := [(0, i)]) kf_Jx4a65c_get_915e3 (tb2 (i := 93) rfl) dX10_moveWaitingBrews_20 rfl rfl (Nat.le_of_ble_eq_true rfl) (Nat.le_of_ble_eq_true rfl) (kl_get rfl o4) ?_
      refine Ec.cast (ci := 3) rfl (by decide) (tb3 (i := 87) rfl) dX10_moveWaitingBrews_25 ?_
      refine Ec.astore_n (i := 2) dX10_moveWaitingBrews_28 rfl (by decide) (Nat.le_of_ble_eq_true rfl) ?_
      refine Ec.aload_n (i := 2) dX10_moveWaitingBrews_29 rfl rfl (Nat.le_of_ble_eq_true rfl) ?_
      refine Ec.gI (ci := 3) (k := 3) (c.2.1 3 3 (lget (c.2.2.1 3) i)) rfl rfl (by decide) (by decide) (tb3 (i := 119) rfl) (Or.inl rfl) rfl dX10_moveWaitingBrews_30 ?_
      refine Ec.bipush dX10_moveWaitingBrews_33 (by decide) ?_
      obtain ⟨o5, hok⟩ := hok
      by_cases c6 : (c.2.1 3 3 (lget (c.2.2.1 3) i)) = 119
      · rw [if_pos c6] at hok
        refine Ec.icmp_ne_f (tgt := 63) dX10_moveWaitingBrews_35 (by decide) o5 ⟨by decide, by decide⟩ (fun h => h c6) ?_
        refine Ec.aload_n (i := 0) dX10_moveWaitingBrews_38 rfl rfl (Nat.le_of_ble_eq_true rfl) ?_
        refine Ec.bipush dX10_moveWaitingBrews_39 (by decide) ?_
        obtain ⟨o7, hok⟩ := hok
        refine Ec.cv (ci := 13) (as := [(0, 116)]) k_X10_firstClean rfl (by decide) (tb5 (i := 233) rfl) ki_X10_firstClean kv_X10_firstClean dX10_moveWaitingBrews_41 rfl rfl (Nat.le_of_ble_eq_true rfl) (Nat.le_of_ble_eq_true rfl) (s_X10_firstClean o7) ?_
        refine Ec.astore_n (i := 3) dX10_moveWaitingBrews_44 rfl (by decide) (Nat.le_of_ble_eq_true rfl) ?_
        refine Ec.aload_n (i := 3) dX10_moveWaitingBrews_45 rfl rfl (Nat.le_of_ble_eq_true rfl) ?_
        by_cases c8 : (g_X10_firstClean 116 c) = -1
        · rw [if_pos c8] at hok
          refine Ec.ifnull_t (t := 11) (tgt := 63) dX10_moveWaitingBrews_46 (by decide) c8 ?_
          refine Ec.inc dX10_moveWaitingBrews_63 rfl (by decide) ?_
          refine Ec.goto (tgt := 2) dX10_moveWaitingBrews_66 (by decide) ?_
          refine Ec.cnv (ls' := [some (13, 0), some (0, (i + 1)), none, none]) ⟨Or.inl rfl, ⟨Or.inl rfl, trivial⟩⟩ ?_
          rw [l_X10_moveWaitingBrews_2, if_neg c3, if_pos c6, if_pos c8]
          exact ih (i + 1) c hok
        · rw [if_neg c8] at hok
          refine Ec.ifnull_f (t := 11) (tgt := 63) dX10_moveWaitingBrews_46 (by decide) c8 ?_
          refine Ec.nn (i := 3) (t := 11) rfl c8 (by decide) ?_
          refine Ec.aload_n (i := 0) dX10_moveWaitingBrews_49 rfl rfl (Nat.le_of_ble_eq_true rfl) ?_
          refine Ec.aload_n (i := 2) dX10_moveWaitingBrews_50 rfl rfl (Nat.le_of_ble_eq_true rfl) ?_
          obtain ⟨o9, hok⟩ := hok
          refine Ec.cv (ci := 13) (as := [(3, (lget (c.2.2.1 3) i))]) k_X10_leaveVessel rfl (by decide) (tb5 (i := 237) rfl) ki_X10_leaveVessel kv_X10_leaveVessel dX10_moveWaitingBrews_51 rfl rfl (Nat.le_of_ble_eq_true rfl) (Nat.le_of_ble_eq_true rfl) (s_X10_leaveVessel o9) ?_
          refine Ec.aload_n (i := 3) dX10_moveWaitingBrews_54 rfl rfl (Nat.le_of_ble_eq_true rfl) ?_
          refine Ec.aload_n (i := 2) dX10_moveWaitingBrews_55 rfl rfl (Nat.le_of_ble_eq_true rfl) ?_
          refine Ec.cv (ci := 11) (as := [(3, (lget (c.2.2.1 3) i))]) k_X8_takeIn rfl (by decide) (tb3 (i := 147) rfl) ki_X8_takeIn kv_X8_takeIn dX10_moveWaitingBrews_56 rfl rfl (Nat.le_of_ble_eq_true rfl) (Nat.le_of_ble_eq_true rfl) s_X8_takeIn ?_
          refine Ec.aload_n (i := 2) dX10_moveWaitingBrews_59 rfl rfl (Nat.le_of_ble_eq_true rfl) ?_
          obtain ⟨o10, hok⟩ := hok
          refine Ec.cv (ci := 3) (as := []) k_X0_mature rfl (by decide) (tb6 (i := 1) rfl) ki_X0_mature kv_X0_mature dX10_moveWaitingBrews_60 rfl rfl (Nat.le_of_ble_eq_true rfl) (Nat.le_of_ble_eq_true rfl) (s_X0_mature o10) ?_
          refine Ec.inc dX10_moveWaitingBrews_63 rfl (by decide) ?_
          refine Ec.goto (tgt := 2) dX10_moveWaitingBrews_66 (by decide) ?_
          refine Ec.cnv (ls' := [some (13, 0), some (0, (i + 1)), none, none]) ⟨Or.inl rfl, ⟨Or.inl rfl, trivial⟩⟩ ?_
          rw [l_X10_moveWaitingBrews_2, if_neg c3, if_pos c6, if_neg c8]
          exact ih (i + 1) (g_X0_mature (lget (c.2.2.1 3) i) (g_X8_takeIn (g_X10_firstClean 116 c) (lget (c.2.2.1 3) i) (g_X10_leaveVessel (lget (c.2.2.1 3) i) c))) hok
      · rw [if_neg c6] at hok
        refine Ec.icmp_ne_t (tgt := 63) dX10_moveWaitingBrews_35 (by decide) o5 ⟨by decide, by decide⟩ c6 ?_
        refine Ec.inc dX10_moveWaitingBrews_63 rfl (by decide) ?_
        refine Ec.goto (tgt := 2) dX10_moveWaitingBrews_66 (by decide) ?_
        refine Ec.cnv (ls' := [some (13, 0), some (0, (i + 1)), none, none]) ⟨Or.inl rfl, ⟨Or.inl rfl, trivial⟩⟩ ?_
        rw [l_X10_moveWaitingBrews_2, if_neg c3, if_neg c6]
        exact ih (i + 1) c hok
def g_X10_moveWaitingBrews (c : Cs) : Cs :=
  (l_X10_moveWaitingBrews_2 fu 0 c)
def ok_X10_moveWaitingBrews (c : Cs) : Prop :=
  (okl_X10_moveWaitingBrews_2 fu 0 c)
theorem s_X10_moveWaitingBrews {X : Cx} {ρ : Hp} {c : Cs} (hok : ok_X10_moveWaitingBrews c) : Kc X ρ m_X10_moveWaitingBrews 8 [(13, 0)] c (.inl none) (g_X10_moveWaitingBrews c) := by
  refine Kc.of (by decide +kernel) rfl (Nat.le_of_ble_eq_true rfl) ?_
  rw [ok_X10_moveWaitingBrews] at hok
  refine Ec.const dX10_moveWaitingBrews_0 ?_
  refine Ec.istore_n (i := 1) dX10_moveWaitingBrews_1 rfl (by decide) ?_
  refine Ec.cnv (ls' := [some (13, 0), some (0, 0), none, none]) ⟨Or.inl rfl, ⟨Or.inl rfl, trivial⟩⟩ ?_
  rw [g_X10_moveWaitingBrews]
  exact s_l_X10_moveWaitingBrews_2   fu 0 c hok
def l_X10_canFill_2 (o : Int) (c : Cs) : Nat → Int → Int
  | 0, i => 0
  | n + 1, i =>
    if ((c.2.2.1 (17 + o)).length : Int) ≤ i then
      1
    else
      if (g_X2_unitsOf o (c.2.1 6 0 (lget (c.2.2.1 (17 + o)) i)) c) ≤ (g_X10_unitsReady (c.2.1 6 0 (lget (c.2.2.1 (17 + o)) i)) c) then
        (l_X10_canFill_2 o c n (i + 1))
      else
        0
def okl_X10_canFill_2 (o : Int) (c : Cs) : Nat → Int → Prop
  | 0, i => False
  | n + 1, i =>
    (c.2.1 5 2 o = 17 + o ∧ 0 ≤ o) ∧ (
      R32 i ∧ (
        if ((c.2.2.1 (17 + o)).length : Int) ≤ i then
          True
        else
          ((0 : Int) ≤ i ∧ i < ((c.2.2.1 (17 + o)).length : Int)) ∧ (
            ok_X2_unitsOf o (c.2.1 6 0 (lget (c.2.2.1 (17 + o)) i)) c ∧ (
              ok_X10_unitsReady (c.2.1 6 0 (lget (c.2.2.1 (17 + o)) i)) c ∧ (
                R32 (g_X2_unitsOf o (c.2.1 6 0 (lget (c.2.2.1 (17 + o)) i)) c) ∧ (
                  R32 (g_X10_unitsReady (c.2.1 6 0 (lget (c.2.2.1 (17 + o)) i)) c) ∧ (
                    if (g_X2_unitsOf o (c.2.1 6 0 (lget (c.2.2.1 (17 + o)) i)) c) ≤ (g_X10_unitsReady (c.2.1 6 0 (lget (c.2.2.1 (17 + o)) i)) c) then
                      (okl_X10_canFill_2 o c n (i + 1))
                    else
                      True)))))))
theorem s_l_X10_canFill_2 {X : Cx} {ρ : Hp} {o : Int} {c : Cs} : ∀ (n : Nat) (i : Int), okl_X10_canFill_2 o c n i → Ec X ρ m_X10_canFill 5 2 [some (13, 0), some (5, o), some (0, i), none] [] c (.inl (some (0, (l_X10_canFill_2 o c n i)))) c := by
  intro n
  induction n with
  | zero =>
    intro i hok
    exact False.elim hok
  | succ n ih =>
    intro i hok
    rw [okl_X10_canFill_2] at hok
    refine Ec.iload_n (i := 2) dX10_canFill_2 rfl rfl ?_
    refine Ec.aload_n (i := 1) dX10_canFill_3 rfl rfl (Nat.le_of_ble_eq_true rfl) ?_
    obtain ⟨o1, hok⟩ := hok
    refine Ec.gL (ci := 5) (k := 2) (t := 2) (17 + o) (fun _ _ => ⟨o1.1, by omega⟩) rfl (by decide) rfl (by decide) (by decide) (tb5 (i := 102) rfl) (Or.inl rfl) rfl dX10_canFill_4 ?_
    refine Ec.say (fun _ hL _ hs => ?_)
    have q2 : ((c.2.2.1 (17 + o)).length : Int) ≤ 200 := hL _ (hs.hd.r ⟨Nat.le_of_ble_eq_true rfl, Nat.le_of_ble_eq_true rfl⟩).2.1 (hs.hd.r ⟨Nat.le_of_ble_eq_true rfl, Nat.le_of_ble_eq_true rfl⟩).2.2
    refine Ec.cf (as := []) kf_Jx4a65c_size_8abf5 (tb1 (i := 226) rfl) dX10_canFill_7 rfl rfl (Nat.le_of_ble_eq_true rfl) (Nat.le_of_ble_eq_true rfl) kl_size ?_
    obtain ⟨o3, hok⟩ := hok
    by_cases c4 : ((c.2.2.1 (17 + o)).length : Int) ≤ i
    · rw [if_pos c4] at hok
      refine Ec.icmp_ge_t (tgt := 53) dX10_canFill_12 (by decide) o3 ⟨by omega, by omega⟩ c4 ?_
      refine Ec.const dX10_canFill_53 ?_
      exact Ec.iret rfl rfl dX10_canFill_54 (by rw [l_X10_canFill_2, if_pos c4]) rfl
    · rw [if_neg c4] at hok
      refine Ec.icmp_ge_f (tgt := 53) dX10_canFill_12 (by decide) o3 ⟨by omega, by omega⟩ c4 ?_
      refine Ec.aload_n (i := 1) dX10_canFill_15 rfl rfl (Nat.le_of_ble_eq_true rfl) ?_
      refine Ec.gL (ci := 5) (k := 2) (t := 2) (17 + o) (fun _ _ => ⟨o1.1, by omega⟩) rfl (by decide) rfl (by decide) (by decide) (tb5 (i := 102) rfl) (Or.inl rfl) rfl dX10_canFill_16 ?_
      refine Ec.iload_n (i := 2) dX10_canFill_19 rfl rfl ?_
      obtain ⟨o5, hok⟩ := hok
      refine Ec.cf (as := [(0, i)]) kf_Jx4a65c_get_915e3 (tb2 (i := 93) rfl) dX10_canFill_20 rfl rfl (Nat.le_of_ble_eq_true rfl) (Nat.le_of_ble_eq_true rfl) (kl_get (tel_part (by omega)) o5) ?_
      refine Ec.cast (ci := 6) rfl (by decide) (tb5 (i := 118) rfl) dX10_canFill_25 ?_
      refine Ec.gQ (ci := 6) (k := 0) (t := 9) (c.2.1 6 0 (lget (c.2.2.1 (17 + o)) i)) rfl rfl rfl (by decide) (by decide) (tb5 (i := 126) rfl) (Or.inl rfl) rfl dX10_canFill_28 ?_
      refine Ec.astore_n (i := 3) dX10_canFill_31 rfl (by decide) (Nat.le_of_ble_eq_true rfl) ?_
      refine Ec.aload_n (i := 1) dX10_canFill_32 rfl rfl (Nat.le_of_ble_eq_true rfl) ?_
      refine Ec.aload_n (i := 3) dX10_canFill_33 rfl rfl (Nat.le_of_ble_eq_true rfl) ?_
      obtain ⟨o6, hok⟩ := hok
      refine Ec.cv (ci := 5) (as := [(109, (c.2.1 6 0 (lget (c.2.2.1 (17 + o)) i)))]) k_X2_unitsOf rfl (by decide) (tb6 (i := 14) rfl) ki_X2_unitsOf kv_X2_unitsOf dX10_canFill_34 rfl rfl (Nat.le_of_ble_eq_true rfl) (Nat.le_of_ble_eq_true rfl) (s_X2_unitsOf o6) ?_
      refine Ec.aload_n (i := 0) dX10_canFill_37 rfl rfl (Nat.le_of_ble_eq_true rfl) ?_
      refine Ec.aload_n (i := 3) dX10_canFill_38 rfl rfl (Nat.le_of_ble_eq_true rfl) ?_
      obtain ⟨o7, hok⟩ := hok
      refine Ec.cv (ci := 13) (as := [(109, (c.2.1 6 0 (lget (c.2.2.1 (17 + o)) i)))]) k_X10_unitsReady rfl (by decide) (tb6 (i := 18) rfl) ki_X10_unitsReady kv_X10_unitsReady dX10_canFill_39 rfl rfl (Nat.le_of_ble_eq_true rfl) (Nat.le_of_ble_eq_true rfl) (s_X10_unitsReady o7) ?_
      obtain ⟨o8, hok⟩ := hok
      obtain ⟨o9, hok⟩ := hok
      by_cases c10 : (g_X2_unitsOf o (c.2.1 6 0 (lget (c.2.2.1 (17 + o)) i)) c) ≤ (g_X10_unitsReady (c.2.1 6 0 (lget (c.2.2.1 (17 + o)) i)) c)
      · rw [if_pos c10] at hok
        refine Ec.icmp_le_t (tgt := 47) dX10_canFill_42 (by decide) o8 o9 c10 ?_
        refine Ec.inc dX10_canFill_47 rfl (by decide) ?_
        refine Ec.goto (tgt := 2) dX10_canFill_50 (by decide) ?_
        refine Ec.cnv (ls' := [some (13, 0), some (5, o), some (0, (i + 1)), none]) ⟨Or.inl rfl, ⟨Or.inl rfl, ⟨Or.inl rfl, trivial⟩⟩⟩ ?_
        rw [l_X10_canFill_2, if_neg c4, if_pos c10]
        exact ih (i + 1) hok
      · rw [if_neg c10] at hok
        refine Ec.icmp_le_f (tgt := 47) dX10_canFill_42 (by decide) o8 o9 c10 ?_
        refine Ec.const dX10_canFill_45 ?_
        exact Ec.iret rfl rfl dX10_canFill_46 (by rw [l_X10_canFill_2, if_neg c4, if_neg c10]) rfl
theorem r_l_X10_canFill_2 {o : Int} {c : Cs} : ∀ (n : Nat) (i : Int), 0 ≤ (l_X10_canFill_2 o c n i) ∧ (l_X10_canFill_2 o c n i) ≤ 1 := by
  intro n
  induction n with
  | zero =>
    intro i
    exact ⟨Int.le_refl 0, Int.zero_le_ofNat 1⟩
  | succ n ih =>
    intro i
    rw [l_X10_canFill_2]
    repeat' split
    all_goals first | exact ih _ | exact ⟨Int.le_refl 0, Int.zero_le_ofNat 1⟩ | exact ⟨Int.zero_le_ofNat 1, Int.le_refl 1⟩
def g_X10_canFill (o : Int) (c : Cs) : Int :=
  (l_X10_canFill_2 o c fu 0)
def ok_X10_canFill (o : Int) (c : Cs) : Prop :=
  (okl_X10_canFill_2 o c fu 0)
theorem s_X10_canFill {X : Cx} {ρ : Hp} {o : Int} {c : Cs} (hok : ok_X10_canFill o c) : Kc X ρ m_X10_canFill 5 [(13, 0), (5, o)] c (.inl (some (0, (g_X10_canFill o c)))) c := by
  refine Kc.of (by decide +kernel) rfl (Nat.le_of_ble_eq_true rfl) ?_
  rw [ok_X10_canFill] at hok
  refine Ec.const dX10_canFill_0 ?_
  refine Ec.istore_n (i := 2) dX10_canFill_1 rfl (by decide) ?_
  refine Ec.cnv (ls' := [some (13, 0), some (5, o), some (0, 0), none]) ⟨Or.inl rfl, ⟨Or.inl rfl, ⟨Or.inl rfl, trivial⟩⟩⟩ ?_
  rw [g_X10_canFill]
  exact s_l_X10_canFill_2 (o := o) (c := c)  fu 0 hok
theorem r_X10_canFill {o : Int} {c : Cs} : 0 ≤ (g_X10_canFill o c) ∧ (g_X10_canFill o c) ≤ 1 := by
  unfold g_X10_canFill
  repeat' split
  all_goals first | exact ⟨Int.le_refl 0, Int.zero_le_ofNat 1⟩ | exact ⟨Int.zero_le_ofNat 1, Int.le_refl 1⟩ | exact r_l_X10_canFill_2 _ _
def l_X10_draw_8 (o p : Int) : Nat → Int → Int → Cs → Cs
  | 0, u, i, c => c
  | n + 1, u, i, c =>
    if ((c.2.2.1 3).length : Int) ≤ i then
      c
    else
      if u ≤ 0 then
        c
      else
        if (g_X0_holds (lget (c.2.2.1 3) i) (c.2.1 6 0 p) c) = 0 then
          (l_X10_draw_8 o p n u (i + 1) c)
        else
          if ((g_X1_init ((cput c 3 5 (lget (c.2.2.1 3) i) ((c.2.1 3 5 (lget (c.2.2.1 3) i)) - (if (c.2.1 3 5 (lget (c.2.2.1 3) i)) < u then (c.2.1 3 5 (lget (c.2.2.1 3) i)) else u))).1 4) (lget (c.2.2.1 3) i) o (if (c.2.1 3 5 (lget (c.2.2.1 3) i)) < u then (c.2.1 3 5 (lget (c.2.2.1 3) i)) else u) (cnew (cput c 3 5 (lget (c.2.2.1 3) i) ((c.2.1 3 5 (lget (c.2.2.1 3) i)) - (if (c.2.1 3 5 (lget (c.2.2.1 3) i)) < u then (c.2.1 3 5 (lget (c.2.2.1 3) i)) else u))) 4)).2.1 3 5 (lget (c.2.2.1 3) i)) = 0 then
            (l_X10_draw_8 o p n (u - (if (c.2.1 3 5 (lget (c.2.2.1 3) i)) < u then (c.2.1 3 5 (lget (c.2.2.1 3) i)) else u)) (i + 1) (g_X10_leaveVessel (lget (c.2.2.1 3) i) (cput (clst (g_X1_init ((cput c 3 5 (lget (c.2.2.1 3) i) ((c.2.1 3 5 (lget (c.2.2.1 3) i)) - (if (c.2.1 3 5 (lget (c.2.2.1 3) i)) < u then (c.2.1 3 5 (lget (c.2.2.1 3) i)) else u))).1 4) (lget (c.2.2.1 3) i) o (if (c.2.1 3 5 (lget (c.2.2.1 3) i)) < u then (c.2.1 3 5 (lget (c.2.2.1 3) i)) else u) (cnew (cput c 3 5 (lget (c.2.2.1 3) i) ((c.2.1 3 5 (lget (c.2.2.1 3) i)) - (if (c.2.1 3 5 (lget (c.2.2.1 3) i)) < u then (c.2.1 3 5 (lget (c.2.2.1 3) i)) else u))) 4)) 7 ((g_X1_init ((cput c 3 5 (lget (c.2.2.1 3) i) ((c.2.1 3 5 (lget (c.2.2.1 3) i)) - (if (c.2.1 3 5 (lget (c.2.2.1 3) i)) < u then (c.2.1 3 5 (lget (c.2.2.1 3) i)) else u))).1 4) (lget (c.2.2.1 3) i) o (if (c.2.1 3 5 (lget (c.2.2.1 3) i)) < u then (c.2.1 3 5 (lget (c.2.2.1 3) i)) else u) (cnew (cput c 3 5 (lget (c.2.2.1 3) i) ((c.2.1 3 5 (lget (c.2.2.1 3) i)) - (if (c.2.1 3 5 (lget (c.2.2.1 3) i)) < u then (c.2.1 3 5 (lget (c.2.2.1 3) i)) else u))) 4)).2.2.1 7 ++ [(cput c 3 5 (lget (c.2.2.1 3) i) ((c.2.1 3 5 (lget (c.2.2.1 3) i)) - (if (c.2.1 3 5 (lget (c.2.2.1 3) i)) < u then (c.2.1 3 5 (lget (c.2.2.1 3) i)) else u))).1 4])) 3 3 (lget (c.2.2.1 3) i) 120)))
          else
            (l_X10_draw_8 o p n (u - (if (c.2.1 3 5 (lget (c.2.2.1 3) i)) < u then (c.2.1 3 5 (lget (c.2.2.1 3) i)) else u)) (i + 1) (clst (g_X1_init ((cput c 3 5 (lget (c.2.2.1 3) i) ((c.2.1 3 5 (lget (c.2.2.1 3) i)) - (if (c.2.1 3 5 (lget (c.2.2.1 3) i)) < u then (c.2.1 3 5 (lget (c.2.2.1 3) i)) else u))).1 4) (lget (c.2.2.1 3) i) o (if (c.2.1 3 5 (lget (c.2.2.1 3) i)) < u then (c.2.1 3 5 (lget (c.2.2.1 3) i)) else u) (cnew (cput c 3 5 (lget (c.2.2.1 3) i) ((c.2.1 3 5 (lget (c.2.2.1 3) i)) - (if (c.2.1 3 5 (lget (c.2.2.1 3) i)) < u then (c.2.1 3 5 (lget (c.2.2.1 3) i)) else u))) 4)) 7 ((g_X1_init ((cput c 3 5 (lget (c.2.2.1 3) i) ((c.2.1 3 5 (lget (c.2.2.1 3) i)) - (if (c.2.1 3 5 (lget (c.2.2.1 3) i)) < u then (c.2.1 3 5 (lget (c.2.2.1 3) i)) else u))).1 4) (lget (c.2.2.1 3) i) o (if (c.2.1 3 5 (lget (c.2.2.1 3) i)) < u then (c.2.1 3 5 (lget (c.2.2.1 3) i)) else u) (cnew (cput c 3 5 (lget (c.2.2.1 3) i) ((c.2.1 3 5 (lget (c.2.2.1 3) i)) - (if (c.2.1 3 5 (lget (c.2.2.1 3) i)) < u then (c.2.1 3 5 (lget (c.2.2.1 3) i)) else u))) 4)).2.2.1 7 ++ [(cput c 3 5 (lget (c.2.2.1 3) i) ((c.2.1 3 5 (lget (c.2.2.1 3) i)) - (if (c.2.1 3 5 (lget (c.2.2.1 3) i)) < u then (c.2.1 3 5 (lget (c.2.2.1 3) i)) else u))).1 4])))
def okl_X10_draw_8 (o p : Int) : Nat → Int → Int → Cs → Prop
  | 0, u, i, c => False
  | n + 1, u, i, c =>
    R32 i ∧ (
      if ((c.2.2.1 3).length : Int) ≤ i then
        True
      else
        R32 u ∧ (
          if u ≤ 0 then
            True
          else
            ((0 : Int) ≤ i ∧ i < ((c.2.2.1 3).length : Int)) ∧ (
              ok_X0_holds (lget (c.2.2.1 3) i) (c.2.1 6 0 p) c ∧ (
                if (g_X0_holds (lget (c.2.2.1 3) i) (c.2.1 6 0 p) c) = 0 then
                  (okl_X10_draw_8 o p n u (i + 1) c)
                else
                  R32 (c.2.1 3 5 (lget (c.2.2.1 3) i)) ∧ (
                    (((g_X1_init ((cput c 3 5 (lget (c.2.2.1 3) i) ((c.2.1 3 5 (lget (c.2.2.1 3) i)) - (if (c.2.1 3 5 (lget (c.2.2.1 3) i)) < u then (c.2.1 3 5 (lget (c.2.2.1 3) i)) else u))).1 4) (lget (c.2.2.1 3) i) o (if (c.2.1 3 5 (lget (c.2.2.1 3) i)) < u then (c.2.1 3 5 (lget (c.2.2.1 3) i)) else u) (cnew (cput c 3 5 (lget (c.2.2.1 3) i) ((c.2.1 3 5 (lget (c.2.2.1 3) i)) - (if (c.2.1 3 5 (lget (c.2.2.1 3) i)) < u then (c.2.1 3 5 (lget (c.2.2.1 3) i)) else u))) 4)).2.2.1 7).length : Int) ≤ 199 ∧ (
                      R32 ((g_X1_init ((cput c 3 5 (lget (c.2.2.1 3) i) ((c.2.1 3 5 (lget (c.2.2.1 3) i)) - (if (c.2.1 3 5 (lget (c.2.2.1 3) i)) < u then (c.2.1 3 5 (lget (c.2.2.1 3) i)) else u))).1 4) (lget (c.2.2.1 3) i) o (if (c.2.1 3 5 (lget (c.2.2.1 3) i)) < u then (c.2.1 3 5 (lget (c.2.2.1 3) i)) else u) (cnew (cput c 3 5 (lget (c.2.2.1 3) i) ((c.2.1 3 5 (lget (c.2.2.1 3) i)) - (if (c.2.1 3 5 (lget (c.2.2.1 3) i)) < u then (c.2.1 3 5 (lget (c.2.2.1 3) i)) else u))) 4)).2.1 3 5 (lget (c.2.2.1 3) i)) ∧ (
                        if ((g_X1_init ((cput c 3 5 (lget (c.2.2.1 3) i) ((c.2.1 3 5 (lget (c.2.2.1 3) i)) - (if (c.2.1 3 5 (lget (c.2.2.1 3) i)) < u then (c.2.1 3 5 (lget (c.2.2.1 3) i)) else u))).1 4) (lget (c.2.2.1 3) i) o (if (c.2.1 3 5 (lget (c.2.2.1 3) i)) < u then (c.2.1 3 5 (lget (c.2.2.1 3) i)) else u) (cnew (cput c 3 5 (lget (c.2.2.1 3) i) ((c.2.1 3 5 (lget (c.2.2.1 3) i)) - (if (c.2.1 3 5 (lget (c.2.2.1 3) i)) < u then (c.2.1 3 5 (lget (c.2.2.1 3) i)) else u))) 4)).2.1 3 5 (lget (c.2.2.1 3) i)) = 0 then
                          ok_X10_leaveVessel (lget (c.2.2.1 3) i) (cput (clst (g_X1_init ((cput c 3 5 (lget (c.2.2.1 3) i) ((c.2.1 3 5 (lget (c.2.2.1 3) i)) - (if (c.2.1 3 5 (lget (c.2.2.1 3) i)) < u then (c.2.1 3 5 (lget (c.2.2.1 3) i)) else u))).1 4) (lget (c.2.2.1 3) i) o (if (c.2.1 3 5 (lget (c.2.2.1 3) i)) < u then (c.2.1 3 5 (lget (c.2.2.1 3) i)) else u) (cnew (cput c 3 5 (lget (c.2.2.1 3) i) ((c.2.1 3 5 (lget (c.2.2.1 3) i)) - (if (c.2.1 3 5 (lget (c.2.2.1 3) i)) < u then (c.2.1 3 5 (lget (c.2.2.1 3) i)) else u))) 4)) 7 ((g_X1_init ((cput c 3 5 (lget (c.2.2.1 3) i) ((c.2.1 3 5 (lget (c.2.2.1 3) i)) - (if (c.2.1 3 5 (lget (c.2.2.1 3) i)) < u then (c.2.1 3 5 (lget (c.2.2.1 3) i)) else u))).1 4) (lget (c.2.2.1 3) i) o (if (c.2.1 3 5 (lget (c.2.2.1 3) i)) < u then (c.2.1 3 5 (lget (c.2.2.1 3) i)) else u) (cnew (cput c 3 5 (lget (c.2.2.1 3) i) ((c.2.1 3 5 (lget (c.2.2.1 3) i)) - (if (c.2.1 3 5 (lget (c.2.2.1 3) i)) < u then (c.2.1 3 5 (lget (c.2.2.1 3) i)) else u))) 4)).2.2.1 7 ++ [(cput c 3 5 (lget (c.2.2.1 3) i) ((c.2.1 3 5 (lget (c.2.2.1 3) i)) - (if (c.2.1 3 5 (lget (c.2.2.1 3) i)) < u then (c.2.1 3 5 (lget (c.2.2.1 3) i)) else u))).1 4])) 3 3 (lget (c.2.2.1 3) i) 120) ∧ (
                            (okl_X10_draw_8 o p n (u - (if (c.2.1 3 5 (lget (c.2.2.1 3) i)) < u then (c.2.1 3 5 (lget (c.2.2.1 3) i)) else u)) (i + 1) (g_X10_leaveVessel (lget (c.2.2.1 3) i) (cput (clst (g_X1_init ((cput c 3 5 (lget (c.2.2.1 3) i) ((c.2.1 3 5 (lget (c.2.2.1 3) i)) - (if (c.2.1 3 5 (lget (c.2.2.1 3) i)) < u then (c.2.1 3 5 (lget (c.2.2.1 3) i)) else u))).1 4) (lget (c.2.2.1 3) i) o (if (c.2.1 3 5 (lget (c.2.2.1 3) i)) < u then (c.2.1 3 5 (lget (c.2.2.1 3) i)) else u) (cnew (cput c 3 5 (lget (c.2.2.1 3) i) ((c.2.1 3 5 (lget (c.2.2.1 3) i)) - (if (c.2.1 3 5 (lget (c.2.2.1 3) i)) < u then (c.2.1 3 5 (lget (c.2.2.1 3) i)) else u))) 4)) 7 ((g_X1_init ((cput c 3 5 (lget (c.2.2.1 3) i) ((c.2.1 3 5 (lget (c.2.2.1 3) i)) - (if (c.2.1 3 5 (lget (c.2.2.1 3) i)) < u then (c.2.1 3 5 (lget (c.2.2.1 3) i)) else u))).1 4) (lget (c.2.2.1 3) i) o (if (c.2.1 3 5 (lget (c.2.2.1 3) i)) < u then (c.2.1 3 5 (lget (c.2.2.1 3) i)) else u) (cnew (cput c 3 5 (lget (c.2.2.1 3) i) ((c.2.1 3 5 (lget (c.2.2.1 3) i)) - (if (c.2.1 3 5 (lget (c.2.2.1 3) i)) < u then (c.2.1 3 5 (lget (c.2.2.1 3) i)) else u))) 4)).2.2.1 7 ++ [(cput c 3 5 (lget (c.2.2.1 3) i) ((c.2.1 3 5 (lget (c.2.2.1 3) i)) - (if (c.2.1 3 5 (lget (c.2.2.1 3) i)) < u then (c.2.1 3 5 (lget (c.2.2.1 3) i)) else u))).1 4])) 3 3 (lget (c.2.2.1 3) i) 120))))
                        else
                          (okl_X10_draw_8 o p n (u - (if (c.2.1 3 5 (lget (c.2.2.1 3) i)) < u then (c.2.1 3 5 (lget (c.2.2.1 3) i)) else u)) (i + 1) (clst (g_X1_init ((cput c 3 5 (lget (c.2.2.1 3) i) ((c.2.1 3 5 (lget (c.2.2.1 3) i)) - (if (c.2.1 3 5 (lget (c.2.2.1 3) i)) < u then (c.2.1 3 5 (lget (c.2.2.1 3) i)) else u))).1 4) (lget (c.2.2.1 3) i) o (if (c.2.1 3 5 (lget (c.2.2.1 3) i)) < u then (c.2.1 3 5 (lget (c.2.2.1 3) i)) else u) (cnew (cput c 3 5 (lget (c.2.2.1 3) i) ((c.2.1 3 5 (lget (c.2.2.1 3) i)) - (if (c.2.1 3 5 (lget (c.2.2.1 3) i)) < u then (c.2.1 3 5 (lget (c.2.2.1 3) i)) else u))) 4)) 7 ((g_X1_init ((cput c 3 5 (lget (c.2.2.1 3) i) ((c.2.1 3 5 (lget (c.2.2.1 3) i)) - (if (c.2.1 3 5 (lget (c.2.2.1 3) i)) < u then (c.2.1 3 5 (lget (c.2.2.1 3) i)) else u))).1 4) (lget (c.2.2.1 3) i) o (if (c.2.1 3 5 (lget (c.2.2.1 3) i)) < u then (c.2.1 3 5 (lget (c.2.2.1 3) i)) else u) (cnew (cput c 3 5 (lget (c.2.2.1 3) i) ((c.2.1 3 5 (lget (c.2.2.1 3) i)) - (if (c.2.1 3 5 (lget (c.2.2.1 3) i)) < u then (c.2.1 3 5 (lget (c.2.2.1 3) i)) else u))) 4)).2.2.1 7 ++ [(cput c 3 5 (lget (c.2.2.1 3) i) ((c.2.1 3 5 (lget (c.2.2.1 3) i)) - (if (c.2.1 3 5 (lget (c.2.2.1 3) i)) < u then (c.2.1 3 5 (lget (c.2.2.1 3) i)) else u))).1 4]))))))))))
theorem s_l_X10_draw_8 {X : Cx} {ρ : Hp} {o p : Int} : ∀ (n : Nat) (u i : Int) (c : Cs), okl_X10_draw_8 o p n u i c → Ec X ρ m_X10_draw 8 8 [some (13, 0), some (5, o), some (6, p), some (0, u), some (0, i), none, none] [] c (.inl none) (l_X10_draw_8 o p n u i c) := by
  intro n
  induction n with
  | zero =>
    intro u i c hok
    exact False.elim hok
  | succ n ih =>
    intro u i c hok
    rw [okl_X10_draw_8] at hok
    refine Ec.iload dX10_draw_8 rfl ?_
    refine Ec.aload_n (i := 0) dX10_draw_10 rfl rfl (Nat.le_of_ble_eq_true rfl) ?_
    refine Ec.gL (ci := 13) (k := 3) (t := 2) 3 (fun h _ => ⟨h.2.1.2.2.2.1, by decide⟩) rfl (by decide) rfl (by decide) (by decide) (tb1 (i := 187) rfl) (Or.inl rfl) rfl dX10_draw_11 ?_
    refine Ec.say (fun _ hL _ hs => ?_)
    have q1 : ((c.2.2.1 3).length : Int) ≤ 200 := hL _ (hs.hd.r ⟨Nat.le_of_ble_eq_true rfl, Nat.le_of_ble_eq_true rfl⟩).2.1 (hs.hd.r ⟨Nat.le_of_ble_eq_true rfl, Nat.le_of_ble_eq_true rfl⟩).2.2
    refine Ec.cf (as := []) kf_Jx4a65c_size_8abf5 (tb1 (i := 226) rfl) dX10_draw_14 rfl rfl (Nat.le_of_ble_eq_true rfl) (Nat.le_of_ble_eq_true rfl) kl_size ?_
    obtain ⟨o2, hok⟩ := hok
    by_cases c3 : ((c.2.2.1 3).length : Int) ≤ i
    · rw [if_pos c3] at hok
      refine Ec.icmp_ge_t (tgt := 131) dX10_draw_19 (by decide) o2 ⟨by omega, by omega⟩ c3 ?_
      exact Ec.vret rfl dX10_draw_131 rfl (by rw [l_X10_draw_8, if_pos c3])
    · rw [if_neg c3] at hok
      refine Ec.icmp_ge_f (tgt := 131) dX10_draw_19 (by decide) o2 ⟨by omega, by omega⟩ c3 ?_
      refine Ec.iload_n (i := 3) dX10_draw_22 rfl rfl ?_
      obtain ⟨o4, hok⟩ := hok
      by_cases c5 : u ≤ 0
      · rw [if_pos c5] at hok
        refine Ec.if_le_t (tgt := 131) dX10_draw_23 (by decide) o4 c5 ?_
        exact Ec.vret rfl dX10_draw_131 rfl (by rw [l_X10_draw_8, if_neg c3, if_pos c5])
      · rw [if_neg c5] at hok
        refine Ec.if_le_f (tgt := 131) dX10_draw_23 (by decide) o4 c5 ?_
        refine Ec.aload_n (i := 0) dX10_draw_26 rfl rfl (Nat.le_of_ble_eq_true rfl) ?_
        refine Ec.gL (ci := 13) (k := 3) (t := 2) 3 (fun h _ => ⟨h.2.1.2.2.2.1, by decide⟩) rfl (by decide) rfl (by decide) (by decide) (tb1 (i := 187) rfl) (Or.inl rfl) rfl dX10_draw_27 ?_
        refine Ec.iload dX10_draw_30 rfl ?_
        obtain ⟨o6, hok⟩ := hok
        refine Ec.cf (as := [(0, i)]) kf_Jx4a65c_get_915e3 (tb2 (i := 93) rfl) dX10_draw_32 rfl rfl (Nat.le_of_ble_eq_true rfl) (Nat.le_of_ble_eq_true rfl) (kl_get rfl o6) ?_
        refine Ec.cast (ci := 3) rfl (by decide) (tb3 (i := 87) rfl) dX10_draw_37 ?_
        refine Ec.astore dX10_draw_40 (by decide) (Nat.le_of_ble_eq_true rfl) ?_
        refine Ec.aload dX10_draw_42 rfl (Nat.le_of_ble_eq_true rfl) ?_
        refine Ec.aload_n (i := 2) dX10_draw_44 rfl rfl (Nat.le_of_ble_eq_true rfl) ?_
        refine Ec.gQ (ci := 6) (k := 0) (t := 9) (c.2.1 6 0 p) rfl rfl rfl (by decide) (by decide) (tb5 (i := 126) rfl) (Or.inl rfl) rfl dX10_draw_45 ?_
        obtain ⟨o7, hok⟩ := hok
        refine Ec.cv (ci := 3) (as := [(109, (c.2.1 6 0 p))]) k_X0_holds rfl (by decide) (tb6 (i := 22) rfl) ki_X0_holds kv_X0_holds dX10_draw_48 rfl rfl (Nat.le_of_ble_eq_true rfl) (Nat.le_of_ble_eq_true rfl) (s_X0_holds o7) ?_
        have q8 : 0 ≤ (g_X0_holds (lget (c.2.2.1 3) i) (c.2.1 6 0 p) c) ∧ (g_X0_holds (lget (c.2.2.1 3) i) (c.2.1 6 0 p) c) ≤ 1 := r_X0_holds
        by_cases c9 : (g_X0_holds (lget (c.2.2.1 3) i) (c.2.1 6 0 p) c) = 0
        · rw [if_pos c9] at hok
          refine Ec.if_eq_t (tgt := 125) dX10_draw_51 (by decide) ⟨by omega, by omega⟩ c9 ?_
          refine Ec.inc dX10_draw_125 rfl (by decide) ?_
          refine Ec.goto (tgt := 8) dX10_draw_128 (by decide) ?_
          refine Ec.cnv (ls' := [some (13, 0), some (5, o), some (6, p), some (0, u), some (0, (i + 1)), none, none]) ⟨Or.inl rfl, ⟨Or.inl rfl, ⟨Or.inl rfl, ⟨Or.inl rfl, ⟨Or.inl rfl, trivial⟩⟩⟩⟩⟩ ?_
          rw [l_X10_draw_8, if_neg c3, if_neg c5, if_pos c9]
          exact ih u (i + 1) c hok
        · rw [if_neg c9] at hok
          refine Ec.if_eq_f (tgt := 125) dX10_draw_51 (by decide) ⟨by omega, by omega⟩ c9 ?_
          refine Ec.iload_n (i := 3) dX10_draw_54 rfl rfl ?_
          refine Ec.aload dX10_draw_55 rfl (Nat.le_of_ble_eq_true rfl) ?_
          refine Ec.gI (ci := 3) (k := 5) (c.2.1 3 5 (lget (c.2.2.1 3) i)) rfl rfl (by decide) (by decide) (tb3 (i := 124) rfl) (Or.inl rfl) rfl dX10_draw_57 ?_
          obtain ⟨o10, hok⟩ := hok
          refine Ec.min o4 o10 (tb6 (i := 34) rfl) (Nat.le_of_ble_eq_true rfl) (Nat.le_of_ble_eq_true rfl) dX10_draw_60 ?_
          refine Ec.istore dX10_draw_63 (by decide) ?_
          refine Ec.iload_n (i := 3) dX10_draw_65 rfl rfl ?_
          refine Ec.iload dX10_draw_66 rfl ?_
          refine Ec.sub dX10_draw_68 ?_
          refine Ec.istore_n (i := 3) dX10_draw_69 rfl (by decide) ?_
          refine Ec.aload dX10_draw_70 rfl (Nat.le_of_ble_eq_true rfl) ?_
          refine Ec.dup dX10_draw_72 ?_
          refine Ec.gI (ci := 3) (k := 5) (c.2.1 3 5 (lget (c.2.2.1 3) i)) rfl rfl (by decide) (by decide) (tb3 (i := 124) rfl) (Or.inl rfl) rfl dX10_draw_73 ?_
          refine Ec.iload dX10_draw_76 rfl ?_
          refine Ec.sub dX10_draw_78 ?_
          refine Ec.pI (ci := 3) (k := 5) rfl rfl (by decide) (by decide) (tb3 (i := 124) rfl) (Or.inl rfl) (Or.inl rfl) rfl rfl rfl dX10_draw_79 ?_
          refine Ec.aload_n (i := 0) dX10_draw_82 rfl rfl (Nat.le_of_ble_eq_true rfl) ?_
          refine Ec.gL (ci := 13) (k := 7) (t := 2) 7 (fun h _ => ⟨h.2.1.2.2.2.2.2.2.2.1, by decide⟩) rfl (by decide) rfl (by decide) (by decide) (tb1 (i := 191) rfl) (Or.inl rfl) rfl dX10_draw_83 ?_
          refine Ec.new (ci := 4) rfl (by decide) (by decide) (by decide) (tb6 (i := 35) rfl) (tb6 (i := 36) rfl) (tb1 (i := 35) rfl) dX10_draw_86 ?_
          refine Ec.dup dX10_draw_89 ?_
          refine Ec.aload dX10_draw_90 rfl (Nat.le_of_ble_eq_true rfl) ?_
          refine Ec.aload_n (i := 1) dX10_draw_92 rfl rfl (Nat.le_of_ble_eq_true rfl) ?_
          refine Ec.iload dX10_draw_93 rfl ?_
          refine Ec.ci (as := [(3, (lget (c.2.2.1 3) i)), (5, o), (0, (if (c.2.1 3 5 (lget (c.2.2.1 3) i)) < u then (c.2.1 3 5 (lget (c.2.2.1 3) i)) else u))]) k_X1_init rfl rfl (by decide) (tb6 (i := 37) rfl) ki_X1_init dX10_draw_95 rfl rfl (Nat.le_of_ble_eq_true rfl) (Nat.le_of_ble_eq_true rfl) (Kc.wk (wk0 (wk1 (wk1 (wk0 wkN) (by decide)) (by decide))) s_X1_init) ?_
          obtain ⟨o11, hok⟩ := hok
          refine Ec.cf (as := [(4, (cput c 3 5 (lget (c.2.2.1 3) i) ((c.2.1 3 5 (lget (c.2.2.1 3) i)) - (if (c.2.1 3 5 (lget (c.2.2.1 3) i)) < u then (c.2.1 3 5 (lget (c.2.2.1 3) i)) else u))).1 4)]) (c1 := (clst (g_X1_init ((cput c 3 5 (lget (c.2.2.1 3) i) ((c.2.1 3 5 (lget (c.2.2.1 3) i)) - (if (c.2.1 3 5 (lget (c.2.2.1 3) i)) < u then (c.2.1 3 5 (lget (c.2.2.1 3) i)) else u))).1 4) (lget (c.2.2.1 3) i) o (if (c.2.1 3 5 (lget (c.2.2.1 3) i)) < u then (c.2.1 3 5 (lget (c.2.2.1 3) i)) else u) (cnew (cput c 3 5 (lget (c.2.2.1 3) i) ((c.2.1 3 5 (lget (c.2.2.1 3) i)) - (if (c.2.1 3 5 (lget (c.2.2.1 3) i)) < u then (c.2.1 3 5 (lget (c.2.2.1 3) i)) else u))) 4)) 7 ((g_X1_init ((cput c 3 5 (lget (c.2.2.1 3) i) ((c.2.1 3 5 (lget (c.2.2.1 3) i)) - (if (c.2.1 3 5 (lget (c.2.2.1 3) i)) < u then (c.2.1 3 5 (lget (c.2.2.1 3) i)) else u))).1 4) (lget (c.2.2.1 3) i) o (if (c.2.1 3 5 (lget (c.2.2.1 3) i)) < u then (c.2.1 3 5 (lget (c.2.2.1 3) i)) else u) (cnew (cput c 3 5 (lget (c.2.2.1 3) i) ((c.2.1 3 5 (lget (c.2.2.1 3) i)) - (if (c.2.1 3 5 (lget (c.2.2.1 3) i)) < u then (c.2.1 3 5 (lget (c.2.2.1 3) i)) else u))) 4)).2.2.1 7 ++ [(cput c 3 5 (lget (c.2.2.1 3) i) ((c.2.1 3 5 (lget (c.2.2.1 3) i)) - (if (c.2.1 3 5 (lget (c.2.2.1 3) i)) < u then (c.2.1 3 5 (lget (c.2.2.1 3) i)) else u))).1 4]))) kf_Jx4a65c_add_9ea2d (tb1 (i := 113) rfl) dX10_draw_98 rfl rfl (Nat.le_of_ble_eq_true rfl) (Nat.le_of_ble_eq_true rfl) (kl_add rfl o11 (by decide)) ?_
          refine Ec.pop dX10_draw_103 ?_
          refine Ec.aload dX10_draw_104 rfl (Nat.le_of_ble_eq_true rfl) ?_
          refine Ec.gI (ci := 3) (k := 5) ((g_X1_init ((cput c 3 5 (lget (c.2.2.1 3) i) ((c.2.1 3 5 (lget (c.2.2.1 3) i)) - (if (c.2.1 3 5 (lget (c.2.2.1 3) i)) < u then (c.2.1 3 5 (lget (c.2.2.1 3) i)) else u))).1 4) (lget (c.2.2.1 3) i) o (if (c.2.1 3 5 (lget (c.2.2.1 3) i)) < u then (c.2.1 3 5 (lget (c.2.2.1 3) i)) else u) (cnew (cput c 3 5 (lget (c.2.2.1 3) i) ((c.2.1 3 5 (lget (c.2.2.1 3) i)) - (if (c.2.1 3 5 (lget (c.2.2.1 3) i)) < u then (c.2.1 3 5 (lget (c.2.2.1 3) i)) else u))) 4)).2.1 3 5 (lget (c.2.2.1 3) i)) rfl rfl (by decide) (by decide) (tb3 (i := 124) rfl) (Or.inl rfl) rfl dX10_draw_106 ?_
          obtain ⟨o12, hok⟩ := hok
          by_cases c13 : ((g_X1_init ((cput c 3 5 (lget (c.2.2.1 3) i) ((c.2.1 3 5 (lget (c.2.2.1 3) i)) - (if (c.2.1 3 5 (lget (c.2.2.1 3) i)) < u then (c.2.1 3 5 (lget (c.2.2.1 3) i)) else u))).1 4) (lget (c.2.2.1 3) i) o (if (c.2.1 3 5 (lget (c.2.2.1 3) i)) < u then (c.2.1 3 5 (lget (c.2.2.1 3) i)) else u) (cnew (cput c 3 5 (lget (c.2.2.1 3) i) ((c.2.1 3 5 (lget (c.2.2.1 3) i)) - (if (c.2.1 3 5 (lget (c.2.2.1 3) i)) < u then (c.2.1 3 5 (lget (c.2.2.1 3) i)) else u))) 4)).2.1 3 5 (lget (c.2.2.1 3) i)) = 0
          · rw [if_pos c13] at hok
            refine Ec.if_ne_f (tgt := 125) dX10_draw_109 (by decide) o12 (fun h => h c13) ?_
            refine Ec.aload dX10_draw_112 rfl (Nat.le_of_ble_eq_true rfl) ?_
            refine Ec.bipush dX10_draw_114 (by decide) ?_
            refine Ec.pI (ci := 3) (k := 3) rfl rfl (by decide) (by decide) (tb3 (i := 119) rfl) (Or.inl rfl) (Or.inl rfl) rfl rfl rfl dX10_draw_116 ?_
            refine Ec.aload_n (i := 0) dX10_draw_119 rfl rfl (Nat.le_of_ble_eq_true rfl) ?_
            refine Ec.aload dX10_draw_120 rfl (Nat.le_of_ble_eq_true rfl) ?_
            obtain ⟨o14, hok⟩ := hok
            refine Ec.cv (ci := 13) (as := [(3, (lget (c.2.2.1 3) i))]) k_X10_leaveVessel rfl (by decide) (tb5 (i := 237) rfl) ki_X10_leaveVessel kv_X10_leaveVessel dX10_draw_122 rfl rfl (Nat.le_of_ble_eq_true rfl) (Nat.le_of_ble_eq_true rfl) (s_X10_leaveVessel o14) ?_
            refine Ec.inc dX10_draw_125 rfl (by decide) ?_
            refine Ec.goto (tgt := 8) dX10_draw_128 (by decide) ?_
            refine Ec.cnv (ls' := [some (13, 0), some (5, o), some (6, p), some (0, (u - (if (c.2.1 3 5 (lget (c.2.2.1 3) i)) < u then (c.2.1 3 5 (lget (c.2.2.1 3) i)) else u))), some (0, (i + 1)), none, none]) ⟨Or.inl rfl, ⟨Or.inl rfl, ⟨Or.inl rfl, ⟨Or.inl rfl, ⟨Or.inl rfl, trivial⟩⟩⟩⟩⟩ ?_
            rw [l_X10_draw_8, if_neg c3, if_neg c5, if_neg c9, if_pos c13]
            exact ih (u - (if (c.2.1 3 5 (lget (c.2.2.1 3) i)) < u then (c.2.1 3 5 (lget (c.2.2.1 3) i)) else u)) (i + 1) (g_X10_leaveVessel (lget (c.2.2.1 3) i) (cput (clst (g_X1_init ((cput c 3 5 (lget (c.2.2.1 3) i) ((c.2.1 3 5 (lget (c.2.2.1 3) i)) - (if (c.2.1 3 5 (lget (c.2.2.1 3) i)) < u then (c.2.1 3 5 (lget (c.2.2.1 3) i)) else u))).1 4) (lget (c.2.2.1 3) i) o (if (c.2.1 3 5 (lget (c.2.2.1 3) i)) < u then (c.2.1 3 5 (lget (c.2.2.1 3) i)) else u) (cnew (cput c 3 5 (lget (c.2.2.1 3) i) ((c.2.1 3 5 (lget (c.2.2.1 3) i)) - (if (c.2.1 3 5 (lget (c.2.2.1 3) i)) < u then (c.2.1 3 5 (lget (c.2.2.1 3) i)) else u))) 4)) 7 ((g_X1_init ((cput c 3 5 (lget (c.2.2.1 3) i) ((c.2.1 3 5 (lget (c.2.2.1 3) i)) - (if (c.2.1 3 5 (lget (c.2.2.1 3) i)) < u then (c.2.1 3 5 (lget (c.2.2.1 3) i)) else u))).1 4) (lget (c.2.2.1 3) i) o (if (c.2.1 3 5 (lget (c.2.2.1 3) i)) < u then (c.2.1 3 5 (lget (c.2.2.1 3) i)) else u) (cnew (cput c 3 5 (lget (c.2.2.1 3) i) ((c.2.1 3 5 (lget (c.2.2.1 3) i)) - (if (c.2.1 3 5 (lget (c.2.2.1 3) i)) < u then (c.2.1 3 5 (lget (c.2.2.1 3) i)) else u))) 4)).2.2.1 7 ++ [(cput c 3 5 (lget (c.2.2.1 3) i) ((c.2.1 3 5 (lget (c.2.2.1 3) i)) - (if (c.2.1 3 5 (lget (c.2.2.1 3) i)) < u then (c.2.1 3 5 (lget (c.2.2.1 3) i)) else u))).1 4])) 3 3 (lget (c.2.2.1 3) i) 120)) hok
          · rw [if_neg c13] at hok
            refine Ec.if_ne_t (tgt := 125) dX10_draw_109 (by decide) o12 c13 ?_
            refine Ec.inc dX10_draw_125 rfl (by decide) ?_
            refine Ec.goto (tgt := 8) dX10_draw_128 (by decide) ?_
            refine Ec.cnv (ls' := [some (13, 0), some (5, o), some (6, p), some (0, (u - (if (c.2.1 3 5 (lget (c.2.2.1 3) i)) < u then (c.2.1 3 5 (lget (c.2.2.1 3) i)) else u))), some (0, (i + 1)), none, none]) ⟨Or.inl rfl, ⟨Or.inl rfl, ⟨Or.inl rfl, ⟨Or.inl rfl, ⟨Or.inl rfl, trivial⟩⟩⟩⟩⟩ ?_
            rw [l_X10_draw_8, if_neg c3, if_neg c5, if_neg c9, if_neg c13]
            exact ih (u - (if (c.2.1 3 5 (lget (c.2.2.1 3) i)) < u then (c.2.1 3 5 (lget (c.2.2.1 3) i)) else u)) (i + 1) (clst (g_X1_init ((cput c 3 5 (lget (c.2.2.1 3) i) ((c.2.1 3 5 (lget (c.2.2.1 3) i)) - (if (c.2.1 3 5 (lget (c.2.2.1 3) i)) < u then (c.2.1 3 5 (lget (c.2.2.1 3) i)) else u))).1 4) (lget (c.2.2.1 3) i) o (if (c.2.1 3 5 (lget (c.2.2.1 3) i)) < u then (c.2.1 3 5 (lget (c.2.2.1 3) i)) else u) (cnew (cput c 3 5 (lget (c.2.2.1 3) i) ((c.2.1 3 5 (lget (c.2.2.1 3) i)) - (if (c.2.1 3 5 (lget (c.2.2.1 3) i)) < u then (c.2.1 3 5 (lget (c.2.2.1 3) i)) else u))) 4)) 7 ((g_X1_init ((cput c 3 5 (lget (c.2.2.1 3) i) ((c.2.1 3 5 (lget (c.2.2.1 3) i)) - (if (c.2.1 3 5 (lget (c.2.2.1 3) i)) < u then (c.2.1 3 5 (lget (c.2.2.1 3) i)) else u))).1 4) (lget (c.2.2.1 3) i) o (if (c.2.1 3 5 (lget (c.2.2.1 3) i)) < u then (c.2.1 3 5 (lget (c.2.2.1 3) i)) else u) (cnew (cput c 3 5 (lget (c.2.2.1 3) i) ((c.2.1 3 5 (lget (c.2.2.1 3) i)) - (if (c.2.1 3 5 (lget (c.2.2.1 3) i)) < u then (c.2.1 3 5 (lget (c.2.2.1 3) i)) else u))) 4)).2.2.1 7 ++ [(cput c 3 5 (lget (c.2.2.1 3) i) ((c.2.1 3 5 (lget (c.2.2.1 3) i)) - (if (c.2.1 3 5 (lget (c.2.2.1 3) i)) < u then (c.2.1 3 5 (lget (c.2.2.1 3) i)) else u))).1 4])) hok
def g_X10_draw (o p : Int) (c : Cs) : Cs :=
  (l_X10_draw_8 o p fu (c.2.1 6 1 p) 0 c)
def ok_X10_draw (o p : Int) (c : Cs) : Prop :=
  (okl_X10_draw_8 o p fu (c.2.1 6 1 p) 0 c)
theorem s_X10_draw {X : Cx} {ρ : Hp} {o p : Int} {c : Cs} (hok : ok_X10_draw o p c) : Kc X ρ m_X10_draw 8 [(13, 0), (5, o), (6, p)] c (.inl none) (g_X10_draw o p c) := by
  refine Kc.of (by decide +kernel) rfl (Nat.le_of_ble_eq_true rfl) ?_
  rw [ok_X10_draw] at hok
  refine Ec.aload_n (i := 2) dX10_draw_0 rfl rfl (Nat.le_of_ble_eq_true rfl) ?_
  refine Ec.gI (ci := 6) (k := 1) (c.2.1 6 1 p) rfl rfl (by decide) (by decide) (tb5 (i := 129) rfl) (Or.inl rfl) rfl dX10_draw_1 ?_
  refine Ec.istore_n (i := 3) dX10_draw_4 rfl (by decide) ?_
  refine Ec.const dX10_draw_5 ?_
  refine Ec.istore dX10_draw_6 (by decide) ?_
  refine Ec.cnv (ls' := [some (13, 0), some (5, o), some (6, p), some (0, (c.2.1 6 1 p)), some (0, 0), none, none]) ⟨Or.inl rfl, ⟨Or.inl rfl, ⟨Or.inl rfl, ⟨Or.inl rfl, ⟨Or.inl rfl, trivial⟩⟩⟩⟩⟩ ?_
  rw [g_X10_draw]
  exact s_l_X10_draw_8 (o := o) (p := p)  fu (c.2.1 6 1 p) 0 c hok
def l_X10_fill_2 (o : Int) : Nat → Int → Cs → Cs
  | 0, i, c => c
  | n + 1, i, c =>
    if ((c.2.2.1 (17 + o)).length : Int) ≤ i then
      (cput (cput c 5 3 o 102) 5 4 o (c.2.1 13 11 0))
    else
      (l_X10_fill_2 o n (i + 1) (g_X10_draw o (lget (c.2.2.1 (17 + o)) i) c))
def okl_X10_fill_2 (o : Int) : Nat → Int → Cs → Prop
  | 0, i, c => False
  | n + 1, i, c =>
    (c.2.1 5 2 o = 17 + o ∧ 0 ≤ o) ∧ (
      R32 i ∧ (
        if ((c.2.2.1 (17 + o)).length : Int) ≤ i then
          True
        else
          ((0 : Int) ≤ i ∧ i < ((c.2.2.1 (17 + o)).length : Int)) ∧ (
            ok_X10_draw o (lget (c.2.2.1 (17 + o)) i) c ∧ (
              (okl_X10_fill_2 o n (i + 1) (g_X10_draw o (lget (c.2.2.1 (17 + o)) i) c))))))
theorem s_l_X10_fill_2 {X : Cx} {ρ : Hp} {o : Int} : ∀ (n : Nat) (i : Int) (c : Cs), okl_X10_fill_2 o n i c → Ec X ρ m_X10_fill 9 2 [some (13, 0), some (5, o), some (0, i)] [] c (.inl none) (l_X10_fill_2 o n i c) := by
  intro n
  induction n with
  | zero =>
    intro i c hok
    exact False.elim hok
  | succ n ih =>
    intro i c hok
    rw [okl_X10_fill_2] at hok
    refine Ec.iload_n (i := 2) dX10_fill_2 rfl rfl ?_
    refine Ec.aload_n (i := 1) dX10_fill_3 rfl rfl (Nat.le_of_ble_eq_true rfl) ?_
    obtain ⟨o1, hok⟩ := hok
    refine Ec.gL (ci := 5) (k := 2) (t := 2) (17 + o) (fun _ _ => ⟨o1.1, by omega⟩) rfl (by decide) rfl (by decide) (by decide) (tb5 (i := 102) rfl) (Or.inl rfl) rfl dX10_fill_4 ?_
    refine Ec.say (fun _ hL _ hs => ?_)
    have q2 : ((c.2.2.1 (17 + o)).length : Int) ≤ 200 := hL _ (hs.hd.r ⟨Nat.le_of_ble_eq_true rfl, Nat.le_of_ble_eq_true rfl⟩).2.1 (hs.hd.r ⟨Nat.le_of_ble_eq_true rfl, Nat.le_of_ble_eq_true rfl⟩).2.2
    refine Ec.cf (as := []) kf_Jx4a65c_size_8abf5 (tb1 (i := 226) rfl) dX10_fill_7 rfl rfl (Nat.le_of_ble_eq_true rfl) (Nat.le_of_ble_eq_true rfl) kl_size ?_
    obtain ⟨o3, hok⟩ := hok
    by_cases c4 : ((c.2.2.1 (17 + o)).length : Int) ≤ i
    · rw [if_pos c4] at hok
      refine Ec.icmp_ge_t (tgt := 39) dX10_fill_12 (by decide) o3 ⟨by omega, by omega⟩ c4 ?_
      refine Ec.aload_n (i := 1) dX10_fill_39 rfl rfl (Nat.le_of_ble_eq_true rfl) ?_
      refine Ec.bipush dX10_fill_40 (by decide) ?_
      refine Ec.pI (ci := 5) (k := 3) rfl rfl (by decide) (by decide) (tb5 (i := 104) rfl) (Or.inl rfl) (Or.inl rfl) rfl rfl rfl dX10_fill_42 ?_
      refine Ec.aload_n (i := 1) dX10_fill_45 rfl rfl (Nat.le_of_ble_eq_true rfl) ?_
      refine Ec.aload_n (i := 0) dX10_fill_46 rfl rfl (Nat.le_of_ble_eq_true rfl) ?_
      refine Ec.gI (ci := 13) (k := 11) (c.2.1 13 11 0) rfl rfl (by decide) (by decide) (tb1 (i := 195) rfl) (Or.inl rfl) rfl dX10_fill_47 ?_
      refine Ec.pI (ci := 5) (k := 4) rfl rfl (by decide) (by decide) (tb5 (i := 106) rfl) (Or.inl rfl) (Or.inl rfl) rfl rfl rfl dX10_fill_50 ?_
      exact Ec.vret rfl dX10_fill_53 rfl (by rw [l_X10_fill_2, if_pos c4])
    · rw [if_neg c4] at hok
      refine Ec.icmp_ge_f (tgt := 39) dX10_fill_12 (by decide) o3 ⟨by omega, by omega⟩ c4 ?_
      refine Ec.aload_n (i := 0) dX10_fill_15 rfl rfl (Nat.le_of_ble_eq_true rfl) ?_
      refine Ec.aload_n (i := 1) dX10_fill_16 rfl rfl (Nat.le_of_ble_eq_true rfl) ?_
      refine Ec.aload_n (i := 1) dX10_fill_17 rfl rfl (Nat.le_of_ble_eq_true rfl) ?_
      refine Ec.gL (ci := 5) (k := 2) (t := 2) (17 + o) (fun _ _ => ⟨o1.1, by omega⟩) rfl (by decide) rfl (by decide) (by decide) (tb5 (i := 102) rfl) (Or.inl rfl) rfl dX10_fill_18 ?_
      refine Ec.iload_n (i := 2) dX10_fill_21 rfl rfl ?_
      obtain ⟨o5, hok⟩ := hok
      refine Ec.cf (as := [(0, i)]) kf_Jx4a65c_get_915e3 (tb2 (i := 93) rfl) dX10_fill_22 rfl rfl (Nat.le_of_ble_eq_true rfl) (Nat.le_of_ble_eq_true rfl) (kl_get (tel_part (by omega)) o5) ?_
      refine Ec.cast (ci := 6) rfl (by decide) (tb5 (i := 118) rfl) dX10_fill_27 ?_
      obtain ⟨o6, hok⟩ := hok
      refine Ec.cv (ci := 13) (as := [(5, o), (6, (lget (c.2.2.1 (17 + o)) i))]) k_X10_draw rfl (by decide) (tb6 (i := 30) rfl) ki_X10_draw kv_X10_draw dX10_fill_30 rfl rfl (Nat.le_of_ble_eq_true rfl) (Nat.le_of_ble_eq_true rfl) (s_X10_draw o6) ?_
      refine Ec.inc dX10_fill_33 rfl (by decide) ?_
      refine Ec.goto (tgt := 2) dX10_fill_36 (by decide) ?_
      refine Ec.cnv (ls' := [some (13, 0), some (5, o), some (0, (i + 1))]) ⟨Or.inl rfl, ⟨Or.inl rfl, ⟨Or.inl rfl, trivial⟩⟩⟩ ?_
      rw [l_X10_fill_2, if_neg c4]
      exact ih (i + 1) (g_X10_draw o (lget (c.2.2.1 (17 + o)) i) c) hok
def g_X10_fill (o : Int) (c : Cs) : Cs :=
  (l_X10_fill_2 o fu 0 c)
def ok_X10_fill (o : Int) (c : Cs) : Prop :=
  (okl_X10_fill_2 o fu 0 c)
theorem s_X10_fill {X : Cx} {ρ : Hp} {o : Int} {c : Cs} (hok : ok_X10_fill o c) : Kc X ρ m_X10_fill 9 [(13, 0), (5, o)] c (.inl none) (g_X10_fill o c) := by
  refine Kc.of (by decide +kernel) rfl (Nat.le_of_ble_eq_true rfl) ?_
  rw [ok_X10_fill] at hok
  refine Ec.const dX10_fill_0 ?_
  refine Ec.istore_n (i := 2) dX10_fill_1 rfl (by decide) ?_
  refine Ec.cnv (ls' := [some (13, 0), some (5, o), some (0, 0)]) ⟨Or.inl rfl, ⟨Or.inl rfl, ⟨Or.inl rfl, trivial⟩⟩⟩ ?_
  rw [g_X10_fill]
  exact s_l_X10_fill_2 (o := o)  fu 0 c hok
def l_X10_fillOrders_4 : Nat → Int → Int → Cs → Int × Cs
  | 0, u, i, c => (0, c)
  | n + 1, u, i, c =>
    if ((c.2.2.1 6).length : Int) ≤ i then
      (u, c)
    else
      if (c.2.1 5 3 (lget (c.2.2.1 6) i)) = 111 then
        if (g_X10_canFill (lget (c.2.2.1 6) i) c) = 0 then
          (l_X10_fillOrders_4  n u (i + 1) c)
        else
          (l_X10_fillOrders_4  n (u + 1) (i + 1) (g_X10_fill (lget (c.2.2.1 6) i) c))
      else
        (l_X10_fillOrders_4  n u (i + 1) c)
def okl_X10_fillOrders_4 : Nat → Int → Int → Cs → Prop
  | 0, u, i, c => False
  | n + 1, u, i, c =>
    R32 i ∧ (
      if ((c.2.2.1 6).length : Int) ≤ i then
        True
      else
        ((0 : Int) ≤ i ∧ i < ((c.2.2.1 6).length : Int)) ∧ (
          R32 (c.2.1 5 3 (lget (c.2.2.1 6) i)) ∧ (
            if (c.2.1 5 3 (lget (c.2.2.1 6) i)) = 111 then
              ok_X10_canFill (lget (c.2.2.1 6) i) c ∧ (
                if (g_X10_canFill (lget (c.2.2.1 6) i) c) = 0 then
                  (okl_X10_fillOrders_4  n u (i + 1) c)
                else
                  ok_X10_fill (lget (c.2.2.1 6) i) c ∧ (
                    (okl_X10_fillOrders_4  n (u + 1) (i + 1) (g_X10_fill (lget (c.2.2.1 6) i) c))))
            else
              (okl_X10_fillOrders_4  n u (i + 1) c))))
theorem s_l_X10_fillOrders_4 {X : Cx} {ρ : Hp} : ∀ (n : Nat) (u i : Int) (c : Cs), okl_X10_fillOrders_4 n u i c → Ec X ρ m_X10_fillOrders 10 4 [some (13, 0), some (0, u), some (0, i), none] [] c (.inl (some (0, ((l_X10_fillOrders_4 n u i c)).1))) ((l_X10_fillOrders_4 n u i c)).2 := by
  intro n
  induction n with
  | zero =>
    intro u i c hok
    exact False.elim hok
  | succ n ih =>
    intro u i c hok
    rw [okl_X10_fillOrders_4] at hok
    refine Ec.iload_n (i := 2) dX10_fillOrders_4 rfl rfl ?_
    refine Ec.aload_n (i := 0) dX10_fillOrders_5 rfl rfl (Nat.le_of_ble_eq_true rfl) ?_
    refine Ec.gL (ci := 13) (k := 6) (t := 2) 6 (fun h _ => ⟨h.2.1.2.2.2.2.2.2.1, by decide⟩) rfl (by decide) rfl (by decide) (by decide) (tb1 (i := 190) rfl) (Or.inl rfl) rfl dX10_fillOrders_6 ?_
    refine Ec.say (fun _ hL _ hs => ?_)
    have q1 : ((c.2.2.1 6).length : Int) ≤ 200 := hL _ (hs.hd.r ⟨Nat.le_of_ble_eq_true rfl, Nat.le_of_ble_eq_true rfl⟩).2.1 (hs.hd.r ⟨Nat.le_of_ble_eq_true rfl, Nat.le_of_ble_eq_true rfl⟩).2.2
    refine Ec.cf (as := []) kf_Jx4a65c_size_8abf5 (tb1 (i := 226) rfl) dX10_fillOrders_9 rfl rfl (Nat.le_of_ble_eq_true rfl) (Nat.le_of_ble_eq_true rfl) kl_size ?_
    obtain ⟨o2, hok⟩ := hok
    by_cases c3 : ((c.2.2.1 6).length : Int) ≤ i
    · rw [if_pos c3] at hok
      refine Ec.icmp_ge_t (tgt := 62) dX10_fillOrders_14 (by decide) o2 ⟨by omega, by omega⟩ c3 ?_
      refine Ec.iload_n (i := 1) dX10_fillOrders_62 rfl rfl ?_
      exact Ec.iret rfl nar_i dX10_fillOrders_63 (by rw [l_X10_fillOrders_4, if_pos c3]) (by rw [l_X10_fillOrders_4, if_pos c3])
    · rw [if_neg c3] at hok
      refine Ec.icmp_ge_f (tgt := 62) dX10_fillOrders_14 (by decide) o2 ⟨by omega, by omega⟩ c3 ?_
      refine Ec.aload_n (i := 0) dX10_fillOrders_17 rfl rfl (Nat.le_of_ble_eq_true rfl) ?_
      refine Ec.gL (ci := 13) (k := 6) (t := 2) 6 (fun h _ => ⟨h.2.1.2.2.2.2.2.2.1, by decide⟩) rfl (by decide) rfl (by decide) (by decide) (tb1 (i := 190) rfl) (Or.inl rfl) rfl dX10_fillOrders_18 ?_
      refine Ec.iload_n (i := 2) dX10_fillOrders_21 rfl rfl ?_
      obtain ⟨o4, hok⟩ := hok
      refine Ec.cf (as := [(0, i)]) kf_Jx4a65c_get_915e3 (tb2 (i := 93) rfl) dX10_fillOrders_22 rfl rfl (Nat.le_of_ble_eq_true rfl) (Nat.le_of_ble_eq_true rfl) (kl_get rfl o4) ?_
      refine Ec.cast (ci := 5) rfl (by decide) (tb5 (i := 89) rfl) dX10_fillOrders_27 ?_
      refine Ec.astore_n (i := 3) dX10_fillOrders_30 rfl (by decide) (Nat.le_of_ble_eq_true rfl) ?_
      refine Ec.aload_n (i := 3) dX10_fillOrders_31 rfl rfl (Nat.le_of_ble_eq_true rfl) ?_
      refine Ec.gI (ci := 5) (k := 3) (c.2.1 5 3 (lget (c.2.2.1 6) i)) rfl rfl (by decide) (by decide) (tb5 (i := 104) rfl) (Or.inl rfl) rfl dX10_fillOrders_32 ?_
      refine Ec.bipush dX10_fillOrders_35 (by decide) ?_
      obtain ⟨o5, hok⟩ := hok
      by_cases c6 : (c.2.1 5 3 (lget (c.2.2.1 6) i)) = 111
      · rw [if_pos c6] at hok
        refine Ec.icmp_ne_f (tgt := 56) dX10_fillOrders_37 (by decide) o5 ⟨by decide, by decide⟩ (fun h => h c6) ?_
        refine Ec.aload_n (i := 0) dX10_fillOrders_40 rfl rfl (Nat.le_of_ble_eq_true rfl) ?_
        refine Ec.aload_n (i := 3) dX10_fillOrders_41 rfl rfl (Nat.le_of_ble_eq_true rfl) ?_
        obtain ⟨o7, hok⟩ := hok
        refine Ec.cv (ci := 13) (as := [(5, (lget (c.2.2.1 6) i))]) k_X10_canFill rfl (by decide) (tb6 (i := 10) rfl) ki_X10_canFill kv_X10_canFill dX10_fillOrders_42 rfl rfl (Nat.le_of_ble_eq_true rfl) (Nat.le_of_ble_eq_true rfl) (s_X10_canFill o7) ?_
        have q8 : 0 ≤ (g_X10_canFill (lget (c.2.2.1 6) i) c) ∧ (g_X10_canFill (lget (c.2.2.1 6) i) c) ≤ 1 := r_X10_canFill
        by_cases c9 : (g_X10_canFill (lget (c.2.2.1 6) i) c) = 0
        · rw [if_pos c9] at hok
          refine Ec.if_eq_t (tgt := 56) dX10_fillOrders_45 (by decide) ⟨by omega, by omega⟩ c9 ?_
          refine Ec.inc dX10_fillOrders_56 rfl (by decide) ?_
          refine Ec.goto (tgt := 4) dX10_fillOrders_59 (by decide) ?_
          refine Ec.cnv (ls' := [some (13, 0), some (0, u), some (0, (i + 1)), none]) ⟨Or.inl rfl, ⟨Or.inl rfl, ⟨Or.inl rfl, trivial⟩⟩⟩ ?_
          rw [l_X10_fillOrders_4, if_neg c3, if_pos c6, if_pos c9]
          exact ih u (i + 1) c hok
        · rw [if_neg c9] at hok
          refine Ec.if_eq_f (tgt := 56) dX10_fillOrders_45 (by decide) ⟨by omega, by omega⟩ c9 ?_
          refine Ec.aload_n (i := 0) dX10_fillOrders_48 rfl rfl (Nat.le_of_ble_eq_true rfl) ?_
          refine Ec.aload_n (i := 3) dX10_fillOrders_49 rfl rfl (Nat.le_of_ble_eq_true rfl) ?_
          obtain ⟨o10, hok⟩ := hok
          refine Ec.cv (ci := 13) (as := [(5, (lget (c.2.2.1 6) i))]) k_X10_fill rfl (by decide) (tb6 (i := 26) rfl) ki_X10_fill kv_X10_fill dX10_fillOrders_50 rfl rfl (Nat.le_of_ble_eq_true rfl) (Nat.le_of_ble_eq_true rfl) (s_X10_fill o10) ?_
          refine Ec.inc dX10_fillOrders_53 rfl (by decide) ?_
          refine Ec.inc dX10_fillOrders_56 rfl (by decide) ?_
          refine Ec.goto (tgt := 4) dX10_fillOrders_59 (by decide) ?_
          refine Ec.cnv (ls' := [some (13, 0), some (0, (u + 1)), some (0, (i + 1)), none]) ⟨Or.inl rfl, ⟨Or.inl rfl, ⟨Or.inl rfl, trivial⟩⟩⟩ ?_
          rw [l_X10_fillOrders_4, if_neg c3, if_pos c6, if_neg c9]
          exact ih (u + 1) (i + 1) (g_X10_fill (lget (c.2.2.1 6) i) c) hok
      · rw [if_neg c6] at hok
        refine Ec.icmp_ne_t (tgt := 56) dX10_fillOrders_37 (by decide) o5 ⟨by decide, by decide⟩ c6 ?_
        refine Ec.inc dX10_fillOrders_56 rfl (by decide) ?_
        refine Ec.goto (tgt := 4) dX10_fillOrders_59 (by decide) ?_
        refine Ec.cnv (ls' := [some (13, 0), some (0, u), some (0, (i + 1)), none]) ⟨Or.inl rfl, ⟨Or.inl rfl, ⟨Or.inl rfl, trivial⟩⟩⟩ ?_
        rw [l_X10_fillOrders_4, if_neg c3, if_neg c6]
        exact ih u (i + 1) c hok
def g_X10_fillOrders (c : Cs) : Int × Cs :=
  (l_X10_fillOrders_4 fu 0 0 c)
def ok_X10_fillOrders (c : Cs) : Prop :=
  (okl_X10_fillOrders_4 fu 0 0 c)
theorem s_X10_fillOrders {X : Cx} {ρ : Hp} {c : Cs} (hok : ok_X10_fillOrders c) : Kc X ρ m_X10_fillOrders 10 [(13, 0)] c (.inl (some (0, ((g_X10_fillOrders c)).1))) ((g_X10_fillOrders c)).2 := by
  refine Kc.of (by decide +kernel) rfl (Nat.le_of_ble_eq_true rfl) ?_
  rw [ok_X10_fillOrders] at hok
  refine Ec.const dX10_fillOrders_0 ?_
  refine Ec.istore_n (i := 1) dX10_fillOrders_1 rfl (by decide) ?_
  refine Ec.const dX10_fillOrders_2 ?_
  refine Ec.istore_n (i := 2) dX10_fillOrders_3 rfl (by decide) ?_
  refine Ec.cnv (ls' := [some (13, 0), some (0, 0), some (0, 0), none]) ⟨Or.inl rfl, ⟨Or.inl rfl, ⟨Or.inl rfl, trivial⟩⟩⟩ ?_
  rw [g_X10_fillOrders]
  exact s_l_X10_fillOrders_4   fu 0 0 c hok
def l_X10_beginCleaning_54 : Nat → Int → Cs → Cs
  | 0, x, c => c
  | n + 1, x, c =>
    if (c.2.1 13 10 0) ≤ x then
      c
    else
      if (eb (c.2.2.1 8)) = 0 then
        if (c.2.1 11 1 (lget (c.2.2.1 8) 0)) = 102 then
          (l_X10_beginCleaning_54  n (x + 1) (cput (cput (clst c 8 (remL (c.2.2.1 8) (0 : Int).toNat)) 11 2 (lget (c.2.2.1 8) 0) 103) 11 3 (lget (c.2.2.1 8) 0) 2))
        else
          (l_X10_beginCleaning_54  n (x + 1) (cput (cput (clst c 8 (remL (c.2.2.1 8) (0 : Int).toNat)) 11 2 (lget (c.2.2.1 8) 0) 103) 11 3 (lget (c.2.2.1 8) 0) 1))
      else
        c
def okl_X10_beginCleaning_54 : Nat → Int → Cs → Prop
  | 0, x, c => False
  | n + 1, x, c =>
    R32 x ∧ (
      R32 (c.2.1 13 10 0) ∧ (
        if (c.2.1 13 10 0) ≤ x then
          True
        else
          if (eb (c.2.2.1 8)) = 0 then
            ((0 : Int) ≤ 0 ∧ 0 < ((c.2.2.1 8).length : Int)) ∧ (
              R32 (c.2.1 11 1 (lget (c.2.2.1 8) 0)) ∧ (
                if (c.2.1 11 1 (lget (c.2.2.1 8) 0)) = 102 then
                  (okl_X10_beginCleaning_54  n (x + 1) (cput (cput (clst c 8 (remL (c.2.2.1 8) (0 : Int).toNat)) 11 2 (lget (c.2.2.1 8) 0) 103) 11 3 (lget (c.2.2.1 8) 0) 2))
                else
                  (okl_X10_beginCleaning_54  n (x + 1) (cput (cput (clst c 8 (remL (c.2.2.1 8) (0 : Int).toNat)) 11 2 (lget (c.2.2.1 8) 0) 103) 11 3 (lget (c.2.2.1 8) 0) 1))))
          else
            True))
theorem s_l_X10_beginCleaning_54 {X : Cx} {ρ : Hp} : ∀ (n : Nat) (x : Int) (c : Cs), okl_X10_beginCleaning_54 n x c → Ec X ρ m_X10_beginCleaning 4 54 [some (13, 0), none, some (0, x), none] [] c (.inl none) (l_X10_beginCleaning_54 n x c) := by
  intro n
  induction n with
  | zero =>
    intro x c hok
    exact False.elim hok
  | succ n ih =>
    intro x c hok
    rw [okl_X10_beginCleaning_54] at hok
    refine Ec.iload_n (i := 2) dX10_beginCleaning_54 rfl rfl ?_
    refine Ec.aload_n (i := 0) dX10_beginCleaning_55 rfl rfl (Nat.le_of_ble_eq_true rfl) ?_
    refine Ec.gI (ci := 13) (k := 10) (c.2.1 13 10 0) rfl rfl (by decide) (by decide) (tb1 (i := 194) rfl) (Or.inl rfl) rfl dX10_beginCleaning_56 ?_
    obtain ⟨o1, hok⟩ := hok
    obtain ⟨o2, hok⟩ := hok
    by_cases c3 : (c.2.1 13 10 0) ≤ x
    · rw [if_pos c3] at hok
      refine Ec.icmp_ge_t (tgt := 118) dX10_beginCleaning_59 (by decide) o1 o2 c3 ?_
      exact Ec.vret rfl dX10_beginCleaning_118 rfl (by rw [l_X10_beginCleaning_54, if_pos c3])
    · rw [if_neg c3] at hok
      refine Ec.icmp_ge_f (tgt := 118) dX10_beginCleaning_59 (by decide) o1 o2 c3 ?_
      refine Ec.aload_n (i := 0) dX10_beginCleaning_62 rfl rfl (Nat.le_of_ble_eq_true rfl) ?_
      refine Ec.gL (ci := 13) (k := 8) (t := 2) 8 (fun h _ => ⟨h.2.1.2.2.2.2.2.2.2.2.1, by decide⟩) rfl (by decide) rfl (by decide) (by decide) (tb1 (i := 192) rfl) (Or.inl rfl) rfl dX10_beginCleaning_63 ?_
      refine Ec.cf (as := []) kf_Jx4a65c_isEmpty_aae02 (tb3 (i := 192) rfl) dX10_beginCleaning_66 rfl rfl (Nat.le_of_ble_eq_true rfl) (Nat.le_of_ble_eq_true rfl) kl_empty ?_
      have q4 := eb_r (c.2.2.1 8)
      by_cases c5 : (eb (c.2.2.1 8)) = 0
      · rw [if_pos c5] at hok
        refine Ec.if_ne_f (tgt := 118) dX10_beginCleaning_71 (by decide) ⟨by omega, by omega⟩ (fun h => h c5) ?_
        refine Ec.aload_n (i := 0) dX10_beginCleaning_74 rfl rfl (Nat.le_of_ble_eq_true rfl) ?_
        refine Ec.gL (ci := 13) (k := 8) (t := 2) 8 (fun h _ => ⟨h.2.1.2.2.2.2.2.2.2.2.1, by decide⟩) rfl (by decide) rfl (by decide) (by decide) (tb1 (i := 192) rfl) (Or.inl rfl) rfl dX10_beginCleaning_75 ?_
        refine Ec.const dX10_beginCleaning_78 ?_
        obtain ⟨o6, hok⟩ := hok
        refine Ec.cf (as := [(0, 0)]) (c1 := (clst c 8 (remL (c.2.2.1 8) (0 : Int).toNat))) kf_Jx4a65c_remove_915e3 (tb3 (i := 172) rfl) dX10_beginCleaning_79 rfl rfl (Nat.le_of_ble_eq_true rfl) (Nat.le_of_ble_eq_true rfl) (kl_rem rfl o6) ?_
        refine Ec.cast (ci := 11) rfl (by decide) (tb2 (i := 168) rfl) dX10_beginCleaning_84 ?_
        refine Ec.astore_n (i := 3) dX10_beginCleaning_87 rfl (by decide) (Nat.le_of_ble_eq_true rfl) ?_
        refine Ec.aload_n (i := 3) dX10_beginCleaning_88 rfl rfl (Nat.le_of_ble_eq_true rfl) ?_
        refine Ec.bipush dX10_beginCleaning_89 (by decide) ?_
        refine Ec.pI (ci := 11) (k := 2) rfl rfl (by decide) (by decide) (tb2 (i := 179) rfl) (Or.inl rfl) (Or.inl rfl) rfl rfl rfl dX10_beginCleaning_91 ?_
        refine Ec.aload_n (i := 3) dX10_beginCleaning_94 rfl rfl (Nat.le_of_ble_eq_true rfl) ?_
        refine Ec.aload_n (i := 3) dX10_beginCleaning_95 rfl rfl (Nat.le_of_ble_eq_true rfl) ?_
        refine Ec.gI (ci := 11) (k := 1) (c.2.1 11 1 (lget (c.2.2.1 8) 0)) rfl rfl (by decide) (by decide) (tb2 (i := 177) rfl) (Or.inl rfl) rfl dX10_beginCleaning_96 ?_
        refine Ec.bipush dX10_beginCleaning_99 (by decide) ?_
        obtain ⟨o7, hok⟩ := hok
        by_cases c8 : (c.2.1 11 1 (lget (c.2.2.1 8) 0)) = 102
        · rw [if_pos c8] at hok
          refine Ec.icmp_ne_f (tgt := 108) dX10_beginCleaning_101 (by decide) o7 ⟨by decide, by decide⟩ (fun h => h c8) ?_
          refine Ec.const dX10_beginCleaning_104 ?_
          refine Ec.goto (tgt := 109) dX10_beginCleaning_105 (by decide) ?_
          refine Ec.pI (ci := 11) (k := 3) rfl rfl (by decide) (by decide) (tb2 (i := 181) rfl) (Or.inl rfl) (Or.inl rfl) rfl rfl rfl dX10_beginCleaning_109 ?_
          refine Ec.inc dX10_beginCleaning_112 rfl (by decide) ?_
          refine Ec.goto (tgt := 54) dX10_beginCleaning_115 (by decide) ?_
          refine Ec.cnv (ls' := [some (13, 0), none, some (0, (x + 1)), none]) ⟨Or.inl rfl, ⟨Or.inl rfl, trivial⟩⟩ ?_
          rw [l_X10_beginCleaning_54, if_neg c3, if_pos c5, if_pos c8]
          exact ih (x + 1) (cput (cput (clst c 8 (remL (c.2.2.1 8) (0 : Int).toNat)) 11 2 (lget (c.2.2.1 8) 0) 103) 11 3 (lget (c.2.2.1 8) 0) 2) hok
        · rw [if_neg c8] at hok
          refine Ec.icmp_ne_t (tgt := 108) dX10_beginCleaning_101 (by decide) o7 ⟨by decide, by decide⟩ c8 ?_
          refine Ec.const dX10_beginCleaning_108 ?_
          refine Ec.pI (ci := 11) (k := 3) rfl rfl (by decide) (by decide) (tb2 (i := 181) rfl) (Or.inl rfl) (Or.inl rfl) rfl rfl rfl dX10_beginCleaning_109 ?_
          refine Ec.inc dX10_beginCleaning_112 rfl (by decide) ?_
          refine Ec.goto (tgt := 54) dX10_beginCleaning_115 (by decide) ?_
          refine Ec.cnv (ls' := [some (13, 0), none, some (0, (x + 1)), none]) ⟨Or.inl rfl, ⟨Or.inl rfl, trivial⟩⟩ ?_
          rw [l_X10_beginCleaning_54, if_neg c3, if_pos c5, if_neg c8]
          exact ih (x + 1) (cput (cput (clst c 8 (remL (c.2.2.1 8) (0 : Int).toNat)) 11 2 (lget (c.2.2.1 8) 0) 103) 11 3 (lget (c.2.2.1 8) 0) 1) hok
      · rw [if_neg c5] at hok
        refine Ec.if_ne_t (tgt := 118) dX10_beginCleaning_71 (by decide) ⟨by omega, by omega⟩ c5 ?_
        exact Ec.vret rfl dX10_beginCleaning_118 rfl (by rw [l_X10_beginCleaning_54, if_neg c3, if_neg c5])
def l_X10_beginCleaning_4 (c : Cs) : Nat → Int → Int → Int
  | 0, u, i => u
  | n + 1, u, i =>
    if ((c.2.2.1 2).length : Int) ≤ i then
      u
    else
      if (c.2.1 11 2 (lget (c.2.2.1 2) i)) = 103 then
        (l_X10_beginCleaning_4  c n (u + 1) (i + 1))
      else
        (l_X10_beginCleaning_4  c n (u + 0) (i + 1))
def okl_X10_beginCleaning_4 (c : Cs) : Nat → Int → Int → Prop
  | 0, u, i => False
  | n + 1, u, i =>
    R32 i ∧ (
      if ((c.2.2.1 2).length : Int) ≤ i then
        True
      else
        ((0 : Int) ≤ i ∧ i < ((c.2.2.1 2).length : Int)) ∧ (
          R32 (c.2.1 11 2 (lget (c.2.2.1 2) i)) ∧ (
            if (c.2.1 11 2 (lget (c.2.2.1 2) i)) = 103 then
              (okl_X10_beginCleaning_4  c n (u + 1) (i + 1))
            else
              (okl_X10_beginCleaning_4  c n (u + 0) (i + 1)))))
theorem s_l_X10_beginCleaning_4 {X : Cx} {ρ : Hp} {c : Cs} {rr : Rr} {c' : Cs} : ∀ (n : Nat) (u i : Int), okl_X10_beginCleaning_4 c n u i → (Ec X ρ m_X10_beginCleaning 4 52 [some (13, 0), some (0, (l_X10_beginCleaning_4 c n u i)), none, none] [] c rr c' → Ec X ρ m_X10_beginCleaning 4 4 [some (13, 0), some (0, u), some (0, i), none] [] c rr c') := by
  intro n
  induction n with
  | zero =>
    intro u i hok K
    exact False.elim hok
  | succ n ih =>
    intro u i hok K
    rw [okl_X10_beginCleaning_4] at hok
    refine Ec.iload_n (i := 2) dX10_beginCleaning_4 rfl rfl ?_
    refine Ec.aload_n (i := 0) dX10_beginCleaning_5 rfl rfl (Nat.le_of_ble_eq_true rfl) ?_
    refine Ec.gL (ci := 13) (k := 2) (t := 2) 2 (fun h _ => ⟨h.2.1.2.2.1, by decide⟩) rfl (by decide) rfl (by decide) (by decide) (tb1 (i := 186) rfl) (Or.inl rfl) rfl dX10_beginCleaning_6 ?_
    refine Ec.say (fun _ hL _ hs => ?_)
    have q9 : ((c.2.2.1 2).length : Int) ≤ 200 := hL _ (hs.hd.r ⟨Nat.le_of_ble_eq_true rfl, Nat.le_of_ble_eq_true rfl⟩).2.1 (hs.hd.r ⟨Nat.le_of_ble_eq_true rfl, Nat.le_of_ble_eq_true rfl⟩).2.2
    refine Ec.cf (as := []) kf_Jx4a65c_size_8abf5 (tb1 (i := 226) rfl) dX10_beginCleaning_9 rfl rfl (Nat.le_of_ble_eq_true rfl) (Nat.le_of_ble_eq_true rfl) kl_size ?_
    obtain ⟨o10, hok⟩ := hok
    by_cases c11 : ((c.2.2.1 2).length : Int) ≤ i
    · rw [if_pos c11] at hok
      refine Ec.icmp_ge_t (tgt := 52) dX10_beginCleaning_14 (by decide) o10 ⟨by omega, by omega⟩ c11 ?_
      rw [l_X10_beginCleaning_4, if_pos c11] at K
      refine Ec.cnv (ls' := [some (13, 0), some (0, u), none, none]) ⟨Or.inl rfl, ⟨Or.inl rfl, trivial⟩⟩ ?_
      exact K
    · rw [if_neg c11] at hok
      refine Ec.icmp_ge_f (tgt := 52) dX10_beginCleaning_14 (by decide) o10 ⟨by omega, by omega⟩ c11 ?_
      refine Ec.iload_n (i := 1) dX10_beginCleaning_17 rfl rfl ?_
      refine Ec.aload_n (i := 0) dX10_beginCleaning_18 rfl rfl (Nat.le_of_ble_eq_true rfl) ?_
      refine Ec.gL (ci := 13) (k := 2) (t := 2) 2 (fun h _ => ⟨h.2.1.2.2.1, by decide⟩) rfl (by decide) rfl (by decide) (by decide) (tb1 (i := 186) rfl) (Or.inl rfl) rfl dX10_beginCleaning_19 ?_
      refine Ec.iload_n (i := 2) dX10_beginCleaning_22 rfl rfl ?_
      obtain ⟨o12, hok⟩ := hok
      refine Ec.cf (as := [(0, i)]) kf_Jx4a65c_get_915e3 (tb2 (i := 93) rfl) dX10_beginCleaning_23 rfl rfl (Nat.le_of_ble_eq_true rfl) (Nat.le_of_ble_eq_true rfl) (kl_get rfl o12) ?_
      refine Ec.cast (ci := 11) rfl (by decide) (tb2 (i := 168) rfl) dX10_beginCleaning_28 ?_
      refine Ec.gI (ci := 11) (k := 2) (c.2.1 11 2 (lget (c.2.2.1 2) i)) rfl rfl (by decide) (by decide) (tb2 (i := 179) rfl) (Or.inl rfl) rfl dX10_beginCleaning_31 ?_
      refine Ec.bipush dX10_beginCleaning_34 (by decide) ?_
      obtain ⟨o13, hok⟩ := hok
      by_cases c14 : (c.2.1 11 2 (lget (c.2.2.1 2) i)) = 103
      · rw [if_pos c14] at hok
        refine Ec.icmp_ne_f (tgt := 43) dX10_beginCleaning_36 (by decide) o13 ⟨by decide, by decide⟩ (fun h => h c14) ?_
        refine Ec.const dX10_beginCleaning_39 ?_
        refine Ec.goto (tgt := 44) dX10_beginCleaning_40 (by decide) ?_
        refine Ec.add dX10_beginCleaning_44 ?_
        refine Ec.istore_n (i := 1) dX10_beginCleaning_45 rfl (by decide) ?_
        refine Ec.inc dX10_beginCleaning_46 rfl (by decide) ?_
        refine Ec.goto (tgt := 4) dX10_beginCleaning_49 (by decide) ?_
        refine Ec.cnv (ls' := [some (13, 0), some (0, (u + 1)), some (0, (i + 1)), none]) ⟨Or.inl rfl, ⟨Or.inl rfl, ⟨Or.inl rfl, trivial⟩⟩⟩ ?_
        rw [l_X10_beginCleaning_4, if_neg c11, if_pos c14] at K
        exact ih (u + 1) (i + 1) hok K
      · rw [if_neg c14] at hok
        refine Ec.icmp_ne_t (tgt := 43) dX10_beginCleaning_36 (by decide) o13 ⟨by decide, by decide⟩ c14 ?_
        refine Ec.const dX10_beginCleaning_43 ?_
        refine Ec.add dX10_beginCleaning_44 ?_
        refine Ec.istore_n (i := 1) dX10_beginCleaning_45 rfl (by decide) ?_
        refine Ec.inc dX10_beginCleaning_46 rfl (by decide) ?_
        refine Ec.goto (tgt := 4) dX10_beginCleaning_49 (by decide) ?_
        refine Ec.cnv (ls' := [some (13, 0), some (0, (u + 0)), some (0, (i + 1)), none]) ⟨Or.inl rfl, ⟨Or.inl rfl, ⟨Or.inl rfl, trivial⟩⟩⟩ ?_
        rw [l_X10_beginCleaning_4, if_neg c11, if_neg c14] at K
        exact ih (u + 0) (i + 1) hok K
def g_X10_beginCleaning (c : Cs) : Cs :=
  (l_X10_beginCleaning_54 fu (l_X10_beginCleaning_4 c fu 0 0) c)
def ok_X10_beginCleaning (c : Cs) : Prop :=
  (okl_X10_beginCleaning_4 c fu 0 0) ∧ (
    (okl_X10_beginCleaning_54 fu (l_X10_beginCleaning_4 c fu 0 0) c))
theorem s_X10_beginCleaning {X : Cx} {ρ : Hp} {c : Cs} (hok : ok_X10_beginCleaning c) : Kc X ρ m_X10_beginCleaning 4 [(13, 0)] c (.inl none) (g_X10_beginCleaning c) := by
  refine Kc.of (by decide +kernel) rfl (Nat.le_of_ble_eq_true rfl) ?_
  rw [ok_X10_beginCleaning] at hok
  refine Ec.const dX10_beginCleaning_0 ?_
  refine Ec.istore_n (i := 1) dX10_beginCleaning_1 rfl (by decide) ?_
  refine Ec.const dX10_beginCleaning_2 ?_
  refine Ec.istore_n (i := 2) dX10_beginCleaning_3 rfl (by decide) ?_
  refine Ec.cnv (ls' := [some (13, 0), some (0, 0), some (0, 0), none]) ⟨Or.inl rfl, ⟨Or.inl rfl, ⟨Or.inl rfl, trivial⟩⟩⟩ ?_
  obtain ⟨o15, hok⟩ := hok
  refine s_l_X10_beginCleaning_4  (c := c)  fu 0 0 o15 ?_
  refine Ec.iload_n (i := 1) dX10_beginCleaning_52 rfl rfl ?_
  refine Ec.istore_n (i := 2) dX10_beginCleaning_53 rfl (by decide) ?_
  refine Ec.cnv (ls' := [some (13, 0), none, some (0, (l_X10_beginCleaning_4 c fu 0 0)), none]) ⟨Or.inl rfl, ⟨Or.inl rfl, trivial⟩⟩ ?_
  rw [g_X10_beginCleaning]
  exact s_l_X10_beginCleaning_54   fu (l_X10_beginCleaning_4 c fu 0 0) c hok
def g_X10_startBrew (r w : Int) (c : Cs) : Int × Cs :=
  (((g_X8_takeIn w (c.1 3) (cput (cput (g_X0_init (c.1 3) ((c.2.2.1 3).length : Int) r ((g_X9_take (c.2.1 9 2 r) (c.2.1 13 11 0) (cnew c 3)).1) ((g_X9_take (c.2.1 9 2 r) (c.2.1 13 11 0) (cnew c 3)).2)) 3 4 (c.1 3) (g_X6_fermentDaysAfter r ((g_X0_init (c.1 3) ((c.2.2.1 3).length : Int) r ((g_X9_take (c.2.1 9 2 r) (c.2.1 13 11 0) (cnew c 3)).1) ((g_X9_take (c.2.1 9 2 r) (c.2.1 13 11 0) (cnew c 3)).2)).2.1 11 4 w) (g_X0_init (c.1 3) ((c.2.2.1 3).length : Int) r ((g_X9_take (c.2.1 9 2 r) (c.2.1 13 11 0) (cnew c 3)).1) ((g_X9_take (c.2.1 9 2 r) (c.2.1 13 11 0) (cnew c 3)).2)))) 11 4 w ((g_X0_init (c.1 3) ((c.2.2.1 3).length : Int) r ((g_X9_take (c.2.1 9 2 r) (c.2.1 13 11 0) (cnew c 3)).1) ((g_X9_take (c.2.1 9 2 r) (c.2.1 13 11 0) (cnew c 3)).2)).2.1 9 1 r))).2.1 3 0 (c.1 3)), (clst (g_X8_takeIn w (c.1 3) (cput (cput (g_X0_init (c.1 3) ((c.2.2.1 3).length : Int) r ((g_X9_take (c.2.1 9 2 r) (c.2.1 13 11 0) (cnew c 3)).1) ((g_X9_take (c.2.1 9 2 r) (c.2.1 13 11 0) (cnew c 3)).2)) 3 4 (c.1 3) (g_X6_fermentDaysAfter r ((g_X0_init (c.1 3) ((c.2.2.1 3).length : Int) r ((g_X9_take (c.2.1 9 2 r) (c.2.1 13 11 0) (cnew c 3)).1) ((g_X9_take (c.2.1 9 2 r) (c.2.1 13 11 0) (cnew c 3)).2)).2.1 11 4 w) (g_X0_init (c.1 3) ((c.2.2.1 3).length : Int) r ((g_X9_take (c.2.1 9 2 r) (c.2.1 13 11 0) (cnew c 3)).1) ((g_X9_take (c.2.1 9 2 r) (c.2.1 13 11 0) (cnew c 3)).2)))) 11 4 w ((g_X0_init (c.1 3) ((c.2.2.1 3).length : Int) r ((g_X9_take (c.2.1 9 2 r) (c.2.1 13 11 0) (cnew c 3)).1) ((g_X9_take (c.2.1 9 2 r) (c.2.1 13 11 0) (cnew c 3)).2)).2.1 9 1 r))) 3 ((g_X8_takeIn w (c.1 3) (cput (cput (g_X0_init (c.1 3) ((c.2.2.1 3).length : Int) r ((g_X9_take (c.2.1 9 2 r) (c.2.1 13 11 0) (cnew c 3)).1) ((g_X9_take (c.2.1 9 2 r) (c.2.1 13 11 0) (cnew c 3)).2)) 3 4 (c.1 3) (g_X6_fermentDaysAfter r ((g_X0_init (c.1 3) ((c.2.2.1 3).length : Int) r ((g_X9_take (c.2.1 9 2 r) (c.2.1 13 11 0) (cnew c 3)).1) ((g_X9_take (c.2.1 9 2 r) (c.2.1 13 11 0) (cnew c 3)).2)).2.1 11 4 w) (g_X0_init (c.1 3) ((c.2.2.1 3).length : Int) r ((g_X9_take (c.2.1 9 2 r) (c.2.1 13 11 0) (cnew c 3)).1) ((g_X9_take (c.2.1 9 2 r) (c.2.1 13 11 0) (cnew c 3)).2)))) 11 4 w ((g_X0_init (c.1 3) ((c.2.2.1 3).length : Int) r ((g_X9_take (c.2.1 9 2 r) (c.2.1 13 11 0) (cnew c 3)).1) ((g_X9_take (c.2.1 9 2 r) (c.2.1 13 11 0) (cnew c 3)).2)).2.1 9 1 r))).2.2.1 3 ++ [c.1 3])))
def ok_X10_startBrew (r w : Int) (c : Cs) : Prop :=
  (c.2.1 9 2 r) ≠ -1 ∧ (
    ok_X9_take (c.2.1 9 2 r) (c.2.1 13 11 0) (cnew c 3) ∧ (
      ok_X6_fermentDaysAfter r ((g_X0_init (c.1 3) ((c.2.2.1 3).length : Int) r ((g_X9_take (c.2.1 9 2 r) (c.2.1 13 11 0) (cnew c 3)).1) ((g_X9_take (c.2.1 9 2 r) (c.2.1 13 11 0) (cnew c 3)).2)).2.1 11 4 w) (g_X0_init (c.1 3) ((c.2.2.1 3).length : Int) r ((g_X9_take (c.2.1 9 2 r) (c.2.1 13 11 0) (cnew c 3)).1) ((g_X9_take (c.2.1 9 2 r) (c.2.1 13 11 0) (cnew c 3)).2)) ∧ (
        (((g_X8_takeIn w (c.1 3) (cput (cput (g_X0_init (c.1 3) ((c.2.2.1 3).length : Int) r ((g_X9_take (c.2.1 9 2 r) (c.2.1 13 11 0) (cnew c 3)).1) ((g_X9_take (c.2.1 9 2 r) (c.2.1 13 11 0) (cnew c 3)).2)) 3 4 (c.1 3) (g_X6_fermentDaysAfter r ((g_X0_init (c.1 3) ((c.2.2.1 3).length : Int) r ((g_X9_take (c.2.1 9 2 r) (c.2.1 13 11 0) (cnew c 3)).1) ((g_X9_take (c.2.1 9 2 r) (c.2.1 13 11 0) (cnew c 3)).2)).2.1 11 4 w) (g_X0_init (c.1 3) ((c.2.2.1 3).length : Int) r ((g_X9_take (c.2.1 9 2 r) (c.2.1 13 11 0) (cnew c 3)).1) ((g_X9_take (c.2.1 9 2 r) (c.2.1 13 11 0) (cnew c 3)).2)))) 11 4 w ((g_X0_init (c.1 3) ((c.2.2.1 3).length : Int) r ((g_X9_take (c.2.1 9 2 r) (c.2.1 13 11 0) (cnew c 3)).1) ((g_X9_take (c.2.1 9 2 r) (c.2.1 13 11 0) (cnew c 3)).2)).2.1 9 1 r))).2.2.1 3).length : Int) ≤ 199 ∧ (
          True))))
theorem s_X10_startBrew {X : Cx} {ρ : Hp} {r w : Int} {c : Cs} (hok : ok_X10_startBrew r w c) : Kc X ρ m_X10_startBrew 7 [(13, 0), (9, r), (11, w)] c (.inl (some (0, ((g_X10_startBrew r w c)).1))) ((g_X10_startBrew r w c)).2 := by
  refine Kc.of (by decide +kernel) rfl (Nat.le_of_ble_eq_true rfl) ?_
  rw [ok_X10_startBrew] at hok
  refine Ec.new (ci := 3) rfl (by decide) (by decide) (by decide) (tb3 (i := 87) rfl) (tb3 (i := 88) rfl) (tb1 (i := 24) rfl) dX10_startBrew_0 ?_
  refine Ec.dup dX10_startBrew_3 ?_
  refine Ec.aload_n (i := 0) dX10_startBrew_4 rfl rfl (Nat.le_of_ble_eq_true rfl) ?_
  refine Ec.gL (ci := 13) (k := 3) (t := 2) 3 (fun h _ => ⟨h.2.1.2.2.2.1, by decide⟩) rfl (by decide) rfl (by decide) (by decide) (tb1 (i := 187) rfl) (Or.inl rfl) rfl dX10_startBrew_5 ?_
  refine Ec.say (fun _ hL _ hs => ?_)
  have q1 : ((c.2.2.1 3).length : Int) ≤ 200 := hL _ (hs.hd.r ⟨Nat.le_of_ble_eq_true rfl, Nat.le_of_ble_eq_true rfl⟩).2.1 (hs.hd.r ⟨Nat.le_of_ble_eq_true rfl, Nat.le_of_ble_eq_true rfl⟩).2.2
  refine Ec.cf (as := []) kf_Jx4a65c_size_8abf5 (tb1 (i := 226) rfl) dX10_startBrew_8 rfl rfl (Nat.le_of_ble_eq_true rfl) (Nat.le_of_ble_eq_true rfl) kl_size ?_
  refine Ec.aload_n (i := 1) dX10_startBrew_13 rfl rfl (Nat.le_of_ble_eq_true rfl) ?_
  refine Ec.aload_n (i := 1) dX10_startBrew_14 rfl rfl (Nat.le_of_ble_eq_true rfl) ?_
  refine Ec.gQ (ci := 9) (k := 2) (t := 12) (c.2.1 9 2 r) rfl rfl rfl (by decide) (by decide) (tb2 (i := 144) rfl) (Or.inl rfl) rfl dX10_startBrew_15 ?_
  obtain ⟨o2, hok⟩ := hok
  refine Ec.nns (t := 12) o2 (by decide) ?_
  refine Ec.aload_n (i := 0) dX10_startBrew_18 rfl rfl (Nat.le_of_ble_eq_true rfl) ?_
  refine Ec.gI (ci := 13) (k := 11) (c.2.1 13 11 0) rfl rfl (by decide) (by decide) (tb1 (i := 195) rfl) (Or.inl rfl) rfl dX10_startBrew_19 ?_
  obtain ⟨o3, hok⟩ := hok
  refine Ec.cv (ci := 12) (as := [(0, (c.2.1 13 11 0))]) k_X9_take rfl (by decide) (tb3 (i := 89) rfl) ki_X9_take kv_X9_take dX10_startBrew_22 rfl rfl (Nat.le_of_ble_eq_true rfl) (Nat.le_of_ble_eq_true rfl) (s_X9_take o3) ?_
  refine Ec.ci (as := [(0, ((c.2.2.1 3).length : Int)), (9, r), (0, (g_X9_take (c.2.1 9 2 r) (c.2.1 13 11 0) (cnew c 3)).1)]) k_X0_init rfl rfl (by decide) (tb3 (i := 107) rfl) ki_X0_init dX10_startBrew_25 rfl rfl (Nat.le_of_ble_eq_true rfl) (Nat.le_of_ble_eq_true rfl) (Kc.wk (wk0 (wk0 (wk1 (wk0 wkN) (by decide)))) s_X0_init) ?_
  refine Ec.astore_n (i := 3) dX10_startBrew_28 rfl (by decide) (Nat.le_of_ble_eq_true rfl) ?_
  refine Ec.aload_n (i := 3) dX10_startBrew_29 rfl rfl (Nat.le_of_ble_eq_true rfl) ?_
  refine Ec.aload_n (i := 1) dX10_startBrew_30 rfl rfl (Nat.le_of_ble_eq_true rfl) ?_
  refine Ec.aload_n (i := 2) dX10_startBrew_31 rfl rfl (Nat.le_of_ble_eq_true rfl) ?_
  refine Ec.gI (ci := 11) (k := 4) ((g_X0_init (c.1 3) ((c.2.2.1 3).length : Int) r ((g_X9_take (c.2.1 9 2 r) (c.2.1 13 11 0) (cnew c 3)).1) ((g_X9_take (c.2.1 9 2 r) (c.2.1 13 11 0) (cnew c 3)).2)).2.1 11 4 w) rfl rfl (by decide) (by decide) (tb2 (i := 184) rfl) (Or.inl rfl) rfl dX10_startBrew_32 ?_
  obtain ⟨o4, hok⟩ := hok
  refine Ec.cv (ci := 9) (as := [(0, ((g_X0_init (c.1 3) ((c.2.2.1 3).length : Int) r ((g_X9_take (c.2.1 9 2 r) (c.2.1 13 11 0) (cnew c 3)).1) ((g_X9_take (c.2.1 9 2 r) (c.2.1 13 11 0) (cnew c 3)).2)).2.1 11 4 w))]) k_X6_fermentDaysAfter rfl (by decide) (tb3 (i := 143) rfl) ki_X6_fermentDaysAfter kv_X6_fermentDaysAfter dX10_startBrew_35 rfl rfl (Nat.le_of_ble_eq_true rfl) (Nat.le_of_ble_eq_true rfl) (s_X6_fermentDaysAfter o4) ?_
  refine Ec.pI (ci := 3) (k := 4) rfl rfl (by decide) (by decide) (tb3 (i := 122) rfl) (Or.inl rfl) (Or.inl rfl) rfl rfl rfl dX10_startBrew_38 ?_
  refine Ec.aload_n (i := 2) dX10_startBrew_41 rfl rfl (Nat.le_of_ble_eq_true rfl) ?_
  refine Ec.aload_n (i := 1) dX10_startBrew_42 rfl rfl (Nat.le_of_ble_eq_true rfl) ?_
  refine Ec.gI (ci := 9) (k := 1) ((g_X0_init (c.1 3) ((c.2.2.1 3).length : Int) r ((g_X9_take (c.2.1 9 2 r) (c.2.1 13 11 0) (cnew c 3)).1) ((g_X9_take (c.2.1 9 2 r) (c.2.1 13 11 0) (cnew c 3)).2)).2.1 9 1 r) rfl rfl (by decide) (by decide) (tb2 (i := 142) rfl) (Or.inl rfl) rfl dX10_startBrew_43 ?_
  refine Ec.pI (ci := 11) (k := 4) rfl rfl (by decide) (by decide) (tb2 (i := 184) rfl) (Or.inl rfl) (Or.inl rfl) rfl rfl rfl dX10_startBrew_46 ?_
  refine Ec.aload_n (i := 2) dX10_startBrew_49 rfl rfl (Nat.le_of_ble_eq_true rfl) ?_
  refine Ec.aload_n (i := 3) dX10_startBrew_50 rfl rfl (Nat.le_of_ble_eq_true rfl) ?_
  refine Ec.cv (ci := 11) (as := [(3, c.1 3)]) k_X8_takeIn rfl (by decide) (tb3 (i := 147) rfl) ki_X8_takeIn kv_X8_takeIn dX10_startBrew_51 rfl rfl (Nat.le_of_ble_eq_true rfl) (Nat.le_of_ble_eq_true rfl) s_X8_takeIn ?_
  refine Ec.aload_n (i := 0) dX10_startBrew_54 rfl rfl (Nat.le_of_ble_eq_true rfl) ?_
  refine Ec.gL (ci := 13) (k := 3) (t := 2) 3 (fun h _ => ⟨h.2.1.2.2.2.1, by decide⟩) rfl (by decide) rfl (by decide) (by decide) (tb1 (i := 187) rfl) (Or.inl rfl) rfl dX10_startBrew_55 ?_
  refine Ec.aload_n (i := 3) dX10_startBrew_58 rfl rfl (Nat.le_of_ble_eq_true rfl) ?_
  obtain ⟨o5, hok⟩ := hok
  refine Ec.cf (as := [(3, c.1 3)]) (c1 := (clst (g_X8_takeIn w (c.1 3) (cput (cput (g_X0_init (c.1 3) ((c.2.2.1 3).length : Int) r ((g_X9_take (c.2.1 9 2 r) (c.2.1 13 11 0) (cnew c 3)).1) ((g_X9_take (c.2.1 9 2 r) (c.2.1 13 11 0) (cnew c 3)).2)) 3 4 (c.1 3) (g_X6_fermentDaysAfter r ((g_X0_init (c.1 3) ((c.2.2.1 3).length : Int) r ((g_X9_take (c.2.1 9 2 r) (c.2.1 13 11 0) (cnew c 3)).1) ((g_X9_take (c.2.1 9 2 r) (c.2.1 13 11 0) (cnew c 3)).2)).2.1 11 4 w) (g_X0_init (c.1 3) ((c.2.2.1 3).length : Int) r ((g_X9_take (c.2.1 9 2 r) (c.2.1 13 11 0) (cnew c 3)).1) ((g_X9_take (c.2.1 9 2 r) (c.2.1 13 11 0) (cnew c 3)).2)))) 11 4 w ((g_X0_init (c.1 3) ((c.2.2.1 3).length : Int) r ((g_X9_take (c.2.1 9 2 r) (c.2.1 13 11 0) (cnew c 3)).1) ((g_X9_take (c.2.1 9 2 r) (c.2.1 13 11 0) (cnew c 3)).2)).2.1 9 1 r))) 3 ((g_X8_takeIn w (c.1 3) (cput (cput (g_X0_init (c.1 3) ((c.2.2.1 3).length : Int) r ((g_X9_take (c.2.1 9 2 r) (c.2.1 13 11 0) (cnew c 3)).1) ((g_X9_take (c.2.1 9 2 r) (c.2.1 13 11 0) (cnew c 3)).2)) 3 4 (c.1 3) (g_X6_fermentDaysAfter r ((g_X0_init (c.1 3) ((c.2.2.1 3).length : Int) r ((g_X9_take (c.2.1 9 2 r) (c.2.1 13 11 0) (cnew c 3)).1) ((g_X9_take (c.2.1 9 2 r) (c.2.1 13 11 0) (cnew c 3)).2)).2.1 11 4 w) (g_X0_init (c.1 3) ((c.2.2.1 3).length : Int) r ((g_X9_take (c.2.1 9 2 r) (c.2.1 13 11 0) (cnew c 3)).1) ((g_X9_take (c.2.1 9 2 r) (c.2.1 13 11 0) (cnew c 3)).2)))) 11 4 w ((g_X0_init (c.1 3) ((c.2.2.1 3).length : Int) r ((g_X9_take (c.2.1 9 2 r) (c.2.1 13 11 0) (cnew c 3)).1) ((g_X9_take (c.2.1 9 2 r) (c.2.1 13 11 0) (cnew c 3)).2)).2.1 9 1 r))).2.2.1 3 ++ [c.1 3]))) kf_Jx4a65c_add_9ea2d (tb1 (i := 113) rfl) dX10_startBrew_59 rfl rfl (Nat.le_of_ble_eq_true rfl) (Nat.le_of_ble_eq_true rfl) (kl_add rfl o5 (by decide)) ?_
  refine Ec.pop dX10_startBrew_64 ?_
  refine Ec.aload_n (i := 3) dX10_startBrew_65 rfl rfl (Nat.le_of_ble_eq_true rfl) ?_
  refine Ec.gI (ci := 3) (k := 0) ((g_X8_takeIn w (c.1 3) (cput (cput (g_X0_init (c.1 3) ((c.2.2.1 3).length : Int) r ((g_X9_take (c.2.1 9 2 r) (c.2.1 13 11 0) (cnew c 3)).1) ((g_X9_take (c.2.1 9 2 r) (c.2.1 13 11 0) (cnew c 3)).2)) 3 4 (c.1 3) (g_X6_fermentDaysAfter r ((g_X0_init (c.1 3) ((c.2.2.1 3).length : Int) r ((g_X9_take (c.2.1 9 2 r) (c.2.1 13 11 0) (cnew c 3)).1) ((g_X9_take (c.2.1 9 2 r) (c.2.1 13 11 0) (cnew c 3)).2)).2.1 11 4 w) (g_X0_init (c.1 3) ((c.2.2.1 3).length : Int) r ((g_X9_take (c.2.1 9 2 r) (c.2.1 13 11 0) (cnew c 3)).1) ((g_X9_take (c.2.1 9 2 r) (c.2.1 13 11 0) (cnew c 3)).2)))) 11 4 w ((g_X0_init (c.1 3) ((c.2.2.1 3).length : Int) r ((g_X9_take (c.2.1 9 2 r) (c.2.1 13 11 0) (cnew c 3)).1) ((g_X9_take (c.2.1 9 2 r) (c.2.1 13 11 0) (cnew c 3)).2)).2.1 9 1 r))).2.1 3 0 (c.1 3)) rfl rfl (by decide) (by decide) (tb3 (i := 112) rfl) (Or.inl rfl) rfl dX10_startBrew_66 ?_
  exact Ec.iret rfl nar_i dX10_startBrew_69 (by rw [g_X10_startBrew]) (by rw [g_X10_startBrew])
def l_X10_startQueued_12 : Nat → Int → Int → Cs → Cs
  | 0, i, k, c => c
  | n + 1, i, k, c =>
    if k ≤ 0 then
      c
    else
      if ((c.2.2.1 4).length : Int) ≤ i then
        c
      else
        if (g_X10_firstClean 102 c) = -1 then
          (l_X10_startQueued_12  n (i + 1) (k + (-1)) c)
        else
          if (g_X9_isThere (c.2.1 9 2 (lget (c.2.2.1 4) i)) (c.2.1 13 11 0) c) = 0 then
            (l_X10_startQueued_12  n (i + 1) (k + (-1)) c)
          else
            (l_X10_startQueued_12  n i (k + (-1)) ((g_X10_startBrew (lget (c.2.2.1 4) i) (g_X10_firstClean 102 c) (clst c 4 (remL (c.2.2.1 4) i.toNat))).2))
def okl_X10_startQueued_12 : Nat → Int → Int → Cs → Prop
  | 0, i, k, c => False
  | n + 1, i, k, c =>
    R32 k ∧ (
      if k ≤ 0 then
        True
      else
        R32 i ∧ (
          if ((c.2.2.1 4).length : Int) ≤ i then
            True
          else
            ((0 : Int) ≤ i ∧ i < ((c.2.2.1 4).length : Int)) ∧ (
              ok_X10_firstClean 102 c ∧ (
                if (g_X10_firstClean 102 c) = -1 then
                  (okl_X10_startQueued_12  n (i + 1) (k + (-1)) c)
                else
                  (c.2.1 9 2 (lget (c.2.2.1 4) i)) ≠ -1 ∧ (
                    ok_X9_isThere (c.2.1 9 2 (lget (c.2.2.1 4) i)) (c.2.1 13 11 0) c ∧ (
                      if (g_X9_isThere (c.2.1 9 2 (lget (c.2.2.1 4) i)) (c.2.1 13 11 0) c) = 0 then
                        (okl_X10_startQueued_12  n (i + 1) (k + (-1)) c)
                      else
                        ok_X10_startBrew (lget (c.2.2.1 4) i) (g_X10_firstClean 102 c) (clst c 4 (remL (c.2.2.1 4) i.toNat)) ∧ (
                          (okl_X10_startQueued_12  n i (k + (-1)) ((g_X10_startBrew (lget (c.2.2.1 4) i) (g_X10_firstClean 102 c) (clst c 4 (remL (c.2.2.1 4) i.toNat))).2)))))))))
theorem s_l_X10_startQueued_12 {X : Cx} {ρ : Hp} : ∀ (n : Nat) (i k : Int) (c : Cs), okl_X10_startQueued_12 n i k c → Ec X ρ m_X10_startQueued 8 12 [some (13, 0), some (0, i), some (0, k), none, none] [] c (.inl none) (l_X10_startQueued_12 n i k c) := by
  intro n
  induction n with
  | zero =>
    intro i k c hok
    exact False.elim hok
  | succ n ih =>
    intro i k c hok
    rw [okl_X10_startQueued_12] at hok
    refine Ec.iload_n (i := 2) dX10_startQueued_12 rfl rfl ?_
    obtain ⟨o1, hok⟩ := hok
    by_cases c2 : k ≤ 0
    · rw [if_pos c2] at hok
      refine Ec.if_le_t (tgt := 101) dX10_startQueued_13 (by decide) o1 c2 ?_
      exact Ec.vret rfl dX10_startQueued_101 rfl (by rw [l_X10_startQueued_12, if_pos c2])
    · rw [if_neg c2] at hok
      refine Ec.if_le_f (tgt := 101) dX10_startQueued_13 (by decide) o1 c2 ?_
      refine Ec.iload_n (i := 1) dX10_startQueued_16 rfl rfl ?_
      refine Ec.aload_n (i := 0) dX10_startQueued_17 rfl rfl (Nat.le_of_ble_eq_true rfl) ?_
      refine Ec.gL (ci := 13) (k := 4) (t := 2) 4 (fun h _ => ⟨h.2.1.2.2.2.2.1, by decide⟩) rfl (by decide) rfl (by decide) (by decide) (tb1 (i := 188) rfl) (Or.inl rfl) rfl dX10_startQueued_18 ?_
      refine Ec.say (fun _ hL _ hs => ?_)
      have q3 : ((c.2.2.1 4).length : Int) ≤ 200 := hL _ (hs.hd.r ⟨Nat.le_of_ble_eq_true rfl, Nat.le_of_ble_eq_true rfl⟩).2.1 (hs.hd.r ⟨Nat.le_of_ble_eq_true rfl, Nat.le_of_ble_eq_true rfl⟩).2.2
      refine Ec.cf (as := []) kf_Jx4a65c_size_8abf5 (tb1 (i := 226) rfl) dX10_startQueued_21 rfl rfl (Nat.le_of_ble_eq_true rfl) (Nat.le_of_ble_eq_true rfl) kl_size ?_
      obtain ⟨o4, hok⟩ := hok
      by_cases c5 : ((c.2.2.1 4).length : Int) ≤ i
      · rw [if_pos c5] at hok
        refine Ec.icmp_ge_t (tgt := 101) dX10_startQueued_26 (by decide) o4 ⟨by omega, by omega⟩ c5 ?_
        exact Ec.vret rfl dX10_startQueued_101 rfl (by rw [l_X10_startQueued_12, if_neg c2, if_pos c5])
      · rw [if_neg c5] at hok
        refine Ec.icmp_ge_f (tgt := 101) dX10_startQueued_26 (by decide) o4 ⟨by omega, by omega⟩ c5 ?_
        refine Ec.aload_n (i := 0) dX10_startQueued_29 rfl rfl (Nat.le_of_ble_eq_true rfl) ?_
        refine Ec.gL (ci := 13) (k := 4) (t := 2) 4 (fun h _ => ⟨h.2.1.2.2.2.2.1, by decide⟩) rfl (by decide) rfl (by decide) (by decide) (tb1 (i := 188) rfl) (Or.inl rfl) rfl dX10_startQueued_30 ?_
        refine Ec.iload_n (i := 1) dX10_startQueued_33 rfl rfl ?_
        obtain ⟨o6, hok⟩ := hok
        refine Ec.cf (as := [(0, i)]) kf_Jx4a65c_get_915e3 (tb2 (i := 93) rfl) dX10_startQueued_34 rfl rfl (Nat.le_of_ble_eq_true rfl) (Nat.le_of_ble_eq_true rfl) (kl_get rfl o6) ?_
        refine Ec.cast (ci := 9) rfl (by decide) (tb2 (i := 131) rfl) dX10_startQueued_39 ?_
        refine Ec.astore_n (i := 3) dX10_startQueued_42 rfl (by decide) (Nat.le_of_ble_eq_true rfl) ?_
        refine Ec.aload_n (i := 0) dX10_startQueued_43 rfl rfl (Nat.le_of_ble_eq_true rfl) ?_
        refine Ec.bipush dX10_startQueued_44 (by decide) ?_
        obtain ⟨o7, hok⟩ := hok
        refine Ec.cv (ci := 13) (as := [(0, 102)]) k_X10_firstClean rfl (by decide) (tb5 (i := 233) rfl) ki_X10_firstClean kv_X10_firstClean dX10_startQueued_46 rfl rfl (Nat.le_of_ble_eq_true rfl) (Nat.le_of_ble_eq_true rfl) (s_X10_firstClean o7) ?_
        refine Ec.astore dX10_startQueued_49 (by decide) (Nat.le_of_ble_eq_true rfl) ?_
        refine Ec.aload dX10_startQueued_51 rfl (Nat.le_of_ble_eq_true rfl) ?_
        by_cases c8 : (g_X10_firstClean 102 c) = -1
        · rw [if_pos c8] at hok
          refine Ec.ifnull_t (t := 11) (tgt := 92) dX10_startQueued_53 (by decide) c8 ?_
          refine Ec.inc dX10_startQueued_92 rfl (by decide) ?_
          refine Ec.inc dX10_startQueued_95 rfl (by decide) ?_
          refine Ec.goto (tgt := 12) dX10_startQueued_98 (by decide) ?_
          refine Ec.cnv (ls' := [some (13, 0), some (0, (i + 1)), some (0, (k + (-1))), none, none]) ⟨Or.inl rfl, ⟨Or.inl rfl, ⟨Or.inl rfl, trivial⟩⟩⟩ ?_
          rw [l_X10_startQueued_12, if_neg c2, if_neg c5, if_pos c8]
          exact ih (i + 1) (k + (-1)) c hok
        · rw [if_neg c8] at hok
          refine Ec.ifnull_f (t := 11) (tgt := 92) dX10_startQueued_53 (by decide) c8 ?_
          refine Ec.nn (i := 4) (t := 11) rfl c8 (by decide) ?_
          refine Ec.aload_n (i := 3) dX10_startQueued_56 rfl rfl (Nat.le_of_ble_eq_true rfl) ?_
          refine Ec.gQ (ci := 9) (k := 2) (t := 12) (c.2.1 9 2 (lget (c.2.2.1 4) i)) rfl rfl rfl (by decide) (by decide) (tb2 (i := 144) rfl) (Or.inl rfl) rfl dX10_startQueued_57 ?_
          obtain ⟨o9, hok⟩ := hok
          refine Ec.nns (t := 12) o9 (by decide) ?_
          refine Ec.aload_n (i := 0) dX10_startQueued_60 rfl rfl (Nat.le_of_ble_eq_true rfl) ?_
          refine Ec.gI (ci := 13) (k := 11) (c.2.1 13 11 0) rfl rfl (by decide) (by decide) (tb1 (i := 195) rfl) (Or.inl rfl) rfl dX10_startQueued_61 ?_
          obtain ⟨o10, hok⟩ := hok
          refine Ec.cv (ci := 12) (as := [(0, (c.2.1 13 11 0))]) k_X9_isThere rfl (by decide) (tb3 (i := 50) rfl) ki_X9_isThere kv_X9_isThere dX10_startQueued_64 rfl rfl (Nat.le_of_ble_eq_true rfl) (Nat.le_of_ble_eq_true rfl) (s_X9_isThere o10) ?_
          have q11 : 0 ≤ (g_X9_isThere (c.2.1 9 2 (lget (c.2.2.1 4) i)) (c.2.1 13 11 0) c) ∧ (g_X9_isThere (c.2.1 9 2 (lget (c.2.2.1 4) i)) (c.2.1 13 11 0) c) ≤ 1 := r_X9_isThere
          by_cases c12 : (g_X9_isThere (c.2.1 9 2 (lget (c.2.2.1 4) i)) (c.2.1 13 11 0) c) = 0
          · rw [if_pos c12] at hok
            refine Ec.if_eq_t (tgt := 92) dX10_startQueued_67 (by decide) ⟨by omega, by omega⟩ c12 ?_
            refine Ec.inc dX10_startQueued_92 rfl (by decide) ?_
            refine Ec.inc dX10_startQueued_95 rfl (by decide) ?_
            refine Ec.goto (tgt := 12) dX10_startQueued_98 (by decide) ?_
            refine Ec.cnv (ls' := [some (13, 0), some (0, (i + 1)), some (0, (k + (-1))), none, none]) ⟨Or.inl rfl, ⟨Or.inl rfl, ⟨Or.inl rfl, trivial⟩⟩⟩ ?_
            rw [l_X10_startQueued_12, if_neg c2, if_neg c5, if_neg c8, if_pos c12]
            exact ih (i + 1) (k + (-1)) c hok
          · rw [if_neg c12] at hok
            refine Ec.if_eq_f (tgt := 92) dX10_startQueued_67 (by decide) ⟨by omega, by omega⟩ c12 ?_
            refine Ec.aload_n (i := 0) dX10_startQueued_70 rfl rfl (Nat.le_of_ble_eq_true rfl) ?_
            refine Ec.gL (ci := 13) (k := 4) (t := 2) 4 (fun h _ => ⟨h.2.1.2.2.2.2.1, by decide⟩) rfl (by decide) rfl (by decide) (by decide) (tb1 (i := 188) rfl) (Or.inl rfl) rfl dX10_startQueued_71 ?_
            refine Ec.iload_n (i := 1) dX10_startQueued_74 rfl rfl ?_
            refine Ec.cf (as := [(0, i)]) (c1 := (clst c 4 (remL (c.2.2.1 4) i.toNat))) kf_Jx4a65c_remove_915e3 (tb3 (i := 172) rfl) dX10_startQueued_75 rfl rfl (Nat.le_of_ble_eq_true rfl) (Nat.le_of_ble_eq_true rfl) (kl_rem rfl o6) ?_
            refine Ec.pop dX10_startQueued_80 ?_
            refine Ec.aload_n (i := 0) dX10_startQueued_81 rfl rfl (Nat.le_of_ble_eq_true rfl) ?_
            refine Ec.aload_n (i := 3) dX10_startQueued_82 rfl rfl (Nat.le_of_ble_eq_true rfl) ?_
            refine Ec.aload dX10_startQueued_83 rfl (Nat.le_of_ble_eq_true rfl) ?_
            obtain ⟨o13, hok⟩ := hok
            refine Ec.cv (ci := 13) (as := [(9, (lget (c.2.2.1 4) i)), (11, (g_X10_firstClean 102 c))]) k_X10_startBrew rfl (by decide) (tb3 (i := 83) rfl) ki_X10_startBrew kv_X10_startBrew dX10_startQueued_85 rfl rfl (Nat.le_of_ble_eq_true rfl) (Nat.le_of_ble_eq_true rfl) (s_X10_startBrew o13) ?_
            refine Ec.pop dX10_startQueued_88 ?_
            refine Ec.goto (tgt := 95) dX10_startQueued_89 (by decide) ?_
            refine Ec.inc dX10_startQueued_95 rfl (by decide) ?_
            refine Ec.goto (tgt := 12) dX10_startQueued_98 (by decide) ?_
            refine Ec.cnv (ls' := [some (13, 0), some (0, i), some (0, (k + (-1))), none, none]) ⟨Or.inl rfl, ⟨Or.inl rfl, ⟨Or.inl rfl, trivial⟩⟩⟩ ?_
            rw [l_X10_startQueued_12, if_neg c2, if_neg c5, if_neg c8, if_neg c12]
            exact ih i (k + (-1)) ((g_X10_startBrew (lget (c.2.2.1 4) i) (g_X10_firstClean 102 c) (clst c 4 (remL (c.2.2.1 4) i.toNat))).2) hok
def g_X10_startQueued (c : Cs) : Cs :=
  (l_X10_startQueued_12 fu 0 ((c.2.2.1 4).length : Int) c)
def ok_X10_startQueued (c : Cs) : Prop :=
  (okl_X10_startQueued_12 fu 0 ((c.2.2.1 4).length : Int) c)
theorem s_X10_startQueued {X : Cx} {ρ : Hp} {c : Cs} (hok : ok_X10_startQueued c) : Kc X ρ m_X10_startQueued 8 [(13, 0)] c (.inl none) (g_X10_startQueued c) := by
  refine Kc.of (by decide +kernel) rfl (Nat.le_of_ble_eq_true rfl) ?_
  rw [ok_X10_startQueued] at hok
  refine Ec.const dX10_startQueued_0 ?_
  refine Ec.istore_n (i := 1) dX10_startQueued_1 rfl (by decide) ?_
  refine Ec.aload_n (i := 0) dX10_startQueued_2 rfl rfl (Nat.le_of_ble_eq_true rfl) ?_
  refine Ec.gL (ci := 13) (k := 4) (t := 2) 4 (fun h _ => ⟨h.2.1.2.2.2.2.1, by decide⟩) rfl (by decide) rfl (by decide) (by decide) (tb1 (i := 188) rfl) (Or.inl rfl) rfl dX10_startQueued_3 ?_
  refine Ec.say (fun _ hL _ hs => ?_)
  have q14 : ((c.2.2.1 4).length : Int) ≤ 200 := hL _ (hs.hd.r ⟨Nat.le_of_ble_eq_true rfl, Nat.le_of_ble_eq_true rfl⟩).2.1 (hs.hd.r ⟨Nat.le_of_ble_eq_true rfl, Nat.le_of_ble_eq_true rfl⟩).2.2
  refine Ec.cf (as := []) kf_Jx4a65c_size_8abf5 (tb1 (i := 226) rfl) dX10_startQueued_6 rfl rfl (Nat.le_of_ble_eq_true rfl) (Nat.le_of_ble_eq_true rfl) kl_size ?_
  refine Ec.istore_n (i := 2) dX10_startQueued_11 rfl (by decide) ?_
  refine Ec.cnv (ls' := [some (13, 0), some (0, 0), some (0, ((c.2.2.1 4).length : Int)), none, none]) ⟨Or.inl rfl, ⟨Or.inl rfl, ⟨Or.inl rfl, trivial⟩⟩⟩ ?_
  rw [g_X10_startQueued]
  exact s_l_X10_startQueued_12   fu 0 ((c.2.2.1 4).length : Int) c hok
def g_X10_passOneDay (c : Cs) : Int × Cs :=
  ((g_X10_fillOrders (g_X10_moveWaitingBrews (g_X10_ageBrews (g_X10_continueCleaning (cput c 13 11 0 ((c.2.1 13 11 0) + 1)))))).1, (g_X10_startQueued (g_X10_beginCleaning ((g_X10_fillOrders (g_X10_moveWaitingBrews (g_X10_ageBrews (g_X10_continueCleaning (cput c 13 11 0 ((c.2.1 13 11 0) + 1)))))).2))))
def ok_X10_passOneDay (c : Cs) : Prop :=
  ok_X10_continueCleaning (cput c 13 11 0 ((c.2.1 13 11 0) + 1)) ∧ (
    ok_X10_ageBrews (g_X10_continueCleaning (cput c 13 11 0 ((c.2.1 13 11 0) + 1))) ∧ (
      ok_X10_moveWaitingBrews (g_X10_ageBrews (g_X10_continueCleaning (cput c 13 11 0 ((c.2.1 13 11 0) + 1)))) ∧ (
        ok_X10_fillOrders (g_X10_moveWaitingBrews (g_X10_ageBrews (g_X10_continueCleaning (cput c 13 11 0 ((c.2.1 13 11 0) + 1))))) ∧ (
          ok_X10_beginCleaning ((g_X10_fillOrders (g_X10_moveWaitingBrews (g_X10_ageBrews (g_X10_continueCleaning (cput c 13 11 0 ((c.2.1 13 11 0) + 1)))))).2) ∧ (
            ok_X10_startQueued (g_X10_beginCleaning ((g_X10_fillOrders (g_X10_moveWaitingBrews (g_X10_ageBrews (g_X10_continueCleaning (cput c 13 11 0 ((c.2.1 13 11 0) + 1)))))).2)) ∧ (
              True))))))
theorem s_X10_passOneDay {X : Cx} {ρ : Hp} {c : Cs} (hok : ok_X10_passOneDay c) : Kc X ρ m_X10_passOneDay 11 [(13, 0)] c (.inl (some (0, ((g_X10_passOneDay c)).1))) ((g_X10_passOneDay c)).2 := by
  refine Kc.of (by decide +kernel) rfl (Nat.le_of_ble_eq_true rfl) ?_
  rw [ok_X10_passOneDay] at hok
  refine Ec.aload_n (i := 0) dX10_passOneDay_0 rfl rfl (Nat.le_of_ble_eq_true rfl) ?_
  refine Ec.dup dX10_passOneDay_1 ?_
  refine Ec.gI (ci := 13) (k := 11) (c.2.1 13 11 0) rfl rfl (by decide) (by decide) (tb1 (i := 195) rfl) (Or.inl rfl) rfl dX10_passOneDay_2 ?_
  refine Ec.const dX10_passOneDay_5 ?_
  refine Ec.add dX10_passOneDay_6 ?_
  refine Ec.pI (ci := 13) (k := 11) rfl rfl (by decide) (by decide) (tb1 (i := 195) rfl) (Or.inl rfl) (Or.inl rfl) rfl rfl rfl dX10_passOneDay_7 ?_
  refine Ec.aload_n (i := 0) dX10_passOneDay_10 rfl rfl (Nat.le_of_ble_eq_true rfl) ?_
  obtain ⟨o1, hok⟩ := hok
  refine Ec.cv (ci := 13) (as := []) k_X10_continueCleaning rfl (by decide) (tb5 (i := 190) rfl) ki_X10_continueCleaning kv_X10_continueCleaning dX10_passOneDay_11 rfl rfl (Nat.le_of_ble_eq_true rfl) (Nat.le_of_ble_eq_true rfl) (s_X10_continueCleaning o1) ?_
  refine Ec.aload_n (i := 0) dX10_passOneDay_14 rfl rfl (Nat.le_of_ble_eq_true rfl) ?_
  obtain ⟨o2, hok⟩ := hok
  refine Ec.cv (ci := 13) (as := []) k_X10_ageBrews rfl (by decide) (tb5 (i := 194) rfl) ki_X10_ageBrews kv_X10_ageBrews dX10_passOneDay_15 rfl rfl (Nat.le_of_ble_eq_true rfl) (Nat.le_of_ble_eq_true rfl) (s_X10_ageBrews o2) ?_
  refine Ec.aload_n (i := 0) dX10_passOneDay_18 rfl rfl (Nat.le_of_ble_eq_true rfl) ?_
  obtain ⟨o3, hok⟩ := hok
  refine Ec.cv (ci := 13) (as := []) k_X10_moveWaitingBrews rfl (by decide) (tb5 (i := 229) rfl) ki_X10_moveWaitingBrews kv_X10_moveWaitingBrews dX10_passOneDay_19 rfl rfl (Nat.le_of_ble_eq_true rfl) (Nat.le_of_ble_eq_true rfl) (s_X10_moveWaitingBrews o3) ?_
  refine Ec.aload_n (i := 0) dX10_passOneDay_22 rfl rfl (Nat.le_of_ble_eq_true rfl) ?_
  obtain ⟨o4, hok⟩ := hok
  refine Ec.cv (ci := 13) (as := []) k_X10_fillOrders rfl (by decide) (tb6 (i := 6) rfl) ki_X10_fillOrders kv_X10_fillOrders dX10_passOneDay_23 rfl rfl (Nat.le_of_ble_eq_true rfl) (Nat.le_of_ble_eq_true rfl) (s_X10_fillOrders o4) ?_
  refine Ec.istore_n (i := 1) dX10_passOneDay_26 rfl (by decide) ?_
  refine Ec.aload_n (i := 0) dX10_passOneDay_27 rfl rfl (Nat.le_of_ble_eq_true rfl) ?_
  obtain ⟨o5, hok⟩ := hok
  refine Ec.cv (ci := 13) (as := []) k_X10_beginCleaning rfl (by decide) (tb6 (i := 54) rfl) ki_X10_beginCleaning kv_X10_beginCleaning dX10_passOneDay_28 rfl rfl (Nat.le_of_ble_eq_true rfl) (Nat.le_of_ble_eq_true rfl) (s_X10_beginCleaning o5) ?_
  refine Ec.aload_n (i := 0) dX10_passOneDay_31 rfl rfl (Nat.le_of_ble_eq_true rfl) ?_
  obtain ⟨o6, hok⟩ := hok
  refine Ec.cv (ci := 13) (as := []) k_X10_startQueued rfl (by decide) (tb6 (i := 58) rfl) ki_X10_startQueued kv_X10_startQueued dX10_passOneDay_32 rfl rfl (Nat.le_of_ble_eq_true rfl) (Nat.le_of_ble_eq_true rfl) (s_X10_startQueued o6) ?_
  refine Ec.iload_n (i := 1) dX10_passOneDay_35 rfl rfl ?_
  exact Ec.iret rfl nar_i dX10_passOneDay_36 (by rw [g_X10_passOneDay]) (by rw [g_X10_passOneDay])
