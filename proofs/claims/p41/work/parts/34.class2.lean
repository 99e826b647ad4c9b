/-! the class: its planner, but for the search (written by wip/whole/mk33.py) -/
def l_X5_resetSlots_2 (d : Int) : Nat → Int → Cs → Cs
  | 0, i, c => c
  | n + 1, i, c =>
    if ((c.2.2.1 9).length : Int) ≤ i then
      c
    else
      (l_X5_resetSlots_2 d n (i + 1) (g_X7_reset (lget (c.2.2.1 9) i) d c))
def okl_X5_resetSlots_2 (d : Int) : Nat → Int → Cs → Prop
  | 0, i, c => False
  | n + 1, i, c =>
    R32 i ∧ (
      if ((c.2.2.1 9).length : Int) ≤ i then
        True
      else
        ((0 : Int) ≤ i ∧ i < ((c.2.2.1 9).length : Int)) ∧ (
          ok_X7_reset (lget (c.2.2.1 9) i) d c ∧ (
            (okl_X5_resetSlots_2 d n (i + 1) (g_X7_reset (lget (c.2.2.1 9) i) d c)))))
theorem s_l_X5_resetSlots_2 {X : Cx} {ρ : Hp} {d : Int} : ∀ (n : Nat) (i : Int) (c : Cs), okl_X5_resetSlots_2 d n i c → Ec X ρ m_X5_resetSlots 4 2 [some (8, 0), some (0, d), some (0, i)] [] c (.inl none) (l_X5_resetSlots_2 d n i c) := by
  intro n
  induction n with
  | zero =>
    intro i c hok
    exact False.elim hok
  | succ n ih =>
    intro i c hok
    rw [okl_X5_resetSlots_2] at hok
    refine Ec.iload_n (i := 2) dX5_resetSlots_2 rfl rfl ?_
    refine Ec.aload_n (i := 0) dX5_resetSlots_3 rfl rfl (Nat.le_of_ble_eq_true rfl) ?_
    refine Ec.gL (ci := 8) (k := 0) (t := 2) 9 (fun h _ => ⟨h.2.2.1.1, by decide⟩) rfl (by decide) rfl (by decide) (by decide) (tb1 (i := 78) rfl) (Or.inl rfl) rfl dX5_resetSlots_4 ?_
    refine Ec.say (fun _ hL _ hs => ?_)
    have q1 : ((c.2.2.1 9).length : Int) ≤ 200 := hL _ (hs.hd.r ⟨Nat.le_of_ble_eq_true rfl, Nat.le_of_ble_eq_true rfl⟩).2.1 (hs.hd.r ⟨Nat.le_of_ble_eq_true rfl, Nat.le_of_ble_eq_true rfl⟩).2.2
    refine Ec.cf (as := []) kf_Jx4a65c_size_8abf5 (tb3 (i := 210) rfl) dX5_resetSlots_7 rfl rfl (Nat.le_of_ble_eq_true rfl) (Nat.le_of_ble_eq_true rfl) kl_size ?_
    obtain ⟨o2, hok⟩ := hok
    by_cases c3 : ((c.2.2.1 9).length : Int) ≤ i
    · rw [if_pos c3] at hok
      refine Ec.icmp_ge_t (tgt := 38) dX5_resetSlots_12 (by decide) o2 ⟨by omega, by omega⟩ c3 ?_
      exact Ec.vret rfl dX5_resetSlots_38 rfl (by rw [l_X5_resetSlots_2, if_pos c3])
    · rw [if_neg c3] at hok
      refine Ec.icmp_ge_f (tgt := 38) dX5_resetSlots_12 (by decide) o2 ⟨by omega, by omega⟩ c3 ?_
      refine Ec.aload_n (i := 0) dX5_resetSlots_15 rfl rfl (Nat.le_of_ble_eq_true rfl) ?_
      refine Ec.gL (ci := 8) (k := 0) (t := 2) 9 (fun h _ => ⟨h.2.2.1.1, by decide⟩) rfl (by decide) rfl (by decide) (by decide) (tb1 (i := 78) rfl) (Or.inl rfl) rfl dX5_resetSlots_16 ?_
      refine Ec.iload_n (i := 2) dX5_resetSlots_19 rfl rfl ?_
      obtain ⟨o4, hok⟩ := hok
      refine Ec.cf (as := [(0, i)]) kf_Jx4a65c_get_915e3 (tb3 (i := 212) rfl) dX5_resetSlots_20 rfl rfl (Nat.le_of_ble_eq_true rfl) (Nat.le_of_ble_eq_true rfl) (kl_get rfl o4) ?_
      refine Ec.cast (ci := 10) rfl (by decide) (tb3 (i := 213) rfl) dX5_resetSlots_25 ?_
      refine Ec.iload_n (i := 1) dX5_resetSlots_28 rfl rfl ?_
      obtain ⟨o5, hok⟩ := hok
      refine Ec.cv (ci := 10) (as := [(0, d)]) k_X7_reset rfl (by decide) (tb3 (i := 214) rfl) ki_X7_reset kv_X7_reset dX5_resetSlots_29 rfl rfl (Nat.le_of_ble_eq_true rfl) (Nat.le_of_ble_eq_true rfl) (s_X7_reset o5) ?_
      refine Ec.inc dX5_resetSlots_32 rfl (by decide) ?_
      refine Ec.goto (tgt := 2) dX5_resetSlots_35 (by decide) ?_
      refine Ec.cnv (ls' := [some (8, 0), some (0, d), some (0, (i + 1))]) ⟨Or.inl rfl, ⟨Or.inl rfl, ⟨Or.inl rfl, trivial⟩⟩⟩ ?_
      rw [l_X5_resetSlots_2, if_neg c3]
      exact ih (i + 1) (g_X7_reset (lget (c.2.2.1 9) i) d c) hok
def g_X5_resetSlots (d : Int) (c : Cs) : Cs :=
  (l_X5_resetSlots_2 d fu 0 c)
def ok_X5_resetSlots (d : Int) (c : Cs) : Prop :=
  (okl_X5_resetSlots_2 d fu 0 c)
theorem s_X5_resetSlots {X : Cx} {ρ : Hp} {d : Int} {c : Cs} (hok : ok_X5_resetSlots d c) : Kc X ρ m_X5_resetSlots 4 [(8, 0), (0, d)] c (.inl none) (g_X5_resetSlots d c) := by
  refine Kc.of (by decide +kernel) rfl (Nat.le_of_ble_eq_true rfl) ?_
  rw [ok_X5_resetSlots] at hok
  refine Ec.const dX5_resetSlots_0 ?_
  refine Ec.istore_n (i := 2) dX5_resetSlots_1 rfl (by decide) ?_
  refine Ec.cnv (ls' := [some (8, 0), some (0, d), some (0, 0)]) ⟨Or.inl rfl, ⟨Or.inl rfl, ⟨Or.inl rfl, trivial⟩⟩⟩ ?_
  rw [g_X5_resetSlots]
  exact s_l_X5_resetSlots_2 (d := d)  fu 0 c hok
def l_X5_firstFree_4 (c : Cs) : Nat → Int → Int → Int
  | 0, f, i => 0
  | n + 1, f, i =>
    if ((c.2.2.1 9).length : Int) ≤ i then
      f
    else
      if f = -1 then
        (l_X5_firstFree_4  c n (lget (c.2.2.1 9) i) (i + 1))
      else
        if (c.2.1 10 1 f) ≤ (c.2.1 10 1 (lget (c.2.2.1 9) i)) then
          (l_X5_firstFree_4  c n f (i + 1))
        else
          (l_X5_firstFree_4  c n (lget (c.2.2.1 9) i) (i + 1))
def okl_X5_firstFree_4 (c : Cs) : Nat → Int → Int → Prop
  | 0, f, i => False
  | n + 1, f, i =>
    R32 i ∧ (
      if ((c.2.2.1 9).length : Int) ≤ i then
        True
      else
        ((0 : Int) ≤ i ∧ i < ((c.2.2.1 9).length : Int)) ∧ (
          if f = -1 then
            (okl_X5_firstFree_4  c n (lget (c.2.2.1 9) i) (i + 1))
          else
            R32 (c.2.1 10 1 (lget (c.2.2.1 9) i)) ∧ (
              R32 (c.2.1 10 1 f) ∧ (
                if (c.2.1 10 1 f) ≤ (c.2.1 10 1 (lget (c.2.2.1 9) i)) then
                  (okl_X5_firstFree_4  c n f (i + 1))
                else
                  (okl_X5_firstFree_4  c n (lget (c.2.2.1 9) i) (i + 1))))))
theorem s_l_X5_firstFree_4 {X : Cx} {ρ : Hp} {c : Cs} : ∀ (n : Nat) (f i : Int), okl_X5_firstFree_4 c n f i → Ec X ρ m_X5_firstFree 4 4 [some (8, 0), some (110, f), some (0, i), none] [] c (.inl (some (110, (l_X5_firstFree_4 c n f i)))) c := by
  intro n
  induction n with
  | zero =>
    intro f i hok
    exact False.elim hok
  | succ n ih =>
    intro f i hok
    rw [okl_X5_firstFree_4] at hok
    refine Ec.iload_n (i := 2) dX5_firstFree_4 rfl rfl ?_
    refine Ec.aload_n (i := 0) dX5_firstFree_5 rfl rfl (Nat.le_of_ble_eq_true rfl) ?_
    refine Ec.gL (ci := 8) (k := 0) (t := 2) 9 (fun h _ => ⟨h.2.2.1.1, by decide⟩) rfl (by decide) rfl (by decide) (by decide) (tb1 (i := 78) rfl) (Or.inl rfl) rfl dX5_firstFree_6 ?_
    refine Ec.say (fun _ hL _ hs => ?_)
    have q1 : ((c.2.2.1 9).length : Int) ≤ 200 := hL _ (hs.hd.r ⟨Nat.le_of_ble_eq_true rfl, Nat.le_of_ble_eq_true rfl⟩).2.1 (hs.hd.r ⟨Nat.le_of_ble_eq_true rfl, Nat.le_of_ble_eq_true rfl⟩).2.2
    refine Ec.cf (as := []) kf_Jx4a65c_size_8abf5 (tb3 (i := 210) rfl) dX5_firstFree_9 rfl rfl (Nat.le_of_ble_eq_true rfl) (Nat.le_of_ble_eq_true rfl) kl_size ?_
    obtain ⟨o2, hok⟩ := hok
    by_cases c3 : ((c.2.2.1 9).length : Int) ≤ i
    · rw [if_pos c3] at hok
      refine Ec.icmp_ge_t (tgt := 54) dX5_firstFree_14 (by decide) o2 ⟨by omega, by omega⟩ c3 ?_
      refine Ec.aload_n (i := 1) dX5_firstFree_54 rfl rfl (Nat.le_of_ble_eq_true rfl) ?_
      exact Ec.aret (Nat.le_of_ble_eq_true rfl) rfl rfl dX5_firstFree_55 (by rw [l_X5_firstFree_4, if_pos c3]) rfl
    · rw [if_neg c3] at hok
      refine Ec.icmp_ge_f (tgt := 54) dX5_firstFree_14 (by decide) o2 ⟨by omega, by omega⟩ c3 ?_
      refine Ec.aload_n (i := 0) dX5_firstFree_17 rfl rfl (Nat.le_of_ble_eq_true rfl) ?_
      refine Ec.gL (ci := 8) (k := 0) (t := 2) 9 (fun h _ => ⟨h.2.2.1.1, by decide⟩) rfl (by decide) rfl (by decide) (by decide) (tb1 (i := 78) rfl) (Or.inl rfl) rfl dX5_firstFree_18 ?_
      refine Ec.iload_n (i := 2) dX5_firstFree_21 rfl rfl ?_
      obtain ⟨o4, hok⟩ := hok
      refine Ec.cf (as := [(0, i)]) kf_Jx4a65c_get_915e3 (tb3 (i := 212) rfl) dX5_firstFree_22 rfl rfl (Nat.le_of_ble_eq_true rfl) (Nat.le_of_ble_eq_true rfl) (kl_get rfl o4) ?_
      refine Ec.cast (ci := 10) rfl (by decide) (tb3 (i := 213) rfl) dX5_firstFree_27 ?_
      refine Ec.astore_n (i := 3) dX5_firstFree_30 rfl (by decide) (Nat.le_of_ble_eq_true rfl) ?_
      refine Ec.aload_n (i := 1) dX5_firstFree_31 rfl rfl (Nat.le_of_ble_eq_true rfl) ?_
      by_cases c5 : f = -1
      · rw [if_pos c5] at hok
        refine Ec.ifnull_t (t := 10) (tgt := 46) dX5_firstFree_32 (by decide) c5 ?_
        refine Ec.aload_n (i := 3) dX5_firstFree_46 rfl rfl (Nat.le_of_ble_eq_true rfl) ?_
        refine Ec.astore_n (i := 1) dX5_firstFree_47 rfl (by decide) (Nat.le_of_ble_eq_true rfl) ?_
        refine Ec.inc dX5_firstFree_48 rfl (by decide) ?_
        refine Ec.goto (tgt := 4) dX5_firstFree_51 (by decide) ?_
        refine Ec.cnv (ls' := [some (8, 0), some (110, (lget (c.2.2.1 9) i)), some (0, (i + 1)), none]) ⟨Or.inl rfl, ⟨Or.inr ⟨10, _, by decide, by decide, rfl, rfl⟩, ⟨Or.inl rfl, trivial⟩⟩⟩ ?_
        rw [l_X5_firstFree_4, if_neg c3, if_pos c5]
        exact ih (lget (c.2.2.1 9) i) (i + 1) hok
      · rw [if_neg c5] at hok
        refine Ec.ifnull_f (t := 10) (tgt := 46) dX5_firstFree_32 (by decide) c5 ?_
        refine Ec.nn (i := 1) (t := 10) rfl c5 (by decide) ?_
        refine Ec.aload_n (i := 3) dX5_firstFree_35 rfl rfl (Nat.le_of_ble_eq_true rfl) ?_
        refine Ec.gI (ci := 10) (k := 1) (c.2.1 10 1 (lget (c.2.2.1 9) i)) rfl rfl (by decide) (by decide) (tb2 (i := 208) rfl) (Or.inl rfl) rfl dX5_firstFree_36 ?_
        refine Ec.aload_n (i := 1) dX5_firstFree_39 rfl rfl (Nat.le_of_ble_eq_true rfl) ?_
        refine Ec.gI (ci := 10) (k := 1) (c.2.1 10 1 f) rfl rfl (by decide) (by decide) (tb2 (i := 208) rfl) (Or.inl rfl) rfl dX5_firstFree_40 ?_
        obtain ⟨o6, hok⟩ := hok
        obtain ⟨o7, hok⟩ := hok
        by_cases c8 : (c.2.1 10 1 f) ≤ (c.2.1 10 1 (lget (c.2.2.1 9) i))
        · rw [if_pos c8] at hok
          refine Ec.icmp_ge_t (tgt := 48) dX5_firstFree_43 (by decide) o6 o7 c8 ?_
          refine Ec.inc dX5_firstFree_48 rfl (by decide) ?_
          refine Ec.goto (tgt := 4) dX5_firstFree_51 (by decide) ?_
          refine Ec.cnv (ls' := [some (8, 0), some (110, f), some (0, (i + 1)), none]) ⟨Or.inl rfl, ⟨Or.inr ⟨10, _, by decide, by decide, rfl, rfl⟩, ⟨Or.inl rfl, trivial⟩⟩⟩ ?_
          rw [l_X5_firstFree_4, if_neg c3, if_neg c5, if_pos c8]
          exact ih f (i + 1) hok
        · rw [if_neg c8] at hok
          refine Ec.icmp_ge_f (tgt := 48) dX5_firstFree_43 (by decide) o6 o7 c8 ?_
          refine Ec.aload_n (i := 3) dX5_firstFree_46 rfl rfl (Nat.le_of_ble_eq_true rfl) ?_
          refine Ec.astore_n (i := 1) dX5_firstFree_47 rfl (by decide) (Nat.le_of_ble_eq_true rfl) ?_
          refine Ec.inc dX5_firstFree_48 rfl (by decide) ?_
          refine Ec.goto (tgt := 4) dX5_firstFree_51 (by decide) ?_
          refine Ec.cnv (ls' := [some (8, 0), some (110, (lget (c.2.2.1 9) i)), some (0, (i + 1)), none]) ⟨Or.inl rfl, ⟨Or.inr ⟨10, _, by decide, by decide, rfl, rfl⟩, ⟨Or.inl rfl, trivial⟩⟩⟩ ?_
          rw [l_X5_firstFree_4, if_neg c3, if_neg c5, if_neg c8]
          exact ih (lget (c.2.2.1 9) i) (i + 1) hok
def g_X5_firstFree (c : Cs) : Int :=
  (l_X5_firstFree_4 c fu (-1) 0)
def ok_X5_firstFree (c : Cs) : Prop :=
  (okl_X5_firstFree_4 c fu (-1) 0)
theorem s_X5_firstFree {X : Cx} {ρ : Hp} {c : Cs} (hok : ok_X5_firstFree c) : Kc X ρ m_X5_firstFree 4 [(8, 0)] c (.inl (some (110, (g_X5_firstFree c)))) c := by
  refine Kc.of (by decide +kernel) rfl (Nat.le_of_ble_eq_true rfl) ?_
  rw [ok_X5_firstFree] at hok
  refine Ec.null (t := 10) dX5_firstFree_0 ?_
  refine Ec.astore_n (i := 1) dX5_firstFree_1 rfl (by decide) (Nat.le_of_ble_eq_true rfl) ?_
  refine Ec.const dX5_firstFree_2 ?_
  refine Ec.istore_n (i := 2) dX5_firstFree_3 rfl (by decide) ?_
  refine Ec.cnv (ls' := [some (8, 0), some (110, (-1)), some (0, 0), none]) ⟨Or.inl rfl, ⟨Or.inl rfl, ⟨Or.inl rfl, trivial⟩⟩⟩ ?_
  rw [g_X5_firstFree]
  exact s_l_X5_firstFree_4  (c := c)  fu (-1) 0 hok
def l_X5_forecastOf_10 (l : Int) : Nat → Int → Int → Cs → Int × Cs
  | 0, u, i, c => (0, c)
  | n + 1, u, i, c =>
    if ((c.2.2.1 l).length : Int) ≤ i then
      (u, c)
    else
      if (g_X5_firstFree c) = -1 then
        (l_X5_forecastOf_10 l n u (i + 1) c)
      else
        (l_X5_forecastOf_10 l n (if u < (g_X7_plan (g_X5_firstFree c) (lget (c.2.2.1 l) i) c).1 then (g_X7_plan (g_X5_firstFree c) (lget (c.2.2.1 l) i) c).1 else u) (i + 1) ((g_X7_plan (g_X5_firstFree c) (lget (c.2.2.1 l) i) c).2))
def okl_X5_forecastOf_10 (l : Int) : Nat → Int → Int → Cs → Prop
  | 0, u, i, c => False
  | n + 1, u, i, c =>
    R32 i ∧ (
      if ((c.2.2.1 l).length : Int) ≤ i then
        True
      else
        ok_X5_firstFree c ∧ (
          if (g_X5_firstFree c) = -1 then
            (okl_X5_forecastOf_10 l n u (i + 1) c)
          else
            tel l = 9 ∧ (
              ((0 : Int) ≤ i ∧ i < ((c.2.2.1 l).length : Int)) ∧ (
                ok_X7_plan (g_X5_firstFree c) (lget (c.2.2.1 l) i) c ∧ (
                  R32 u ∧ (
                    R32 ((g_X7_plan (g_X5_firstFree c) (lget (c.2.2.1 l) i) c).1) ∧ (
                      (okl_X5_forecastOf_10 l n (if u < (g_X7_plan (g_X5_firstFree c) (lget (c.2.2.1 l) i) c).1 then (g_X7_plan (g_X5_firstFree c) (lget (c.2.2.1 l) i) c).1 else u) (i + 1) ((g_X7_plan (g_X5_firstFree c) (lget (c.2.2.1 l) i) c).2)))))))))
theorem s_l_X5_forecastOf_10 {X : Cx} {ρ : Hp} {l : Int} : ∀ (n : Nat) (u i : Int) (c : Cs), okl_X5_forecastOf_10 l n u i c → Ec X ρ m_X5_forecastOf 5 10 [some (8, 0), some (2, l), none, some (0, u), some (0, i), none] [] c (.inl (some (0, ((l_X5_forecastOf_10 l n u i c)).1))) ((l_X5_forecastOf_10 l n u i c)).2 := by
  intro n
  induction n with
  | zero =>
    intro u i c hok
    exact False.elim hok
  | succ n ih =>
    intro u i c hok
    rw [okl_X5_forecastOf_10] at hok
    refine Ec.iload dX5_forecastOf_10 rfl ?_
    refine Ec.aload_n (i := 1) dX5_forecastOf_12 rfl rfl (Nat.le_of_ble_eq_true rfl) ?_
    refine Ec.say (fun _ hL _ hs => ?_)
    have q1 : ((c.2.2.1 l).length : Int) ≤ 200 := hL _ (hs.hd.r ⟨Nat.le_of_ble_eq_true rfl, Nat.le_of_ble_eq_true rfl⟩).2.1 (hs.hd.r ⟨Nat.le_of_ble_eq_true rfl, Nat.le_of_ble_eq_true rfl⟩).2.2
    refine Ec.cf (as := []) kf_Jx4a65c_size_8abf5 (tb3 (i := 210) rfl) dX5_forecastOf_13 rfl rfl (Nat.le_of_ble_eq_true rfl) (Nat.le_of_ble_eq_true rfl) kl_size ?_
    obtain ⟨o2, hok⟩ := hok
    by_cases c3 : ((c.2.2.1 l).length : Int) ≤ i
    · rw [if_pos c3] at hok
      refine Ec.icmp_ge_t (tgt := 59) dX5_forecastOf_18 (by decide) o2 ⟨by omega, by omega⟩ c3 ?_
      refine Ec.iload_n (i := 3) dX5_forecastOf_59 rfl rfl ?_
      exact Ec.iret rfl nar_i dX5_forecastOf_60 (by rw [l_X5_forecastOf_10, if_pos c3]) (by rw [l_X5_forecastOf_10, if_pos c3])
    · rw [if_neg c3] at hok
      refine Ec.icmp_ge_f (tgt := 59) dX5_forecastOf_18 (by decide) o2 ⟨by omega, by omega⟩ c3 ?_
      refine Ec.aload_n (i := 0) dX5_forecastOf_21 rfl rfl (Nat.le_of_ble_eq_true rfl) ?_
      obtain ⟨o4, hok⟩ := hok
      refine Ec.cv (ci := 8) (as := []) k_X5_firstFree rfl (by decide) (tb3 (i := 222) rfl) ki_X5_firstFree kv_X5_firstFree dX5_forecastOf_22 rfl rfl (Nat.le_of_ble_eq_true rfl) (Nat.le_of_ble_eq_true rfl) (s_X5_firstFree o4) ?_
      refine Ec.astore dX5_forecastOf_25 (by decide) (Nat.le_of_ble_eq_true rfl) ?_
      refine Ec.aload dX5_forecastOf_27 rfl (Nat.le_of_ble_eq_true rfl) ?_
      by_cases c5 : (g_X5_firstFree c) = -1
      · rw [if_pos c5] at hok
        refine Ec.ifnull_t (t := 10) (tgt := 53) dX5_forecastOf_29 (by decide) c5 ?_
        refine Ec.inc dX5_forecastOf_53 rfl (by decide) ?_
        refine Ec.goto (tgt := 10) dX5_forecastOf_56 (by decide) ?_
        refine Ec.cnv (ls' := [some (8, 0), some (2, l), none, some (0, u), some (0, (i + 1)), none]) ⟨Or.inl rfl, ⟨Or.inl rfl, ⟨Or.inl rfl, ⟨Or.inl rfl, trivial⟩⟩⟩⟩ ?_
        rw [l_X5_forecastOf_10, if_neg c3, if_pos c5]
        exact ih u (i + 1) c hok
      · rw [if_neg c5] at hok
        refine Ec.ifnull_f (t := 10) (tgt := 53) dX5_forecastOf_29 (by decide) c5 ?_
        refine Ec.nn (i := 5) (t := 10) rfl c5 (by decide) ?_
        refine Ec.iload_n (i := 3) dX5_forecastOf_32 rfl rfl ?_
        refine Ec.aload dX5_forecastOf_33 rfl (Nat.le_of_ble_eq_true rfl) ?_
        refine Ec.aload_n (i := 1) dX5_forecastOf_35 rfl rfl (Nat.le_of_ble_eq_true rfl) ?_
        refine Ec.iload dX5_forecastOf_36 rfl ?_
        obtain ⟨o6, hok⟩ := hok
        obtain ⟨o7, hok⟩ := hok
        refine Ec.cf (as := [(0, i)]) kf_Jx4a65c_get_915e3 (tb3 (i := 212) rfl) dX5_forecastOf_38 rfl rfl (Nat.le_of_ble_eq_true rfl) (Nat.le_of_ble_eq_true rfl) (kl_get o6 o7) ?_
        refine Ec.cast (ci := 9) rfl (by decide) (tb3 (i := 226) rfl) dX5_forecastOf_43 ?_
        obtain ⟨o8, hok⟩ := hok
        refine Ec.cv (ci := 10) (as := [(9, (lget (c.2.2.1 l) i))]) k_X7_plan rfl (by decide) (tb3 (i := 227) rfl) ki_X7_plan kv_X7_plan dX5_forecastOf_46 rfl rfl (Nat.le_of_ble_eq_true rfl) (Nat.le_of_ble_eq_true rfl) (s_X7_plan o8) ?_
        obtain ⟨o9, hok⟩ := hok
        obtain ⟨o10, hok⟩ := hok
        refine Ec.max o9 o10 (tb3 (i := 232) rfl) (Nat.le_of_ble_eq_true rfl) (Nat.le_of_ble_eq_true rfl) dX5_forecastOf_49 ?_
        refine Ec.istore_n (i := 3) dX5_forecastOf_52 rfl (by decide) ?_
        refine Ec.inc dX5_forecastOf_53 rfl (by decide) ?_
        refine Ec.goto (tgt := 10) dX5_forecastOf_56 (by decide) ?_
        refine Ec.cnv (ls' := [some (8, 0), some (2, l), none, some (0, (if u < (g_X7_plan (g_X5_firstFree c) (lget (c.2.2.1 l) i) c).1 then (g_X7_plan (g_X5_firstFree c) (lget (c.2.2.1 l) i) c).1 else u)), some (0, (i + 1)), none]) ⟨Or.inl rfl, ⟨Or.inl rfl, ⟨Or.inl rfl, ⟨Or.inl rfl, trivial⟩⟩⟩⟩ ?_
        rw [l_X5_forecastOf_10, if_neg c3, if_neg c5]
        exact ih (if u < (g_X7_plan (g_X5_firstFree c) (lget (c.2.2.1 l) i) c).1 then (g_X7_plan (g_X5_firstFree c) (lget (c.2.2.1 l) i) c).1 else u) (i + 1) ((g_X7_plan (g_X5_firstFree c) (lget (c.2.2.1 l) i) c).2) hok
def g_X5_forecastOf (l d : Int) (c : Cs) : Int × Cs :=
  (l_X5_forecastOf_10 l fu d 0 (g_X5_resetSlots d c))
def ok_X5_forecastOf (l d : Int) (c : Cs) : Prop :=
  ok_X5_resetSlots d c ∧ (
    (okl_X5_forecastOf_10 l fu d 0 (g_X5_resetSlots d c)))
theorem s_X5_forecastOf {X : Cx} {ρ : Hp} {l d : Int} {c : Cs} (hok : ok_X5_forecastOf l d c) : Kc X ρ m_X5_forecastOf 5 [(8, 0), (2, l), (0, d)] c (.inl (some (0, ((g_X5_forecastOf l d c)).1))) ((g_X5_forecastOf l d c)).2 := by
  refine Kc.of (by decide +kernel) rfl (Nat.le_of_ble_eq_true rfl) ?_
  rw [ok_X5_forecastOf] at hok
  refine Ec.aload_n (i := 0) dX5_forecastOf_0 rfl rfl (Nat.le_of_ble_eq_true rfl) ?_
  refine Ec.iload_n (i := 2) dX5_forecastOf_1 rfl rfl ?_
  obtain ⟨o11, hok⟩ := hok
  refine Ec.cv (ci := 8) (as := [(0, d)]) k_X5_resetSlots rfl (by decide) (tb3 (i := 205) rfl) ki_X5_resetSlots kv_X5_resetSlots dX5_forecastOf_2 rfl rfl (Nat.le_of_ble_eq_true rfl) (Nat.le_of_ble_eq_true rfl) (s_X5_resetSlots o11) ?_
  refine Ec.iload_n (i := 2) dX5_forecastOf_5 rfl rfl ?_
  refine Ec.istore_n (i := 3) dX5_forecastOf_6 rfl (by decide) ?_
  refine Ec.const dX5_forecastOf_7 ?_
  refine Ec.istore dX5_forecastOf_8 (by decide) ?_
  refine Ec.cnv (ls' := [some (8, 0), some (2, l), none, some (0, d), some (0, 0), none]) ⟨Or.inl rfl, ⟨Or.inl rfl, ⟨Or.inl rfl, ⟨Or.inl rfl, trivial⟩⟩⟩⟩ ?_
  rw [g_X5_forecastOf]
  exact s_l_X5_forecastOf_10 (l := l)  fu d 0 (g_X5_resetSlots d c) hok
def g_X5_swap (k i j : Int) (c : Cs) : Cs :=
  (clst (clst c k ((c.2.2.1 k).set i.toNat (lget (c.2.2.1 k) j))) k (((clst c k ((c.2.2.1 k).set i.toNat (lget (c.2.2.1 k) j))).2.2.1 k).set j.toNat (lget (c.2.2.1 k) i)))
def ok_X5_swap (k i j : Int) (c : Cs) : Prop :=
  tel k = 9 ∧ (
    ((0 : Int) ≤ i ∧ i < ((c.2.2.1 k).length : Int)) ∧ (
      ((0 : Int) ≤ j ∧ j < ((c.2.2.1 k).length : Int)) ∧ (
        ((0 : Int) ≤ j ∧ j < (((clst c k ((c.2.2.1 k).set i.toNat (lget (c.2.2.1 k) j))).2.2.1 k).length : Int)) ∧ (
          True))))
theorem s_X5_swap {X : Cx} {ρ : Hp} {k i j : Int} {c : Cs} (hok : ok_X5_swap k i j c) : Kc X ρ m_X5_swap 4 [(2, k), (0, i), (0, j)] c (.inl none) (g_X5_swap k i j c) := by
  refine Kc.of (by decide +kernel) rfl (Nat.le_of_ble_eq_true rfl) ?_
  rw [ok_X5_swap] at hok
  refine Ec.aload_n (i := 0) dX5_swap_0 rfl rfl (Nat.le_of_ble_eq_true rfl) ?_
  refine Ec.iload_n (i := 1) dX5_swap_1 rfl rfl ?_
  obtain ⟨o1, hok⟩ := hok
  obtain ⟨o2, hok⟩ := hok
  refine Ec.cf (as := [(0, i)]) kf_Jx4a65c_get_915e3 (tb3 (i := 212) rfl) dX5_swap_2 rfl rfl (Nat.le_of_ble_eq_true rfl) (Nat.le_of_ble_eq_true rfl) (kl_get o1 o2) ?_
  refine Ec.cast (ci := 9) rfl (by decide) (tb3 (i := 226) rfl) dX5_swap_7 ?_
  refine Ec.astore_n (i := 3) dX5_swap_10 rfl (by decide) (Nat.le_of_ble_eq_true rfl) ?_
  refine Ec.aload_n (i := 0) dX5_swap_11 rfl rfl (Nat.le_of_ble_eq_true rfl) ?_
  refine Ec.iload_n (i := 1) dX5_swap_12 rfl rfl ?_
  refine Ec.aload_n (i := 0) dX5_swap_13 rfl rfl (Nat.le_of_ble_eq_true rfl) ?_
  refine Ec.iload_n (i := 2) dX5_swap_14 rfl rfl ?_
  obtain ⟨o3, hok⟩ := hok
  refine Ec.cf (as := [(0, j)]) kf_Jx4a65c_get_915e3 (tb3 (i := 212) rfl) dX5_swap_15 rfl rfl (Nat.le_of_ble_eq_true rfl) (Nat.le_of_ble_eq_true rfl) (kl_get o1 o3) ?_
  refine Ec.cast (ci := 9) rfl (by decide) (tb3 (i := 226) rfl) dX5_swap_20 ?_
  refine Ec.cf (as := [(0, i), (9, (lget (c.2.2.1 k) j))]) (c1 := (clst c k ((c.2.2.1 k).set i.toNat (lget (c.2.2.1 k) j)))) kf_Jx4a65c_set_bcc79 (tb5 (i := 63) rfl) dX5_swap_23 rfl rfl (Nat.le_of_ble_eq_true rfl) (Nat.le_of_ble_eq_true rfl) (kl_set o1 (by decide) o2) ?_
  refine Ec.pop dX5_swap_28 ?_
  refine Ec.aload_n (i := 0) dX5_swap_29 rfl rfl (Nat.le_of_ble_eq_true rfl) ?_
  refine Ec.iload_n (i := 2) dX5_swap_30 rfl rfl ?_
  refine Ec.aload_n (i := 3) dX5_swap_31 rfl rfl (Nat.le_of_ble_eq_true rfl) ?_
  obtain ⟨o4, hok⟩ := hok
  refine Ec.cf (as := [(0, j), (9, (lget (c.2.2.1 k) i))]) (c1 := (clst (clst c k ((c.2.2.1 k).set i.toNat (lget (c.2.2.1 k) j))) k (((clst c k ((c.2.2.1 k).set i.toNat (lget (c.2.2.1 k) j))).2.2.1 k).set j.toNat (lget (c.2.2.1 k) i)))) kf_Jx4a65c_set_bcc79 (tb5 (i := 63) rfl) dX5_swap_32 rfl rfl (Nat.le_of_ble_eq_true rfl) (Nat.le_of_ble_eq_true rfl) (kl_set o1 (by decide) o4) ?_
  refine Ec.pop dX5_swap_37 ?_
  exact Ec.vret rfl dX5_swap_38 rfl (by rw [g_X5_swap])
def l_X5_copySorted_37 (l k i r : Int) (c : Cs) : Nat → Int → Int
  | 0, p => p
  | n + 1, p =>
    if p ≤ 0 then
      p
    else
      if (c.2.1 9 0 (lget (c.2.2.1 k) (p - 1))) ≤ (c.2.1 9 0 r) then
        p
      else
        (l_X5_copySorted_37 l k i r c n (p + (-1)))
def okl_X5_copySorted_37 (l k i r : Int) (c : Cs) : Nat → Int → Prop
  | 0, p => False
  | n + 1, p =>
    R32 p ∧ (
      if p ≤ 0 then
        True
      else
        tel k = 9 ∧ (
          ((0 : Int) ≤ (p - 1) ∧ (p - 1) < ((c.2.2.1 k).length : Int)) ∧ (
            R32 (c.2.1 9 0 (lget (c.2.2.1 k) (p - 1))) ∧ (
              R32 (c.2.1 9 0 r) ∧ (
                if (c.2.1 9 0 (lget (c.2.2.1 k) (p - 1))) ≤ (c.2.1 9 0 r) then
                  True
                else
                  (okl_X5_copySorted_37 l k i r c n (p + (-1))))))))
theorem s_l_X5_copySorted_37 {X : Cx} {ρ : Hp} {l k i r : Int} {c : Cs} {rr : Rr} {c' : Cs} : ∀ (n : Nat) (p : Int), okl_X5_copySorted_37 l k i r c n p → (Ec X ρ m_X5_copySorted 7 71 [some (2, l), some (2, k), some (0, i), some (9, r), some (0, (l_X5_copySorted_37 l k i r c n p))] [] c rr c' → Ec X ρ m_X5_copySorted 7 37 [some (2, l), some (2, k), some (0, i), some (9, r), some (0, p)] [] c rr c') := by
  intro n
  induction n with
  | zero =>
    intro p hok K
    exact False.elim hok
  | succ n ih =>
    intro p hok K
    rw [okl_X5_copySorted_37] at hok
    refine Ec.iload dX5_copySorted_37 rfl ?_
    obtain ⟨o1, hok⟩ := hok
    by_cases c2 : p ≤ 0
    · rw [if_pos c2] at hok
      refine Ec.if_le_t (tgt := 71) dX5_copySorted_39 (by decide) o1 c2 ?_
      rw [l_X5_copySorted_37, if_pos c2] at K
      refine Ec.cnv (ls' := [some (2, l), some (2, k), some (0, i), some (9, r), some (0, p)]) ⟨Or.inl rfl, ⟨Or.inl rfl, ⟨Or.inl rfl, ⟨Or.inl rfl, ⟨Or.inl rfl, trivial⟩⟩⟩⟩⟩ ?_
      exact K
    · rw [if_neg c2] at hok
      refine Ec.if_le_f (tgt := 71) dX5_copySorted_39 (by decide) o1 c2 ?_
      refine Ec.aload_n (i := 1) dX5_copySorted_42 rfl rfl (Nat.le_of_ble_eq_true rfl) ?_
      refine Ec.iload dX5_copySorted_43 rfl ?_
      refine Ec.const dX5_copySorted_45 ?_
      refine Ec.sub dX5_copySorted_46 ?_
      obtain ⟨o3, hok⟩ := hok
      obtain ⟨o4, hok⟩ := hok
      refine Ec.cf (as := [(0, (p - 1))]) kf_Jx4a65c_get_915e3 (tb3 (i := 212) rfl) dX5_copySorted_47 rfl rfl (Nat.le_of_ble_eq_true rfl) (Nat.le_of_ble_eq_true rfl) (kl_get o3 o4) ?_
      refine Ec.cast (ci := 9) rfl (by decide) (tb3 (i := 226) rfl) dX5_copySorted_52 ?_
      refine Ec.gI (ci := 9) (k := 0) (c.2.1 9 0 (lget (c.2.2.1 k) (p - 1))) rfl rfl (by decide) (by decide) (tb2 (i := 139) rfl) (Or.inl rfl) rfl dX5_copySorted_55 ?_
      refine Ec.aload_n (i := 3) dX5_copySorted_58 rfl rfl (Nat.le_of_ble_eq_true rfl) ?_
      refine Ec.gI (ci := 9) (k := 0) (c.2.1 9 0 r) rfl rfl (by decide) (by decide) (tb2 (i := 139) rfl) (Or.inl rfl) rfl dX5_copySorted_59 ?_
      obtain ⟨o5, hok⟩ := hok
      obtain ⟨o6, hok⟩ := hok
      by_cases c7 : (c.2.1 9 0 (lget (c.2.2.1 k) (p - 1))) ≤ (c.2.1 9 0 r)
      · rw [if_pos c7] at hok
        refine Ec.icmp_le_t (tgt := 71) dX5_copySorted_62 (by decide) o5 o6 c7 ?_
        rw [l_X5_copySorted_37, if_neg c2, if_pos c7] at K
        refine Ec.cnv (ls' := [some (2, l), some (2, k), some (0, i), some (9, r), some (0, p)]) ⟨Or.inl rfl, ⟨Or.inl rfl, ⟨Or.inl rfl, ⟨Or.inl rfl, ⟨Or.inl rfl, trivial⟩⟩⟩⟩⟩ ?_
        exact K
      · rw [if_neg c7] at hok
        refine Ec.icmp_le_f (tgt := 71) dX5_copySorted_62 (by decide) o5 o6 c7 ?_
        refine Ec.inc dX5_copySorted_65 rfl (by decide) ?_
        refine Ec.goto (tgt := 37) dX5_copySorted_68 (by decide) ?_
        refine Ec.cnv (ls' := [some (2, l), some (2, k), some (0, i), some (9, r), some (0, (p + (-1)))]) ⟨Or.inl rfl, ⟨Or.inl rfl, ⟨Or.inl rfl, ⟨Or.inl rfl, ⟨Or.inl rfl, trivial⟩⟩⟩⟩⟩ ?_
        rw [l_X5_copySorted_37, if_neg c2, if_neg c7] at K
        exact ih (p + (-1)) hok K
def l_X5_copySorted_8 (l k : Int) : Nat → Int → Cs → Cs
  | 0, i, c => c
  | n + 1, i, c =>
    if ((c.2.2.1 l).length : Int) ≤ i then
      c
    else
      (l_X5_copySorted_8 l k n (i + 1) (clst c k (insL (c.2.2.1 k) (l_X5_copySorted_37 l k i (lget (c.2.2.1 l) i) c fu ((c.2.2.1 k).length : Int)).toNat (lget (c.2.2.1 l) i))))
def okl_X5_copySorted_8 (l k : Int) : Nat → Int → Cs → Prop
  | 0, i, c => False
  | n + 1, i, c =>
    R32 i ∧ (
      if ((c.2.2.1 l).length : Int) ≤ i then
        True
      else
        tel l = 9 ∧ (
          ((0 : Int) ≤ i ∧ i < ((c.2.2.1 l).length : Int)) ∧ (
            (okl_X5_copySorted_37 l k i (lget (c.2.2.1 l) i) c fu ((c.2.2.1 k).length : Int)) ∧ (
              tel k = 9 ∧ (
                ((c.2.2.1 k).length : Int) ≤ 199 ∧ (
                  ((0 : Int) ≤ (l_X5_copySorted_37 l k i (lget (c.2.2.1 l) i) c fu ((c.2.2.1 k).length : Int)) ∧ (l_X5_copySorted_37 l k i (lget (c.2.2.1 l) i) c fu ((c.2.2.1 k).length : Int)) ≤ ((c.2.2.1 k).length : Int)) ∧ (
                    (okl_X5_copySorted_8 l k n (i + 1) (clst c k (insL (c.2.2.1 k) (l_X5_copySorted_37 l k i (lget (c.2.2.1 l) i) c fu ((c.2.2.1 k).length : Int)).toNat (lget (c.2.2.1 l) i)))))))))))
theorem s_l_X5_copySorted_8 {X : Cx} {ρ : Hp} {l k : Int} : ∀ (n : Nat) (i : Int) (c : Cs), okl_X5_copySorted_8 l k n i c → Ec X ρ m_X5_copySorted 7 8 [some (2, l), some (2, k), some (0, i), none, none] [] c (.inl none) (l_X5_copySorted_8 l k n i c) := by
  intro n
  induction n with
  | zero =>
    intro i c hok
    exact False.elim hok
  | succ n ih =>
    intro i c hok
    rw [okl_X5_copySorted_8] at hok
    refine Ec.iload_n (i := 2) dX5_copySorted_8 rfl rfl ?_
    refine Ec.aload_n (i := 0) dX5_copySorted_9 rfl rfl (Nat.le_of_ble_eq_true rfl) ?_
    refine Ec.say (fun _ hL _ hs => ?_)
    have q8 : ((c.2.2.1 l).length : Int) ≤ 200 := hL _ (hs.hd.r ⟨Nat.le_of_ble_eq_true rfl, Nat.le_of_ble_eq_true rfl⟩).2.1 (hs.hd.r ⟨Nat.le_of_ble_eq_true rfl, Nat.le_of_ble_eq_true rfl⟩).2.2
    refine Ec.cf (as := []) kf_Jx4a65c_size_8abf5 (tb3 (i := 210) rfl) dX5_copySorted_10 rfl rfl (Nat.le_of_ble_eq_true rfl) (Nat.le_of_ble_eq_true rfl) kl_size ?_
    obtain ⟨o9, hok⟩ := hok
    by_cases c10 : ((c.2.2.1 l).length : Int) ≤ i
    · rw [if_pos c10] at hok
      refine Ec.icmp_ge_t (tgt := 86) dX5_copySorted_15 (by decide) o9 ⟨by omega, by omega⟩ c10 ?_
      exact Ec.vret rfl dX5_copySorted_86 rfl (by rw [l_X5_copySorted_8, if_pos c10])
    · rw [if_neg c10] at hok
      refine Ec.icmp_ge_f (tgt := 86) dX5_copySorted_15 (by decide) o9 ⟨by omega, by omega⟩ c10 ?_
      refine Ec.aload_n (i := 0) dX5_copySorted_18 rfl rfl (Nat.le_of_ble_eq_true rfl) ?_
      refine Ec.iload_n (i := 2) dX5_copySorted_19 rfl rfl ?_
      obtain ⟨o11, hok⟩ := hok
      obtain ⟨o12, hok⟩ := hok
      refine Ec.cf (as := [(0, i)]) kf_Jx4a65c_get_915e3 (tb3 (i := 212) rfl) dX5_copySorted_20 rfl rfl (Nat.le_of_ble_eq_true rfl) (Nat.le_of_ble_eq_true rfl) (kl_get o11 o12) ?_
      refine Ec.cast (ci := 9) rfl (by decide) (tb3 (i := 226) rfl) dX5_copySorted_25 ?_
      refine Ec.astore_n (i := 3) dX5_copySorted_28 rfl (by decide) (Nat.le_of_ble_eq_true rfl) ?_
      refine Ec.aload_n (i := 1) dX5_copySorted_29 rfl rfl (Nat.le_of_ble_eq_true rfl) ?_
      refine Ec.say (fun _ hL _ hs => ?_)
      have q13 : ((c.2.2.1 k).length : Int) ≤ 200 := hL _ (hs.hd.r ⟨Nat.le_of_ble_eq_true rfl, Nat.le_of_ble_eq_true rfl⟩).2.1 (hs.hd.r ⟨Nat.le_of_ble_eq_true rfl, Nat.le_of_ble_eq_true rfl⟩).2.2
      refine Ec.cf (as := []) kf_Jx4a65c_size_8abf5 (tb3 (i := 210) rfl) dX5_copySorted_30 rfl rfl (Nat.le_of_ble_eq_true rfl) (Nat.le_of_ble_eq_true rfl) kl_size ?_
      refine Ec.istore dX5_copySorted_35 (by decide) ?_
      refine Ec.cnv (ls' := [some (2, l), some (2, k), some (0, i), some (9, (lget (c.2.2.1 l) i)), some (0, ((c.2.2.1 k).length : Int))]) ⟨Or.inl rfl, ⟨Or.inl rfl, ⟨Or.inl rfl, ⟨Or.inl rfl, ⟨Or.inl rfl, trivial⟩⟩⟩⟩⟩ ?_
      obtain ⟨o14, hok⟩ := hok
      refine s_l_X5_copySorted_37 (l := l) (k := k) (i := i) (r := (lget (c.2.2.1 l) i)) (c := c)  fu ((c.2.2.1 k).length : Int) o14 ?_
      refine Ec.aload_n (i := 1) dX5_copySorted_71 rfl rfl (Nat.le_of_ble_eq_true rfl) ?_
      refine Ec.iload dX5_copySorted_72 rfl ?_
      refine Ec.aload_n (i := 3) dX5_copySorted_74 rfl rfl (Nat.le_of_ble_eq_true rfl) ?_
      obtain ⟨o15, hok⟩ := hok
      obtain ⟨o16, hok⟩ := hok
      obtain ⟨o17, hok⟩ := hok
      refine Ec.cf (as := [(0, (l_X5_copySorted_37 l k i (lget (c.2.2.1 l) i) c fu ((c.2.2.1 k).length : Int))), (9, (lget (c.2.2.1 l) i))]) (c1 := (clst c k (insL (c.2.2.1 k) (l_X5_copySorted_37 l k i (lget (c.2.2.1 l) i) c fu ((c.2.2.1 k).length : Int)).toNat (lget (c.2.2.1 l) i)))) kf_Jx4a65c_add_7a177 (tb4 (i := 18) rfl) dX5_copySorted_75 rfl rfl (Nat.le_of_ble_eq_true rfl) (Nat.le_of_ble_eq_true rfl) (kl_ins o15 o16 (by decide) o17) ?_
      refine Ec.inc dX5_copySorted_80 rfl (by decide) ?_
      refine Ec.goto (tgt := 8) dX5_copySorted_83 (by decide) ?_
      refine Ec.cnv (ls' := [some (2, l), some (2, k), some (0, (i + 1)), none, none]) ⟨Or.inl rfl, ⟨Or.inl rfl, ⟨Or.inl rfl, trivial⟩⟩⟩ ?_
      rw [l_X5_copySorted_8, if_neg c10]
      exact ih (i + 1) (clst c k (insL (c.2.2.1 k) (l_X5_copySorted_37 l k i (lget (c.2.2.1 l) i) c fu ((c.2.2.1 k).length : Int)).toNat (lget (c.2.2.1 l) i))) hok
def g_X5_copySorted (l k : Int) (c : Cs) : Cs :=
  (l_X5_copySorted_8 l k fu 0 (clst c k ([])))
def ok_X5_copySorted (l k : Int) (c : Cs) : Prop :=
  (okl_X5_copySorted_8 l k fu 0 (clst c k ([])))
theorem s_X5_copySorted {X : Cx} {ρ : Hp} {l k : Int} {c : Cs} (hok : ok_X5_copySorted l k c) : Kc X ρ m_X5_copySorted 7 [(2, l), (2, k)] c (.inl none) (g_X5_copySorted l k c) := by
  refine Kc.of (by decide +kernel) rfl (Nat.le_of_ble_eq_true rfl) ?_
  rw [ok_X5_copySorted] at hok
  refine Ec.aload_n (i := 1) dX5_copySorted_0 rfl rfl (Nat.le_of_ble_eq_true rfl) ?_
  refine Ec.cf (as := []) (c1 := (clst c k ([]))) kf_Jx4a65c_clear_da8c8 (tb4 (i := 9) rfl) dX5_copySorted_1 rfl rfl (Nat.le_of_ble_eq_true rfl) (Nat.le_of_ble_eq_true rfl) kl_clear ?_
  refine Ec.const dX5_copySorted_6 ?_
  refine Ec.istore_n (i := 2) dX5_copySorted_7 rfl (by decide) ?_
  refine Ec.cnv (ls' := [some (2, l), some (2, k), some (0, 0), none, none]) ⟨Or.inl rfl, ⟨Or.inl rfl, ⟨Or.inl rfl, trivial⟩⟩⟩ ?_
  rw [g_X5_copySorted]
  exact s_l_X5_copySorted_8 (l := l) (k := k)  fu 0 (clst c k ([])) hok
def l_X5_goToNextOrder_125 (k : Int) : Nat → Int → Int → Cs → Int × Cs
  | 0, y, x, c => (0, c)
  | n + 1, y, x, c =>
    if y ≤ x then
      (1, c)
    else
      (l_X5_goToNextOrder_125 k n (y + (-1)) (x + 1) (g_X5_swap k x y c))
def okl_X5_goToNextOrder_125 (k : Int) : Nat → Int → Int → Cs → Prop
  | 0, y, x, c => False
  | n + 1, y, x, c =>
    R32 x ∧ (
      R32 y ∧ (
        if y ≤ x then
          True
        else
          ok_X5_swap k x y c ∧ (
            (okl_X5_goToNextOrder_125 k n (y + (-1)) (x + 1) (g_X5_swap k x y c)))))
theorem s_l_X5_goToNextOrder_125 {X : Cx} {ρ : Hp} {k : Int} : ∀ (n : Nat) (y x : Int) (c : Cs), okl_X5_goToNextOrder_125 k n y x c → Ec X ρ m_X5_goToNextOrder 5 125 [some (2, k), none, none, some (0, y), some (0, x)] [] c (.inl (some (0, ((l_X5_goToNextOrder_125 k n y x c)).1))) ((l_X5_goToNextOrder_125 k n y x c)).2 := by
  intro n
  induction n with
  | zero =>
    intro y x c hok
    exact False.elim hok
  | succ n ih =>
    intro y x c hok
    rw [okl_X5_goToNextOrder_125] at hok
    refine Ec.iload dX5_goToNextOrder_125 rfl ?_
    refine Ec.iload_n (i := 3) dX5_goToNextOrder_127 rfl rfl ?_
    obtain ⟨o1, hok⟩ := hok
    obtain ⟨o2, hok⟩ := hok
    by_cases c3 : y ≤ x
    · rw [if_pos c3] at hok
      refine Ec.icmp_ge_t (tgt := 147) dX5_goToNextOrder_128 (by decide) o1 o2 c3 ?_
      refine Ec.const dX5_goToNextOrder_147 ?_
      exact Ec.iret rfl rfl dX5_goToNextOrder_148 (by rw [l_X5_goToNextOrder_125, if_pos c3]) (by rw [l_X5_goToNextOrder_125, if_pos c3])
    · rw [if_neg c3] at hok
      refine Ec.icmp_ge_f (tgt := 147) dX5_goToNextOrder_128 (by decide) o1 o2 c3 ?_
      refine Ec.aload_n (i := 0) dX5_goToNextOrder_131 rfl rfl (Nat.le_of_ble_eq_true rfl) ?_
      refine Ec.iload dX5_goToNextOrder_132 rfl ?_
      refine Ec.iload_n (i := 3) dX5_goToNextOrder_134 rfl rfl ?_
      obtain ⟨o4, hok⟩ := hok
      refine Ec.cs (as := [(2, k), (0, x), (0, y)]) k_X5_swap (tb5 (i := 59) rfl) ki_X5_swap dX5_goToNextOrder_135 rfl rfl (Nat.le_of_ble_eq_true rfl) (Nat.le_of_ble_eq_true rfl) (s_X5_swap o4) ?_
      refine Ec.inc dX5_goToNextOrder_138 rfl (by decide) ?_
      refine Ec.inc dX5_goToNextOrder_141 rfl (by decide) ?_
      refine Ec.goto (tgt := 125) dX5_goToNextOrder_144 (by decide) ?_
      refine Ec.cnv (ls' := [some (2, k), none, none, some (0, (y + (-1))), some (0, (x + 1))]) ⟨Or.inl rfl, ⟨Or.inl rfl, ⟨Or.inl rfl, trivial⟩⟩⟩ ?_
      rw [l_X5_goToNextOrder_125, if_neg c3]
      exact ih (y + (-1)) (x + 1) (g_X5_swap k x y c) hok
theorem r_l_X5_goToNextOrder_125 {k : Int} : ∀ (n : Nat) (y x : Int) (c : Cs), 0 ≤ (l_X5_goToNextOrder_125 k n y x c).1 ∧ (l_X5_goToNextOrder_125 k n y x c).1 ≤ 1 := by
  intro n
  induction n with
  | zero =>
    intro y x c
    exact ⟨Int.le_refl 0, Int.zero_le_ofNat 1⟩
  | succ n ih =>
    intro y x c
    rw [l_X5_goToNextOrder_125]
    repeat' split
    all_goals first | exact ih _ _ _ | exact ⟨Int.le_refl 0, Int.zero_le_ofNat 1⟩ | exact ⟨Int.zero_le_ofNat 1, Int.le_refl 1⟩
def l_X5_goToNextOrder_65 (k a : Int) (c : Cs) : Nat → Int → Int
  | 0, b => b
  | n + 1, b =>
    if b ≤ a then
      b
    else
      if (c.2.1 9 0 (lget (c.2.2.1 k) a)) < (c.2.1 9 0 (lget (c.2.2.1 k) b)) then
        b
      else
        (l_X5_goToNextOrder_65 k a c n (b + (-1)))
def okl_X5_goToNextOrder_65 (k a : Int) (c : Cs) : Nat → Int → Prop
  | 0, b => False
  | n + 1, b =>
    R32 b ∧ (
      R32 a ∧ (
        if b ≤ a then
          True
        else
          tel k = 9 ∧ (
            ((0 : Int) ≤ b ∧ b < ((c.2.2.1 k).length : Int)) ∧ (
              ((0 : Int) ≤ a ∧ a < ((c.2.2.1 k).length : Int)) ∧ (
                R32 (c.2.1 9 0 (lget (c.2.2.1 k) b)) ∧ (
                  R32 (c.2.1 9 0 (lget (c.2.2.1 k) a)) ∧ (
                    if (c.2.1 9 0 (lget (c.2.2.1 k) a)) < (c.2.1 9 0 (lget (c.2.2.1 k) b)) then
                      True
                    else
                      (okl_X5_goToNextOrder_65 k a c n (b + (-1))))))))))
theorem s_l_X5_goToNextOrder_65 {X : Cx} {ρ : Hp} {k a : Int} {c : Cs} {rr : Rr} {c' : Cs} : ∀ (n : Nat) (b : Int), okl_X5_goToNextOrder_65 k a c n b → (Ec X ρ m_X5_goToNextOrder 5 105 [some (2, k), some (0, a), some (0, (l_X5_goToNextOrder_65 k a c n b)), none, none] [] c rr c' → Ec X ρ m_X5_goToNextOrder 5 65 [some (2, k), some (0, a), some (0, b), none, none] [] c rr c') := by
  intro n
  induction n with
  | zero =>
    intro b hok K
    exact False.elim hok
  | succ n ih =>
    intro b hok K
    rw [okl_X5_goToNextOrder_65] at hok
    refine Ec.iload_n (i := 2) dX5_goToNextOrder_65 rfl rfl ?_
    refine Ec.iload_n (i := 1) dX5_goToNextOrder_66 rfl rfl ?_
    obtain ⟨o5, hok⟩ := hok
    obtain ⟨o6, hok⟩ := hok
    by_cases c7 : b ≤ a
    · rw [if_pos c7] at hok
      refine Ec.icmp_le_t (tgt := 105) dX5_goToNextOrder_67 (by decide) o5 o6 c7 ?_
      rw [l_X5_goToNextOrder_65, if_pos c7] at K
      refine Ec.cnv (ls' := [some (2, k), some (0, a), some (0, b), none, none]) ⟨Or.inl rfl, ⟨Or.inl rfl, ⟨Or.inl rfl, trivial⟩⟩⟩ ?_
      exact K
    · rw [if_neg c7] at hok
      refine Ec.icmp_le_f (tgt := 105) dX5_goToNextOrder_67 (by decide) o5 o6 c7 ?_
      refine Ec.aload_n (i := 0) dX5_goToNextOrder_70 rfl rfl (Nat.le_of_ble_eq_true rfl) ?_
      refine Ec.iload_n (i := 2) dX5_goToNextOrder_71 rfl rfl ?_
      obtain ⟨o8, hok⟩ := hok
      obtain ⟨o9, hok⟩ := hok
      refine Ec.cf (as := [(0, b)]) kf_Jx4a65c_get_915e3 (tb3 (i := 212) rfl) dX5_goToNextOrder_72 rfl rfl (Nat.le_of_ble_eq_true rfl) (Nat.le_of_ble_eq_true rfl) (kl_get o8 o9) ?_
      refine Ec.cast (ci := 9) rfl (by decide) (tb3 (i := 226) rfl) dX5_goToNextOrder_77 ?_
      refine Ec.gI (ci := 9) (k := 0) (c.2.1 9 0 (lget (c.2.2.1 k) b)) rfl rfl (by decide) (by decide) (tb2 (i := 139) rfl) (Or.inl rfl) rfl dX5_goToNextOrder_80 ?_
      refine Ec.aload_n (i := 0) dX5_goToNextOrder_83 rfl rfl (Nat.le_of_ble_eq_true rfl) ?_
      refine Ec.iload_n (i := 1) dX5_goToNextOrder_84 rfl rfl ?_
      obtain ⟨o10, hok⟩ := hok
      refine Ec.cf (as := [(0, a)]) kf_Jx4a65c_get_915e3 (tb3 (i := 212) rfl) dX5_goToNextOrder_85 rfl rfl (Nat.le_of_ble_eq_true rfl) (Nat.le_of_ble_eq_true rfl) (kl_get o8 o10) ?_
      refine Ec.cast (ci := 9) rfl (by decide) (tb3 (i := 226) rfl) dX5_goToNextOrder_90 ?_
      refine Ec.gI (ci := 9) (k := 0) (c.2.1 9 0 (lget (c.2.2.1 k) a)) rfl rfl (by decide) (by decide) (tb2 (i := 139) rfl) (Or.inl rfl) rfl dX5_goToNextOrder_93 ?_
      obtain ⟨o11, hok⟩ := hok
      obtain ⟨o12, hok⟩ := hok
      by_cases c13 : (c.2.1 9 0 (lget (c.2.2.1 k) a)) < (c.2.1 9 0 (lget (c.2.2.1 k) b))
      · rw [if_pos c13] at hok
        refine Ec.icmp_gt_t (tgt := 105) dX5_goToNextOrder_96 (by decide) o11 o12 c13 ?_
        rw [l_X5_goToNextOrder_65, if_neg c7, if_pos c13] at K
        refine Ec.cnv (ls' := [some (2, k), some (0, a), some (0, b), none, none]) ⟨Or.inl rfl, ⟨Or.inl rfl, ⟨Or.inl rfl, trivial⟩⟩⟩ ?_
        exact K
      · rw [if_neg c13] at hok
        refine Ec.icmp_gt_f (tgt := 105) dX5_goToNextOrder_96 (by decide) o11 o12 c13 ?_
        refine Ec.inc dX5_goToNextOrder_99 rfl (by decide) ?_
        refine Ec.goto (tgt := 65) dX5_goToNextOrder_102 (by decide) ?_
        refine Ec.cnv (ls' := [some (2, k), some (0, a), some (0, (b + (-1))), none, none]) ⟨Or.inl rfl, ⟨Or.inl rfl, ⟨Or.inl rfl, trivial⟩⟩⟩ ?_
        rw [l_X5_goToNextOrder_65, if_neg c7, if_neg c13] at K
        exact ih (b + (-1)) hok K
def l_X5_goToNextOrder_9 (k : Int) (c : Cs) : Nat → Int → Int
  | 0, a => a
  | n + 1, a =>
    if a < 0 then
      a
    else
      if (c.2.1 9 0 (lget (c.2.2.1 k) a)) < (c.2.1 9 0 (lget (c.2.2.1 k) (a + 1))) then
        a
      else
        (l_X5_goToNextOrder_9 k c n (a + (-1)))
def okl_X5_goToNextOrder_9 (k : Int) (c : Cs) : Nat → Int → Prop
  | 0, a => False
  | n + 1, a =>
    R32 a ∧ (
      if a < 0 then
        True
      else
        tel k = 9 ∧ (
          ((0 : Int) ≤ a ∧ a < ((c.2.2.1 k).length : Int)) ∧ (
            ((0 : Int) ≤ (a + 1) ∧ (a + 1) < ((c.2.2.1 k).length : Int)) ∧ (
              R32 (c.2.1 9 0 (lget (c.2.2.1 k) a)) ∧ (
                R32 (c.2.1 9 0 (lget (c.2.2.1 k) (a + 1))) ∧ (
                  if (c.2.1 9 0 (lget (c.2.2.1 k) a)) < (c.2.1 9 0 (lget (c.2.2.1 k) (a + 1))) then
                    True
                  else
                    (okl_X5_goToNextOrder_9 k c n (a + (-1)))))))))
theorem s_l_X5_goToNextOrder_9 {X : Cx} {ρ : Hp} {k : Int} {c : Cs} {rr : Rr} {c' : Cs} : ∀ (n : Nat) (a : Int), okl_X5_goToNextOrder_9 k c n a → (Ec X ρ m_X5_goToNextOrder 5 50 [some (2, k), some (0, (l_X5_goToNextOrder_9 k c n a)), none, none, none] [] c rr c' → Ec X ρ m_X5_goToNextOrder 5 9 [some (2, k), some (0, a), none, none, none] [] c rr c') := by
  intro n
  induction n with
  | zero =>
    intro a hok K
    exact False.elim hok
  | succ n ih =>
    intro a hok K
    rw [okl_X5_goToNextOrder_9] at hok
    refine Ec.iload_n (i := 1) dX5_goToNextOrder_9 rfl rfl ?_
    obtain ⟨o14, hok⟩ := hok
    by_cases c15 : a < 0
    · rw [if_pos c15] at hok
      refine Ec.if_lt_t (tgt := 50) dX5_goToNextOrder_10 (by decide) o14 c15 ?_
      rw [l_X5_goToNextOrder_9, if_pos c15] at K
      refine Ec.cnv (ls' := [some (2, k), some (0, a), none, none, none]) ⟨Or.inl rfl, ⟨Or.inl rfl, trivial⟩⟩ ?_
      exact K
    · rw [if_neg c15] at hok
      refine Ec.if_lt_f (tgt := 50) dX5_goToNextOrder_10 (by decide) o14 c15 ?_
      refine Ec.aload_n (i := 0) dX5_goToNextOrder_13 rfl rfl (Nat.le_of_ble_eq_true rfl) ?_
      refine Ec.iload_n (i := 1) dX5_goToNextOrder_14 rfl rfl ?_
      obtain ⟨o16, hok⟩ := hok
      obtain ⟨o17, hok⟩ := hok
      refine Ec.cf (as := [(0, a)]) kf_Jx4a65c_get_915e3 (tb3 (i := 212) rfl) dX5_goToNextOrder_15 rfl rfl (Nat.le_of_ble_eq_true rfl) (Nat.le_of_ble_eq_true rfl) (kl_get o16 o17) ?_
      refine Ec.cast (ci := 9) rfl (by decide) (tb3 (i := 226) rfl) dX5_goToNextOrder_20 ?_
      refine Ec.gI (ci := 9) (k := 0) (c.2.1 9 0 (lget (c.2.2.1 k) a)) rfl rfl (by decide) (by decide) (tb2 (i := 139) rfl) (Or.inl rfl) rfl dX5_goToNextOrder_23 ?_
      refine Ec.aload_n (i := 0) dX5_goToNextOrder_26 rfl rfl (Nat.le_of_ble_eq_true rfl) ?_
      refine Ec.iload_n (i := 1) dX5_goToNextOrder_27 rfl rfl ?_
      refine Ec.const dX5_goToNextOrder_28 ?_
      refine Ec.add dX5_goToNextOrder_29 ?_
      obtain ⟨o18, hok⟩ := hok
      refine Ec.cf (as := [(0, (a + 1))]) kf_Jx4a65c_get_915e3 (tb3 (i := 212) rfl) dX5_goToNextOrder_30 rfl rfl (Nat.le_of_ble_eq_true rfl) (Nat.le_of_ble_eq_true rfl) (kl_get o16 o18) ?_
      refine Ec.cast (ci := 9) rfl (by decide) (tb3 (i := 226) rfl) dX5_goToNextOrder_35 ?_
      refine Ec.gI (ci := 9) (k := 0) (c.2.1 9 0 (lget (c.2.2.1 k) (a + 1))) rfl rfl (by decide) (by decide) (tb2 (i := 139) rfl) (Or.inl rfl) rfl dX5_goToNextOrder_38 ?_
      obtain ⟨o19, hok⟩ := hok
      obtain ⟨o20, hok⟩ := hok
      by_cases c21 : (c.2.1 9 0 (lget (c.2.2.1 k) a)) < (c.2.1 9 0 (lget (c.2.2.1 k) (a + 1)))
      · rw [if_pos c21] at hok
        refine Ec.icmp_lt_t (tgt := 50) dX5_goToNextOrder_41 (by decide) o19 o20 c21 ?_
        rw [l_X5_goToNextOrder_9, if_neg c15, if_pos c21] at K
        refine Ec.cnv (ls' := [some (2, k), some (0, a), none, none, none]) ⟨Or.inl rfl, ⟨Or.inl rfl, trivial⟩⟩ ?_
        exact K
      · rw [if_neg c21] at hok
        refine Ec.icmp_lt_f (tgt := 50) dX5_goToNextOrder_41 (by decide) o19 o20 c21 ?_
        refine Ec.inc dX5_goToNextOrder_44 rfl (by decide) ?_
        refine Ec.goto (tgt := 9) dX5_goToNextOrder_47 (by decide) ?_
        refine Ec.cnv (ls' := [some (2, k), some (0, (a + (-1))), none, none, none]) ⟨Or.inl rfl, ⟨Or.inl rfl, trivial⟩⟩ ?_
        rw [l_X5_goToNextOrder_9, if_neg c15, if_neg c21] at K
        exact ih (a + (-1)) hok K
def g_X5_goToNextOrder (k : Int) (c : Cs) : Int × Cs :=
  if 0 ≤ (l_X5_goToNextOrder_9 k c fu (((c.2.2.1 k).length : Int) - 2)) then
    (l_X5_goToNextOrder_125 k fu ((((g_X5_swap k (l_X5_goToNextOrder_9 k c fu (((c.2.2.1 k).length : Int) - 2)) (l_X5_goToNextOrder_65 k (l_X5_goToNextOrder_9 k c fu (((c.2.2.1 k).length : Int) - 2)) c fu (((c.2.2.1 k).length : Int) - 1)) c).2.2.1 k).length : Int) - 1) ((l_X5_goToNextOrder_9 k c fu (((c.2.2.1 k).length : Int) - 2)) + 1) (g_X5_swap k (l_X5_goToNextOrder_9 k c fu (((c.2.2.1 k).length : Int) - 2)) (l_X5_goToNextOrder_65 k (l_X5_goToNextOrder_9 k c fu (((c.2.2.1 k).length : Int) - 2)) c fu (((c.2.2.1 k).length : Int) - 1)) c))
  else
    (0, c)
def ok_X5_goToNextOrder (k : Int) (c : Cs) : Prop :=
  (okl_X5_goToNextOrder_9 k c fu (((c.2.2.1 k).length : Int) - 2)) ∧ (
    R32 (l_X5_goToNextOrder_9 k c fu (((c.2.2.1 k).length : Int) - 2)) ∧ (
      if 0 ≤ (l_X5_goToNextOrder_9 k c fu (((c.2.2.1 k).length : Int) - 2)) then
        (okl_X5_goToNextOrder_65 k (l_X5_goToNextOrder_9 k c fu (((c.2.2.1 k).length : Int) - 2)) c fu (((c.2.2.1 k).length : Int) - 1)) ∧ (
          ok_X5_swap k (l_X5_goToNextOrder_9 k c fu (((c.2.2.1 k).length : Int) - 2)) (l_X5_goToNextOrder_65 k (l_X5_goToNextOrder_9 k c fu (((c.2.2.1 k).length : Int) - 2)) c fu (((c.2.2.1 k).length : Int) - 1)) c ∧ (
            (okl_X5_goToNextOrder_125 k fu ((((g_X5_swap k (l_X5_goToNextOrder_9 k c fu (((c.2.2.1 k).length : Int) - 2)) (l_X5_goToNextOrder_65 k (l_X5_goToNextOrder_9 k c fu (((c.2.2.1 k).length : Int) - 2)) c fu (((c.2.2.1 k).length : Int) - 1)) c).2.2.1 k).length : Int) - 1) ((l_X5_goToNextOrder_9 k c fu (((c.2.2.1 k).length : Int) - 2)) + 1) (g_X5_swap k (l_X5_goToNextOrder_9 k c fu (((c.2.2.1 k).length : Int) - 2)) (l_X5_goToNextOrder_65 k (l_X5_goToNextOrder_9 k c fu (((c.2.2.1 k).length : Int) - 2)) c fu (((c.2.2.1 k).length : Int) - 1)) c))))
      else
        True))
theorem s_X5_goToNextOrder {X : Cx} {ρ : Hp} {k : Int} {c : Cs} (hok : ok_X5_goToNextOrder k c) : Kc X ρ m_X5_goToNextOrder 5 [(2, k)] c (.inl (some (0, ((g_X5_goToNextOrder k c)).1))) ((g_X5_goToNextOrder k c)).2 := by
  refine Kc.of (by decide +kernel) rfl (Nat.le_of_ble_eq_true rfl) ?_
  rw [ok_X5_goToNextOrder] at hok
  refine Ec.aload_n (i := 0) dX5_goToNextOrder_0 rfl rfl (Nat.le_of_ble_eq_true rfl) ?_
  refine Ec.say (fun _ hL _ hs => ?_)
  have q22 : ((c.2.2.1 k).length : Int) ≤ 200 := hL _ (hs.hd.r ⟨Nat.le_of_ble_eq_true rfl, Nat.le_of_ble_eq_true rfl⟩).2.1 (hs.hd.r ⟨Nat.le_of_ble_eq_true rfl, Nat.le_of_ble_eq_true rfl⟩).2.2
  refine Ec.cf (as := []) kf_Jx4a65c_size_8abf5 (tb3 (i := 210) rfl) dX5_goToNextOrder_1 rfl rfl (Nat.le_of_ble_eq_true rfl) (Nat.le_of_ble_eq_true rfl) kl_size ?_
  refine Ec.const dX5_goToNextOrder_6 ?_
  refine Ec.sub dX5_goToNextOrder_7 ?_
  refine Ec.istore_n (i := 1) dX5_goToNextOrder_8 rfl (by decide) ?_
  refine Ec.cnv (ls' := [some (2, k), some (0, (((c.2.2.1 k).length : Int) - 2)), none, none, none]) ⟨Or.inl rfl, ⟨Or.inl rfl, trivial⟩⟩ ?_
  obtain ⟨o23, hok⟩ := hok
  refine s_l_X5_goToNextOrder_9 (k := k) (c := c)  fu (((c.2.2.1 k).length : Int) - 2) o23 ?_
  refine Ec.iload_n (i := 1) dX5_goToNextOrder_50 rfl rfl ?_
  obtain ⟨o24, hok⟩ := hok
  by_cases c25 : 0 ≤ (l_X5_goToNextOrder_9 k c fu (((c.2.2.1 k).length : Int) - 2))
  · rw [if_pos c25] at hok
    refine Ec.if_ge_t (tgt := 56) dX5_goToNextOrder_51 (by decide) o24 c25 ?_
    refine Ec.aload_n (i := 0) dX5_goToNextOrder_56 rfl rfl (Nat.le_of_ble_eq_true rfl) ?_
    refine Ec.cf (as := []) kf_Jx4a65c_size_8abf5 (tb3 (i := 210) rfl) dX5_goToNextOrder_57 rfl rfl (Nat.le_of_ble_eq_true rfl) (Nat.le_of_ble_eq_true rfl) kl_size ?_
    refine Ec.const dX5_goToNextOrder_62 ?_
    refine Ec.sub dX5_goToNextOrder_63 ?_
    refine Ec.istore_n (i := 2) dX5_goToNextOrder_64 rfl (by decide) ?_
    refine Ec.cnv (ls' := [some (2, k), some (0, (l_X5_goToNextOrder_9 k c fu (((c.2.2.1 k).length : Int) - 2))), some (0, (((c.2.2.1 k).length : Int) - 1)), none, none]) ⟨Or.inl rfl, ⟨Or.inl rfl, ⟨Or.inl rfl, trivial⟩⟩⟩ ?_
    obtain ⟨o26, hok⟩ := hok
    refine s_l_X5_goToNextOrder_65 (k := k) (a := (l_X5_goToNextOrder_9 k c fu (((c.2.2.1 k).length : Int) - 2))) (c := c)  fu (((c.2.2.1 k).length : Int) - 1) o26 ?_
    refine Ec.aload_n (i := 0) dX5_goToNextOrder_105 rfl rfl (Nat.le_of_ble_eq_true rfl) ?_
    refine Ec.iload_n (i := 1) dX5_goToNextOrder_106 rfl rfl ?_
    refine Ec.iload_n (i := 2) dX5_goToNextOrder_107 rfl rfl ?_
    obtain ⟨o27, hok⟩ := hok
    refine Ec.cs (as := [(2, k), (0, (l_X5_goToNextOrder_9 k c fu (((c.2.2.1 k).length : Int) - 2))), (0, (l_X5_goToNextOrder_65 k (l_X5_goToNextOrder_9 k c fu (((c.2.2.1 k).length : Int) - 2)) c fu (((c.2.2.1 k).length : Int) - 1)))]) k_X5_swap (tb5 (i := 59) rfl) ki_X5_swap dX5_goToNextOrder_108 rfl rfl (Nat.le_of_ble_eq_true rfl) (Nat.le_of_ble_eq_true rfl) (s_X5_swap o27) ?_
    refine Ec.aload_n (i := 0) dX5_goToNextOrder_111 rfl rfl (Nat.le_of_ble_eq_true rfl) ?_
    refine Ec.say (fun _ hL _ hs => ?_)
    have q28 : (((g_X5_swap k (l_X5_goToNextOrder_9 k c fu (((c.2.2.1 k).length : Int) - 2)) (l_X5_goToNextOrder_65 k (l_X5_goToNextOrder_9 k c fu (((c.2.2.1 k).length : Int) - 2)) c fu (((c.2.2.1 k).length : Int) - 1)) c).2.2.1 k).length : Int) ≤ 200 := hL _ (hs.hd.r ⟨Nat.le_of_ble_eq_true rfl, Nat.le_of_ble_eq_true rfl⟩).2.1 (hs.hd.r ⟨Nat.le_of_ble_eq_true rfl, Nat.le_of_ble_eq_true rfl⟩).2.2
    refine Ec.cf (as := []) kf_Jx4a65c_size_8abf5 (tb3 (i := 210) rfl) dX5_goToNextOrder_112 rfl rfl (Nat.le_of_ble_eq_true rfl) (Nat.le_of_ble_eq_true rfl) kl_size ?_
    refine Ec.const dX5_goToNextOrder_117 ?_
    refine Ec.sub dX5_goToNextOrder_118 ?_
    refine Ec.istore_n (i := 3) dX5_goToNextOrder_119 rfl (by decide) ?_
    refine Ec.iload_n (i := 1) dX5_goToNextOrder_120 rfl rfl ?_
    refine Ec.const dX5_goToNextOrder_121 ?_
    refine Ec.add dX5_goToNextOrder_122 ?_
    refine Ec.istore dX5_goToNextOrder_123 (by decide) ?_
    refine Ec.cnv (ls' := [some (2, k), none, none, some (0, ((((g_X5_swap k (l_X5_goToNextOrder_9 k c fu (((c.2.2.1 k).length : Int) - 2)) (l_X5_goToNextOrder_65 k (l_X5_goToNextOrder_9 k c fu (((c.2.2.1 k).length : Int) - 2)) c fu (((c.2.2.1 k).length : Int) - 1)) c).2.2.1 k).length : Int) - 1)), some (0, ((l_X5_goToNextOrder_9 k c fu (((c.2.2.1 k).length : Int) - 2)) + 1))]) ⟨Or.inl rfl, ⟨Or.inl rfl, ⟨Or.inl rfl, trivial⟩⟩⟩ ?_
    rw [g_X5_goToNextOrder, if_pos c25]
    exact s_l_X5_goToNextOrder_125 (k := k)  fu ((((g_X5_swap k (l_X5_goToNextOrder_9 k c fu (((c.2.2.1 k).length : Int) - 2)) (l_X5_goToNextOrder_65 k (l_X5_goToNextOrder_9 k c fu (((c.2.2.1 k).length : Int) - 2)) c fu (((c.2.2.1 k).length : Int) - 1)) c).2.2.1 k).length : Int) - 1) ((l_X5_goToNextOrder_9 k c fu (((c.2.2.1 k).length : Int) - 2)) + 1) (g_X5_swap k (l_X5_goToNextOrder_9 k c fu (((c.2.2.1 k).length : Int) - 2)) (l_X5_goToNextOrder_65 k (l_X5_goToNextOrder_9 k c fu (((c.2.2.1 k).length : Int) - 2)) c fu (((c.2.2.1 k).length : Int) - 1)) c) hok
  · rw [if_neg c25] at hok
    refine Ec.if_ge_f (tgt := 56) dX5_goToNextOrder_51 (by decide) o24 c25 ?_
    refine Ec.const dX5_goToNextOrder_54 ?_
    exact Ec.iret rfl rfl dX5_goToNextOrder_55 (by rw [g_X5_goToNextOrder, if_neg c25]) (by rw [g_X5_goToNextOrder, if_neg c25])
theorem r_X5_goToNextOrder {k : Int} {c : Cs} : 0 ≤ (g_X5_goToNextOrder k c).1 ∧ (g_X5_goToNextOrder k c).1 ≤ 1 := by
  unfold g_X5_goToNextOrder
  repeat' split
  all_goals first | exact ⟨Int.le_refl 0, Int.zero_le_ofNat 1⟩ | exact ⟨Int.zero_le_ofNat 1, Int.le_refl 1⟩ | exact r_l_X5_goToNextOrder_125 _ _ _ _
def l_X5_tryAll_21 (d : Int) : Nat → Int → Int → Cs → Int × Cs
  | 0, u, i, c => (0, c)
  | n + 1, u, i, c =>
    if 720 ≤ i then
      (u, c)
    else
      if (g_X5_goToNextOrder 12 c).1 = 0 then
        (u, (g_X5_goToNextOrder 12 c).2)
      else
        (l_X5_tryAll_21 d n (if (g_X5_forecastOf 12 d ((g_X5_goToNextOrder 12 c).2)).1 < u then (g_X5_forecastOf 12 d ((g_X5_goToNextOrder 12 c).2)).1 else u) (i + 1) ((g_X5_forecastOf 12 d ((g_X5_goToNextOrder 12 c).2)).2))
def okl_X5_tryAll_21 (d : Int) : Nat → Int → Int → Cs → Prop
  | 0, u, i, c => False
  | n + 1, u, i, c =>
    R32 i ∧ (
      if 720 ≤ i then
        True
      else
        ok_X5_goToNextOrder 12 c ∧ (
          if (g_X5_goToNextOrder 12 c).1 = 0 then
            True
          else
            ok_X5_forecastOf 12 d ((g_X5_goToNextOrder 12 c).2) ∧ (
              R32 u ∧ (
                R32 ((g_X5_forecastOf 12 d ((g_X5_goToNextOrder 12 c).2)).1) ∧ (
                  (okl_X5_tryAll_21 d n (if (g_X5_forecastOf 12 d ((g_X5_goToNextOrder 12 c).2)).1 < u then (g_X5_forecastOf 12 d ((g_X5_goToNextOrder 12 c).2)).1 else u) (i + 1) ((g_X5_forecastOf 12 d ((g_X5_goToNextOrder 12 c).2)).2)))))))
theorem s_l_X5_tryAll_21 {X : Cx} {ρ : Hp} {d : Int} : ∀ (n : Nat) (u i : Int) (c : Cs), okl_X5_tryAll_21 d n u i c → Ec X ρ m_X5_tryAll 8 21 [some (8, 0), none, some (0, d), some (0, u), some (0, i)] [] c (.inl (some (0, ((l_X5_tryAll_21 d n u i c)).1))) ((l_X5_tryAll_21 d n u i c)).2 := by
  intro n
  induction n with
  | zero =>
    intro u i c hok
    exact False.elim hok
  | succ n ih =>
    intro u i c hok
    rw [okl_X5_tryAll_21] at hok
    refine Ec.iload dX5_tryAll_21 rfl ?_
    refine Ec.sipush dX5_tryAll_23 (by decide) ?_
    obtain ⟨o1, hok⟩ := hok
    by_cases c2 : 720 ≤ i
    · rw [if_pos c2] at hok
      refine Ec.icmp_ge_t (tgt := 59) dX5_tryAll_26 (by decide) o1 ⟨by decide, by decide⟩ c2 ?_
      refine Ec.iload_n (i := 3) dX5_tryAll_59 rfl rfl ?_
      exact Ec.iret rfl nar_i dX5_tryAll_60 (by rw [l_X5_tryAll_21, if_pos c2]) (by rw [l_X5_tryAll_21, if_pos c2])
    · rw [if_neg c2] at hok
      refine Ec.icmp_ge_f (tgt := 59) dX5_tryAll_26 (by decide) o1 ⟨by decide, by decide⟩ c2 ?_
      refine Ec.aload_n (i := 0) dX5_tryAll_29 rfl rfl (Nat.le_of_ble_eq_true rfl) ?_
      refine Ec.gL (ci := 8) (k := 3) (t := 2) 12 (fun h _ => ⟨h.2.2.1.2.2.2, by decide⟩) rfl (by decide) rfl (by decide) (by decide) (tb1 (i := 83) rfl) (Or.inl rfl) rfl dX5_tryAll_30 ?_
      obtain ⟨o3, hok⟩ := hok
      refine Ec.cs (as := [(2, 12)]) k_X5_goToNextOrder (tb5 (i := 56) rfl) ki_X5_goToNextOrder dX5_tryAll_33 rfl rfl (Nat.le_of_ble_eq_true rfl) (Nat.le_of_ble_eq_true rfl) (s_X5_goToNextOrder o3) ?_
      have q4 : 0 ≤ (g_X5_goToNextOrder 12 c).1 ∧ (g_X5_goToNextOrder 12 c).1 ≤ 1 := r_X5_goToNextOrder
      by_cases c5 : (g_X5_goToNextOrder 12 c).1 = 0
      · rw [if_pos c5] at hok
        refine Ec.if_eq_t (tgt := 59) dX5_tryAll_36 (by decide) ⟨by omega, by omega⟩ c5 ?_
        refine Ec.iload_n (i := 3) dX5_tryAll_59 rfl rfl ?_
        exact Ec.iret rfl nar_i dX5_tryAll_60 (by rw [l_X5_tryAll_21, if_neg c2, if_pos c5]) (by rw [l_X5_tryAll_21, if_neg c2, if_pos c5])
      · rw [if_neg c5] at hok
        refine Ec.if_eq_f (tgt := 59) dX5_tryAll_36 (by decide) ⟨by omega, by omega⟩ c5 ?_
        refine Ec.iload_n (i := 3) dX5_tryAll_39 rfl rfl ?_
        refine Ec.aload_n (i := 0) dX5_tryAll_40 rfl rfl (Nat.le_of_ble_eq_true rfl) ?_
        refine Ec.aload_n (i := 0) dX5_tryAll_41 rfl rfl (Nat.le_of_ble_eq_true rfl) ?_
        refine Ec.gL (ci := 8) (k := 3) (t := 2) 12 (fun h _ => ⟨h.2.2.1.2.2.2, by decide⟩) rfl (by decide) rfl (by decide) (by decide) (tb1 (i := 83) rfl) (Or.inl rfl) rfl dX5_tryAll_42 ?_
        refine Ec.iload_n (i := 2) dX5_tryAll_45 rfl rfl ?_
        obtain ⟨o6, hok⟩ := hok
        refine Ec.cv (ci := 8) (as := [(2, 12), (0, d)]) k_X5_forecastOf rfl (by decide) (tb4 (i := 4) rfl) ki_X5_forecastOf kv_X5_forecastOf dX5_tryAll_46 rfl rfl (Nat.le_of_ble_eq_true rfl) (Nat.le_of_ble_eq_true rfl) (s_X5_forecastOf o6) ?_
        obtain ⟨o7, hok⟩ := hok
        obtain ⟨o8, hok⟩ := hok
        refine Ec.min o7 o8 (tb5 (i := 71) rfl) (Nat.le_of_ble_eq_true rfl) (Nat.le_of_ble_eq_true rfl) dX5_tryAll_49 ?_
        refine Ec.istore_n (i := 3) dX5_tryAll_52 rfl (by decide) ?_
        refine Ec.inc dX5_tryAll_53 rfl (by decide) ?_
        refine Ec.goto (tgt := 21) dX5_tryAll_56 (by decide) ?_
        refine Ec.cnv (ls' := [some (8, 0), none, some (0, d), some (0, (if (g_X5_forecastOf 12 d ((g_X5_goToNextOrder 12 c).2)).1 < u then (g_X5_forecastOf 12 d ((g_X5_goToNextOrder 12 c).2)).1 else u)), some (0, (i + 1))]) ⟨Or.inl rfl, ⟨Or.inl rfl, ⟨Or.inl rfl, ⟨Or.inl rfl, trivial⟩⟩⟩⟩ ?_
        rw [l_X5_tryAll_21, if_neg c2, if_neg c5]
        exact ih (if (g_X5_forecastOf 12 d ((g_X5_goToNextOrder 12 c).2)).1 < u then (g_X5_forecastOf 12 d ((g_X5_goToNextOrder 12 c).2)).1 else u) (i + 1) ((g_X5_forecastOf 12 d ((g_X5_goToNextOrder 12 c).2)).2) hok
def g_X5_tryAll (l d : Int) (c : Cs) : Int × Cs :=
  (l_X5_tryAll_21 d fu ((g_X5_forecastOf 12 d (g_X5_copySorted l 12 c)).1) 1 ((g_X5_forecastOf 12 d (g_X5_copySorted l 12 c)).2))
def ok_X5_tryAll (l d : Int) (c : Cs) : Prop :=
  ok_X5_copySorted l 12 c ∧ (
    ok_X5_forecastOf 12 d (g_X5_copySorted l 12 c) ∧ (
      (okl_X5_tryAll_21 d fu ((g_X5_forecastOf 12 d (g_X5_copySorted l 12 c)).1) 1 ((g_X5_forecastOf 12 d (g_X5_copySorted l 12 c)).2))))
theorem s_X5_tryAll {X : Cx} {ρ : Hp} {l d : Int} {c : Cs} (hok : ok_X5_tryAll l d c) : Kc X ρ m_X5_tryAll 8 [(8, 0), (2, l), (0, d)] c (.inl (some (0, ((g_X5_tryAll l d c)).1))) ((g_X5_tryAll l d c)).2 := by
  refine Kc.of (by decide +kernel) rfl (Nat.le_of_ble_eq_true rfl) ?_
  rw [ok_X5_tryAll] at hok
  refine Ec.aload_n (i := 1) dX5_tryAll_0 rfl rfl (Nat.le_of_ble_eq_true rfl) ?_
  refine Ec.aload_n (i := 0) dX5_tryAll_1 rfl rfl (Nat.le_of_ble_eq_true rfl) ?_
  refine Ec.gL (ci := 8) (k := 3) (t := 2) 12 (fun h _ => ⟨h.2.2.1.2.2.2, by decide⟩) rfl (by decide) rfl (by decide) (by decide) (tb1 (i := 83) rfl) (Or.inl rfl) rfl dX5_tryAll_2 ?_
  obtain ⟨o9, hok⟩ := hok
  refine Ec.cs (as := [(2, l), (2, 12)]) k_X5_copySorted (tb4 (i := 5) rfl) ki_X5_copySorted dX5_tryAll_5 rfl rfl (Nat.le_of_ble_eq_true rfl) (Nat.le_of_ble_eq_true rfl) (s_X5_copySorted o9) ?_
  refine Ec.aload_n (i := 0) dX5_tryAll_8 rfl rfl (Nat.le_of_ble_eq_true rfl) ?_
  refine Ec.aload_n (i := 0) dX5_tryAll_9 rfl rfl (Nat.le_of_ble_eq_true rfl) ?_
  refine Ec.gL (ci := 8) (k := 3) (t := 2) 12 (fun h _ => ⟨h.2.2.1.2.2.2, by decide⟩) rfl (by decide) rfl (by decide) (by decide) (tb1 (i := 83) rfl) (Or.inl rfl) rfl dX5_tryAll_10 ?_
  refine Ec.iload_n (i := 2) dX5_tryAll_13 rfl rfl ?_
  obtain ⟨o10, hok⟩ := hok
  refine Ec.cv (ci := 8) (as := [(2, 12), (0, d)]) k_X5_forecastOf rfl (by decide) (tb4 (i := 4) rfl) ki_X5_forecastOf kv_X5_forecastOf dX5_tryAll_14 rfl rfl (Nat.le_of_ble_eq_true rfl) (Nat.le_of_ble_eq_true rfl) (s_X5_forecastOf o10) ?_
  refine Ec.istore_n (i := 3) dX5_tryAll_17 rfl (by decide) ?_
  refine Ec.const dX5_tryAll_18 ?_
  refine Ec.istore dX5_tryAll_19 (by decide) ?_
  refine Ec.cnv (ls' := [some (8, 0), none, some (0, d), some (0, (g_X5_forecastOf 12 d (g_X5_copySorted l 12 c)).1), some (0, 1)]) ⟨Or.inl rfl, ⟨Or.inl rfl, ⟨Or.inl rfl, ⟨Or.inl rfl, trivial⟩⟩⟩⟩ ?_
  rw [g_X5_tryAll]
  exact s_l_X5_tryAll_21 (d := d)  fu ((g_X5_forecastOf 12 d (g_X5_copySorted l 12 c)).1) 1 ((g_X5_forecastOf 12 d (g_X5_copySorted l 12 c)).2) hok
def g_X5_undoLast (i r : Int) (c : Cs) : Cs :=
  if (eb (c.2.2.1 12)) = 0 then
    if i < 0 then
      (clst c 12 (remL (c.2.2.1 12) (((c.2.2.1 12).length : Int) - 1).toNat))
    else
      if (((clst c 12 (remL (c.2.2.1 12) (((c.2.2.1 12).length : Int) - 1).toNat)).2.2.1 11).length : Int) < i then
        (clst c 12 (remL (c.2.2.1 12) (((c.2.2.1 12).length : Int) - 1).toNat))
      else
        (clst (clst c 12 (remL (c.2.2.1 12) (((c.2.2.1 12).length : Int) - 1).toNat)) 11 (insL ((clst c 12 (remL (c.2.2.1 12) (((c.2.2.1 12).length : Int) - 1).toNat)).2.2.1 11) i.toNat r))
  else
    if i < 0 then
      c
    else
      if ((c.2.2.1 11).length : Int) < i then
        c
      else
        (clst c 11 (insL (c.2.2.1 11) i.toNat r))
def ok_X5_undoLast (i r : Int) (c : Cs) : Prop :=
  if (eb (c.2.2.1 12)) = 0 then
    ((0 : Int) ≤ (((c.2.2.1 12).length : Int) - 1) ∧ (((c.2.2.1 12).length : Int) - 1) < ((c.2.2.1 12).length : Int)) ∧ (
      R32 i ∧ (
        if i < 0 then
          True
        else
          if (((clst c 12 (remL (c.2.2.1 12) (((c.2.2.1 12).length : Int) - 1).toNat)).2.2.1 11).length : Int) < i then
            True
          else
            (((clst c 12 (remL (c.2.2.1 12) (((c.2.2.1 12).length : Int) - 1).toNat)).2.2.1 11).length : Int) ≤ 199 ∧ (
              ((0 : Int) ≤ i ∧ i ≤ (((clst c 12 (remL (c.2.2.1 12) (((c.2.2.1 12).length : Int) - 1).toNat)).2.2.1 11).length : Int)) ∧ (
                True))))
  else
    R32 i ∧ (
      if i < 0 then
        True
      else
        if ((c.2.2.1 11).length : Int) < i then
          True
        else
          ((c.2.2.1 11).length : Int) ≤ 199 ∧ (
            ((0 : Int) ≤ i ∧ i ≤ ((c.2.2.1 11).length : Int)) ∧ (
              True)))
theorem s_X5_undoLast {X : Cx} {ρ : Hp} {i r : Int} {c : Cs} (hok : ok_X5_undoLast i r c) : Kc X ρ m_X5_undoLast 7 [(8, 0), (0, i), (9, r)] c (.inl none) (g_X5_undoLast i r c) := by
  refine Kc.of (by decide +kernel) rfl (Nat.le_of_ble_eq_true rfl) ?_
  rw [ok_X5_undoLast] at hok
  refine Ec.aload_n (i := 0) dX5_undoLast_0 rfl rfl (Nat.le_of_ble_eq_true rfl) ?_
  refine Ec.gL (ci := 8) (k := 3) (t := 2) 12 (fun h _ => ⟨h.2.2.1.2.2.2, by decide⟩) rfl (by decide) rfl (by decide) (by decide) (tb1 (i := 83) rfl) (Or.inl rfl) rfl dX5_undoLast_1 ?_
  refine Ec.cf (as := []) kf_Jx4a65c_isEmpty_aae02 (tb5 (i := 31) rfl) dX5_undoLast_4 rfl rfl (Nat.le_of_ble_eq_true rfl) (Nat.le_of_ble_eq_true rfl) kl_empty ?_
  have q1 := eb_r (c.2.2.1 12)
  by_cases c2 : (eb (c.2.2.1 12)) = 0
  · rw [if_pos c2] at hok
    refine Ec.if_ne_f (tgt := 33) dX5_undoLast_9 (by decide) ⟨by omega, by omega⟩ (fun h => h c2) ?_
    refine Ec.aload_n (i := 0) dX5_undoLast_12 rfl rfl (Nat.le_of_ble_eq_true rfl) ?_
    refine Ec.gL (ci := 8) (k := 3) (t := 2) 12 (fun h _ => ⟨h.2.2.1.2.2.2, by decide⟩) rfl (by decide) rfl (by decide) (by decide) (tb1 (i := 83) rfl) (Or.inl rfl) rfl dX5_undoLast_13 ?_
    refine Ec.aload_n (i := 0) dX5_undoLast_16 rfl rfl (Nat.le_of_ble_eq_true rfl) ?_
    refine Ec.gL (ci := 8) (k := 3) (t := 2) 12 (fun h _ => ⟨h.2.2.1.2.2.2, by decide⟩) rfl (by decide) rfl (by decide) (by decide) (tb1 (i := 83) rfl) (Or.inl rfl) rfl dX5_undoLast_17 ?_
    refine Ec.say (fun _ hL _ hs => ?_)
    have q3 : ((c.2.2.1 12).length : Int) ≤ 200 := hL _ (hs.hd.r ⟨Nat.le_of_ble_eq_true rfl, Nat.le_of_ble_eq_true rfl⟩).2.1 (hs.hd.r ⟨Nat.le_of_ble_eq_true rfl, Nat.le_of_ble_eq_true rfl⟩).2.2
    refine Ec.cf (as := []) kf_Jx4a65c_size_8abf5 (tb3 (i := 210) rfl) dX5_undoLast_20 rfl rfl (Nat.le_of_ble_eq_true rfl) (Nat.le_of_ble_eq_true rfl) kl_size ?_
    refine Ec.const dX5_undoLast_25 ?_
    refine Ec.sub dX5_undoLast_26 ?_
    obtain ⟨o4, hok⟩ := hok
    refine Ec.cf (as := [(0, (((c.2.2.1 12).length : Int) - 1))]) (c1 := (clst c 12 (remL (c.2.2.1 12) (((c.2.2.1 12).length : Int) - 1).toNat))) kf_Jx4a65c_remove_915e3 (tb5 (i := 38) rfl) dX5_undoLast_27 rfl rfl (Nat.le_of_ble_eq_true rfl) (Nat.le_of_ble_eq_true rfl) (kl_rem rfl o4) ?_
    refine Ec.pop dX5_undoLast_32 ?_
    refine Ec.iload_n (i := 1) dX5_undoLast_33 rfl rfl ?_
    obtain ⟨o5, hok⟩ := hok
    by_cases c6 : i < 0
    · rw [if_pos c6] at hok
      refine Ec.if_lt_t (tgt := 61) dX5_undoLast_34 (by decide) o5 c6 ?_
      exact Ec.vret rfl dX5_undoLast_61 rfl (by rw [g_X5_undoLast, if_pos c2, if_pos c6])
    · rw [if_neg c6] at hok
      refine Ec.if_lt_f (tgt := 61) dX5_undoLast_34 (by decide) o5 c6 ?_
      refine Ec.iload_n (i := 1) dX5_undoLast_37 rfl rfl ?_
      refine Ec.aload_n (i := 0) dX5_undoLast_38 rfl rfl (Nat.le_of_ble_eq_true rfl) ?_
      refine Ec.gL (ci := 8) (k := 2) (t := 2) 11 (fun h _ => ⟨h.2.2.1.2.2.1, by decide⟩) rfl (by decide) rfl (by decide) (by decide) (tb1 (i := 82) rfl) (Or.inl rfl) rfl dX5_undoLast_39 ?_
      refine Ec.say (fun _ hL _ hs => ?_)
      have q7 : (((clst c 12 (remL (c.2.2.1 12) (((c.2.2.1 12).length : Int) - 1).toNat)).2.2.1 11).length : Int) ≤ 200 := hL _ (hs.hd.r ⟨Nat.le_of_ble_eq_true rfl, Nat.le_of_ble_eq_true rfl⟩).2.1 (hs.hd.r ⟨Nat.le_of_ble_eq_true rfl, Nat.le_of_ble_eq_true rfl⟩).2.2
      refine Ec.cf (as := []) kf_Jx4a65c_size_8abf5 (tb3 (i := 210) rfl) dX5_undoLast_42 rfl rfl (Nat.le_of_ble_eq_true rfl) (Nat.le_of_ble_eq_true rfl) kl_size ?_
      by_cases c8 : (((clst c 12 (remL (c.2.2.1 12) (((c.2.2.1 12).length : Int) - 1).toNat)).2.2.1 11).length : Int) < i
      · rw [if_pos c8] at hok
        refine Ec.icmp_gt_t (tgt := 61) dX5_undoLast_47 (by decide) o5 ⟨by omega, by omega⟩ c8 ?_
        exact Ec.vret rfl dX5_undoLast_61 rfl (by rw [g_X5_undoLast, if_pos c2, if_neg c6, if_pos c8])
      · rw [if_neg c8] at hok
        refine Ec.icmp_gt_f (tgt := 61) dX5_undoLast_47 (by decide) o5 ⟨by omega, by omega⟩ c8 ?_
        refine Ec.aload_n (i := 0) dX5_undoLast_50 rfl rfl (Nat.le_of_ble_eq_true rfl) ?_
        refine Ec.gL (ci := 8) (k := 2) (t := 2) 11 (fun h _ => ⟨h.2.2.1.2.2.1, by decide⟩) rfl (by decide) rfl (by decide) (by decide) (tb1 (i := 82) rfl) (Or.inl rfl) rfl dX5_undoLast_51 ?_
        refine Ec.iload_n (i := 1) dX5_undoLast_54 rfl rfl ?_
        refine Ec.aload_n (i := 2) dX5_undoLast_55 rfl rfl (Nat.le_of_ble_eq_true rfl) ?_
        obtain ⟨o9, hok⟩ := hok
        obtain ⟨o10, hok⟩ := hok
        refine Ec.cf (as := [(0, i), (9, r)]) (c1 := (clst (clst c 12 (remL (c.2.2.1 12) (((c.2.2.1 12).length : Int) - 1).toNat)) 11 (insL ((clst c 12 (remL (c.2.2.1 12) (((c.2.2.1 12).length : Int) - 1).toNat)).2.2.1 11) i.toNat r))) kf_Jx4a65c_add_7a177 (tb4 (i := 18) rfl) dX5_undoLast_56 rfl rfl (Nat.le_of_ble_eq_true rfl) (Nat.le_of_ble_eq_true rfl) (kl_ins rfl o9 (by decide) o10) ?_
        exact Ec.vret rfl dX5_undoLast_61 rfl (by rw [g_X5_undoLast, if_pos c2, if_neg c6, if_neg c8])
  · rw [if_neg c2] at hok
    refine Ec.if_ne_t (tgt := 33) dX5_undoLast_9 (by decide) ⟨by omega, by omega⟩ c2 ?_
    refine Ec.iload_n (i := 1) dX5_undoLast_33 rfl rfl ?_
    obtain ⟨o11, hok⟩ := hok
    by_cases c12 : i < 0
    · rw [if_pos c12] at hok
      refine Ec.if_lt_t (tgt := 61) dX5_undoLast_34 (by decide) o11 c12 ?_
      exact Ec.vret rfl dX5_undoLast_61 rfl (by rw [g_X5_undoLast, if_neg c2, if_pos c12])
    · rw [if_neg c12] at hok
      refine Ec.if_lt_f (tgt := 61) dX5_undoLast_34 (by decide) o11 c12 ?_
      refine Ec.iload_n (i := 1) dX5_undoLast_37 rfl rfl ?_
      refine Ec.aload_n (i := 0) dX5_undoLast_38 rfl rfl (Nat.le_of_ble_eq_true rfl) ?_
      refine Ec.gL (ci := 8) (k := 2) (t := 2) 11 (fun h _ => ⟨h.2.2.1.2.2.1, by decide⟩) rfl (by decide) rfl (by decide) (by decide) (tb1 (i := 82) rfl) (Or.inl rfl) rfl dX5_undoLast_39 ?_
      refine Ec.say (fun _ hL _ hs => ?_)
      have q13 : ((c.2.2.1 11).length : Int) ≤ 200 := hL _ (hs.hd.r ⟨Nat.le_of_ble_eq_true rfl, Nat.le_of_ble_eq_true rfl⟩).2.1 (hs.hd.r ⟨Nat.le_of_ble_eq_true rfl, Nat.le_of_ble_eq_true rfl⟩).2.2
      refine Ec.cf (as := []) kf_Jx4a65c_size_8abf5 (tb3 (i := 210) rfl) dX5_undoLast_42 rfl rfl (Nat.le_of_ble_eq_true rfl) (Nat.le_of_ble_eq_true rfl) kl_size ?_
      by_cases c14 : ((c.2.2.1 11).length : Int) < i
      · rw [if_pos c14] at hok
        refine Ec.icmp_gt_t (tgt := 61) dX5_undoLast_47 (by decide) o11 ⟨by omega, by omega⟩ c14 ?_
        exact Ec.vret rfl dX5_undoLast_61 rfl (by rw [g_X5_undoLast, if_neg c2, if_neg c12, if_pos c14])
      · rw [if_neg c14] at hok
        refine Ec.icmp_gt_f (tgt := 61) dX5_undoLast_47 (by decide) o11 ⟨by omega, by omega⟩ c14 ?_
        refine Ec.aload_n (i := 0) dX5_undoLast_50 rfl rfl (Nat.le_of_ble_eq_true rfl) ?_
        refine Ec.gL (ci := 8) (k := 2) (t := 2) 11 (fun h _ => ⟨h.2.2.1.2.2.1, by decide⟩) rfl (by decide) rfl (by decide) (by decide) (tb1 (i := 82) rfl) (Or.inl rfl) rfl dX5_undoLast_51 ?_
        refine Ec.iload_n (i := 1) dX5_undoLast_54 rfl rfl ?_
        refine Ec.aload_n (i := 2) dX5_undoLast_55 rfl rfl (Nat.le_of_ble_eq_true rfl) ?_
        obtain ⟨o15, hok⟩ := hok
        obtain ⟨o16, hok⟩ := hok
        refine Ec.cf (as := [(0, i), (9, r)]) (c1 := (clst c 11 (insL (c.2.2.1 11) i.toNat r))) kf_Jx4a65c_add_7a177 (tb4 (i := 18) rfl) dX5_undoLast_56 rfl rfl (Nat.le_of_ble_eq_true rfl) (Nat.le_of_ble_eq_true rfl) (kl_ins rfl o15 (by decide) o16) ?_
        exact Ec.vret rfl dX5_undoLast_61 rfl (by rw [g_X5_undoLast, if_neg c2, if_neg c12, if_neg c14])
def l_X10_copyRecipes_8 (l k : Int) : Nat → Int → Cs → Cs
  | 0, i, c => c
  | n + 1, i, c =>
    if ((c.2.2.1 l).length : Int) ≤ i then
      c
    else
      (l_X10_copyRecipes_8 l k n (i + 1) (clst c k (c.2.2.1 k ++ [(lget (c.2.2.1 l) i)])))
def okl_X10_copyRecipes_8 (l k : Int) : Nat → Int → Cs → Prop
  | 0, i, c => False
  | n + 1, i, c =>
    R32 i ∧ (
      if ((c.2.2.1 l).length : Int) ≤ i then
        True
      else
        tel l = 9 ∧ (
          ((0 : Int) ≤ i ∧ i < ((c.2.2.1 l).length : Int)) ∧ (
            tel k = 9 ∧ (
              ((c.2.2.1 k).length : Int) ≤ 199 ∧ (
                (okl_X10_copyRecipes_8 l k n (i + 1) (clst c k (c.2.2.1 k ++ [(lget (c.2.2.1 l) i)]))))))))
theorem s_l_X10_copyRecipes_8 {X : Cx} {ρ : Hp} {l k : Int} : ∀ (n : Nat) (i : Int) (c : Cs), okl_X10_copyRecipes_8 l k n i c → Ec X ρ m_X10_copyRecipes 7 8 [some (2, l), some (2, k), some (0, i)] [] c (.inl none) (l_X10_copyRecipes_8 l k n i c) := by
  intro n
  induction n with
  | zero =>
    intro i c hok
    exact False.elim hok
  | succ n ih =>
    intro i c hok
    rw [okl_X10_copyRecipes_8] at hok
    refine Ec.iload_n (i := 2) dX10_copyRecipes_8 rfl rfl ?_
    refine Ec.aload_n (i := 0) dX10_copyRecipes_9 rfl rfl (Nat.le_of_ble_eq_true rfl) ?_
    refine Ec.say (fun _ hL _ hs => ?_)
    have q1 : ((c.2.2.1 l).length : Int) ≤ 200 := hL _ (hs.hd.r ⟨Nat.le_of_ble_eq_true rfl, Nat.le_of_ble_eq_true rfl⟩).2.1 (hs.hd.r ⟨Nat.le_of_ble_eq_true rfl, Nat.le_of_ble_eq_true rfl⟩).2.2
    refine Ec.cf (as := []) kf_Jx4a65c_size_8abf5 (tb1 (i := 226) rfl) dX10_copyRecipes_10 rfl rfl (Nat.le_of_ble_eq_true rfl) (Nat.le_of_ble_eq_true rfl) kl_size ?_
    obtain ⟨o2, hok⟩ := hok
    by_cases c3 : ((c.2.2.1 l).length : Int) ≤ i
    · rw [if_pos c3] at hok
      refine Ec.icmp_ge_t (tgt := 41) dX10_copyRecipes_15 (by decide) o2 ⟨by omega, by omega⟩ c3 ?_
      exact Ec.vret rfl dX10_copyRecipes_41 rfl (by rw [l_X10_copyRecipes_8, if_pos c3])
    · rw [if_neg c3] at hok
      refine Ec.icmp_ge_f (tgt := 41) dX10_copyRecipes_15 (by decide) o2 ⟨by omega, by omega⟩ c3 ?_
      refine Ec.aload_n (i := 1) dX10_copyRecipes_18 rfl rfl (Nat.le_of_ble_eq_true rfl) ?_
      refine Ec.aload_n (i := 0) dX10_copyRecipes_19 rfl rfl (Nat.le_of_ble_eq_true rfl) ?_
      refine Ec.iload_n (i := 2) dX10_copyRecipes_20 rfl rfl ?_
      obtain ⟨o4, hok⟩ := hok
      obtain ⟨o5, hok⟩ := hok
      refine Ec.cf (as := [(0, i)]) kf_Jx4a65c_get_915e3 (tb2 (i := 93) rfl) dX10_copyRecipes_21 rfl rfl (Nat.le_of_ble_eq_true rfl) (Nat.le_of_ble_eq_true rfl) (kl_get o4 o5) ?_
      refine Ec.cast (ci := 9) rfl (by decide) (tb2 (i := 131) rfl) dX10_copyRecipes_26 ?_
      obtain ⟨o6, hok⟩ := hok
      obtain ⟨o7, hok⟩ := hok
      refine Ec.cf (as := [(9, (lget (c.2.2.1 l) i))]) (c1 := (clst c k (c.2.2.1 k ++ [(lget (c.2.2.1 l) i)]))) kf_Jx4a65c_add_9ea2d (tb1 (i := 113) rfl) dX10_copyRecipes_29 rfl rfl (Nat.le_of_ble_eq_true rfl) (Nat.le_of_ble_eq_true rfl) (kl_add o6 o7 (by decide)) ?_
      refine Ec.pop dX10_copyRecipes_34 ?_
      refine Ec.inc dX10_copyRecipes_35 rfl (by decide) ?_
      refine Ec.goto (tgt := 8) dX10_copyRecipes_38 (by decide) ?_
      refine Ec.cnv (ls' := [some (2, l), some (2, k), some (0, (i + 1))]) ⟨Or.inl rfl, ⟨Or.inl rfl, ⟨Or.inl rfl, trivial⟩⟩⟩ ?_
      rw [l_X10_copyRecipes_8, if_neg c3]
      exact ih (i + 1) (clst c k (c.2.2.1 k ++ [(lget (c.2.2.1 l) i)])) hok
def g_X10_copyRecipes (l k : Int) (c : Cs) : Cs :=
  (l_X10_copyRecipes_8 l k fu 0 (clst c k ([])))
def ok_X10_copyRecipes (l k : Int) (c : Cs) : Prop :=
  (okl_X10_copyRecipes_8 l k fu 0 (clst c k ([])))
theorem s_X10_copyRecipes {X : Cx} {ρ : Hp} {l k : Int} {c : Cs} (hok : ok_X10_copyRecipes l k c) : Kc X ρ m_X10_copyRecipes 7 [(2, l), (2, k)] c (.inl none) (g_X10_copyRecipes l k c) := by
  refine Kc.of (by decide +kernel) rfl (Nat.le_of_ble_eq_true rfl) ?_
  rw [ok_X10_copyRecipes] at hok
  refine Ec.aload_n (i := 1) dX10_copyRecipes_0 rfl rfl (Nat.le_of_ble_eq_true rfl) ?_
  refine Ec.cf (as := []) (c1 := (clst c k ([]))) kf_Jx4a65c_clear_da8c8 (tb5 (i := 36) rfl) dX10_copyRecipes_1 rfl rfl (Nat.le_of_ble_eq_true rfl) (Nat.le_of_ble_eq_true rfl) kl_clear ?_
  refine Ec.const dX10_copyRecipes_6 ?_
  refine Ec.istore_n (i := 2) dX10_copyRecipes_7 rfl (by decide) ?_
  refine Ec.cnv (ls' := [some (2, l), some (2, k), some (0, 0)]) ⟨Or.inl rfl, ⟨Or.inl rfl, ⟨Or.inl rfl, trivial⟩⟩⟩ ?_
  rw [g_X10_copyRecipes]
  exact s_l_X10_copyRecipes_8 (l := l) (k := k)  fu 0 (clst c k ([])) hok
