/-! the class: its face (written by wip/whole/mk33.py) -/
def g_X10_addRecipe (s f a : Int) (c : Cs) : Rr × Cs :=
  if (0 ≤ s ∧ s < ((c.2.2.1 0).length : Int)) then
    if (g_X10_isOutside f 1 14 c) = 0 then
      if (g_X10_isOutside a 0 14 c) = 0 then
        if ((c.2.2.1 1).length : Int) < 5 then
          (.inl (some (0, ((g_X6_init (c.1 9) ((c.2.2.1 1).length : Int) s (lget (c.2.2.1 0) s) f a (cnew c 9)).2.1 9 0 (c.1 9)))), (clst (g_X6_init (c.1 9) ((c.2.2.1 1).length : Int) s (lget (c.2.2.1 0) s) f a (cnew c 9)) 1 ((g_X6_init (c.1 9) ((c.2.2.1 1).length : Int) s (lget (c.2.2.1 0) s) f a (cnew c 9)).2.2.1 1 ++ [c.1 9])))
        else
          (.inr "java/lang/IllegalStateException", (cexc c))
      else
        (.inr "java/lang/IllegalArgumentException", (cexc c))
    else
      (.inr "java/lang/IllegalArgumentException", (cexc c))
  else
    (.inr "java/lang/IllegalArgumentException", (cexc c))
def ok_X10_addRecipe (s f a : Int) (c : Cs) : Prop :=
  ok_X10_yeastOf s c ∧ (
    if (0 ≤ s ∧ s < ((c.2.2.1 0).length : Int)) then
      ok_X10_isOutside f 1 14 c ∧ (
        if (g_X10_isOutside f 1 14 c) = 0 then
          ok_X10_isOutside a 0 14 c ∧ (
            if (g_X10_isOutside a 0 14 c) = 0 then
              if ((c.2.2.1 1).length : Int) < 5 then
                (((g_X6_init (c.1 9) ((c.2.2.1 1).length : Int) s (lget (c.2.2.1 0) s) f a (cnew c 9)).2.2.1 1).length : Int) ≤ 199 ∧ (
                  True)
              else
                True
            else
              True)
        else
          True)
    else
      True)
theorem s_X10_addRecipe {X : Cx} {ρ : Hp} {s f a : Int} {c : Cs} (hok : ok_X10_addRecipe s f a c) : Kc X ρ m_X10_addRecipe 7 [(13, 0), (0, s), (0, f), (0, a)] c ((g_X10_addRecipe s f a c)).1 ((g_X10_addRecipe s f a c)).2 := by
  refine Kc.of (by decide +kernel) rfl (Nat.le_of_ble_eq_true rfl) ?_
  rw [ok_X10_addRecipe] at hok
  refine Ec.aload_n (i := 0) dX10_addRecipe_0 rfl rfl (Nat.le_of_ble_eq_true rfl) ?_
  refine Ec.iload_n (i := 1) dX10_addRecipe_1 rfl rfl ?_
  obtain ⟨o1, hok⟩ := hok
  by_cases c2 : (0 ≤ s ∧ s < ((c.2.2.1 0).length : Int))
  · rw [if_pos c2] at hok
    refine Ec.cv (v := some (12, (lget (c.2.2.1 0) s))) (c1 := c) (ci := 13) (as := [(0, s)]) k_X10_yeastOf rfl (by decide) (tb2 (i := 18) rfl) ki_X10_yeastOf kv_X10_yeastOf dX10_addRecipe_2 rfl rfl (Nat.le_of_ble_eq_true rfl) (Nat.le_of_ble_eq_true rfl) (by have q := s_X10_yeastOf (X := X) (ρ := ρ) (c := c) (i := s) o1; rw [t_X10_yeastOf c2] at q; exact q) ?_
    refine Ec.astore dX10_addRecipe_5 (by decide) (Nat.le_of_ble_eq_true rfl) ?_
    refine Ec.iload_n (i := 2) dX10_addRecipe_7 rfl rfl ?_
    refine Ec.const dX10_addRecipe_8 ?_
    refine Ec.bipush dX10_addRecipe_9 (by decide) ?_
    obtain ⟨o3, hok⟩ := hok
    refine Ec.cs (as := [(0, f), (0, 1), (0, 14)]) k_X10_isOutside (tb2 (i := 111) rfl) ki_X10_isOutside dX10_addRecipe_11 rfl rfl (Nat.le_of_ble_eq_true rfl) (Nat.le_of_ble_eq_true rfl) (s_X10_isOutside o3) ?_
    have q4 : 0 ≤ (g_X10_isOutside f 1 14 c) ∧ (g_X10_isOutside f 1 14 c) ≤ 1 := r_X10_isOutside
    by_cases c5 : (g_X10_isOutside f 1 14 c) = 0
    · rw [if_pos c5] at hok
      refine Ec.if_ne_f (tgt := 27) dX10_addRecipe_14 (by decide) ⟨by omega, by omega⟩ (fun h => h c5) ?_
      refine Ec.iload_n (i := 3) dX10_addRecipe_17 rfl rfl ?_
      refine Ec.const dX10_addRecipe_18 ?_
      refine Ec.bipush dX10_addRecipe_19 (by decide) ?_
      obtain ⟨o6, hok⟩ := hok
      refine Ec.cs (as := [(0, a), (0, 0), (0, 14)]) k_X10_isOutside (tb2 (i := 111) rfl) ki_X10_isOutside dX10_addRecipe_21 rfl rfl (Nat.le_of_ble_eq_true rfl) (Nat.le_of_ble_eq_true rfl) (s_X10_isOutside o6) ?_
      have q7 : 0 ≤ (g_X10_isOutside a 0 14 c) ∧ (g_X10_isOutside a 0 14 c) ≤ 1 := r_X10_isOutside
      by_cases c8 : (g_X10_isOutside a 0 14 c) = 0
      · rw [if_pos c8] at hok
        refine Ec.if_eq_t (tgt := 37) dX10_addRecipe_24 (by decide) ⟨by omega, by omega⟩ c8 ?_
        refine Ec.aload_n (i := 0) dX10_addRecipe_37 rfl rfl (Nat.le_of_ble_eq_true rfl) ?_
        refine Ec.gL (ci := 13) (k := 1) (t := 2) 1 (fun h _ => ⟨h.2.1.2.1, by decide⟩) rfl (by decide) rfl (by decide) (by decide) (tb1 (i := 185) rfl) (Or.inl rfl) rfl dX10_addRecipe_38 ?_
        refine Ec.say (fun _ hL _ hs => ?_)
        have q9 : ((c.2.2.1 1).length : Int) ≤ 200 := hL _ (hs.hd.r ⟨Nat.le_of_ble_eq_true rfl, Nat.le_of_ble_eq_true rfl⟩).2.1 (hs.hd.r ⟨Nat.le_of_ble_eq_true rfl, Nat.le_of_ble_eq_true rfl⟩).2.2
        refine Ec.cf (as := []) kf_Jx4a65c_size_8abf5 (tb1 (i := 226) rfl) dX10_addRecipe_41 rfl rfl (Nat.le_of_ble_eq_true rfl) (Nat.le_of_ble_eq_true rfl) kl_size ?_
        refine Ec.const dX10_addRecipe_46 ?_
        by_cases c10 : ((c.2.2.1 1).length : Int) < 5
        · rw [if_pos c10] at hok
          refine Ec.icmp_lt_t (tgt := 60) dX10_addRecipe_47 (by decide) ⟨by omega, by omega⟩ ⟨by decide, by decide⟩ c10 ?_
          refine Ec.new (ci := 9) rfl (by decide) (by decide) (by decide) (tb2 (i := 131) rfl) (tb2 (i := 132) rfl) (tb1 (i := 18) rfl) dX10_addRecipe_60 ?_
          refine Ec.dup dX10_addRecipe_63 ?_
          refine Ec.aload_n (i := 0) dX10_addRecipe_64 rfl rfl (Nat.le_of_ble_eq_true rfl) ?_
          refine Ec.gL (ci := 13) (k := 1) (t := 2) 1 (fun h _ => ⟨h.2.1.2.1, by decide⟩) rfl (by decide) rfl (by decide) (by decide) (tb1 (i := 185) rfl) (Or.inl rfl) rfl dX10_addRecipe_65 ?_
          refine Ec.cf (as := []) kf_Jx4a65c_size_8abf5 (tb1 (i := 226) rfl) dX10_addRecipe_68 rfl rfl (Nat.le_of_ble_eq_true rfl) (Nat.le_of_ble_eq_true rfl) kl_size ?_
          refine Ec.iload_n (i := 1) dX10_addRecipe_73 rfl rfl ?_
          refine Ec.aload dX10_addRecipe_74 rfl (Nat.le_of_ble_eq_true rfl) ?_
          refine Ec.iload_n (i := 2) dX10_addRecipe_76 rfl rfl ?_
          refine Ec.iload_n (i := 3) dX10_addRecipe_77 rfl rfl ?_
          refine Ec.ci (as := [(0, ((c.2.2.1 1).length : Int)), (0, s), (12, (lget (c.2.2.1 0) s)), (0, f), (0, a)]) k_X6_init rfl rfl (by decide) (tb2 (i := 133) rfl) ki_X6_init dX10_addRecipe_78 rfl rfl (Nat.le_of_ble_eq_true rfl) (Nat.le_of_ble_eq_true rfl) (Kc.wk (wk0 (wk0 (wk0 (wk1 (wk0 (wk0 wkN)) (by decide))))) s_X6_init) ?_
          refine Ec.astore dX10_addRecipe_81 (by decide) (Nat.le_of_ble_eq_true rfl) ?_
          refine Ec.aload_n (i := 0) dX10_addRecipe_83 rfl rfl (Nat.le_of_ble_eq_true rfl) ?_
          refine Ec.gL (ci := 13) (k := 1) (t := 2) 1 (fun h _ => ⟨h.2.1.2.1, by decide⟩) rfl (by decide) rfl (by decide) (by decide) (tb1 (i := 185) rfl) (Or.inl rfl) rfl dX10_addRecipe_84 ?_
          refine Ec.aload dX10_addRecipe_87 rfl (Nat.le_of_ble_eq_true rfl) ?_
          obtain ⟨o11, hok⟩ := hok
          refine Ec.cf (as := [(9, c.1 9)]) (c1 := (clst (g_X6_init (c.1 9) ((c.2.2.1 1).length : Int) s (lget (c.2.2.1 0) s) f a (cnew c 9)) 1 ((g_X6_init (c.1 9) ((c.2.2.1 1).length : Int) s (lget (c.2.2.1 0) s) f a (cnew c 9)).2.2.1 1 ++ [c.1 9]))) kf_Jx4a65c_add_9ea2d (tb1 (i := 113) rfl) dX10_addRecipe_89 rfl rfl (Nat.le_of_ble_eq_true rfl) (Nat.le_of_ble_eq_true rfl) (kl_add rfl o11 (by decide)) ?_
          refine Ec.pop dX10_addRecipe_94 ?_
          refine Ec.aload dX10_addRecipe_95 rfl (Nat.le_of_ble_eq_true rfl) ?_
          refine Ec.gI (ci := 9) (k := 0) ((g_X6_init (c.1 9) ((c.2.2.1 1).length : Int) s (lget (c.2.2.1 0) s) f a (cnew c 9)).2.1 9 0 (c.1 9)) rfl rfl (by decide) (by decide) (tb2 (i := 138) rfl) (Or.inl rfl) rfl dX10_addRecipe_97 ?_
          exact Ec.iret rfl nar_i dX10_addRecipe_100 (by rw [g_X10_addRecipe, if_pos c2, if_pos c5, if_pos c8, if_pos c10]) (by rw [g_X10_addRecipe, if_pos c2, if_pos c5, if_pos c8, if_pos c10])
        · rw [if_neg c10] at hok
          refine Ec.icmp_lt_f (tgt := 60) dX10_addRecipe_47 (by decide) ⟨by omega, by omega⟩ ⟨by decide, by decide⟩ c10 ?_
          exact Ec.thr thr_ISE rfl rfl (Nat.le_of_ble_eq_true rfl) (Nat.le_of_ble_eq_true rfl) (tb2 (i := 124) rfl) dX10_addRecipe_50 dX10_addRecipe_53 dX10_addRecipe_54 dX10_addRecipe_56 dX10_addRecipe_59 (by rw [g_X10_addRecipe, if_pos c2, if_pos c5, if_pos c8, if_neg c10]) (by rw [g_X10_addRecipe, if_pos c2, if_pos c5, if_pos c8, if_neg c10])
      · rw [if_neg c8] at hok
        refine Ec.if_eq_f (tgt := 37) dX10_addRecipe_24 (by decide) ⟨by omega, by omega⟩ c8 ?_
        exact Ec.thr thr_IAE rfl rfl (Nat.le_of_ble_eq_true rfl) (Nat.le_of_ble_eq_true rfl) (tb2 (i := 114) rfl) dX10_addRecipe_27 dX10_addRecipe_30 dX10_addRecipe_31 dX10_addRecipe_33 dX10_addRecipe_36 (by rw [g_X10_addRecipe, if_pos c2, if_pos c5, if_neg c8]) (by rw [g_X10_addRecipe, if_pos c2, if_pos c5, if_neg c8])
    · rw [if_neg c5] at hok
      refine Ec.if_ne_t (tgt := 27) dX10_addRecipe_14 (by decide) ⟨by omega, by omega⟩ c5 ?_
      exact Ec.thr thr_IAE rfl rfl (Nat.le_of_ble_eq_true rfl) (Nat.le_of_ble_eq_true rfl) (tb2 (i := 114) rfl) dX10_addRecipe_27 dX10_addRecipe_30 dX10_addRecipe_31 dX10_addRecipe_33 dX10_addRecipe_36 (by rw [g_X10_addRecipe, if_pos c2, if_neg c5]) (by rw [g_X10_addRecipe, if_pos c2, if_neg c5])
  · exact Ec.cvx (E := "java/lang/IllegalArgumentException") (c1 := cexc c) (ci := 13) (as := [(0, s)]) k_X10_yeastOf rfl (by decide) (tb2 (i := 18) rfl) ki_X10_yeastOf kv_X10_yeastOf dX10_addRecipe_2 rfl rfl (Nat.le_of_ble_eq_true rfl) (Nat.le_of_ble_eq_true rfl) rfl (by have q := s_X10_yeastOf (X := X) (ρ := ρ) (c := c) (i := s) o1; rw [x_X10_yeastOf c2] at q; exact q) (by rw [g_X10_addRecipe, if_neg c2]) (by rw [g_X10_addRecipe, if_neg c2])
def g_X10_addVessel (k : Int) (c : Cs) : Rr × Cs :=
  if k = 102 then
    if ((c.2.2.1 2).length : Int) < 8 then
      (.inl (some (0, ((g_X7_init ((clst (g_X8_init (c.1 11) ((c.2.2.1 2).length : Int) k (cnew c 11)) 2 ((g_X8_init (c.1 11) ((c.2.2.1 2).length : Int) k (cnew c 11)).2.2.1 2 ++ [c.1 11])).1 10) (c.1 11) (cnew (clst (g_X8_init (c.1 11) ((c.2.2.1 2).length : Int) k (cnew c 11)) 2 ((g_X8_init (c.1 11) ((c.2.2.1 2).length : Int) k (cnew c 11)).2.2.1 2 ++ [c.1 11])) 10)).2.1 11 0 (c.1 11)))), (clst (g_X7_init ((clst (g_X8_init (c.1 11) ((c.2.2.1 2).length : Int) k (cnew c 11)) 2 ((g_X8_init (c.1 11) ((c.2.2.1 2).length : Int) k (cnew c 11)).2.2.1 2 ++ [c.1 11])).1 10) (c.1 11) (cnew (clst (g_X8_init (c.1 11) ((c.2.2.1 2).length : Int) k (cnew c 11)) 2 ((g_X8_init (c.1 11) ((c.2.2.1 2).length : Int) k (cnew c 11)).2.2.1 2 ++ [c.1 11])) 10)) 9 ((g_X7_init ((clst (g_X8_init (c.1 11) ((c.2.2.1 2).length : Int) k (cnew c 11)) 2 ((g_X8_init (c.1 11) ((c.2.2.1 2).length : Int) k (cnew c 11)).2.2.1 2 ++ [c.1 11])).1 10) (c.1 11) (cnew (clst (g_X8_init (c.1 11) ((c.2.2.1 2).length : Int) k (cnew c 11)) 2 ((g_X8_init (c.1 11) ((c.2.2.1 2).length : Int) k (cnew c 11)).2.2.1 2 ++ [c.1 11])) 10)).2.2.1 9 ++ [(clst (g_X8_init (c.1 11) ((c.2.2.1 2).length : Int) k (cnew c 11)) 2 ((g_X8_init (c.1 11) ((c.2.2.1 2).length : Int) k (cnew c 11)).2.2.1 2 ++ [c.1 11])).1 10])))
    else
      (.inr "java/lang/IllegalStateException", (cexc c))
  else
    if k = 116 then
      if ((c.2.2.1 2).length : Int) < 8 then
        (.inl (some (0, ((g_X8_init (c.1 11) ((c.2.2.1 2).length : Int) k (cnew c 11)).2.1 11 0 (c.1 11)))), (clst (g_X8_init (c.1 11) ((c.2.2.1 2).length : Int) k (cnew c 11)) 2 ((g_X8_init (c.1 11) ((c.2.2.1 2).length : Int) k (cnew c 11)).2.2.1 2 ++ [c.1 11])))
      else
        (.inr "java/lang/IllegalStateException", (cexc c))
    else
      (.inr "java/lang/IllegalArgumentException", (cexc c))
def ok_X10_addVessel (k : Int) (c : Cs) : Prop :=
  R32 k ∧ (
    if k = 102 then
      if ((c.2.2.1 2).length : Int) < 8 then
        ok_X8_init (c.1 11) ((c.2.2.1 2).length : Int) k (cnew c 11) ∧ (
          (((g_X8_init (c.1 11) ((c.2.2.1 2).length : Int) k (cnew c 11)).2.2.1 2).length : Int) ≤ 199 ∧ (
            (((g_X7_init ((clst (g_X8_init (c.1 11) ((c.2.2.1 2).length : Int) k (cnew c 11)) 2 ((g_X8_init (c.1 11) ((c.2.2.1 2).length : Int) k (cnew c 11)).2.2.1 2 ++ [c.1 11])).1 10) (c.1 11) (cnew (clst (g_X8_init (c.1 11) ((c.2.2.1 2).length : Int) k (cnew c 11)) 2 ((g_X8_init (c.1 11) ((c.2.2.1 2).length : Int) k (cnew c 11)).2.2.1 2 ++ [c.1 11])) 10)).2.2.1 9).length : Int) ≤ 199 ∧ (
              True)))
      else
        True
    else
      if k = 116 then
        if ((c.2.2.1 2).length : Int) < 8 then
          ok_X8_init (c.1 11) ((c.2.2.1 2).length : Int) k (cnew c 11) ∧ (
            (((g_X8_init (c.1 11) ((c.2.2.1 2).length : Int) k (cnew c 11)).2.2.1 2).length : Int) ≤ 199 ∧ (
              True))
        else
          True
      else
        True)
theorem s_X10_addVessel {X : Cx} {ρ : Hp} {k : Int} {c : Cs} (hok : ok_X10_addVessel k c) : Kc X ρ m_X10_addVessel 7 [(13, 0), (0, k)] c ((g_X10_addVessel k c)).1 ((g_X10_addVessel k c)).2 := by
  refine Kc.of (by decide +kernel) rfl (Nat.le_of_ble_eq_true rfl) ?_
  rw [ok_X10_addVessel] at hok
  refine Ec.iload_n (i := 1) dX10_addVessel_0 rfl rfl ?_
  refine Ec.bipush dX10_addVessel_1 (by decide) ?_
  obtain ⟨o1, hok⟩ := hok
  by_cases c2 : k = 102
  · rw [if_pos c2] at hok
    refine Ec.icmp_eq_t (tgt := 22) dX10_addVessel_3 (by decide) o1 ⟨by decide, by decide⟩ c2 ?_
    refine Ec.aload_n (i := 0) dX10_addVessel_22 rfl rfl (Nat.le_of_ble_eq_true rfl) ?_
    refine Ec.gL (ci := 13) (k := 2) (t := 2) 2 (fun h _ => ⟨h.2.1.2.2.1, by decide⟩) rfl (by decide) rfl (by decide) (by decide) (tb1 (i := 186) rfl) (Or.inl rfl) rfl dX10_addVessel_23 ?_
    refine Ec.say (fun _ hL _ hs => ?_)
    have q3 : ((c.2.2.1 2).length : Int) ≤ 200 := hL _ (hs.hd.r ⟨Nat.le_of_ble_eq_true rfl, Nat.le_of_ble_eq_true rfl⟩).2.1 (hs.hd.r ⟨Nat.le_of_ble_eq_true rfl, Nat.le_of_ble_eq_true rfl⟩).2.2
    refine Ec.cf (as := []) kf_Jx4a65c_size_8abf5 (tb1 (i := 226) rfl) dX10_addVessel_26 rfl rfl (Nat.le_of_ble_eq_true rfl) (Nat.le_of_ble_eq_true rfl) kl_size ?_
    refine Ec.bipush dX10_addVessel_31 (by decide) ?_
    by_cases c4 : ((c.2.2.1 2).length : Int) < 8
    · rw [if_pos c4] at hok
      refine Ec.icmp_lt_t (tgt := 46) dX10_addVessel_33 (by decide) ⟨by omega, by omega⟩ ⟨by decide, by decide⟩ c4 ?_
      refine Ec.new (ci := 11) rfl (by decide) (by decide) (by decide) (tb2 (i := 168) rfl) (tb2 (i := 169) rfl) (tb1 (i := 19) rfl) dX10_addVessel_46 ?_
      refine Ec.dup dX10_addVessel_49 ?_
      refine Ec.aload_n (i := 0) dX10_addVessel_50 rfl rfl (Nat.le_of_ble_eq_true rfl) ?_
      refine Ec.gL (ci := 13) (k := 2) (t := 2) 2 (fun h _ => ⟨h.2.1.2.2.1, by decide⟩) rfl (by decide) rfl (by decide) (by decide) (tb1 (i := 186) rfl) (Or.inl rfl) rfl dX10_addVessel_51 ?_
      refine Ec.cf (as := []) kf_Jx4a65c_size_8abf5 (tb1 (i := 226) rfl) dX10_addVessel_54 rfl rfl (Nat.le_of_ble_eq_true rfl) (Nat.le_of_ble_eq_true rfl) kl_size ?_
      refine Ec.iload_n (i := 1) dX10_addVessel_59 rfl rfl ?_
      obtain ⟨o5, hok⟩ := hok
      refine Ec.ci (as := [(0, ((c.2.2.1 2).length : Int)), (0, k)]) k_X8_init rfl rfl (by decide) (tb2 (i := 170) rfl) ki_X8_init dX10_addVessel_60 rfl rfl (Nat.le_of_ble_eq_true rfl) (Nat.le_of_ble_eq_true rfl) (s_X8_init o5) ?_
      refine Ec.astore_n (i := 2) dX10_addVessel_63 rfl (by decide) (Nat.le_of_ble_eq_true rfl) ?_
      refine Ec.aload_n (i := 0) dX10_addVessel_64 rfl rfl (Nat.le_of_ble_eq_true rfl) ?_
      refine Ec.gL (ci := 13) (k := 2) (t := 2) 2 (fun h _ => ⟨h.2.1.2.2.1, by decide⟩) rfl (by decide) rfl (by decide) (by decide) (tb1 (i := 186) rfl) (Or.inl rfl) rfl dX10_addVessel_65 ?_
      refine Ec.aload_n (i := 2) dX10_addVessel_68 rfl rfl (Nat.le_of_ble_eq_true rfl) ?_
      obtain ⟨o6, hok⟩ := hok
      refine Ec.cf (as := [(11, c.1 11)]) (c1 := (clst (g_X8_init (c.1 11) ((c.2.2.1 2).length : Int) k (cnew c 11)) 2 ((g_X8_init (c.1 11) ((c.2.2.1 2).length : Int) k (cnew c 11)).2.2.1 2 ++ [c.1 11]))) kf_Jx4a65c_add_9ea2d (tb1 (i := 113) rfl) dX10_addVessel_69 rfl rfl (Nat.le_of_ble_eq_true rfl) (Nat.le_of_ble_eq_true rfl) (kl_add rfl o6 (by decide)) ?_
      refine Ec.pop dX10_addVessel_74 ?_
      refine Ec.iload_n (i := 1) dX10_addVessel_75 rfl rfl ?_
      refine Ec.bipush dX10_addVessel_76 (by decide) ?_
      refine Ec.icmp_ne_f (tgt := 102) dX10_addVessel_78 (by decide) o1 ⟨by decide, by decide⟩ (fun h => h c2) ?_
      refine Ec.aload_n (i := 0) dX10_addVessel_81 rfl rfl (Nat.le_of_ble_eq_true rfl) ?_
      refine Ec.gL (ci := 13) (k := 9) (t := 8) 0 (fun h _ => ⟨h.2.1.2.2.2.2.2.2.2.2.2, by decide⟩) rfl (by decide) rfl (by decide) (by decide) (tb1 (i := 193) rfl) (Or.inl rfl) rfl dX10_addVessel_82 ?_
      refine Ec.gL (ci := 8) (k := 0) (t := 2) 9 (fun h _ => ⟨h.2.2.1.1, by decide⟩) rfl (by decide) rfl (by decide) (by decide) (tb1 (i := 79) rfl) (Or.inl rfl) rfl dX10_addVessel_85 ?_
      refine Ec.new (ci := 10) rfl (by decide) (by decide) (by decide) (tb2 (i := 200) rfl) (tb2 (i := 201) rfl) (tb1 (i := 20) rfl) dX10_addVessel_88 ?_
      refine Ec.dup dX10_addVessel_91 ?_
      refine Ec.aload_n (i := 2) dX10_addVessel_92 rfl rfl (Nat.le_of_ble_eq_true rfl) ?_
      refine Ec.ci (as := [(11, c.1 11)]) k_X7_init rfl rfl (by decide) (tb2 (i := 202) rfl) ki_X7_init dX10_addVessel_93 rfl rfl (Nat.le_of_ble_eq_true rfl) (Nat.le_of_ble_eq_true rfl) (Kc.wk (wk0 (wk1 wkN (by decide))) s_X7_init) ?_
      obtain ⟨o7, hok⟩ := hok
      refine Ec.cf (as := [(10, (clst (g_X8_init (c.1 11) ((c.2.2.1 2).length : Int) k (cnew c 11)) 2 ((g_X8_init (c.1 11) ((c.2.2.1 2).length : Int) k (cnew c 11)).2.2.1 2 ++ [c.1 11])).1 10)]) (c1 := (clst (g_X7_init ((clst (g_X8_init (c.1 11) ((c.2.2.1 2).length : Int) k (cnew c 11)) 2 ((g_X8_init (c.1 11) ((c.2.2.1 2).length : Int) k (cnew c 11)).2.2.1 2 ++ [c.1 11])).1 10) (c.1 11) (cnew (clst (g_X8_init (c.1 11) ((c.2.2.1 2).length : Int) k (cnew c 11)) 2 ((g_X8_init (c.1 11) ((c.2.2.1 2).length : Int) k (cnew c 11)).2.2.1 2 ++ [c.1 11])) 10)) 9 ((g_X7_init ((clst (g_X8_init (c.1 11) ((c.2.2.1 2).length : Int) k (cnew c 11)) 2 ((g_X8_init (c.1 11) ((c.2.2.1 2).length : Int) k (cnew c 11)).2.2.1 2 ++ [c.1 11])).1 10) (c.1 11) (cnew (clst (g_X8_init (c.1 11) ((c.2.2.1 2).length : Int) k (cnew c 11)) 2 ((g_X8_init (c.1 11) ((c.2.2.1 2).length : Int) k (cnew c 11)).2.2.1 2 ++ [c.1 11])) 10)).2.2.1 9 ++ [(clst (g_X8_init (c.1 11) ((c.2.2.1 2).length : Int) k (cnew c 11)) 2 ((g_X8_init (c.1 11) ((c.2.2.1 2).length : Int) k (cnew c 11)).2.2.1 2 ++ [c.1 11])).1 10]))) kf_Jx4a65c_add_9ea2d (tb1 (i := 113) rfl) dX10_addVessel_96 rfl rfl (Nat.le_of_ble_eq_true rfl) (Nat.le_of_ble_eq_true rfl) (kl_add rfl o7 (by decide)) ?_
      refine Ec.pop dX10_addVessel_101 ?_
      refine Ec.aload_n (i := 2) dX10_addVessel_102 rfl rfl (Nat.le_of_ble_eq_true rfl) ?_
      refine Ec.gI (ci := 11) (k := 0) ((g_X7_init ((clst (g_X8_init (c.1 11) ((c.2.2.1 2).length : Int) k (cnew c 11)) 2 ((g_X8_init (c.1 11) ((c.2.2.1 2).length : Int) k (cnew c 11)).2.2.1 2 ++ [c.1 11])).1 10) (c.1 11) (cnew (clst (g_X8_init (c.1 11) ((c.2.2.1 2).length : Int) k (cnew c 11)) 2 ((g_X8_init (c.1 11) ((c.2.2.1 2).length : Int) k (cnew c 11)).2.2.1 2 ++ [c.1 11])) 10)).2.1 11 0 (c.1 11)) rfl rfl (by decide) (by decide) (tb2 (i := 175) rfl) (Or.inl rfl) rfl dX10_addVessel_103 ?_
      exact Ec.iret rfl nar_i dX10_addVessel_106 (by rw [g_X10_addVessel, if_pos c2, if_pos c4]) (by rw [g_X10_addVessel, if_pos c2, if_pos c4])
    · rw [if_neg c4] at hok
      refine Ec.icmp_lt_f (tgt := 46) dX10_addVessel_33 (by decide) ⟨by omega, by omega⟩ ⟨by decide, by decide⟩ c4 ?_
      exact Ec.thr thr_ISE rfl rfl (Nat.le_of_ble_eq_true rfl) (Nat.le_of_ble_eq_true rfl) (tb2 (i := 167) rfl) dX10_addVessel_36 dX10_addVessel_39 dX10_addVessel_40 dX10_addVessel_42 dX10_addVessel_45 (by rw [g_X10_addVessel, if_pos c2, if_neg c4]) (by rw [g_X10_addVessel, if_pos c2, if_neg c4])
  · rw [if_neg c2] at hok
    refine Ec.icmp_eq_f (tgt := 22) dX10_addVessel_3 (by decide) o1 ⟨by decide, by decide⟩ c2 ?_
    refine Ec.iload_n (i := 1) dX10_addVessel_6 rfl rfl ?_
    refine Ec.bipush dX10_addVessel_7 (by decide) ?_
    by_cases c8 : k = 116
    · rw [if_pos c8] at hok
      refine Ec.icmp_eq_t (tgt := 22) dX10_addVessel_9 (by decide) o1 ⟨by decide, by decide⟩ c8 ?_
      refine Ec.aload_n (i := 0) dX10_addVessel_22 rfl rfl (Nat.le_of_ble_eq_true rfl) ?_
      refine Ec.gL (ci := 13) (k := 2) (t := 2) 2 (fun h _ => ⟨h.2.1.2.2.1, by decide⟩) rfl (by decide) rfl (by decide) (by decide) (tb1 (i := 186) rfl) (Or.inl rfl) rfl dX10_addVessel_23 ?_
      refine Ec.say (fun _ hL _ hs => ?_)
      have q9 : ((c.2.2.1 2).length : Int) ≤ 200 := hL _ (hs.hd.r ⟨Nat.le_of_ble_eq_true rfl, Nat.le_of_ble_eq_true rfl⟩).2.1 (hs.hd.r ⟨Nat.le_of_ble_eq_true rfl, Nat.le_of_ble_eq_true rfl⟩).2.2
      refine Ec.cf (as := []) kf_Jx4a65c_size_8abf5 (tb1 (i := 226) rfl) dX10_addVessel_26 rfl rfl (Nat.le_of_ble_eq_true rfl) (Nat.le_of_ble_eq_true rfl) kl_size ?_
      refine Ec.bipush dX10_addVessel_31 (by decide) ?_
      by_cases c10 : ((c.2.2.1 2).length : Int) < 8
      · rw [if_pos c10] at hok
        refine Ec.icmp_lt_t (tgt := 46) dX10_addVessel_33 (by decide) ⟨by omega, by omega⟩ ⟨by decide, by decide⟩ c10 ?_
        refine Ec.new (ci := 11) rfl (by decide) (by decide) (by decide) (tb2 (i := 168) rfl) (tb2 (i := 169) rfl) (tb1 (i := 19) rfl) dX10_addVessel_46 ?_
        refine Ec.dup dX10_addVessel_49 ?_
        refine Ec.aload_n (i := 0) dX10_addVessel_50 rfl rfl (Nat.le_of_ble_eq_true rfl) ?_
        refine Ec.gL (ci := 13) (k := 2) (t := 2) 2 (fun h _ => ⟨h.2.1.2.2.1, by decide⟩) rfl (by decide) rfl (by decide) (by decide) (tb1 (i := 186) rfl) (Or.inl rfl) rfl dX10_addVessel_51 ?_
        refine Ec.cf (as := []) kf_Jx4a65c_size_8abf5 (tb1 (i := 226) rfl) dX10_addVessel_54 rfl rfl (Nat.le_of_ble_eq_true rfl) (Nat.le_of_ble_eq_true rfl) kl_size ?_
        refine Ec.iload_n (i := 1) dX10_addVessel_59 rfl rfl ?_
        obtain ⟨o11, hok⟩ := hok
        refine Ec.ci (as := [(0, ((c.2.2.1 2).length : Int)), (0, k)]) k_X8_init rfl rfl (by decide) (tb2 (i := 170) rfl) ki_X8_init dX10_addVessel_60 rfl rfl (Nat.le_of_ble_eq_true rfl) (Nat.le_of_ble_eq_true rfl) (s_X8_init o11) ?_
        refine Ec.astore_n (i := 2) dX10_addVessel_63 rfl (by decide) (Nat.le_of_ble_eq_true rfl) ?_
        refine Ec.aload_n (i := 0) dX10_addVessel_64 rfl rfl (Nat.le_of_ble_eq_true rfl) ?_
        refine Ec.gL (ci := 13) (k := 2) (t := 2) 2 (fun h _ => ⟨h.2.1.2.2.1, by decide⟩) rfl (by decide) rfl (by decide) (by decide) (tb1 (i := 186) rfl) (Or.inl rfl) rfl dX10_addVessel_65 ?_
        refine Ec.aload_n (i := 2) dX10_addVessel_68 rfl rfl (Nat.le_of_ble_eq_true rfl) ?_
        obtain ⟨o12, hok⟩ := hok
        refine Ec.cf (as := [(11, c.1 11)]) (c1 := (clst (g_X8_init (c.1 11) ((c.2.2.1 2).length : Int) k (cnew c 11)) 2 ((g_X8_init (c.1 11) ((c.2.2.1 2).length : Int) k (cnew c 11)).2.2.1 2 ++ [c.1 11]))) kf_Jx4a65c_add_9ea2d (tb1 (i := 113) rfl) dX10_addVessel_69 rfl rfl (Nat.le_of_ble_eq_true rfl) (Nat.le_of_ble_eq_true rfl) (kl_add rfl o12 (by decide)) ?_
        refine Ec.pop dX10_addVessel_74 ?_
        refine Ec.iload_n (i := 1) dX10_addVessel_75 rfl rfl ?_
        refine Ec.bipush dX10_addVessel_76 (by decide) ?_
        refine Ec.icmp_ne_t (tgt := 102) dX10_addVessel_78 (by decide) o1 ⟨by decide, by decide⟩ c2 ?_
        refine Ec.aload_n (i := 2) dX10_addVessel_102 rfl rfl (Nat.le_of_ble_eq_true rfl) ?_
        refine Ec.gI (ci := 11) (k := 0) ((g_X8_init (c.1 11) ((c.2.2.1 2).length : Int) k (cnew c 11)).2.1 11 0 (c.1 11)) rfl rfl (by decide) (by decide) (tb2 (i := 175) rfl) (Or.inl rfl) rfl dX10_addVessel_103 ?_
        exact Ec.iret rfl nar_i dX10_addVessel_106 (by rw [g_X10_addVessel, if_neg c2, if_pos c8, if_pos c10]) (by rw [g_X10_addVessel, if_neg c2, if_pos c8, if_pos c10])
      · rw [if_neg c10] at hok
        refine Ec.icmp_lt_f (tgt := 46) dX10_addVessel_33 (by decide) ⟨by omega, by omega⟩ ⟨by decide, by decide⟩ c10 ?_
        exact Ec.thr thr_ISE rfl rfl (Nat.le_of_ble_eq_true rfl) (Nat.le_of_ble_eq_true rfl) (tb2 (i := 167) rfl) dX10_addVessel_36 dX10_addVessel_39 dX10_addVessel_40 dX10_addVessel_42 dX10_addVessel_45 (by rw [g_X10_addVessel, if_neg c2, if_pos c8, if_neg c10]) (by rw [g_X10_addVessel, if_neg c2, if_pos c8, if_neg c10])
    · rw [if_neg c8] at hok
      refine Ec.icmp_eq_f (tgt := 22) dX10_addVessel_9 (by decide) o1 ⟨by decide, by decide⟩ c8 ?_
      exact Ec.thr thr_IAE rfl rfl (Nat.le_of_ble_eq_true rfl) (Nat.le_of_ble_eq_true rfl) (tb2 (i := 166) rfl) dX10_addVessel_12 dX10_addVessel_15 dX10_addVessel_16 dX10_addVessel_18 dX10_addVessel_21 (by rw [g_X10_addVessel, if_neg c2, if_neg c8]) (by rw [g_X10_addVessel, if_neg c2, if_neg c8])
def g_X10_setCrews (n : Int) (c : Cs) : Rr × Cs :=
  if (g_X10_isOutside n 0 3 c) = 0 then
    (.inl (some (0, (c.2.1 13 10 0))), (cput c 13 10 0 n))
  else
    (.inr "java/lang/IllegalArgumentException", (cexc c))
def ok_X10_setCrews (n : Int) (c : Cs) : Prop :=
  ok_X10_isOutside n 0 3 c ∧ (
    True)
theorem s_X10_setCrews {X : Cx} {ρ : Hp} {n : Int} {c : Cs} (hok : ok_X10_setCrews n c) : Kc X ρ m_X10_setCrews 6 [(13, 0), (0, n)] c ((g_X10_setCrews n c)).1 ((g_X10_setCrews n c)).2 := by
  refine Kc.of (by decide +kernel) rfl (Nat.le_of_ble_eq_true rfl) ?_
  rw [ok_X10_setCrews] at hok
  refine Ec.iload_n (i := 1) dX10_setCrews_0 rfl rfl ?_
  refine Ec.const dX10_setCrews_1 ?_
  refine Ec.const dX10_setCrews_2 ?_
  obtain ⟨o1, hok⟩ := hok
  refine Ec.cs (as := [(0, n), (0, 0), (0, 3)]) k_X10_isOutside (tb2 (i := 111) rfl) ki_X10_isOutside dX10_setCrews_3 rfl rfl (Nat.le_of_ble_eq_true rfl) (Nat.le_of_ble_eq_true rfl) (s_X10_isOutside o1) ?_
  have q2 : 0 ≤ (g_X10_isOutside n 0 3 c) ∧ (g_X10_isOutside n 0 3 c) ≤ 1 := r_X10_isOutside
  by_cases c3 : (g_X10_isOutside n 0 3 c) = 0
  · refine Ec.if_eq_t (tgt := 19) dX10_setCrews_6 (by decide) ⟨by omega, by omega⟩ c3 ?_
    refine Ec.aload_n (i := 0) dX10_setCrews_19 rfl rfl (Nat.le_of_ble_eq_true rfl) ?_
    refine Ec.gI (ci := 13) (k := 10) (c.2.1 13 10 0) rfl rfl (by decide) (by decide) (tb1 (i := 194) rfl) (Or.inl rfl) rfl dX10_setCrews_20 ?_
    refine Ec.istore_n (i := 2) dX10_setCrews_23 rfl (by decide) ?_
    refine Ec.aload_n (i := 0) dX10_setCrews_24 rfl rfl (Nat.le_of_ble_eq_true rfl) ?_
    refine Ec.iload_n (i := 1) dX10_setCrews_25 rfl rfl ?_
    refine Ec.pI (ci := 13) (k := 10) rfl rfl (by decide) (by decide) (tb1 (i := 194) rfl) (Or.inl rfl) (Or.inl rfl) rfl rfl rfl dX10_setCrews_26 ?_
    refine Ec.iload_n (i := 2) dX10_setCrews_29 rfl rfl ?_
    exact Ec.iret rfl nar_i dX10_setCrews_30 (by rw [g_X10_setCrews, if_pos c3]) (by rw [g_X10_setCrews, if_pos c3])
  · refine Ec.if_eq_f (tgt := 19) dX10_setCrews_6 (by decide) ⟨by omega, by omega⟩ c3 ?_
    exact Ec.thr thr_IAE rfl rfl (Nat.le_of_ble_eq_true rfl) (Nat.le_of_ble_eq_true rfl) (tb2 (i := 225) rfl) dX10_setCrews_9 dX10_setCrews_12 dX10_setCrews_13 dX10_setCrews_15 dX10_setCrews_18 (by rw [g_X10_setCrews, if_neg c3]) (by rw [g_X10_setCrews, if_neg c3])
def g_X10_addPacks (s n : Int) (c : Cs) : Rr × Cs :=
  if (0 ≤ s ∧ s < ((c.2.2.1 0).length : Int)) then
    if (g_X10_isOutside n 1 9 c) = 0 then
      (.inl (some (0, ((c.2.1 12 0 (lget (c.2.2.1 0) s)) + n))), (cput c 12 0 (lget (c.2.2.1 0) s) ((c.2.1 12 0 (lget (c.2.2.1 0) s)) + n)))
    else
      (.inr "java/lang/IllegalArgumentException", (cexc c))
  else
    (.inr "java/lang/IllegalArgumentException", (cexc c))
def ok_X10_addPacks (s n : Int) (c : Cs) : Prop :=
  ok_X10_yeastOf s c ∧ (
    if (0 ≤ s ∧ s < ((c.2.2.1 0).length : Int)) then
      ok_X10_isOutside n 1 9 c ∧ (
        True)
    else
      True)
theorem s_X10_addPacks {X : Cx} {ρ : Hp} {s n : Int} {c : Cs} (hok : ok_X10_addPacks s n c) : Kc X ρ m_X10_addPacks 7 [(13, 0), (0, s), (0, n)] c ((g_X10_addPacks s n c)).1 ((g_X10_addPacks s n c)).2 := by
  refine Kc.of (by decide +kernel) rfl (Nat.le_of_ble_eq_true rfl) ?_
  rw [ok_X10_addPacks] at hok
  refine Ec.aload_n (i := 0) dX10_addPacks_0 rfl rfl (Nat.le_of_ble_eq_true rfl) ?_
  refine Ec.iload_n (i := 1) dX10_addPacks_1 rfl rfl ?_
  obtain ⟨o1, hok⟩ := hok
  by_cases c2 : (0 ≤ s ∧ s < ((c.2.2.1 0).length : Int))
  · rw [if_pos c2] at hok
    refine Ec.cv (v := some (12, (lget (c.2.2.1 0) s))) (c1 := c) (ci := 13) (as := [(0, s)]) k_X10_yeastOf rfl (by decide) (tb2 (i := 18) rfl) ki_X10_yeastOf kv_X10_yeastOf dX10_addPacks_2 rfl rfl (Nat.le_of_ble_eq_true rfl) (Nat.le_of_ble_eq_true rfl) (by have q := s_X10_yeastOf (X := X) (ρ := ρ) (c := c) (i := s) o1; rw [t_X10_yeastOf c2] at q; exact q) ?_
    refine Ec.astore_n (i := 3) dX10_addPacks_5 rfl (by decide) (Nat.le_of_ble_eq_true rfl) ?_
    refine Ec.iload_n (i := 2) dX10_addPacks_6 rfl rfl ?_
    refine Ec.const dX10_addPacks_7 ?_
    refine Ec.bipush dX10_addPacks_8 (by decide) ?_
    obtain ⟨o3, hok⟩ := hok
    refine Ec.cs (as := [(0, n), (0, 1), (0, 9)]) k_X10_isOutside (tb2 (i := 111) rfl) ki_X10_isOutside dX10_addPacks_10 rfl rfl (Nat.le_of_ble_eq_true rfl) (Nat.le_of_ble_eq_true rfl) (s_X10_isOutside o3) ?_
    have q4 : 0 ≤ (g_X10_isOutside n 1 9 c) ∧ (g_X10_isOutside n 1 9 c) ≤ 1 := r_X10_isOutside
    by_cases c5 : (g_X10_isOutside n 1 9 c) = 0
    · refine Ec.if_eq_t (tgt := 26) dX10_addPacks_13 (by decide) ⟨by omega, by omega⟩ c5 ?_
      refine Ec.aload_n (i := 3) dX10_addPacks_26 rfl rfl (Nat.le_of_ble_eq_true rfl) ?_
      refine Ec.dup dX10_addPacks_27 ?_
      refine Ec.gI (ci := 12) (k := 0) (c.2.1 12 0 (lget (c.2.2.1 0) s)) rfl rfl (by decide) (by decide) (tb1 (i := 105) rfl) (Or.inl rfl) rfl dX10_addPacks_28 ?_
      refine Ec.iload_n (i := 2) dX10_addPacks_31 rfl rfl ?_
      refine Ec.add dX10_addPacks_32 ?_
      refine Ec.pI (ci := 12) (k := 0) rfl rfl (by decide) (by decide) (tb1 (i := 105) rfl) (Or.inl rfl) (Or.inl rfl) rfl rfl rfl dX10_addPacks_33 ?_
      refine Ec.aload_n (i := 3) dX10_addPacks_36 rfl rfl (Nat.le_of_ble_eq_true rfl) ?_
      refine Ec.gI (ci := 12) (k := 0) (((c.2.1 12 0 (lget (c.2.2.1 0) s)) + n)) (cput_eq c 12 0 (lget (c.2.2.1 0) s) ((c.2.1 12 0 (lget (c.2.2.1 0) s)) + n)) rfl (by decide) (by decide) (tb1 (i := 105) rfl) (Or.inl rfl) rfl dX10_addPacks_37 ?_
      exact Ec.iret rfl nar_i dX10_addPacks_40 (by rw [g_X10_addPacks, if_pos c2, if_pos c5]) (by rw [g_X10_addPacks, if_pos c2, if_pos c5])
    · refine Ec.if_eq_f (tgt := 26) dX10_addPacks_13 (by decide) ⟨by omega, by omega⟩ c5 ?_
      exact Ec.thr thr_IAE rfl rfl (Nat.le_of_ble_eq_true rfl) (Nat.le_of_ble_eq_true rfl) (tb2 (i := 233) rfl) dX10_addPacks_16 dX10_addPacks_19 dX10_addPacks_20 dX10_addPacks_22 dX10_addPacks_25 (by rw [g_X10_addPacks, if_pos c2, if_neg c5]) (by rw [g_X10_addPacks, if_pos c2, if_neg c5])
  · exact Ec.cvx (E := "java/lang/IllegalArgumentException") (c1 := cexc c) (ci := 13) (as := [(0, s)]) k_X10_yeastOf rfl (by decide) (tb2 (i := 18) rfl) ki_X10_yeastOf kv_X10_yeastOf dX10_addPacks_2 rfl rfl (Nat.le_of_ble_eq_true rfl) (Nat.le_of_ble_eq_true rfl) rfl (by have q := s_X10_yeastOf (X := X) (ρ := ρ) (c := c) (i := s) o1; rw [x_X10_yeastOf c2] at q; exact q) (by rw [g_X10_addPacks, if_neg c2]) (by rw [g_X10_addPacks, if_neg c2])
def g_X10_brew (r w : Int) (c : Cs) : Rr × Cs :=
  if (0 ≤ r ∧ r < ((c.2.2.1 1).length : Int)) then
    if (0 ≤ w ∧ w < ((c.2.2.1 2).length : Int)) then
      if (c.2.1 11 1 (lget (c.2.2.1 2) w)) = 116 then
        (.inr "java/lang/UnsupportedOperationException", (cexc c))
      else
        if (c.2.1 11 2 (lget (c.2.2.1 2) w)) = 99 then
          if (g_X10_isFullyBooked c) = 0 then
            if (g_X9_isThere (c.2.1 9 2 (lget (c.2.2.1 1) r)) (c.2.1 13 11 0) c) = 0 then
              (.inr "java/util/NoSuchElementException", (cexc c))
            else
              (.inl (some (0, (g_X10_startBrew (lget (c.2.2.1 1) r) (lget (c.2.2.1 2) w) c).1)), (g_X10_startBrew (lget (c.2.2.1 1) r) (lget (c.2.2.1 2) w) c).2)
          else
            (.inr "java/lang/IllegalStateException", (cexc c))
        else
          (.inr "java/lang/IllegalStateException", (cexc c))
    else
      (.inr "java/lang/IndexOutOfBoundsException", (cexc c))
  else
    (.inr "java/lang/IndexOutOfBoundsException", (cexc c))
def ok_X10_brew (r w : Int) (c : Cs) : Prop :=
  ok_X10_recipeAt r c ∧ (
    if (0 ≤ r ∧ r < ((c.2.2.1 1).length : Int)) then
      ok_X10_vesselAt w c ∧ (
        if (0 ≤ w ∧ w < ((c.2.2.1 2).length : Int)) then
          R32 (c.2.1 11 1 (lget (c.2.2.1 2) w)) ∧ (
            if (c.2.1 11 1 (lget (c.2.2.1 2) w)) = 116 then
              True
            else
              R32 (c.2.1 11 2 (lget (c.2.2.1 2) w)) ∧ (
                if (c.2.1 11 2 (lget (c.2.2.1 2) w)) = 99 then
                  ok_X10_isFullyBooked c ∧ (
                    if (g_X10_isFullyBooked c) = 0 then
                      (c.2.1 9 2 (lget (c.2.2.1 1) r)) ≠ -1 ∧ (
                        ok_X9_isThere (c.2.1 9 2 (lget (c.2.2.1 1) r)) (c.2.1 13 11 0) c ∧ (
                          if (g_X9_isThere (c.2.1 9 2 (lget (c.2.2.1 1) r)) (c.2.1 13 11 0) c) = 0 then
                            True
                          else
                            ok_X10_startBrew (lget (c.2.2.1 1) r) (lget (c.2.2.1 2) w) c ∧ (
                              True)))
                    else
                      True)
                else
                  True))
        else
          True)
    else
      True)
theorem s_X10_brew {X : Cx} {ρ : Hp} {r w : Int} {c : Cs} (hok : ok_X10_brew r w c) : Kc X ρ m_X10_brew 8 [(13, 0), (0, r), (0, w)] c ((g_X10_brew r w c)).1 ((g_X10_brew r w c)).2 := by
  refine Kc.of (by decide +kernel) rfl (Nat.le_of_ble_eq_true rfl) ?_
  rw [ok_X10_brew] at hok
  refine Ec.aload_n (i := 0) dX10_brew_0 rfl rfl (Nat.le_of_ble_eq_true rfl) ?_
  refine Ec.iload_n (i := 1) dX10_brew_1 rfl rfl ?_
  obtain ⟨o1, hok⟩ := hok
  by_cases c2 : (0 ≤ r ∧ r < ((c.2.2.1 1).length : Int))
  · rw [if_pos c2] at hok
    refine Ec.cv (v := some (9, (lget (c.2.2.1 1) r))) (c1 := c) (ci := 13) (as := [(0, r)]) k_X10_recipeAt rfl (by decide) (tb3 (i := 4) rfl) ki_X10_recipeAt kv_X10_recipeAt dX10_brew_2 rfl rfl (Nat.le_of_ble_eq_true rfl) (Nat.le_of_ble_eq_true rfl) (by have q := s_X10_recipeAt (X := X) (ρ := ρ) (c := c) (i := r) o1; rw [t_X10_recipeAt c2] at q; exact q) ?_
    refine Ec.astore_n (i := 3) dX10_brew_5 rfl (by decide) (Nat.le_of_ble_eq_true rfl) ?_
    refine Ec.aload_n (i := 0) dX10_brew_6 rfl rfl (Nat.le_of_ble_eq_true rfl) ?_
    refine Ec.iload_n (i := 2) dX10_brew_7 rfl rfl ?_
    obtain ⟨o3, hok⟩ := hok
    by_cases c4 : (0 ≤ w ∧ w < ((c.2.2.1 2).length : Int))
    · rw [if_pos c4] at hok
      refine Ec.cv (v := some (11, (lget (c.2.2.1 2) w))) (c1 := c) (ci := 13) (as := [(0, w)]) k_X10_vesselAt rfl (by decide) (tb3 (i := 24) rfl) ki_X10_vesselAt kv_X10_vesselAt dX10_brew_8 rfl rfl (Nat.le_of_ble_eq_true rfl) (Nat.le_of_ble_eq_true rfl) (by have q := s_X10_vesselAt (X := X) (ρ := ρ) (c := c) (i := w) o3; rw [t_X10_vesselAt c4] at q; exact q) ?_
      refine Ec.astore dX10_brew_11 (by decide) (Nat.le_of_ble_eq_true rfl) ?_
      refine Ec.aload dX10_brew_13 rfl (Nat.le_of_ble_eq_true rfl) ?_
      refine Ec.gI (ci := 11) (k := 1) (c.2.1 11 1 (lget (c.2.2.1 2) w)) rfl rfl (by decide) (by decide) (tb2 (i := 177) rfl) (Or.inl rfl) rfl dX10_brew_15 ?_
      refine Ec.bipush dX10_brew_18 (by decide) ?_
      obtain ⟨o5, hok⟩ := hok
      by_cases c6 : (c.2.1 11 1 (lget (c.2.2.1 2) w)) = 116
      · rw [if_pos c6] at hok
        refine Ec.icmp_ne_f (tgt := 33) dX10_brew_20 (by decide) o5 ⟨by decide, by decide⟩ (fun h => h c6) ?_
        exact Ec.thr thr_UOE rfl rfl (Nat.le_of_ble_eq_true rfl) (Nat.le_of_ble_eq_true rfl) (tb3 (i := 38) rfl) dX10_brew_23 dX10_brew_26 dX10_brew_27 dX10_brew_29 dX10_brew_32 (by rw [g_X10_brew, if_pos c2, if_pos c4, if_pos c6]) (by rw [g_X10_brew, if_pos c2, if_pos c4, if_pos c6])
      · rw [if_neg c6] at hok
        refine Ec.icmp_ne_t (tgt := 33) dX10_brew_20 (by decide) o5 ⟨by decide, by decide⟩ c6 ?_
        refine Ec.aload dX10_brew_33 rfl (Nat.le_of_ble_eq_true rfl) ?_
        refine Ec.gI (ci := 11) (k := 2) (c.2.1 11 2 (lget (c.2.2.1 2) w)) rfl rfl (by decide) (by decide) (tb2 (i := 179) rfl) (Or.inl rfl) rfl dX10_brew_35 ?_
        refine Ec.bipush dX10_brew_38 (by decide) ?_
        obtain ⟨o7, hok⟩ := hok
        by_cases c8 : (c.2.1 11 2 (lget (c.2.2.1 2) w)) = 99
        · rw [if_pos c8] at hok
          refine Ec.icmp_ne_f (tgt := 50) dX10_brew_40 (by decide) o7 ⟨by decide, by decide⟩ (fun h => h c8) ?_
          refine Ec.aload_n (i := 0) dX10_brew_43 rfl rfl (Nat.le_of_ble_eq_true rfl) ?_
          obtain ⟨o9, hok⟩ := hok
          refine Ec.cv (ci := 13) (as := []) k_X10_isFullyBooked rfl (by decide) (tb3 (i := 45) rfl) ki_X10_isFullyBooked kv_X10_isFullyBooked dX10_brew_44 rfl rfl (Nat.le_of_ble_eq_true rfl) (Nat.le_of_ble_eq_true rfl) (s_X10_isFullyBooked o9) ?_
          have q10 : 0 ≤ (g_X10_isFullyBooked c) ∧ (g_X10_isFullyBooked c) ≤ 1 := r_X10_isFullyBooked
          by_cases c11 : (g_X10_isFullyBooked c) = 0
          · rw [if_pos c11] at hok
            refine Ec.if_eq_t (tgt := 60) dX10_brew_47 (by decide) ⟨by omega, by omega⟩ c11 ?_
            refine Ec.aload_n (i := 3) dX10_brew_60 rfl rfl (Nat.le_of_ble_eq_true rfl) ?_
            refine Ec.gQ (ci := 9) (k := 2) (t := 12) (c.2.1 9 2 (lget (c.2.2.1 1) r)) rfl rfl rfl (by decide) (by decide) (tb2 (i := 144) rfl) (Or.inl rfl) rfl dX10_brew_61 ?_
            obtain ⟨o12, hok⟩ := hok
            refine Ec.nns (t := 12) o12 (by decide) ?_
            refine Ec.aload_n (i := 0) dX10_brew_64 rfl rfl (Nat.le_of_ble_eq_true rfl) ?_
            refine Ec.gI (ci := 13) (k := 11) (c.2.1 13 11 0) rfl rfl (by decide) (by decide) (tb1 (i := 195) rfl) (Or.inl rfl) rfl dX10_brew_65 ?_
            obtain ⟨o13, hok⟩ := hok
            refine Ec.cv (ci := 12) (as := [(0, (c.2.1 13 11 0))]) k_X9_isThere rfl (by decide) (tb3 (i := 50) rfl) ki_X9_isThere kv_X9_isThere dX10_brew_68 rfl rfl (Nat.le_of_ble_eq_true rfl) (Nat.le_of_ble_eq_true rfl) (s_X9_isThere o13) ?_
            have q14 : 0 ≤ (g_X9_isThere (c.2.1 9 2 (lget (c.2.2.1 1) r)) (c.2.1 13 11 0) c) ∧ (g_X9_isThere (c.2.1 9 2 (lget (c.2.2.1 1) r)) (c.2.1 13 11 0) c) ≤ 1 := r_X9_isThere
            by_cases c15 : (g_X9_isThere (c.2.1 9 2 (lget (c.2.2.1 1) r)) (c.2.1 13 11 0) c) = 0
            · rw [if_pos c15] at hok
              refine Ec.if_ne_f (tgt := 84) dX10_brew_71 (by decide) ⟨by omega, by omega⟩ (fun h => h c15) ?_
              exact Ec.thr thr_NSE rfl rfl (Nat.le_of_ble_eq_true rfl) (Nat.le_of_ble_eq_true rfl) (tb3 (i := 76) rfl) dX10_brew_74 dX10_brew_77 dX10_brew_78 dX10_brew_80 dX10_brew_83 (by rw [g_X10_brew, if_pos c2, if_pos c4, if_neg c6, if_pos c8, if_pos c11, if_pos c15]) (by rw [g_X10_brew, if_pos c2, if_pos c4, if_neg c6, if_pos c8, if_pos c11, if_pos c15])
            · rw [if_neg c15] at hok
              refine Ec.if_ne_t (tgt := 84) dX10_brew_71 (by decide) ⟨by omega, by omega⟩ c15 ?_
              refine Ec.aload_n (i := 0) dX10_brew_84 rfl rfl (Nat.le_of_ble_eq_true rfl) ?_
              refine Ec.aload_n (i := 3) dX10_brew_85 rfl rfl (Nat.le_of_ble_eq_true rfl) ?_
              refine Ec.aload dX10_brew_86 rfl (Nat.le_of_ble_eq_true rfl) ?_
              obtain ⟨o16, hok⟩ := hok
              refine Ec.cv (ci := 13) (as := [(9, (lget (c.2.2.1 1) r)), (11, (lget (c.2.2.1 2) w))]) k_X10_startBrew rfl (by decide) (tb3 (i := 83) rfl) ki_X10_startBrew kv_X10_startBrew dX10_brew_88 rfl rfl (Nat.le_of_ble_eq_true rfl) (Nat.le_of_ble_eq_true rfl) (s_X10_startBrew o16) ?_
              exact Ec.iret rfl nar_i dX10_brew_91 (by rw [g_X10_brew, if_pos c2, if_pos c4, if_neg c6, if_pos c8, if_pos c11, if_neg c15]) (by rw [g_X10_brew, if_pos c2, if_pos c4, if_neg c6, if_pos c8, if_pos c11, if_neg c15])
          · rw [if_neg c11] at hok
            refine Ec.if_eq_f (tgt := 60) dX10_brew_47 (by decide) ⟨by omega, by omega⟩ c11 ?_
            exact Ec.thr thr_ISE rfl rfl (Nat.le_of_ble_eq_true rfl) (Nat.le_of_ble_eq_true rfl) (tb3 (i := 49) rfl) dX10_brew_50 dX10_brew_53 dX10_brew_54 dX10_brew_56 dX10_brew_59 (by rw [g_X10_brew, if_pos c2, if_pos c4, if_neg c6, if_pos c8, if_neg c11]) (by rw [g_X10_brew, if_pos c2, if_pos c4, if_neg c6, if_pos c8, if_neg c11])
        · rw [if_neg c8] at hok
          refine Ec.icmp_ne_t (tgt := 50) dX10_brew_40 (by decide) o7 ⟨by decide, by decide⟩ c8 ?_
          exact Ec.thr thr_ISE rfl rfl (Nat.le_of_ble_eq_true rfl) (Nat.le_of_ble_eq_true rfl) (tb3 (i := 49) rfl) dX10_brew_50 dX10_brew_53 dX10_brew_54 dX10_brew_56 dX10_brew_59 (by rw [g_X10_brew, if_pos c2, if_pos c4, if_neg c6, if_neg c8]) (by rw [g_X10_brew, if_pos c2, if_pos c4, if_neg c6, if_neg c8])
    · exact Ec.cvx (E := "java/lang/IndexOutOfBoundsException") (c1 := cexc c) (ci := 13) (as := [(0, w)]) k_X10_vesselAt rfl (by decide) (tb3 (i := 24) rfl) ki_X10_vesselAt kv_X10_vesselAt dX10_brew_8 rfl rfl (Nat.le_of_ble_eq_true rfl) (Nat.le_of_ble_eq_true rfl) rfl (by have q := s_X10_vesselAt (X := X) (ρ := ρ) (c := c) (i := w) o3; rw [x_X10_vesselAt c4] at q; exact q) (by rw [g_X10_brew, if_pos c2, if_neg c4]) (by rw [g_X10_brew, if_pos c2, if_neg c4])
  · exact Ec.cvx (E := "java/lang/IndexOutOfBoundsException") (c1 := cexc c) (ci := 13) (as := [(0, r)]) k_X10_recipeAt rfl (by decide) (tb3 (i := 4) rfl) ki_X10_recipeAt kv_X10_recipeAt dX10_brew_2 rfl rfl (Nat.le_of_ble_eq_true rfl) (Nat.le_of_ble_eq_true rfl) rfl (by have q := s_X10_recipeAt (X := X) (ρ := ρ) (c := c) (i := r) o1; rw [x_X10_recipeAt c2] at q; exact q) (by rw [g_X10_brew, if_neg c2]) (by rw [g_X10_brew, if_neg c2])
def g_X10_enqueue (r : Int) (c : Cs) : Rr × Cs :=
  if (0 ≤ r ∧ r < ((c.2.2.1 1).length : Int)) then
    if 6 ≤ ((c.2.2.1 4).length : Int) then
      (.inr "java/lang/IllegalStateException", (cexc c))
    else
      if (g_X10_isFullyBooked c) = 0 then
        (.inl (some (0, (((clst c 4 (c.2.2.1 4 ++ [(lget (c.2.2.1 1) r)])).2.2.1 4).length : Int))), (clst c 4 (c.2.2.1 4 ++ [(lget (c.2.2.1 1) r)])))
      else
        (.inr "java/lang/IllegalStateException", (cexc c))
  else
    (.inr "java/lang/IndexOutOfBoundsException", (cexc c))
def ok_X10_enqueue (r : Int) (c : Cs) : Prop :=
  ok_X10_recipeAt r c ∧ (
    if (0 ≤ r ∧ r < ((c.2.2.1 1).length : Int)) then
      if 6 ≤ ((c.2.2.1 4).length : Int) then
        True
      else
        ok_X10_isFullyBooked c ∧ (
          if (g_X10_isFullyBooked c) = 0 then
            ((c.2.2.1 4).length : Int) ≤ 199 ∧ (
              True)
          else
            True)
    else
      True)
theorem s_X10_enqueue {X : Cx} {ρ : Hp} {r : Int} {c : Cs} (hok : ok_X10_enqueue r c) : Kc X ρ m_X10_enqueue 7 [(13, 0), (0, r)] c ((g_X10_enqueue r c)).1 ((g_X10_enqueue r c)).2 := by
  refine Kc.of (by decide +kernel) rfl (Nat.le_of_ble_eq_true rfl) ?_
  rw [ok_X10_enqueue] at hok
  refine Ec.aload_n (i := 0) dX10_enqueue_0 rfl rfl (Nat.le_of_ble_eq_true rfl) ?_
  refine Ec.iload_n (i := 1) dX10_enqueue_1 rfl rfl ?_
  obtain ⟨o1, hok⟩ := hok
  by_cases c2 : (0 ≤ r ∧ r < ((c.2.2.1 1).length : Int))
  · rw [if_pos c2] at hok
    refine Ec.cv (v := some (9, (lget (c.2.2.1 1) r))) (c1 := c) (ci := 13) (as := [(0, r)]) k_X10_recipeAt rfl (by decide) (tb3 (i := 4) rfl) ki_X10_recipeAt kv_X10_recipeAt dX10_enqueue_2 rfl rfl (Nat.le_of_ble_eq_true rfl) (Nat.le_of_ble_eq_true rfl) (by have q := s_X10_recipeAt (X := X) (ρ := ρ) (c := c) (i := r) o1; rw [t_X10_recipeAt c2] at q; exact q) ?_
    refine Ec.astore_n (i := 2) dX10_enqueue_5 rfl (by decide) (Nat.le_of_ble_eq_true rfl) ?_
    refine Ec.aload_n (i := 0) dX10_enqueue_6 rfl rfl (Nat.le_of_ble_eq_true rfl) ?_
    refine Ec.gL (ci := 13) (k := 4) (t := 2) 4 (fun h _ => ⟨h.2.1.2.2.2.2.1, by decide⟩) rfl (by decide) rfl (by decide) (by decide) (tb1 (i := 188) rfl) (Or.inl rfl) rfl dX10_enqueue_7 ?_
    refine Ec.say (fun _ hL _ hs => ?_)
    have q3 : ((c.2.2.1 4).length : Int) ≤ 200 := hL _ (hs.hd.r ⟨Nat.le_of_ble_eq_true rfl, Nat.le_of_ble_eq_true rfl⟩).2.1 (hs.hd.r ⟨Nat.le_of_ble_eq_true rfl, Nat.le_of_ble_eq_true rfl⟩).2.2
    refine Ec.cf (as := []) kf_Jx4a65c_size_8abf5 (tb1 (i := 226) rfl) dX10_enqueue_10 rfl rfl (Nat.le_of_ble_eq_true rfl) (Nat.le_of_ble_eq_true rfl) kl_size ?_
    refine Ec.bipush dX10_enqueue_15 (by decide) ?_
    by_cases c4 : 6 ≤ ((c.2.2.1 4).length : Int)
    · rw [if_pos c4] at hok
      refine Ec.icmp_ge_t (tgt := 27) dX10_enqueue_17 (by decide) ⟨by omega, by omega⟩ ⟨by decide, by decide⟩ c4 ?_
      exact Ec.thr thr_ISE rfl rfl (Nat.le_of_ble_eq_true rfl) (Nat.le_of_ble_eq_true rfl) (tb3 (i := 158) rfl) dX10_enqueue_27 dX10_enqueue_30 dX10_enqueue_31 dX10_enqueue_33 dX10_enqueue_36 (by rw [g_X10_enqueue, if_pos c2, if_pos c4]) (by rw [g_X10_enqueue, if_pos c2, if_pos c4])
    · rw [if_neg c4] at hok
      refine Ec.icmp_ge_f (tgt := 27) dX10_enqueue_17 (by decide) ⟨by omega, by omega⟩ ⟨by decide, by decide⟩ c4 ?_
      refine Ec.aload_n (i := 0) dX10_enqueue_20 rfl rfl (Nat.le_of_ble_eq_true rfl) ?_
      obtain ⟨o5, hok⟩ := hok
      refine Ec.cv (ci := 13) (as := []) k_X10_isFullyBooked rfl (by decide) (tb3 (i := 45) rfl) ki_X10_isFullyBooked kv_X10_isFullyBooked dX10_enqueue_21 rfl rfl (Nat.le_of_ble_eq_true rfl) (Nat.le_of_ble_eq_true rfl) (s_X10_isFullyBooked o5) ?_
      have q6 : 0 ≤ (g_X10_isFullyBooked c) ∧ (g_X10_isFullyBooked c) ≤ 1 := r_X10_isFullyBooked
      by_cases c7 : (g_X10_isFullyBooked c) = 0
      · rw [if_pos c7] at hok
        refine Ec.if_eq_t (tgt := 37) dX10_enqueue_24 (by decide) ⟨by omega, by omega⟩ c7 ?_
        refine Ec.aload_n (i := 0) dX10_enqueue_37 rfl rfl (Nat.le_of_ble_eq_true rfl) ?_
        refine Ec.gL (ci := 13) (k := 4) (t := 2) 4 (fun h _ => ⟨h.2.1.2.2.2.2.1, by decide⟩) rfl (by decide) rfl (by decide) (by decide) (tb1 (i := 188) rfl) (Or.inl rfl) rfl dX10_enqueue_38 ?_
        refine Ec.aload_n (i := 2) dX10_enqueue_41 rfl rfl (Nat.le_of_ble_eq_true rfl) ?_
        obtain ⟨o8, hok⟩ := hok
        refine Ec.cf (as := [(9, (lget (c.2.2.1 1) r))]) (c1 := (clst c 4 (c.2.2.1 4 ++ [(lget (c.2.2.1 1) r)]))) kf_Jx4a65c_add_9ea2d (tb1 (i := 113) rfl) dX10_enqueue_42 rfl rfl (Nat.le_of_ble_eq_true rfl) (Nat.le_of_ble_eq_true rfl) (kl_add rfl o8 (by decide)) ?_
        refine Ec.pop dX10_enqueue_47 ?_
        refine Ec.aload_n (i := 0) dX10_enqueue_48 rfl rfl (Nat.le_of_ble_eq_true rfl) ?_
        refine Ec.gL (ci := 13) (k := 4) (t := 2) 4 (fun h _ => ⟨h.2.1.2.2.2.2.1, by decide⟩) rfl (by decide) rfl (by decide) (by decide) (tb1 (i := 188) rfl) (Or.inl rfl) rfl dX10_enqueue_49 ?_
        refine Ec.say (fun _ hL _ hs => ?_)
        have q9 : (((clst c 4 (c.2.2.1 4 ++ [(lget (c.2.2.1 1) r)])).2.2.1 4).length : Int) ≤ 200 := hL _ (hs.hd.r ⟨Nat.le_of_ble_eq_true rfl, Nat.le_of_ble_eq_true rfl⟩).2.1 (hs.hd.r ⟨Nat.le_of_ble_eq_true rfl, Nat.le_of_ble_eq_true rfl⟩).2.2
        refine Ec.cf (as := []) kf_Jx4a65c_size_8abf5 (tb1 (i := 226) rfl) dX10_enqueue_52 rfl rfl (Nat.le_of_ble_eq_true rfl) (Nat.le_of_ble_eq_true rfl) kl_size ?_
        exact Ec.iret rfl nar_i dX10_enqueue_57 (by rw [g_X10_enqueue, if_pos c2, if_neg c4, if_pos c7]) (by rw [g_X10_enqueue, if_pos c2, if_neg c4, if_pos c7])
      · rw [if_neg c7] at hok
        refine Ec.if_eq_f (tgt := 37) dX10_enqueue_24 (by decide) ⟨by omega, by omega⟩ c7 ?_
        exact Ec.thr thr_ISE rfl rfl (Nat.le_of_ble_eq_true rfl) (Nat.le_of_ble_eq_true rfl) (tb3 (i := 158) rfl) dX10_enqueue_27 dX10_enqueue_30 dX10_enqueue_31 dX10_enqueue_33 dX10_enqueue_36 (by rw [g_X10_enqueue, if_pos c2, if_neg c4, if_neg c7]) (by rw [g_X10_enqueue, if_pos c2, if_neg c4, if_neg c7])
  · exact Ec.cvx (E := "java/lang/IndexOutOfBoundsException") (c1 := cexc c) (ci := 13) (as := [(0, r)]) k_X10_recipeAt rfl (by decide) (tb3 (i := 4) rfl) ki_X10_recipeAt kv_X10_recipeAt dX10_enqueue_2 rfl rfl (Nat.le_of_ble_eq_true rfl) (Nat.le_of_ble_eq_true rfl) rfl (by have q := s_X10_recipeAt (X := X) (ρ := ρ) (c := c) (i := r) o1; rw [x_X10_recipeAt c2] at q; exact q) (by rw [g_X10_enqueue, if_neg c2]) (by rw [g_X10_enqueue, if_neg c2])
def g_X10_withdraw (i : Int) (c : Cs) : Rr × Cs :=
  if (0 ≤ i ∧ i < ((c.2.2.1 4).length : Int)) then
    (.inl (some (0, (c.2.1 9 0 (lget (c.2.2.1 4) i)))), (clst c 4 (remL (c.2.2.1 4) i.toNat)))
  else
    (.inr "java/util/NoSuchElementException", (cexc c))
def ok_X10_withdraw (i : Int) (c : Cs) : Prop :=
  ok_X10_queuedRecipe i c ∧ (
    if (0 ≤ i ∧ i < ((c.2.2.1 4).length : Int)) then
      ((0 : Int) ≤ i ∧ i < ((c.2.2.1 4).length : Int)) ∧ (
        True)
    else
      True)
theorem s_X10_withdraw {X : Cx} {ρ : Hp} {i : Int} {c : Cs} (hok : ok_X10_withdraw i c) : Kc X ρ m_X10_withdraw 7 [(13, 0), (0, i)] c ((g_X10_withdraw i c)).1 ((g_X10_withdraw i c)).2 := by
  refine Kc.of (by decide +kernel) rfl (Nat.le_of_ble_eq_true rfl) ?_
  rw [ok_X10_withdraw] at hok
  refine Ec.aload_n (i := 0) dX10_withdraw_0 rfl rfl (Nat.le_of_ble_eq_true rfl) ?_
  refine Ec.iload_n (i := 1) dX10_withdraw_1 rfl rfl ?_
  obtain ⟨o1, hok⟩ := hok
  by_cases c2 : (0 ≤ i ∧ i < ((c.2.2.1 4).length : Int))
  · rw [if_pos c2] at hok
    refine Ec.cv (v := some (9, (lget (c.2.2.1 4) i))) (c1 := c) (ci := 13) (as := [(0, i)]) k_X10_queuedRecipe rfl (by decide) (tb3 (i := 166) rfl) ki_X10_queuedRecipe kv_X10_queuedRecipe dX10_withdraw_2 rfl rfl (Nat.le_of_ble_eq_true rfl) (Nat.le_of_ble_eq_true rfl) (by have q := s_X10_queuedRecipe (X := X) (ρ := ρ) (c := c) (i := i) o1; rw [t_X10_queuedRecipe c2] at q; exact q) ?_
    refine Ec.gI (ci := 9) (k := 0) (c.2.1 9 0 (lget (c.2.2.1 4) i)) rfl rfl (by decide) (by decide) (tb2 (i := 138) rfl) (Or.inl rfl) rfl dX10_withdraw_5 ?_
    refine Ec.istore_n (i := 2) dX10_withdraw_8 rfl (by decide) ?_
    refine Ec.aload_n (i := 0) dX10_withdraw_9 rfl rfl (Nat.le_of_ble_eq_true rfl) ?_
    refine Ec.gL (ci := 13) (k := 4) (t := 2) 4 (fun h _ => ⟨h.2.1.2.2.2.2.1, by decide⟩) rfl (by decide) rfl (by decide) (by decide) (tb1 (i := 188) rfl) (Or.inl rfl) rfl dX10_withdraw_10 ?_
    refine Ec.iload_n (i := 1) dX10_withdraw_13 rfl rfl ?_
    obtain ⟨o3, hok⟩ := hok
    refine Ec.cf (as := [(0, i)]) (c1 := (clst c 4 (remL (c.2.2.1 4) i.toNat))) kf_Jx4a65c_remove_915e3 (tb3 (i := 172) rfl) dX10_withdraw_14 rfl rfl (Nat.le_of_ble_eq_true rfl) (Nat.le_of_ble_eq_true rfl) (kl_rem rfl o3) ?_
    refine Ec.pop dX10_withdraw_19 ?_
    refine Ec.iload_n (i := 2) dX10_withdraw_20 rfl rfl ?_
    exact Ec.iret rfl nar_i dX10_withdraw_21 (by rw [g_X10_withdraw, if_pos c2]) (by rw [g_X10_withdraw, if_pos c2])
  · exact Ec.cvx (E := "java/util/NoSuchElementException") (c1 := cexc c) (ci := 13) (as := [(0, i)]) k_X10_queuedRecipe rfl (by decide) (tb3 (i := 166) rfl) ki_X10_queuedRecipe kv_X10_queuedRecipe dX10_withdraw_2 rfl rfl (Nat.le_of_ble_eq_true rfl) (Nat.le_of_ble_eq_true rfl) rfl (by have q := s_X10_queuedRecipe (X := X) (ρ := ρ) (c := c) (i := i) o1; rw [x_X10_queuedRecipe c2] at q; exact q) (by rw [g_X10_withdraw, if_neg c2]) (by rw [g_X10_withdraw, if_neg c2])
def g_X10_queued (c : Cs) : Int :=
  ((c.2.2.1 4).length : Int)
theorem s_X10_queued {X : Cx} {ρ : Hp} {c : Cs} : Kc X ρ m_X10_queued 2 [(13, 0)] c (.inl (some (0, (g_X10_queued c)))) c := by
  refine Kc.of (by decide +kernel) rfl (Nat.le_of_ble_eq_true rfl) ?_
  refine Ec.aload_n (i := 0) dX10_queued_0 rfl rfl (Nat.le_of_ble_eq_true rfl) ?_
  refine Ec.gL (ci := 13) (k := 4) (t := 2) 4 (fun h _ => ⟨h.2.1.2.2.2.2.1, by decide⟩) rfl (by decide) rfl (by decide) (by decide) (tb1 (i := 188) rfl) (Or.inl rfl) rfl dX10_queued_1 ?_
  refine Ec.say (fun _ hL _ hs => ?_)
  have q1 : ((c.2.2.1 4).length : Int) ≤ 200 := hL _ (hs.hd.r ⟨Nat.le_of_ble_eq_true rfl, Nat.le_of_ble_eq_true rfl⟩).2.1 (hs.hd.r ⟨Nat.le_of_ble_eq_true rfl, Nat.le_of_ble_eq_true rfl⟩).2.2
  refine Ec.cf (as := []) kf_Jx4a65c_size_8abf5 (tb1 (i := 226) rfl) dX10_queued_4 rfl rfl (Nat.le_of_ble_eq_true rfl) (Nat.le_of_ble_eq_true rfl) kl_size ?_
  exact Ec.iret rfl nar_i dX10_queued_9 (by rw [g_X10_queued]) rfl
def g_X10_queuedAt (i : Int) (c : Cs) : Rr × Cs :=
  if (0 ≤ i ∧ i < ((c.2.2.1 4).length : Int)) then
    (.inl (some (0, (c.2.1 9 0 (lget (c.2.2.1 4) i)))), c)
  else
    (.inr "java/util/NoSuchElementException", (cexc c))
def ok_X10_queuedAt (i : Int) (c : Cs) : Prop :=
  ok_X10_queuedRecipe i c ∧ (
    True)
theorem s_X10_queuedAt {X : Cx} {ρ : Hp} {i : Int} {c : Cs} (hok : ok_X10_queuedAt i c) : Kc X ρ m_X10_queuedAt 7 [(13, 0), (0, i)] c ((g_X10_queuedAt i c)).1 ((g_X10_queuedAt i c)).2 := by
  refine Kc.of (by decide +kernel) rfl (Nat.le_of_ble_eq_true rfl) ?_
  rw [ok_X10_queuedAt] at hok
  refine Ec.aload_n (i := 0) dX10_queuedAt_0 rfl rfl (Nat.le_of_ble_eq_true rfl) ?_
  refine Ec.iload_n (i := 1) dX10_queuedAt_1 rfl rfl ?_
  obtain ⟨o1, hok⟩ := hok
  by_cases c2 : (0 ≤ i ∧ i < ((c.2.2.1 4).length : Int))
  · refine Ec.cv (v := some (9, (lget (c.2.2.1 4) i))) (c1 := c) (ci := 13) (as := [(0, i)]) k_X10_queuedRecipe rfl (by decide) (tb3 (i := 166) rfl) ki_X10_queuedRecipe kv_X10_queuedRecipe dX10_queuedAt_2 rfl rfl (Nat.le_of_ble_eq_true rfl) (Nat.le_of_ble_eq_true rfl) (by have q := s_X10_queuedRecipe (X := X) (ρ := ρ) (c := c) (i := i) o1; rw [t_X10_queuedRecipe c2] at q; exact q) ?_
    refine Ec.gI (ci := 9) (k := 0) (c.2.1 9 0 (lget (c.2.2.1 4) i)) rfl rfl (by decide) (by decide) (tb2 (i := 138) rfl) (Or.inl rfl) rfl dX10_queuedAt_5 ?_
    exact Ec.iret rfl nar_i dX10_queuedAt_8 (by rw [g_X10_queuedAt, if_pos c2]) (by rw [g_X10_queuedAt, if_pos c2])
  · exact Ec.cvx (E := "java/util/NoSuchElementException") (c1 := cexc c) (ci := 13) (as := [(0, i)]) k_X10_queuedRecipe rfl (by decide) (tb3 (i := 166) rfl) ki_X10_queuedRecipe kv_X10_queuedRecipe dX10_queuedAt_2 rfl rfl (Nat.le_of_ble_eq_true rfl) (Nat.le_of_ble_eq_true rfl) rfl (by have q := s_X10_queuedRecipe (X := X) (ρ := ρ) (c := c) (i := i) o1; rw [x_X10_queuedRecipe c2] at q; exact q) (by rw [g_X10_queuedAt, if_neg c2]) (by rw [g_X10_queuedAt, if_neg c2])
def g_X10_forecast (c : Cs) : Rr × Cs :=
  if (eb (c.2.2.1 4) = 0 ∧ eb (c.2.2.1 9) = 0) then
    (.inl (some (0, (g_X5_forecastOf 4 (c.2.1 13 11 0) c).1)), (g_X5_forecastOf 4 (c.2.1 13 11 0) c).2)
  else
    (.inr "java/util/NoSuchElementException", (cexc c))
def ok_X10_forecast (c : Cs) : Prop :=
  if (eb (c.2.2.1 4) = 0 ∧ eb (c.2.2.1 9) = 0) then
    ok_X5_forecastOf 4 (c.2.1 13 11 0) c ∧ (
      True)
  else
    True
theorem s_X10_forecast {X : Cx} {ρ : Hp} {c : Cs} (hok : ok_X10_forecast c) : Kc X ρ m_X10_forecast 7 [(13, 0)] c ((g_X10_forecast c)).1 ((g_X10_forecast c)).2 := by
  refine Kc.of (by decide +kernel) rfl (Nat.le_of_ble_eq_true rfl) ?_
  rw [ok_X10_forecast] at hok
  refine Ec.aload_n (i := 0) dX10_forecast_0 rfl rfl (Nat.le_of_ble_eq_true rfl) ?_
  by_cases c1 : (eb (c.2.2.1 4) = 0 ∧ eb (c.2.2.1 9) = 0)
  · rw [if_pos c1] at hok
    refine Ec.cv (v := none) (c1 := c) (ci := 13) (as := []) k_X10_checkForecast rfl (by decide) (tb3 (i := 187) rfl) ki_X10_checkForecast kv_X10_checkForecast dX10_forecast_1 rfl rfl (Nat.le_of_ble_eq_true rfl) (Nat.le_of_ble_eq_true rfl) (by have q := s_X10_checkForecast (X := X) (ρ := ρ) (c := c) ; rw [t_X10_checkForecast c1] at q; exact q) ?_
    refine Ec.aload_n (i := 0) dX10_forecast_4 rfl rfl (Nat.le_of_ble_eq_true rfl) ?_
    refine Ec.gL (ci := 13) (k := 9) (t := 8) 0 (fun h _ => ⟨h.2.1.2.2.2.2.2.2.2.2.2, by decide⟩) rfl (by decide) rfl (by decide) (by decide) (tb1 (i := 193) rfl) (Or.inl rfl) rfl dX10_forecast_5 ?_
    refine Ec.aload_n (i := 0) dX10_forecast_8 rfl rfl (Nat.le_of_ble_eq_true rfl) ?_
    refine Ec.gL (ci := 13) (k := 4) (t := 2) 4 (fun h _ => ⟨h.2.1.2.2.2.2.1, by decide⟩) rfl (by decide) rfl (by decide) (by decide) (tb1 (i := 188) rfl) (Or.inl rfl) rfl dX10_forecast_9 ?_
    refine Ec.aload_n (i := 0) dX10_forecast_12 rfl rfl (Nat.le_of_ble_eq_true rfl) ?_
    refine Ec.gI (ci := 13) (k := 11) (c.2.1 13 11 0) rfl rfl (by decide) (by decide) (tb1 (i := 195) rfl) (Or.inl rfl) rfl dX10_forecast_13 ?_
    obtain ⟨o2, hok⟩ := hok
    refine Ec.cv (ci := 8) (as := [(2, 4), (0, (c.2.1 13 11 0))]) k_X5_forecastOf rfl (by decide) (tb3 (i := 201) rfl) ki_X5_forecastOf kv_X5_forecastOf dX10_forecast_16 rfl rfl (Nat.le_of_ble_eq_true rfl) (Nat.le_of_ble_eq_true rfl) (s_X5_forecastOf o2) ?_
    exact Ec.iret rfl nar_i dX10_forecast_19 (by rw [g_X10_forecast, if_pos c1]) (by rw [g_X10_forecast, if_pos c1])
  · exact Ec.cvx (E := "java/util/NoSuchElementException") (c1 := cexc c) (ci := 13) (as := []) k_X10_checkForecast rfl (by decide) (tb3 (i := 187) rfl) ki_X10_checkForecast kv_X10_checkForecast dX10_forecast_1 rfl rfl (Nat.le_of_ble_eq_true rfl) (Nat.le_of_ble_eq_true rfl) rfl (by have q := s_X10_checkForecast (X := X) (ρ := ρ) (c := c) ; rw [x_X10_checkForecast c1] at q; exact q) (by rw [g_X10_forecast, if_neg c1]) (by rw [g_X10_forecast, if_neg c1])
def g_X10_bestForecast (c : Cs) : Rr × Cs :=
  if (eb (c.2.2.1 4) = 0 ∧ eb (c.2.2.1 9) = 0) then
    (.inl (some (0, (g_X5_findBest 4 (c.2.1 13 11 0) c).1)), (g_X5_findBest 4 (c.2.1 13 11 0) c).2)
  else
    (.inr "java/util/NoSuchElementException", (cexc c))
def ok_X10_bestForecast (c : Cs) : Prop :=
  if (eb (c.2.2.1 4) = 0 ∧ eb (c.2.2.1 9) = 0) then
    ok_X5_findBest 4 (c.2.1 13 11 0) c ∧ (
      True)
  else
    True
theorem s_X10_bestForecast {X : Cx} {ρ : Hp} {c : Cs} (hok : ok_X10_bestForecast c) : Kc X ρ m_X10_bestForecast 21 [(13, 0)] c ((g_X10_bestForecast c)).1 ((g_X10_bestForecast c)).2 := by
  refine Kc.of (by decide +kernel) rfl (Nat.le_of_ble_eq_true rfl) ?_
  rw [ok_X10_bestForecast] at hok
  refine Ec.aload_n (i := 0) dX10_bestForecast_0 rfl rfl (Nat.le_of_ble_eq_true rfl) ?_
  by_cases c1 : (eb (c.2.2.1 4) = 0 ∧ eb (c.2.2.1 9) = 0)
  · rw [if_pos c1] at hok
    refine Ec.cv (v := none) (c1 := c) (ci := 13) (as := []) k_X10_checkForecast rfl (by decide) (tb3 (i := 187) rfl) ki_X10_checkForecast kv_X10_checkForecast dX10_bestForecast_1 rfl rfl (Nat.le_of_ble_eq_true rfl) (Nat.le_of_ble_eq_true rfl) (by have q := s_X10_checkForecast (X := X) (ρ := ρ) (c := c) ; rw [t_X10_checkForecast c1] at q; exact q) ?_
    refine Ec.aload_n (i := 0) dX10_bestForecast_4 rfl rfl (Nat.le_of_ble_eq_true rfl) ?_
    refine Ec.gL (ci := 13) (k := 9) (t := 8) 0 (fun h _ => ⟨h.2.1.2.2.2.2.2.2.2.2.2, by decide⟩) rfl (by decide) rfl (by decide) (by decide) (tb1 (i := 193) rfl) (Or.inl rfl) rfl dX10_bestForecast_5 ?_
    refine Ec.aload_n (i := 0) dX10_bestForecast_8 rfl rfl (Nat.le_of_ble_eq_true rfl) ?_
    refine Ec.gL (ci := 13) (k := 4) (t := 2) 4 (fun h _ => ⟨h.2.1.2.2.2.2.1, by decide⟩) rfl (by decide) rfl (by decide) (by decide) (tb1 (i := 188) rfl) (Or.inl rfl) rfl dX10_bestForecast_9 ?_
    refine Ec.aload_n (i := 0) dX10_bestForecast_12 rfl rfl (Nat.le_of_ble_eq_true rfl) ?_
    refine Ec.gI (ci := 13) (k := 11) (c.2.1 13 11 0) rfl rfl (by decide) (by decide) (tb1 (i := 195) rfl) (Or.inl rfl) rfl dX10_bestForecast_13 ?_
    obtain ⟨o2, hok⟩ := hok
    refine Ec.cv (ci := 8) (as := [(2, 4), (0, (c.2.1 13 11 0))]) k_X5_findBest rfl (by decide) (tb4 (i := 0) rfl) ki_X5_findBest kv_X5_findBest dX10_bestForecast_16 rfl rfl (Nat.le_of_ble_eq_true rfl) (Nat.le_of_ble_eq_true rfl) (s_X5_findBest o2) ?_
    exact Ec.iret rfl nar_i dX10_bestForecast_19 (by rw [g_X10_bestForecast, if_pos c1]) (by rw [g_X10_bestForecast, if_pos c1])
  · exact Ec.cvx (E := "java/util/NoSuchElementException") (c1 := cexc c) (ci := 13) (as := []) k_X10_checkForecast rfl (by decide) (tb3 (i := 187) rfl) ki_X10_checkForecast kv_X10_checkForecast dX10_bestForecast_1 rfl rfl (Nat.le_of_ble_eq_true rfl) (Nat.le_of_ble_eq_true rfl) rfl (by have q := s_X10_checkForecast (X := X) (ρ := ρ) (c := c) ; rw [x_X10_checkForecast c1] at q; exact q) (by rw [g_X10_bestForecast, if_neg c1]) (by rw [g_X10_bestForecast, if_neg c1])
def g_X10_bestForecastByTrying (c : Cs) : Rr × Cs :=
  if (eb (c.2.2.1 4) = 0 ∧ eb (c.2.2.1 9) = 0) then
    (.inl (some (0, (g_X5_tryAll 4 (c.2.1 13 11 0) c).1)), (g_X5_tryAll 4 (c.2.1 13 11 0) c).2)
  else
    (.inr "java/util/NoSuchElementException", (cexc c))
def ok_X10_bestForecastByTrying (c : Cs) : Prop :=
  if (eb (c.2.2.1 4) = 0 ∧ eb (c.2.2.1 9) = 0) then
    ok_X5_tryAll 4 (c.2.1 13 11 0) c ∧ (
      True)
  else
    True
theorem s_X10_bestForecastByTrying {X : Cx} {ρ : Hp} {c : Cs} (hok : ok_X10_bestForecastByTrying c) : Kc X ρ m_X10_bestForecastByTrying 9 [(13, 0)] c ((g_X10_bestForecastByTrying c)).1 ((g_X10_bestForecastByTrying c)).2 := by
  refine Kc.of (by decide +kernel) rfl (Nat.le_of_ble_eq_true rfl) ?_
  rw [ok_X10_bestForecastByTrying] at hok
  refine Ec.aload_n (i := 0) dX10_bestForecastByTrying_0 rfl rfl (Nat.le_of_ble_eq_true rfl) ?_
  by_cases c1 : (eb (c.2.2.1 4) = 0 ∧ eb (c.2.2.1 9) = 0)
  · rw [if_pos c1] at hok
    refine Ec.cv (v := none) (c1 := c) (ci := 13) (as := []) k_X10_checkForecast rfl (by decide) (tb3 (i := 187) rfl) ki_X10_checkForecast kv_X10_checkForecast dX10_bestForecastByTrying_1 rfl rfl (Nat.le_of_ble_eq_true rfl) (Nat.le_of_ble_eq_true rfl) (by have q := s_X10_checkForecast (X := X) (ρ := ρ) (c := c) ; rw [t_X10_checkForecast c1] at q; exact q) ?_
    refine Ec.aload_n (i := 0) dX10_bestForecastByTrying_4 rfl rfl (Nat.le_of_ble_eq_true rfl) ?_
    refine Ec.gL (ci := 13) (k := 9) (t := 8) 0 (fun h _ => ⟨h.2.1.2.2.2.2.2.2.2.2.2, by decide⟩) rfl (by decide) rfl (by decide) (by decide) (tb1 (i := 193) rfl) (Or.inl rfl) rfl dX10_bestForecastByTrying_5 ?_
    refine Ec.aload_n (i := 0) dX10_bestForecastByTrying_8 rfl rfl (Nat.le_of_ble_eq_true rfl) ?_
    refine Ec.gL (ci := 13) (k := 4) (t := 2) 4 (fun h _ => ⟨h.2.1.2.2.2.2.1, by decide⟩) rfl (by decide) rfl (by decide) (by decide) (tb1 (i := 188) rfl) (Or.inl rfl) rfl dX10_bestForecastByTrying_9 ?_
    refine Ec.aload_n (i := 0) dX10_bestForecastByTrying_12 rfl rfl (Nat.le_of_ble_eq_true rfl) ?_
    refine Ec.gI (ci := 13) (k := 11) (c.2.1 13 11 0) rfl rfl (by decide) (by decide) (tb1 (i := 195) rfl) (Or.inl rfl) rfl dX10_bestForecastByTrying_13 ?_
    obtain ⟨o2, hok⟩ := hok
    refine Ec.cv (ci := 8) (as := [(2, 4), (0, (c.2.1 13 11 0))]) k_X5_tryAll rfl (by decide) (tb5 (i := 52) rfl) ki_X5_tryAll kv_X5_tryAll dX10_bestForecastByTrying_16 rfl rfl (Nat.le_of_ble_eq_true rfl) (Nat.le_of_ble_eq_true rfl) (s_X5_tryAll o2) ?_
    exact Ec.iret rfl nar_i dX10_bestForecastByTrying_19 (by rw [g_X10_bestForecastByTrying, if_pos c1]) (by rw [g_X10_bestForecastByTrying, if_pos c1])
  · exact Ec.cvx (E := "java/util/NoSuchElementException") (c1 := cexc c) (ci := 13) (as := []) k_X10_checkForecast rfl (by decide) (tb3 (i := 187) rfl) ki_X10_checkForecast kv_X10_checkForecast dX10_bestForecastByTrying_1 rfl rfl (Nat.le_of_ble_eq_true rfl) (Nat.le_of_ble_eq_true rfl) rfl (by have q := s_X10_checkForecast (X := X) (ρ := ρ) (c := c) ; rw [x_X10_checkForecast c1] at q; exact q) (by rw [g_X10_bestForecastByTrying, if_neg c1]) (by rw [g_X10_bestForecastByTrying, if_neg c1])
def g_X10_improve (c : Cs) : Rr × Cs :=
  if (eb (c.2.2.1 4) = 0 ∧ eb (c.2.2.1 9) = 0) then
    (.inl (some (0, ((g_X5_forecastOf 4 (c.2.1 13 11 0) c).1 - (g_X5_findBest 4 (((g_X5_forecastOf 4 (c.2.1 13 11 0) c).2).2.1 13 11 0) ((g_X5_forecastOf 4 (c.2.1 13 11 0) c).2)).1))), (g_X10_copyRecipes 10 4 ((g_X5_findBest 4 (((g_X5_forecastOf 4 (c.2.1 13 11 0) c).2).2.1 13 11 0) ((g_X5_forecastOf 4 (c.2.1 13 11 0) c).2)).2)))
  else
    (.inr "java/util/NoSuchElementException", (cexc c))
def ok_X10_improve (c : Cs) : Prop :=
  if (eb (c.2.2.1 4) = 0 ∧ eb (c.2.2.1 9) = 0) then
    ok_X5_forecastOf 4 (c.2.1 13 11 0) c ∧ (
      ok_X5_findBest 4 (((g_X5_forecastOf 4 (c.2.1 13 11 0) c).2).2.1 13 11 0) ((g_X5_forecastOf 4 (c.2.1 13 11 0) c).2) ∧ (
        ok_X10_copyRecipes 10 4 ((g_X5_findBest 4 (((g_X5_forecastOf 4 (c.2.1 13 11 0) c).2).2.1 13 11 0) ((g_X5_forecastOf 4 (c.2.1 13 11 0) c).2)).2) ∧ (
          True)))
  else
    True
theorem s_X10_improve {X : Cx} {ρ : Hp} {c : Cs} (hok : ok_X10_improve c) : Kc X ρ m_X10_improve 21 [(13, 0)] c ((g_X10_improve c)).1 ((g_X10_improve c)).2 := by
  refine Kc.of (by decide +kernel) rfl (Nat.le_of_ble_eq_true rfl) ?_
  rw [ok_X10_improve] at hok
  refine Ec.aload_n (i := 0) dX10_improve_0 rfl rfl (Nat.le_of_ble_eq_true rfl) ?_
  by_cases c1 : (eb (c.2.2.1 4) = 0 ∧ eb (c.2.2.1 9) = 0)
  · rw [if_pos c1] at hok
    refine Ec.cv (v := none) (c1 := c) (ci := 13) (as := []) k_X10_checkForecast rfl (by decide) (tb3 (i := 187) rfl) ki_X10_checkForecast kv_X10_checkForecast dX10_improve_1 rfl rfl (Nat.le_of_ble_eq_true rfl) (Nat.le_of_ble_eq_true rfl) (by have q := s_X10_checkForecast (X := X) (ρ := ρ) (c := c) ; rw [t_X10_checkForecast c1] at q; exact q) ?_
    refine Ec.aload_n (i := 0) dX10_improve_4 rfl rfl (Nat.le_of_ble_eq_true rfl) ?_
    refine Ec.gL (ci := 13) (k := 9) (t := 8) 0 (fun h _ => ⟨h.2.1.2.2.2.2.2.2.2.2.2, by decide⟩) rfl (by decide) rfl (by decide) (by decide) (tb1 (i := 193) rfl) (Or.inl rfl) rfl dX10_improve_5 ?_
    refine Ec.aload_n (i := 0) dX10_improve_8 rfl rfl (Nat.le_of_ble_eq_true rfl) ?_
    refine Ec.gL (ci := 13) (k := 4) (t := 2) 4 (fun h _ => ⟨h.2.1.2.2.2.2.1, by decide⟩) rfl (by decide) rfl (by decide) (by decide) (tb1 (i := 188) rfl) (Or.inl rfl) rfl dX10_improve_9 ?_
    refine Ec.aload_n (i := 0) dX10_improve_12 rfl rfl (Nat.le_of_ble_eq_true rfl) ?_
    refine Ec.gI (ci := 13) (k := 11) (c.2.1 13 11 0) rfl rfl (by decide) (by decide) (tb1 (i := 195) rfl) (Or.inl rfl) rfl dX10_improve_13 ?_
    obtain ⟨o2, hok⟩ := hok
    refine Ec.cv (ci := 8) (as := [(2, 4), (0, (c.2.1 13 11 0))]) k_X5_forecastOf rfl (by decide) (tb3 (i := 201) rfl) ki_X5_forecastOf kv_X5_forecastOf dX10_improve_16 rfl rfl (Nat.le_of_ble_eq_true rfl) (Nat.le_of_ble_eq_true rfl) (s_X5_forecastOf o2) ?_
    refine Ec.istore_n (i := 1) dX10_improve_19 rfl (by decide) ?_
    refine Ec.aload_n (i := 0) dX10_improve_20 rfl rfl (Nat.le_of_ble_eq_true rfl) ?_
    refine Ec.gL (ci := 13) (k := 9) (t := 8) 0 (fun h _ => ⟨h.2.1.2.2.2.2.2.2.2.2.2, by decide⟩) rfl (by decide) rfl (by decide) (by decide) (tb1 (i := 193) rfl) (Or.inl rfl) rfl dX10_improve_21 ?_
    refine Ec.aload_n (i := 0) dX10_improve_24 rfl rfl (Nat.le_of_ble_eq_true rfl) ?_
    refine Ec.gL (ci := 13) (k := 4) (t := 2) 4 (fun h _ => ⟨h.2.1.2.2.2.2.1, by decide⟩) rfl (by decide) rfl (by decide) (by decide) (tb1 (i := 188) rfl) (Or.inl rfl) rfl dX10_improve_25 ?_
    refine Ec.aload_n (i := 0) dX10_improve_28 rfl rfl (Nat.le_of_ble_eq_true rfl) ?_
    refine Ec.gI (ci := 13) (k := 11) (((g_X5_forecastOf 4 (c.2.1 13 11 0) c).2).2.1 13 11 0) rfl rfl (by decide) (by decide) (tb1 (i := 195) rfl) (Or.inl rfl) rfl dX10_improve_29 ?_
    obtain ⟨o3, hok⟩ := hok
    refine Ec.cv (ci := 8) (as := [(2, 4), (0, (((g_X5_forecastOf 4 (c.2.1 13 11 0) c).2).2.1 13 11 0))]) k_X5_findBest rfl (by decide) (tb4 (i := 0) rfl) ki_X5_findBest kv_X5_findBest dX10_improve_32 rfl rfl (Nat.le_of_ble_eq_true rfl) (Nat.le_of_ble_eq_true rfl) (s_X5_findBest o3) ?_
    refine Ec.istore_n (i := 2) dX10_improve_35 rfl (by decide) ?_
    refine Ec.aload_n (i := 0) dX10_improve_36 rfl rfl (Nat.le_of_ble_eq_true rfl) ?_
    refine Ec.gL (ci := 13) (k := 9) (t := 8) 0 (fun h _ => ⟨h.2.1.2.2.2.2.2.2.2.2.2, by decide⟩) rfl (by decide) rfl (by decide) (by decide) (tb1 (i := 193) rfl) (Or.inl rfl) rfl dX10_improve_37 ?_
    refine Ec.gL (ci := 8) (k := 1) (t := 2) 10 (fun h _ => ⟨h.2.2.1.2.1, by decide⟩) rfl (by decide) rfl (by decide) (by decide) (tb1 (i := 81) rfl) (Or.inl rfl) rfl dX10_improve_40 ?_
    refine Ec.aload_n (i := 0) dX10_improve_43 rfl rfl (Nat.le_of_ble_eq_true rfl) ?_
    refine Ec.gL (ci := 13) (k := 4) (t := 2) 4 (fun h _ => ⟨h.2.1.2.2.2.2.1, by decide⟩) rfl (by decide) rfl (by decide) (by decide) (tb1 (i := 188) rfl) (Or.inl rfl) rfl dX10_improve_44 ?_
    obtain ⟨o4, hok⟩ := hok
    refine Ec.cs (as := [(2, 10), (2, 4)]) k_X10_copyRecipes (tb5 (i := 79) rfl) ki_X10_copyRecipes dX10_improve_47 rfl rfl (Nat.le_of_ble_eq_true rfl) (Nat.le_of_ble_eq_true rfl) (s_X10_copyRecipes o4) ?_
    refine Ec.iload_n (i := 1) dX10_improve_50 rfl rfl ?_
    refine Ec.iload_n (i := 2) dX10_improve_51 rfl rfl ?_
    refine Ec.sub dX10_improve_52 ?_
    exact Ec.iret rfl nar_i dX10_improve_53 (by rw [g_X10_improve, if_pos c1]) (by rw [g_X10_improve, if_pos c1])
  · exact Ec.cvx (E := "java/util/NoSuchElementException") (c1 := cexc c) (ci := 13) (as := []) k_X10_checkForecast rfl (by decide) (tb3 (i := 187) rfl) ki_X10_checkForecast kv_X10_checkForecast dX10_improve_1 rfl rfl (Nat.le_of_ble_eq_true rfl) (Nat.le_of_ble_eq_true rfl) rfl (by have q := s_X10_checkForecast (X := X) (ρ := ρ) (c := c) ; rw [x_X10_checkForecast c1] at q; exact q) (by rw [g_X10_improve, if_neg c1]) (by rw [g_X10_improve, if_neg c1])
def g_X10_order (r u d : Int) (c : Cs) : Rr × Cs :=
  if (0 ≤ r ∧ r < ((c.2.2.1 1).length : Int)) then
    if (g_X10_isOutside u 1 40 c) = 0 then
      if (g_X10_isOutside d (c.2.1 13 11 0) ((c.2.1 13 11 0) + 99) c) = 0 then
        if ((c.2.2.1 5).length : Int) < 20 then
          (.inl (some (0, ((g_X10_insertByDue (c.1 5) (clst (clst (g_X3_init ((g_X2_init (c.1 5) ((c.2.2.1 5).length : Int) d (cnew c 5)).1 6) (lget (c.2.2.1 1) r) u (cnew (g_X2_init (c.1 5) ((c.2.2.1 5).length : Int) d (cnew c 5)) 6)) (17 + c.1 5) ((g_X3_init ((g_X2_init (c.1 5) ((c.2.2.1 5).length : Int) d (cnew c 5)).1 6) (lget (c.2.2.1 1) r) u (cnew (g_X2_init (c.1 5) ((c.2.2.1 5).length : Int) d (cnew c 5)) 6)).2.2.1 (17 + c.1 5) ++ [(g_X2_init (c.1 5) ((c.2.2.1 5).length : Int) d (cnew c 5)).1 6])) 5 ((clst (g_X3_init ((g_X2_init (c.1 5) ((c.2.2.1 5).length : Int) d (cnew c 5)).1 6) (lget (c.2.2.1 1) r) u (cnew (g_X2_init (c.1 5) ((c.2.2.1 5).length : Int) d (cnew c 5)) 6)) (17 + c.1 5) ((g_X3_init ((g_X2_init (c.1 5) ((c.2.2.1 5).length : Int) d (cnew c 5)).1 6) (lget (c.2.2.1 1) r) u (cnew (g_X2_init (c.1 5) ((c.2.2.1 5).length : Int) d (cnew c 5)) 6)).2.2.1 (17 + c.1 5) ++ [(g_X2_init (c.1 5) ((c.2.2.1 5).length : Int) d (cnew c 5)).1 6])).2.2.1 5 ++ [c.1 5]))).2.1 5 0 (c.1 5)))), (g_X10_insertByDue (c.1 5) (clst (clst (g_X3_init ((g_X2_init (c.1 5) ((c.2.2.1 5).length : Int) d (cnew c 5)).1 6) (lget (c.2.2.1 1) r) u (cnew (g_X2_init (c.1 5) ((c.2.2.1 5).length : Int) d (cnew c 5)) 6)) (17 + c.1 5) ((g_X3_init ((g_X2_init (c.1 5) ((c.2.2.1 5).length : Int) d (cnew c 5)).1 6) (lget (c.2.2.1 1) r) u (cnew (g_X2_init (c.1 5) ((c.2.2.1 5).length : Int) d (cnew c 5)) 6)).2.2.1 (17 + c.1 5) ++ [(g_X2_init (c.1 5) ((c.2.2.1 5).length : Int) d (cnew c 5)).1 6])) 5 ((clst (g_X3_init ((g_X2_init (c.1 5) ((c.2.2.1 5).length : Int) d (cnew c 5)).1 6) (lget (c.2.2.1 1) r) u (cnew (g_X2_init (c.1 5) ((c.2.2.1 5).length : Int) d (cnew c 5)) 6)) (17 + c.1 5) ((g_X3_init ((g_X2_init (c.1 5) ((c.2.2.1 5).length : Int) d (cnew c 5)).1 6) (lget (c.2.2.1 1) r) u (cnew (g_X2_init (c.1 5) ((c.2.2.1 5).length : Int) d (cnew c 5)) 6)).2.2.1 (17 + c.1 5) ++ [(g_X2_init (c.1 5) ((c.2.2.1 5).length : Int) d (cnew c 5)).1 6])).2.2.1 5 ++ [c.1 5]))))
        else
          (.inr "java/lang/IllegalStateException", (cexc c))
      else
        (.inr "java/lang/IllegalArgumentException", (cexc c))
    else
      (.inr "java/lang/IllegalArgumentException", (cexc c))
  else
    (.inr "java/lang/IndexOutOfBoundsException", (cexc c))
def ok_X10_order (r u d : Int) (c : Cs) : Prop :=
  ok_X10_recipeAt r c ∧ (
    if (0 ≤ r ∧ r < ((c.2.2.1 1).length : Int)) then
      ok_X10_isOutside u 1 40 c ∧ (
        if (g_X10_isOutside u 1 40 c) = 0 then
          ok_X10_isOutside d (c.2.1 13 11 0) ((c.2.1 13 11 0) + 99) c ∧ (
            if (g_X10_isOutside d (c.2.1 13 11 0) ((c.2.1 13 11 0) + 99) c) = 0 then
              if ((c.2.2.1 5).length : Int) < 20 then
                ((g_X2_init (c.1 5) ((c.2.2.1 5).length : Int) d (cnew c 5)).2.1 5 2 (c.1 5) = 17 + c.1 5 ∧ 0 ≤ c.1 5) ∧ (
                  (((g_X3_init ((g_X2_init (c.1 5) ((c.2.2.1 5).length : Int) d (cnew c 5)).1 6) (lget (c.2.2.1 1) r) u (cnew (g_X2_init (c.1 5) ((c.2.2.1 5).length : Int) d (cnew c 5)) 6)).2.2.1 (17 + c.1 5)).length : Int) ≤ 199 ∧ (
                    (((clst (g_X3_init ((g_X2_init (c.1 5) ((c.2.2.1 5).length : Int) d (cnew c 5)).1 6) (lget (c.2.2.1 1) r) u (cnew (g_X2_init (c.1 5) ((c.2.2.1 5).length : Int) d (cnew c 5)) 6)) (17 + c.1 5) ((g_X3_init ((g_X2_init (c.1 5) ((c.2.2.1 5).length : Int) d (cnew c 5)).1 6) (lget (c.2.2.1 1) r) u (cnew (g_X2_init (c.1 5) ((c.2.2.1 5).length : Int) d (cnew c 5)) 6)).2.2.1 (17 + c.1 5) ++ [(g_X2_init (c.1 5) ((c.2.2.1 5).length : Int) d (cnew c 5)).1 6])).2.2.1 5).length : Int) ≤ 199 ∧ (
                      ok_X10_insertByDue (c.1 5) (clst (clst (g_X3_init ((g_X2_init (c.1 5) ((c.2.2.1 5).length : Int) d (cnew c 5)).1 6) (lget (c.2.2.1 1) r) u (cnew (g_X2_init (c.1 5) ((c.2.2.1 5).length : Int) d (cnew c 5)) 6)) (17 + c.1 5) ((g_X3_init ((g_X2_init (c.1 5) ((c.2.2.1 5).length : Int) d (cnew c 5)).1 6) (lget (c.2.2.1 1) r) u (cnew (g_X2_init (c.1 5) ((c.2.2.1 5).length : Int) d (cnew c 5)) 6)).2.2.1 (17 + c.1 5) ++ [(g_X2_init (c.1 5) ((c.2.2.1 5).length : Int) d (cnew c 5)).1 6])) 5 ((clst (g_X3_init ((g_X2_init (c.1 5) ((c.2.2.1 5).length : Int) d (cnew c 5)).1 6) (lget (c.2.2.1 1) r) u (cnew (g_X2_init (c.1 5) ((c.2.2.1 5).length : Int) d (cnew c 5)) 6)) (17 + c.1 5) ((g_X3_init ((g_X2_init (c.1 5) ((c.2.2.1 5).length : Int) d (cnew c 5)).1 6) (lget (c.2.2.1 1) r) u (cnew (g_X2_init (c.1 5) ((c.2.2.1 5).length : Int) d (cnew c 5)) 6)).2.2.1 (17 + c.1 5) ++ [(g_X2_init (c.1 5) ((c.2.2.1 5).length : Int) d (cnew c 5)).1 6])).2.2.1 5 ++ [c.1 5])) ∧ (
                        True))))
              else
                True
            else
              True)
        else
          True)
    else
      True)
theorem s_X10_order {X : Cx} {ρ : Hp} {r u d : Int} {c : Cs} (hok : ok_X10_order r u d c) : Kc X ρ m_X10_order 8 [(13, 0), (0, r), (0, u), (0, d)] c ((g_X10_order r u d c)).1 ((g_X10_order r u d c)).2 := by
  refine Kc.of (by decide +kernel) rfl (Nat.le_of_ble_eq_true rfl) ?_
  rw [ok_X10_order] at hok
  refine Ec.aload_n (i := 0) dX10_order_0 rfl rfl (Nat.le_of_ble_eq_true rfl) ?_
  refine Ec.iload_n (i := 1) dX10_order_1 rfl rfl ?_
  obtain ⟨o1, hok⟩ := hok
  by_cases c2 : (0 ≤ r ∧ r < ((c.2.2.1 1).length : Int))
  · rw [if_pos c2] at hok
    refine Ec.cv (v := some (9, (lget (c.2.2.1 1) r))) (c1 := c) (ci := 13) (as := [(0, r)]) k_X10_recipeAt rfl (by decide) (tb3 (i := 4) rfl) ki_X10_recipeAt kv_X10_recipeAt dX10_order_2 rfl rfl (Nat.le_of_ble_eq_true rfl) (Nat.le_of_ble_eq_true rfl) (by have q := s_X10_recipeAt (X := X) (ρ := ρ) (c := c) (i := r) o1; rw [t_X10_recipeAt c2] at q; exact q) ?_
    refine Ec.astore dX10_order_5 (by decide) (Nat.le_of_ble_eq_true rfl) ?_
    refine Ec.iload_n (i := 2) dX10_order_7 rfl rfl ?_
    refine Ec.const dX10_order_8 ?_
    refine Ec.bipush dX10_order_9 (by decide) ?_
    obtain ⟨o3, hok⟩ := hok
    refine Ec.cs (as := [(0, u), (0, 1), (0, 40)]) k_X10_isOutside (tb2 (i := 111) rfl) ki_X10_isOutside dX10_order_11 rfl rfl (Nat.le_of_ble_eq_true rfl) (Nat.le_of_ble_eq_true rfl) (s_X10_isOutside o3) ?_
    have q4 : 0 ≤ (g_X10_isOutside u 1 40 c) ∧ (g_X10_isOutside u 1 40 c) ≤ 1 := r_X10_isOutside
    by_cases c5 : (g_X10_isOutside u 1 40 c) = 0
    · rw [if_pos c5] at hok
      refine Ec.if_ne_f (tgt := 35) dX10_order_14 (by decide) ⟨by omega, by omega⟩ (fun h => h c5) ?_
      refine Ec.iload_n (i := 3) dX10_order_17 rfl rfl ?_
      refine Ec.aload_n (i := 0) dX10_order_18 rfl rfl (Nat.le_of_ble_eq_true rfl) ?_
      refine Ec.gI (ci := 13) (k := 11) (c.2.1 13 11 0) rfl rfl (by decide) (by decide) (tb1 (i := 195) rfl) (Or.inl rfl) rfl dX10_order_19 ?_
      refine Ec.aload_n (i := 0) dX10_order_22 rfl rfl (Nat.le_of_ble_eq_true rfl) ?_
      refine Ec.gI (ci := 13) (k := 11) (c.2.1 13 11 0) rfl rfl (by decide) (by decide) (tb1 (i := 195) rfl) (Or.inl rfl) rfl dX10_order_23 ?_
      refine Ec.bipush dX10_order_26 (by decide) ?_
      refine Ec.add dX10_order_28 ?_
      obtain ⟨o6, hok⟩ := hok
      refine Ec.cs (as := [(0, d), (0, (c.2.1 13 11 0)), (0, ((c.2.1 13 11 0) + 99))]) k_X10_isOutside (tb2 (i := 111) rfl) ki_X10_isOutside dX10_order_29 rfl rfl (Nat.le_of_ble_eq_true rfl) (Nat.le_of_ble_eq_true rfl) (s_X10_isOutside o6) ?_
      have q7 : 0 ≤ (g_X10_isOutside d (c.2.1 13 11 0) ((c.2.1 13 11 0) + 99) c) ∧ (g_X10_isOutside d (c.2.1 13 11 0) ((c.2.1 13 11 0) + 99) c) ≤ 1 := r_X10_isOutside
      by_cases c8 : (g_X10_isOutside d (c.2.1 13 11 0) ((c.2.1 13 11 0) + 99) c) = 0
      · rw [if_pos c8] at hok
        refine Ec.if_eq_t (tgt := 45) dX10_order_32 (by decide) ⟨by omega, by omega⟩ c8 ?_
        refine Ec.aload_n (i := 0) dX10_order_45 rfl rfl (Nat.le_of_ble_eq_true rfl) ?_
        refine Ec.gL (ci := 13) (k := 5) (t := 2) 5 (fun h _ => ⟨h.2.1.2.2.2.2.2.1, by decide⟩) rfl (by decide) rfl (by decide) (by decide) (tb1 (i := 189) rfl) (Or.inl rfl) rfl dX10_order_46 ?_
        refine Ec.say (fun _ hL _ hs => ?_)
        have q9 : ((c.2.2.1 5).length : Int) ≤ 200 := hL _ (hs.hd.r ⟨Nat.le_of_ble_eq_true rfl, Nat.le_of_ble_eq_true rfl⟩).2.1 (hs.hd.r ⟨Nat.le_of_ble_eq_true rfl, Nat.le_of_ble_eq_true rfl⟩).2.2
        refine Ec.cf (as := []) kf_Jx4a65c_size_8abf5 (tb1 (i := 226) rfl) dX10_order_49 rfl rfl (Nat.le_of_ble_eq_true rfl) (Nat.le_of_ble_eq_true rfl) kl_size ?_
        refine Ec.bipush dX10_order_54 (by decide) ?_
        by_cases c10 : ((c.2.2.1 5).length : Int) < 20
        · rw [if_pos c10] at hok
          refine Ec.icmp_lt_t (tgt := 69) dX10_order_56 (by decide) ⟨by omega, by omega⟩ ⟨by decide, by decide⟩ c10 ?_
          refine Ec.new (ci := 5) rfl (by decide) (by decide) (by decide) (tb5 (i := 89) rfl) (tb5 (i := 90) rfl) (tb1 (i := 32) rfl) dX10_order_69 ?_
          refine Ec.dup dX10_order_72 ?_
          refine Ec.aload_n (i := 0) dX10_order_73 rfl rfl (Nat.le_of_ble_eq_true rfl) ?_
          refine Ec.gL (ci := 13) (k := 5) (t := 2) 5 (fun h _ => ⟨h.2.1.2.2.2.2.2.1, by decide⟩) rfl (by decide) rfl (by decide) (by decide) (tb1 (i := 189) rfl) (Or.inl rfl) rfl dX10_order_74 ?_
          refine Ec.cf (as := []) kf_Jx4a65c_size_8abf5 (tb1 (i := 226) rfl) dX10_order_77 rfl rfl (Nat.le_of_ble_eq_true rfl) (Nat.le_of_ble_eq_true rfl) kl_size ?_
          refine Ec.iload_n (i := 3) dX10_order_82 rfl rfl ?_
          refine Ec.ci (as := [(0, ((c.2.2.1 5).length : Int)), (0, d)]) k_X2_init rfl rfl (by decide) (tb5 (i := 91) rfl) ki_X2_init dX10_order_83 rfl rfl (Nat.le_of_ble_eq_true rfl) (Nat.le_of_ble_eq_true rfl) s_X2_init ?_
          refine Ec.astore dX10_order_86 (by decide) (Nat.le_of_ble_eq_true rfl) ?_
          refine Ec.aload dX10_order_88 rfl (Nat.le_of_ble_eq_true rfl) ?_
          obtain ⟨o11, hok⟩ := hok
          refine Ec.gL (ci := 5) (k := 2) (t := 2) (17 + c.1 5) (fun _ _ => ⟨o11.1, by omega⟩) rfl (by decide) rfl (by decide) (by decide) (tb5 (i := 102) rfl) (Or.inl rfl) rfl dX10_order_90 ?_
          refine Ec.new (ci := 6) rfl (by decide) (by decide) (by decide) (tb5 (i := 118) rfl) (tb5 (i := 119) rfl) (tb1 (i := 33) rfl) dX10_order_93 ?_
          refine Ec.dup dX10_order_96 ?_
          refine Ec.aload dX10_order_97 rfl (Nat.le_of_ble_eq_true rfl) ?_
          refine Ec.iload_n (i := 2) dX10_order_99 rfl rfl ?_
          refine Ec.ci (as := [(9, (lget (c.2.2.1 1) r)), (0, u)]) k_X3_init rfl rfl (by decide) (tb5 (i := 120) rfl) ki_X3_init dX10_order_100 rfl rfl (Nat.le_of_ble_eq_true rfl) (Nat.le_of_ble_eq_true rfl) (Kc.wk (wk0 (wk1 (wk0 wkN) (by decide))) s_X3_init) ?_
          obtain ⟨o12, hok⟩ := hok
          refine Ec.cf (as := [(6, (g_X2_init (c.1 5) ((c.2.2.1 5).length : Int) d (cnew c 5)).1 6)]) (c1 := (clst (g_X3_init ((g_X2_init (c.1 5) ((c.2.2.1 5).length : Int) d (cnew c 5)).1 6) (lget (c.2.2.1 1) r) u (cnew (g_X2_init (c.1 5) ((c.2.2.1 5).length : Int) d (cnew c 5)) 6)) (17 + c.1 5) ((g_X3_init ((g_X2_init (c.1 5) ((c.2.2.1 5).length : Int) d (cnew c 5)).1 6) (lget (c.2.2.1 1) r) u (cnew (g_X2_init (c.1 5) ((c.2.2.1 5).length : Int) d (cnew c 5)) 6)).2.2.1 (17 + c.1 5) ++ [(g_X2_init (c.1 5) ((c.2.2.1 5).length : Int) d (cnew c 5)).1 6]))) kf_Jx4a65c_add_9ea2d (tb1 (i := 113) rfl) dX10_order_103 rfl rfl (Nat.le_of_ble_eq_true rfl) (Nat.le_of_ble_eq_true rfl) (kl_add (tel_part (by omega)) o12 (by decide)) ?_
          refine Ec.pop dX10_order_108 ?_
          refine Ec.aload_n (i := 0) dX10_order_109 rfl rfl (Nat.le_of_ble_eq_true rfl) ?_
          refine Ec.gL (ci := 13) (k := 5) (t := 2) 5 (fun h _ => ⟨h.2.1.2.2.2.2.2.1, by decide⟩) rfl (by decide) rfl (by decide) (by decide) (tb1 (i := 189) rfl) (Or.inl rfl) rfl dX10_order_110 ?_
          refine Ec.aload dX10_order_113 rfl (Nat.le_of_ble_eq_true rfl) ?_
          obtain ⟨o13, hok⟩ := hok
          refine Ec.cf (as := [(5, c.1 5)]) (c1 := (clst (clst (g_X3_init ((g_X2_init (c.1 5) ((c.2.2.1 5).length : Int) d (cnew c 5)).1 6) (lget (c.2.2.1 1) r) u (cnew (g_X2_init (c.1 5) ((c.2.2.1 5).length : Int) d (cnew c 5)) 6)) (17 + c.1 5) ((g_X3_init ((g_X2_init (c.1 5) ((c.2.2.1 5).length : Int) d (cnew c 5)).1 6) (lget (c.2.2.1 1) r) u (cnew (g_X2_init (c.1 5) ((c.2.2.1 5).length : Int) d (cnew c 5)) 6)).2.2.1 (17 + c.1 5) ++ [(g_X2_init (c.1 5) ((c.2.2.1 5).length : Int) d (cnew c 5)).1 6])) 5 ((clst (g_X3_init ((g_X2_init (c.1 5) ((c.2.2.1 5).length : Int) d (cnew c 5)).1 6) (lget (c.2.2.1 1) r) u (cnew (g_X2_init (c.1 5) ((c.2.2.1 5).length : Int) d (cnew c 5)) 6)) (17 + c.1 5) ((g_X3_init ((g_X2_init (c.1 5) ((c.2.2.1 5).length : Int) d (cnew c 5)).1 6) (lget (c.2.2.1 1) r) u (cnew (g_X2_init (c.1 5) ((c.2.2.1 5).length : Int) d (cnew c 5)) 6)).2.2.1 (17 + c.1 5) ++ [(g_X2_init (c.1 5) ((c.2.2.1 5).length : Int) d (cnew c 5)).1 6])).2.2.1 5 ++ [c.1 5]))) kf_Jx4a65c_add_9ea2d (tb1 (i := 113) rfl) dX10_order_115 rfl rfl (Nat.le_of_ble_eq_true rfl) (Nat.le_of_ble_eq_true rfl) (kl_add rfl o13 (by decide)) ?_
          refine Ec.pop dX10_order_120 ?_
          refine Ec.aload_n (i := 0) dX10_order_121 rfl rfl (Nat.le_of_ble_eq_true rfl) ?_
          refine Ec.aload dX10_order_122 rfl (Nat.le_of_ble_eq_true rfl) ?_
          obtain ⟨o14, hok⟩ := hok
          refine Ec.cv (ci := 13) (as := [(5, c.1 5)]) k_X10_insertByDue rfl (by decide) (tb5 (i := 135) rfl) ki_X10_insertByDue kv_X10_insertByDue dX10_order_124 rfl rfl (Nat.le_of_ble_eq_true rfl) (Nat.le_of_ble_eq_true rfl) (s_X10_insertByDue o14) ?_
          refine Ec.aload dX10_order_127 rfl (Nat.le_of_ble_eq_true rfl) ?_
          refine Ec.gI (ci := 5) (k := 0) ((g_X10_insertByDue (c.1 5) (clst (clst (g_X3_init ((g_X2_init (c.1 5) ((c.2.2.1 5).length : Int) d (cnew c 5)).1 6) (lget (c.2.2.1 1) r) u (cnew (g_X2_init (c.1 5) ((c.2.2.1 5).length : Int) d (cnew c 5)) 6)) (17 + c.1 5) ((g_X3_init ((g_X2_init (c.1 5) ((c.2.2.1 5).length : Int) d (cnew c 5)).1 6) (lget (c.2.2.1 1) r) u (cnew (g_X2_init (c.1 5) ((c.2.2.1 5).length : Int) d (cnew c 5)) 6)).2.2.1 (17 + c.1 5) ++ [(g_X2_init (c.1 5) ((c.2.2.1 5).length : Int) d (cnew c 5)).1 6])) 5 ((clst (g_X3_init ((g_X2_init (c.1 5) ((c.2.2.1 5).length : Int) d (cnew c 5)).1 6) (lget (c.2.2.1 1) r) u (cnew (g_X2_init (c.1 5) ((c.2.2.1 5).length : Int) d (cnew c 5)) 6)) (17 + c.1 5) ((g_X3_init ((g_X2_init (c.1 5) ((c.2.2.1 5).length : Int) d (cnew c 5)).1 6) (lget (c.2.2.1 1) r) u (cnew (g_X2_init (c.1 5) ((c.2.2.1 5).length : Int) d (cnew c 5)) 6)).2.2.1 (17 + c.1 5) ++ [(g_X2_init (c.1 5) ((c.2.2.1 5).length : Int) d (cnew c 5)).1 6])).2.2.1 5 ++ [c.1 5]))).2.1 5 0 (c.1 5)) rfl rfl (by decide) (by decide) (tb5 (i := 98) rfl) (Or.inl rfl) rfl dX10_order_129 ?_
          exact Ec.iret rfl nar_i dX10_order_132 (by rw [g_X10_order, if_pos c2, if_pos c5, if_pos c8, if_pos c10]) (by rw [g_X10_order, if_pos c2, if_pos c5, if_pos c8, if_pos c10])
        · rw [if_neg c10] at hok
          refine Ec.icmp_lt_f (tgt := 69) dX10_order_56 (by decide) ⟨by omega, by omega⟩ ⟨by decide, by decide⟩ c10 ?_
          exact Ec.thr thr_ISE rfl rfl (Nat.le_of_ble_eq_true rfl) (Nat.le_of_ble_eq_true rfl) (tb5 (i := 88) rfl) dX10_order_59 dX10_order_62 dX10_order_63 dX10_order_65 dX10_order_68 (by rw [g_X10_order, if_pos c2, if_pos c5, if_pos c8, if_neg c10]) (by rw [g_X10_order, if_pos c2, if_pos c5, if_pos c8, if_neg c10])
      · rw [if_neg c8] at hok
        refine Ec.if_eq_f (tgt := 45) dX10_order_32 (by decide) ⟨by omega, by omega⟩ c8 ?_
        exact Ec.thr thr_IAE rfl rfl (Nat.le_of_ble_eq_true rfl) (Nat.le_of_ble_eq_true rfl) (tb5 (i := 87) rfl) dX10_order_35 dX10_order_38 dX10_order_39 dX10_order_41 dX10_order_44 (by rw [g_X10_order, if_pos c2, if_pos c5, if_neg c8]) (by rw [g_X10_order, if_pos c2, if_pos c5, if_neg c8])
    · rw [if_neg c5] at hok
      refine Ec.if_ne_t (tgt := 35) dX10_order_14 (by decide) ⟨by omega, by omega⟩ c5 ?_
      exact Ec.thr thr_IAE rfl rfl (Nat.le_of_ble_eq_true rfl) (Nat.le_of_ble_eq_true rfl) (tb5 (i := 87) rfl) dX10_order_35 dX10_order_38 dX10_order_39 dX10_order_41 dX10_order_44 (by rw [g_X10_order, if_pos c2, if_neg c5]) (by rw [g_X10_order, if_pos c2, if_neg c5])
  · exact Ec.cvx (E := "java/lang/IndexOutOfBoundsException") (c1 := cexc c) (ci := 13) (as := [(0, r)]) k_X10_recipeAt rfl (by decide) (tb3 (i := 4) rfl) ki_X10_recipeAt kv_X10_recipeAt dX10_order_2 rfl rfl (Nat.le_of_ble_eq_true rfl) (Nat.le_of_ble_eq_true rfl) rfl (by have q := s_X10_recipeAt (X := X) (ρ := ρ) (c := c) (i := r) o1; rw [x_X10_recipeAt c2] at q; exact q) (by rw [g_X10_order, if_neg c2]) (by rw [g_X10_order, if_neg c2])
def g_X10_blend (o r u : Int) (c : Cs) : Rr × Cs :=
  if (0 ≤ o ∧ o < ((c.2.2.1 5).length : Int)) then
    if (0 ≤ r ∧ r < ((c.2.2.1 1).length : Int)) then
      if (g_X10_isOutside u 1 40 c) = 0 then
        if (c.2.1 5 3 (lget (c.2.2.1 5) o)) = 111 then
          if ((c.2.2.1 (17 + (lget (c.2.2.1 5) o))).length : Int) < 4 then
            (.inl (some (0, (((clst (g_X3_init (c.1 6) (lget (c.2.2.1 1) r) u (cnew c 6)) (17 + (lget (c.2.2.1 5) o)) ((g_X3_init (c.1 6) (lget (c.2.2.1 1) r) u (cnew c 6)).2.2.1 (17 + (lget (c.2.2.1 5) o)) ++ [c.1 6])).2.2.1 (17 + (lget (c.2.2.1 5) o))).length : Int))), (clst (g_X3_init (c.1 6) (lget (c.2.2.1 1) r) u (cnew c 6)) (17 + (lget (c.2.2.1 5) o)) ((g_X3_init (c.1 6) (lget (c.2.2.1 1) r) u (cnew c 6)).2.2.1 (17 + (lget (c.2.2.1 5) o)) ++ [c.1 6])))
          else
            (.inr "java/lang/IllegalStateException", (cexc c))
        else
          (.inr "java/lang/IllegalStateException", (cexc c))
      else
        (.inr "java/lang/IllegalArgumentException", (cexc c))
    else
      (.inr "java/lang/IndexOutOfBoundsException", (cexc c))
  else
    (.inr "java/lang/IndexOutOfBoundsException", (cexc c))
def ok_X10_blend (o r u : Int) (c : Cs) : Prop :=
  ok_X10_orderAt o c ∧ (
    if (0 ≤ o ∧ o < ((c.2.2.1 5).length : Int)) then
      ok_X10_recipeAt r c ∧ (
        if (0 ≤ r ∧ r < ((c.2.2.1 1).length : Int)) then
          ok_X10_isOutside u 1 40 c ∧ (
            if (g_X10_isOutside u 1 40 c) = 0 then
              R32 (c.2.1 5 3 (lget (c.2.2.1 5) o)) ∧ (
                if (c.2.1 5 3 (lget (c.2.2.1 5) o)) = 111 then
                  (c.2.1 5 2 (lget (c.2.2.1 5) o) = 17 + (lget (c.2.2.1 5) o) ∧ 0 ≤ (lget (c.2.2.1 5) o)) ∧ (
                    if ((c.2.2.1 (17 + (lget (c.2.2.1 5) o))).length : Int) < 4 then
                      (((g_X3_init (c.1 6) (lget (c.2.2.1 1) r) u (cnew c 6)).2.2.1 (17 + (lget (c.2.2.1 5) o))).length : Int) ≤ 199 ∧ (
                        ((g_X3_init (c.1 6) (lget (c.2.2.1 1) r) u (cnew c 6)).2.1 5 2 (lget (c.2.2.1 5) o) = 17 + (lget (c.2.2.1 5) o) ∧ 0 ≤ (lget (c.2.2.1 5) o)) ∧ (
                          True))
                    else
                      True)
                else
                  True)
            else
              True)
        else
          True)
    else
      True)
theorem s_X10_blend {X : Cx} {ρ : Hp} {o r u : Int} {c : Cs} (hok : ok_X10_blend o r u c) : Kc X ρ m_X10_blend 7 [(13, 0), (0, o), (0, r), (0, u)] c ((g_X10_blend o r u c)).1 ((g_X10_blend o r u c)).2 := by
  refine Kc.of (by decide +kernel) rfl (Nat.le_of_ble_eq_true rfl) ?_
  rw [ok_X10_blend] at hok
  refine Ec.aload_n (i := 0) dX10_blend_0 rfl rfl (Nat.le_of_ble_eq_true rfl) ?_
  refine Ec.iload_n (i := 1) dX10_blend_1 rfl rfl ?_
  obtain ⟨o1, hok⟩ := hok
  by_cases c2 : (0 ≤ o ∧ o < ((c.2.2.1 5).length : Int))
  · rw [if_pos c2] at hok
    refine Ec.cv (v := some (5, (lget (c.2.2.1 5) o))) (c1 := c) (ci := 13) (as := [(0, o)]) k_X10_orderAt rfl (by decide) (tb5 (i := 148) rfl) ki_X10_orderAt kv_X10_orderAt dX10_blend_2 rfl rfl (Nat.le_of_ble_eq_true rfl) (Nat.le_of_ble_eq_true rfl) (by have q := s_X10_orderAt (X := X) (ρ := ρ) (c := c) (i := o) o1; rw [t_X10_orderAt c2] at q; exact q) ?_
    refine Ec.astore dX10_blend_5 (by decide) (Nat.le_of_ble_eq_true rfl) ?_
    refine Ec.aload_n (i := 0) dX10_blend_7 rfl rfl (Nat.le_of_ble_eq_true rfl) ?_
    refine Ec.iload_n (i := 2) dX10_blend_8 rfl rfl ?_
    obtain ⟨o3, hok⟩ := hok
    by_cases c4 : (0 ≤ r ∧ r < ((c.2.2.1 1).length : Int))
    · rw [if_pos c4] at hok
      refine Ec.cv (v := some (9, (lget (c.2.2.1 1) r))) (c1 := c) (ci := 13) (as := [(0, r)]) k_X10_recipeAt rfl (by decide) (tb3 (i := 4) rfl) ki_X10_recipeAt kv_X10_recipeAt dX10_blend_9 rfl rfl (Nat.le_of_ble_eq_true rfl) (Nat.le_of_ble_eq_true rfl) (by have q := s_X10_recipeAt (X := X) (ρ := ρ) (c := c) (i := r) o3; rw [t_X10_recipeAt c4] at q; exact q) ?_
      refine Ec.astore dX10_blend_12 (by decide) (Nat.le_of_ble_eq_true rfl) ?_
      refine Ec.iload_n (i := 3) dX10_blend_14 rfl rfl ?_
      refine Ec.const dX10_blend_15 ?_
      refine Ec.bipush dX10_blend_16 (by decide) ?_
      obtain ⟨o5, hok⟩ := hok
      refine Ec.cs (as := [(0, u), (0, 1), (0, 40)]) k_X10_isOutside (tb2 (i := 111) rfl) ki_X10_isOutside dX10_blend_18 rfl rfl (Nat.le_of_ble_eq_true rfl) (Nat.le_of_ble_eq_true rfl) (s_X10_isOutside o5) ?_
      have q6 : 0 ≤ (g_X10_isOutside u 1 40 c) ∧ (g_X10_isOutside u 1 40 c) ≤ 1 := r_X10_isOutside
      by_cases c7 : (g_X10_isOutside u 1 40 c) = 0
      · rw [if_pos c7] at hok
        refine Ec.if_eq_t (tgt := 34) dX10_blend_21 (by decide) ⟨by omega, by omega⟩ c7 ?_
        refine Ec.aload dX10_blend_34 rfl (Nat.le_of_ble_eq_true rfl) ?_
        refine Ec.gI (ci := 5) (k := 3) (c.2.1 5 3 (lget (c.2.2.1 5) o)) rfl rfl (by decide) (by decide) (tb5 (i := 104) rfl) (Or.inl rfl) rfl dX10_blend_36 ?_
        refine Ec.bipush dX10_blend_39 (by decide) ?_
        obtain ⟨o8, hok⟩ := hok
        by_cases c9 : (c.2.1 5 3 (lget (c.2.2.1 5) o)) = 111
        · rw [if_pos c9] at hok
          refine Ec.icmp_ne_f (tgt := 58) dX10_blend_41 (by decide) o8 ⟨by decide, by decide⟩ (fun h => h c9) ?_
          refine Ec.aload dX10_blend_44 rfl (Nat.le_of_ble_eq_true rfl) ?_
          obtain ⟨o10, hok⟩ := hok
          refine Ec.gL (ci := 5) (k := 2) (t := 2) (17 + (lget (c.2.2.1 5) o)) (fun _ _ => ⟨o10.1, by omega⟩) rfl (by decide) rfl (by decide) (by decide) (tb5 (i := 102) rfl) (Or.inl rfl) rfl dX10_blend_46 ?_
          refine Ec.say (fun _ hL _ hs => ?_)
          have q11 : ((c.2.2.1 (17 + (lget (c.2.2.1 5) o))).length : Int) ≤ 200 := hL _ (hs.hd.r ⟨Nat.le_of_ble_eq_true rfl, Nat.le_of_ble_eq_true rfl⟩).2.1 (hs.hd.r ⟨Nat.le_of_ble_eq_true rfl, Nat.le_of_ble_eq_true rfl⟩).2.2
          refine Ec.cf (as := []) kf_Jx4a65c_size_8abf5 (tb1 (i := 226) rfl) dX10_blend_49 rfl rfl (Nat.le_of_ble_eq_true rfl) (Nat.le_of_ble_eq_true rfl) kl_size ?_
          refine Ec.const dX10_blend_54 ?_
          by_cases c12 : ((c.2.2.1 (17 + (lget (c.2.2.1 5) o))).length : Int) < 4
          · rw [if_pos c12] at hok
            refine Ec.icmp_lt_t (tgt := 68) dX10_blend_55 (by decide) ⟨by omega, by omega⟩ ⟨by decide, by decide⟩ c12 ?_
            refine Ec.aload dX10_blend_68 rfl (Nat.le_of_ble_eq_true rfl) ?_
            refine Ec.gL (ci := 5) (k := 2) (t := 2) (17 + (lget (c.2.2.1 5) o)) (fun _ _ => ⟨o10.1, by omega⟩) rfl (by decide) rfl (by decide) (by decide) (tb5 (i := 102) rfl) (Or.inl rfl) rfl dX10_blend_70 ?_
            refine Ec.new (ci := 6) rfl (by decide) (by decide) (by decide) (tb5 (i := 118) rfl) (tb5 (i := 119) rfl) (tb1 (i := 33) rfl) dX10_blend_73 ?_
            refine Ec.dup dX10_blend_76 ?_
            refine Ec.aload dX10_blend_77 rfl (Nat.le_of_ble_eq_true rfl) ?_
            refine Ec.iload_n (i := 3) dX10_blend_79 rfl rfl ?_
            refine Ec.ci (as := [(9, (lget (c.2.2.1 1) r)), (0, u)]) k_X3_init rfl rfl (by decide) (tb5 (i := 120) rfl) ki_X3_init dX10_blend_80 rfl rfl (Nat.le_of_ble_eq_true rfl) (Nat.le_of_ble_eq_true rfl) (Kc.wk (wk0 (wk1 (wk0 wkN) (by decide))) s_X3_init) ?_
            obtain ⟨o13, hok⟩ := hok
            refine Ec.cf (as := [(6, c.1 6)]) (c1 := (clst (g_X3_init (c.1 6) (lget (c.2.2.1 1) r) u (cnew c 6)) (17 + (lget (c.2.2.1 5) o)) ((g_X3_init (c.1 6) (lget (c.2.2.1 1) r) u (cnew c 6)).2.2.1 (17 + (lget (c.2.2.1 5) o)) ++ [c.1 6]))) kf_Jx4a65c_add_9ea2d (tb1 (i := 113) rfl) dX10_blend_83 rfl rfl (Nat.le_of_ble_eq_true rfl) (Nat.le_of_ble_eq_true rfl) (kl_add (tel_part (by omega)) o13 (by decide)) ?_
            refine Ec.pop dX10_blend_88 ?_
            refine Ec.aload dX10_blend_89 rfl (Nat.le_of_ble_eq_true rfl) ?_
            obtain ⟨o14, hok⟩ := hok
            refine Ec.gL (ci := 5) (k := 2) (t := 2) (17 + (lget (c.2.2.1 5) o)) (fun _ _ => ⟨o14.1, by omega⟩) rfl (by decide) rfl (by decide) (by decide) (tb5 (i := 102) rfl) (Or.inl rfl) rfl dX10_blend_91 ?_
            refine Ec.say (fun _ hL _ hs => ?_)
            have q15 : (((clst (g_X3_init (c.1 6) (lget (c.2.2.1 1) r) u (cnew c 6)) (17 + (lget (c.2.2.1 5) o)) ((g_X3_init (c.1 6) (lget (c.2.2.1 1) r) u (cnew c 6)).2.2.1 (17 + (lget (c.2.2.1 5) o)) ++ [c.1 6])).2.2.1 (17 + (lget (c.2.2.1 5) o))).length : Int) ≤ 200 := hL _ (hs.hd.r ⟨Nat.le_of_ble_eq_true rfl, Nat.le_of_ble_eq_true rfl⟩).2.1 (hs.hd.r ⟨Nat.le_of_ble_eq_true rfl, Nat.le_of_ble_eq_true rfl⟩).2.2
            refine Ec.cf (as := []) kf_Jx4a65c_size_8abf5 (tb1 (i := 226) rfl) dX10_blend_94 rfl rfl (Nat.le_of_ble_eq_true rfl) (Nat.le_of_ble_eq_true rfl) kl_size ?_
            exact Ec.iret rfl nar_i dX10_blend_99 (by rw [g_X10_blend, if_pos c2, if_pos c4, if_pos c7, if_pos c9, if_pos c12]) (by rw [g_X10_blend, if_pos c2, if_pos c4, if_pos c7, if_pos c9, if_pos c12])
          · rw [if_neg c12] at hok
            refine Ec.icmp_lt_f (tgt := 68) dX10_blend_55 (by decide) ⟨by omega, by omega⟩ ⟨by decide, by decide⟩ c12 ?_
            exact Ec.thr thr_ISE rfl rfl (Nat.le_of_ble_eq_true rfl) (Nat.le_of_ble_eq_true rfl) (tb5 (i := 154) rfl) dX10_blend_58 dX10_blend_61 dX10_blend_62 dX10_blend_64 dX10_blend_67 (by rw [g_X10_blend, if_pos c2, if_pos c4, if_pos c7, if_pos c9, if_neg c12]) (by rw [g_X10_blend, if_pos c2, if_pos c4, if_pos c7, if_pos c9, if_neg c12])
        · rw [if_neg c9] at hok
          refine Ec.icmp_ne_t (tgt := 58) dX10_blend_41 (by decide) o8 ⟨by decide, by decide⟩ c9 ?_
          exact Ec.thr thr_ISE rfl rfl (Nat.le_of_ble_eq_true rfl) (Nat.le_of_ble_eq_true rfl) (tb5 (i := 154) rfl) dX10_blend_58 dX10_blend_61 dX10_blend_62 dX10_blend_64 dX10_blend_67 (by rw [g_X10_blend, if_pos c2, if_pos c4, if_pos c7, if_neg c9]) (by rw [g_X10_blend, if_pos c2, if_pos c4, if_pos c7, if_neg c9])
      · rw [if_neg c7] at hok
        refine Ec.if_eq_f (tgt := 34) dX10_blend_21 (by decide) ⟨by omega, by omega⟩ c7 ?_
        exact Ec.thr thr_IAE rfl rfl (Nat.le_of_ble_eq_true rfl) (Nat.le_of_ble_eq_true rfl) (tb5 (i := 153) rfl) dX10_blend_24 dX10_blend_27 dX10_blend_28 dX10_blend_30 dX10_blend_33 (by rw [g_X10_blend, if_pos c2, if_pos c4, if_neg c7]) (by rw [g_X10_blend, if_pos c2, if_pos c4, if_neg c7])
    · exact Ec.cvx (E := "java/lang/IndexOutOfBoundsException") (c1 := cexc c) (ci := 13) (as := [(0, r)]) k_X10_recipeAt rfl (by decide) (tb3 (i := 4) rfl) ki_X10_recipeAt kv_X10_recipeAt dX10_blend_9 rfl rfl (Nat.le_of_ble_eq_true rfl) (Nat.le_of_ble_eq_true rfl) rfl (by have q := s_X10_recipeAt (X := X) (ρ := ρ) (c := c) (i := r) o3; rw [x_X10_recipeAt c4] at q; exact q) (by rw [g_X10_blend, if_pos c2, if_neg c4]) (by rw [g_X10_blend, if_pos c2, if_neg c4])
  · exact Ec.cvx (E := "java/lang/IndexOutOfBoundsException") (c1 := cexc c) (ci := 13) (as := [(0, o)]) k_X10_orderAt rfl (by decide) (tb5 (i := 148) rfl) ki_X10_orderAt kv_X10_orderAt dX10_blend_2 rfl rfl (Nat.le_of_ble_eq_true rfl) (Nat.le_of_ble_eq_true rfl) rfl (by have q := s_X10_orderAt (X := X) (ρ := ρ) (c := c) (i := o) o1; rw [x_X10_orderAt c2] at q; exact q) (by rw [g_X10_blend, if_neg c2]) (by rw [g_X10_blend, if_neg c2])
def g_X10_cancel (o : Int) (c : Cs) : Rr × Cs :=
  if (0 ≤ o ∧ o < ((c.2.2.1 5).length : Int)) then
    if (c.2.1 5 3 (lget (c.2.2.1 5) o)) = 111 then
      (.inl (some (0, (g_X2_allUnits (lget (c.2.2.1 5) o) (cput c 5 3 (lget (c.2.2.1 5) o) 99)))), (cput c 5 3 (lget (c.2.2.1 5) o) 99))
    else
      (.inr "java/lang/IllegalStateException", (cexc c))
  else
    (.inr "java/lang/IndexOutOfBoundsException", (cexc c))
def ok_X10_cancel (o : Int) (c : Cs) : Prop :=
  ok_X10_orderAt o c ∧ (
    if (0 ≤ o ∧ o < ((c.2.2.1 5).length : Int)) then
      R32 (c.2.1 5 3 (lget (c.2.2.1 5) o)) ∧ (
        if (c.2.1 5 3 (lget (c.2.2.1 5) o)) = 111 then
          ok_X2_allUnits (lget (c.2.2.1 5) o) (cput c 5 3 (lget (c.2.2.1 5) o) 99) ∧ (
            True)
        else
          True)
    else
      True)
theorem s_X10_cancel {X : Cx} {ρ : Hp} {o : Int} {c : Cs} (hok : ok_X10_cancel o c) : Kc X ρ m_X10_cancel 7 [(13, 0), (0, o)] c ((g_X10_cancel o c)).1 ((g_X10_cancel o c)).2 := by
  refine Kc.of (by decide +kernel) rfl (Nat.le_of_ble_eq_true rfl) ?_
  rw [ok_X10_cancel] at hok
  refine Ec.aload_n (i := 0) dX10_cancel_0 rfl rfl (Nat.le_of_ble_eq_true rfl) ?_
  refine Ec.iload_n (i := 1) dX10_cancel_1 rfl rfl ?_
  obtain ⟨o1, hok⟩ := hok
  by_cases c2 : (0 ≤ o ∧ o < ((c.2.2.1 5).length : Int))
  · rw [if_pos c2] at hok
    refine Ec.cv (v := some (5, (lget (c.2.2.1 5) o))) (c1 := c) (ci := 13) (as := [(0, o)]) k_X10_orderAt rfl (by decide) (tb5 (i := 148) rfl) ki_X10_orderAt kv_X10_orderAt dX10_cancel_2 rfl rfl (Nat.le_of_ble_eq_true rfl) (Nat.le_of_ble_eq_true rfl) (by have q := s_X10_orderAt (X := X) (ρ := ρ) (c := c) (i := o) o1; rw [t_X10_orderAt c2] at q; exact q) ?_
    refine Ec.astore_n (i := 2) dX10_cancel_5 rfl (by decide) (Nat.le_of_ble_eq_true rfl) ?_
    refine Ec.aload_n (i := 2) dX10_cancel_6 rfl rfl (Nat.le_of_ble_eq_true rfl) ?_
    refine Ec.gI (ci := 5) (k := 3) (c.2.1 5 3 (lget (c.2.2.1 5) o)) rfl rfl (by decide) (by decide) (tb5 (i := 104) rfl) (Or.inl rfl) rfl dX10_cancel_7 ?_
    refine Ec.bipush dX10_cancel_10 (by decide) ?_
    obtain ⟨o3, hok⟩ := hok
    by_cases c4 : (c.2.1 5 3 (lget (c.2.2.1 5) o)) = 111
    · rw [if_pos c4] at hok
      refine Ec.icmp_eq_t (tgt := 25) dX10_cancel_12 (by decide) o3 ⟨by decide, by decide⟩ c4 ?_
      refine Ec.aload_n (i := 2) dX10_cancel_25 rfl rfl (Nat.le_of_ble_eq_true rfl) ?_
      refine Ec.bipush dX10_cancel_26 (by decide) ?_
      refine Ec.pI (ci := 5) (k := 3) rfl rfl (by decide) (by decide) (tb5 (i := 104) rfl) (Or.inl rfl) (Or.inl rfl) rfl rfl rfl dX10_cancel_28 ?_
      refine Ec.aload_n (i := 2) dX10_cancel_31 rfl rfl (Nat.le_of_ble_eq_true rfl) ?_
      obtain ⟨o5, hok⟩ := hok
      refine Ec.cv (ci := 5) (as := []) k_X2_allUnits rfl (by decide) (tb5 (i := 163) rfl) ki_X2_allUnits kv_X2_allUnits dX10_cancel_32 rfl rfl (Nat.le_of_ble_eq_true rfl) (Nat.le_of_ble_eq_true rfl) (s_X2_allUnits o5) ?_
      exact Ec.iret rfl nar_i dX10_cancel_35 (by rw [g_X10_cancel, if_pos c2, if_pos c4]) (by rw [g_X10_cancel, if_pos c2, if_pos c4])
    · rw [if_neg c4] at hok
      refine Ec.icmp_eq_f (tgt := 25) dX10_cancel_12 (by decide) o3 ⟨by decide, by decide⟩ c4 ?_
      exact Ec.thr thr_ISE rfl rfl (Nat.le_of_ble_eq_true rfl) (Nat.le_of_ble_eq_true rfl) (tb5 (i := 162) rfl) dX10_cancel_15 dX10_cancel_18 dX10_cancel_19 dX10_cancel_21 dX10_cancel_24 (by rw [g_X10_cancel, if_pos c2, if_neg c4]) (by rw [g_X10_cancel, if_pos c2, if_neg c4])
  · exact Ec.cvx (E := "java/lang/IndexOutOfBoundsException") (c1 := cexc c) (ci := 13) (as := [(0, o)]) k_X10_orderAt rfl (by decide) (tb5 (i := 148) rfl) ki_X10_orderAt kv_X10_orderAt dX10_cancel_2 rfl rfl (Nat.le_of_ble_eq_true rfl) (Nat.le_of_ble_eq_true rfl) rfl (by have q := s_X10_orderAt (X := X) (ρ := ρ) (c := c) (i := o) o1; rw [x_X10_orderAt c2] at q; exact q) (by rw [g_X10_cancel, if_neg c2]) (by rw [g_X10_cancel, if_neg c2])
def g_X10_status (o : Int) (c : Cs) : Rr × Cs :=
  if (0 ≤ o ∧ o < ((c.2.2.1 5).length : Int)) then
    (.inl (some (0, (c.2.1 5 3 (lget (c.2.2.1 5) o)))), c)
  else
    (.inr "java/lang/IndexOutOfBoundsException", (cexc c))
def ok_X10_status (o : Int) (c : Cs) : Prop :=
  ok_X10_orderAt o c ∧ (
    if (0 ≤ o ∧ o < ((c.2.2.1 5).length : Int)) then
      (0 ≤ (c.2.1 5 3 (lget (c.2.2.1 5) o)) ∧ (c.2.1 5 3 (lget (c.2.2.1 5) o)) < 65536) ∧ (
        True)
    else
      True)
theorem s_X10_status {X : Cx} {ρ : Hp} {o : Int} {c : Cs} (hok : ok_X10_status o c) : Kc X ρ m_X10_status 7 [(13, 0), (0, o)] c ((g_X10_status o c)).1 ((g_X10_status o c)).2 := by
  refine Kc.of (by decide +kernel) rfl (Nat.le_of_ble_eq_true rfl) ?_
  rw [ok_X10_status] at hok
  refine Ec.aload_n (i := 0) dX10_status_0 rfl rfl (Nat.le_of_ble_eq_true rfl) ?_
  refine Ec.iload_n (i := 1) dX10_status_1 rfl rfl ?_
  obtain ⟨o1, hok⟩ := hok
  by_cases c2 : (0 ≤ o ∧ o < ((c.2.2.1 5).length : Int))
  · rw [if_pos c2] at hok
    refine Ec.cv (v := some (5, (lget (c.2.2.1 5) o))) (c1 := c) (ci := 13) (as := [(0, o)]) k_X10_orderAt rfl (by decide) (tb5 (i := 148) rfl) ki_X10_orderAt kv_X10_orderAt dX10_status_2 rfl rfl (Nat.le_of_ble_eq_true rfl) (Nat.le_of_ble_eq_true rfl) (by have q := s_X10_orderAt (X := X) (ρ := ρ) (c := c) (i := o) o1; rw [t_X10_orderAt c2] at q; exact q) ?_
    refine Ec.gI (ci := 5) (k := 3) (c.2.1 5 3 (lget (c.2.2.1 5) o)) rfl rfl (by decide) (by decide) (tb5 (i := 104) rfl) (Or.inl rfl) rfl dX10_status_5 ?_
    obtain ⟨o3, hok⟩ := hok
    exact Ec.iret rfl (nar_c o3.1 o3.2) dX10_status_8 (by rw [g_X10_status, if_pos c2]) (by rw [g_X10_status, if_pos c2])
  · exact Ec.cvx (E := "java/lang/IndexOutOfBoundsException") (c1 := cexc c) (ci := 13) (as := [(0, o)]) k_X10_orderAt rfl (by decide) (tb5 (i := 148) rfl) ki_X10_orderAt kv_X10_orderAt dX10_status_2 rfl rfl (Nat.le_of_ble_eq_true rfl) (Nat.le_of_ble_eq_true rfl) rfl (by have q := s_X10_orderAt (X := X) (ρ := ρ) (c := c) (i := o) o1; rw [x_X10_orderAt c2] at q; exact q) (by rw [g_X10_status, if_neg c2]) (by rw [g_X10_status, if_neg c2])
def g_X10_filledOn (o : Int) (c : Cs) : Rr × Cs :=
  if (0 ≤ o ∧ o < ((c.2.2.1 5).length : Int)) then
    if (c.2.1 5 3 (lget (c.2.2.1 5) o)) = 102 then
      (.inl (some (0, (c.2.1 5 4 (lget (c.2.2.1 5) o)))), c)
    else
      (.inr "java/lang/IllegalStateException", (cexc c))
  else
    (.inr "java/lang/IndexOutOfBoundsException", (cexc c))
def ok_X10_filledOn (o : Int) (c : Cs) : Prop :=
  ok_X10_orderAt o c ∧ (
    if (0 ≤ o ∧ o < ((c.2.2.1 5).length : Int)) then
      R32 (c.2.1 5 3 (lget (c.2.2.1 5) o)) ∧ (
        True)
    else
      True)
theorem s_X10_filledOn {X : Cx} {ρ : Hp} {o : Int} {c : Cs} (hok : ok_X10_filledOn o c) : Kc X ρ m_X10_filledOn 7 [(13, 0), (0, o)] c ((g_X10_filledOn o c)).1 ((g_X10_filledOn o c)).2 := by
  refine Kc.of (by decide +kernel) rfl (Nat.le_of_ble_eq_true rfl) ?_
  rw [ok_X10_filledOn] at hok
  refine Ec.aload_n (i := 0) dX10_filledOn_0 rfl rfl (Nat.le_of_ble_eq_true rfl) ?_
  refine Ec.iload_n (i := 1) dX10_filledOn_1 rfl rfl ?_
  obtain ⟨o1, hok⟩ := hok
  by_cases c2 : (0 ≤ o ∧ o < ((c.2.2.1 5).length : Int))
  · rw [if_pos c2] at hok
    refine Ec.cv (v := some (5, (lget (c.2.2.1 5) o))) (c1 := c) (ci := 13) (as := [(0, o)]) k_X10_orderAt rfl (by decide) (tb5 (i := 148) rfl) ki_X10_orderAt kv_X10_orderAt dX10_filledOn_2 rfl rfl (Nat.le_of_ble_eq_true rfl) (Nat.le_of_ble_eq_true rfl) (by have q := s_X10_orderAt (X := X) (ρ := ρ) (c := c) (i := o) o1; rw [t_X10_orderAt c2] at q; exact q) ?_
    refine Ec.astore_n (i := 2) dX10_filledOn_5 rfl (by decide) (Nat.le_of_ble_eq_true rfl) ?_
    refine Ec.aload_n (i := 2) dX10_filledOn_6 rfl rfl (Nat.le_of_ble_eq_true rfl) ?_
    refine Ec.gI (ci := 5) (k := 3) (c.2.1 5 3 (lget (c.2.2.1 5) o)) rfl rfl (by decide) (by decide) (tb5 (i := 104) rfl) (Or.inl rfl) rfl dX10_filledOn_7 ?_
    refine Ec.bipush dX10_filledOn_10 (by decide) ?_
    obtain ⟨o3, hok⟩ := hok
    by_cases c4 : (c.2.1 5 3 (lget (c.2.2.1 5) o)) = 102
    · refine Ec.icmp_eq_t (tgt := 25) dX10_filledOn_12 (by decide) o3 ⟨by decide, by decide⟩ c4 ?_
      refine Ec.aload_n (i := 2) dX10_filledOn_25 rfl rfl (Nat.le_of_ble_eq_true rfl) ?_
      refine Ec.gI (ci := 5) (k := 4) (c.2.1 5 4 (lget (c.2.2.1 5) o)) rfl rfl (by decide) (by decide) (tb5 (i := 106) rfl) (Or.inl rfl) rfl dX10_filledOn_26 ?_
      exact Ec.iret rfl nar_i dX10_filledOn_29 (by rw [g_X10_filledOn, if_pos c2, if_pos c4]) (by rw [g_X10_filledOn, if_pos c2, if_pos c4])
    · refine Ec.icmp_eq_f (tgt := 25) dX10_filledOn_12 (by decide) o3 ⟨by decide, by decide⟩ c4 ?_
      exact Ec.thr thr_ISE rfl rfl (Nat.le_of_ble_eq_true rfl) (Nat.le_of_ble_eq_true rfl) (tb6 (i := 200) rfl) dX10_filledOn_15 dX10_filledOn_18 dX10_filledOn_19 dX10_filledOn_21 dX10_filledOn_24 (by rw [g_X10_filledOn, if_pos c2, if_neg c4]) (by rw [g_X10_filledOn, if_pos c2, if_neg c4])
  · exact Ec.cvx (E := "java/lang/IndexOutOfBoundsException") (c1 := cexc c) (ci := 13) (as := [(0, o)]) k_X10_orderAt rfl (by decide) (tb5 (i := 148) rfl) ki_X10_orderAt kv_X10_orderAt dX10_filledOn_2 rfl rfl (Nat.le_of_ble_eq_true rfl) (Nat.le_of_ble_eq_true rfl) rfl (by have q := s_X10_orderAt (X := X) (ρ := ρ) (c := c) (i := o) o1; rw [x_X10_orderAt c2] at q; exact q) (by rw [g_X10_filledOn, if_neg c2]) (by rw [g_X10_filledOn, if_neg c2])
def l_X10_pass_24 (a : Int) : Nat → Int → Int → Cs → Rr × Cs
  | 0, u, i, c => (.inl none, c)
  | n + 1, u, i, c =>
    if a ≤ i then
      (.inl (some (0, u)), c)
    else
      (l_X10_pass_24 a n (u + (g_X10_passOneDay c).1) (i + 1) ((g_X10_passOneDay c).2))
def okl_X10_pass_24 (a : Int) : Nat → Int → Int → Cs → Prop
  | 0, u, i, c => False
  | n + 1, u, i, c =>
    R32 i ∧ (
      R32 a ∧ (
        if a ≤ i then
          True
        else
          ok_X10_passOneDay c ∧ (
            (okl_X10_pass_24 a n (u + (g_X10_passOneDay c).1) (i + 1) ((g_X10_passOneDay c).2)))))
theorem s_l_X10_pass_24 {X : Cx} {ρ : Hp} {a : Int} : ∀ (n : Nat) (u i : Int) (c : Cs), okl_X10_pass_24 a n u i c → Ec X ρ m_X10_pass 12 24 [some (13, 0), some (0, a), some (0, u), some (0, i)] [] c ((l_X10_pass_24 a n u i c)).1 ((l_X10_pass_24 a n u i c)).2 := by
  intro n
  induction n with
  | zero =>
    intro u i c hok
    exact False.elim hok
  | succ n ih =>
    intro u i c hok
    rw [okl_X10_pass_24] at hok
    refine Ec.iload_n (i := 3) dX10_pass_24 rfl rfl ?_
    refine Ec.iload_n (i := 1) dX10_pass_25 rfl rfl ?_
    obtain ⟨o1, hok⟩ := hok
    obtain ⟨o2, hok⟩ := hok
    by_cases c3 : a ≤ i
    · rw [if_pos c3] at hok
      refine Ec.icmp_ge_t (tgt := 42) dX10_pass_26 (by decide) o1 o2 c3 ?_
      refine Ec.iload_n (i := 2) dX10_pass_42 rfl rfl ?_
      exact Ec.iret rfl nar_i dX10_pass_43 (by rw [l_X10_pass_24, if_pos c3]) (by rw [l_X10_pass_24, if_pos c3])
    · rw [if_neg c3] at hok
      refine Ec.icmp_ge_f (tgt := 42) dX10_pass_26 (by decide) o1 o2 c3 ?_
      refine Ec.iload_n (i := 2) dX10_pass_29 rfl rfl ?_
      refine Ec.aload_n (i := 0) dX10_pass_30 rfl rfl (Nat.le_of_ble_eq_true rfl) ?_
      obtain ⟨o4, hok⟩ := hok
      refine Ec.cv (ci := 13) (as := []) k_X10_passOneDay rfl (by decide) (tb5 (i := 186) rfl) ki_X10_passOneDay kv_X10_passOneDay dX10_pass_31 rfl rfl (Nat.le_of_ble_eq_true rfl) (Nat.le_of_ble_eq_true rfl) (s_X10_passOneDay o4) ?_
      refine Ec.add dX10_pass_34 ?_
      refine Ec.istore_n (i := 2) dX10_pass_35 rfl (by decide) ?_
      refine Ec.inc dX10_pass_36 rfl (by decide) ?_
      refine Ec.goto (tgt := 24) dX10_pass_39 (by decide) ?_
      refine Ec.cnv (ls' := [some (13, 0), some (0, a), some (0, (u + (g_X10_passOneDay c).1)), some (0, (i + 1))]) ⟨Or.inl rfl, ⟨Or.inl rfl, ⟨Or.inl rfl, ⟨Or.inl rfl, trivial⟩⟩⟩⟩ ?_
      rw [l_X10_pass_24, if_neg c3]
      exact ih (u + (g_X10_passOneDay c).1) (i + 1) ((g_X10_passOneDay c).2) hok
def g_X10_pass (a : Int) (c : Cs) : Rr × Cs :=
  if (g_X10_isOutside a 1 30 c) = 0 then
    (l_X10_pass_24 a fu 0 0 c)
  else
    (.inr "java/lang/IllegalArgumentException", (cexc c))
def ok_X10_pass (a : Int) (c : Cs) : Prop :=
  ok_X10_isOutside a 1 30 c ∧ (
    if (g_X10_isOutside a 1 30 c) = 0 then
      (okl_X10_pass_24 a fu 0 0 c)
    else
      True)
theorem s_X10_pass {X : Cx} {ρ : Hp} {a : Int} {c : Cs} (hok : ok_X10_pass a c) : Kc X ρ m_X10_pass 12 [(13, 0), (0, a)] c ((g_X10_pass a c)).1 ((g_X10_pass a c)).2 := by
  refine Kc.of (by decide +kernel) rfl (Nat.le_of_ble_eq_true rfl) ?_
  rw [ok_X10_pass] at hok
  refine Ec.iload_n (i := 1) dX10_pass_0 rfl rfl ?_
  refine Ec.const dX10_pass_1 ?_
  refine Ec.bipush dX10_pass_2 (by decide) ?_
  obtain ⟨o5, hok⟩ := hok
  refine Ec.cs (as := [(0, a), (0, 1), (0, 30)]) k_X10_isOutside (tb2 (i := 111) rfl) ki_X10_isOutside dX10_pass_4 rfl rfl (Nat.le_of_ble_eq_true rfl) (Nat.le_of_ble_eq_true rfl) (s_X10_isOutside o5) ?_
  have q6 : 0 ≤ (g_X10_isOutside a 1 30 c) ∧ (g_X10_isOutside a 1 30 c) ≤ 1 := r_X10_isOutside
  by_cases c7 : (g_X10_isOutside a 1 30 c) = 0
  · rw [if_pos c7] at hok
    refine Ec.if_eq_t (tgt := 20) dX10_pass_7 (by decide) ⟨by omega, by omega⟩ c7 ?_
    refine Ec.const dX10_pass_20 ?_
    refine Ec.istore_n (i := 2) dX10_pass_21 rfl (by decide) ?_
    refine Ec.const dX10_pass_22 ?_
    refine Ec.istore_n (i := 3) dX10_pass_23 rfl (by decide) ?_
    refine Ec.cnv (ls' := [some (13, 0), some (0, a), some (0, 0), some (0, 0)]) ⟨Or.inl rfl, ⟨Or.inl rfl, ⟨Or.inl rfl, ⟨Or.inl rfl, trivial⟩⟩⟩⟩ ?_
    rw [g_X10_pass, if_pos c7]
    exact s_l_X10_pass_24 (a := a)  fu 0 0 c hok
  · rw [if_neg c7] at hok
    refine Ec.if_eq_f (tgt := 20) dX10_pass_7 (by decide) ⟨by omega, by omega⟩ c7 ?_
    exact Ec.thr thr_IAE rfl rfl (Nat.le_of_ble_eq_true rfl) (Nat.le_of_ble_eq_true rfl) (tb2 (i := 114) rfl) dX10_pass_10 dX10_pass_13 dX10_pass_14 dX10_pass_16 dX10_pass_19 (by rw [g_X10_pass, if_neg c7]) (by rw [g_X10_pass, if_neg c7])
def g_X10_day (c : Cs) : Int :=
  (c.2.1 13 11 0)
theorem s_X10_day {X : Cx} {ρ : Hp} {c : Cs} : Kc X ρ m_X10_day 1 [(13, 0)] c (.inl (some (0, (g_X10_day c)))) c := by
  refine Kc.of (by decide +kernel) rfl (Nat.le_of_ble_eq_true rfl) ?_
  refine Ec.aload_n (i := 0) dX10_day_0 rfl rfl (Nat.le_of_ble_eq_true rfl) ?_
  refine Ec.gI (ci := 13) (k := 11) (c.2.1 13 11 0) rfl rfl (by decide) (by decide) (tb1 (i := 195) rfl) (Or.inl rfl) rfl dX10_day_1 ?_
  exact Ec.iret rfl nar_i dX10_day_4 (by rw [g_X10_day]) rfl
def g_X10_state (w : Int) (c : Cs) : Rr × Cs :=
  if (0 ≤ w ∧ w < ((c.2.2.1 2).length : Int)) then
    (.inl (some (0, (c.2.1 11 2 (lget (c.2.2.1 2) w)))), c)
  else
    (.inr "java/lang/IndexOutOfBoundsException", (cexc c))
def ok_X10_state (w : Int) (c : Cs) : Prop :=
  ok_X10_vesselAt w c ∧ (
    if (0 ≤ w ∧ w < ((c.2.2.1 2).length : Int)) then
      (0 ≤ (c.2.1 11 2 (lget (c.2.2.1 2) w)) ∧ (c.2.1 11 2 (lget (c.2.2.1 2) w)) < 65536) ∧ (
        True)
    else
      True)
theorem s_X10_state {X : Cx} {ρ : Hp} {w : Int} {c : Cs} (hok : ok_X10_state w c) : Kc X ρ m_X10_state 7 [(13, 0), (0, w)] c ((g_X10_state w c)).1 ((g_X10_state w c)).2 := by
  refine Kc.of (by decide +kernel) rfl (Nat.le_of_ble_eq_true rfl) ?_
  rw [ok_X10_state] at hok
  refine Ec.aload_n (i := 0) dX10_state_0 rfl rfl (Nat.le_of_ble_eq_true rfl) ?_
  refine Ec.iload_n (i := 1) dX10_state_1 rfl rfl ?_
  obtain ⟨o1, hok⟩ := hok
  by_cases c2 : (0 ≤ w ∧ w < ((c.2.2.1 2).length : Int))
  · rw [if_pos c2] at hok
    refine Ec.cv (v := some (11, (lget (c.2.2.1 2) w))) (c1 := c) (ci := 13) (as := [(0, w)]) k_X10_vesselAt rfl (by decide) (tb3 (i := 24) rfl) ki_X10_vesselAt kv_X10_vesselAt dX10_state_2 rfl rfl (Nat.le_of_ble_eq_true rfl) (Nat.le_of_ble_eq_true rfl) (by have q := s_X10_vesselAt (X := X) (ρ := ρ) (c := c) (i := w) o1; rw [t_X10_vesselAt c2] at q; exact q) ?_
    refine Ec.gI (ci := 11) (k := 2) (c.2.1 11 2 (lget (c.2.2.1 2) w)) rfl rfl (by decide) (by decide) (tb2 (i := 179) rfl) (Or.inl rfl) rfl dX10_state_5 ?_
    obtain ⟨o3, hok⟩ := hok
    exact Ec.iret rfl (nar_c o3.1 o3.2) dX10_state_8 (by rw [g_X10_state, if_pos c2]) (by rw [g_X10_state, if_pos c2])
  · exact Ec.cvx (E := "java/lang/IndexOutOfBoundsException") (c1 := cexc c) (ci := 13) (as := [(0, w)]) k_X10_vesselAt rfl (by decide) (tb3 (i := 24) rfl) ki_X10_vesselAt kv_X10_vesselAt dX10_state_2 rfl rfl (Nat.le_of_ble_eq_true rfl) (Nat.le_of_ble_eq_true rfl) rfl (by have q := s_X10_vesselAt (X := X) (ρ := ρ) (c := c) (i := w) o1; rw [x_X10_vesselAt c2] at q; exact q) (by rw [g_X10_state, if_neg c2]) (by rw [g_X10_state, if_neg c2])
def g_X10_brewIn (w : Int) (c : Cs) : Rr × Cs :=
  if (0 ≤ w ∧ w < ((c.2.2.1 2).length : Int)) then
    if (c.2.1 11 5 (lget (c.2.2.1 2) w)) = -1 then
      (.inr "java/util/NoSuchElementException", (cexc c))
    else
      (.inl (some (0, (c.2.1 3 0 (c.2.1 11 5 (lget (c.2.2.1 2) w))))), c)
  else
    (.inr "java/lang/IndexOutOfBoundsException", (cexc c))
def ok_X10_brewIn (w : Int) (c : Cs) : Prop :=
  ok_X10_vesselAt w c ∧ (
    True)
theorem s_X10_brewIn {X : Cx} {ρ : Hp} {w : Int} {c : Cs} (hok : ok_X10_brewIn w c) : Kc X ρ m_X10_brewIn 7 [(13, 0), (0, w)] c ((g_X10_brewIn w c)).1 ((g_X10_brewIn w c)).2 := by
  refine Kc.of (by decide +kernel) rfl (Nat.le_of_ble_eq_true rfl) ?_
  rw [ok_X10_brewIn] at hok
  refine Ec.aload_n (i := 0) dX10_brewIn_0 rfl rfl (Nat.le_of_ble_eq_true rfl) ?_
  refine Ec.iload_n (i := 1) dX10_brewIn_1 rfl rfl ?_
  obtain ⟨o1, hok⟩ := hok
  by_cases c2 : (0 ≤ w ∧ w < ((c.2.2.1 2).length : Int))
  · refine Ec.cv (v := some (11, (lget (c.2.2.1 2) w))) (c1 := c) (ci := 13) (as := [(0, w)]) k_X10_vesselAt rfl (by decide) (tb3 (i := 24) rfl) ki_X10_vesselAt kv_X10_vesselAt dX10_brewIn_2 rfl rfl (Nat.le_of_ble_eq_true rfl) (Nat.le_of_ble_eq_true rfl) (by have q := s_X10_vesselAt (X := X) (ρ := ρ) (c := c) (i := w) o1; rw [t_X10_vesselAt c2] at q; exact q) ?_
    refine Ec.gQ (ci := 11) (k := 5) (t := 3) (c.2.1 11 5 (lget (c.2.2.1 2) w)) rfl rfl rfl (by decide) (by decide) (tb2 (i := 186) rfl) (Or.inl rfl) rfl dX10_brewIn_5 ?_
    refine Ec.astore_n (i := 2) dX10_brewIn_8 rfl (by decide) (Nat.le_of_ble_eq_true rfl) ?_
    refine Ec.aload_n (i := 2) dX10_brewIn_9 rfl rfl (Nat.le_of_ble_eq_true rfl) ?_
    by_cases c3 : (c.2.1 11 5 (lget (c.2.2.1 2) w)) = -1
    · refine Ec.ifnonnull_f (t := 3) (tgt := 24) dX10_brewIn_10 (by decide) c3 ?_
      exact Ec.thrW thr_NSE rfl rfl (Nat.le_of_ble_eq_true rfl) (Nat.le_of_ble_eq_true rfl) (tb6 (i := 69) rfl) dX10_brewIn_13 dX10_brewIn_16 dX10_brewIn_17 dX10_brewIn_20 dX10_brewIn_23 (by rw [g_X10_brewIn, if_pos c2, if_pos c3]) (by rw [g_X10_brewIn, if_pos c2, if_pos c3])
    · refine Ec.ifnonnull_t (t := 3) (tgt := 24) dX10_brewIn_10 (by decide) c3 ?_
      refine Ec.nn (i := 2) (t := 3) rfl c3 (by decide) ?_
      refine Ec.aload_n (i := 2) dX10_brewIn_24 rfl rfl (Nat.le_of_ble_eq_true rfl) ?_
      refine Ec.gI (ci := 3) (k := 0) (c.2.1 3 0 (c.2.1 11 5 (lget (c.2.2.1 2) w))) rfl rfl (by decide) (by decide) (tb3 (i := 112) rfl) (Or.inl rfl) rfl dX10_brewIn_25 ?_
      exact Ec.iret rfl nar_i dX10_brewIn_28 (by rw [g_X10_brewIn, if_pos c2, if_neg c3]) (by rw [g_X10_brewIn, if_pos c2, if_neg c3])
  · exact Ec.cvx (E := "java/lang/IndexOutOfBoundsException") (c1 := cexc c) (ci := 13) (as := [(0, w)]) k_X10_vesselAt rfl (by decide) (tb3 (i := 24) rfl) ki_X10_vesselAt kv_X10_vesselAt dX10_brewIn_2 rfl rfl (Nat.le_of_ble_eq_true rfl) (Nat.le_of_ble_eq_true rfl) rfl (by have q := s_X10_vesselAt (X := X) (ρ := ρ) (c := c) (i := w) o1; rw [x_X10_vesselAt c2] at q; exact q) (by rw [g_X10_brewIn, if_neg c2]) (by rw [g_X10_brewIn, if_neg c2])
def g_X10_cleanDay (w : Int) (c : Cs) : Rr × Cs :=
  if (0 ≤ w ∧ w < ((c.2.2.1 2).length : Int)) then
    if (c.2.1 11 2 (lget (c.2.2.1 2) w)) = 103 then
      (.inl (some (0, ((c.2.1 13 11 0) + (c.2.1 11 3 (lget (c.2.2.1 2) w))))), c)
    else
      (.inr "java/util/NoSuchElementException", (cexc c))
  else
    (.inr "java/lang/IndexOutOfBoundsException", (cexc c))
def ok_X10_cleanDay (w : Int) (c : Cs) : Prop :=
  ok_X10_vesselAt w c ∧ (
    if (0 ≤ w ∧ w < ((c.2.2.1 2).length : Int)) then
      R32 (c.2.1 11 2 (lget (c.2.2.1 2) w)) ∧ (
        True)
    else
      True)
theorem s_X10_cleanDay {X : Cx} {ρ : Hp} {w : Int} {c : Cs} (hok : ok_X10_cleanDay w c) : Kc X ρ m_X10_cleanDay 7 [(13, 0), (0, w)] c ((g_X10_cleanDay w c)).1 ((g_X10_cleanDay w c)).2 := by
  refine Kc.of (by decide +kernel) rfl (Nat.le_of_ble_eq_true rfl) ?_
  rw [ok_X10_cleanDay] at hok
  refine Ec.aload_n (i := 0) dX10_cleanDay_0 rfl rfl (Nat.le_of_ble_eq_true rfl) ?_
  refine Ec.iload_n (i := 1) dX10_cleanDay_1 rfl rfl ?_
  obtain ⟨o1, hok⟩ := hok
  by_cases c2 : (0 ≤ w ∧ w < ((c.2.2.1 2).length : Int))
  · rw [if_pos c2] at hok
    refine Ec.cv (v := some (11, (lget (c.2.2.1 2) w))) (c1 := c) (ci := 13) (as := [(0, w)]) k_X10_vesselAt rfl (by decide) (tb3 (i := 24) rfl) ki_X10_vesselAt kv_X10_vesselAt dX10_cleanDay_2 rfl rfl (Nat.le_of_ble_eq_true rfl) (Nat.le_of_ble_eq_true rfl) (by have q := s_X10_vesselAt (X := X) (ρ := ρ) (c := c) (i := w) o1; rw [t_X10_vesselAt c2] at q; exact q) ?_
    refine Ec.astore_n (i := 2) dX10_cleanDay_5 rfl (by decide) (Nat.le_of_ble_eq_true rfl) ?_
    refine Ec.aload_n (i := 2) dX10_cleanDay_6 rfl rfl (Nat.le_of_ble_eq_true rfl) ?_
    refine Ec.gI (ci := 11) (k := 2) (c.2.1 11 2 (lget (c.2.2.1 2) w)) rfl rfl (by decide) (by decide) (tb2 (i := 179) rfl) (Or.inl rfl) rfl dX10_cleanDay_7 ?_
    refine Ec.bipush dX10_cleanDay_10 (by decide) ?_
    obtain ⟨o3, hok⟩ := hok
    by_cases c4 : (c.2.1 11 2 (lget (c.2.2.1 2) w)) = 103
    · refine Ec.icmp_eq_t (tgt := 26) dX10_cleanDay_12 (by decide) o3 ⟨by decide, by decide⟩ c4 ?_
      refine Ec.aload_n (i := 0) dX10_cleanDay_26 rfl rfl (Nat.le_of_ble_eq_true rfl) ?_
      refine Ec.gI (ci := 13) (k := 11) (c.2.1 13 11 0) rfl rfl (by decide) (by decide) (tb1 (i := 195) rfl) (Or.inl rfl) rfl dX10_cleanDay_27 ?_
      refine Ec.aload_n (i := 2) dX10_cleanDay_30 rfl rfl (Nat.le_of_ble_eq_true rfl) ?_
      refine Ec.gI (ci := 11) (k := 3) (c.2.1 11 3 (lget (c.2.2.1 2) w)) rfl rfl (by decide) (by decide) (tb2 (i := 181) rfl) (Or.inl rfl) rfl dX10_cleanDay_31 ?_
      refine Ec.add dX10_cleanDay_34 ?_
      exact Ec.iret rfl nar_i dX10_cleanDay_35 (by rw [g_X10_cleanDay, if_pos c2, if_pos c4]) (by rw [g_X10_cleanDay, if_pos c2, if_pos c4])
    · refine Ec.icmp_eq_f (tgt := 26) dX10_cleanDay_12 (by decide) o3 ⟨by decide, by decide⟩ c4 ?_
      exact Ec.thrW thr_NSE rfl rfl (Nat.le_of_ble_eq_true rfl) (Nat.le_of_ble_eq_true rfl) (tb6 (i := 136) rfl) dX10_cleanDay_15 dX10_cleanDay_18 dX10_cleanDay_19 dX10_cleanDay_22 dX10_cleanDay_25 (by rw [g_X10_cleanDay, if_pos c2, if_neg c4]) (by rw [g_X10_cleanDay, if_pos c2, if_neg c4])
  · exact Ec.cvx (E := "java/lang/IndexOutOfBoundsException") (c1 := cexc c) (ci := 13) (as := [(0, w)]) k_X10_vesselAt rfl (by decide) (tb3 (i := 24) rfl) ki_X10_vesselAt kv_X10_vesselAt dX10_cleanDay_2 rfl rfl (Nat.le_of_ble_eq_true rfl) (Nat.le_of_ble_eq_true rfl) rfl (by have q := s_X10_vesselAt (X := X) (ρ := ρ) (c := c) (i := w) o1; rw [x_X10_vesselAt c2] at q; exact q) (by rw [g_X10_cleanDay, if_neg c2]) (by rw [g_X10_cleanDay, if_neg c2])
def g_X10_brews (c : Cs) : Int :=
  ((c.2.2.1 3).length : Int)
theorem s_X10_brews {X : Cx} {ρ : Hp} {c : Cs} : Kc X ρ m_X10_brews 2 [(13, 0)] c (.inl (some (0, (g_X10_brews c)))) c := by
  refine Kc.of (by decide +kernel) rfl (Nat.le_of_ble_eq_true rfl) ?_
  refine Ec.aload_n (i := 0) dX10_brews_0 rfl rfl (Nat.le_of_ble_eq_true rfl) ?_
  refine Ec.gL (ci := 13) (k := 3) (t := 2) 3 (fun h _ => ⟨h.2.1.2.2.2.1, by decide⟩) rfl (by decide) rfl (by decide) (by decide) (tb1 (i := 187) rfl) (Or.inl rfl) rfl dX10_brews_1 ?_
  refine Ec.say (fun _ hL _ hs => ?_)
  have q1 : ((c.2.2.1 3).length : Int) ≤ 200 := hL _ (hs.hd.r ⟨Nat.le_of_ble_eq_true rfl, Nat.le_of_ble_eq_true rfl⟩).2.1 (hs.hd.r ⟨Nat.le_of_ble_eq_true rfl, Nat.le_of_ble_eq_true rfl⟩).2.2
  refine Ec.cf (as := []) kf_Jx4a65c_size_8abf5 (tb1 (i := 226) rfl) dX10_brews_4 rfl rfl (Nat.le_of_ble_eq_true rfl) (Nat.le_of_ble_eq_true rfl) kl_size ?_
  exact Ec.iret rfl nar_i dX10_brews_9 (by rw [g_X10_brews]) rfl
def g_X10_recipeOf (b : Int) (c : Cs) : Rr × Cs :=
  if (0 ≤ b ∧ b < ((c.2.2.1 3).length : Int)) then
    (.inl (some (0, (c.2.1 9 0 (c.2.1 3 1 (lget (c.2.2.1 3) b))))), c)
  else
    (.inr "java/lang/IndexOutOfBoundsException", (cexc c))
def ok_X10_recipeOf (b : Int) (c : Cs) : Prop :=
  ok_X10_brewAt b c ∧ (
    if (0 ≤ b ∧ b < ((c.2.2.1 3).length : Int)) then
      (c.2.1 3 1 (lget (c.2.2.1 3) b)) ≠ -1 ∧ (
        True)
    else
      True)
theorem s_X10_recipeOf {X : Cx} {ρ : Hp} {b : Int} {c : Cs} (hok : ok_X10_recipeOf b c) : Kc X ρ m_X10_recipeOf 7 [(13, 0), (0, b)] c ((g_X10_recipeOf b c)).1 ((g_X10_recipeOf b c)).2 := by
  refine Kc.of (by decide +kernel) rfl (Nat.le_of_ble_eq_true rfl) ?_
  rw [ok_X10_recipeOf] at hok
  refine Ec.aload_n (i := 0) dX10_recipeOf_0 rfl rfl (Nat.le_of_ble_eq_true rfl) ?_
  refine Ec.iload_n (i := 1) dX10_recipeOf_1 rfl rfl ?_
  obtain ⟨o1, hok⟩ := hok
  by_cases c2 : (0 ≤ b ∧ b < ((c.2.2.1 3).length : Int))
  · rw [if_pos c2] at hok
    refine Ec.cv (v := some (3, (lget (c.2.2.1 3) b))) (c1 := c) (ci := 13) (as := [(0, b)]) k_X10_brewAt rfl (by decide) (tb6 (i := 77) rfl) ki_X10_brewAt kv_X10_brewAt dX10_recipeOf_2 rfl rfl (Nat.le_of_ble_eq_true rfl) (Nat.le_of_ble_eq_true rfl) (by have q := s_X10_brewAt (X := X) (ρ := ρ) (c := c) (i := b) o1; rw [t_X10_brewAt c2] at q; exact q) ?_
    refine Ec.gQ (ci := 3) (k := 1) (t := 9) (c.2.1 3 1 (lget (c.2.2.1 3) b)) rfl rfl rfl (by decide) (by decide) (tb3 (i := 114) rfl) (Or.inl rfl) rfl dX10_recipeOf_5 ?_
    obtain ⟨o3, hok⟩ := hok
    refine Ec.nns (t := 9) o3 (by decide) ?_
    refine Ec.gI (ci := 9) (k := 0) (c.2.1 9 0 (c.2.1 3 1 (lget (c.2.2.1 3) b))) rfl rfl (by decide) (by decide) (tb2 (i := 138) rfl) (Or.inl rfl) rfl dX10_recipeOf_8 ?_
    exact Ec.iret rfl nar_i dX10_recipeOf_11 (by rw [g_X10_recipeOf, if_pos c2]) (by rw [g_X10_recipeOf, if_pos c2])
  · exact Ec.cvx (E := "java/lang/IndexOutOfBoundsException") (c1 := cexc c) (ci := 13) (as := [(0, b)]) k_X10_brewAt rfl (by decide) (tb6 (i := 77) rfl) ki_X10_brewAt kv_X10_brewAt dX10_recipeOf_2 rfl rfl (Nat.le_of_ble_eq_true rfl) (Nat.le_of_ble_eq_true rfl) rfl (by have q := s_X10_brewAt (X := X) (ρ := ρ) (c := c) (i := b) o1; rw [x_X10_brewAt c2] at q; exact q) (by rw [g_X10_recipeOf, if_neg c2]) (by rw [g_X10_recipeOf, if_neg c2])
def g_X10_generation (b : Int) (c : Cs) : Rr × Cs :=
  if (0 ≤ b ∧ b < ((c.2.2.1 3).length : Int)) then
    (.inl (some (0, (c.2.1 3 2 (lget (c.2.2.1 3) b)))), c)
  else
    (.inr "java/lang/IndexOutOfBoundsException", (cexc c))
def ok_X10_generation (b : Int) (c : Cs) : Prop :=
  ok_X10_brewAt b c ∧ (
    True)
theorem s_X10_generation {X : Cx} {ρ : Hp} {b : Int} {c : Cs} (hok : ok_X10_generation b c) : Kc X ρ m_X10_generation 7 [(13, 0), (0, b)] c ((g_X10_generation b c)).1 ((g_X10_generation b c)).2 := by
  refine Kc.of (by decide +kernel) rfl (Nat.le_of_ble_eq_true rfl) ?_
  rw [ok_X10_generation] at hok
  refine Ec.aload_n (i := 0) dX10_generation_0 rfl rfl (Nat.le_of_ble_eq_true rfl) ?_
  refine Ec.iload_n (i := 1) dX10_generation_1 rfl rfl ?_
  obtain ⟨o1, hok⟩ := hok
  by_cases c2 : (0 ≤ b ∧ b < ((c.2.2.1 3).length : Int))
  · refine Ec.cv (v := some (3, (lget (c.2.2.1 3) b))) (c1 := c) (ci := 13) (as := [(0, b)]) k_X10_brewAt rfl (by decide) (tb6 (i := 77) rfl) ki_X10_brewAt kv_X10_brewAt dX10_generation_2 rfl rfl (Nat.le_of_ble_eq_true rfl) (Nat.le_of_ble_eq_true rfl) (by have q := s_X10_brewAt (X := X) (ρ := ρ) (c := c) (i := b) o1; rw [t_X10_brewAt c2] at q; exact q) ?_
    refine Ec.gI (ci := 3) (k := 2) (c.2.1 3 2 (lget (c.2.2.1 3) b)) rfl rfl (by decide) (by decide) (tb3 (i := 116) rfl) (Or.inl rfl) rfl dX10_generation_5 ?_
    exact Ec.iret rfl nar_i dX10_generation_8 (by rw [g_X10_generation, if_pos c2]) (by rw [g_X10_generation, if_pos c2])
  · exact Ec.cvx (E := "java/lang/IndexOutOfBoundsException") (c1 := cexc c) (ci := 13) (as := [(0, b)]) k_X10_brewAt rfl (by decide) (tb6 (i := 77) rfl) ki_X10_brewAt kv_X10_brewAt dX10_generation_2 rfl rfl (Nat.le_of_ble_eq_true rfl) (Nat.le_of_ble_eq_true rfl) rfl (by have q := s_X10_brewAt (X := X) (ρ := ρ) (c := c) (i := b) o1; rw [x_X10_brewAt c2] at q; exact q) (by rw [g_X10_generation, if_neg c2]) (by rw [g_X10_generation, if_neg c2])
def g_X10_stage (b : Int) (c : Cs) : Rr × Cs :=
  if (0 ≤ b ∧ b < ((c.2.2.1 3).length : Int)) then
    (.inl (some (0, (c.2.1 3 3 (lget (c.2.2.1 3) b)))), c)
  else
    (.inr "java/lang/IndexOutOfBoundsException", (cexc c))
def ok_X10_stage (b : Int) (c : Cs) : Prop :=
  ok_X10_brewAt b c ∧ (
    if (0 ≤ b ∧ b < ((c.2.2.1 3).length : Int)) then
      (0 ≤ (c.2.1 3 3 (lget (c.2.2.1 3) b)) ∧ (c.2.1 3 3 (lget (c.2.2.1 3) b)) < 65536) ∧ (
        True)
    else
      True)
theorem s_X10_stage {X : Cx} {ρ : Hp} {b : Int} {c : Cs} (hok : ok_X10_stage b c) : Kc X ρ m_X10_stage 7 [(13, 0), (0, b)] c ((g_X10_stage b c)).1 ((g_X10_stage b c)).2 := by
  refine Kc.of (by decide +kernel) rfl (Nat.le_of_ble_eq_true rfl) ?_
  rw [ok_X10_stage] at hok
  refine Ec.aload_n (i := 0) dX10_stage_0 rfl rfl (Nat.le_of_ble_eq_true rfl) ?_
  refine Ec.iload_n (i := 1) dX10_stage_1 rfl rfl ?_
  obtain ⟨o1, hok⟩ := hok
  by_cases c2 : (0 ≤ b ∧ b < ((c.2.2.1 3).length : Int))
  · rw [if_pos c2] at hok
    refine Ec.cv (v := some (3, (lget (c.2.2.1 3) b))) (c1 := c) (ci := 13) (as := [(0, b)]) k_X10_brewAt rfl (by decide) (tb6 (i := 77) rfl) ki_X10_brewAt kv_X10_brewAt dX10_stage_2 rfl rfl (Nat.le_of_ble_eq_true rfl) (Nat.le_of_ble_eq_true rfl) (by have q := s_X10_brewAt (X := X) (ρ := ρ) (c := c) (i := b) o1; rw [t_X10_brewAt c2] at q; exact q) ?_
    refine Ec.gI (ci := 3) (k := 3) (c.2.1 3 3 (lget (c.2.2.1 3) b)) rfl rfl (by decide) (by decide) (tb3 (i := 119) rfl) (Or.inl rfl) rfl dX10_stage_5 ?_
    obtain ⟨o3, hok⟩ := hok
    exact Ec.iret rfl (nar_c o3.1 o3.2) dX10_stage_8 (by rw [g_X10_stage, if_pos c2]) (by rw [g_X10_stage, if_pos c2])
  · exact Ec.cvx (E := "java/lang/IndexOutOfBoundsException") (c1 := cexc c) (ci := 13) (as := [(0, b)]) k_X10_brewAt rfl (by decide) (tb6 (i := 77) rfl) ki_X10_brewAt kv_X10_brewAt dX10_stage_2 rfl rfl (Nat.le_of_ble_eq_true rfl) (Nat.le_of_ble_eq_true rfl) rfl (by have q := s_X10_brewAt (X := X) (ρ := ρ) (c := c) (i := b) o1; rw [x_X10_brewAt c2] at q; exact q) (by rw [g_X10_stage, if_neg c2]) (by rw [g_X10_stage, if_neg c2])
def g_X10_vesselOf (b : Int) (c : Cs) : Rr × Cs :=
  if (0 ≤ b ∧ b < ((c.2.2.1 3).length : Int)) then
    if (c.2.1 3 6 (lget (c.2.2.1 3) b)) = -1 then
      (.inr "java/util/NoSuchElementException", (cexc c))
    else
      (.inl (some (0, (c.2.1 11 0 (c.2.1 3 6 (lget (c.2.2.1 3) b))))), c)
  else
    (.inr "java/lang/IndexOutOfBoundsException", (cexc c))
def ok_X10_vesselOf (b : Int) (c : Cs) : Prop :=
  ok_X10_brewAt b c ∧ (
    True)
theorem s_X10_vesselOf {X : Cx} {ρ : Hp} {b : Int} {c : Cs} (hok : ok_X10_vesselOf b c) : Kc X ρ m_X10_vesselOf 7 [(13, 0), (0, b)] c ((g_X10_vesselOf b c)).1 ((g_X10_vesselOf b c)).2 := by
  refine Kc.of (by decide +kernel) rfl (Nat.le_of_ble_eq_true rfl) ?_
  rw [ok_X10_vesselOf] at hok
  refine Ec.aload_n (i := 0) dX10_vesselOf_0 rfl rfl (Nat.le_of_ble_eq_true rfl) ?_
  refine Ec.iload_n (i := 1) dX10_vesselOf_1 rfl rfl ?_
  obtain ⟨o1, hok⟩ := hok
  by_cases c2 : (0 ≤ b ∧ b < ((c.2.2.1 3).length : Int))
  · refine Ec.cv (v := some (3, (lget (c.2.2.1 3) b))) (c1 := c) (ci := 13) (as := [(0, b)]) k_X10_brewAt rfl (by decide) (tb6 (i := 77) rfl) ki_X10_brewAt kv_X10_brewAt dX10_vesselOf_2 rfl rfl (Nat.le_of_ble_eq_true rfl) (Nat.le_of_ble_eq_true rfl) (by have q := s_X10_brewAt (X := X) (ρ := ρ) (c := c) (i := b) o1; rw [t_X10_brewAt c2] at q; exact q) ?_
    refine Ec.gQ (ci := 3) (k := 6) (t := 11) (c.2.1 3 6 (lget (c.2.2.1 3) b)) rfl rfl rfl (by decide) (by decide) (tb3 (i := 127) rfl) (Or.inl rfl) rfl dX10_vesselOf_5 ?_
    refine Ec.astore_n (i := 2) dX10_vesselOf_8 rfl (by decide) (Nat.le_of_ble_eq_true rfl) ?_
    refine Ec.aload_n (i := 2) dX10_vesselOf_9 rfl rfl (Nat.le_of_ble_eq_true rfl) ?_
    by_cases c3 : (c.2.1 3 6 (lget (c.2.2.1 3) b)) = -1
    · refine Ec.ifnonnull_f (t := 11) (tgt := 24) dX10_vesselOf_10 (by decide) c3 ?_
      exact Ec.thrW thr_NSE rfl rfl (Nat.le_of_ble_eq_true rfl) (Nat.le_of_ble_eq_true rfl) (tb6 (i := 96) rfl) dX10_vesselOf_13 dX10_vesselOf_16 dX10_vesselOf_17 dX10_vesselOf_20 dX10_vesselOf_23 (by rw [g_X10_vesselOf, if_pos c2, if_pos c3]) (by rw [g_X10_vesselOf, if_pos c2, if_pos c3])
    · refine Ec.ifnonnull_t (t := 11) (tgt := 24) dX10_vesselOf_10 (by decide) c3 ?_
      refine Ec.nn (i := 2) (t := 11) rfl c3 (by decide) ?_
      refine Ec.aload_n (i := 2) dX10_vesselOf_24 rfl rfl (Nat.le_of_ble_eq_true rfl) ?_
      refine Ec.gI (ci := 11) (k := 0) (c.2.1 11 0 (c.2.1 3 6 (lget (c.2.2.1 3) b))) rfl rfl (by decide) (by decide) (tb2 (i := 175) rfl) (Or.inl rfl) rfl dX10_vesselOf_25 ?_
      exact Ec.iret rfl nar_i dX10_vesselOf_28 (by rw [g_X10_vesselOf, if_pos c2, if_neg c3]) (by rw [g_X10_vesselOf, if_pos c2, if_neg c3])
  · exact Ec.cvx (E := "java/lang/IndexOutOfBoundsException") (c1 := cexc c) (ci := 13) (as := [(0, b)]) k_X10_brewAt rfl (by decide) (tb6 (i := 77) rfl) ki_X10_brewAt kv_X10_brewAt dX10_vesselOf_2 rfl rfl (Nat.le_of_ble_eq_true rfl) (Nat.le_of_ble_eq_true rfl) rfl (by have q := s_X10_brewAt (X := X) (ρ := ρ) (c := c) (i := b) o1; rw [x_X10_brewAt c2] at q; exact q) (by rw [g_X10_vesselOf, if_neg c2]) (by rw [g_X10_vesselOf, if_neg c2])
def g_X10_daysToGo (b : Int) (c : Cs) : Rr × Cs :=
  if (0 ≤ b ∧ b < ((c.2.2.1 3).length : Int)) then
    if (g_X0_isAtWork (lget (c.2.2.1 3) b) c) = 0 then
      (.inr "java/util/NoSuchElementException", (cexc c))
    else
      (.inl (some (0, (c.2.1 3 4 (lget (c.2.2.1 3) b)))), c)
  else
    (.inr "java/lang/IndexOutOfBoundsException", (cexc c))
def ok_X10_daysToGo (b : Int) (c : Cs) : Prop :=
  ok_X10_brewAt b c ∧ (
    if (0 ≤ b ∧ b < ((c.2.2.1 3).length : Int)) then
      ok_X0_isAtWork (lget (c.2.2.1 3) b) c ∧ (
        True)
    else
      True)
theorem s_X10_daysToGo {X : Cx} {ρ : Hp} {b : Int} {c : Cs} (hok : ok_X10_daysToGo b c) : Kc X ρ m_X10_daysToGo 7 [(13, 0), (0, b)] c ((g_X10_daysToGo b c)).1 ((g_X10_daysToGo b c)).2 := by
  refine Kc.of (by decide +kernel) rfl (Nat.le_of_ble_eq_true rfl) ?_
  rw [ok_X10_daysToGo] at hok
  refine Ec.aload_n (i := 0) dX10_daysToGo_0 rfl rfl (Nat.le_of_ble_eq_true rfl) ?_
  refine Ec.iload_n (i := 1) dX10_daysToGo_1 rfl rfl ?_
  obtain ⟨o1, hok⟩ := hok
  by_cases c2 : (0 ≤ b ∧ b < ((c.2.2.1 3).length : Int))
  · rw [if_pos c2] at hok
    refine Ec.cv (v := some (3, (lget (c.2.2.1 3) b))) (c1 := c) (ci := 13) (as := [(0, b)]) k_X10_brewAt rfl (by decide) (tb6 (i := 77) rfl) ki_X10_brewAt kv_X10_brewAt dX10_daysToGo_2 rfl rfl (Nat.le_of_ble_eq_true rfl) (Nat.le_of_ble_eq_true rfl) (by have q := s_X10_brewAt (X := X) (ρ := ρ) (c := c) (i := b) o1; rw [t_X10_brewAt c2] at q; exact q) ?_
    refine Ec.astore_n (i := 2) dX10_daysToGo_5 rfl (by decide) (Nat.le_of_ble_eq_true rfl) ?_
    refine Ec.aload_n (i := 2) dX10_daysToGo_6 rfl rfl (Nat.le_of_ble_eq_true rfl) ?_
    obtain ⟨o3, hok⟩ := hok
    refine Ec.cv (ci := 3) (as := []) k_X0_isAtWork rfl (by decide) (tb5 (i := 198) rfl) ki_X0_isAtWork kv_X0_isAtWork dX10_daysToGo_7 rfl rfl (Nat.le_of_ble_eq_true rfl) (Nat.le_of_ble_eq_true rfl) (s_X0_isAtWork o3) ?_
    have q4 : 0 ≤ (g_X0_isAtWork (lget (c.2.2.1 3) b) c) ∧ (g_X0_isAtWork (lget (c.2.2.1 3) b) c) ≤ 1 := r_X0_isAtWork
    by_cases c5 : (g_X0_isAtWork (lget (c.2.2.1 3) b) c) = 0
    · refine Ec.if_ne_f (tgt := 24) dX10_daysToGo_10 (by decide) ⟨by omega, by omega⟩ (fun h => h c5) ?_
      exact Ec.thrW thr_NSE rfl rfl (Nat.le_of_ble_eq_true rfl) (Nat.le_of_ble_eq_true rfl) (tb6 (i := 122) rfl) dX10_daysToGo_13 dX10_daysToGo_16 dX10_daysToGo_17 dX10_daysToGo_20 dX10_daysToGo_23 (by rw [g_X10_daysToGo, if_pos c2, if_pos c5]) (by rw [g_X10_daysToGo, if_pos c2, if_pos c5])
    · refine Ec.if_ne_t (tgt := 24) dX10_daysToGo_10 (by decide) ⟨by omega, by omega⟩ c5 ?_
      refine Ec.aload_n (i := 2) dX10_daysToGo_24 rfl rfl (Nat.le_of_ble_eq_true rfl) ?_
      refine Ec.gI (ci := 3) (k := 4) (c.2.1 3 4 (lget (c.2.2.1 3) b)) rfl rfl (by decide) (by decide) (tb3 (i := 122) rfl) (Or.inl rfl) rfl dX10_daysToGo_25 ?_
      exact Ec.iret rfl nar_i dX10_daysToGo_28 (by rw [g_X10_daysToGo, if_pos c2, if_neg c5]) (by rw [g_X10_daysToGo, if_pos c2, if_neg c5])
  · exact Ec.cvx (E := "java/lang/IndexOutOfBoundsException") (c1 := cexc c) (ci := 13) (as := [(0, b)]) k_X10_brewAt rfl (by decide) (tb6 (i := 77) rfl) ki_X10_brewAt kv_X10_brewAt dX10_daysToGo_2 rfl rfl (Nat.le_of_ble_eq_true rfl) (Nat.le_of_ble_eq_true rfl) rfl (by have q := s_X10_brewAt (X := X) (ρ := ρ) (c := c) (i := b) o1; rw [x_X10_brewAt c2] at q; exact q) (by rw [g_X10_daysToGo, if_neg c2]) (by rw [g_X10_daysToGo, if_neg c2])
def g_X10_stock (r : Int) (c : Cs) : Rr × Cs :=
  if (0 ≤ r ∧ r < ((c.2.2.1 1).length : Int)) then
    (.inl (some (0, (g_X10_unitsReady (lget (c.2.2.1 1) r) c))), c)
  else
    (.inr "java/lang/IndexOutOfBoundsException", (cexc c))
def ok_X10_stock (r : Int) (c : Cs) : Prop :=
  ok_X10_recipeAt r c ∧ (
    if (0 ≤ r ∧ r < ((c.2.2.1 1).length : Int)) then
      ok_X10_unitsReady (lget (c.2.2.1 1) r) c ∧ (
        True)
    else
      True)
theorem s_X10_stock {X : Cx} {ρ : Hp} {r : Int} {c : Cs} (hok : ok_X10_stock r c) : Kc X ρ m_X10_stock 7 [(13, 0), (0, r)] c ((g_X10_stock r c)).1 ((g_X10_stock r c)).2 := by
  refine Kc.of (by decide +kernel) rfl (Nat.le_of_ble_eq_true rfl) ?_
  rw [ok_X10_stock] at hok
  refine Ec.aload_n (i := 0) dX10_stock_0 rfl rfl (Nat.le_of_ble_eq_true rfl) ?_
  refine Ec.aload_n (i := 0) dX10_stock_1 rfl rfl (Nat.le_of_ble_eq_true rfl) ?_
  refine Ec.iload_n (i := 1) dX10_stock_2 rfl rfl ?_
  obtain ⟨o1, hok⟩ := hok
  by_cases c2 : (0 ≤ r ∧ r < ((c.2.2.1 1).length : Int))
  · rw [if_pos c2] at hok
    refine Ec.cv (v := some (9, (lget (c.2.2.1 1) r))) (c1 := c) (ci := 13) (as := [(0, r)]) k_X10_recipeAt rfl (by decide) (tb3 (i := 4) rfl) ki_X10_recipeAt kv_X10_recipeAt dX10_stock_3 rfl rfl (Nat.le_of_ble_eq_true rfl) (Nat.le_of_ble_eq_true rfl) (by have q := s_X10_recipeAt (X := X) (ρ := ρ) (c := c) (i := r) o1; rw [t_X10_recipeAt c2] at q; exact q) ?_
    obtain ⟨o3, hok⟩ := hok
    refine Ec.cv (ci := 13) (as := [(9, (lget (c.2.2.1 1) r))]) k_X10_unitsReady rfl (by decide) (tb6 (i := 18) rfl) ki_X10_unitsReady kv_X10_unitsReady dX10_stock_6 rfl rfl (Nat.le_of_ble_eq_true rfl) (Nat.le_of_ble_eq_true rfl) (Kc.wk (wk0 (wk1 wkN (by decide))) (s_X10_unitsReady o3)) ?_
    exact Ec.iret rfl nar_i dX10_stock_9 (by rw [g_X10_stock, if_pos c2]) (by rw [g_X10_stock, if_pos c2])
  · exact Ec.cvx (E := "java/lang/IndexOutOfBoundsException") (c1 := cexc c) (ci := 13) (as := [(0, r)]) k_X10_recipeAt rfl (by decide) (tb3 (i := 4) rfl) ki_X10_recipeAt kv_X10_recipeAt dX10_stock_3 rfl rfl (Nat.le_of_ble_eq_true rfl) (Nat.le_of_ble_eq_true rfl) rfl (by have q := s_X10_recipeAt (X := X) (ρ := ρ) (c := c) (i := r) o1; rw [x_X10_recipeAt c2] at q; exact q) (by rw [g_X10_stock, if_neg c2]) (by rw [g_X10_stock, if_neg c2])
def l_X10_stockByDeliveries_82 (q : Int) (c : Cs) : Nat → Int → Int → Rr × Cs
  | 0, u, i => (.inl none, c)
  | n + 1, u, i =>
    if ((c.2.2.1 7).length : Int) ≤ i then
      (.inl (some (0, u)), c)
    else
      if (c.2.1 3 1 (c.2.1 4 0 (lget (c.2.2.1 7) i))) = q then
        (l_X10_stockByDeliveries_82 q c n (u - (c.2.1 4 2 (lget (c.2.2.1 7) i))) (i + 1))
      else
        (l_X10_stockByDeliveries_82 q c n u (i + 1))
def okl_X10_stockByDeliveries_82 (q : Int) (c : Cs) : Nat → Int → Int → Prop
  | 0, u, i => False
  | n + 1, u, i =>
    R32 i ∧ (
      if ((c.2.2.1 7).length : Int) ≤ i then
        True
      else
        ((0 : Int) ≤ i ∧ i < ((c.2.2.1 7).length : Int)) ∧ (
          (c.2.1 4 0 (lget (c.2.2.1 7) i)) ≠ -1 ∧ (
            (c.2.1 3 1 (c.2.1 4 0 (lget (c.2.2.1 7) i))) ≠ -1 ∧ (
              if (c.2.1 3 1 (c.2.1 4 0 (lget (c.2.2.1 7) i))) = q then
                (okl_X10_stockByDeliveries_82 q c n (u - (c.2.1 4 2 (lget (c.2.2.1 7) i))) (i + 1))
              else
                (okl_X10_stockByDeliveries_82 q c n u (i + 1))))))
theorem s_l_X10_stockByDeliveries_82 {X : Cx} {ρ : Hp} {q : Int} {c : Cs} : ∀ (n : Nat) (u i : Int), okl_X10_stockByDeliveries_82 q c n u i → Ec X ρ m_X10_stockByDeliveries 7 82 [some (13, 0), none, some (9, q), some (0, u), some (0, i), none] [] c ((l_X10_stockByDeliveries_82 q c n u i)).1 ((l_X10_stockByDeliveries_82 q c n u i)).2 := by
  intro n
  induction n with
  | zero =>
    intro u i hok
    exact False.elim hok
  | succ n ih =>
    intro u i hok
    rw [okl_X10_stockByDeliveries_82] at hok
    refine Ec.iload dX10_stockByDeliveries_82 rfl ?_
    refine Ec.aload_n (i := 0) dX10_stockByDeliveries_84 rfl rfl (Nat.le_of_ble_eq_true rfl) ?_
    refine Ec.gL (ci := 13) (k := 7) (t := 2) 7 (fun h _ => ⟨h.2.1.2.2.2.2.2.2.2.1, by decide⟩) rfl (by decide) rfl (by decide) (by decide) (tb1 (i := 191) rfl) (Or.inl rfl) rfl dX10_stockByDeliveries_85 ?_
    refine Ec.say (fun _ hL _ hs => ?_)
    have q1 : ((c.2.2.1 7).length : Int) ≤ 200 := hL _ (hs.hd.r ⟨Nat.le_of_ble_eq_true rfl, Nat.le_of_ble_eq_true rfl⟩).2.1 (hs.hd.r ⟨Nat.le_of_ble_eq_true rfl, Nat.le_of_ble_eq_true rfl⟩).2.2
    refine Ec.cf (as := []) kf_Jx4a65c_size_8abf5 (tb1 (i := 226) rfl) dX10_stockByDeliveries_88 rfl rfl (Nat.le_of_ble_eq_true rfl) (Nat.le_of_ble_eq_true rfl) kl_size ?_
    obtain ⟨o2, hok⟩ := hok
    by_cases c3 : ((c.2.2.1 7).length : Int) ≤ i
    · rw [if_pos c3] at hok
      refine Ec.icmp_ge_t (tgt := 138) dX10_stockByDeliveries_93 (by decide) o2 ⟨by omega, by omega⟩ c3 ?_
      refine Ec.iload_n (i := 3) dX10_stockByDeliveries_138 rfl rfl ?_
      exact Ec.iret rfl nar_i dX10_stockByDeliveries_139 (by rw [l_X10_stockByDeliveries_82, if_pos c3]) (by rw [l_X10_stockByDeliveries_82, if_pos c3])
    · rw [if_neg c3] at hok
      refine Ec.icmp_ge_f (tgt := 138) dX10_stockByDeliveries_93 (by decide) o2 ⟨by omega, by omega⟩ c3 ?_
      refine Ec.aload_n (i := 0) dX10_stockByDeliveries_96 rfl rfl (Nat.le_of_ble_eq_true rfl) ?_
      refine Ec.gL (ci := 13) (k := 7) (t := 2) 7 (fun h _ => ⟨h.2.1.2.2.2.2.2.2.2.1, by decide⟩) rfl (by decide) rfl (by decide) (by decide) (tb1 (i := 191) rfl) (Or.inl rfl) rfl dX10_stockByDeliveries_97 ?_
      refine Ec.iload dX10_stockByDeliveries_100 rfl ?_
      obtain ⟨o4, hok⟩ := hok
      refine Ec.cf (as := [(0, i)]) kf_Jx4a65c_get_915e3 (tb2 (i := 93) rfl) dX10_stockByDeliveries_102 rfl rfl (Nat.le_of_ble_eq_true rfl) (Nat.le_of_ble_eq_true rfl) (kl_get rfl o4) ?_
      refine Ec.cast (ci := 4) rfl (by decide) (tb6 (i := 35) rfl) dX10_stockByDeliveries_107 ?_
      refine Ec.astore dX10_stockByDeliveries_110 (by decide) (Nat.le_of_ble_eq_true rfl) ?_
      refine Ec.aload dX10_stockByDeliveries_112 rfl (Nat.le_of_ble_eq_true rfl) ?_
      refine Ec.gQ (ci := 4) (k := 0) (t := 3) (c.2.1 4 0 (lget (c.2.2.1 7) i)) rfl rfl rfl (by decide) (by decide) (tb6 (i := 42) rfl) (Or.inl rfl) rfl dX10_stockByDeliveries_114 ?_
      obtain ⟨o5, hok⟩ := hok
      refine Ec.nns (t := 3) o5 (by decide) ?_
      refine Ec.gQ (ci := 3) (k := 1) (t := 9) (c.2.1 3 1 (c.2.1 4 0 (lget (c.2.2.1 7) i))) rfl rfl rfl (by decide) (by decide) (tb3 (i := 114) rfl) (Or.inl rfl) rfl dX10_stockByDeliveries_117 ?_
      obtain ⟨o6, hok⟩ := hok
      refine Ec.nns (t := 9) o6 (by decide) ?_
      refine Ec.aload_n (i := 2) dX10_stockByDeliveries_120 rfl rfl (Nat.le_of_ble_eq_true rfl) ?_
      by_cases c7 : (c.2.1 3 1 (c.2.1 4 0 (lget (c.2.2.1 7) i))) = q
      · rw [if_pos c7] at hok
        refine Ec.acmp_ne_f (t := 9) (tgt := 132) ⟨by decide, by decide, Or.inl rfl⟩ ⟨by decide, by decide, Or.inl rfl⟩ dX10_stockByDeliveries_121 (by decide) (fun h => h c7) ?_
        refine Ec.iload_n (i := 3) dX10_stockByDeliveries_124 rfl rfl ?_
        refine Ec.aload dX10_stockByDeliveries_125 rfl (Nat.le_of_ble_eq_true rfl) ?_
        refine Ec.gI (ci := 4) (k := 2) (c.2.1 4 2 (lget (c.2.2.1 7) i)) rfl rfl (by decide) (by decide) (tb6 (i := 46) rfl) (Or.inl rfl) rfl dX10_stockByDeliveries_127 ?_
        refine Ec.sub dX10_stockByDeliveries_130 ?_
        refine Ec.istore_n (i := 3) dX10_stockByDeliveries_131 rfl (by decide) ?_
        refine Ec.inc dX10_stockByDeliveries_132 rfl (by decide) ?_
        refine Ec.goto (tgt := 82) dX10_stockByDeliveries_135 (by decide) ?_
        refine Ec.cnv (ls' := [some (13, 0), none, some (9, q), some (0, (u - (c.2.1 4 2 (lget (c.2.2.1 7) i)))), some (0, (i + 1)), none]) ⟨Or.inl rfl, ⟨Or.inl rfl, ⟨Or.inl rfl, ⟨Or.inl rfl, trivial⟩⟩⟩⟩ ?_
        rw [l_X10_stockByDeliveries_82, if_neg c3, if_pos c7]
        exact ih (u - (c.2.1 4 2 (lget (c.2.2.1 7) i))) (i + 1) hok
      · rw [if_neg c7] at hok
        refine Ec.acmp_ne_t (t := 9) (tgt := 132) ⟨by decide, by decide, Or.inl rfl⟩ ⟨by decide, by decide, Or.inl rfl⟩ dX10_stockByDeliveries_121 (by decide) c7 ?_
        refine Ec.inc dX10_stockByDeliveries_132 rfl (by decide) ?_
        refine Ec.goto (tgt := 82) dX10_stockByDeliveries_135 (by decide) ?_
        refine Ec.cnv (ls' := [some (13, 0), none, some (9, q), some (0, u), some (0, (i + 1)), none]) ⟨Or.inl rfl, ⟨Or.inl rfl, ⟨Or.inl rfl, ⟨Or.inl rfl, trivial⟩⟩⟩⟩ ?_
        rw [l_X10_stockByDeliveries_82, if_neg c3, if_neg c7]
        exact ih u (i + 1) hok
def l_X10_stockByDeliveries_11 (q : Int) (c : Cs) : Nat → Int → Int → Int
  | 0, u, i => u
  | n + 1, u, i =>
    if ((c.2.2.1 3).length : Int) ≤ i then
      u
    else
      if (c.2.1 3 1 (lget (c.2.2.1 3) i)) = q then
        if (c.2.1 3 3 (lget (c.2.2.1 3) i)) = 114 then
          (l_X10_stockByDeliveries_11 q c n (u + 20) (i + 1))
        else
          if (c.2.1 3 3 (lget (c.2.2.1 3) i)) = 120 then
            (l_X10_stockByDeliveries_11 q c n (u + 20) (i + 1))
          else
            (l_X10_stockByDeliveries_11 q c n u (i + 1))
      else
        (l_X10_stockByDeliveries_11 q c n u (i + 1))
def okl_X10_stockByDeliveries_11 (q : Int) (c : Cs) : Nat → Int → Int → Prop
  | 0, u, i => False
  | n + 1, u, i =>
    R32 i ∧ (
      if ((c.2.2.1 3).length : Int) ≤ i then
        True
      else
        ((0 : Int) ≤ i ∧ i < ((c.2.2.1 3).length : Int)) ∧ (
          (c.2.1 3 1 (lget (c.2.2.1 3) i)) ≠ -1 ∧ (
            if (c.2.1 3 1 (lget (c.2.2.1 3) i)) = q then
              R32 (c.2.1 3 3 (lget (c.2.2.1 3) i)) ∧ (
                if (c.2.1 3 3 (lget (c.2.2.1 3) i)) = 114 then
                  (okl_X10_stockByDeliveries_11 q c n (u + 20) (i + 1))
                else
                  if (c.2.1 3 3 (lget (c.2.2.1 3) i)) = 120 then
                    (okl_X10_stockByDeliveries_11 q c n (u + 20) (i + 1))
                  else
                    (okl_X10_stockByDeliveries_11 q c n u (i + 1)))
            else
              (okl_X10_stockByDeliveries_11 q c n u (i + 1)))))
theorem s_l_X10_stockByDeliveries_11 {X : Cx} {ρ : Hp} {q : Int} {c : Cs} {rr : Rr} {c' : Cs} : ∀ (n : Nat) (u i : Int), okl_X10_stockByDeliveries_11 q c n u i → (Ec X ρ m_X10_stockByDeliveries 7 79 [some (13, 0), none, some (9, q), some (0, (l_X10_stockByDeliveries_11 q c n u i)), none, none] [] c rr c' → Ec X ρ m_X10_stockByDeliveries 7 11 [some (13, 0), none, some (9, q), some (0, u), some (0, i), none] [] c rr c') := by
  intro n
  induction n with
  | zero =>
    intro u i hok K
    exact False.elim hok
  | succ n ih =>
    intro u i hok K
    rw [okl_X10_stockByDeliveries_11] at hok
    refine Ec.iload dX10_stockByDeliveries_11 rfl ?_
    refine Ec.aload_n (i := 0) dX10_stockByDeliveries_13 rfl rfl (Nat.le_of_ble_eq_true rfl) ?_
    refine Ec.gL (ci := 13) (k := 3) (t := 2) 3 (fun h _ => ⟨h.2.1.2.2.2.1, by decide⟩) rfl (by decide) rfl (by decide) (by decide) (tb1 (i := 187) rfl) (Or.inl rfl) rfl dX10_stockByDeliveries_14 ?_
    refine Ec.say (fun _ hL _ hs => ?_)
    have q8 : ((c.2.2.1 3).length : Int) ≤ 200 := hL _ (hs.hd.r ⟨Nat.le_of_ble_eq_true rfl, Nat.le_of_ble_eq_true rfl⟩).2.1 (hs.hd.r ⟨Nat.le_of_ble_eq_true rfl, Nat.le_of_ble_eq_true rfl⟩).2.2
    refine Ec.cf (as := []) kf_Jx4a65c_size_8abf5 (tb1 (i := 226) rfl) dX10_stockByDeliveries_17 rfl rfl (Nat.le_of_ble_eq_true rfl) (Nat.le_of_ble_eq_true rfl) kl_size ?_
    obtain ⟨o9, hok⟩ := hok
    by_cases c10 : ((c.2.2.1 3).length : Int) ≤ i
    · rw [if_pos c10] at hok
      refine Ec.icmp_ge_t (tgt := 79) dX10_stockByDeliveries_22 (by decide) o9 ⟨by omega, by omega⟩ c10 ?_
      rw [l_X10_stockByDeliveries_11, if_pos c10] at K
      refine Ec.cnv (ls' := [some (13, 0), none, some (9, q), some (0, u), none, none]) ⟨Or.inl rfl, ⟨Or.inl rfl, ⟨Or.inl rfl, trivial⟩⟩⟩ ?_
      exact K
    · rw [if_neg c10] at hok
      refine Ec.icmp_ge_f (tgt := 79) dX10_stockByDeliveries_22 (by decide) o9 ⟨by omega, by omega⟩ c10 ?_
      refine Ec.aload_n (i := 0) dX10_stockByDeliveries_25 rfl rfl (Nat.le_of_ble_eq_true rfl) ?_
      refine Ec.gL (ci := 13) (k := 3) (t := 2) 3 (fun h _ => ⟨h.2.1.2.2.2.1, by decide⟩) rfl (by decide) rfl (by decide) (by decide) (tb1 (i := 187) rfl) (Or.inl rfl) rfl dX10_stockByDeliveries_26 ?_
      refine Ec.iload dX10_stockByDeliveries_29 rfl ?_
      obtain ⟨o11, hok⟩ := hok
      refine Ec.cf (as := [(0, i)]) kf_Jx4a65c_get_915e3 (tb2 (i := 93) rfl) dX10_stockByDeliveries_31 rfl rfl (Nat.le_of_ble_eq_true rfl) (Nat.le_of_ble_eq_true rfl) (kl_get rfl o11) ?_
      refine Ec.cast (ci := 3) rfl (by decide) (tb3 (i := 87) rfl) dX10_stockByDeliveries_36 ?_
      refine Ec.astore dX10_stockByDeliveries_39 (by decide) (Nat.le_of_ble_eq_true rfl) ?_
      refine Ec.aload dX10_stockByDeliveries_41 rfl (Nat.le_of_ble_eq_true rfl) ?_
      refine Ec.gQ (ci := 3) (k := 1) (t := 9) (c.2.1 3 1 (lget (c.2.2.1 3) i)) rfl rfl rfl (by decide) (by decide) (tb3 (i := 114) rfl) (Or.inl rfl) rfl dX10_stockByDeliveries_43 ?_
      obtain ⟨o12, hok⟩ := hok
      refine Ec.nns (t := 9) o12 (by decide) ?_
      refine Ec.aload_n (i := 2) dX10_stockByDeliveries_46 rfl rfl (Nat.le_of_ble_eq_true rfl) ?_
      by_cases c13 : (c.2.1 3 1 (lget (c.2.2.1 3) i)) = q
      · rw [if_pos c13] at hok
        refine Ec.acmp_ne_f (t := 9) (tgt := 73) ⟨by decide, by decide, Or.inl rfl⟩ ⟨by decide, by decide, Or.inl rfl⟩ dX10_stockByDeliveries_47 (by decide) (fun h => h c13) ?_
        refine Ec.aload dX10_stockByDeliveries_50 rfl (Nat.le_of_ble_eq_true rfl) ?_
        refine Ec.gI (ci := 3) (k := 3) (c.2.1 3 3 (lget (c.2.2.1 3) i)) rfl rfl (by decide) (by decide) (tb3 (i := 119) rfl) (Or.inl rfl) rfl dX10_stockByDeliveries_52 ?_
        refine Ec.bipush dX10_stockByDeliveries_55 (by decide) ?_
        obtain ⟨o14, hok⟩ := hok
        by_cases c15 : (c.2.1 3 3 (lget (c.2.2.1 3) i)) = 114
        · rw [if_pos c15] at hok
          refine Ec.icmp_eq_t (tgt := 70) dX10_stockByDeliveries_57 (by decide) o14 ⟨by decide, by decide⟩ c15 ?_
          refine Ec.inc dX10_stockByDeliveries_70 rfl (by decide) ?_
          refine Ec.inc dX10_stockByDeliveries_73 rfl (by decide) ?_
          refine Ec.goto (tgt := 11) dX10_stockByDeliveries_76 (by decide) ?_
          refine Ec.cnv (ls' := [some (13, 0), none, some (9, q), some (0, (u + 20)), some (0, (i + 1)), none]) ⟨Or.inl rfl, ⟨Or.inl rfl, ⟨Or.inl rfl, ⟨Or.inl rfl, trivial⟩⟩⟩⟩ ?_
          rw [l_X10_stockByDeliveries_11, if_neg c10, if_pos c13, if_pos c15] at K
          exact ih (u + 20) (i + 1) hok K
        · rw [if_neg c15] at hok
          refine Ec.icmp_eq_f (tgt := 70) dX10_stockByDeliveries_57 (by decide) o14 ⟨by decide, by decide⟩ c15 ?_
          refine Ec.aload dX10_stockByDeliveries_60 rfl (Nat.le_of_ble_eq_true rfl) ?_
          refine Ec.gI (ci := 3) (k := 3) (c.2.1 3 3 (lget (c.2.2.1 3) i)) rfl rfl (by decide) (by decide) (tb3 (i := 119) rfl) (Or.inl rfl) rfl dX10_stockByDeliveries_62 ?_
          refine Ec.bipush dX10_stockByDeliveries_65 (by decide) ?_
          by_cases c16 : (c.2.1 3 3 (lget (c.2.2.1 3) i)) = 120
          · rw [if_pos c16] at hok
            refine Ec.icmp_ne_f (tgt := 73) dX10_stockByDeliveries_67 (by decide) o14 ⟨by decide, by decide⟩ (fun h => h c16) ?_
            refine Ec.inc dX10_stockByDeliveries_70 rfl (by decide) ?_
            refine Ec.inc dX10_stockByDeliveries_73 rfl (by decide) ?_
            refine Ec.goto (tgt := 11) dX10_stockByDeliveries_76 (by decide) ?_
            refine Ec.cnv (ls' := [some (13, 0), none, some (9, q), some (0, (u + 20)), some (0, (i + 1)), none]) ⟨Or.inl rfl, ⟨Or.inl rfl, ⟨Or.inl rfl, ⟨Or.inl rfl, trivial⟩⟩⟩⟩ ?_
            rw [l_X10_stockByDeliveries_11, if_neg c10, if_pos c13, if_neg c15, if_pos c16] at K
            exact ih (u + 20) (i + 1) hok K
          · rw [if_neg c16] at hok
            refine Ec.icmp_ne_t (tgt := 73) dX10_stockByDeliveries_67 (by decide) o14 ⟨by decide, by decide⟩ c16 ?_
            refine Ec.inc dX10_stockByDeliveries_73 rfl (by decide) ?_
            refine Ec.goto (tgt := 11) dX10_stockByDeliveries_76 (by decide) ?_
            refine Ec.cnv (ls' := [some (13, 0), none, some (9, q), some (0, u), some (0, (i + 1)), none]) ⟨Or.inl rfl, ⟨Or.inl rfl, ⟨Or.inl rfl, ⟨Or.inl rfl, trivial⟩⟩⟩⟩ ?_
            rw [l_X10_stockByDeliveries_11, if_neg c10, if_pos c13, if_neg c15, if_neg c16] at K
            exact ih u (i + 1) hok K
      · rw [if_neg c13] at hok
        refine Ec.acmp_ne_t (t := 9) (tgt := 73) ⟨by decide, by decide, Or.inl rfl⟩ ⟨by decide, by decide, Or.inl rfl⟩ dX10_stockByDeliveries_47 (by decide) c13 ?_
        refine Ec.inc dX10_stockByDeliveries_73 rfl (by decide) ?_
        refine Ec.goto (tgt := 11) dX10_stockByDeliveries_76 (by decide) ?_
        refine Ec.cnv (ls' := [some (13, 0), none, some (9, q), some (0, u), some (0, (i + 1)), none]) ⟨Or.inl rfl, ⟨Or.inl rfl, ⟨Or.inl rfl, ⟨Or.inl rfl, trivial⟩⟩⟩⟩ ?_
        rw [l_X10_stockByDeliveries_11, if_neg c10, if_neg c13] at K
        exact ih u (i + 1) hok K
def g_X10_stockByDeliveries (r : Int) (c : Cs) : Rr × Cs :=
  if (0 ≤ r ∧ r < ((c.2.2.1 1).length : Int)) then
    (l_X10_stockByDeliveries_82 (lget (c.2.2.1 1) r) c fu (l_X10_stockByDeliveries_11 (lget (c.2.2.1 1) r) c fu 0 0) 0)
  else
    (.inr "java/lang/IndexOutOfBoundsException", (cexc c))
def ok_X10_stockByDeliveries (r : Int) (c : Cs) : Prop :=
  ok_X10_recipeAt r c ∧ (
    if (0 ≤ r ∧ r < ((c.2.2.1 1).length : Int)) then
      (okl_X10_stockByDeliveries_11 (lget (c.2.2.1 1) r) c fu 0 0) ∧ (
        (okl_X10_stockByDeliveries_82 (lget (c.2.2.1 1) r) c fu (l_X10_stockByDeliveries_11 (lget (c.2.2.1 1) r) c fu 0 0) 0))
    else
      True)
theorem s_X10_stockByDeliveries {X : Cx} {ρ : Hp} {r : Int} {c : Cs} (hok : ok_X10_stockByDeliveries r c) : Kc X ρ m_X10_stockByDeliveries 7 [(13, 0), (0, r)] c ((g_X10_stockByDeliveries r c)).1 ((g_X10_stockByDeliveries r c)).2 := by
  refine Kc.of (by decide +kernel) rfl (Nat.le_of_ble_eq_true rfl) ?_
  rw [ok_X10_stockByDeliveries] at hok
  refine Ec.aload_n (i := 0) dX10_stockByDeliveries_0 rfl rfl (Nat.le_of_ble_eq_true rfl) ?_
  refine Ec.iload_n (i := 1) dX10_stockByDeliveries_1 rfl rfl ?_
  obtain ⟨o17, hok⟩ := hok
  by_cases c18 : (0 ≤ r ∧ r < ((c.2.2.1 1).length : Int))
  · rw [if_pos c18] at hok
    refine Ec.cv (v := some (9, (lget (c.2.2.1 1) r))) (c1 := c) (ci := 13) (as := [(0, r)]) k_X10_recipeAt rfl (by decide) (tb3 (i := 4) rfl) ki_X10_recipeAt kv_X10_recipeAt dX10_stockByDeliveries_2 rfl rfl (Nat.le_of_ble_eq_true rfl) (Nat.le_of_ble_eq_true rfl) (by have q := s_X10_recipeAt (X := X) (ρ := ρ) (c := c) (i := r) o17; rw [t_X10_recipeAt c18] at q; exact q) ?_
    refine Ec.astore_n (i := 2) dX10_stockByDeliveries_5 rfl (by decide) (Nat.le_of_ble_eq_true rfl) ?_
    refine Ec.const dX10_stockByDeliveries_6 ?_
    refine Ec.istore_n (i := 3) dX10_stockByDeliveries_7 rfl (by decide) ?_
    refine Ec.const dX10_stockByDeliveries_8 ?_
    refine Ec.istore dX10_stockByDeliveries_9 (by decide) ?_
    refine Ec.cnv (ls' := [some (13, 0), none, some (9, (lget (c.2.2.1 1) r)), some (0, 0), some (0, 0), none]) ⟨Or.inl rfl, ⟨Or.inl rfl, ⟨Or.inl rfl, ⟨Or.inl rfl, trivial⟩⟩⟩⟩ ?_
    obtain ⟨o19, hok⟩ := hok
    refine s_l_X10_stockByDeliveries_11 (q := (lget (c.2.2.1 1) r)) (c := c)  fu 0 0 o19 ?_
    refine Ec.const dX10_stockByDeliveries_79 ?_
    refine Ec.istore dX10_stockByDeliveries_80 (by decide) ?_
    refine Ec.cnv (ls' := [some (13, 0), none, some (9, (lget (c.2.2.1 1) r)), some (0, (l_X10_stockByDeliveries_11 (lget (c.2.2.1 1) r) c fu 0 0)), some (0, 0), none]) ⟨Or.inl rfl, ⟨Or.inl rfl, ⟨Or.inl rfl, ⟨Or.inl rfl, trivial⟩⟩⟩⟩ ?_
    rw [g_X10_stockByDeliveries, if_pos c18]
    exact s_l_X10_stockByDeliveries_82 (q := (lget (c.2.2.1 1) r)) (c := c)  fu (l_X10_stockByDeliveries_11 (lget (c.2.2.1 1) r) c fu 0 0) 0 hok
  · exact Ec.cvx (E := "java/lang/IndexOutOfBoundsException") (c1 := cexc c) (ci := 13) (as := [(0, r)]) k_X10_recipeAt rfl (by decide) (tb3 (i := 4) rfl) ki_X10_recipeAt kv_X10_recipeAt dX10_stockByDeliveries_2 rfl rfl (Nat.le_of_ble_eq_true rfl) (Nat.le_of_ble_eq_true rfl) rfl (by have q := s_X10_recipeAt (X := X) (ρ := ρ) (c := c) (i := r) o17; rw [x_X10_recipeAt c18] at q; exact q) (by rw [g_X10_stockByDeliveries, if_neg c18]) (by rw [g_X10_stockByDeliveries, if_neg c18])
def g_X10_deliveries (c : Cs) : Int :=
  ((c.2.2.1 7).length : Int)
theorem s_X10_deliveries {X : Cx} {ρ : Hp} {c : Cs} : Kc X ρ m_X10_deliveries 2 [(13, 0)] c (.inl (some (0, (g_X10_deliveries c)))) c := by
  refine Kc.of (by decide +kernel) rfl (Nat.le_of_ble_eq_true rfl) ?_
  refine Ec.aload_n (i := 0) dX10_deliveries_0 rfl rfl (Nat.le_of_ble_eq_true rfl) ?_
  refine Ec.gL (ci := 13) (k := 7) (t := 2) 7 (fun h _ => ⟨h.2.1.2.2.2.2.2.2.2.1, by decide⟩) rfl (by decide) rfl (by decide) (by decide) (tb1 (i := 191) rfl) (Or.inl rfl) rfl dX10_deliveries_1 ?_
  refine Ec.say (fun _ hL _ hs => ?_)
  have q1 : ((c.2.2.1 7).length : Int) ≤ 200 := hL _ (hs.hd.r ⟨Nat.le_of_ble_eq_true rfl, Nat.le_of_ble_eq_true rfl⟩).2.1 (hs.hd.r ⟨Nat.le_of_ble_eq_true rfl, Nat.le_of_ble_eq_true rfl⟩).2.2
  refine Ec.cf (as := []) kf_Jx4a65c_size_8abf5 (tb1 (i := 226) rfl) dX10_deliveries_4 rfl rfl (Nat.le_of_ble_eq_true rfl) (Nat.le_of_ble_eq_true rfl) kl_size ?_
  exact Ec.iret rfl nar_i dX10_deliveries_9 (by rw [g_X10_deliveries]) rfl
def g_X10_deliveredBrew (e : Int) (c : Cs) : Rr × Cs :=
  if (0 ≤ e ∧ e < ((c.2.2.1 7).length : Int)) then
    (.inl (some (0, (c.2.1 3 0 (c.2.1 4 0 (lget (c.2.2.1 7) e))))), c)
  else
    (.inr "java/lang/IndexOutOfBoundsException", (cexc c))
def ok_X10_deliveredBrew (e : Int) (c : Cs) : Prop :=
  ok_X10_deliveryAt e c ∧ (
    if (0 ≤ e ∧ e < ((c.2.2.1 7).length : Int)) then
      (c.2.1 4 0 (lget (c.2.2.1 7) e)) ≠ -1 ∧ (
        True)
    else
      True)
theorem s_X10_deliveredBrew {X : Cx} {ρ : Hp} {e : Int} {c : Cs} (hok : ok_X10_deliveredBrew e c) : Kc X ρ m_X10_deliveredBrew 7 [(13, 0), (0, e)] c ((g_X10_deliveredBrew e c)).1 ((g_X10_deliveredBrew e c)).2 := by
  refine Kc.of (by decide +kernel) rfl (Nat.le_of_ble_eq_true rfl) ?_
  rw [ok_X10_deliveredBrew] at hok
  refine Ec.aload_n (i := 0) dX10_deliveredBrew_0 rfl rfl (Nat.le_of_ble_eq_true rfl) ?_
  refine Ec.iload_n (i := 1) dX10_deliveredBrew_1 rfl rfl ?_
  obtain ⟨o1, hok⟩ := hok
  by_cases c2 : (0 ≤ e ∧ e < ((c.2.2.1 7).length : Int))
  · rw [if_pos c2] at hok
    refine Ec.cv (v := some (4, (lget (c.2.2.1 7) e))) (c1 := c) (ci := 13) (as := [(0, e)]) k_X10_deliveryAt rfl (by decide) (tb6 (i := 157) rfl) ki_X10_deliveryAt kv_X10_deliveryAt dX10_deliveredBrew_2 rfl rfl (Nat.le_of_ble_eq_true rfl) (Nat.le_of_ble_eq_true rfl) (by have q := s_X10_deliveryAt (X := X) (ρ := ρ) (c := c) (i := e) o1; rw [t_X10_deliveryAt c2] at q; exact q) ?_
    refine Ec.gQ (ci := 4) (k := 0) (t := 3) (c.2.1 4 0 (lget (c.2.2.1 7) e)) rfl rfl rfl (by decide) (by decide) (tb6 (i := 42) rfl) (Or.inl rfl) rfl dX10_deliveredBrew_5 ?_
    obtain ⟨o3, hok⟩ := hok
    refine Ec.nns (t := 3) o3 (by decide) ?_
    refine Ec.gI (ci := 3) (k := 0) (c.2.1 3 0 (c.2.1 4 0 (lget (c.2.2.1 7) e))) rfl rfl (by decide) (by decide) (tb3 (i := 112) rfl) (Or.inl rfl) rfl dX10_deliveredBrew_8 ?_
    exact Ec.iret rfl nar_i dX10_deliveredBrew_11 (by rw [g_X10_deliveredBrew, if_pos c2]) (by rw [g_X10_deliveredBrew, if_pos c2])
  · exact Ec.cvx (E := "java/lang/IndexOutOfBoundsException") (c1 := cexc c) (ci := 13) (as := [(0, e)]) k_X10_deliveryAt rfl (by decide) (tb6 (i := 157) rfl) ki_X10_deliveryAt kv_X10_deliveryAt dX10_deliveredBrew_2 rfl rfl (Nat.le_of_ble_eq_true rfl) (Nat.le_of_ble_eq_true rfl) rfl (by have q := s_X10_deliveryAt (X := X) (ρ := ρ) (c := c) (i := e) o1; rw [x_X10_deliveryAt c2] at q; exact q) (by rw [g_X10_deliveredBrew, if_neg c2]) (by rw [g_X10_deliveredBrew, if_neg c2])
def g_X10_deliveredOrder (e : Int) (c : Cs) : Rr × Cs :=
  if (0 ≤ e ∧ e < ((c.2.2.1 7).length : Int)) then
    (.inl (some (0, (c.2.1 5 0 (c.2.1 4 1 (lget (c.2.2.1 7) e))))), c)
  else
    (.inr "java/lang/IndexOutOfBoundsException", (cexc c))
def ok_X10_deliveredOrder (e : Int) (c : Cs) : Prop :=
  ok_X10_deliveryAt e c ∧ (
    if (0 ≤ e ∧ e < ((c.2.2.1 7).length : Int)) then
      (c.2.1 4 1 (lget (c.2.2.1 7) e)) ≠ -1 ∧ (
        True)
    else
      True)
theorem s_X10_deliveredOrder {X : Cx} {ρ : Hp} {e : Int} {c : Cs} (hok : ok_X10_deliveredOrder e c) : Kc X ρ m_X10_deliveredOrder 7 [(13, 0), (0, e)] c ((g_X10_deliveredOrder e c)).1 ((g_X10_deliveredOrder e c)).2 := by
  refine Kc.of (by decide +kernel) rfl (Nat.le_of_ble_eq_true rfl) ?_
  rw [ok_X10_deliveredOrder] at hok
  refine Ec.aload_n (i := 0) dX10_deliveredOrder_0 rfl rfl (Nat.le_of_ble_eq_true rfl) ?_
  refine Ec.iload_n (i := 1) dX10_deliveredOrder_1 rfl rfl ?_
  obtain ⟨o1, hok⟩ := hok
  by_cases c2 : (0 ≤ e ∧ e < ((c.2.2.1 7).length : Int))
  · rw [if_pos c2] at hok
    refine Ec.cv (v := some (4, (lget (c.2.2.1 7) e))) (c1 := c) (ci := 13) (as := [(0, e)]) k_X10_deliveryAt rfl (by decide) (tb6 (i := 157) rfl) ki_X10_deliveryAt kv_X10_deliveryAt dX10_deliveredOrder_2 rfl rfl (Nat.le_of_ble_eq_true rfl) (Nat.le_of_ble_eq_true rfl) (by have q := s_X10_deliveryAt (X := X) (ρ := ρ) (c := c) (i := e) o1; rw [t_X10_deliveryAt c2] at q; exact q) ?_
    refine Ec.gQ (ci := 4) (k := 1) (t := 5) (c.2.1 4 1 (lget (c.2.2.1 7) e)) rfl rfl rfl (by decide) (by decide) (tb6 (i := 44) rfl) (Or.inl rfl) rfl dX10_deliveredOrder_5 ?_
    obtain ⟨o3, hok⟩ := hok
    refine Ec.nns (t := 5) o3 (by decide) ?_
    refine Ec.gI (ci := 5) (k := 0) (c.2.1 5 0 (c.2.1 4 1 (lget (c.2.2.1 7) e))) rfl rfl (by decide) (by decide) (tb5 (i := 98) rfl) (Or.inl rfl) rfl dX10_deliveredOrder_8 ?_
    exact Ec.iret rfl nar_i dX10_deliveredOrder_11 (by rw [g_X10_deliveredOrder, if_pos c2]) (by rw [g_X10_deliveredOrder, if_pos c2])
  · exact Ec.cvx (E := "java/lang/IndexOutOfBoundsException") (c1 := cexc c) (ci := 13) (as := [(0, e)]) k_X10_deliveryAt rfl (by decide) (tb6 (i := 157) rfl) ki_X10_deliveryAt kv_X10_deliveryAt dX10_deliveredOrder_2 rfl rfl (Nat.le_of_ble_eq_true rfl) (Nat.le_of_ble_eq_true rfl) rfl (by have q := s_X10_deliveryAt (X := X) (ρ := ρ) (c := c) (i := e) o1; rw [x_X10_deliveryAt c2] at q; exact q) (by rw [g_X10_deliveredOrder, if_neg c2]) (by rw [g_X10_deliveredOrder, if_neg c2])
def g_X10_deliveredUnits (e : Int) (c : Cs) : Rr × Cs :=
  if (0 ≤ e ∧ e < ((c.2.2.1 7).length : Int)) then
    (.inl (some (0, (c.2.1 4 2 (lget (c.2.2.1 7) e)))), c)
  else
    (.inr "java/lang/IndexOutOfBoundsException", (cexc c))
def ok_X10_deliveredUnits (e : Int) (c : Cs) : Prop :=
  ok_X10_deliveryAt e c ∧ (
    True)
theorem s_X10_deliveredUnits {X : Cx} {ρ : Hp} {e : Int} {c : Cs} (hok : ok_X10_deliveredUnits e c) : Kc X ρ m_X10_deliveredUnits 7 [(13, 0), (0, e)] c ((g_X10_deliveredUnits e c)).1 ((g_X10_deliveredUnits e c)).2 := by
  refine Kc.of (by decide +kernel) rfl (Nat.le_of_ble_eq_true rfl) ?_
  rw [ok_X10_deliveredUnits] at hok
  refine Ec.aload_n (i := 0) dX10_deliveredUnits_0 rfl rfl (Nat.le_of_ble_eq_true rfl) ?_
  refine Ec.iload_n (i := 1) dX10_deliveredUnits_1 rfl rfl ?_
  obtain ⟨o1, hok⟩ := hok
  by_cases c2 : (0 ≤ e ∧ e < ((c.2.2.1 7).length : Int))
  · refine Ec.cv (v := some (4, (lget (c.2.2.1 7) e))) (c1 := c) (ci := 13) (as := [(0, e)]) k_X10_deliveryAt rfl (by decide) (tb6 (i := 157) rfl) ki_X10_deliveryAt kv_X10_deliveryAt dX10_deliveredUnits_2 rfl rfl (Nat.le_of_ble_eq_true rfl) (Nat.le_of_ble_eq_true rfl) (by have q := s_X10_deliveryAt (X := X) (ρ := ρ) (c := c) (i := e) o1; rw [t_X10_deliveryAt c2] at q; exact q) ?_
    refine Ec.gI (ci := 4) (k := 2) (c.2.1 4 2 (lget (c.2.2.1 7) e)) rfl rfl (by decide) (by decide) (tb6 (i := 46) rfl) (Or.inl rfl) rfl dX10_deliveredUnits_5 ?_
    exact Ec.iret rfl nar_i dX10_deliveredUnits_8 (by rw [g_X10_deliveredUnits, if_pos c2]) (by rw [g_X10_deliveredUnits, if_pos c2])
  · exact Ec.cvx (E := "java/lang/IndexOutOfBoundsException") (c1 := cexc c) (ci := 13) (as := [(0, e)]) k_X10_deliveryAt rfl (by decide) (tb6 (i := 157) rfl) ki_X10_deliveryAt kv_X10_deliveryAt dX10_deliveredUnits_2 rfl rfl (Nat.le_of_ble_eq_true rfl) (Nat.le_of_ble_eq_true rfl) rfl (by have q := s_X10_deliveryAt (X := X) (ρ := ρ) (c := c) (i := e) o1; rw [x_X10_deliveryAt c2] at q; exact q) (by rw [g_X10_deliveredUnits, if_neg c2]) (by rw [g_X10_deliveredUnits, if_neg c2])
