/-! the class: the search of the best order (written by wip/whole/mk33.py) -/
def l_X5_search_69 (S : Int → Int → Cs → Cs) (h u q f t : Int) : Nat → Int → Cs → Cs
  | 0, i, c => c
  | n + 1, i, c =>
    if 6 ≤ i then
      c
    else
      if ((c.2.2.1 11).length : Int) ≤ i then
        c
      else
        if i = 0 then
          (l_X5_search_69 S h u q f t n (i + 1) (cput (cput (g_X5_undoLast i (lget (c.2.2.1 11) i) (S (h + 1) (if u < (g_X7_plan q (lget (c.2.2.1 11) i) (clst (clst c 11 (remL (c.2.2.1 11) i.toNat)) 12 ((clst c 11 (remL (c.2.2.1 11) i.toNat)).2.2.1 12 ++ [(lget (c.2.2.1 11) i)]))).1 then (g_X7_plan q (lget (c.2.2.1 11) i) (clst (clst c 11 (remL (c.2.2.1 11) i.toNat)) 12 ((clst c 11 (remL (c.2.2.1 11) i.toNat)).2.2.1 12 ++ [(lget (c.2.2.1 11) i)]))).1 else u) ((g_X7_plan q (lget (c.2.2.1 11) i) (clst (clst c 11 (remL (c.2.2.1 11) i.toNat)) 12 ((clst c 11 (remL (c.2.2.1 11) i.toNat)).2.2.1 12 ++ [(lget (c.2.2.1 11) i)]))).2))) 10 1 q f) 10 2 q t))
        else
          if (lget (c.2.2.1 11) i) = (lget (c.2.2.1 11) (i - 1)) then
            (l_X5_search_69 S h u q f t n (i + 1) c)
          else
            (l_X5_search_69 S h u q f t n (i + 1) (cput (cput (g_X5_undoLast i (lget (c.2.2.1 11) i) (S (h + 1) (if u < (g_X7_plan q (lget (c.2.2.1 11) i) (clst (clst c 11 (remL (c.2.2.1 11) i.toNat)) 12 ((clst c 11 (remL (c.2.2.1 11) i.toNat)).2.2.1 12 ++ [(lget (c.2.2.1 11) i)]))).1 then (g_X7_plan q (lget (c.2.2.1 11) i) (clst (clst c 11 (remL (c.2.2.1 11) i.toNat)) 12 ((clst c 11 (remL (c.2.2.1 11) i.toNat)).2.2.1 12 ++ [(lget (c.2.2.1 11) i)]))).1 else u) ((g_X7_plan q (lget (c.2.2.1 11) i) (clst (clst c 11 (remL (c.2.2.1 11) i.toNat)) 12 ((clst c 11 (remL (c.2.2.1 11) i.toNat)).2.2.1 12 ++ [(lget (c.2.2.1 11) i)]))).2))) 10 1 q f) 10 2 q t))
def okl_X5_search_69 (S : Int → Int → Cs → Cs) (O : Int → Int → Cs → Prop) (h u q f t : Int) : Nat → Int → Cs → Prop
  | 0, i, c => False
  | n + 1, i, c =>
    R32 i ∧ (
      if 6 ≤ i then
        True
      else
        if ((c.2.2.1 11).length : Int) ≤ i then
          True
        else
          if i = 0 then
            ((0 : Int) ≤ i ∧ i < ((c.2.2.1 11).length : Int)) ∧ (
              (((clst c 11 (remL (c.2.2.1 11) i.toNat)).2.2.1 12).length : Int) ≤ 199 ∧ (
                ok_X7_plan q (lget (c.2.2.1 11) i) (clst (clst c 11 (remL (c.2.2.1 11) i.toNat)) 12 ((clst c 11 (remL (c.2.2.1 11) i.toNat)).2.2.1 12 ++ [(lget (c.2.2.1 11) i)])) ∧ (
                  R32 u ∧ (
                    R32 ((g_X7_plan q (lget (c.2.2.1 11) i) (clst (clst c 11 (remL (c.2.2.1 11) i.toNat)) 12 ((clst c 11 (remL (c.2.2.1 11) i.toNat)).2.2.1 12 ++ [(lget (c.2.2.1 11) i)]))).1) ∧ (
                      O (h + 1) (if u < (g_X7_plan q (lget (c.2.2.1 11) i) (clst (clst c 11 (remL (c.2.2.1 11) i.toNat)) 12 ((clst c 11 (remL (c.2.2.1 11) i.toNat)).2.2.1 12 ++ [(lget (c.2.2.1 11) i)]))).1 then (g_X7_plan q (lget (c.2.2.1 11) i) (clst (clst c 11 (remL (c.2.2.1 11) i.toNat)) 12 ((clst c 11 (remL (c.2.2.1 11) i.toNat)).2.2.1 12 ++ [(lget (c.2.2.1 11) i)]))).1 else u) ((g_X7_plan q (lget (c.2.2.1 11) i) (clst (clst c 11 (remL (c.2.2.1 11) i.toNat)) 12 ((clst c 11 (remL (c.2.2.1 11) i.toNat)).2.2.1 12 ++ [(lget (c.2.2.1 11) i)]))).2) ∧ (
                        ok_X5_undoLast i (lget (c.2.2.1 11) i) (S (h + 1) (if u < (g_X7_plan q (lget (c.2.2.1 11) i) (clst (clst c 11 (remL (c.2.2.1 11) i.toNat)) 12 ((clst c 11 (remL (c.2.2.1 11) i.toNat)).2.2.1 12 ++ [(lget (c.2.2.1 11) i)]))).1 then (g_X7_plan q (lget (c.2.2.1 11) i) (clst (clst c 11 (remL (c.2.2.1 11) i.toNat)) 12 ((clst c 11 (remL (c.2.2.1 11) i.toNat)).2.2.1 12 ++ [(lget (c.2.2.1 11) i)]))).1 else u) ((g_X7_plan q (lget (c.2.2.1 11) i) (clst (clst c 11 (remL (c.2.2.1 11) i.toNat)) 12 ((clst c 11 (remL (c.2.2.1 11) i.toNat)).2.2.1 12 ++ [(lget (c.2.2.1 11) i)]))).2)) ∧ (
                          (okl_X5_search_69 S O h u q f t n (i + 1) (cput (cput (g_X5_undoLast i (lget (c.2.2.1 11) i) (S (h + 1) (if u < (g_X7_plan q (lget (c.2.2.1 11) i) (clst (clst c 11 (remL (c.2.2.1 11) i.toNat)) 12 ((clst c 11 (remL (c.2.2.1 11) i.toNat)).2.2.1 12 ++ [(lget (c.2.2.1 11) i)]))).1 then (g_X7_plan q (lget (c.2.2.1 11) i) (clst (clst c 11 (remL (c.2.2.1 11) i.toNat)) 12 ((clst c 11 (remL (c.2.2.1 11) i.toNat)).2.2.1 12 ++ [(lget (c.2.2.1 11) i)]))).1 else u) ((g_X7_plan q (lget (c.2.2.1 11) i) (clst (clst c 11 (remL (c.2.2.1 11) i.toNat)) 12 ((clst c 11 (remL (c.2.2.1 11) i.toNat)).2.2.1 12 ++ [(lget (c.2.2.1 11) i)]))).2))) 10 1 q f) 10 2 q t)))))))))
          else
            ((0 : Int) ≤ i ∧ i < ((c.2.2.1 11).length : Int)) ∧ (
              ((0 : Int) ≤ (i - 1) ∧ (i - 1) < ((c.2.2.1 11).length : Int)) ∧ (
                if (lget (c.2.2.1 11) i) = (lget (c.2.2.1 11) (i - 1)) then
                  (okl_X5_search_69 S O h u q f t n (i + 1) c)
                else
                  (((clst c 11 (remL (c.2.2.1 11) i.toNat)).2.2.1 12).length : Int) ≤ 199 ∧ (
                    ok_X7_plan q (lget (c.2.2.1 11) i) (clst (clst c 11 (remL (c.2.2.1 11) i.toNat)) 12 ((clst c 11 (remL (c.2.2.1 11) i.toNat)).2.2.1 12 ++ [(lget (c.2.2.1 11) i)])) ∧ (
                      R32 u ∧ (
                        R32 ((g_X7_plan q (lget (c.2.2.1 11) i) (clst (clst c 11 (remL (c.2.2.1 11) i.toNat)) 12 ((clst c 11 (remL (c.2.2.1 11) i.toNat)).2.2.1 12 ++ [(lget (c.2.2.1 11) i)]))).1) ∧ (
                          O (h + 1) (if u < (g_X7_plan q (lget (c.2.2.1 11) i) (clst (clst c 11 (remL (c.2.2.1 11) i.toNat)) 12 ((clst c 11 (remL (c.2.2.1 11) i.toNat)).2.2.1 12 ++ [(lget (c.2.2.1 11) i)]))).1 then (g_X7_plan q (lget (c.2.2.1 11) i) (clst (clst c 11 (remL (c.2.2.1 11) i.toNat)) 12 ((clst c 11 (remL (c.2.2.1 11) i.toNat)).2.2.1 12 ++ [(lget (c.2.2.1 11) i)]))).1 else u) ((g_X7_plan q (lget (c.2.2.1 11) i) (clst (clst c 11 (remL (c.2.2.1 11) i.toNat)) 12 ((clst c 11 (remL (c.2.2.1 11) i.toNat)).2.2.1 12 ++ [(lget (c.2.2.1 11) i)]))).2) ∧ (
                            ok_X5_undoLast i (lget (c.2.2.1 11) i) (S (h + 1) (if u < (g_X7_plan q (lget (c.2.2.1 11) i) (clst (clst c 11 (remL (c.2.2.1 11) i.toNat)) 12 ((clst c 11 (remL (c.2.2.1 11) i.toNat)).2.2.1 12 ++ [(lget (c.2.2.1 11) i)]))).1 then (g_X7_plan q (lget (c.2.2.1 11) i) (clst (clst c 11 (remL (c.2.2.1 11) i.toNat)) 12 ((clst c 11 (remL (c.2.2.1 11) i.toNat)).2.2.1 12 ++ [(lget (c.2.2.1 11) i)]))).1 else u) ((g_X7_plan q (lget (c.2.2.1 11) i) (clst (clst c 11 (remL (c.2.2.1 11) i.toNat)) 12 ((clst c 11 (remL (c.2.2.1 11) i.toNat)).2.2.1 12 ++ [(lget (c.2.2.1 11) i)]))).2)) ∧ (
                              (okl_X5_search_69 S O h u q f t n (i + 1) (cput (cput (g_X5_undoLast i (lget (c.2.2.1 11) i) (S (h + 1) (if u < (g_X7_plan q (lget (c.2.2.1 11) i) (clst (clst c 11 (remL (c.2.2.1 11) i.toNat)) 12 ((clst c 11 (remL (c.2.2.1 11) i.toNat)).2.2.1 12 ++ [(lget (c.2.2.1 11) i)]))).1 then (g_X7_plan q (lget (c.2.2.1 11) i) (clst (clst c 11 (remL (c.2.2.1 11) i.toNat)) 12 ((clst c 11 (remL (c.2.2.1 11) i.toNat)).2.2.1 12 ++ [(lget (c.2.2.1 11) i)]))).1 else u) ((g_X7_plan q (lget (c.2.2.1 11) i) (clst (clst c 11 (remL (c.2.2.1 11) i.toNat)) 12 ((clst c 11 (remL (c.2.2.1 11) i.toNat)).2.2.1 12 ++ [(lget (c.2.2.1 11) i)]))).2))) 10 1 q f) 10 2 q t)))))))))))
theorem s_l_X5_search_69 {X : Cx} {ρ : Hp} {S : Int → Int → Cs → Cs} {O : Int → Int → Cs → Prop} {m0 : Nat} {h u q f t : Int} (hS : ∀ (h u : Int) (c : Cs), O h u c → Kc X ρ m_X5_search (m0 + 10) [(8, 0), (0, h), (0, u)] c (.inl none) (S h u c)) : ∀ (n : Nat) (i : Int) (c : Cs), okl_X5_search_69 S O h u q f t n i c → Ec X ρ m_X5_search (m0 + 11) 69 [some (8, 0), some (0, h), some (0, u), some (10, q), some (0, f), some (0, t), some (0, i), none] [] c (.inl none) (l_X5_search_69 S h u q f t n i c) := by
  intro n
  induction n with
  | zero =>
    intro i c hok
    exact False.elim hok
  | succ n ih =>
    intro i c hok
    rw [okl_X5_search_69] at hok
    refine Ec.iload dX5_search_69 rfl ?_
    refine Ec.bipush dX5_search_71 (by decide) ?_
    obtain ⟨o1, hok⟩ := hok
    by_cases c2 : 6 ≤ i
    · rw [if_pos c2] at hok
      refine Ec.icmp_ge_t (tgt := 193) dX5_search_73 (by decide) o1 ⟨by decide, by decide⟩ c2 ?_
      exact Ec.vret rfl dX5_search_193 rfl (by rw [l_X5_search_69, if_pos c2])
    · rw [if_neg c2] at hok
      refine Ec.icmp_ge_f (tgt := 193) dX5_search_73 (by decide) o1 ⟨by decide, by decide⟩ c2 ?_
      refine Ec.iload dX5_search_76 rfl ?_
      refine Ec.aload_n (i := 0) dX5_search_78 rfl rfl (Nat.le_of_ble_eq_true rfl) ?_
      refine Ec.gL (ci := 8) (k := 2) (t := 2) 11 (fun h _ => ⟨h.2.2.1.2.2.1, by decide⟩) rfl (by decide) rfl (by decide) (by decide) (tb1 (i := 82) rfl) (Or.inl rfl) rfl dX5_search_79 ?_
      refine Ec.say (fun _ hL _ hs => ?_)
      have q3 : ((c.2.2.1 11).length : Int) ≤ 200 := hL _ (hs.hd.r ⟨Nat.le_of_ble_eq_true rfl, Nat.le_of_ble_eq_true rfl⟩).2.1 (hs.hd.r ⟨Nat.le_of_ble_eq_true rfl, Nat.le_of_ble_eq_true rfl⟩).2.2
      refine Ec.cf (as := []) kf_Jx4a65c_size_8abf5 (tb3 (i := 210) rfl) dX5_search_82 rfl rfl (Nat.le_of_ble_eq_true rfl) (by omega) kl_size ?_
      by_cases c4 : ((c.2.2.1 11).length : Int) ≤ i
      · rw [if_pos c4] at hok
        refine Ec.icmp_ge_t (tgt := 193) dX5_search_87 (by decide) o1 ⟨by omega, by omega⟩ c4 ?_
        exact Ec.vret rfl dX5_search_193 rfl (by rw [l_X5_search_69, if_neg c2, if_pos c4])
      · rw [if_neg c4] at hok
        refine Ec.icmp_ge_f (tgt := 193) dX5_search_87 (by decide) o1 ⟨by omega, by omega⟩ c4 ?_
        refine Ec.iload dX5_search_90 rfl ?_
        by_cases c5 : i = 0
        · rw [if_pos c5] at hok
          refine Ec.if_eq_t (tgt := 122) dX5_search_92 (by decide) o1 c5 ?_
          refine Ec.aload_n (i := 0) dX5_search_122 rfl rfl (Nat.le_of_ble_eq_true rfl) ?_
          refine Ec.gL (ci := 8) (k := 2) (t := 2) 11 (fun h _ => ⟨h.2.2.1.2.2.1, by decide⟩) rfl (by decide) rfl (by decide) (by decide) (tb1 (i := 82) rfl) (Or.inl rfl) rfl dX5_search_123 ?_
          refine Ec.iload dX5_search_126 rfl ?_
          obtain ⟨o6, hok⟩ := hok
          refine Ec.cf (as := [(0, i)]) (c1 := (clst c 11 (remL (c.2.2.1 11) i.toNat))) kf_Jx4a65c_remove_915e3 (tb5 (i := 38) rfl) dX5_search_128 rfl rfl (Nat.le_of_ble_eq_true rfl) (by omega) (kl_rem rfl o6) ?_
          refine Ec.cast (ci := 9) rfl (by decide) (tb3 (i := 226) rfl) dX5_search_133 ?_
          refine Ec.astore dX5_search_136 (by decide) (Nat.le_of_ble_eq_true rfl) ?_
          refine Ec.aload_n (i := 0) dX5_search_138 rfl rfl (Nat.le_of_ble_eq_true rfl) ?_
          refine Ec.gL (ci := 8) (k := 3) (t := 2) 12 (fun h _ => ⟨h.2.2.1.2.2.2, by decide⟩) rfl (by decide) rfl (by decide) (by decide) (tb1 (i := 83) rfl) (Or.inl rfl) rfl dX5_search_139 ?_
          refine Ec.aload dX5_search_142 rfl (Nat.le_of_ble_eq_true rfl) ?_
          obtain ⟨o7, hok⟩ := hok
          refine Ec.cf (as := [(9, (lget (c.2.2.1 11) i))]) (c1 := (clst (clst c 11 (remL (c.2.2.1 11) i.toNat)) 12 ((clst c 11 (remL (c.2.2.1 11) i.toNat)).2.2.1 12 ++ [(lget (c.2.2.1 11) i)]))) kf_Jx4a65c_add_9ea2d (tb5 (i := 40) rfl) dX5_search_144 rfl rfl (Nat.le_of_ble_eq_true rfl) (by omega) (kl_add rfl o7 (by decide)) ?_
          refine Ec.pop dX5_search_149 ?_
          refine Ec.aload_n (i := 0) dX5_search_150 rfl rfl (Nat.le_of_ble_eq_true rfl) ?_
          refine Ec.iload_n (i := 1) dX5_search_151 rfl rfl ?_
          refine Ec.const dX5_search_152 ?_
          refine Ec.add dX5_search_153 ?_
          refine Ec.iload_n (i := 2) dX5_search_154 rfl rfl ?_
          refine Ec.aload_n (i := 3) dX5_search_155 rfl rfl (Nat.le_of_ble_eq_true rfl) ?_
          refine Ec.aload dX5_search_156 rfl (Nat.le_of_ble_eq_true rfl) ?_
          obtain ⟨o8, hok⟩ := hok
          refine Ec.cv (ci := 10) (as := [(9, (lget (c.2.2.1 11) i))]) k_X7_plan rfl (by decide) (tb3 (i := 227) rfl) ki_X7_plan kv_X7_plan dX5_search_158 rfl rfl (Nat.le_of_ble_eq_true rfl) (by omega) (s_X7_plan o8) ?_
          obtain ⟨o9, hok⟩ := hok
          obtain ⟨o10, hok⟩ := hok
          refine Ec.max o9 o10 (tb3 (i := 232) rfl) (by omega) (Nat.le_of_ble_eq_true rfl) dX5_search_161 ?_
          obtain ⟨o11, hok⟩ := hok
          refine Ec.cs (as := [(8, 0), (0, (h + 1)), (0, (if u < (g_X7_plan q (lget (c.2.2.1 11) i) (clst (clst c 11 (remL (c.2.2.1 11) i.toNat)) 12 ((clst c 11 (remL (c.2.2.1 11) i.toNat)).2.2.1 12 ++ [(lget (c.2.2.1 11) i)]))).1 then (g_X7_plan q (lget (c.2.2.1 11) i) (clst (clst c 11 (remL (c.2.2.1 11) i.toNat)) 12 ((clst c 11 (remL (c.2.2.1 11) i.toNat)).2.2.1 12 ++ [(lget (c.2.2.1 11) i)]))).1 else u))]) k_X5_search (tb5 (i := 27) rfl) ki_X5_search dX5_search_164 rfl rfl (Nat.le_of_ble_eq_true rfl) (by omega) (hS _ _ _ o11) ?_
          refine Ec.aload_n (i := 0) dX5_search_167 rfl rfl (Nat.le_of_ble_eq_true rfl) ?_
          refine Ec.iload dX5_search_168 rfl ?_
          refine Ec.aload dX5_search_170 rfl (Nat.le_of_ble_eq_true rfl) ?_
          obtain ⟨o12, hok⟩ := hok
          refine Ec.cv (ci := 8) (as := [(0, i), (9, (lget (c.2.2.1 11) i))]) k_X5_undoLast rfl (by decide) (tb5 (i := 41) rfl) ki_X5_undoLast kv_X5_undoLast dX5_search_172 rfl rfl (Nat.le_of_ble_eq_true rfl) (by omega) (s_X5_undoLast o12) ?_
          refine Ec.aload_n (i := 3) dX5_search_175 rfl rfl (Nat.le_of_ble_eq_true rfl) ?_
          refine Ec.iload dX5_search_176 rfl ?_
          refine Ec.pI (ci := 10) (k := 1) rfl rfl (by decide) (by decide) (tb2 (i := 208) rfl) (Or.inl rfl) (Or.inl rfl) rfl rfl rfl dX5_search_178 ?_
          refine Ec.aload_n (i := 3) dX5_search_181 rfl rfl (Nat.le_of_ble_eq_true rfl) ?_
          refine Ec.iload dX5_search_182 rfl ?_
          refine Ec.pI (ci := 10) (k := 2) rfl rfl (by decide) (by decide) (tb2 (i := 210) rfl) (Or.inl rfl) (Or.inl rfl) rfl rfl rfl dX5_search_184 ?_
          refine Ec.inc dX5_search_187 rfl (by decide) ?_
          refine Ec.goto (tgt := 69) dX5_search_190 (by decide) ?_
          refine Ec.cnv (ls' := [some (8, 0), some (0, h), some (0, u), some (10, q), some (0, f), some (0, t), some (0, (i + 1)), none]) ⟨Or.inl rfl, ⟨Or.inl rfl, ⟨Or.inl rfl, ⟨Or.inl rfl, ⟨Or.inl rfl, ⟨Or.inl rfl, ⟨Or.inl rfl, trivial⟩⟩⟩⟩⟩⟩⟩ ?_
          rw [l_X5_search_69, if_neg c2, if_neg c4, if_pos c5]
          exact ih (i + 1) (cput (cput (g_X5_undoLast i (lget (c.2.2.1 11) i) (S (h + 1) (if u < (g_X7_plan q (lget (c.2.2.1 11) i) (clst (clst c 11 (remL (c.2.2.1 11) i.toNat)) 12 ((clst c 11 (remL (c.2.2.1 11) i.toNat)).2.2.1 12 ++ [(lget (c.2.2.1 11) i)]))).1 then (g_X7_plan q (lget (c.2.2.1 11) i) (clst (clst c 11 (remL (c.2.2.1 11) i.toNat)) 12 ((clst c 11 (remL (c.2.2.1 11) i.toNat)).2.2.1 12 ++ [(lget (c.2.2.1 11) i)]))).1 else u) ((g_X7_plan q (lget (c.2.2.1 11) i) (clst (clst c 11 (remL (c.2.2.1 11) i.toNat)) 12 ((clst c 11 (remL (c.2.2.1 11) i.toNat)).2.2.1 12 ++ [(lget (c.2.2.1 11) i)]))).2))) 10 1 q f) 10 2 q t) hok
        · rw [if_neg c5] at hok
          refine Ec.if_eq_f (tgt := 122) dX5_search_92 (by decide) o1 c5 ?_
          refine Ec.aload_n (i := 0) dX5_search_95 rfl rfl (Nat.le_of_ble_eq_true rfl) ?_
          refine Ec.gL (ci := 8) (k := 2) (t := 2) 11 (fun h _ => ⟨h.2.2.1.2.2.1, by decide⟩) rfl (by decide) rfl (by decide) (by decide) (tb1 (i := 82) rfl) (Or.inl rfl) rfl dX5_search_96 ?_
          refine Ec.iload dX5_search_99 rfl ?_
          obtain ⟨o13, hok⟩ := hok
          refine Ec.cf (as := [(0, i)]) kf_Jx4a65c_get_915e3 (tb3 (i := 212) rfl) dX5_search_101 rfl rfl (Nat.le_of_ble_eq_true rfl) (by omega) (kl_get rfl o13) ?_
          refine Ec.aload_n (i := 0) dX5_search_106 rfl rfl (Nat.le_of_ble_eq_true rfl) ?_
          refine Ec.gL (ci := 8) (k := 2) (t := 2) 11 (fun h _ => ⟨h.2.2.1.2.2.1, by decide⟩) rfl (by decide) rfl (by decide) (by decide) (tb1 (i := 82) rfl) (Or.inl rfl) rfl dX5_search_107 ?_
          refine Ec.iload dX5_search_110 rfl ?_
          refine Ec.const dX5_search_112 ?_
          refine Ec.sub dX5_search_113 ?_
          obtain ⟨o14, hok⟩ := hok
          refine Ec.cf (as := [(0, (i - 1))]) kf_Jx4a65c_get_915e3 (tb3 (i := 212) rfl) dX5_search_114 rfl rfl (Nat.le_of_ble_eq_true rfl) (by omega) (kl_get rfl o14) ?_
          by_cases c15 : (lget (c.2.2.1 11) i) = (lget (c.2.2.1 11) (i - 1))
          · rw [if_pos c15] at hok
            refine Ec.acmp_eq_t (t := 9) (tgt := 187) ⟨by decide, by decide, Or.inl rfl⟩ ⟨by decide, by decide, Or.inl rfl⟩ dX5_search_119 (by decide) c15 ?_
            refine Ec.inc dX5_search_187 rfl (by decide) ?_
            refine Ec.goto (tgt := 69) dX5_search_190 (by decide) ?_
            refine Ec.cnv (ls' := [some (8, 0), some (0, h), some (0, u), some (10, q), some (0, f), some (0, t), some (0, (i + 1)), none]) ⟨Or.inl rfl, ⟨Or.inl rfl, ⟨Or.inl rfl, ⟨Or.inl rfl, ⟨Or.inl rfl, ⟨Or.inl rfl, ⟨Or.inl rfl, trivial⟩⟩⟩⟩⟩⟩⟩ ?_
            rw [l_X5_search_69, if_neg c2, if_neg c4, if_neg c5, if_pos c15]
            exact ih (i + 1) c hok
          · rw [if_neg c15] at hok
            refine Ec.acmp_eq_f (t := 9) (tgt := 187) ⟨by decide, by decide, Or.inl rfl⟩ ⟨by decide, by decide, Or.inl rfl⟩ dX5_search_119 (by decide) c15 ?_
            refine Ec.aload_n (i := 0) dX5_search_122 rfl rfl (Nat.le_of_ble_eq_true rfl) ?_
            refine Ec.gL (ci := 8) (k := 2) (t := 2) 11 (fun h _ => ⟨h.2.2.1.2.2.1, by decide⟩) rfl (by decide) rfl (by decide) (by decide) (tb1 (i := 82) rfl) (Or.inl rfl) rfl dX5_search_123 ?_
            refine Ec.iload dX5_search_126 rfl ?_
            refine Ec.cf (as := [(0, i)]) (c1 := (clst c 11 (remL (c.2.2.1 11) i.toNat))) kf_Jx4a65c_remove_915e3 (tb5 (i := 38) rfl) dX5_search_128 rfl rfl (Nat.le_of_ble_eq_true rfl) (by omega) (kl_rem rfl o13) ?_
            refine Ec.cast (ci := 9) rfl (by decide) (tb3 (i := 226) rfl) dX5_search_133 ?_
            refine Ec.astore dX5_search_136 (by decide) (Nat.le_of_ble_eq_true rfl) ?_
            refine Ec.aload_n (i := 0) dX5_search_138 rfl rfl (Nat.le_of_ble_eq_true rfl) ?_
            refine Ec.gL (ci := 8) (k := 3) (t := 2) 12 (fun h _ => ⟨h.2.2.1.2.2.2, by decide⟩) rfl (by decide) rfl (by decide) (by decide) (tb1 (i := 83) rfl) (Or.inl rfl) rfl dX5_search_139 ?_
            refine Ec.aload dX5_search_142 rfl (Nat.le_of_ble_eq_true rfl) ?_
            obtain ⟨o16, hok⟩ := hok
            refine Ec.cf (as := [(9, (lget (c.2.2.1 11) i))]) (c1 := (clst (clst c 11 (remL (c.2.2.1 11) i.toNat)) 12 ((clst c 11 (remL (c.2.2.1 11) i.toNat)).2.2.1 12 ++ [(lget (c.2.2.1 11) i)]))) kf_Jx4a65c_add_9ea2d (tb5 (i := 40) rfl) dX5_search_144 rfl rfl (Nat.le_of_ble_eq_true rfl) (by omega) (kl_add rfl o16 (by decide)) ?_
            refine Ec.pop dX5_search_149 ?_
            refine Ec.aload_n (i := 0) dX5_search_150 rfl rfl (Nat.le_of_ble_eq_true rfl) ?_
            refine Ec.iload_n (i := 1) dX5_search_151 rfl rfl ?_
            refine Ec.const dX5_search_152 ?_
            refine Ec.add dX5_search_153 ?_
            refine Ec.iload_n (i := 2) dX5_search_154 rfl rfl ?_
            refine Ec.aload_n (i := 3) dX5_search_155 rfl rfl (Nat.le_of_ble_eq_true rfl) ?_
            refine Ec.aload dX5_search_156 rfl (Nat.le_of_ble_eq_true rfl) ?_
            obtain ⟨o17, hok⟩ := hok
            refine Ec.cv (ci := 10) (as := [(9, (lget (c.2.2.1 11) i))]) k_X7_plan rfl (by decide) (tb3 (i := 227) rfl) ki_X7_plan kv_X7_plan dX5_search_158 rfl rfl (Nat.le_of_ble_eq_true rfl) (by omega) (s_X7_plan o17) ?_
            obtain ⟨o18, hok⟩ := hok
            obtain ⟨o19, hok⟩ := hok
            refine Ec.max o18 o19 (tb3 (i := 232) rfl) (by omega) (Nat.le_of_ble_eq_true rfl) dX5_search_161 ?_
            obtain ⟨o20, hok⟩ := hok
            refine Ec.cs (as := [(8, 0), (0, (h + 1)), (0, (if u < (g_X7_plan q (lget (c.2.2.1 11) i) (clst (clst c 11 (remL (c.2.2.1 11) i.toNat)) 12 ((clst c 11 (remL (c.2.2.1 11) i.toNat)).2.2.1 12 ++ [(lget (c.2.2.1 11) i)]))).1 then (g_X7_plan q (lget (c.2.2.1 11) i) (clst (clst c 11 (remL (c.2.2.1 11) i.toNat)) 12 ((clst c 11 (remL (c.2.2.1 11) i.toNat)).2.2.1 12 ++ [(lget (c.2.2.1 11) i)]))).1 else u))]) k_X5_search (tb5 (i := 27) rfl) ki_X5_search dX5_search_164 rfl rfl (Nat.le_of_ble_eq_true rfl) (by omega) (hS _ _ _ o20) ?_
            refine Ec.aload_n (i := 0) dX5_search_167 rfl rfl (Nat.le_of_ble_eq_true rfl) ?_
            refine Ec.iload dX5_search_168 rfl ?_
            refine Ec.aload dX5_search_170 rfl (Nat.le_of_ble_eq_true rfl) ?_
            obtain ⟨o21, hok⟩ := hok
            refine Ec.cv (ci := 8) (as := [(0, i), (9, (lget (c.2.2.1 11) i))]) k_X5_undoLast rfl (by decide) (tb5 (i := 41) rfl) ki_X5_undoLast kv_X5_undoLast dX5_search_172 rfl rfl (Nat.le_of_ble_eq_true rfl) (by omega) (s_X5_undoLast o21) ?_
            refine Ec.aload_n (i := 3) dX5_search_175 rfl rfl (Nat.le_of_ble_eq_true rfl) ?_
            refine Ec.iload dX5_search_176 rfl ?_
            refine Ec.pI (ci := 10) (k := 1) rfl rfl (by decide) (by decide) (tb2 (i := 208) rfl) (Or.inl rfl) (Or.inl rfl) rfl rfl rfl dX5_search_178 ?_
            refine Ec.aload_n (i := 3) dX5_search_181 rfl rfl (Nat.le_of_ble_eq_true rfl) ?_
            refine Ec.iload dX5_search_182 rfl ?_
            refine Ec.pI (ci := 10) (k := 2) rfl rfl (by decide) (by decide) (tb2 (i := 210) rfl) (Or.inl rfl) (Or.inl rfl) rfl rfl rfl dX5_search_184 ?_
            refine Ec.inc dX5_search_187 rfl (by decide) ?_
            refine Ec.goto (tgt := 69) dX5_search_190 (by decide) ?_
            refine Ec.cnv (ls' := [some (8, 0), some (0, h), some (0, u), some (10, q), some (0, f), some (0, t), some (0, (i + 1)), none]) ⟨Or.inl rfl, ⟨Or.inl rfl, ⟨Or.inl rfl, ⟨Or.inl rfl, ⟨Or.inl rfl, ⟨Or.inl rfl, ⟨Or.inl rfl, trivial⟩⟩⟩⟩⟩⟩⟩ ?_
            rw [l_X5_search_69, if_neg c2, if_neg c4, if_neg c5, if_neg c15]
            exact ih (i + 1) (cput (cput (g_X5_undoLast i (lget (c.2.2.1 11) i) (S (h + 1) (if u < (g_X7_plan q (lget (c.2.2.1 11) i) (clst (clst c 11 (remL (c.2.2.1 11) i.toNat)) 12 ((clst c 11 (remL (c.2.2.1 11) i.toNat)).2.2.1 12 ++ [(lget (c.2.2.1 11) i)]))).1 then (g_X7_plan q (lget (c.2.2.1 11) i) (clst (clst c 11 (remL (c.2.2.1 11) i.toNat)) 12 ((clst c 11 (remL (c.2.2.1 11) i.toNat)).2.2.1 12 ++ [(lget (c.2.2.1 11) i)]))).1 else u) ((g_X7_plan q (lget (c.2.2.1 11) i) (clst (clst c 11 (remL (c.2.2.1 11) i.toNat)) 12 ((clst c 11 (remL (c.2.2.1 11) i.toNat)).2.2.1 12 ++ [(lget (c.2.2.1 11) i)]))).2))) 10 1 q f) 10 2 q t) hok
def g_X5_search : Nat → Int → Int → Cs → Cs
  | 0, h, u, c => c
  | n + 1, h, u, c =>
    if (c.2.1 8 4 0) ≤ u then
      c
    else
      if h ≤ 6 then
        if (eb (c.2.2.1 11)) = 0 then
          if (g_X5_firstFree c) = -1 then
            c
          else
            (l_X5_search_69 (g_X5_search n) h u (g_X5_firstFree c) (c.2.1 10 1 (g_X5_firstFree c)) (c.2.1 10 2 (g_X5_firstFree c)) fu 0 c)
        else
          (g_X10_copyRecipes 12 10 (cput c 8 4 0 u))
      else
        c
def ok_X5_search : Nat → Int → Int → Cs → Prop
  | 0, h, u, c => False
  | n + 1, h, u, c =>
    R32 u ∧ (
      R32 (c.2.1 8 4 0) ∧ (
        if (c.2.1 8 4 0) ≤ u then
          True
        else
          R32 h ∧ (
            if h ≤ 6 then
              if (eb (c.2.2.1 11)) = 0 then
                ok_X5_firstFree c ∧ (
                  if (g_X5_firstFree c) = -1 then
                    True
                  else
                    (okl_X5_search_69 (g_X5_search n) (ok_X5_search n) h u (g_X5_firstFree c) (c.2.1 10 1 (g_X5_firstFree c)) (c.2.1 10 2 (g_X5_firstFree c)) fu 0 c))
              else
                ok_X10_copyRecipes 12 10 (cput c 8 4 0 u) ∧ (
                  True)
            else
              True)))
theorem s_X5_search {X : Cx} {ρ : Hp} : ∀ (n : Nat) (h u : Int) (c : Cs), ok_X5_search n h u c → Kc X ρ m_X5_search (n + 10) [(8, 0), (0, h), (0, u)] c (.inl none) (g_X5_search n h u c) := by
  intro n
  induction n with
  | zero =>
    intro h u c hok
    exact False.elim hok
  | succ n ih =>
  intro h u c hok
  rw [ok_X5_search] at hok
  refine Kc.of (by decide +kernel) rfl (Nat.le_of_ble_eq_true rfl) ?_
  refine Ec.iload_n (i := 2) dX5_search_0 rfl rfl ?_
  refine Ec.aload_n (i := 0) dX5_search_1 rfl rfl (Nat.le_of_ble_eq_true rfl) ?_
  refine Ec.gI (ci := 8) (k := 4) (c.2.1 8 4 0) rfl rfl (by decide) (by decide) (tb1 (i := 84) rfl) (Or.inl rfl) rfl dX5_search_2 ?_
  obtain ⟨o22, hok⟩ := hok
  obtain ⟨o23, hok⟩ := hok
  by_cases c24 : (c.2.1 8 4 0) ≤ u
  · rw [if_pos c24] at hok
    refine Ec.icmp_ge_t (tgt := 14) dX5_search_5 (by decide) o22 o23 c24 ?_
    exact Ec.vret rfl dX5_search_14 rfl (by rw [g_X5_search, if_pos c24])
  · rw [if_neg c24] at hok
    refine Ec.icmp_ge_f (tgt := 14) dX5_search_5 (by decide) o22 o23 c24 ?_
    refine Ec.iload_n (i := 1) dX5_search_8 rfl rfl ?_
    refine Ec.bipush dX5_search_9 (by decide) ?_
    obtain ⟨o25, hok⟩ := hok
    by_cases c26 : h ≤ 6
    · rw [if_pos c26] at hok
      refine Ec.icmp_le_t (tgt := 15) dX5_search_11 (by decide) o25 ⟨by decide, by decide⟩ c26 ?_
      refine Ec.aload_n (i := 0) dX5_search_15 rfl rfl (Nat.le_of_ble_eq_true rfl) ?_
      refine Ec.gL (ci := 8) (k := 2) (t := 2) 11 (fun h _ => ⟨h.2.2.1.2.2.1, by decide⟩) rfl (by decide) rfl (by decide) (by decide) (tb1 (i := 82) rfl) (Or.inl rfl) rfl dX5_search_16 ?_
      refine Ec.cf (as := []) kf_Jx4a65c_isEmpty_aae02 (tb5 (i := 31) rfl) dX5_search_19 rfl rfl (Nat.le_of_ble_eq_true rfl) (by omega) kl_empty ?_
      have q27 := eb_r (c.2.2.1 11)
      by_cases c28 : (eb (c.2.2.1 11)) = 0
      · rw [if_pos c28] at hok
        refine Ec.if_eq_t (tgt := 44) dX5_search_24 (by decide) ⟨by omega, by omega⟩ c28 ?_
        refine Ec.aload_n (i := 0) dX5_search_44 rfl rfl (Nat.le_of_ble_eq_true rfl) ?_
        obtain ⟨o29, hok⟩ := hok
        refine Ec.cv (ci := 8) (as := []) k_X5_firstFree rfl (by decide) (tb3 (i := 222) rfl) ki_X5_firstFree kv_X5_firstFree dX5_search_45 rfl rfl (Nat.le_of_ble_eq_true rfl) (by omega) (s_X5_firstFree o29) ?_
        refine Ec.astore_n (i := 3) dX5_search_48 rfl (by decide) (Nat.le_of_ble_eq_true rfl) ?_
        refine Ec.aload_n (i := 3) dX5_search_49 rfl rfl (Nat.le_of_ble_eq_true rfl) ?_
        by_cases c30 : (g_X5_firstFree c) = -1
        · rw [if_pos c30] at hok
          refine Ec.ifnonnull_f (t := 10) (tgt := 54) dX5_search_50 (by decide) c30 ?_
          exact Ec.vret rfl dX5_search_53 rfl (by rw [g_X5_search, if_neg c24, if_pos c26, if_pos c28, if_pos c30])
        · rw [if_neg c30] at hok
          refine Ec.ifnonnull_t (t := 10) (tgt := 54) dX5_search_50 (by decide) c30 ?_
          refine Ec.nn (i := 3) (t := 10) rfl c30 (by decide) ?_
          refine Ec.aload_n (i := 3) dX5_search_54 rfl rfl (Nat.le_of_ble_eq_true rfl) ?_
          refine Ec.gI (ci := 10) (k := 1) (c.2.1 10 1 (g_X5_firstFree c)) rfl rfl (by decide) (by decide) (tb2 (i := 208) rfl) (Or.inl rfl) rfl dX5_search_55 ?_
          refine Ec.istore dX5_search_58 (by decide) ?_
          refine Ec.aload_n (i := 3) dX5_search_60 rfl rfl (Nat.le_of_ble_eq_true rfl) ?_
          refine Ec.gI (ci := 10) (k := 2) (c.2.1 10 2 (g_X5_firstFree c)) rfl rfl (by decide) (by decide) (tb2 (i := 210) rfl) (Or.inl rfl) rfl dX5_search_61 ?_
          refine Ec.istore dX5_search_64 (by decide) ?_
          refine Ec.const dX5_search_66 ?_
          refine Ec.istore dX5_search_67 (by decide) ?_
          refine Ec.cnv (ls' := [some (8, 0), some (0, h), some (0, u), some (10, (g_X5_firstFree c)), some (0, (c.2.1 10 1 (g_X5_firstFree c))), some (0, (c.2.1 10 2 (g_X5_firstFree c))), some (0, 0), none]) ⟨Or.inl rfl, ⟨Or.inl rfl, ⟨Or.inl rfl, ⟨Or.inl rfl, ⟨Or.inl rfl, ⟨Or.inl rfl, ⟨Or.inl rfl, trivial⟩⟩⟩⟩⟩⟩⟩ ?_
          rw [g_X5_search, if_neg c24, if_pos c26, if_pos c28, if_neg c30]
          exact s_l_X5_search_69 (S := (g_X5_search n)) (O := (ok_X5_search n)) (m0 := n) (h := h) (u := u) (q := (g_X5_firstFree c)) (f := (c.2.1 10 1 (g_X5_firstFree c))) (t := (c.2.1 10 2 (g_X5_firstFree c))) ih fu 0 c hok
      · rw [if_neg c28] at hok
        refine Ec.if_eq_f (tgt := 44) dX5_search_24 (by decide) ⟨by omega, by omega⟩ c28 ?_
        refine Ec.aload_n (i := 0) dX5_search_27 rfl rfl (Nat.le_of_ble_eq_true rfl) ?_
        refine Ec.iload_n (i := 2) dX5_search_28 rfl rfl ?_
        refine Ec.pI (ci := 8) (k := 4) rfl rfl (by decide) (by decide) (tb1 (i := 84) rfl) (Or.inl rfl) (Or.inl rfl) rfl rfl rfl dX5_search_29 ?_
        refine Ec.aload_n (i := 0) dX5_search_32 rfl rfl (Nat.le_of_ble_eq_true rfl) ?_
        refine Ec.gL (ci := 8) (k := 3) (t := 2) 12 (fun h _ => ⟨h.2.2.1.2.2.2, by decide⟩) rfl (by decide) rfl (by decide) (by decide) (tb1 (i := 83) rfl) (Or.inl rfl) rfl dX5_search_33 ?_
        refine Ec.aload_n (i := 0) dX5_search_36 rfl rfl (Nat.le_of_ble_eq_true rfl) ?_
        refine Ec.gL (ci := 8) (k := 1) (t := 2) 10 (fun h _ => ⟨h.2.2.1.2.1, by decide⟩) rfl (by decide) rfl (by decide) (by decide) (tb1 (i := 80) rfl) (Or.inl rfl) rfl dX5_search_37 ?_
        obtain ⟨o31, hok⟩ := hok
        refine Ec.csN (as := [(2, 12), (2, 10)]) k_X10_copyRecipes (tb5 (i := 32) rfl) ki_X10_copyRecipes dX5_search_40 rfl rfl (Nat.le_of_ble_eq_true rfl) (by omega) (s_X10_copyRecipes o31) ?_
        exact Ec.vret rfl dX5_search_43 rfl (by rw [g_X5_search, if_neg c24, if_pos c26, if_neg c28])
    · rw [if_neg c26] at hok
      refine Ec.icmp_le_f (tgt := 15) dX5_search_11 (by decide) o25 ⟨by decide, by decide⟩ c26 ?_
      exact Ec.vret rfl dX5_search_14 rfl (by rw [g_X5_search, if_neg c24, if_neg c26])
def g_X5_findBest (l d : Int) (c : Cs) : Int × Cs :=
  (((g_X5_search 9 0 d (clst (g_X5_copySorted l 11 (g_X5_resetSlots d (cput ((g_X5_forecastOf l d c).2) 8 4 0 ((g_X5_forecastOf l d c).1 + 1)))) 12 ([]))).2.1 8 4 0), (g_X5_search 9 0 d (clst (g_X5_copySorted l 11 (g_X5_resetSlots d (cput ((g_X5_forecastOf l d c).2) 8 4 0 ((g_X5_forecastOf l d c).1 + 1)))) 12 ([]))))
def ok_X5_findBest (l d : Int) (c : Cs) : Prop :=
  ok_X5_forecastOf l d c ∧ (
    ok_X5_resetSlots d (cput ((g_X5_forecastOf l d c).2) 8 4 0 ((g_X5_forecastOf l d c).1 + 1)) ∧ (
      ok_X5_copySorted l 11 (g_X5_resetSlots d (cput ((g_X5_forecastOf l d c).2) 8 4 0 ((g_X5_forecastOf l d c).1 + 1))) ∧ (
        ok_X5_search 9 0 d (clst (g_X5_copySorted l 11 (g_X5_resetSlots d (cput ((g_X5_forecastOf l d c).2) 8 4 0 ((g_X5_forecastOf l d c).1 + 1)))) 12 ([])) ∧ (
          True))))
theorem s_X5_findBest {X : Cx} {ρ : Hp} {l d : Int} {c : Cs} (hok : ok_X5_findBest l d c) : Kc X ρ m_X5_findBest 20 [(8, 0), (2, l), (0, d)] c (.inl (some (0, ((g_X5_findBest l d c)).1))) ((g_X5_findBest l d c)).2 := by
  refine Kc.of (by decide +kernel) rfl (Nat.le_of_ble_eq_true rfl) ?_
  rw [ok_X5_findBest] at hok
  refine Ec.aload_n (i := 0) dX5_findBest_0 rfl rfl (Nat.le_of_ble_eq_true rfl) ?_
  refine Ec.aload_n (i := 0) dX5_findBest_1 rfl rfl (Nat.le_of_ble_eq_true rfl) ?_
  refine Ec.aload_n (i := 1) dX5_findBest_2 rfl rfl (Nat.le_of_ble_eq_true rfl) ?_
  refine Ec.iload_n (i := 2) dX5_findBest_3 rfl rfl ?_
  obtain ⟨o1, hok⟩ := hok
  refine Ec.cv (ci := 8) (as := [(2, l), (0, d)]) k_X5_forecastOf rfl (by decide) (tb4 (i := 4) rfl) ki_X5_forecastOf kv_X5_forecastOf dX5_findBest_4 rfl rfl (Nat.le_of_ble_eq_true rfl) (Nat.le_of_ble_eq_true rfl) (s_X5_forecastOf o1) ?_
  refine Ec.const dX5_findBest_7 ?_
  refine Ec.add dX5_findBest_8 ?_
  refine Ec.pI (ci := 8) (k := 4) rfl rfl (by decide) (by decide) (tb1 (i := 84) rfl) (Or.inl rfl) (Or.inl rfl) rfl rfl rfl dX5_findBest_9 ?_
  refine Ec.aload_n (i := 0) dX5_findBest_12 rfl rfl (Nat.le_of_ble_eq_true rfl) ?_
  refine Ec.iload_n (i := 2) dX5_findBest_13 rfl rfl ?_
  obtain ⟨o2, hok⟩ := hok
  refine Ec.cv (ci := 8) (as := [(0, d)]) k_X5_resetSlots rfl (by decide) (tb3 (i := 205) rfl) ki_X5_resetSlots kv_X5_resetSlots dX5_findBest_14 rfl rfl (Nat.le_of_ble_eq_true rfl) (Nat.le_of_ble_eq_true rfl) (s_X5_resetSlots o2) ?_
  refine Ec.aload_n (i := 1) dX5_findBest_17 rfl rfl (Nat.le_of_ble_eq_true rfl) ?_
  refine Ec.aload_n (i := 0) dX5_findBest_18 rfl rfl (Nat.le_of_ble_eq_true rfl) ?_
  refine Ec.gL (ci := 8) (k := 2) (t := 2) 11 (fun h _ => ⟨h.2.2.1.2.2.1, by decide⟩) rfl (by decide) rfl (by decide) (by decide) (tb1 (i := 82) rfl) (Or.inl rfl) rfl dX5_findBest_19 ?_
  obtain ⟨o3, hok⟩ := hok
  refine Ec.cs (as := [(2, l), (2, 11)]) k_X5_copySorted (tb4 (i := 5) rfl) ki_X5_copySorted dX5_findBest_22 rfl rfl (Nat.le_of_ble_eq_true rfl) (Nat.le_of_ble_eq_true rfl) (s_X5_copySorted o3) ?_
  refine Ec.aload_n (i := 0) dX5_findBest_25 rfl rfl (Nat.le_of_ble_eq_true rfl) ?_
  refine Ec.gL (ci := 8) (k := 3) (t := 2) 12 (fun h _ => ⟨h.2.2.1.2.2.2, by decide⟩) rfl (by decide) rfl (by decide) (by decide) (tb1 (i := 83) rfl) (Or.inl rfl) rfl dX5_findBest_26 ?_
  refine Ec.cf (as := []) (c1 := (clst (g_X5_copySorted l 11 (g_X5_resetSlots d (cput ((g_X5_forecastOf l d c).2) 8 4 0 ((g_X5_forecastOf l d c).1 + 1)))) 12 ([]))) kf_Jx4a65c_clear_da8c8 (tb4 (i := 9) rfl) dX5_findBest_29 rfl rfl (Nat.le_of_ble_eq_true rfl) (Nat.le_of_ble_eq_true rfl) kl_clear ?_
  refine Ec.aload_n (i := 0) dX5_findBest_34 rfl rfl (Nat.le_of_ble_eq_true rfl) ?_
  refine Ec.const dX5_findBest_35 ?_
  refine Ec.iload_n (i := 2) dX5_findBest_36 rfl rfl ?_
  obtain ⟨o4, hok⟩ := hok
  refine Ec.cs (as := [(8, 0), (0, 0), (0, d)]) k_X5_search (tb5 (i := 27) rfl) ki_X5_search dX5_findBest_37 rfl rfl (Nat.le_of_ble_eq_true rfl) (Nat.le_of_ble_eq_true rfl) (s_X5_search 9 _ _ _ o4) ?_
  refine Ec.aload_n (i := 0) dX5_findBest_40 rfl rfl (Nat.le_of_ble_eq_true rfl) ?_
  refine Ec.gI (ci := 8) (k := 4) ((g_X5_search 9 0 d (clst (g_X5_copySorted l 11 (g_X5_resetSlots d (cput ((g_X5_forecastOf l d c).2) 8 4 0 ((g_X5_forecastOf l d c).1 + 1)))) 12 ([]))).2.1 8 4 0) rfl rfl (by decide) (by decide) (tb1 (i := 84) rfl) (Or.inl rfl) rfl dX5_findBest_41 ?_
  exact Ec.iret rfl nar_i dX5_findBest_44 (by rw [g_X5_findBest]) (by rw [g_X5_findBest])
