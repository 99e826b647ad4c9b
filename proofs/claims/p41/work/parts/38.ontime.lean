/-! the share of the orders filled in time, on both sides (written by wip/whole/mk38.py) -/
def rat (a b : Int) : Int := ((FP.fdiv (FP.i2f (i32 a)) (FP.i2f (i32 b))).toNat : Int)
def rat_ok (a b : Int) : Prop := (0 ≤ a ∧ a ≤ 20) ∧ (1 ≤ b ∧ b ≤ 20)
theorem rat_bits {a b : Int} : UInt32.ofNat (rat a b).toNat = FP.fdiv (FP.i2f (i32 a)) (FP.i2f (i32 b)) := by
  unfold rat
  rw [Int.toNat_natCast]
  exact UInt32.ofNat_toNat
theorem n32_all : ∀ x : Fin 21, ∀ y : Fin 21, ¬ y.val = 0 → (FP.fdiv (FP.i2f (i32 (x.val : Int))) (FP.i2f (i32 (y.val : Int)))) &&& 0x7fffffff ≤ 0x7f800000 := by decide +kernel
theorem n32_rat {a b : Int} (h : rat_ok a b) : vf_n32 (FP.fdiv (FP.i2f (i32 a)) (FP.i2f (i32 b))) := by
  obtain ⟨⟨h1, h2⟩, h3, h4⟩ := h
  have g := n32_all ⟨a.toNat, by omega⟩ ⟨b.toNat, by omega⟩ (by show ¬ b.toNat = 0; omega)
  have e1 : ((a.toNat : Nat) : Int) = a := Int.toNat_of_nonneg h1
  have e2 : ((b.toNat : Nat) : Int) = b := Int.toNat_of_nonneg (by omega)
  unfold vf_n32
  rw [← e1, ← e2]
  exact g
theorem Ev.fretE {X : Cx} {M : Mt} {d pc : Nat} {ls : List (Option Value)} {σ τ : Hp} {o : Rs} {v : UInt32} (hr : M.rt = some .float) (d9 : decode M.cc pc = .ok (.freturn, 1)) (ho : o = .inl (some (.float v))) (hτ : τ = σ) : Ev X M d pc ls [.float v] σ o τ := by
  subst ho hτ
  exact Ev.fret hr d9
theorem Ec.ratio {X : Cx} {ρ : Hp} {M : Mt} {d pc : Nat} {ls : List (Option AV)} {c c' : Cs} {r : Rr} {n : Fin 4} {i : Nat} {a b : Int} (hr : M.rt = some .float) (hk : rat_ok a b) (d0 : decode M.cc pc = .ok (.i2f, 1)) (d1 : decode M.cc (pc + 1) = .ok (.iload_n n, 1)) (hi : (n : Nat) = i) (hx : ls[i]? = some (some (0, b))) (d2 : decode M.cc (pc + 2) = .ok (.i2f, 1)) (d3 : decode M.cc (pc + 3) = .ok (.fdiv, 1)) (d4 : decode M.cc (pc + 4) = .ok (.freturn, 1))
    (ho : r = .inl (some (1, rat a b))) (hc : c' = c) : Ec X ρ M d pc ls [(0, a)] c r c' := by
  subst ho hc
  refine fun A σ B hC _ _ => ⟨σ, A, B, ?_, hC, EX.rfl', fun x hx => by cases hx; exact ⟨fun h => absurd h (by show ¬ 2 ≤ 1; omega), fun h => absurd h (by show ¬ 100 ≤ 1; omega)⟩⟩
  show Ev X M d pc (vl A ls) [.int (i32 a)] σ (.inl (some (.float (UInt32.ofNat (rat a b).toNat)))) σ
  rw [rat_bits]
  exact Ev.i2f d0 (Ev.iload_n d1 hi (vl_get (A := A) hx) (Ev.i2f d2 (Ev.fdiv d3 (n32_rat hk) (Ev.fret hr d4))))
def l_X10_onTime_6 (c : Cs) : Nat → Int → Int → Int → Int × Int
  | 0, a, g, i => (a, g)
  | n + 1, a, g, i =>
    if ((c.2.2.1 5).length : Int) ≤ i then
      (a, g)
    else
      if (c.2.1 5 3 (lget (c.2.2.1 5) i)) = 102 then
        if (c.2.1 5 1 (lget (c.2.2.1 5) i)) < (c.2.1 5 4 (lget (c.2.2.1 5) i)) then
          (l_X10_onTime_6  c n (a + 1) (g + 0) (i + 1))
        else
          (l_X10_onTime_6  c n (a + 1) (g + 1) (i + 1))
      else
        (l_X10_onTime_6  c n a g (i + 1))
def okl_X10_onTime_6 (c : Cs) : Nat → Int → Int → Int → Prop
  | 0, a, g, i => False
  | n + 1, a, g, i =>
    R32 i ∧ (
      if ((c.2.2.1 5).length : Int) ≤ i then
        True
      else
        ((0 : Int) ≤ i ∧ i < ((c.2.2.1 5).length : Int)) ∧ (
          R32 (c.2.1 5 3 (lget (c.2.2.1 5) i)) ∧ (
            if (c.2.1 5 3 (lget (c.2.2.1 5) i)) = 102 then
              R32 (c.2.1 5 4 (lget (c.2.2.1 5) i)) ∧ (
                R32 (c.2.1 5 1 (lget (c.2.2.1 5) i)) ∧ (
                  if (c.2.1 5 1 (lget (c.2.2.1 5) i)) < (c.2.1 5 4 (lget (c.2.2.1 5) i)) then
                    (okl_X10_onTime_6  c n (a + 1) (g + 0) (i + 1))
                  else
                    (okl_X10_onTime_6  c n (a + 1) (g + 1) (i + 1))))
            else
              (okl_X10_onTime_6  c n a g (i + 1)))))
theorem s_l_X10_onTime_6 {X : Cx} {ρ : Hp} {c : Cs} {rr : Rr} {c' : Cs} : ∀ (n : Nat) (a g i : Int), okl_X10_onTime_6 c n a g i → (Ec X ρ m_X10_onTime 6 74 [some (13, 0), some (0, (l_X10_onTime_6 c n a g i).1), some (0, (l_X10_onTime_6 c n a g i).2), none, none] [] c rr c' → Ec X ρ m_X10_onTime 6 6 [some (13, 0), some (0, a), some (0, g), some (0, i), none] [] c rr c') := by
  intro n
  induction n with
  | zero =>
    intro a g i hok K
    exact False.elim hok
  | succ n ih =>
    intro a g i hok K
    rw [okl_X10_onTime_6] at hok
    refine Ec.iload_n (i := 3) dX10_onTime_6 rfl rfl ?_
    refine Ec.aload_n (i := 0) dX10_onTime_7 rfl rfl (Nat.le_of_ble_eq_true rfl) ?_
    refine Ec.gL (ci := 13) (k := 5) (t := 2) 5 (fun h _ => ⟨h.2.1.2.2.2.2.2.1, by decide⟩) rfl (by decide) rfl (by decide) (by decide) (tb1 (i := 189) rfl) (Or.inl rfl) rfl dX10_onTime_8 ?_
    refine Ec.say (fun _ hL _ hs => ?_)
    have q1 : ((c.2.2.1 5).length : Int) ≤ 200 := hL _ (hs.hd.r ⟨Nat.le_of_ble_eq_true rfl, Nat.le_of_ble_eq_true rfl⟩).2.1 (hs.hd.r ⟨Nat.le_of_ble_eq_true rfl, Nat.le_of_ble_eq_true rfl⟩).2.2
    refine Ec.cf (as := []) kf_Jx4a65c_size_8abf5 (tb1 (i := 226) rfl) dX10_onTime_11 rfl rfl (Nat.le_of_ble_eq_true rfl) (Nat.le_of_ble_eq_true rfl) kl_size ?_
    obtain ⟨o2, hok⟩ := hok
    by_cases c3 : ((c.2.2.1 5).length : Int) ≤ i
    · rw [if_pos c3] at hok
      refine Ec.icmp_ge_t (tgt := 74) dX10_onTime_16 (by decide) o2 ⟨by omega, by omega⟩ c3 ?_
      rw [l_X10_onTime_6, if_pos c3] at K
      refine Ec.cnv (ls' := [some (13, 0), some (0, a), some (0, g), none, none]) ⟨Or.inl rfl, ⟨Or.inl rfl, ⟨Or.inl rfl, trivial⟩⟩⟩ ?_
      exact K
    · rw [if_neg c3] at hok
      refine Ec.icmp_ge_f (tgt := 74) dX10_onTime_16 (by decide) o2 ⟨by omega, by omega⟩ c3 ?_
      refine Ec.aload_n (i := 0) dX10_onTime_19 rfl rfl (Nat.le_of_ble_eq_true rfl) ?_
      refine Ec.gL (ci := 13) (k := 5) (t := 2) 5 (fun h _ => ⟨h.2.1.2.2.2.2.2.1, by decide⟩) rfl (by decide) rfl (by decide) (by decide) (tb1 (i := 189) rfl) (Or.inl rfl) rfl dX10_onTime_20 ?_
      refine Ec.iload_n (i := 3) dX10_onTime_23 rfl rfl ?_
      obtain ⟨o4, hok⟩ := hok
      refine Ec.cf (as := [(0, i)]) kf_Jx4a65c_get_915e3 (tb2 (i := 93) rfl) dX10_onTime_24 rfl rfl (Nat.le_of_ble_eq_true rfl) (Nat.le_of_ble_eq_true rfl) (kl_get rfl o4) ?_
      refine Ec.cast (ci := 5) rfl (by decide) (tb5 (i := 89) rfl) dX10_onTime_29 ?_
      refine Ec.astore dX10_onTime_32 (by decide) (Nat.le_of_ble_eq_true rfl) ?_
      refine Ec.aload dX10_onTime_34 rfl (Nat.le_of_ble_eq_true rfl) ?_
      refine Ec.gI (ci := 5) (k := 3) (c.2.1 5 3 (lget (c.2.2.1 5) i)) rfl rfl (by decide) (by decide) (tb5 (i := 104) rfl) (Or.inl rfl) rfl dX10_onTime_36 ?_
      refine Ec.bipush dX10_onTime_39 (by decide) ?_
      obtain ⟨o5, hok⟩ := hok
      by_cases c6 : (c.2.1 5 3 (lget (c.2.2.1 5) i)) = 102
      · rw [if_pos c6] at hok
        refine Ec.icmp_ne_f (tgt := 68) dX10_onTime_41 (by decide) o5 ⟨by decide, by decide⟩ (fun h => h c6) ?_
        refine Ec.inc dX10_onTime_44 rfl (by decide) ?_
        refine Ec.iload_n (i := 2) dX10_onTime_47 rfl rfl ?_
        refine Ec.aload dX10_onTime_48 rfl (Nat.le_of_ble_eq_true rfl) ?_
        refine Ec.gI (ci := 5) (k := 4) (c.2.1 5 4 (lget (c.2.2.1 5) i)) rfl rfl (by decide) (by decide) (tb5 (i := 106) rfl) (Or.inl rfl) rfl dX10_onTime_50 ?_
        refine Ec.aload dX10_onTime_53 rfl (Nat.le_of_ble_eq_true rfl) ?_
        refine Ec.gI (ci := 5) (k := 1) (c.2.1 5 1 (lget (c.2.2.1 5) i)) rfl rfl (by decide) (by decide) (tb5 (i := 100) rfl) (Or.inl rfl) rfl dX10_onTime_55 ?_
        obtain ⟨o7, hok⟩ := hok
        obtain ⟨o8, hok⟩ := hok
        by_cases c9 : (c.2.1 5 1 (lget (c.2.2.1 5) i)) < (c.2.1 5 4 (lget (c.2.2.1 5) i))
        · rw [if_pos c9] at hok
          refine Ec.icmp_gt_t (tgt := 65) dX10_onTime_58 (by decide) o7 o8 c9 ?_
          refine Ec.const dX10_onTime_65 ?_
          refine Ec.add dX10_onTime_66 ?_
          refine Ec.istore_n (i := 2) dX10_onTime_67 rfl (by decide) ?_
          refine Ec.inc dX10_onTime_68 rfl (by decide) ?_
          refine Ec.goto (tgt := 6) dX10_onTime_71 (by decide) ?_
          refine Ec.cnv (ls' := [some (13, 0), some (0, (a + 1)), some (0, (g + 0)), some (0, (i + 1)), none]) ⟨Or.inl rfl, ⟨Or.inl rfl, ⟨Or.inl rfl, ⟨Or.inl rfl, trivial⟩⟩⟩⟩ ?_
          rw [l_X10_onTime_6, if_neg c3, if_pos c6, if_pos c9] at K
          exact ih (a + 1) (g + 0) (i + 1) hok K
        · rw [if_neg c9] at hok
          refine Ec.icmp_gt_f (tgt := 65) dX10_onTime_58 (by decide) o7 o8 c9 ?_
          refine Ec.const dX10_onTime_61 ?_
          refine Ec.goto (tgt := 66) dX10_onTime_62 (by decide) ?_
          refine Ec.add dX10_onTime_66 ?_
          refine Ec.istore_n (i := 2) dX10_onTime_67 rfl (by decide) ?_
          refine Ec.inc dX10_onTime_68 rfl (by decide) ?_
          refine Ec.goto (tgt := 6) dX10_onTime_71 (by decide) ?_
          refine Ec.cnv (ls' := [some (13, 0), some (0, (a + 1)), some (0, (g + 1)), some (0, (i + 1)), none]) ⟨Or.inl rfl, ⟨Or.inl rfl, ⟨Or.inl rfl, ⟨Or.inl rfl, trivial⟩⟩⟩⟩ ?_
          rw [l_X10_onTime_6, if_neg c3, if_pos c6, if_neg c9] at K
          exact ih (a + 1) (g + 1) (i + 1) hok K
      · rw [if_neg c6] at hok
        refine Ec.icmp_ne_t (tgt := 68) dX10_onTime_41 (by decide) o5 ⟨by decide, by decide⟩ c6 ?_
        refine Ec.inc dX10_onTime_68 rfl (by decide) ?_
        refine Ec.goto (tgt := 6) dX10_onTime_71 (by decide) ?_
        refine Ec.cnv (ls' := [some (13, 0), some (0, a), some (0, g), some (0, (i + 1)), none]) ⟨Or.inl rfl, ⟨Or.inl rfl, ⟨Or.inl rfl, ⟨Or.inl rfl, trivial⟩⟩⟩⟩ ?_
        rw [l_X10_onTime_6, if_neg c3, if_neg c6] at K
        exact ih a g (i + 1) hok K
def g_X10_onTime (c : Cs) : Rr × Cs :=
  if (l_X10_onTime_6 c fu 0 0 0).1 = 0 then
    (.inr "java/util/NoSuchElementException", (cexc c))
  else
    (.inl (some (1, rat ((l_X10_onTime_6 c fu 0 0 0).2) ((l_X10_onTime_6 c fu 0 0 0).1))), c)
def ok_X10_onTime (c : Cs) : Prop :=
  (okl_X10_onTime_6 c fu 0 0 0) ∧ (
    R32 ((l_X10_onTime_6 c fu 0 0 0).1) ∧ (
      if (l_X10_onTime_6 c fu 0 0 0).1 = 0 then
        True
      else
        rat_ok ((l_X10_onTime_6 c fu 0 0 0).2) ((l_X10_onTime_6 c fu 0 0 0).1) ∧ (
          True)))
theorem s_X10_onTime {X : Cx} {ρ : Hp} {c : Cs} (hok : ok_X10_onTime c) : Kc X ρ m_X10_onTime 6 [(13, 0)] c ((g_X10_onTime c)).1 ((g_X10_onTime c)).2 := by
  refine Kc.of (by decide +kernel) rfl (Nat.le_of_ble_eq_true rfl) ?_
  rw [ok_X10_onTime] at hok
  refine Ec.const dX10_onTime_0 ?_
  refine Ec.istore_n (i := 1) dX10_onTime_1 rfl (by decide) ?_
  refine Ec.const dX10_onTime_2 ?_
  refine Ec.istore_n (i := 2) dX10_onTime_3 rfl (by decide) ?_
  refine Ec.const dX10_onTime_4 ?_
  refine Ec.istore_n (i := 3) dX10_onTime_5 rfl (by decide) ?_
  refine Ec.cnv (ls' := [some (13, 0), some (0, 0), some (0, 0), some (0, 0), none]) ⟨Or.inl rfl, ⟨Or.inl rfl, ⟨Or.inl rfl, ⟨Or.inl rfl, trivial⟩⟩⟩⟩ ?_
  obtain ⟨o10, hok⟩ := hok
  refine s_l_X10_onTime_6  (c := c)  fu 0 0 0 o10 ?_
  refine Ec.iload_n (i := 1) dX10_onTime_74 rfl rfl ?_
  obtain ⟨o11, hok⟩ := hok
  by_cases c12 : (l_X10_onTime_6 c fu 0 0 0).1 = 0
  · rw [if_pos c12] at hok
    refine Ec.if_ne_f (tgt := 88) dX10_onTime_75 (by decide) o11 (fun h => h c12) ?_
    exact Ec.thr thr_NSE rfl rfl (Nat.le_of_ble_eq_true rfl) (Nat.le_of_ble_eq_true rfl) (tb6 (i := 208) rfl) dX10_onTime_78 dX10_onTime_81 dX10_onTime_82 dX10_onTime_84 dX10_onTime_87 (by rw [g_X10_onTime, if_pos c12]) (by rw [g_X10_onTime, if_pos c12])
  · rw [if_neg c12] at hok
    refine Ec.if_ne_t (tgt := 88) dX10_onTime_75 (by decide) o11 c12 ?_
    refine Ec.iload_n (i := 2) dX10_onTime_88 rfl rfl ?_
    obtain ⟨o13, hok⟩ := hok
    exact Ec.ratio (i := 1) rfl o13 dX10_onTime_89 dX10_onTime_90 rfl rfl dX10_onTime_91 dX10_onTime_92 dX10_onTime_93 (by rw [g_X10_onTime, if_neg c12]) (by rw [g_X10_onTime, if_neg c12])
def l_onTime_6 (v : Vw) : Nat → Int → Int → Int → Int × Int
  | 0, a, g, i => (a, g)
  | n + 1, a, g, i =>
    if (v 6 0) ≤ i then
      (a, g)
    else
      if (v 34 i) = 102 then
        if (v 32 i) < (v 35 i) then
          (l_onTime_6 v n (a + 1) (g + 0) (i + 1))
        else
          (l_onTime_6 v n (a + 1) (g + 1) (i + 1))
      else
        (l_onTime_6 v n (a + 0) (g + 0) (i + 1))
theorem r_l_onTime_6 {v : Vw} {T E : Int} (hI : IM v T E) : ∀ (n : Nat) (a g i : Int), 0 ≤ g → g ≤ a → a ≤ i → i ≤ 20 → (0 ≤ (l_onTime_6 v n a g i).2 ∧ (l_onTime_6 v n a g i).2 ≤ (l_onTime_6 v n a g i).1) ∧ (l_onTime_6 v n a g i).1 ≤ 20 := by
  have u6 : 0 ≤ v 6 0 ∧ v 6 0 ≤ 20 := hI.2 6 0
  intro n
  induction n with
  | zero => exact fun a g i h1 h2 h3 h4 => ⟨⟨h1, h2⟩, by show a ≤ 20; omega⟩
  | succ n ih =>
    intro a g i h1 h2 h3 h4
    rw [l_onTime_6]
    repeat' split
    all_goals first | exact ⟨⟨h1, h2⟩, by show a ≤ 20; omega⟩ | exact ih _ _ _ (by omega) (by omega) (by omega) (by omega)
def f_onTime (v : Vw) : Int × Vw :=
  if (l_onTime_6 v (((v 6 0) - 0).toNat + 1) 0 0 0).1 = 0 then
    (0, (upv v 0 0 1))
  else
    ((rat ((l_onTime_6 v (((v 6 0) - 0).toNat + 1) 0 0 0).2) ((l_onTime_6 v (((v 6 0) - 0).toNat + 1) 0 0 0).1)), (upv v 0 0 0))
theorem i_onTime {v : Vw} {T E : Int} (hI : IM v T E) : IM (f_onTime v).2 T (E) := by
  have hT := hI.1
  have q7 := r_l_onTime_6 (v := v) hI (((v 6 0) - 0).toNat + 1) 0 0 0 (by omega) (by omega) (by omega) (by omega)
  by_cases c8 : (l_onTime_6 v (((v 6 0) - 0).toNat + 1) 0 0 0).1 = 0
  · rw [f_onTime, if_pos c8]
    exact (hI.up 0 0 1 (by show 0 ≤ 1 ∧ 1 ≤ 4; omega))
  · rw [f_onTime, if_neg c8]
    exact (hI.up 0 0 0 (by show 0 ≤ 0 ∧ 0 ≤ 4; omega))
theorem fr_onTime {v : Vw} (fk : Nat) (fi : Int) (hk : fk ≠ 0) : (f_onTime v).2 fk fi = v fk fi := by
  by_cases c8 : (l_onTime_6 v (((v 6 0) - 0).toNat + 1) 0 0 0).1 = 0
  · rw [f_onTime, if_pos c8]
    exact ((upv_nk (by omega)).trans rfl)
  · rw [f_onTime, if_neg c8]
    exact ((upv_nk (by omega)).trans rfl)
