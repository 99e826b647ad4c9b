/-! the law: recipes and vessels (written by wip/p41/mk9g.py) -/
theorem x_addRecipe {a b f : Int} {v : Vw} (ha : 0 ≤ a ∧ a ≤ 3) (hb : 1 ≤ b ∧ b ≤ 14) (hf : 0 ≤ f ∧ f ≤ 14) (h5 : v 1 0 ≠ 5) : (f_addRecipe a b f v).1 = v 1 0 ∧ (f_addRecipe a b f v).2 0 0 = 0 ∧ (f_addRecipe a b f v).2 1 0 = v 1 0 + 1 := by
  have q1 : ¬ f_in a 0 3 = 0 := by have := c_in a 0 3; omega
  have q2 : ¬ f_in b 1 14 = 0 := by have := c_in b 1 14; omega
  have q3 : ¬ f_in f 0 14 = 0 := by have := c_in f 0 14; omega
  unfold f_addRecipe
  rw [if_neg q1, if_neg q2, if_neg q3, if_neg h5]
  refine ⟨by show v 1 0 + 1 - 1 = _; omega, by simp [upv], by simp [upv]⟩
theorem q_recipes {X : Cx} {h un it : Nat} {re ve : Int} {u tk : Int → Int} {n m : Nat} {T E : Int} (hN : KN X) (hs : X.sL ≤ 2048) (h1 : 1 ≤ re ∧ re ≤ 4) : ∀ (N : Nat) (r k y x : Int) (v : Vw), LI v T E r 0 1 1 u tk → 0 ≤ r → r + (N : Int) = re → 0 ≤ k → k + 3 * (N : Int) ≤ 4000 →
    (∀ v2, LI v2 T E re 0 1 1 u tk → Go X h 115 (lsH X h un it re ve 1 1 (k + 3 * (N : Int)) re) (v2, (y + (N : Int), x + (N : Int)), (n, m), Rz un it u tk)) →
    Go X h 54 (lsH X h un it re ve 1 1 k r) (v, (y, x), (n, m), Rz un it u tk) := by
  intro N
  induction N with
  | zero =>
    intro r k y x v hL r0 rN k0 kN K
    have er : r = re := by omega
    subst er
    have K2 := K v hL
    rw [show k + 3 * ((0 : Nat) : Int) = k by omega, show y + ((0 : Nat) : Int) = y by omega, show x + ((0 : Nat) : Int) = x by omega] at K2
    obtain ⟨w', q9, kk⟩ := K2
    refine ⟨w', q9, ?_⟩
    unfold lsH
    refine Wv.iload dL_law_54 rfl ?_
    refine Wv.iload_n (i := 2) dL_law_56 rfl rfl ?_
    refine Wi.icmp_ge_t (tgt := 115) dL_law_57 (by decide) ⟨by omega, by omega⟩ ⟨by omega, by omega⟩ (by omega) ?_
    exact kk
  | succ N ih =>
    intro r k y x v hL r0 rN k0 kN K
    have hL9 := hL
    obtain ⟨hI, hA, hD, ⟨e1, e2, e3⟩, hc, htk, hu⟩ := hL
    have hT0 := hI.1
    have p1 := pkv_r (X := X) (k := k) (n := 2) (by omega)
    have p2 := pkv_r (X := X) (k := k + 1) (n := 4) (by omega)
    have p3 := pkv_r (X := X) (k := k + 2) (n := 4) (by omega)
    revert p1 p2 p3
    generalize hz1 : pkv X k 2 = z1
    generalize hz2 : pkv X (k + 1) 4 = z2
    generalize hz3 : pkv X (k + 2) 4 = z3
    intro p1 p2 p3
    have hw := w_addRecipe (X := X) (h := h) (y := y) (x := x) (n := n) (m := m) (R := Rz un it u tk) (a := z1) (b := 1 + z2) (f := z3) hN hI ⟨by omega, by omega⟩ ⟨by omega, by omega⟩ ⟨by omega, by omega⟩
    have hI2 := i_addRecipe (a := z1) (b := 1 + z2) (c := z3) hI ⟨by omega, by omega⟩ ⟨by omega, by omega⟩ ⟨by omega, by omega⟩
    obtain ⟨e, z, ez1⟩ := x_addRecipe (a := z1) (b := 1 + z2) (f := z3) (v := v) ⟨by omega, by omega⟩ ⟨by omega, by omega⟩ ⟨by omega, by omega⟩ (by omega)
    have Q : ∀ k, k ≠ 0 ∧ k ≠ 1 ∧ k ≠ 12 ∧ k ≠ 13 ∧ k ≠ 14 → ∀ i, (f_addRecipe z1 (1 + z2) z3 v).2 k i = v k i := fun k hk i => fr_addRecipe k i hk
    rw [qc_v z, e, e1] at hw
    have L2 : LI (f_addRecipe z1 (1 + z2) z3 v).2 T E (r + 1) 0 1 1 u tk := by
      refine ⟨hI2, hA.fr (fun k hk i => Q k (by omega) i), hD.fr (fun k hk i => Q k (by omega) i), ⟨by rw [ez1, e1], by rw [Q 2 (by decide), e2], by rw [Q 3 (by decide), e3]⟩, hc, fun j j0 j1 => by rw [Q 20 (by decide)]; exact htk j j0 j1, fun o o0 o1 => ?_⟩
      rw [Q 6 (by decide)] at o1
      rw [hu o o0 o1]
      exact (osm_congr (Q 33 (by decide) o) (fun k _ _ => Q 37 (by decide) _)).symm
    obtain ⟨w', q9, kk⟩ := ih (r + 1) (k + 3) (y + 1) (x + 1) _ L2 (by omega) (by omega) (by omega) (by omega) (fun v2 hL2 => by
      have g := K v2 hL2
      rw [show k + 3 * ((N + 1 : Nat) : Int) = k + 3 + 3 * (N : Int) by omega, show y + ((N + 1 : Nat) : Int) = y + 1 + (N : Int) by omega, show x + ((N + 1 : Nat) : Int) = x + 1 + (N : Int) by omega] at g
      exact g)
    refine ⟨w', q9, ?_⟩
    unfold lsH
    refine Wv.iload dL_law_54 rfl ?_
    refine Wv.iload_n (i := 2) dL_law_56 rfl rfl ?_
    refine Wi.icmp_ge_f (tgt := 115) dL_law_57 (by decide) ⟨by omega, by omega⟩ ⟨by omega, by omega⟩ (by omega) ?_
    refine Wv.iload dL_law_60 rfl ?_
    refine Wv.aload_n (i := 1) dL_law_62 rfl rfl ?_
    refine Wv.aload_n (i := 0) dL_law_63 rfl rfl ?_
    refine Wv.iload dL_law_64 rfl ?_
    refine Wi.const dL_law_66 ?_
    refine Wv.callS (As := [_, _, _]) (v := some _) k_L_pick (tb2 (i := 2) rfl) ki_L_pick dL_law_67 rfl rfl (Nat.le_of_ble_eq_true rfl) (Nat.le_of_ble_eq_true rfl) (a_pick hs ⟨by omega, by omega⟩ ⟨by omega, by omega⟩) ?_
    rw [hz1]
    refine Wi.const dL_law_70 ?_
    refine Wv.aload_n (i := 0) dL_law_71 rfl rfl ?_
    refine Wv.iload dL_law_72 rfl ?_
    refine Wi.const dL_law_74 ?_
    refine Wi.add dL_law_75 ?_
    refine Wi.const dL_law_76 ?_
    refine Wv.callS (As := [_, _, _]) (v := some _) k_L_pick (tb2 (i := 2) rfl) ki_L_pick dL_law_77 rfl rfl (Nat.le_of_ble_eq_true rfl) (Nat.le_of_ble_eq_true rfl) (a_pick hs ⟨by omega, by omega⟩ ⟨by omega, by omega⟩) ?_
    rw [hz2]
    refine Wi.add dL_law_80 ?_
    refine Wv.aload_n (i := 0) dL_law_81 rfl rfl ?_
    refine Wv.iload dL_law_82 rfl ?_
    refine Wi.const dL_law_84 ?_
    refine Wi.add dL_law_85 ?_
    refine Wi.const dL_law_86 ?_
    refine Wv.callS (As := [_, _, _]) (v := some _) k_L_pick (tb2 (i := 2) rfl) ki_L_pick dL_law_87 rfl rfl (Nat.le_of_ble_eq_true rfl) (Nat.le_of_ble_eq_true rfl) (a_pick hs ⟨by omega, by omega⟩ ⟨by omega, by omega⟩) ?_
    rw [hz3]
    refine Wv.callH (As := [_, _, _, _]) (v := some _) k_L_addRecipe (tb2 (i := 9) rfl) ki_L_addRecipe dL_law_90 rfl rfl (Nat.le_of_ble_eq_true rfl) (Nat.le_of_ble_eq_true rfl) hw ?_
    refine Wv.iload dL_law_93 rfl ?_
    refine Wi.icmp_ne_f (tgt := 102) dL_law_95 (by decide) ⟨by omega, by omega⟩ ⟨by omega, by omega⟩ (by omega) ?_
    refine Wi.const dL_law_98 ?_
    refine Wv.goto (tgt := 103) dL_law_99 (by decide) ?_
    refine Wi.and1 dL_law_103 ?_
    refine Wv.istore dL_law_104 (by decide) rfl ?_
    refine Wi.inc dL_law_106 rfl (by decide) rfl ?_
    refine Wi.inc dL_law_109 rfl (by decide) rfl ?_
    refine Wv.goto (tgt := 54) dL_law_112 (by decide) ?_
    exact kk
theorem q_vessels {X : Cx} {h un it : Nat} {re ve : Int} {u : Int → Int} {n m : Nat} {T E : Int} (hN : KN X) (hs : X.sL ≤ 2048) (h2 : 1 ≤ ve ∧ ve ≤ 8) : ∀ (N : Nat) (r k y x : Int) (v : Vw) (tk : Int → Int), LI v T E re r 1 1 u tk → 0 ≤ r → r + (N : Int) = ve → 0 ≤ k → k + (N : Int) ≤ 4000 →
    (∀ v2 tk2, LI v2 T E re ve 1 1 u tk2 → Go X h 199 (lsH X h un it re ve 1 1 (k + (N : Int)) ve) (v2, (y + (N : Int), x + (N : Int)), (n, m), Rz un it u tk2)) →
    Go X h 118 (lsH X h un it re ve 1 1 k r) (v, (y, x), (n, m), Rz un it u tk) := by
  intro N
  induction N with
  | zero =>
    intro r k y x v tk hL r0 rN k0 kN K
    have er : r = ve := by omega
    subst er
    have K2 := K v tk hL
    rw [show k + ((0 : Nat) : Int) = k by omega, show y + ((0 : Nat) : Int) = y by omega, show x + ((0 : Nat) : Int) = x by omega] at K2
    obtain ⟨w', q9, kk⟩ := K2
    refine ⟨w', q9, ?_⟩
    unfold lsH
    refine Wv.iload dL_law_118 rfl ?_
    refine Wv.iload_n (i := 3) dL_law_120 rfl rfl ?_
    refine Wi.icmp_ge_t (tgt := 199) dL_law_121 (by decide) ⟨by omega, by omega⟩ ⟨by omega, by omega⟩ (by omega) ?_
    exact kk
  | succ N ih =>
    intro r k y x v tk hL r0 rN k0 kN K
    have hL9 := hL
    obtain ⟨hI, hA, hD, ⟨e1, e2, e3⟩, hc, htk, hu⟩ := hL
    have hT0 := hI.1
    have p1 := pkv_r (X := X) (k := k) (n := 2) (by omega)
    obtain ⟨t, ht, F1⟩ : ∃ t, (t = 0 ∨ t = 1) ∧ ∀ (ls : List (Option Value)) (w w' : Wl), ls[0]? = some (some (va_rf (some X.sb))) → ls[9]? = some (some (.int (i32 k))) → ls[10]? = some (some (.int (i32 r))) → Wv X h m_L_law 40 155 ls [.int (i32 t), .int (i32 r), va_rf (some it)] w (.inl (some (.int (i32 1)))) w' → Wv X h m_L_law 40 128 ls [.int (i32 r), va_rf (some it)] w (.inl (some (.int (i32 1)))) w' := by
      by_cases d1 : r = 1
      · skip
        refine ⟨1, Or.inr rfl, fun ls w w' g0 g9 g10 kk => ?_⟩
        refine Wv.iload dL_law_128 g10 ?_
        refine Wi.const dL_law_130 ?_
        refine Wi.icmp_eq_t (tgt := 150) dL_law_131 (by decide) ⟨by omega, by omega⟩ ⟨by omega, by omega⟩ (by omega) ?_
        refine Wi.const dL_law_150 ?_
        refine Wv.goto (tgt := 155) dL_law_151 (by decide) ?_
        exact kk
      by_cases d2 : r ≤ 1
      · skip
        refine ⟨0, Or.inl rfl, fun ls w w' g0 g9 g10 kk => ?_⟩
        refine Wv.iload dL_law_128 g10 ?_
        refine Wi.const dL_law_130 ?_
        refine Wi.icmp_eq_f (tgt := 150) dL_law_131 (by decide) ⟨by omega, by omega⟩ ⟨by omega, by omega⟩ (by omega) ?_
        refine Wv.iload dL_law_134 g10 ?_
        refine Wi.const dL_law_136 ?_
        refine Wi.icmp_le_t (tgt := 154) dL_law_137 (by decide) ⟨by omega, by omega⟩ ⟨by omega, by omega⟩ (by omega) ?_
        refine Wi.const dL_law_154 ?_
        exact kk
      by_cases d3 : pkv X k 2 = 0
      · skip
        refine ⟨1, Or.inr rfl, fun ls w w' g0 g9 g10 kk => ?_⟩
        refine Wv.iload dL_law_128 g10 ?_
        refine Wi.const dL_law_130 ?_
        refine Wi.icmp_eq_f (tgt := 150) dL_law_131 (by decide) ⟨by omega, by omega⟩ ⟨by omega, by omega⟩ (by omega) ?_
        refine Wv.iload dL_law_134 g10 ?_
        refine Wi.const dL_law_136 ?_
        refine Wi.icmp_le_f (tgt := 154) dL_law_137 (by decide) ⟨by omega, by omega⟩ ⟨by omega, by omega⟩ (by omega) ?_
        refine Wv.aload_n (i := 0) dL_law_140 rfl g0 ?_
        refine Wv.iload dL_law_141 g9 ?_
        refine Wi.const dL_law_143 ?_
        refine Wv.callS (As := [_, _, _]) (v := some _) k_L_pick (tb2 (i := 2) rfl) ki_L_pick dL_law_144 rfl rfl (Nat.le_of_ble_eq_true rfl) (Nat.le_of_ble_eq_true rfl) (a_pick hs ⟨by omega, by omega⟩ ⟨by omega, by omega⟩) ?_
        refine Wi.if_ne_f (tgt := 154) dL_law_147 (by decide) ⟨by omega, by omega⟩ (by omega) ?_
        refine Wi.const dL_law_150 ?_
        refine Wv.goto (tgt := 155) dL_law_151 (by decide) ?_
        exact kk
      · skip
        refine ⟨0, Or.inl rfl, fun ls w w' g0 g9 g10 kk => ?_⟩
        refine Wv.iload dL_law_128 g10 ?_
        refine Wi.const dL_law_130 ?_
        refine Wi.icmp_eq_f (tgt := 150) dL_law_131 (by decide) ⟨by omega, by omega⟩ ⟨by omega, by omega⟩ (by omega) ?_
        refine Wv.iload dL_law_134 g10 ?_
        refine Wi.const dL_law_136 ?_
        refine Wi.icmp_le_f (tgt := 154) dL_law_137 (by decide) ⟨by omega, by omega⟩ ⟨by omega, by omega⟩ (by omega) ?_
        refine Wv.aload_n (i := 0) dL_law_140 rfl g0 ?_
        refine Wv.iload dL_law_141 g9 ?_
        refine Wi.const dL_law_143 ?_
        refine Wv.callS (As := [_, _, _]) (v := some _) k_L_pick (tb2 (i := 2) rfl) ki_L_pick dL_law_144 rfl rfl (Nat.le_of_ble_eq_true rfl) (Nat.le_of_ble_eq_true rfl) (a_pick hs ⟨by omega, by omega⟩ ⟨by omega, by omega⟩) ?_
        refine Wi.if_ne_t (tgt := 154) dL_law_147 (by decide) ⟨by omega, by omega⟩ (by omega) ?_
        refine Wi.const dL_law_154 ?_
        exact kk
    obtain ⟨kc, hkc, hkt⟩ : ∃ kc : Int, (kc = 102 ∨ kc = 116) ∧ (if kc = 116 then (1 : Int) else 0) = t := by
      rcases ht with rfl | rfl
      · exact ⟨102, Or.inl rfl, rfl⟩
      · exact ⟨116, Or.inr rfl, rfl⟩
    have hw := w_addVessel (X := X) (h := h) (y := y) (x := x) (n := n) (m := m) (R := Rz un it u (fun j => if j = r then t else tk j)) (a := kc) hN hI ⟨by omega, by omega⟩
    have hI2 := i_addVessel (a := kc) hI ⟨by omega, by omega⟩
    obtain ⟨e, z, ez2, ez20⟩ := x_addVessel kc v hkc (by omega)
    have pw := pw_addVessel hA hD hkc (by omega) (by omega)
    have Q : ∀ k, k ≠ 0 ∧ k ≠ 2 ∧ k ≠ 19 ∧ k ≠ 20 → ∀ i, (f_addVessel kc v).2 k i = v k i := fun k hk i => fr_addVessel k i hk
    rw [qc_v z, e, e2] at hw
    rw [e2] at ez2 ez20
    have L2 : LI (f_addVessel kc v).2 T E re (r + 1) 1 1 u (fun j => if j = r then t else tk j) := by
      refine ⟨hI2, pw.1, pw.2, ⟨by rw [Q 1 (by decide), e1], ez2, by rw [Q 3 (by decide), e3]⟩, hc, fun j j0 j1 => ?_, fun o o0 o1 => ?_⟩
      · show (if j = r then t else tk j) = _
        rw [ez20, hkt]
        by_cases d : j = r
        · rw [if_pos d, if_pos d]
        · rw [if_neg d, if_neg d]
          exact htk j j0 (by omega)
      rw [Q 6 (by decide)] at o1
      rw [hu o o0 o1]
      exact (osm_congr (Q 33 (by decide) o) (fun k _ _ => Q 37 (by decide) _)).symm
    obtain ⟨w', q9, kk⟩ := ih (r + 1) (k + 1) (y + 1) (x + 1) _ _ L2 (by omega) (by omega) (by omega) (by omega) (fun v2 tk2 hL2 => by
      have g := K v2 tk2 hL2
      rw [show k + ((N + 1 : Nat) : Int) = k + 1 + (N : Int) by omega, show y + ((N + 1 : Nat) : Int) = y + 1 + (N : Int) by omega, show x + ((N + 1 : Nat) : Int) = x + 1 + (N : Int) by omega] at g
      exact g)
    refine ⟨w', q9, ?_⟩
    have F2 : ∀ (ls : List (Option Value)), ls[1]? = some (some (va_rf (some h))) → Wv X h m_L_law 40 174 ls [.int (i32 kc), va_rf (some h), .int (i32 1)] (v, (y, x), (n, m), Rz un it u (fun j => if j = r then t else tk j)) (.inl (some (.int (i32 1)))) w' → Wv X h m_L_law 40 164 ls [.int (i32 t), va_rf (some h), .int (i32 1)] (v, (y, x), (n, m), Rz un it u (fun j => if j = r then t else tk j)) (.inl (some (.int (i32 1)))) w' := fun ls g1 k3 => by
      rcases hkc with rfl | rfl
      · have ht0 : t = 0 := by rw [← hkt]; rfl
        subst ht0
        refine Wi.if_eq_t (tgt := 172) dL_law_164 (by decide) ⟨by omega, by omega⟩ (by omega) ?_
        refine Wv.bipush (v := i32 102) dL_law_172 (by decide) ?_
        exact k3
      · have ht0 : t = 1 := by rw [← hkt]; rfl
        subst ht0
        refine Wi.if_eq_f (tgt := 172) dL_law_164 (by decide) ⟨by omega, by omega⟩ (by omega) ?_
        refine Wv.bipush (v := i32 116) dL_law_167 (by decide) ?_
        refine Wv.goto (tgt := 174) dL_law_169 (by decide) ?_
        exact k3
    unfold lsH
    refine Wv.iload dL_law_118 rfl ?_
    refine Wv.iload_n (i := 3) dL_law_120 rfl rfl ?_
    refine Wi.icmp_ge_f (tgt := 199) dL_law_121 (by decide) ⟨by omega, by omega⟩ ⟨by omega, by omega⟩ (by omega) ?_
    refine Wv.aload dL_law_124 rfl ?_
    refine Wv.iload dL_law_126 rfl ?_
    refine F1 _ _ _ rfl rfl rfl ?_
    refine Wv.zast 1 rfl (by omega) (by omega) (by decide) (by omega) dL_law_155 ?_
    refine Wv.iload dL_law_156 rfl ?_
    refine Wv.aload_n (i := 1) dL_law_158 rfl rfl ?_
    refine Wv.aload dL_law_159 rfl ?_
    refine Wv.iload dL_law_161 rfl ?_
    refine Wv.zald 1 rfl (by omega) (by omega) (by decide) dL_law_163 ?_
    rw [show (if r = r then t else tk r) = t from if_pos rfl]
    refine F2 _ rfl ?_
    refine Wv.callH (As := [_, _]) (v := some _) k_L_addVessel (tb2 (i := 159) rfl) ki_L_addVessel dL_law_174 rfl rfl (Nat.le_of_ble_eq_true rfl) (Nat.le_of_ble_eq_true rfl) hw ?_
    refine Wv.iload dL_law_177 rfl ?_
    refine Wi.icmp_ne_f (tgt := 186) dL_law_179 (by decide) ⟨by omega, by omega⟩ ⟨by omega, by omega⟩ (by omega) ?_
    refine Wi.const dL_law_182 ?_
    refine Wv.goto (tgt := 187) dL_law_183 (by decide) ?_
    refine Wi.and1 dL_law_187 ?_
    refine Wv.istore dL_law_188 (by decide) rfl ?_
    refine Wi.inc dL_law_190 rfl (by decide) rfl ?_
    refine Wi.inc dL_law_193 rfl (by decide) rfl ?_
    refine Wv.goto (tgt := 118) dL_law_196 (by decide) ?_
    exact kk
