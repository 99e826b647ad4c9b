/-! the law's helpers: what was delivered (written by wip/p41/mk96.py) -/
theorem Ev.ldcf {X : Cx} {M : Mt} {d pc : Nat} {ls : List (Option Value)} {rest : List Value} {σ τ : Hp} {o : Rs} {ix : Nat} {v : UInt32} (d9 : decode M.cc pc = .ok (.ldc ix, 2)) (hw : (Jvm.Cond.constantFloat M.y.cls ix v) ∈ lw_tbl) (hg : goodWord (Jvm.Cond.constantFloat M.y.cls ix v) = true) (k : Ev X M d (pc + 2) ls (.float v :: rest) σ o τ) : Ev X M d pc ls rest σ o τ :=
  Ev.pure (fun _ _ _ _ _ _ _ _ _ _ _ _ _ _ _ _ hF _ _ _ _ _ _ hl kk => lv_ldcf hF.1 hF.2.1 hF.2.2.2.2.2.1 (hF.2.2.2.2.2.2.2.2.2.1.good hF.2.2.2.2.2.2.2.2.2.2.1 hw hg) d9 (kk _ hl)) k
def otv (v : Vw) : UInt32 := if (f_onTime v).2 0 0 = 0 then UInt32.ofNat (f_onTime v).1.toNat else 3264610304
def m_L_onTime : Mt := (yL_onTime, cL_onTime, 2, some .float, [(0, 4, 5, 43)])
theorem k_L_onTime : cokH m_L_onTime 1 := ⟨rfl, (tb6 (i := 203) rfl), (tb1 (i := 0) rfl), by decide, by decide +kernel, by decide⟩
theorem ki_L_onTime : Cond.static m_L_onTime.y ∈ lw_tbl := (tb6 (i := 202) rfl)
theorem w_onTime {X : Cx} {h : Nat} {v : Vw} {y x : Int} {n m : Nat} {R : List Ar} {T E : Int} (hN : KN X) (hI : IM v T E) : Kl X h m_L_onTime 7 [va_rf (some h)] (v, (y, x), (n, m), R) (.inl (some (.float (otv v)))) (v, (y, x + 1), (n, m), R) := by
  intro σ hR
  have kdh : σ.kd h = 13 + 1 := hR.kd
  have hR9 := hR
  obtain ⟨⟨A, c, B, hC, hV, eA, h6, hx⟩, -⟩ := hR
  have h6 : c.1 6 ≤ y := h6
  have hx : c.2.2.2 ≤ x := hx
  have hV : INV c v := hV
  obtain ⟨ok, hA, hV2⟩ := fc_onTime hV hI
  obtain ⟨τ, A2, B2, hCt, hS, e13, hF⟩ := kc_up hC (s_X10_onTime ok) (ws1 hC.2)
  have hst := so_onTime c
  subst eA
  have hV3 : INV (g_X10_onTime c).2 v := hV2.vfr (fun k hk => funext fun i => by
    unfold f_onTime
    split
    · exact (upv_nk hk.1).symm
    · exact (upv_nk hk.1).symm)
  have hW := hR9.call (v' := v) (y' := y) (x' := x + 1) hS hV3 e13 (by have := hst.1; omega) (by have := hst.2; omega) hF
  unfold otv
  rcases hA with ⟨z, a, b, hr, e, e2⟩ | ⟨z, e, e2⟩
  · rw [e] at hCt
    rw [if_pos z, e2]
    refine ⟨τ, Ct.ofH (by decide +kernel) k_L_onTime (Nat.le_of_ble_eq_true rfl) (by simp [Value.category, va_rf]) ?_, hW⟩
    refine Ev.aload_n (i := 0) dL_onTime_0 rfl rfl ?_
    refine Ev.callV (ci := 13) (C := RX10) (T := TX10) (N := 12) (As := []) (v := some (.float (UInt32.ofNat (rat a b).toNat))) k_X10_onTime rfl kdh (tb6 (i := 204) rfl) ki_X10_onTime kv_X10_onTime dL_onTime_1 rfl rfl (Nat.le_of_ble_eq_true rfl) (Nat.le_refl _) hCt ?_
    exact Ev.fret rfl dL_onTime_4
  · rw [e] at hCt
    rw [if_neg (by rw [z]; decide)]
    refine ⟨τ, Ct.ofH (by decide +kernel) k_L_onTime (Nat.le_of_ble_eq_true rfl) (by simp [Value.category, va_rf]) ?_, hW⟩
    refine Ev.aload_n (i := 0) dL_onTime_0 rfl rfl ?_
    have hp : ∀ z ∈ ([] : List (Nat × Nat × Nat × Nat)), z.2.2.2 ≠ 0 ∧ ∃ nm, Cond.classLink m_L_onTime.y.cls z.2.2.2 nm ∈ lw_tbl ∧ xcp nm ∧ xNSE ≠ nm := fun z hz => by
      cases hz
    refine Ev.callVc (ci := 13) (C := RX10) (T := TX10) (N := 12) (As := []) (E := xNSE) (pre := []) (suf := []) (xa := 0) (xb := 4) (xh := 5) (xt := 43) hN (Or.inr (Or.inr (Or.inl rfl))) k_X10_onTime rfl kdh (tb6 (i := 204) rfl) ki_X10_onTime kv_X10_onTime dL_onTime_1 rfl rfl (Nat.le_of_ble_eq_true rfl) (Nat.le_refl _) rfl (by decide) (by decide) hp (tb2 (i := 239) rfl) (tb3 (i := 69) rfl) hCt (fun q => ?_)
    refine Ev.astore_n (i := 1) dL_onTime_5 rfl (by decide) ?_
    refine Ev.ldcf dL_onTime_6 (tb6 (i := 209) rfl) rfl ?_
    exact Ev.fret rfl dL_onTime_8
theorem on6 {v : Vw} : ∀ (n : Nat) (a g i : Int), 0 ≤ i → i ≤ v 6 0 → (v 6 0 - i).toNat < n → (l_onTime_6 v n a g i).1 = a + (cN (ffF v) (v 6 0).toNat - cN (ffF v) i.toNat) ∧ g ≤ (l_onTime_6 v n a g i).2 ∧ (l_onTime_6 v n a g i).2 - g ≤ (l_onTime_6 v n a g i).1 - a := by
  intro n
  induction n with
  | zero => exact fun _ _ _ _ _ h => absurd h (Nat.not_lt_zero _)
  | succ n ih =>
    intro a g i i0 i1 hn
    rw [l_onTime_6]
    by_cases c1 : v 6 0 ≤ i
    · rw [if_pos c1, show i = v 6 0 by omega]
      exact ⟨by show a = _; omega, Int.le_refl _, by show g - g ≤ a - a; omega⟩
    · rw [if_neg c1]
      have st := cN_st (f := ffF v) i0
      by_cases c2 : v 34 i = 102
      · rw [if_pos c2]
        have e : ffF v i = 1 := if_pos c2
        by_cases c3 : v 32 i < v 35 i
        · rw [if_pos c3]
          obtain ⟨r1, r2, r3⟩ := ih (a + 1) (g + 0) (i + 1) (by omega) (by omega) (by omega)
          exact ⟨by omega, by omega, by omega⟩
        · rw [if_neg c3]
          obtain ⟨r1, r2, r3⟩ := ih (a + 1) (g + 1) (i + 1) (by omega) (by omega) (by omega)
          exact ⟨by omega, by omega, by omega⟩
      · rw [if_neg c2]
        have e : ffF v i = 0 := if_neg c2
        obtain ⟨r1, r2, r3⟩ := ih (a + 0) (g + 0) (i + 1) (by omega) (by omega) (by omega)
        exact ⟨by omega, by omega, by omega⟩
theorem otv_ok {v : Vw} (h6 : 0 ≤ v 6 0 ∧ v 6 0 ≤ 20) (h34 : ∀ o, v 6 0 ≤ o → v 34 o = 0) : (cN (ffF v) 20 = 0 ∧ otv v = 3264610304) ∨ (cN (ffF v) 20 ≠ 0 ∧ ∃ g a : Int, 0 ≤ g ∧ g ≤ a ∧ 1 ≤ a ∧ a ≤ 20 ∧ otv v = FP.fdiv (FP.i2f (i32 g)) (FP.i2f (i32 a))) := by
  have ex := cN_ext (f := ffF v) (m := (v 6 0).toNat) (20 - (v 6 0).toNat) (fun i hi => by
    have := h34 i (by omega)
    unfold ffF
    rw [this]
    decide)
  rw [show (v 6 0).toNat + (20 - (v 6 0).toNat) = 20 by omega] at ex
  obtain ⟨r1, r2, r3⟩ := on6 (v := v) (((v 6 0) - 0).toNat + 1) 0 0 0 (Int.le_refl 0) h6.1 (by omega)
  have z0 : cN (ffF v) (0 : Int).toNat = 0 := rfl
  have fb := ff_sum v 20
  unfold otv f_onTime
  by_cases c : (l_onTime_6 v (((v 6 0) - 0).toNat + 1) 0 0 0).1 = 0
  · refine Or.inl ⟨by omega, ?_⟩
    rw [if_pos c]
    rw [if_neg (by show ¬ upv v 0 0 1 0 0 = 0; rw [up00]; decide)]
  · refine Or.inr ⟨by omega, (l_onTime_6 v (((v 6 0) - 0).toNat + 1) 0 0 0).2, (l_onTime_6 v (((v 6 0) - 0).toNat + 1) 0 0 0).1, by omega, by omega, by omega, by omega, ?_⟩
    rw [if_neg c]
    rw [if_pos (by show upv v 0 0 0 0 0 = 0; rw [up00])]
    exact rat_bits
theorem cmp_all : ∀ x : Fin 21, ∀ y : Fin 21, ¬ y.val = 0 → x.val ≤ y.val → (Op.cmpValue (FP.fcmp (FP.fdiv (FP.i2f (i32 (x.val : Int))) (FP.i2f (i32 (y.val : Int)))) 0) .l = i32 0 ∨ Op.cmpValue (FP.fcmp (FP.fdiv (FP.i2f (i32 (x.val : Int))) (FP.i2f (i32 (y.val : Int)))) 0) .l = i32 1) ∧ (Op.cmpValue (FP.fcmp (FP.fdiv (FP.i2f (i32 (x.val : Int))) (FP.i2f (i32 (y.val : Int)))) 1065353216) .g = i32 0 ∨ Op.cmpValue (FP.fcmp (FP.fdiv (FP.i2f (i32 (x.val : Int))) (FP.i2f (i32 (y.val : Int)))) 1065353216) .g = i32 (-1)) := by decide +kernel
theorem cmp_ok {g a : Int} (h0 : 0 ≤ g) (h1 : g ≤ a) (h2 : 1 ≤ a) (h3 : a ≤ 20) {f : UInt32} (e : f = FP.fdiv (FP.i2f (i32 g)) (FP.i2f (i32 a))) : (∃ z, Op.cmpValue (FP.fcmp f 0) .l = i32 z ∧ 0 ≤ z ∧ z ≤ 1) ∧ ∃ z, Op.cmpValue (FP.fcmp f 1065353216) .g = i32 z ∧ -1 ≤ z ∧ z ≤ 0 := by
  have k := cmp_all ⟨g.toNat, by omega⟩ ⟨a.toNat, by omega⟩ (by show ¬ a.toNat = 0; omega) (by show g.toNat ≤ a.toNat; omega)
  have e1 : ((g.toNat : Nat) : Int) = g := Int.toNat_of_nonneg h0
  have e2 : ((a.toNat : Nat) : Int) = a := Int.toNat_of_nonneg (by omega)
  have k2 := k
  rw [show (((⟨g.toNat, by omega⟩ : Fin 21).val : Nat) : Int) = g from e1, show (((⟨a.toNat, by omega⟩ : Fin 21).val : Nat) : Int) = a from e2, ← e] at k2
  refine ⟨?_, ?_⟩
  · rcases k2.1 with q | q
    · exact ⟨0, q, by decide, by decide⟩
    · exact ⟨1, q, by decide, by decide⟩
  · rcases k2.2 with q | q
    · exact ⟨0, q, by decide, by decide⟩
    · exact ⟨-1, q, by decide, by decide⟩
theorem cmp_75 : Op.cmpValue (FP.fcmp 3264610304 3264610304) .l = i32 0 := by decide +kernel
/-- units of an order among the first deliveries -/
def gsm (v : Vw) (i : Int) (o : Int) : Int := sI (fun e => if v 45 e = o then v 46 e else 0) i.toNat
theorem gsm_st {v : Vw} {i : Int} (h0 : 0 ≤ i) : (fun j => if j = v 45 i then gsm v i (v 45 i) + v 46 i else gsm v i j) = gsm v (i + 1) := by
  funext j
  have st := sI_step (f := fun e => if v 45 e = j then v 46 e else 0) h0
  have e : gsm v (i + 1) j = gsm v i j + (if v 45 i = j then v 46 i else 0) := st
  by_cases c : j = v 45 i
  · rw [if_pos c, e, if_pos c.symm, c]
  · rw [if_neg c, e, if_neg (fun q => c q.symm)]
    omega
theorem sI_bd {f : Int → Int} {M : Int} : ∀ n : Nat, (∀ i, 0 ≤ i → i < (n : Int) → 0 ≤ f i ∧ f i ≤ M) → 0 ≤ sI f n ∧ sI f n ≤ M * (n : Int) := by
  intro n
  induction n with
  | zero => exact fun _ => ⟨Int.le_refl 0, by show 0 ≤ M * 0; omega⟩
  | succ n ih =>
    intro h
    have h1 := ih (fun i a b => h i a (by omega))
    have h2 := h (n : Int) (by omega) (by omega)
    have e : sI f (n + 1) = sI f n + f (n : Int) := rfl
    have e2 : M * ((n + 1 : Nat) : Int) = M * (n : Int) + M := by rw [Int.natCast_add, Int.mul_add]; omega
    rw [e, e2]
    omega
theorem osm_bd {v : Vw} {T E : Int} (hI : IM v T E) (o : Int) : 0 ≤ osm v o ∧ osm v o ≤ 200 := by
  have u33 : 0 ≤ v 33 o ∧ v 33 o ≤ 4 := hI.2 33 o
  have b := sI_bd (f := fun k => v 37 (4 * o + k)) (M := 40) (v 33 o).toNat (fun i _ _ => hI.2 37 (4 * o + i))
  unfold osm
  omega
theorem dlo_0 {v : Vw} (hD : PD v) {o : Int} (ho : v 6 0 ≤ o) : dlo v o = 0 := by
  unfold dlo
  rw [sI_congr (f := fun e => if v 45 e = o then v 46 e else 0) (g := fun _ => 0) _ (fun e e0 e1 => by
    have := (hD.1 e e0 (by omega)).2.1
    rw [if_neg (by omega)])]
  exact sI_0 _
def m_L_areDelivered : Mt := (yL_areDelivered, cL_areDelivered, 8, some .boolean, [])
theorem k_L_areDelivered : cokD m_L_areDelivered 2 := ⟨rfl, (tb6 (i := 185) rfl), (tb1 (i := 0) rfl), by decide, by decide +kernel, by decide⟩
theorem ki_L_areDelivered : Cond.static m_L_areDelivered.y ∈ lw_tbl := (tb6 (i := 184) rfl)
theorem l_deliv2 {X : Cx} {h : Nat} {v : Vw} {y : Int} {n m : Nat} {un it a9 : Nat} {u tk : Int → Int} {T E : Int} (hN : KN X) (hI : IM v T E) (hD : PD v) (hu : ∀ o, 0 ≤ o → o < v 6 0 → u o = osm v o) (h34 : ∀ o, v 6 0 ≤ o → v 34 o = 0) : ∀ (n9 : Nat) (i x : Int), 0 ≤ i → i ≤ 20 → (20 - i).toNat < n9 →
    Wv X h m_L_areDelivered 12 111 [some (va_rf (some h)), some (va_rf (some un)), some (va_rf (some a9)), some (.int (i32 0)), some (.int (i32 (cN (ffF v) i.toNat))), some (.int (i32 1)), some (.int (i32 i)), none] [] (v, (y, x), (n, m), ((a9, 20, 20, (gsm v (v 9 0))) :: Rz un it u tk)) (.inl (some (.int (i32 1)))) (v, (y, x + 2 * (20 - i) + 1), (n, m), ((a9, 20, 20, (gsm v (v 9 0))) :: Rz un it u tk)) := by
  intro n9
  induction n9 with
  | zero => exact fun _ _ _ _ hn => absurd hn (Nat.not_lt_zero _)
  | succ n9 ih =>
    intro i x i0 i2 hn
    have u6 : 0 ≤ v 6 0 ∧ v 6 0 ≤ 20 := hI.2 6 0
    have fb := ff_sum v i.toNat
    by_cases c9 : 20 ≤ i
    · have ei : i = 20 := by omega
      subst ei
      have fb2 := ff_sum v 20
      have e20 : cN (ffF v) (20 : Int).toNat = cN (ffF v) 20 := rfl
      refine Wv.after (y := y) (x := x + 1) (Int.le_refl _) (by omega) ?_
      rcases otv_ok u6 h34 with ⟨q0, q1⟩ | ⟨q0, g, a, g0, g1, g2, g3, q1⟩
      · refine Wv.iload dL_areDelivered_111 rfl ?_
        refine Wv.bipush (v := i32 20) dL_areDelivered_113 (by decide) ?_
        refine Wi.icmp_ge_t (tgt := 206) dL_areDelivered_115 (by decide) ⟨by omega, by omega⟩ ⟨by omega, by omega⟩ (by omega) ?_
        refine Wv.aload_n (i := 0) dL_areDelivered_206 rfl rfl ?_
        refine Wv.callH (As := [_]) (v := some _) k_L_onTime (tb6 (i := 201) rfl) ki_L_onTime dL_areDelivered_207 rfl rfl (Nat.le_of_ble_eq_true rfl) (Nat.le_of_ble_eq_true rfl) (w_onTime hN hI) ?_
        refine Wv.fstore dL_areDelivered_210 (by decide) rfl ?_
        refine Wv.iload dL_areDelivered_212 rfl ?_
        refine Wi.if_eq_f (tgt := 251) dL_areDelivered_214 (by decide) ⟨by omega, by omega⟩ (by omega) ?_
        refine Wv.iload dL_areDelivered_217 rfl ?_
        refine Wi.if_ne_f (tgt := 233) dL_areDelivered_219 (by decide) ⟨by omega, by omega⟩ (by omega) ?_
        refine Wv.fload dL_areDelivered_222 rfl ?_
        refine Wv.ldcf dL_areDelivered_224 (tb6 (i := 209) rfl) rfl ?_
        rw [q1]
        refine Wv.fcmp dL_areDelivered_226 ?_
        rw [cmp_75]
        refine Wi.if_ne_f (tgt := 251) dL_areDelivered_227 (by decide) ⟨by omega, by omega⟩ (by omega) ?_
        refine Wv.goto (tgt := 247) dL_areDelivered_230 (by decide) ?_
        refine Wi.const dL_areDelivered_247 ?_
        refine Wv.goto (tgt := 252) dL_areDelivered_248 (by decide) ?_
        exact Wv.iret rfl (nar_b (Or.inr rfl)) dL_areDelivered_252
      · obtain ⟨⟨z1, k1, k2⟩, z2, k3, k4⟩ := cmp_ok g0 g1 g2 g3 q1
        refine Wv.iload dL_areDelivered_111 rfl ?_
        refine Wv.bipush (v := i32 20) dL_areDelivered_113 (by decide) ?_
        refine Wi.icmp_ge_t (tgt := 206) dL_areDelivered_115 (by decide) ⟨by omega, by omega⟩ ⟨by omega, by omega⟩ (by omega) ?_
        refine Wv.aload_n (i := 0) dL_areDelivered_206 rfl rfl ?_
        refine Wv.callH (As := [_]) (v := some _) k_L_onTime (tb6 (i := 201) rfl) ki_L_onTime dL_areDelivered_207 rfl rfl (Nat.le_of_ble_eq_true rfl) (Nat.le_of_ble_eq_true rfl) (w_onTime hN hI) ?_
        refine Wv.fstore dL_areDelivered_210 (by decide) rfl ?_
        refine Wv.iload dL_areDelivered_212 rfl ?_
        refine Wi.if_eq_f (tgt := 251) dL_areDelivered_214 (by decide) ⟨by omega, by omega⟩ (by omega) ?_
        refine Wv.iload dL_areDelivered_217 rfl ?_
        refine Wi.if_ne_t (tgt := 233) dL_areDelivered_219 (by decide) ⟨by omega, by omega⟩ (by omega) ?_
        refine Wv.fload dL_areDelivered_233 rfl ?_
        refine Wv.fconst0 dL_areDelivered_235 ?_
        refine Wv.fcmp dL_areDelivered_236 ?_
        rw [k1]
        refine Wi.if_lt_f (tgt := 251) dL_areDelivered_237 (by decide) ⟨by omega, by omega⟩ (by omega) ?_
        refine Wv.fload dL_areDelivered_240 rfl ?_
        refine Wv.fconst1 dL_areDelivered_242 ?_
        refine Wv.fcmp dL_areDelivered_243 ?_
        rw [k3]
        refine Wi.if_gt_f (tgt := 251) dL_areDelivered_244 (by decide) ⟨by omega, by omega⟩ (by omega) ?_
        refine Wi.const dL_areDelivered_247 ?_
        refine Wv.goto (tgt := 252) dL_areDelivered_248 (by decide) ?_
        exact Wv.iret rfl (nar_b (Or.inr rfl)) dL_areDelivered_252
    · have i2 : i < 20 := by omega
      have ha : 0 ≤ i ∧ i < 100 := ⟨i0, by omega⟩
      have cs := cN_st (f := ffF v) i0
      have u34 : 0 ≤ v 34 i ∧ v 34 i ≤ 255 := hI.2 34 i
      have u35 : 0 ≤ v 35 i ∧ v 35 i ≤ T := hI.2 35 i
      have hT := hI.1
      have ob := osm_bd hI i
      have eg : gsm v (v 9 0) i = dlo v i := rfl
      have next : ∀ (c : Int) (ls : List (Option Value)), cN (ffF v) (i + 1).toNat = c → lsub [some (va_rf (some h)), some (va_rf (some un)), some (va_rf (some a9)), some (.int (i32 0)), some (.int (i32 c)), some (.int (i32 1)), some (.int (i32 (i + 1))), none] ls → ∀ x', x' ≤ x + 2 → Wv X h m_L_areDelivered 12 111 ls [] (v, (y, x'), (n, m), ((a9, 20, 20, (gsm v (v 9 0))) :: Rz un it u tk)) (.inl (some (.int (i32 1)))) (v, (y, x + 2 * (20 - i) + 1), (n, m), ((a9, 20, 20, (gsm v (v 9 0))) :: Rz un it u tk)) := fun c ls hc hl x' hx' => by
        have k := ih (i + 1) (x + 2) (by omega) (by omega) (by omega)
        rw [show x + 2 + 2 * (20 - (i + 1)) + 1 = x + 2 * (20 - i) + 1 by omega, hc] at k
        exact Wv.more (Int.le_refl _) hx' (Wv.fgt hl k)
      by_cases z : v 34 i = 102
      · have zf : ffF v i = 1 := if_pos z
        have zo : i < v 6 0 := by
          by_cases q : i < v 6 0
          · exact q
          · have := h34 i (by omega)
            omega
        have d4 := hD.2.2.2.1 i i0 zo
        rw [if_pos z] at d4
        have ue := hu i i0 zo
        refine Wv.iload dL_areDelivered_111 rfl ?_
        refine Wv.bipush (v := i32 20) dL_areDelivered_113 (by decide) ?_
        refine Wi.icmp_ge_f (tgt := 206) dL_areDelivered_115 (by decide) ⟨by omega, by omega⟩ ⟨by omega, by omega⟩ (by omega) ?_
        refine Wv.aload_n (i := 0) dL_areDelivered_118 rfl rfl ?_
        refine Wv.iload dL_areDelivered_119 rfl ?_
        refine Wv.callH (As := [_, _]) (v := some _) k_L_status (tb5 (i := 172) rfl) ki_L_status dL_areDelivered_121 rfl rfl (Nat.le_of_ble_eq_true rfl) (Nat.le_of_ble_eq_true rfl) (n_status hN hI ha (s := 102) (by rw [if_pos zo]; exact z)) ?_
        refine Wv.bipush (v := i32 102) dL_areDelivered_124 (by decide) ?_
        refine Wi.icmp_ne_f (tgt := 133) dL_areDelivered_126 (by decide) ⟨by omega, by omega⟩ ⟨by omega, by omega⟩ (by omega) ?_
        refine Wi.const dL_areDelivered_129 ?_
        refine Wv.goto (tgt := 134) dL_areDelivered_130 (by decide) ?_
        refine Wv.istore dL_areDelivered_134 (by decide) rfl ?_
        refine Wv.iload dL_areDelivered_136 rfl ?_
        refine Wv.aload_n (i := 2) dL_areDelivered_138 rfl rfl ?_
        refine Wv.iload dL_areDelivered_139 rfl ?_
        refine Wv.iald 0 rfl (by omega) (by omega) (by decide) dL_areDelivered_141 ?_
        refine Wv.iload dL_areDelivered_142 rfl ?_
        refine Wi.if_eq_f (tgt := 154) dL_areDelivered_144 (by decide) ⟨by omega, by omega⟩ (by omega) ?_
        refine Wv.aload_n (i := 1) dL_areDelivered_147 rfl rfl ?_
        refine Wv.iload dL_areDelivered_148 rfl ?_
        refine Wv.iald 1 rfl (by omega) (by omega) (by decide) dL_areDelivered_150 ?_
        refine Wv.goto (tgt := 155) dL_areDelivered_151 (by decide) ?_
        refine Wi.icmp_ne_f (tgt := 181) dL_areDelivered_155 (by decide) ⟨by omega, by omega⟩ ⟨by omega, by omega⟩ (by omega) ?_
        refine Wv.aload_n (i := 0) dL_areDelivered_158 rfl rfl ?_
        refine Wv.iload dL_areDelivered_159 rfl ?_
        refine Wv.callH (As := [_, _]) (v := some _) k_L_filledOn (tb6 (i := 193) rfl) ki_L_filledOn dL_areDelivered_161 rfl rfl (Nat.le_of_ble_eq_true rfl) (Nat.le_of_ble_eq_true rfl) (n_filledOn hN hI ha (s := v 35 i) (by rw [if_pos zo, if_pos z])) ?_
        refine Wi.if_lt_f (tgt := 171) dL_areDelivered_164 (by decide) ⟨by omega, by omega⟩ (by omega) ?_
        refine Wi.const dL_areDelivered_167 ?_
        refine Wv.goto (tgt := 172) dL_areDelivered_168 (by decide) ?_
        refine Wv.iload dL_areDelivered_172 rfl ?_
        refine Wi.icmp_ne_f (tgt := 181) dL_areDelivered_174 (by decide) ⟨by omega, by omega⟩ ⟨by omega, by omega⟩ (by omega) ?_
        refine Wi.const dL_areDelivered_177 ?_
        refine Wv.goto (tgt := 182) dL_areDelivered_178 (by decide) ?_
        refine Wi.and1 dL_areDelivered_182 ?_
        refine Wv.istore dL_areDelivered_183 (by decide) rfl ?_
        refine Wv.iload dL_areDelivered_185 rfl ?_
        refine Wv.iload dL_areDelivered_187 rfl ?_
        refine Wi.if_eq_f (tgt := 196) dL_areDelivered_189 (by decide) ⟨by omega, by omega⟩ (by omega) ?_
        refine Wi.const dL_areDelivered_192 ?_
        refine Wv.goto (tgt := 197) dL_areDelivered_193 (by decide) ?_
        refine Wi.add dL_areDelivered_197 ?_
        refine Wv.istore dL_areDelivered_198 (by decide) rfl ?_
        refine Wi.inc dL_areDelivered_200 rfl (by decide) rfl ?_
        refine Wv.goto (tgt := 111) dL_areDelivered_203 (by decide) ?_
        refine next (cN (ffF v) i.toNat + 1) _ (by omega) ?_ _ (by omega)
        exact ⟨rfl, rfl, rfl, rfl, rfl, rfl, rfl, trivial⟩
      · have zf : ffF v i = 0 := if_neg z
        have d4 : dlo v i = 0 := by
          by_cases q : i < v 6 0
          · rw [hD.2.2.2.1 i i0 q, if_neg z]
          · exact dlo_0 hD (by omega)
        obtain ⟨s, es, hs⟩ : ∃ s, (if i < v 6 0 then v 34 i else -77) = s ∧ (s ≠ 102 ∧ -77 ≤ s ∧ s ≤ 255) := ⟨_, rfl, by split <;> omega⟩
        obtain ⟨s2, es2, hs2⟩ : ∃ s, (if i < v 6 0 then (if v 34 i = 102 then v 35 i else -79) else -77) = s ∧ (s < 0 ∧ -79 ≤ s) := ⟨_, rfl, by rw [if_neg z]; split <;> omega⟩
        refine Wv.iload dL_areDelivered_111 rfl ?_
        refine Wv.bipush (v := i32 20) dL_areDelivered_113 (by decide) ?_
        refine Wi.icmp_ge_f (tgt := 206) dL_areDelivered_115 (by decide) ⟨by omega, by omega⟩ ⟨by omega, by omega⟩ (by omega) ?_
        refine Wv.aload_n (i := 0) dL_areDelivered_118 rfl rfl ?_
        refine Wv.iload dL_areDelivered_119 rfl ?_
        refine Wv.callH (As := [_, _]) (v := some _) k_L_status (tb5 (i := 172) rfl) ki_L_status dL_areDelivered_121 rfl rfl (Nat.le_of_ble_eq_true rfl) (Nat.le_of_ble_eq_true rfl) (n_status hN hI ha (s := s) es) ?_
        refine Wv.bipush (v := i32 102) dL_areDelivered_124 (by decide) ?_
        refine Wi.icmp_ne_t (tgt := 133) dL_areDelivered_126 (by decide) ⟨by omega, by omega⟩ ⟨by omega, by omega⟩ (by omega) ?_
        refine Wi.const dL_areDelivered_133 ?_
        refine Wv.istore dL_areDelivered_134 (by decide) rfl ?_
        refine Wv.iload dL_areDelivered_136 rfl ?_
        refine Wv.aload_n (i := 2) dL_areDelivered_138 rfl rfl ?_
        refine Wv.iload dL_areDelivered_139 rfl ?_
        refine Wv.iald 0 rfl (by omega) (by omega) (by decide) dL_areDelivered_141 ?_
        refine Wv.iload dL_areDelivered_142 rfl ?_
        refine Wi.if_eq_t (tgt := 154) dL_areDelivered_144 (by decide) ⟨by omega, by omega⟩ (by omega) ?_
        refine Wi.const dL_areDelivered_154 ?_
        refine Wi.icmp_ne_f (tgt := 181) dL_areDelivered_155 (by decide) ⟨by omega, by omega⟩ ⟨by omega, by omega⟩ (by omega) ?_
        refine Wv.aload_n (i := 0) dL_areDelivered_158 rfl rfl ?_
        refine Wv.iload dL_areDelivered_159 rfl ?_
        refine Wv.callH (As := [_, _]) (v := some _) k_L_filledOn (tb6 (i := 193) rfl) ki_L_filledOn dL_areDelivered_161 rfl rfl (Nat.le_of_ble_eq_true rfl) (Nat.le_of_ble_eq_true rfl) (n_filledOn hN hI ha (s := s2) es2) ?_
        refine Wi.if_lt_t (tgt := 171) dL_areDelivered_164 (by decide) ⟨by omega, by omega⟩ (by omega) ?_
        refine Wi.const dL_areDelivered_171 ?_
        refine Wv.iload dL_areDelivered_172 rfl ?_
        refine Wi.icmp_ne_f (tgt := 181) dL_areDelivered_174 (by decide) ⟨by omega, by omega⟩ ⟨by omega, by omega⟩ (by omega) ?_
        refine Wi.const dL_areDelivered_177 ?_
        refine Wv.goto (tgt := 182) dL_areDelivered_178 (by decide) ?_
        refine Wi.and1 dL_areDelivered_182 ?_
        refine Wv.istore dL_areDelivered_183 (by decide) rfl ?_
        refine Wv.iload dL_areDelivered_185 rfl ?_
        refine Wv.iload dL_areDelivered_187 rfl ?_
        refine Wi.if_eq_t (tgt := 196) dL_areDelivered_189 (by decide) ⟨by omega, by omega⟩ (by omega) ?_
        refine Wi.const dL_areDelivered_196 ?_
        refine Wi.add dL_areDelivered_197 ?_
        refine Wv.istore dL_areDelivered_198 (by decide) rfl ?_
        refine Wi.inc dL_areDelivered_200 rfl (by decide) rfl ?_
        refine Wv.goto (tgt := 111) dL_areDelivered_203 (by decide) ?_
        refine next (cN (ffF v) i.toNat + 0) _ (by omega) ?_ _ (by omega)
        exact ⟨rfl, rfl, rfl, rfl, rfl, rfl, rfl, trivial⟩
theorem l_deliv1 {X : Cx} {h : Nat} {v : Vw} {y : Int} {n m : Nat} {un it a9 : Nat} {u tk : Int → Int} {T E : Int} (hN : KN X) (hI : IM v T E) (hD : PD v) {o : Rs} {w' : Wl} (x1 : Int) (K : Wv X h m_L_areDelivered 12 108 [some (va_rf (some h)), some (va_rf (some un)), some (va_rf (some a9)), some (.int (i32 0)), some (.int (i32 0)), some (.int (i32 1)), some (.int (i32 (v 9 0))), none] [] (v, (y, x1), (n, m), ((a9, 20, 20, (gsm v (v 9 0))) :: Rz un it u tk)) o w') : ∀ (n9 : Nat) (i x : Int), 0 ≤ i → i ≤ v 9 0 → (v 9 0 - i).toNat < n9 → x + 8 * (v 9 0 - i) ≤ x1 →
    Wv X h m_L_areDelivered 12 16 [some (va_rf (some h)), some (va_rf (some un)), some (va_rf (some a9)), some (.int (i32 0)), some (.int (i32 0)), some (.int (i32 1)), some (.int (i32 i)), none] [] (v, (y, x), (n, m), ((a9, 20, 20, (gsm v i)) :: Rz un it u tk)) o w' := by
  intro n9
  induction n9 with
  | zero => exact fun _ _ _ _ hn => absurd hn (Nat.not_lt_zero _)
  | succ n9 ih =>
    intro i x i0 i2 hn hx
    have u9 : 0 ≤ v 9 0 ∧ v 9 0 ≤ 127 := hI.2 9 0
    have u6 : 0 ≤ v 6 0 ∧ v 6 0 ≤ 20 := hI.2 6 0
    have hT := hI.1
    by_cases c9 : v 9 0 ≤ i
    · have ei : i = v 9 0 := by omega
      subst ei
      refine Wv.more (y' := y) (x' := x1) (Int.le_refl _) (by omega) ?_
      refine Wv.iload dL_areDelivered_16 rfl ?_
      refine Wv.aload_n (i := 0) dL_areDelivered_18 rfl rfl ?_
      refine Wv.callV (As := []) (v := some _) k_X10_deliveries (tb6 (i := 102) rfl) ki_X10_deliveries kv_X10_deliveries dL_areDelivered_19 rfl rfl (Nat.le_of_ble_eq_true rfl) (Nat.le_of_ble_eq_true rfl) (w_deliveries hI) ?_
      refine Wi.icmp_ge_t (tgt := 108) dL_areDelivered_22 (by decide) ⟨by omega, by omega⟩ ⟨by omega, by omega⟩ (by omega) ?_
      exact K
    · have i2 : i < v 9 0 := by omega
      have ha : 0 ≤ i ∧ i < v 9 0 := ⟨i0, i2⟩
      obtain ⟨d1, d2, d3⟩ := hD.1 i i0 i2
      have u46 : 0 ≤ v 46 i ∧ v 46 i ≤ 20 := hI.2 46 i
      have u35 : 0 ≤ v 35 (v 45 i) ∧ v 35 (v 45 i) ≤ T := hI.2 35 (v 45 i)
      have hb : 0 ≤ v 45 i ∧ v 45 i < 100 := ⟨d2.1, by omega⟩
      have next : ∀ (ls : List (Option Value)), lsub [some (va_rf (some h)), some (va_rf (some un)), some (va_rf (some a9)), some (.int (i32 0)), some (.int (i32 0)), some (.int (i32 1)), some (.int (i32 (i + 1))), none] ls → ∀ x', x' ≤ x + 8 → Wv X h m_L_areDelivered 12 16 ls [] (v, (y, x'), (n, m), (a9, 20, 20, (fun j => if j = v 45 i then gsm v i (v 45 i) + v 46 i else gsm v i j)) :: Rz un it u tk) o w' := fun ls hl x' hx' => by
        have k := ih (i + 1) (x + 8) (by omega) (by omega) (by omega) (by omega)
        rw [gsm_st i0]
        exact Wv.more (Int.le_refl _) hx' (Wv.fgt hl k)
      by_cases z : i = 0
      · refine Wv.iload dL_areDelivered_16 rfl ?_
        refine Wv.aload_n (i := 0) dL_areDelivered_18 rfl rfl ?_
        refine Wv.callV (As := []) (v := some _) k_X10_deliveries (tb6 (i := 102) rfl) ki_X10_deliveries kv_X10_deliveries dL_areDelivered_19 rfl rfl (Nat.le_of_ble_eq_true rfl) (Nat.le_of_ble_eq_true rfl) (w_deliveries hI) ?_
        refine Wi.icmp_ge_f (tgt := 108) dL_areDelivered_22 (by decide) ⟨by omega, by omega⟩ ⟨by omega, by omega⟩ (by omega) ?_
        refine Wv.aload_n (i := 2) dL_areDelivered_25 rfl rfl ?_
        refine Wv.aload_n (i := 0) dL_areDelivered_26 rfl rfl ?_
        refine Wv.iload dL_areDelivered_27 rfl ?_
        refine Wv.callH (As := [_, _]) (v := some _) k_L_deliveredOrder (tb6 (i := 186) rfl) ki_L_deliveredOrder dL_areDelivered_29 rfl rfl (Nat.le_of_ble_eq_true rfl) (Nat.le_of_ble_eq_true rfl) (n_deliveredOrder hN hI ha (s := v 45 i) rfl) ?_
        refine Wv.dup2 dL_areDelivered_32 rfl rfl ?_
        refine Wv.iald 0 rfl (by omega) (by omega) (by decide) dL_areDelivered_33 ?_
        refine Wv.aload_n (i := 0) dL_areDelivered_34 rfl rfl ?_
        refine Wv.iload dL_areDelivered_35 rfl ?_
        refine Wv.callH (As := [_, _]) (v := some _) k_L_deliveredUnits (tb6 (i := 162) rfl) ki_L_deliveredUnits dL_areDelivered_37 rfl rfl (Nat.le_of_ble_eq_true rfl) (Nat.le_of_ble_eq_true rfl) (n_deliveredUnits hN hI ha (s := v 46 i) rfl) ?_
        refine Wi.add dL_areDelivered_40 ?_
        refine Wv.iast 0 rfl (by omega) (by omega) (by decide) dL_areDelivered_41 ?_
        refine Wv.iload dL_areDelivered_42 rfl ?_
        refine Wv.aload_n (i := 0) dL_areDelivered_44 rfl rfl ?_
        refine Wv.iload dL_areDelivered_45 rfl ?_
        refine Wv.callH (As := [_, _]) (v := some _) k_L_deliveredUnits (tb6 (i := 162) rfl) ki_L_deliveredUnits dL_areDelivered_47 rfl rfl (Nat.le_of_ble_eq_true rfl) (Nat.le_of_ble_eq_true rfl) (n_deliveredUnits hN hI ha (s := v 46 i) rfl) ?_
        refine Wi.if_le_f (tgt := 98) dL_areDelivered_50 (by decide) ⟨by omega, by omega⟩ (by omega) ?_
        refine Wv.aload_n (i := 0) dL_areDelivered_53 rfl rfl ?_
        refine Wv.iload dL_areDelivered_54 rfl ?_
        refine Wv.callH (As := [_, _]) (v := some _) k_L_deliveredUnits (tb6 (i := 162) rfl) ki_L_deliveredUnits dL_areDelivered_56 rfl rfl (Nat.le_of_ble_eq_true rfl) (Nat.le_of_ble_eq_true rfl) (n_deliveredUnits hN hI ha (s := v 46 i) rfl) ?_
        refine Wv.bipush (v := i32 20) dL_areDelivered_59 (by decide) ?_
        refine Wi.icmp_gt_f (tgt := 98) dL_areDelivered_61 (by decide) ⟨by omega, by omega⟩ ⟨by omega, by omega⟩ (by omega) ?_
        refine Wv.iload dL_areDelivered_64 rfl ?_
        refine Wi.if_eq_t (tgt := 94) dL_areDelivered_66 (by decide) ⟨by omega, by omega⟩ (by omega) ?_
        refine Wi.const dL_areDelivered_94 ?_
        refine Wv.goto (tgt := 99) dL_areDelivered_95 (by decide) ?_
        refine Wi.and1 dL_areDelivered_99 ?_
        refine Wv.istore dL_areDelivered_100 (by decide) rfl ?_
        refine Wi.inc dL_areDelivered_102 rfl (by decide) rfl ?_
        refine Wv.goto (tgt := 16) dL_areDelivered_105 (by decide) ?_
        refine next _ ?_ _ (by omega)
        exact ⟨rfl, rfl, rfl, rfl, rfl, rfl, rfl, trivial⟩
      · obtain ⟨p1, p2, p3⟩ := hD.1 (i - 1) (by omega) (by omega)
        have q2 := hD.2.1 i (by omega) i2
        have u35' : 0 ≤ v 35 (v 45 (i - 1)) ∧ v 35 (v 45 (i - 1)) ≤ T := hI.2 35 (v 45 (i - 1))
        refine Wv.iload dL_areDelivered_16 rfl ?_
        refine Wv.aload_n (i := 0) dL_areDelivered_18 rfl rfl ?_
        refine Wv.callV (As := []) (v := some _) k_X10_deliveries (tb6 (i := 102) rfl) ki_X10_deliveries kv_X10_deliveries dL_areDelivered_19 rfl rfl (Nat.le_of_ble_eq_true rfl) (Nat.le_of_ble_eq_true rfl) (w_deliveries hI) ?_
        refine Wi.icmp_ge_f (tgt := 108) dL_areDelivered_22 (by decide) ⟨by omega, by omega⟩ ⟨by omega, by omega⟩ (by omega) ?_
        refine Wv.aload_n (i := 2) dL_areDelivered_25 rfl rfl ?_
        refine Wv.aload_n (i := 0) dL_areDelivered_26 rfl rfl ?_
        refine Wv.iload dL_areDelivered_27 rfl ?_
        refine Wv.callH (As := [_, _]) (v := some _) k_L_deliveredOrder (tb6 (i := 186) rfl) ki_L_deliveredOrder dL_areDelivered_29 rfl rfl (Nat.le_of_ble_eq_true rfl) (Nat.le_of_ble_eq_true rfl) (n_deliveredOrder hN hI ha (s := v 45 i) rfl) ?_
        refine Wv.dup2 dL_areDelivered_32 rfl rfl ?_
        refine Wv.iald 0 rfl (by omega) (by omega) (by decide) dL_areDelivered_33 ?_
        refine Wv.aload_n (i := 0) dL_areDelivered_34 rfl rfl ?_
        refine Wv.iload dL_areDelivered_35 rfl ?_
        refine Wv.callH (As := [_, _]) (v := some _) k_L_deliveredUnits (tb6 (i := 162) rfl) ki_L_deliveredUnits dL_areDelivered_37 rfl rfl (Nat.le_of_ble_eq_true rfl) (Nat.le_of_ble_eq_true rfl) (n_deliveredUnits hN hI ha (s := v 46 i) rfl) ?_
        refine Wi.add dL_areDelivered_40 ?_
        refine Wv.iast 0 rfl (by omega) (by omega) (by decide) dL_areDelivered_41 ?_
        refine Wv.iload dL_areDelivered_42 rfl ?_
        refine Wv.aload_n (i := 0) dL_areDelivered_44 rfl rfl ?_
        refine Wv.iload dL_areDelivered_45 rfl ?_
        refine Wv.callH (As := [_, _]) (v := some _) k_L_deliveredUnits (tb6 (i := 162) rfl) ki_L_deliveredUnits dL_areDelivered_47 rfl rfl (Nat.le_of_ble_eq_true rfl) (Nat.le_of_ble_eq_true rfl) (n_deliveredUnits hN hI ha (s := v 46 i) rfl) ?_
        refine Wi.if_le_f (tgt := 98) dL_areDelivered_50 (by decide) ⟨by omega, by omega⟩ (by omega) ?_
        refine Wv.aload_n (i := 0) dL_areDelivered_53 rfl rfl ?_
        refine Wv.iload dL_areDelivered_54 rfl ?_
        refine Wv.callH (As := [_, _]) (v := some _) k_L_deliveredUnits (tb6 (i := 162) rfl) ki_L_deliveredUnits dL_areDelivered_56 rfl rfl (Nat.le_of_ble_eq_true rfl) (Nat.le_of_ble_eq_true rfl) (n_deliveredUnits hN hI ha (s := v 46 i) rfl) ?_
        refine Wv.bipush (v := i32 20) dL_areDelivered_59 (by decide) ?_
        refine Wi.icmp_gt_f (tgt := 98) dL_areDelivered_61 (by decide) ⟨by omega, by omega⟩ ⟨by omega, by omega⟩ (by omega) ?_
        refine Wv.iload dL_areDelivered_64 rfl ?_
        refine Wi.if_eq_f (tgt := 94) dL_areDelivered_66 (by decide) ⟨by omega, by omega⟩ (by omega) ?_
        refine Wv.aload_n (i := 0) dL_areDelivered_69 rfl rfl ?_
        refine Wv.aload_n (i := 0) dL_areDelivered_70 rfl rfl ?_
        refine Wv.iload dL_areDelivered_71 rfl ?_
        refine Wv.callH (As := [_, _]) (v := some _) k_L_deliveredOrder (tb6 (i := 186) rfl) ki_L_deliveredOrder dL_areDelivered_73 rfl rfl (Nat.le_of_ble_eq_true rfl) (Nat.le_of_ble_eq_true rfl) (n_deliveredOrder hN hI ha (s := v 45 i) rfl) ?_
        refine Wv.callH (As := [_, _]) (v := some _) k_L_filledOn (tb6 (i := 193) rfl) ki_L_filledOn dL_areDelivered_76 rfl rfl (Nat.le_of_ble_eq_true rfl) (Nat.le_of_ble_eq_true rfl) (n_filledOn hN hI hb (s := v 35 (v 45 i)) (by rw [if_pos d2.2, if_pos d3])) ?_
        refine Wv.aload_n (i := 0) dL_areDelivered_79 rfl rfl ?_
        refine Wv.aload_n (i := 0) dL_areDelivered_80 rfl rfl ?_
        refine Wv.iload dL_areDelivered_81 rfl ?_
        refine Wi.const dL_areDelivered_83 ?_
        refine Wi.sub dL_areDelivered_84 ?_
        refine Wv.callH (As := [_, _]) (v := some _) k_L_deliveredOrder (tb6 (i := 186) rfl) ki_L_deliveredOrder dL_areDelivered_85 rfl rfl (Nat.le_of_ble_eq_true rfl) (Nat.le_of_ble_eq_true rfl) (n_deliveredOrder hN hI ⟨by omega, by omega⟩ (s := v 45 (i - 1)) rfl) ?_
        refine Wv.callH (As := [_, _]) (v := some _) k_L_filledOn (tb6 (i := 193) rfl) ki_L_filledOn dL_areDelivered_88 rfl rfl (Nat.le_of_ble_eq_true rfl) (Nat.le_of_ble_eq_true rfl) (n_filledOn hN hI ⟨p2.1, by omega⟩ (s := v 35 (v 45 (i - 1))) (by rw [if_pos p2.2, if_pos p3])) ?_
        refine Wi.icmp_lt_f (tgt := 98) dL_areDelivered_91 (by decide) ⟨by omega, by omega⟩ ⟨by omega, by omega⟩ (by omega) ?_
        refine Wi.const dL_areDelivered_94 ?_
        refine Wv.goto (tgt := 99) dL_areDelivered_95 (by decide) ?_
        refine Wi.and1 dL_areDelivered_99 ?_
        refine Wv.istore dL_areDelivered_100 (by decide) rfl ?_
        refine Wi.inc dL_areDelivered_102 rfl (by decide) rfl ?_
        refine Wv.goto (tgt := 16) dL_areDelivered_105 (by decide) ?_
        refine next _ ?_ _ (by omega)
        exact ⟨rfl, rfl, rfl, rfl, rfl, rfl, rfl, trivial⟩
theorem a_areDelivered {X : Cx} {h : Nat} {v : Vw} {y x : Int} {n m : Nat} {un it : Nat} {u tk : Int → Int} {T E : Int} (hN : KN X) (hI : IM v T E) (hD : PD v) (hu : ∀ o, 0 ≤ o → o < v 6 0 → u o = osm v o) (h34 : ∀ o, v 6 0 ≤ o → v 34 o = 0) :
    Kl X h m_L_areDelivered 12 [va_rf (some h), va_rf (some un)] (v, (y, x), (n + 1, m + 20), Rz un it u tk) (.inl (some (.int (i32 1)))) (v, (y, x + 1100), (n, m), Rz un it u tk) := by
  have u9 : 0 ≤ v 9 0 ∧ v 9 0 ≤ 127 := hI.2 9 0
  refine Kl.of (by decide +kernel) rfl (Nat.le_of_ble_eq_true rfl) (by simp [Value.category, va_rf]) ?_
  refine Wv.bipush (v := i32 20) dL_areDelivered_0 (by decide) ?_
  refine Wv.newI (len := 20) (by decide) (tb6 (i := 210) rfl) dL_areDelivered_2 (fun a9 => ?_)
  refine Wv.drop (r := (a9, 20, 20, gsm v (v 9 0))) ?_
  refine Wv.astore_n (i := 2) dL_areDelivered_4 rfl (by decide) rfl ?_
  refine Wi.const dL_areDelivered_5 ?_
  refine Wv.istore_n (i := 3) dL_areDelivered_6 rfl (by decide) rfl ?_
  refine Wi.const dL_areDelivered_7 ?_
  refine Wv.istore dL_areDelivered_8 (by decide) rfl ?_
  refine Wi.const dL_areDelivered_10 ?_
  refine Wv.istore dL_areDelivered_11 (by decide) rfl ?_
  refine Wi.const dL_areDelivered_13 ?_
  refine Wv.istore dL_areDelivered_14 (by decide) rfl ?_
  have e0 : (fun _ => (0 : Int)) = gsm v 0 := rfl
  rw [e0]
  refine Wv.fgt (ls' := [some (va_rf (some h)), some (va_rf (some un)), some (va_rf (some a9)), some (.int (i32 0)), some (.int (i32 0)), some (.int (i32 1)), some (.int (i32 0)), none]) ⟨rfl, rfl, rfl, rfl, rfl, rfl, rfl, trivial⟩ ?_
  refine l_deliv1 hN hI hD (x + 1020) ?_ ((v 9 0).toNat + 1) 0 x (Int.le_refl 0) u9.1 (by omega) (by omega)
  refine Wi.const dL_areDelivered_108 ?_
  refine Wv.istore dL_areDelivered_109 (by decide) rfl ?_
  refine Wv.after (y := y) (x := x + 1020 + 2 * (20 - 0) + 1) (Int.le_refl _) (by omega) ?_
  refine Wv.fgt (ls' := [some (va_rf (some h)), some (va_rf (some un)), some (va_rf (some a9)), some (.int (i32 0)), some (.int (i32 (cN (ffF v) (0 : Int).toNat))), some (.int (i32 1)), some (.int (i32 0)), none]) ⟨rfl, rfl, rfl, rfl, rfl, rfl, rfl, trivial⟩ ?_
  exact l_deliv2 hN hI hD hu h34 21 0 (x + 1020) (Int.le_refl 0) (by omega) (by omega)
