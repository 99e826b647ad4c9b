/-! the orders: taken in, blended -/
def oA1 (c : Cs) (n d : Int) : Cs := g_X2_init (c.1 5) n d (cnew c 5)
def oA2 (c : Cs) (n d a u : Int) : Cs := g_X3_init ((oA1 c n d).1 6) a u (cnew (oA1 c n d) 6)
def oA3 (c : Cs) (n d a u : Int) : Cs := clst (oA2 c n d a u) (17 + c.1 5) ((oA2 c n d a u).2.2.1 (17 + c.1 5) ++ [(oA1 c n d).1 6])
def oA4 (c : Cs) (n d a u : Int) : Cs := clst (oA3 c n d a u) 5 ((oA3 c n d a u).2.2.1 5 ++ [c.1 5])
theorem oA4_l {c : Cs} {n d a u j : Int} (h1 : j ≠ 17 + c.1 5) (h2 : j ≠ 5) (h3 : j ≠ c.1 2) : (oA4 c n d a u).2.2.1 j = c.2.2.1 j := by simp [oA4, oA3, oA2, oA1, clst, g_X3_init, g_X2_init, cput, cnew, cnewl, h1, h2, h3]
theorem oA2_l {c : Cs} {n d a u : Int} (h : c.1 2 = 17 + c.1 5) : (oA2 c n d a u).2.2.1 (17 + c.1 5) = [] := by simp [oA2, oA1, g_X3_init, g_X2_init, cput, cnew, cnewl, h]
theorem oA3_5 {c : Cs} {n d a u : Int} (h : c.1 2 = 17 + c.1 5) (h0 : 0 ≤ c.1 5) : (oA3 c n d a u).2.2.1 5 = c.2.2.1 5 := by
  have h1 : ¬ (5 : Int) = 17 + c.1 5 := by omega
  simp [oA3, oA2, oA1, clst, g_X3_init, g_X2_init, cput, cnew, cnewl, h, h1]
theorem oA4_5 {c : Cs} {n d a u : Int} (h : c.1 2 = 17 + c.1 5) (h0 : 0 ≤ c.1 5) : (oA4 c n d a u).2.2.1 5 = c.2.2.1 5 ++ [c.1 5] := by
  refine (clst_eq (oA3 c n d a u) 5 _).trans ?_
  rw [oA3_5 h h0]
theorem oA4_p {c : Cs} {n d a u : Int} (h : c.1 2 = 17 + c.1 5) (h0 : 0 ≤ c.1 5) : (oA4 c n d a u).2.2.1 (17 + c.1 5) = [c.1 6] := by
  have h1 : ¬ 17 + c.1 5 = 5 := by omega
  refine (clst_ne (oA3 c n d a u) h1).trans ((clst_eq (oA2 c n d a u) (17 + c.1 5) _).trans ?_)
  rw [oA2_l h]
  rfl
theorem oA4_f5 {c : Cs} {n d a u o : Int} {k : Nat} (h : o ≠ c.1 5) : (oA4 c n d a u).2.1 5 k o = c.2.1 5 k o := by simp [oA4, oA3, oA2, oA1, clst, g_X3_init, g_X2_init, cput, cnew, cnewl, h]
theorem oA4_n5 {c : Cs} {n d a u : Int} : (oA4 c n d a u).2.1 5 0 (c.1 5) = n ∧ (oA4 c n d a u).2.1 5 1 (c.1 5) = d ∧ (oA4 c n d a u).2.1 5 2 (c.1 5) = c.1 2 ∧ (oA4 c n d a u).2.1 5 3 (c.1 5) = 111 := by simp [oA4, oA3, oA2, oA1, clst, g_X3_init, g_X2_init, cput, cnew, cnewl]
theorem oA4_f6 {c : Cs} {n d a u p : Int} {k : Nat} (h : p ≠ c.1 6) : (oA4 c n d a u).2.1 6 k p = c.2.1 6 k p := by simp [oA4, oA3, oA2, oA1, clst, g_X3_init, g_X2_init, cput, cnew, cnewl, h]
theorem oA4_n6 {c : Cs} {n d a u : Int} : (oA4 c n d a u).2.1 6 0 (c.1 6) = a ∧ (oA4 c n d a u).2.1 6 1 (c.1 6) = u := by simp [oA4, oA3, oA2, oA1, clst, g_X3_init, g_X2_init, cput, cnew, cnewl]
theorem oA4_c {c : Cs} {n d a u : Int} : (oA4 c n d a u).1 5 = c.1 5 + 1 ∧ (oA4 c n d a u).1 2 = c.1 2 + 1 ∧ (oA4 c n d a u).1 6 = c.1 6 + 1 := by simp [oA4, oA3, oA2, oA1, clst, g_X3_init, g_X2_init, cput, cnew, cnewl]
/-- the reference's numbers behind a new order -/
def oV (v : Vw) (a u d : Int) : Vw := upv (f_adds (v 6 0) a u (upv (upv (upv v 0 0 0) 32 (v 6 0) d) 34 (v 6 0) 111)) 6 0 (v 6 0 + 1)
theorem oV_fr {v : Vw} {a u d : Int} {k : Nat} (h : k ≠ 0 ∧ k ≠ 6 ∧ k ≠ 32 ∧ k ≠ 33 ∧ k ≠ 34 ∧ k ≠ 36 ∧ k ≠ 37) : oV v a u d k = v k := by
  funext i
  simp [oV, f_adds, upv, h.1, h.2.1, h.2.2.1, h.2.2.2.1, h.2.2.2.2.1, h.2.2.2.2.2.1, h.2.2.2.2.2.2]
theorem oV_o {v : Vw} {a u d o : Int} (h : o ≠ v 6 0) : oV v a u d 32 o = v 32 o ∧ oV v a u d 33 o = v 33 o ∧ oV v a u d 34 o = v 34 o := by simp [oV, f_adds, upv, h]
theorem oV_n {v : Vw} {a u d : Int} (h33 : v 33 (v 6 0) = 0) : oV v a u d 32 (v 6 0) = d ∧ oV v a u d 33 (v 6 0) = 1 ∧ oV v a u d 34 (v 6 0) = 111 ∧ oV v a u d 36 (4 * v 6 0) = a ∧ oV v a u d 37 (4 * v 6 0) = u := by simp [oV, f_adds, upv, h33]
theorem oV_p {v : Vw} {a u d i : Int} (h33 : v 33 (v 6 0) = 0) (h : i ≠ 4 * v 6 0) : oV v a u d 36 i = v 36 i ∧ oV v a u d 37 i = v 37 i := by simp [oV, f_adds, upv, h33, h]
theorem INV.order {c : Cs} {v : Vw} {T E a u d : Int} (hN : INV c v) (hI : IM v T E) (ha : 0 ≤ a ∧ a < v 1 0) (hu : 1 ≤ u) (hd : R32 d) (h20 : v 6 0 < 20) :
    ok_X10_insertByDue (c.1 5) (oA4 c (v 6 0) d a u) ∧ INV (g_X10_insertByDue (c.1 5) (oA4 c (v 6 0) d a u)) (oV v a u d) ∧ (g_X10_insertByDue (c.1 5) (oA4 c (v 6 0) d a u)).2.1 5 0 (c.1 5) = v 6 0 := by
  obtain ⟨⟨s0, s1, s2, s3, s4, s5, s6, s7, s8, s9, s10⟩, ⟨b1, b2, b3, b4, b5, b6⟩, ⟨i1, i2, i3, i4, i5, i6⟩, hJ⟩ := hN
  have u6 : 0 ≤ v 6 0 ∧ v 6 0 ≤ 20 := hI.2 6 0
  have hT := hI.1
  have e5 : c.1 5 = v 6 0 := s0.1.2.2.2.1
  have e2 : c.1 2 = 17 + c.1 5 := by have := s0.1.2.2.2.2.2; omega
  have h33 : v 33 (v 6 0) = 0 := (i6 _ (Int.le_refl _)).1
  have F : ∀ k, k ≠ 0 ∧ k ≠ 6 ∧ k ≠ 32 ∧ k ≠ 33 ∧ k ≠ 34 ∧ k ≠ 36 ∧ k ≠ 37 → oV v a u d k = v k := fun k h => oV_fr h
  have f6 : oV v a u d 6 0 = v 6 0 + 1 := upv_eq _ _ _ _
  have hL6 : (oA4 c (v 6 0) d a u).2.2.1 6 = due (oV v a u d) (v 6 0).toNat := by
    rw [oA4_l (by omega) (by decide) (by omega), due_lt (v := v) _ (fun i i0 i1 => (oV_o (by omega)).1)]
    exact s7
  obtain ⟨g1, g2⟩ := ins_due (c := oA4 c (v 6 0) d a u) (v := oV v a u d) (n := v 6 0) u6.1 u6.2 hL6 (fun o o0 o1 => by
    by_cases eo : o = v 6 0
    · subst eo
      have g := (oA4_n5 (c := c) (n := v 6 0) (d := d) (a := a) (u := u)).2.1
      rw [e5] at g
      rw [g, (oV_n h33).1]
      exact ⟨rfl, hd⟩
    · have u32 : 0 ≤ v 32 o ∧ v 32 o ≤ T + 99 := hI.2 32 o
      rw [oA4_f5 (by omega), (oV_o eo).1]
      exact ⟨(s6.2 o o0 (by omega)).1.2.1, by omega, by omega⟩)
  rw [e5, g2]
  refine ⟨g1, ⟨⟨?_, ?_, ?_, ?_, ?_, ?_, ?_, ?_, ?_, ?_, ?_⟩, ?_, ?_, ?_⟩, ?_⟩
  · obtain ⟨⟨q1, q2, q3, q4, q5, q6⟩, ⟨q7, q8, q9⟩, q10, q11⟩ := s0
    obtain ⟨c5, c2, c6⟩ := oA4_c (c := c) (n := v 6 0) (d := d) (a := a) (u := u)
    refine ⟨⟨?_, ?_, ?_, ?_, ?_, ?_⟩, ⟨?_, q8, q9⟩, ?_, ?_⟩
    · rw [F 1 (by decide)]; exact q1
    · rw [F 2 (by decide)]; exact q2
    · rw [F 5 (by decide)]; exact q3
    · rw [f6]
      show (oA4 c (v 6 0) d a u).1 5 = _
      omega
    · rw [F 9 (by decide)]; exact q5
    · rw [f6]
      show (oA4 c (v 6 0) d a u).1 2 = _
      omega
    · show 0 ≤ (oA4 c (v 6 0) d a u).1 6
      omega
    · rw [F 3 (by decide)]; exact q10
    · rw [F 8 (by decide)]; exact q11
  · exact s1.fr ((clst_ne _ (by decide)).trans (oA4_l (by omega) (by decide) (by omega))) rfl (F 1 (by decide)) (F 12 (by decide)) (F 13 (by decide)) (F 14 (by decide))
  · exact s2.fr ((clst_ne _ (by decide)).trans (oA4_l (by omega) (by decide) (by omega))) rfl (F 2 (by decide)) (F 15 (by decide)) (F 16 (by decide)) (F 17 (by decide)) (F 19 (by decide)) (F 20 (by decide))
  · exact s3.fr ((clst_ne _ (by decide)).trans (oA4_l (by omega) (by decide) (by omega))) rfl (F 5 (by decide)) (F 26 (by decide)) (F 27 (by decide)) (F 28 (by decide)) (F 29 (by decide)) (F 30 (by decide)) (F 31 (by decide))
  · exact s4.fr ((clst_ne _ (by decide)).trans (oA4_l (by omega) (by decide) (by omega))) (fun s _ _ => (clst_ne _ (by omega)).trans (oA4_l (by omega) (by omega) (by omega))) rfl rfl (Int.le_refl _) (F 4 (by decide)) (F 21 (by decide)) (F 22 (by decide)) (F 23 (by decide)) (F 24 (by decide)) (F 25 (by decide))
  · exact s5.fr ((clst_ne _ (by decide)).trans (oA4_l (by omega) (by decide) (by omega))) (F 7 (by decide)) (F 39 (by decide))
  · refine ⟨?_, fun o o0 o1 => ?_⟩
    · rw [f6, rng_succ u6.1, ← s6.1]
      refine (clst_ne _ (by decide)).trans ((oA4_5 e2 (by omega)).trans ?_)
      rw [e5]
    · rw [f6] at o1
      have hq : ∀ k o', (clst (oA4 c (v 6 0) d a u) 6 (due (oV v a u d) (v 6 0 + 1).toNat)).2.1 5 k o' = (oA4 c (v 6 0) d a u).2.1 5 k o' := fun _ _ => rfl
      have hq6 : ∀ k o', (clst (oA4 c (v 6 0) d a u) 6 (due (oV v a u d) (v 6 0 + 1).toNat)).2.1 6 k o' = (oA4 c (v 6 0) d a u).2.1 6 k o' := fun _ _ => rfl
      have hq1 : (clst (oA4 c (v 6 0) d a u) 6 (due (oV v a u d) (v 6 0 + 1).toNat)).1 6 = c.1 6 + 1 := (oA4_c (c := c) (n := v 6 0) (d := d) (a := a) (u := u)).2.2
      have n6 := s0.2.1.1
      by_cases eo : o = v 6 0
      · subst eo
        obtain ⟨t0, t1, t2, t3⟩ := oA4_n5 (c := c) (n := v 6 0) (d := d) (a := a) (u := u)
        have tp := oA4_p (c := c) (n := v 6 0) (d := d) (a := a) (u := u) e2 (by omega)
        rw [e5] at t0 t1 t2 t3 tp
        obtain ⟨w1, w2, w3, w4, w5⟩ := oV_n (v := v) (a := a) (u := u) (d := d) h33
        rw [clst_ne _ (by omega), tp]
        refine ⟨⟨t0, (hq _ _).trans (t1.trans w1.symm), ?_, (hq _ _).trans (t3.trans w3.symm), fun q => by rw [w3] at q; omega⟩, fun p hp => ?_, ?_⟩
        · rw [hq, t2]
          omega
        · rw [List.mem_singleton.mp hp, hq1]
          omega
        · rw [w2]
          obtain ⟨x1, x2⟩ := oA4_n6 (c := c) (n := v 6 0) (d := d) (a := a) (u := u)
          show [((oA4 c (v 6 0) d a u).2.1 6 0 (c.1 6), (oA4 c (v 6 0) d a u).2.1 6 1 (c.1 6))] = [(oV v a u d 36 (4 * v 6 0 + 0), oV v a u d 37 (4 * v 6 0 + 0))]
          rw [x1, x2, Int.add_zero, w4, w5]
      · obtain ⟨⟨t0, t1, t2, t3, t4⟩, t5, t6⟩ := s6.2 o o0 (by omega)
        obtain ⟨w1, w2, w3⟩ := oV_o (v := v) (a := a) (u := u) (d := d) eo
        have u33 : 0 ≤ v 33 o ∧ v 33 o ≤ 4 := hI.2 33 o
        rw [clst_ne _ (by omega), oA4_l (by omega) (by omega) (by omega), w1, w2, w3, F 35 (by decide)]
        have hf : ∀ k, (oA4 c (v 6 0) d a u).2.1 5 k o = c.2.1 5 k o := fun k => oA4_f5 (by omega)
        refine ⟨⟨(hf 0).trans t0, (hf 1).trans t1, (hf 2).trans t2, (hf 3).trans t3, fun q => (hf 4).trans (t4 q)⟩, fun p hp => ?_, ?_⟩
        · rw [hq1]
          have := t5 p hp
          omega
        · refine Eq.trans (List.map_congr_left (fun p hp => ?_)) (t6.trans (map_rng_congr (fun k k0 k1 => ?_)))
          · have := t5 p hp
            show ((oA4 c (v 6 0) d a u).2.1 6 0 p, (oA4 c (v 6 0) d a u).2.1 6 1 p) = _
            rw [oA4_f6 (by omega), oA4_f6 (by omega)]
          · have := oV_p (v := v) (a := a) (u := u) (d := d) (i := 4 * o + k) h33 (by omega)
            rw [this.1, this.2]
  · show (clst _ _ _).2.2.1 6 = _
    rw [clst_eq, f6]
  · exact s8.fr ((clst_ne _ (by decide)).trans (oA4_l (by omega) (by decide) (by omega))) rfl (F 9 (by decide)) (F 44 (by decide)) (F 45 (by decide)) (F 46 (by decide))
  · exact s9.fr ((clst_ne _ (by decide)).trans (oA4_l (by omega) (by decide) (by omega))) (F 2 (by decide)) (F 15 (by decide)) (F 18 (by decide)) (F 10 (by decide))
  · exact s10.fr ((clst_ne _ (by decide)).trans (oA4_l (by omega) (by decide) (by omega))) rfl rfl (F 2 (by decide)) (F 20 (by decide))
  · unfold VB
    simp only [dlu_fr (F 9 (by decide)) (F 44 (by decide)) (F 46 (by decide))]
    rw [F 1 (by decide), F 2 (by decide), F 4 (by decide), F 5 (by decide), F 9 (by decide), F 15 (by decide), F 16 (by decide), F 25 (by decide), F 26 (by decide), F 28 (by decide), F 29 (by decide), F 31 (by decide), F 44 (by decide), F 45 (by decide), f6]
    refine ⟨b1, b2, b3, fun o o0 o1 => ?_, fun e x0 x1 => ?_, b6⟩
    · by_cases eo : o = v 6 0
      · subst eo
        obtain ⟨w1, w2, w3, w4, w5⟩ := oV_n (v := v) (a := a) (u := u) (d := d) h33
        rw [w2, w3]
        refine ⟨⟨Int.le_refl 1, Or.inl rfl⟩, fun k k0 k1 => ?_⟩
        have ek : k = 0 := by omega
        subst ek
        rw [Int.add_zero, w4, w5]
        exact ⟨ha, hu⟩
      · obtain ⟨w1, w2, w3⟩ := oV_o (v := v) (a := a) (u := u) (d := d) eo
        have u33 : 0 ≤ v 33 o ∧ v 33 o ≤ 4 := hI.2 33 o
        rw [w2, w3]
        obtain ⟨t1, t2⟩ := b4 o o0 (by omega)
        refine ⟨t1, fun k k0 k1 => ?_⟩
        have := oV_p (v := v) (a := a) (u := u) (d := d) (i := 4 * o + k) h33 (by omega)
        rw [this.1, this.2]
        exact t2 k k0 k1
    · have := b5 e x0 x1
      exact ⟨this.1, this.2.1, by omega⟩
  · have ef : fl (oV v a u d) = fl v := by
      rw [fl_one (v := v) (b := v 6 0) ⟨u6.1, by omega⟩ (fun i hi => (oV_o hi).2.2)]
      unfold flF
      rw [(oV_n h33).2.2.1, (i6 _ (Int.le_refl _)).2, if_neg (show ¬ (111 : Int) = 102 by decide), if_neg (show ¬ (0 : Int) = 102 by decide)]
      omega
    unfold CI
    rw [ef, dl_congr (v := v) (fun i => congrFun (F 28 (by decide)) i), pq_congr (v := v) (fun i => congrFun (F 28 (by decide)) i), F 4 (by decide), F 5 (by decide), F 7 (by decide), F 9 (by decide), F 11 (by decide), F 28 (by decide), f6]
    refine ⟨i1, i2, i3, i4, i5, fun o ho => ?_⟩
    obtain ⟨w1, w2, w3⟩ := oV_o (v := v) (a := a) (u := u) (d := d) (o := o) (by omega)
    rw [w2, w3]
    exact i6 o (by omega)
  · exact CJ_fr (v := v) (fun k hk i => congrFun (F k (by omega)) i) hJ
  · have t0 := (oA4_n5 (c := c) (n := v 6 0) (d := d) (a := a) (u := u)).1
    rw [e5] at t0
    exact t0
theorem fc_order {c : Cs} {v : Vw} {T E a u d : Int} (hN : INV c v) (hI : IM v T E) (ha : R32 a) (hu : R32 u) (hd : R32 d) : ok_X10_order a u d c ∧ Ans (fun k => if k = 1 then xIOB else if k = 2 then xIAE else xISE) (g_X10_order a u d c) (f_order a u d v) ∧ INV (g_X10_order a u d c).2 (f_order a u d v).2 := by
  have hl := hN.1.l1 hI
  have hl5 := hN.1.l5 hI
  have u8 : 0 ≤ v 8 0 ∧ v 8 0 ≤ T := hI.2 8 0
  have u6 : 0 ≤ v 6 0 ∧ v 6 0 ≤ 20 := hI.2 6 0
  have hT := hI.1
  have h8 := hN.1.c0.2.2.2
  have e5 : c.1 5 = v 6 0 := hN.1.c0.1.2.2.2.1
  have e2 : c.1 2 = 17 + c.1 5 := by have := hN.1.c0.1.2.2.2.2.2; omega
  unfold ok_X10_order g_X10_order f_order
  by_cases h : 0 ≤ a ∧ a < v 1 0
  · have e : f_isRecipe a v = 1 := (c_isRecipe a v).elim (·.1) (fun q => absurd h q.2)
    have el := hN.1.e1 h.1 h.2
    simp only [hl, hl5, el, e, h8, if_pos h, if_neg ne10]
    have o1 : ok_X10_isOutside u 1 40 c := ok_out hu ⟨by decide, by decide⟩ ⟨by decide, by decide⟩
    have o2 : ok_X10_isOutside d (v 8 0) (v 8 0 + 99) c := ok_out hd ⟨by omega, by omega⟩ ⟨by omega, by omega⟩
    rcases outS u 1 40 c with ⟨x1, x2, x3, x4⟩ | ⟨x1, x2, x3⟩
    · rw [x1, x4]
      simp only [if_true, if_neg ne10]
      rcases outS d (v 8 0) (v 8 0 + 99) c with ⟨y1, y2, y3, y4⟩ | ⟨y1, y2, y3⟩
      · rw [y1]
        simp only [if_true, if_neg (show ¬ d < v 8 0 by omega), if_pos y3]
        by_cases c20 : v 6 0 < 20
        · simp only [if_pos c20, if_neg (show ¬ v 6 0 = 20 by omega)]
          obtain ⟨k1, k2, k3⟩ := hN.order hI (u := u) (d := d) h x2 hd c20
          refine ⟨⟨ok_rat hN.1 hI ha, o1, o2, ⟨?_, by omega⟩, ?_, ?_, k1, trivial⟩, Or.inl ⟨?_, ?_⟩, k2⟩
          · have : (g_X2_init (c.1 5) (v 6 0) d (cnew c 5)).2.1 5 2 (c.1 5) = c.1 2 := by simp [g_X2_init, cput, cnew]
            rw [this]
            exact e2
          · show (((oA2 c (v 6 0) d a u).2.2.1 (17 + c.1 5)).length : Int) ≤ 199
            rw [oA2_l e2]
            decide
          · show (((oA3 c (v 6 0) d a u).2.2.1 5).length : Int) ≤ 199
            rw [oA3_5 e2 (by omega)]
            omega
          · show oV v a u d 0 0 = 0
            simp [oV, f_adds, upv]
          · show (Sum.inl (some (0, (g_X10_insertByDue (c.1 5) (oA4 c (v 6 0) d a u)).2.1 5 0 (c.1 5))) : Rr) = Sum.inl (some (0, v 6 0 + 1 - 1))
            rw [k3, show v 6 0 + 1 - 1 = v 6 0 by omega]
        · simp only [if_neg c20, if_pos (show v 6 0 = 20 by omega)]
          exact ⟨⟨ok_rat hN.1 hI ha, o1, o2, trivial⟩, Or.inr ⟨by show (1 : Int) ≤ 3; omega, rfl⟩, hN.v0⟩
      · rw [y1]
        simp only [if_neg ne10]
        refine ⟨⟨ok_rat hN.1 hI ha, o1, o2, trivial⟩, ?_, ?_⟩
        · repeat' split
          all_goals first | exact Or.inr ⟨by show (1 : Int) ≤ 2; omega, rfl⟩ | omega
        · repeat' split
          all_goals first | exact hN.v0 | omega
    · rw [x1, x3]
      simp only [if_true, if_neg ne10]
      exact ⟨⟨ok_rat hN.1 hI ha, o1, trivial⟩, Or.inr ⟨by show (1 : Int) ≤ 2; omega, rfl⟩, hN.v0⟩
  · have e : f_isRecipe a v = 0 := (c_isRecipe a v).elim (fun q => absurd q.2 h) (·.1)
    simp only [hl, e, if_neg h, if_true]
    exact ⟨⟨ok_rat hN.1 hI ha, trivial⟩, Or.inr ⟨Int.le_refl 1, rfl⟩, hN.v0⟩
