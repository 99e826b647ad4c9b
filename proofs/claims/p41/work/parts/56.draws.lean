/-! orders filled: can it be, draws -/
theorem uo_lock {c : Cs} {v : Vw} {o r : Int} (hl : ((c.2.2.1 (17 + o)).length : Int) = v 33 o) (hp : ∀ j, 0 ≤ j → j < v 33 o → c.2.1 6 0 (lget (c.2.2.1 (17 + o)) j) = v 36 (4 * o + j) ∧ c.2.1 6 1 (lget (c.2.2.1 (17 + o)) j) = v 37 (4 * o + j)) (h2 : c.2.1 5 2 o = 17 + o) (ho : 0 ≤ o) (h33 : v 33 o ≤ 4) : ∀ (n m : Nat) (u i : Int), 0 ≤ i → i ≤ v 33 o → (v 33 o - i).toNat < n → (v 33 o - i).toNat < m → okl_X2_unitsOf_4 o r c n u i ∧ l_X2_unitsOf_4 o r c n u i = l_canFill_15 o r v m u i := by
  intro n
  induction n with
  | zero => exact fun _ _ _ _ _ h => absurd h (Nat.not_lt_zero _)
  | succ n ih =>
    intro m u i h0 h1 hn hm
    cases m with
    | zero => exact absurd hm (Nat.not_lt_zero _)
    | succ m =>
      rw [okl_X2_unitsOf_4, l_X2_unitsOf_4, l_canFill_15, hl]
      by_cases c1 : v 33 o ≤ i
      · rw [if_pos c1, if_pos c1, if_pos c1]
        exact ⟨⟨⟨h2, ho⟩, ⟨by omega, by omega⟩, trivial⟩, rfl⟩
      · obtain ⟨p1, p2⟩ := hp i h0 (by omega)
        rw [if_neg c1, if_neg c1, if_neg c1, p1, p2]
        by_cases c2 : v 36 (4 * o + i) = r
        · rw [if_pos c2, if_pos c2, if_pos c2]
          obtain ⟨j1, j2⟩ := ih m _ (i + 1) (by omega) (by omega) (by omega) (by omega)
          exact ⟨⟨⟨h2, ho⟩, ⟨by omega, by omega⟩, ⟨h0, by omega⟩, j1⟩, j2⟩
        · rw [if_neg c2, if_neg c2, if_neg c2]
          obtain ⟨j1, j2⟩ := ih m _ (i + 1) (by omega) (by omega) (by omega) (by omega)
          exact ⟨⟨⟨h2, ho⟩, ⟨by omega, by omega⟩, ⟨h0, by omega⟩, j1⟩, j2⟩
/-- what an order wants of a recipe -/
def wants (v : Vw) (o r : Int) : Int := l_canFill_15 o r v (((v 33 o) - 0).toNat + 1) 0 0
theorem wants_0 {v : Vw} {o r : Int} (h : ∀ k, 0 ≤ k → k < v 33 o → v 36 (4 * o + k) ≠ r) : ∀ (n : Nat) (u i : Int), 0 ≤ i → l_canFill_15 o r v n u i = u := by
  intro n
  induction n with
  | zero => exact fun _ _ _ => rfl
  | succ n ih =>
    intro u i h0
    rw [l_canFill_15]
    by_cases c1 : v 33 o ≤ i
    · rw [if_pos c1]
    · rw [if_neg c1, if_neg (h i h0 (by omega)), ih _ _ (by omega), Int.add_zero]
theorem cf_ref {v : Vw} {o : Int} : ∀ (n : Nat) (r : Int), (v 1 0 - r).toNat < n → (l_canFill_2 o v n r = 1 ∧ ∀ x, r ≤ x → x < v 1 0 → wants v o x ≤ f_stockOf x v) ∨ (l_canFill_2 o v n r = 0 ∧ ∃ x, r ≤ x ∧ x < v 1 0 ∧ ¬ wants v o x ≤ f_stockOf x v) := by
  intro n
  induction n with
  | zero => exact fun _ h => absurd h (Nat.not_lt_zero _)
  | succ n ih =>
    intro r hm
    rw [l_canFill_2]
    by_cases c1 : v 1 0 ≤ r
    · rw [if_pos c1]
      exact Or.inl ⟨rfl, fun x h1 h2 => by omega⟩
    · rw [if_neg c1]
      by_cases c2 : l_canFill_15 o r v (((v 33 o) - 0).toNat + 1) 0 0 ≤ f_stockOf r v
      · rw [if_pos c2]
        rcases ih (r + 1) (by omega) with ⟨g1, g2⟩ | ⟨g1, x, g2, g3, g4⟩
        · refine Or.inl ⟨g1, fun x h1 h2 => ?_⟩
          by_cases e : x = r
          · rw [e]
            exact c2
          · exact g2 x (by omega) h2
        · exact Or.inr ⟨g1, x, by omega, g3, g4⟩
      · rw [if_neg c2]
        exact Or.inr ⟨rfl, r, Int.le_refl _, by omega, c2⟩
theorem cf_cls {c : Cs} {v : Vw} {T E o : Int} (hS : Sm c v) (hB : VB v) (hI : IM v T E) (ho : 0 ≤ o ∧ o < v 6 0) : ∀ (n : Nat) (i : Int), 0 ≤ i → i ≤ v 33 o → (v 33 o - i).toNat < n → okl_X10_canFill_2 o c n i ∧ ((l_X10_canFill_2 o c n i = 1 ∧ ∀ k, i ≤ k → k < v 33 o → wants v o (v 36 (4 * o + k)) ≤ f_stockOf (v 36 (4 * o + k)) v) ∨ (l_X10_canFill_2 o c n i = 0 ∧ ∃ k, i ≤ k ∧ k < v 33 o ∧ ¬ wants v o (v 36 (4 * o + k)) ≤ f_stockOf (v 36 (4 * o + k)) v)) := by
  have u33 : 0 ≤ v 33 o ∧ v 33 o ≤ 4 := hI.2 33 o
  obtain ⟨hl, hp⟩ := parts hS hI ho.1 ho.2
  have h2 := (hS.co.2 o ho.1 ho.2).1.2.2.1
  intro n
  induction n with
  | zero => exact fun _ _ _ h => absurd h (Nat.not_lt_zero _)
  | succ n ih =>
    intro i h0 h1 hn
    rw [okl_X10_canFill_2, l_X10_canFill_2, hl]
    by_cases c1 : v 33 o ≤ i
    · rw [if_pos c1, if_pos c1]
      exact ⟨⟨⟨h2, ho.1⟩, ⟨by omega, by omega⟩, trivial⟩, Or.inl ⟨rfl, fun k k0 k1 => by omega⟩⟩
    · obtain ⟨p1, p2⟩ := hp i h0 (by omega)
      obtain ⟨w1, w2⟩ := uo_lock (r := v 36 (4 * o + i)) hl hp h2 ho.1 u33.2 fu (((v 33 o) - 0).toNat + 1) 0 0 (by omega) u33.1 (fuw (by omega)) (by omega)
      obtain ⟨y1, y2⟩ := ready_eq (r := v 36 (4 * o + i)) hS hB hI
      have b1 := r_l_canFill_15 (o := o) (r := v 36 (4 * o + i)) hI (((v 33 o) - 0).toNat + 1) 0 0 (by omega)
      have b2 := r_stockOf hI (v 36 (4 * o + i))
      have w2' : g_X2_unitsOf o (v 36 (4 * o + i)) c = wants v o (v 36 (4 * o + i)) := w2
      have b1' : 0 ≤ wants v o (v 36 (4 * o + i)) ∧ wants v o (v 36 (4 * o + i)) ≤ 0 + 40 * (((((v 33 o) - 0).toNat + 1 : Nat)) : Int) := b1
      rw [if_neg c1, if_neg c1, p1, w2', y2]
      obtain ⟨j1, j2⟩ := ih (i + 1) (by omega) (by omega) (by omega)
      by_cases c2 : wants v o (v 36 (4 * o + i)) ≤ f_stockOf (v 36 (4 * o + i)) v
      · rw [if_pos c2, if_pos c2]
        refine ⟨⟨⟨h2, ho.1⟩, ⟨by omega, by omega⟩, ⟨h0, by omega⟩, w1, y1, ⟨by omega, by omega⟩, ⟨by omega, by omega⟩, j1⟩, ?_⟩
        rcases j2 with ⟨g1, g2⟩ | ⟨g1, k, g2, g3, g4⟩
        · refine Or.inl ⟨g1, fun k k0 k1 => ?_⟩
          by_cases e : k = i
          · rw [e]
            exact c2
          · exact g2 k (by omega) k1
        · exact Or.inr ⟨g1, k, by omega, g3, g4⟩
      · rw [if_neg c2, if_neg c2]
        exact ⟨⟨⟨h2, ho.1⟩, ⟨by omega, by omega⟩, ⟨h0, by omega⟩, w1, y1, ⟨by omega, by omega⟩, ⟨by omega, by omega⟩, trivial⟩, Or.inr ⟨rfl, i, Int.le_refl _, by omega, c2⟩⟩
theorem canFill_eq {c : Cs} {v : Vw} {T E o : Int} (hS : Sm c v) (hB : VB v) (hI : IM v T E) (ho : 0 ≤ o ∧ o < v 6 0) : ok_X10_canFill o c ∧ g_X10_canFill o c = f_canFill o v := by
  have u33 : 0 ≤ v 33 o ∧ v 33 o ≤ 4 := hI.2 33 o
  have u1 : 0 ≤ v 1 0 ∧ v 1 0 ≤ 5 := hI.2 1 0
  obtain ⟨g1, g2⟩ := cf_cls hS hB hI ho fu 0 (by omega) u33.1 (fuw (by omega))
  have g3 := cf_ref (v := v) (o := o) (((v 1 0) - 0).toNat + 1) 0 (by omega)
  refine ⟨g1, ?_⟩
  show l_X10_canFill_2 o c fu 0 = l_canFill_2 o v (((v 1 0) - 0).toNat + 1) 0
  rcases g2 with ⟨a1, a2⟩ | ⟨a1, k, a2, a3, a4⟩
  · rcases g3 with ⟨b1, b2⟩ | ⟨b1, x, b2, b3, b4⟩
    · rw [a1, b1]
    · exfalso
      by_cases hx : ∃ k, 0 ≤ k ∧ k < v 33 o ∧ v 36 (4 * o + k) = x
      · obtain ⟨k, k0, k1, k2⟩ := hx
        rw [← k2] at b4
        exact b4 (a2 k k0 k1)
      · have e : wants v o x = 0 := wants_0 (fun k k0 k1 e => hx ⟨k, k0, k1, e⟩) _ 0 0 (by omega)
        have := r_stockOf hI x
        omega
  · rcases g3 with ⟨b1, b2⟩ | ⟨b1, x, b2, b3, b4⟩
    · have u36 := ((hB.2.2.2.1 o ho.1 ho.2).2 k a2 a3).1
      exact absurd (b2 _ u36.1 u36.2) a4
    · rw [a1, b1]
def dwC (c : Cs) (b o y now : Int) : Cs := clst (g_X1_init (c.1 4) b o now (cnew (cput c 3 5 b y) 4)) 7 (c.2.2.1 7 ++ [c.1 4])
def dwV (v : Vw) (b o y now : Int) : Vw := upv (upv (upv (upv (upv v 31 b y) 44 (v 9 0) b) 45 (v 9 0) o) 46 (v 9 0) now) 9 0 (v 9 0 + 1)
theorem dwV_fr {v : Vw} {b o y now : Int} {k : Nat} (h : k ≠ 9 ∧ k ≠ 31 ∧ k ≠ 44 ∧ k ≠ 45 ∧ k ≠ 46) : dwV v b o y now k = v k := by
  funext i
  unfold dwV
  rw [upv_nk h.1, upv_nk h.2.2.2.2, upv_nk h.2.2.2.1, upv_nk h.2.2.1, upv_nk h.2.1]
theorem dwV_n {v : Vw} {b o y now : Int} : dwV v b o y now 44 (v 9 0) = b ∧ dwV v b o y now 45 (v 9 0) = o ∧ dwV v b o y now 46 (v 9 0) = now ∧ dwV v b o y now 9 0 = v 9 0 + 1 ∧ dwV v b o y now 31 b = y := by simp [dwV, upv]
theorem dwV_o {v : Vw} {b o y now e : Int} (h : e ≠ v 9 0) : dwV v b o y now 44 e = v 44 e ∧ dwV v b o y now 45 e = v 45 e ∧ dwV v b o y now 46 e = v 46 e := by simp [dwV, upv, h]
theorem dwV_b {v : Vw} {b o y now x : Int} (h : x ≠ b) : dwV v b o y now 31 x = v 31 x := by simp [dwV, upv, h]
theorem Sm.dw {c : Cs} {v : Vw} {b o y now : Int} (hS : Sm c v) (h0 : 0 ≤ b) (h5 : b < v 5 0) (h28 : v 28 b = 3) (h9 : 0 ≤ v 9 0) : Sm (dwC c b o y now) (dwV v b o y now) := by
  obtain ⟨s0, s1, s2, s3, s4, s5, s6, s7, s8, s9, s10⟩ := hS
  have F : ∀ k, k ≠ 9 ∧ k ≠ 31 ∧ k ≠ 44 ∧ k ≠ 45 ∧ k ≠ 46 → dwV v b o y now k = v k := fun k h => dwV_fr h
  have e4 : c.1 4 = v 9 0 := s0.1.2.2.2.2.1
  obtain ⟨n44, n45, n46, n9, n31⟩ := dwV_n (v := v) (b := b) (o := o) (y := y) (now := now)
  have l7 : (dwC c b o y now).2.2.1 7 = c.2.2.1 7 ++ [c.1 4] := clst_eq _ 7 _
  have lo : ∀ j, ¬ j = 7 → (dwC c b o y now).2.2.1 j = c.2.2.1 j := fun j hj => clst_ne (g_X1_init (c.1 4) b o now (cnew (cput c 3 5 b y) 4)) hj
  refine ⟨?_, ?_, ?_, ?_, ?_, ?_, ?_, ?_, ?_, ?_, ?_⟩
  · obtain ⟨⟨q1, q2, q3, q4, q5, q6⟩, q7, q10, q11⟩ := s0
    refine ⟨⟨?_, ?_, ?_, ?_, ?_, ?_⟩, q7, ?_, ?_⟩
    · rw [F 1 (by decide)]; exact q1
    · rw [F 2 (by decide)]; exact q2
    · rw [F 5 (by decide)]; exact q3
    · rw [F 6 (by decide)]; exact q4
    · rw [n9]
      show c.1 4 + 1 = _
      omega
    · rw [F 6 (by decide)]; exact q6
    · rw [F 3 (by decide)]; exact q10
    · rw [F 8 (by decide)]; exact q11
  · exact s1.fr (lo _ (by decide)) rfl (F 1 (by decide)) (F 12 (by decide)) (F 13 (by decide)) (F 14 (by decide))
  · exact s2.fr (lo _ (by decide)) rfl (F 2 (by decide)) (F 15 (by decide)) (F 16 (by decide)) (F 17 (by decide)) (F 19 (by decide)) (F 20 (by decide))
  · refine s3.one (b := b) (lo _ (by decide)) (fun k x hx => cput_i c hx) (F 5 (by decide)) (fun k hk x hx => ?_) (fun _ _ => ?_)
    · by_cases e : k = 31
      · rw [e]
        exact dwV_b hx
      · exact congrFun (F k (by omega)) x
    · obtain ⟨q0, q1, q2, q3, q4, q5, q6⟩ := s3.2 b h0 h5
      rw [F 26 (by decide), F 27 (by decide), F 28 (by decide), F 29 (by decide), F 30 (by decide), n31]
      exact ⟨q0, q1, q2, q3, q4, fun _ => cput_eq _ _ _ _ _, q6⟩
  · exact s4.fr (lo _ (by decide)) (fun s _ _ => lo _ (by omega)) rfl rfl (Int.le_refl _) (F 4 (by decide)) (F 21 (by decide)) (F 22 (by decide)) (F 23 (by decide)) (F 24 (by decide)) (F 25 (by decide))
  · exact s5.fr (lo _ (by decide)) (F 7 (by decide)) (F 39 (by decide))
  · exact s6.fr (lo _ (by decide)) (fun o _ _ => lo _ (by omega)) rfl rfl (Int.le_refl _) (F 6 (by decide)) (F 32 (by decide)) (F 33 (by decide)) (F 34 (by decide)) (F 35 (by decide)) (F 36 (by decide)) (F 37 (by decide))
  · exact s7.fr (lo _ (by decide)) (F 6 (by decide)) (F 32 (by decide))
  · refine ⟨by rw [l7, n9, rng_succ h9, s8.1, e4], fun e x0 x1 => ?_⟩
    rw [n9] at x1
    by_cases ee : e = v 9 0
    · subst ee
      rw [n44, n45, n46]
      have g : (dwC c b o y now).2.1 4 0 (c.1 4) = b ∧ (dwC c b o y now).2.1 4 1 (c.1 4) = o ∧ (dwC c b o y now).2.1 4 2 (c.1 4) = now := by simp [dwC, clst, g_X1_init, cput]
      rw [e4] at g
      exact g
    · obtain ⟨g1, g2, g3⟩ := dwV_o (v := v) (b := b) (o := o) (y := y) (now := now) ee
      have ee' : ¬ e = c.1 4 := by omega
      have g : ∀ k, (dwC c b o y now).2.1 4 k e = c.2.1 4 k e := fun k => by simp [dwC, clst, g_X1_init, cput, cnew, ee']
      rw [g, g, g, g1, g2, g3]
      exact s8.2 e x0 (by omega)
  · exact s9.fr (lo _ (by decide)) (F 2 (by decide)) (F 15 (by decide)) (F 18 (by decide)) (F 10 (by decide))
  · exact s10.fr (lo _ (by decide)) rfl rfl (F 2 (by decide)) (F 20 (by decide))
theorem VB.dw {v : Vw} {b o now : Int} (hB : VB v) (h0 : 0 ≤ b) (h5 : b < v 5 0) (h28 : v 28 b = 3) (h9 : 0 ≤ v 9 0) (ho : 0 ≤ o ∧ o < v 6 0) : VB (dwV v b o (v 31 b - now) now) := by
  obtain ⟨b1, b2, b3, b4, b5, b6⟩ := hB
  have F : ∀ k, k ≠ 9 ∧ k ≠ 31 ∧ k ≠ 44 ∧ k ≠ 45 ∧ k ≠ 46 → dwV v b o (v 31 b - now) now k = v k := fun k h => dwV_fr h
  obtain ⟨n44, n45, n46, n9, n31⟩ := dwV_n (v := v) (b := b) (o := o) (y := v 31 b - now) (now := now)
  have hd : ∀ x, dlu (dwV v b o (v 31 b - now) now) x = dlu v x + (if b = x then now else 0) := fun x => by
    unfold dlu
    rw [n9, show (v 9 0 + 1).toNat = (v 9 0).toNat + 1 by omega]
    show sI _ (v 9 0).toNat + (if dwV v b o (v 31 b - now) now 44 (((v 9 0).toNat : Nat) : Int) = x then dwV v b o (v 31 b - now) now 46 (((v 9 0).toNat : Nat) : Int) else 0) = _
    rw [Int.toNat_of_nonneg h9, n44, n46, sI_congr (g := fun e => if v 44 e = x then v 46 e else 0) _ (fun e e0 e1 => by
      obtain ⟨g1, g2, g3⟩ := dwV_o (v := v) (b := b) (o := o) (y := v 31 b - now) (now := now) (e := e) (by omega)
      show (if dwV v b o (v 31 b - now) now 44 e = x then dwV v b o (v 31 b - now) now 46 e else 0) = _
      rw [g1, g3])]
  unfold VB
  rw [F 1 (by decide), F 2 (by decide), F 4 (by decide), F 5 (by decide), F 6 (by decide), F 15 (by decide), F 16 (by decide), F 25 (by decide), F 26 (by decide), F 28 (by decide), F 29 (by decide), F 33 (by decide), F 34 (by decide), F 36 (by decide), F 37 (by decide), n9]
  refine ⟨b1, b2, b3, b4, fun e e0 e1 => ?_, fun x x0 x5 => ?_⟩
  · by_cases ee : e = v 9 0
    · subst ee
      rw [n44, n45]
      exact ⟨⟨h0, h5⟩, ho⟩
    · obtain ⟨g1, g2, g3⟩ := dwV_o (v := v) (b := b) (o := o) (y := v 31 b - now) (now := now) ee
      rw [g1, g2]
      exact b5 e e0 (by omega)
  · rw [hd x]
    have := b6 x x0 x5
    by_cases ex : x = b
    · subst ex
      rw [n31, if_pos rfl, this, h28, if_pos rfl, if_pos rfl]
      omega
    · rw [if_neg (fun q => ex q.symm), dwV_b ex, this]
      omega
def exC (c : Cs) (b w : Int) : Cs := clst (cput (cput (cput (cput c 3 3 b 120) 3 6 b (-1)) 11 5 w (-1)) 11 2 w 100) 8 (c.2.2.1 8 ++ [w])
def exV (v : Vw) (b : Int) : Vw := f_dirties (v 29 b) (upv v 28 b 4)
theorem exV_fr {v : Vw} {b : Int} {k : Nat} (h : k ≠ 10 ∧ k ≠ 15 ∧ k ≠ 18 ∧ k ≠ 28) : exV v b k = v k := by
  funext i
  unfold exV f_dirties
  rw [upv_nk h.1, upv_nk h.2.2.1, upv_nk h.2.1, upv_nk h.2.2.2]
theorem exV_v {v : Vw} {b : Int} : (∀ x, exV v b 15 x = if x = v 29 b then 2 else v 15 x) ∧ (∀ x, exV v b 18 x = if x = v 29 b then v 10 0 else v 18 x) ∧ exV v b 10 0 = v 10 0 + 1 ∧ ∀ x, exV v b 28 x = if x = b then 4 else v 28 x := by
  refine ⟨fun x => ?_, fun x => ?_, ?_, fun x => ?_⟩ <;> simp [exV, f_dirties, upv]
theorem Sm.ex {c : Cs} {v : Vw} {b : Int} (hS : Sm c v) (hB : VB v) (h0 : 0 ≤ b) (h5 : b < v 5 0) (h28 : v 28 b = 3) : Sm (exC c b (v 29 b)) (exV v b) := by
  obtain ⟨s0, s1, s2, s3, s4, s5, s6, s7, s8, s9, s10⟩ := hS
  have F : ∀ k, k ≠ 10 ∧ k ≠ 15 ∧ k ≠ 18 ∧ k ≠ 28 → exV v b k = v k := fun k h => exV_fr h
  obtain ⟨x15, x18, x10, x28⟩ := exV_v (v := v) (b := b)
  obtain ⟨⟨w0, w2⟩, w15, w16⟩ := (hB.1 b h0 h5).2 (by omega)
  refine ⟨?_, ?_, ?_, ?_, ?_, ?_, ?_, ?_, ?_, ?_, ?_⟩
  · exact s0.fr rfl rfl rfl rfl rfl rfl (Int.le_refl _) (Int.le_refl _) rfl rfl rfl (by rw [F 1 (by decide)]) (by rw [F 2 (by decide)]) (by rw [F 3 (by decide)]) (by rw [F 5 (by decide)]) (by rw [F 6 (by decide)]) (by rw [F 8 (by decide)]) (by rw [F 9 (by decide)]) (by rw [F 4 (by decide)]; exact Int.le_of_eq ((Int.sub_self _).trans (Int.sub_self _).symm))
  · exact s1.fr rfl rfl (F 1 (by decide)) (F 12 (by decide)) (F 13 (by decide)) (F 14 (by decide))
  · refine s2.one (w := v 29 b) rfl (fun k x hx => (cput_i _ hx).trans (cput_i _ hx)) (F 2 (by decide)) (fun k hk x hx => ?_) (fun _ _ => ?_)
    · by_cases e : k = 15
      · rw [e, x15, if_neg hx]
      · exact congrFun (F k (by omega)) x
    · obtain ⟨q0, q1, q2, q3, q4, q5⟩ := s2.2 _ w0 w2
      rw [x15, if_pos rfl, F 20 (by decide), F 17 (by decide), F 19 (by decide)]
      have z : (exC c b (v 29 b)).2.1 11 5 (v 29 b) = -1 := by simp [exC, cput, clst]
      exact ⟨q0, q1, cput_eq _ _ _ _ _, fun q => by omega, q4, z⟩
  · refine s3.one (b := b) rfl (fun k x hx => (cput_i _ hx).trans (cput_i _ hx)) (F 5 (by decide)) (fun k hk x hx => ?_) (fun _ _ => ?_)
    · by_cases e : k = 28
      · rw [e, x28, if_neg hx]
      · exact congrFun (F k (by omega)) x
    · obtain ⟨q0, q1, q2, q3, q4, q5, q6⟩ := s3.2 b h0 h5
      rw [x28, if_pos rfl, F 26 (by decide), F 27 (by decide)]
      have z : (exC c b (v 29 b)).2.1 3 3 b = 120 ∧ (exC c b (v 29 b)).2.1 3 6 b = -1 := by simp [exC, cput, clst]
      exact ⟨q0, q1, q2, z.1, fun q => by omega, fun q => by omega, z.2⟩
  · exact s4.fr rfl (fun s _ _ => clst_ne _ (by omega)) rfl rfl (Int.le_refl _) (F 4 (by decide)) (F 21 (by decide)) (F 22 (by decide)) (F 23 (by decide)) (F 24 (by decide)) (F 25 (by decide))
  · exact s5.fr rfl (F 7 (by decide)) (F 39 (by decide))
  · exact s6.fr rfl (fun o _ _ => clst_ne _ (by omega)) rfl rfl (Int.le_refl _) (F 6 (by decide)) (F 32 (by decide)) (F 33 (by decide)) (F 34 (by decide)) (F 35 (by decide)) (F 36 (by decide)) (F 37 (by decide))
  · exact s7.fr rfl (F 6 (by decide)) (F 32 (by decide))
  · exact s8.fr rfl rfl (F 9 (by decide)) (F 44 (by decide)) (F 45 (by decide)) (F 46 (by decide))
  · refine s9.dirty (w := v 29 b) ⟨w0, w2⟩ (by rw [w15]; decide) (clst_eq _ _ _) (F 2 (by decide)) (by rw [x15, if_pos rfl]) (fun x hx => by rw [x15, if_neg hx]) (by rw [x18, if_pos rfl]) (fun x hx => by rw [x18, if_neg hx]) x10
  · exact s10.fr rfl rfl rfl (F 2 (by decide)) (F 20 (by decide))
theorem VB.ex {v : Vw} {b : Int} (hB : VB v) (h0 : 0 ≤ b) (h5 : b < v 5 0) (h28 : v 28 b = 3) (h31 : v 31 b = 0) : VB (exV v b) := by
  obtain ⟨b1, b2, b3, b4, b5, b6⟩ := hB
  have F : ∀ k, k ≠ 10 ∧ k ≠ 15 ∧ k ≠ 18 ∧ k ≠ 28 → exV v b k = v k := fun k h => exV_fr h
  obtain ⟨x15, x18, x10, x28⟩ := exV_v (v := v) (b := b)
  obtain ⟨⟨w0, w2⟩, w15, w16⟩ := (b1 b h0 h5).2 (by omega)
  unfold VB
  simp only [dlu_fr (F 9 (by decide)) (F 44 (by decide)) (F 46 (by decide))]
  rw [F 1 (by decide), F 2 (by decide), F 4 (by decide), F 5 (by decide), F 6 (by decide), F 9 (by decide), F 16 (by decide), F 25 (by decide), F 26 (by decide), F 29 (by decide), F 31 (by decide), F 33 (by decide), F 34 (by decide), F 36 (by decide), F 37 (by decide), F 44 (by decide), F 45 (by decide)]
  refine ⟨fun x x0 x5 => ⟨(b1 x x0 x5).1, fun q => ?_⟩, fun x x0 x1 q => ?_, ⟨fun x hx => ?_, b3.2⟩, b4, b5, fun x x0 x5 => ?_⟩
  · rw [x28] at q
    by_cases ex : x = b
    · rw [if_pos ex] at q
      exact absurd rfl q
    · rw [if_neg ex] at q
      obtain ⟨y1, y2, y3⟩ := (b1 x x0 x5).2 q
      have n2 : ¬ v 29 x = v 29 b := fun e => by rw [e, w16] at y3; exact ex y3.symm
      rw [x15, if_neg n2]
      exact ⟨y1, y2, y3⟩
  · rw [x15] at q
    by_cases ew : x = v 29 b
    · rw [if_pos ew] at q
      omega
    · rw [if_neg ew] at q
      exact b2 x x0 x1 q
  · rw [x15, if_neg (by omega)]
    exact b3.1 x hx
  · have := b6 x x0 x5
    rw [x28]
    by_cases ex : x = b
    · rw [if_pos ex, this, ex, h28, h31]
      rfl
    · rw [if_neg ex]
      exact this
