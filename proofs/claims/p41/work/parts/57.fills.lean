/-! a day passes: orders are filled -/
def Rg (v : Vw) : Prop := ((∀ b, 0 ≤ v 31 b ∧ v 31 b ≤ 20) ∧ (∀ b, 0 ≤ v 28 b ∧ v 28 b ≤ 4)) ∧ (0 ≤ v 5 0 ∧ v 5 0 ≤ 30) ∧ (0 ≤ v 2 0 ∧ v 2 0 ≤ 8)
theorem IM.rg {v : Vw} {T E : Int} (h : IM v T E) : Rg v := ⟨⟨fun b => h.2 31 b, fun b => h.2 28 b⟩, h.2 5 0, h.2 2 0⟩
theorem dirty_len8 {c : Cs} {v : Vw} (h : SD c v) (h2 : v 2 0 ≤ 8) : (c.2.2.1 8).length ≤ 8 := by
  refine nodup_len _ 8 (h.2.2.imp (fun hab e => by rw [e] at hab; omega)) (fun x hx => ?_)
  have := (h.1 x).mp hx
  omega
theorem Rg.dw {v : Vw} {b o y now : Int} (h : Rg v) (hy : 0 ≤ y ∧ y ≤ 20) : Rg (dwV v b o y now) := by
  obtain ⟨⟨h1, h2⟩, h3, h4⟩ := h
  have F : ∀ k, k ≠ 9 ∧ k ≠ 31 ∧ k ≠ 44 ∧ k ≠ 45 ∧ k ≠ 46 → dwV v b o y now k = v k := fun k h => dwV_fr h
  unfold Rg
  rw [F 28 (by decide), F 5 (by decide), F 2 (by decide)]
  refine ⟨⟨fun x => ?_, h2⟩, h3, h4⟩
  by_cases e : x = b
  · rw [e, dwV_n.2.2.2.2]
    exact hy
  · rw [dwV_b e]
    exact h1 x
theorem Rg.ex {v : Vw} {b : Int} (h : Rg v) : Rg (exV v b) := by
  obtain ⟨⟨h1, h2⟩, h3, h4⟩ := h
  have F : ∀ k, k ≠ 10 ∧ k ≠ 15 ∧ k ≠ 18 ∧ k ≠ 28 → exV v b k = v k := fun k h => exV_fr h
  unfold Rg
  rw [F 31 (by decide), F 5 (by decide), F 2 (by decide)]
  refine ⟨⟨h1, fun x => ?_⟩, h3, h4⟩
  rw [exV_v.2.2.2]
  split
  · omega
  · exact h2 x
theorem draw_lock {o p r : Int} : ∀ (n m : Nat) (u i : Int) (c : Cs) (v : Vw), Sm c v → VB v → Rg v → c.2.1 6 0 p = r → (0 ≤ o ∧ o < v 6 0) → 0 ≤ i → i ≤ v 5 0 → (-40 ≤ u ∧ u ≤ 40) → (0 ≤ v 9 0 ∧ v 9 0 + (v 5 0 - i) ≤ 190) → (v 5 0 - i).toNat < n → (v 5 0 - i).toNat < m →
    okl_X10_draw_8 o p n u i c ∧ Sm (l_X10_draw_8 o p n u i c) (l_draws_6 o r m u i v) ∧ VB (l_draws_6 o r m u i v) := by
  intro n
  induction n with
  | zero => exact fun _ _ _ _ _ _ _ _ _ _ _ _ _ _ h => absurd h (Nat.not_lt_zero _)
  | succ n ih =>
    intro m u i c v hS hB hR hp ho h0 h1 hu h9 hn hm
    cases m with
    | zero => exact absurd hm (Nat.not_lt_zero _)
    | succ m =>
      have u5 := hR.2.1
      have hl : ((c.2.2.1 3).length : Int) = v 5 0 := by rw [hS.cb.1]; exact rng_len u5.1
      have hl7 : ((c.2.2.1 7).length : Int) = v 9 0 := by rw [hS.ce.1]; exact rng_len h9.1
      rw [okl_X10_draw_8, l_X10_draw_8, l_draws_6, hl]
      by_cases c1 : v 5 0 ≤ i
      · rw [if_pos c1, if_pos c1, if_pos c1]
        exact ⟨⟨⟨by omega, by omega⟩, trivial⟩, hS, hB⟩
      rw [if_neg c1, if_neg c1, if_neg c1]
      by_cases c2 : u ≤ 0
      · rw [if_pos c2, if_pos c2, if_pos c2]
        exact ⟨⟨⟨by omega, by omega⟩, ⟨by omega, by omega⟩, trivial⟩, hS, hB⟩
      rw [if_neg c2, if_neg c2, if_neg c2, hS.e3 h0 (by omega), hp]
      obtain ⟨q0, q1, q2, q3, q4, q5, q6⟩ := hS.cb.2 i h0 (by omega)
      have u28 := hR.1.2 i
      have u31 := hR.1.1 i
      have r3 := phc_r (v 28 i)
      have u26 := (hB.1 i h0 (by omega)).1
      have okh : ok_X0_holds i r c := by
        unfold ok_X0_holds
        rw [q3, q1]
        refine ⟨⟨by omega, by omega⟩, ?_⟩
        split
        · exact ⟨by omega, trivial⟩
        · exact trivial
      have gh : g_X0_holds i r c = if v 28 i = 3 ∧ v 26 i = r then 1 else 0 := by
        unfold g_X0_holds
        rw [q3, q1]
        by_cases c3 : v 28 i = 3
        · rw [if_pos (phc_3.mpr c3)]
          by_cases c4 : v 26 i = r
          · rw [if_pos c4, if_pos ⟨c3, c4⟩]
          · rw [if_neg c4, if_neg (fun g => c4 g.2)]
        · rw [if_neg (fun g => c3 (phc_3.mp g)), if_neg (fun g => c3 g.1)]
      rw [gh]
      by_cases c3 : ¬ v 28 i = 3
      · rw [if_neg (fun g : v 28 i = 3 ∧ v 26 i = r => c3 g.1), if_pos rfl, if_pos rfl, if_neg c3]
        obtain ⟨j1, j2⟩ := ih m u (i + 1) c v hS hB hR hp ho (by omega) (by omega) hu (by omega) (by omega) (by omega)
        exact ⟨⟨⟨by omega, by omega⟩, ⟨by omega, by omega⟩, ⟨h0, by omega⟩, okh, j1⟩, j2⟩
      have c3 := Decidable.not_not.mp c3
      by_cases c4 : ¬ v 26 i = r
      · rw [if_neg (fun g : v 28 i = 3 ∧ v 26 i = r => c4 g.2), if_pos rfl, if_pos rfl, if_pos c3, if_neg c4]
        obtain ⟨j1, j2⟩ := ih m u (i + 1) c v hS hB hR hp ho (by omega) (by omega) hu (by omega) (by omega) (by omega)
        exact ⟨⟨⟨by omega, by omega⟩, ⟨by omega, by omega⟩, ⟨h0, by omega⟩, okh, j1⟩, j2⟩
      have c4 := Decidable.not_not.mp c4
      rw [if_pos (show v 28 i = 3 ∧ v 26 i = r from ⟨c3, c4⟩), if_neg ne10, if_neg ne10, if_pos c3, if_pos c4, q5 c3]
      -- what is drawn
      have key : ∀ now : Int, (1 ≤ now ∨ now = v 31 i) → now ≤ v 31 i → 0 ≤ now → now ≤ u →
          (R32 (v 31 i) ∧ (((dwC c i o (v 31 i - now) now).2.2.1 7).length : Int) ≤ 199 + 1 ∧ ((v 31 i - now = 0 → ok_X10_leaveVessel i (cput (dwC c i o (v 31 i - now) now) 3 3 i 120) ∧ okl_X10_draw_8 o p n (u - now) (i + 1) (g_X10_leaveVessel i (cput (dwC c i o (v 31 i - now) now) 3 3 i 120)) ∧ Sm (l_X10_draw_8 o p n (u - now) (i + 1) (g_X10_leaveVessel i (cput (dwC c i o (v 31 i - now) now) 3 3 i 120))) (l_draws_6 o r m (u - now) (i + 1) (exV (dwV v i o (v 31 i - now) now) i)) ∧ VB (l_draws_6 o r m (u - now) (i + 1) (exV (dwV v i o (v 31 i - now) now) i))) ∧ (¬ v 31 i - now = 0 → okl_X10_draw_8 o p n (u - now) (i + 1) (dwC c i o (v 31 i - now) now) ∧ Sm (l_X10_draw_8 o p n (u - now) (i + 1) (dwC c i o (v 31 i - now) now)) (l_draws_6 o r m (u - now) (i + 1) (dwV v i o (v 31 i - now) now)) ∧ VB (l_draws_6 o r m (u - now) (i + 1) (dwV v i o (v 31 i - now) now))))) := fun now k1 k2 k3 k4 => by
        have F : ∀ k, k ≠ 9 ∧ k ≠ 31 ∧ k ≠ 44 ∧ k ≠ 45 ∧ k ≠ 46 → dwV v i o (v 31 i - now) now k = v k := fun k h => dwV_fr h
        have S1 := hS.dw (o := o) (y := v 31 i - now) (now := now) h0 (by omega) c3 h9.1
        have B1 := hB.dw (o := o) (now := now) h0 (by omega) c3 h9.1 ho
        have R1 : Rg (dwV v i o (v 31 i - now) now) := hR.dw ⟨by omega, by omega⟩
        have n9 : dwV v i o (v 31 i - now) now 9 0 = v 9 0 + 1 := dwV_n.2.2.2.1
        have n31 : dwV v i o (v 31 i - now) now 31 i = v 31 i - now := dwV_n.2.2.2.2
        have l7 : (dwC c i o (v 31 i - now) now).2.2.1 7 = c.2.2.1 7 ++ [c.1 4] := clst_eq _ 7 _
        refine ⟨⟨by omega, by omega⟩, ?_, fun cz => ?_, fun cz => ?_⟩
        · rw [l7, List.length_append]
          show (((c.2.2.1 7).length + 1 : Nat) : Int) ≤ 200
          omega
        · have c28 : dwV v i o (v 31 i - now) now 28 i = 3 := by rw [F 28 (by decide)]; exact c3
          have S2 := S1.ex B1 h0 (by rw [F 5 (by decide)]; omega) c28
          have B2 := B1.ex h0 (by rw [F 5 (by decide)]; omega) c28 (by rw [n31]; exact cz)
          have e29 : dwV v i o (v 31 i - now) now 29 i = v 29 i := by rw [F 29 (by decide)]
          obtain ⟨⟨w0, w2⟩, w15, w16⟩ := (hB.1 i h0 (by omega)).2 (by omega)
          have e6 : (cput (dwC c i o (v 31 i - now) now) 3 3 i 120).2.1 3 6 i = v 29 i := by
            have : (cput (dwC c i o (v 31 i - now) now) 3 3 i 120).2.1 3 6 i = c.2.1 3 6 i := by simp [dwC, clst, g_X1_init, cput, cnew]
            rw [this, q6, if_neg (by omega)]
          have el : g_X10_leaveVessel i (cput (dwC c i o (v 31 i - now) now) 3 3 i 120) = exC (dwC c i o (v 31 i - now) now) i (v 29 i) := leave_eq e6 w0
          rw [el]
          rw [e29] at S2
          have lo : (dwC c i o (v 31 i - now) now).2.2.1 8 = c.2.2.1 8 := clst_ne _ (by decide)
          have d8 := dirty_len8 hS.cd hR.2.2.2
          have g5 : exV (dwV v i o (v 31 i - now) now) i 5 0 = v 5 0 := by rw [exV_fr (by decide), F 5 (by decide)]
          have g6 : exV (dwV v i o (v 31 i - now) now) i 6 0 = v 6 0 := by rw [exV_fr (by decide), F 6 (by decide)]
          have g9 : exV (dwV v i o (v 31 i - now) now) i 9 0 = v 9 0 + 1 := by rw [exV_fr (by decide), n9]
          obtain ⟨j1, j2⟩ := ih m (u - now) (i + 1) _ _ S2 B2 R1.ex hp (by rw [g6]; exact ho) (by omega) (by rw [g5]; omega) (by omega) (by rw [g5, g9]; omega) (by rw [g5]; omega) (by rw [g5]; omega)
          refine ⟨leave_ok ?_, j1, j2⟩
          show ((dwC c i o (v 31 i - now) now).2.2.1 8).length ≤ 9
          rw [lo]
          omega
        · have g5 : dwV v i o (v 31 i - now) now 5 0 = v 5 0 := by rw [F 5 (by decide)]
          have g6 : dwV v i o (v 31 i - now) now 6 0 = v 6 0 := by rw [F 6 (by decide)]
          exact ih m (u - now) (i + 1) _ _ S1 B1 R1 hp (by rw [g6]; exact ho) (by omega) (by rw [g5]; omega) (by omega) (by rw [g5, n9]; omega) (by rw [g5]; omega) (by rw [g5]; omega)
      have hx : ∀ now, (g_X1_init ((cput c 3 5 i (v 31 i - now)).1 4) i o now (cnew (cput c 3 5 i (v 31 i - now)) 4)).2.1 3 5 i = v 31 i - now := fun now => cput_eq c 3 5 i (v 31 i - now)
      have fin : ∀ now, (1 ≤ now ∨ now = v 31 i) → now ≤ v 31 i → 0 ≤ now → now ≤ u → (if v 31 i < u then v 31 i else u) = now → (if u ≤ v 31 i then (if v 31 i - u = 0 then l_draws_6 o r m (u - u) (i + 1) (f_dirties (v 29 i) (upv (upv (upv (upv (upv (upv v 31 i (v 31 i - u)) 44 (v 9 0) i) 45 (v 9 0) o) 46 (v 9 0) u) 9 0 (v 9 0 + 1)) 28 i 4)) else l_draws_6 o r m (u - u) (i + 1) (upv (upv (upv (upv (upv v 31 i (v 31 i - u)) 44 (v 9 0) i) 45 (v 9 0) o) 46 (v 9 0) u) 9 0 (v 9 0 + 1))) else (if v 31 i - v 31 i = 0 then l_draws_6 o r m (u - v 31 i) (i + 1) (f_dirties (v 29 i) (upv (upv (upv (upv (upv (upv v 31 i (v 31 i - v 31 i)) 44 (v 9 0) i) 45 (v 9 0) o) 46 (v 9 0) (v 31 i)) 9 0 (v 9 0 + 1)) 28 i 4)) else l_draws_6 o r m (u - v 31 i) (i + 1) (upv (upv (upv (upv (upv v 31 i (v 31 i - v 31 i)) 44 (v 9 0) i) 45 (v 9 0) o) 46 (v 9 0) (v 31 i)) 9 0 (v 9 0 + 1)))) = (if v 31 i - now = 0 then l_draws_6 o r m (u - now) (i + 1) (exV (dwV v i o (v 31 i - now) now) i) else l_draws_6 o r m (u - now) (i + 1) (dwV v i o (v 31 i - now) now)) := fun now k1 k2 k3 k4 k5 => by
        by_cases c5 : v 31 i < u
        · rw [if_pos c5] at k5
          subst k5
          rw [if_neg (show ¬ u ≤ v 31 i by omega)]
          rfl
        · rw [if_neg c5] at k5
          subst k5
          rw [if_pos (show u ≤ v 31 i by omega)]
          rfl
      obtain ⟨now, hnow⟩ : ∃ now, now = (if v 31 i < u then v 31 i else u) := ⟨_, rfl⟩
      have k1 : (1 ≤ now ∨ now = v 31 i) ∧ now ≤ v 31 i ∧ 0 ≤ now ∧ now ≤ u := by
        by_cases c5 : v 31 i < u
        · rw [if_pos c5] at hnow
          omega
        · rw [if_neg c5] at hnow
          omega
      rw [fin now k1.1 k1.2.1 k1.2.2.1 k1.2.2.2 hnow.symm, ← hnow, hx now]
      obtain ⟨z1, z2, z3, z4⟩ := key now k1.1 k1.2.1 k1.2.2.1 k1.2.2.2
      have ry : R32 (v 31 i - now) := ⟨by omega, by omega⟩
      have l7 : ((((g_X1_init ((cput c 3 5 i (v 31 i - now)).1 4) i o now (cnew (cput c 3 5 i (v 31 i - now)) 4)).2.2.1 7).length : Nat) : Int) ≤ 199 := by
        show ((c.2.2.1 7).length : Int) ≤ 199
        omega
      by_cases cz : v 31 i - now = 0
      · obtain ⟨y1, y2, y3⟩ := z3 cz
        rw [if_pos cz, if_pos cz, if_pos cz]
        exact ⟨⟨⟨by omega, by omega⟩, ⟨by omega, by omega⟩, ⟨h0, by omega⟩, okh, z1, l7, ry, y1, y2⟩, y3⟩
      · obtain ⟨y2, y3⟩ := z4 cz
        rw [if_neg cz, if_neg cz, if_neg cz]
        exact ⟨⟨⟨by omega, by omega⟩, ⟨by omega, by omega⟩, ⟨h0, by omega⟩, okh, z1, l7, ry, y2⟩, y3⟩
theorem fill_lock {o T : Int} : ∀ (n m : Nat) (k : Int) (c : Cs) (v : Vw) (E : Int), Sm c v → VB v → IM v T E → (0 ≤ o ∧ o < v 6 0) → 0 ≤ k → k ≤ v 33 o → v 9 0 + dl v ≤ 106 + k → E + 31 * ((m : Nat) : Int) ≤ 1000000000 → (v 33 o - k).toNat < n → (v 33 o - k).toNat < m →
    okl_X10_fill_2 o n k c ∧ ∃ C, l_X10_fill_2 o n k c = cput (cput C 5 3 o 102) 5 4 o (C.2.1 13 11 0) ∧ Sm C (l_fills_123 o m k v) ∧ VB (l_fills_123 o m k v) := by
  intro n
  induction n with
  | zero => exact fun _ _ _ _ _ _ _ _ _ _ _ _ _ h => absurd h (Nat.not_lt_zero _)
  | succ n ih =>
    intro m k c v E hS hB hI ho h0 h1 hd hE hn hm
    cases m with
    | zero => exact absurd hm (Nat.not_lt_zero _)
    | succ m =>
      have u33 : 0 ≤ v 33 o ∧ v 33 o ≤ 4 := hI.2 33 o
      have u5 : 0 ≤ v 5 0 ∧ v 5 0 ≤ 30 := hI.2 5 0
      have u6 : 0 ≤ v 6 0 ∧ v 6 0 ≤ 20 := hI.2 6 0
      have u9 : 0 ≤ v 9 0 ∧ v 9 0 ≤ 127 := hI.2 9 0
      obtain ⟨p1, p2⟩ := parts hS hI ho.1 ho.2
      have h17 := (hS.co.2 o ho.1 ho.2).1.2.2.1
      rw [okl_X10_fill_2, l_X10_fill_2, l_fills_123, p1]
      by_cases c1 : v 33 o ≤ k
      · rw [if_pos c1, if_pos c1, if_pos c1]
        exact ⟨⟨⟨h17, ho.1⟩, ⟨by omega, by omega⟩, trivial⟩, c, rfl, hS, hB⟩
      rw [if_neg c1, if_neg c1, if_neg c1]
      obtain ⟨a1, a2⟩ := p2 k h0 (by omega)
      have u36 : 0 ≤ v 36 (4 * o + k) ∧ v 36 (4 * o + k) ≤ 4 := hI.2 36 (4 * o + k)
      have u37 : 0 ≤ v 37 (4 * o + k) ∧ v 37 (4 * o + k) ≤ 40 := hI.2 37 (4 * o + k)
      obtain ⟨d1, d2, d3⟩ := draw_lock (o := o) (p := lget (c.2.2.1 (17 + o)) k) (r := v 36 (4 * o + k)) fu ((v 5 0 - 0).toNat + 1) (v 37 (4 * o + k)) 0 c v hS hB hI.rg a1 ho (Int.le_refl 0) u5.1 (by omega) (by omega) (fuw (by omega)) (by omega)
      have okd : ok_X10_draw o (lget (c.2.2.1 (17 + o)) k) c := by
        unfold ok_X10_draw
        rw [a2]
        exact d1
      have gd : g_X10_draw o (lget (c.2.2.1 (17 + o)) k) c = l_X10_draw_8 o (lget (c.2.2.1 (17 + o)) k) fu (v 37 (4 * o + k)) 0 c := by
        unfold g_X10_draw
        rw [a2]
      have W1 := i_draws (o := o) (r := v 36 (4 * o + k)) (a := v 37 (4 * o + k)) hI (by omega) (by omega) u37 (fun _ => by omega) (by omega) u5.2
      have W2 := J_draws (v := v) u5.2 o (v 36 (4 * o + k)) (v 37 (4 * o + k)) u37.1
      have f6 : f_draws o (v 36 (4 * o + k)) (v 37 (4 * o + k)) v 6 0 = v 6 0 := fr_draws 6 0 (by decide)
      have f33 : f_draws o (v 36 (4 * o + k)) (v 37 (4 * o + k)) v 33 o = v 33 o := fr_draws 33 o (by decide)
      rw [gd]
      obtain ⟨j1, j2⟩ := ih m (k + 1) _ (f_draws o (v 36 (4 * o + k)) (v 37 (4 * o + k)) v) (E + 31) d2 d3 W1 (by omega) (by omega) (by omega) (by omega) (by omega) (by omega) (by omega)
      exact ⟨⟨⟨h17, ho.1⟩, ⟨by omega, by omega⟩, ⟨h0, by omega⟩, okd, j1⟩, j2⟩
theorem Sm.k38 {c : Cs} {v : Vw} {i x : Int} (h : Sm c v) : Sm c (upv v 38 i x) := by
  obtain ⟨h0, h1, h2, h3, h4, h5, h6, h7, h8, h9, h10⟩ := h
  refine ⟨h0, h1, h2, h3, h4, h5, h6, ?_, h8, h9, h10⟩
  show c.2.2.1 6 = due (upv v 38 i x) _
  rw [due_congr (v := v) (fun i => upv_nk (by decide))]
  exact h7
theorem VB.k38 {v : Vw} {i x : Int} (h : VB v) : VB (upv v 38 i x) := h
def flV (W : Vw) (o d u : Int) : Vw := upv (upv (upv W 34 o 102) 35 o d) 11 0 u
theorem flV_fr {W : Vw} {o d u : Int} {k : Nat} (h : k ≠ 11 ∧ k ≠ 34 ∧ k ≠ 35) : flV W o d u k = W k := by
  funext i
  unfold flV
  rw [upv_nk h.1, upv_nk h.2.2, upv_nk h.2.1]
theorem flV_n {W : Vw} {o d u x : Int} : flV W o d u 34 x = (if x = o then 102 else W 34 x) ∧ flV W o d u 35 x = (if x = o then d else W 35 x) ∧ flV W o d u 11 0 = u := by simp [flV, upv]
theorem Sm.fld {c : Cs} {v : Vw} {o u d : Int} (hS : Sm c v) (ho : 0 ≤ o ∧ o < v 6 0) (hd : c.2.1 13 11 0 = d) : Sm (cput (cput c 5 3 o 102) 5 4 o d) (flV v o d u) := by
  obtain ⟨s0, s1, s2, s3, s4, s5, s6, s7, s8, s9, s10⟩ := hS
  have F : ∀ k, k ≠ 11 ∧ k ≠ 34 ∧ k ≠ 35 → flV v o d u k = v k := fun k h => flV_fr h
  refine ⟨?_, ?_, ?_, ?_, ?_, ?_, ?_, ?_, ?_, ?_, ?_⟩
  · unfold S0
    rw [F 1 (by decide), F 2 (by decide), F 5 (by decide), F 6 (by decide), F 9 (by decide), F 3 (by decide), F 8 (by decide), F 4 (by decide)]
    exact s0
  · exact s1.fr rfl rfl (F 1 (by decide)) (F 12 (by decide)) (F 13 (by decide)) (F 14 (by decide))
  · exact s2.fr rfl rfl (F 2 (by decide)) (F 15 (by decide)) (F 16 (by decide)) (F 17 (by decide)) (F 19 (by decide)) (F 20 (by decide))
  · exact s3.fr rfl rfl (F 5 (by decide)) (F 26 (by decide)) (F 27 (by decide)) (F 28 (by decide)) (F 29 (by decide)) (F 30 (by decide)) (F 31 (by decide))
  · exact s4.fr rfl (fun s _ _ => rfl) rfl rfl (Int.le_refl _) (F 4 (by decide)) (F 21 (by decide)) (F 22 (by decide)) (F 23 (by decide)) (F 24 (by decide)) (F 25 (by decide))
  · exact s5.fr rfl (F 7 (by decide)) (F 39 (by decide))
  · unfold SO
    rw [F 6 (by decide), F 32 (by decide), F 33 (by decide), F 36 (by decide), F 37 (by decide)]
    refine ⟨s6.1, fun x x0 x1 => ⟨?_, (s6.2 x x0 x1).2⟩⟩
    obtain ⟨q0, q1, q2, q3, q4⟩ := (s6.2 x x0 x1).1
    obtain ⟨n34, n35, n11⟩ := flV_n (W := v) (o := o) (d := d) (u := u) (x := x)
    rw [n34, n35]
    by_cases e : x = o
    · rw [if_pos e, if_pos e, e]
      have z : (cput (cput c 5 3 o 102) 5 4 o d).2.1 5 3 o = 102 ∧ (cput (cput c 5 3 o 102) 5 4 o d).2.1 5 4 o = d := by simp [cput]
      rw [e] at q0 q1 q2
      exact ⟨q0, q1, q2, z.1, fun _ => z.2⟩
    · rw [if_neg e, if_neg e]
      have z : ∀ k, (cput (cput c 5 3 o 102) 5 4 o d).2.1 5 k x = c.2.1 5 k x := fun k => by simp [cput, e]
      rw [z, z, z, z, z]
      exact ⟨q0, q1, q2, q3, q4⟩
  · exact s7.fr rfl (F 6 (by decide)) (F 32 (by decide))
  · exact s8.fr rfl rfl (F 9 (by decide)) (F 44 (by decide)) (F 45 (by decide)) (F 46 (by decide))
  · exact s9.fr rfl (F 2 (by decide)) (F 15 (by decide)) (F 18 (by decide)) (F 10 (by decide))
  · exact s10.fr rfl rfl rfl (F 2 (by decide)) (F 20 (by decide))
theorem VB.fld {v : Vw} {o u d : Int} (hB : VB v) : VB (flV v o d u) := by
  obtain ⟨b1, b2, b3, b4, b5, b6⟩ := hB
  have F : ∀ k, k ≠ 11 ∧ k ≠ 34 ∧ k ≠ 35 → flV v o d u k = v k := fun k h => flV_fr h
  unfold VB
  simp only [dlu_fr (F 9 (by decide)) (F 44 (by decide)) (F 46 (by decide))]
  rw [F 1 (by decide), F 2 (by decide), F 4 (by decide), F 5 (by decide), F 6 (by decide), F 9 (by decide), F 15 (by decide), F 16 (by decide), F 25 (by decide), F 26 (by decide), F 28 (by decide), F 29 (by decide), F 31 (by decide), F 33 (by decide), F 36 (by decide), F 37 (by decide), F 44 (by decide), F 45 (by decide)]
  refine ⟨b1, b2, b3, fun x x0 x1 => ?_, b5, b6⟩
  obtain ⟨⟨g1, g2⟩, g3⟩ := b4 x x0 x1
  obtain ⟨n34, n35, n11⟩ := flV_n (W := v) (o := o) (d := d) (u := u) (x := x)
  rw [n34]
  refine ⟨⟨g1, ?_⟩, g3⟩
  by_cases e : x = o
  · rw [if_pos e]
    exact Or.inr (Or.inl rfl)
  · rw [if_neg e]
    exact g2
