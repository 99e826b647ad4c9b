/-! a day passes: the orders are filled in the order of their due days -/
theorem dlt_trans {v : Vw} {a b d : Int} (h1 : dlt v a b) (h2 : dlt v b d) : dlt v a d := by
  unfold dlt at *
  omega
theorem c52 {v : Vw} : ∀ (n : Nat) (next x : Int), 0 ≤ x → (v 6 0 - x).toNat < n → (next = -1 ∨ (0 ≤ next ∧ next < x ∧ next < v 6 0 ∧ v 38 next = 0)) →
    (l_fills_52 v n next x = -1 ∧ next = -1 ∧ ∀ y, x ≤ y → y < v 6 0 → v 38 y ≠ 0) ∨ ((0 ≤ l_fills_52 v n next x ∧ l_fills_52 v n next x < v 6 0 ∧ v 38 (l_fills_52 v n next x) = 0) ∧ (next ≠ -1 → l_fills_52 v n next x = next ∨ dlt v (l_fills_52 v n next x) next) ∧ ∀ y, x ≤ y → y < v 6 0 → v 38 y = 0 → l_fills_52 v n next x = y ∨ dlt v (l_fills_52 v n next x) y) := by
  intro n
  induction n with
  | zero => exact fun _ _ _ h => absurd h (Nat.not_lt_zero _)
  | succ n ih =>
    intro next x h0 hm hf
    rw [l_fills_52]
    by_cases c1 : v 6 0 ≤ x
    · rw [if_pos c1]
      rcases hf with hf | ⟨f0, f1, f2, f3⟩
      · exact Or.inl ⟨hf, hf, fun y y0 y1 => by omega⟩
      · exact Or.inr ⟨⟨f0, f2, f3⟩, fun _ => Or.inl rfl, fun y y0 y1 => by omega⟩
    · rw [if_neg c1]
      by_cases c2 : v 38 x = 0
      · rw [if_pos c2]
        have key : ∀ f', (f' = x ∨ (f' = next ∧ next ≠ -1 ∧ dlt v next x)) → (f' = x → next ≠ -1 → dlt v x next) → (l_fills_52 v n f' (x + 1) = -1 ∧ next = -1 ∧ ∀ y, x ≤ y → y < v 6 0 → v 38 y ≠ 0) ∨ ((0 ≤ l_fills_52 v n f' (x + 1) ∧ l_fills_52 v n f' (x + 1) < v 6 0 ∧ v 38 (l_fills_52 v n f' (x + 1)) = 0) ∧ (next ≠ -1 → l_fills_52 v n f' (x + 1) = next ∨ dlt v (l_fills_52 v n f' (x + 1)) next) ∧ ∀ y, x ≤ y → y < v 6 0 → v 38 y = 0 → l_fills_52 v n f' (x + 1) = y ∨ dlt v (l_fills_52 v n f' (x + 1)) y) := fun f' h1 h2 => by
          have hf' : 0 ≤ f' ∧ f' < x + 1 ∧ f' < v 6 0 ∧ v 38 f' = 0 := by
            rcases h1 with rfl | ⟨rfl, h3, _⟩
            · exact ⟨h0, by omega, by omega, c2⟩
            · obtain ⟨f0, f1, f2, f3⟩ := hf.resolve_left h3
              exact ⟨f0, by omega, f2, f3⟩
          rcases ih f' (x + 1) (by omega) (by omega) (Or.inr hf') with ⟨_, g2, _⟩ | ⟨g1, g2, g3⟩
          · omega
          · have g2' := g2 (by omega)
            have tr : ∀ y, (f' = y ∨ dlt v f' y) → l_fills_52 v n f' (x + 1) = y ∨ dlt v (l_fills_52 v n f' (x + 1)) y := fun y hy => by
              rcases g2' with e | e
              · rw [e]
                exact hy
              · rcases hy with hy | hy
                · exact Or.inr (hy ▸ e)
                · exact Or.inr (dlt_trans e hy)
            refine Or.inr ⟨g1, fun hn => tr next ?_, fun y y0 y1 hy => ?_⟩
            · rcases h1 with e | ⟨e, _, _⟩
              · have := h2 e hn
                rw [← e] at this
                exact Or.inr this
              · exact Or.inl e
            · by_cases e : y = x
              · subst e
                refine tr y ?_
                rcases h1 with e | ⟨e, _, h4⟩
                · exact Or.inl e
                · rw [e]
                  exact Or.inr h4
              · exact g3 y (by omega) y1 hy
        by_cases c3 : next = -1
        · rw [if_pos c3]
          exact key x (Or.inl rfl) (fun _ hn => absurd c3 hn)
        · rw [if_neg c3]
          obtain ⟨f0, f1, f2, f3⟩ := hf.resolve_left c3
          by_cases c4 : v 32 next ≤ v 32 x
          · rw [if_pos c4]
            exact key next (Or.inr ⟨rfl, c3, by unfold dlt; omega⟩) (fun e _ => by omega)
          · rw [if_neg c4]
            exact key x (Or.inl rfl) (fun _ _ => by unfold dlt; omega)
      · rw [if_neg c2]
        rcases ih next (x + 1) (by omega) (by omega) (hf.imp id (fun h => ⟨h.1, by omega, h.2.2⟩)) with ⟨g1, g2, g3⟩ | ⟨g1, g2, g3⟩
        · refine Or.inl ⟨g1, g2, fun y y0 y1 => ?_⟩
          by_cases e : y = x
          · rw [e]
            exact c2
          · exact g3 y (by omega) y1
        · refine Or.inr ⟨g1, g2, fun y y0 y1 hy => ?_⟩
          by_cases e : y = x
          · rw [e] at hy
            exact absurd hy c2
          · exact g3 y (by omega) y1 hy
/-- what stands to be looked at yet -/
def AL (v : Vw) (i : Int) : Prop := ∀ x, 0 ≤ x → x < v 6 0 → (v 38 x = 0 ↔ v 34 x = 111 ∧ x ∈ (due v (v 6 0).toNat).drop i.toNat)
theorem due_drop {v : Vw} {i : Int} (h0 : 0 ≤ i) (h1 : i < v 6 0) : ∃ rest, (due v (v 6 0).toNat).drop i.toNat = lget (due v (v 6 0).toNat) i :: rest ∧ (due v (v 6 0).toNat).drop (i + 1).toNat = rest ∧ (∀ x ∈ rest, dlt v (lget (due v (v 6 0).toNat) i) x) ∧ (0 ≤ lget (due v (v 6 0).toNat) i ∧ lget (due v (v 6 0).toNat) i < v 6 0) := by
  have hl := due_len v (v 6 0).toNat
  have hi : i.toNat < (due v (v 6 0).toNat).length := by omega
  have e : lget (due v (v 6 0).toNat) i = (due v (v 6 0).toNat)[i.toNat] := by
    unfold lget
    rw [List.getD_eq_getElem?_getD, List.getElem?_eq_getElem hi]
    rfl
  have hd := List.drop_eq_getElem_cons hi
  have hp := (due_pw v (v 6 0).toNat).sublist (List.drop_sublist i.toNat _)
  rw [hd, List.pairwise_cons] at hp
  have hm := (due_mem (v := v) (x := (due v (v 6 0).toNat)[i.toNat]) (v 6 0).toNat).mp (List.getElem_mem hi)
  rw [e]
  refine ⟨_, hd, by rw [show (i + 1).toNat = i.toNat + 1 by omega], hp.1, hm.1, by omega⟩
theorem AL.pick {v : Vw} {i : Int} (h : AL v i) (h0 : 0 ≤ i) (h1 : i < v 6 0) (ho : v 34 (lget (due v (v 6 0).toNat) i) = 111) : l_fills_52 v (((v 6 0) - 0).toNat + 1) (-1) 0 = lget (due v (v 6 0).toNat) i := by
  obtain ⟨rest, r1, r2, r3, r4⟩ := due_drop h0 h1
  have z := (h _ r4.1 r4.2).mpr ⟨ho, by rw [r1]; exact List.mem_cons_self⟩
  rcases c52 (v := v) (((v 6 0) - 0).toNat + 1) (-1) 0 (Int.le_refl 0) (by omega) (Or.inl rfl) with ⟨_, _, g⟩ | ⟨g1, _, g3⟩
  · exact absurd z (g _ r4.1 r4.2)
  · have m := ((h _ g1.1 g1.2.1).mp g1.2.2).2
    rw [r1] at m
    rcases List.mem_cons.mp m with e | e
    · exact e
    · have a := r3 _ e
      rcases g3 _ r4.1 r4.2 z with b | b
      · exact b
      · unfold dlt at a b
        omega
theorem AL.none {v : Vw} {i : Int} (h : AL v i) (h1 : v 6 0 ≤ i) : l_fills_52 v (((v 6 0) - 0).toNat + 1) (-1) 0 = -1 := by
  have hn : (due v (v 6 0).toNat).drop i.toNat = [] := List.drop_of_length_le (by rw [due_len]; omega)
  rcases c52 (v := v) (((v 6 0) - 0).toNat + 1) (-1) 0 (Int.le_refl 0) (by omega) (Or.inl rfl) with ⟨g, _⟩ | ⟨g1, _⟩
  · exact g
  · have m := ((h _ g1.1 g1.2.1).mp g1.2.2).2
    rw [hn] at m
    cases m
theorem AL.skip {v : Vw} {i : Int} (h : AL v i) (h0 : 0 ≤ i) (h1 : i < v 6 0) (ho : v 34 (lget (due v (v 6 0).toNat) i) ≠ 111) : AL v (i + 1) := by
  obtain ⟨rest, r1, r2, r3, r4⟩ := due_drop h0 h1
  intro x x0 x1
  rw [h x x0 x1, r1, r2, List.mem_cons]
  constructor
  · rintro ⟨a, b⟩
    rcases b with b | b
    · rw [b] at a
      exact absurd a ho
    · exact ⟨a, b⟩
  · exact fun ⟨a, b⟩ => ⟨a, Or.inr b⟩
theorem AL.next {v w : Vw} {i : Int} (h : AL v i) (h0 : 0 ≤ i) (h1 : i < v 6 0) (a1 : ∀ x, x ≠ lget (due v (v 6 0).toNat) i → w 38 x = v 38 x) (a2 : w 38 (lget (due v (v 6 0).toNat) i) = 1) (a3 : ∀ x, x ≠ lget (due v (v 6 0).toNat) i → w 34 x = v 34 x) (a4 : w 6 0 = v 6 0) (a5 : ∀ x, w 32 x = v 32 x) : AL w (i + 1) := by
  obtain ⟨rest, r1, r2, r3, r4⟩ := due_drop h0 h1
  intro x x0 x1
  rw [a4] at x1
  rw [a4, due_congr a5, r2]
  by_cases e : x = lget (due v (v 6 0).toNat) i
  · rw [e, a2]
    constructor
    · exact fun q => absurd q (by decide)
    · rintro ⟨_, q⟩
      have := r3 _ q
      unfold dlt at this
      omega
  · rw [a1 x e, a3 x e, h x x0 x1, r1, List.mem_cons]
    exact ⟨fun ⟨a, b⟩ => ⟨a, b.resolve_left e⟩, fun ⟨a, b⟩ => ⟨a, Or.inr b⟩⟩
/-- what holds while orders are filled -/
def FJ (v : Vw) : Prop := v 11 0 + fl v ≤ 20 ∧ v 9 0 + dl v ≤ 30 + 4 * v 11 0
theorem fills_lock {T : Int} : ∀ (n m : Nat) (u i mm : Int) (c : Cs) (v : Vw) (E : Int), Sm c v → VB v → IM v T E → AL v i → FJ v → 0 ≤ i → i ≤ v 6 0 → 0 ≤ mm → mm ≤ i → E + 155 * ((m : Nat) : Int) ≤ 1000000000 → (v 6 0 - i).toNat < n → (v 6 0 - mm).toNat < m →
    okl_X10_fillOrders_4 n u i c ∧ (l_X10_fillOrders_4 n u i c).1 = u + (l_fills_40 m mm v 11 0 - v 11 0) ∧ Sm (l_X10_fillOrders_4 n u i c).2 (l_fills_40 m mm v) ∧ VB (l_fills_40 m mm v) := by
  intro n
  induction n with
  | zero => exact fun _ _ _ _ _ _ _ _ _ _ _ _ _ _ _ _ _ h => absurd h (Nat.not_lt_zero _)
  | succ n ih =>
    intro m u i mm c v E hS hB hI hA hF h0 h1 m0 m1 hE hn hm
    have u6 : 0 ≤ v 6 0 ∧ v 6 0 ≤ 20 := hI.2 6 0
    have hD : c.2.2.1 6 = due v (v 6 0).toNat := hS.cu
    have hl : ((c.2.2.1 6).length : Int) = v 6 0 := by rw [hD, due_len]; omega
    rw [okl_X10_fillOrders_4, l_X10_fillOrders_4, hl, hD]
    by_cases c1 : v 6 0 ≤ i
    · rw [if_pos c1, if_pos c1]
      cases m with
      | zero => exact absurd hm (Nat.not_lt_zero _)
      | succ m =>
        have e : l_fills_40 (m + 1) mm v = v := by
          rw [l_fills_40, hA.none c1, if_pos rfl]
          split <;> rfl
        rw [e]
        exact ⟨⟨⟨by omega, by omega⟩, trivial⟩, by show u = _; omega, hS, hB⟩
    rw [if_neg c1, if_neg c1]
    obtain ⟨rest, r1, r2, r3, r4⟩ := due_drop (v := v) h0 (by omega)
    have q3 := (hS.co.2 _ r4.1 r4.2).1.2.2.2.1
    have u34 : 0 ≤ v 34 (lget (due v (v 6 0).toNat) i) ∧ v 34 (lget (due v (v 6 0).toNat) i) ≤ 255 := hI.2 34 (lget (due v (v 6 0).toNat) i)
    rw [q3]
    by_cases c2 : v 34 (lget (due v (v 6 0).toNat) i) = 111
    · rw [if_pos c2, if_pos c2]
      cases m with
      | zero => exact absurd hm (Nat.not_lt_zero _)
      | succ m =>
        have ep := hA.pick h0 (by omega) c2
        have d38 := (hA _ r4.1 r4.2).mpr ⟨c2, by rw [r1]; exact List.mem_cons_self⟩
        have hN1 := fun w a1 a2 a3 a4 a5 => hA.next (w := w) h0 (by omega) a1 a2 a3 a4 a5
        rw [l_fills_40, ep, if_neg (show ¬ v 6 0 ≤ mm by omega)]
        revert q3 u34 c2 ep d38 hN1 r4
        generalize lget (due v (v 6 0).toNat) i = o
        intro r4 q3 u34 c2 ep d38 hN1
        rw [if_neg (show ¬ o = -1 by omega)]
        have S1 : Sm c (upv v 38 o 1) := hS.k38
        have B1 : VB (upv v 38 o 1) := hB.k38
        have I1 : IM (upv v 38 o 1) T E := hI.up 38 o 1 (by show (0 : Int) ≤ 1 ∧ (1 : Int) ≤ 1; omega)
        obtain ⟨k1, k2⟩ := canFill_eq S1 B1 I1 (show 0 ≤ o ∧ o < upv v 38 o 1 6 0 from r4)
        rw [k2]
        have hfl : 1 ≤ fl v := fl_pos (by omega) c2
        by_cases c3 : f_canFill o (upv v 38 o 1) = 0
        · rw [if_pos c3, if_pos c3, if_pos c3]
          have e1 := fl_congr (v := v) (w := upv v 38 o 1) (fun i => upv_nk (by decide))
          have e2 := dl_congr (v := v) (w := upv v 38 o 1) (fun i => upv_nk (by decide))
          have F1 : FJ (upv v 38 o 1) := by
            unfold FJ
            rw [e1, e2]
            exact hF
          obtain ⟨j1, j2, j3⟩ := ih m u (i + 1) (mm + 1) c (upv v 38 o 1) (E + 155) S1 B1 (I1.mono (Int.le_refl _) (by omega) hI.1.2.1 (by omega)) (hN1 _ (fun x hx => upv_ni hx) (upv_eq _ _ _ _) (fun x hx => upv_nk (by decide)) rfl (fun x => rfl)) F1 (by omega) (show i + 1 ≤ v 6 0 by omega) (by omega) (by omega) (by omega) (show (v 6 0 - (i + 1)).toNat < n by omega) (show (v 6 0 - (mm + 1)).toNat < m by omega)
          exact ⟨⟨⟨by omega, by omega⟩, ⟨h0, by omega⟩, ⟨by omega, by omega⟩, k1, j1⟩, j2, j3⟩
        · rw [if_neg c3, if_neg c3, if_neg c3]
          have u33 : 0 ≤ v 33 o ∧ v 33 o ≤ 4 := hI.2 33 o
          have u5 : 0 ≤ v 5 0 ∧ v 5 0 ≤ 30 := hI.2 5 0
          have u11 : 0 ≤ v 11 0 ∧ v 11 0 ≤ 20 := hI.2 11 0
          have u8 : 0 ≤ v 8 0 ∧ v 8 0 ≤ T := hI.2 8 0
          have e1 := dl_congr (v := v) (w := upv v 38 o 1) (fun i => upv_nk (by decide))
          obtain ⟨hU, hJ⟩ := hF
          obtain ⟨w1, C, w2, w3, w4⟩ := fill_lock (o := o) fu (((v 33 o) - 0).toNat + 1) 0 c (upv v 38 o 1) E S1 B1 I1 r4 (Int.le_refl 0) u33.1 (by rw [e1]; show v 9 0 + _ ≤ _; omega) (by omega) (fuw (show (v 33 o - 0).toNat < 1000 by omega)) (show (v 33 o - 0).toNat < _ by omega)
          have W1 := i_l_fills_123 (T := T) (o := o) (((v 33 o) - 0).toNat + 1) 0 (upv v 38 o 1) E I1 (by omega) (by omega) (by rw [e1]; show v 9 0 + _ ≤ _; omega) u5.2 (by omega)
          have W2 := J_l_fills_123 o (((v 33 o) - 0).toNat + 1) 0 (upv v 38 o 1) u5.2 (fun i => (hI.2 37 i).1) (Int.le_refl 0)
          rw [e1, show upv v 38 o 1 33 o = v 33 o from rfl, show upv v 38 o 1 9 0 = v 9 0 from rfl] at W2
          have Wf : ∀ (k : Nat) (i : Int), k ≠ 9 ∧ k ≠ 10 ∧ k ≠ 15 ∧ k ≠ 18 ∧ k ≠ 28 ∧ k ≠ 31 ∧ k ≠ 44 ∧ k ≠ 45 ∧ k ≠ 46 → l_fills_123 o (((v 33 o) - 0).toNat + 1) 0 (upv v 38 o 1) k i = upv v 38 o 1 k i := fun k i hk => fr_l_fills_123 _ _ _ k i hk
          have gk : g_X10_fill o c = cput (cput C 5 3 o 102) 5 4 o (C.2.1 13 11 0) := w2
          rw [gk]
          revert w3 w4 W1 W2 Wf
          generalize l_fills_123 o (((v 33 o) - 0).toNat + 1) 0 (upv v 38 o 1) = W
          intro w3 w4 W1 W2 Wf
          have f6 : W 6 0 = v 6 0 := Wf 6 0 (by decide)
          have f8 : W 8 0 = v 8 0 := Wf 8 0 (by decide)
          have f5 : W 5 0 = v 5 0 := Wf 5 0 (by decide)
          have hd : C.2.1 13 11 0 = v 8 0 := w3.c0.2.2.2.trans f8
          have F : ∀ k, k ≠ 11 ∧ k ≠ 34 ∧ k ≠ 35 → flV W o (v 8 0) (v 11 0 + 1) k = W k := fun k h => flV_fr h
          have N := fun x => flV_n (W := W) (o := o) (d := v 8 0) (u := v 11 0 + 1) (x := x)
          have S2 : Sm (cput (cput C 5 3 o 102) 5 4 o (C.2.1 13 11 0)) (flV W o (v 8 0) (v 11 0 + 1)) := by
            rw [hd]
            exact w3.fld (u := v 11 0 + 1) ⟨r4.1, by rw [f6]; exact r4.2⟩ hd
          have g34 : ∀ x, x ≠ o → flV W o (v 8 0) (v 11 0 + 1) 34 x = v 34 x := fun x hx => by
            rw [(N x).1, if_neg hx, Wf 34 x (by decide)]
            rfl
          have e2 : fl (flV W o (v 8 0) (v 11 0 + 1)) = fl v - 1 := by
            have e := fl_one (v := v) (w := flV W o (v 8 0) (v 11 0 + 1)) (b := o) (by omega) g34
            have e2 : flF (flV W o (v 8 0) (v 11 0 + 1)) o = 0 := by unfold flF; rw [(N o).1, if_pos rfl, if_pos rfl]
            have e3 : flF v o = 1 := by unfold flF; rw [if_neg (by omega)]
            omega
          have e3 : dl (flV W o (v 8 0) (v 11 0 + 1)) = dl W := dl_congr (fun i => congrFun (F 28 (by decide)) i)
          have F1 : FJ (flV W o (v 8 0) (v 11 0 + 1)) := by
            unfold FJ
            rw [e2, e3, (N 0).2.2, F 9 (by decide)]
            split at W2 <;> omega
          have I2 : IM (flV W o (v 8 0) (v 11 0 + 1)) T (E + 155) := (((W1.up 34 o 102 (by show (0 : Int) ≤ 102 ∧ (102 : Int) ≤ 255; omega)).up 35 o (v 8 0) (by show 0 ≤ (v 8 0) ∧ (v 8 0) ≤ T; omega)).up 11 0 (v 11 0 + 1) (by show 0 ≤ (v 11 0 + 1) ∧ (v 11 0 + 1) ≤ 20; omega)).mono (Int.le_refl _) (by omega) hI.1.2.1 (by omega)
          have A2 : AL (flV W o (v 8 0) (v 11 0 + 1)) (i + 1) := hN1 _ (fun x hx => by rw [F 38 (by decide), Wf 38 x (by decide)]; exact upv_ni hx) (by rw [F 38 (by decide), Wf 38 o (by decide)]; exact upv_eq _ _ _ _) g34 (by rw [F 6 (by decide)]; exact f6) (fun x => by rw [F 32 (by decide), Wf 32 x (by decide)]; rfl)
          have g6 : flV W o (v 8 0) (v 11 0 + 1) 6 0 = v 6 0 := by rw [F 6 (by decide)]; exact f6
          obtain ⟨j1, j2, j3⟩ := ih m (u + 1) (i + 1) (mm + 1) _ (flV W o (v 8 0) (v 11 0 + 1)) (E + 155) S2 w4.fld I2 A2 F1 (by omega) (by omega) (by omega) (by omega) (by omega) (by omega) (by omega)
          refine ⟨⟨⟨by omega, by omega⟩, ⟨h0, by omega⟩, ⟨by omega, by omega⟩, k1, w1, j1⟩, ?_, j3⟩
          rw [j2, (N 0).2.2]
          show u + 1 + (l_fills_40 m (mm + 1) (flV W o (v 8 0) (v 11 0 + 1)) 11 0 - (v 11 0 + 1)) = u + (l_fills_40 m (mm + 1) (flV W o (v 8 0) (v 11 0 + 1)) 11 0 - v 11 0)
          omega
    · rw [if_neg c2, if_neg c2]
      obtain ⟨j1, j2⟩ := ih m u (i + 1) mm c v E hS hB hI (hA.skip h0 (by omega) c2) hF (by omega) (by omega) m0 (by omega) hE (by omega) hm
      exact ⟨⟨⟨by omega, by omega⟩, ⟨h0, by omega⟩, ⟨by omega, by omega⟩, j1⟩, j2⟩
