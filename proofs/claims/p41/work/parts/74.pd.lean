/-! .. deliveries and orders -/
def dlo (v : Vw) (o : Int) : Int := sI (fun e => if v 45 e = o then v 46 e else 0) (v 9 0).toNat
def osm (v : Vw) (o : Int) : Int := sI (fun k => v 37 (4 * o + k)) (v 33 o).toNat
def WFn (v : Vw) (o r k : Int) : Int := if v 36 (4 * o + k) = r then v 37 (4 * o + k) else 0
def PD (v : Vw) : Prop :=
  (∀ e, 0 ≤ e → e < v 9 0 → 1 ≤ v 46 e ∧ (0 ≤ v 45 e ∧ v 45 e < v 6 0) ∧ v 34 (v 45 e) = 102) ∧
  (∀ e, 1 ≤ e → e < v 9 0 → v 35 (v 45 (e - 1)) ≤ v 35 (v 45 e)) ∧
  (∀ o, v 34 o = 102 → v 35 o ≤ v 8 0) ∧
  (∀ o, 0 ≤ o → o < v 6 0 → dlo v o = if v 34 o = 102 then osm v o else 0) ∧
  v 11 0 + fl v = 20
theorem dlo_congr {v w : Vw} (h9 : w 9 0 = v 9 0) (h45 : ∀ e, 0 ≤ e → e < v 9 0 → w 45 e = v 45 e) (h46 : ∀ e, 0 ≤ e → e < v 9 0 → w 46 e = v 46 e) (o : Int) : dlo w o = dlo v o := by
  unfold dlo
  rw [h9]
  refine sI_congr _ (fun e e0 e1 => ?_)
  have e2 : e < v 9 0 := by omega
  rw [h45 e e0 e2, h46 e e0 e2]
theorem osm_congr {v w : Vw} {o : Int} (h33 : w 33 o = v 33 o) (h37 : ∀ k, 0 ≤ k → k < v 33 o → w 37 (4 * o + k) = v 37 (4 * o + k)) : osm w o = osm v o := by
  unfold osm
  rw [h33]
  exact sI_congr _ (fun k k0 k1 => h37 k k0 (by omega))
theorem PD.fr {v w : Vw} (h : PD v) (F : ∀ k, k = 6 ∨ k = 8 ∨ k = 9 ∨ k = 11 ∨ k = 33 ∨ k = 34 ∨ k = 35 ∨ k = 37 ∨ k = 45 ∨ k = 46 → ∀ i, w k i = v k i) : PD w := by
  obtain ⟨d1, d2, d3, d4, d5⟩ := h
  have f6 := F 6 (by omega)
  have f8 := F 8 (by omega)
  have f9 := F 9 (by omega)
  have f11 := F 11 (by omega)
  have f33 := F 33 (by omega)
  have f34 := F 34 (by omega)
  have f35 := F 35 (by omega)
  have f37 := F 37 (by omega)
  have f45 := F 45 (by omega)
  have f46 := F 46 (by omega)
  refine ⟨fun e => ?_, fun e => ?_, fun o => ?_, fun o => ?_, ?_⟩
  · rw [f9, f46, f45, f6, f34]
    exact d1 e
  · rw [f9, f45, f45, f35, f35]
    exact d2 e
  · rw [f34, f35, f8]
    exact d3 o
  · rw [f6, f34, dlo_congr (v := v) (f9 0) (fun e _ _ => f45 e) (fun e _ _ => f46 e), osm_congr (v := v) (f33 o) (fun k _ _ => f37 _)]
    exact d4 o
  · rw [f11, fl_congr (v := v) f34]
    exact d5
theorem PD.day {v : Vw} {d : Int} (h : PD v) (hd : v 8 0 ≤ d) : PD (upv v 8 0 d) := by
  obtain ⟨d1, d2, d3, d4, d5⟩ := h
  refine ⟨d1, d2, fun o ho => ?_, d4, d5⟩
  have g := d3 o ho
  show v 35 o ≤ (if (8 : Nat) = 8 ∧ (0 : Int) = 0 then d else v 8 0)
  rw [if_pos ⟨rfl, rfl⟩]
  omega
theorem sI_mono {f : Int → Int} {m : Nat} : ∀ k : Nat, (∀ i, (m : Int) ≤ i → i < ((m + k : Nat) : Int) → 0 ≤ f i) → sI f m ≤ sI f (m + k) := by
  intro k
  induction k with
  | zero => exact fun _ => Int.le_refl _
  | succ k ih =>
    intro h
    have h1 := ih (fun i a b => h i a (by omega))
    have h2 := h ((m + k : Nat) : Int) (by omega) (by omega)
    show sI f m ≤ sI f (m + k) + f ((m + k : Nat) : Int)
    omega
theorem wants_sum {v : Vw} {o r : Int} : ∀ (n : Nat) (s k : Int), 0 ≤ k → k ≤ v 33 o → (v 33 o - k).toNat < n → l_canFill_15 o r v n s k = s + (sI (WFn v o r) (v 33 o).toNat - sI (WFn v o r) k.toNat) := by
  intro n
  induction n with
  | zero => exact fun _ _ _ _ h => absurd h (Nat.not_lt_zero _)
  | succ n ih =>
    intro s k h0 h1 hn
    rw [l_canFill_15]
    by_cases c1 : v 33 o ≤ k
    · rw [if_pos c1, show k = v 33 o by omega]
      omega
    · rw [if_neg c1]
      have st := sI_step (f := WFn v o r) h0
      by_cases c2 : v 36 (4 * o + k) = r
      · rw [if_pos c2, ih _ _ (by omega) (by omega) (by omega), st]
        have : WFn v o r k = v 37 (4 * o + k) := if_pos c2
        omega
      · rw [if_neg c2, ih _ _ (by omega) (by omega) (by omega), st]
        have : WFn v o r k = 0 := if_neg c2
        omega
theorem wants_eq {v : Vw} {o r : Int} (h : 0 ≤ v 33 o) : wants v o r = sI (WFn v o r) (v 33 o).toNat := by
  unfold wants
  rw [wants_sum _ 0 0 (Int.le_refl 0) h (by omega)]
  show 0 + (_ - 0) = _
  omega
theorem stock_eq {v : Vw} {r : Int} (h5 : 0 ≤ v 5 0) : f_stockOf r v = sI (F31 v r) (v 5 0).toNat := by
  unfold f_stockOf
  rw [stock_sum _ 0 0 (Int.le_refl 0) h5 (by omega)]
  show 0 + (_ - 0) = _
  omega
/-- what a draw does: from v to w, left units of the recipe r are delivered for the order o -/
def Drw (o r left : Int) (v w : Vw) : Prop :=
  (v 9 0 ≤ w 9 0) ∧ (∀ e, e < v 9 0 → w 45 e = v 45 e ∧ w 46 e = v 46 e) ∧ (∀ e, v 9 0 ≤ e → e < w 9 0 → w 45 e = o ∧ 1 ≤ w 46 e) ∧
  (∀ q, dlo w q = dlo v q + (if q = o then left else 0)) ∧ (∀ q, sI (F31 w q) (v 5 0).toNat = sI (F31 v q) (v 5 0).toNat - (if q = r then left else 0))
theorem Drw.refl {o r : Int} {v : Vw} : Drw o r 0 v v := ⟨Int.le_refl _, fun _ _ => ⟨rfl, rfl⟩, fun e a b => by omega, fun q => by split <;> omega, fun q => by split <;> omega⟩
theorem Drw.trans {o r a b : Int} {u v w : Vw} (h5 : v 5 0 = u 5 0) (h : Drw o r a u v) (k : Drw o r b v w) : Drw o r (a + b) u w := by
  obtain ⟨h1, h2, h3, h4, h6⟩ := h
  obtain ⟨k1, k2, k3, k4, k6⟩ := k
  rw [h5] at k6
  refine ⟨by omega, fun e he => ?_, fun e e1 e2 => ?_, fun q => ?_, fun q => ?_⟩
  · have g1 := k2 e (by omega)
    have g2 := h2 e he
    exact ⟨g1.1.trans g2.1, g1.2.trans g2.2⟩
  · by_cases c : e < v 9 0
    · rw [(k2 e c).1, (k2 e c).2]
      exact h3 e e1 c
    · exact k3 e (by omega) e2
  · rw [k4, h4]
    split <;> omega
  · rw [k6, h6]
    split <;> omega
theorem dlo_new {v w : Vw} {o d : Int} (h9 : 0 ≤ v 9 0) (e9 : w 9 0 = v 9 0 + 1) (old : ∀ e, e ≠ v 9 0 → w 45 e = v 45 e ∧ w 46 e = v 46 e) (n45 : w 45 (v 9 0) = o) (n46 : w 46 (v 9 0) = d) (q : Int) : dlo w q = dlo v q + (if q = o then d else 0) := by
  unfold dlo
  rw [e9, sI_step h9, n45, n46]
  rw [sI_congr (f := fun e => if w 45 e = q then w 46 e else 0) (g := fun e => if v 45 e = q then v 46 e else 0) _ (fun e e0 e1 => by
    have g := old e (by omega)
    rw [g.1, g.2])]
  by_cases c : q = o
  · rw [if_pos c, if_pos c.symm]
  · rw [if_neg c, if_neg (fun z => c z.symm)]
theorem F31_upto {v : Vw} {b o r d : Int} (h9 : 0 ≤ v 9 0) (q : Int) (x : Int) (hx : x ≠ b) : F31 (drV v b o d) q x = F31 v q x := by
  obtain ⟨F, e9, e44, e45, e31, e28⟩ := drV_f (v := v) (b := b) (o := o) (d := d) h9
  have g28 : drV v b o d 28 x = v 28 x := by rw [e28]; exact if_neg (fun z => hx z.1)
  have g31 : drV v b o d 31 x = v 31 x := by rw [e31]; exact if_neg hx
  unfold F31
  rw [g28, g31, F 26 (by decide)]
theorem F31_b {v : Vw} {b o r d q : Int} (h9 : 0 ≤ v 9 0) (h28 : v 28 b = 3) (h26 : v 26 b = r) : F31 (drV v b o d) q b = if q = r then v 31 b - d else 0 := by
  obtain ⟨F, e9, e44, e45, e31, e28⟩ := drV_f (v := v) (b := b) (o := o) (d := d) h9
  have g31 : drV v b o d 31 b = v 31 b - d := by rw [e31]; exact if_pos rfl
  unfold F31
  rw [g31, F 26 (by decide), h26]
  by_cases c : v 31 b - d = 0
  · have g28 : drV v b o d 28 b = 4 := by rw [e28]; exact if_pos ⟨rfl, c⟩
    rw [g28, if_neg (show ¬ (4 : Int) = 3 by decide), c]
    split <;> rfl
  · have g28 : drV v b o d 28 b = 3 := by rw [e28, ← h28]; exact if_neg (fun z => c z.2)
    rw [g28, if_pos rfl]
    by_cases c3 : q = r
    · rw [if_pos c3, if_pos c3.symm]
    · rw [if_neg c3, if_neg (fun z => c3 z.symm)]
theorem drw_one {v : Vw} {b o r d : Int} (h9 : 0 ≤ v 9 0) (hb : 0 ≤ b ∧ b < v 5 0) (h28 : v 28 b = 3) (h26 : v 26 b = r) (hd : 1 ≤ d ∧ d ≤ v 31 b) : Drw o r d v (drV v b o d) := by
  obtain ⟨F, e9, e44, ⟨n45, n46⟩, e31, e28⟩ := drV_f (v := v) (b := b) (o := o) (d := d) h9
  refine ⟨by omega, fun e he => ⟨(e44 e (by omega)).2.1, (e44 e (by omega)).2.2⟩, fun e a1 a2 => ?_, fun q => dlo_new h9 e9 (fun e he => ⟨(e44 e he).2.1, (e44 e he).2.2⟩) n45 n46 q, fun q => ?_⟩
  · rw [show e = v 9 0 by omega, n45, n46]
    exact ⟨rfl, hd.1⟩
  · have key : ∀ x, F31 (drV v b o d) q x = F31 v q x - (if x = b then (if q = r then d else 0) else 0) := fun x => by
      by_cases c : x = b
      · rw [if_pos c, c, F31_b h9 h28 h26]
        unfold F31
        rw [if_pos h28, h26]
        by_cases c3 : q = r
        · rw [if_pos c3, if_pos c3.symm, if_pos c3]
        · rw [if_neg c3, if_neg (fun z => c3 z.symm), if_neg c3]
          omega
      · rw [if_neg c, F31_upto (r := r) h9 q x c]
        omega
    rw [sI_congr (f := F31 (drV v b o d) q) (g := fun x => F31 v q x - (if x = b then (if q = r then d else 0) else 0)) _ (fun x _ _ => key x), sI_sub, sI_at _ hb.1, if_pos (by omega)]
theorem draws_ok {o r : Int} : ∀ (n : Nat) (left b : Int) (v : Vw), P31 v → 0 ≤ v 9 0 → 0 ≤ b → b ≤ v 5 0 → (v 5 0 - b).toNat < n → 0 ≤ left → (left = 0 ∨ left ≤ sI (F31 v r) (v 5 0).toNat - sI (F31 v r) b.toNat) → Drw o r left v (l_draws_6 o r n left b v) := by
  intro n
  induction n with
  | zero => exact fun _ _ _ _ _ _ _ h => absurd h (Nat.not_lt_zero _)
  | succ n ih =>
    intro left b v hP h9 hb h5 hn hl hs
    rw [drw_step]
    by_cases c1 : v 5 0 ≤ b
    · rw [if_pos c1]
      have e : left = 0 := by
        rcases hs with hs | hs
        · exact hs
        · rw [show b = v 5 0 by omega] at hs
          omega
      rw [e]
      exact Drw.refl
    · rw [if_neg c1]
      by_cases c2 : left ≤ 0
      · rw [if_pos c2, show left = 0 by omega]
        exact Drw.refl
      · rw [if_neg c2]
        have hs : left ≤ sI (F31 v r) (v 5 0).toNat - sI (F31 v r) b.toNat := hs.resolve_left (by omega)
        have st := sI_step (f := F31 v r) hb
        by_cases c3 : v 28 b = 3 ∧ v 26 b = r
        · rw [if_pos c3]
          have fb : F31 v r b = v 31 b := by unfold F31; rw [if_pos c3.1, if_pos c3.2]
          have p1 := hP b hb (by omega) c3.1
          have hd : (1 ≤ (if left ≤ v 31 b then left else v 31 b) ∧ (if left ≤ v 31 b then left else v 31 b) ≤ v 31 b) ∧ ((if left ≤ v 31 b then left else v 31 b) = left ∨ (if left ≤ v 31 b then left else v 31 b) = v 31 b) ∧ (if left ≤ v 31 b then left else v 31 b) ≤ left := by
            split <;> omega
          revert hd
          generalize (if left ≤ v 31 b then left else v 31 b) = d
          intro hd
          obtain ⟨F, e9, -, -, -, -⟩ := drV_f (v := v) (b := b) (o := o) (d := d) h9
          have f5 := F 5 (by decide) 0
          have one := drw_one (o := o) h9 ⟨hb, by omega⟩ c3.1 c3.2 hd.1
          have z := ih (left - d) (b + 1) (drV v b o d) (hP.dr h9 hd.1.2) (by omega) (by omega) (by omega) (by omega) (by omega) (by
            have s1 := one.2.2.2.2 r
            rw [if_pos rfl] at s1
            have s2 : sI (F31 (drV v b o d) r) (b + 1).toNat = sI (F31 v r) (b + 1).toNat - d := by
              have q1 := sI_step (f := F31 (drV v b o d) r) hb
              have q2 : sI (F31 (drV v b o d) r) b.toNat = sI (F31 v r) b.toNat := sI_congr _ (fun x x0 x1 => F31_upto (r := r) h9 r x (by omega))
              have q3 : F31 (drV v b o d) r b = v 31 b - d := by rw [F31_b h9 c3.1 c3.2, if_pos rfl]
              omega
            rw [f5]
            omega)
          have := one.trans (by rw [f5]) z
          rw [show d + (left - d) = left by omega] at this
          exact this
        · rw [if_neg c3]
          have fb : F31 v r b = 0 := by
            unfold F31
            by_cases c4 : v 28 b = 3
            · rw [if_pos c4, if_neg (fun z => c3 ⟨c4, z⟩)]
            · rw [if_neg c4]
          exact ih left (b + 1) v hP h9 (by omega) (by omega) (by omega) hl (Or.inr (by omega))
/-- the parts of an order, from the k-th on -/
def Drs (o : Int) (left : Int) (v w : Vw) : Prop :=
  (v 9 0 ≤ w 9 0) ∧ (∀ e, e < v 9 0 → w 45 e = v 45 e ∧ w 46 e = v 46 e) ∧ (∀ e, v 9 0 ≤ e → e < w 9 0 → w 45 e = o ∧ 1 ≤ w 46 e) ∧ (∀ q, dlo w q = dlo v q + (if q = o then left else 0))
theorem Drw.drs {o r left : Int} {v w : Vw} (h : Drw o r left v w) : Drs o left v w := ⟨h.1, h.2.1, h.2.2.1, h.2.2.2.1⟩
theorem Drs.refl {o : Int} {v : Vw} : Drs o 0 v v := (Drw.refl (r := 0)).drs
theorem Drs.trans {o a b : Int} {u v w : Vw} (h : Drs o a u v) (k : Drs o b v w) : Drs o (a + b) u w := by
  obtain ⟨h1, h2, h3, h4⟩ := h
  obtain ⟨k1, k2, k3, k4⟩ := k
  refine ⟨by omega, fun e he => ?_, fun e e1 e2 => ?_, fun q => ?_⟩
  · have g1 := k2 e (by omega)
    have g2 := h2 e he
    exact ⟨g1.1.trans g2.1, g1.2.trans g2.2⟩
  · by_cases c : e < v 9 0
    · rw [(k2 e c).1, (k2 e c).2]
      exact h3 e e1 c
    · exact k3 e (by omega) e2
  · rw [k4, h4]
    split <;> omega
theorem fills_ok1 {o : Int} {K : Int} : ∀ (n : Nat) (k : Int) (v : Vw), PA K v → 0 ≤ v 9 0 → 0 ≤ v 5 0 → 0 ≤ k → k ≤ v 33 o → (v 33 o - k).toNat < n → (∀ j, 0 ≤ j → j < v 33 o → (0 ≤ v 36 (4 * o + j) ∧ v 36 (4 * o + j) < v 1 0) ∧ 1 ≤ v 37 (4 * o + j)) → (∀ q, 0 ≤ q → q < v 1 0 → sI (WFn v o q) (v 33 o).toNat - sI (WFn v o q) k.toNat ≤ sI (F31 v q) (v 5 0).toNat) →
    Drs o (sI (fun j => v 37 (4 * o + j)) (v 33 o).toNat - sI (fun j => v 37 (4 * o + j)) k.toNat) v (l_fills_123 o n k v) ∧ PA K (l_fills_123 o n k v) := by
  intro n
  induction n with
  | zero => exact fun _ _ _ _ _ _ _ h => absurd h (Nat.not_lt_zero _)
  | succ n ih =>
    intro k v hP h9 h5 hk0 hk1 hn hp hw
    rw [l_fills_123]
    by_cases c1 : v 33 o ≤ k
    · rw [if_pos c1, show k = v 33 o by omega, Int.sub_self]
      exact ⟨Drs.refl, hP⟩
    · rw [if_neg c1]
      obtain ⟨⟨p1, p2⟩, p3⟩ := hp k hk0 (by omega)
      have sw := sI_step (f := WFn v o (v 36 (4 * o + k))) hk0
      have s7 := sI_step (f := fun j => v 37 (4 * o + j)) hk0
      have wk : WFn v o (v 36 (4 * o + k)) k = v 37 (4 * o + k) := if_pos rfl
      have mono := sI_mono (f := WFn v o (v 36 (4 * o + k))) (m := (k + 1).toNat) ((v 33 o).toNat - (k + 1).toNat) (fun i i0 i1 => by
        unfold WFn
        split
        · have := (hp i (by omega) (by omega)).2
          omega
        · omega)
      rw [show (k + 1).toNat + ((v 33 o).toNat - (k + 1).toNat) = (v 33 o).toNat by omega] at mono
      have w1 := hw _ p1 p2
      have dr : Drw o (v 36 (4 * o + k)) (v 37 (4 * o + k)) v (f_draws o (v 36 (4 * o + k)) (v 37 (4 * o + k)) v) := draws_ok _ _ 0 v hP.2.1 h9 (Int.le_refl 0) h5 (by omega) (by omega) (Or.inr (by
        show _ ≤ _ - 0
        omega))
      have pa : PA K (f_draws o (v 36 (4 * o + k)) (v 37 (4 * o + k)) v) := PA.draws _ _ 0 v hP (Int.le_refl 0) h9
      have F : ∀ kk, kk ≠ 9 ∧ kk ≠ 10 ∧ kk ≠ 15 ∧ kk ≠ 18 ∧ kk ≠ 28 ∧ kk ≠ 31 ∧ kk ≠ 44 ∧ kk ≠ 45 ∧ kk ≠ 46 → ∀ i, f_draws o (v 36 (4 * o + k)) (v 37 (4 * o + k)) v kk i = v kk i := fun kk h i => fr_draws kk i h
      revert dr pa F
      generalize f_draws o (v 36 (4 * o + k)) (v 37 (4 * o + k)) v = w
      intro dr pa F
      have f33 := F 33 (by decide)
      have f36 := F 36 (by decide)
      have f37 := F 37 (by decide)
      have f1 := F 1 (by decide) 0
      have f5 := F 5 (by decide) 0
      have eW : ∀ q m, sI (WFn w o q) m = sI (WFn v o q) m := fun q m => sI_congr m (fun i _ _ => by unfold WFn; rw [f36, f37])
      have e7 : ∀ m, sI (fun j => w 37 (4 * o + j)) m = sI (fun j => v 37 (4 * o + j)) m := fun m => sI_congr m (fun i _ _ => f37 _)
      have z := ih (k + 1) w pa (by have := dr.1; omega) (by omega) (by omega) (by rw [f33]; omega) (by rw [f33]; omega) (fun j j0 j1 => by rw [f36, f37, f1]; exact hp j j0 (by rw [f33] at j1; exact j1)) (fun q q0 q1 => by
        have g := hw q q0 (by omega)
        have d5 := dr.2.2.2.2 q
        have sq := sI_step (f := WFn v o q) hk0
        rw [f33, eW, eW, f5, d5]
        by_cases c : q = v 36 (4 * o + k)
        · rw [if_pos c]
          rw [c] at g sq ⊢
          omega
        · rw [if_neg c]
          have : WFn v o q k = 0 := if_neg (fun z => c z.symm)
          omega)
      refine ⟨?_, z.2⟩
      have z1 := z.1
      rw [f33, e7, e7] at z1
      have t := dr.drs.trans z1
      rw [show v 37 (4 * o + k) + (sI (fun j => v 37 (4 * o + j)) (v 33 o).toNat - sI (fun j => v 37 (4 * o + j)) (k + 1).toNat) = sI (fun j => v 37 (4 * o + j)) (v 33 o).toNat - sI (fun j => v 37 (4 * o + j)) k.toNat by omega] at t
      exact t
/-- an order is filled -/
theorem PD.filled {v w : Vw} {o : Int} (h : PD v) (ho : 0 ≤ o ∧ o < v 6 0) (h6 : v 6 0 ≤ 20) (h34 : v 34 o = 111) (dr : Drs o (osm v o) v w) (F : ∀ k, k ≠ 9 ∧ k ≠ 10 ∧ k ≠ 15 ∧ k ≠ 18 ∧ k ≠ 28 ∧ k ≠ 31 ∧ k ≠ 44 ∧ k ≠ 45 ∧ k ≠ 46 → ∀ i, w k i = v k i) : PD (flV w o (v 8 0) (v 11 0 + 1)) := by
  obtain ⟨d1, d2, d3, d4, d5⟩ := h
  obtain ⟨r1, r2, r3, r4⟩ := dr
  have G : ∀ k, k ≠ 11 ∧ k ≠ 34 ∧ k ≠ 35 → ∀ i, flV w o (v 8 0) (v 11 0 + 1) k i = w k i := fun k hk i => congrFun (flV_fr hk) i
  have e34 : ∀ x, flV w o (v 8 0) (v 11 0 + 1) 34 x = if x = o then 102 else v 34 x := fun x => by rw [flV_n.1, F 34 (by decide)]
  have e35 : ∀ x, flV w o (v 8 0) (v 11 0 + 1) 35 x = if x = o then v 8 0 else v 35 x := fun x => by rw [(flV_n (x := x)).2.1, F 35 (by decide)]
  have e11 : flV w o (v 8 0) (v 11 0 + 1) 11 0 = v 11 0 + 1 := (flV_n (x := 0)).2.2
  have e6 : flV w o (v 8 0) (v 11 0 + 1) 6 0 = v 6 0 := (G 6 (by decide) 0).trans (F 6 (by decide) 0)
  have e8 : flV w o (v 8 0) (v 11 0 + 1) 8 0 = v 8 0 := (G 8 (by decide) 0).trans (F 8 (by decide) 0)
  have g9 := G 9 (by decide) 0
  have g45 := G 45 (by decide)
  have g46 := G 46 (by decide)
  have no : ∀ e, 0 ≤ e → e < v 9 0 → v 45 e ≠ o := fun e e0 e1 q => by
    have := (d1 e e0 e1).2.2
    rw [q] at this
    omega
  refine ⟨fun e e0 e1 => ?_, fun e e0 e1 => ?_, fun x hx => ?_, fun x x0 x1 => ?_, ?_⟩
  · rw [g9] at e1
    rw [g46, g45, e6, e34]
    by_cases c : e < v 9 0
    · obtain ⟨q1, q2, q3⟩ := d1 e e0 c
      rw [(r2 e c).1, (r2 e c).2, if_neg (no e e0 c)]
      exact ⟨q1, q2, q3⟩
    · obtain ⟨q1, q2⟩ := r3 e (by omega) e1
      rw [q1, if_pos rfl]
      exact ⟨q2, ho, rfl⟩
  · rw [g9] at e1
    rw [g45, g45, e35, e35]
    by_cases c : e < v 9 0
    · rw [(r2 e c).1, (r2 (e - 1) (by omega)).1, if_neg (no e (by omega) c), if_neg (no (e - 1) (by omega) (by omega))]
      exact d2 e e0 c
    · rw [(r3 e (by omega) e1).1, if_pos rfl]
      by_cases c2 : e - 1 < v 9 0
      · rw [(r2 (e - 1) c2).1, if_neg (no (e - 1) (by omega) c2)]
        exact d3 _ (d1 (e - 1) (by omega) c2).2.2
      · rw [(r3 (e - 1) (by omega) (by omega)).1, if_pos rfl]
        exact Int.le_refl _
  · rw [e34] at hx
    rw [e35, e8]
    by_cases c : x = o
    · rw [if_pos c]
      exact Int.le_refl _
    · rw [if_neg c] at hx ⊢
      exact d3 x hx
  · rw [e6] at x1
    have q1 : dlo (flV w o (v 8 0) (v 11 0 + 1)) x = dlo w x := dlo_congr g9 (fun e _ _ => g45 e) (fun e _ _ => g46 e) x
    have q2 : osm (flV w o (v 8 0) (v 11 0 + 1)) x = osm v x := osm_congr ((G 33 (by decide) x).trans (F 33 (by decide) x)) (fun k _ _ => (G 37 (by decide) _).trans (F 37 (by decide) _))
    rw [q1, q2, r4, d4 x x0 x1, e34]
    by_cases c : x = o
    · rw [if_pos c, if_pos c, if_pos rfl, c, if_neg (by rw [h34]; decide)]
      omega
    · rw [if_neg c, if_neg c]
      omega
  · rw [e11]
    have q := fl_one (v := v) (w := flV w o (v 8 0) (v 11 0 + 1)) (b := o) ⟨ho.1, by omega⟩ (fun i hi => by rw [e34, if_neg hi])
    have z1 : flF (flV w o (v 8 0) (v 11 0 + 1)) o = 0 := by unfold flF; rw [e34, if_pos rfl]; decide
    have z2 : flF v o = 1 := by unfold flF; rw [h34]; decide
    omega
/-- what orders say of their parts -/
def PO (v : Vw) : Prop := (0 ≤ v 9 0 ∧ 0 ≤ v 5 0) ∧ (0 ≤ v 6 0 ∧ v 6 0 ≤ 20) ∧ (∀ o, 0 ≤ v 33 o) ∧ ∀ o, 0 ≤ o → o < v 6 0 → ∀ k, 0 ≤ k → k < v 33 o → (0 ≤ v 36 (4 * o + k) ∧ v 36 (4 * o + k) < v 1 0) ∧ 1 ≤ v 37 (4 * o + k)
theorem PO.fr {v w : Vw} (h : PO v) (h9 : 0 ≤ w 9 0) (F : ∀ k, k = 1 ∨ k = 5 ∨ k = 6 ∨ k = 33 ∨ k = 36 ∨ k = 37 → ∀ i, w k i = v k i) : PO w := by
  obtain ⟨a, b, d, e⟩ := h
  refine ⟨⟨h9, by rw [F 5 (by omega)]; exact a.2⟩, by rw [F 6 (by omega)]; exact b, fun o => by rw [F 33 (by omega)]; exact d o, fun o o0 o1 k k0 k1 => ?_⟩
  rw [F 36 (by omega), F 37 (by omega), F 1 (by omega)]
  exact e o o0 (by rw [← F 6 (by omega)]; exact o1) k k0 (by rw [← F 33 (by omega)]; exact k1)
theorem fills40 {K : Int} : ∀ (n : Nat) (m : Int) (v : Vw), PA K v → PD v → PO v → LK v → PA K (l_fills_40 n m v) ∧ PD (l_fills_40 n m v) := by
  intro n
  induction n with
  | zero => exact fun _ _ h1 h2 _ _ => ⟨h1, h2⟩
  | succ n ih =>
    intro m v hA hD hO hL
    rw [l_fills_40]
    by_cases c1 : v 6 0 ≤ m
    · rw [if_pos c1]
      exact ⟨hA, hD⟩
    · rw [if_neg c1]
      have g := r_l_fills_52 (v := v) (((v 6 0) - 0).toNat + 1) (-1) 0 (Int.le_refl _) (Int.le_refl 0) (by omega)
      revert g
      generalize l_fills_52 v (((v 6 0) - 0).toNat + 1) (-1) 0 = o
      intro g
      by_cases c2 : o = -1
      · rw [if_pos c2]
        exact ⟨hA, hD⟩
      · rw [if_neg c2]
        obtain ⟨o0, o1, o2⟩ := g.2.resolve_left c2
        have h34 := hL o o0 o1 o2
        have A1 : PA K (upv v 38 o 1) := hA.fr (fun k hk i => upv_nk (by omega))
        have D1 : PD (upv v 38 o 1) := hD.fr (fun k hk i => upv_nk (by omega))
        have O1 : PO (upv v 38 o 1) := hO.fr hO.1.1 (fun k hk i => upv_nk (by omega))
        by_cases c3 : f_canFill o (upv v 38 o 1) = 0
        · rw [if_pos c3]
          exact ih _ _ A1 D1 O1 (LK_st (v := v) (w := upv v 38 o 1) o (by simp [upv]) (fun i hi => by simp [upv, hi]) (fun i _ => rfl) rfl hL)
        · rw [if_neg c3]
          have cf : ∀ q, 0 ≤ q → q < v 1 0 → wants (upv v 38 o 1) o q ≤ f_stockOf q (upv v 38 o 1) := fun q q0 q1 => by
            rcases cf_ref (v := upv v 38 o 1) (o := o) ((((upv v 38 o 1) 1 0) - 0).toNat + 1) 0 (by omega) with ⟨-, z⟩ | ⟨z, -⟩
            · exact z q q0 q1
            · exact absurd z c3
          have O33 := O1.2.2.1 o
          have z := fills_ok1 (o := o) (K := K) ((((upv v 38 o 1) 33 o) - 0).toNat + 1) 0 (upv v 38 o 1) A1 O1.1.1 O1.1.2 (Int.le_refl 0) O33 (by omega) (O1.2.2.2 o o0 o1) (fun q q0 q1 => by
            have := cf q q0 q1
            rw [wants_eq O33, stock_eq O1.1.2] at this
            show _ - 0 ≤ _
            omega)
          have F : ∀ k, k ≠ 9 ∧ k ≠ 10 ∧ k ≠ 15 ∧ k ≠ 18 ∧ k ≠ 28 ∧ k ≠ 31 ∧ k ≠ 44 ∧ k ≠ 45 ∧ k ≠ 46 → ∀ i, l_fills_123 o ((((upv v 38 o 1) 33 o) - 0).toNat + 1) 0 (upv v 38 o 1) k i = (upv v 38 o 1) k i := fun k hk i => fr_l_fills_123 _ _ _ k i hk
          obtain ⟨z1, z2⟩ := z
          have zs : sI (fun j => (upv v 38 o 1) 37 (4 * o + j)) ((upv v 38 o 1) 33 o).toNat - sI (fun j => (upv v 38 o 1) 37 (4 * o + j)) (0 : Int).toNat = osm (upv v 38 o 1) o := by
            show _ - 0 = _
            unfold osm
            omega
          rw [zs] at z1
          have D2 := D1.filled ⟨o0, o1⟩ hO.2.1.2 h34 z1 F
          have A2 : PA K (flV (l_fills_123 o ((((upv v 38 o 1) 33 o) - 0).toNat + 1) 0 (upv v 38 o 1)) o (v 8 0) (v 11 0 + 1)) := z2.fr (fun k hk i => congrFun (flV_fr (by omega)) i)
          have fl9 : flV (l_fills_123 o ((((upv v 38 o 1) 33 o) - 0).toNat + 1) 0 (upv v 38 o 1)) o (v 8 0) (v 11 0 + 1) 9 0 = l_fills_123 o ((((upv v 38 o 1) 33 o) - 0).toNat + 1) 0 (upv v 38 o 1) 9 0 := congrFun (flV_fr (by decide)) 0
          have O2 : PO (flV (l_fills_123 o ((((upv v 38 o 1) 33 o) - 0).toNat + 1) 0 (upv v 38 o 1)) o (v 8 0) (v 11 0 + 1)) := O1.fr (by
            rw [fl9]
            have := z1.1
            have := O1.1.1
            omega) (fun k hk i => by
            rw [congrFun (flV_fr (by omega)) i]
            exact F k (by omega) i)
          have e38 : ∀ i, flV (l_fills_123 o ((((upv v 38 o 1) 33 o) - 0).toNat + 1) 0 (upv v 38 o 1)) o (v 8 0) (v 11 0 + 1) 38 i = (upv v 38 o 1) 38 i := fun i => by
            rw [congrFun (flV_fr (by decide)) i]
            exact F 38 (by decide) i
          have e6 : flV (l_fills_123 o ((((upv v 38 o 1) 33 o) - 0).toNat + 1) 0 (upv v 38 o 1)) o (v 8 0) (v 11 0 + 1) 6 0 = v 6 0 := by
            rw [congrFun (flV_fr (by decide)) 0]
            exact F 6 (by decide) 0
          have e34 : ∀ i, i ≠ o → flV (l_fills_123 o ((((upv v 38 o 1) 33 o) - 0).toNat + 1) 0 (upv v 38 o 1)) o (v 8 0) (v 11 0 + 1) 34 i = v 34 i := fun i hi => by
            rw [flV_n.1, if_neg hi]
            exact F 34 (by decide) i
          have L2 : LK (flV (l_fills_123 o ((((upv v 38 o 1) 33 o) - 0).toNat + 1) 0 (upv v 38 o 1)) o (v 8 0) (v 11 0 + 1)) := LK_st (v := v) o (by rw [e38]; simp [upv]) (fun i hi => by rw [e38]; simp [upv, hi]) e34 e6 hL
          exact ih _ _ A2 D2 O2 L2
theorem fills_all {K : Int} {v : Vw} (hA : PA K v) (hD : PD v) (hO : PO v) : PA K (f_fills v) ∧ PD (f_fills v) := by
  unfold f_fills
  have F : ∀ k, k ≠ 38 → ∀ i, l_fills_2 (((v 6 0) - 0).toNat + 1) 0 v k i = v k i := fun k hk i => fr_l_fills_2 _ _ _ k i hk
  have L := looked_l_fills_2 (((v 6 0) - 0).toNat + 1) 0 v (fun p p0 p1 => by omega) (Int.le_refl 0) (by omega)
  exact fills40 _ _ _ (hA.fr (fun k hk i => F k (by omega) i)) (hD.fr (fun k hk i => F k (by omega) i)) (hO.fr (by rw [F 9 (by decide)]; exact hO.1.1) (fun k hk i => F k (by omega) i)) L
