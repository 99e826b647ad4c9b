/-! the class's judgement with what holds at the end; its lists' calls; what never changes; ranges (written by wip/whole/mk29.py) -/
def Evq (X : Cx) (M : Mt) (d pc : Nat) (ls : List (Option Value)) (st : List Value) (σ : Hp) (Q : Rs → Hp → Prop) : Prop := ∃ o τ, Ev X M d pc ls st σ o τ ∧ Q o τ
section EVQ
variable {X : Cx} {M : Mt} {d pc : Nat} {ls : List (Option Value)} {rest st : List Value} {σ : Hp} {Q : Rs → Hp → Prop}
theorem Evq.lift {pc' : Nat} {ls' : List (Option Value)} {st' : List Value} {σ' : Hp} (h : ∀ o τ, Ev X M d pc' ls' st' σ' o τ → Ev X M d pc ls st σ o τ) (k : Evq X M d pc' ls' st' σ' Q) : Evq X M d pc ls st σ Q := by
  obtain ⟨o, τ, h1, h2⟩ := k
  exact ⟨o, τ, h o τ h1, h2⟩
theorem Evq.fgt {ls' : List (Option Value)} (h : lsub ls' ls) (k : Evq X M d pc ls' st σ Q) : Evq X M d pc ls st σ Q := Evq.lift (fun _ _ kk => Ev.fgt h kk) k
theorem Evq.iret {x : Int32} {ty : FieldType} (hr : M.rt = some ty) (hn : narrow ty (.int x) = .int x) (d9 : decode M.cc pc = .ok (.ireturn, 1)) (hq : Q (.inl (some (.int x))) σ) : Evq X M d pc ls [.int x] σ Q := ⟨_, _, Ev.iret hr hn d9, hq⟩
theorem Evq.aret {v : Option Nat} {ty : FieldType} (hr : M.rt = some ty) (ht : ty.isReference = true) (d9 : decode M.cc pc = .ok (.areturn, 1)) (hq : Q (.inl (some (va_rf v))) σ) : Evq X M d pc ls [va_rf v] σ Q := ⟨_, _, Ev.aret hr ht d9, hq⟩
theorem Evq.vret (hr : M.rt = none) (d9 : decode M.cc pc = .ok (.return_, 1)) (hq : Q (.inl none) σ) : Evq X M d pc ls [] σ Q := ⟨_, _, Ev.vret hr d9, hq⟩
theorem Evq.fret {v : UInt32} (hr : M.rt = some .float) (d9 : decode M.cc pc = .ok (.freturn, 1)) (hq : Q (.inl (some (.float v))) σ) : Evq X M d pc ls [.float v] σ Q := ⟨_, _, Ev.fret hr d9, hq⟩
theorem Evq.end (o : Rs) (τ : Hp) (h : Ev X M d pc ls st σ o τ) (hq : Q o τ) : Evq X M d pc ls st σ Q := ⟨o, τ, h, hq⟩
theorem Evq.of {av : List Value} (hp : plainName M.y.cls = true) (hh : M.hh = []) (hlen : av.length ≤ M.ml) (hcat : ∀ v ∈ av, v.category = 1) (k : Evq X M d 0 (enL M.ml av) [] σ Q) : ∃ o τ, Ct X M d av σ o τ ∧ Q o τ := by
  obtain ⟨o, τ, h1, h2⟩ := k
  exact ⟨o, τ, Ct.of hp hh hlen hcat h1, h2⟩
end EVQ
/-- answers, all stays -/
def Qp (σ : Hp) (r : Option Value) : Rs → Hp → Prop := fun o τ => o = .inl r ∧ τ = σ
/-- answers, the class's state is another -/
def Qk (X : Cx) (ρ : Hp) (A : Nat → Int → Nat) (r : Option Value) (c' : Cs) : Rs → Hp → Prop := fun o τ => o = .inl r ∧ ∃ B', CR X ρ τ A c' B'
/-- answers, the class's state is another with new objects -/
def Qn (X : Cx) (ρ : Hp) (c : Cs) (A : Nat → Int → Nat) (r : Option Value) (c' : Cs) : Rs → Hp → Prop := fun o τ => o = .inl r ∧ ∃ A' B', CR X ρ τ A' c' B' ∧ Ext c A A'
theorem Qp.ct {X : Cx} {M : Mt} {d : Nat} {av : List Value} {σ : Hp} {r : Option Value} (h : ∃ o τ, Ct X M d av σ o τ ∧ Qp σ r o τ) : Ct X M d av σ (.inl r) σ := by
  obtain ⟨o, τ, h1, h2, h3⟩ := h
  subst h2 h3
  exact h1
theorem Qk.ct {X : Cx} {M : Mt} {d : Nat} {av : List Value} {ρ σ : Hp} {A : Nat → Int → Nat} {r : Option Value} {c' : Cs} (h : ∃ o τ, Ct X M d av σ o τ ∧ Qk X ρ A r c' o τ) : ∃ τ B', Ct X M d av σ (.inl r) τ ∧ CR X ρ τ A c' B' := by
  obtain ⟨o, τ, h1, h2, B', h3⟩ := h
  subst h2
  exact ⟨τ, B', h1, h3⟩
theorem Qn.ct {X : Cx} {M : Mt} {d : Nat} {av : List Value} {ρ σ : Hp} {A : Nat → Int → Nat} {r : Option Value} {c c' : Cs} (h : ∃ o τ, Ct X M d av σ o τ ∧ Qn X ρ c A r c' o τ) : ∃ τ A' B', Ct X M d av σ (.inl r) τ ∧ CR X ρ τ A' c' B' ∧ Ext c A A' := by
  obtain ⟨o, τ, h1, h2, A', B', h3⟩ := h
  subst h2
  exact ⟨τ, A', B', h1, h3⟩
def lget (xs : List Int) (z : Int) : Int := xs.getD z.toNat 0
theorem lget_some {xs : List Int} {z : Int} (h0 : 0 ≤ z) (h1 : z < (xs.length : Int)) : xs[z.toNat]? = some (lget xs z) := by
  have h : z.toNat < xs.length := by omega
  unfold lget
  rw [List.getD_eq_getElem?_getD, List.getElem?_eq_getElem h]
  rfl
theorem lget_mem {xs : List Int} {z : Int} (h0 : 0 ≤ z) (h1 : z < (xs.length : Int)) : lget xs z ∈ xs := List.mem_of_getElem? (lget_some h0 h1)
theorem mem_rem {xs : List Int} {x : Int} : ∀ {i : Nat}, x ∈ remL xs i → x ∈ xs := by
  induction xs with
  | nil => exact fun h => h
  | cons y ys ih =>
    intro i h
    cases i with
    | zero => exact List.mem_cons_of_mem _ h
    | succ i =>
      rcases List.mem_cons.mp (show x ∈ y :: remL ys i from h) with e | e
      · rw [e]
        exact List.mem_cons_self
      · exact List.mem_cons_of_mem _ (ih e)
theorem mem_ins {xs : List Int} {x z : Int} : ∀ {i : Nat}, x ∈ insL xs i z → x = z ∨ x ∈ xs := by
  induction xs with
  | nil =>
    intro i h
    cases i with
    | zero => exact Or.inl (List.mem_singleton.mp h)
    | succ i => exact Or.inl (List.mem_singleton.mp h)
  | cons y ys ih =>
    intro i h
    cases i with
    | zero => exact List.mem_cons.mp h
    | succ i =>
      rcases List.mem_cons.mp (show x ∈ y :: insL ys i z from h) with e | e
      · rw [e]
        exact Or.inr List.mem_cons_self
      · exact (ih e).imp id (List.mem_cons_of_mem _)
section QL
variable {X : Cx} {ρ σ : Hp} {A : Nat → Int → Nat} {c : Cs} {B : Int → Nat} {l : Int}
theorem CR.len (h : CR X ρ σ A c B) (h0 : 0 ≤ l) (h1 : l < c.1 2) : ((c.2.2.1 l).length : Int) ≤ 200 := by
  have := (h.ll h0 h1).2.2.2.1
  rw [List.length_map] at this
  omega
theorem CR.elt {z : Int} {t : Nat} (h : CR X ρ σ A c B) (h0 : 0 ≤ l) (h1 : l < c.1 2) (ht : tel l = t) (hz0 : 0 ≤ z) (hz : z < ((c.2.2.1 l).length : Int)) : 0 ≤ lget (c.2.2.1 l) z ∧ lget (c.2.2.1 l) z < c.1 t := by
  have := h.lm h0 h1 (lget_mem hz0 hz)
  rw [ht] at this
  exact this.2
theorem q_size (h : CR X ρ σ A c B) (h0 : 0 ≤ l) (h1 : l < c.1 2) : Ct X m_Jx4a65c_size_8abf5 1 [va_rf (some (A 2 l))] σ (.inl (some (.int (i32 ((c.2.2.1 l).length : Int))))) σ := by
  have g := s_lsize (h.ll h0 h1)
  rw [List.length_map] at g
  exact g
theorem q_empty (h : CR X ρ σ A c B) (h0 : 0 ≤ l) (h1 : l < c.1 2) : Ct X m_Jx4a65c_isEmpty_aae02 1 [va_rf (some (A 2 l))] σ (.inl (some (.int (i32 (if (c.2.2.1 l).length = 0 then 1 else 0))))) σ := by
  have g := s_lempty (h.ll h0 h1)
  rw [List.length_map] at g
  exact g
theorem map_get {f : Int → Nat} {xs : List Int} {z : Int} (h0 : 0 ≤ z) (hz : z < (xs.length : Int)) : (xs.map f)[z.toNat]? = some (f (lget xs z)) := by
  rw [List.getElem?_map, lget_some h0 hz]
  rfl
theorem q_get {z : Int} {t : Nat} (h : CR X ρ σ A c B) (h0 : 0 ≤ l) (h1 : l < c.1 2) (ht : tel l = t) (hz0 : 0 ≤ z) (hz : z < ((c.2.2.1 l).length : Int)) : Ct X m_Jx4a65c_get_915e3 3 [va_rf (some (A 2 l)), .int (i32 z)] σ (.inl (some (va_rf (some (A t (lget (c.2.2.1 l) z)))))) σ := by
  subst ht
  exact s_lget (h.ll h0 h1) hz0 (map_get hz0 hz)
theorem q_add {x : Int} {t : Nat} (h : CR X ρ σ A c B) (h0 : 0 ≤ l) (h1 : l < c.1 2) (ht : tel l = t) (hn : ((c.2.2.1 l).length : Int) ≤ 199) (hx : rg c t x) : ∃ τ B', Ct X m_Jx4a65c_add_9ea2d 6 [va_rf (some (A 2 l)), va_rf (some (A t x))] σ (.inl (some (.int (i32 1)))) τ ∧ CR X ρ τ A (clst c l (c.2.2.1 l ++ [x])) B' := by
  subst ht
  have hk := h.kd hx
  have ht := tel_rg l
  obtain ⟨τ, B', hC, hL, hF⟩ := s_ladd h.1 (h.ll h0 h1) (by rw [List.length_map]; omega) (x := A (tel l) x) (by omega)
  refine ⟨τ, _, hC, h.list h0 h1 hF (by rw [List.map_append]; exact hL) (fun y hy => ?_)⟩
  rcases List.mem_append.mp hy with e | e
  · exact h.lm h0 h1 e
  · rw [List.mem_singleton.mp e]
    exact hx
theorem q_ins {x z : Int} {t : Nat} (h : CR X ρ σ A c B) (h0 : 0 ≤ l) (h1 : l < c.1 2) (ht : tel l = t) (hn : ((c.2.2.1 l).length : Int) ≤ 199) (hz0 : 0 ≤ z) (hz : z ≤ ((c.2.2.1 l).length : Int)) (hx : rg c t x) : ∃ τ B', Ct X m_Jx4a65c_add_7a177 6 [va_rf (some (A 2 l)), .int (i32 z), va_rf (some (A t x))] σ (.inl none) τ ∧ CR X ρ τ A (clst c l (insL (c.2.2.1 l) z.toNat x)) B' := by
  subst ht
  have hk := h.kd hx
  have ht := tel_rg l
  obtain ⟨τ, B', hC, hL, hF⟩ := s_lins h.1 (h.ll h0 h1) (by rw [List.length_map]; omega) (x := A (tel l) x) (by omega) hz0 (by rw [List.length_map]; exact hz)
  refine ⟨τ, _, hC, h.list h0 h1 hF (by rw [← insL_map]; exact hL) (fun y hy => ?_)⟩
  rcases mem_ins hy with e | e
  · rw [e]
    exact hx
  · exact h.lm h0 h1 e
theorem q_rem {z : Int} {t : Nat} (h : CR X ρ σ A c B) (h0 : 0 ≤ l) (h1 : l < c.1 2) (ht : tel l = t) (hz0 : 0 ≤ z) (hz : z < ((c.2.2.1 l).length : Int)) : ∃ τ B', Ct X m_Jx4a65c_remove_915e3 3 [va_rf (some (A 2 l)), .int (i32 z)] σ (.inl (some (va_rf (some (A t (lget (c.2.2.1 l) z)))))) τ ∧ CR X ρ τ A (clst c l (remL (c.2.2.1 l) z.toNat)) B' := by
  subst ht
  obtain ⟨τ, hC, hL, hF⟩ := s_lrem h.1 (h.ll h0 h1) hz0 (map_get hz0 hz)
  exact ⟨τ, _, hC, h.list h0 h1 hF (by rw [← remL_map]; exact hL) (fun y hy => h.lm h0 h1 (mem_rem hy))⟩
theorem map_set {f : Int → Nat} {xs : List Int} {i : Nat} {x : Int} : (xs.set i x).map f = (xs.map f).set i (f x) := by
  induction xs generalizing i with
  | nil => rfl
  | cons y ys ih =>
    cases i with
    | zero => rfl
    | succ i =>
      show f y :: (ys.set i x).map f = f y :: (ys.map f).set i (f x)
      rw [ih]
theorem mem_set' {xs : List Int} {x z : Int} : ∀ {i : Nat}, x ∈ xs.set i z → x = z ∨ x ∈ xs := by
  induction xs with
  | nil => exact fun h => Or.inr h
  | cons y ys ih =>
    intro i h
    cases i with
    | zero => exact (List.mem_cons.mp (show x ∈ z :: ys from h)).imp id (List.mem_cons_of_mem _)
    | succ i =>
      rcases List.mem_cons.mp (show x ∈ y :: ys.set i z from h) with e | e
      · rw [e]
        exact Or.inr List.mem_cons_self
      · exact (ih e).imp id (List.mem_cons_of_mem _)
theorem q_set {x z : Int} {t : Nat} (h : CR X ρ σ A c B) (h0 : 0 ≤ l) (h1 : l < c.1 2) (ht : tel l = t) (hz0 : 0 ≤ z) (hz : z < ((c.2.2.1 l).length : Int)) (hx : rg c t x) : ∃ τ B', Ct X m_Jx4a65c_set_bcc79 3 [va_rf (some (A 2 l)), .int (i32 z), va_rf (some (A t x))] σ (.inl (some (va_rf (some (A t (lget (c.2.2.1 l) z)))))) τ ∧ CR X ρ τ A (clst c l ((c.2.2.1 l).set z.toNat x)) B' := by
  subst ht
  have hk := h.kd hx
  have ht := tel_rg l
  have hL := h.ll h0 h1
  refine ⟨_, _, s_lset hL hz0 (map_get hz0 hz) (by omega), h.list h0 h1 (Fr.set h.1) (by rw [map_set]; exact hL.set (by rw [List.length_map]; omega) (by omega)) (fun y hy => ?_)⟩
  rcases mem_set' hy with e | e
  · rw [e]
    exact hx
  · exact h.lm h0 h1 e
theorem q_clear (h : CR X ρ σ A c B) (h0 : 0 ≤ l) (h1 : l < c.1 2) : ∃ τ B', Ct X m_Jx4a65c_clear_da8c8 1 [va_rf (some (A 2 l))] σ (.inl none) τ ∧ CR X ρ τ A (clst c l []) B' := by
  obtain ⟨τ, hC, hL, hF⟩ := s_lclear h.1 (h.ll h0 h1)
  exact ⟨τ, _, hC, h.list h0 h1 hF hL (fun y hy => by simp at hy)⟩
end QL
/-- fields set once, that tie the objects together -/
def stF (ci k : Nat) : Bool := ci == 13 && decide (k ≤ 9) || ci == 8 && decide (k ≤ 3) || ci == 12 && k == 1 || ci == 5 && k == 2 || ci == 3 && k == 1 || ci == 4 && decide (k ≤ 1) || ci == 6 && k == 0 || ci == 9 && k == 2 || ci == 10 && k == 0
def SF (c : Cs) : Prop :=
  (c.1 13 = 1 ∧ c.1 8 = 1 ∧ c.1 12 = 4 ∧ c.1 2 = 17 + c.1 5 ∧ 0 ≤ c.1 5) ∧
  (c.2.1 13 0 0 = 0 ∧ c.2.1 13 1 0 = 1 ∧ c.2.1 13 2 0 = 2 ∧ c.2.1 13 3 0 = 3 ∧ c.2.1 13 4 0 = 4 ∧ c.2.1 13 5 0 = 5 ∧ c.2.1 13 6 0 = 6 ∧ c.2.1 13 7 0 = 7 ∧ c.2.1 13 8 0 = 8 ∧ c.2.1 13 9 0 = 0) ∧
  (c.2.1 8 0 0 = 9 ∧ c.2.1 8 1 0 = 10 ∧ c.2.1 8 2 0 = 11 ∧ c.2.1 8 3 0 = 12) ∧
  (∀ y, 0 ≤ y → y < 4 → c.2.1 12 1 y = 13 + y) ∧ (∀ o, 0 ≤ o → o < c.1 5 → c.2.1 5 2 o = 17 + o) ∧
  (∀ b, 0 ≤ b → b < c.1 3 → c.2.1 3 1 b ≠ -1) ∧ (∀ e, 0 ≤ e → e < c.1 4 → c.2.1 4 0 e ≠ -1 ∧ c.2.1 4 1 e ≠ -1) ∧ (∀ p, 0 ≤ p → p < c.1 6 → c.2.1 6 0 p ≠ -1) ∧ (∀ r, 0 ≤ r → r < c.1 9 → c.2.1 9 2 r ≠ -1) ∧ (∀ s, 0 ≤ s → s < c.1 10 → c.2.1 10 0 s ≠ -1)
theorem SF.put {c : Cs} {ci k : Nat} {i x : Int} (h : SF c) (hs : stF ci k = false) : SF (cput c ci k i x) := by
  have e : ∀ a b j, stF a b = true → (cput c ci k i x).2.1 a b j = c.2.1 a b j := fun a b j hst => if_neg (fun q => by rw [q.1, q.2.1, hs] at hst; cases hst)
  obtain ⟨h1, h2, h3, h4, h5, h6, h7, h8, h9, h10⟩ := h
  refine ⟨h1, ?_, ?_, fun y y0 y1 => ?_, fun y y0 y1 => ?_, fun y y0 y1 => ?_, fun y y0 y1 => ?_, fun y y0 y1 => ?_, fun y y0 y1 => ?_, fun y y0 y1 => ?_⟩
  · rw [e 13 0 0 rfl, e 13 1 0 rfl, e 13 2 0 rfl, e 13 3 0 rfl, e 13 4 0 rfl, e 13 5 0 rfl, e 13 6 0 rfl, e 13 7 0 rfl, e 13 8 0 rfl, e 13 9 0 rfl]
    exact h2
  · rw [e 8 0 0 rfl, e 8 1 0 rfl, e 8 2 0 rfl, e 8 3 0 rfl]
    exact h3
  · rw [e 12 1 y rfl]
    exact h4 y y0 y1
  · rw [e 5 2 y rfl]
    exact h5 y y0 y1
  · rw [e 3 1 y rfl]
    exact h6 y y0 y1
  · rw [e 4 0 y rfl, e 4 1 y rfl]
    exact h7 y y0 y1
  · rw [e 6 0 y rfl]
    exact h8 y y0 y1
  · rw [e 9 2 y rfl]
    exact h9 y y0 y1
  · rw [e 10 0 y rfl]
    exact h10 y y0 y1
theorem SF.lst {c : Cs} {l : Int} {xs : List Int} (h : SF c) : SF (clst c l xs) := h
theorem SF.exc {c : Cs} (h : SF c) : SF (cexc c) := h
/-- ranges: E grows by little; a slot's day and a best day may be some sums of others -/
def wd (ci k : Nat) (E : Int) : Int := if (ci = 10 ∧ k = 1) ∨ (ci = 8 ∧ k = 4) then 8 * E else E
def IC (c : Cs) (E : Int) : Prop := (1000 ≤ E ∧ E ≤ 100000000) ∧ ∀ ci k i, -(wd ci k E) ≤ c.2.1 ci k i ∧ c.2.1 ci k i ≤ wd ci k E
theorem IC.put {c : Cs} {E : Int} (h : IC c E) (ci k : Nat) (i x : Int) (hx : -(wd ci k E) ≤ x ∧ x ≤ wd ci k E) : IC (cput c ci k i x) E := ⟨h.1, fun a b j => by
  show -(wd a b E) ≤ (if a = ci ∧ b = k ∧ j = i then x else c.2.1 a b j) ∧ (if a = ci ∧ b = k ∧ j = i then x else c.2.1 a b j) ≤ wd a b E
  by_cases q : a = ci ∧ b = k ∧ j = i
  · rw [if_pos q, q.1, q.2.1]
    exact hx
  · rw [if_neg q]
    exact h.2 a b j⟩
theorem IC.lst {c : Cs} {E : Int} {l : Int} {xs : List Int} (h : IC c E) : IC (clst c l xs) E := h
theorem IC.exc {c : Cs} {E : Int} (h : IC c E) : IC (cexc c) E := h
theorem IC.new {c : Cs} {E : Int} {ci : Nat} (h : IC c E) : IC (cnew c ci) E := ⟨h.1, fun a b j => by
  have h0 := h.2 a b j
  have h1 := h.1
  have h2 : 1 ≤ wd a b E := by unfold wd; split <;> omega
  show -(wd a b E) ≤ (if a = ci ∧ j = c.1 ci then (if isRf ci b = true then -1 else 0) else c.2.1 a b j) ∧ (if a = ci ∧ j = c.1 ci then (if isRf ci b = true then -1 else 0) else c.2.1 a b j) ≤ wd a b E
  split
  · split <;> omega
  · exact h0⟩
theorem IC.mono {c : Cs} {E E' : Int} (h : IC c E) (h1 : E ≤ E') (h2 : E' ≤ 100000000) : IC c E' := ⟨by have := h.1; omega, fun a b j => by
  have h0 := h.2 a b j
  unfold wd at h0 ⊢
  split at h0
  · rename_i q
    rw [if_pos q]
    omega
  · rename_i q
    rw [if_neg q]
    omega⟩
theorem tel_part {l : Int} (h : 17 ≤ l) : tel l = 6 := by
  unfold tel
  rw [if_neg (by omega), if_neg (by omega), if_neg (by omega), if_neg (by omega), if_neg (by omega), if_neg (by omega), if_neg (by omega), if_neg (by omega), if_neg (by omega), if_neg (by omega), if_neg (by omega), if_neg (by omega), if_neg (by omega), if_neg (by omega)]
theorem tel_pitch {l : Int} (h : 13 ≤ l) (h2 : l < 17) : tel l = 7 := by
  unfold tel
  rw [if_neg (by omega), if_neg (by omega), if_neg (by omega), if_neg (by omega), if_neg (by omega), if_neg (by omega), if_neg (by omega), if_neg (by omega), if_neg (by omega), if_neg (by omega), if_neg (by omega), if_neg (by omega), if_neg (by omega), if_pos (by omega)]
