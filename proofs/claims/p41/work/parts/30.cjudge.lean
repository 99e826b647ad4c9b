/-! the class's judgement over its state of numbers alone: values are pairs: (0, z) the int z; (1, z) the float with the bits z; (t, z), 2 ≤ t < 100, the z-th object of class t; (t + 100, z) the same, or null where z is -1 -/
abbrev AV : Type := Nat × Int
def ia (A : Nat → Int → Nat) (x : AV) : Value := if x.1 = 0 then .int (i32 x.2) else if x.1 = 1 then .float (UInt32.ofNat x.2.toNat) else if x.1 < 100 then va_rf (some (A x.1 x.2)) else va_rf (oA A (x.1 - 100) x.2)
theorem ia_r {A : Nat → Int → Nat} {t : Nat} {z : Int} (h : 2 ≤ t ∧ t < 100) : ia A (t, z) = va_rf (some (A t z)) := by
  show (if t = 0 then _ else if t = 1 then _ else if t < 100 then _ else _) = _
  rw [if_neg (by omega), if_neg (by omega), if_pos h.2]
theorem ia_q {A : Nat → Int → Nat} {t : Nat} {z : Int} : ia A (t + 100, z) = va_rf (oA A t z) := by
  show (if t + 100 = 0 then _ else if t + 100 = 1 then _ else if t + 100 < 100 then _ else va_rf (oA A (t + 100 - 100) z)) = _
  rw [if_neg (by omega), if_neg (by omega), if_neg (by omega), Nat.add_sub_cancel]
theorem ia_ref {A : Nat → Int → Nat} {x : AV} (h : 2 ≤ x.1) : ∃ r, ia A x = va_rf r := by
  unfold ia
  rw [if_neg (by omega), if_neg (by omega)]
  split
  · exact ⟨_, rfl⟩
  · exact ⟨_, rfl⟩
theorem ia_cat {A : Nat → Int → Nat} {x : AV} : (ia A x).category = 1 := by
  unfold ia
  split
  · rfl
  · split
    · rfl
    · split
      · rfl
      · unfold oA
        split <;> rfl
def wv (c : Cs) (x : AV) : Prop := (2 ≤ x.1 → x.1 < 100 → rg c x.1 x.2) ∧ (100 ≤ x.1 → x.2 = -1 ∨ rg c (x.1 - 100) x.2)
theorem wv_i {c : Cs} {z : Int} : wv c (0, z) := ⟨fun h => absurd h (by show ¬ 2 ≤ 0; omega), fun h => absurd h (by show ¬ 100 ≤ 0; omega)⟩
theorem wv_r {c : Cs} {t : Nat} {z : Int} (h : rg c t z) : wv c (t, z) := ⟨fun _ _ => h, fun h2 => absurd h.1.2 (by have h3 : 100 ≤ t := h2; omega)⟩
theorem wv_q {c : Cs} {t : Nat} {z : Int} (h : z = -1 ∨ rg c t z) : wv c (t + 100, z) := ⟨fun _ h2 => absurd h2 (by show ¬ t + 100 < 100; omega), fun _ => by show z = -1 ∨ rg c (t + 100 - 100) z; rw [Nat.add_sub_cancel]; exact h⟩
theorem wv.r {c : Cs} {t : Nat} {z : Int} (h : wv c (t, z)) (ht : 2 ≤ t ∧ t < 100) : rg c t z := h.1 ht.1 ht.2
theorem wv.q {c : Cs} {t : Nat} {z : Int} (h : wv c (t + 100, z)) : z = -1 ∨ rg c t z := by
  have h1 : z = -1 ∨ rg c (t + 100 - 100) z := h.2 (by show 100 ≤ t + 100; omega)
  rwa [Nat.add_sub_cancel] at h1
def WS (c : Cs) (st : List AV) : Prop := ∀ x ∈ st, wv c x
def WL (c : Cs) (ls : List (Option AV)) : Prop := ∀ x, some x ∈ ls → wv c x
def vl (A : Nat → Int → Nat) (ls : List (Option AV)) : List (Option Value) := ls.map (Option.map (ia A))
theorem WS.cons {c : Cs} {x : AV} {st : List AV} (h : wv c x) (hs : WS c st) : WS c (x :: st) := fun y hy => by
  rcases List.mem_cons.mp hy with e | e
  · rw [e]
    exact h
  · exact hs y e
theorem WS.tl {c : Cs} {x : AV} {st : List AV} (h : WS c (x :: st)) : WS c st := fun y hy => h y (List.mem_cons_of_mem _ hy)
theorem WS.hd {c : Cs} {x : AV} {st : List AV} (h : WS c (x :: st)) : wv c x := h x List.mem_cons_self
theorem WS.app {c : Cs} {a b : List AV} (h : WS c (a ++ b)) : WS c a ∧ WS c b := ⟨fun y hy => h y (List.mem_append_left _ hy), fun y hy => h y (List.mem_append_right _ hy)⟩
theorem WL.get {c : Cs} {ls : List (Option AV)} {i : Nat} {x : AV} (h : WL c ls) (hx : ls[i]? = some (some x)) : wv c x := h x (List.mem_of_getElem? hx)
theorem WL.set {c : Cs} {ls : List (Option AV)} {i : Nat} {x : AV} (h : WL c ls) (hx : wv c x) : WL c (ls.set i (some x)) := fun y hy => by
  rcases List.mem_or_eq_of_mem_set hy with e | e
  · exact h y e
  · cases e
    exact hx
theorem vl_get {A : Nat → Int → Nat} {ls : List (Option AV)} {i : Nat} {x : AV} (hx : ls[i]? = some (some x)) : (vl A ls)[i]? = some (some (ia A x)) := by
  unfold vl
  rw [List.getElem?_map, hx]
  rfl
theorem vl_set {A : Nat → Int → Nat} {ls : List (Option AV)} {i : Nat} {x : AV} : vl A (ls.set i (some x)) = (vl A ls).set i (some (ia A x)) := by
  unfold vl
  rw [List.map_set]
  rfl
theorem ws_cat {A : Nat → Int → Nat} : ∀ (st : List AV), ((st.map (ia A)).map fun v => v.category).sum = st.length := by
  intro st
  induction st with
  | nil => rfl
  | cons x st ih =>
    show (ia A x).category + ((st.map (ia A)).map fun v => v.category).sum = st.length + 1
    rw [ia_cat, ih]
    omega
/-- what never changes: the brewery, its planner, its yeasts and their lists -/
def Fx0 (c : Cs) : Prop :=
  ((∀ ci, 0 ≤ c.1 ci) ∧ c.1 13 = 1 ∧ c.1 8 = 1 ∧ c.1 12 = 4 ∧ 17 ≤ c.1 2) ∧
  (c.2.1 13 0 0 = 0 ∧ c.2.1 13 1 0 = 1 ∧ c.2.1 13 2 0 = 2 ∧ c.2.1 13 3 0 = 3 ∧ c.2.1 13 4 0 = 4 ∧ c.2.1 13 5 0 = 5 ∧ c.2.1 13 6 0 = 6 ∧ c.2.1 13 7 0 = 7 ∧ c.2.1 13 8 0 = 8 ∧ c.2.1 13 9 0 = 0) ∧
  (c.2.1 8 0 0 = 9 ∧ c.2.1 8 1 0 = 10 ∧ c.2.1 8 2 0 = 11 ∧ c.2.1 8 3 0 = 12) ∧
  (∀ y, 0 ≤ y → y < 4 → c.2.1 12 1 y = 13 + y)
def sf0 (ci k : Nat) : Bool := ci == 13 && decide (k ≤ 9) || ci == 8 && decide (k ≤ 3) || ci == 12 && k == 1
theorem Fx0.put {c : Cs} {ci k : Nat} {i x : Int} (h : Fx0 c) (hs : sf0 ci k = false) : Fx0 (cput c ci k i x) := by
  have e : ∀ a b j, sf0 a b = true → (cput c ci k i x).2.1 a b j = c.2.1 a b j := fun a b j hst => if_neg (fun q => by rw [q.1, q.2.1, hs] at hst; cases hst)
  obtain ⟨h1, h2, h3, h4⟩ := h
  refine ⟨h1, ?_, ?_, fun y y0 y1 => ?_⟩
  · rw [e 13 0 0 rfl, e 13 1 0 rfl, e 13 2 0 rfl, e 13 3 0 rfl, e 13 4 0 rfl, e 13 5 0 rfl, e 13 6 0 rfl, e 13 7 0 rfl, e 13 8 0 rfl, e 13 9 0 rfl]
    exact h2
  · rw [e 8 0 0 rfl, e 8 1 0 rfl, e 8 2 0 rfl, e 8 3 0 rfl]
    exact h3
  · rw [e 12 1 y rfl]
    exact h4 y y0 y1
theorem Fx0.lst {c : Cs} {l : Int} {xs : List Int} (h : Fx0 c) : Fx0 (clst c l xs) := h
theorem Fx0.exc {c : Cs} (h : Fx0 c) : Fx0 (cexc c) := h
theorem Fx0.new {c : Cs} {ci : Nat} (h : Fx0 c) (hc : ci ≠ 8 ∧ ci ≠ 12 ∧ ci ≠ 13) : Fx0 (cnew c ci) := by
  obtain ⟨⟨h0, h1, h2, h3, h4⟩, h5, h6, h7⟩ := h
  have e : ∀ a b j, a ≠ ci → (cnew c ci).2.1 a b j = c.2.1 a b j := fun a b j ha => if_neg (fun q => ha q.1)
  have e1 : ∀ a, a ≠ ci → (cnew c ci).1 a = c.1 a := fun a ha => if_neg ha
  have e2 : ∀ a, c.1 a ≤ (cnew c ci).1 a := fun a => by
    show c.1 a ≤ (if a = ci then c.1 a + 1 else c.1 a)
    split <;> omega
  refine ⟨⟨fun a => Int.le_trans (h0 a) (e2 a), by rw [e1 13 (fun q => hc.2.2 q.symm)]; exact h1, by rw [e1 8 (fun q => hc.1 q.symm)]; exact h2, by rw [e1 12 (fun q => hc.2.1 q.symm)]; exact h3, Int.le_trans h4 (e2 2)⟩, ?_, ?_, fun y y0 y1 => ?_⟩
  · simp only [e 13 _ _ (fun q => hc.2.2 q.symm)]
    exact h5
  · simp only [e 8 _ _ (fun q => hc.1 q.symm)]
    exact h6
  · rw [e 12 1 y (fun q => hc.2.1 q.symm)]
    exact h7 y y0 y1
theorem Fx0.newl {c : Cs} (h : Fx0 c) : Fx0 (cnewl c) := by
  obtain ⟨⟨h0, h1, h2, h3, h4⟩, h5, h6, h7⟩ := h
  have e2 : ∀ a, c.1 a ≤ (cnewl c).1 a := fun a => by
    show c.1 a ≤ (if a = 2 then c.1 a + 1 else c.1 a)
    split <;> omega
  exact ⟨⟨fun a => Int.le_trans (h0 a) (e2 a), h1, h2, h3, Int.le_trans h4 (e2 2)⟩, h5, h6, h7⟩
def CS (X : Cx) (ρ σ : Hp) (A : Nat → Int → Nat) (c : Cs) (B : Int → Nat) : Prop := CR X ρ σ A c B ∧ Fx0 c
/-- the state grew -/
def EX (c : Cs) (A : Nat → Int → Nat) (c' : Cs) (A' : Nat → Int → Nat) : Prop := ∀ ci i, rg c ci i → A' ci i = A ci i ∧ rg c' ci i
theorem EX.rfl' {c : Cs} {A : Nat → Int → Nat} : EX c A c A := fun _ _ h => ⟨rfl, h⟩
theorem EX.trans {c c1 c2 : Cs} {A A1 A2 : Nat → Int → Nat} (h : EX c A c1 A1) (g : EX c1 A1 c2 A2) : EX c A c2 A2 := fun ci i hr => by
  have h1 := h ci i hr
  have h2 := g ci i h1.2
  exact ⟨h2.1.trans h1.1, h2.2⟩
theorem EX.iv {c c1 : Cs} {A A1 : Nat → Int → Nat} {x : AV} (h : EX c A c1 A1) (hx : wv c x) : ia A1 x = ia A x ∧ wv c1 x := by
  refine ⟨?_, fun h1 h2 => (h _ _ (hx.1 h1 h2)).2, fun h1 => (hx.2 h1).imp id (fun g => (h _ _ g).2)⟩
  unfold ia
  split
  · rfl
  · split
    · rfl
    · split
      · rename_i h1 h2 h3
        rw [(h _ _ (hx.1 (by omega) h3)).1]
      · rename_i h1 h2 h3
        unfold oA
        split
        · rfl
        · rename_i h4
          rw [(h _ _ ((hx.2 (by omega)).resolve_left h4)).1]
theorem EX.st {c c1 : Cs} {A A1 : Nat → Int → Nat} (h : EX c A c1 A1) : ∀ {st : List AV}, WS c st → st.map (ia A1) = st.map (ia A) ∧ WS c1 st := by
  intro st
  induction st with
  | nil => exact fun _ => ⟨rfl, fun x hx => by cases hx⟩
  | cons x st ih =>
    intro hs
    have h1 := ih hs.tl
    have h2 := h.iv hs.hd
    refine ⟨?_, WS.cons h2.2 h1.2⟩
    show ia A1 x :: st.map (ia A1) = ia A x :: st.map (ia A)
    rw [h1.1, h2.1]
theorem EX.ls {c c1 : Cs} {A A1 : Nat → Int → Nat} (h : EX c A c1 A1) : ∀ {ls : List (Option AV)}, WL c ls → vl A1 ls = vl A ls ∧ WL c1 ls := by
  intro ls
  induction ls with
  | nil => exact fun _ => ⟨rfl, fun x hx => by cases hx⟩
  | cons y ls ih =>
    intro hs
    have h1 := ih (fun x hx => hs x (List.mem_cons_of_mem _ hx))
    cases y with
    | none =>
      refine ⟨?_, fun x hx => ?_⟩
      · show none :: vl A1 ls = none :: vl A ls
        rw [h1.1]
      · rcases List.mem_cons.mp hx with e | e
        · cases e
        · exact h1.2 x e
    | some y =>
      have h2 := h.iv (hs y List.mem_cons_self)
      refine ⟨?_, fun x hx => ?_⟩
      · show some (ia A1 y) :: vl A1 ls = some (ia A y) :: vl A ls
        rw [h1.1, h2.1]
      · rcases List.mem_cons.mp hx with e | e
        · cases e
          exact h2.2
        · exact h1.2 x e
abbrev Rr : Type := Option AV ⊕ String
def ir (A : Nat → Int → Nat) (r : Rr) : Rs := match r with
  | .inl none => .inl none
  | .inl (some x) => .inl (some (ia A x))
  | .inr E => .inr E
def wr (c : Cs) (r : Rr) : Prop := ∀ x, r = .inl (some x) → wv c x
/-- from this place, at the class's state c, the method ends with r at the state c' -/
def Ec (X : Cx) (ρ : Hp) (M : Mt) (d pc : Nat) (ls : List (Option AV)) (st : List AV) (c : Cs) (r : Rr) (c' : Cs) : Prop :=
  ∀ A σ B, CS X ρ σ A c B → WL c ls → WS c st → ∃ τ A' B', Ev X M d pc (vl A ls) (st.map (ia A)) σ (ir A' r) τ ∧ CS X ρ τ A' c' B' ∧ EX c A c' A' ∧ wr c' r
def Kc (X : Cx) (ρ : Hp) (M : Mt) (d : Nat) (as : List AV) (c : Cs) (r : Rr) (c' : Cs) : Prop :=
  ∀ A σ B, CS X ρ σ A c B → WS c as → ∃ τ A' B', Ct X M d (as.map (ia A)) σ (ir A' r) τ ∧ CS X ρ τ A' c' B' ∧ EX c A c' A' ∧ wr c' r
def enA (n : Nat) (as : List AV) : List (Option AV) := as.map some ++ List.replicate (n - as.length) none
theorem enA_vl {A : Nat → Int → Nat} {n : Nat} {as : List AV} : vl A (enA n as) = enL n (as.map (ia A)) := by
  unfold vl enA enL
  rw [List.map_append, List.map_map, List.map_map, List.map_replicate, List.length_map]
  rfl
theorem Kc.of {X : Cx} {ρ : Hp} {M : Mt} {d : Nat} {as : List AV} {c c' : Cs} {r : Rr} (hp : plainName M.y.cls = true) (hh : M.hh = []) (hlen : as.length ≤ M.ml) (k : Ec X ρ M d 0 (enA M.ml as) [] c r c') : Kc X ρ M d as c r c' := by
  intro A σ B hC hW
  obtain ⟨τ, A', B', h1, h2⟩ := k A σ B hC (fun x hx => by
    rcases List.mem_append.mp hx with e | e
    · obtain ⟨y, hy, e2⟩ := List.mem_map.mp e
      cases e2
      exact hW _ hy
    · have := List.eq_of_mem_replicate e
      cases this) (fun x hx => by cases hx)
  rw [enA_vl] at h1
  exact ⟨τ, A', B', Ct.of hp hh (by rw [List.length_map]; exact hlen) (fun v hv => by
    obtain ⟨x, -, e⟩ := List.mem_map.mp hv
    rw [← e]
    exact ia_cat) h1, h2⟩
section EC
variable {X : Cx} {ρ : Hp} {M : Mt} {d pc : Nat} {ls : List (Option AV)} {st : List AV} {c c' : Cs} {r : Rr}
theorem Ec.pure {pc' : Nat} {ls' : List (Option AV)} {st' : List AV} (h : ∀ A σ B, CS X ρ σ A c B → WL c ls → WS c st → (WL c ls' ∧ WS c st') ∧ ∀ o τ, Ev X M d pc' (vl A ls') (st'.map (ia A)) σ o τ → Ev X M d pc (vl A ls) (st.map (ia A)) σ o τ) (k : Ec X ρ M d pc' ls' st' c r c') : Ec X ρ M d pc ls st c r c' := by
  intro A σ B hC hl hs
  obtain ⟨⟨h1, h2⟩, h3⟩ := h A σ B hC hl hs
  obtain ⟨τ, A', B', g1, g2⟩ := k A σ B hC h1 h2
  exact ⟨τ, A', B', h3 _ _ g1, g2⟩
/-- what the state itself says -/
theorem Ec.say (h : Fx0 c → (∀ l, 0 ≤ l → l < c.1 2 → ((c.2.2.1 l).length : Int) ≤ 200) → WL c ls → WS c st → Ec X ρ M d pc ls st c r c') : Ec X ρ M d pc ls st c r c' := fun A σ B hC hl hs => h hC.2 (fun _ h0 h1 => hC.1.len h0 h1) hl hs A σ B hC hl hs
theorem Ec.const {n : Int} (d9 : decode M.cc pc = .ok (.iconst n, 1)) (k : Ec X ρ M d (pc + 1) ls ((0, n) :: st) c r c') : Ec X ρ M d pc ls st c r c' := Ec.pure (fun _ _ _ _ hl hs => ⟨⟨hl, hs.cons wv_i⟩, fun _ _ h => Ei.const d9 h⟩) k
theorem Ec.bipush {n : Int} (d9 : decode M.cc pc = .ok (.bipush n, 2)) (hv : (Int8.ofInt n).toInt32 = i32 n) (k : Ec X ρ M d (pc + 2) ls ((0, n) :: st) c r c') : Ec X ρ M d pc ls st c r c' := Ec.pure (fun _ _ _ _ hl hs => ⟨⟨hl, hs.cons wv_i⟩, fun _ _ h => Ev.bipush d9 hv h⟩) k
theorem Ec.sipush {n : Int} (d9 : decode M.cc pc = .ok (.sipush n, 3)) (hv : (Int16.ofInt n).toInt32 = i32 n) (k : Ec X ρ M d (pc + 3) ls ((0, n) :: st) c r c') : Ec X ρ M d pc ls st c r c' := Ec.pure (fun _ _ _ _ hl hs => ⟨⟨hl, hs.cons wv_i⟩, fun _ _ h => Ev.sipush d9 hv h⟩) k
theorem Ec.null {t : Nat} (d9 : decode M.cc pc = .ok (.aconst_null, 1)) (k : Ec X ρ M d (pc + 1) ls ((t + 100, -1) :: st) c r c') : Ec X ρ M d pc ls st c r c' := Ec.pure (fun A _ _ _ hl hs => ⟨⟨hl, hs.cons (wv_q (Or.inl rfl))⟩, fun _ _ h => Ev.aconst_null d9 (by
  have e : ia A (t + 100, -1) = va_rf none := ia_q
  have h' : Ev X M d (pc + 1) (vl A ls) (ia A (t + 100, -1) :: st.map (ia A)) _ _ _ := h
  rw [e] at h'
  exact h')⟩) k
theorem Ec.iload_n {n : Fin 4} {i : Nat} {z : Int} (d9 : decode M.cc pc = .ok (.iload_n n, 1)) (hi : (n : Nat) = i) (hx : ls[i]? = some (some (0, z))) (k : Ec X ρ M d (pc + 1) ls ((0, z) :: st) c r c') : Ec X ρ M d pc ls st c r c' := Ec.pure (fun A _ _ _ hl hs => ⟨⟨hl, hs.cons wv_i⟩, fun _ _ h => Ev.iload_n d9 hi (vl_get (A := A) hx) h⟩) k
theorem Ec.iload {i : Nat} {z : Int} (d9 : decode M.cc pc = .ok (.iload i, 2)) (hx : ls[i]? = some (some (0, z))) (k : Ec X ρ M d (pc + 2) ls ((0, z) :: st) c r c') : Ec X ρ M d pc ls st c r c' := Ec.pure (fun A _ _ _ hl hs => ⟨⟨hl, hs.cons wv_i⟩, fun _ _ h => Ev.iload d9 (vl_get (A := A) hx) h⟩) k
theorem Ec.aload_n {n : Fin 4} {i : Nat} {x : AV} (d9 : decode M.cc pc = .ok (.aload_n n, 1)) (hi : (n : Nat) = i) (hx : ls[i]? = some (some x)) (ht : 2 ≤ x.1) (k : Ec X ρ M d (pc + 1) ls (x :: st) c r c') : Ec X ρ M d pc ls st c r c' := Ec.pure (fun A _ _ _ hl hs => ⟨⟨hl, hs.cons (hl.get hx)⟩, fun _ _ h => by
  obtain ⟨q, hq⟩ := ia_ref (A := A) ht
  have h' : Ev X M d (pc + 1) (vl A ls) (ia A x :: st.map (ia A)) _ _ _ := h
  rw [hq] at h'
  exact Ev.aload_n d9 hi (by rw [vl_get hx, hq]) h'⟩) k
theorem Ec.aload {i : Nat} {x : AV} (d9 : decode M.cc pc = .ok (.aload i, 2)) (hx : ls[i]? = some (some x)) (ht : 2 ≤ x.1) (k : Ec X ρ M d (pc + 2) ls (x :: st) c r c') : Ec X ρ M d pc ls st c r c' := Ec.pure (fun A _ _ _ hl hs => ⟨⟨hl, hs.cons (hl.get hx)⟩, fun _ _ h => by
  obtain ⟨q, hq⟩ := ia_ref (A := A) ht
  have h' : Ev X M d (pc + 2) (vl A ls) (ia A x :: st.map (ia A)) _ _ _ := h
  rw [hq] at h'
  exact Ev.aload d9 (by rw [vl_get hx, hq]) h'⟩) k
theorem Ec.istore_n {n : Fin 4} {i : Nat} {z : Int} (d9 : decode M.cc pc = .ok (.istore_n n, 1)) (hi : (n : Nat) = i) (hn : i < M.ml) (k : Ec X ρ M d (pc + 1) (ls.set i (some (0, z))) st c r c') : Ec X ρ M d pc ls ((0, z) :: st) c r c' := Ec.pure (fun A _ _ _ hl hs => ⟨⟨hl.set wv_i, hs.tl⟩, fun _ _ h => Ev.istore_n d9 hi hn (by rw [vl_set] at h; exact h)⟩) k
theorem Ec.istore {i : Nat} {z : Int} (d9 : decode M.cc pc = .ok (.istore i, 2)) (hn : i < M.ml) (k : Ec X ρ M d (pc + 2) (ls.set i (some (0, z))) st c r c') : Ec X ρ M d pc ls ((0, z) :: st) c r c' := Ec.pure (fun A _ _ _ hl hs => ⟨⟨hl.set wv_i, hs.tl⟩, fun _ _ h => Ev.istore d9 hn (by rw [vl_set] at h; exact h)⟩) k
theorem Ec.astore_n {n : Fin 4} {i : Nat} {x : AV} (d9 : decode M.cc pc = .ok (.astore_n n, 1)) (hi : (n : Nat) = i) (hn : i < M.ml) (ht : 2 ≤ x.1) (k : Ec X ρ M d (pc + 1) (ls.set i (some x)) st c r c') : Ec X ρ M d pc ls (x :: st) c r c' := Ec.pure (fun A _ _ _ hl hs => ⟨⟨hl.set hs.hd, hs.tl⟩, fun o τ h => by
  obtain ⟨q, hq⟩ := ia_ref (A := A) ht
  show Ev X M d pc (vl A ls) (ia A x :: st.map (ia A)) _ o τ
  rw [vl_set, hq] at h
  rw [hq]
  exact Ev.astore_n d9 hi hn h⟩) k
theorem Ec.astore {i : Nat} {x : AV} (d9 : decode M.cc pc = .ok (.astore i, 2)) (hn : i < M.ml) (ht : 2 ≤ x.1) (k : Ec X ρ M d (pc + 2) (ls.set i (some x)) st c r c') : Ec X ρ M d pc ls (x :: st) c r c' := Ec.pure (fun A _ _ _ hl hs => ⟨⟨hl.set hs.hd, hs.tl⟩, fun o τ h => by
  obtain ⟨q, hq⟩ := ia_ref (A := A) ht
  show Ev X M d pc (vl A ls) (ia A x :: st.map (ia A)) _ o τ
  rw [vl_set, hq] at h
  rw [hq]
  exact Ev.astore d9 hn h⟩) k
theorem Ec.inc {i : Nat} {n a : Int} (d9 : decode M.cc pc = .ok (.iinc i n, 3)) (hx : ls[i]? = some (some (0, a))) (hn : i < M.ml) (k : Ec X ρ M d (pc + 3) (ls.set i (some (0, a + n))) st c r c') : Ec X ρ M d pc ls st c r c' := Ec.pure (fun A _ _ _ hl hs => ⟨⟨hl.set wv_i, hs⟩, fun _ _ h => Ei.inc d9 (vl_get (A := A) hx) hn (by rw [vl_set] at h; exact h)⟩) k
theorem Ec.add {a b : Int} (d9 : decode M.cc pc = .ok (.iadd, 1)) (k : Ec X ρ M d (pc + 1) ls ((0, a + b) :: st) c r c') : Ec X ρ M d pc ls ((0, b) :: (0, a) :: st) c r c' := Ec.pure (fun _ _ _ _ hl hs => ⟨⟨hl, hs.tl.tl.cons wv_i⟩, fun _ _ h => Ei.add d9 h⟩) k
theorem Ec.sub {a b : Int} (d9 : decode M.cc pc = .ok (.isub, 1)) (k : Ec X ρ M d (pc + 1) ls ((0, a - b) :: st) c r c') : Ec X ρ M d pc ls ((0, b) :: (0, a) :: st) c r c' := Ec.pure (fun _ _ _ _ hl hs => ⟨⟨hl, hs.tl.tl.cons wv_i⟩, fun _ _ h => Ei.sub d9 h⟩) k
theorem Ec.dup {x : AV} (d9 : decode M.cc pc = .ok (.dup, 1)) (k : Ec X ρ M d (pc + 1) ls (x :: x :: st) c r c') : Ec X ρ M d pc ls (x :: st) c r c' := Ec.pure (fun _ _ _ _ hl hs => ⟨⟨hl, hs.cons hs.hd⟩, fun _ _ h => Ev.dup d9 ia_cat h⟩) k
theorem Ec.pop {x : AV} (d9 : decode M.cc pc = .ok (.pop, 1)) (k : Ec X ρ M d (pc + 1) ls st c r c') : Ec X ρ M d pc ls (x :: st) c r c' := Ec.pure (fun _ _ _ _ hl hs => ⟨⟨hl, hs.tl⟩, fun _ _ h => Ev.pop d9 ia_cat h⟩) k
theorem Ec.goto {off : Int} {tgt : Nat} (d9 : decode M.cc pc = .ok (.goto off, 3)) (ht : (pc : Int) + off = (tgt : Int)) (k : Ec X ρ M d tgt ls st c r c') : Ec X ρ M d pc ls st c r c' := Ec.pure (fun _ _ _ _ hl hs => ⟨⟨hl, hs⟩, fun _ _ h => Ev.goto d9 ht h⟩) k
theorem Ec.icmp_eq_t {a b : Int} {off : Int} {tgt : Nat} (d9 : decode M.cc pc = .ok (.if_icmp .eq off, 3)) (ht : (pc : Int) + off = (tgt : Int)) (ha : R32 a) (hb : R32 b) (hc : a = b) (k : Ec X ρ M d tgt ls st c r c') : Ec X ρ M d pc ls ((0, b) :: (0, a) :: st) c r c' := Ec.pure (fun _ _ _ _ hl hs => ⟨⟨hl, hs.tl.tl⟩, fun _ _ h => Ei.icmp_eq_t d9 ht ha hb hc h⟩) k
theorem Ec.icmp_eq_f {a b : Int} {off : Int} {tgt : Nat} (d9 : decode M.cc pc = .ok (.if_icmp .eq off, 3)) (ht : (pc : Int) + off = (tgt : Int)) (ha : R32 a) (hb : R32 b) (hc : ¬ (a = b)) (k : Ec X ρ M d (pc + 3) ls st c r c') : Ec X ρ M d pc ls ((0, b) :: (0, a) :: st) c r c' := Ec.pure (fun _ _ _ _ hl hs => ⟨⟨hl, hs.tl.tl⟩, fun _ _ h => Ei.icmp_eq_f d9 ht ha hb hc h⟩) k
theorem Ec.if_eq_t {a : Int} {off : Int} {tgt : Nat} (d9 : decode M.cc pc = .ok (.ifCond .eq off, 3)) (ht : (pc : Int) + off = (tgt : Int)) (ha : R32 a) (hc : a = 0) (k : Ec X ρ M d tgt ls st c r c') : Ec X ρ M d pc ls ((0, a) :: st) c r c' := Ec.pure (fun _ _ _ _ hl hs => ⟨⟨hl, hs.tl⟩, fun _ _ h => Ei.if_eq_t d9 ht ha hc h⟩) k
theorem Ec.if_eq_f {a : Int} {off : Int} {tgt : Nat} (d9 : decode M.cc pc = .ok (.ifCond .eq off, 3)) (ht : (pc : Int) + off = (tgt : Int)) (ha : R32 a) (hc : ¬ (a = 0)) (k : Ec X ρ M d (pc + 3) ls st c r c') : Ec X ρ M d pc ls ((0, a) :: st) c r c' := Ec.pure (fun _ _ _ _ hl hs => ⟨⟨hl, hs.tl⟩, fun _ _ h => Ei.if_eq_f d9 ht ha hc h⟩) k
theorem Ec.icmp_ne_t {a b : Int} {off : Int} {tgt : Nat} (d9 : decode M.cc pc = .ok (.if_icmp .ne off, 3)) (ht : (pc : Int) + off = (tgt : Int)) (ha : R32 a) (hb : R32 b) (hc : ¬ a = b) (k : Ec X ρ M d tgt ls st c r c') : Ec X ρ M d pc ls ((0, b) :: (0, a) :: st) c r c' := Ec.pure (fun _ _ _ _ hl hs => ⟨⟨hl, hs.tl.tl⟩, fun _ _ h => Ei.icmp_ne_t d9 ht ha hb hc h⟩) k
theorem Ec.icmp_ne_f {a b : Int} {off : Int} {tgt : Nat} (d9 : decode M.cc pc = .ok (.if_icmp .ne off, 3)) (ht : (pc : Int) + off = (tgt : Int)) (ha : R32 a) (hb : R32 b) (hc : ¬ (¬ a = b)) (k : Ec X ρ M d (pc + 3) ls st c r c') : Ec X ρ M d pc ls ((0, b) :: (0, a) :: st) c r c' := Ec.pure (fun _ _ _ _ hl hs => ⟨⟨hl, hs.tl.tl⟩, fun _ _ h => Ei.icmp_ne_f d9 ht ha hb hc h⟩) k
theorem Ec.if_ne_t {a : Int} {off : Int} {tgt : Nat} (d9 : decode M.cc pc = .ok (.ifCond .ne off, 3)) (ht : (pc : Int) + off = (tgt : Int)) (ha : R32 a) (hc : ¬ a = 0) (k : Ec X ρ M d tgt ls st c r c') : Ec X ρ M d pc ls ((0, a) :: st) c r c' := Ec.pure (fun _ _ _ _ hl hs => ⟨⟨hl, hs.tl⟩, fun _ _ h => Ei.if_ne_t d9 ht ha hc h⟩) k
theorem Ec.if_ne_f {a : Int} {off : Int} {tgt : Nat} (d9 : decode M.cc pc = .ok (.ifCond .ne off, 3)) (ht : (pc : Int) + off = (tgt : Int)) (ha : R32 a) (hc : ¬ (¬ a = 0)) (k : Ec X ρ M d (pc + 3) ls st c r c') : Ec X ρ M d pc ls ((0, a) :: st) c r c' := Ec.pure (fun _ _ _ _ hl hs => ⟨⟨hl, hs.tl⟩, fun _ _ h => Ei.if_ne_f d9 ht ha hc h⟩) k
theorem Ec.icmp_lt_t {a b : Int} {off : Int} {tgt : Nat} (d9 : decode M.cc pc = .ok (.if_icmp .lt off, 3)) (ht : (pc : Int) + off = (tgt : Int)) (ha : R32 a) (hb : R32 b) (hc : a < b) (k : Ec X ρ M d tgt ls st c r c') : Ec X ρ M d pc ls ((0, b) :: (0, a) :: st) c r c' := Ec.pure (fun _ _ _ _ hl hs => ⟨⟨hl, hs.tl.tl⟩, fun _ _ h => Ei.icmp_lt_t d9 ht ha hb hc h⟩) k
theorem Ec.icmp_lt_f {a b : Int} {off : Int} {tgt : Nat} (d9 : decode M.cc pc = .ok (.if_icmp .lt off, 3)) (ht : (pc : Int) + off = (tgt : Int)) (ha : R32 a) (hb : R32 b) (hc : ¬ (a < b)) (k : Ec X ρ M d (pc + 3) ls st c r c') : Ec X ρ M d pc ls ((0, b) :: (0, a) :: st) c r c' := Ec.pure (fun _ _ _ _ hl hs => ⟨⟨hl, hs.tl.tl⟩, fun _ _ h => Ei.icmp_lt_f d9 ht ha hb hc h⟩) k
theorem Ec.if_lt_t {a : Int} {off : Int} {tgt : Nat} (d9 : decode M.cc pc = .ok (.ifCond .lt off, 3)) (ht : (pc : Int) + off = (tgt : Int)) (ha : R32 a) (hc : a < 0) (k : Ec X ρ M d tgt ls st c r c') : Ec X ρ M d pc ls ((0, a) :: st) c r c' := Ec.pure (fun _ _ _ _ hl hs => ⟨⟨hl, hs.tl⟩, fun _ _ h => Ei.if_lt_t d9 ht ha hc h⟩) k
theorem Ec.if_lt_f {a : Int} {off : Int} {tgt : Nat} (d9 : decode M.cc pc = .ok (.ifCond .lt off, 3)) (ht : (pc : Int) + off = (tgt : Int)) (ha : R32 a) (hc : ¬ (a < 0)) (k : Ec X ρ M d (pc + 3) ls st c r c') : Ec X ρ M d pc ls ((0, a) :: st) c r c' := Ec.pure (fun _ _ _ _ hl hs => ⟨⟨hl, hs.tl⟩, fun _ _ h => Ei.if_lt_f d9 ht ha hc h⟩) k
theorem Ec.icmp_ge_t {a b : Int} {off : Int} {tgt : Nat} (d9 : decode M.cc pc = .ok (.if_icmp .ge off, 3)) (ht : (pc : Int) + off = (tgt : Int)) (ha : R32 a) (hb : R32 b) (hc : b ≤ a) (k : Ec X ρ M d tgt ls st c r c') : Ec X ρ M d pc ls ((0, b) :: (0, a) :: st) c r c' := Ec.pure (fun _ _ _ _ hl hs => ⟨⟨hl, hs.tl.tl⟩, fun _ _ h => Ei.icmp_ge_t d9 ht ha hb hc h⟩) k
theorem Ec.icmp_ge_f {a b : Int} {off : Int} {tgt : Nat} (d9 : decode M.cc pc = .ok (.if_icmp .ge off, 3)) (ht : (pc : Int) + off = (tgt : Int)) (ha : R32 a) (hb : R32 b) (hc : ¬ (b ≤ a)) (k : Ec X ρ M d (pc + 3) ls st c r c') : Ec X ρ M d pc ls ((0, b) :: (0, a) :: st) c r c' := Ec.pure (fun _ _ _ _ hl hs => ⟨⟨hl, hs.tl.tl⟩, fun _ _ h => Ei.icmp_ge_f d9 ht ha hb hc h⟩) k
theorem Ec.if_ge_t {a : Int} {off : Int} {tgt : Nat} (d9 : decode M.cc pc = .ok (.ifCond .ge off, 3)) (ht : (pc : Int) + off = (tgt : Int)) (ha : R32 a) (hc : 0 ≤ a) (k : Ec X ρ M d tgt ls st c r c') : Ec X ρ M d pc ls ((0, a) :: st) c r c' := Ec.pure (fun _ _ _ _ hl hs => ⟨⟨hl, hs.tl⟩, fun _ _ h => Ei.if_ge_t d9 ht ha hc h⟩) k
theorem Ec.if_ge_f {a : Int} {off : Int} {tgt : Nat} (d9 : decode M.cc pc = .ok (.ifCond .ge off, 3)) (ht : (pc : Int) + off = (tgt : Int)) (ha : R32 a) (hc : ¬ (0 ≤ a)) (k : Ec X ρ M d (pc + 3) ls st c r c') : Ec X ρ M d pc ls ((0, a) :: st) c r c' := Ec.pure (fun _ _ _ _ hl hs => ⟨⟨hl, hs.tl⟩, fun _ _ h => Ei.if_ge_f d9 ht ha hc h⟩) k
theorem Ec.icmp_gt_t {a b : Int} {off : Int} {tgt : Nat} (d9 : decode M.cc pc = .ok (.if_icmp .gt off, 3)) (ht : (pc : Int) + off = (tgt : Int)) (ha : R32 a) (hb : R32 b) (hc : b < a) (k : Ec X ρ M d tgt ls st c r c') : Ec X ρ M d pc ls ((0, b) :: (0, a) :: st) c r c' := Ec.pure (fun _ _ _ _ hl hs => ⟨⟨hl, hs.tl.tl⟩, fun _ _ h => Ei.icmp_gt_t d9 ht ha hb hc h⟩) k
theorem Ec.icmp_gt_f {a b : Int} {off : Int} {tgt : Nat} (d9 : decode M.cc pc = .ok (.if_icmp .gt off, 3)) (ht : (pc : Int) + off = (tgt : Int)) (ha : R32 a) (hb : R32 b) (hc : ¬ (b < a)) (k : Ec X ρ M d (pc + 3) ls st c r c') : Ec X ρ M d pc ls ((0, b) :: (0, a) :: st) c r c' := Ec.pure (fun _ _ _ _ hl hs => ⟨⟨hl, hs.tl.tl⟩, fun _ _ h => Ei.icmp_gt_f d9 ht ha hb hc h⟩) k
theorem Ec.if_gt_t {a : Int} {off : Int} {tgt : Nat} (d9 : decode M.cc pc = .ok (.ifCond .gt off, 3)) (ht : (pc : Int) + off = (tgt : Int)) (ha : R32 a) (hc : 0 < a) (k : Ec X ρ M d tgt ls st c r c') : Ec X ρ M d pc ls ((0, a) :: st) c r c' := Ec.pure (fun _ _ _ _ hl hs => ⟨⟨hl, hs.tl⟩, fun _ _ h => Ei.if_gt_t d9 ht ha hc h⟩) k
theorem Ec.if_gt_f {a : Int} {off : Int} {tgt : Nat} (d9 : decode M.cc pc = .ok (.ifCond .gt off, 3)) (ht : (pc : Int) + off = (tgt : Int)) (ha : R32 a) (hc : ¬ (0 < a)) (k : Ec X ρ M d (pc + 3) ls st c r c') : Ec X ρ M d pc ls ((0, a) :: st) c r c' := Ec.pure (fun _ _ _ _ hl hs => ⟨⟨hl, hs.tl⟩, fun _ _ h => Ei.if_gt_f d9 ht ha hc h⟩) k
theorem Ec.icmp_le_t {a b : Int} {off : Int} {tgt : Nat} (d9 : decode M.cc pc = .ok (.if_icmp .le off, 3)) (ht : (pc : Int) + off = (tgt : Int)) (ha : R32 a) (hb : R32 b) (hc : a ≤ b) (k : Ec X ρ M d tgt ls st c r c') : Ec X ρ M d pc ls ((0, b) :: (0, a) :: st) c r c' := Ec.pure (fun _ _ _ _ hl hs => ⟨⟨hl, hs.tl.tl⟩, fun _ _ h => Ei.icmp_le_t d9 ht ha hb hc h⟩) k
theorem Ec.icmp_le_f {a b : Int} {off : Int} {tgt : Nat} (d9 : decode M.cc pc = .ok (.if_icmp .le off, 3)) (ht : (pc : Int) + off = (tgt : Int)) (ha : R32 a) (hb : R32 b) (hc : ¬ (a ≤ b)) (k : Ec X ρ M d (pc + 3) ls st c r c') : Ec X ρ M d pc ls ((0, b) :: (0, a) :: st) c r c' := Ec.pure (fun _ _ _ _ hl hs => ⟨⟨hl, hs.tl.tl⟩, fun _ _ h => Ei.icmp_le_f d9 ht ha hb hc h⟩) k
theorem Ec.if_le_t {a : Int} {off : Int} {tgt : Nat} (d9 : decode M.cc pc = .ok (.ifCond .le off, 3)) (ht : (pc : Int) + off = (tgt : Int)) (ha : R32 a) (hc : a ≤ 0) (k : Ec X ρ M d tgt ls st c r c') : Ec X ρ M d pc ls ((0, a) :: st) c r c' := Ec.pure (fun _ _ _ _ hl hs => ⟨⟨hl, hs.tl⟩, fun _ _ h => Ei.if_le_t d9 ht ha hc h⟩) k
theorem Ec.if_le_f {a : Int} {off : Int} {tgt : Nat} (d9 : decode M.cc pc = .ok (.ifCond .le off, 3)) (ht : (pc : Int) + off = (tgt : Int)) (ha : R32 a) (hc : ¬ (a ≤ 0)) (k : Ec X ρ M d (pc + 3) ls st c r c') : Ec X ρ M d pc ls ((0, a) :: st) c r c' := Ec.pure (fun _ _ _ _ hl hs => ⟨⟨hl, hs.tl⟩, fun _ _ h => Ei.if_le_f d9 ht ha hc h⟩) k
end EC
