/-! the class's state and the reference's: how they answer each other -/
def rng (n : Int) : List Int := (List.range n.toNat).map (fun (k : Nat) => (k : Int))
theorem rng_len {n : Int} (h : 0 ≤ n) : ((rng n).length : Int) = n := by
  unfold rng
  rw [List.length_map, List.length_range, Int.toNat_of_nonneg h]
theorem rng_mem {n x : Int} : x ∈ rng n ↔ 0 ≤ x ∧ x < n := by
  unfold rng
  rw [List.mem_map]
  constructor
  · rintro ⟨k, hk, rfl⟩
    have := List.mem_range.mp hk
    omega
  · rintro ⟨h0, h1⟩
    exact ⟨x.toNat, List.mem_range.mpr (by omega), Int.toNat_of_nonneg h0⟩
theorem rng_succ {n : Int} (h : 0 ≤ n) : rng (n + 1) = rng n ++ [n] := by
  unfold rng
  rw [show (n + 1).toNat = n.toNat + 1 by omega, List.range_succ, List.map_append]
  show _ ++ [((n.toNat : Nat) : Int)] = _
  rw [Int.toNat_of_nonneg h]
theorem rng_0 : rng 0 = [] := rfl
theorem rng_at {n : Int} {k : Nat} (h : k < n.toNat) : (rng n)[k]? = some (k : Int) := by
  unfold rng
  rw [List.getElem?_map, List.getElem?_range h]
  rfl
theorem lget_rng {n i : Int} (h0 : 0 ≤ i) (h1 : i < n) : lget (rng n) i = i := by
  unfold lget
  rw [List.getD_eq_getElem?_getD, rng_at (by omega)]
  exact Int.toNat_of_nonneg h0
theorem lget_map {n i : Int} {f : Int → Int} (h0 : 0 ≤ i) (h1 : i < n) : lget ((rng n).map f) i = f i := by
  unfold lget
  rw [List.getD_eq_getElem?_getD, List.getElem?_map, rng_at (by omega)]
  show f _ = _
  rw [Int.toNat_of_nonneg h0]
theorem map_len {α : Type} {n : Int} {f : Int → α} (h : 0 ≤ n) : (((rng n).map f).length : Int) = n := by
  rw [List.length_map]
  exact rng_len h
theorem map_rng_congr {α : Type} {n : Int} {f g : Int → α} (h : ∀ i, 0 ≤ i → i < n → f i = g i) : (rng n).map f = (rng n).map g := List.map_congr_left (fun x hx => h x (rng_mem.mp hx).1 (rng_mem.mp hx).2)
/-- the codes of kinds, of a vessel's state, of a brew's stage -/
def kdc (t : Int) : Int := if t = 0 then 102 else 116
def cdc (s : Int) : Int := if s = 0 then 99 else if s = 1 then 117 else if s = 2 then 100 else 103
def phc (s : Int) : Int := if s = 0 then 102 else if s = 1 then 119 else if s = 2 then 109 else if s = 3 then 114 else 120
/-- the pitches of a strain that aren't taken -/
def pts (v : Vw) (s : Int) : List (Int × Int) := ((rng (v 4 0)).filter (fun p => decide (v 25 p = 0 ∧ v 22 p = s))).map (fun p => (v 23 p, v 24 p))
/-- the orders by their due days -/
def dins (v : Vw) (o : Int) : List Int → List Int
  | [] => [o]
  | x :: xs => if v 32 x ≤ v 32 o then x :: dins v o xs else o :: x :: xs
def due (v : Vw) : Nat → List Int
  | 0 => []
  | n + 1 => dins v (n : Int) (due v n)
def S0 (c : Cs) (v : Vw) : Prop := (c.1 9 = v 1 0 ∧ c.1 11 = v 2 0 ∧ c.1 3 = v 5 0 ∧ c.1 5 = v 6 0 ∧ c.1 4 = v 9 0 ∧ c.1 2 = 17 + v 6 0) ∧ (0 ≤ c.1 6 ∧ (0 ≤ c.1 7 ∧ c.1 7 ≤ v 4 0) ∧ 0 ≤ c.1 10) ∧ c.2.1 13 10 0 = v 3 0 ∧ c.2.1 13 11 0 = v 8 0
def SR (c : Cs) (v : Vw) : Prop := c.2.2.1 1 = rng (v 1 0) ∧ ∀ r, 0 ≤ r → r < v 1 0 → c.2.1 9 0 r = r ∧ c.2.1 9 1 r = v 12 r ∧ c.2.1 9 2 r = v 12 r ∧ c.2.1 9 3 r = v 13 r ∧ c.2.1 9 4 r = v 14 r
def SV (c : Cs) (v : Vw) : Prop := c.2.2.1 2 = rng (v 2 0) ∧ ∀ w, 0 ≤ w → w < v 2 0 → c.2.1 11 0 w = w ∧ c.2.1 11 1 w = kdc (v 20 w) ∧ c.2.1 11 2 w = cdc (v 15 w) ∧ (v 15 w = 3 → c.2.1 11 3 w = v 17 w) ∧ c.2.1 11 4 w = v 19 w ∧ c.2.1 11 5 w = (if v 15 w = 1 then v 16 w else -1)
def SB (c : Cs) (v : Vw) : Prop := c.2.2.1 3 = rng (v 5 0) ∧ ∀ b, 0 ≤ b → b < v 5 0 → c.2.1 3 0 b = b ∧ c.2.1 3 1 b = v 26 b ∧ c.2.1 3 2 b = v 27 b ∧ c.2.1 3 3 b = phc (v 28 b) ∧ (v 28 b = 0 ∨ v 28 b = 2 → c.2.1 3 4 b = v 30 b) ∧ (v 28 b = 3 → c.2.1 3 5 b = v 31 b) ∧ c.2.1 3 6 b = (if v 28 b = 4 then -1 else v 29 b)
def SY (c : Cs) (v : Vw) : Prop := c.2.2.1 0 = rng 4 ∧ ∀ s, 0 ≤ s → s < 4 → c.2.1 12 0 s = v 21 s ∧ (∀ p ∈ c.2.2.1 (13 + s), 0 ≤ p ∧ p < c.1 7) ∧ (c.2.2.1 (13 + s)).map (fun p => (c.2.1 7 0 p, c.2.1 7 1 p)) = pts v s
def SQ (c : Cs) (v : Vw) : Prop := c.2.2.1 4 = (rng (v 7 0)).map (v 39)
def SO (c : Cs) (v : Vw) : Prop := c.2.2.1 5 = rng (v 6 0) ∧ ∀ o, 0 ≤ o → o < v 6 0 → (c.2.1 5 0 o = o ∧ c.2.1 5 1 o = v 32 o ∧ c.2.1 5 2 o = 17 + o ∧ c.2.1 5 3 o = v 34 o ∧ (v 34 o = 102 → c.2.1 5 4 o = v 35 o)) ∧ (∀ p ∈ c.2.2.1 (17 + o), 0 ≤ p ∧ p < c.1 6) ∧ (c.2.2.1 (17 + o)).map (fun p => (c.2.1 6 0 p, c.2.1 6 1 p)) = (rng (v 33 o)).map (fun k => (v 36 (4 * o + k), v 37 (4 * o + k)))
def SU (c : Cs) (v : Vw) : Prop := c.2.2.1 6 = due v (v 6 0).toNat
def SE (c : Cs) (v : Vw) : Prop := c.2.2.1 7 = rng (v 9 0) ∧ ∀ e, 0 ≤ e → e < v 9 0 → c.2.1 4 0 e = v 44 e ∧ c.2.1 4 1 e = v 45 e ∧ c.2.1 4 2 e = v 46 e
def SD (c : Cs) (v : Vw) : Prop := (∀ w, w ∈ c.2.2.1 8 ↔ (0 ≤ w ∧ w < v 2 0 ∧ v 15 w = 2)) ∧ (∀ w ∈ c.2.2.1 8, v 18 w < v 10 0) ∧ (c.2.2.1 8).Pairwise (fun a b => v 18 a < v 18 b)
def SS (c : Cs) (v : Vw) : Prop := c.2.2.1 9 = rng (c.1 10) ∧ (rng (c.1 10)).map (c.2.1 10 0) = (rng (v 2 0)).filter (fun w => decide (v 20 w = 0))
/-- the sum of f over the first n -/
def sI (f : Int → Int) : Nat → Int
  | 0 => 0
  | n + 1 => sI f n + f (n : Int)
/-- the units delivered from a brew -/
def dlu (v : Vw) (b : Int) : Int := sI (fun e => if v 44 e = b then v 46 e else 0) (v 9 0).toNat
/-- what holds of the reference's numbers themselves -/
def VB (v : Vw) : Prop :=
  (∀ b, 0 ≤ b → b < v 5 0 → (0 ≤ v 26 b ∧ v 26 b < v 1 0) ∧ (v 28 b ≠ 4 → (0 ≤ v 29 b ∧ v 29 b < v 2 0) ∧ v 15 (v 29 b) = 1 ∧ v 16 (v 29 b) = b)) ∧
  (∀ w, 0 ≤ w → w < v 2 0 → v 15 w = 1 → 0 ≤ v 16 w ∧ v 16 w < v 5 0) ∧
  ((∀ w, v 2 0 ≤ w → v 15 w = 0) ∧ ∀ p, v 4 0 ≤ p → v 25 p = 0) ∧
  (∀ o, 0 ≤ o → o < v 6 0 → (1 ≤ v 33 o ∧ (v 34 o = 111 ∨ v 34 o = 102 ∨ v 34 o = 99)) ∧ ∀ k, 0 ≤ k → k < v 33 o → (0 ≤ v 36 (4 * o + k) ∧ v 36 (4 * o + k) < v 1 0) ∧ 1 ≤ v 37 (4 * o + k)) ∧
  (∀ e, 0 ≤ e → e < v 9 0 → (0 ≤ v 44 e ∧ v 44 e < v 5 0) ∧ 0 ≤ v 45 e ∧ v 45 e < v 6 0) ∧
  (∀ b, 0 ≤ b → b < v 5 0 → dlu v b = (if v 28 b = 3 then 20 - v 31 b else if v 28 b = 4 then 20 else 0))
def Sm (c : Cs) (v : Vw) : Prop := S0 c v ∧ SR c v ∧ SV c v ∧ SB c v ∧ SY c v ∧ SQ c v ∧ SO c v ∧ SU c v ∧ SE c v ∧ SD c v ∧ SS c v
def INV (c : Cs) (v : Vw) : Prop := Sm c v ∧ VB v ∧ CI v ∧ CJ v
/-- a call's answers agree -/
def Ans (tab : Int → String) (g : Rr × Cs) (f : Int × Vw) : Prop := (f.2 0 0 = 0 ∧ g.1 = .inl (some (0, f.1))) ∨ (1 ≤ f.2 0 0 ∧ g.1 = .inr (tab (f.2 0 0)))
theorem up0 {v : Vw} {x : Int} {k : Nat} {i : Int} (h : k ≠ 0) : upv v 0 0 x k i = v k i := if_neg (fun q => h q.1)
theorem due_congr {v w : Vw} (h : ∀ i, w 32 i = v 32 i) : ∀ n, due w n = due v n := by
  have h1 : ∀ (o : Int) (xs : List Int), dins w o xs = dins v o xs := by
    intro o xs
    induction xs with
    | nil => rfl
    | cons x xs ih =>
      unfold dins
      rw [h, h, ih]
  intro n
  induction n with
  | zero => rfl
  | succ n ih =>
    show dins w _ (due w n) = dins v _ (due v n)
    rw [ih, h1]
theorem Sm.v0 {c : Cs} {v : Vw} {x : Int} (h : Sm c v) : Sm c (upv v 0 0 x) := by
  obtain ⟨h0, h1, h2, h3, h4, h5, h6, h7, h8, h9, h10⟩ := h
  refine ⟨h0, h1, h2, h3, h4, h5, h6, ?_, h8, h9, h10⟩
  show c.2.2.1 6 = due (upv v 0 0 x) _
  rw [due_congr (v := v) (fun i => up0 (by decide))]
  exact h7
theorem Sm.exc {c : Cs} {v : Vw} (h : Sm c v) : Sm (cexc c) v := h
theorem VB.v0 {v : Vw} {x : Int} (h : VB v) : VB (upv v 0 0 x) := h
theorem INV.v0 {c : Cs} {v : Vw} {x : Int} (h : INV c v) : INV c (upv v 0 0 x) := ⟨h.1.v0, h.2.1.v0, CI_fr (fun k hk i => up0 (by omega)) h.2.2.1, CJ_fr (fun k hk i => up0 (by omega)) h.2.2.2⟩
theorem INV.exc {c : Cs} {v : Vw} (h : INV c v) : INV (cexc c) v := ⟨h.1.exc, h.2⟩
theorem Sm.c0 {c : Cs} {v : Vw} (h : Sm c v) : S0 c v := h.1
theorem Sm.cr {c : Cs} {v : Vw} (h : Sm c v) : SR c v := h.2.1
theorem Sm.cv {c : Cs} {v : Vw} (h : Sm c v) : SV c v := h.2.2.1
theorem Sm.cb {c : Cs} {v : Vw} (h : Sm c v) : SB c v := h.2.2.2.1
theorem Sm.cy {c : Cs} {v : Vw} (h : Sm c v) : SY c v := h.2.2.2.2.1
theorem Sm.cq {c : Cs} {v : Vw} (h : Sm c v) : SQ c v := h.2.2.2.2.2.1
theorem Sm.co {c : Cs} {v : Vw} (h : Sm c v) : SO c v := h.2.2.2.2.2.2.1
theorem Sm.cu {c : Cs} {v : Vw} (h : Sm c v) : SU c v := h.2.2.2.2.2.2.2.1
theorem Sm.ce {c : Cs} {v : Vw} (h : Sm c v) : SE c v := h.2.2.2.2.2.2.2.2.1
theorem Sm.cd {c : Cs} {v : Vw} (h : Sm c v) : SD c v := h.2.2.2.2.2.2.2.2.2.1
theorem Sm.cs {c : Cs} {v : Vw} (h : Sm c v) : SS c v := h.2.2.2.2.2.2.2.2.2.2
