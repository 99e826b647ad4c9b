/-! orders of a list: the next one, and all of them -/
def sw (a : Int) : List Int → Option (Int × List Int)
  | [] => none
  | x :: xs => if a < x then some (x, a :: xs) else (sw a xs).map (fun p => (p.1, x :: p.2))
def np : List Int → Option (List Int)
  | [] => none
  | a :: t => match np t with
    | some t' => some (a :: t')
    | none => (sw a t.reverse).map (fun p => p.1 :: p.2)
theorem sw_none {a : Int} : ∀ {xs : List Int}, (∀ y ∈ xs, y ≤ a) → sw a xs = none := by
  intro xs
  induction xs with
  | nil => exact fun _ => rfl
  | cons x xs ih =>
    intro h
    have := h x List.mem_cons_self
    rw [sw, if_neg (by omega), ih (fun y hy => h y (List.mem_cons_of_mem _ hy))]
    rfl
theorem sw_app {a z : Int} {B : List Int} (hz : a < z) : ∀ {A : List Int}, (∀ y ∈ A, y ≤ a) → sw a (A ++ z :: B) = some (z, A ++ a :: B) := by
  intro A
  induction A with
  | nil =>
    intro _
    show sw a (z :: B) = _
    rw [sw, if_pos hz]
    rfl
  | cons x A ih =>
    intro h
    have := h x List.mem_cons_self
    show sw a (x :: (A ++ z :: B)) = _
    rw [sw, if_neg (by omega), ih (fun y hy => h y (List.mem_cons_of_mem _ hy))]
    rfl
theorem np_none {a : Int} {t : List Int} (h : np t = none) : np (a :: t) = (sw a t.reverse).map (fun p => p.1 :: p.2) := by
  rw [np, h]
theorem np_some {a : Int} {t w : List Int} (h : np t = some w) : np (a :: t) = some (a :: w) := by
  rw [np, h]
theorem np_app {w z : List Int} (h : np w = some z) : ∀ P : List Int, np (P ++ w) = some (P ++ z) := by
  intro P
  induction P with
  | nil => exact h
  | cons p P ih => exact np_some ih
theorem np_desc : ∀ {L : List Int}, L.Pairwise (fun a b => b ≤ a) → np L = none := by
  intro L
  induction L with
  | nil => exact fun _ => rfl
  | cons a t ih =>
    intro h
    rw [List.pairwise_cons] at h
    rw [np_none (ih h.2), sw_none (fun y hy => h.1 y (List.mem_reverse.mp hy))]
    rfl
/-- the orders, in the order of a search -/
def lpB (f : List Int → List (List Int)) (L : List Int) : Nat → Int → List (List Int)
  | 0, _ => []
  | n + 1, i => (if i ≠ 0 ∧ lget L i = lget L (i - 1) then [] else (f (remL L i.toNat)).map (fun p => lget L i :: p)) ++ lpB f L n (i + 1)
def lp : Nat → List Int → List (List Int)
  | 0, _ => [[]]
  | n + 1, L => lpB (lp n) L (n + 1) 0
def Chn : List Int → List (List Int) → Prop
  | p, [] => np p = none
  | p, q :: r => np p = some q ∧ Chn q r
def lst : List Int → List (List Int) → List Int
  | p, [] => p
  | _, q :: r => lst q r
theorem chn_last : ∀ {r : List (List Int)} {p : List Int}, Chn p r → np (lst p r) = none := by
  intro r
  induction r with
  | nil => exact fun h => h
  | cons q r ih => exact fun h => ih h.2
theorem chn_app {b : Int} {S : List (List Int)} : ∀ {r : List (List Int)} {p : List Int}, Chn p r → Chn (b :: lst p r) S → Chn (b :: p) (r.map (fun q => b :: q) ++ S) := by
  intro r
  induction r with
  | nil => exact fun _ h => h
  | cons q r ih => exact fun h k => ⟨np_some h.1, ih h.2 k⟩
theorem lst_app {b : Int} {S : List (List Int)} : ∀ {r : List (List Int)} {p : List Int}, lst (b :: p) (r.map (fun q => b :: q) ++ S) = lst (b :: lst p r) S := by
  intro r
  induction r with
  | nil => exact rfl
  | cons q r ih => exact ih
abbrev Srt (L : List Int) : Prop := L.Pairwise (fun a b => a ≤ b)
theorem remL_ln {L : List Int} : ∀ {i : Nat}, i < L.length → (remL L i).length + 1 = L.length := by
  induction L with
  | nil => exact fun h => absurd h (Nat.not_lt_zero _)
  | cons x xs ih =>
    intro i h
    cases i with
    | zero => rfl
    | succ i =>
      show (remL xs i).length + 1 + 1 = xs.length + 1
      rw [ih (by simpa using h)]
theorem remL_srt {L : List Int} : ∀ {i : Nat}, Srt L → Srt (remL L i) := by
  induction L with
  | nil => exact fun h => h
  | cons x xs ih =>
    intro i h
    rw [Srt, List.pairwise_cons] at h
    cases i with
    | zero => exact h.2
    | succ i =>
      show Srt (x :: remL xs i)
      rw [Srt, List.pairwise_cons]
      exact ⟨fun y hy => h.1 y (mem_rem hy), ih h.2⟩
theorem remL_at {P Q : List Int} {x : Int} : remL (P ++ x :: Q) P.length = P ++ Q := by
  induction P with
  | nil => rfl
  | cons p P ih =>
    show p :: remL (P ++ x :: Q) P.length = p :: (P ++ Q)
    rw [ih]
theorem lget_at {P Q : List Int} {x : Int} {i : Int} (h : i = (P.length : Int)) : lget (P ++ x :: Q) i = x := by
  unfold lget
  rw [h, List.getD_eq_getElem?_getD, Int.toNat_natCast, List.getElem?_append_right (Nat.le_refl _), Nat.sub_self]
  rfl
/-- a list splits where two of its neighbours meet -/
theorem split2 {L : List Int} {i : Int} (h0 : 1 ≤ i) (h1 : i < (L.length : Int)) : ∃ P Q, L = P ++ lget L (i - 1) :: lget L i :: Q ∧ (P.length : Int) = i - 1 := by
  have a := drop_lget (L := L) (i := i - 1) (by omega) (by omega)
  have b := drop_lget (L := L) (i := i) (by omega) h1
  rw [show (i - 1 + 1).toNat = i.toNat by omega, b] at a
  refine ⟨L.take (i - 1).toNat, L.drop (i + 1).toNat, ?_, ?_⟩
  · rw [← a, List.take_append_drop]
  · rw [List.length_take]
    omega
theorem split1 {L : List Int} {i : Int} (h0 : 0 ≤ i) (h1 : i < (L.length : Int)) : ∃ P Q, L = P ++ lget L i :: Q ∧ (P.length : Int) = i := by
  have b := drop_lget (L := L) (i := i) h0 h1
  refine ⟨L.take i.toNat, L.drop (i + 1).toNat, ?_, ?_⟩
  · rw [← b, List.take_append_drop]
  · rw [List.length_take]
    omega
theorem lp_ch : ∀ (n : Nat) (L : List Int), L.length = n → Srt L → ∃ r, lp n L = L :: r ∧ Chn L r ∧ lst L r = L.reverse := by
  intro n
  induction n with
  | zero =>
    intro L hl _
    have : L = [] := List.eq_nil_of_length_eq_zero hl
    subst this
    exact ⟨[], rfl, rfl, rfl⟩
  | succ n ih =>
    intro L hl hs
    have key : ∀ (m : Nat) (i : Int), 1 ≤ i → i + (m : Int) = ((n + 1 : Nat) : Int) → Chn (lget L (i - 1) :: (remL L (i - 1).toNat).reverse) (lpB (lp n) L m i) ∧ lst (lget L (i - 1) :: (remL L (i - 1).toNat).reverse) (lpB (lp n) L m i) = L.reverse := by
      intro m
      induction m with
      | zero =>
        intro i h0 h1
        obtain ⟨P, Q, e1, e2⟩ := split1 (L := L) (i := i - 1) (by omega) (by omega)
        have hq : Q = [] := by
          have := congrArg List.length e1
          rw [List.length_append, List.length_cons] at this
          exact List.eq_nil_of_length_eq_zero (by omega)
        generalize lget L (i - 1) = a at e1
        subst hq
        have hr : remL L (i - 1).toNat = P := by
          rw [e1, show (i - 1).toNat = P.length by omega, remL_at, List.append_nil]
        rw [hr]
        have hs2 := hs
        rw [e1, Srt, List.pairwise_append] at hs2
        have hd : np P.reverse = none := np_desc (List.pairwise_reverse.mpr hs2.1)
        refine ⟨?_, ?_⟩
        · show np (a :: P.reverse) = none
          rw [np_none hd, List.reverse_reverse, sw_none (fun y hy => hs2.2.2 y hy a List.mem_cons_self)]
          rfl
        · show a :: P.reverse = L.reverse
          rw [e1, List.reverse_append]
          rfl
      | succ m ihm =>
        intro i h0 h1
        obtain ⟨P, Q, e1, e2⟩ := split2 (L := L) (i := i) h0 (by omega)
        obtain ⟨k1, k2⟩ := ihm (i + 1) (by omega) (by omega)
        rw [show i + 1 - 1 = i by omega] at k1 k2
        have hr1 : remL L (i - 1).toNat = P ++ lget L i :: Q := by
          have : remL (P ++ lget L (i - 1) :: lget L i :: Q) P.length = P ++ lget L i :: Q := remL_at
          rw [← e1] at this
          rw [show (i - 1).toNat = P.length by omega]
          exact this
        have hr2 : remL L i.toNat = P ++ lget L (i - 1) :: Q := by
          have e3 : P ++ lget L (i - 1) :: lget L i :: Q = (P ++ [lget L (i - 1)]) ++ lget L i :: Q := by simp
          have : remL ((P ++ [lget L (i - 1)]) ++ lget L i :: Q) (P ++ [lget L (i - 1)]).length = (P ++ [lget L (i - 1)]) ++ Q := remL_at
          rw [← e3, ← e1] at this
          rw [show i.toNat = (P ++ [lget L (i - 1)]).length by rw [List.length_append, List.length_singleton]; omega, this]
          simp
        rw [lpB]
        by_cases c : lget L i = lget L (i - 1)
        · rw [if_pos ⟨by omega, c⟩, List.nil_append, hr1, c, ← hr2, ← c]
          exact ⟨k1, k2⟩
        · rw [if_neg (fun g => c g.2)]
          have hlen : (remL L i.toNat).length = n := by
            have := remL_ln (L := L) (i := i.toNat) (by omega)
            omega
          obtain ⟨r, r1, r2, r3⟩ := ih (remL L i.toNat) hlen (remL_srt hs)
          rw [r1]
          have hs2 := hs
          rw [e1, Srt, List.pairwise_append] at hs2
          have hab : lget L (i - 1) < lget L i := by
            have := (List.pairwise_cons.mp hs2.2.1).1 (lget L i) List.mem_cons_self
            omega
          have hd : np (remL L (i - 1).toNat).reverse = none := np_desc (List.pairwise_reverse.mpr (remL_srt hs))
          have hnp : np (lget L (i - 1) :: (remL L (i - 1).toNat).reverse) = some (lget L i :: remL L i.toNat) := by
            rw [np_none hd, List.reverse_reverse, hr1, sw_app hab (fun y hy => hs2.2.2 y hy _ List.mem_cons_self), hr2]
            rfl
          refine ⟨⟨hnp, ?_⟩, ?_⟩
          · refine chn_app r2 ?_
            rw [r3]
            exact k1
          · refine Eq.trans (lst_app (p := remL L i.toNat) (r := r)) ?_
            rw [r3]
            exact k2
    rw [lp, lpB, if_neg (fun g => g.1 rfl)]
    have hlen : (remL L (0 : Int).toNat).length = n := by
      have := remL_ln (L := L) (i := (0 : Int).toNat) (by show 0 < L.length; omega)
      omega
    obtain ⟨r, r1, r2, r3⟩ := ih (remL L (0 : Int).toNat) hlen (remL_srt hs)
    obtain ⟨k1, k2⟩ := key n 1 (by omega) (by omega)
    rw [show (1 : Int) - 1 = 0 by omega] at k1 k2
    rw [r1]
    have hL : lget L 0 :: remL L (0 : Int).toNat = L := by
      cases L with
      | nil => exact absurd hl (by simp)
      | cons x xs => rfl
    refine ⟨r.map (fun q => lget L 0 :: q) ++ lpB (lp n) L n (0 + 1), ?_, ?_, ?_⟩
    · show (lget L 0 :: remL L (0 : Int).toNat) :: (r.map (fun q => lget L 0 :: q) ++ lpB (lp n) L n (0 + 1)) = _
      rw [hL]
    · have := chn_app (b := lget L 0) (S := lpB (lp n) L n (0 + 1)) r2 (by rw [r3]; exact k1)
      rw [hL] at this
      exact this
    · have := lst_app (b := lget L 0) (S := lpB (lp n) L n (0 + 1)) (r := r) (p := remL L (0 : Int).toNat)
      rw [hL, r3] at this
      rw [this]
      exact k2
