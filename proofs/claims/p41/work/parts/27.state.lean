/-! the class's objects: a state of numbers, and how the heap holds it (written by wip/whole/mk27.py).
c.1 ci: how many objects of the class ci; c.2.1 ci k i: field k of the i-th (a number; of a reference the target's number, -1 for null); c.2.2.1 l: what the l-th list holds; c.2.2.2: exceptions thrown -/
abbrev Cs : Type := (Nat → Int) × (Nat → Nat → Int → Int) × (Int → List Int) × Int
def cput (c : Cs) (ci k : Nat) (i x : Int) : Cs := (c.1, fun a b j => if a = ci ∧ b = k ∧ j = i then x else c.2.1 a b j, c.2.2.1, c.2.2.2)
def clst (c : Cs) (l : Int) (xs : List Int) : Cs := (c.1, c.2.1, fun j => if j = l then xs else c.2.2.1 j, c.2.2.2)
def cnew (c : Cs) (ci : Nat) : Cs := (fun a => if a = ci then c.1 a + 1 else c.1 a, fun a b j => if a = ci ∧ j = c.1 ci then (if isRf ci b = true then -1 else 0) else c.2.1 a b j, c.2.2.1, c.2.2.2)
def cnewl (c : Cs) : Cs := (fun a => if a = 2 then c.1 a + 1 else c.1 a, c.2.1, fun j => if j = c.1 2 then [] else c.2.2.1 j, c.2.2.2)
def cexc (c : Cs) : Cs := (c.1, c.2.1, c.2.2.1, c.2.2.2 + 1)
/-- the class that a reference field points to; that a list holds -/
def tgf (ci k : Nat) : Nat := match ci, k with
  | 3, 1 => 9 | 3, 6 => 11 | 4, 0 => 3 | 4, 1 => 5 | 5, 2 => 2 | 6, 0 => 9 | 8, _ => 2 | 9, 2 => 12 | 10, 0 => 11 | 11, 5 => 3 | 12, 1 => 2 | 13, 9 => 8 | 13, _ => 2 | _, _ => 2
def tel (l : Int) : Nat := if l = 0 then 12 else if l = 1 then 9 else if l = 2 then 11 else if l = 3 then 3 else if l = 4 then 9 else if l = 5 then 5 else if l = 6 then 5 else if l = 7 then 4 else if l = 8 then 11 else if l = 9 then 10 else if l = 10 then 9 else if l = 11 then 9 else if l = 12 then 9 else if l < 17 then 7 else 6
theorem ite_rg {p : Prop} [Decidable p] {a b : Nat} (ha : 3 ≤ a ∧ a ≤ 12) (hb : 3 ≤ b ∧ b ≤ 12) : 3 ≤ (if p then a else b) ∧ (if p then a else b) ≤ 12 := by
  by_cases h : p
  · rw [if_pos h]
    exact ha
  · rw [if_neg h]
    exact hb
theorem tel_rg (l : Int) : 3 ≤ tel l ∧ tel l ≤ 12 := by
  unfold tel
  exact ite_rg (by decide) (ite_rg (by decide) (ite_rg (by decide) (ite_rg (by decide) (ite_rg (by decide) (ite_rg (by decide) (ite_rg (by decide) (ite_rg (by decide) (ite_rg (by decide) (ite_rg (by decide) (ite_rg (by decide) (ite_rg (by decide) (ite_rg (by decide) (ite_rg (by decide) (by decide))))))))))))))
def rg (c : Cs) (ci : Nat) (i : Int) : Prop := (2 ≤ ci ∧ ci ≤ 13) ∧ 0 ≤ i ∧ i < c.1 ci
def oA (A : Nat → Int → Nat) (t : Nat) (z : Int) : Option Nat := if z = -1 then none else some (A t z)
def sN (c : Cs) : Int := c.1 2 + c.1 3 + c.1 4 + c.1 5 + c.1 6 + c.1 7 + c.1 8 + c.1 9 + c.1 10 + c.1 11 + c.1 12 + c.1 13
/-- the sum of f over the first n -/
def sF (f : Int → Nat) : Nat → Nat
  | 0 => 0
  | n + 1 => sF f n + f (n : Int)
theorem sF_le {f g : Int → Nat} : ∀ n : Nat, (∀ i, 0 ≤ i → i < (n : Int) → f i ≤ g i) → sF f n ≤ sF g n := by
  intro n
  induction n with
  | zero => exact fun _ => Nat.le_refl 0
  | succ n ih =>
    intro h
    have h1 := ih (fun i h0 h1 => h i h0 (by omega))
    have h2 := h (n : Int) (by omega) (by omega)
    show sF f n + _ ≤ sF g n + _
    omega
theorem sF_congr {f g : Int → Nat} : ∀ n : Nat, (∀ i, 0 ≤ i → i < (n : Int) → g i = f i) → sF g n = sF f n := by
  intro n h
  have h1 := sF_le n (fun i h0 h1 => Nat.le_of_eq (h i h0 h1))
  have h2 := sF_le n (fun i h0 h1 => Nat.le_of_eq (h i h0 h1).symm)
  omega
theorem sF_one {f g : Int → Nat} {b : Int} (hb : 0 ≤ b) : ∀ n : Nat, (∀ i, 0 ≤ i → i < (n : Int) → i ≠ b → g i = f i) → b < (n : Int) → sF g n + f b = sF f n + g b := by
  intro n
  induction n with
  | zero => exact fun _ h => absurd h (by omega)
  | succ n ih =>
    intro h hn
    show sF g n + g n + f b = sF f n + f n + g b
    by_cases e : (n : Int) = b
    · rw [sF_congr (f := f) (g := g) n (fun i h0 h1 => h i h0 (by omega) (by omega)), e]
      omega
    · have := ih (fun i h0 h1 => h i h0 (by omega)) (by omega)
      rw [h (n : Int) (by omega) (by omega) e]
      omega
/-- what isn't the class's: the reference's cells, rows of numbers -/
def fgn (k : Nat) : Prop := k = 15 ∨ (20 ≤ k ∧ k ≤ 23)
def CR (X : Cx) (ρ σ : Hp) (A : Nat → Int → Nat) (c : Cs) (B : Int → Nat) : Prop :=
  WF X σ ∧
  (∀ ci i, rg c ci i → σ.kd (A ci i) = ci + 1) ∧
  (∀ ci i j, rg c ci i → rg c ci j → A ci i = A ci j → i = j) ∧
  (∀ ci k i, rg c ci i → 3 ≤ ci → isRf ci k = false → σ.iv (A ci i) k = i32 (c.2.1 ci k i)) ∧
  (∀ ci k i, rg c ci i → 3 ≤ ci → isRf ci k = true → σ.rv (A ci i) k = oA A (tgf ci k) (c.2.1 ci k i) ∧ (c.2.1 ci k i = -1 ∨ rg c (tgf ci k) (c.2.1 ci k i))) ∧
  (∀ l, 0 ≤ l → l < c.1 2 → LL X σ (A 2 l) (B l) ((c.2.2.1 l).map (A (tel l))) ∧ ∀ x ∈ c.2.2.1 l, rg c (tel l) x) ∧
  (∀ l l', 0 ≤ l → l < c.1 2 → 0 ≤ l' → l' < c.1 2 → B l = B l' → l ≠ l' → B l = X.t0) ∧
  (ρ.sz ≤ σ.sz ∧ ∀ a, fgn (ρ.kd a) → a < ρ.sz ∧ σ.kd a = ρ.kd a ∧ σ.ln a = ρ.ln a ∧ σ.iv a = ρ.iv a ∧ σ.rv a = ρ.rv a ∧ σ.lv a = ρ.lv a ∧ σ.dv a = ρ.dv a) ∧
  (0 ≤ c.1 2 ∧ (σ.cl : Int) ≤ 500 + sN c + c.2.2.2 + (sF (fun l => cap X σ (B l)) (c.1 2).toNat : Nat) ∧ (σ.sl : Int) ≤ 10000 + 60 * sN c + 6 * c.2.2.2 + (sF (fun l => cap X σ (B l) * cap X σ (B l)) (c.1 2).toNat : Nat))
def Ext (c : Cs) (A A' : Nat → Int → Nat) : Prop := ∀ ci i, rg c ci i → A' ci i = A ci i
theorem LL.congr {X : Cx} {σ τ : Hp} {l B : Nat} {xs : List Nat} (hL : LL X σ l B xs) (h1 : τ.kd l = σ.kd l) (h2 : τ.iv l 2 = σ.iv l 2) (h3 : τ.rv l 1 = σ.rv l 1) (h4 : σ.kd B ≠ 0 → τ.ln B = σ.ln B ∧ τ.rv B = σ.rv B) (h5 : ∀ y, σ.kd y ≠ 0 → τ.kd y = σ.kd y) : LL X τ l B xs := by
  obtain ⟨g1, g2, g3, g4, g5, g6⟩ := hL
  refine ⟨h1.trans g1, h3.trans g2, h2.trans g3, g4, ?_, ?_⟩
  · rcases g6 with g6 | g6
    · rw [g6.2]
      exact fun i x hx => by simp at hx
    · rw [(h4 (by omega)).2]
      exact g5
  · rcases g6 with g6 | g6
    · exact Or.inl g6
    · have h7 := h4 (by omega)
      refine Or.inr ⟨(h5 B (by omega)).trans g6.1, by rw [h7.1]; exact g6.2.1, by rw [h7.1]; exact g6.2.2.1, by rw [h7.1]; exact g6.2.2.2.1, fun i y hi hy => ?_⟩
      rw [h7.1] at hi
      rw [h7.2] at hy
      have g := g6.2.2.2.2 i y hi hy
      rw [h5 y (by omega)]
      exact g
section CRL
variable {X : Cx} {ρ σ : Hp} {A : Nat → Int → Nat} {c : Cs} {B : Int → Nat}
theorem CR.kd {ci : Nat} {i : Int} (h : CR X ρ σ A c B) (hr : rg c ci i) : σ.kd (A ci i) = ci + 1 := h.2.1 ci i hr
theorem CR.key {ci cj : Nat} {i j : Int} (h : CR X ρ σ A c B) (hi : rg c ci i) (hj : rg c cj j) (e : A ci i = A cj j) : ci = cj ∧ i = j := by
  have h1 := h.kd hi
  have h2 := h.kd hj
  rw [e] at h1
  have e2 : ci = cj := by omega
  subst e2
  exact ⟨rfl, h.2.2.1 ci i j hi hj e⟩
theorem CR.gi {ci k : Nat} {i : Int} (h : CR X ρ σ A c B) (hr : rg c ci i) (h3 : 3 ≤ ci) (hf : isRf ci k = false) : σ.iv (A ci i) k = i32 (c.2.1 ci k i) := h.2.2.2.1 ci k i hr h3 hf
theorem CR.gq {ci k : Nat} {i : Int} (h : CR X ρ σ A c B) (hr : rg c ci i) (h3 : 3 ≤ ci) (hf : isRf ci k = true) : σ.rv (A ci i) k = oA A (tgf ci k) (c.2.1 ci k i) := (h.2.2.2.2.1 ci k i hr h3 hf).1
theorem CR.gr {ci k : Nat} {i z : Int} (h : CR X ρ σ A c B) (hr : rg c ci i) (h3 : 3 ≤ ci) (hf : isRf ci k = true) (hz : c.2.1 ci k i = z) (hn : z ≠ -1) : σ.rv (A ci i) k = some (A (tgf ci k) z) := by
  rw [h.gq hr h3 hf, hz]
  exact if_neg hn
theorem CR.rr {ci k : Nat} {i : Int} (h : CR X ρ σ A c B) (hr : rg c ci i) (h3 : 3 ≤ ci) (hf : isRf ci k = true) : c.2.1 ci k i = -1 ∨ rg c (tgf ci k) (c.2.1 ci k i) := (h.2.2.2.2.1 ci k i hr h3 hf).2
theorem CR.ll {l : Int} (h : CR X ρ σ A c B) (h0 : 0 ≤ l) (h1 : l < c.1 2) : LL X σ (A 2 l) (B l) ((c.2.2.1 l).map (A (tel l))) := (h.2.2.2.2.2.1 l h0 h1).1
theorem CR.lm {l x : Int} (h : CR X ρ σ A c B) (h0 : 0 ≤ l) (h1 : l < c.1 2) (hx : x ∈ c.2.2.1 l) : rg c (tel l) x := (h.2.2.2.2.2.1 l h0 h1).2 x hx
theorem fgn_no {k : Nat} (h : fgn k) : ¬ (3 ≤ k ∧ k ≤ 14) ∧ k ≠ 24 ∧ k ≠ 0 := by
  unfold fgn at h
  omega
theorem CR.cap_of {τ : Hp} {l : Int} (h : CR X ρ σ A c B) (h0 : 0 ≤ l) (h1 : l < c.1 2) (hk : ∀ a, σ.kd a ≠ 0 → τ.ln a = σ.ln a) : cap X τ (B l) = cap X σ (B l) := by
  unfold cap
  split
  · rfl
  · rename_i hne
    have hL := h.ll h0 h1
    rcases hL.2.2.2.2.2 with e | e
    · exact absurd e.1 hne
    · exact hk _ (by omega)
theorem rg_put {ci k : Nat} {i x : Int} {cj : Nat} {j : Int} : rg (cput c ci k i x) cj j ↔ rg c cj j := Iff.rfl
theorem CR.put {ci k : Nat} {i x : Int} (h : CR X ρ σ A c B) (hr : rg c ci i) (h3 : 3 ≤ ci) (hf : isRf ci k = false) : CR X ρ (σ.setI (A ci i) k (i32 x)) A (cput c ci k i x) B := by
  have h9 := h
  obtain ⟨w, kd, inj, iv, rv, ll, ap, fg, rm⟩ := h
  have hk := kd ci i hr
  refine ⟨w, kd, inj, fun cj k' j hj h3' hf' => ?_, fun cj k' j hj h3' hf' => ?_, fun l h0 h1 => ⟨(ll l h0 h1).1.congr rfl ?_ rfl (fun _ => ⟨rfl, rfl⟩) (fun _ _ => rfl), (ll l h0 h1).2⟩, ap, ⟨fg.1, fun a ha => ?_⟩, rm⟩
  · show (if A cj j = A ci i ∧ k' = k then i32 x else σ.iv (A cj j) k') = i32 (if cj = ci ∧ k' = k ∧ j = i then x else c.2.1 cj k' j)
    by_cases e : A cj j = A ci i ∧ k' = k
    · have e2 := h9.key hj hr e.1
      rw [if_pos e, if_pos ⟨e2.1, e.2, e2.2⟩]
    · rw [if_neg e, if_neg (fun q => e ⟨by rw [q.1, q.2.2], q.2.1⟩)]
      exact iv cj k' j hj h3' hf'
  · have g := rv cj k' j hj h3' hf'
    have e : (cput c ci k i x).2.1 cj k' j = c.2.1 cj k' j := if_neg (fun q => by rw [q.1, q.2.1, hf] at hf'; cases hf')
    rw [e]
    exact g
  · show (if A 2 l = A ci i ∧ 2 = k then _ else _) = _
    rw [if_neg (fun q => by
      have := (h9.key ⟨⟨by decide, by decide⟩, h0, h1⟩ hr q.1).1
      omega)]
  · have g := fg.2 a ha
    refine ⟨g.1, g.2.1, g.2.2.1, ?_, g.2.2.2.2⟩
    rw [← g.2.2.2.1]
    funext j
    show (if a = A ci i ∧ j = k then _ else _) = _
    rw [if_neg (fun q => by
      have h1 := fgn_no ha
      rw [← g.2.1, q.1, hk] at h1
      have := hr.1
      omega)]
theorem CR.putq {ci k : Nat} {i x : Int} (h : CR X ρ σ A c B) (hr : rg c ci i) (h3 : 3 ≤ ci) (hf : isRf ci k = true) (hx : x = -1 ∨ rg c (tgf ci k) x) : CR X ρ (σ.setR (A ci i) k (oA A (tgf ci k) x)) A (cput c ci k i x) B := by
  have h9 := h
  obtain ⟨w, kd, inj, iv, rv, ll, ap, fg, rm⟩ := h
  have hk := kd ci i hr
  have hA : ∀ a, σ.kd a = 24 ∨ σ.kd a = 3 → ¬ a = A ci i := fun a ha e => by
    rw [e, hk] at ha
    have := hr.1
    omega
  refine ⟨w, kd, inj, fun cj k' j hj h3' hf' => ?_, fun cj k' j hj h3' hf' => ?_, fun l h0 h1 => ⟨(ll l h0 h1).1.congr rfl rfl ?_ (fun hn => ⟨rfl, ?_⟩) (fun _ _ => rfl), (ll l h0 h1).2⟩, ap, ⟨fg.1, fun a ha => ?_⟩, rm⟩
  · have e : (cput c ci k i x).2.1 cj k' j = c.2.1 cj k' j := if_neg (fun q => by rw [q.1, q.2.1, hf] at hf'; cases hf')
    rw [e]
    exact iv cj k' j hj h3' hf'
  · show (if A cj j = A ci i ∧ k' = k then oA A (tgf ci k) x else σ.rv (A cj j) k') = oA A (tgf cj k') (if cj = ci ∧ k' = k ∧ j = i then x else c.2.1 cj k' j) ∧ ((if cj = ci ∧ k' = k ∧ j = i then x else c.2.1 cj k' j) = -1 ∨ rg c (tgf cj k') (if cj = ci ∧ k' = k ∧ j = i then x else c.2.1 cj k' j))
    by_cases e : A cj j = A ci i ∧ k' = k
    · have e2 := h9.key hj hr e.1
      rw [if_pos e, if_pos ⟨e2.1, e.2, e2.2⟩, e2.1, e.2]
      exact ⟨rfl, hx⟩
    · rw [if_neg e, if_neg (fun q => e ⟨by rw [q.1, q.2.2], q.2.1⟩)]
      exact rv cj k' j hj h3' hf'
  · show (if A 2 l = A ci i ∧ 1 = k then _ else _) = _
    rw [if_neg (fun q => hA _ (Or.inr (kd 2 l ⟨⟨by decide, by decide⟩, h0, h1⟩)) q.1)]
  · funext j
    show (if B l = A ci i ∧ j = k then _ else _) = _
    rw [if_neg (fun q => by
      rcases (ll l h0 h1).1.2.2.2.2.2 with e | e
      · have := w.2.2 (B l) hn
        have := w.1
        omega
      · exact hA _ (Or.inl e.1) q.1)]
  · have g := fg.2 a ha
    refine ⟨g.1, g.2.1, g.2.2.1, g.2.2.2.1, ?_, g.2.2.2.2.2⟩
    rw [← g.2.2.2.2.1]
    funext j
    show (if a = A ci i ∧ j = k then _ else _) = _
    rw [if_neg (fun q => by
      have h1 := fgn_no ha
      rw [← g.2.1, q.1, hk] at h1
      have := hr.1
      omega)]
/-- a list's turn -/
theorem CR.list {τ : Hp} {l : Int} {B' : Nat} {ys : List Int} (h : CR X ρ σ A c B) (h0 : 0 ≤ l) (h1 : l < c.1 2) (hF : Fr X σ τ (A 2 l) (B l) B') (hL : LL X τ (A 2 l) B' (ys.map (A (tel l)))) (hy : ∀ x ∈ ys, rg c (tel l) x) : CR X ρ τ A (clst c l ys) (fun j => if j = l then B' else B j) := by
  have h9 := h
  obtain ⟨w, kd, inj, iv, rv, ll, ap, fg, rm⟩ := h
  obtain ⟨f1, f2, f3, f4, f5, f6, f7, f8⟩ := hF
  have hl2 : rg c 2 l := ⟨⟨by decide, by decide⟩, h0, h1⟩
  have hB : ∀ a, σ.kd a ≠ 0 → σ.kd a ≠ 24 → a ≠ B l := fun a ha hb e => by
    rw [e] at ha hb
    rcases (ll l h0 h1).1.2.2.2.2.2 with g | g
    · have := w.2.2 (B l) ha
      have := w.1
      omega
    · omega
  have hO : ∀ ci i, rg c ci i → 3 ≤ ci → τ.iv (A ci i) = σ.iv (A ci i) ∧ τ.rv (A ci i) = σ.rv (A ci i) := fun ci i hr h3 => by
    have hk := kd ci i hr
    have hc := hr.1
    have g := f2 (A ci i) (by omega) (fun e => by have := (h9.key hr hl2 e).1; omega) (hB _ (by omega) (by omega))
    exact ⟨g.1, g.2.1⟩
  refine ⟨f5, fun ci i hr => ?_, inj, fun ci k i hr h3 hf => ?_, fun ci k i hr h3 hf => ?_, fun j j0 j1 => ?_, fun j j' a0 a1 b0 b1 e hne => ?_, ⟨by omega, fun a ha => ?_⟩, ?_⟩
  · have hk := kd ci i hr
    rw [(f1 (A ci i) (by omega)).1]
    exact hk
  · rw [(hO ci i hr h3).1]
    exact iv ci k i hr h3 hf
  · rw [(hO ci i hr h3).2]
    exact rv ci k i hr h3 hf
  · by_cases e : j = l
    · subst e
      dsimp only
      rw [if_pos rfl]
      show LL X τ (A 2 j) B' ((if j = j then ys else c.2.2.1 j).map (A (tel j))) ∧ ∀ x ∈ (if j = j then ys else c.2.2.1 j), rg c (tel j) x
      rw [if_pos rfl]
      exact ⟨hL, hy⟩
    · dsimp only
      rw [if_neg e]
      show LL X τ (A 2 j) (B j) ((if j = l then ys else c.2.2.1 j).map (A (tel j))) ∧ ∀ x ∈ (if j = l then ys else c.2.2.1 j), rg c (tel j) x
      rw [if_neg e]
      have hj2 : rg c 2 j := ⟨⟨by decide, by decide⟩, j0, j1⟩
      have hkj := kd 2 j hj2
      have hne : A 2 j ≠ A 2 l := fun q => e (inj 2 j l hj2 hl2 q)
      have g := f2 (A 2 j) (by omega) hne (hB _ (by omega) (by omega))
      refine ⟨(ll j j0 j1).1.congr (f1 _ (by omega)).1 (by rw [g.1]) (by rw [g.2.1]) (fun hn => ?_) (fun y hy => (f1 y hy).1), (ll j j0 j1).2⟩
      have hb1 : B j ≠ B l := fun q => by
        have := ap j l j0 j1 h0 h1 q e
        have := w.2.2 (B j) hn
        have := w.1
        omega
      have hb2 : B j ≠ A 2 l := fun q => by
        rcases (ll j j0 j1).1.2.2.2.2.2 with g | g
        · have := w.2.2 (B j) hn
          have := w.1
          omega
        · have := kd 2 l hl2
          rw [← q] at this
          omega
      exact ⟨(f1 _ hn).2, (f2 (B j) hn hb2 hb1).2.1⟩
  · have hfresh : ∀ i, 0 ≤ i → i < c.1 2 → B' = B i → i ≠ l → B i = X.t0 := by
      intro i i0 i1 q hi
      rcases f3 with g | g
      · exact ap i l i0 i1 h0 h1 (q.symm.trans g) hi
      · rcases (ll i i0 i1).1.2.2.2.2.2 with g2 | g2
        · exact g2.1
        · have := (w.2.2 (B i) (by omega)).2
          omega
    dsimp only at e ⊢
    by_cases e1 : j = l
    · by_cases e2 : j' = l
      · exact absurd (e1.trans e2.symm) hne
      · rw [if_pos e1, if_neg e2] at e
        rw [if_pos e1, e]
        exact hfresh j' b0 b1 e e2
    · by_cases e2 : j' = l
      · rw [if_neg e1, if_pos e2] at e
        rw [if_neg e1]
        exact hfresh j a0 a1 e.symm e1
      · rw [if_neg e1, if_neg e2] at e
        rw [if_neg e1]
        exact ap j j' a0 a1 b0 b1 e hne
  · have g := fg.2 a ha
    have hn := fgn_no ha
    rw [← g.2.1] at hn
    have h1' := f1 a hn.2.2
    have h2' := f2 a hn.2.2 (fun e => by have := kd 2 l hl2; rw [e, this] at hn; omega) (hB a hn.2.2 hn.2.1)
    exact ⟨g.1, h1'.1.trans g.2.1, h1'.2.trans g.2.2.1, h2'.1.trans g.2.2.2.1, h2'.2.1.trans g.2.2.2.2.1, h2'.2.2.1.trans g.2.2.2.2.2.1, h2'.2.2.2.trans g.2.2.2.2.2.2⟩
  · obtain ⟨r0, r1, r2⟩ := rm
    have e1 := sF_one (f := fun j => cap X σ (B j)) (g := fun j => cap X τ (if j = l then B' else B j)) h0 (c.1 2).toNat (fun i i0 i1 hi => by
      show cap X τ (if i = l then B' else B i) = _
      rw [if_neg hi]
      exact h9.cap_of i0 (by omega) (fun a ha => (f1 a ha).2)) (by omega)
    have e2 := sF_one (f := fun j => cap X σ (B j) * cap X σ (B j)) (g := fun j => cap X τ (if j = l then B' else B j) * cap X τ (if j = l then B' else B j)) h0 (c.1 2).toNat (fun i i0 i1 hi => by
      show cap X τ (if i = l then B' else B i) * cap X τ (if i = l then B' else B i) = _
      rw [if_neg hi, h9.cap_of i0 (by omega) (fun a ha => (f1 a ha).2)]) (by omega)
    rw [if_pos rfl] at e1 e2
    refine ⟨r0, ?_, ?_⟩
    · show (τ.cl : Int) ≤ 500 + sN c + c.2.2.2 + (sF (fun j => cap X τ (if j = l then B' else B j)) (c.1 2).toNat : Nat)
      omega
    · show (τ.sl : Int) ≤ 10000 + 60 * sN c + 6 * c.2.2.2 + (sF (fun j => cap X τ (if j = l then B' else B j) * cap X τ (if j = l then B' else B j)) (c.1 2).toNat : Nat)
      omega
/-- an exception was made -/
theorem CR.exc (h : CR X ρ σ A c B) : CR X ρ σ.ex A (cexc c) B := by
  obtain ⟨w, kd, inj, iv, rv, ll, ap, fg, rm⟩ := h
  refine ⟨⟨w.1, Nat.le_succ_of_le w.2.1, fun a ha => ⟨(w.2.2 a ha).1, Nat.lt_succ_of_lt (w.2.2 a ha).2⟩⟩, kd, inj, iv, rv, ll, ap, ⟨Nat.le_succ_of_le fg.1, fg.2⟩, rm.1, ?_, ?_⟩
  · have := rm.2.1
    show ((σ.cl + 1 : Nat) : Int) ≤ 500 + sN c + (c.2.2.2 + 1) + (sF (fun l => cap X σ (B l)) (c.1 2).toNat : Nat)
    omega
  · have := rm.2.2
    show ((σ.sl + 6 : Nat) : Int) ≤ 10000 + 60 * sN c + 6 * (c.2.2.2 + 1) + (sF (fun l => cap X σ (B l) * cap X σ (B l)) (c.1 2).toNat : Nat)
    omega
end CRL
