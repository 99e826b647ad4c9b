/-! forecasts: the least free slot, the day of the last brew -/
abbrev Fs := (Int → Int) × (Int → Int)
def stf (f : Int → Int) (i x : Int) : Int → Int := fun j => if j = i then x else f j
/-- the first of the least -/
def pk (f : Int → Int) : Nat → Int
  | 0 => -1
  | n + 1 => if pk f n = -1 then (n : Int) else if f (pk f n) ≤ f (n : Int) then pk f n else (n : Int)
def fe (K : Nat) (du st : Int → Int) (s : Fs) (r : Int) : Int := s.1 (pk s.1 K) + (if s.2 (pk s.1 K) = -1 ∨ s.2 (pk s.1 K) = st r then du r else du r + 1)
def fnx (K : Nat) (du st : Int → Int) (s : Fs) (r : Int) : Fs := (stf s.1 (pk s.1 K) (fe K du st s r + 2), stf s.2 (pk s.1 K) (st r))
def mx (u e : Int) : Int := if u < e then e else u
def fcu (K : Nat) (du st : Int → Int) : List Int → Fs → Int → Int
  | [], _, u => u
  | r :: rs, s, u => fcu K du st rs (fnx K du st s r) (mx u (fe K du st s r))
theorem mx_le {u e : Int} : u ≤ mx u e ∧ e ≤ mx u e := by
  unfold mx
  split <;> omega
theorem fcu_le {K : Nat} {du st : Int → Int} : ∀ (rs : List Int) (s : Fs) (u : Int), u ≤ fcu K du st rs s u := by
  intro rs
  induction rs with
  | nil => exact fun _ _ => Int.le_refl _
  | cons r rs ih => exact fun s u => Int.le_trans mx_le.1 (ih _ _)
theorem pk_r (f : Int → Int) : ∀ n : Nat, (n = 0 ∧ pk f n = -1) ∨ (0 ≤ pk f n ∧ pk f n < (n : Int)) := by
  intro n
  induction n with
  | zero => exact Or.inl ⟨rfl, rfl⟩
  | succ n ih =>
    refine Or.inr ?_
    rw [pk]
    split
    · omega
    · split <;> omega
theorem pk_pos {f : Int → Int} {n : Nat} (h : 1 ≤ n) : 0 ≤ pk f n ∧ pk f n < (n : Int) := by
  rcases pk_r f n with ⟨h0, _⟩ | h0
  · omega
  · exact h0
theorem pk_first (f : Int → Int) : ∀ (n : Nat) (j : Int), 0 ≤ j → j < (n : Int) → f (pk f n) ≤ f j ∧ (j < pk f n → f (pk f n) < f j) := by
  intro n
  induction n with
  | zero => exact fun j h0 h1 => by omega
  | succ n ih =>
    intro j h0 h1
    have hr := pk_r f n
    rw [pk]
    by_cases c1 : pk f n = -1
    · rw [if_pos c1]
      have : n = 0 := by omega
      have : j = (n : Int) := by omega
      rw [this]
      exact ⟨Int.le_refl _, fun q => by omega⟩
    · rw [if_neg c1]
      by_cases c2 : f (pk f n) ≤ f (n : Int)
      · rw [if_pos c2]
        by_cases e : j = (n : Int)
        · rw [e]
          exact ⟨c2, fun q => by omega⟩
        · exact ih j h0 (by omega)
      · rw [if_neg c2]
        by_cases e : j = (n : Int)
        · rw [e]
          exact ⟨Int.le_refl _, fun q => by omega⟩
        · have := (ih j h0 (by omega)).1
          exact ⟨by omega, fun _ => by omega⟩
theorem pk_congr {f g : Int → Int} : ∀ n : Nat, (∀ j, 0 ≤ j → j < (n : Int) → f j = g j) → pk f n = pk g n := by
  intro n
  induction n with
  | zero => exact fun _ => rfl
  | succ n ih =>
    intro h
    have e := ih (fun j h0 h1 => h j h0 (by omega))
    rw [pk, pk, e]
    have hr := pk_r g n
    by_cases c : pk g n = -1
    · rw [if_pos c, if_pos c]
    · rw [if_neg c, if_neg c, h _ (by omega) (by omega), h (n : Int) (by omega) (by omega)]
def Eqs (K : Nat) (s t : Fs) : Prop := ∀ j, 0 ≤ j → j < (K : Int) → s.1 j = t.1 j ∧ s.2 j = t.2 j
theorem Eqs.pk1 {K : Nat} {s t : Fs} (h : Eqs K s t) : pk s.1 K = pk t.1 K := pk_congr K (fun j h0 h1 => (h j h0 h1).1)
theorem Eqs.fe1 {K : Nat} {du st : Int → Int} {s t : Fs} {r : Int} (h : Eqs K s t) (hK : 1 ≤ K) : fe K du st s r = fe K du st t r := by
  have hp := pk_pos (f := t.1) hK
  unfold fe
  rw [h.pk1, (h _ hp.1 hp.2).1, (h _ hp.1 hp.2).2]
theorem Eqs.nx1 {K : Nat} {du st : Int → Int} {s t : Fs} {r : Int} (h : Eqs K s t) (hK : 1 ≤ K) : Eqs K (fnx K du st s r) (fnx K du st t r) := by
  intro j h0 h1
  unfold fnx stf
  rw [h.fe1 hK, h.pk1]
  refine ⟨?_, ?_⟩
  · show (if j = _ then _ else s.1 j) = (if j = _ then _ else t.1 j)
    rw [(h j h0 h1).1]
  · show (if j = _ then _ else s.2 j) = (if j = _ then _ else t.2 j)
    rw [(h j h0 h1).2]
theorem Eqs.fcu1 {K : Nat} {du st : Int → Int} (hK : 1 ≤ K) : ∀ (rs : List Int) {s t : Fs} (u : Int), Eqs K s t → fcu K du st rs s u = fcu K du st rs t u := by
  intro rs
  induction rs with
  | nil => exact fun _ _ => rfl
  | cons r rs ih =>
    intro s t u h
    show fcu K du st rs _ _ = fcu K du st rs _ _
    rw [h.fe1 hK]
    exact ih _ (h.nx1 hK)
/-- how far the numbers reach -/
def Sb (K : Nat) (M : Int) (s : Fs) : Prop := ∀ j, 0 ≤ j → j < (K : Int) → (0 ≤ s.1 j ∧ s.1 j ≤ M) ∧ R32 (s.2 j)
def Db (v : Vw) : Prop := ∀ r, (0 ≤ v 13 r ∧ v 13 r ≤ 14) ∧ -5 ≤ v 12 r ∧ v 12 r ≤ 100
theorem Sb.fe1 {K : Nat} {M : Int} {s : Fs} {v : Vw} {r : Int} (h : Sb K M s) (hK : 1 ≤ K) (hD : Db v) : 0 ≤ fe K (v 13) (v 12) s r ∧ fe K (v 13) (v 12) s r ≤ M + 15 := by
  have hp := pk_pos (f := s.1) hK
  have := (h _ hp.1 hp.2).1
  have := (hD r).1
  unfold fe
  split <;> omega
theorem Sb.nx1 {K : Nat} {M : Int} {s : Fs} {v : Vw} {r : Int} (h : Sb K M s) (hK : 1 ≤ K) (hD : Db v) : Sb K (M + 17) (fnx K (v 13) (v 12) s r) := by
  intro j h0 h1
  have hf := h.fe1 (r := r) hK hD
  have hj := h j h0 h1
  have hd := (hD r).2
  unfold fnx stf
  by_cases e : j = pk s.1 K
  · show (0 ≤ (if j = _ then _ else s.1 j) ∧ (if j = _ then _ else s.1 j) ≤ _) ∧ R32 (if j = _ then _ else s.2 j)
    rw [if_pos e, if_pos e]
    exact ⟨by omega, by omega, by omega⟩
  · show (0 ≤ (if j = _ then _ else s.1 j) ∧ (if j = _ then _ else s.1 j) ≤ _) ∧ R32 (if j = _ then _ else s.2 j)
    rw [if_neg e, if_neg e]
    exact ⟨by omega, hj.2⟩
/-- the class: what a forecast changes -/
def cfs (c : Cs) : Fs := (c.2.1 10 1, c.2.1 10 2)
def FX (c c' : Cs) : Prop := c'.1 = c.1 ∧ (∀ k, k ≠ 8 → k ≠ 10 → c'.2.1 k = c.2.1 k) ∧ c'.2.1 10 0 = c.2.1 10 0 ∧ (∀ l : Int, ¬ (10 ≤ l ∧ l ≤ 12) → c'.2.2.1 l = c.2.2.1 l) ∧ c'.2.2.2 = c.2.2.2
theorem FX.refl (c : Cs) : FX c c := ⟨rfl, fun _ _ _ => rfl, rfl, fun _ _ => rfl, rfl⟩
theorem FX.trans {a b c : Cs} (h : FX a b) (k : FX b c) : FX a c := ⟨k.1.trans h.1, fun i h8 h10 => (k.2.1 i h8 h10).trans (h.2.1 i h8 h10), k.2.2.1.trans h.2.2.1, fun l hl => (k.2.2.2.1 l hl).trans (h.2.2.2.1 l hl), k.2.2.2.2.trans h.2.2.2.2⟩
theorem FX.put {c : Cs} {k : Nat} {q x : Int} (hk : k = 1 ∨ k = 2) : FX c (cput c 10 k q x) := by
  refine ⟨rfl, fun i h8 h10 => ?_, ?_, fun l hl => rfl, rfl⟩
  · funext j z
    exact cput_k c (fun e => h10 e.1)
  · funext z
    exact cput_k _ (by omega)
theorem FX.day {c : Cs} {x : Int} : FX c (cput c 8 4 0 x) := by
  refine ⟨rfl, fun i h8 h10 => ?_, ?_, fun l hl => rfl, rfl⟩
  · funext j z
    exact cput_k c (fun e => h8 e.1)
  · funext z
    exact cput_k c (fun e => absurd e.1 (by decide))
theorem FX.lst {c : Cs} {l : Int} {xs : List Int} (hl : 10 ≤ l ∧ l ≤ 12) : FX c (clst c l xs) := by
  refine ⟨rfl, fun i h8 h10 => rfl, rfl, fun j hj => clst_ne c (by omega), rfl⟩
theorem INV.fx {c c' : Cs} {v : Vw} (hN : INV c v) (h : FX c c') : INV c' v := by
  obtain ⟨⟨s0, s1, s2, s3, s4, s5, s6, s7, s8, s9, s10⟩, hR⟩ := hN
  obtain ⟨a1, a2, a3, a4, a5⟩ := h
  have b : ∀ k, k ≠ 8 → k ≠ 10 → ∀ j z, c'.2.1 k j z = c.2.1 k j z := fun k h8 h10 j z => by rw [a2 k h8 h10]
  refine ⟨⟨?_, ?_, ?_, ?_, ?_, ?_, ?_, ?_, ?_, ?_, ?_⟩, hR⟩
  · unfold S0
    rw [a1, a2 13 (by decide) (by decide)]
    exact s0
  · exact s1.fr (a4 _ (by omega)) (a2 _ (by decide) (by decide)) rfl rfl rfl rfl
  · exact s2.fr (a4 _ (by omega)) (a2 _ (by decide) (by decide)) rfl rfl rfl rfl rfl rfl
  · exact s3.fr (a4 _ (by omega)) (a2 _ (by decide) (by decide)) rfl rfl rfl rfl rfl rfl rfl
  · exact s4.fr (a4 _ (by omega)) (fun s _ _ => a4 _ (by omega)) (by rw [a2 12 (by decide) (by decide)]) (a2 _ (by decide) (by decide)) (by rw [a1]; exact Int.le_refl _) rfl rfl rfl rfl rfl rfl
  · exact s5.fr (a4 _ (by omega)) rfl rfl
  · exact s6.fr (a4 _ (by omega)) (fun o _ _ => a4 _ (by omega)) (a2 _ (by decide) (by decide)) (a2 _ (by decide) (by decide)) (by rw [a1]; exact Int.le_refl _) rfl rfl rfl rfl rfl rfl rfl
  · exact s7.fr (a4 _ (by omega)) rfl rfl
  · exact s8.fr (a4 _ (by omega)) (a2 _ (by decide) (by decide)) rfl rfl rfl rfl
  · exact s9.fr (a4 _ (by omega)) rfl rfl rfl rfl
  · exact s10.fr (a4 _ (by omega)) (by rw [a1]) a3 rfl rfl
/-- what planning a slot changes -/
def FP (c c' : Cs) : Prop := c'.1 = c.1 ∧ (∀ k, k ≠ 10 → c'.2.1 k = c.2.1 k) ∧ c'.2.1 10 0 = c.2.1 10 0 ∧ c'.2.2 = c.2.2
theorem FP.fx {c c' : Cs} (h : FP c c') : FX c c' := ⟨h.1, fun k _ h10 => h.2.1 k h10, h.2.2.1, fun l _ => by rw [h.2.2.2], by rw [h.2.2.2]⟩
theorem FP.refl (c : Cs) : FP c c := ⟨rfl, fun _ _ => rfl, rfl, rfl⟩
theorem FP.trans {a b c : Cs} (h : FP a b) (k : FP b c) : FP a c := ⟨k.1.trans h.1, fun i h10 => (k.2.1 i h10).trans (h.2.1 i h10), k.2.2.1.trans h.2.2.1, k.2.2.2.trans h.2.2.2⟩
theorem FP.put {c : Cs} {k : Nat} {q x : Int} (hk : k = 1 ∨ k = 2) : FP c (cput c 10 k q x) := by
  refine ⟨rfl, fun i h10 => ?_, ?_, rfl⟩
  · funext j z
    exact cput_k c (fun e => h10 e.1)
  · funext z
    exact cput_k _ (by omega)
def df (v : Vw) (w : Int) : Int := if v 15 w = 0 then 0 else if v 15 w = 3 then v 17 w else if v 15 w = 1 ∧ v 28 (v 16 w) = 0 then v 30 (v 16 w) + 2 else 2
theorem free_eq {c : Cs} {v : Vw} {T E w : Int} (hS : Sm c v) (hB : VB v) (hI : IM v T E) (h0 : 0 ≤ w) (h2 : w < v 2 0) : ok_X8_daysUntilFree w c ∧ g_X8_daysUntilFree w c = df v w := by
  obtain ⟨q0, q1, q2, q3, q4, q5⟩ := hS.cv.2 w h0 h2
  have u15 : 0 ≤ v 15 w ∧ v 15 w ≤ 3 := hI.2 15 w
  have r2 := cdc_r (v 15 w)
  unfold ok_X8_daysUntilFree g_X8_daysUntilFree df
  rw [q2, q5]
  have e99 : cdc (v 15 w) = 99 ↔ v 15 w = 0 := by unfold cdc; repeat' split <;> omega
  have e103 : cdc (v 15 w) = 103 ↔ v 15 w = 3 := cdc_3 u15
  by_cases c0 : v 15 w = 0
  · rw [if_pos (e99.mpr c0), if_pos (e99.mpr c0), if_pos c0]
    exact ⟨⟨⟨by omega, by omega⟩, trivial⟩, rfl⟩
  rw [if_neg (fun g => c0 (e99.mp g)), if_neg (fun g => c0 (e99.mp g)), if_neg c0]
  by_cases c3 : v 15 w = 3
  · rw [if_pos (e103.mpr c3), if_pos (e103.mpr c3), if_pos c3, q3 c3]
    exact ⟨⟨⟨by omega, by omega⟩, trivial⟩, rfl⟩
  rw [if_neg (fun g => c3 (e103.mp g)), if_neg (fun g => c3 (e103.mp g)), if_neg c3]
  by_cases c1 : v 15 w = 1
  · obtain ⟨b0, b5⟩ := hB.2.1 w h0 h2 c1
    obtain ⟨p0, p1, p2, p3, p4, p5, p6⟩ := hS.cb.2 _ b0 b5
    have r3 := phc_r (v 28 (v 16 w))
    have n1 : ¬ v 16 w = -1 := by omega
    have e102 : phc (v 28 (v 16 w)) = 102 ↔ v 28 (v 16 w) = 0 := by unfold phc; repeat' split <;> omega
    rw [if_pos c1, if_neg n1, if_neg n1, p3]
    by_cases c4 : v 28 (v 16 w) = 0
    · rw [if_pos (e102.mpr c4), if_pos ⟨c1, c4⟩, p4 (Or.inl c4)]
      exact ⟨⟨⟨by omega, by omega⟩, ⟨by omega, by omega⟩, trivial⟩, rfl⟩
    · rw [if_neg (fun g => c4 (e102.mp g)), if_neg (fun g : v 15 w = 1 ∧ v 28 (v 16 w) = 0 => c4 g.2)]
      exact ⟨⟨⟨by omega, by omega⟩, ⟨by omega, by omega⟩, trivial⟩, rfl⟩
  · rw [if_neg c1, if_pos rfl, if_pos rfl, if_neg (fun g : v 15 w = 1 ∧ v 28 (v 16 w) = 0 => c1 g.1)]
    exact ⟨⟨⟨by omega, by omega⟩, trivial⟩, rfl⟩
/-- the fermenters, in the order of their numbers -/
def WM (v : Vw) (K : Nat) (W : Int → Int) : Prop := (∀ j, 0 ≤ j → j < (K : Int) → (0 ≤ W j ∧ W j < v 2 0) ∧ v 20 (W j) = 0) ∧ (∀ i j, 0 ≤ i → i < j → j < (K : Int) → W i < W j) ∧ ∀ w, 0 ≤ w → w < v 2 0 → v 20 w = 0 → ∃ j, 0 ≤ j ∧ j < (K : Int) ∧ W j = w
theorem rng_pw (n : Int) : (rng n).Pairwise (fun a b => a < b) := by
  unfold rng
  rw [List.pairwise_map]
  exact List.pairwise_lt_range.imp (fun h => by omega)
theorem SS.wm {c : Cs} {v : Vw} (h : SS c v) (h0 : 0 ≤ c.1 10) : WM v (c.1 10).toNat (c.2.1 10 0) := by
  obtain ⟨_, h2⟩ := h
  have hK : (((c.1 10).toNat : Nat) : Int) = c.1 10 := Int.toNat_of_nonneg h0
  refine ⟨fun j j0 j1 => ?_, fun i j i0 ij j1 => ?_, fun w w0 w1 w2 => ?_⟩
  · have m : c.2.1 10 0 j ∈ (rng (c.1 10)).map (c.2.1 10 0) := List.mem_map_of_mem (rng_mem.mpr ⟨j0, by omega⟩)
    rw [h2, List.mem_filter] at m
    exact ⟨rng_mem.mp m.1, of_decide_eq_true m.2⟩
  · have p : ((rng (c.1 10)).map (c.2.1 10 0)).Pairwise (fun a b => a < b) := by
      rw [h2]
      exact (rng_pw _).filter _
    have li : i.toNat < ((rng (c.1 10)).map (c.2.1 10 0)).length := by
      have := map_len (f := c.2.1 10 0) h0
      omega
    have lj : j.toNat < ((rng (c.1 10)).map (c.2.1 10 0)).length := by
      have := map_len (f := c.2.1 10 0) h0
      omega
    have g := (List.pairwise_iff_getElem.mp p) i.toNat j.toNat li lj (by omega)
    have e : ∀ (k : Int) (hk : k.toNat < ((rng (c.1 10)).map (c.2.1 10 0)).length), 0 ≤ k → k < c.1 10 → ((rng (c.1 10)).map (c.2.1 10 0))[k.toNat] = c.2.1 10 0 k := fun k hk k0 k1 => by
      have := lget_map (f := c.2.1 10 0) k0 k1
      unfold lget at this
      rw [List.getD_eq_getElem?_getD, List.getElem?_eq_getElem hk] at this
      exact this
    rw [e i li i0 (by omega), e j lj (by omega) (by omega)] at g
    exact g
  · have m : w ∈ (rng (v 2 0)).filter (fun w => decide (v 20 w = 0)) := List.mem_filter.mpr ⟨rng_mem.mpr ⟨w0, w1⟩, decide_eq_true w2⟩
    rw [← h2, List.mem_map] at m
    obtain ⟨j, m1, m2⟩ := m
    have := rng_mem.mp m1
    exact ⟨j, this.1, by omega, m2⟩
theorem slots_le {c : Cs} {v : Vw} {T E : Int} (hN : INV c v) (hI : IM v T E) : c.1 10 ≤ 8 := by
  have n10 : 0 ≤ c.1 10 := hN.1.c0.2.1.2.2
  have u2 : 0 ≤ v 2 0 ∧ v 2 0 ≤ 8 := hI.2 2 0
  have h := congrArg List.length hN.1.cs.2
  have a := map_len (f := c.2.1 10 0) n10
  have b := List.length_filter_le (fun w => decide (v 20 w = 0)) (rng (v 2 0))
  have d := rng_len u2.1
  omega
def s0 (v : Vw) (W : Int → Int) : Fs := (fun j => v 8 0 + df v (W j), fun j => v 19 (W j))
theorem reset_lock {v : Vw} {T E : Int} (hI : IM v T E) : ∀ (n : Nat) (i : Int) (c : Cs), INV c v → 0 ≤ i → i ≤ c.1 10 → (c.1 10 - i).toNat < n →
    okl_X5_resetSlots_2 (v 8 0) n i c ∧ FP c (l_X5_resetSlots_2 (v 8 0) n i c) ∧ ∀ j, 0 ≤ j → (j < i → (l_X5_resetSlots_2 (v 8 0) n i c).2.1 10 1 j = c.2.1 10 1 j ∧ (l_X5_resetSlots_2 (v 8 0) n i c).2.1 10 2 j = c.2.1 10 2 j) ∧ (i ≤ j → j < c.1 10 → (l_X5_resetSlots_2 (v 8 0) n i c).2.1 10 1 j = v 8 0 + df v (c.2.1 10 0 j) ∧ (l_X5_resetSlots_2 (v 8 0) n i c).2.1 10 2 j = v 19 (c.2.1 10 0 j)) := by
  intro n
  induction n with
  | zero => exact fun _ _ _ _ _ h => absurd h (Nat.not_lt_zero _)
  | succ n ih =>
    intro i c hN h0 h1 hm
    have n10 : 0 ≤ c.1 10 := hN.1.c0.2.1.2.2
    have hl : ((c.2.2.1 9).length : Int) = c.1 10 := by rw [hN.1.cs.1]; exact rng_len n10
    have l9 := hN.1.cs.1
    have u2 : 0 ≤ v 2 0 ∧ v 2 0 ≤ 8 := hI.2 2 0
    have wm := hN.1.cs.wm n10
    rw [okl_X5_resetSlots_2, l_X5_resetSlots_2, hl]
    by_cases c1 : c.1 10 ≤ i
    · rw [if_pos c1, if_pos c1]
      refine ⟨⟨⟨by omega, ?_⟩, trivial⟩, FP.refl c, fun j j0 => ⟨fun _ => ⟨rfl, rfl⟩, fun a b => by omega⟩⟩
      have := slots_le hN hI
      omega
    · have b10 := slots_le hN hI
      obtain ⟨⟨w0, w1⟩, w2⟩ := wm.1 i h0 (by omega)
      obtain ⟨f1, f2⟩ := free_eq hN.1 hN.2.1 hI w0 w1
      obtain ⟨q0, q1, q2, q3, q4, q5⟩ := hN.1.cv.2 _ w0 w1
      have gr : g_X7_reset i (v 8 0) c = cput (cput c 10 1 i (v 8 0 + df v (c.2.1 10 0 i))) 10 2 i (v 19 (c.2.1 10 0 i)) := by
        unfold g_X7_reset
        rw [f2, q4]
      have fp : FP c (g_X7_reset i (v 8 0) c) := by
        rw [gr]
        exact (FP.put (Or.inl rfl)).trans (FP.put (Or.inr rfl))
      have z1 : (g_X7_reset i (v 8 0) c).2.1 10 1 i = v 8 0 + df v (c.2.1 10 0 i) ∧ (g_X7_reset i (v 8 0) c).2.1 10 2 i = v 19 (c.2.1 10 0 i) := by
        rw [gr]
        exact ⟨(cput_k _ (by decide)).trans (cput_eq _ _ _ _ _), cput_eq _ _ _ _ _⟩
      have z2 : ∀ k j, j ≠ i → (g_X7_reset i (v 8 0) c).2.1 10 k j = c.2.1 10 k j := fun k j hj => by
        rw [gr]
        exact (cput_i _ hj).trans (cput_i _ hj)
      have e10 : (g_X7_reset i (v 8 0) c).1 10 = c.1 10 := by rw [fp.1]
      rw [if_neg c1, if_neg c1, l9, lget_rng h0 (show i < c.1 10 by omega)]
      obtain ⟨j1, j2, j3⟩ := ih (i + 1) (g_X7_reset i (v 8 0) c) (hN.fx fp.fx) (by omega) (by omega) (by omega)
      refine ⟨⟨⟨by omega, by omega⟩, ⟨h0, by omega⟩, ⟨by omega, f1, trivial⟩, j1⟩, fp.trans j2, fun j j0 => ?_⟩
      obtain ⟨a1, a2⟩ := j3 j j0
      refine ⟨fun q => ?_, fun q1 q2 => ?_⟩
      · obtain ⟨b1, b2⟩ := a1 (by omega)
        exact ⟨b1.trans (z2 1 j (by omega)), b2.trans (z2 2 j (by omega))⟩
      · by_cases e : j = i
        · subst e
          obtain ⟨b1, b2⟩ := a1 (by omega)
          exact ⟨b1.trans z1.1, b2.trans z1.2⟩
        · obtain ⟨b1, b2⟩ := a2 (by omega) (by rw [e10]; exact q2)
          rw [fp.2.2.1] at b1 b2
          exact ⟨b1, b2⟩
