/-! new objects of the class (written by wip/whole/mk28.py) -/
def upA (A : Nat → Int → Nat) (ci : Nat) (i : Int) (a : Nat) : Nat → Int → Nat := fun cj j => if cj = ci ∧ j = i then a else A cj j
section NEWS
variable {X : Cx} {ρ σ : Hp} {A : Nat → Int → Nat} {c : Cs} {B : Int → Nat}
theorem upA_old {ci cj : Nat} {j : Int} {a : Nat} (hj : rg c cj j) : upA A ci (c.1 ci) a cj j = A cj j := if_neg (fun q => by
  have := hj.2.2
  rw [q.1, q.2] at this
  omega)
theorem upA_new {ci : Nat} {a : Nat} : upA A ci (c.1 ci) a ci (c.1 ci) = a := if_pos ⟨rfl, rfl⟩
theorem Ext.new {ci : Nat} {a : Nat} : Ext c A (upA A ci (c.1 ci) a) := fun _ _ hr => upA_old hr
theorem oA_old {ci t : Nat} {a : Nat} {z : Int} (hz : z = -1 ∨ rg c t z) : oA (upA A ci (c.1 ci) a) t z = oA A t z := by
  unfold oA
  split
  · rfl
  · rename_i h
    rw [upA_old (hz.resolve_left h)]
theorem map_old {ci t : Nat} {a : Nat} {xs : List Int} (h : ∀ x ∈ xs, rg c t x) : xs.map (upA A ci (c.1 ci) a t) = xs.map (A t) := by
  induction xs with
  | nil => rfl
  | cons x xs ih =>
    show upA A ci (c.1 ci) a t x :: xs.map _ = A t x :: xs.map _
    rw [upA_old (h x List.mem_cons_self), ih (fun y hy => h y (List.mem_cons_of_mem _ hy))]
/-- which indices there are after a new one -/
theorem rg_new {ci cj : Nat} {j : Int} (hr : rg (cnew c ci) cj j) : rg c cj j ∨ (cj = ci ∧ j = c.1 ci) := by
  obtain ⟨h1, h2, h3⟩ := hr
  have h4 : j < (if cj = ci then c.1 cj + 1 else c.1 cj) := h3
  by_cases e : cj = ci
  · rw [if_pos e] at h4
    by_cases e2 : j = c.1 ci
    · exact Or.inr ⟨e, e2⟩
    · exact Or.inl ⟨h1, h2, by rw [e] at h4 ⊢; omega⟩
  · rw [if_neg e] at h4
    exact Or.inl ⟨h1, h2, h4⟩
theorem rg_old {ci cj : Nat} {j : Int} (hr : rg c cj j) : rg (cnew c ci) cj j := by
  refine ⟨hr.1, hr.2.1, ?_⟩
  have := hr.2.2
  show j < (if cj = ci then c.1 cj + 1 else c.1 cj)
  split <;> omega
theorem rg_oldl {cj : Nat} {j : Int} (hr : rg c cj j) : rg (cnewl c) cj j := rg_old (ci := 2) hr
theorem cnew_old {ci cj k : Nat} {j : Int} (hr : rg c cj j) : (cnew c ci).2.1 cj k j = c.2.1 cj k j := if_neg (fun q => by
  have := hr.2.2
  rw [q.1, q.2] at this
  omega)
theorem sN_new {ci : Nat} (h : 2 ≤ ci ∧ ci ≤ 13) : sN (cnew c ci) = sN c + 1 := by
  have : ci = 2 ∨ ci = 3 ∨ ci = 4 ∨ ci = 5 ∨ ci = 6 ∨ ci = 7 ∨ ci = 8 ∨ ci = 9 ∨ ci = 10 ∨ ci = 11 ∨ ci = 12 ∨ ci = 13 := by omega
  unfold sN cnew
  rcases this with e | e | e | e | e | e | e | e | e | e | e | e <;> subst e <;> simp <;> omega
theorem al_old {K n w a : Nat} (h : ¬ a = σ.sz) : (σ.al K n w).kd a = σ.kd a ∧ (σ.al K n w).ln a = σ.ln a ∧ (σ.al K n w).iv a = σ.iv a ∧ (σ.al K n w).rv a = σ.rv a ∧ (σ.al K n w).lv a = σ.lv a ∧ (σ.al K n w).dv a = σ.dv a := ⟨up1_ne _ _ h, up1_ne _ _ h, up1_ne _ _ h, up1_ne _ _ h, up1_ne _ _ h, up1_ne _ _ h⟩
theorem CR.new {ci N : Nat} (h : CR X ρ σ A c B) (hc : 3 ≤ ci ∧ ci ≤ 13) (hN : N ≤ 60) (hn : 0 ≤ c.1 ci) : CR X ρ (σ.al (ci + 1) 0 N) (upA A ci (c.1 ci) σ.sz) (cnew c ci) B := by
  have h9 := h
  obtain ⟨w, kd, inj, iv, rv, ll, ap, fg, rm⟩ := h
  have tr : ∀ a, σ.kd a ≠ 0 → ¬ a = σ.sz := fun a ha e => by have := (w.2.2 a ha).2; omega
  have hA : ∀ cj j, rg c cj j → σ.kd (A cj j) ≠ 0 ∧ ¬ A cj j = σ.sz := fun cj j hr => by
    have := kd cj j hr
    exact ⟨by omega, tr _ (by omega)⟩
  have w' : WF X (σ.al (ci + 1) 0 N) := w.of (fun a ha => by
    by_cases e : a = σ.sz
    · exact Or.inr ⟨by omega, by rw [e]; exact Nat.lt_succ_self _⟩
    · rw [(al_old e).1] at ha
      exact Or.inl ha) (Nat.le_succ _)
  have c2 : (cnew c ci).1 2 = c.1 2 := if_neg (by omega)
  refine ⟨w', fun cj j hr => ?_, fun cj i j hi hj e => ?_, fun cj k j hr h3 hf => ?_, fun cj k j hr h3 hf => ?_, fun l h0 h1 => ?_, fun l l' a0 a1 b0 b1 e hne => ?_, ⟨Nat.le_succ_of_le fg.1, fun a ha => ?_⟩, ?_⟩
  · rcases rg_new hr with hr | ⟨e1, e2⟩
    · rw [upA_old hr, (al_old (hA cj j hr).2).1]
      exact kd cj j hr
    · subst e1 e2
      rw [upA_new]
      exact up1_eq _ _ _
  · rcases rg_new hi with hi' | ⟨e1, e2⟩ <;> rcases rg_new hj with hj' | ⟨e3, e4⟩
    · rw [upA_old hi', upA_old hj'] at e
      exact inj cj i j hi' hj' e
    · rw [e4, e3, upA_new, ← e3, upA_old hi'] at e
      exact absurd e (hA _ _ hi').2
    · rw [e2, e1, upA_new, ← e1, upA_old hj'] at e
      exact absurd e.symm (hA _ _ hj').2
    · omega
  · rcases rg_new hr with hr | ⟨e1, e2⟩
    · rw [upA_old hr, (al_old (hA cj j hr).2).2.2.1, cnew_old hr]
      exact iv cj k j hr h3 hf
    · subst e1 e2
      rw [upA_new]
      show (up1 σ.iv σ.sz (fun _ => 0)) σ.sz k = i32 (if cj = cj ∧ c.1 cj = c.1 cj then (if isRf cj k = true then -1 else 0) else c.2.1 cj k (c.1 cj))
      rw [up1_eq, if_pos ⟨rfl, rfl⟩, hf]
      rfl
  · rcases rg_new hr with hr | ⟨e1, e2⟩
    · rw [upA_old hr, (al_old (hA cj j hr).2).2.2.2.1, cnew_old hr]
      have g := rv cj k j hr h3 hf
      exact ⟨by rw [oA_old g.2]; exact g.1, g.2.elim Or.inl (fun q => Or.inr (rg_old q))⟩
    · subst e1 e2
      rw [upA_new]
      have e : (cnew c cj).2.1 cj k (c.1 cj) = -1 := (if_pos ⟨rfl, rfl⟩).trans (if_pos hf)
      rw [e]
      refine ⟨?_, Or.inl rfl⟩
      show (up1 σ.rv σ.sz (fun _ => none)) σ.sz k = _
      rw [up1_eq]
      rfl
  · have h1' : l < c.1 2 := by rw [c2] at h1; exact h1
    have g := ll l h0 h1'
    have hl2 : rg c 2 l := ⟨⟨by decide, by decide⟩, h0, h1'⟩
    rw [upA_old hl2, show (cnew c ci).2.2.1 l = c.2.2.1 l from rfl, map_old g.2]
    have q := al_old (K := ci + 1) (n := 0) (w := N) (hA 2 l hl2).2
    exact ⟨g.1.congr q.1 (by rw [q.2.2.1]) (by rw [q.2.2.2.1]) (fun hB => ⟨(al_old (tr _ hB)).2.1, (al_old (tr _ hB)).2.2.2.1⟩) (fun y hy => (al_old (tr _ hy)).1), fun x hx => rg_old (g.2 x hx)⟩
  · rw [c2] at a1 b1
    exact ap l l' a0 a1 b0 b1 e hne
  · have g := fg.2 a ha
    have hn := fgn_no ha
    rw [← g.2.1] at hn
    have q := al_old (K := ci + 1) (n := 0) (w := N) (tr a hn.2.2)
    exact ⟨g.1, q.1.trans g.2.1, q.2.1.trans g.2.2.1, q.2.2.1.trans g.2.2.2.1, q.2.2.2.1.trans g.2.2.2.2.1, q.2.2.2.2.1.trans g.2.2.2.2.2.1, q.2.2.2.2.2.trans g.2.2.2.2.2.2⟩
  · obtain ⟨r0, r1, r2⟩ := rm
    have hc' : ∀ i, 0 ≤ i → i < (((c.1 2).toNat : Nat) : Int) → cap X (σ.al (ci + 1) 0 N) (B i) = cap X σ (B i) := fun i i0 i1 => h9.cap_of i0 (by omega) (fun a ha => (al_old (tr a ha)).2.1)
    rw [c2, sN_new (by omega), sF_congr (f := fun l => cap X σ (B l)) (g := fun l => cap X (σ.al (ci + 1) 0 N) (B l)) _ hc', sF_congr (f := fun l => cap X σ (B l) * cap X σ (B l)) (g := fun l => cap X (σ.al (ci + 1) 0 N) (B l) * cap X (σ.al (ci + 1) 0 N) (B l)) _ (fun i i0 i1 => by rw [hc' i i0 i1])]
    refine ⟨r0, ?_, ?_⟩
    · show ((σ.cl + 1 : Nat) : Int) ≤ 500 + (sN c + 1) + c.2.2.2 + _
      omega
    · show ((σ.sl + N : Nat) : Int) ≤ 10000 + 60 * (sN c + 1) + 6 * c.2.2.2 + _
      omega
/-- a new list -/
theorem CR.newl (h : CR X ρ σ A c B) : CR X ρ (((σ.al 3 0 3).setI σ.sz 0 (i32 0)).setR σ.sz 1 (some X.t0)) (upA A 2 (c.1 2) σ.sz) (cnewl c) (fun j => if j = c.1 2 then X.t0 else B j) := by
  have h9 := h
  obtain ⟨w, kd, inj, iv, rv, ll, ap, fg, rm⟩ := h
  have tr : ∀ a, σ.kd a ≠ 0 → ¬ a = σ.sz := fun a ha e => by have := (w.2.2 a ha).2; omega
  have hA : ∀ cj j, rg c cj j → σ.kd (A cj j) ≠ 0 ∧ ¬ A cj j = σ.sz := fun cj j hr => by
    have := kd cj j hr
    exact ⟨by omega, tr _ (by omega)⟩
  have old : ∀ a, ¬ a = σ.sz → (((σ.al 3 0 3).setI σ.sz 0 (i32 0)).setR σ.sz 1 (some X.t0)).kd a = σ.kd a ∧ (((σ.al 3 0 3).setI σ.sz 0 (i32 0)).setR σ.sz 1 (some X.t0)).ln a = σ.ln a ∧ (((σ.al 3 0 3).setI σ.sz 0 (i32 0)).setR σ.sz 1 (some X.t0)).iv a = σ.iv a ∧ (((σ.al 3 0 3).setI σ.sz 0 (i32 0)).setR σ.sz 1 (some X.t0)).rv a = σ.rv a ∧ (((σ.al 3 0 3).setI σ.sz 0 (i32 0)).setR σ.sz 1 (some X.t0)).lv a = σ.lv a ∧ (((σ.al 3 0 3).setI σ.sz 0 (i32 0)).setR σ.sz 1 (some X.t0)).dv a = σ.dv a := fun a ha => by
    have q := al_old (K := 3) (n := 0) (w := 3) ha
    refine ⟨q.1, q.2.1, ?_, ?_, q.2.2.2.2⟩
    · funext j
      exact (if_neg (fun e => ha e.1)).trans (congrFun q.2.2.1 j)
    · funext j
      exact (if_neg (fun e => ha e.1)).trans (congrFun q.2.2.2.1 j)
  have k1 : (((σ.al 3 0 3).setI σ.sz 0 (i32 0)).setR σ.sz 1 (some X.t0)).kd σ.sz = 3 := up1_eq _ _ _
  have i1 : (((σ.al 3 0 3).setI σ.sz 0 (i32 0)).setR σ.sz 1 (some X.t0)).iv σ.sz 2 = i32 0 := (if_neg (fun e => absurd e.2 (by decide))).trans (congrFun (up1_eq _ _ _) 2)
  have r1 : (((σ.al 3 0 3).setI σ.sz 0 (i32 0)).setR σ.sz 1 (some X.t0)).rv σ.sz 1 = some X.t0 := if_pos ⟨rfl, rfl⟩
  have s1 : (((σ.al 3 0 3).setI σ.sz 0 (i32 0)).setR σ.sz 1 (some X.t0)).sz = σ.sz + 1 := rfl
  have cl1 : (((σ.al 3 0 3).setI σ.sz 0 (i32 0)).setR σ.sz 1 (some X.t0)).cl = σ.cl + 1 := rfl
  have sl1 : (((σ.al 3 0 3).setI σ.sz 0 (i32 0)).setR σ.sz 1 (some X.t0)).sl = σ.sl + 3 := rfl
  revert old k1 i1 r1 s1 cl1 sl1
  generalize ((σ.al 3 0 3).setI σ.sz 0 (i32 0)).setR σ.sz 1 (some X.t0) = τ
  intro old k1 i1 r1 s1 cl1 sl1
  have w' : WF X τ := w.of (fun a ha => by
    by_cases e : a = σ.sz
    · exact Or.inr ⟨by omega, by omega⟩
    · rw [(old a e).1] at ha
      exact Or.inl ha) (by omega)
  have rgn : ∀ {cj : Nat} {j : Int}, rg (cnewl c) cj j → rg c cj j ∨ (cj = 2 ∧ j = c.1 2) := fun hr => rg_new (ci := 2) hr
  refine ⟨w', fun cj j hr => ?_, fun cj i j hi hj e => ?_, fun cj k j hr h3 hf => ?_, fun cj k j hr h3 hf => ?_, fun l h0 h1 => ?_, fun l l' a0 a1 b0 b1 e hne => ?_, ⟨by have := fg.1; omega, fun a ha => ?_⟩, ?_⟩
  · rcases rgn hr with hr | ⟨e1, e2⟩
    · rw [upA_old hr, (old _ (hA cj j hr).2).1]
      exact kd cj j hr
    · subst e1 e2
      rw [upA_new]
      exact k1
  · rcases rgn hi with hi' | ⟨e1, e2⟩ <;> rcases rgn hj with hj' | ⟨e3, e4⟩
    · rw [upA_old hi', upA_old hj'] at e
      exact inj cj i j hi' hj' e
    · rw [e4, e3, upA_new, ← e3, upA_old hi'] at e
      exact absurd e (hA _ _ hi').2
    · rw [e2, e1, upA_new, ← e1, upA_old hj'] at e
      exact absurd e.symm (hA _ _ hj').2
    · omega
  · rcases rgn hr with hr | ⟨e1, e2⟩
    · rw [upA_old hr, (old _ (hA cj j hr).2).2.2.1]
      exact iv cj k j hr h3 hf
    · omega
  · rcases rgn hr with hr | ⟨e1, e2⟩
    · rw [upA_old hr, (old _ (hA cj j hr).2).2.2.2.1]
      have g := rv cj k j hr h3 hf
      exact ⟨(g.1.trans (oA_old g.2).symm), g.2.elim Or.inl (fun q => Or.inr (rg_oldl q))⟩
    · omega
  · dsimp only
    by_cases e : l = c.1 2
    · rw [if_pos e]
      show LL X τ (upA A 2 (c.1 2) σ.sz 2 l) X.t0 ((if l = c.1 2 then [] else c.2.2.1 l).map _) ∧ ∀ x ∈ (if l = c.1 2 then [] else c.2.2.1 l), _
      rw [if_pos e, e, upA_new]
      exact ⟨⟨k1, r1, i1, Nat.zero_le _, fun i x hx => by simp at hx, Or.inl ⟨rfl, rfl⟩⟩, fun x hx => by simp at hx⟩
    · have h1' : l < c.1 2 := by
        have h4 : l < (if 2 = 2 then c.1 2 + 1 else c.1 2) := h1
        rw [if_pos rfl] at h4
        omega
      rw [if_neg e]
      show LL X τ (upA A 2 (c.1 2) σ.sz 2 l) (B l) ((if l = c.1 2 then [] else c.2.2.1 l).map _) ∧ ∀ x ∈ (if l = c.1 2 then [] else c.2.2.1 l), _
      have g := ll l h0 h1'
      have hl2 : rg c 2 l := ⟨⟨by decide, by decide⟩, h0, h1'⟩
      rw [if_neg e, upA_old hl2, map_old g.2]
      have q := old _ (hA 2 l hl2).2
      exact ⟨g.1.congr q.1 (by rw [q.2.2.1]) (by rw [q.2.2.2.1]) (fun hB => ⟨(old _ (tr _ hB)).2.1, (old _ (tr _ hB)).2.2.2.1⟩) (fun y hy => (old _ (tr _ hy)).1), fun x hx => rg_oldl (g.2 x hx)⟩
  · dsimp only at e ⊢
    have f : ∀ i, i < (cnewl c).1 2 → ¬ i = c.1 2 → i < c.1 2 := fun i hi hn => by
      have h4 : i < (if 2 = 2 then c.1 2 + 1 else c.1 2) := hi
      rw [if_pos rfl] at h4
      omega
    by_cases e1 : l = c.1 2
    · rw [if_pos e1]
    · rw [if_neg e1] at e ⊢
      by_cases e2 : l' = c.1 2
      · rw [if_pos e2] at e
        exact e
      · rw [if_neg e2] at e
        exact ap l l' a0 (f l a1 e1) b0 (f l' b1 e2) e hne
  · have g := fg.2 a ha
    have hn := fgn_no ha
    rw [← g.2.1] at hn
    have q := old a (tr a hn.2.2)
    exact ⟨g.1, q.1.trans g.2.1, q.2.1.trans g.2.2.1, q.2.2.1.trans g.2.2.2.1, q.2.2.2.1.trans g.2.2.2.2.1, q.2.2.2.2.1.trans g.2.2.2.2.2.1, q.2.2.2.2.2.trans g.2.2.2.2.2.2⟩
  · obtain ⟨m0, m1, m2⟩ := rm
    have hc' : ∀ i, 0 ≤ i → i < (((c.1 2).toNat : Nat) : Int) → cap X τ (if i = c.1 2 then X.t0 else B i) = cap X σ (B i) := fun i i0 i1 => by
      rw [if_neg (by omega)]
      exact h9.cap_of i0 (by omega) (fun a ha => (old a (tr a ha)).2.1)
    have c2 : ((cnewl c).1 2).toNat = (c.1 2).toNat + 1 := by
      show (if 2 = 2 then c.1 2 + 1 else c.1 2).toNat = _
      rw [if_pos rfl]
      omega
    have last : (((c.1 2).toNat : Nat) : Int) = c.1 2 := by omega
    have z : cap X τ (if (((c.1 2).toNat : Nat) : Int) = c.1 2 then X.t0 else B (((c.1 2).toNat : Nat) : Int)) = 0 := by
      rw [if_pos last]
      exact cap_0
    have e1 : sF (fun l => cap X τ (if l = c.1 2 then X.t0 else B l)) ((cnewl c).1 2).toNat = sF (fun l => cap X σ (B l)) (c.1 2).toNat := by
      rw [c2]
      show sF (fun l => cap X τ (if l = c.1 2 then X.t0 else B l)) (c.1 2).toNat + cap X τ (if (((c.1 2).toNat : Nat) : Int) = c.1 2 then X.t0 else B (((c.1 2).toNat : Nat) : Int)) = _
      rw [z, sF_congr (f := fun l => cap X σ (B l)) _ hc']
      rfl
    have e2 : sF (fun l => cap X τ (if l = c.1 2 then X.t0 else B l) * cap X τ (if l = c.1 2 then X.t0 else B l)) ((cnewl c).1 2).toNat = sF (fun l => cap X σ (B l) * cap X σ (B l)) (c.1 2).toNat := by
      rw [c2]
      show sF (fun l => cap X τ (if l = c.1 2 then X.t0 else B l) * cap X τ (if l = c.1 2 then X.t0 else B l)) (c.1 2).toNat + cap X τ (if (((c.1 2).toNat : Nat) : Int) = c.1 2 then X.t0 else B (((c.1 2).toNat : Nat) : Int)) * cap X τ (if (((c.1 2).toNat : Nat) : Int) = c.1 2 then X.t0 else B (((c.1 2).toNat : Nat) : Int)) = _
      rw [z, sF_congr (f := fun l => cap X σ (B l) * cap X σ (B l)) _ (fun i i0 i1 => by rw [hc' i i0 i1])]
      rfl
    have sn : sN (cnewl c) = sN c + 1 := sN_new (ci := 2) (by omega)
    have e3 : (cnewl c).2.2.2 = c.2.2.2 := rfl
    refine ⟨by show 0 ≤ (if 2 = 2 then c.1 2 + 1 else c.1 2); rw [if_pos rfl]; omega, ?_, ?_⟩
    · rw [sn, e3]
      have : ((sF (fun l => cap X τ ((fun j => if j = c.1 2 then X.t0 else B j) l)) ((cnewl c).1 2).toNat : Nat) : Int) = _ := congrArg Nat.cast e1
      omega
    · rw [sn, e3]
      have : ((sF (fun l => cap X τ ((fun j => if j = c.1 2 then X.t0 else B j) l) * cap X τ ((fun j => if j = c.1 2 then X.t0 else B j) l)) ((cnewl c).1 2).toNat : Nat) : Int) = _ := congrArg Nat.cast e2
      omega
end NEWS
