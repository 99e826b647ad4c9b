def v00 : Vw := fun k i => if k = 3 ∧ i = 0 then 1 else 0
/-! the counts of cells are ghosts: both sides may be shifted -/
def Hp.up (σ : Hp) (n m : Nat) : Hp := (σ.kd, σ.ln, σ.iv, σ.rv, σ.lv, σ.dv, σ.sz, σ.cl + n, σ.sl + m)
theorem Ev.shift {X : Cx} {M : Mt} {d pc : Nat} {ls : List (Option Value)} {st : List Value} {σ τ : Hp} {o : Rs} (n m : Nat) (h : Ev X M d pc ls st (σ.up n m) o (τ.up n m)) : Ev X M d pc ls st σ o τ := by
  obtain ⟨h1, h2, h3, h4⟩ := h
  have e1 : σ.cl + n ≤ τ.cl + n := h1
  have e2 : σ.sl + m ≤ τ.sl + m := h2
  refine ⟨by omega, by omega, h3, fun p l e R s m9 args below meth c H locs k0 n0 la hF hRf hRl g1 g2 g3 g4 g5 hH hlo hl => ?_⟩
  have g := h4 p l e R s m9 args below meth c H locs (k0 + n) (n0 + m) la hF hRf hRl (show k0 + n ≤ σ.cl + n by omega) (show n0 + m ≤ σ.sl + m by omega) (show τ.cl + n - (k0 + n) ≤ R.cells by omega) (show τ.sl + m - (n0 + m) ≤ R.slots by omega) g5 hH hlo hl
  have e3 : (σ.up n m).cl - (k0 + n) = σ.cl - k0 := by show σ.cl + n - (k0 + n) = _; omega
  have e4 : (σ.up n m).sl - (n0 + m) = σ.sl - n0 := by show σ.sl + m - (n0 + m) = _; omega
  have e5 : (τ.up n m).cl - (k0 + n) = τ.cl - k0 := by show τ.cl + n - (k0 + n) = _; omega
  have e6 : (τ.up n m).sl - (n0 + m) = τ.sl - n0 := by show τ.sl + m - (n0 + m) = _; omega
  rw [e3, e4, e5, e6] at g
  exact g
